section
-- ===== PART A: goes FIRST, ahead of the names: the tables' words, and 'selects' of the private methods out of them =====
/-- a private method of a class that the tables say can be made, by its rows of tables_1 -/
def lw_okq (q : MethodName × Nat) : Prop := (q.1.cls ≠ "java/lang/invoke/MethodHandle" ∧ q.1.cls ≠ "java/lang/invoke/VarHandle") ∧ Cond.instantiable q.1.cls q.2 ∈ tables_1 ∧ Cond.privateMethod q.1 ∈ tables_1 ∧ Cond.instanceMethod q.1 ∈ tables_1
theorem lw_p0 : lw_okq (⟨"SpanLinker$SourceModule", "mayStandInSection", "(I)Z"⟩, 13) := ⟨⟨by decide +kernel, by decide +kernel⟩, List.mem_of_getElem? (i := 22) (by decide +kernel), List.mem_of_getElem? (i := 242) (by decide +kernel), List.mem_of_getElem? (i := 243) (by decide +kernel)⟩
theorem lw_p1 : lw_okq (⟨"SpanLinker$SourceModule", "currentSection", "()I"⟩, 13) := ⟨⟨by decide +kernel, by decide +kernel⟩, List.mem_of_getElem? (i := 22) (by decide +kernel), List.mem_of_getElem? (i := 246) (by decide +kernel), List.mem_of_getElem? (i := 247) (by decide +kernel)⟩
theorem lw_p2 : lw_okq (⟨"SpanLinker$SourceModule", "isSaidTwice", "(II)Z"⟩, 13) := ⟨⟨by decide +kernel, by decide +kernel⟩, List.mem_of_getElem? (i := 22) (by decide +kernel), List.mem_of_getElem? (i := 250) (by decide +kernel), List.mem_of_getElem? (i := 251) (by decide +kernel)⟩
theorem lw_p3 : lw_okq (⟨"SpanLinker$SourceModule", "noteName", "(II)V"⟩, 13) := ⟨⟨by decide +kernel, by decide +kernel⟩, List.mem_of_getElem? (i := 22) (by decide +kernel), List.mem_of_getElem? (i := 264) (by decide +kernel), List.mem_of_getElem? (i := 265) (by decide +kernel)⟩
theorem lw_p4 : lw_okq (⟨"SpanLinker$SourceModule", "settleJumps", "()V"⟩, 13) := ⟨⟨by decide +kernel, by decide +kernel⟩, List.mem_of_getElem? (i := 22) (by decide +kernel), List.mem_of_getElem? (i := 271) (by decide +kernel), List.mem_of_getElem? (i := 272) (by decide +kernel)⟩
theorem lw_p5 : lw_okq (⟨"SpanLinker$SourceModule", "aimsAtOwnText", "(I)Z"⟩, 13) := ⟨⟨by decide +kernel, by decide +kernel⟩, List.mem_of_getElem? (i := 22) (by decide +kernel), List.mem_of_getElem? (i := 275) (by decide +kernel), List.mem_of_getElem? (i := 276) (by decide +kernel)⟩
theorem lw_p6 : lw_okq (⟨"SpanLinker$SourceModule", "placeWords", "()V"⟩, 13) := ⟨⟨by decide +kernel, by decide +kernel⟩, List.mem_of_getElem? (i := 22) (by decide +kernel), List.mem_of_getElem? (i := 279) (by decide +kernel), List.mem_of_getElem? (i := 280) (by decide +kernel)⟩
theorem lw_p7 : lw_okq (⟨"SpanLinker$SourceModule", "wordsOf", "(I)I"⟩, 13) := ⟨⟨by decide +kernel, by decide +kernel⟩, List.mem_of_getElem? (i := 22) (by decide +kernel), List.mem_of_getElem? (i := 283) (by decide +kernel), List.mem_of_getElem? (i := 284) (by decide +kernel)⟩
theorem lw_p8 : lw_okq (⟨"SpanLinker$SourceModule", "lengthenFarJumps", "()Z"⟩, 13) := ⟨⟨by decide +kernel, by decide +kernel⟩, List.mem_of_getElem? (i := 22) (by decide +kernel), List.mem_of_getElem? (i := 287) (by decide +kernel), List.mem_of_getElem? (i := 288) (by decide +kernel)⟩
theorem lw_p9 : lw_okq (⟨"SpanLinker", "mayStandBefore", "(II)Z"⟩, 6) := ⟨⟨by decide +kernel, by decide +kernel⟩, List.mem_of_getElem? (i := 10) (by decide +kernel), List.mem_of_getElem? (i := 332) (by decide +kernel), List.mem_of_getElem? (i := 333) (by decide +kernel)⟩
theorem lw_p10 : lw_okq (⟨"SpanLinker", "isFreeModule", "(I)Z"⟩, 6) := ⟨⟨by decide +kernel, by decide +kernel⟩, List.mem_of_getElem? (i := 10) (by decide +kernel), List.mem_of_getElem? (i := 366) (by decide +kernel), List.mem_of_getElem? (i := 367) (by decide +kernel)⟩
theorem lw_p11 : lw_okq (⟨"SpanLinker$Inclusion", "search", "(LSpanLinker$Row;)V"⟩, 6) := ⟨⟨by decide +kernel, by decide +kernel⟩, List.mem_of_getElem? (i := 70) (by decide +kernel), List.mem_of_getElem? (i := 402) (by decide +kernel), List.mem_of_getElem? (i := 403) (by decide +kernel)⟩
theorem lw_p12 : lw_okq (⟨"SpanLinker$Inclusion", "includeWantedMembers", "(LSpanLinker$Row;)Z"⟩, 6) := ⟨⟨by decide +kernel, by decide +kernel⟩, List.mem_of_getElem? (i := 70) (by decide +kernel), List.mem_of_getElem? (i := 406) (by decide +kernel), List.mem_of_getElem? (i := 407) (by decide +kernel)⟩
theorem lw_p13 : lw_okq (⟨"SpanLinker$Inclusion", "exportsWantedName", "(I)Z"⟩, 6) := ⟨⟨by decide +kernel, by decide +kernel⟩, List.mem_of_getElem? (i := 70) (by decide +kernel), List.mem_of_getElem? (i := 411) (by decide +kernel), List.mem_of_getElem? (i := 412) (by decide +kernel)⟩
theorem lw_p14 : lw_okq (⟨"SpanLinker$Inclusion", "include", "(I)V"⟩, 6) := ⟨⟨by decide +kernel, by decide +kernel⟩, List.mem_of_getElem? (i := 70) (by decide +kernel), List.mem_of_getElem? (i := 423) (by decide +kernel), List.mem_of_getElem? (i := 424) (by decide +kernel)⟩
theorem lw_p15 : lw_okq (⟨"SpanLinker$Image", "layOutSections", "()V"⟩, 10) := ⟨⟨by decide +kernel, by decide +kernel⟩, List.mem_of_getElem? (i := 110) (by decide +kernel), List.mem_of_getElem? (i := 445) (by decide +kernel), List.mem_of_getElem? (i := 446) (by decide +kernel)⟩
def lw_privs_1 : List (MethodName × Nat) := [(⟨"SpanLinker$SourceModule", "mayStandInSection", "(I)Z"⟩, 13), (⟨"SpanLinker$SourceModule", "currentSection", "()I"⟩, 13), (⟨"SpanLinker$SourceModule", "isSaidTwice", "(II)Z"⟩, 13), (⟨"SpanLinker$SourceModule", "noteName", "(II)V"⟩, 13), (⟨"SpanLinker$SourceModule", "settleJumps", "()V"⟩, 13), (⟨"SpanLinker$SourceModule", "aimsAtOwnText", "(I)Z"⟩, 13), (⟨"SpanLinker$SourceModule", "placeWords", "()V"⟩, 13), (⟨"SpanLinker$SourceModule", "wordsOf", "(I)I"⟩, 13), (⟨"SpanLinker$SourceModule", "lengthenFarJumps", "()Z"⟩, 13), (⟨"SpanLinker", "mayStandBefore", "(II)Z"⟩, 6), (⟨"SpanLinker", "isFreeModule", "(I)Z"⟩, 6), (⟨"SpanLinker$Inclusion", "search", "(LSpanLinker$Row;)V"⟩, 6), (⟨"SpanLinker$Inclusion", "includeWantedMembers", "(LSpanLinker$Row;)Z"⟩, 6), (⟨"SpanLinker$Inclusion", "exportsWantedName", "(I)Z"⟩, 6), (⟨"SpanLinker$Inclusion", "include", "(I)V"⟩, 6), (⟨"SpanLinker$Image", "layOutSections", "()V"⟩, 10)]
theorem lw_r1 : ∀ q ∈ lw_privs_1, lw_okq q := List.forall_mem_cons.mpr ⟨lw_p0, List.forall_mem_cons.mpr ⟨lw_p1, List.forall_mem_cons.mpr ⟨lw_p2, List.forall_mem_cons.mpr ⟨lw_p3, List.forall_mem_cons.mpr ⟨lw_p4, List.forall_mem_cons.mpr ⟨lw_p5, List.forall_mem_cons.mpr ⟨lw_p6, List.forall_mem_cons.mpr ⟨lw_p7, List.forall_mem_cons.mpr ⟨lw_p8, List.forall_mem_cons.mpr ⟨lw_p9, List.forall_mem_cons.mpr ⟨lw_p10, List.forall_mem_cons.mpr ⟨lw_p11, List.forall_mem_cons.mpr ⟨lw_p12, List.forall_mem_cons.mpr ⟨lw_p13, List.forall_mem_cons.mpr ⟨lw_p14, List.forall_mem_cons.mpr ⟨lw_p15, fun _ h => absurd h List.not_mem_nil⟩⟩⟩⟩⟩⟩⟩⟩⟩⟩⟩⟩⟩⟩⟩⟩
theorem lw_p16 : lw_okq (⟨"SpanLinker$Image", "layOutCommons", "()V"⟩, 10) := ⟨⟨by decide +kernel, by decide +kernel⟩, List.mem_of_getElem? (i := 110) (by decide +kernel), List.mem_of_getElem? (i := 458) (by decide +kernel), List.mem_of_getElem? (i := 459) (by decide +kernel)⟩
theorem lw_p17 : lw_okq (⟨"SpanLinker$Image", "largestCommon", "(I)I"⟩, 10) := ⟨⟨by decide +kernel, by decide +kernel⟩, List.mem_of_getElem? (i := 110) (by decide +kernel), List.mem_of_getElem? (i := 467) (by decide +kernel), List.mem_of_getElem? (i := 468) (by decide +kernel)⟩
theorem lw_p18 : lw_okq (⟨"SpanLinker$Image", "noteExports", "(I)V"⟩, 10) := ⟨⟨by decide +kernel, by decide +kernel⟩, List.mem_of_getElem? (i := 110) (by decide +kernel), List.mem_of_getElem? (i := 478) (by decide +kernel), List.mem_of_getElem? (i := 479) (by decide +kernel)⟩
theorem lw_p19 : lw_okq (⟨"SpanLinker$Image", "standsFor", "(II)I"⟩, 10) := ⟨⟨by decide +kernel, by decide +kernel⟩, List.mem_of_getElem? (i := 110) (by decide +kernel), List.mem_of_getElem? (i := 484) (by decide +kernel), List.mem_of_getElem? (i := 485) (by decide +kernel)⟩
theorem lw_p20 : lw_okq (⟨"SpanLinker$Image", "addressOf", "(II)I"⟩, 10) := ⟨⟨by decide +kernel, by decide +kernel⟩, List.mem_of_getElem? (i := 110) (by decide +kernel), List.mem_of_getElem? (i := 504) (by decide +kernel), List.mem_of_getElem? (i := 505) (by decide +kernel)⟩
theorem lw_p21 : lw_okq (⟨"SpanLinker$Image", "makeWordsZero", "()V"⟩, 10) := ⟨⟨by decide +kernel, by decide +kernel⟩, List.mem_of_getElem? (i := 110) (by decide +kernel), List.mem_of_getElem? (i := 516) (by decide +kernel), List.mem_of_getElem? (i := 517) (by decide +kernel)⟩
theorem lw_p22 : lw_okq (⟨"SpanLinker$Image", "writeModule", "(I)V"⟩, 10) := ⟨⟨by decide +kernel, by decide +kernel⟩, List.mem_of_getElem? (i := 110) (by decide +kernel), List.mem_of_getElem? (i := 520) (by decide +kernel), List.mem_of_getElem? (i := 521) (by decide +kernel)⟩
theorem lw_p23 : lw_okq (⟨"SpanLinker$Image", "writeJump", "(III)V"⟩, 10) := ⟨⟨by decide +kernel, by decide +kernel⟩, List.mem_of_getElem? (i := 110) (by decide +kernel), List.mem_of_getElem? (i := 535) (by decide +kernel), List.mem_of_getElem? (i := 536) (by decide +kernel)⟩
theorem lw_p24 : lw_okq (⟨"SpanLinker$Machine", "doStep", "()V"⟩, 13) := ⟨⟨by decide +kernel, by decide +kernel⟩, List.mem_of_getElem? (i := 149) (by decide +kernel), List.mem_of_getElem? (i := 633) (by decide +kernel), List.mem_of_getElem? (i := 634) (by decide +kernel)⟩
theorem lw_p25 : lw_okq (⟨"SpanLinker$Machine", "isInside", "(I)Z"⟩, 13) := ⟨⟨by decide +kernel, by decide +kernel⟩, List.mem_of_getElem? (i := 149) (by decide +kernel), List.mem_of_getElem? (i := 637) (by decide +kernel), List.mem_of_getElem? (i := 638) (by decide +kernel)⟩
theorem lw_p26 : lw_okq (⟨"SpanLinker$Machine", "doTwoWords", "(II)V"⟩, 13) := ⟨⟨by decide +kernel, by decide +kernel⟩, List.mem_of_getElem? (i := 149) (by decide +kernel), List.mem_of_getElem? (i := 645) (by decide +kernel), List.mem_of_getElem? (i := 646) (by decide +kernel)⟩
theorem lw_p27 : lw_okq (⟨"SpanLinker$Machine", "mayTouch", "(II)Z"⟩, 13) := ⟨⟨by decide +kernel, by decide +kernel⟩, List.mem_of_getElem? (i := 149) (by decide +kernel), List.mem_of_getElem? (i := 649) (by decide +kernel), List.mem_of_getElem? (i := 650) (by decide +kernel)⟩
theorem lw_p28 : lw_okq (⟨"SpanLinker$Machine", "conditionHolds", "(I)Z"⟩, 13) := ⟨⟨by decide +kernel, by decide +kernel⟩, List.mem_of_getElem? (i := 149) (by decide +kernel), List.mem_of_getElem? (i := 654) (by decide +kernel), List.mem_of_getElem? (i := 655) (by decide +kernel)⟩
theorem lw_p29 : lw_okq (⟨"SpanLinker$Machine", "doOneWord", "(II)V"⟩, 13) := ⟨⟨by decide +kernel, by decide +kernel⟩, List.mem_of_getElem? (i := 149) (by decide +kernel), List.mem_of_getElem? (i := 659) (by decide +kernel), List.mem_of_getElem? (i := 660) (by decide +kernel)⟩
theorem lw_p30 : lw_okq (⟨"SpanLinker$Machine", "putOutA", "()V"⟩, 13) := ⟨⟨by decide +kernel, by decide +kernel⟩, List.mem_of_getElem? (i := 149) (by decide +kernel), List.mem_of_getElem? (i := 666) (by decide +kernel), List.mem_of_getElem? (i := 667) (by decide +kernel)⟩
theorem lw_p31 : lw_okq (⟨"SpanLinker$Machine", "nextOfTape", "()I"⟩, 13) := ⟨⟨by decide +kernel, by decide +kernel⟩, List.mem_of_getElem? (i := 149) (by decide +kernel), List.mem_of_getElem? (i := 670) (by decide +kernel), List.mem_of_getElem? (i := 671) (by decide +kernel)⟩
def lw_privs_2 : List (MethodName × Nat) := [(⟨"SpanLinker$Image", "layOutCommons", "()V"⟩, 10), (⟨"SpanLinker$Image", "largestCommon", "(I)I"⟩, 10), (⟨"SpanLinker$Image", "noteExports", "(I)V"⟩, 10), (⟨"SpanLinker$Image", "standsFor", "(II)I"⟩, 10), (⟨"SpanLinker$Image", "addressOf", "(II)I"⟩, 10), (⟨"SpanLinker$Image", "makeWordsZero", "()V"⟩, 10), (⟨"SpanLinker$Image", "writeModule", "(I)V"⟩, 10), (⟨"SpanLinker$Image", "writeJump", "(III)V"⟩, 10), (⟨"SpanLinker$Machine", "doStep", "()V"⟩, 13), (⟨"SpanLinker$Machine", "isInside", "(I)Z"⟩, 13), (⟨"SpanLinker$Machine", "doTwoWords", "(II)V"⟩, 13), (⟨"SpanLinker$Machine", "mayTouch", "(II)Z"⟩, 13), (⟨"SpanLinker$Machine", "conditionHolds", "(I)Z"⟩, 13), (⟨"SpanLinker$Machine", "doOneWord", "(II)V"⟩, 13), (⟨"SpanLinker$Machine", "putOutA", "()V"⟩, 13), (⟨"SpanLinker$Machine", "nextOfTape", "()I"⟩, 13)]
theorem lw_r2 : ∀ q ∈ lw_privs_2, lw_okq q := List.forall_mem_cons.mpr ⟨lw_p16, List.forall_mem_cons.mpr ⟨lw_p17, List.forall_mem_cons.mpr ⟨lw_p18, List.forall_mem_cons.mpr ⟨lw_p19, List.forall_mem_cons.mpr ⟨lw_p20, List.forall_mem_cons.mpr ⟨lw_p21, List.forall_mem_cons.mpr ⟨lw_p22, List.forall_mem_cons.mpr ⟨lw_p23, List.forall_mem_cons.mpr ⟨lw_p24, List.forall_mem_cons.mpr ⟨lw_p25, List.forall_mem_cons.mpr ⟨lw_p26, List.forall_mem_cons.mpr ⟨lw_p27, List.forall_mem_cons.mpr ⟨lw_p28, List.forall_mem_cons.mpr ⟨lw_p29, List.forall_mem_cons.mpr ⟨lw_p30, List.forall_mem_cons.mpr ⟨lw_p31, fun _ h => absurd h List.not_mem_nil⟩⟩⟩⟩⟩⟩⟩⟩⟩⟩⟩⟩⟩⟩⟩⟩
theorem lw_p32 : lw_okq (⟨"SpanLinker$Machine", "latestWord", "(I)I"⟩, 13) := ⟨⟨by decide +kernel, by decide +kernel⟩, List.mem_of_getElem? (i := 149) (by decide +kernel), List.mem_of_getElem? (i := 682) (by decide +kernel), List.mem_of_getElem? (i := 683) (by decide +kernel)⟩
theorem lw_p33 : lw_okq (⟨"SpanLinkerModel", "module", "(I)Z"⟩, 32) := ⟨⟨by decide +kernel, by decide +kernel⟩, List.mem_of_getElem? (i := 694) (by decide +kernel), List.mem_of_getElem? (i := 801) (by decide +kernel), List.mem_of_getElem? (i := 802) (by decide +kernel)⟩
theorem lw_p34 : lw_okq (⟨"SpanLinkerModel", "fits", "(III)Z"⟩, 32) := ⟨⟨by decide +kernel, by decide +kernel⟩, List.mem_of_getElem? (i := 694) (by decide +kernel), List.mem_of_getElem? (i := 805) (by decide +kernel), List.mem_of_getElem? (i := 806) (by decide +kernel)⟩
theorem lw_p35 : lw_okq (⟨"SpanLinkerModel", "name", "(I)Z"⟩, 32) := ⟨⟨by decide +kernel, by decide +kernel⟩, List.mem_of_getElem? (i := 694) (by decide +kernel), List.mem_of_getElem? (i := 809) (by decide +kernel), List.mem_of_getElem? (i := 810) (by decide +kernel)⟩
theorem lw_p36 : lw_okq (⟨"SpanLinkerModel", "isWord", "(I)Z"⟩, 32) := ⟨⟨by decide +kernel, by decide +kernel⟩, List.mem_of_getElem? (i := 694) (by decide +kernel), List.mem_of_getElem? (i := 813) (by decide +kernel), List.mem_of_getElem? (i := 814) (by decide +kernel)⟩
theorem lw_p37 : lw_okq (⟨"SpanLinkerModel", "definition", "(II)I"⟩, 32) := ⟨⟨by decide +kernel, by decide +kernel⟩, List.mem_of_getElem? (i := 694) (by decide +kernel), List.mem_of_getElem? (i := 818) (by decide +kernel), List.mem_of_getElem? (i := 819) (by decide +kernel)⟩
theorem lw_p38 : lw_okq (⟨"SpanLinkerModel", "common", "(II)I"⟩, 32) := ⟨⟨by decide +kernel, by decide +kernel⟩, List.mem_of_getElem? (i := 694) (by decide +kernel), List.mem_of_getElem? (i := 822) (by decide +kernel), List.mem_of_getElem? (i := 823) (by decide +kernel)⟩
theorem lw_p39 : lw_okq (⟨"SpanLinkerModel", "settle", "(I)V"⟩, 32) := ⟨⟨by decide +kernel, by decide +kernel⟩, List.mem_of_getElem? (i := 694) (by decide +kernel), List.mem_of_getElem? (i := 826) (by decide +kernel), List.mem_of_getElem? (i := 827) (by decide +kernel)⟩
theorem lw_p40 : lw_okq (⟨"SpanLinkerModel", "distance", "(II)I"⟩, 32) := ⟨⟨by decide +kernel, by decide +kernel⟩, List.mem_of_getElem? (i := 694) (by decide +kernel), List.mem_of_getElem? (i := 830) (by decide +kernel), List.mem_of_getElem? (i := 831) (by decide +kernel)⟩
theorem lw_p41 : lw_okq (⟨"SpanLinkerModel", "place", "(III)I"⟩, 32) := ⟨⟨by decide +kernel, by decide +kernel⟩, List.mem_of_getElem? (i := 694) (by decide +kernel), List.mem_of_getElem? (i := 834) (by decide +kernel), List.mem_of_getElem? (i := 835) (by decide +kernel)⟩
theorem lw_p42 : lw_okq (⟨"SpanLinkerModel", "width", "(I)I"⟩, 32) := ⟨⟨by decide +kernel, by decide +kernel⟩, List.mem_of_getElem? (i := 694) (by decide +kernel), List.mem_of_getElem? (i := 838) (by decide +kernel), List.mem_of_getElem? (i := 839) (by decide +kernel)⟩
theorem lw_p43 : lw_okq (⟨"SpanLinkerModel", "onLine", "(I)Z"⟩, 32) := ⟨⟨by decide +kernel, by decide +kernel⟩, List.mem_of_getElem? (i := 694) (by decide +kernel), List.mem_of_getElem? (i := 858) (by decide +kernel), List.mem_of_getElem? (i := 859) (by decide +kernel)⟩
theorem lw_p44 : lw_okq (⟨"SpanLinkerModel", "inArchive", "(I)I"⟩, 32) := ⟨⟨by decide +kernel, by decide +kernel⟩, List.mem_of_getElem? (i := 694) (by decide +kernel), List.mem_of_getElem? (i := 862) (by decide +kernel), List.mem_of_getElem? (i := 863) (by decide +kernel)⟩
theorem lw_p45 : lw_okq (⟨"SpanLinkerModel", "goOver", "()V"⟩, 32) := ⟨⟨by decide +kernel, by decide +kernel⟩, List.mem_of_getElem? (i := 694) (by decide +kernel), List.mem_of_getElem? (i := 887) (by decide +kernel), List.mem_of_getElem? (i := 888) (by decide +kernel)⟩
theorem lw_p46 : lw_okq (⟨"SpanLinkerModel", "isIn", "(I)Z"⟩, 32) := ⟨⟨by decide +kernel, by decide +kernel⟩, List.mem_of_getElem? (i := 694) (by decide +kernel), List.mem_of_getElem? (i := 891) (by decide +kernel), List.mem_of_getElem? (i := 892) (by decide +kernel)⟩
theorem lw_p47 : lw_okq (⟨"SpanLinkerModel", "helps", "(I)Z"⟩, 32) := ⟨⟨by decide +kernel, by decide +kernel⟩, List.mem_of_getElem? (i := 694) (by decide +kernel), List.mem_of_getElem? (i := 895) (by decide +kernel), List.mem_of_getElem? (i := 896) (by decide +kernel)⟩
def lw_privs_3 : List (MethodName × Nat) := [(⟨"SpanLinker$Machine", "latestWord", "(I)I"⟩, 13), (⟨"SpanLinkerModel", "module", "(I)Z"⟩, 32), (⟨"SpanLinkerModel", "fits", "(III)Z"⟩, 32), (⟨"SpanLinkerModel", "name", "(I)Z"⟩, 32), (⟨"SpanLinkerModel", "isWord", "(I)Z"⟩, 32), (⟨"SpanLinkerModel", "definition", "(II)I"⟩, 32), (⟨"SpanLinkerModel", "common", "(II)I"⟩, 32), (⟨"SpanLinkerModel", "settle", "(I)V"⟩, 32), (⟨"SpanLinkerModel", "distance", "(II)I"⟩, 32), (⟨"SpanLinkerModel", "place", "(III)I"⟩, 32), (⟨"SpanLinkerModel", "width", "(I)I"⟩, 32), (⟨"SpanLinkerModel", "onLine", "(I)Z"⟩, 32), (⟨"SpanLinkerModel", "inArchive", "(I)I"⟩, 32), (⟨"SpanLinkerModel", "goOver", "()V"⟩, 32), (⟨"SpanLinkerModel", "isIn", "(I)Z"⟩, 32), (⟨"SpanLinkerModel", "helps", "(I)Z"⟩, 32)]
theorem lw_r3 : ∀ q ∈ lw_privs_3, lw_okq q := List.forall_mem_cons.mpr ⟨lw_p32, List.forall_mem_cons.mpr ⟨lw_p33, List.forall_mem_cons.mpr ⟨lw_p34, List.forall_mem_cons.mpr ⟨lw_p35, List.forall_mem_cons.mpr ⟨lw_p36, List.forall_mem_cons.mpr ⟨lw_p37, List.forall_mem_cons.mpr ⟨lw_p38, List.forall_mem_cons.mpr ⟨lw_p39, List.forall_mem_cons.mpr ⟨lw_p40, List.forall_mem_cons.mpr ⟨lw_p41, List.forall_mem_cons.mpr ⟨lw_p42, List.forall_mem_cons.mpr ⟨lw_p43, List.forall_mem_cons.mpr ⟨lw_p44, List.forall_mem_cons.mpr ⟨lw_p45, List.forall_mem_cons.mpr ⟨lw_p46, List.forall_mem_cons.mpr ⟨lw_p47, fun _ h => absurd h List.not_mem_nil⟩⟩⟩⟩⟩⟩⟩⟩⟩⟩⟩⟩⟩⟩⟩⟩
theorem lw_p48 : lw_okq (⟨"SpanLinkerModel", "exports", "(II)Z"⟩, 32) := ⟨⟨by decide +kernel, by decide +kernel⟩, List.mem_of_getElem? (i := 694) (by decide +kernel), List.mem_of_getElem? (i := 899) (by decide +kernel), List.mem_of_getElem? (i := 900) (by decide +kernel)⟩
theorem lw_p49 : lw_okq (⟨"SpanLinkerModel", "global", "(II)Z"⟩, 32) := ⟨⟨by decide +kernel, by decide +kernel⟩, List.mem_of_getElem? (i := 694) (by decide +kernel), List.mem_of_getElem? (i := 903) (by decide +kernel), List.mem_of_getElem? (i := 904) (by decide +kernel)⟩
theorem lw_p50 : lw_okq (⟨"SpanLinkerModel", "wanted", "(I)Z"⟩, 32) := ⟨⟨by decide +kernel, by decide +kernel⟩, List.mem_of_getElem? (i := 694) (by decide +kernel), List.mem_of_getElem? (i := 907) (by decide +kernel), List.mem_of_getElem? (i := 908) (by decide +kernel)⟩
theorem lw_p51 : lw_okq (⟨"SpanLinkerModel", "refers", "(II)Z"⟩, 32) := ⟨⟨by decide +kernel, by decide +kernel⟩, List.mem_of_getElem? (i := 694) (by decide +kernel), List.mem_of_getElem? (i := 911) (by decide +kernel), List.mem_of_getElem? (i := 912) (by decide +kernel)⟩
theorem lw_p52 : lw_okq (⟨"SpanLinkerModel", "exporters", "(I)I"⟩, 32) := ⟨⟨by decide +kernel, by decide +kernel⟩, List.mem_of_getElem? (i := 694) (by decide +kernel), List.mem_of_getElem? (i := 915) (by decide +kernel), List.mem_of_getElem? (i := 916) (by decide +kernel)⟩
theorem lw_p53 : lw_okq (⟨"SpanLinkerModel", "largest", "(I)I"⟩, 32) := ⟨⟨by decide +kernel, by decide +kernel⟩, List.mem_of_getElem? (i := 694) (by decide +kernel), List.mem_of_getElem? (i := 919) (by decide +kernel), List.mem_of_getElem? (i := 920) (by decide +kernel)⟩
theorem lw_p54 : lw_okq (⟨"SpanLinkerModel", "include", "(I)V"⟩, 32) := ⟨⟨by decide +kernel, by decide +kernel⟩, List.mem_of_getElem? (i := 694) (by decide +kernel), List.mem_of_getElem? (i := 923) (by decide +kernel), List.mem_of_getElem? (i := 924) (by decide +kernel)⟩
theorem lw_p55 : lw_okq (⟨"SpanLinkerModel", "sum", "(I)I"⟩, 32) := ⟨⟨by decide +kernel, by decide +kernel⟩, List.mem_of_getElem? (i := 694) (by decide +kernel), List.mem_of_getElem? (i := 927) (by decide +kernel), List.mem_of_getElem? (i := 928) (by decide +kernel)⟩
theorem lw_p56 : lw_okq (⟨"SpanLinkerModel", "commonsBelow", "(I)I"⟩, 32) := ⟨⟨by decide +kernel, by decide +kernel⟩, List.mem_of_getElem? (i := 694) (by decide +kernel), List.mem_of_getElem? (i := 932) (by decide +kernel), List.mem_of_getElem? (i := 933) (by decide +kernel)⟩
theorem lw_p57 : lw_okq (⟨"SpanLinkerModel", "layOut", "()V"⟩, 32) := ⟨⟨by decide +kernel, by decide +kernel⟩, List.mem_of_getElem? (i := 694) (by decide +kernel), List.mem_of_getElem? (i := 936) (by decide +kernel), List.mem_of_getElem? (i := 937) (by decide +kernel)⟩
theorem lw_p58 : lw_okq (⟨"SpanLinkerModel", "write", "(II)V"⟩, 32) := ⟨⟨by decide +kernel, by decide +kernel⟩, List.mem_of_getElem? (i := 694) (by decide +kernel), List.mem_of_getElem? (i := 940) (by decide +kernel), List.mem_of_getElem? (i := 941) (by decide +kernel)⟩
theorem lw_p59 : lw_okq (⟨"SpanLinkerModel", "base", "(II)I"⟩, 32) := ⟨⟨by decide +kernel, by decide +kernel⟩, List.mem_of_getElem? (i := 694) (by decide +kernel), List.mem_of_getElem? (i := 944) (by decide +kernel), List.mem_of_getElem? (i := 945) (by decide +kernel)⟩
theorem lw_p60 : lw_okq (⟨"SpanLinkerModel", "standsFor", "(II)I"⟩, 32) := ⟨⟨by decide +kernel, by decide +kernel⟩, List.mem_of_getElem? (i := 694) (by decide +kernel), List.mem_of_getElem? (i := 948) (by decide +kernel), List.mem_of_getElem? (i := 949) (by decide +kernel)⟩
theorem lw_p61 : lw_okq (⟨"SpanLinkerModel", "valueOf", "(II)I"⟩, 32) := ⟨⟨by decide +kernel, by decide +kernel⟩, List.mem_of_getElem? (i := 694) (by decide +kernel), List.mem_of_getElem? (i := 952) (by decide +kernel), List.mem_of_getElem? (i := 953) (by decide +kernel)⟩
theorem lw_p62 : lw_okq (⟨"SpanLinkerModel", "outside", "(I)I"⟩, 32) := ⟨⟨by decide +kernel, by decide +kernel⟩, List.mem_of_getElem? (i := 694) (by decide +kernel), List.mem_of_getElem? (i := 956) (by decide +kernel), List.mem_of_getElem? (i := 957) (by decide +kernel)⟩
theorem lw_p63 : lw_okq (⟨"SpanLinkerModel", "hindrance", "()I"⟩, 32) := ⟨⟨by decide +kernel, by decide +kernel⟩, List.mem_of_getElem? (i := 694) (by decide +kernel), List.mem_of_getElem? (i := 998) (by decide +kernel), List.mem_of_getElem? (i := 999) (by decide +kernel)⟩
def lw_privs_4 : List (MethodName × Nat) := [(⟨"SpanLinkerModel", "exports", "(II)Z"⟩, 32), (⟨"SpanLinkerModel", "global", "(II)Z"⟩, 32), (⟨"SpanLinkerModel", "wanted", "(I)Z"⟩, 32), (⟨"SpanLinkerModel", "refers", "(II)Z"⟩, 32), (⟨"SpanLinkerModel", "exporters", "(I)I"⟩, 32), (⟨"SpanLinkerModel", "largest", "(I)I"⟩, 32), (⟨"SpanLinkerModel", "include", "(I)V"⟩, 32), (⟨"SpanLinkerModel", "sum", "(I)I"⟩, 32), (⟨"SpanLinkerModel", "commonsBelow", "(I)I"⟩, 32), (⟨"SpanLinkerModel", "layOut", "()V"⟩, 32), (⟨"SpanLinkerModel", "write", "(II)V"⟩, 32), (⟨"SpanLinkerModel", "base", "(II)I"⟩, 32), (⟨"SpanLinkerModel", "standsFor", "(II)I"⟩, 32), (⟨"SpanLinkerModel", "valueOf", "(II)I"⟩, 32), (⟨"SpanLinkerModel", "outside", "(I)I"⟩, 32), (⟨"SpanLinkerModel", "hindrance", "()I"⟩, 32)]
theorem lw_r4 : ∀ q ∈ lw_privs_4, lw_okq q := List.forall_mem_cons.mpr ⟨lw_p48, List.forall_mem_cons.mpr ⟨lw_p49, List.forall_mem_cons.mpr ⟨lw_p50, List.forall_mem_cons.mpr ⟨lw_p51, List.forall_mem_cons.mpr ⟨lw_p52, List.forall_mem_cons.mpr ⟨lw_p53, List.forall_mem_cons.mpr ⟨lw_p54, List.forall_mem_cons.mpr ⟨lw_p55, List.forall_mem_cons.mpr ⟨lw_p56, List.forall_mem_cons.mpr ⟨lw_p57, List.forall_mem_cons.mpr ⟨lw_p58, List.forall_mem_cons.mpr ⟨lw_p59, List.forall_mem_cons.mpr ⟨lw_p60, List.forall_mem_cons.mpr ⟨lw_p61, List.forall_mem_cons.mpr ⟨lw_p62, List.forall_mem_cons.mpr ⟨lw_p63, fun _ h => absurd h List.not_mem_nil⟩⟩⟩⟩⟩⟩⟩⟩⟩⟩⟩⟩⟩⟩⟩⟩
theorem lw_p64 : lw_okq (⟨"SpanLinkerModel", "there", "(I)Z"⟩, 32) := ⟨⟨by decide +kernel, by decide +kernel⟩, List.mem_of_getElem? (i := 694) (by decide +kernel), List.mem_of_getElem? (i := 1002) (by decide +kernel), List.mem_of_getElem? (i := 1003) (by decide +kernel)⟩
theorem lw_p65 : lw_okq (⟨"SpanLinkerModel", "two", "(II)V"⟩, 32) := ⟨⟨by decide +kernel, by decide +kernel⟩, List.mem_of_getElem? (i := 694) (by decide +kernel), List.mem_of_getElem? (i := 1006) (by decide +kernel), List.mem_of_getElem? (i := 1007) (by decide +kernel)⟩
theorem lw_p66 : lw_okq (⟨"SpanLinkerModel", "holds", "(I)Z"⟩, 32) := ⟨⟨by decide +kernel, by decide +kernel⟩, List.mem_of_getElem? (i := 694) (by decide +kernel), List.mem_of_getElem? (i := 1010) (by decide +kernel), List.mem_of_getElem? (i := 1011) (by decide +kernel)⟩
theorem lw_p67 : lw_okq (⟨"SpanLinkerModel", "single", "(II)V"⟩, 32) := ⟨⟨by decide +kernel, by decide +kernel⟩, List.mem_of_getElem? (i := 694) (by decide +kernel), List.mem_of_getElem? (i := 1014) (by decide +kernel), List.mem_of_getElem? (i := 1015) (by decide +kernel)⟩
def lw_privs_5 : List (MethodName × Nat) := [(⟨"SpanLinkerModel", "there", "(I)Z"⟩, 32), (⟨"SpanLinkerModel", "two", "(II)V"⟩, 32), (⟨"SpanLinkerModel", "holds", "(I)Z"⟩, 32), (⟨"SpanLinkerModel", "single", "(II)V"⟩, 32)]
theorem lw_r5 : ∀ q ∈ lw_privs_5, lw_okq q := List.forall_mem_cons.mpr ⟨lw_p64, List.forall_mem_cons.mpr ⟨lw_p65, List.forall_mem_cons.mpr ⟨lw_p66, List.forall_mem_cons.mpr ⟨lw_p67, fun _ h => absurd h List.not_mem_nil⟩⟩⟩⟩
def lw_privs : List (MethodName × Nat) := lw_privs_1 ++ (lw_privs_2 ++ (lw_privs_3 ++ (lw_privs_4 ++ (lw_privs_5))))
def lw_tbl : List Cond := k2_sels lw_privs ++ tables_1
theorem lw_privs_ok : ∀ q ∈ lw_privs, lw_okq q := by
  show ∀ q ∈ lw_privs_1 ++ (lw_privs_2 ++ (lw_privs_3 ++ (lw_privs_4 ++ (lw_privs_5)))), lw_okq q
  exact List.forall_mem_append.mpr ⟨lw_r1, List.forall_mem_append.mpr ⟨lw_r2, List.forall_mem_append.mpr ⟨lw_r3, List.forall_mem_append.mpr ⟨lw_r4, lw_r5⟩⟩⟩⟩
end
section
/-- words that hold in every state: those of the tables that calls may hand on -/
def am_all : List Cond := lw_tbl.filter goodWord
theorem am_mem {w : Cond} (h : w ∈ lw_tbl) (hg : goodWord w = true) : w ∈ am_all := List.mem_filter.mpr ⟨h, hg⟩
theorem am_allgood : ∀ w ∈ am_all, (w.onTables && w.keeps) = true ∨ ∃ ty, w = .arrayClass ty := fun w h => good_of_word (List.mem_filter.mp h).2
theorem am_all_lw : ∀ w ∈ am_all, w ∈ lw_tbl := fun w h => (List.mem_filter.mp h).1
theorem tb0 {w : Cond} (i : Nat) (h : (k2_sels lw_privs)[i]? = some w) : w ∈ lw_tbl := List.mem_append_left _ (List.mem_of_getElem? h)
theorem tb1 {w : Cond} (i : Nat) (h : tables_1_1[i]? = some w) : w ∈ lw_tbl := List.mem_append_right _ (List.mem_append_left _ (List.mem_of_getElem? h))
theorem tb2 {w : Cond} (i : Nat) (h : tables_1_2[i]? = some w) : w ∈ lw_tbl := List.mem_append_right _ (List.mem_append_right _ (List.mem_append_left _ (List.mem_of_getElem? h)))
theorem tb3 {w : Cond} (i : Nat) (h : tables_1_3[i]? = some w) : w ∈ lw_tbl := List.mem_append_right _ (List.mem_append_right _ (List.mem_append_right _ (List.mem_append_left _ (List.mem_of_getElem? h))))
theorem tb4 {w : Cond} (i : Nat) (h : tables_1_4[i]? = some w) : w ∈ lw_tbl := List.mem_append_right _ (List.mem_append_right _ (List.mem_append_right _ (List.mem_append_right _ (List.mem_append_left _ (List.mem_of_getElem? h)))))
theorem tb5 {w : Cond} (i : Nat) (h : tables_1_5[i]? = some w) : w ∈ lw_tbl := List.mem_append_right _ (List.mem_append_right _ (List.mem_append_right _ (List.mem_append_right _ (List.mem_append_right _ (List.mem_of_getElem? h)))))
theorem am_lt {N : Nat} {p : Nat → Prop} (h : ∀ k, k < N → p k) : ∀ w ∈ (List.range N), p w := fun w hw => h w (List.mem_range.mp hw)
def T_SL : u_T := fun k => match k with
  | 0 => ("SpanLinker", "modules", "[LSpanLinker$SourceModule;", true)
  | 1 => ("SpanLinker", "archive", "LSpanLinker$Row;", true)
  | 2 => ("SpanLinker", "line", "LSpanLinker$Row;", true)
  | 3 => ("SpanLinker", "inclusion", "LSpanLinker$Inclusion;", true)
  | 4 => ("SpanLinker", "image", "LSpanLinker$Image;", true)
  | _ => ("SpanLinker", "machine", "LSpanLinker$Machine;", true)
def ty_SL : Nat → FieldType := fun k => match k with
  | 0 => .array (.object "SpanLinker$SourceModule")
  | 1 => .object "SpanLinker$Row"
  | 2 => .object "SpanLinker$Row"
  | 3 => .object "SpanLinker$Inclusion"
  | 4 => .object "SpanLinker$Image"
  | _ => .object "SpanLinker$Machine"
theorem nm_SL : ∀ a, a < 6 → ∀ b, b < 6 → a ≠ b → (T_SL a).2.1 ≠ (T_SL b).2.1 := by decide +kernel
theorem to_SL : ∀ k, k < 6 → parseFieldDescriptor (T_SL k).2.2.1 = some (ty_SL k) := by decide +kernel
theorem in_SL : ∀ w ∈ u_ws "SpanLinker" T_SL 6, w ∈ am_all := by
  have h : ∀ k, k < 6 → u_lay "SpanLinker" T_SL k ∈ am_all := by
    intro k hk
    match k, hk with
    | 0, _ => exact (am_mem (tb1 200 rfl) rfl)
    | 1, _ => exact (am_mem (tb1 202 rfl) rfl)
    | 2, _ => exact (am_mem (tb1 204 rfl) rfl)
    | 3, _ => exact (am_mem (tb1 206 rfl) rfl)
    | 4, _ => exact (am_mem (tb1 208 rfl) rfl)
    | 5, _ => exact (am_mem (tb1 210 rfl) rfl)
    | k + 6, hk => exact absurd hk (by omega)
  intro w hw
  obtain ⟨k, hk, rfl⟩ := List.mem_map.mp hw
  exact h k (List.mem_range.mp hk)
def T_Mod : u_T := fun k => match k with
  | 0 => ("SpanLinker$SourceModule", "kinds", "[I", true)
  | 1 => ("SpanLinker$SourceModule", "firsts", "[I", true)
  | 2 => ("SpanLinker$SourceModule", "seconds", "[I", true)
  | 3 => ("SpanLinker$SourceModule", "sections", "[I", true)
  | 4 => ("SpanLinker$SourceModule", "places", "[I", true)
  | 5 => ("SpanLinker$SourceModule", "longs", "[Z", true)
  | 6 => ("SpanLinker$SourceModule", "lengths", "[I", true)
  | 7 => ("SpanLinker$SourceModule", "holders", "[I", true)
  | 8 => ("SpanLinker$SourceModule", "count", "I", false)
  | 9 => ("SpanLinker$SourceModule", "definedNames", "I", false)
  | 10 => ("SpanLinker$SourceModule", "commonNames", "I", false)
  | 11 => ("SpanLinker$SourceModule", "globalNames", "I", false)
  | _ => ("SpanLinker$SourceModule", "usedNames", "I", false)
def ty_Mod : Nat → FieldType := fun k => match k with
  | 0 => .array .int
  | 1 => .array .int
  | 2 => .array .int
  | 3 => .array .int
  | 4 => .array .int
  | 5 => .array .boolean
  | 6 => .array .int
  | 7 => .array .int
  | 8 => .int
  | 9 => .int
  | 10 => .int
  | 11 => .int
  | _ => .int
theorem nm_Mod : ∀ a, a < 13 → ∀ b, b < 13 → a ≠ b → (T_Mod a).2.1 ≠ (T_Mod b).2.1 := by decide +kernel
theorem to_Mod : ∀ k, k < 13 → parseFieldDescriptor (T_Mod k).2.2.1 = some (ty_Mod k) := by decide +kernel
theorem in_Mod : ∀ w ∈ u_ws "SpanLinker$SourceModule" T_Mod 13, w ∈ am_all := by
  have h : ∀ k, k < 13 → u_lay "SpanLinker$SourceModule" T_Mod k ∈ am_all := by
    intro k hk
    match k, hk with
    | 0, _ => exact (am_mem (tb1 40 rfl) rfl)
    | 1, _ => exact (am_mem (tb1 42 rfl) rfl)
    | 2, _ => exact (am_mem (tb1 44 rfl) rfl)
    | 3, _ => exact (am_mem (tb1 46 rfl) rfl)
    | 4, _ => exact (am_mem (tb1 48 rfl) rfl)
    | 5, _ => exact (am_mem (tb1 50 rfl) rfl)
    | 6, _ => exact (am_mem (tb1 52 rfl) rfl)
    | 7, _ => exact (am_mem (tb1 54 rfl) rfl)
    | 8, _ => exact (am_mem (tb1 56 rfl) rfl)
    | 9, _ => exact (am_mem (tb1 58 rfl) rfl)
    | 10, _ => exact (am_mem (tb1 60 rfl) rfl)
    | 11, _ => exact (am_mem (tb1 62 rfl) rfl)
    | 12, _ => exact (am_mem (tb1 64 rfl) rfl)
    | k + 13, hk => exact absurd hk (by omega)
  intro w hw
  obtain ⟨k, hk, rfl⟩ := List.mem_map.mp hw
  exact h k (List.mem_range.mp hk)
def T_Inc : u_T := fun k => match k with
  | 0 => ("SpanLinker$Inclusion", "modules", "[LSpanLinker$SourceModule;", true)
  | 1 => ("SpanLinker$Inclusion", "order", "LSpanLinker$Row;", true)
  | 2 => ("SpanLinker$Inclusion", "soughtNames", "I", false)
  | 3 => ("SpanLinker$Inclusion", "exportedNames", "I", false)
  | 4 => ("SpanLinker$Inclusion", "commonNames", "I", false)
  | _ => ("SpanLinker$Inclusion", "doubleNames", "I", false)
def ty_Inc : Nat → FieldType := fun k => match k with
  | 0 => .array (.object "SpanLinker$SourceModule")
  | 1 => .object "SpanLinker$Row"
  | 2 => .int
  | 3 => .int
  | 4 => .int
  | _ => .int
theorem nm_Inc : ∀ a, a < 6 → ∀ b, b < 6 → a ≠ b → (T_Inc a).2.1 ≠ (T_Inc b).2.1 := by decide +kernel
theorem to_Inc : ∀ k, k < 6 → parseFieldDescriptor (T_Inc k).2.2.1 = some (ty_Inc k) := by decide +kernel
theorem in_Inc : ∀ w ∈ u_ws "SpanLinker$Inclusion" T_Inc 6, w ∈ am_all := by
  have h : ∀ k, k < 6 → u_lay "SpanLinker$Inclusion" T_Inc k ∈ am_all := by
    intro k hk
    match k, hk with
    | 0, _ => exact (am_mem (tb1 94 rfl) rfl)
    | 1, _ => exact (am_mem (tb1 96 rfl) rfl)
    | 2, _ => exact (am_mem (tb1 98 rfl) rfl)
    | 3, _ => exact (am_mem (tb1 100 rfl) rfl)
    | 4, _ => exact (am_mem (tb1 102 rfl) rfl)
    | 5, _ => exact (am_mem (tb1 104 rfl) rfl)
    | k + 6, hk => exact absurd hk (by omega)
  intro w hw
  obtain ⟨k, hk, rfl⟩ := List.mem_map.mp hw
  exact h k (List.mem_range.mp hk)
def T_Row : u_T := fun k => match k with
  | 0 => ("SpanLinker$Row", "numbers", "[I", true)
  | _ => ("SpanLinker$Row", "count", "I", false)
def ty_Row : Nat → FieldType := fun k => match k with
  | 0 => .array .int
  | _ => .int
theorem nm_Row : ∀ a, a < 2 → ∀ b, b < 2 → a ≠ b → (T_Row a).2.1 ≠ (T_Row b).2.1 := by decide +kernel
theorem to_Row : ∀ k, k < 2 → parseFieldDescriptor (T_Row k).2.2.1 = some (ty_Row k) := by decide +kernel
theorem in_Row : ∀ w ∈ u_ws "SpanLinker$Row" T_Row 2, w ∈ am_all := by
  have h : ∀ k, k < 2 → u_lay "SpanLinker$Row" T_Row k ∈ am_all := by
    intro k hk
    match k, hk with
    | 0, _ => exact (am_mem (tb1 83 rfl) rfl)
    | 1, _ => exact (am_mem (tb1 85 rfl) rfl)
    | k + 2, hk => exact absurd hk (by omega)
  intro w hw
  obtain ⟨k, hk, rfl⟩ := List.mem_map.mp hw
  exact h k (List.mem_range.mp hk)
def T_Img : u_T := fun k => match k with
  | 0 => ("SpanLinker$Image", "modules", "[LSpanLinker$SourceModule;", true)
  | 1 => ("SpanLinker$Image", "inclusion", "LSpanLinker$Inclusion;", true)
  | 2 => ("SpanLinker$Image", "bases", "[[I", true)
  | 3 => ("SpanLinker$Image", "words", "[I", true)
  | 4 => ("SpanLinker$Image", "sizes", "[I", true)
  | 5 => ("SpanLinker$Image", "values", "[I", true)
  | 6 => ("SpanLinker$Image", "total", "I", false)
  | 7 => ("SpanLinker$Image", "entry", "I", false)
  | 8 => ("SpanLinker$Image", "there", "Z", false)
  | _ => ("SpanLinker$Image", "stripped", "Z", false)
def ty_Img : Nat → FieldType := fun k => match k with
  | 0 => .array (.object "SpanLinker$SourceModule")
  | 1 => .object "SpanLinker$Inclusion"
  | 2 => .array (.array .int)
  | 3 => .array .int
  | 4 => .array .int
  | 5 => .array .int
  | 6 => .int
  | 7 => .int
  | 8 => .boolean
  | _ => .boolean
theorem nm_Img : ∀ a, a < 10 → ∀ b, b < 10 → a ≠ b → (T_Img a).2.1 ≠ (T_Img b).2.1 := by decide +kernel
theorem to_Img : ∀ k, k < 10 → parseFieldDescriptor (T_Img k).2.2.1 = some (ty_Img k) := by decide +kernel
theorem in_Img : ∀ w ∈ u_ws "SpanLinker$Image" T_Img 10, w ∈ am_all := by
  have h : ∀ k, k < 10 → u_lay "SpanLinker$Image" T_Img k ∈ am_all := by
    intro k hk
    match k, hk with
    | 0, _ => exact (am_mem (tb1 127 rfl) rfl)
    | 1, _ => exact (am_mem (tb1 129 rfl) rfl)
    | 2, _ => exact (am_mem (tb1 131 rfl) rfl)
    | 3, _ => exact (am_mem (tb1 133 rfl) rfl)
    | 4, _ => exact (am_mem (tb1 135 rfl) rfl)
    | 5, _ => exact (am_mem (tb1 137 rfl) rfl)
    | 6, _ => exact (am_mem (tb1 139 rfl) rfl)
    | 7, _ => exact (am_mem (tb1 141 rfl) rfl)
    | 8, _ => exact (am_mem (tb1 143 rfl) rfl)
    | 9, _ => exact (am_mem (tb1 145 rfl) rfl)
    | k + 10, hk => exact absurd hk (by omega)
  intro w hw
  obtain ⟨k, hk, rfl⟩ := List.mem_map.mp hw
  exact h k (List.mem_range.mp hk)
def T_Mac : u_T := fun k => match k with
  | 0 => ("SpanLinker$Machine", "words", "[I", true)
  | 1 => ("SpanLinker$Machine", "tape", "[I", true)
  | 2 => ("SpanLinker$Machine", "latest", "[I", true)
  | 3 => ("SpanLinker$Machine", "total", "I", false)
  | 4 => ("SpanLinker$Machine", "textWords", "I", false)
  | 5 => ("SpanLinker$Machine", "registerA", "I", false)
  | 6 => ("SpanLinker$Machine", "registerR", "I", false)
  | 7 => ("SpanLinker$Machine", "pc", "I", false)
  | 8 => ("SpanLinker$Machine", "state", "I", false)
  | 9 => ("SpanLinker$Machine", "fed", "I", false)
  | 10 => ("SpanLinker$Machine", "taken", "I", false)
  | 11 => ("SpanLinker$Machine", "putOut", "I", false)
  | _ => ("SpanLinker$Machine", "there", "Z", false)
def ty_Mac : Nat → FieldType := fun k => match k with
  | 0 => .array .int
  | 1 => .array .int
  | 2 => .array .int
  | 3 => .int
  | 4 => .int
  | 5 => .int
  | 6 => .int
  | 7 => .int
  | 8 => .int
  | 9 => .int
  | 10 => .int
  | 11 => .int
  | _ => .boolean
theorem nm_Mac : ∀ a, a < 13 → ∀ b, b < 13 → a ≠ b → (T_Mac a).2.1 ≠ (T_Mac b).2.1 := by decide +kernel
theorem to_Mac : ∀ k, k < 13 → parseFieldDescriptor (T_Mac k).2.2.1 = some (ty_Mac k) := by decide +kernel
theorem in_Mac : ∀ w ∈ u_ws "SpanLinker$Machine" T_Mac 13, w ∈ am_all := by
  have h : ∀ k, k < 13 → u_lay "SpanLinker$Machine" T_Mac k ∈ am_all := by
    intro k hk
    match k, hk with
    | 0, _ => exact (am_mem (tb1 167 rfl) rfl)
    | 1, _ => exact (am_mem (tb1 169 rfl) rfl)
    | 2, _ => exact (am_mem (tb1 171 rfl) rfl)
    | 3, _ => exact (am_mem (tb1 173 rfl) rfl)
    | 4, _ => exact (am_mem (tb1 175 rfl) rfl)
    | 5, _ => exact (am_mem (tb1 177 rfl) rfl)
    | 6, _ => exact (am_mem (tb1 179 rfl) rfl)
    | 7, _ => exact (am_mem (tb1 181 rfl) rfl)
    | 8, _ => exact (am_mem (tb1 183 rfl) rfl)
    | 9, _ => exact (am_mem (tb1 185 rfl) rfl)
    | 10, _ => exact (am_mem (tb1 187 rfl) rfl)
    | 11, _ => exact (am_mem (tb1 189 rfl) rfl)
    | 12, _ => exact (am_mem (tb1 191 rfl) rfl)
    | k + 13, hk => exact absurd hk (by omega)
  intro w hw
  obtain ⟨k, hk, rfl⟩ := List.mem_map.mp hw
  exact h k (List.mem_range.mp hk)
def T_Ref : u_T := fun k => match k with
  | 0 => ("SpanLinkerModel", "count", "[I", false)
  | 1 => ("SpanLinkerModel", "kind", "[I", false)
  | 2 => ("SpanLinkerModel", "one", "[I", false)
  | 3 => ("SpanLinkerModel", "two", "[I", false)
  | 4 => ("SpanLinkerModel", "part", "[I", false)
  | 5 => ("SpanLinkerModel", "wide", "[Z", false)
  | 6 => ("SpanLinkerModel", "members", "I", false)
  | 7 => ("SpanLinkerModel", "archive", "[I", false)
  | 8 => ("SpanLinkerModel", "items", "I", false)
  | 9 => ("SpanLinkerModel", "line", "[I", false)
  | 10 => ("SpanLinkerModel", "wish", "I", false)
  | 11 => ("SpanLinkerModel", "chosen", "I", false)
  | 12 => ("SpanLinkerModel", "order", "[I", false)
  | 13 => ("SpanLinkerModel", "lacking", "I", false)
  | 14 => ("SpanLinkerModel", "image", "Z", false)
  | 15 => ("SpanLinkerModel", "stripped", "Z", false)
  | 16 => ("SpanLinkerModel", "words", "[I", false)
  | 17 => ("SpanLinkerModel", "sizes", "[I", false)
  | 18 => ("SpanLinkerModel", "total", "I", false)
  | 19 => ("SpanLinkerModel", "known", "[I", false)
  | 20 => ("SpanLinkerModel", "entry", "I", false)
  | 21 => ("SpanLinkerModel", "machine", "Z", false)
  | 22 => ("SpanLinkerModel", "memory", "[I", false)
  | 23 => ("SpanLinkerModel", "regA", "I", false)
  | 24 => ("SpanLinkerModel", "regR", "I", false)
  | 25 => ("SpanLinkerModel", "regPc", "I", false)
  | 26 => ("SpanLinkerModel", "state", "I", false)
  | 27 => ("SpanLinkerModel", "outs", "I", false)
  | 28 => ("SpanLinkerModel", "out", "[I", false)
  | 29 => ("SpanLinkerModel", "tape", "[I", false)
  | 30 => ("SpanLinkerModel", "fed", "I", false)
  | _ => ("SpanLinkerModel", "taken", "I", false)
def ty_Ref : Nat → FieldType := fun k => match k with
  | 0 => .array .int
  | 1 => .array .int
  | 2 => .array .int
  | 3 => .array .int
  | 4 => .array .int
  | 5 => .array .boolean
  | 6 => .int
  | 7 => .array .int
  | 8 => .int
  | 9 => .array .int
  | 10 => .int
  | 11 => .int
  | 12 => .array .int
  | 13 => .int
  | 14 => .boolean
  | 15 => .boolean
  | 16 => .array .int
  | 17 => .array .int
  | 18 => .int
  | 19 => .array .int
  | 20 => .int
  | 21 => .boolean
  | 22 => .array .int
  | 23 => .int
  | 24 => .int
  | 25 => .int
  | 26 => .int
  | 27 => .int
  | 28 => .array .int
  | 29 => .array .int
  | 30 => .int
  | _ => .int
theorem nm_Ref : ∀ a, a < 32 → ∀ b, b < 32 → a ≠ b → (T_Ref a).2.1 ≠ (T_Ref b).2.1 := by decide +kernel
theorem to_Ref : ∀ k, k < 32 → parseFieldDescriptor (T_Ref k).2.2.1 = some (ty_Ref k) := by decide +kernel
theorem in_Ref : ∀ w ∈ u_ws "SpanLinkerModel" T_Ref 32, w ∈ am_all := by
  have h : ∀ k, k < 32 → u_lay "SpanLinkerModel" T_Ref k ∈ am_all := by
    intro k hk
    match k, hk with
    | 0, _ => exact (am_mem (tb4 11 rfl) rfl)
    | 1, _ => exact (am_mem (tb4 13 rfl) rfl)
    | 2, _ => exact (am_mem (tb4 15 rfl) rfl)
    | 3, _ => exact (am_mem (tb4 17 rfl) rfl)
    | 4, _ => exact (am_mem (tb4 19 rfl) rfl)
    | 5, _ => exact (am_mem (tb4 21 rfl) rfl)
    | 6, _ => exact (am_mem (tb4 23 rfl) rfl)
    | 7, _ => exact (am_mem (tb4 25 rfl) rfl)
    | 8, _ => exact (am_mem (tb4 27 rfl) rfl)
    | 9, _ => exact (am_mem (tb4 29 rfl) rfl)
    | 10, _ => exact (am_mem (tb4 31 rfl) rfl)
    | 11, _ => exact (am_mem (tb4 33 rfl) rfl)
    | 12, _ => exact (am_mem (tb4 35 rfl) rfl)
    | 13, _ => exact (am_mem (tb4 37 rfl) rfl)
    | 14, _ => exact (am_mem (tb4 39 rfl) rfl)
    | 15, _ => exact (am_mem (tb4 41 rfl) rfl)
    | 16, _ => exact (am_mem (tb4 43 rfl) rfl)
    | 17, _ => exact (am_mem (tb4 45 rfl) rfl)
    | 18, _ => exact (am_mem (tb4 47 rfl) rfl)
    | 19, _ => exact (am_mem (tb4 49 rfl) rfl)
    | 20, _ => exact (am_mem (tb4 51 rfl) rfl)
    | 21, _ => exact (am_mem (tb4 53 rfl) rfl)
    | 22, _ => exact (am_mem (tb4 55 rfl) rfl)
    | 23, _ => exact (am_mem (tb4 57 rfl) rfl)
    | 24, _ => exact (am_mem (tb4 59 rfl) rfl)
    | 25, _ => exact (am_mem (tb4 61 rfl) rfl)
    | 26, _ => exact (am_mem (tb4 63 rfl) rfl)
    | 27, _ => exact (am_mem (tb4 65 rfl) rfl)
    | 28, _ => exact (am_mem (tb4 67 rfl) rfl)
    | 29, _ => exact (am_mem (tb4 69 rfl) rfl)
    | 30, _ => exact (am_mem (tb4 71 rfl) rfl)
    | 31, _ => exact (am_mem (tb4 73 rfl) rfl)
    | k + 32, hk => exact absurd hk (by omega)
  intro w hw
  obtain ⟨k, hk, rfl⟩ := List.mem_map.mp hw
  exact h k (List.mem_range.mp hk)
abbrev classes : List vw_C := [("SpanLinker", T_SL, 6), ("SpanLinker$SourceModule", T_Mod, 13), ("SpanLinker$Inclusion", T_Inc, 6), ("SpanLinker$Row", T_Row, 2), ("SpanLinker$Image", T_Img, 10), ("SpanLinker$Machine", T_Mac, 13), ("SpanLinkerModel", T_Ref, 32)]
theorem am_mx1 : Cond.static Lib.Math.max.name ∈ am_all := (am_mem (tb2 235 rfl) rfl)
theorem am_mx2 : Cond.initialized "java/lang/Math" ∈ am_all := (am_mem (tb1 8 rfl) rfl)
theorem am_mx3 : Cond.code Lib.Math.max.name Lib.Math.max.code 2 (some .int) ∈ am_all := (am_mem (tb2 236 rfl) rfl)
def am_nl : List (String × Nat × MethodName × String) := [("SpanLinker", 164, ⟨"SpanLinker$SourceModule", "<init>", "()V"⟩, "SpanLinker"), ("SpanLinker", 49, ⟨"SpanLinker$Machine", "<init>", "()V"⟩, "SpanLinker"), ("SpanLinker$SourceModule", 79, ⟨"SpanLinker", "isName", "(I)Z"⟩, "SpanLinker"), ("SpanLinker$SourceModule", 82, ⟨"SpanLinker", "isSection", "(I)Z"⟩, "SpanLinker"), ("SpanLinker$SourceModule", 85, ⟨"SpanLinker", "isWord", "(I)Z"⟩, "SpanLinker"), ("SpanLinker$SourceModule", 88, ⟨"SpanLinker", "isWithin", "(III)Z"⟩, "SpanLinker"), ("SpanLinker$SourceModule", 76, ⟨"SpanLinker", "hasName", "(II)Z"⟩, "SpanLinker"), ("SpanLinker$SourceModule", 94, ⟨"SpanLinker", "setOf", "(I)I"⟩, "SpanLinker"), ("SpanLinker$Inclusion", 27, ⟨"SpanLinker", "setOf", "(I)I"⟩, "SpanLinker"), ("SpanLinker$Inclusion", 58, ⟨"SpanLinker", "hasName", "(II)Z"⟩, "SpanLinker"), ("SpanLinker$Image", 108, ⟨"SpanLinker", "hasName", "(II)Z"⟩, "SpanLinker"), ("SpanLinker$Image", 140, ⟨"SpanLinker", "toWord", "(I)I"⟩, "SpanLinker"), ("SpanLinker$Image", 74, ⟨"SpanLinker", "isSection", "(I)Z"⟩, "SpanLinker"), ("SpanLinker$Image", 78, ⟨"SpanLinker", "isWithin", "(III)Z"⟩, "SpanLinker"), ("SpanLinker$Image", 82, ⟨"SpanLinker", "isName", "(I)Z"⟩, "SpanLinker"), ("SpanLinker$Machine", 68, ⟨"SpanLinker", "isWord", "(I)Z"⟩, "SpanLinker"), ("SpanLinker$Machine", 81, ⟨"SpanLinker", "isWithin", "(III)Z"⟩, "SpanLinker"), ("SpanLinker$Machine", 99, ⟨"SpanLinker", "toWord", "(I)I"⟩, "SpanLinker")]
def am_nest : List Cond := am_nl.map (fun q => Cond.methodLinkNest q.1 q.2.1 q.2.2.1 q.2.2.2)
end
section
theorem d_SL_init_0 : decode prog_1_method_1_code 0 = .ok (.aload_n 0, 1) := by decide +kernel
theorem d_SL_init_1 : decode prog_1_method_1_code 1 = .ok (.invokespecial 1, 3) := by decide +kernel
theorem d_SL_init_4 : decode prog_1_method_1_code 4 = .ok (.invokestatic 7, 3) := by decide +kernel
theorem d_SL_init_7 : decode prog_1_method_1_code 7 = .ok (.astore_n 1, 1) := by decide +kernel
theorem d_SL_init_8 : decode prog_1_method_1_code 8 = .ok (.new 13, 3) := by decide +kernel
theorem d_SL_init_11 : decode prog_1_method_1_code 11 = .ok (.dup, 1) := by decide +kernel
theorem d_SL_init_12 : decode prog_1_method_1_code 12 = .ok (.aload_n 1, 1) := by decide +kernel
theorem d_SL_init_13 : decode prog_1_method_1_code 13 = .ok (.invokespecial 15, 3) := by decide +kernel
theorem d_SL_init_16 : decode prog_1_method_1_code 16 = .ok (.astore_n 2, 1) := by decide +kernel
theorem d_SL_init_17 : decode prog_1_method_1_code 17 = .ok (.aload_n 0, 1) := by decide +kernel
theorem d_SL_init_18 : decode prog_1_method_1_code 18 = .ok (.aload_n 1, 1) := by decide +kernel
theorem d_SL_init_19 : decode prog_1_method_1_code 19 = .ok (.putfield 18, 3) := by decide +kernel
theorem d_SL_init_22 : decode prog_1_method_1_code 22 = .ok (.aload_n 0, 1) := by decide +kernel
theorem d_SL_init_23 : decode prog_1_method_1_code 23 = .ok (.new 22, 3) := by decide +kernel
theorem d_SL_init_26 : decode prog_1_method_1_code 26 = .ok (.dup, 1) := by decide +kernel
theorem d_SL_init_27 : decode prog_1_method_1_code 27 = .ok (.bipush 6, 2) := by decide +kernel
theorem d_SL_init_29 : decode prog_1_method_1_code 29 = .ok (.invokespecial 24, 3) := by decide +kernel
theorem d_SL_init_32 : decode prog_1_method_1_code 32 = .ok (.putfield 27, 3) := by decide +kernel
theorem d_SL_init_35 : decode prog_1_method_1_code 35 = .ok (.aload_n 0, 1) := by decide +kernel
theorem d_SL_init_36 : decode prog_1_method_1_code 36 = .ok (.new 22, 3) := by decide +kernel
theorem d_SL_init_39 : decode prog_1_method_1_code 39 = .ok (.dup, 1) := by decide +kernel
theorem d_SL_init_40 : decode prog_1_method_1_code 40 = .ok (.bipush 8, 2) := by decide +kernel
theorem d_SL_init_42 : decode prog_1_method_1_code 42 = .ok (.invokespecial 24, 3) := by decide +kernel
theorem d_SL_init_45 : decode prog_1_method_1_code 45 = .ok (.putfield 31, 3) := by decide +kernel
theorem d_SL_init_48 : decode prog_1_method_1_code 48 = .ok (.aload_n 0, 1) := by decide +kernel
theorem d_SL_init_49 : decode prog_1_method_1_code 49 = .ok (.aload_n 2, 1) := by decide +kernel
theorem d_SL_init_50 : decode prog_1_method_1_code 50 = .ok (.putfield 34, 3) := by decide +kernel
theorem d_SL_init_53 : decode prog_1_method_1_code 53 = .ok (.aload_n 0, 1) := by decide +kernel
theorem d_SL_init_54 : decode prog_1_method_1_code 54 = .ok (.new 38, 3) := by decide +kernel
theorem d_SL_init_57 : decode prog_1_method_1_code 57 = .ok (.dup, 1) := by decide +kernel
theorem d_SL_init_58 : decode prog_1_method_1_code 58 = .ok (.aload_n 1, 1) := by decide +kernel
theorem d_SL_init_59 : decode prog_1_method_1_code 59 = .ok (.aload_n 2, 1) := by decide +kernel
theorem d_SL_init_60 : decode prog_1_method_1_code 60 = .ok (.invokespecial 40, 3) := by decide +kernel
theorem d_SL_init_63 : decode prog_1_method_1_code 63 = .ok (.putfield 43, 3) := by decide +kernel
theorem d_SL_init_66 : decode prog_1_method_1_code 66 = .ok (.aload_n 0, 1) := by decide +kernel
theorem d_SL_init_67 : decode prog_1_method_1_code 67 = .ok (.new 47, 3) := by decide +kernel
theorem d_SL_init_70 : decode prog_1_method_1_code 70 = .ok (.dup, 1) := by decide +kernel
theorem d_SL_init_71 : decode prog_1_method_1_code 71 = .ok (.invokespecial 49, 3) := by decide +kernel
theorem d_SL_init_74 : decode prog_1_method_1_code 74 = .ok (.putfield 50, 3) := by decide +kernel
theorem d_SL_init_77 : decode prog_1_method_1_code 77 = .ok (.return_, 1) := by decide +kernel
theorem d_SL_add_0 : decode prog_1_method_2_code 0 = .ok (.iload_n 1, 1) := by decide +kernel
theorem d_SL_add_1 : decode prog_1_method_2_code 1 = .ok (.invokestatic 54, 3) := by decide +kernel
theorem d_SL_add_4 : decode prog_1_method_2_code 4 = .ok (.ifCond .eq 19, 3) := by decide +kernel
theorem d_SL_add_7 : decode prog_1_method_2_code 7 = .ok (.aload_n 0, 1) := by decide +kernel
theorem d_SL_add_8 : decode prog_1_method_2_code 8 = .ok (.getfield 18, 3) := by decide +kernel
theorem d_SL_add_11 : decode prog_1_method_2_code 11 = .ok (.iload_n 1, 1) := by decide +kernel
theorem d_SL_add_12 : decode prog_1_method_2_code 12 = .ok (.aaload, 1) := by decide +kernel
theorem d_SL_add_13 : decode prog_1_method_2_code 13 = .ok (.iload_n 2, 1) := by decide +kernel
theorem d_SL_add_14 : decode prog_1_method_2_code 14 = .ok (.iload_n 3, 1) := by decide +kernel
theorem d_SL_add_15 : decode prog_1_method_2_code 15 = .ok (.iload 4, 2) := by decide +kernel
theorem d_SL_add_17 : decode prog_1_method_2_code 17 = .ok (.invokevirtual 58, 3) := by decide +kernel
theorem d_SL_add_20 : decode prog_1_method_2_code 20 = .ok (.ifCond .ne 5, 3) := by decide +kernel
theorem d_SL_add_23 : decode prog_1_method_2_code 23 = .ok (.iconst 0, 1) := by decide +kernel
theorem d_SL_add_24 : decode prog_1_method_2_code 24 = .ok (.ireturn, 1) := by decide +kernel
theorem d_SL_add_25 : decode prog_1_method_2_code 25 = .ok (.aload_n 0, 1) := by decide +kernel
theorem d_SL_add_26 : decode prog_1_method_2_code 26 = .ok (.getfield 18, 3) := by decide +kernel
theorem d_SL_add_29 : decode prog_1_method_2_code 29 = .ok (.iload_n 1, 1) := by decide +kernel
theorem d_SL_add_30 : decode prog_1_method_2_code 30 = .ok (.aaload, 1) := by decide +kernel
theorem d_SL_add_31 : decode prog_1_method_2_code 31 = .ok (.iload_n 2, 1) := by decide +kernel
theorem d_SL_add_32 : decode prog_1_method_2_code 32 = .ok (.iload_n 3, 1) := by decide +kernel
theorem d_SL_add_33 : decode prog_1_method_2_code 33 = .ok (.iload 4, 2) := by decide +kernel
theorem d_SL_add_35 : decode prog_1_method_2_code 35 = .ok (.invokevirtual 64, 3) := by decide +kernel
theorem d_SL_add_38 : decode prog_1_method_2_code 38 = .ok (.iconst 1, 1) := by decide +kernel
theorem d_SL_add_39 : decode prog_1_method_2_code 39 = .ok (.ireturn, 1) := by decide +kernel
theorem d_SL_clear_0 : decode prog_1_method_3_code 0 = .ok (.iload_n 1, 1) := by decide +kernel
theorem d_SL_clear_1 : decode prog_1_method_3_code 1 = .ok (.invokestatic 54, 3) := by decide +kernel
theorem d_SL_clear_4 : decode prog_1_method_3_code 4 = .ok (.ifCond .eq 15, 3) := by decide +kernel
theorem d_SL_clear_7 : decode prog_1_method_3_code 7 = .ok (.aload_n 0, 1) := by decide +kernel
theorem d_SL_clear_8 : decode prog_1_method_3_code 8 = .ok (.getfield 18, 3) := by decide +kernel
theorem d_SL_clear_11 : decode prog_1_method_3_code 11 = .ok (.iload_n 1, 1) := by decide +kernel
theorem d_SL_clear_12 : decode prog_1_method_3_code 12 = .ok (.aaload, 1) := by decide +kernel
theorem d_SL_clear_13 : decode prog_1_method_3_code 13 = .ok (.invokevirtual 68, 3) := by decide +kernel
theorem d_SL_clear_16 : decode prog_1_method_3_code 16 = .ok (.goto 4, 3) := by decide +kernel
theorem d_SL_clear_19 : decode prog_1_method_3_code 19 = .ok (.iconst (-1), 1) := by decide +kernel
theorem d_SL_clear_20 : decode prog_1_method_3_code 20 = .ok (.ireturn, 1) := by decide +kernel
theorem d_SL_length_0 : decode prog_1_method_4_code 0 = .ok (.iload_n 1, 1) := by decide +kernel
theorem d_SL_length_1 : decode prog_1_method_4_code 1 = .ok (.invokestatic 54, 3) := by decide +kernel
theorem d_SL_length_4 : decode prog_1_method_4_code 4 = .ok (.ifCond .eq 10, 3) := by decide +kernel
theorem d_SL_length_7 : decode prog_1_method_4_code 7 = .ok (.iload_n 2, 1) := by decide +kernel
theorem d_SL_length_8 : decode prog_1_method_4_code 8 = .ok (.invokestatic 72, 3) := by decide +kernel
theorem d_SL_length_11 : decode prog_1_method_4_code 11 = .ok (.ifCond .ne 5, 3) := by decide +kernel
theorem d_SL_length_14 : decode prog_1_method_4_code 14 = .ok (.iconst (-1), 1) := by decide +kernel
theorem d_SL_length_15 : decode prog_1_method_4_code 15 = .ok (.ireturn, 1) := by decide +kernel
theorem d_SL_length_16 : decode prog_1_method_4_code 16 = .ok (.aload_n 0, 1) := by decide +kernel
theorem d_SL_length_17 : decode prog_1_method_4_code 17 = .ok (.getfield 18, 3) := by decide +kernel
theorem d_SL_length_20 : decode prog_1_method_4_code 20 = .ok (.iload_n 1, 1) := by decide +kernel
theorem d_SL_length_21 : decode prog_1_method_4_code 21 = .ok (.aaload, 1) := by decide +kernel
theorem d_SL_length_22 : decode prog_1_method_4_code 22 = .ok (.iload_n 2, 1) := by decide +kernel
theorem d_SL_length_23 : decode prog_1_method_4_code 23 = .ok (.invokevirtual 75, 3) := by decide +kernel
theorem d_SL_length_26 : decode prog_1_method_4_code 26 = .ok (.ireturn, 1) := by decide +kernel
theorem d_SL_isLong_0 : decode prog_1_method_5_code 0 = .ok (.iload_n 1, 1) := by decide +kernel
theorem d_SL_isLong_1 : decode prog_1_method_5_code 1 = .ok (.invokestatic 54, 3) := by decide +kernel
theorem d_SL_isLong_4 : decode prog_1_method_5_code 4 = .ok (.ifCond .eq 20, 3) := by decide +kernel
theorem d_SL_isLong_7 : decode prog_1_method_5_code 7 = .ok (.aload_n 0, 1) := by decide +kernel
theorem d_SL_isLong_8 : decode prog_1_method_5_code 8 = .ok (.getfield 18, 3) := by decide +kernel
theorem d_SL_isLong_11 : decode prog_1_method_5_code 11 = .ok (.iload_n 1, 1) := by decide +kernel
theorem d_SL_isLong_12 : decode prog_1_method_5_code 12 = .ok (.aaload, 1) := by decide +kernel
theorem d_SL_isLong_13 : decode prog_1_method_5_code 13 = .ok (.iload_n 2, 1) := by decide +kernel
theorem d_SL_isLong_14 : decode prog_1_method_5_code 14 = .ok (.invokevirtual 79, 3) := by decide +kernel
theorem d_SL_isLong_17 : decode prog_1_method_5_code 17 = .ok (.ifCond .eq 7, 3) := by decide +kernel
theorem d_SL_isLong_20 : decode prog_1_method_5_code 20 = .ok (.iconst 1, 1) := by decide +kernel
theorem d_SL_isLong_21 : decode prog_1_method_5_code 21 = .ok (.goto 4, 3) := by decide +kernel
theorem d_SL_isLong_24 : decode prog_1_method_5_code 24 = .ok (.iconst 0, 1) := by decide +kernel
theorem d_SL_isLong_25 : decode prog_1_method_5_code 25 = .ok (.ireturn, 1) := by decide +kernel
theorem d_SL_store_0 : decode prog_1_method_6_code 0 = .ok (.iload_n 1, 1) := by decide +kernel
theorem d_SL_store_1 : decode prog_1_method_6_code 1 = .ok (.invokestatic 54, 3) := by decide +kernel
theorem d_SL_store_4 : decode prog_1_method_6_code 4 = .ok (.ifCond .eq 23, 3) := by decide +kernel
theorem d_SL_store_7 : decode prog_1_method_6_code 7 = .ok (.aload_n 0, 1) := by decide +kernel
theorem d_SL_store_8 : decode prog_1_method_6_code 8 = .ok (.getfield 31, 3) := by decide +kernel
theorem d_SL_store_11 : decode prog_1_method_6_code 11 = .ok (.iload_n 1, 1) := by decide +kernel
theorem d_SL_store_12 : decode prog_1_method_6_code 12 = .ok (.invokevirtual 82, 3) := by decide +kernel
theorem d_SL_store_15 : decode prog_1_method_6_code 15 = .ok (.ifCond .ne 12, 3) := by decide +kernel
theorem d_SL_store_18 : decode prog_1_method_6_code 18 = .ok (.aload_n 0, 1) := by decide +kernel
theorem d_SL_store_19 : decode prog_1_method_6_code 19 = .ok (.iload_n 1, 1) := by decide +kernel
theorem d_SL_store_20 : decode prog_1_method_6_code 20 = .ok (.iload_n 2, 1) := by decide +kernel
theorem d_SL_store_21 : decode prog_1_method_6_code 21 = .ok (.invokevirtual 85, 3) := by decide +kernel
theorem d_SL_store_24 : decode prog_1_method_6_code 24 = .ok (.ifCond .ne 5, 3) := by decide +kernel
theorem d_SL_store_27 : decode prog_1_method_6_code 27 = .ok (.iconst 0, 1) := by decide +kernel
theorem d_SL_store_28 : decode prog_1_method_6_code 28 = .ok (.ireturn, 1) := by decide +kernel
theorem d_SL_store_29 : decode prog_1_method_6_code 29 = .ok (.aload_n 0, 1) := by decide +kernel
theorem d_SL_store_30 : decode prog_1_method_6_code 30 = .ok (.getfield 27, 3) := by decide +kernel
theorem d_SL_store_33 : decode prog_1_method_6_code 33 = .ok (.iload_n 1, 1) := by decide +kernel
theorem d_SL_store_34 : decode prog_1_method_6_code 34 = .ok (.invokevirtual 89, 3) := by decide +kernel
theorem d_SL_store_37 : decode prog_1_method_6_code 37 = .ok (.pop, 1) := by decide +kernel
theorem d_SL_store_38 : decode prog_1_method_6_code 38 = .ok (.iload_n 2, 1) := by decide +kernel
theorem d_SL_store_39 : decode prog_1_method_6_code 39 = .ok (.iconst (-1), 1) := by decide +kernel
theorem d_SL_store_40 : decode prog_1_method_6_code 40 = .ok (.if_icmp .ne 15, 3) := by decide +kernel
theorem d_SL_store_43 : decode prog_1_method_6_code 43 = .ok (.aload_n 0, 1) := by decide +kernel
theorem d_SL_store_44 : decode prog_1_method_6_code 44 = .ok (.getfield 27, 3) := by decide +kernel
theorem d_SL_store_47 : decode prog_1_method_6_code 47 = .ok (.iload_n 1, 1) := by decide +kernel
theorem d_SL_store_48 : decode prog_1_method_6_code 48 = .ok (.invokevirtual 92, 3) := by decide +kernel
theorem d_SL_store_51 : decode prog_1_method_6_code 51 = .ok (.pop, 1) := by decide +kernel
theorem d_SL_store_52 : decode prog_1_method_6_code 52 = .ok (.goto 20, 3) := by decide +kernel
theorem d_SL_store_55 : decode prog_1_method_6_code 55 = .ok (.aload_n 0, 1) := by decide +kernel
theorem d_SL_store_56 : decode prog_1_method_6_code 56 = .ok (.getfield 27, 3) := by decide +kernel
theorem d_SL_store_59 : decode prog_1_method_6_code 59 = .ok (.aload_n 0, 1) := by decide +kernel
theorem d_SL_store_60 : decode prog_1_method_6_code 60 = .ok (.getfield 27, 3) := by decide +kernel
theorem d_SL_store_63 : decode prog_1_method_6_code 63 = .ok (.iload_n 2, 1) := by decide +kernel
theorem d_SL_store_64 : decode prog_1_method_6_code 64 = .ok (.invokevirtual 94, 3) := by decide +kernel
theorem d_SL_store_67 : decode prog_1_method_6_code 67 = .ok (.iload_n 1, 1) := by decide +kernel
theorem d_SL_store_68 : decode prog_1_method_6_code 68 = .ok (.invokevirtual 97, 3) := by decide +kernel
theorem d_SL_store_71 : decode prog_1_method_6_code 71 = .ok (.pop, 1) := by decide +kernel
theorem d_SL_store_72 : decode prog_1_method_6_code 72 = .ok (.iconst 1, 1) := by decide +kernel
theorem d_SL_store_73 : decode prog_1_method_6_code 73 = .ok (.ireturn, 1) := by decide +kernel
theorem d_SL_remove_0 : decode prog_1_method_7_code 0 = .ok (.aload_n 0, 1) := by decide +kernel
theorem d_SL_remove_1 : decode prog_1_method_7_code 1 = .ok (.getfield 27, 3) := by decide +kernel
theorem d_SL_remove_4 : decode prog_1_method_7_code 4 = .ok (.iload_n 1, 1) := by decide +kernel
theorem d_SL_remove_5 : decode prog_1_method_7_code 5 = .ok (.invokevirtual 89, 3) := by decide +kernel
theorem d_SL_remove_8 : decode prog_1_method_7_code 8 = .ok (.ireturn, 1) := by decide +kernel
theorem d_SL_member_0 : decode prog_1_method_8_code 0 = .ok (.aload_n 0, 1) := by decide +kernel
theorem d_SL_member_1 : decode prog_1_method_8_code 1 = .ok (.getfield 27, 3) := by decide +kernel
theorem d_SL_member_4 : decode prog_1_method_8_code 4 = .ok (.iload_n 1, 1) := by decide +kernel
theorem d_SL_member_5 : decode prog_1_method_8_code 5 = .ok (.invokevirtual 100, 3) := by decide +kernel
theorem d_SL_member_8 : decode prog_1_method_8_code 8 = .ok (.ireturn, 1) := by decide +kernel
theorem d_SL_item_0 : decode prog_1_method_9_code 0 = .ok (.iload_n 1, 1) := by decide +kernel
theorem d_SL_item_1 : decode prog_1_method_9_code 1 = .ok (.bipush 6, 2) := by decide +kernel
theorem d_SL_item_3 : decode prog_1_method_9_code 3 = .ok (.if_icmp .eq 13, 3) := by decide +kernel
theorem d_SL_item_6 : decode prog_1_method_9_code 6 = .ok (.aload_n 0, 1) := by decide +kernel
theorem d_SL_item_7 : decode prog_1_method_9_code 7 = .ok (.iload_n 1, 1) := by decide +kernel
theorem d_SL_item_8 : decode prog_1_method_9_code 8 = .ok (.invokevirtual 103, 3) := by decide +kernel
theorem d_SL_item_11 : decode prog_1_method_9_code 11 = .ok (.ifCond .ne 5, 3) := by decide +kernel
theorem d_SL_item_14 : decode prog_1_method_9_code 14 = .ok (.iconst 0, 1) := by decide +kernel
theorem d_SL_item_15 : decode prog_1_method_9_code 15 = .ok (.ireturn, 1) := by decide +kernel
theorem d_SL_item_16 : decode prog_1_method_9_code 16 = .ok (.aload_n 0, 1) := by decide +kernel
theorem d_SL_item_17 : decode prog_1_method_9_code 17 = .ok (.getfield 31, 3) := by decide +kernel
theorem d_SL_item_20 : decode prog_1_method_9_code 20 = .ok (.iload_n 1, 1) := by decide +kernel
theorem d_SL_item_21 : decode prog_1_method_9_code 21 = .ok (.invokevirtual 92, 3) := by decide +kernel
theorem d_SL_item_24 : decode prog_1_method_9_code 24 = .ok (.ireturn, 1) := by decide +kernel
theorem d_SL_newLine_0 : decode prog_1_method_10_code 0 = .ok (.aload_n 0, 1) := by decide +kernel
theorem d_SL_newLine_1 : decode prog_1_method_10_code 1 = .ok (.getfield 31, 3) := by decide +kernel
theorem d_SL_newLine_4 : decode prog_1_method_10_code 4 = .ok (.invokevirtual 106, 3) := by decide +kernel
theorem d_SL_newLine_7 : decode prog_1_method_10_code 7 = .ok (.return_, 1) := by decide +kernel
theorem d_SL_link_0 : decode prog_1_method_11_code 0 = .ok (.iload_n 1, 1) := by decide +kernel
theorem d_SL_link_1 : decode prog_1_method_11_code 1 = .ok (.iconst (-1), 1) := by decide +kernel
theorem d_SL_link_2 : decode prog_1_method_11_code 2 = .ok (.if_icmp .eq 12, 3) := by decide +kernel
theorem d_SL_link_5 : decode prog_1_method_11_code 5 = .ok (.iload_n 1, 1) := by decide +kernel
theorem d_SL_link_6 : decode prog_1_method_11_code 6 = .ok (.invokestatic 109, 3) := by decide +kernel
theorem d_SL_link_9 : decode prog_1_method_11_code 9 = .ok (.ifCond .ne 5, 3) := by decide +kernel
theorem d_SL_link_12 : decode prog_1_method_11_code 12 = .ok (.iconst (-1), 1) := by decide +kernel
theorem d_SL_link_13 : decode prog_1_method_11_code 13 = .ok (.ireturn, 1) := by decide +kernel
theorem d_SL_link_14 : decode prog_1_method_11_code 14 = .ok (.aload_n 0, 1) := by decide +kernel
theorem d_SL_link_15 : decode prog_1_method_11_code 15 = .ok (.getfield 43, 3) := by decide +kernel
theorem d_SL_link_18 : decode prog_1_method_11_code 18 = .ok (.invokevirtual 112, 3) := by decide +kernel
theorem d_SL_link_21 : decode prog_1_method_11_code 21 = .ok (.aload_n 0, 1) := by decide +kernel
theorem d_SL_link_22 : decode prog_1_method_11_code 22 = .ok (.getfield 50, 3) := by decide +kernel
theorem d_SL_link_25 : decode prog_1_method_11_code 25 = .ok (.invokevirtual 115, 3) := by decide +kernel
theorem d_SL_link_28 : decode prog_1_method_11_code 28 = .ok (.aload_n 0, 1) := by decide +kernel
theorem d_SL_link_29 : decode prog_1_method_11_code 29 = .ok (.getfield 34, 3) := by decide +kernel
theorem d_SL_link_32 : decode prog_1_method_11_code 32 = .ok (.aload_n 0, 1) := by decide +kernel
theorem d_SL_link_33 : decode prog_1_method_11_code 33 = .ok (.getfield 31, 3) := by decide +kernel
theorem d_SL_link_36 : decode prog_1_method_11_code 36 = .ok (.aload_n 0, 1) := by decide +kernel
theorem d_SL_link_37 : decode prog_1_method_11_code 37 = .ok (.getfield 27, 3) := by decide +kernel
theorem d_SL_link_40 : decode prog_1_method_11_code 40 = .ok (.iload_n 1, 1) := by decide +kernel
theorem d_SL_link_41 : decode prog_1_method_11_code 41 = .ok (.invokevirtual 116, 3) := by decide +kernel
theorem d_SL_link_44 : decode prog_1_method_11_code 44 = .ok (.aload_n 0, 1) := by decide +kernel
theorem d_SL_link_45 : decode prog_1_method_11_code 45 = .ok (.getfield 34, 3) := by decide +kernel
theorem d_SL_link_48 : decode prog_1_method_11_code 48 = .ok (.invokevirtual 120, 3) := by decide +kernel
theorem d_SL_link_51 : decode prog_1_method_11_code 51 = .ok (.ifCond .eq 6, 3) := by decide +kernel
theorem d_SL_link_54 : decode prog_1_method_11_code 54 = .ok (.bipush (-2), 2) := by decide +kernel
theorem d_SL_link_56 : decode prog_1_method_11_code 56 = .ok (.ireturn, 1) := by decide +kernel
theorem d_SL_link_57 : decode prog_1_method_11_code 57 = .ok (.aload_n 0, 1) := by decide +kernel
theorem d_SL_link_58 : decode prog_1_method_11_code 58 = .ok (.getfield 34, 3) := by decide +kernel
theorem d_SL_link_61 : decode prog_1_method_11_code 61 = .ok (.invokevirtual 124, 3) := by decide +kernel
theorem d_SL_link_64 : decode prog_1_method_11_code 64 = .ok (.ifCond .eq 6, 3) := by decide +kernel
theorem d_SL_link_67 : decode prog_1_method_11_code 67 = .ok (.bipush (-3), 2) := by decide +kernel
theorem d_SL_link_69 : decode prog_1_method_11_code 69 = .ok (.ireturn, 1) := by decide +kernel
theorem d_SL_link_70 : decode prog_1_method_11_code 70 = .ok (.aload_n 0, 1) := by decide +kernel
theorem d_SL_link_71 : decode prog_1_method_11_code 71 = .ok (.getfield 43, 3) := by decide +kernel
theorem d_SL_link_74 : decode prog_1_method_11_code 74 = .ok (.iload_n 1, 1) := by decide +kernel
theorem d_SL_link_75 : decode prog_1_method_11_code 75 = .ok (.invokevirtual 127, 3) := by decide +kernel
theorem d_SL_link_78 : decode prog_1_method_11_code 78 = .ok (.ifCond .eq 7, 3) := by decide +kernel
theorem d_SL_link_81 : decode prog_1_method_11_code 81 = .ok (.iconst 0, 1) := by decide +kernel
theorem d_SL_link_82 : decode prog_1_method_11_code 82 = .ok (.goto 5, 3) := by decide +kernel
theorem d_SL_link_85 : decode prog_1_method_11_code 85 = .ok (.bipush (-4), 2) := by decide +kernel
theorem d_SL_link_87 : decode prog_1_method_11_code 87 = .ok (.ireturn, 1) := by decide +kernel
theorem d_SL_included_0 : decode prog_1_method_12_code 0 = .ok (.aload_n 0, 1) := by decide +kernel
theorem d_SL_included_1 : decode prog_1_method_12_code 1 = .ok (.getfield 34, 3) := by decide +kernel
theorem d_SL_included_4 : decode prog_1_method_12_code 4 = .ok (.iload_n 1, 1) := by decide +kernel
theorem d_SL_included_5 : decode prog_1_method_12_code 5 = .ok (.invokevirtual 130, 3) := by decide +kernel
theorem d_SL_included_8 : decode prog_1_method_12_code 8 = .ok (.ireturn, 1) := by decide +kernel
theorem d_SL_missing_0 : decode prog_1_method_13_code 0 = .ok (.aload_n 0, 1) := by decide +kernel
theorem d_SL_missing_1 : decode prog_1_method_13_code 1 = .ok (.getfield 34, 3) := by decide +kernel
theorem d_SL_missing_4 : decode prog_1_method_13_code 4 = .ok (.invokevirtual 124, 3) := by decide +kernel
theorem d_SL_missing_7 : decode prog_1_method_13_code 7 = .ok (.ireturn, 1) := by decide +kernel
theorem d_SL_size_0 : decode prog_1_method_14_code 0 = .ok (.aload_n 0, 1) := by decide +kernel
theorem d_SL_size_1 : decode prog_1_method_14_code 1 = .ok (.getfield 43, 3) := by decide +kernel
theorem d_SL_size_4 : decode prog_1_method_14_code 4 = .ok (.iload_n 1, 1) := by decide +kernel
theorem d_SL_size_5 : decode prog_1_method_14_code 5 = .ok (.invokevirtual 133, 3) := by decide +kernel
theorem d_SL_size_8 : decode prog_1_method_14_code 8 = .ok (.ireturn, 1) := by decide +kernel
theorem d_SL_word_0 : decode prog_1_method_15_code 0 = .ok (.aload_n 0, 1) := by decide +kernel
theorem d_SL_word_1 : decode prog_1_method_15_code 1 = .ok (.getfield 43, 3) := by decide +kernel
theorem d_SL_word_4 : decode prog_1_method_15_code 4 = .ok (.iload_n 1, 1) := by decide +kernel
theorem d_SL_word_5 : decode prog_1_method_15_code 5 = .ok (.invokevirtual 134, 3) := by decide +kernel
theorem d_SL_word_8 : decode prog_1_method_15_code 8 = .ok (.ireturn, 1) := by decide +kernel
theorem d_SL_symbol_0 : decode prog_1_method_16_code 0 = .ok (.aload_n 0, 1) := by decide +kernel
theorem d_SL_symbol_1 : decode prog_1_method_16_code 1 = .ok (.getfield 43, 3) := by decide +kernel
theorem d_SL_symbol_4 : decode prog_1_method_16_code 4 = .ok (.iload_n 1, 1) := by decide +kernel
theorem d_SL_symbol_5 : decode prog_1_method_16_code 5 = .ok (.invokevirtual 137, 3) := by decide +kernel
theorem d_SL_symbol_8 : decode prog_1_method_16_code 8 = .ok (.ireturn, 1) := by decide +kernel
theorem d_SL_strip_0 : decode prog_1_method_17_code 0 = .ok (.aload_n 0, 1) := by decide +kernel
theorem d_SL_strip_1 : decode prog_1_method_17_code 1 = .ok (.getfield 43, 3) := by decide +kernel
theorem d_SL_strip_4 : decode prog_1_method_17_code 4 = .ok (.invokevirtual 140, 3) := by decide +kernel
theorem d_SL_strip_7 : decode prog_1_method_17_code 7 = .ok (.ireturn, 1) := by decide +kernel
theorem d_SL_start_0 : decode prog_1_method_18_code 0 = .ok (.aload_n 0, 1) := by decide +kernel
theorem d_SL_start_1 : decode prog_1_method_18_code 1 = .ok (.getfield 43, 3) := by decide +kernel
theorem d_SL_start_4 : decode prog_1_method_18_code 4 = .ok (.invokevirtual 143, 3) := by decide +kernel
theorem d_SL_start_7 : decode prog_1_method_18_code 7 = .ok (.ifCond .ne 5, 3) := by decide +kernel
theorem d_SL_start_10 : decode prog_1_method_18_code 10 = .ok (.iconst 0, 1) := by decide +kernel
theorem d_SL_start_11 : decode prog_1_method_18_code 11 = .ok (.ireturn, 1) := by decide +kernel
theorem d_SL_start_12 : decode prog_1_method_18_code 12 = .ok (.aload_n 0, 1) := by decide +kernel
theorem d_SL_start_13 : decode prog_1_method_18_code 13 = .ok (.getfield 50, 3) := by decide +kernel
theorem d_SL_start_16 : decode prog_1_method_18_code 16 = .ok (.aload_n 0, 1) := by decide +kernel
theorem d_SL_start_17 : decode prog_1_method_18_code 17 = .ok (.getfield 43, 3) := by decide +kernel
theorem d_SL_start_20 : decode prog_1_method_18_code 20 = .ok (.invokevirtual 146, 3) := by decide +kernel
theorem d_SL_start_23 : decode prog_1_method_18_code 23 = .ok (.iconst 1, 1) := by decide +kernel
theorem d_SL_start_24 : decode prog_1_method_18_code 24 = .ok (.ireturn, 1) := by decide +kernel
theorem d_SL_feed_0 : decode prog_1_method_19_code 0 = .ok (.aload_n 0, 1) := by decide +kernel
theorem d_SL_feed_1 : decode prog_1_method_19_code 1 = .ok (.getfield 50, 3) := by decide +kernel
theorem d_SL_feed_4 : decode prog_1_method_19_code 4 = .ok (.iload_n 1, 1) := by decide +kernel
theorem d_SL_feed_5 : decode prog_1_method_19_code 5 = .ok (.invokevirtual 150, 3) := by decide +kernel
theorem d_SL_feed_8 : decode prog_1_method_19_code 8 = .ok (.ireturn, 1) := by decide +kernel
theorem d_SL_run_0 : decode prog_1_method_20_code 0 = .ok (.aload_n 0, 1) := by decide +kernel
theorem d_SL_run_1 : decode prog_1_method_20_code 1 = .ok (.getfield 50, 3) := by decide +kernel
theorem d_SL_run_4 : decode prog_1_method_20_code 4 = .ok (.invokevirtual 153, 3) := by decide +kernel
theorem d_SL_run_7 : decode prog_1_method_20_code 7 = .ok (.ifCond .eq 14, 3) := by decide +kernel
theorem d_SL_run_10 : decode prog_1_method_20_code 10 = .ok (.iload_n 1, 1) := by decide +kernel
theorem d_SL_run_11 : decode prog_1_method_20_code 11 = .ok (.iconst 0, 1) := by decide +kernel
theorem d_SL_run_12 : decode prog_1_method_20_code 12 = .ok (.sipush 1000, 3) := by decide +kernel
theorem d_SL_run_15 : decode prog_1_method_20_code 15 = .ok (.invokestatic 154, 3) := by decide +kernel
theorem d_SL_run_18 : decode prog_1_method_20_code 18 = .ok (.ifCond .ne 5, 3) := by decide +kernel
theorem d_SL_run_21 : decode prog_1_method_20_code 21 = .ok (.iconst (-1), 1) := by decide +kernel
theorem d_SL_run_22 : decode prog_1_method_20_code 22 = .ok (.ireturn, 1) := by decide +kernel
theorem d_SL_run_23 : decode prog_1_method_20_code 23 = .ok (.aload_n 0, 1) := by decide +kernel
theorem d_SL_run_24 : decode prog_1_method_20_code 24 = .ok (.getfield 50, 3) := by decide +kernel
theorem d_SL_run_27 : decode prog_1_method_20_code 27 = .ok (.iload_n 1, 1) := by decide +kernel
theorem d_SL_run_28 : decode prog_1_method_20_code 28 = .ok (.invokevirtual 157, 3) := by decide +kernel
theorem d_SL_run_31 : decode prog_1_method_20_code 31 = .ok (.ireturn, 1) := by decide +kernel
theorem d_SL_register_0 : decode prog_1_method_21_code 0 = .ok (.aload_n 0, 1) := by decide +kernel
theorem d_SL_register_1 : decode prog_1_method_21_code 1 = .ok (.getfield 50, 3) := by decide +kernel
theorem d_SL_register_4 : decode prog_1_method_21_code 4 = .ok (.invokevirtual 153, 3) := by decide +kernel
theorem d_SL_register_7 : decode prog_1_method_21_code 7 = .ok (.ifCond .eq 14, 3) := by decide +kernel
theorem d_SL_register_10 : decode prog_1_method_21_code 10 = .ok (.aload_n 0, 1) := by decide +kernel
theorem d_SL_register_11 : decode prog_1_method_21_code 11 = .ok (.getfield 50, 3) := by decide +kernel
theorem d_SL_register_14 : decode prog_1_method_21_code 14 = .ok (.iload_n 1, 1) := by decide +kernel
theorem d_SL_register_15 : decode prog_1_method_21_code 15 = .ok (.invokevirtual 160, 3) := by decide +kernel
theorem d_SL_register_18 : decode prog_1_method_21_code 18 = .ok (.goto 4, 3) := by decide +kernel
theorem d_SL_register_21 : decode prog_1_method_21_code 21 = .ok (.iconst (-1), 1) := by decide +kernel
theorem d_SL_register_22 : decode prog_1_method_21_code 22 = .ok (.ireturn, 1) := by decide +kernel
theorem d_SL_memory_0 : decode prog_1_method_22_code 0 = .ok (.aload_n 0, 1) := by decide +kernel
theorem d_SL_memory_1 : decode prog_1_method_22_code 1 = .ok (.getfield 50, 3) := by decide +kernel
theorem d_SL_memory_4 : decode prog_1_method_22_code 4 = .ok (.iload_n 1, 1) := by decide +kernel
theorem d_SL_memory_5 : decode prog_1_method_22_code 5 = .ok (.invokevirtual 163, 3) := by decide +kernel
theorem d_SL_memory_8 : decode prog_1_method_22_code 8 = .ok (.ireturn, 1) := by decide +kernel
theorem d_SL_emptyModules_0 : decode prog_1_method_23_code 0 = .ok (.bipush 6, 2) := by decide +kernel
theorem d_SL_emptyModules_2 : decode prog_1_method_23_code 2 = .ok (.anewarray 59, 3) := by decide +kernel
theorem d_SL_emptyModules_5 : decode prog_1_method_23_code 5 = .ok (.astore_n 0, 1) := by decide +kernel
theorem d_SL_emptyModules_6 : decode prog_1_method_23_code 6 = .ok (.iconst 0, 1) := by decide +kernel
theorem d_SL_emptyModules_7 : decode prog_1_method_23_code 7 = .ok (.istore_n 1, 1) := by decide +kernel
theorem d_SL_emptyModules_8 : decode prog_1_method_23_code 8 = .ok (.iload_n 1, 1) := by decide +kernel
theorem d_SL_emptyModules_9 : decode prog_1_method_23_code 9 = .ok (.bipush 6, 2) := by decide +kernel
theorem d_SL_emptyModules_11 : decode prog_1_method_23_code 11 = .ok (.if_icmp .ge 19, 3) := by decide +kernel
theorem d_SL_emptyModules_14 : decode prog_1_method_23_code 14 = .ok (.aload_n 0, 1) := by decide +kernel
theorem d_SL_emptyModules_15 : decode prog_1_method_23_code 15 = .ok (.iload_n 1, 1) := by decide +kernel
theorem d_SL_emptyModules_16 : decode prog_1_method_23_code 16 = .ok (.new 59, 3) := by decide +kernel
theorem d_SL_emptyModules_19 : decode prog_1_method_23_code 19 = .ok (.dup, 1) := by decide +kernel
theorem d_SL_emptyModules_20 : decode prog_1_method_23_code 20 = .ok (.invokespecial 164, 3) := by decide +kernel
theorem d_SL_emptyModules_23 : decode prog_1_method_23_code 23 = .ok (.aastore, 1) := by decide +kernel
theorem d_SL_emptyModules_24 : decode prog_1_method_23_code 24 = .ok (.iinc 1 1, 3) := by decide +kernel
theorem d_SL_emptyModules_27 : decode prog_1_method_23_code 27 = .ok (.goto (-19), 3) := by decide +kernel
theorem d_SL_emptyModules_30 : decode prog_1_method_23_code 30 = .ok (.aload_n 0, 1) := by decide +kernel
theorem d_SL_emptyModules_31 : decode prog_1_method_23_code 31 = .ok (.areturn, 1) := by decide +kernel
theorem d_SL_mayStandBefore_0 : decode prog_1_method_24_code 0 = .ok (.iload_n 2, 1) := by decide +kernel
theorem d_SL_mayStandBefore_1 : decode prog_1_method_24_code 1 = .ok (.iconst (-1), 1) := by decide +kernel
theorem d_SL_mayStandBefore_2 : decode prog_1_method_24_code 2 = .ok (.if_icmp .eq 19, 3) := by decide +kernel
theorem d_SL_mayStandBefore_5 : decode prog_1_method_24_code 5 = .ok (.iload_n 2, 1) := by decide +kernel
theorem d_SL_mayStandBefore_6 : decode prog_1_method_24_code 6 = .ok (.iload_n 1, 1) := by decide +kernel
theorem d_SL_mayStandBefore_7 : decode prog_1_method_24_code 7 = .ok (.if_icmp .eq 18, 3) := by decide +kernel
theorem d_SL_mayStandBefore_10 : decode prog_1_method_24_code 10 = .ok (.aload_n 0, 1) := by decide +kernel
theorem d_SL_mayStandBefore_11 : decode prog_1_method_24_code 11 = .ok (.getfield 27, 3) := by decide +kernel
theorem d_SL_mayStandBefore_14 : decode prog_1_method_24_code 14 = .ok (.iload_n 2, 1) := by decide +kernel
theorem d_SL_mayStandBefore_15 : decode prog_1_method_24_code 15 = .ok (.invokevirtual 82, 3) := by decide +kernel
theorem d_SL_mayStandBefore_18 : decode prog_1_method_24_code 18 = .ok (.ifCond .eq 7, 3) := by decide +kernel
theorem d_SL_mayStandBefore_21 : decode prog_1_method_24_code 21 = .ok (.iconst 1, 1) := by decide +kernel
theorem d_SL_mayStandBefore_22 : decode prog_1_method_24_code 22 = .ok (.goto 4, 3) := by decide +kernel
theorem d_SL_mayStandBefore_25 : decode prog_1_method_24_code 25 = .ok (.iconst 0, 1) := by decide +kernel
theorem d_SL_mayStandBefore_26 : decode prog_1_method_24_code 26 = .ok (.ireturn, 1) := by decide +kernel
theorem d_SL_isFreeModule_0 : decode prog_1_method_25_code 0 = .ok (.iload_n 1, 1) := by decide +kernel
theorem d_SL_isFreeModule_1 : decode prog_1_method_25_code 1 = .ok (.invokestatic 54, 3) := by decide +kernel
theorem d_SL_isFreeModule_4 : decode prog_1_method_25_code 4 = .ok (.ifCond .eq 29, 3) := by decide +kernel
theorem d_SL_isFreeModule_7 : decode prog_1_method_25_code 7 = .ok (.aload_n 0, 1) := by decide +kernel
theorem d_SL_isFreeModule_8 : decode prog_1_method_25_code 8 = .ok (.getfield 31, 3) := by decide +kernel
theorem d_SL_isFreeModule_11 : decode prog_1_method_25_code 11 = .ok (.iload_n 1, 1) := by decide +kernel
theorem d_SL_isFreeModule_12 : decode prog_1_method_25_code 12 = .ok (.invokevirtual 82, 3) := by decide +kernel
theorem d_SL_isFreeModule_15 : decode prog_1_method_25_code 15 = .ok (.ifCond .ne 18, 3) := by decide +kernel
theorem d_SL_isFreeModule_18 : decode prog_1_method_25_code 18 = .ok (.aload_n 0, 1) := by decide +kernel
theorem d_SL_isFreeModule_19 : decode prog_1_method_25_code 19 = .ok (.getfield 27, 3) := by decide +kernel
theorem d_SL_isFreeModule_22 : decode prog_1_method_25_code 22 = .ok (.iload_n 1, 1) := by decide +kernel
theorem d_SL_isFreeModule_23 : decode prog_1_method_25_code 23 = .ok (.invokevirtual 82, 3) := by decide +kernel
theorem d_SL_isFreeModule_26 : decode prog_1_method_25_code 26 = .ok (.ifCond .ne 7, 3) := by decide +kernel
theorem d_SL_isFreeModule_29 : decode prog_1_method_25_code 29 = .ok (.iconst 1, 1) := by decide +kernel
theorem d_SL_isFreeModule_30 : decode prog_1_method_25_code 30 = .ok (.goto 4, 3) := by decide +kernel
theorem d_SL_isFreeModule_33 : decode prog_1_method_25_code 33 = .ok (.iconst 0, 1) := by decide +kernel
theorem d_SL_isFreeModule_34 : decode prog_1_method_25_code 34 = .ok (.ireturn, 1) := by decide +kernel
theorem d_SL_isWithin_0 : decode prog_1_method_26_code 0 = .ok (.iload_n 0, 1) := by decide +kernel
theorem d_SL_isWithin_1 : decode prog_1_method_26_code 1 = .ok (.iload_n 1, 1) := by decide +kernel
theorem d_SL_isWithin_2 : decode prog_1_method_26_code 2 = .ok (.if_icmp .lt 12, 3) := by decide +kernel
theorem d_SL_isWithin_5 : decode prog_1_method_26_code 5 = .ok (.iload_n 0, 1) := by decide +kernel
theorem d_SL_isWithin_6 : decode prog_1_method_26_code 6 = .ok (.iload_n 2, 1) := by decide +kernel
theorem d_SL_isWithin_7 : decode prog_1_method_26_code 7 = .ok (.if_icmp .gt 7, 3) := by decide +kernel
theorem d_SL_isWithin_10 : decode prog_1_method_26_code 10 = .ok (.iconst 1, 1) := by decide +kernel
theorem d_SL_isWithin_11 : decode prog_1_method_26_code 11 = .ok (.goto 4, 3) := by decide +kernel
theorem d_SL_isWithin_14 : decode prog_1_method_26_code 14 = .ok (.iconst 0, 1) := by decide +kernel
theorem d_SL_isWithin_15 : decode prog_1_method_26_code 15 = .ok (.ireturn, 1) := by decide +kernel
theorem d_SL_isModule_0 : decode prog_1_method_27_code 0 = .ok (.iload_n 0, 1) := by decide +kernel
theorem d_SL_isModule_1 : decode prog_1_method_27_code 1 = .ok (.iconst 0, 1) := by decide +kernel
theorem d_SL_isModule_2 : decode prog_1_method_27_code 2 = .ok (.iconst 5, 1) := by decide +kernel
theorem d_SL_isModule_3 : decode prog_1_method_27_code 3 = .ok (.invokestatic 154, 3) := by decide +kernel
theorem d_SL_isModule_6 : decode prog_1_method_27_code 6 = .ok (.ireturn, 1) := by decide +kernel
theorem d_SL_isSection_0 : decode prog_1_method_28_code 0 = .ok (.iload_n 0, 1) := by decide +kernel
theorem d_SL_isSection_1 : decode prog_1_method_28_code 1 = .ok (.iconst 0, 1) := by decide +kernel
theorem d_SL_isSection_2 : decode prog_1_method_28_code 2 = .ok (.iconst 2, 1) := by decide +kernel
theorem d_SL_isSection_3 : decode prog_1_method_28_code 3 = .ok (.invokestatic 154, 3) := by decide +kernel
theorem d_SL_isSection_6 : decode prog_1_method_28_code 6 = .ok (.ireturn, 1) := by decide +kernel
theorem d_SL_isName_0 : decode prog_1_method_29_code 0 = .ok (.iload_n 0, 1) := by decide +kernel
theorem d_SL_isName_1 : decode prog_1_method_29_code 1 = .ok (.iconst 0, 1) := by decide +kernel
theorem d_SL_isName_2 : decode prog_1_method_29_code 2 = .ok (.bipush 15, 2) := by decide +kernel
theorem d_SL_isName_4 : decode prog_1_method_29_code 4 = .ok (.invokestatic 154, 3) := by decide +kernel
theorem d_SL_isName_7 : decode prog_1_method_29_code 7 = .ok (.ireturn, 1) := by decide +kernel
theorem d_SL_isWord_0 : decode prog_1_method_30_code 0 = .ok (.iload_n 0, 1) := by decide +kernel
theorem d_SL_isWord_1 : decode prog_1_method_30_code 1 = .ok (.iconst 0, 1) := by decide +kernel
theorem d_SL_isWord_2 : decode prog_1_method_30_code 2 = .ok (.ldc 165, 2) := by decide +kernel
theorem d_SL_isWord_4 : decode prog_1_method_30_code 4 = .ok (.invokestatic 154, 3) := by decide +kernel
theorem d_SL_isWord_7 : decode prog_1_method_30_code 7 = .ok (.ireturn, 1) := by decide +kernel
theorem d_SL_toWord_0 : decode prog_1_method_31_code 0 = .ok (.iload_n 0, 1) := by decide +kernel
theorem d_SL_toWord_1 : decode prog_1_method_31_code 1 = .ok (.ldc 165, 2) := by decide +kernel
theorem d_SL_toWord_3 : decode prog_1_method_31_code 3 = .ok (.iand, 1) := by decide +kernel
theorem d_SL_toWord_4 : decode prog_1_method_31_code 4 = .ok (.ireturn, 1) := by decide +kernel
theorem d_SL_setOf_0 : decode prog_1_method_32_code 0 = .ok (.iconst 1, 1) := by decide +kernel
theorem d_SL_setOf_1 : decode prog_1_method_32_code 1 = .ok (.iload_n 0, 1) := by decide +kernel
theorem d_SL_setOf_2 : decode prog_1_method_32_code 2 = .ok (.ishl, 1) := by decide +kernel
theorem d_SL_setOf_3 : decode prog_1_method_32_code 3 = .ok (.ireturn, 1) := by decide +kernel
theorem d_SL_hasName_0 : decode prog_1_method_33_code 0 = .ok (.iload_n 0, 1) := by decide +kernel
theorem d_SL_hasName_1 : decode prog_1_method_33_code 1 = .ok (.iload_n 1, 1) := by decide +kernel
theorem d_SL_hasName_2 : decode prog_1_method_33_code 2 = .ok (.ishr, 1) := by decide +kernel
theorem d_SL_hasName_3 : decode prog_1_method_33_code 3 = .ok (.iconst 1, 1) := by decide +kernel
theorem d_SL_hasName_4 : decode prog_1_method_33_code 4 = .ok (.iand, 1) := by decide +kernel
theorem d_SL_hasName_5 : decode prog_1_method_33_code 5 = .ok (.ifCond .eq 7, 3) := by decide +kernel
theorem d_SL_hasName_8 : decode prog_1_method_33_code 8 = .ok (.iconst 1, 1) := by decide +kernel
theorem d_SL_hasName_9 : decode prog_1_method_33_code 9 = .ok (.goto 4, 3) := by decide +kernel
theorem d_SL_hasName_12 : decode prog_1_method_33_code 12 = .ok (.iconst 0, 1) := by decide +kernel
theorem d_SL_hasName_13 : decode prog_1_method_33_code 13 = .ok (.ireturn, 1) := by decide +kernel
theorem d_Ref_init_0 : decode prog_8_method_1_code 0 = .ok (.aload_n 0, 1) := by decide +kernel
theorem d_Ref_init_1 : decode prog_8_method_1_code 1 = .ok (.invokespecial 1, 3) := by decide +kernel
theorem d_Ref_init_4 : decode prog_8_method_1_code 4 = .ok (.aload_n 0, 1) := by decide +kernel
theorem d_Ref_init_5 : decode prog_8_method_1_code 5 = .ok (.bipush 6, 2) := by decide +kernel
theorem d_Ref_init_7 : decode prog_8_method_1_code 7 = .ok (.newarray .int, 2) := by decide +kernel
theorem d_Ref_init_9 : decode prog_8_method_1_code 9 = .ok (.putfield 7, 3) := by decide +kernel
theorem d_Ref_init_12 : decode prog_8_method_1_code 12 = .ok (.aload_n 0, 1) := by decide +kernel
theorem d_Ref_init_13 : decode prog_8_method_1_code 13 = .ok (.bipush 120, 2) := by decide +kernel
theorem d_Ref_init_15 : decode prog_8_method_1_code 15 = .ok (.newarray .int, 2) := by decide +kernel
theorem d_Ref_init_17 : decode prog_8_method_1_code 17 = .ok (.putfield 13, 3) := by decide +kernel
theorem d_Ref_init_20 : decode prog_8_method_1_code 20 = .ok (.aload_n 0, 1) := by decide +kernel
theorem d_Ref_init_21 : decode prog_8_method_1_code 21 = .ok (.bipush 120, 2) := by decide +kernel
theorem d_Ref_init_23 : decode prog_8_method_1_code 23 = .ok (.newarray .int, 2) := by decide +kernel
theorem d_Ref_init_25 : decode prog_8_method_1_code 25 = .ok (.putfield 16, 3) := by decide +kernel
theorem d_Ref_init_28 : decode prog_8_method_1_code 28 = .ok (.aload_n 0, 1) := by decide +kernel
theorem d_Ref_init_29 : decode prog_8_method_1_code 29 = .ok (.bipush 120, 2) := by decide +kernel
theorem d_Ref_init_31 : decode prog_8_method_1_code 31 = .ok (.newarray .int, 2) := by decide +kernel
theorem d_Ref_init_33 : decode prog_8_method_1_code 33 = .ok (.putfield 19, 3) := by decide +kernel
theorem d_Ref_init_36 : decode prog_8_method_1_code 36 = .ok (.aload_n 0, 1) := by decide +kernel
theorem d_Ref_init_37 : decode prog_8_method_1_code 37 = .ok (.bipush 120, 2) := by decide +kernel
theorem d_Ref_init_39 : decode prog_8_method_1_code 39 = .ok (.newarray .int, 2) := by decide +kernel
theorem d_Ref_init_41 : decode prog_8_method_1_code 41 = .ok (.putfield 22, 3) := by decide +kernel
theorem d_Ref_init_44 : decode prog_8_method_1_code 44 = .ok (.aload_n 0, 1) := by decide +kernel
theorem d_Ref_init_45 : decode prog_8_method_1_code 45 = .ok (.bipush 120, 2) := by decide +kernel
theorem d_Ref_init_47 : decode prog_8_method_1_code 47 = .ok (.newarray .boolean, 2) := by decide +kernel
theorem d_Ref_init_49 : decode prog_8_method_1_code 49 = .ok (.putfield 25, 3) := by decide +kernel
theorem d_Ref_init_52 : decode prog_8_method_1_code 52 = .ok (.aload_n 0, 1) := by decide +kernel
theorem d_Ref_init_53 : decode prog_8_method_1_code 53 = .ok (.bipush 6, 2) := by decide +kernel
theorem d_Ref_init_55 : decode prog_8_method_1_code 55 = .ok (.newarray .int, 2) := by decide +kernel
theorem d_Ref_init_57 : decode prog_8_method_1_code 57 = .ok (.putfield 29, 3) := by decide +kernel
theorem d_Ref_init_60 : decode prog_8_method_1_code 60 = .ok (.aload_n 0, 1) := by decide +kernel
theorem d_Ref_init_61 : decode prog_8_method_1_code 61 = .ok (.bipush 8, 2) := by decide +kernel
theorem d_Ref_init_63 : decode prog_8_method_1_code 63 = .ok (.newarray .int, 2) := by decide +kernel
theorem d_Ref_init_65 : decode prog_8_method_1_code 65 = .ok (.putfield 32, 3) := by decide +kernel
theorem d_Ref_init_68 : decode prog_8_method_1_code 68 = .ok (.aload_n 0, 1) := by decide +kernel
theorem d_Ref_init_69 : decode prog_8_method_1_code 69 = .ok (.iconst (-1), 1) := by decide +kernel
theorem d_Ref_init_70 : decode prog_8_method_1_code 70 = .ok (.putfield 35, 3) := by decide +kernel
theorem d_Ref_init_73 : decode prog_8_method_1_code 73 = .ok (.aload_n 0, 1) := by decide +kernel
theorem d_Ref_init_74 : decode prog_8_method_1_code 74 = .ok (.bipush 6, 2) := by decide +kernel
theorem d_Ref_init_76 : decode prog_8_method_1_code 76 = .ok (.newarray .int, 2) := by decide +kernel
theorem d_Ref_init_78 : decode prog_8_method_1_code 78 = .ok (.putfield 39, 3) := by decide +kernel
theorem d_Ref_init_81 : decode prog_8_method_1_code 81 = .ok (.aload_n 0, 1) := by decide +kernel
theorem d_Ref_init_82 : decode prog_8_method_1_code 82 = .ok (.sipush 200, 3) := by decide +kernel
theorem d_Ref_init_85 : decode prog_8_method_1_code 85 = .ok (.newarray .int, 2) := by decide +kernel
theorem d_Ref_init_87 : decode prog_8_method_1_code 87 = .ok (.putfield 42, 3) := by decide +kernel
theorem d_Ref_init_90 : decode prog_8_method_1_code 90 = .ok (.aload_n 0, 1) := by decide +kernel
theorem d_Ref_init_91 : decode prog_8_method_1_code 91 = .ok (.iconst 3, 1) := by decide +kernel
theorem d_Ref_init_92 : decode prog_8_method_1_code 92 = .ok (.newarray .int, 2) := by decide +kernel
theorem d_Ref_init_94 : decode prog_8_method_1_code 94 = .ok (.putfield 45, 3) := by decide +kernel
theorem d_Ref_init_97 : decode prog_8_method_1_code 97 = .ok (.aload_n 0, 1) := by decide +kernel
theorem d_Ref_init_98 : decode prog_8_method_1_code 98 = .ok (.bipush 16, 2) := by decide +kernel
theorem d_Ref_init_100 : decode prog_8_method_1_code 100 = .ok (.newarray .int, 2) := by decide +kernel
theorem d_Ref_init_102 : decode prog_8_method_1_code 102 = .ok (.putfield 48, 3) := by decide +kernel
theorem d_Ref_init_105 : decode prog_8_method_1_code 105 = .ok (.aload_n 0, 1) := by decide +kernel
theorem d_Ref_init_106 : decode prog_8_method_1_code 106 = .ok (.sipush 200, 3) := by decide +kernel
theorem d_Ref_init_109 : decode prog_8_method_1_code 109 = .ok (.newarray .int, 2) := by decide +kernel
theorem d_Ref_init_111 : decode prog_8_method_1_code 111 = .ok (.putfield 51, 3) := by decide +kernel
theorem d_Ref_init_114 : decode prog_8_method_1_code 114 = .ok (.aload_n 0, 1) := by decide +kernel
theorem d_Ref_init_115 : decode prog_8_method_1_code 115 = .ok (.iconst 4, 1) := by decide +kernel
theorem d_Ref_init_116 : decode prog_8_method_1_code 116 = .ok (.newarray .int, 2) := by decide +kernel
theorem d_Ref_init_118 : decode prog_8_method_1_code 118 = .ok (.putfield 54, 3) := by decide +kernel
theorem d_Ref_init_121 : decode prog_8_method_1_code 121 = .ok (.aload_n 0, 1) := by decide +kernel
theorem d_Ref_init_122 : decode prog_8_method_1_code 122 = .ok (.bipush 8, 2) := by decide +kernel
theorem d_Ref_init_124 : decode prog_8_method_1_code 124 = .ok (.newarray .int, 2) := by decide +kernel
theorem d_Ref_init_126 : decode prog_8_method_1_code 126 = .ok (.putfield 57, 3) := by decide +kernel
theorem d_Ref_init_129 : decode prog_8_method_1_code 129 = .ok (.return_, 1) := by decide +kernel
theorem d_Ref_module_0 : decode prog_8_method_2_code 0 = .ok (.iload_n 1, 1) := by decide +kernel
theorem d_Ref_module_1 : decode prog_8_method_2_code 1 = .ok (.ifCond .lt 12, 3) := by decide +kernel
theorem d_Ref_module_4 : decode prog_8_method_2_code 4 = .ok (.iload_n 1, 1) := by decide +kernel
theorem d_Ref_module_5 : decode prog_8_method_2_code 5 = .ok (.iconst 5, 1) := by decide +kernel
theorem d_Ref_module_6 : decode prog_8_method_2_code 6 = .ok (.if_icmp .gt 7, 3) := by decide +kernel
theorem d_Ref_module_9 : decode prog_8_method_2_code 9 = .ok (.iconst 1, 1) := by decide +kernel
theorem d_Ref_module_10 : decode prog_8_method_2_code 10 = .ok (.goto 4, 3) := by decide +kernel
theorem d_Ref_module_13 : decode prog_8_method_2_code 13 = .ok (.iconst 0, 1) := by decide +kernel
theorem d_Ref_module_14 : decode prog_8_method_2_code 14 = .ok (.ireturn, 1) := by decide +kernel
theorem d_Ref_name_0 : decode prog_8_method_3_code 0 = .ok (.iload_n 1, 1) := by decide +kernel
theorem d_Ref_name_1 : decode prog_8_method_3_code 1 = .ok (.ifCond .lt 13, 3) := by decide +kernel
theorem d_Ref_name_4 : decode prog_8_method_3_code 4 = .ok (.iload_n 1, 1) := by decide +kernel
theorem d_Ref_name_5 : decode prog_8_method_3_code 5 = .ok (.bipush 15, 2) := by decide +kernel
theorem d_Ref_name_7 : decode prog_8_method_3_code 7 = .ok (.if_icmp .gt 7, 3) := by decide +kernel
theorem d_Ref_name_10 : decode prog_8_method_3_code 10 = .ok (.iconst 1, 1) := by decide +kernel
theorem d_Ref_name_11 : decode prog_8_method_3_code 11 = .ok (.goto 4, 3) := by decide +kernel
theorem d_Ref_name_14 : decode prog_8_method_3_code 14 = .ok (.iconst 0, 1) := by decide +kernel
theorem d_Ref_name_15 : decode prog_8_method_3_code 15 = .ok (.ireturn, 1) := by decide +kernel
theorem d_Ref_isWord_0 : decode prog_8_method_4_code 0 = .ok (.iload_n 1, 1) := by decide +kernel
theorem d_Ref_isWord_1 : decode prog_8_method_4_code 1 = .ok (.ifCond .lt 13, 3) := by decide +kernel
theorem d_Ref_isWord_4 : decode prog_8_method_4_code 4 = .ok (.iload_n 1, 1) := by decide +kernel
theorem d_Ref_isWord_5 : decode prog_8_method_4_code 5 = .ok (.ldc 60, 2) := by decide +kernel
theorem d_Ref_isWord_7 : decode prog_8_method_4_code 7 = .ok (.if_icmp .gt 7, 3) := by decide +kernel
theorem d_Ref_isWord_10 : decode prog_8_method_4_code 10 = .ok (.iconst 1, 1) := by decide +kernel
theorem d_Ref_isWord_11 : decode prog_8_method_4_code 11 = .ok (.goto 4, 3) := by decide +kernel
theorem d_Ref_isWord_14 : decode prog_8_method_4_code 14 = .ok (.iconst 0, 1) := by decide +kernel
theorem d_Ref_isWord_15 : decode prog_8_method_4_code 15 = .ok (.ireturn, 1) := by decide +kernel
theorem d_Ref_width_0 : decode prog_8_method_5_code 0 = .ok (.aload_n 0, 1) := by decide +kernel
theorem d_Ref_width_1 : decode prog_8_method_5_code 1 = .ok (.getfield 13, 3) := by decide +kernel
theorem d_Ref_width_4 : decode prog_8_method_5_code 4 = .ok (.iload_n 1, 1) := by decide +kernel
theorem d_Ref_width_5 : decode prog_8_method_5_code 5 = .ok (.iaload, 1) := by decide +kernel
theorem d_Ref_width_6 : decode prog_8_method_5_code 6 = .ok (.iconst 3, 1) := by decide +kernel
theorem d_Ref_width_7 : decode prog_8_method_5_code 7 = .ok (.if_icmp .eq 13, 3) := by decide +kernel
theorem d_Ref_width_10 : decode prog_8_method_5_code 10 = .ok (.aload_n 0, 1) := by decide +kernel
theorem d_Ref_width_11 : decode prog_8_method_5_code 11 = .ok (.getfield 13, 3) := by decide +kernel
theorem d_Ref_width_14 : decode prog_8_method_5_code 14 = .ok (.iload_n 1, 1) := by decide +kernel
theorem d_Ref_width_15 : decode prog_8_method_5_code 15 = .ok (.iaload, 1) := by decide +kernel
theorem d_Ref_width_16 : decode prog_8_method_5_code 16 = .ok (.iconst 4, 1) := by decide +kernel
theorem d_Ref_width_17 : decode prog_8_method_5_code 17 = .ok (.if_icmp .ne 5, 3) := by decide +kernel
theorem d_Ref_width_20 : decode prog_8_method_5_code 20 = .ok (.iconst 1, 1) := by decide +kernel
theorem d_Ref_width_21 : decode prog_8_method_5_code 21 = .ok (.ireturn, 1) := by decide +kernel
theorem d_Ref_width_22 : decode prog_8_method_5_code 22 = .ok (.aload_n 0, 1) := by decide +kernel
theorem d_Ref_width_23 : decode prog_8_method_5_code 23 = .ok (.getfield 13, 3) := by decide +kernel
theorem d_Ref_width_26 : decode prog_8_method_5_code 26 = .ok (.iload_n 1, 1) := by decide +kernel
theorem d_Ref_width_27 : decode prog_8_method_5_code 27 = .ok (.iaload, 1) := by decide +kernel
theorem d_Ref_width_28 : decode prog_8_method_5_code 28 = .ok (.iconst 5, 1) := by decide +kernel
theorem d_Ref_width_29 : decode prog_8_method_5_code 29 = .ok (.if_icmp .ne 10, 3) := by decide +kernel
theorem d_Ref_width_32 : decode prog_8_method_5_code 32 = .ok (.aload_n 0, 1) := by decide +kernel
theorem d_Ref_width_33 : decode prog_8_method_5_code 33 = .ok (.getfield 16, 3) := by decide +kernel
theorem d_Ref_width_36 : decode prog_8_method_5_code 36 = .ok (.iload_n 1, 1) := by decide +kernel
theorem d_Ref_width_37 : decode prog_8_method_5_code 37 = .ok (.iaload, 1) := by decide +kernel
theorem d_Ref_width_38 : decode prog_8_method_5_code 38 = .ok (.ireturn, 1) := by decide +kernel
theorem d_Ref_width_39 : decode prog_8_method_5_code 39 = .ok (.aload_n 0, 1) := by decide +kernel
theorem d_Ref_width_40 : decode prog_8_method_5_code 40 = .ok (.getfield 13, 3) := by decide +kernel
theorem d_Ref_width_43 : decode prog_8_method_5_code 43 = .ok (.iload_n 1, 1) := by decide +kernel
theorem d_Ref_width_44 : decode prog_8_method_5_code 44 = .ok (.iaload, 1) := by decide +kernel
theorem d_Ref_width_45 : decode prog_8_method_5_code 45 = .ok (.bipush 6, 2) := by decide +kernel
theorem d_Ref_width_47 : decode prog_8_method_5_code 47 = .ok (.if_icmp .eq 7, 3) := by decide +kernel
theorem d_Ref_width_50 : decode prog_8_method_5_code 50 = .ok (.iconst 0, 1) := by decide +kernel
theorem d_Ref_width_51 : decode prog_8_method_5_code 51 = .ok (.goto 17, 3) := by decide +kernel
theorem d_Ref_width_54 : decode prog_8_method_5_code 54 = .ok (.aload_n 0, 1) := by decide +kernel
theorem d_Ref_width_55 : decode prog_8_method_5_code 55 = .ok (.getfield 25, 3) := by decide +kernel
theorem d_Ref_width_58 : decode prog_8_method_5_code 58 = .ok (.iload_n 1, 1) := by decide +kernel
theorem d_Ref_width_59 : decode prog_8_method_5_code 59 = .ok (.baload, 1) := by decide +kernel
theorem d_Ref_width_60 : decode prog_8_method_5_code 60 = .ok (.ifCond .eq 7, 3) := by decide +kernel
theorem d_Ref_width_63 : decode prog_8_method_5_code 63 = .ok (.iconst 2, 1) := by decide +kernel
theorem d_Ref_width_64 : decode prog_8_method_5_code 64 = .ok (.goto 4, 3) := by decide +kernel
theorem d_Ref_width_67 : decode prog_8_method_5_code 67 = .ok (.iconst 1, 1) := by decide +kernel
theorem d_Ref_width_68 : decode prog_8_method_5_code 68 = .ok (.ireturn, 1) := by decide +kernel
theorem d_Ref_place_0 : decode prog_8_method_6_code 0 = .ok (.iconst 0, 1) := by decide +kernel
theorem d_Ref_place_1 : decode prog_8_method_6_code 1 = .ok (.istore 4, 2) := by decide +kernel
theorem d_Ref_place_3 : decode prog_8_method_6_code 3 = .ok (.bipush 20, 2) := by decide +kernel
theorem d_Ref_place_5 : decode prog_8_method_6_code 5 = .ok (.iload_n 1, 1) := by decide +kernel
theorem d_Ref_place_6 : decode prog_8_method_6_code 6 = .ok (.imul, 1) := by decide +kernel
theorem d_Ref_place_7 : decode prog_8_method_6_code 7 = .ok (.istore 5, 2) := by decide +kernel
theorem d_Ref_place_9 : decode prog_8_method_6_code 9 = .ok (.iload 5, 2) := by decide +kernel
theorem d_Ref_place_11 : decode prog_8_method_6_code 11 = .ok (.iload_n 2, 1) := by decide +kernel
theorem d_Ref_place_12 : decode prog_8_method_6_code 12 = .ok (.if_icmp .ge 36, 3) := by decide +kernel
theorem d_Ref_place_15 : decode prog_8_method_6_code 15 = .ok (.aload_n 0, 1) := by decide +kernel
theorem d_Ref_place_16 : decode prog_8_method_6_code 16 = .ok (.getfield 22, 3) := by decide +kernel
theorem d_Ref_place_19 : decode prog_8_method_6_code 19 = .ok (.iload 5, 2) := by decide +kernel
theorem d_Ref_place_21 : decode prog_8_method_6_code 21 = .ok (.iaload, 1) := by decide +kernel
theorem d_Ref_place_22 : decode prog_8_method_6_code 22 = .ok (.iload_n 3, 1) := by decide +kernel
theorem d_Ref_place_23 : decode prog_8_method_6_code 23 = .ok (.if_icmp .ne 15, 3) := by decide +kernel
theorem d_Ref_place_26 : decode prog_8_method_6_code 26 = .ok (.iload 4, 2) := by decide +kernel
theorem d_Ref_place_28 : decode prog_8_method_6_code 28 = .ok (.aload_n 0, 1) := by decide +kernel
theorem d_Ref_place_29 : decode prog_8_method_6_code 29 = .ok (.iload 5, 2) := by decide +kernel
theorem d_Ref_place_31 : decode prog_8_method_6_code 31 = .ok (.invokevirtual 61, 3) := by decide +kernel
theorem d_Ref_place_34 : decode prog_8_method_6_code 34 = .ok (.iadd, 1) := by decide +kernel
theorem d_Ref_place_35 : decode prog_8_method_6_code 35 = .ok (.goto 5, 3) := by decide +kernel
theorem d_Ref_place_38 : decode prog_8_method_6_code 38 = .ok (.iload 4, 2) := by decide +kernel
theorem d_Ref_place_40 : decode prog_8_method_6_code 40 = .ok (.istore 4, 2) := by decide +kernel
theorem d_Ref_place_42 : decode prog_8_method_6_code 42 = .ok (.iinc 5 1, 3) := by decide +kernel
theorem d_Ref_place_45 : decode prog_8_method_6_code 45 = .ok (.goto (-36), 3) := by decide +kernel
theorem d_Ref_place_48 : decode prog_8_method_6_code 48 = .ok (.iload 4, 2) := by decide +kernel
theorem d_Ref_place_50 : decode prog_8_method_6_code 50 = .ok (.ireturn, 1) := by decide +kernel
theorem d_Ref_definition_0 : decode prog_8_method_7_code 0 = .ok (.bipush 20, 2) := by decide +kernel
theorem d_Ref_definition_2 : decode prog_8_method_7_code 2 = .ok (.iload_n 1, 1) := by decide +kernel
theorem d_Ref_definition_3 : decode prog_8_method_7_code 3 = .ok (.imul, 1) := by decide +kernel
theorem d_Ref_definition_4 : decode prog_8_method_7_code 4 = .ok (.istore_n 3, 1) := by decide +kernel
theorem d_Ref_definition_5 : decode prog_8_method_7_code 5 = .ok (.iload_n 3, 1) := by decide +kernel
theorem d_Ref_definition_6 : decode prog_8_method_7_code 6 = .ok (.bipush 20, 2) := by decide +kernel
theorem d_Ref_definition_8 : decode prog_8_method_7_code 8 = .ok (.iload_n 1, 1) := by decide +kernel
theorem d_Ref_definition_9 : decode prog_8_method_7_code 9 = .ok (.imul, 1) := by decide +kernel
theorem d_Ref_definition_10 : decode prog_8_method_7_code 10 = .ok (.aload_n 0, 1) := by decide +kernel
theorem d_Ref_definition_11 : decode prog_8_method_7_code 11 = .ok (.getfield 7, 3) := by decide +kernel
theorem d_Ref_definition_14 : decode prog_8_method_7_code 14 = .ok (.iload_n 1, 1) := by decide +kernel
theorem d_Ref_definition_15 : decode prog_8_method_7_code 15 = .ok (.iaload, 1) := by decide +kernel
theorem d_Ref_definition_16 : decode prog_8_method_7_code 16 = .ok (.iadd, 1) := by decide +kernel
theorem d_Ref_definition_17 : decode prog_8_method_7_code 17 = .ok (.if_icmp .ge 41, 3) := by decide +kernel
theorem d_Ref_definition_20 : decode prog_8_method_7_code 20 = .ok (.aload_n 0, 1) := by decide +kernel
theorem d_Ref_definition_21 : decode prog_8_method_7_code 21 = .ok (.getfield 13, 3) := by decide +kernel
theorem d_Ref_definition_24 : decode prog_8_method_7_code 24 = .ok (.iload_n 3, 1) := by decide +kernel
theorem d_Ref_definition_25 : decode prog_8_method_7_code 25 = .ok (.iaload, 1) := by decide +kernel
theorem d_Ref_definition_26 : decode prog_8_method_7_code 26 = .ok (.ifCond .eq 14, 3) := by decide +kernel
theorem d_Ref_definition_29 : decode prog_8_method_7_code 29 = .ok (.aload_n 0, 1) := by decide +kernel
theorem d_Ref_definition_30 : decode prog_8_method_7_code 30 = .ok (.getfield 13, 3) := by decide +kernel
theorem d_Ref_definition_33 : decode prog_8_method_7_code 33 = .ok (.iload_n 3, 1) := by decide +kernel
theorem d_Ref_definition_34 : decode prog_8_method_7_code 34 = .ok (.iaload, 1) := by decide +kernel
theorem d_Ref_definition_35 : decode prog_8_method_7_code 35 = .ok (.bipush 8, 2) := by decide +kernel
theorem d_Ref_definition_37 : decode prog_8_method_7_code 37 = .ok (.if_icmp .ne 15, 3) := by decide +kernel
theorem d_Ref_definition_40 : decode prog_8_method_7_code 40 = .ok (.aload_n 0, 1) := by decide +kernel
theorem d_Ref_definition_41 : decode prog_8_method_7_code 41 = .ok (.getfield 16, 3) := by decide +kernel
theorem d_Ref_definition_44 : decode prog_8_method_7_code 44 = .ok (.iload_n 3, 1) := by decide +kernel
theorem d_Ref_definition_45 : decode prog_8_method_7_code 45 = .ok (.iaload, 1) := by decide +kernel
theorem d_Ref_definition_46 : decode prog_8_method_7_code 46 = .ok (.iload_n 2, 1) := by decide +kernel
theorem d_Ref_definition_47 : decode prog_8_method_7_code 47 = .ok (.if_icmp .ne 5, 3) := by decide +kernel
theorem d_Ref_definition_50 : decode prog_8_method_7_code 50 = .ok (.iload_n 3, 1) := by decide +kernel
theorem d_Ref_definition_51 : decode prog_8_method_7_code 51 = .ok (.ireturn, 1) := by decide +kernel
theorem d_Ref_definition_52 : decode prog_8_method_7_code 52 = .ok (.iinc 3 1, 3) := by decide +kernel
theorem d_Ref_definition_55 : decode prog_8_method_7_code 55 = .ok (.goto (-50), 3) := by decide +kernel
theorem d_Ref_definition_58 : decode prog_8_method_7_code 58 = .ok (.iconst (-1), 1) := by decide +kernel
theorem d_Ref_definition_59 : decode prog_8_method_7_code 59 = .ok (.ireturn, 1) := by decide +kernel
theorem d_Ref_common_0 : decode prog_8_method_8_code 0 = .ok (.bipush 20, 2) := by decide +kernel
theorem d_Ref_common_2 : decode prog_8_method_8_code 2 = .ok (.iload_n 1, 1) := by decide +kernel
theorem d_Ref_common_3 : decode prog_8_method_8_code 3 = .ok (.imul, 1) := by decide +kernel
theorem d_Ref_common_4 : decode prog_8_method_8_code 4 = .ok (.istore_n 3, 1) := by decide +kernel
theorem d_Ref_common_5 : decode prog_8_method_8_code 5 = .ok (.iload_n 3, 1) := by decide +kernel
theorem d_Ref_common_6 : decode prog_8_method_8_code 6 = .ok (.bipush 20, 2) := by decide +kernel
theorem d_Ref_common_8 : decode prog_8_method_8_code 8 = .ok (.iload_n 1, 1) := by decide +kernel
theorem d_Ref_common_9 : decode prog_8_method_8_code 9 = .ok (.imul, 1) := by decide +kernel
theorem d_Ref_common_10 : decode prog_8_method_8_code 10 = .ok (.aload_n 0, 1) := by decide +kernel
theorem d_Ref_common_11 : decode prog_8_method_8_code 11 = .ok (.getfield 7, 3) := by decide +kernel
theorem d_Ref_common_14 : decode prog_8_method_8_code 14 = .ok (.iload_n 1, 1) := by decide +kernel
theorem d_Ref_common_15 : decode prog_8_method_8_code 15 = .ok (.iaload, 1) := by decide +kernel
theorem d_Ref_common_16 : decode prog_8_method_8_code 16 = .ok (.iadd, 1) := by decide +kernel
theorem d_Ref_common_17 : decode prog_8_method_8_code 17 = .ok (.if_icmp .ge 37, 3) := by decide +kernel
theorem d_Ref_common_20 : decode prog_8_method_8_code 20 = .ok (.aload_n 0, 1) := by decide +kernel
theorem d_Ref_common_21 : decode prog_8_method_8_code 21 = .ok (.getfield 13, 3) := by decide +kernel
theorem d_Ref_common_24 : decode prog_8_method_8_code 24 = .ok (.iload_n 3, 1) := by decide +kernel
theorem d_Ref_common_25 : decode prog_8_method_8_code 25 = .ok (.iaload, 1) := by decide +kernel
theorem d_Ref_common_26 : decode prog_8_method_8_code 26 = .ok (.bipush 7, 2) := by decide +kernel
theorem d_Ref_common_28 : decode prog_8_method_8_code 28 = .ok (.if_icmp .ne 20, 3) := by decide +kernel
theorem d_Ref_common_31 : decode prog_8_method_8_code 31 = .ok (.aload_n 0, 1) := by decide +kernel
theorem d_Ref_common_32 : decode prog_8_method_8_code 32 = .ok (.getfield 16, 3) := by decide +kernel
theorem d_Ref_common_35 : decode prog_8_method_8_code 35 = .ok (.iload_n 3, 1) := by decide +kernel
theorem d_Ref_common_36 : decode prog_8_method_8_code 36 = .ok (.iaload, 1) := by decide +kernel
theorem d_Ref_common_37 : decode prog_8_method_8_code 37 = .ok (.iload_n 2, 1) := by decide +kernel
theorem d_Ref_common_38 : decode prog_8_method_8_code 38 = .ok (.if_icmp .ne 10, 3) := by decide +kernel
theorem d_Ref_common_41 : decode prog_8_method_8_code 41 = .ok (.aload_n 0, 1) := by decide +kernel
theorem d_Ref_common_42 : decode prog_8_method_8_code 42 = .ok (.getfield 19, 3) := by decide +kernel
theorem d_Ref_common_45 : decode prog_8_method_8_code 45 = .ok (.iload_n 3, 1) := by decide +kernel
theorem d_Ref_common_46 : decode prog_8_method_8_code 46 = .ok (.iaload, 1) := by decide +kernel
theorem d_Ref_common_47 : decode prog_8_method_8_code 47 = .ok (.ireturn, 1) := by decide +kernel
theorem d_Ref_common_48 : decode prog_8_method_8_code 48 = .ok (.iinc 3 1, 3) := by decide +kernel
theorem d_Ref_common_51 : decode prog_8_method_8_code 51 = .ok (.goto (-46), 3) := by decide +kernel
theorem d_Ref_common_54 : decode prog_8_method_8_code 54 = .ok (.iconst 0, 1) := by decide +kernel
theorem d_Ref_common_55 : decode prog_8_method_8_code 55 = .ok (.ireturn, 1) := by decide +kernel
theorem d_Ref_global_0 : decode prog_8_method_9_code 0 = .ok (.iconst 0, 1) := by decide +kernel
theorem d_Ref_global_1 : decode prog_8_method_9_code 1 = .ok (.istore_n 3, 1) := by decide +kernel
theorem d_Ref_global_2 : decode prog_8_method_9_code 2 = .ok (.bipush 20, 2) := by decide +kernel
theorem d_Ref_global_4 : decode prog_8_method_9_code 4 = .ok (.iload_n 1, 1) := by decide +kernel
theorem d_Ref_global_5 : decode prog_8_method_9_code 5 = .ok (.imul, 1) := by decide +kernel
theorem d_Ref_global_6 : decode prog_8_method_9_code 6 = .ok (.istore 4, 2) := by decide +kernel
theorem d_Ref_global_8 : decode prog_8_method_9_code 8 = .ok (.iload 4, 2) := by decide +kernel
theorem d_Ref_global_10 : decode prog_8_method_9_code 10 = .ok (.bipush 20, 2) := by decide +kernel
theorem d_Ref_global_12 : decode prog_8_method_9_code 12 = .ok (.iload_n 1, 1) := by decide +kernel
theorem d_Ref_global_13 : decode prog_8_method_9_code 13 = .ok (.imul, 1) := by decide +kernel
theorem d_Ref_global_14 : decode prog_8_method_9_code 14 = .ok (.aload_n 0, 1) := by decide +kernel
theorem d_Ref_global_15 : decode prog_8_method_9_code 15 = .ok (.getfield 7, 3) := by decide +kernel
theorem d_Ref_global_18 : decode prog_8_method_9_code 18 = .ok (.iload_n 1, 1) := by decide +kernel
theorem d_Ref_global_19 : decode prog_8_method_9_code 19 = .ok (.iaload, 1) := by decide +kernel
theorem d_Ref_global_20 : decode prog_8_method_9_code 20 = .ok (.iadd, 1) := by decide +kernel
theorem d_Ref_global_21 : decode prog_8_method_9_code 21 = .ok (.if_icmp .ge 41, 3) := by decide +kernel
theorem d_Ref_global_24 : decode prog_8_method_9_code 24 = .ok (.iload_n 3, 1) := by decide +kernel
theorem d_Ref_global_25 : decode prog_8_method_9_code 25 = .ok (.ifCond .ne 25, 3) := by decide +kernel
theorem d_Ref_global_28 : decode prog_8_method_9_code 28 = .ok (.aload_n 0, 1) := by decide +kernel
theorem d_Ref_global_29 : decode prog_8_method_9_code 29 = .ok (.getfield 13, 3) := by decide +kernel
theorem d_Ref_global_32 : decode prog_8_method_9_code 32 = .ok (.iload 4, 2) := by decide +kernel
theorem d_Ref_global_34 : decode prog_8_method_9_code 34 = .ok (.iaload, 1) := by decide +kernel
theorem d_Ref_global_35 : decode prog_8_method_9_code 35 = .ok (.iconst 1, 1) := by decide +kernel
theorem d_Ref_global_36 : decode prog_8_method_9_code 36 = .ok (.if_icmp .ne 18, 3) := by decide +kernel
theorem d_Ref_global_39 : decode prog_8_method_9_code 39 = .ok (.aload_n 0, 1) := by decide +kernel
theorem d_Ref_global_40 : decode prog_8_method_9_code 40 = .ok (.getfield 16, 3) := by decide +kernel
theorem d_Ref_global_43 : decode prog_8_method_9_code 43 = .ok (.iload 4, 2) := by decide +kernel
theorem d_Ref_global_45 : decode prog_8_method_9_code 45 = .ok (.iaload, 1) := by decide +kernel
theorem d_Ref_global_46 : decode prog_8_method_9_code 46 = .ok (.iload_n 2, 1) := by decide +kernel
theorem d_Ref_global_47 : decode prog_8_method_9_code 47 = .ok (.if_icmp .ne 7, 3) := by decide +kernel
theorem d_Ref_global_50 : decode prog_8_method_9_code 50 = .ok (.iconst 1, 1) := by decide +kernel
theorem d_Ref_global_51 : decode prog_8_method_9_code 51 = .ok (.goto 4, 3) := by decide +kernel
theorem d_Ref_global_54 : decode prog_8_method_9_code 54 = .ok (.iconst 0, 1) := by decide +kernel
theorem d_Ref_global_55 : decode prog_8_method_9_code 55 = .ok (.istore_n 3, 1) := by decide +kernel
theorem d_Ref_global_56 : decode prog_8_method_9_code 56 = .ok (.iinc 4 1, 3) := by decide +kernel
theorem d_Ref_global_59 : decode prog_8_method_9_code 59 = .ok (.goto (-51), 3) := by decide +kernel
theorem d_Ref_global_62 : decode prog_8_method_9_code 62 = .ok (.iload_n 3, 1) := by decide +kernel
theorem d_Ref_global_63 : decode prog_8_method_9_code 63 = .ok (.ireturn, 1) := by decide +kernel
theorem d_Ref_exports_0 : decode prog_8_method_10_code 0 = .ok (.aload_n 0, 1) := by decide +kernel
theorem d_Ref_exports_1 : decode prog_8_method_10_code 1 = .ok (.iload_n 1, 1) := by decide +kernel
theorem d_Ref_exports_2 : decode prog_8_method_10_code 2 = .ok (.iload_n 2, 1) := by decide +kernel
theorem d_Ref_exports_3 : decode prog_8_method_10_code 3 = .ok (.invokevirtual 65, 3) := by decide +kernel
theorem d_Ref_exports_6 : decode prog_8_method_10_code 6 = .ok (.ifCond .eq 16, 3) := by decide +kernel
theorem d_Ref_exports_9 : decode prog_8_method_10_code 9 = .ok (.aload_n 0, 1) := by decide +kernel
theorem d_Ref_exports_10 : decode prog_8_method_10_code 10 = .ok (.iload_n 1, 1) := by decide +kernel
theorem d_Ref_exports_11 : decode prog_8_method_10_code 11 = .ok (.iload_n 2, 1) := by decide +kernel
theorem d_Ref_exports_12 : decode prog_8_method_10_code 12 = .ok (.invokevirtual 69, 3) := by decide +kernel
theorem d_Ref_exports_15 : decode prog_8_method_10_code 15 = .ok (.ifCond .lt 7, 3) := by decide +kernel
theorem d_Ref_exports_18 : decode prog_8_method_10_code 18 = .ok (.iconst 1, 1) := by decide +kernel
theorem d_Ref_exports_19 : decode prog_8_method_10_code 19 = .ok (.goto 4, 3) := by decide +kernel
theorem d_Ref_exports_22 : decode prog_8_method_10_code 22 = .ok (.iconst 0, 1) := by decide +kernel
theorem d_Ref_exports_23 : decode prog_8_method_10_code 23 = .ok (.ireturn, 1) := by decide +kernel
theorem d_Ref_refers_0 : decode prog_8_method_11_code 0 = .ok (.aload_n 0, 1) := by decide +kernel
theorem d_Ref_refers_1 : decode prog_8_method_11_code 1 = .ok (.iload_n 1, 1) := by decide +kernel
theorem d_Ref_refers_2 : decode prog_8_method_11_code 2 = .ok (.iload_n 2, 1) := by decide +kernel
theorem d_Ref_refers_3 : decode prog_8_method_11_code 3 = .ok (.invokevirtual 69, 3) := by decide +kernel
theorem d_Ref_refers_6 : decode prog_8_method_11_code 6 = .ok (.ifCond .ge 12, 3) := by decide +kernel
theorem d_Ref_refers_9 : decode prog_8_method_11_code 9 = .ok (.aload_n 0, 1) := by decide +kernel
theorem d_Ref_refers_10 : decode prog_8_method_11_code 10 = .ok (.iload_n 1, 1) := by decide +kernel
theorem d_Ref_refers_11 : decode prog_8_method_11_code 11 = .ok (.iload_n 2, 1) := by decide +kernel
theorem d_Ref_refers_12 : decode prog_8_method_11_code 12 = .ok (.invokevirtual 73, 3) := by decide +kernel
theorem d_Ref_refers_15 : decode prog_8_method_11_code 15 = .ok (.ifCond .le 5, 3) := by decide +kernel
theorem d_Ref_refers_18 : decode prog_8_method_11_code 18 = .ok (.iconst 0, 1) := by decide +kernel
theorem d_Ref_refers_19 : decode prog_8_method_11_code 19 = .ok (.ireturn, 1) := by decide +kernel
theorem d_Ref_refers_20 : decode prog_8_method_11_code 20 = .ok (.aload_n 0, 1) := by decide +kernel
theorem d_Ref_refers_21 : decode prog_8_method_11_code 21 = .ok (.iload_n 1, 1) := by decide +kernel
theorem d_Ref_refers_22 : decode prog_8_method_11_code 22 = .ok (.iload_n 2, 1) := by decide +kernel
theorem d_Ref_refers_23 : decode prog_8_method_11_code 23 = .ok (.invokevirtual 65, 3) := by decide +kernel
theorem d_Ref_refers_26 : decode prog_8_method_11_code 26 = .ok (.istore_n 3, 1) := by decide +kernel
theorem d_Ref_refers_27 : decode prog_8_method_11_code 27 = .ok (.bipush 20, 2) := by decide +kernel
theorem d_Ref_refers_29 : decode prog_8_method_11_code 29 = .ok (.iload_n 1, 1) := by decide +kernel
theorem d_Ref_refers_30 : decode prog_8_method_11_code 30 = .ok (.imul, 1) := by decide +kernel
theorem d_Ref_refers_31 : decode prog_8_method_11_code 31 = .ok (.istore 4, 2) := by decide +kernel
theorem d_Ref_refers_33 : decode prog_8_method_11_code 33 = .ok (.iload 4, 2) := by decide +kernel
theorem d_Ref_refers_35 : decode prog_8_method_11_code 35 = .ok (.bipush 20, 2) := by decide +kernel
theorem d_Ref_refers_37 : decode prog_8_method_11_code 37 = .ok (.iload_n 1, 1) := by decide +kernel
theorem d_Ref_refers_38 : decode prog_8_method_11_code 38 = .ok (.imul, 1) := by decide +kernel
theorem d_Ref_refers_39 : decode prog_8_method_11_code 39 = .ok (.aload_n 0, 1) := by decide +kernel
theorem d_Ref_refers_40 : decode prog_8_method_11_code 40 = .ok (.getfield 7, 3) := by decide +kernel
theorem d_Ref_refers_43 : decode prog_8_method_11_code 43 = .ok (.iload_n 1, 1) := by decide +kernel
theorem d_Ref_refers_44 : decode prog_8_method_11_code 44 = .ok (.iaload, 1) := by decide +kernel
theorem d_Ref_refers_45 : decode prog_8_method_11_code 45 = .ok (.iadd, 1) := by decide +kernel
theorem d_Ref_refers_46 : decode prog_8_method_11_code 46 = .ok (.if_icmp .ge 53, 3) := by decide +kernel
theorem d_Ref_refers_49 : decode prog_8_method_11_code 49 = .ok (.iload_n 3, 1) := by decide +kernel
theorem d_Ref_refers_50 : decode prog_8_method_11_code 50 = .ok (.ifCond .ne 37, 3) := by decide +kernel
theorem d_Ref_refers_53 : decode prog_8_method_11_code 53 = .ok (.aload_n 0, 1) := by decide +kernel
theorem d_Ref_refers_54 : decode prog_8_method_11_code 54 = .ok (.getfield 13, 3) := by decide +kernel
theorem d_Ref_refers_57 : decode prog_8_method_11_code 57 = .ok (.iload 4, 2) := by decide +kernel
theorem d_Ref_refers_59 : decode prog_8_method_11_code 59 = .ok (.iaload, 1) := by decide +kernel
theorem d_Ref_refers_60 : decode prog_8_method_11_code 60 = .ok (.iconst 4, 1) := by decide +kernel
theorem d_Ref_refers_61 : decode prog_8_method_11_code 61 = .ok (.if_icmp .eq 15, 3) := by decide +kernel
theorem d_Ref_refers_64 : decode prog_8_method_11_code 64 = .ok (.aload_n 0, 1) := by decide +kernel
theorem d_Ref_refers_65 : decode prog_8_method_11_code 65 = .ok (.getfield 13, 3) := by decide +kernel
theorem d_Ref_refers_68 : decode prog_8_method_11_code 68 = .ok (.iload 4, 2) := by decide +kernel
theorem d_Ref_refers_70 : decode prog_8_method_11_code 70 = .ok (.iaload, 1) := by decide +kernel
theorem d_Ref_refers_71 : decode prog_8_method_11_code 71 = .ok (.bipush 6, 2) := by decide +kernel
theorem d_Ref_refers_73 : decode prog_8_method_11_code 73 = .ok (.if_icmp .ne 18, 3) := by decide +kernel
theorem d_Ref_refers_76 : decode prog_8_method_11_code 76 = .ok (.aload_n 0, 1) := by decide +kernel
theorem d_Ref_refers_77 : decode prog_8_method_11_code 77 = .ok (.getfield 16, 3) := by decide +kernel
theorem d_Ref_refers_80 : decode prog_8_method_11_code 80 = .ok (.iload 4, 2) := by decide +kernel
theorem d_Ref_refers_82 : decode prog_8_method_11_code 82 = .ok (.iaload, 1) := by decide +kernel
theorem d_Ref_refers_83 : decode prog_8_method_11_code 83 = .ok (.iload_n 2, 1) := by decide +kernel
theorem d_Ref_refers_84 : decode prog_8_method_11_code 84 = .ok (.if_icmp .ne 7, 3) := by decide +kernel
theorem d_Ref_refers_87 : decode prog_8_method_11_code 87 = .ok (.iconst 1, 1) := by decide +kernel
theorem d_Ref_refers_88 : decode prog_8_method_11_code 88 = .ok (.goto 4, 3) := by decide +kernel
theorem d_Ref_refers_91 : decode prog_8_method_11_code 91 = .ok (.iconst 0, 1) := by decide +kernel
theorem d_Ref_refers_92 : decode prog_8_method_11_code 92 = .ok (.istore_n 3, 1) := by decide +kernel
theorem d_Ref_refers_93 : decode prog_8_method_11_code 93 = .ok (.iinc 4 1, 3) := by decide +kernel
theorem d_Ref_refers_96 : decode prog_8_method_11_code 96 = .ok (.goto (-63), 3) := by decide +kernel
theorem d_Ref_refers_99 : decode prog_8_method_11_code 99 = .ok (.iload_n 3, 1) := by decide +kernel
theorem d_Ref_refers_100 : decode prog_8_method_11_code 100 = .ok (.ireturn, 1) := by decide +kernel
theorem d_Ref_distance_0 : decode prog_8_method_12_code 0 = .ok (.aload_n 0, 1) := by decide +kernel
theorem d_Ref_distance_1 : decode prog_8_method_12_code 1 = .ok (.iload_n 1, 1) := by decide +kernel
theorem d_Ref_distance_2 : decode prog_8_method_12_code 2 = .ok (.aload_n 0, 1) := by decide +kernel
theorem d_Ref_distance_3 : decode prog_8_method_12_code 3 = .ok (.getfield 16, 3) := by decide +kernel
theorem d_Ref_distance_6 : decode prog_8_method_12_code 6 = .ok (.iload_n 2, 1) := by decide +kernel
theorem d_Ref_distance_7 : decode prog_8_method_12_code 7 = .ok (.iaload, 1) := by decide +kernel
theorem d_Ref_distance_8 : decode prog_8_method_12_code 8 = .ok (.invokevirtual 69, 3) := by decide +kernel
theorem d_Ref_distance_11 : decode prog_8_method_12_code 11 = .ok (.istore_n 3, 1) := by decide +kernel
theorem d_Ref_distance_12 : decode prog_8_method_12_code 12 = .ok (.iload_n 3, 1) := by decide +kernel
theorem d_Ref_distance_13 : decode prog_8_method_12_code 13 = .ok (.ifCond .lt 21, 3) := by decide +kernel
theorem d_Ref_distance_16 : decode prog_8_method_12_code 16 = .ok (.aload_n 0, 1) := by decide +kernel
theorem d_Ref_distance_17 : decode prog_8_method_12_code 17 = .ok (.getfield 13, 3) := by decide +kernel
theorem d_Ref_distance_20 : decode prog_8_method_12_code 20 = .ok (.iload_n 3, 1) := by decide +kernel
theorem d_Ref_distance_21 : decode prog_8_method_12_code 21 = .ok (.iaload, 1) := by decide +kernel
theorem d_Ref_distance_22 : decode prog_8_method_12_code 22 = .ok (.ifCond .ne 12, 3) := by decide +kernel
theorem d_Ref_distance_25 : decode prog_8_method_12_code 25 = .ok (.aload_n 0, 1) := by decide +kernel
theorem d_Ref_distance_26 : decode prog_8_method_12_code 26 = .ok (.getfield 22, 3) := by decide +kernel
theorem d_Ref_distance_29 : decode prog_8_method_12_code 29 = .ok (.iload_n 3, 1) := by decide +kernel
theorem d_Ref_distance_30 : decode prog_8_method_12_code 30 = .ok (.iaload, 1) := by decide +kernel
theorem d_Ref_distance_31 : decode prog_8_method_12_code 31 = .ok (.ifCond .eq 7, 3) := by decide +kernel
theorem d_Ref_distance_34 : decode prog_8_method_12_code 34 = .ok (.sipush 1000, 3) := by decide +kernel
theorem d_Ref_distance_37 : decode prog_8_method_12_code 37 = .ok (.ireturn, 1) := by decide +kernel
theorem d_Ref_distance_38 : decode prog_8_method_12_code 38 = .ok (.aload_n 0, 1) := by decide +kernel
theorem d_Ref_distance_39 : decode prog_8_method_12_code 39 = .ok (.iload_n 1, 1) := by decide +kernel
theorem d_Ref_distance_40 : decode prog_8_method_12_code 40 = .ok (.iload_n 3, 1) := by decide +kernel
theorem d_Ref_distance_41 : decode prog_8_method_12_code 41 = .ok (.iconst 0, 1) := by decide +kernel
theorem d_Ref_distance_42 : decode prog_8_method_12_code 42 = .ok (.invokevirtual 76, 3) := by decide +kernel
theorem d_Ref_distance_45 : decode prog_8_method_12_code 45 = .ok (.istore 4, 2) := by decide +kernel
theorem d_Ref_distance_47 : decode prog_8_method_12_code 47 = .ok (.aload_n 0, 1) := by decide +kernel
theorem d_Ref_distance_48 : decode prog_8_method_12_code 48 = .ok (.iload_n 1, 1) := by decide +kernel
theorem d_Ref_distance_49 : decode prog_8_method_12_code 49 = .ok (.iload_n 2, 1) := by decide +kernel
theorem d_Ref_distance_50 : decode prog_8_method_12_code 50 = .ok (.iconst 0, 1) := by decide +kernel
theorem d_Ref_distance_51 : decode prog_8_method_12_code 51 = .ok (.invokevirtual 76, 3) := by decide +kernel
theorem d_Ref_distance_54 : decode prog_8_method_12_code 54 = .ok (.istore 5, 2) := by decide +kernel
theorem d_Ref_distance_56 : decode prog_8_method_12_code 56 = .ok (.iload 4, 2) := by decide +kernel
theorem d_Ref_distance_58 : decode prog_8_method_12_code 58 = .ok (.iload 5, 2) := by decide +kernel
theorem d_Ref_distance_60 : decode prog_8_method_12_code 60 = .ok (.isub, 1) := by decide +kernel
theorem d_Ref_distance_61 : decode prog_8_method_12_code 61 = .ok (.iconst 1, 1) := by decide +kernel
theorem d_Ref_distance_62 : decode prog_8_method_12_code 62 = .ok (.isub, 1) := by decide +kernel
theorem d_Ref_distance_63 : decode prog_8_method_12_code 63 = .ok (.ireturn, 1) := by decide +kernel
theorem d_Ref_settle_0 : decode prog_8_method_13_code 0 = .ok (.bipush 20, 2) := by decide +kernel
theorem d_Ref_settle_2 : decode prog_8_method_13_code 2 = .ok (.iload_n 1, 1) := by decide +kernel
theorem d_Ref_settle_3 : decode prog_8_method_13_code 3 = .ok (.imul, 1) := by decide +kernel
theorem d_Ref_settle_4 : decode prog_8_method_13_code 4 = .ok (.aload_n 0, 1) := by decide +kernel
theorem d_Ref_settle_5 : decode prog_8_method_13_code 5 = .ok (.getfield 7, 3) := by decide +kernel
theorem d_Ref_settle_8 : decode prog_8_method_13_code 8 = .ok (.iload_n 1, 1) := by decide +kernel
theorem d_Ref_settle_9 : decode prog_8_method_13_code 9 = .ok (.iaload, 1) := by decide +kernel
theorem d_Ref_settle_10 : decode prog_8_method_13_code 10 = .ok (.iadd, 1) := by decide +kernel
theorem d_Ref_settle_11 : decode prog_8_method_13_code 11 = .ok (.istore_n 2, 1) := by decide +kernel
theorem d_Ref_settle_12 : decode prog_8_method_13_code 12 = .ok (.bipush 20, 2) := by decide +kernel
theorem d_Ref_settle_14 : decode prog_8_method_13_code 14 = .ok (.iload_n 1, 1) := by decide +kernel
theorem d_Ref_settle_15 : decode prog_8_method_13_code 15 = .ok (.imul, 1) := by decide +kernel
theorem d_Ref_settle_16 : decode prog_8_method_13_code 16 = .ok (.istore_n 3, 1) := by decide +kernel
theorem d_Ref_settle_17 : decode prog_8_method_13_code 17 = .ok (.iload_n 3, 1) := by decide +kernel
theorem d_Ref_settle_18 : decode prog_8_method_13_code 18 = .ok (.iload_n 2, 1) := by decide +kernel
theorem d_Ref_settle_19 : decode prog_8_method_13_code 19 = .ok (.if_icmp .ge 16, 3) := by decide +kernel
theorem d_Ref_settle_22 : decode prog_8_method_13_code 22 = .ok (.aload_n 0, 1) := by decide +kernel
theorem d_Ref_settle_23 : decode prog_8_method_13_code 23 = .ok (.getfield 25, 3) := by decide +kernel
theorem d_Ref_settle_26 : decode prog_8_method_13_code 26 = .ok (.iload_n 3, 1) := by decide +kernel
theorem d_Ref_settle_27 : decode prog_8_method_13_code 27 = .ok (.iconst 0, 1) := by decide +kernel
theorem d_Ref_settle_28 : decode prog_8_method_13_code 28 = .ok (.bastore, 1) := by decide +kernel
theorem d_Ref_settle_29 : decode prog_8_method_13_code 29 = .ok (.iinc 3 1, 3) := by decide +kernel
theorem d_Ref_settle_32 : decode prog_8_method_13_code 32 = .ok (.goto (-15), 3) := by decide +kernel
theorem d_Ref_settle_35 : decode prog_8_method_13_code 35 = .ok (.iconst 0, 1) := by decide +kernel
theorem d_Ref_settle_36 : decode prog_8_method_13_code 36 = .ok (.istore_n 3, 1) := by decide +kernel
theorem d_Ref_settle_37 : decode prog_8_method_13_code 37 = .ok (.iload_n 3, 1) := by decide +kernel
theorem d_Ref_settle_38 : decode prog_8_method_13_code 38 = .ok (.bipush 21, 2) := by decide +kernel
theorem d_Ref_settle_40 : decode prog_8_method_13_code 40 = .ok (.if_icmp .ge 88, 3) := by decide +kernel
theorem d_Ref_settle_43 : decode prog_8_method_13_code 43 = .ok (.bipush 20, 2) := by decide +kernel
theorem d_Ref_settle_45 : decode prog_8_method_13_code 45 = .ok (.iload_n 1, 1) := by decide +kernel
theorem d_Ref_settle_46 : decode prog_8_method_13_code 46 = .ok (.imul, 1) := by decide +kernel
theorem d_Ref_settle_47 : decode prog_8_method_13_code 47 = .ok (.istore 4, 2) := by decide +kernel
theorem d_Ref_settle_49 : decode prog_8_method_13_code 49 = .ok (.iload 4, 2) := by decide +kernel
theorem d_Ref_settle_51 : decode prog_8_method_13_code 51 = .ok (.iload_n 2, 1) := by decide +kernel
theorem d_Ref_settle_52 : decode prog_8_method_13_code 52 = .ok (.if_icmp .ge 55, 3) := by decide +kernel
theorem d_Ref_settle_55 : decode prog_8_method_13_code 55 = .ok (.aload_n 0, 1) := by decide +kernel
theorem d_Ref_settle_56 : decode prog_8_method_13_code 56 = .ok (.getfield 13, 3) := by decide +kernel
theorem d_Ref_settle_59 : decode prog_8_method_13_code 59 = .ok (.iload 4, 2) := by decide +kernel
theorem d_Ref_settle_61 : decode prog_8_method_13_code 61 = .ok (.iaload, 1) := by decide +kernel
theorem d_Ref_settle_62 : decode prog_8_method_13_code 62 = .ok (.bipush 6, 2) := by decide +kernel
theorem d_Ref_settle_64 : decode prog_8_method_13_code 64 = .ok (.if_icmp .ne 37, 3) := by decide +kernel
theorem d_Ref_settle_67 : decode prog_8_method_13_code 67 = .ok (.aload_n 0, 1) := by decide +kernel
theorem d_Ref_settle_68 : decode prog_8_method_13_code 68 = .ok (.getfield 25, 3) := by decide +kernel
theorem d_Ref_settle_71 : decode prog_8_method_13_code 71 = .ok (.iload 4, 2) := by decide +kernel
theorem d_Ref_settle_73 : decode prog_8_method_13_code 73 = .ok (.baload, 1) := by decide +kernel
theorem d_Ref_settle_74 : decode prog_8_method_13_code 74 = .ok (.ifCond .ne 27, 3) := by decide +kernel
theorem d_Ref_settle_77 : decode prog_8_method_13_code 77 = .ok (.aload_n 0, 1) := by decide +kernel
theorem d_Ref_settle_78 : decode prog_8_method_13_code 78 = .ok (.iload_n 1, 1) := by decide +kernel
theorem d_Ref_settle_79 : decode prog_8_method_13_code 79 = .ok (.iload 4, 2) := by decide +kernel
theorem d_Ref_settle_81 : decode prog_8_method_13_code 81 = .ok (.invokevirtual 80, 3) := by decide +kernel
theorem d_Ref_settle_84 : decode prog_8_method_13_code 84 = .ok (.bipush (-8), 2) := by decide +kernel
theorem d_Ref_settle_86 : decode prog_8_method_13_code 86 = .ok (.if_icmp .lt 21, 3) := by decide +kernel
theorem d_Ref_settle_89 : decode prog_8_method_13_code 89 = .ok (.aload_n 0, 1) := by decide +kernel
theorem d_Ref_settle_90 : decode prog_8_method_13_code 90 = .ok (.iload_n 1, 1) := by decide +kernel
theorem d_Ref_settle_91 : decode prog_8_method_13_code 91 = .ok (.iload 4, 2) := by decide +kernel
theorem d_Ref_settle_93 : decode prog_8_method_13_code 93 = .ok (.invokevirtual 80, 3) := by decide +kernel
theorem d_Ref_settle_96 : decode prog_8_method_13_code 96 = .ok (.bipush 7, 2) := by decide +kernel
theorem d_Ref_settle_98 : decode prog_8_method_13_code 98 = .ok (.if_icmp .gt 9, 3) := by decide +kernel
theorem d_Ref_settle_101 : decode prog_8_method_13_code 101 = .ok (.iinc 4 1, 3) := by decide +kernel
theorem d_Ref_settle_104 : decode prog_8_method_13_code 104 = .ok (.goto (-55), 3) := by decide +kernel
theorem d_Ref_settle_107 : decode prog_8_method_13_code 107 = .ok (.iload 4, 2) := by decide +kernel
theorem d_Ref_settle_109 : decode prog_8_method_13_code 109 = .ok (.iload_n 2, 1) := by decide +kernel
theorem d_Ref_settle_110 : decode prog_8_method_13_code 110 = .ok (.if_icmp .ne 4, 3) := by decide +kernel
theorem d_Ref_settle_113 : decode prog_8_method_13_code 113 = .ok (.return_, 1) := by decide +kernel
theorem d_Ref_settle_114 : decode prog_8_method_13_code 114 = .ok (.aload_n 0, 1) := by decide +kernel
theorem d_Ref_settle_115 : decode prog_8_method_13_code 115 = .ok (.getfield 25, 3) := by decide +kernel
theorem d_Ref_settle_118 : decode prog_8_method_13_code 118 = .ok (.iload 4, 2) := by decide +kernel
theorem d_Ref_settle_120 : decode prog_8_method_13_code 120 = .ok (.iconst 1, 1) := by decide +kernel
theorem d_Ref_settle_121 : decode prog_8_method_13_code 121 = .ok (.bastore, 1) := by decide +kernel
theorem d_Ref_settle_122 : decode prog_8_method_13_code 122 = .ok (.iinc 3 1, 3) := by decide +kernel
theorem d_Ref_settle_125 : decode prog_8_method_13_code 125 = .ok (.goto (-88), 3) := by decide +kernel
theorem d_Ref_settle_128 : decode prog_8_method_13_code 128 = .ok (.return_, 1) := by decide +kernel
theorem d_Ref_fits_0 : decode prog_8_method_14_code 0 = .ok (.iload_n 1, 1) := by decide +kernel
theorem d_Ref_fits_1 : decode prog_8_method_14_code 1 = .ok (.tableswitch 193 0 8 #[51, 51, 57, 72, 78, 106, 123, 146, 171], 51) := by decide +kernel
theorem d_Ref_fits_52 : decode prog_8_method_14_code 52 = .ok (.aload_n 0, 1) := by decide +kernel
theorem d_Ref_fits_53 : decode prog_8_method_14_code 53 = .ok (.iload_n 2, 1) := by decide +kernel
theorem d_Ref_fits_54 : decode prog_8_method_14_code 54 = .ok (.invokevirtual 83, 3) := by decide +kernel
theorem d_Ref_fits_57 : decode prog_8_method_14_code 57 = .ok (.ireturn, 1) := by decide +kernel
theorem d_Ref_fits_58 : decode prog_8_method_14_code 58 = .ok (.iload_n 2, 1) := by decide +kernel
theorem d_Ref_fits_59 : decode prog_8_method_14_code 59 = .ok (.ifCond .lt 12, 3) := by decide +kernel
theorem d_Ref_fits_62 : decode prog_8_method_14_code 62 = .ok (.iload_n 2, 1) := by decide +kernel
theorem d_Ref_fits_63 : decode prog_8_method_14_code 63 = .ok (.iconst 2, 1) := by decide +kernel
theorem d_Ref_fits_64 : decode prog_8_method_14_code 64 = .ok (.if_icmp .gt 7, 3) := by decide +kernel
theorem d_Ref_fits_67 : decode prog_8_method_14_code 67 = .ok (.iconst 1, 1) := by decide +kernel
theorem d_Ref_fits_68 : decode prog_8_method_14_code 68 = .ok (.goto 4, 3) := by decide +kernel
theorem d_Ref_fits_71 : decode prog_8_method_14_code 71 = .ok (.iconst 0, 1) := by decide +kernel
theorem d_Ref_fits_72 : decode prog_8_method_14_code 72 = .ok (.ireturn, 1) := by decide +kernel
theorem d_Ref_fits_73 : decode prog_8_method_14_code 73 = .ok (.aload_n 0, 1) := by decide +kernel
theorem d_Ref_fits_74 : decode prog_8_method_14_code 74 = .ok (.iload_n 2, 1) := by decide +kernel
theorem d_Ref_fits_75 : decode prog_8_method_14_code 75 = .ok (.invokevirtual 87, 3) := by decide +kernel
theorem d_Ref_fits_78 : decode prog_8_method_14_code 78 = .ok (.ireturn, 1) := by decide +kernel
theorem d_Ref_fits_79 : decode prog_8_method_14_code 79 = .ok (.aload_n 0, 1) := by decide +kernel
theorem d_Ref_fits_80 : decode prog_8_method_14_code 80 = .ok (.iload_n 2, 1) := by decide +kernel
theorem d_Ref_fits_81 : decode prog_8_method_14_code 81 = .ok (.invokevirtual 83, 3) := by decide +kernel
theorem d_Ref_fits_84 : decode prog_8_method_14_code 84 = .ok (.ifCond .eq 21, 3) := by decide +kernel
theorem d_Ref_fits_87 : decode prog_8_method_14_code 87 = .ok (.iload_n 3, 1) := by decide +kernel
theorem d_Ref_fits_88 : decode prog_8_method_14_code 88 = .ok (.sipush (-32768), 3) := by decide +kernel
theorem d_Ref_fits_91 : decode prog_8_method_14_code 91 = .ok (.if_icmp .lt 14, 3) := by decide +kernel
theorem d_Ref_fits_94 : decode prog_8_method_14_code 94 = .ok (.iload_n 3, 1) := by decide +kernel
theorem d_Ref_fits_95 : decode prog_8_method_14_code 95 = .ok (.sipush 32767, 3) := by decide +kernel
theorem d_Ref_fits_98 : decode prog_8_method_14_code 98 = .ok (.if_icmp .gt 7, 3) := by decide +kernel
theorem d_Ref_fits_101 : decode prog_8_method_14_code 101 = .ok (.iconst 1, 1) := by decide +kernel
theorem d_Ref_fits_102 : decode prog_8_method_14_code 102 = .ok (.goto 4, 3) := by decide +kernel
theorem d_Ref_fits_105 : decode prog_8_method_14_code 105 = .ok (.iconst 0, 1) := by decide +kernel
theorem d_Ref_fits_106 : decode prog_8_method_14_code 106 = .ok (.ireturn, 1) := by decide +kernel
theorem d_Ref_fits_107 : decode prog_8_method_14_code 107 = .ok (.iload_n 2, 1) := by decide +kernel
theorem d_Ref_fits_108 : decode prog_8_method_14_code 108 = .ok (.iconst 1, 1) := by decide +kernel
theorem d_Ref_fits_109 : decode prog_8_method_14_code 109 = .ok (.if_icmp .lt 13, 3) := by decide +kernel
theorem d_Ref_fits_112 : decode prog_8_method_14_code 112 = .ok (.iload_n 2, 1) := by decide +kernel
theorem d_Ref_fits_113 : decode prog_8_method_14_code 113 = .ok (.bipush 16, 2) := by decide +kernel
theorem d_Ref_fits_115 : decode prog_8_method_14_code 115 = .ok (.if_icmp .gt 7, 3) := by decide +kernel
theorem d_Ref_fits_118 : decode prog_8_method_14_code 118 = .ok (.iconst 1, 1) := by decide +kernel
theorem d_Ref_fits_119 : decode prog_8_method_14_code 119 = .ok (.goto 4, 3) := by decide +kernel
theorem d_Ref_fits_122 : decode prog_8_method_14_code 122 = .ok (.iconst 0, 1) := by decide +kernel
theorem d_Ref_fits_123 : decode prog_8_method_14_code 123 = .ok (.ireturn, 1) := by decide +kernel
theorem d_Ref_fits_124 : decode prog_8_method_14_code 124 = .ok (.aload_n 0, 1) := by decide +kernel
theorem d_Ref_fits_125 : decode prog_8_method_14_code 125 = .ok (.iload_n 2, 1) := by decide +kernel
theorem d_Ref_fits_126 : decode prog_8_method_14_code 126 = .ok (.invokevirtual 83, 3) := by decide +kernel
theorem d_Ref_fits_129 : decode prog_8_method_14_code 129 = .ok (.ifCond .eq 16, 3) := by decide +kernel
theorem d_Ref_fits_132 : decode prog_8_method_14_code 132 = .ok (.iload_n 3, 1) := by decide +kernel
theorem d_Ref_fits_133 : decode prog_8_method_14_code 133 = .ok (.ifCond .lt 12, 3) := by decide +kernel
theorem d_Ref_fits_136 : decode prog_8_method_14_code 136 = .ok (.iload_n 3, 1) := by decide +kernel
theorem d_Ref_fits_137 : decode prog_8_method_14_code 137 = .ok (.iconst 3, 1) := by decide +kernel
theorem d_Ref_fits_138 : decode prog_8_method_14_code 138 = .ok (.if_icmp .gt 7, 3) := by decide +kernel
theorem d_Ref_fits_141 : decode prog_8_method_14_code 141 = .ok (.iconst 1, 1) := by decide +kernel
theorem d_Ref_fits_142 : decode prog_8_method_14_code 142 = .ok (.goto 4, 3) := by decide +kernel
theorem d_Ref_fits_145 : decode prog_8_method_14_code 145 = .ok (.iconst 0, 1) := by decide +kernel
theorem d_Ref_fits_146 : decode prog_8_method_14_code 146 = .ok (.ireturn, 1) := by decide +kernel
theorem d_Ref_fits_147 : decode prog_8_method_14_code 147 = .ok (.aload_n 0, 1) := by decide +kernel
theorem d_Ref_fits_148 : decode prog_8_method_14_code 148 = .ok (.iload_n 2, 1) := by decide +kernel
theorem d_Ref_fits_149 : decode prog_8_method_14_code 149 = .ok (.invokevirtual 83, 3) := by decide +kernel
theorem d_Ref_fits_152 : decode prog_8_method_14_code 152 = .ok (.ifCond .eq 18, 3) := by decide +kernel
theorem d_Ref_fits_155 : decode prog_8_method_14_code 155 = .ok (.iload_n 3, 1) := by decide +kernel
theorem d_Ref_fits_156 : decode prog_8_method_14_code 156 = .ok (.iconst 1, 1) := by decide +kernel
theorem d_Ref_fits_157 : decode prog_8_method_14_code 157 = .ok (.if_icmp .lt 13, 3) := by decide +kernel
theorem d_Ref_fits_160 : decode prog_8_method_14_code 160 = .ok (.iload_n 3, 1) := by decide +kernel
theorem d_Ref_fits_161 : decode prog_8_method_14_code 161 = .ok (.bipush 16, 2) := by decide +kernel
theorem d_Ref_fits_163 : decode prog_8_method_14_code 163 = .ok (.if_icmp .gt 7, 3) := by decide +kernel
theorem d_Ref_fits_166 : decode prog_8_method_14_code 166 = .ok (.iconst 1, 1) := by decide +kernel
theorem d_Ref_fits_167 : decode prog_8_method_14_code 167 = .ok (.goto 4, 3) := by decide +kernel
theorem d_Ref_fits_170 : decode prog_8_method_14_code 170 = .ok (.iconst 0, 1) := by decide +kernel
theorem d_Ref_fits_171 : decode prog_8_method_14_code 171 = .ok (.ireturn, 1) := by decide +kernel
theorem d_Ref_fits_172 : decode prog_8_method_14_code 172 = .ok (.aload_n 0, 1) := by decide +kernel
theorem d_Ref_fits_173 : decode prog_8_method_14_code 173 = .ok (.iload_n 2, 1) := by decide +kernel
theorem d_Ref_fits_174 : decode prog_8_method_14_code 174 = .ok (.invokevirtual 83, 3) := by decide +kernel
theorem d_Ref_fits_177 : decode prog_8_method_14_code 177 = .ok (.ifCond .eq 15, 3) := by decide +kernel
theorem d_Ref_fits_180 : decode prog_8_method_14_code 180 = .ok (.aload_n 0, 1) := by decide +kernel
theorem d_Ref_fits_181 : decode prog_8_method_14_code 181 = .ok (.iload_n 3, 1) := by decide +kernel
theorem d_Ref_fits_182 : decode prog_8_method_14_code 182 = .ok (.invokevirtual 87, 3) := by decide +kernel
theorem d_Ref_fits_185 : decode prog_8_method_14_code 185 = .ok (.ifCond .eq 7, 3) := by decide +kernel
theorem d_Ref_fits_188 : decode prog_8_method_14_code 188 = .ok (.iconst 1, 1) := by decide +kernel
theorem d_Ref_fits_189 : decode prog_8_method_14_code 189 = .ok (.goto 4, 3) := by decide +kernel
theorem d_Ref_fits_192 : decode prog_8_method_14_code 192 = .ok (.iconst 0, 1) := by decide +kernel
theorem d_Ref_fits_193 : decode prog_8_method_14_code 193 = .ok (.ireturn, 1) := by decide +kernel
theorem d_Ref_fits_194 : decode prog_8_method_14_code 194 = .ok (.iconst 0, 1) := by decide +kernel
theorem d_Ref_fits_195 : decode prog_8_method_14_code 195 = .ok (.ireturn, 1) := by decide +kernel
theorem d_Ref_add_0 : decode prog_8_method_15_code 0 = .ok (.aload_n 0, 1) := by decide +kernel
theorem d_Ref_add_1 : decode prog_8_method_15_code 1 = .ok (.iload_n 1, 1) := by decide +kernel
theorem d_Ref_add_2 : decode prog_8_method_15_code 2 = .ok (.invokevirtual 90, 3) := by decide +kernel
theorem d_Ref_add_5 : decode prog_8_method_15_code 5 = .ok (.ifCond .eq 25, 3) := by decide +kernel
theorem d_Ref_add_8 : decode prog_8_method_15_code 8 = .ok (.aload_n 0, 1) := by decide +kernel
theorem d_Ref_add_9 : decode prog_8_method_15_code 9 = .ok (.getfield 7, 3) := by decide +kernel
theorem d_Ref_add_12 : decode prog_8_method_15_code 12 = .ok (.iload_n 1, 1) := by decide +kernel
theorem d_Ref_add_13 : decode prog_8_method_15_code 13 = .ok (.iaload, 1) := by decide +kernel
theorem d_Ref_add_14 : decode prog_8_method_15_code 14 = .ok (.bipush 20, 2) := by decide +kernel
theorem d_Ref_add_16 : decode prog_8_method_15_code 16 = .ok (.if_icmp .ge 14, 3) := by decide +kernel
theorem d_Ref_add_19 : decode prog_8_method_15_code 19 = .ok (.aload_n 0, 1) := by decide +kernel
theorem d_Ref_add_20 : decode prog_8_method_15_code 20 = .ok (.iload_n 2, 1) := by decide +kernel
theorem d_Ref_add_21 : decode prog_8_method_15_code 21 = .ok (.iload_n 3, 1) := by decide +kernel
theorem d_Ref_add_22 : decode prog_8_method_15_code 22 = .ok (.iload 4, 2) := by decide +kernel
theorem d_Ref_add_24 : decode prog_8_method_15_code 24 = .ok (.invokevirtual 93, 3) := by decide +kernel
theorem d_Ref_add_27 : decode prog_8_method_15_code 27 = .ok (.ifCond .ne 5, 3) := by decide +kernel
theorem d_Ref_add_30 : decode prog_8_method_15_code 30 = .ok (.iconst 0, 1) := by decide +kernel
theorem d_Ref_add_31 : decode prog_8_method_15_code 31 = .ok (.ireturn, 1) := by decide +kernel
theorem d_Ref_add_32 : decode prog_8_method_15_code 32 = .ok (.bipush 20, 2) := by decide +kernel
theorem d_Ref_add_34 : decode prog_8_method_15_code 34 = .ok (.iload_n 1, 1) := by decide +kernel
theorem d_Ref_add_35 : decode prog_8_method_15_code 35 = .ok (.imul, 1) := by decide +kernel
theorem d_Ref_add_36 : decode prog_8_method_15_code 36 = .ok (.aload_n 0, 1) := by decide +kernel
theorem d_Ref_add_37 : decode prog_8_method_15_code 37 = .ok (.getfield 7, 3) := by decide +kernel
theorem d_Ref_add_40 : decode prog_8_method_15_code 40 = .ok (.iload_n 1, 1) := by decide +kernel
theorem d_Ref_add_41 : decode prog_8_method_15_code 41 = .ok (.iaload, 1) := by decide +kernel
theorem d_Ref_add_42 : decode prog_8_method_15_code 42 = .ok (.iadd, 1) := by decide +kernel
theorem d_Ref_add_43 : decode prog_8_method_15_code 43 = .ok (.istore 5, 2) := by decide +kernel
theorem d_Ref_add_45 : decode prog_8_method_15_code 45 = .ok (.aload_n 0, 1) := by decide +kernel
theorem d_Ref_add_46 : decode prog_8_method_15_code 46 = .ok (.getfield 7, 3) := by decide +kernel
theorem d_Ref_add_49 : decode prog_8_method_15_code 49 = .ok (.iload_n 1, 1) := by decide +kernel
theorem d_Ref_add_50 : decode prog_8_method_15_code 50 = .ok (.iaload, 1) := by decide +kernel
theorem d_Ref_add_51 : decode prog_8_method_15_code 51 = .ok (.ifCond .ne 7, 3) := by decide +kernel
theorem d_Ref_add_54 : decode prog_8_method_15_code 54 = .ok (.iconst 0, 1) := by decide +kernel
theorem d_Ref_add_55 : decode prog_8_method_15_code 55 = .ok (.goto 12, 3) := by decide +kernel
theorem d_Ref_add_58 : decode prog_8_method_15_code 58 = .ok (.aload_n 0, 1) := by decide +kernel
theorem d_Ref_add_59 : decode prog_8_method_15_code 59 = .ok (.getfield 22, 3) := by decide +kernel
theorem d_Ref_add_62 : decode prog_8_method_15_code 62 = .ok (.iload 5, 2) := by decide +kernel
theorem d_Ref_add_64 : decode prog_8_method_15_code 64 = .ok (.iconst 1, 1) := by decide +kernel
theorem d_Ref_add_65 : decode prog_8_method_15_code 65 = .ok (.isub, 1) := by decide +kernel
theorem d_Ref_add_66 : decode prog_8_method_15_code 66 = .ok (.iaload, 1) := by decide +kernel
theorem d_Ref_add_67 : decode prog_8_method_15_code 67 = .ok (.istore 6, 2) := by decide +kernel
theorem d_Ref_add_69 : decode prog_8_method_15_code 69 = .ok (.iload_n 2, 1) := by decide +kernel
theorem d_Ref_add_70 : decode prog_8_method_15_code 70 = .ok (.ifCond .eq 15, 3) := by decide +kernel
theorem d_Ref_add_73 : decode prog_8_method_15_code 73 = .ok (.iload_n 2, 1) := by decide +kernel
theorem d_Ref_add_74 : decode prog_8_method_15_code 74 = .ok (.bipush 7, 2) := by decide +kernel
theorem d_Ref_add_76 : decode prog_8_method_15_code 76 = .ok (.if_icmp .eq 9, 3) := by decide +kernel
theorem d_Ref_add_79 : decode prog_8_method_15_code 79 = .ok (.iload_n 2, 1) := by decide +kernel
theorem d_Ref_add_80 : decode prog_8_method_15_code 80 = .ok (.bipush 8, 2) := by decide +kernel
theorem d_Ref_add_82 : decode prog_8_method_15_code 82 = .ok (.if_icmp .ne 7, 3) := by decide +kernel
theorem d_Ref_add_85 : decode prog_8_method_15_code 85 = .ok (.iconst 1, 1) := by decide +kernel
theorem d_Ref_add_86 : decode prog_8_method_15_code 86 = .ok (.goto 4, 3) := by decide +kernel
theorem d_Ref_add_89 : decode prog_8_method_15_code 89 = .ok (.iconst 0, 1) := by decide +kernel
theorem d_Ref_add_90 : decode prog_8_method_15_code 90 = .ok (.istore 7, 2) := by decide +kernel
theorem d_Ref_add_92 : decode prog_8_method_15_code 92 = .ok (.iload 7, 2) := by decide +kernel
theorem d_Ref_add_94 : decode prog_8_method_15_code 94 = .ok (.ifCond .eq 23, 3) := by decide +kernel
theorem d_Ref_add_97 : decode prog_8_method_15_code 97 = .ok (.aload_n 0, 1) := by decide +kernel
theorem d_Ref_add_98 : decode prog_8_method_15_code 98 = .ok (.iload_n 1, 1) := by decide +kernel
theorem d_Ref_add_99 : decode prog_8_method_15_code 99 = .ok (.iload_n 3, 1) := by decide +kernel
theorem d_Ref_add_100 : decode prog_8_method_15_code 100 = .ok (.invokevirtual 69, 3) := by decide +kernel
theorem d_Ref_add_103 : decode prog_8_method_15_code 103 = .ok (.ifCond .ge 12, 3) := by decide +kernel
theorem d_Ref_add_106 : decode prog_8_method_15_code 106 = .ok (.aload_n 0, 1) := by decide +kernel
theorem d_Ref_add_107 : decode prog_8_method_15_code 107 = .ok (.iload_n 1, 1) := by decide +kernel
theorem d_Ref_add_108 : decode prog_8_method_15_code 108 = .ok (.iload_n 3, 1) := by decide +kernel
theorem d_Ref_add_109 : decode prog_8_method_15_code 109 = .ok (.invokevirtual 73, 3) := by decide +kernel
theorem d_Ref_add_112 : decode prog_8_method_15_code 112 = .ok (.ifCond .le 5, 3) := by decide +kernel
theorem d_Ref_add_115 : decode prog_8_method_15_code 115 = .ok (.iconst 0, 1) := by decide +kernel
theorem d_Ref_add_116 : decode prog_8_method_15_code 116 = .ok (.ireturn, 1) := by decide +kernel
theorem d_Ref_add_117 : decode prog_8_method_15_code 117 = .ok (.iload_n 2, 1) := by decide +kernel
theorem d_Ref_add_118 : decode prog_8_method_15_code 118 = .ok (.iconst 3, 1) := by decide +kernel
theorem d_Ref_add_119 : decode prog_8_method_15_code 119 = .ok (.if_icmp .eq 8, 3) := by decide +kernel
theorem d_Ref_add_122 : decode prog_8_method_15_code 122 = .ok (.iload_n 2, 1) := by decide +kernel
theorem d_Ref_add_123 : decode prog_8_method_15_code 123 = .ok (.iconst 4, 1) := by decide +kernel
theorem d_Ref_add_124 : decode prog_8_method_15_code 124 = .ok (.if_icmp .ne 9, 3) := by decide +kernel
theorem d_Ref_add_127 : decode prog_8_method_15_code 127 = .ok (.iload 6, 2) := by decide +kernel
theorem d_Ref_add_129 : decode prog_8_method_15_code 129 = .ok (.iconst 2, 1) := by decide +kernel
theorem d_Ref_add_130 : decode prog_8_method_15_code 130 = .ok (.if_icmp .eq 14, 3) := by decide +kernel
theorem d_Ref_add_133 : decode prog_8_method_15_code 133 = .ok (.iload_n 2, 1) := by decide +kernel
theorem d_Ref_add_134 : decode prog_8_method_15_code 134 = .ok (.bipush 6, 2) := by decide +kernel
theorem d_Ref_add_136 : decode prog_8_method_15_code 136 = .ok (.if_icmp .ne 10, 3) := by decide +kernel
theorem d_Ref_add_139 : decode prog_8_method_15_code 139 = .ok (.iload 6, 2) := by decide +kernel
theorem d_Ref_add_141 : decode prog_8_method_15_code 141 = .ok (.ifCond .eq 5, 3) := by decide +kernel
theorem d_Ref_add_144 : decode prog_8_method_15_code 144 = .ok (.iconst 0, 1) := by decide +kernel
theorem d_Ref_add_145 : decode prog_8_method_15_code 145 = .ok (.ireturn, 1) := by decide +kernel
theorem d_Ref_add_146 : decode prog_8_method_15_code 146 = .ok (.aload_n 0, 1) := by decide +kernel
theorem d_Ref_add_147 : decode prog_8_method_15_code 147 = .ok (.getfield 13, 3) := by decide +kernel
theorem d_Ref_add_150 : decode prog_8_method_15_code 150 = .ok (.iload 5, 2) := by decide +kernel
theorem d_Ref_add_152 : decode prog_8_method_15_code 152 = .ok (.iload_n 2, 1) := by decide +kernel
theorem d_Ref_add_153 : decode prog_8_method_15_code 153 = .ok (.iastore, 1) := by decide +kernel
theorem d_Ref_add_154 : decode prog_8_method_15_code 154 = .ok (.aload_n 0, 1) := by decide +kernel
theorem d_Ref_add_155 : decode prog_8_method_15_code 155 = .ok (.getfield 16, 3) := by decide +kernel
theorem d_Ref_add_158 : decode prog_8_method_15_code 158 = .ok (.iload 5, 2) := by decide +kernel
theorem d_Ref_add_160 : decode prog_8_method_15_code 160 = .ok (.iload_n 3, 1) := by decide +kernel
theorem d_Ref_add_161 : decode prog_8_method_15_code 161 = .ok (.iastore, 1) := by decide +kernel
theorem d_Ref_add_162 : decode prog_8_method_15_code 162 = .ok (.aload_n 0, 1) := by decide +kernel
theorem d_Ref_add_163 : decode prog_8_method_15_code 163 = .ok (.getfield 19, 3) := by decide +kernel
theorem d_Ref_add_166 : decode prog_8_method_15_code 166 = .ok (.iload 5, 2) := by decide +kernel
theorem d_Ref_add_168 : decode prog_8_method_15_code 168 = .ok (.iload 4, 2) := by decide +kernel
theorem d_Ref_add_170 : decode prog_8_method_15_code 170 = .ok (.iastore, 1) := by decide +kernel
theorem d_Ref_add_171 : decode prog_8_method_15_code 171 = .ok (.aload_n 0, 1) := by decide +kernel
theorem d_Ref_add_172 : decode prog_8_method_15_code 172 = .ok (.getfield 22, 3) := by decide +kernel
theorem d_Ref_add_175 : decode prog_8_method_15_code 175 = .ok (.iload 5, 2) := by decide +kernel
theorem d_Ref_add_177 : decode prog_8_method_15_code 177 = .ok (.iload_n 2, 1) := by decide +kernel
theorem d_Ref_add_178 : decode prog_8_method_15_code 178 = .ok (.iconst 2, 1) := by decide +kernel
theorem d_Ref_add_179 : decode prog_8_method_15_code 179 = .ok (.if_icmp .ne 7, 3) := by decide +kernel
theorem d_Ref_add_182 : decode prog_8_method_15_code 182 = .ok (.iload_n 3, 1) := by decide +kernel
theorem d_Ref_add_183 : decode prog_8_method_15_code 183 = .ok (.goto 5, 3) := by decide +kernel
theorem d_Ref_add_186 : decode prog_8_method_15_code 186 = .ok (.iload 6, 2) := by decide +kernel
theorem d_Ref_add_188 : decode prog_8_method_15_code 188 = .ok (.iastore, 1) := by decide +kernel
theorem d_Ref_add_189 : decode prog_8_method_15_code 189 = .ok (.aload_n 0, 1) := by decide +kernel
theorem d_Ref_add_190 : decode prog_8_method_15_code 190 = .ok (.getfield 7, 3) := by decide +kernel
theorem d_Ref_add_193 : decode prog_8_method_15_code 193 = .ok (.iload_n 1, 1) := by decide +kernel
theorem d_Ref_add_194 : decode prog_8_method_15_code 194 = .ok (.aload_n 0, 1) := by decide +kernel
theorem d_Ref_add_195 : decode prog_8_method_15_code 195 = .ok (.getfield 7, 3) := by decide +kernel
theorem d_Ref_add_198 : decode prog_8_method_15_code 198 = .ok (.iload_n 1, 1) := by decide +kernel
theorem d_Ref_add_199 : decode prog_8_method_15_code 199 = .ok (.iaload, 1) := by decide +kernel
theorem d_Ref_add_200 : decode prog_8_method_15_code 200 = .ok (.iconst 1, 1) := by decide +kernel
theorem d_Ref_add_201 : decode prog_8_method_15_code 201 = .ok (.iadd, 1) := by decide +kernel
theorem d_Ref_add_202 : decode prog_8_method_15_code 202 = .ok (.iastore, 1) := by decide +kernel
theorem d_Ref_add_203 : decode prog_8_method_15_code 203 = .ok (.aload_n 0, 1) := by decide +kernel
theorem d_Ref_add_204 : decode prog_8_method_15_code 204 = .ok (.iload_n 1, 1) := by decide +kernel
theorem d_Ref_add_205 : decode prog_8_method_15_code 205 = .ok (.invokevirtual 97, 3) := by decide +kernel
theorem d_Ref_add_208 : decode prog_8_method_15_code 208 = .ok (.iconst 1, 1) := by decide +kernel
theorem d_Ref_add_209 : decode prog_8_method_15_code 209 = .ok (.ireturn, 1) := by decide +kernel
theorem d_Ref_clear_0 : decode prog_8_method_16_code 0 = .ok (.aload_n 0, 1) := by decide +kernel
theorem d_Ref_clear_1 : decode prog_8_method_16_code 1 = .ok (.iload_n 1, 1) := by decide +kernel
theorem d_Ref_clear_2 : decode prog_8_method_16_code 2 = .ok (.invokevirtual 90, 3) := by decide +kernel
theorem d_Ref_clear_5 : decode prog_8_method_16_code 5 = .ok (.ifCond .ne 5, 3) := by decide +kernel
theorem d_Ref_clear_8 : decode prog_8_method_16_code 8 = .ok (.iconst (-1), 1) := by decide +kernel
theorem d_Ref_clear_9 : decode prog_8_method_16_code 9 = .ok (.ireturn, 1) := by decide +kernel
theorem d_Ref_clear_10 : decode prog_8_method_16_code 10 = .ok (.aload_n 0, 1) := by decide +kernel
theorem d_Ref_clear_11 : decode prog_8_method_16_code 11 = .ok (.getfield 7, 3) := by decide +kernel
theorem d_Ref_clear_14 : decode prog_8_method_16_code 14 = .ok (.iload_n 1, 1) := by decide +kernel
theorem d_Ref_clear_15 : decode prog_8_method_16_code 15 = .ok (.iaload, 1) := by decide +kernel
theorem d_Ref_clear_16 : decode prog_8_method_16_code 16 = .ok (.istore_n 2, 1) := by decide +kernel
theorem d_Ref_clear_17 : decode prog_8_method_16_code 17 = .ok (.aload_n 0, 1) := by decide +kernel
theorem d_Ref_clear_18 : decode prog_8_method_16_code 18 = .ok (.getfield 7, 3) := by decide +kernel
theorem d_Ref_clear_21 : decode prog_8_method_16_code 21 = .ok (.iload_n 1, 1) := by decide +kernel
theorem d_Ref_clear_22 : decode prog_8_method_16_code 22 = .ok (.iconst 0, 1) := by decide +kernel
theorem d_Ref_clear_23 : decode prog_8_method_16_code 23 = .ok (.iastore, 1) := by decide +kernel
theorem d_Ref_clear_24 : decode prog_8_method_16_code 24 = .ok (.iload_n 2, 1) := by decide +kernel
theorem d_Ref_clear_25 : decode prog_8_method_16_code 25 = .ok (.ireturn, 1) := by decide +kernel
theorem d_Ref_length_0 : decode prog_8_method_17_code 0 = .ok (.aload_n 0, 1) := by decide +kernel
theorem d_Ref_length_1 : decode prog_8_method_17_code 1 = .ok (.iload_n 1, 1) := by decide +kernel
theorem d_Ref_length_2 : decode prog_8_method_17_code 2 = .ok (.invokevirtual 90, 3) := by decide +kernel
theorem d_Ref_length_5 : decode prog_8_method_17_code 5 = .ok (.ifCond .eq 12, 3) := by decide +kernel
theorem d_Ref_length_8 : decode prog_8_method_17_code 8 = .ok (.iload_n 2, 1) := by decide +kernel
theorem d_Ref_length_9 : decode prog_8_method_17_code 9 = .ok (.ifCond .lt 8, 3) := by decide +kernel
theorem d_Ref_length_12 : decode prog_8_method_17_code 12 = .ok (.iload_n 2, 1) := by decide +kernel
theorem d_Ref_length_13 : decode prog_8_method_17_code 13 = .ok (.iconst 2, 1) := by decide +kernel
theorem d_Ref_length_14 : decode prog_8_method_17_code 14 = .ok (.if_icmp .le 5, 3) := by decide +kernel
theorem d_Ref_length_17 : decode prog_8_method_17_code 17 = .ok (.iconst (-1), 1) := by decide +kernel
theorem d_Ref_length_18 : decode prog_8_method_17_code 18 = .ok (.ireturn, 1) := by decide +kernel
theorem d_Ref_length_19 : decode prog_8_method_17_code 19 = .ok (.aload_n 0, 1) := by decide +kernel
theorem d_Ref_length_20 : decode prog_8_method_17_code 20 = .ok (.iload_n 1, 1) := by decide +kernel
theorem d_Ref_length_21 : decode prog_8_method_17_code 21 = .ok (.bipush 20, 2) := by decide +kernel
theorem d_Ref_length_23 : decode prog_8_method_17_code 23 = .ok (.iload_n 1, 1) := by decide +kernel
theorem d_Ref_length_24 : decode prog_8_method_17_code 24 = .ok (.imul, 1) := by decide +kernel
theorem d_Ref_length_25 : decode prog_8_method_17_code 25 = .ok (.aload_n 0, 1) := by decide +kernel
theorem d_Ref_length_26 : decode prog_8_method_17_code 26 = .ok (.getfield 7, 3) := by decide +kernel
theorem d_Ref_length_29 : decode prog_8_method_17_code 29 = .ok (.iload_n 1, 1) := by decide +kernel
theorem d_Ref_length_30 : decode prog_8_method_17_code 30 = .ok (.iaload, 1) := by decide +kernel
theorem d_Ref_length_31 : decode prog_8_method_17_code 31 = .ok (.iadd, 1) := by decide +kernel
theorem d_Ref_length_32 : decode prog_8_method_17_code 32 = .ok (.iload_n 2, 1) := by decide +kernel
theorem d_Ref_length_33 : decode prog_8_method_17_code 33 = .ok (.invokevirtual 76, 3) := by decide +kernel
theorem d_Ref_length_36 : decode prog_8_method_17_code 36 = .ok (.ireturn, 1) := by decide +kernel
theorem d_Ref_isLong_0 : decode prog_8_method_18_code 0 = .ok (.aload_n 0, 1) := by decide +kernel
theorem d_Ref_isLong_1 : decode prog_8_method_18_code 1 = .ok (.iload_n 1, 1) := by decide +kernel
theorem d_Ref_isLong_2 : decode prog_8_method_18_code 2 = .ok (.invokevirtual 90, 3) := by decide +kernel
theorem d_Ref_isLong_5 : decode prog_8_method_18_code 5 = .ok (.ifCond .eq 51, 3) := by decide +kernel
theorem d_Ref_isLong_8 : decode prog_8_method_18_code 8 = .ok (.iload_n 2, 1) := by decide +kernel
theorem d_Ref_isLong_9 : decode prog_8_method_18_code 9 = .ok (.ifCond .lt 47, 3) := by decide +kernel
theorem d_Ref_isLong_12 : decode prog_8_method_18_code 12 = .ok (.iload_n 2, 1) := by decide +kernel
theorem d_Ref_isLong_13 : decode prog_8_method_18_code 13 = .ok (.aload_n 0, 1) := by decide +kernel
theorem d_Ref_isLong_14 : decode prog_8_method_18_code 14 = .ok (.getfield 7, 3) := by decide +kernel
theorem d_Ref_isLong_17 : decode prog_8_method_18_code 17 = .ok (.iload_n 1, 1) := by decide +kernel
theorem d_Ref_isLong_18 : decode prog_8_method_18_code 18 = .ok (.iaload, 1) := by decide +kernel
theorem d_Ref_isLong_19 : decode prog_8_method_18_code 19 = .ok (.if_icmp .ge 37, 3) := by decide +kernel
theorem d_Ref_isLong_22 : decode prog_8_method_18_code 22 = .ok (.aload_n 0, 1) := by decide +kernel
theorem d_Ref_isLong_23 : decode prog_8_method_18_code 23 = .ok (.getfield 13, 3) := by decide +kernel
theorem d_Ref_isLong_26 : decode prog_8_method_18_code 26 = .ok (.bipush 20, 2) := by decide +kernel
theorem d_Ref_isLong_28 : decode prog_8_method_18_code 28 = .ok (.iload_n 1, 1) := by decide +kernel
theorem d_Ref_isLong_29 : decode prog_8_method_18_code 29 = .ok (.imul, 1) := by decide +kernel
theorem d_Ref_isLong_30 : decode prog_8_method_18_code 30 = .ok (.iload_n 2, 1) := by decide +kernel
theorem d_Ref_isLong_31 : decode prog_8_method_18_code 31 = .ok (.iadd, 1) := by decide +kernel
theorem d_Ref_isLong_32 : decode prog_8_method_18_code 32 = .ok (.iaload, 1) := by decide +kernel
theorem d_Ref_isLong_33 : decode prog_8_method_18_code 33 = .ok (.bipush 6, 2) := by decide +kernel
theorem d_Ref_isLong_35 : decode prog_8_method_18_code 35 = .ok (.if_icmp .ne 21, 3) := by decide +kernel
theorem d_Ref_isLong_38 : decode prog_8_method_18_code 38 = .ok (.aload_n 0, 1) := by decide +kernel
theorem d_Ref_isLong_39 : decode prog_8_method_18_code 39 = .ok (.getfield 25, 3) := by decide +kernel
theorem d_Ref_isLong_42 : decode prog_8_method_18_code 42 = .ok (.bipush 20, 2) := by decide +kernel
theorem d_Ref_isLong_44 : decode prog_8_method_18_code 44 = .ok (.iload_n 1, 1) := by decide +kernel
theorem d_Ref_isLong_45 : decode prog_8_method_18_code 45 = .ok (.imul, 1) := by decide +kernel
theorem d_Ref_isLong_46 : decode prog_8_method_18_code 46 = .ok (.iload_n 2, 1) := by decide +kernel
theorem d_Ref_isLong_47 : decode prog_8_method_18_code 47 = .ok (.iadd, 1) := by decide +kernel
theorem d_Ref_isLong_48 : decode prog_8_method_18_code 48 = .ok (.baload, 1) := by decide +kernel
theorem d_Ref_isLong_49 : decode prog_8_method_18_code 49 = .ok (.ifCond .eq 7, 3) := by decide +kernel
theorem d_Ref_isLong_52 : decode prog_8_method_18_code 52 = .ok (.iconst 1, 1) := by decide +kernel
theorem d_Ref_isLong_53 : decode prog_8_method_18_code 53 = .ok (.goto 4, 3) := by decide +kernel
theorem d_Ref_isLong_56 : decode prog_8_method_18_code 56 = .ok (.iconst 0, 1) := by decide +kernel
theorem d_Ref_isLong_57 : decode prog_8_method_18_code 57 = .ok (.ireturn, 1) := by decide +kernel
theorem d_Ref_inArchive_0 : decode prog_8_method_19_code 0 = .ok (.iconst 0, 1) := by decide +kernel
theorem d_Ref_inArchive_1 : decode prog_8_method_19_code 1 = .ok (.istore_n 2, 1) := by decide +kernel
theorem d_Ref_inArchive_2 : decode prog_8_method_19_code 2 = .ok (.iload_n 2, 1) := by decide +kernel
theorem d_Ref_inArchive_3 : decode prog_8_method_19_code 3 = .ok (.aload_n 0, 1) := by decide +kernel
theorem d_Ref_inArchive_4 : decode prog_8_method_19_code 4 = .ok (.getfield 101, 3) := by decide +kernel
theorem d_Ref_inArchive_7 : decode prog_8_method_19_code 7 = .ok (.if_icmp .ge 21, 3) := by decide +kernel
theorem d_Ref_inArchive_10 : decode prog_8_method_19_code 10 = .ok (.aload_n 0, 1) := by decide +kernel
theorem d_Ref_inArchive_11 : decode prog_8_method_19_code 11 = .ok (.getfield 29, 3) := by decide +kernel
theorem d_Ref_inArchive_14 : decode prog_8_method_19_code 14 = .ok (.iload_n 2, 1) := by decide +kernel
theorem d_Ref_inArchive_15 : decode prog_8_method_19_code 15 = .ok (.iaload, 1) := by decide +kernel
theorem d_Ref_inArchive_16 : decode prog_8_method_19_code 16 = .ok (.iload_n 1, 1) := by decide +kernel
theorem d_Ref_inArchive_17 : decode prog_8_method_19_code 17 = .ok (.if_icmp .ne 5, 3) := by decide +kernel
theorem d_Ref_inArchive_20 : decode prog_8_method_19_code 20 = .ok (.iload_n 2, 1) := by decide +kernel
theorem d_Ref_inArchive_21 : decode prog_8_method_19_code 21 = .ok (.ireturn, 1) := by decide +kernel
theorem d_Ref_inArchive_22 : decode prog_8_method_19_code 22 = .ok (.iinc 2 1, 3) := by decide +kernel
theorem d_Ref_inArchive_25 : decode prog_8_method_19_code 25 = .ok (.goto (-23), 3) := by decide +kernel
theorem d_Ref_inArchive_28 : decode prog_8_method_19_code 28 = .ok (.iconst (-1), 1) := by decide +kernel
theorem d_Ref_inArchive_29 : decode prog_8_method_19_code 29 = .ok (.ireturn, 1) := by decide +kernel
theorem d_Ref_onLine_0 : decode prog_8_method_20_code 0 = .ok (.iconst 0, 1) := by decide +kernel
theorem d_Ref_onLine_1 : decode prog_8_method_20_code 1 = .ok (.istore_n 2, 1) := by decide +kernel
theorem d_Ref_onLine_2 : decode prog_8_method_20_code 2 = .ok (.iconst 0, 1) := by decide +kernel
theorem d_Ref_onLine_3 : decode prog_8_method_20_code 3 = .ok (.istore_n 3, 1) := by decide +kernel
theorem d_Ref_onLine_4 : decode prog_8_method_20_code 4 = .ok (.iload_n 3, 1) := by decide +kernel
theorem d_Ref_onLine_5 : decode prog_8_method_20_code 5 = .ok (.aload_n 0, 1) := by decide +kernel
theorem d_Ref_onLine_6 : decode prog_8_method_20_code 6 = .ok (.getfield 104, 3) := by decide +kernel
theorem d_Ref_onLine_9 : decode prog_8_method_20_code 9 = .ok (.if_icmp .ge 29, 3) := by decide +kernel
theorem d_Ref_onLine_12 : decode prog_8_method_20_code 12 = .ok (.iload_n 2, 1) := by decide +kernel
theorem d_Ref_onLine_13 : decode prog_8_method_20_code 13 = .ok (.ifCond .ne 13, 3) := by decide +kernel
theorem d_Ref_onLine_16 : decode prog_8_method_20_code 16 = .ok (.aload_n 0, 1) := by decide +kernel
theorem d_Ref_onLine_17 : decode prog_8_method_20_code 17 = .ok (.getfield 32, 3) := by decide +kernel
theorem d_Ref_onLine_20 : decode prog_8_method_20_code 20 = .ok (.iload_n 3, 1) := by decide +kernel
theorem d_Ref_onLine_21 : decode prog_8_method_20_code 21 = .ok (.iaload, 1) := by decide +kernel
theorem d_Ref_onLine_22 : decode prog_8_method_20_code 22 = .ok (.iload_n 1, 1) := by decide +kernel
theorem d_Ref_onLine_23 : decode prog_8_method_20_code 23 = .ok (.if_icmp .ne 7, 3) := by decide +kernel
theorem d_Ref_onLine_26 : decode prog_8_method_20_code 26 = .ok (.iconst 1, 1) := by decide +kernel
theorem d_Ref_onLine_27 : decode prog_8_method_20_code 27 = .ok (.goto 4, 3) := by decide +kernel
theorem d_Ref_onLine_30 : decode prog_8_method_20_code 30 = .ok (.iconst 0, 1) := by decide +kernel
theorem d_Ref_onLine_31 : decode prog_8_method_20_code 31 = .ok (.istore_n 2, 1) := by decide +kernel
theorem d_Ref_onLine_32 : decode prog_8_method_20_code 32 = .ok (.iinc 3 1, 3) := by decide +kernel
theorem d_Ref_onLine_35 : decode prog_8_method_20_code 35 = .ok (.goto (-31), 3) := by decide +kernel
theorem d_Ref_onLine_38 : decode prog_8_method_20_code 38 = .ok (.iload_n 2, 1) := by decide +kernel
theorem d_Ref_onLine_39 : decode prog_8_method_20_code 39 = .ok (.ireturn, 1) := by decide +kernel
theorem d_Ref_store_0 : decode prog_8_method_21_code 0 = .ok (.aload_n 0, 1) := by decide +kernel
theorem d_Ref_store_1 : decode prog_8_method_21_code 1 = .ok (.iload_n 1, 1) := by decide +kernel
theorem d_Ref_store_2 : decode prog_8_method_21_code 2 = .ok (.invokevirtual 90, 3) := by decide +kernel
theorem d_Ref_store_5 : decode prog_8_method_21_code 5 = .ok (.ifCond .eq 29, 3) := by decide +kernel
theorem d_Ref_store_8 : decode prog_8_method_21_code 8 = .ok (.aload_n 0, 1) := by decide +kernel
theorem d_Ref_store_9 : decode prog_8_method_21_code 9 = .ok (.iload_n 1, 1) := by decide +kernel
theorem d_Ref_store_10 : decode prog_8_method_21_code 10 = .ok (.invokevirtual 107, 3) := by decide +kernel
theorem d_Ref_store_13 : decode prog_8_method_21_code 13 = .ok (.ifCond .ne 21, 3) := by decide +kernel
theorem d_Ref_store_16 : decode prog_8_method_21_code 16 = .ok (.iload_n 2, 1) := by decide +kernel
theorem d_Ref_store_17 : decode prog_8_method_21_code 17 = .ok (.iload_n 1, 1) := by decide +kernel
theorem d_Ref_store_18 : decode prog_8_method_21_code 18 = .ok (.if_icmp .eq 16, 3) := by decide +kernel
theorem d_Ref_store_21 : decode prog_8_method_21_code 21 = .ok (.iload_n 2, 1) := by decide +kernel
theorem d_Ref_store_22 : decode prog_8_method_21_code 22 = .ok (.iconst (-1), 1) := by decide +kernel
theorem d_Ref_store_23 : decode prog_8_method_21_code 23 = .ok (.if_icmp .eq 13, 3) := by decide +kernel
theorem d_Ref_store_26 : decode prog_8_method_21_code 26 = .ok (.aload_n 0, 1) := by decide +kernel
theorem d_Ref_store_27 : decode prog_8_method_21_code 27 = .ok (.iload_n 2, 1) := by decide +kernel
theorem d_Ref_store_28 : decode prog_8_method_21_code 28 = .ok (.invokevirtual 110, 3) := by decide +kernel
theorem d_Ref_store_31 : decode prog_8_method_21_code 31 = .ok (.ifCond .ge 5, 3) := by decide +kernel
theorem d_Ref_store_34 : decode prog_8_method_21_code 34 = .ok (.iconst 0, 1) := by decide +kernel
theorem d_Ref_store_35 : decode prog_8_method_21_code 35 = .ok (.ireturn, 1) := by decide +kernel
theorem d_Ref_store_36 : decode prog_8_method_21_code 36 = .ok (.aload_n 0, 1) := by decide +kernel
theorem d_Ref_store_37 : decode prog_8_method_21_code 37 = .ok (.iload_n 1, 1) := by decide +kernel
theorem d_Ref_store_38 : decode prog_8_method_21_code 38 = .ok (.invokevirtual 113, 3) := by decide +kernel
theorem d_Ref_store_41 : decode prog_8_method_21_code 41 = .ok (.pop, 1) := by decide +kernel
theorem d_Ref_store_42 : decode prog_8_method_21_code 42 = .ok (.iload_n 2, 1) := by decide +kernel
theorem d_Ref_store_43 : decode prog_8_method_21_code 43 = .ok (.iconst (-1), 1) := by decide +kernel
theorem d_Ref_store_44 : decode prog_8_method_21_code 44 = .ok (.if_icmp .ne 10, 3) := by decide +kernel
theorem d_Ref_store_47 : decode prog_8_method_21_code 47 = .ok (.aload_n 0, 1) := by decide +kernel
theorem d_Ref_store_48 : decode prog_8_method_21_code 48 = .ok (.getfield 101, 3) := by decide +kernel
theorem d_Ref_store_51 : decode prog_8_method_21_code 51 = .ok (.goto 8, 3) := by decide +kernel
theorem d_Ref_store_54 : decode prog_8_method_21_code 54 = .ok (.aload_n 0, 1) := by decide +kernel
theorem d_Ref_store_55 : decode prog_8_method_21_code 55 = .ok (.iload_n 2, 1) := by decide +kernel
theorem d_Ref_store_56 : decode prog_8_method_21_code 56 = .ok (.invokevirtual 110, 3) := by decide +kernel
theorem d_Ref_store_59 : decode prog_8_method_21_code 59 = .ok (.istore_n 3, 1) := by decide +kernel
theorem d_Ref_store_60 : decode prog_8_method_21_code 60 = .ok (.aload_n 0, 1) := by decide +kernel
theorem d_Ref_store_61 : decode prog_8_method_21_code 61 = .ok (.getfield 101, 3) := by decide +kernel
theorem d_Ref_store_64 : decode prog_8_method_21_code 64 = .ok (.istore 4, 2) := by decide +kernel
theorem d_Ref_store_66 : decode prog_8_method_21_code 66 = .ok (.iload 4, 2) := by decide +kernel
theorem d_Ref_store_68 : decode prog_8_method_21_code 68 = .ok (.iload_n 3, 1) := by decide +kernel
theorem d_Ref_store_69 : decode prog_8_method_21_code 69 = .ok (.if_icmp .le 25, 3) := by decide +kernel
theorem d_Ref_store_72 : decode prog_8_method_21_code 72 = .ok (.aload_n 0, 1) := by decide +kernel
theorem d_Ref_store_73 : decode prog_8_method_21_code 73 = .ok (.getfield 29, 3) := by decide +kernel
theorem d_Ref_store_76 : decode prog_8_method_21_code 76 = .ok (.iload 4, 2) := by decide +kernel
theorem d_Ref_store_78 : decode prog_8_method_21_code 78 = .ok (.aload_n 0, 1) := by decide +kernel
theorem d_Ref_store_79 : decode prog_8_method_21_code 79 = .ok (.getfield 29, 3) := by decide +kernel
theorem d_Ref_store_82 : decode prog_8_method_21_code 82 = .ok (.iload 4, 2) := by decide +kernel
theorem d_Ref_store_84 : decode prog_8_method_21_code 84 = .ok (.iconst 1, 1) := by decide +kernel
theorem d_Ref_store_85 : decode prog_8_method_21_code 85 = .ok (.isub, 1) := by decide +kernel
theorem d_Ref_store_86 : decode prog_8_method_21_code 86 = .ok (.iaload, 1) := by decide +kernel
theorem d_Ref_store_87 : decode prog_8_method_21_code 87 = .ok (.iastore, 1) := by decide +kernel
theorem d_Ref_store_88 : decode prog_8_method_21_code 88 = .ok (.iinc 4 (-1), 3) := by decide +kernel
theorem d_Ref_store_91 : decode prog_8_method_21_code 91 = .ok (.goto (-25), 3) := by decide +kernel
theorem d_Ref_store_94 : decode prog_8_method_21_code 94 = .ok (.aload_n 0, 1) := by decide +kernel
theorem d_Ref_store_95 : decode prog_8_method_21_code 95 = .ok (.getfield 29, 3) := by decide +kernel
theorem d_Ref_store_98 : decode prog_8_method_21_code 98 = .ok (.iload_n 3, 1) := by decide +kernel
theorem d_Ref_store_99 : decode prog_8_method_21_code 99 = .ok (.iload_n 1, 1) := by decide +kernel
theorem d_Ref_store_100 : decode prog_8_method_21_code 100 = .ok (.iastore, 1) := by decide +kernel
theorem d_Ref_store_101 : decode prog_8_method_21_code 101 = .ok (.aload_n 0, 1) := by decide +kernel
theorem d_Ref_store_102 : decode prog_8_method_21_code 102 = .ok (.dup, 1) := by decide +kernel
theorem d_Ref_store_103 : decode prog_8_method_21_code 103 = .ok (.getfield 101, 3) := by decide +kernel
theorem d_Ref_store_106 : decode prog_8_method_21_code 106 = .ok (.iconst 1, 1) := by decide +kernel
theorem d_Ref_store_107 : decode prog_8_method_21_code 107 = .ok (.iadd, 1) := by decide +kernel
theorem d_Ref_store_108 : decode prog_8_method_21_code 108 = .ok (.putfield 101, 3) := by decide +kernel
theorem d_Ref_store_111 : decode prog_8_method_21_code 111 = .ok (.iconst 1, 1) := by decide +kernel
theorem d_Ref_store_112 : decode prog_8_method_21_code 112 = .ok (.ireturn, 1) := by decide +kernel
theorem d_Ref_remove_0 : decode prog_8_method_22_code 0 = .ok (.aload_n 0, 1) := by decide +kernel
theorem d_Ref_remove_1 : decode prog_8_method_22_code 1 = .ok (.iload_n 1, 1) := by decide +kernel
theorem d_Ref_remove_2 : decode prog_8_method_22_code 2 = .ok (.invokevirtual 110, 3) := by decide +kernel
theorem d_Ref_remove_5 : decode prog_8_method_22_code 5 = .ok (.istore_n 2, 1) := by decide +kernel
theorem d_Ref_remove_6 : decode prog_8_method_22_code 6 = .ok (.iload_n 2, 1) := by decide +kernel
theorem d_Ref_remove_7 : decode prog_8_method_22_code 7 = .ok (.ifCond .ge 5, 3) := by decide +kernel
theorem d_Ref_remove_10 : decode prog_8_method_22_code 10 = .ok (.iconst 0, 1) := by decide +kernel
theorem d_Ref_remove_11 : decode prog_8_method_22_code 11 = .ok (.ireturn, 1) := by decide +kernel
theorem d_Ref_remove_12 : decode prog_8_method_22_code 12 = .ok (.aload_n 0, 1) := by decide +kernel
theorem d_Ref_remove_13 : decode prog_8_method_22_code 13 = .ok (.dup, 1) := by decide +kernel
theorem d_Ref_remove_14 : decode prog_8_method_22_code 14 = .ok (.getfield 101, 3) := by decide +kernel
theorem d_Ref_remove_17 : decode prog_8_method_22_code 17 = .ok (.iconst 1, 1) := by decide +kernel
theorem d_Ref_remove_18 : decode prog_8_method_22_code 18 = .ok (.isub, 1) := by decide +kernel
theorem d_Ref_remove_19 : decode prog_8_method_22_code 19 = .ok (.putfield 101, 3) := by decide +kernel
theorem d_Ref_remove_22 : decode prog_8_method_22_code 22 = .ok (.iload_n 2, 1) := by decide +kernel
theorem d_Ref_remove_23 : decode prog_8_method_22_code 23 = .ok (.istore_n 3, 1) := by decide +kernel
theorem d_Ref_remove_24 : decode prog_8_method_22_code 24 = .ok (.iload_n 3, 1) := by decide +kernel
theorem d_Ref_remove_25 : decode prog_8_method_22_code 25 = .ok (.aload_n 0, 1) := by decide +kernel
theorem d_Ref_remove_26 : decode prog_8_method_22_code 26 = .ok (.getfield 101, 3) := by decide +kernel
theorem d_Ref_remove_29 : decode prog_8_method_22_code 29 = .ok (.if_icmp .ge 23, 3) := by decide +kernel
theorem d_Ref_remove_32 : decode prog_8_method_22_code 32 = .ok (.aload_n 0, 1) := by decide +kernel
theorem d_Ref_remove_33 : decode prog_8_method_22_code 33 = .ok (.getfield 29, 3) := by decide +kernel
theorem d_Ref_remove_36 : decode prog_8_method_22_code 36 = .ok (.iload_n 3, 1) := by decide +kernel
theorem d_Ref_remove_37 : decode prog_8_method_22_code 37 = .ok (.aload_n 0, 1) := by decide +kernel
theorem d_Ref_remove_38 : decode prog_8_method_22_code 38 = .ok (.getfield 29, 3) := by decide +kernel
theorem d_Ref_remove_41 : decode prog_8_method_22_code 41 = .ok (.iload_n 3, 1) := by decide +kernel
theorem d_Ref_remove_42 : decode prog_8_method_22_code 42 = .ok (.iconst 1, 1) := by decide +kernel
theorem d_Ref_remove_43 : decode prog_8_method_22_code 43 = .ok (.iadd, 1) := by decide +kernel
theorem d_Ref_remove_44 : decode prog_8_method_22_code 44 = .ok (.iaload, 1) := by decide +kernel
theorem d_Ref_remove_45 : decode prog_8_method_22_code 45 = .ok (.iastore, 1) := by decide +kernel
theorem d_Ref_remove_46 : decode prog_8_method_22_code 46 = .ok (.iinc 3 1, 3) := by decide +kernel
theorem d_Ref_remove_49 : decode prog_8_method_22_code 49 = .ok (.goto (-25), 3) := by decide +kernel
theorem d_Ref_remove_52 : decode prog_8_method_22_code 52 = .ok (.iconst 1, 1) := by decide +kernel
theorem d_Ref_remove_53 : decode prog_8_method_22_code 53 = .ok (.ireturn, 1) := by decide +kernel
theorem d_Ref_member_0 : decode prog_8_method_23_code 0 = .ok (.iload_n 1, 1) := by decide +kernel
theorem d_Ref_member_1 : decode prog_8_method_23_code 1 = .ok (.ifCond .lt 20, 3) := by decide +kernel
theorem d_Ref_member_4 : decode prog_8_method_23_code 4 = .ok (.iload_n 1, 1) := by decide +kernel
theorem d_Ref_member_5 : decode prog_8_method_23_code 5 = .ok (.aload_n 0, 1) := by decide +kernel
theorem d_Ref_member_6 : decode prog_8_method_23_code 6 = .ok (.getfield 101, 3) := by decide +kernel
theorem d_Ref_member_9 : decode prog_8_method_23_code 9 = .ok (.if_icmp .ge 12, 3) := by decide +kernel
theorem d_Ref_member_12 : decode prog_8_method_23_code 12 = .ok (.aload_n 0, 1) := by decide +kernel
theorem d_Ref_member_13 : decode prog_8_method_23_code 13 = .ok (.getfield 29, 3) := by decide +kernel
theorem d_Ref_member_16 : decode prog_8_method_23_code 16 = .ok (.iload_n 1, 1) := by decide +kernel
theorem d_Ref_member_17 : decode prog_8_method_23_code 17 = .ok (.iaload, 1) := by decide +kernel
theorem d_Ref_member_18 : decode prog_8_method_23_code 18 = .ok (.goto 4, 3) := by decide +kernel
theorem d_Ref_member_21 : decode prog_8_method_23_code 21 = .ok (.iconst (-1), 1) := by decide +kernel
theorem d_Ref_member_22 : decode prog_8_method_23_code 22 = .ok (.ireturn, 1) := by decide +kernel
theorem d_Ref_item_0 : decode prog_8_method_24_code 0 = .ok (.iload_n 1, 1) := by decide +kernel
theorem d_Ref_item_1 : decode prog_8_method_24_code 1 = .ok (.ifCond .lt 40, 3) := by decide +kernel
theorem d_Ref_item_4 : decode prog_8_method_24_code 4 = .ok (.iload_n 1, 1) := by decide +kernel
theorem d_Ref_item_5 : decode prog_8_method_24_code 5 = .ok (.bipush 6, 2) := by decide +kernel
theorem d_Ref_item_7 : decode prog_8_method_24_code 7 = .ok (.if_icmp .gt 34, 3) := by decide +kernel
theorem d_Ref_item_10 : decode prog_8_method_24_code 10 = .ok (.aload_n 0, 1) := by decide +kernel
theorem d_Ref_item_11 : decode prog_8_method_24_code 11 = .ok (.getfield 104, 3) := by decide +kernel
theorem d_Ref_item_14 : decode prog_8_method_24_code 14 = .ok (.bipush 8, 2) := by decide +kernel
theorem d_Ref_item_16 : decode prog_8_method_24_code 16 = .ok (.if_icmp .ge 25, 3) := by decide +kernel
theorem d_Ref_item_19 : decode prog_8_method_24_code 19 = .ok (.iload_n 1, 1) := by decide +kernel
theorem d_Ref_item_20 : decode prog_8_method_24_code 20 = .ok (.bipush 6, 2) := by decide +kernel
theorem d_Ref_item_22 : decode prog_8_method_24_code 22 = .ok (.if_icmp .ge 21, 3) := by decide +kernel
theorem d_Ref_item_25 : decode prog_8_method_24_code 25 = .ok (.aload_n 0, 1) := by decide +kernel
theorem d_Ref_item_26 : decode prog_8_method_24_code 26 = .ok (.iload_n 1, 1) := by decide +kernel
end
section
theorem d_Ref_item_27 : decode prog_8_method_24_code 27 = .ok (.invokevirtual 107, 3) := by decide +kernel
theorem d_Ref_item_30 : decode prog_8_method_24_code 30 = .ok (.ifCond .ne 11, 3) := by decide +kernel
theorem d_Ref_item_33 : decode prog_8_method_24_code 33 = .ok (.aload_n 0, 1) := by decide +kernel
theorem d_Ref_item_34 : decode prog_8_method_24_code 34 = .ok (.iload_n 1, 1) := by decide +kernel
theorem d_Ref_item_35 : decode prog_8_method_24_code 35 = .ok (.invokevirtual 110, 3) := by decide +kernel
theorem d_Ref_item_38 : decode prog_8_method_24_code 38 = .ok (.ifCond .lt 5, 3) := by decide +kernel
theorem d_Ref_item_41 : decode prog_8_method_24_code 41 = .ok (.iconst 0, 1) := by decide +kernel
theorem d_Ref_item_42 : decode prog_8_method_24_code 42 = .ok (.ireturn, 1) := by decide +kernel
theorem d_Ref_item_43 : decode prog_8_method_24_code 43 = .ok (.aload_n 0, 1) := by decide +kernel
theorem d_Ref_item_44 : decode prog_8_method_24_code 44 = .ok (.getfield 32, 3) := by decide +kernel
theorem d_Ref_item_47 : decode prog_8_method_24_code 47 = .ok (.aload_n 0, 1) := by decide +kernel
theorem d_Ref_item_48 : decode prog_8_method_24_code 48 = .ok (.getfield 104, 3) := by decide +kernel
theorem d_Ref_item_51 : decode prog_8_method_24_code 51 = .ok (.iload_n 1, 1) := by decide +kernel
theorem d_Ref_item_52 : decode prog_8_method_24_code 52 = .ok (.iastore, 1) := by decide +kernel
theorem d_Ref_item_53 : decode prog_8_method_24_code 53 = .ok (.aload_n 0, 1) := by decide +kernel
theorem d_Ref_item_54 : decode prog_8_method_24_code 54 = .ok (.dup, 1) := by decide +kernel
theorem d_Ref_item_55 : decode prog_8_method_24_code 55 = .ok (.getfield 104, 3) := by decide +kernel
theorem d_Ref_item_58 : decode prog_8_method_24_code 58 = .ok (.iconst 1, 1) := by decide +kernel
theorem d_Ref_item_59 : decode prog_8_method_24_code 59 = .ok (.iadd, 1) := by decide +kernel
theorem d_Ref_item_60 : decode prog_8_method_24_code 60 = .ok (.putfield 104, 3) := by decide +kernel
theorem d_Ref_item_63 : decode prog_8_method_24_code 63 = .ok (.iconst 1, 1) := by decide +kernel
theorem d_Ref_item_64 : decode prog_8_method_24_code 64 = .ok (.ireturn, 1) := by decide +kernel
theorem d_Ref_newLine_0 : decode prog_8_method_25_code 0 = .ok (.aload_n 0, 1) := by decide +kernel
theorem d_Ref_newLine_1 : decode prog_8_method_25_code 1 = .ok (.iconst 0, 1) := by decide +kernel
theorem d_Ref_newLine_2 : decode prog_8_method_25_code 2 = .ok (.putfield 104, 3) := by decide +kernel
theorem d_Ref_newLine_5 : decode prog_8_method_25_code 5 = .ok (.return_, 1) := by decide +kernel
theorem d_Ref_isIn_0 : decode prog_8_method_26_code 0 = .ok (.iconst 0, 1) := by decide +kernel
theorem d_Ref_isIn_1 : decode prog_8_method_26_code 1 = .ok (.istore_n 2, 1) := by decide +kernel
theorem d_Ref_isIn_2 : decode prog_8_method_26_code 2 = .ok (.iconst 0, 1) := by decide +kernel
theorem d_Ref_isIn_3 : decode prog_8_method_26_code 3 = .ok (.istore_n 3, 1) := by decide +kernel
theorem d_Ref_isIn_4 : decode prog_8_method_26_code 4 = .ok (.iload_n 3, 1) := by decide +kernel
theorem d_Ref_isIn_5 : decode prog_8_method_26_code 5 = .ok (.aload_n 0, 1) := by decide +kernel
theorem d_Ref_isIn_6 : decode prog_8_method_26_code 6 = .ok (.getfield 116, 3) := by decide +kernel
theorem d_Ref_isIn_9 : decode prog_8_method_26_code 9 = .ok (.if_icmp .ge 29, 3) := by decide +kernel
theorem d_Ref_isIn_12 : decode prog_8_method_26_code 12 = .ok (.iload_n 2, 1) := by decide +kernel
theorem d_Ref_isIn_13 : decode prog_8_method_26_code 13 = .ok (.ifCond .ne 13, 3) := by decide +kernel
theorem d_Ref_isIn_16 : decode prog_8_method_26_code 16 = .ok (.aload_n 0, 1) := by decide +kernel
theorem d_Ref_isIn_17 : decode prog_8_method_26_code 17 = .ok (.getfield 39, 3) := by decide +kernel
theorem d_Ref_isIn_20 : decode prog_8_method_26_code 20 = .ok (.iload_n 3, 1) := by decide +kernel
theorem d_Ref_isIn_21 : decode prog_8_method_26_code 21 = .ok (.iaload, 1) := by decide +kernel
theorem d_Ref_isIn_22 : decode prog_8_method_26_code 22 = .ok (.iload_n 1, 1) := by decide +kernel
theorem d_Ref_isIn_23 : decode prog_8_method_26_code 23 = .ok (.if_icmp .ne 7, 3) := by decide +kernel
theorem d_Ref_isIn_26 : decode prog_8_method_26_code 26 = .ok (.iconst 1, 1) := by decide +kernel
theorem d_Ref_isIn_27 : decode prog_8_method_26_code 27 = .ok (.goto 4, 3) := by decide +kernel
theorem d_Ref_isIn_30 : decode prog_8_method_26_code 30 = .ok (.iconst 0, 1) := by decide +kernel
theorem d_Ref_isIn_31 : decode prog_8_method_26_code 31 = .ok (.istore_n 2, 1) := by decide +kernel
theorem d_Ref_isIn_32 : decode prog_8_method_26_code 32 = .ok (.iinc 3 1, 3) := by decide +kernel
theorem d_Ref_isIn_35 : decode prog_8_method_26_code 35 = .ok (.goto (-31), 3) := by decide +kernel
theorem d_Ref_isIn_38 : decode prog_8_method_26_code 38 = .ok (.iload_n 2, 1) := by decide +kernel
theorem d_Ref_isIn_39 : decode prog_8_method_26_code 39 = .ok (.ireturn, 1) := by decide +kernel
theorem d_Ref_exporters_0 : decode prog_8_method_27_code 0 = .ok (.iconst 0, 1) := by decide +kernel
theorem d_Ref_exporters_1 : decode prog_8_method_27_code 1 = .ok (.istore_n 2, 1) := by decide +kernel
theorem d_Ref_exporters_2 : decode prog_8_method_27_code 2 = .ok (.iconst 0, 1) := by decide +kernel
theorem d_Ref_exporters_3 : decode prog_8_method_27_code 3 = .ok (.istore_n 3, 1) := by decide +kernel
theorem d_Ref_exporters_4 : decode prog_8_method_27_code 4 = .ok (.iload_n 3, 1) := by decide +kernel
theorem d_Ref_exporters_5 : decode prog_8_method_27_code 5 = .ok (.aload_n 0, 1) := by decide +kernel
theorem d_Ref_exporters_6 : decode prog_8_method_27_code 6 = .ok (.getfield 116, 3) := by decide +kernel
theorem d_Ref_exporters_9 : decode prog_8_method_27_code 9 = .ok (.if_icmp .ge 31, 3) := by decide +kernel
theorem d_Ref_exporters_12 : decode prog_8_method_27_code 12 = .ok (.aload_n 0, 1) := by decide +kernel
theorem d_Ref_exporters_13 : decode prog_8_method_27_code 13 = .ok (.aload_n 0, 1) := by decide +kernel
theorem d_Ref_exporters_14 : decode prog_8_method_27_code 14 = .ok (.getfield 39, 3) := by decide +kernel
theorem d_Ref_exporters_17 : decode prog_8_method_27_code 17 = .ok (.iload_n 3, 1) := by decide +kernel
theorem d_Ref_exporters_18 : decode prog_8_method_27_code 18 = .ok (.iaload, 1) := by decide +kernel
theorem d_Ref_exporters_19 : decode prog_8_method_27_code 19 = .ok (.iload_n 1, 1) := by decide +kernel
theorem d_Ref_exporters_20 : decode prog_8_method_27_code 20 = .ok (.invokevirtual 119, 3) := by decide +kernel
theorem d_Ref_exporters_23 : decode prog_8_method_27_code 23 = .ok (.ifCond .eq 9, 3) := by decide +kernel
theorem d_Ref_exporters_26 : decode prog_8_method_27_code 26 = .ok (.iload_n 2, 1) := by decide +kernel
theorem d_Ref_exporters_27 : decode prog_8_method_27_code 27 = .ok (.iconst 1, 1) := by decide +kernel
theorem d_Ref_exporters_28 : decode prog_8_method_27_code 28 = .ok (.iadd, 1) := by decide +kernel
theorem d_Ref_exporters_29 : decode prog_8_method_27_code 29 = .ok (.goto 4, 3) := by decide +kernel
theorem d_Ref_exporters_32 : decode prog_8_method_27_code 32 = .ok (.iload_n 2, 1) := by decide +kernel
theorem d_Ref_exporters_33 : decode prog_8_method_27_code 33 = .ok (.istore_n 2, 1) := by decide +kernel
theorem d_Ref_exporters_34 : decode prog_8_method_27_code 34 = .ok (.iinc 3 1, 3) := by decide +kernel
theorem d_Ref_exporters_37 : decode prog_8_method_27_code 37 = .ok (.goto (-33), 3) := by decide +kernel
theorem d_Ref_exporters_40 : decode prog_8_method_27_code 40 = .ok (.iload_n 2, 1) := by decide +kernel
theorem d_Ref_exporters_41 : decode prog_8_method_27_code 41 = .ok (.ireturn, 1) := by decide +kernel
theorem d_Ref_largest_0 : decode prog_8_method_28_code 0 = .ok (.iconst 0, 1) := by decide +kernel
theorem d_Ref_largest_1 : decode prog_8_method_28_code 1 = .ok (.istore_n 2, 1) := by decide +kernel
theorem d_Ref_largest_2 : decode prog_8_method_28_code 2 = .ok (.iconst 0, 1) := by decide +kernel
theorem d_Ref_largest_3 : decode prog_8_method_28_code 3 = .ok (.istore_n 3, 1) := by decide +kernel
theorem d_Ref_largest_4 : decode prog_8_method_28_code 4 = .ok (.iload_n 3, 1) := by decide +kernel
theorem d_Ref_largest_5 : decode prog_8_method_28_code 5 = .ok (.aload_n 0, 1) := by decide +kernel
theorem d_Ref_largest_6 : decode prog_8_method_28_code 6 = .ok (.getfield 116, 3) := by decide +kernel
theorem d_Ref_largest_9 : decode prog_8_method_28_code 9 = .ok (.if_icmp .ge 35, 3) := by decide +kernel
theorem d_Ref_largest_12 : decode prog_8_method_28_code 12 = .ok (.aload_n 0, 1) := by decide +kernel
theorem d_Ref_largest_13 : decode prog_8_method_28_code 13 = .ok (.aload_n 0, 1) := by decide +kernel
theorem d_Ref_largest_14 : decode prog_8_method_28_code 14 = .ok (.getfield 39, 3) := by decide +kernel
theorem d_Ref_largest_17 : decode prog_8_method_28_code 17 = .ok (.iload_n 3, 1) := by decide +kernel
theorem d_Ref_largest_18 : decode prog_8_method_28_code 18 = .ok (.iaload, 1) := by decide +kernel
theorem d_Ref_largest_19 : decode prog_8_method_28_code 19 = .ok (.iload_n 1, 1) := by decide +kernel
theorem d_Ref_largest_20 : decode prog_8_method_28_code 20 = .ok (.invokevirtual 73, 3) := by decide +kernel
theorem d_Ref_largest_23 : decode prog_8_method_28_code 23 = .ok (.istore 4, 2) := by decide +kernel
theorem d_Ref_largest_25 : decode prog_8_method_28_code 25 = .ok (.iload 4, 2) := by decide +kernel
theorem d_Ref_largest_27 : decode prog_8_method_28_code 27 = .ok (.iload_n 2, 1) := by decide +kernel
theorem d_Ref_largest_28 : decode prog_8_method_28_code 28 = .ok (.if_icmp .le 8, 3) := by decide +kernel
theorem d_Ref_largest_31 : decode prog_8_method_28_code 31 = .ok (.iload 4, 2) := by decide +kernel
theorem d_Ref_largest_33 : decode prog_8_method_28_code 33 = .ok (.goto 4, 3) := by decide +kernel
theorem d_Ref_largest_36 : decode prog_8_method_28_code 36 = .ok (.iload_n 2, 1) := by decide +kernel
theorem d_Ref_largest_37 : decode prog_8_method_28_code 37 = .ok (.istore_n 2, 1) := by decide +kernel
theorem d_Ref_largest_38 : decode prog_8_method_28_code 38 = .ok (.iinc 3 1, 3) := by decide +kernel
theorem d_Ref_largest_41 : decode prog_8_method_28_code 41 = .ok (.goto (-37), 3) := by decide +kernel
theorem d_Ref_largest_44 : decode prog_8_method_28_code 44 = .ok (.iload_n 2, 1) := by decide +kernel
theorem d_Ref_largest_45 : decode prog_8_method_28_code 45 = .ok (.ireturn, 1) := by decide +kernel
theorem d_Ref_wanted_0 : decode prog_8_method_29_code 0 = .ok (.aload_n 0, 1) := by decide +kernel
theorem d_Ref_wanted_1 : decode prog_8_method_29_code 1 = .ok (.getfield 35, 3) := by decide +kernel
theorem d_Ref_wanted_4 : decode prog_8_method_29_code 4 = .ok (.iload_n 1, 1) := by decide +kernel
theorem d_Ref_wanted_5 : decode prog_8_method_29_code 5 = .ok (.if_icmp .ne 7, 3) := by decide +kernel
theorem d_Ref_wanted_8 : decode prog_8_method_29_code 8 = .ok (.iconst 1, 1) := by decide +kernel
theorem d_Ref_wanted_9 : decode prog_8_method_29_code 9 = .ok (.goto 4, 3) := by decide +kernel
theorem d_Ref_wanted_12 : decode prog_8_method_29_code 12 = .ok (.iconst 0, 1) := by decide +kernel
theorem d_Ref_wanted_13 : decode prog_8_method_29_code 13 = .ok (.istore_n 2, 1) := by decide +kernel
theorem d_Ref_wanted_14 : decode prog_8_method_29_code 14 = .ok (.iconst 0, 1) := by decide +kernel
theorem d_Ref_wanted_15 : decode prog_8_method_29_code 15 = .ok (.istore_n 3, 1) := by decide +kernel
theorem d_Ref_wanted_16 : decode prog_8_method_29_code 16 = .ok (.iload_n 3, 1) := by decide +kernel
theorem d_Ref_wanted_17 : decode prog_8_method_29_code 17 = .ok (.aload_n 0, 1) := by decide +kernel
theorem d_Ref_wanted_18 : decode prog_8_method_29_code 18 = .ok (.getfield 116, 3) := by decide +kernel
theorem d_Ref_wanted_21 : decode prog_8_method_29_code 21 = .ok (.if_icmp .ge 33, 3) := by decide +kernel
theorem d_Ref_wanted_24 : decode prog_8_method_29_code 24 = .ok (.iload_n 2, 1) := by decide +kernel
theorem d_Ref_wanted_25 : decode prog_8_method_29_code 25 = .ok (.ifCond .ne 17, 3) := by decide +kernel
theorem d_Ref_wanted_28 : decode prog_8_method_29_code 28 = .ok (.aload_n 0, 1) := by decide +kernel
theorem d_Ref_wanted_29 : decode prog_8_method_29_code 29 = .ok (.aload_n 0, 1) := by decide +kernel
theorem d_Ref_wanted_30 : decode prog_8_method_29_code 30 = .ok (.getfield 39, 3) := by decide +kernel
theorem d_Ref_wanted_33 : decode prog_8_method_29_code 33 = .ok (.iload_n 3, 1) := by decide +kernel
theorem d_Ref_wanted_34 : decode prog_8_method_29_code 34 = .ok (.iaload, 1) := by decide +kernel
theorem d_Ref_wanted_35 : decode prog_8_method_29_code 35 = .ok (.iload_n 1, 1) := by decide +kernel
theorem d_Ref_wanted_36 : decode prog_8_method_29_code 36 = .ok (.invokevirtual 122, 3) := by decide +kernel
theorem d_Ref_wanted_39 : decode prog_8_method_29_code 39 = .ok (.ifCond .eq 7, 3) := by decide +kernel
theorem d_Ref_wanted_42 : decode prog_8_method_29_code 42 = .ok (.iconst 1, 1) := by decide +kernel
theorem d_Ref_wanted_43 : decode prog_8_method_29_code 43 = .ok (.goto 4, 3) := by decide +kernel
theorem d_Ref_wanted_46 : decode prog_8_method_29_code 46 = .ok (.iconst 0, 1) := by decide +kernel
theorem d_Ref_wanted_47 : decode prog_8_method_29_code 47 = .ok (.istore_n 2, 1) := by decide +kernel
theorem d_Ref_wanted_48 : decode prog_8_method_29_code 48 = .ok (.iinc 3 1, 3) := by decide +kernel
theorem d_Ref_wanted_51 : decode prog_8_method_29_code 51 = .ok (.goto (-35), 3) := by decide +kernel
theorem d_Ref_wanted_54 : decode prog_8_method_29_code 54 = .ok (.iload_n 2, 1) := by decide +kernel
theorem d_Ref_wanted_55 : decode prog_8_method_29_code 55 = .ok (.ifCond .eq 23, 3) := by decide +kernel
theorem d_Ref_wanted_58 : decode prog_8_method_29_code 58 = .ok (.aload_n 0, 1) := by decide +kernel
theorem d_Ref_wanted_59 : decode prog_8_method_29_code 59 = .ok (.iload_n 1, 1) := by decide +kernel
theorem d_Ref_wanted_60 : decode prog_8_method_29_code 60 = .ok (.invokevirtual 125, 3) := by decide +kernel
theorem d_Ref_wanted_63 : decode prog_8_method_29_code 63 = .ok (.ifCond .ne 15, 3) := by decide +kernel
theorem d_Ref_wanted_66 : decode prog_8_method_29_code 66 = .ok (.aload_n 0, 1) := by decide +kernel
theorem d_Ref_wanted_67 : decode prog_8_method_29_code 67 = .ok (.iload_n 1, 1) := by decide +kernel
theorem d_Ref_wanted_68 : decode prog_8_method_29_code 68 = .ok (.invokevirtual 128, 3) := by decide +kernel
theorem d_Ref_wanted_71 : decode prog_8_method_29_code 71 = .ok (.ifCond .ne 7, 3) := by decide +kernel
theorem d_Ref_wanted_74 : decode prog_8_method_29_code 74 = .ok (.iconst 1, 1) := by decide +kernel
theorem d_Ref_wanted_75 : decode prog_8_method_29_code 75 = .ok (.goto 4, 3) := by decide +kernel
theorem d_Ref_wanted_78 : decode prog_8_method_29_code 78 = .ok (.iconst 0, 1) := by decide +kernel
theorem d_Ref_wanted_79 : decode prog_8_method_29_code 79 = .ok (.ireturn, 1) := by decide +kernel
theorem d_Ref_include_0 : decode prog_8_method_30_code 0 = .ok (.aload_n 0, 1) := by decide +kernel
theorem d_Ref_include_1 : decode prog_8_method_30_code 1 = .ok (.getfield 39, 3) := by decide +kernel
theorem d_Ref_include_4 : decode prog_8_method_30_code 4 = .ok (.aload_n 0, 1) := by decide +kernel
theorem d_Ref_include_5 : decode prog_8_method_30_code 5 = .ok (.getfield 116, 3) := by decide +kernel
theorem d_Ref_include_8 : decode prog_8_method_30_code 8 = .ok (.iload_n 1, 1) := by decide +kernel
theorem d_Ref_include_9 : decode prog_8_method_30_code 9 = .ok (.iastore, 1) := by decide +kernel
theorem d_Ref_include_10 : decode prog_8_method_30_code 10 = .ok (.aload_n 0, 1) := by decide +kernel
theorem d_Ref_include_11 : decode prog_8_method_30_code 11 = .ok (.dup, 1) := by decide +kernel
theorem d_Ref_include_12 : decode prog_8_method_30_code 12 = .ok (.getfield 116, 3) := by decide +kernel
theorem d_Ref_include_15 : decode prog_8_method_30_code 15 = .ok (.iconst 1, 1) := by decide +kernel
theorem d_Ref_include_16 : decode prog_8_method_30_code 16 = .ok (.iadd, 1) := by decide +kernel
theorem d_Ref_include_17 : decode prog_8_method_30_code 17 = .ok (.putfield 116, 3) := by decide +kernel
theorem d_Ref_include_20 : decode prog_8_method_30_code 20 = .ok (.return_, 1) := by decide +kernel
theorem d_Ref_helps_0 : decode prog_8_method_31_code 0 = .ok (.iconst 0, 1) := by decide +kernel
theorem d_Ref_helps_1 : decode prog_8_method_31_code 1 = .ok (.istore_n 2, 1) := by decide +kernel
theorem d_Ref_helps_2 : decode prog_8_method_31_code 2 = .ok (.iconst 0, 1) := by decide +kernel
theorem d_Ref_helps_3 : decode prog_8_method_31_code 3 = .ok (.istore_n 3, 1) := by decide +kernel
theorem d_Ref_helps_4 : decode prog_8_method_31_code 4 = .ok (.iload_n 3, 1) := by decide +kernel
theorem d_Ref_helps_5 : decode prog_8_method_31_code 5 = .ok (.bipush 16, 2) := by decide +kernel
theorem d_Ref_helps_7 : decode prog_8_method_31_code 7 = .ok (.if_icmp .ge 36, 3) := by decide +kernel
theorem d_Ref_helps_10 : decode prog_8_method_31_code 10 = .ok (.iload_n 2, 1) := by decide +kernel
theorem d_Ref_helps_11 : decode prog_8_method_31_code 11 = .ok (.ifCond .ne 20, 3) := by decide +kernel
theorem d_Ref_helps_14 : decode prog_8_method_31_code 14 = .ok (.aload_n 0, 1) := by decide +kernel
theorem d_Ref_helps_15 : decode prog_8_method_31_code 15 = .ok (.iload_n 1, 1) := by decide +kernel
theorem d_Ref_helps_16 : decode prog_8_method_31_code 16 = .ok (.iload_n 3, 1) := by decide +kernel
theorem d_Ref_helps_17 : decode prog_8_method_31_code 17 = .ok (.invokevirtual 119, 3) := by decide +kernel
theorem d_Ref_helps_20 : decode prog_8_method_31_code 20 = .ok (.ifCond .eq 15, 3) := by decide +kernel
theorem d_Ref_helps_23 : decode prog_8_method_31_code 23 = .ok (.aload_n 0, 1) := by decide +kernel
theorem d_Ref_helps_24 : decode prog_8_method_31_code 24 = .ok (.iload_n 3, 1) := by decide +kernel
theorem d_Ref_helps_25 : decode prog_8_method_31_code 25 = .ok (.invokevirtual 131, 3) := by decide +kernel
theorem d_Ref_helps_28 : decode prog_8_method_31_code 28 = .ok (.ifCond .eq 7, 3) := by decide +kernel
theorem d_Ref_helps_31 : decode prog_8_method_31_code 31 = .ok (.iconst 1, 1) := by decide +kernel
theorem d_Ref_helps_32 : decode prog_8_method_31_code 32 = .ok (.goto 4, 3) := by decide +kernel
theorem d_Ref_helps_35 : decode prog_8_method_31_code 35 = .ok (.iconst 0, 1) := by decide +kernel
theorem d_Ref_helps_36 : decode prog_8_method_31_code 36 = .ok (.istore_n 2, 1) := by decide +kernel
theorem d_Ref_helps_37 : decode prog_8_method_31_code 37 = .ok (.iinc 3 1, 3) := by decide +kernel
theorem d_Ref_helps_40 : decode prog_8_method_31_code 40 = .ok (.goto (-36), 3) := by decide +kernel
theorem d_Ref_helps_43 : decode prog_8_method_31_code 43 = .ok (.iload_n 2, 1) := by decide +kernel
theorem d_Ref_helps_44 : decode prog_8_method_31_code 44 = .ok (.ireturn, 1) := by decide +kernel
theorem d_Ref_goOver_0 : decode prog_8_method_32_code 0 = .ok (.iconst 1, 1) := by decide +kernel
theorem d_Ref_goOver_1 : decode prog_8_method_32_code 1 = .ok (.istore_n 1, 1) := by decide +kernel
theorem d_Ref_goOver_2 : decode prog_8_method_32_code 2 = .ok (.iconst 0, 1) := by decide +kernel
theorem d_Ref_goOver_3 : decode prog_8_method_32_code 3 = .ok (.istore_n 2, 1) := by decide +kernel
theorem d_Ref_goOver_4 : decode prog_8_method_32_code 4 = .ok (.iload_n 2, 1) := by decide +kernel
theorem d_Ref_goOver_5 : decode prog_8_method_32_code 5 = .ok (.bipush 8, 2) := by decide +kernel
theorem d_Ref_goOver_7 : decode prog_8_method_32_code 7 = .ok (.if_icmp .ge 69, 3) := by decide +kernel
theorem d_Ref_goOver_10 : decode prog_8_method_32_code 10 = .ok (.iload_n 1, 1) := by decide +kernel
theorem d_Ref_goOver_11 : decode prog_8_method_32_code 11 = .ok (.ifCond .eq 65, 3) := by decide +kernel
theorem d_Ref_goOver_14 : decode prog_8_method_32_code 14 = .ok (.iconst 0, 1) := by decide +kernel
theorem d_Ref_goOver_15 : decode prog_8_method_32_code 15 = .ok (.istore_n 1, 1) := by decide +kernel
theorem d_Ref_goOver_16 : decode prog_8_method_32_code 16 = .ok (.iconst 0, 1) := by decide +kernel
theorem d_Ref_goOver_17 : decode prog_8_method_32_code 17 = .ok (.istore_n 3, 1) := by decide +kernel
theorem d_Ref_goOver_18 : decode prog_8_method_32_code 18 = .ok (.iload_n 3, 1) := by decide +kernel
theorem d_Ref_goOver_19 : decode prog_8_method_32_code 19 = .ok (.aload_n 0, 1) := by decide +kernel
theorem d_Ref_goOver_20 : decode prog_8_method_32_code 20 = .ok (.getfield 101, 3) := by decide +kernel
theorem d_Ref_goOver_23 : decode prog_8_method_32_code 23 = .ok (.if_icmp .ge 47, 3) := by decide +kernel
theorem d_Ref_goOver_26 : decode prog_8_method_32_code 26 = .ok (.aload_n 0, 1) := by decide +kernel
theorem d_Ref_goOver_27 : decode prog_8_method_32_code 27 = .ok (.aload_n 0, 1) := by decide +kernel
theorem d_Ref_goOver_28 : decode prog_8_method_32_code 28 = .ok (.getfield 29, 3) := by decide +kernel
theorem d_Ref_goOver_31 : decode prog_8_method_32_code 31 = .ok (.iload_n 3, 1) := by decide +kernel
theorem d_Ref_goOver_32 : decode prog_8_method_32_code 32 = .ok (.iaload, 1) := by decide +kernel
theorem d_Ref_goOver_33 : decode prog_8_method_32_code 33 = .ok (.invokevirtual 134, 3) := by decide +kernel
theorem d_Ref_goOver_36 : decode prog_8_method_32_code 36 = .ok (.ifCond .ne 28, 3) := by decide +kernel
theorem d_Ref_goOver_39 : decode prog_8_method_32_code 39 = .ok (.aload_n 0, 1) := by decide +kernel
theorem d_Ref_goOver_40 : decode prog_8_method_32_code 40 = .ok (.aload_n 0, 1) := by decide +kernel
theorem d_Ref_goOver_41 : decode prog_8_method_32_code 41 = .ok (.getfield 29, 3) := by decide +kernel
theorem d_Ref_goOver_44 : decode prog_8_method_32_code 44 = .ok (.iload_n 3, 1) := by decide +kernel
theorem d_Ref_goOver_45 : decode prog_8_method_32_code 45 = .ok (.iaload, 1) := by decide +kernel
theorem d_Ref_goOver_46 : decode prog_8_method_32_code 46 = .ok (.invokevirtual 137, 3) := by decide +kernel
theorem d_Ref_goOver_49 : decode prog_8_method_32_code 49 = .ok (.ifCond .eq 15, 3) := by decide +kernel
theorem d_Ref_goOver_52 : decode prog_8_method_32_code 52 = .ok (.aload_n 0, 1) := by decide +kernel
theorem d_Ref_goOver_53 : decode prog_8_method_32_code 53 = .ok (.aload_n 0, 1) := by decide +kernel
theorem d_Ref_goOver_54 : decode prog_8_method_32_code 54 = .ok (.getfield 29, 3) := by decide +kernel
theorem d_Ref_goOver_57 : decode prog_8_method_32_code 57 = .ok (.iload_n 3, 1) := by decide +kernel
theorem d_Ref_goOver_58 : decode prog_8_method_32_code 58 = .ok (.iaload, 1) := by decide +kernel
theorem d_Ref_goOver_59 : decode prog_8_method_32_code 59 = .ok (.invokevirtual 140, 3) := by decide +kernel
theorem d_Ref_goOver_62 : decode prog_8_method_32_code 62 = .ok (.iconst 1, 1) := by decide +kernel
theorem d_Ref_goOver_63 : decode prog_8_method_32_code 63 = .ok (.istore_n 1, 1) := by decide +kernel
theorem d_Ref_goOver_64 : decode prog_8_method_32_code 64 = .ok (.iinc 3 1, 3) := by decide +kernel
theorem d_Ref_goOver_67 : decode prog_8_method_32_code 67 = .ok (.goto (-49), 3) := by decide +kernel
theorem d_Ref_goOver_70 : decode prog_8_method_32_code 70 = .ok (.iinc 2 1, 3) := by decide +kernel
theorem d_Ref_goOver_73 : decode prog_8_method_32_code 73 = .ok (.goto (-69), 3) := by decide +kernel
theorem d_Ref_goOver_76 : decode prog_8_method_32_code 76 = .ok (.return_, 1) := by decide +kernel
theorem d_Ref_base_0 : decode prog_8_method_33_code 0 = .ok (.iconst 0, 1) := by decide +kernel
theorem d_Ref_base_1 : decode prog_8_method_33_code 1 = .ok (.istore_n 3, 1) := by decide +kernel
theorem d_Ref_base_2 : decode prog_8_method_33_code 2 = .ok (.iconst 0, 1) := by decide +kernel
theorem d_Ref_base_3 : decode prog_8_method_33_code 3 = .ok (.istore 4, 2) := by decide +kernel
theorem d_Ref_base_5 : decode prog_8_method_33_code 5 = .ok (.iload 4, 2) := by decide +kernel
theorem d_Ref_base_7 : decode prog_8_method_33_code 7 = .ok (.iload_n 2, 1) := by decide +kernel
theorem d_Ref_base_8 : decode prog_8_method_33_code 8 = .ok (.if_icmp .gt 62, 3) := by decide +kernel
theorem d_Ref_base_11 : decode prog_8_method_33_code 11 = .ok (.iconst 0, 1) := by decide +kernel
theorem d_Ref_base_12 : decode prog_8_method_33_code 12 = .ok (.istore 5, 2) := by decide +kernel
theorem d_Ref_base_14 : decode prog_8_method_33_code 14 = .ok (.iload 5, 2) := by decide +kernel
theorem d_Ref_base_16 : decode prog_8_method_33_code 16 = .ok (.aload_n 0, 1) := by decide +kernel
theorem d_Ref_base_17 : decode prog_8_method_33_code 17 = .ok (.getfield 116, 3) := by decide +kernel
theorem d_Ref_base_20 : decode prog_8_method_33_code 20 = .ok (.if_icmp .ge 44, 3) := by decide +kernel
theorem d_Ref_base_23 : decode prog_8_method_33_code 23 = .ok (.iload 4, 2) := by decide +kernel
theorem d_Ref_base_25 : decode prog_8_method_33_code 25 = .ok (.iload_n 2, 1) := by decide +kernel
theorem d_Ref_base_26 : decode prog_8_method_33_code 26 = .ok (.if_icmp .ne 16, 3) := by decide +kernel
theorem d_Ref_base_29 : decode prog_8_method_33_code 29 = .ok (.aload_n 0, 1) := by decide +kernel
theorem d_Ref_base_30 : decode prog_8_method_33_code 30 = .ok (.getfield 39, 3) := by decide +kernel
theorem d_Ref_base_33 : decode prog_8_method_33_code 33 = .ok (.iload 5, 2) := by decide +kernel
theorem d_Ref_base_35 : decode prog_8_method_33_code 35 = .ok (.iaload, 1) := by decide +kernel
theorem d_Ref_base_36 : decode prog_8_method_33_code 36 = .ok (.iload_n 1, 1) := by decide +kernel
theorem d_Ref_base_37 : decode prog_8_method_33_code 37 = .ok (.if_icmp .ne 5, 3) := by decide +kernel
theorem d_Ref_base_40 : decode prog_8_method_33_code 40 = .ok (.iload_n 3, 1) := by decide +kernel
theorem d_Ref_base_41 : decode prog_8_method_33_code 41 = .ok (.ireturn, 1) := by decide +kernel
theorem d_Ref_base_42 : decode prog_8_method_33_code 42 = .ok (.iload_n 3, 1) := by decide +kernel
theorem d_Ref_base_43 : decode prog_8_method_33_code 43 = .ok (.aload_n 0, 1) := by decide +kernel
theorem d_Ref_base_44 : decode prog_8_method_33_code 44 = .ok (.aload_n 0, 1) := by decide +kernel
theorem d_Ref_base_45 : decode prog_8_method_33_code 45 = .ok (.getfield 39, 3) := by decide +kernel
theorem d_Ref_base_48 : decode prog_8_method_33_code 48 = .ok (.iload 5, 2) := by decide +kernel
theorem d_Ref_base_50 : decode prog_8_method_33_code 50 = .ok (.iaload, 1) := by decide +kernel
theorem d_Ref_base_51 : decode prog_8_method_33_code 51 = .ok (.iload 4, 2) := by decide +kernel
theorem d_Ref_base_53 : decode prog_8_method_33_code 53 = .ok (.invokevirtual 143, 3) := by decide +kernel
theorem d_Ref_base_56 : decode prog_8_method_33_code 56 = .ok (.iadd, 1) := by decide +kernel
theorem d_Ref_base_57 : decode prog_8_method_33_code 57 = .ok (.istore_n 3, 1) := by decide +kernel
theorem d_Ref_base_58 : decode prog_8_method_33_code 58 = .ok (.iinc 5 1, 3) := by decide +kernel
theorem d_Ref_base_61 : decode prog_8_method_33_code 61 = .ok (.goto (-47), 3) := by decide +kernel
theorem d_Ref_base_64 : decode prog_8_method_33_code 64 = .ok (.iinc 4 1, 3) := by decide +kernel
theorem d_Ref_base_67 : decode prog_8_method_33_code 67 = .ok (.goto (-62), 3) := by decide +kernel
theorem d_Ref_base_70 : decode prog_8_method_33_code 70 = .ok (.iload_n 3, 1) := by decide +kernel
theorem d_Ref_base_71 : decode prog_8_method_33_code 71 = .ok (.ireturn, 1) := by decide +kernel
theorem d_Ref_sum_0 : decode prog_8_method_34_code 0 = .ok (.iconst 0, 1) := by decide +kernel
theorem d_Ref_sum_1 : decode prog_8_method_34_code 1 = .ok (.istore_n 2, 1) := by decide +kernel
theorem d_Ref_sum_2 : decode prog_8_method_34_code 2 = .ok (.iconst 0, 1) := by decide +kernel
theorem d_Ref_sum_3 : decode prog_8_method_34_code 3 = .ok (.istore_n 3, 1) := by decide +kernel
theorem d_Ref_sum_4 : decode prog_8_method_34_code 4 = .ok (.iload_n 3, 1) := by decide +kernel
theorem d_Ref_sum_5 : decode prog_8_method_34_code 5 = .ok (.aload_n 0, 1) := by decide +kernel
theorem d_Ref_sum_6 : decode prog_8_method_34_code 6 = .ok (.getfield 116, 3) := by decide +kernel
theorem d_Ref_sum_9 : decode prog_8_method_34_code 9 = .ok (.if_icmp .ge 23, 3) := by decide +kernel
theorem d_Ref_sum_12 : decode prog_8_method_34_code 12 = .ok (.iload_n 2, 1) := by decide +kernel
theorem d_Ref_sum_13 : decode prog_8_method_34_code 13 = .ok (.aload_n 0, 1) := by decide +kernel
theorem d_Ref_sum_14 : decode prog_8_method_34_code 14 = .ok (.aload_n 0, 1) := by decide +kernel
theorem d_Ref_sum_15 : decode prog_8_method_34_code 15 = .ok (.getfield 39, 3) := by decide +kernel
theorem d_Ref_sum_18 : decode prog_8_method_34_code 18 = .ok (.iload_n 3, 1) := by decide +kernel
theorem d_Ref_sum_19 : decode prog_8_method_34_code 19 = .ok (.iaload, 1) := by decide +kernel
theorem d_Ref_sum_20 : decode prog_8_method_34_code 20 = .ok (.iload_n 1, 1) := by decide +kernel
theorem d_Ref_sum_21 : decode prog_8_method_34_code 21 = .ok (.invokevirtual 143, 3) := by decide +kernel
theorem d_Ref_sum_24 : decode prog_8_method_34_code 24 = .ok (.iadd, 1) := by decide +kernel
theorem d_Ref_sum_25 : decode prog_8_method_34_code 25 = .ok (.istore_n 2, 1) := by decide +kernel
theorem d_Ref_sum_26 : decode prog_8_method_34_code 26 = .ok (.iinc 3 1, 3) := by decide +kernel
theorem d_Ref_sum_29 : decode prog_8_method_34_code 29 = .ok (.goto (-25), 3) := by decide +kernel
theorem d_Ref_sum_32 : decode prog_8_method_34_code 32 = .ok (.iload_n 2, 1) := by decide +kernel
theorem d_Ref_sum_33 : decode prog_8_method_34_code 33 = .ok (.ireturn, 1) := by decide +kernel
theorem d_Ref_commonsBelow_0 : decode prog_8_method_35_code 0 = .ok (.iconst 0, 1) := by decide +kernel
theorem d_Ref_commonsBelow_1 : decode prog_8_method_35_code 1 = .ok (.istore_n 2, 1) := by decide +kernel
theorem d_Ref_commonsBelow_2 : decode prog_8_method_35_code 2 = .ok (.iconst 0, 1) := by decide +kernel
theorem d_Ref_commonsBelow_3 : decode prog_8_method_35_code 3 = .ok (.istore_n 3, 1) := by decide +kernel
theorem d_Ref_commonsBelow_4 : decode prog_8_method_35_code 4 = .ok (.iload_n 3, 1) := by decide +kernel
theorem d_Ref_commonsBelow_5 : decode prog_8_method_35_code 5 = .ok (.iload_n 1, 1) := by decide +kernel
theorem d_Ref_commonsBelow_6 : decode prog_8_method_35_code 6 = .ok (.if_icmp .ge 29, 3) := by decide +kernel
theorem d_Ref_commonsBelow_9 : decode prog_8_method_35_code 9 = .ok (.aload_n 0, 1) := by decide +kernel
theorem d_Ref_commonsBelow_10 : decode prog_8_method_35_code 10 = .ok (.iload_n 3, 1) := by decide +kernel
theorem d_Ref_commonsBelow_11 : decode prog_8_method_35_code 11 = .ok (.invokevirtual 125, 3) := by decide +kernel
theorem d_Ref_commonsBelow_14 : decode prog_8_method_35_code 14 = .ok (.ifCond .ne 13, 3) := by decide +kernel
theorem d_Ref_commonsBelow_17 : decode prog_8_method_35_code 17 = .ok (.iload_n 2, 1) := by decide +kernel
theorem d_Ref_commonsBelow_18 : decode prog_8_method_35_code 18 = .ok (.aload_n 0, 1) := by decide +kernel
theorem d_Ref_commonsBelow_19 : decode prog_8_method_35_code 19 = .ok (.iload_n 3, 1) := by decide +kernel
theorem d_Ref_commonsBelow_20 : decode prog_8_method_35_code 20 = .ok (.invokevirtual 128, 3) := by decide +kernel
theorem d_Ref_commonsBelow_23 : decode prog_8_method_35_code 23 = .ok (.iadd, 1) := by decide +kernel
theorem d_Ref_commonsBelow_24 : decode prog_8_method_35_code 24 = .ok (.goto 4, 3) := by decide +kernel
theorem d_Ref_commonsBelow_27 : decode prog_8_method_35_code 27 = .ok (.iload_n 2, 1) := by decide +kernel
theorem d_Ref_commonsBelow_28 : decode prog_8_method_35_code 28 = .ok (.istore_n 2, 1) := by decide +kernel
theorem d_Ref_commonsBelow_29 : decode prog_8_method_35_code 29 = .ok (.iinc 3 1, 3) := by decide +kernel
theorem d_Ref_commonsBelow_32 : decode prog_8_method_35_code 32 = .ok (.goto (-28), 3) := by decide +kernel
theorem d_Ref_commonsBelow_35 : decode prog_8_method_35_code 35 = .ok (.iload_n 2, 1) := by decide +kernel
theorem d_Ref_commonsBelow_36 : decode prog_8_method_35_code 36 = .ok (.ireturn, 1) := by decide +kernel
theorem d_Ref_valueOf_0 : decode prog_8_method_36_code 0 = .ok (.aload_n 0, 1) := by decide +kernel
theorem d_Ref_valueOf_1 : decode prog_8_method_36_code 1 = .ok (.getfield 13, 3) := by decide +kernel
theorem d_Ref_valueOf_4 : decode prog_8_method_36_code 4 = .ok (.iload_n 2, 1) := by decide +kernel
theorem d_Ref_valueOf_5 : decode prog_8_method_36_code 5 = .ok (.iaload, 1) := by decide +kernel
theorem d_Ref_valueOf_6 : decode prog_8_method_36_code 6 = .ok (.bipush 8, 2) := by decide +kernel
theorem d_Ref_valueOf_8 : decode prog_8_method_36_code 8 = .ok (.if_icmp .ne 10, 3) := by decide +kernel
theorem d_Ref_valueOf_11 : decode prog_8_method_36_code 11 = .ok (.aload_n 0, 1) := by decide +kernel
theorem d_Ref_valueOf_12 : decode prog_8_method_36_code 12 = .ok (.getfield 19, 3) := by decide +kernel
theorem d_Ref_valueOf_15 : decode prog_8_method_36_code 15 = .ok (.iload_n 2, 1) := by decide +kernel
theorem d_Ref_valueOf_16 : decode prog_8_method_36_code 16 = .ok (.iaload, 1) := by decide +kernel
theorem d_Ref_valueOf_17 : decode prog_8_method_36_code 17 = .ok (.ireturn, 1) := by decide +kernel
theorem d_Ref_valueOf_18 : decode prog_8_method_36_code 18 = .ok (.aload_n 0, 1) := by decide +kernel
theorem d_Ref_valueOf_19 : decode prog_8_method_36_code 19 = .ok (.iload_n 1, 1) := by decide +kernel
theorem d_Ref_valueOf_20 : decode prog_8_method_36_code 20 = .ok (.aload_n 0, 1) := by decide +kernel
theorem d_Ref_valueOf_21 : decode prog_8_method_36_code 21 = .ok (.getfield 22, 3) := by decide +kernel
theorem d_Ref_valueOf_24 : decode prog_8_method_36_code 24 = .ok (.iload_n 2, 1) := by decide +kernel
theorem d_Ref_valueOf_25 : decode prog_8_method_36_code 25 = .ok (.iaload, 1) := by decide +kernel
theorem d_Ref_valueOf_26 : decode prog_8_method_36_code 26 = .ok (.invokevirtual 146, 3) := by decide +kernel
theorem d_Ref_valueOf_29 : decode prog_8_method_36_code 29 = .ok (.istore_n 3, 1) := by decide +kernel
theorem d_Ref_valueOf_30 : decode prog_8_method_36_code 30 = .ok (.iload_n 3, 1) := by decide +kernel
theorem d_Ref_valueOf_31 : decode prog_8_method_36_code 31 = .ok (.aload_n 0, 1) := by decide +kernel
theorem d_Ref_valueOf_32 : decode prog_8_method_36_code 32 = .ok (.iload_n 1, 1) := by decide +kernel
theorem d_Ref_valueOf_33 : decode prog_8_method_36_code 33 = .ok (.iload_n 2, 1) := by decide +kernel
theorem d_Ref_valueOf_34 : decode prog_8_method_36_code 34 = .ok (.aload_n 0, 1) := by decide +kernel
theorem d_Ref_valueOf_35 : decode prog_8_method_36_code 35 = .ok (.getfield 22, 3) := by decide +kernel
theorem d_Ref_valueOf_38 : decode prog_8_method_36_code 38 = .ok (.iload_n 2, 1) := by decide +kernel
theorem d_Ref_valueOf_39 : decode prog_8_method_36_code 39 = .ok (.iaload, 1) := by decide +kernel
theorem d_Ref_valueOf_40 : decode prog_8_method_36_code 40 = .ok (.invokevirtual 76, 3) := by decide +kernel
theorem d_Ref_valueOf_43 : decode prog_8_method_36_code 43 = .ok (.iadd, 1) := by decide +kernel
theorem d_Ref_valueOf_44 : decode prog_8_method_36_code 44 = .ok (.ireturn, 1) := by decide +kernel
theorem d_Ref_outside_0 : decode prog_8_method_37_code 0 = .ok (.iconst 0, 1) := by decide +kernel
theorem d_Ref_outside_1 : decode prog_8_method_37_code 1 = .ok (.istore_n 2, 1) := by decide +kernel
theorem d_Ref_outside_2 : decode prog_8_method_37_code 2 = .ok (.iload_n 2, 1) := by decide +kernel
theorem d_Ref_outside_3 : decode prog_8_method_37_code 3 = .ok (.aload_n 0, 1) := by decide +kernel
theorem d_Ref_outside_4 : decode prog_8_method_37_code 4 = .ok (.getfield 116, 3) := by decide +kernel
theorem d_Ref_outside_7 : decode prog_8_method_37_code 7 = .ok (.if_icmp .ge 47, 3) := by decide +kernel
theorem d_Ref_outside_10 : decode prog_8_method_37_code 10 = .ok (.aload_n 0, 1) := by decide +kernel
theorem d_Ref_outside_11 : decode prog_8_method_37_code 11 = .ok (.aload_n 0, 1) := by decide +kernel
theorem d_Ref_outside_12 : decode prog_8_method_37_code 12 = .ok (.getfield 39, 3) := by decide +kernel
theorem d_Ref_outside_15 : decode prog_8_method_37_code 15 = .ok (.iload_n 2, 1) := by decide +kernel
theorem d_Ref_outside_16 : decode prog_8_method_37_code 16 = .ok (.iaload, 1) := by decide +kernel
theorem d_Ref_outside_17 : decode prog_8_method_37_code 17 = .ok (.iload_n 1, 1) := by decide +kernel
theorem d_Ref_outside_18 : decode prog_8_method_37_code 18 = .ok (.invokevirtual 119, 3) := by decide +kernel
theorem d_Ref_outside_21 : decode prog_8_method_37_code 21 = .ok (.ifCond .eq 27, 3) := by decide +kernel
theorem d_Ref_outside_24 : decode prog_8_method_37_code 24 = .ok (.aload_n 0, 1) := by decide +kernel
theorem d_Ref_outside_25 : decode prog_8_method_37_code 25 = .ok (.aload_n 0, 1) := by decide +kernel
theorem d_Ref_outside_26 : decode prog_8_method_37_code 26 = .ok (.getfield 39, 3) := by decide +kernel
theorem d_Ref_outside_29 : decode prog_8_method_37_code 29 = .ok (.iload_n 2, 1) := by decide +kernel
theorem d_Ref_outside_30 : decode prog_8_method_37_code 30 = .ok (.iaload, 1) := by decide +kernel
theorem d_Ref_outside_31 : decode prog_8_method_37_code 31 = .ok (.iload_n 1, 1) := by decide +kernel
theorem d_Ref_outside_32 : decode prog_8_method_37_code 32 = .ok (.invokevirtual 69, 3) := by decide +kernel
theorem d_Ref_outside_35 : decode prog_8_method_37_code 35 = .ok (.istore_n 3, 1) := by decide +kernel
theorem d_Ref_outside_36 : decode prog_8_method_37_code 36 = .ok (.aload_n 0, 1) := by decide +kernel
theorem d_Ref_outside_37 : decode prog_8_method_37_code 37 = .ok (.aload_n 0, 1) := by decide +kernel
theorem d_Ref_outside_38 : decode prog_8_method_37_code 38 = .ok (.getfield 39, 3) := by decide +kernel
theorem d_Ref_outside_41 : decode prog_8_method_37_code 41 = .ok (.iload_n 2, 1) := by decide +kernel
theorem d_Ref_outside_42 : decode prog_8_method_37_code 42 = .ok (.iaload, 1) := by decide +kernel
theorem d_Ref_outside_43 : decode prog_8_method_37_code 43 = .ok (.iload_n 3, 1) := by decide +kernel
theorem d_Ref_outside_44 : decode prog_8_method_37_code 44 = .ok (.invokevirtual 149, 3) := by decide +kernel
theorem d_Ref_outside_47 : decode prog_8_method_37_code 47 = .ok (.ireturn, 1) := by decide +kernel
theorem d_Ref_outside_48 : decode prog_8_method_37_code 48 = .ok (.iinc 2 1, 3) := by decide +kernel
theorem d_Ref_outside_51 : decode prog_8_method_37_code 51 = .ok (.goto (-49), 3) := by decide +kernel
theorem d_Ref_outside_54 : decode prog_8_method_37_code 54 = .ok (.aload_n 0, 1) := by decide +kernel
theorem d_Ref_outside_55 : decode prog_8_method_37_code 55 = .ok (.iload_n 1, 1) := by decide +kernel
theorem d_Ref_outside_56 : decode prog_8_method_37_code 56 = .ok (.invokevirtual 128, 3) := by decide +kernel
theorem d_Ref_outside_59 : decode prog_8_method_37_code 59 = .ok (.ifCond .ne 7, 3) := by decide +kernel
theorem d_Ref_outside_62 : decode prog_8_method_37_code 62 = .ok (.iconst (-1), 1) := by decide +kernel
theorem d_Ref_outside_63 : decode prog_8_method_37_code 63 = .ok (.goto 26, 3) := by decide +kernel
theorem d_Ref_outside_66 : decode prog_8_method_37_code 66 = .ok (.aload_n 0, 1) := by decide +kernel
theorem d_Ref_outside_67 : decode prog_8_method_37_code 67 = .ok (.iconst 0, 1) := by decide +kernel
theorem d_Ref_outside_68 : decode prog_8_method_37_code 68 = .ok (.invokevirtual 152, 3) := by decide +kernel
theorem d_Ref_outside_71 : decode prog_8_method_37_code 71 = .ok (.aload_n 0, 1) := by decide +kernel
theorem d_Ref_outside_72 : decode prog_8_method_37_code 72 = .ok (.iconst 1, 1) := by decide +kernel
theorem d_Ref_outside_73 : decode prog_8_method_37_code 73 = .ok (.invokevirtual 152, 3) := by decide +kernel
theorem d_Ref_outside_76 : decode prog_8_method_37_code 76 = .ok (.iadd, 1) := by decide +kernel
theorem d_Ref_outside_77 : decode prog_8_method_37_code 77 = .ok (.aload_n 0, 1) := by decide +kernel
theorem d_Ref_outside_78 : decode prog_8_method_37_code 78 = .ok (.iconst 2, 1) := by decide +kernel
theorem d_Ref_outside_79 : decode prog_8_method_37_code 79 = .ok (.invokevirtual 152, 3) := by decide +kernel
theorem d_Ref_outside_82 : decode prog_8_method_37_code 82 = .ok (.iadd, 1) := by decide +kernel
theorem d_Ref_outside_83 : decode prog_8_method_37_code 83 = .ok (.aload_n 0, 1) := by decide +kernel
theorem d_Ref_outside_84 : decode prog_8_method_37_code 84 = .ok (.iload_n 1, 1) := by decide +kernel
theorem d_Ref_outside_85 : decode prog_8_method_37_code 85 = .ok (.invokevirtual 155, 3) := by decide +kernel
theorem d_Ref_outside_88 : decode prog_8_method_37_code 88 = .ok (.iadd, 1) := by decide +kernel
theorem d_Ref_outside_89 : decode prog_8_method_37_code 89 = .ok (.ireturn, 1) := by decide +kernel
theorem d_Ref_standsFor_0 : decode prog_8_method_38_code 0 = .ok (.aload_n 0, 1) := by decide +kernel
theorem d_Ref_standsFor_1 : decode prog_8_method_38_code 1 = .ok (.iload_n 1, 1) := by decide +kernel
theorem d_Ref_standsFor_2 : decode prog_8_method_38_code 2 = .ok (.iload_n 2, 1) := by decide +kernel
theorem d_Ref_standsFor_3 : decode prog_8_method_38_code 3 = .ok (.invokevirtual 69, 3) := by decide +kernel
theorem d_Ref_standsFor_6 : decode prog_8_method_38_code 6 = .ok (.istore_n 3, 1) := by decide +kernel
theorem d_Ref_standsFor_7 : decode prog_8_method_38_code 7 = .ok (.iload_n 3, 1) := by decide +kernel
theorem d_Ref_standsFor_8 : decode prog_8_method_38_code 8 = .ok (.ifCond .lt 12, 3) := by decide +kernel
theorem d_Ref_standsFor_11 : decode prog_8_method_38_code 11 = .ok (.aload_n 0, 1) := by decide +kernel
theorem d_Ref_standsFor_12 : decode prog_8_method_38_code 12 = .ok (.iload_n 1, 1) := by decide +kernel
theorem d_Ref_standsFor_13 : decode prog_8_method_38_code 13 = .ok (.iload_n 3, 1) := by decide +kernel
theorem d_Ref_standsFor_14 : decode prog_8_method_38_code 14 = .ok (.invokevirtual 149, 3) := by decide +kernel
theorem d_Ref_standsFor_17 : decode prog_8_method_38_code 17 = .ok (.goto 8, 3) := by decide +kernel
theorem d_Ref_standsFor_20 : decode prog_8_method_38_code 20 = .ok (.aload_n 0, 1) := by decide +kernel
theorem d_Ref_standsFor_21 : decode prog_8_method_38_code 21 = .ok (.iload_n 2, 1) := by decide +kernel
theorem d_Ref_standsFor_22 : decode prog_8_method_38_code 22 = .ok (.invokevirtual 158, 3) := by decide +kernel
theorem d_Ref_standsFor_25 : decode prog_8_method_38_code 25 = .ok (.ireturn, 1) := by decide +kernel
theorem d_Ref_write_0 : decode prog_8_method_39_code 0 = .ok (.aload_n 0, 1) := by decide +kernel
theorem d_Ref_write_1 : decode prog_8_method_39_code 1 = .ok (.iload_n 1, 1) := by decide +kernel
theorem d_Ref_write_2 : decode prog_8_method_39_code 2 = .ok (.aload_n 0, 1) := by decide +kernel
theorem d_Ref_write_3 : decode prog_8_method_39_code 3 = .ok (.getfield 22, 3) := by decide +kernel
theorem d_Ref_write_6 : decode prog_8_method_39_code 6 = .ok (.iload_n 2, 1) := by decide +kernel
theorem d_Ref_write_7 : decode prog_8_method_39_code 7 = .ok (.iaload, 1) := by decide +kernel
theorem d_Ref_write_8 : decode prog_8_method_39_code 8 = .ok (.invokevirtual 146, 3) := by decide +kernel
theorem d_Ref_write_11 : decode prog_8_method_39_code 11 = .ok (.istore_n 3, 1) := by decide +kernel
theorem d_Ref_write_12 : decode prog_8_method_39_code 12 = .ok (.iload_n 3, 1) := by decide +kernel
theorem d_Ref_write_13 : decode prog_8_method_39_code 13 = .ok (.aload_n 0, 1) := by decide +kernel
theorem d_Ref_write_14 : decode prog_8_method_39_code 14 = .ok (.iload_n 1, 1) := by decide +kernel
theorem d_Ref_write_15 : decode prog_8_method_39_code 15 = .ok (.iload_n 2, 1) := by decide +kernel
theorem d_Ref_write_16 : decode prog_8_method_39_code 16 = .ok (.aload_n 0, 1) := by decide +kernel
theorem d_Ref_write_17 : decode prog_8_method_39_code 17 = .ok (.getfield 22, 3) := by decide +kernel
theorem d_Ref_write_20 : decode prog_8_method_39_code 20 = .ok (.iload_n 2, 1) := by decide +kernel
theorem d_Ref_write_21 : decode prog_8_method_39_code 21 = .ok (.iaload, 1) := by decide +kernel
theorem d_Ref_write_22 : decode prog_8_method_39_code 22 = .ok (.invokevirtual 76, 3) := by decide +kernel
theorem d_Ref_write_25 : decode prog_8_method_39_code 25 = .ok (.iadd, 1) := by decide +kernel
theorem d_Ref_write_26 : decode prog_8_method_39_code 26 = .ok (.istore 4, 2) := by decide +kernel
theorem d_Ref_write_28 : decode prog_8_method_39_code 28 = .ok (.aload_n 0, 1) := by decide +kernel
theorem d_Ref_write_29 : decode prog_8_method_39_code 29 = .ok (.getfield 13, 3) := by decide +kernel
theorem d_Ref_write_32 : decode prog_8_method_39_code 32 = .ok (.iload_n 2, 1) := by decide +kernel
theorem d_Ref_write_33 : decode prog_8_method_39_code 33 = .ok (.iaload, 1) := by decide +kernel
theorem d_Ref_write_34 : decode prog_8_method_39_code 34 = .ok (.iconst 3, 1) := by decide +kernel
theorem d_Ref_write_35 : decode prog_8_method_39_code 35 = .ok (.if_icmp .ne 19, 3) := by decide +kernel
theorem d_Ref_write_38 : decode prog_8_method_39_code 38 = .ok (.aload_n 0, 1) := by decide +kernel
theorem d_Ref_write_39 : decode prog_8_method_39_code 39 = .ok (.getfield 42, 3) := by decide +kernel
theorem d_Ref_write_42 : decode prog_8_method_39_code 42 = .ok (.iload 4, 2) := by decide +kernel
theorem d_Ref_write_44 : decode prog_8_method_39_code 44 = .ok (.aload_n 0, 1) := by decide +kernel
theorem d_Ref_write_45 : decode prog_8_method_39_code 45 = .ok (.getfield 16, 3) := by decide +kernel
theorem d_Ref_write_48 : decode prog_8_method_39_code 48 = .ok (.iload_n 2, 1) := by decide +kernel
theorem d_Ref_write_49 : decode prog_8_method_39_code 49 = .ok (.iaload, 1) := by decide +kernel
theorem d_Ref_write_50 : decode prog_8_method_39_code 50 = .ok (.iastore, 1) := by decide +kernel
theorem d_Ref_write_51 : decode prog_8_method_39_code 51 = .ok (.goto 149, 3) := by decide +kernel
theorem d_Ref_write_54 : decode prog_8_method_39_code 54 = .ok (.aload_n 0, 1) := by decide +kernel
theorem d_Ref_write_55 : decode prog_8_method_39_code 55 = .ok (.getfield 13, 3) := by decide +kernel
theorem d_Ref_write_58 : decode prog_8_method_39_code 58 = .ok (.iload_n 2, 1) := by decide +kernel
theorem d_Ref_write_59 : decode prog_8_method_39_code 59 = .ok (.iaload, 1) := by decide +kernel
theorem d_Ref_write_60 : decode prog_8_method_39_code 60 = .ok (.iconst 4, 1) := by decide +kernel
theorem d_Ref_write_61 : decode prog_8_method_39_code 61 = .ok (.if_icmp .ne 34, 3) := by decide +kernel
theorem d_Ref_write_64 : decode prog_8_method_39_code 64 = .ok (.aload_n 0, 1) := by decide +kernel
theorem d_Ref_write_65 : decode prog_8_method_39_code 65 = .ok (.getfield 42, 3) := by decide +kernel
theorem d_Ref_write_68 : decode prog_8_method_39_code 68 = .ok (.iload 4, 2) := by decide +kernel
theorem d_Ref_write_70 : decode prog_8_method_39_code 70 = .ok (.aload_n 0, 1) := by decide +kernel
theorem d_Ref_write_71 : decode prog_8_method_39_code 71 = .ok (.iload_n 1, 1) := by decide +kernel
theorem d_Ref_write_72 : decode prog_8_method_39_code 72 = .ok (.aload_n 0, 1) := by decide +kernel
theorem d_Ref_write_73 : decode prog_8_method_39_code 73 = .ok (.getfield 16, 3) := by decide +kernel
theorem d_Ref_write_76 : decode prog_8_method_39_code 76 = .ok (.iload_n 2, 1) := by decide +kernel
theorem d_Ref_write_77 : decode prog_8_method_39_code 77 = .ok (.iaload, 1) := by decide +kernel
theorem d_Ref_write_78 : decode prog_8_method_39_code 78 = .ok (.invokevirtual 161, 3) := by decide +kernel
theorem d_Ref_write_81 : decode prog_8_method_39_code 81 = .ok (.aload_n 0, 1) := by decide +kernel
theorem d_Ref_write_82 : decode prog_8_method_39_code 82 = .ok (.getfield 19, 3) := by decide +kernel
theorem d_Ref_write_85 : decode prog_8_method_39_code 85 = .ok (.iload_n 2, 1) := by decide +kernel
theorem d_Ref_write_86 : decode prog_8_method_39_code 86 = .ok (.iaload, 1) := by decide +kernel
theorem d_Ref_write_87 : decode prog_8_method_39_code 87 = .ok (.iadd, 1) := by decide +kernel
theorem d_Ref_write_88 : decode prog_8_method_39_code 88 = .ok (.ldc 60, 2) := by decide +kernel
theorem d_Ref_write_90 : decode prog_8_method_39_code 90 = .ok (.iand, 1) := by decide +kernel
theorem d_Ref_write_91 : decode prog_8_method_39_code 91 = .ok (.iastore, 1) := by decide +kernel
theorem d_Ref_write_92 : decode prog_8_method_39_code 92 = .ok (.goto 108, 3) := by decide +kernel
theorem d_Ref_write_95 : decode prog_8_method_39_code 95 = .ok (.aload_n 0, 1) := by decide +kernel
theorem d_Ref_write_96 : decode prog_8_method_39_code 96 = .ok (.getfield 13, 3) := by decide +kernel
theorem d_Ref_write_99 : decode prog_8_method_39_code 99 = .ok (.iload_n 2, 1) := by decide +kernel
theorem d_Ref_write_100 : decode prog_8_method_39_code 100 = .ok (.iaload, 1) := by decide +kernel
theorem d_Ref_write_101 : decode prog_8_method_39_code 101 = .ok (.bipush 6, 2) := by decide +kernel
theorem d_Ref_write_103 : decode prog_8_method_39_code 103 = .ok (.if_icmp .ne 55, 3) := by decide +kernel
theorem d_Ref_write_106 : decode prog_8_method_39_code 106 = .ok (.aload_n 0, 1) := by decide +kernel
theorem d_Ref_write_107 : decode prog_8_method_39_code 107 = .ok (.getfield 25, 3) := by decide +kernel
theorem d_Ref_write_110 : decode prog_8_method_39_code 110 = .ok (.iload_n 2, 1) := by decide +kernel
theorem d_Ref_write_111 : decode prog_8_method_39_code 111 = .ok (.baload, 1) := by decide +kernel
theorem d_Ref_write_112 : decode prog_8_method_39_code 112 = .ok (.ifCond .eq 46, 3) := by decide +kernel
theorem d_Ref_write_115 : decode prog_8_method_39_code 115 = .ok (.aload_n 0, 1) := by decide +kernel
theorem d_Ref_write_116 : decode prog_8_method_39_code 116 = .ok (.getfield 42, 3) := by decide +kernel
theorem d_Ref_write_119 : decode prog_8_method_39_code 119 = .ok (.iload 4, 2) := by decide +kernel
theorem d_Ref_write_121 : decode prog_8_method_39_code 121 = .ok (.ldc 164, 2) := by decide +kernel
theorem d_Ref_write_123 : decode prog_8_method_39_code 123 = .ok (.sipush 256, 3) := by decide +kernel
theorem d_Ref_write_126 : decode prog_8_method_39_code 126 = .ok (.aload_n 0, 1) := by decide +kernel
theorem d_Ref_write_127 : decode prog_8_method_39_code 127 = .ok (.getfield 19, 3) := by decide +kernel
theorem d_Ref_write_130 : decode prog_8_method_39_code 130 = .ok (.iload_n 2, 1) := by decide +kernel
theorem d_Ref_write_131 : decode prog_8_method_39_code 131 = .ok (.iaload, 1) := by decide +kernel
theorem d_Ref_write_132 : decode prog_8_method_39_code 132 = .ok (.imul, 1) := by decide +kernel
theorem d_Ref_write_133 : decode prog_8_method_39_code 133 = .ok (.iadd, 1) := by decide +kernel
theorem d_Ref_write_134 : decode prog_8_method_39_code 134 = .ok (.iastore, 1) := by decide +kernel
theorem d_Ref_write_135 : decode prog_8_method_39_code 135 = .ok (.aload_n 0, 1) := by decide +kernel
theorem d_Ref_write_136 : decode prog_8_method_39_code 136 = .ok (.getfield 42, 3) := by decide +kernel
theorem d_Ref_write_139 : decode prog_8_method_39_code 139 = .ok (.iload 4, 2) := by decide +kernel
theorem d_Ref_write_141 : decode prog_8_method_39_code 141 = .ok (.iconst 1, 1) := by decide +kernel
theorem d_Ref_write_142 : decode prog_8_method_39_code 142 = .ok (.iadd, 1) := by decide +kernel
theorem d_Ref_write_143 : decode prog_8_method_39_code 143 = .ok (.aload_n 0, 1) := by decide +kernel
theorem d_Ref_write_144 : decode prog_8_method_39_code 144 = .ok (.iload_n 1, 1) := by decide +kernel
theorem d_Ref_write_145 : decode prog_8_method_39_code 145 = .ok (.aload_n 0, 1) := by decide +kernel
theorem d_Ref_write_146 : decode prog_8_method_39_code 146 = .ok (.getfield 16, 3) := by decide +kernel
theorem d_Ref_write_149 : decode prog_8_method_39_code 149 = .ok (.iload_n 2, 1) := by decide +kernel
theorem d_Ref_write_150 : decode prog_8_method_39_code 150 = .ok (.iaload, 1) := by decide +kernel
theorem d_Ref_write_151 : decode prog_8_method_39_code 151 = .ok (.invokevirtual 161, 3) := by decide +kernel
theorem d_Ref_write_154 : decode prog_8_method_39_code 154 = .ok (.iastore, 1) := by decide +kernel
theorem d_Ref_write_155 : decode prog_8_method_39_code 155 = .ok (.goto 45, 3) := by decide +kernel
theorem d_Ref_write_158 : decode prog_8_method_39_code 158 = .ok (.aload_n 0, 1) := by decide +kernel
theorem d_Ref_write_159 : decode prog_8_method_39_code 159 = .ok (.getfield 13, 3) := by decide +kernel
theorem d_Ref_write_162 : decode prog_8_method_39_code 162 = .ok (.iload_n 2, 1) := by decide +kernel
theorem d_Ref_write_163 : decode prog_8_method_39_code 163 = .ok (.iaload, 1) := by decide +kernel
theorem d_Ref_write_164 : decode prog_8_method_39_code 164 = .ok (.bipush 6, 2) := by decide +kernel
theorem d_Ref_write_166 : decode prog_8_method_39_code 166 = .ok (.if_icmp .ne 34, 3) := by decide +kernel
theorem d_Ref_write_169 : decode prog_8_method_39_code 169 = .ok (.aload_n 0, 1) := by decide +kernel
theorem d_Ref_write_170 : decode prog_8_method_39_code 170 = .ok (.getfield 42, 3) := by decide +kernel
theorem d_Ref_write_173 : decode prog_8_method_39_code 173 = .ok (.iload 4, 2) := by decide +kernel
theorem d_Ref_write_175 : decode prog_8_method_39_code 175 = .ok (.ldc 165, 2) := by decide +kernel
theorem d_Ref_write_177 : decode prog_8_method_39_code 177 = .ok (.sipush 256, 3) := by decide +kernel
theorem d_Ref_write_180 : decode prog_8_method_39_code 180 = .ok (.aload_n 0, 1) := by decide +kernel
theorem d_Ref_write_181 : decode prog_8_method_39_code 181 = .ok (.getfield 19, 3) := by decide +kernel
theorem d_Ref_write_184 : decode prog_8_method_39_code 184 = .ok (.iload_n 2, 1) := by decide +kernel
theorem d_Ref_write_185 : decode prog_8_method_39_code 185 = .ok (.iaload, 1) := by decide +kernel
theorem d_Ref_write_186 : decode prog_8_method_39_code 186 = .ok (.imul, 1) := by decide +kernel
theorem d_Ref_write_187 : decode prog_8_method_39_code 187 = .ok (.iadd, 1) := by decide +kernel
theorem d_Ref_write_188 : decode prog_8_method_39_code 188 = .ok (.aload_n 0, 1) := by decide +kernel
theorem d_Ref_write_189 : decode prog_8_method_39_code 189 = .ok (.iload_n 1, 1) := by decide +kernel
theorem d_Ref_write_190 : decode prog_8_method_39_code 190 = .ok (.iload_n 2, 1) := by decide +kernel
theorem d_Ref_write_191 : decode prog_8_method_39_code 191 = .ok (.invokevirtual 80, 3) := by decide +kernel
theorem d_Ref_write_194 : decode prog_8_method_39_code 194 = .ok (.sipush 255, 3) := by decide +kernel
theorem d_Ref_write_197 : decode prog_8_method_39_code 197 = .ok (.iand, 1) := by decide +kernel
theorem d_Ref_write_198 : decode prog_8_method_39_code 198 = .ok (.iadd, 1) := by decide +kernel
theorem d_Ref_write_199 : decode prog_8_method_39_code 199 = .ok (.iastore, 1) := by decide +kernel
theorem d_Ref_write_200 : decode prog_8_method_39_code 200 = .ok (.return_, 1) := by decide +kernel
theorem d_Ref_layOut_0 : decode prog_8_method_40_code 0 = .ok (.iconst 0, 1) := by decide +kernel
theorem d_Ref_layOut_1 : decode prog_8_method_40_code 1 = .ok (.istore_n 1, 1) := by decide +kernel
theorem d_Ref_layOut_2 : decode prog_8_method_40_code 2 = .ok (.iload_n 1, 1) := by decide +kernel
theorem d_Ref_layOut_3 : decode prog_8_method_40_code 3 = .ok (.sipush 200, 3) := by decide +kernel
theorem d_Ref_layOut_6 : decode prog_8_method_40_code 6 = .ok (.if_icmp .ge 16, 3) := by decide +kernel
theorem d_Ref_layOut_9 : decode prog_8_method_40_code 9 = .ok (.aload_n 0, 1) := by decide +kernel
theorem d_Ref_layOut_10 : decode prog_8_method_40_code 10 = .ok (.getfield 42, 3) := by decide +kernel
theorem d_Ref_layOut_13 : decode prog_8_method_40_code 13 = .ok (.iload_n 1, 1) := by decide +kernel
theorem d_Ref_layOut_14 : decode prog_8_method_40_code 14 = .ok (.iconst 0, 1) := by decide +kernel
theorem d_Ref_layOut_15 : decode prog_8_method_40_code 15 = .ok (.iastore, 1) := by decide +kernel
theorem d_Ref_layOut_16 : decode prog_8_method_40_code 16 = .ok (.iinc 1 1, 3) := by decide +kernel
theorem d_Ref_layOut_19 : decode prog_8_method_40_code 19 = .ok (.goto (-17), 3) := by decide +kernel
theorem d_Ref_layOut_22 : decode prog_8_method_40_code 22 = .ok (.iconst 0, 1) := by decide +kernel
theorem d_Ref_layOut_23 : decode prog_8_method_40_code 23 = .ok (.istore_n 1, 1) := by decide +kernel
theorem d_Ref_layOut_24 : decode prog_8_method_40_code 24 = .ok (.iload_n 1, 1) := by decide +kernel
theorem d_Ref_layOut_25 : decode prog_8_method_40_code 25 = .ok (.aload_n 0, 1) := by decide +kernel
theorem d_Ref_layOut_26 : decode prog_8_method_40_code 26 = .ok (.getfield 116, 3) := by decide +kernel
theorem d_Ref_layOut_29 : decode prog_8_method_40_code 29 = .ok (.if_icmp .ge 48, 3) := by decide +kernel
theorem d_Ref_layOut_32 : decode prog_8_method_40_code 32 = .ok (.aload_n 0, 1) := by decide +kernel
theorem d_Ref_layOut_33 : decode prog_8_method_40_code 33 = .ok (.getfield 39, 3) := by decide +kernel
theorem d_Ref_layOut_36 : decode prog_8_method_40_code 36 = .ok (.iload_n 1, 1) := by decide +kernel
theorem d_Ref_layOut_37 : decode prog_8_method_40_code 37 = .ok (.iaload, 1) := by decide +kernel
theorem d_Ref_layOut_38 : decode prog_8_method_40_code 38 = .ok (.istore_n 2, 1) := by decide +kernel
theorem d_Ref_layOut_39 : decode prog_8_method_40_code 39 = .ok (.bipush 20, 2) := by decide +kernel
theorem d_Ref_layOut_41 : decode prog_8_method_40_code 41 = .ok (.iload_n 2, 1) := by decide +kernel
theorem d_Ref_layOut_42 : decode prog_8_method_40_code 42 = .ok (.imul, 1) := by decide +kernel
theorem d_Ref_layOut_43 : decode prog_8_method_40_code 43 = .ok (.istore_n 3, 1) := by decide +kernel
theorem d_Ref_layOut_44 : decode prog_8_method_40_code 44 = .ok (.iload_n 3, 1) := by decide +kernel
theorem d_Ref_layOut_45 : decode prog_8_method_40_code 45 = .ok (.bipush 20, 2) := by decide +kernel
theorem d_Ref_layOut_47 : decode prog_8_method_40_code 47 = .ok (.iload_n 2, 1) := by decide +kernel
theorem d_Ref_layOut_48 : decode prog_8_method_40_code 48 = .ok (.imul, 1) := by decide +kernel
theorem d_Ref_layOut_49 : decode prog_8_method_40_code 49 = .ok (.aload_n 0, 1) := by decide +kernel
theorem d_Ref_layOut_50 : decode prog_8_method_40_code 50 = .ok (.getfield 7, 3) := by decide +kernel
theorem d_Ref_layOut_53 : decode prog_8_method_40_code 53 = .ok (.iload_n 2, 1) := by decide +kernel
theorem d_Ref_layOut_54 : decode prog_8_method_40_code 54 = .ok (.iaload, 1) := by decide +kernel
theorem d_Ref_layOut_55 : decode prog_8_method_40_code 55 = .ok (.iadd, 1) := by decide +kernel
theorem d_Ref_layOut_56 : decode prog_8_method_40_code 56 = .ok (.if_icmp .ge 15, 3) := by decide +kernel
theorem d_Ref_layOut_59 : decode prog_8_method_40_code 59 = .ok (.aload_n 0, 1) := by decide +kernel
theorem d_Ref_layOut_60 : decode prog_8_method_40_code 60 = .ok (.iload_n 2, 1) := by decide +kernel
theorem d_Ref_layOut_61 : decode prog_8_method_40_code 61 = .ok (.iload_n 3, 1) := by decide +kernel
theorem d_Ref_layOut_62 : decode prog_8_method_40_code 62 = .ok (.invokevirtual 166, 3) := by decide +kernel
theorem d_Ref_layOut_65 : decode prog_8_method_40_code 65 = .ok (.iinc 3 1, 3) := by decide +kernel
theorem d_Ref_layOut_68 : decode prog_8_method_40_code 68 = .ok (.goto (-24), 3) := by decide +kernel
theorem d_Ref_layOut_71 : decode prog_8_method_40_code 71 = .ok (.iinc 1 1, 3) := by decide +kernel
theorem d_Ref_layOut_74 : decode prog_8_method_40_code 74 = .ok (.goto (-50), 3) := by decide +kernel
theorem d_Ref_layOut_77 : decode prog_8_method_40_code 77 = .ok (.iconst 0, 1) := by decide +kernel
theorem d_Ref_layOut_78 : decode prog_8_method_40_code 78 = .ok (.istore_n 1, 1) := by decide +kernel
theorem d_Ref_layOut_79 : decode prog_8_method_40_code 79 = .ok (.iload_n 1, 1) := by decide +kernel
theorem d_Ref_layOut_80 : decode prog_8_method_40_code 80 = .ok (.bipush 16, 2) := by decide +kernel
theorem d_Ref_layOut_82 : decode prog_8_method_40_code 82 = .ok (.if_icmp .ge 20, 3) := by decide +kernel
theorem d_Ref_layOut_85 : decode prog_8_method_40_code 85 = .ok (.aload_n 0, 1) := by decide +kernel
theorem d_Ref_layOut_86 : decode prog_8_method_40_code 86 = .ok (.getfield 48, 3) := by decide +kernel
theorem d_Ref_layOut_89 : decode prog_8_method_40_code 89 = .ok (.iload_n 1, 1) := by decide +kernel
theorem d_Ref_layOut_90 : decode prog_8_method_40_code 90 = .ok (.aload_n 0, 1) := by decide +kernel
theorem d_Ref_layOut_91 : decode prog_8_method_40_code 91 = .ok (.iload_n 1, 1) := by decide +kernel
theorem d_Ref_layOut_92 : decode prog_8_method_40_code 92 = .ok (.invokevirtual 158, 3) := by decide +kernel
theorem d_Ref_layOut_95 : decode prog_8_method_40_code 95 = .ok (.iastore, 1) := by decide +kernel
theorem d_Ref_layOut_96 : decode prog_8_method_40_code 96 = .ok (.iinc 1 1, 3) := by decide +kernel
theorem d_Ref_layOut_99 : decode prog_8_method_40_code 99 = .ok (.goto (-20), 3) := by decide +kernel
theorem d_Ref_layOut_102 : decode prog_8_method_40_code 102 = .ok (.aload_n 0, 1) := by decide +kernel
theorem d_Ref_layOut_103 : decode prog_8_method_40_code 103 = .ok (.getfield 45, 3) := by decide +kernel
theorem d_Ref_layOut_106 : decode prog_8_method_40_code 106 = .ok (.iconst 0, 1) := by decide +kernel
theorem d_Ref_layOut_107 : decode prog_8_method_40_code 107 = .ok (.aload_n 0, 1) := by decide +kernel
theorem d_Ref_layOut_108 : decode prog_8_method_40_code 108 = .ok (.iconst 0, 1) := by decide +kernel
theorem d_Ref_layOut_109 : decode prog_8_method_40_code 109 = .ok (.invokevirtual 152, 3) := by decide +kernel
theorem d_Ref_layOut_112 : decode prog_8_method_40_code 112 = .ok (.iastore, 1) := by decide +kernel
theorem d_Ref_layOut_113 : decode prog_8_method_40_code 113 = .ok (.aload_n 0, 1) := by decide +kernel
theorem d_Ref_layOut_114 : decode prog_8_method_40_code 114 = .ok (.getfield 45, 3) := by decide +kernel
theorem d_Ref_layOut_117 : decode prog_8_method_40_code 117 = .ok (.iconst 1, 1) := by decide +kernel
theorem d_Ref_layOut_118 : decode prog_8_method_40_code 118 = .ok (.aload_n 0, 1) := by decide +kernel
theorem d_Ref_layOut_119 : decode prog_8_method_40_code 119 = .ok (.iconst 1, 1) := by decide +kernel
theorem d_Ref_layOut_120 : decode prog_8_method_40_code 120 = .ok (.invokevirtual 152, 3) := by decide +kernel
theorem d_Ref_layOut_123 : decode prog_8_method_40_code 123 = .ok (.iastore, 1) := by decide +kernel
theorem d_Ref_layOut_124 : decode prog_8_method_40_code 124 = .ok (.aload_n 0, 1) := by decide +kernel
theorem d_Ref_layOut_125 : decode prog_8_method_40_code 125 = .ok (.getfield 45, 3) := by decide +kernel
theorem d_Ref_layOut_128 : decode prog_8_method_40_code 128 = .ok (.iconst 2, 1) := by decide +kernel
theorem d_Ref_layOut_129 : decode prog_8_method_40_code 129 = .ok (.aload_n 0, 1) := by decide +kernel
theorem d_Ref_layOut_130 : decode prog_8_method_40_code 130 = .ok (.getfield 170, 3) := by decide +kernel
theorem d_Ref_layOut_133 : decode prog_8_method_40_code 133 = .ok (.aload_n 0, 1) := by decide +kernel
theorem d_Ref_layOut_134 : decode prog_8_method_40_code 134 = .ok (.getfield 45, 3) := by decide +kernel
theorem d_Ref_layOut_137 : decode prog_8_method_40_code 137 = .ok (.iconst 0, 1) := by decide +kernel
theorem d_Ref_layOut_138 : decode prog_8_method_40_code 138 = .ok (.iaload, 1) := by decide +kernel
theorem d_Ref_layOut_139 : decode prog_8_method_40_code 139 = .ok (.isub, 1) := by decide +kernel
theorem d_Ref_layOut_140 : decode prog_8_method_40_code 140 = .ok (.aload_n 0, 1) := by decide +kernel
theorem d_Ref_layOut_141 : decode prog_8_method_40_code 141 = .ok (.getfield 45, 3) := by decide +kernel
theorem d_Ref_layOut_144 : decode prog_8_method_40_code 144 = .ok (.iconst 1, 1) := by decide +kernel
theorem d_Ref_layOut_145 : decode prog_8_method_40_code 145 = .ok (.iaload, 1) := by decide +kernel
theorem d_Ref_layOut_146 : decode prog_8_method_40_code 146 = .ok (.isub, 1) := by decide +kernel
theorem d_Ref_layOut_147 : decode prog_8_method_40_code 147 = .ok (.iastore, 1) := by decide +kernel
theorem d_Ref_layOut_148 : decode prog_8_method_40_code 148 = .ok (.aload_n 0, 1) := by decide +kernel
theorem d_Ref_layOut_149 : decode prog_8_method_40_code 149 = .ok (.aload_n 0, 1) := by decide +kernel
theorem d_Ref_layOut_150 : decode prog_8_method_40_code 150 = .ok (.getfield 35, 3) := by decide +kernel
theorem d_Ref_layOut_153 : decode prog_8_method_40_code 153 = .ok (.ifCond .ge 7, 3) := by decide +kernel
theorem d_Ref_layOut_156 : decode prog_8_method_40_code 156 = .ok (.iconst 0, 1) := by decide +kernel
theorem d_Ref_layOut_157 : decode prog_8_method_40_code 157 = .ok (.goto 12, 3) := by decide +kernel
theorem d_Ref_layOut_160 : decode prog_8_method_40_code 160 = .ok (.aload_n 0, 1) := by decide +kernel
theorem d_Ref_layOut_161 : decode prog_8_method_40_code 161 = .ok (.getfield 48, 3) := by decide +kernel
theorem d_Ref_layOut_164 : decode prog_8_method_40_code 164 = .ok (.aload_n 0, 1) := by decide +kernel
theorem d_Ref_layOut_165 : decode prog_8_method_40_code 165 = .ok (.getfield 35, 3) := by decide +kernel
theorem d_Ref_layOut_168 : decode prog_8_method_40_code 168 = .ok (.iaload, 1) := by decide +kernel
theorem d_Ref_layOut_169 : decode prog_8_method_40_code 169 = .ok (.putfield 173, 3) := by decide +kernel
theorem d_Ref_layOut_172 : decode prog_8_method_40_code 172 = .ok (.aload_n 0, 1) := by decide +kernel
theorem d_Ref_layOut_173 : decode prog_8_method_40_code 173 = .ok (.iconst 1, 1) := by decide +kernel
theorem d_Ref_layOut_174 : decode prog_8_method_40_code 174 = .ok (.putfield 176, 3) := by decide +kernel
theorem d_Ref_layOut_177 : decode prog_8_method_40_code 177 = .ok (.aload_n 0, 1) := by decide +kernel
theorem d_Ref_layOut_178 : decode prog_8_method_40_code 178 = .ok (.iconst 0, 1) := by decide +kernel
theorem d_Ref_layOut_179 : decode prog_8_method_40_code 179 = .ok (.putfield 180, 3) := by decide +kernel
theorem d_Ref_layOut_182 : decode prog_8_method_40_code 182 = .ok (.return_, 1) := by decide +kernel
theorem d_Ref_link_0 : decode prog_8_method_41_code 0 = .ok (.iload_n 1, 1) := by decide +kernel
theorem d_Ref_link_1 : decode prog_8_method_41_code 1 = .ok (.iconst (-1), 1) := by decide +kernel
theorem d_Ref_link_2 : decode prog_8_method_41_code 2 = .ok (.if_icmp .lt 9, 3) := by decide +kernel
theorem d_Ref_link_5 : decode prog_8_method_41_code 5 = .ok (.iload_n 1, 1) := by decide +kernel
theorem d_Ref_link_6 : decode prog_8_method_41_code 6 = .ok (.bipush 15, 2) := by decide +kernel
theorem d_Ref_link_8 : decode prog_8_method_41_code 8 = .ok (.if_icmp .le 5, 3) := by decide +kernel
theorem d_Ref_link_11 : decode prog_8_method_41_code 11 = .ok (.iconst (-1), 1) := by decide +kernel
theorem d_Ref_link_12 : decode prog_8_method_41_code 12 = .ok (.ireturn, 1) := by decide +kernel
theorem d_Ref_link_13 : decode prog_8_method_41_code 13 = .ok (.aload_n 0, 1) := by decide +kernel
theorem d_Ref_link_14 : decode prog_8_method_41_code 14 = .ok (.iconst 0, 1) := by decide +kernel
theorem d_Ref_link_15 : decode prog_8_method_41_code 15 = .ok (.putfield 176, 3) := by decide +kernel
theorem d_Ref_link_18 : decode prog_8_method_41_code 18 = .ok (.aload_n 0, 1) := by decide +kernel
theorem d_Ref_link_19 : decode prog_8_method_41_code 19 = .ok (.iconst 0, 1) := by decide +kernel
theorem d_Ref_link_20 : decode prog_8_method_41_code 20 = .ok (.putfield 183, 3) := by decide +kernel
theorem d_Ref_link_23 : decode prog_8_method_41_code 23 = .ok (.aload_n 0, 1) := by decide +kernel
theorem d_Ref_link_24 : decode prog_8_method_41_code 24 = .ok (.iload_n 1, 1) := by decide +kernel
theorem d_Ref_link_25 : decode prog_8_method_41_code 25 = .ok (.putfield 35, 3) := by decide +kernel
theorem d_Ref_link_28 : decode prog_8_method_41_code 28 = .ok (.aload_n 0, 1) := by decide +kernel
theorem d_Ref_link_29 : decode prog_8_method_41_code 29 = .ok (.iconst 0, 1) := by decide +kernel
theorem d_Ref_link_30 : decode prog_8_method_41_code 30 = .ok (.putfield 116, 3) := by decide +kernel
theorem d_Ref_link_33 : decode prog_8_method_41_code 33 = .ok (.iconst 0, 1) := by decide +kernel
theorem d_Ref_link_34 : decode prog_8_method_41_code 34 = .ok (.istore_n 2, 1) := by decide +kernel
theorem d_Ref_link_35 : decode prog_8_method_41_code 35 = .ok (.iload_n 2, 1) := by decide +kernel
theorem d_Ref_link_36 : decode prog_8_method_41_code 36 = .ok (.aload_n 0, 1) := by decide +kernel
theorem d_Ref_link_37 : decode prog_8_method_41_code 37 = .ok (.getfield 104, 3) := by decide +kernel
theorem d_Ref_link_40 : decode prog_8_method_41_code 40 = .ok (.if_icmp .ge 37, 3) := by decide +kernel
theorem d_Ref_link_43 : decode prog_8_method_41_code 43 = .ok (.aload_n 0, 1) := by decide +kernel
theorem d_Ref_link_44 : decode prog_8_method_41_code 44 = .ok (.getfield 32, 3) := by decide +kernel
theorem d_Ref_link_47 : decode prog_8_method_41_code 47 = .ok (.iload_n 2, 1) := by decide +kernel
theorem d_Ref_link_48 : decode prog_8_method_41_code 48 = .ok (.iaload, 1) := by decide +kernel
theorem d_Ref_link_49 : decode prog_8_method_41_code 49 = .ok (.bipush 6, 2) := by decide +kernel
theorem d_Ref_link_51 : decode prog_8_method_41_code 51 = .ok (.if_icmp .ne 10, 3) := by decide +kernel
theorem d_Ref_link_54 : decode prog_8_method_41_code 54 = .ok (.aload_n 0, 1) := by decide +kernel
theorem d_Ref_link_55 : decode prog_8_method_41_code 55 = .ok (.invokevirtual 186, 3) := by decide +kernel
theorem d_Ref_link_58 : decode prog_8_method_41_code 58 = .ok (.goto 13, 3) := by decide +kernel
theorem d_Ref_link_61 : decode prog_8_method_41_code 61 = .ok (.aload_n 0, 1) := by decide +kernel
theorem d_Ref_link_62 : decode prog_8_method_41_code 62 = .ok (.aload_n 0, 1) := by decide +kernel
theorem d_Ref_link_63 : decode prog_8_method_41_code 63 = .ok (.getfield 32, 3) := by decide +kernel
theorem d_Ref_link_66 : decode prog_8_method_41_code 66 = .ok (.iload_n 2, 1) := by decide +kernel
theorem d_Ref_link_67 : decode prog_8_method_41_code 67 = .ok (.iaload, 1) := by decide +kernel
theorem d_Ref_link_68 : decode prog_8_method_41_code 68 = .ok (.invokevirtual 140, 3) := by decide +kernel
theorem d_Ref_link_71 : decode prog_8_method_41_code 71 = .ok (.iinc 2 1, 3) := by decide +kernel
theorem d_Ref_link_74 : decode prog_8_method_41_code 74 = .ok (.goto (-39), 3) := by decide +kernel
theorem d_Ref_link_77 : decode prog_8_method_41_code 77 = .ok (.aload_n 0, 1) := by decide +kernel
theorem d_Ref_link_78 : decode prog_8_method_41_code 78 = .ok (.iconst 0, 1) := by decide +kernel
theorem d_Ref_link_79 : decode prog_8_method_41_code 79 = .ok (.putfield 189, 3) := by decide +kernel
theorem d_Ref_link_82 : decode prog_8_method_41_code 82 = .ok (.iconst 0, 1) := by decide +kernel
theorem d_Ref_link_83 : decode prog_8_method_41_code 83 = .ok (.istore_n 2, 1) := by decide +kernel
theorem d_Ref_link_84 : decode prog_8_method_41_code 84 = .ok (.iconst 0, 1) := by decide +kernel
theorem d_Ref_link_85 : decode prog_8_method_41_code 85 = .ok (.istore_n 3, 1) := by decide +kernel
theorem d_Ref_link_86 : decode prog_8_method_41_code 86 = .ok (.iload_n 3, 1) := by decide +kernel
theorem d_Ref_link_87 : decode prog_8_method_41_code 87 = .ok (.bipush 16, 2) := by decide +kernel
theorem d_Ref_link_89 : decode prog_8_method_41_code 89 = .ok (.if_icmp .ge 55, 3) := by decide +kernel
theorem d_Ref_link_92 : decode prog_8_method_41_code 92 = .ok (.aload_n 0, 1) := by decide +kernel
theorem d_Ref_link_93 : decode prog_8_method_41_code 93 = .ok (.aload_n 0, 1) := by decide +kernel
theorem d_Ref_link_94 : decode prog_8_method_41_code 94 = .ok (.iload_n 3, 1) := by decide +kernel
theorem d_Ref_link_95 : decode prog_8_method_41_code 95 = .ok (.invokevirtual 131, 3) := by decide +kernel
theorem d_Ref_link_98 : decode prog_8_method_41_code 98 = .ok (.ifCond .eq 14, 3) := by decide +kernel
theorem d_Ref_link_101 : decode prog_8_method_41_code 101 = .ok (.aload_n 0, 1) := by decide +kernel
theorem d_Ref_link_102 : decode prog_8_method_41_code 102 = .ok (.getfield 189, 3) := by decide +kernel
theorem d_Ref_link_105 : decode prog_8_method_41_code 105 = .ok (.iconst 1, 1) := by decide +kernel
theorem d_Ref_link_106 : decode prog_8_method_41_code 106 = .ok (.iload_n 3, 1) := by decide +kernel
theorem d_Ref_link_107 : decode prog_8_method_41_code 107 = .ok (.ishl, 1) := by decide +kernel
theorem d_Ref_link_108 : decode prog_8_method_41_code 108 = .ok (.ior, 1) := by decide +kernel
theorem d_Ref_link_109 : decode prog_8_method_41_code 109 = .ok (.goto 7, 3) := by decide +kernel
theorem d_Ref_link_112 : decode prog_8_method_41_code 112 = .ok (.aload_n 0, 1) := by decide +kernel
theorem d_Ref_link_113 : decode prog_8_method_41_code 113 = .ok (.getfield 189, 3) := by decide +kernel
theorem d_Ref_link_116 : decode prog_8_method_41_code 116 = .ok (.putfield 189, 3) := by decide +kernel
theorem d_Ref_link_119 : decode prog_8_method_41_code 119 = .ok (.iload_n 2, 1) := by decide +kernel
theorem d_Ref_link_120 : decode prog_8_method_41_code 120 = .ok (.ifCond .ne 12, 3) := by decide +kernel
theorem d_Ref_link_123 : decode prog_8_method_41_code 123 = .ok (.aload_n 0, 1) := by decide +kernel
theorem d_Ref_link_124 : decode prog_8_method_41_code 124 = .ok (.iload_n 3, 1) := by decide +kernel
theorem d_Ref_link_125 : decode prog_8_method_41_code 125 = .ok (.invokevirtual 125, 3) := by decide +kernel
theorem d_Ref_link_128 : decode prog_8_method_41_code 128 = .ok (.iconst 1, 1) := by decide +kernel
theorem d_Ref_link_129 : decode prog_8_method_41_code 129 = .ok (.if_icmp .le 7, 3) := by decide +kernel
theorem d_Ref_link_132 : decode prog_8_method_41_code 132 = .ok (.iconst 1, 1) := by decide +kernel
theorem d_Ref_link_133 : decode prog_8_method_41_code 133 = .ok (.goto 4, 3) := by decide +kernel
theorem d_Ref_link_136 : decode prog_8_method_41_code 136 = .ok (.iconst 0, 1) := by decide +kernel
theorem d_Ref_link_137 : decode prog_8_method_41_code 137 = .ok (.istore_n 2, 1) := by decide +kernel
theorem d_Ref_link_138 : decode prog_8_method_41_code 138 = .ok (.iinc 3 1, 3) := by decide +kernel
theorem d_Ref_link_141 : decode prog_8_method_41_code 141 = .ok (.goto (-55), 3) := by decide +kernel
theorem d_Ref_link_144 : decode prog_8_method_41_code 144 = .ok (.iload_n 2, 1) := by decide +kernel
theorem d_Ref_link_145 : decode prog_8_method_41_code 145 = .ok (.ifCond .eq 6, 3) := by decide +kernel
theorem d_Ref_link_148 : decode prog_8_method_41_code 148 = .ok (.bipush (-2), 2) := by decide +kernel
theorem d_Ref_link_150 : decode prog_8_method_41_code 150 = .ok (.ireturn, 1) := by decide +kernel
theorem d_Ref_link_151 : decode prog_8_method_41_code 151 = .ok (.aload_n 0, 1) := by decide +kernel
theorem d_Ref_link_152 : decode prog_8_method_41_code 152 = .ok (.getfield 189, 3) := by decide +kernel
theorem d_Ref_link_155 : decode prog_8_method_41_code 155 = .ok (.ifCond .eq 6, 3) := by decide +kernel
theorem d_Ref_link_158 : decode prog_8_method_41_code 158 = .ok (.bipush (-3), 2) := by decide +kernel
theorem d_Ref_link_160 : decode prog_8_method_41_code 160 = .ok (.ireturn, 1) := by decide +kernel
theorem d_Ref_link_161 : decode prog_8_method_41_code 161 = .ok (.aload_n 0, 1) := by decide +kernel
theorem d_Ref_link_162 : decode prog_8_method_41_code 162 = .ok (.aload_n 0, 1) := by decide +kernel
theorem d_Ref_link_163 : decode prog_8_method_41_code 163 = .ok (.iconst 0, 1) := by decide +kernel
theorem d_Ref_link_164 : decode prog_8_method_41_code 164 = .ok (.invokevirtual 152, 3) := by decide +kernel
theorem d_Ref_link_167 : decode prog_8_method_41_code 167 = .ok (.aload_n 0, 1) := by decide +kernel
theorem d_Ref_link_168 : decode prog_8_method_41_code 168 = .ok (.iconst 1, 1) := by decide +kernel
theorem d_Ref_link_169 : decode prog_8_method_41_code 169 = .ok (.invokevirtual 152, 3) := by decide +kernel
theorem d_Ref_link_172 : decode prog_8_method_41_code 172 = .ok (.iadd, 1) := by decide +kernel
theorem d_Ref_link_173 : decode prog_8_method_41_code 173 = .ok (.aload_n 0, 1) := by decide +kernel
theorem d_Ref_link_174 : decode prog_8_method_41_code 174 = .ok (.iconst 2, 1) := by decide +kernel
theorem d_Ref_link_175 : decode prog_8_method_41_code 175 = .ok (.invokevirtual 152, 3) := by decide +kernel
theorem d_Ref_link_178 : decode prog_8_method_41_code 178 = .ok (.iadd, 1) := by decide +kernel
theorem d_Ref_link_179 : decode prog_8_method_41_code 179 = .ok (.aload_n 0, 1) := by decide +kernel
theorem d_Ref_link_180 : decode prog_8_method_41_code 180 = .ok (.bipush 16, 2) := by decide +kernel
theorem d_Ref_link_182 : decode prog_8_method_41_code 182 = .ok (.invokevirtual 155, 3) := by decide +kernel
theorem d_Ref_link_185 : decode prog_8_method_41_code 185 = .ok (.iadd, 1) := by decide +kernel
theorem d_Ref_link_186 : decode prog_8_method_41_code 186 = .ok (.putfield 170, 3) := by decide +kernel
theorem d_Ref_link_189 : decode prog_8_method_41_code 189 = .ok (.aload_n 0, 1) := by decide +kernel
theorem d_Ref_link_190 : decode prog_8_method_41_code 190 = .ok (.getfield 170, 3) := by decide +kernel
theorem d_Ref_link_193 : decode prog_8_method_41_code 193 = .ok (.sipush 200, 3) := by decide +kernel
theorem d_Ref_link_196 : decode prog_8_method_41_code 196 = .ok (.if_icmp .le 6, 3) := by decide +kernel
theorem d_Ref_link_199 : decode prog_8_method_41_code 199 = .ok (.bipush (-4), 2) := by decide +kernel
theorem d_Ref_link_201 : decode prog_8_method_41_code 201 = .ok (.ireturn, 1) := by decide +kernel
theorem d_Ref_link_202 : decode prog_8_method_41_code 202 = .ok (.aload_n 0, 1) := by decide +kernel
theorem d_Ref_link_203 : decode prog_8_method_41_code 203 = .ok (.invokevirtual 192, 3) := by decide +kernel
theorem d_Ref_link_206 : decode prog_8_method_41_code 206 = .ok (.iconst 0, 1) := by decide +kernel
theorem d_Ref_link_207 : decode prog_8_method_41_code 207 = .ok (.ireturn, 1) := by decide +kernel
theorem d_Ref_included_0 : decode prog_8_method_42_code 0 = .ok (.iload_n 1, 1) := by decide +kernel
theorem d_Ref_included_1 : decode prog_8_method_42_code 1 = .ok (.ifCond .lt 20, 3) := by decide +kernel
theorem d_Ref_included_4 : decode prog_8_method_42_code 4 = .ok (.iload_n 1, 1) := by decide +kernel
theorem d_Ref_included_5 : decode prog_8_method_42_code 5 = .ok (.aload_n 0, 1) := by decide +kernel
theorem d_Ref_included_6 : decode prog_8_method_42_code 6 = .ok (.getfield 116, 3) := by decide +kernel
theorem d_Ref_included_9 : decode prog_8_method_42_code 9 = .ok (.if_icmp .ge 12, 3) := by decide +kernel
theorem d_Ref_included_12 : decode prog_8_method_42_code 12 = .ok (.aload_n 0, 1) := by decide +kernel
theorem d_Ref_included_13 : decode prog_8_method_42_code 13 = .ok (.getfield 39, 3) := by decide +kernel
theorem d_Ref_included_16 : decode prog_8_method_42_code 16 = .ok (.iload_n 1, 1) := by decide +kernel
theorem d_Ref_included_17 : decode prog_8_method_42_code 17 = .ok (.iaload, 1) := by decide +kernel
theorem d_Ref_included_18 : decode prog_8_method_42_code 18 = .ok (.goto 4, 3) := by decide +kernel
theorem d_Ref_included_21 : decode prog_8_method_42_code 21 = .ok (.iconst (-1), 1) := by decide +kernel
theorem d_Ref_included_22 : decode prog_8_method_42_code 22 = .ok (.ireturn, 1) := by decide +kernel
theorem d_Ref_missing_0 : decode prog_8_method_43_code 0 = .ok (.aload_n 0, 1) := by decide +kernel
theorem d_Ref_missing_1 : decode prog_8_method_43_code 1 = .ok (.getfield 189, 3) := by decide +kernel
theorem d_Ref_missing_4 : decode prog_8_method_43_code 4 = .ok (.ireturn, 1) := by decide +kernel
theorem d_Ref_size_0 : decode prog_8_method_44_code 0 = .ok (.aload_n 0, 1) := by decide +kernel
theorem d_Ref_size_1 : decode prog_8_method_44_code 1 = .ok (.getfield 176, 3) := by decide +kernel
theorem d_Ref_size_4 : decode prog_8_method_44_code 4 = .ok (.ifCond .eq 21, 3) := by decide +kernel
theorem d_Ref_size_7 : decode prog_8_method_44_code 7 = .ok (.iload_n 1, 1) := by decide +kernel
theorem d_Ref_size_8 : decode prog_8_method_44_code 8 = .ok (.ifCond .lt 17, 3) := by decide +kernel
theorem d_Ref_size_11 : decode prog_8_method_44_code 11 = .ok (.iload_n 1, 1) := by decide +kernel
theorem d_Ref_size_12 : decode prog_8_method_44_code 12 = .ok (.iconst 2, 1) := by decide +kernel
theorem d_Ref_size_13 : decode prog_8_method_44_code 13 = .ok (.if_icmp .gt 12, 3) := by decide +kernel
theorem d_Ref_size_16 : decode prog_8_method_44_code 16 = .ok (.aload_n 0, 1) := by decide +kernel
theorem d_Ref_size_17 : decode prog_8_method_44_code 17 = .ok (.getfield 45, 3) := by decide +kernel
theorem d_Ref_size_20 : decode prog_8_method_44_code 20 = .ok (.iload_n 1, 1) := by decide +kernel
theorem d_Ref_size_21 : decode prog_8_method_44_code 21 = .ok (.iaload, 1) := by decide +kernel
theorem d_Ref_size_22 : decode prog_8_method_44_code 22 = .ok (.goto 4, 3) := by decide +kernel
theorem d_Ref_size_25 : decode prog_8_method_44_code 25 = .ok (.iconst (-1), 1) := by decide +kernel
theorem d_Ref_size_26 : decode prog_8_method_44_code 26 = .ok (.ireturn, 1) := by decide +kernel
theorem d_Ref_word_0 : decode prog_8_method_45_code 0 = .ok (.aload_n 0, 1) := by decide +kernel
theorem d_Ref_word_1 : decode prog_8_method_45_code 1 = .ok (.getfield 176, 3) := by decide +kernel
theorem d_Ref_word_4 : decode prog_8_method_45_code 4 = .ok (.ifCond .eq 24, 3) := by decide +kernel
theorem d_Ref_word_7 : decode prog_8_method_45_code 7 = .ok (.iload_n 1, 1) := by decide +kernel
theorem d_Ref_word_8 : decode prog_8_method_45_code 8 = .ok (.ifCond .lt 20, 3) := by decide +kernel
theorem d_Ref_word_11 : decode prog_8_method_45_code 11 = .ok (.iload_n 1, 1) := by decide +kernel
theorem d_Ref_word_12 : decode prog_8_method_45_code 12 = .ok (.aload_n 0, 1) := by decide +kernel
theorem d_Ref_word_13 : decode prog_8_method_45_code 13 = .ok (.getfield 170, 3) := by decide +kernel
theorem d_Ref_word_16 : decode prog_8_method_45_code 16 = .ok (.if_icmp .ge 12, 3) := by decide +kernel
theorem d_Ref_word_19 : decode prog_8_method_45_code 19 = .ok (.aload_n 0, 1) := by decide +kernel
theorem d_Ref_word_20 : decode prog_8_method_45_code 20 = .ok (.getfield 42, 3) := by decide +kernel
theorem d_Ref_word_23 : decode prog_8_method_45_code 23 = .ok (.iload_n 1, 1) := by decide +kernel
theorem d_Ref_word_24 : decode prog_8_method_45_code 24 = .ok (.iaload, 1) := by decide +kernel
theorem d_Ref_word_25 : decode prog_8_method_45_code 25 = .ok (.goto 4, 3) := by decide +kernel
theorem d_Ref_word_28 : decode prog_8_method_45_code 28 = .ok (.iconst (-1), 1) := by decide +kernel
theorem d_Ref_word_29 : decode prog_8_method_45_code 29 = .ok (.ireturn, 1) := by decide +kernel
theorem d_Ref_symbol_0 : decode prog_8_method_46_code 0 = .ok (.aload_n 0, 1) := by decide +kernel
theorem d_Ref_symbol_1 : decode prog_8_method_46_code 1 = .ok (.getfield 176, 3) := by decide +kernel
theorem d_Ref_symbol_4 : decode prog_8_method_46_code 4 = .ok (.ifCond .eq 27, 3) := by decide +kernel
theorem d_Ref_symbol_7 : decode prog_8_method_46_code 7 = .ok (.aload_n 0, 1) := by decide +kernel
theorem d_Ref_symbol_8 : decode prog_8_method_46_code 8 = .ok (.getfield 180, 3) := by decide +kernel
theorem d_Ref_symbol_11 : decode prog_8_method_46_code 11 = .ok (.ifCond .ne 20, 3) := by decide +kernel
theorem d_Ref_symbol_14 : decode prog_8_method_46_code 14 = .ok (.aload_n 0, 1) := by decide +kernel
theorem d_Ref_symbol_15 : decode prog_8_method_46_code 15 = .ok (.iload_n 1, 1) := by decide +kernel
theorem d_Ref_symbol_16 : decode prog_8_method_46_code 16 = .ok (.invokevirtual 83, 3) := by decide +kernel
theorem d_Ref_symbol_19 : decode prog_8_method_46_code 19 = .ok (.ifCond .eq 12, 3) := by decide +kernel
theorem d_Ref_symbol_22 : decode prog_8_method_46_code 22 = .ok (.aload_n 0, 1) := by decide +kernel
theorem d_Ref_symbol_23 : decode prog_8_method_46_code 23 = .ok (.getfield 48, 3) := by decide +kernel
theorem d_Ref_symbol_26 : decode prog_8_method_46_code 26 = .ok (.iload_n 1, 1) := by decide +kernel
theorem d_Ref_symbol_27 : decode prog_8_method_46_code 27 = .ok (.iaload, 1) := by decide +kernel
theorem d_Ref_symbol_28 : decode prog_8_method_46_code 28 = .ok (.goto 4, 3) := by decide +kernel
theorem d_Ref_symbol_31 : decode prog_8_method_46_code 31 = .ok (.iconst (-1), 1) := by decide +kernel
theorem d_Ref_symbol_32 : decode prog_8_method_46_code 32 = .ok (.ireturn, 1) := by decide +kernel
theorem d_Ref_strip_0 : decode prog_8_method_47_code 0 = .ok (.aload_n 0, 1) := by decide +kernel
theorem d_Ref_strip_1 : decode prog_8_method_47_code 1 = .ok (.getfield 176, 3) := by decide +kernel
theorem d_Ref_strip_4 : decode prog_8_method_47_code 4 = .ok (.ifCond .eq 10, 3) := by decide +kernel
theorem d_Ref_strip_7 : decode prog_8_method_47_code 7 = .ok (.aload_n 0, 1) := by decide +kernel
theorem d_Ref_strip_8 : decode prog_8_method_47_code 8 = .ok (.getfield 180, 3) := by decide +kernel
theorem d_Ref_strip_11 : decode prog_8_method_47_code 11 = .ok (.ifCond .eq 5, 3) := by decide +kernel
theorem d_Ref_strip_14 : decode prog_8_method_47_code 14 = .ok (.iconst 0, 1) := by decide +kernel
theorem d_Ref_strip_15 : decode prog_8_method_47_code 15 = .ok (.ireturn, 1) := by decide +kernel
theorem d_Ref_strip_16 : decode prog_8_method_47_code 16 = .ok (.aload_n 0, 1) := by decide +kernel
theorem d_Ref_strip_17 : decode prog_8_method_47_code 17 = .ok (.iconst 1, 1) := by decide +kernel
theorem d_Ref_strip_18 : decode prog_8_method_47_code 18 = .ok (.putfield 180, 3) := by decide +kernel
theorem d_Ref_strip_21 : decode prog_8_method_47_code 21 = .ok (.iconst 1, 1) := by decide +kernel
theorem d_Ref_strip_22 : decode prog_8_method_47_code 22 = .ok (.ireturn, 1) := by decide +kernel
theorem d_Ref_start_0 : decode prog_8_method_48_code 0 = .ok (.aload_n 0, 1) := by decide +kernel
theorem d_Ref_start_1 : decode prog_8_method_48_code 1 = .ok (.getfield 176, 3) := by decide +kernel
theorem d_Ref_start_4 : decode prog_8_method_48_code 4 = .ok (.ifCond .ne 5, 3) := by decide +kernel
theorem d_Ref_start_7 : decode prog_8_method_48_code 7 = .ok (.iconst 0, 1) := by decide +kernel
theorem d_Ref_start_8 : decode prog_8_method_48_code 8 = .ok (.ireturn, 1) := by decide +kernel
theorem d_Ref_start_9 : decode prog_8_method_48_code 9 = .ok (.aload_n 0, 1) := by decide +kernel
theorem d_Ref_start_10 : decode prog_8_method_48_code 10 = .ok (.iconst 1, 1) := by decide +kernel
theorem d_Ref_start_11 : decode prog_8_method_48_code 11 = .ok (.putfield 183, 3) := by decide +kernel
theorem d_Ref_start_14 : decode prog_8_method_48_code 14 = .ok (.iconst 0, 1) := by decide +kernel
theorem d_Ref_start_15 : decode prog_8_method_48_code 15 = .ok (.istore_n 1, 1) := by decide +kernel
theorem d_Ref_start_16 : decode prog_8_method_48_code 16 = .ok (.iload_n 1, 1) := by decide +kernel
theorem d_Ref_start_17 : decode prog_8_method_48_code 17 = .ok (.sipush 200, 3) := by decide +kernel
theorem d_Ref_start_20 : decode prog_8_method_48_code 20 = .ok (.if_icmp .ge 21, 3) := by decide +kernel
theorem d_Ref_start_23 : decode prog_8_method_48_code 23 = .ok (.aload_n 0, 1) := by decide +kernel
theorem d_Ref_start_24 : decode prog_8_method_48_code 24 = .ok (.getfield 51, 3) := by decide +kernel
theorem d_Ref_start_27 : decode prog_8_method_48_code 27 = .ok (.iload_n 1, 1) := by decide +kernel
theorem d_Ref_start_28 : decode prog_8_method_48_code 28 = .ok (.aload_n 0, 1) := by decide +kernel
theorem d_Ref_start_29 : decode prog_8_method_48_code 29 = .ok (.getfield 42, 3) := by decide +kernel
theorem d_Ref_start_32 : decode prog_8_method_48_code 32 = .ok (.iload_n 1, 1) := by decide +kernel
theorem d_Ref_start_33 : decode prog_8_method_48_code 33 = .ok (.iaload, 1) := by decide +kernel
theorem d_Ref_start_34 : decode prog_8_method_48_code 34 = .ok (.iastore, 1) := by decide +kernel
theorem d_Ref_start_35 : decode prog_8_method_48_code 35 = .ok (.iinc 1 1, 3) := by decide +kernel
theorem d_Ref_start_38 : decode prog_8_method_48_code 38 = .ok (.goto (-22), 3) := by decide +kernel
theorem d_Ref_start_41 : decode prog_8_method_48_code 41 = .ok (.aload_n 0, 1) := by decide +kernel
theorem d_Ref_start_42 : decode prog_8_method_48_code 42 = .ok (.iconst 0, 1) := by decide +kernel
theorem d_Ref_start_43 : decode prog_8_method_48_code 43 = .ok (.putfield 195, 3) := by decide +kernel
theorem d_Ref_start_46 : decode prog_8_method_48_code 46 = .ok (.aload_n 0, 1) := by decide +kernel
theorem d_Ref_start_47 : decode prog_8_method_48_code 47 = .ok (.iconst 0, 1) := by decide +kernel
theorem d_Ref_start_48 : decode prog_8_method_48_code 48 = .ok (.putfield 198, 3) := by decide +kernel
theorem d_Ref_start_51 : decode prog_8_method_48_code 51 = .ok (.aload_n 0, 1) := by decide +kernel
theorem d_Ref_start_52 : decode prog_8_method_48_code 52 = .ok (.aload_n 0, 1) := by decide +kernel
theorem d_Ref_start_53 : decode prog_8_method_48_code 53 = .ok (.getfield 173, 3) := by decide +kernel
theorem d_Ref_start_56 : decode prog_8_method_48_code 56 = .ok (.putfield 201, 3) := by decide +kernel
theorem d_Ref_start_59 : decode prog_8_method_48_code 59 = .ok (.aload_n 0, 1) := by decide +kernel
theorem d_Ref_start_60 : decode prog_8_method_48_code 60 = .ok (.iconst 0, 1) := by decide +kernel
theorem d_Ref_start_61 : decode prog_8_method_48_code 61 = .ok (.putfield 204, 3) := by decide +kernel
theorem d_Ref_start_64 : decode prog_8_method_48_code 64 = .ok (.aload_n 0, 1) := by decide +kernel
theorem d_Ref_start_65 : decode prog_8_method_48_code 65 = .ok (.iconst 0, 1) := by decide +kernel
theorem d_Ref_start_66 : decode prog_8_method_48_code 66 = .ok (.putfield 207, 3) := by decide +kernel
theorem d_Ref_start_69 : decode prog_8_method_48_code 69 = .ok (.aload_n 0, 1) := by decide +kernel
theorem d_Ref_start_70 : decode prog_8_method_48_code 70 = .ok (.iconst 0, 1) := by decide +kernel
theorem d_Ref_start_71 : decode prog_8_method_48_code 71 = .ok (.putfield 210, 3) := by decide +kernel
theorem d_Ref_start_74 : decode prog_8_method_48_code 74 = .ok (.aload_n 0, 1) := by decide +kernel
theorem d_Ref_start_75 : decode prog_8_method_48_code 75 = .ok (.iconst 0, 1) := by decide +kernel
theorem d_Ref_start_76 : decode prog_8_method_48_code 76 = .ok (.putfield 213, 3) := by decide +kernel
theorem d_Ref_start_79 : decode prog_8_method_48_code 79 = .ok (.iconst 1, 1) := by decide +kernel
theorem d_Ref_start_80 : decode prog_8_method_48_code 80 = .ok (.ireturn, 1) := by decide +kernel
theorem d_Ref_feed_0 : decode prog_8_method_49_code 0 = .ok (.aload_n 0, 1) := by decide +kernel
theorem d_Ref_feed_1 : decode prog_8_method_49_code 1 = .ok (.getfield 183, 3) := by decide +kernel
theorem d_Ref_feed_4 : decode prog_8_method_49_code 4 = .ok (.ifCond .eq 20, 3) := by decide +kernel
theorem d_Ref_feed_7 : decode prog_8_method_49_code 7 = .ok (.aload_n 0, 1) := by decide +kernel
theorem d_Ref_feed_8 : decode prog_8_method_49_code 8 = .ok (.iload_n 1, 1) := by decide +kernel
theorem d_Ref_feed_9 : decode prog_8_method_49_code 9 = .ok (.invokevirtual 87, 3) := by decide +kernel
theorem d_Ref_feed_12 : decode prog_8_method_49_code 12 = .ok (.ifCond .eq 12, 3) := by decide +kernel
theorem d_Ref_feed_15 : decode prog_8_method_49_code 15 = .ok (.aload_n 0, 1) := by decide +kernel
theorem d_Ref_feed_16 : decode prog_8_method_49_code 16 = .ok (.getfield 210, 3) := by decide +kernel
theorem d_Ref_feed_19 : decode prog_8_method_49_code 19 = .ok (.bipush 8, 2) := by decide +kernel
theorem d_Ref_feed_21 : decode prog_8_method_49_code 21 = .ok (.if_icmp .lt 5, 3) := by decide +kernel
theorem d_Ref_feed_24 : decode prog_8_method_49_code 24 = .ok (.iconst 0, 1) := by decide +kernel
theorem d_Ref_feed_25 : decode prog_8_method_49_code 25 = .ok (.ireturn, 1) := by decide +kernel
theorem d_Ref_feed_26 : decode prog_8_method_49_code 26 = .ok (.aload_n 0, 1) := by decide +kernel
theorem d_Ref_feed_27 : decode prog_8_method_49_code 27 = .ok (.getfield 57, 3) := by decide +kernel
theorem d_Ref_feed_30 : decode prog_8_method_49_code 30 = .ok (.aload_n 0, 1) := by decide +kernel
theorem d_Ref_feed_31 : decode prog_8_method_49_code 31 = .ok (.getfield 210, 3) := by decide +kernel
theorem d_Ref_feed_34 : decode prog_8_method_49_code 34 = .ok (.iload_n 1, 1) := by decide +kernel
theorem d_Ref_feed_35 : decode prog_8_method_49_code 35 = .ok (.iastore, 1) := by decide +kernel
theorem d_Ref_feed_36 : decode prog_8_method_49_code 36 = .ok (.aload_n 0, 1) := by decide +kernel
theorem d_Ref_feed_37 : decode prog_8_method_49_code 37 = .ok (.dup, 1) := by decide +kernel
theorem d_Ref_feed_38 : decode prog_8_method_49_code 38 = .ok (.getfield 210, 3) := by decide +kernel
theorem d_Ref_feed_41 : decode prog_8_method_49_code 41 = .ok (.iconst 1, 1) := by decide +kernel
theorem d_Ref_feed_42 : decode prog_8_method_49_code 42 = .ok (.iadd, 1) := by decide +kernel
theorem d_Ref_feed_43 : decode prog_8_method_49_code 43 = .ok (.putfield 210, 3) := by decide +kernel
theorem d_Ref_feed_46 : decode prog_8_method_49_code 46 = .ok (.iconst 1, 1) := by decide +kernel
theorem d_Ref_feed_47 : decode prog_8_method_49_code 47 = .ok (.ireturn, 1) := by decide +kernel
theorem d_Ref_there_0 : decode prog_8_method_50_code 0 = .ok (.iload_n 1, 1) := by decide +kernel
theorem d_Ref_there_1 : decode prog_8_method_50_code 1 = .ok (.ifCond .lt 15, 3) := by decide +kernel
theorem d_Ref_there_4 : decode prog_8_method_50_code 4 = .ok (.iload_n 1, 1) := by decide +kernel
theorem d_Ref_there_5 : decode prog_8_method_50_code 5 = .ok (.aload_n 0, 1) := by decide +kernel
theorem d_Ref_there_6 : decode prog_8_method_50_code 6 = .ok (.getfield 170, 3) := by decide +kernel
theorem d_Ref_there_9 : decode prog_8_method_50_code 9 = .ok (.if_icmp .ge 7, 3) := by decide +kernel
theorem d_Ref_there_12 : decode prog_8_method_50_code 12 = .ok (.iconst 1, 1) := by decide +kernel
theorem d_Ref_there_13 : decode prog_8_method_50_code 13 = .ok (.goto 4, 3) := by decide +kernel
theorem d_Ref_there_16 : decode prog_8_method_50_code 16 = .ok (.iconst 0, 1) := by decide +kernel
theorem d_Ref_there_17 : decode prog_8_method_50_code 17 = .ok (.ireturn, 1) := by decide +kernel
theorem d_Ref_holds_0 : decode prog_8_method_51_code 0 = .ok (.iload_n 1, 1) := by decide +kernel
theorem d_Ref_holds_1 : decode prog_8_method_51_code 1 = .ok (.ifCond .eq 41, 3) := by decide +kernel
theorem d_Ref_holds_4 : decode prog_8_method_51_code 4 = .ok (.iload_n 1, 1) := by decide +kernel
theorem d_Ref_holds_5 : decode prog_8_method_51_code 5 = .ok (.iconst 1, 1) := by decide +kernel
theorem d_Ref_holds_6 : decode prog_8_method_51_code 6 = .ok (.if_icmp .ne 10, 3) := by decide +kernel
theorem d_Ref_holds_9 : decode prog_8_method_51_code 9 = .ok (.aload_n 0, 1) := by decide +kernel
theorem d_Ref_holds_10 : decode prog_8_method_51_code 10 = .ok (.getfield 195, 3) := by decide +kernel
theorem d_Ref_holds_13 : decode prog_8_method_51_code 13 = .ok (.ifCond .eq 29, 3) := by decide +kernel
theorem d_Ref_holds_16 : decode prog_8_method_51_code 16 = .ok (.iload_n 1, 1) := by decide +kernel
theorem d_Ref_holds_17 : decode prog_8_method_51_code 17 = .ok (.iconst 2, 1) := by decide +kernel
theorem d_Ref_holds_18 : decode prog_8_method_51_code 18 = .ok (.if_icmp .ne 12, 3) := by decide +kernel
theorem d_Ref_holds_21 : decode prog_8_method_51_code 21 = .ok (.aload_n 0, 1) := by decide +kernel
theorem d_Ref_holds_22 : decode prog_8_method_51_code 22 = .ok (.getfield 195, 3) := by decide +kernel
theorem d_Ref_holds_25 : decode prog_8_method_51_code 25 = .ok (.ldc 164, 2) := by decide +kernel
theorem d_Ref_holds_27 : decode prog_8_method_51_code 27 = .ok (.if_icmp .ge 15, 3) := by decide +kernel
theorem d_Ref_holds_30 : decode prog_8_method_51_code 30 = .ok (.iload_n 1, 1) := by decide +kernel
theorem d_Ref_holds_31 : decode prog_8_method_51_code 31 = .ok (.iconst 3, 1) := by decide +kernel
theorem d_Ref_holds_32 : decode prog_8_method_51_code 32 = .ok (.if_icmp .ne 14, 3) := by decide +kernel
theorem d_Ref_holds_35 : decode prog_8_method_51_code 35 = .ok (.aload_n 0, 1) := by decide +kernel
theorem d_Ref_holds_36 : decode prog_8_method_51_code 36 = .ok (.getfield 195, 3) := by decide +kernel
theorem d_Ref_holds_39 : decode prog_8_method_51_code 39 = .ok (.ifCond .eq 7, 3) := by decide +kernel
theorem d_Ref_holds_42 : decode prog_8_method_51_code 42 = .ok (.iconst 1, 1) := by decide +kernel
theorem d_Ref_holds_43 : decode prog_8_method_51_code 43 = .ok (.goto 4, 3) := by decide +kernel
theorem d_Ref_holds_46 : decode prog_8_method_51_code 46 = .ok (.iconst 0, 1) := by decide +kernel
theorem d_Ref_holds_47 : decode prog_8_method_51_code 47 = .ok (.ireturn, 1) := by decide +kernel
theorem d_Ref_hindrance_0 : decode prog_8_method_52_code 0 = .ok (.aload_n 0, 1) := by decide +kernel
theorem d_Ref_hindrance_1 : decode prog_8_method_52_code 1 = .ok (.aload_n 0, 1) := by decide +kernel
theorem d_Ref_hindrance_2 : decode prog_8_method_52_code 2 = .ok (.getfield 201, 3) := by decide +kernel
theorem d_Ref_hindrance_5 : decode prog_8_method_52_code 5 = .ok (.invokevirtual 216, 3) := by decide +kernel
theorem d_Ref_hindrance_8 : decode prog_8_method_52_code 8 = .ok (.ifCond .ne 5, 3) := by decide +kernel
theorem d_Ref_hindrance_11 : decode prog_8_method_52_code 11 = .ok (.iconst 3, 1) := by decide +kernel
theorem d_Ref_hindrance_12 : decode prog_8_method_52_code 12 = .ok (.ireturn, 1) := by decide +kernel
theorem d_Ref_hindrance_13 : decode prog_8_method_52_code 13 = .ok (.aload_n 0, 1) := by decide +kernel
theorem d_Ref_hindrance_14 : decode prog_8_method_52_code 14 = .ok (.getfield 51, 3) := by decide +kernel
theorem d_Ref_hindrance_17 : decode prog_8_method_52_code 17 = .ok (.aload_n 0, 1) := by decide +kernel
theorem d_Ref_hindrance_18 : decode prog_8_method_52_code 18 = .ok (.getfield 201, 3) := by decide +kernel
theorem d_Ref_hindrance_21 : decode prog_8_method_52_code 21 = .ok (.iaload, 1) := by decide +kernel
theorem d_Ref_hindrance_22 : decode prog_8_method_52_code 22 = .ok (.bipush 12, 2) := by decide +kernel
theorem d_Ref_hindrance_24 : decode prog_8_method_52_code 24 = .ok (.ishr, 1) := by decide +kernel
theorem d_Ref_hindrance_25 : decode prog_8_method_52_code 25 = .ok (.istore_n 1, 1) := by decide +kernel
theorem d_Ref_hindrance_26 : decode prog_8_method_52_code 26 = .ok (.iload_n 1, 1) := by decide +kernel
theorem d_Ref_hindrance_27 : decode prog_8_method_52_code 27 = .ok (.bipush 13, 2) := by decide +kernel
theorem d_Ref_hindrance_29 : decode prog_8_method_52_code 29 = .ok (.if_icmp .le 5, 3) := by decide +kernel
theorem d_Ref_hindrance_32 : decode prog_8_method_52_code 32 = .ok (.iconst 2, 1) := by decide +kernel
theorem d_Ref_hindrance_33 : decode prog_8_method_52_code 33 = .ok (.ireturn, 1) := by decide +kernel
theorem d_Ref_hindrance_34 : decode prog_8_method_52_code 34 = .ok (.iload_n 1, 1) := by decide +kernel
theorem d_Ref_hindrance_35 : decode prog_8_method_52_code 35 = .ok (.bipush 12, 2) := by decide +kernel
theorem d_Ref_hindrance_37 : decode prog_8_method_52_code 37 = .ok (.if_icmp .ne 20, 3) := by decide +kernel
theorem d_Ref_hindrance_40 : decode prog_8_method_52_code 40 = .ok (.aload_n 0, 1) := by decide +kernel
theorem d_Ref_hindrance_41 : decode prog_8_method_52_code 41 = .ok (.aload_n 0, 1) := by decide +kernel
theorem d_Ref_hindrance_42 : decode prog_8_method_52_code 42 = .ok (.getfield 195, 3) := by decide +kernel
theorem d_Ref_hindrance_45 : decode prog_8_method_52_code 45 = .ok (.invokevirtual 216, 3) := by decide +kernel
theorem d_Ref_hindrance_48 : decode prog_8_method_52_code 48 = .ok (.ifCond .eq 7, 3) := by decide +kernel
theorem d_Ref_hindrance_51 : decode prog_8_method_52_code 51 = .ok (.iconst 0, 1) := by decide +kernel
theorem d_Ref_hindrance_52 : decode prog_8_method_52_code 52 = .ok (.goto 4, 3) := by decide +kernel
theorem d_Ref_hindrance_55 : decode prog_8_method_52_code 55 = .ok (.iconst 3, 1) := by decide +kernel
theorem d_Ref_hindrance_56 : decode prog_8_method_52_code 56 = .ok (.ireturn, 1) := by decide +kernel
theorem d_Ref_hindrance_57 : decode prog_8_method_52_code 57 = .ok (.iload_n 1, 1) := by decide +kernel
theorem d_Ref_hindrance_58 : decode prog_8_method_52_code 58 = .ok (.ifCond .eq 15, 3) := by decide +kernel
theorem d_Ref_hindrance_61 : decode prog_8_method_52_code 61 = .ok (.iload_n 1, 1) := by decide +kernel
theorem d_Ref_hindrance_62 : decode prog_8_method_52_code 62 = .ok (.bipush 7, 2) := by decide +kernel
theorem d_Ref_hindrance_64 : decode prog_8_method_52_code 64 = .ok (.if_icmp .eq 9, 3) := by decide +kernel
theorem d_Ref_hindrance_67 : decode prog_8_method_52_code 67 = .ok (.iload_n 1, 1) := by decide +kernel
theorem d_Ref_hindrance_68 : decode prog_8_method_52_code 68 = .ok (.bipush 8, 2) := by decide +kernel
theorem d_Ref_hindrance_70 : decode prog_8_method_52_code 70 = .ok (.if_icmp .le 5, 3) := by decide +kernel
theorem d_Ref_hindrance_73 : decode prog_8_method_52_code 73 = .ok (.iconst 0, 1) := by decide +kernel
theorem d_Ref_hindrance_74 : decode prog_8_method_52_code 74 = .ok (.ireturn, 1) := by decide +kernel
theorem d_Ref_hindrance_75 : decode prog_8_method_52_code 75 = .ok (.aload_n 0, 1) := by decide +kernel
theorem d_Ref_hindrance_76 : decode prog_8_method_52_code 76 = .ok (.aload_n 0, 1) := by decide +kernel
theorem d_Ref_hindrance_77 : decode prog_8_method_52_code 77 = .ok (.getfield 201, 3) := by decide +kernel
theorem d_Ref_hindrance_80 : decode prog_8_method_52_code 80 = .ok (.iconst 1, 1) := by decide +kernel
theorem d_Ref_hindrance_81 : decode prog_8_method_52_code 81 = .ok (.iadd, 1) := by decide +kernel
theorem d_Ref_hindrance_82 : decode prog_8_method_52_code 82 = .ok (.invokevirtual 216, 3) := by decide +kernel
theorem d_Ref_hindrance_85 : decode prog_8_method_52_code 85 = .ok (.ifCond .ne 5, 3) := by decide +kernel
theorem d_Ref_hindrance_88 : decode prog_8_method_52_code 88 = .ok (.iconst 3, 1) := by decide +kernel
theorem d_Ref_hindrance_89 : decode prog_8_method_52_code 89 = .ok (.ireturn, 1) := by decide +kernel
theorem d_Ref_hindrance_90 : decode prog_8_method_52_code 90 = .ok (.aload_n 0, 1) := by decide +kernel
theorem d_Ref_hindrance_91 : decode prog_8_method_52_code 91 = .ok (.getfield 51, 3) := by decide +kernel
theorem d_Ref_hindrance_94 : decode prog_8_method_52_code 94 = .ok (.aload_n 0, 1) := by decide +kernel
theorem d_Ref_hindrance_95 : decode prog_8_method_52_code 95 = .ok (.getfield 201, 3) := by decide +kernel
theorem d_Ref_hindrance_98 : decode prog_8_method_52_code 98 = .ok (.iconst 1, 1) := by decide +kernel
theorem d_Ref_hindrance_99 : decode prog_8_method_52_code 99 = .ok (.iadd, 1) := by decide +kernel
theorem d_Ref_hindrance_100 : decode prog_8_method_52_code 100 = .ok (.iaload, 1) := by decide +kernel
theorem d_Ref_hindrance_101 : decode prog_8_method_52_code 101 = .ok (.istore_n 2, 1) := by decide +kernel
theorem d_Ref_hindrance_102 : decode prog_8_method_52_code 102 = .ok (.iload_n 1, 1) := by decide +kernel
theorem d_Ref_hindrance_103 : decode prog_8_method_52_code 103 = .ok (.iconst 2, 1) := by decide +kernel
theorem d_Ref_hindrance_104 : decode prog_8_method_52_code 104 = .ok (.if_icmp .lt 12, 3) := by decide +kernel
theorem d_Ref_hindrance_107 : decode prog_8_method_52_code 107 = .ok (.iload_n 1, 1) := by decide +kernel
theorem d_Ref_hindrance_108 : decode prog_8_method_52_code 108 = .ok (.iconst 5, 1) := by decide +kernel
theorem d_Ref_hindrance_109 : decode prog_8_method_52_code 109 = .ok (.if_icmp .gt 7, 3) := by decide +kernel
theorem d_Ref_hindrance_112 : decode prog_8_method_52_code 112 = .ok (.iconst 1, 1) := by decide +kernel
theorem d_Ref_hindrance_113 : decode prog_8_method_52_code 113 = .ok (.goto 4, 3) := by decide +kernel
theorem d_Ref_hindrance_116 : decode prog_8_method_52_code 116 = .ok (.iconst 0, 1) := by decide +kernel
theorem d_Ref_hindrance_117 : decode prog_8_method_52_code 117 = .ok (.istore_n 3, 1) := by decide +kernel
theorem d_Ref_hindrance_118 : decode prog_8_method_52_code 118 = .ok (.iload_n 3, 1) := by decide +kernel
theorem d_Ref_hindrance_119 : decode prog_8_method_52_code 119 = .ok (.ifCond .eq 11, 3) := by decide +kernel
theorem d_Ref_hindrance_122 : decode prog_8_method_52_code 122 = .ok (.aload_n 0, 1) := by decide +kernel
theorem d_Ref_hindrance_123 : decode prog_8_method_52_code 123 = .ok (.iload_n 2, 1) := by decide +kernel
theorem d_Ref_hindrance_124 : decode prog_8_method_52_code 124 = .ok (.invokevirtual 216, 3) := by decide +kernel
theorem d_Ref_hindrance_127 : decode prog_8_method_52_code 127 = .ok (.ifCond .eq 18, 3) := by decide +kernel
theorem d_Ref_hindrance_130 : decode prog_8_method_52_code 130 = .ok (.iload_n 1, 1) := by decide +kernel
theorem d_Ref_hindrance_131 : decode prog_8_method_52_code 131 = .ok (.iconst 3, 1) := by decide +kernel
theorem d_Ref_hindrance_132 : decode prog_8_method_52_code 132 = .ok (.if_icmp .ne 17, 3) := by decide +kernel
theorem d_Ref_hindrance_135 : decode prog_8_method_52_code 135 = .ok (.iload_n 2, 1) := by decide +kernel
theorem d_Ref_hindrance_136 : decode prog_8_method_52_code 136 = .ok (.aload_n 0, 1) := by decide +kernel
theorem d_Ref_hindrance_137 : decode prog_8_method_52_code 137 = .ok (.getfield 45, 3) := by decide +kernel
theorem d_Ref_hindrance_140 : decode prog_8_method_52_code 140 = .ok (.iconst 0, 1) := by decide +kernel
theorem d_Ref_hindrance_141 : decode prog_8_method_52_code 141 = .ok (.iaload, 1) := by decide +kernel
theorem d_Ref_hindrance_142 : decode prog_8_method_52_code 142 = .ok (.if_icmp .ge 7, 3) := by decide +kernel
theorem d_Ref_hindrance_145 : decode prog_8_method_52_code 145 = .ok (.iconst 3, 1) := by decide +kernel
theorem d_Ref_hindrance_146 : decode prog_8_method_52_code 146 = .ok (.goto 4, 3) := by decide +kernel
theorem d_Ref_hindrance_149 : decode prog_8_method_52_code 149 = .ok (.iconst 0, 1) := by decide +kernel
theorem d_Ref_hindrance_150 : decode prog_8_method_52_code 150 = .ok (.ireturn, 1) := by decide +kernel
theorem d_Ref_two_0 : decode prog_8_method_53_code 0 = .ok (.aload_n 0, 1) := by decide +kernel
theorem d_Ref_two_1 : decode prog_8_method_53_code 1 = .ok (.getfield 51, 3) := by decide +kernel
theorem d_Ref_two_4 : decode prog_8_method_53_code 4 = .ok (.aload_n 0, 1) := by decide +kernel
theorem d_Ref_two_5 : decode prog_8_method_53_code 5 = .ok (.getfield 201, 3) := by decide +kernel
theorem d_Ref_two_8 : decode prog_8_method_53_code 8 = .ok (.iconst 1, 1) := by decide +kernel
theorem d_Ref_two_9 : decode prog_8_method_53_code 9 = .ok (.iadd, 1) := by decide +kernel
theorem d_Ref_two_10 : decode prog_8_method_53_code 10 = .ok (.iaload, 1) := by decide +kernel
theorem d_Ref_two_11 : decode prog_8_method_53_code 11 = .ok (.istore_n 3, 1) := by decide +kernel
theorem d_Ref_two_12 : decode prog_8_method_53_code 12 = .ok (.aload_n 0, 1) := by decide +kernel
theorem d_Ref_two_13 : decode prog_8_method_53_code 13 = .ok (.getfield 201, 3) := by decide +kernel
theorem d_Ref_two_16 : decode prog_8_method_53_code 16 = .ok (.iconst 2, 1) := by decide +kernel
theorem d_Ref_two_17 : decode prog_8_method_53_code 17 = .ok (.iadd, 1) := by decide +kernel
theorem d_Ref_two_18 : decode prog_8_method_53_code 18 = .ok (.istore 4, 2) := by decide +kernel
theorem d_Ref_two_20 : decode prog_8_method_53_code 20 = .ok (.iload_n 1, 1) := by decide +kernel
theorem d_Ref_two_21 : decode prog_8_method_53_code 21 = .ok (.tableswitch 127 1 6 #[39, 47, 60, 73, 94, 115], 39) := by decide +kernel
theorem d_Ref_two_60 : decode prog_8_method_53_code 60 = .ok (.aload_n 0, 1) := by decide +kernel
theorem d_Ref_two_61 : decode prog_8_method_53_code 61 = .ok (.iload_n 3, 1) := by decide +kernel
theorem d_Ref_two_62 : decode prog_8_method_53_code 62 = .ok (.putfield 195, 3) := by decide +kernel
theorem d_Ref_two_65 : decode prog_8_method_53_code 65 = .ok (.goto 104, 3) := by decide +kernel
theorem d_Ref_two_68 : decode prog_8_method_53_code 68 = .ok (.aload_n 0, 1) := by decide +kernel
theorem d_Ref_two_69 : decode prog_8_method_53_code 69 = .ok (.aload_n 0, 1) := by decide +kernel
theorem d_Ref_two_70 : decode prog_8_method_53_code 70 = .ok (.getfield 51, 3) := by decide +kernel
theorem d_Ref_two_73 : decode prog_8_method_53_code 73 = .ok (.iload_n 3, 1) := by decide +kernel
theorem d_Ref_two_74 : decode prog_8_method_53_code 74 = .ok (.iaload, 1) := by decide +kernel
theorem d_Ref_two_75 : decode prog_8_method_53_code 75 = .ok (.putfield 195, 3) := by decide +kernel
theorem d_Ref_two_78 : decode prog_8_method_53_code 78 = .ok (.goto 91, 3) := by decide +kernel
theorem d_Ref_two_81 : decode prog_8_method_53_code 81 = .ok (.aload_n 0, 1) := by decide +kernel
theorem d_Ref_two_82 : decode prog_8_method_53_code 82 = .ok (.getfield 51, 3) := by decide +kernel
theorem d_Ref_two_85 : decode prog_8_method_53_code 85 = .ok (.iload_n 3, 1) := by decide +kernel
theorem d_Ref_two_86 : decode prog_8_method_53_code 86 = .ok (.aload_n 0, 1) := by decide +kernel
theorem d_Ref_two_87 : decode prog_8_method_53_code 87 = .ok (.getfield 195, 3) := by decide +kernel
theorem d_Ref_two_90 : decode prog_8_method_53_code 90 = .ok (.iastore, 1) := by decide +kernel
theorem d_Ref_two_91 : decode prog_8_method_53_code 91 = .ok (.goto 78, 3) := by decide +kernel
theorem d_Ref_two_94 : decode prog_8_method_53_code 94 = .ok (.aload_n 0, 1) := by decide +kernel
theorem d_Ref_two_95 : decode prog_8_method_53_code 95 = .ok (.aload_n 0, 1) := by decide +kernel
theorem d_Ref_two_96 : decode prog_8_method_53_code 96 = .ok (.getfield 195, 3) := by decide +kernel
theorem d_Ref_two_99 : decode prog_8_method_53_code 99 = .ok (.aload_n 0, 1) := by decide +kernel
theorem d_Ref_two_100 : decode prog_8_method_53_code 100 = .ok (.getfield 51, 3) := by decide +kernel
theorem d_Ref_two_103 : decode prog_8_method_53_code 103 = .ok (.iload_n 3, 1) := by decide +kernel
theorem d_Ref_two_104 : decode prog_8_method_53_code 104 = .ok (.iaload, 1) := by decide +kernel
theorem d_Ref_two_105 : decode prog_8_method_53_code 105 = .ok (.iadd, 1) := by decide +kernel
theorem d_Ref_two_106 : decode prog_8_method_53_code 106 = .ok (.ldc 60, 2) := by decide +kernel
theorem d_Ref_two_108 : decode prog_8_method_53_code 108 = .ok (.iand, 1) := by decide +kernel
theorem d_Ref_two_109 : decode prog_8_method_53_code 109 = .ok (.putfield 195, 3) := by decide +kernel
theorem d_Ref_two_112 : decode prog_8_method_53_code 112 = .ok (.goto 57, 3) := by decide +kernel
theorem d_Ref_two_115 : decode prog_8_method_53_code 115 = .ok (.aload_n 0, 1) := by decide +kernel
theorem d_Ref_two_116 : decode prog_8_method_53_code 116 = .ok (.aload_n 0, 1) := by decide +kernel
theorem d_Ref_two_117 : decode prog_8_method_53_code 117 = .ok (.getfield 195, 3) := by decide +kernel
theorem d_Ref_two_120 : decode prog_8_method_53_code 120 = .ok (.aload_n 0, 1) := by decide +kernel
theorem d_Ref_two_121 : decode prog_8_method_53_code 121 = .ok (.getfield 51, 3) := by decide +kernel
theorem d_Ref_two_124 : decode prog_8_method_53_code 124 = .ok (.iload_n 3, 1) := by decide +kernel
theorem d_Ref_two_125 : decode prog_8_method_53_code 125 = .ok (.iaload, 1) := by decide +kernel
theorem d_Ref_two_126 : decode prog_8_method_53_code 126 = .ok (.isub, 1) := by decide +kernel
theorem d_Ref_two_127 : decode prog_8_method_53_code 127 = .ok (.ldc 60, 2) := by decide +kernel
theorem d_Ref_two_129 : decode prog_8_method_53_code 129 = .ok (.iand, 1) := by decide +kernel
theorem d_Ref_two_130 : decode prog_8_method_53_code 130 = .ok (.putfield 195, 3) := by decide +kernel
theorem d_Ref_two_133 : decode prog_8_method_53_code 133 = .ok (.goto 36, 3) := by decide +kernel
theorem d_Ref_two_136 : decode prog_8_method_53_code 136 = .ok (.aload_n 0, 1) := by decide +kernel
theorem d_Ref_two_137 : decode prog_8_method_53_code 137 = .ok (.iload 4, 2) := by decide +kernel
theorem d_Ref_two_139 : decode prog_8_method_53_code 139 = .ok (.putfield 198, 3) := by decide +kernel
theorem d_Ref_two_142 : decode prog_8_method_53_code 142 = .ok (.iload_n 3, 1) := by decide +kernel
theorem d_Ref_two_143 : decode prog_8_method_53_code 143 = .ok (.istore 4, 2) := by decide +kernel
theorem d_Ref_two_145 : decode prog_8_method_53_code 145 = .ok (.goto 24, 3) := by decide +kernel
theorem d_Ref_two_148 : decode prog_8_method_53_code 148 = .ok (.aload_n 0, 1) := by decide +kernel
theorem d_Ref_two_149 : decode prog_8_method_53_code 149 = .ok (.iload_n 2, 1) := by decide +kernel
theorem d_Ref_two_150 : decode prog_8_method_53_code 150 = .ok (.bipush 8, 2) := by decide +kernel
theorem d_Ref_two_152 : decode prog_8_method_53_code 152 = .ok (.ishr, 1) := by decide +kernel
theorem d_Ref_two_153 : decode prog_8_method_53_code 153 = .ok (.iconst 3, 1) := by decide +kernel
theorem d_Ref_two_154 : decode prog_8_method_53_code 154 = .ok (.iand, 1) := by decide +kernel
theorem d_Ref_two_155 : decode prog_8_method_53_code 155 = .ok (.invokevirtual 219, 3) := by decide +kernel
theorem d_Ref_two_158 : decode prog_8_method_53_code 158 = .ok (.ifCond .eq 7, 3) := by decide +kernel
theorem d_Ref_two_161 : decode prog_8_method_53_code 161 = .ok (.iload_n 3, 1) := by decide +kernel
theorem d_Ref_two_162 : decode prog_8_method_53_code 162 = .ok (.goto 5, 3) := by decide +kernel
theorem d_Ref_two_165 : decode prog_8_method_53_code 165 = .ok (.iload 4, 2) := by decide +kernel
theorem d_Ref_two_167 : decode prog_8_method_53_code 167 = .ok (.istore 4, 2) := by decide +kernel
theorem d_Ref_two_169 : decode prog_8_method_53_code 169 = .ok (.aload_n 0, 1) := by decide +kernel
theorem d_Ref_two_170 : decode prog_8_method_53_code 170 = .ok (.iload 4, 2) := by decide +kernel
theorem d_Ref_two_172 : decode prog_8_method_53_code 172 = .ok (.putfield 201, 3) := by decide +kernel
theorem d_Ref_two_175 : decode prog_8_method_53_code 175 = .ok (.return_, 1) := by decide +kernel
theorem d_Ref_single_0 : decode prog_8_method_54_code 0 = .ok (.aload_n 0, 1) := by decide +kernel
theorem d_Ref_single_1 : decode prog_8_method_54_code 1 = .ok (.getfield 201, 3) := by decide +kernel
theorem d_Ref_single_4 : decode prog_8_method_54_code 4 = .ok (.iconst 1, 1) := by decide +kernel
theorem d_Ref_single_5 : decode prog_8_method_54_code 5 = .ok (.iadd, 1) := by decide +kernel
theorem d_Ref_single_6 : decode prog_8_method_54_code 6 = .ok (.istore_n 3, 1) := by decide +kernel
theorem d_Ref_single_7 : decode prog_8_method_54_code 7 = .ok (.iload_n 1, 1) := by decide +kernel
theorem d_Ref_single_8 : decode prog_8_method_54_code 8 = .ok (.ifCond .ne 16, 3) := by decide +kernel
theorem d_Ref_single_11 : decode prog_8_method_54_code 11 = .ok (.aload_n 0, 1) := by decide +kernel
theorem d_Ref_single_12 : decode prog_8_method_54_code 12 = .ok (.iconst 1, 1) := by decide +kernel
theorem d_Ref_single_13 : decode prog_8_method_54_code 13 = .ok (.putfield 204, 3) := by decide +kernel
theorem d_Ref_single_16 : decode prog_8_method_54_code 16 = .ok (.aload_n 0, 1) := by decide +kernel
theorem d_Ref_single_17 : decode prog_8_method_54_code 17 = .ok (.getfield 201, 3) := by decide +kernel
theorem d_Ref_single_20 : decode prog_8_method_54_code 20 = .ok (.istore_n 3, 1) := by decide +kernel
theorem d_Ref_single_21 : decode prog_8_method_54_code 21 = .ok (.goto 245, 3) := by decide +kernel
theorem d_Ref_single_24 : decode prog_8_method_54_code 24 = .ok (.iload_n 1, 1) := by decide +kernel
theorem d_Ref_single_25 : decode prog_8_method_54_code 25 = .ok (.bipush 7, 2) := by decide +kernel
theorem d_Ref_single_27 : decode prog_8_method_54_code 27 = .ok (.if_icmp .ne 11, 3) := by decide +kernel
theorem d_Ref_single_30 : decode prog_8_method_54_code 30 = .ok (.aload_n 0, 1) := by decide +kernel
theorem d_Ref_single_31 : decode prog_8_method_54_code 31 = .ok (.getfield 198, 3) := by decide +kernel
theorem d_Ref_single_34 : decode prog_8_method_54_code 34 = .ok (.istore_n 3, 1) := by decide +kernel
theorem d_Ref_single_35 : decode prog_8_method_54_code 35 = .ok (.goto 231, 3) := by decide +kernel
theorem d_Ref_single_38 : decode prog_8_method_54_code 38 = .ok (.iload_n 1, 1) := by decide +kernel
theorem d_Ref_single_39 : decode prog_8_method_54_code 39 = .ok (.bipush 9, 2) := by decide +kernel
theorem d_Ref_single_41 : decode prog_8_method_54_code 41 = .ok (.if_icmp .ne 60, 3) := by decide +kernel
theorem d_Ref_single_44 : decode prog_8_method_54_code 44 = .ok (.iload_n 2, 1) := by decide +kernel
theorem d_Ref_single_45 : decode prog_8_method_54_code 45 = .ok (.sipush 255, 3) := by decide +kernel
theorem d_Ref_single_48 : decode prog_8_method_54_code 48 = .ok (.iand, 1) := by decide +kernel
theorem d_Ref_single_49 : decode prog_8_method_54_code 49 = .ok (.bipush 127, 2) := by decide +kernel
theorem d_Ref_single_51 : decode prog_8_method_54_code 51 = .ok (.if_icmp .le 15, 3) := by decide +kernel
theorem d_Ref_single_54 : decode prog_8_method_54_code 54 = .ok (.iload_n 2, 1) := by decide +kernel
theorem d_Ref_single_55 : decode prog_8_method_54_code 55 = .ok (.sipush 255, 3) := by decide +kernel
theorem d_Ref_single_58 : decode prog_8_method_54_code 58 = .ok (.iand, 1) := by decide +kernel
theorem d_Ref_single_59 : decode prog_8_method_54_code 59 = .ok (.sipush 256, 3) := by decide +kernel
theorem d_Ref_single_62 : decode prog_8_method_54_code 62 = .ok (.isub, 1) := by decide +kernel
theorem d_Ref_single_63 : decode prog_8_method_54_code 63 = .ok (.goto 8, 3) := by decide +kernel
theorem d_Ref_single_66 : decode prog_8_method_54_code 66 = .ok (.iload_n 2, 1) := by decide +kernel
theorem d_Ref_single_67 : decode prog_8_method_54_code 67 = .ok (.sipush 255, 3) := by decide +kernel
theorem d_Ref_single_70 : decode prog_8_method_54_code 70 = .ok (.iand, 1) := by decide +kernel
theorem d_Ref_single_71 : decode prog_8_method_54_code 71 = .ok (.istore 4, 2) := by decide +kernel
theorem d_Ref_single_73 : decode prog_8_method_54_code 73 = .ok (.aload_n 0, 1) := by decide +kernel
theorem d_Ref_single_74 : decode prog_8_method_54_code 74 = .ok (.iload_n 2, 1) := by decide +kernel
theorem d_Ref_single_75 : decode prog_8_method_54_code 75 = .ok (.bipush 8, 2) := by decide +kernel
theorem d_Ref_single_77 : decode prog_8_method_54_code 77 = .ok (.ishr, 1) := by decide +kernel
theorem d_Ref_single_78 : decode prog_8_method_54_code 78 = .ok (.iconst 3, 1) := by decide +kernel
theorem d_Ref_single_79 : decode prog_8_method_54_code 79 = .ok (.iand, 1) := by decide +kernel
theorem d_Ref_single_80 : decode prog_8_method_54_code 80 = .ok (.invokevirtual 219, 3) := by decide +kernel
theorem d_Ref_single_83 : decode prog_8_method_54_code 83 = .ok (.ifCond .eq 13, 3) := by decide +kernel
theorem d_Ref_single_86 : decode prog_8_method_54_code 86 = .ok (.iload_n 3, 1) := by decide +kernel
theorem d_Ref_single_87 : decode prog_8_method_54_code 87 = .ok (.iload 4, 2) := by decide +kernel
theorem d_Ref_single_89 : decode prog_8_method_54_code 89 = .ok (.iadd, 1) := by decide +kernel
theorem d_Ref_single_90 : decode prog_8_method_54_code 90 = .ok (.ldc 60, 2) := by decide +kernel
theorem d_Ref_single_92 : decode prog_8_method_54_code 92 = .ok (.iand, 1) := by decide +kernel
theorem d_Ref_single_93 : decode prog_8_method_54_code 93 = .ok (.goto 4, 3) := by decide +kernel
theorem d_Ref_single_96 : decode prog_8_method_54_code 96 = .ok (.iload_n 3, 1) := by decide +kernel
theorem d_Ref_single_97 : decode prog_8_method_54_code 97 = .ok (.istore_n 3, 1) := by decide +kernel
theorem d_Ref_single_98 : decode prog_8_method_54_code 98 = .ok (.goto 168, 3) := by decide +kernel
theorem d_Ref_single_101 : decode prog_8_method_54_code 101 = .ok (.iload_n 1, 1) := by decide +kernel
theorem d_Ref_single_102 : decode prog_8_method_54_code 102 = .ok (.bipush 10, 2) := by decide +kernel
theorem d_Ref_single_104 : decode prog_8_method_54_code 104 = .ok (.if_icmp .ne 62, 3) := by decide +kernel
theorem d_Ref_single_107 : decode prog_8_method_54_code 107 = .ok (.aload_n 0, 1) := by decide +kernel
theorem d_Ref_single_108 : decode prog_8_method_54_code 108 = .ok (.getfield 54, 3) := by decide +kernel
theorem d_Ref_single_111 : decode prog_8_method_54_code 111 = .ok (.iconst 3, 1) := by decide +kernel
theorem d_Ref_single_112 : decode prog_8_method_54_code 112 = .ok (.aload_n 0, 1) := by decide +kernel
theorem d_Ref_single_113 : decode prog_8_method_54_code 113 = .ok (.getfield 54, 3) := by decide +kernel
theorem d_Ref_single_116 : decode prog_8_method_54_code 116 = .ok (.iconst 2, 1) := by decide +kernel
theorem d_Ref_single_117 : decode prog_8_method_54_code 117 = .ok (.iaload, 1) := by decide +kernel
theorem d_Ref_single_118 : decode prog_8_method_54_code 118 = .ok (.iastore, 1) := by decide +kernel
theorem d_Ref_single_119 : decode prog_8_method_54_code 119 = .ok (.aload_n 0, 1) := by decide +kernel
theorem d_Ref_single_120 : decode prog_8_method_54_code 120 = .ok (.getfield 54, 3) := by decide +kernel
theorem d_Ref_single_123 : decode prog_8_method_54_code 123 = .ok (.iconst 2, 1) := by decide +kernel
theorem d_Ref_single_124 : decode prog_8_method_54_code 124 = .ok (.aload_n 0, 1) := by decide +kernel
theorem d_Ref_single_125 : decode prog_8_method_54_code 125 = .ok (.getfield 54, 3) := by decide +kernel
theorem d_Ref_single_128 : decode prog_8_method_54_code 128 = .ok (.iconst 1, 1) := by decide +kernel
theorem d_Ref_single_129 : decode prog_8_method_54_code 129 = .ok (.iaload, 1) := by decide +kernel
theorem d_Ref_single_130 : decode prog_8_method_54_code 130 = .ok (.iastore, 1) := by decide +kernel
theorem d_Ref_single_131 : decode prog_8_method_54_code 131 = .ok (.aload_n 0, 1) := by decide +kernel
theorem d_Ref_single_132 : decode prog_8_method_54_code 132 = .ok (.getfield 54, 3) := by decide +kernel
theorem d_Ref_single_135 : decode prog_8_method_54_code 135 = .ok (.iconst 1, 1) := by decide +kernel
theorem d_Ref_single_136 : decode prog_8_method_54_code 136 = .ok (.aload_n 0, 1) := by decide +kernel
theorem d_Ref_single_137 : decode prog_8_method_54_code 137 = .ok (.getfield 54, 3) := by decide +kernel
theorem d_Ref_single_140 : decode prog_8_method_54_code 140 = .ok (.iconst 0, 1) := by decide +kernel
theorem d_Ref_single_141 : decode prog_8_method_54_code 141 = .ok (.iaload, 1) := by decide +kernel
theorem d_Ref_single_142 : decode prog_8_method_54_code 142 = .ok (.iastore, 1) := by decide +kernel
theorem d_Ref_single_143 : decode prog_8_method_54_code 143 = .ok (.aload_n 0, 1) := by decide +kernel
theorem d_Ref_single_144 : decode prog_8_method_54_code 144 = .ok (.getfield 54, 3) := by decide +kernel
theorem d_Ref_single_147 : decode prog_8_method_54_code 147 = .ok (.iconst 0, 1) := by decide +kernel
theorem d_Ref_single_148 : decode prog_8_method_54_code 148 = .ok (.aload_n 0, 1) := by decide +kernel
theorem d_Ref_single_149 : decode prog_8_method_54_code 149 = .ok (.getfield 195, 3) := by decide +kernel
theorem d_Ref_single_152 : decode prog_8_method_54_code 152 = .ok (.iastore, 1) := by decide +kernel
theorem d_Ref_single_153 : decode prog_8_method_54_code 153 = .ok (.aload_n 0, 1) := by decide +kernel
theorem d_Ref_single_154 : decode prog_8_method_54_code 154 = .ok (.dup, 1) := by decide +kernel
theorem d_Ref_single_155 : decode prog_8_method_54_code 155 = .ok (.getfield 207, 3) := by decide +kernel
theorem d_Ref_single_158 : decode prog_8_method_54_code 158 = .ok (.iconst 1, 1) := by decide +kernel
theorem d_Ref_single_159 : decode prog_8_method_54_code 159 = .ok (.iadd, 1) := by decide +kernel
theorem d_Ref_single_160 : decode prog_8_method_54_code 160 = .ok (.putfield 207, 3) := by decide +kernel
theorem d_Ref_single_163 : decode prog_8_method_54_code 163 = .ok (.goto 103, 3) := by decide +kernel
theorem d_Ref_single_166 : decode prog_8_method_54_code 166 = .ok (.iload_n 1, 1) := by decide +kernel
theorem d_Ref_single_167 : decode prog_8_method_54_code 167 = .ok (.bipush 11, 2) := by decide +kernel
theorem d_Ref_single_169 : decode prog_8_method_54_code 169 = .ok (.if_icmp .ne 62, 3) := by decide +kernel
theorem d_Ref_single_172 : decode prog_8_method_54_code 172 = .ok (.aload_n 0, 1) := by decide +kernel
theorem d_Ref_single_173 : decode prog_8_method_54_code 173 = .ok (.aload_n 0, 1) := by decide +kernel
theorem d_Ref_single_174 : decode prog_8_method_54_code 174 = .ok (.getfield 213, 3) := by decide +kernel
theorem d_Ref_single_177 : decode prog_8_method_54_code 177 = .ok (.aload_n 0, 1) := by decide +kernel
theorem d_Ref_single_178 : decode prog_8_method_54_code 178 = .ok (.getfield 210, 3) := by decide +kernel
theorem d_Ref_single_181 : decode prog_8_method_54_code 181 = .ok (.if_icmp .ge 15, 3) := by decide +kernel
theorem d_Ref_single_184 : decode prog_8_method_54_code 184 = .ok (.aload_n 0, 1) := by decide +kernel
theorem d_Ref_single_185 : decode prog_8_method_54_code 185 = .ok (.getfield 57, 3) := by decide +kernel
theorem d_Ref_single_188 : decode prog_8_method_54_code 188 = .ok (.aload_n 0, 1) := by decide +kernel
theorem d_Ref_single_189 : decode prog_8_method_54_code 189 = .ok (.getfield 213, 3) := by decide +kernel
theorem d_Ref_single_192 : decode prog_8_method_54_code 192 = .ok (.iaload, 1) := by decide +kernel
theorem d_Ref_single_193 : decode prog_8_method_54_code 193 = .ok (.goto 4, 3) := by decide +kernel
theorem d_Ref_single_196 : decode prog_8_method_54_code 196 = .ok (.iconst 0, 1) := by decide +kernel
theorem d_Ref_single_197 : decode prog_8_method_54_code 197 = .ok (.putfield 195, 3) := by decide +kernel
theorem d_Ref_single_200 : decode prog_8_method_54_code 200 = .ok (.aload_n 0, 1) := by decide +kernel
theorem d_Ref_single_201 : decode prog_8_method_54_code 201 = .ok (.aload_n 0, 1) := by decide +kernel
theorem d_Ref_single_202 : decode prog_8_method_54_code 202 = .ok (.getfield 213, 3) := by decide +kernel
theorem d_Ref_single_205 : decode prog_8_method_54_code 205 = .ok (.aload_n 0, 1) := by decide +kernel
theorem d_Ref_single_206 : decode prog_8_method_54_code 206 = .ok (.getfield 210, 3) := by decide +kernel
theorem d_Ref_single_209 : decode prog_8_method_54_code 209 = .ok (.if_icmp .ge 12, 3) := by decide +kernel
theorem d_Ref_single_212 : decode prog_8_method_54_code 212 = .ok (.aload_n 0, 1) := by decide +kernel
theorem d_Ref_single_213 : decode prog_8_method_54_code 213 = .ok (.getfield 213, 3) := by decide +kernel
theorem d_Ref_single_216 : decode prog_8_method_54_code 216 = .ok (.iconst 1, 1) := by decide +kernel
theorem d_Ref_single_217 : decode prog_8_method_54_code 217 = .ok (.iadd, 1) := by decide +kernel
theorem d_Ref_single_218 : decode prog_8_method_54_code 218 = .ok (.goto 7, 3) := by decide +kernel
theorem d_Ref_single_221 : decode prog_8_method_54_code 221 = .ok (.aload_n 0, 1) := by decide +kernel
theorem d_Ref_single_222 : decode prog_8_method_54_code 222 = .ok (.getfield 213, 3) := by decide +kernel
theorem d_Ref_single_225 : decode prog_8_method_54_code 225 = .ok (.putfield 213, 3) := by decide +kernel
theorem d_Ref_single_228 : decode prog_8_method_54_code 228 = .ok (.goto 38, 3) := by decide +kernel
theorem d_Ref_single_231 : decode prog_8_method_54_code 231 = .ok (.iload_n 1, 1) := by decide +kernel
theorem d_Ref_single_232 : decode prog_8_method_54_code 232 = .ok (.bipush 12, 2) := by decide +kernel
theorem d_Ref_single_234 : decode prog_8_method_54_code 234 = .ok (.if_icmp .ne 19, 3) := by decide +kernel
theorem d_Ref_single_237 : decode prog_8_method_54_code 237 = .ok (.aload_n 0, 1) := by decide +kernel
theorem d_Ref_single_238 : decode prog_8_method_54_code 238 = .ok (.aload_n 0, 1) := by decide +kernel
theorem d_Ref_single_239 : decode prog_8_method_54_code 239 = .ok (.getfield 51, 3) := by decide +kernel
theorem d_Ref_single_242 : decode prog_8_method_54_code 242 = .ok (.aload_n 0, 1) := by decide +kernel
theorem d_Ref_single_243 : decode prog_8_method_54_code 243 = .ok (.getfield 195, 3) := by decide +kernel
theorem d_Ref_single_246 : decode prog_8_method_54_code 246 = .ok (.iaload, 1) := by decide +kernel
theorem d_Ref_single_247 : decode prog_8_method_54_code 247 = .ok (.putfield 195, 3) := by decide +kernel
theorem d_Ref_single_250 : decode prog_8_method_54_code 250 = .ok (.goto 16, 3) := by decide +kernel
theorem d_Ref_single_253 : decode prog_8_method_54_code 253 = .ok (.aload_n 0, 1) := by decide +kernel
theorem d_Ref_single_254 : decode prog_8_method_54_code 254 = .ok (.aload_n 0, 1) := by decide +kernel
theorem d_Ref_single_255 : decode prog_8_method_54_code 255 = .ok (.getfield 195, 3) := by decide +kernel
theorem d_Ref_single_258 : decode prog_8_method_54_code 258 = .ok (.iload_n 2, 1) := by decide +kernel
theorem d_Ref_single_259 : decode prog_8_method_54_code 259 = .ok (.bipush 15, 2) := by decide +kernel
theorem d_Ref_single_261 : decode prog_8_method_54_code 261 = .ok (.iand, 1) := by decide +kernel
theorem d_Ref_single_262 : decode prog_8_method_54_code 262 = .ok (.ishr, 1) := by decide +kernel
theorem d_Ref_single_263 : decode prog_8_method_54_code 263 = .ok (.putfield 195, 3) := by decide +kernel
theorem d_Ref_single_266 : decode prog_8_method_54_code 266 = .ok (.aload_n 0, 1) := by decide +kernel
theorem d_Ref_single_267 : decode prog_8_method_54_code 267 = .ok (.iload_n 3, 1) := by decide +kernel
theorem d_Ref_single_268 : decode prog_8_method_54_code 268 = .ok (.putfield 201, 3) := by decide +kernel
theorem d_Ref_single_271 : decode prog_8_method_54_code 271 = .ok (.return_, 1) := by decide +kernel
theorem d_Ref_run_0 : decode prog_8_method_55_code 0 = .ok (.aload_n 0, 1) := by decide +kernel
theorem d_Ref_run_1 : decode prog_8_method_55_code 1 = .ok (.getfield 183, 3) := by decide +kernel
theorem d_Ref_run_4 : decode prog_8_method_55_code 4 = .ok (.ifCond .eq 14, 3) := by decide +kernel
theorem d_Ref_run_7 : decode prog_8_method_55_code 7 = .ok (.iload_n 1, 1) := by decide +kernel
theorem d_Ref_run_8 : decode prog_8_method_55_code 8 = .ok (.ifCond .lt 10, 3) := by decide +kernel
theorem d_Ref_run_11 : decode prog_8_method_55_code 11 = .ok (.iload_n 1, 1) := by decide +kernel
theorem d_Ref_run_12 : decode prog_8_method_55_code 12 = .ok (.sipush 1000, 3) := by decide +kernel
theorem d_Ref_run_15 : decode prog_8_method_55_code 15 = .ok (.if_icmp .le 5, 3) := by decide +kernel
theorem d_Ref_run_18 : decode prog_8_method_55_code 18 = .ok (.iconst (-1), 1) := by decide +kernel
theorem d_Ref_run_19 : decode prog_8_method_55_code 19 = .ok (.ireturn, 1) := by decide +kernel
theorem d_Ref_run_20 : decode prog_8_method_55_code 20 = .ok (.iconst 0, 1) := by decide +kernel
theorem d_Ref_run_21 : decode prog_8_method_55_code 21 = .ok (.istore_n 2, 1) := by decide +kernel
theorem d_Ref_run_22 : decode prog_8_method_55_code 22 = .ok (.iload_n 2, 1) := by decide +kernel
theorem d_Ref_run_23 : decode prog_8_method_55_code 23 = .ok (.iload_n 1, 1) := by decide +kernel
theorem d_Ref_run_24 : decode prog_8_method_55_code 24 = .ok (.if_icmp .ge 97, 3) := by decide +kernel
theorem d_Ref_run_27 : decode prog_8_method_55_code 27 = .ok (.aload_n 0, 1) := by decide +kernel
theorem d_Ref_run_28 : decode prog_8_method_55_code 28 = .ok (.getfield 204, 3) := by decide +kernel
theorem d_Ref_run_31 : decode prog_8_method_55_code 31 = .ok (.ifCond .ne 90, 3) := by decide +kernel
theorem d_Ref_run_34 : decode prog_8_method_55_code 34 = .ok (.aload_n 0, 1) := by decide +kernel
theorem d_Ref_run_35 : decode prog_8_method_55_code 35 = .ok (.invokevirtual 222, 3) := by decide +kernel
theorem d_Ref_run_38 : decode prog_8_method_55_code 38 = .ok (.istore_n 3, 1) := by decide +kernel
theorem d_Ref_run_39 : decode prog_8_method_55_code 39 = .ok (.iload_n 3, 1) := by decide +kernel
theorem d_Ref_run_40 : decode prog_8_method_55_code 40 = .ok (.ifCond .eq 10, 3) := by decide +kernel
theorem d_Ref_run_43 : decode prog_8_method_55_code 43 = .ok (.aload_n 0, 1) := by decide +kernel
theorem d_Ref_run_44 : decode prog_8_method_55_code 44 = .ok (.iload_n 3, 1) := by decide +kernel
theorem d_Ref_run_45 : decode prog_8_method_55_code 45 = .ok (.putfield 204, 3) := by decide +kernel
theorem d_Ref_run_48 : decode prog_8_method_55_code 48 = .ok (.iload_n 2, 1) := by decide +kernel
theorem d_Ref_run_49 : decode prog_8_method_55_code 49 = .ok (.ireturn, 1) := by decide +kernel
theorem d_Ref_run_50 : decode prog_8_method_55_code 50 = .ok (.aload_n 0, 1) := by decide +kernel
theorem d_Ref_run_51 : decode prog_8_method_55_code 51 = .ok (.getfield 51, 3) := by decide +kernel
theorem d_Ref_run_54 : decode prog_8_method_55_code 54 = .ok (.aload_n 0, 1) := by decide +kernel
theorem d_Ref_run_55 : decode prog_8_method_55_code 55 = .ok (.getfield 201, 3) := by decide +kernel
theorem d_Ref_run_58 : decode prog_8_method_55_code 58 = .ok (.iaload, 1) := by decide +kernel
theorem d_Ref_run_59 : decode prog_8_method_55_code 59 = .ok (.istore 4, 2) := by decide +kernel
end
section
theorem d_Ref_run_61 : decode prog_8_method_55_code 61 = .ok (.iload 4, 2) := by decide +kernel
theorem d_Ref_run_63 : decode prog_8_method_55_code 63 = .ok (.bipush 12, 2) := by decide +kernel
theorem d_Ref_run_65 : decode prog_8_method_55_code 65 = .ok (.ishr, 1) := by decide +kernel
theorem d_Ref_run_66 : decode prog_8_method_55_code 66 = .ok (.istore 5, 2) := by decide +kernel
theorem d_Ref_run_68 : decode prog_8_method_55_code 68 = .ok (.iload 5, 2) := by decide +kernel
theorem d_Ref_run_70 : decode prog_8_method_55_code 70 = .ok (.iconst 1, 1) := by decide +kernel
theorem d_Ref_run_71 : decode prog_8_method_55_code 71 = .ok (.if_icmp .lt 10, 3) := by decide +kernel
theorem d_Ref_run_74 : decode prog_8_method_55_code 74 = .ok (.iload 5, 2) := by decide +kernel
theorem d_Ref_run_76 : decode prog_8_method_55_code 76 = .ok (.bipush 6, 2) := by decide +kernel
theorem d_Ref_run_78 : decode prog_8_method_55_code 78 = .ok (.if_icmp .le 10, 3) := by decide +kernel
theorem d_Ref_run_81 : decode prog_8_method_55_code 81 = .ok (.iload 5, 2) := by decide +kernel
theorem d_Ref_run_83 : decode prog_8_method_55_code 83 = .ok (.bipush 8, 2) := by decide +kernel
theorem d_Ref_run_85 : decode prog_8_method_55_code 85 = .ok (.if_icmp .ne 18, 3) := by decide +kernel
theorem d_Ref_run_88 : decode prog_8_method_55_code 88 = .ok (.aload_n 0, 1) := by decide +kernel
theorem d_Ref_run_89 : decode prog_8_method_55_code 89 = .ok (.iload 5, 2) := by decide +kernel
theorem d_Ref_run_91 : decode prog_8_method_55_code 91 = .ok (.iload 4, 2) := by decide +kernel
theorem d_Ref_run_93 : decode prog_8_method_55_code 93 = .ok (.sipush 4095, 3) := by decide +kernel
theorem d_Ref_run_96 : decode prog_8_method_55_code 96 = .ok (.iand, 1) := by decide +kernel
theorem d_Ref_run_97 : decode prog_8_method_55_code 97 = .ok (.invokevirtual 226, 3) := by decide +kernel
theorem d_Ref_run_100 : decode prog_8_method_55_code 100 = .ok (.goto 15, 3) := by decide +kernel
theorem d_Ref_run_103 : decode prog_8_method_55_code 103 = .ok (.aload_n 0, 1) := by decide +kernel
theorem d_Ref_run_104 : decode prog_8_method_55_code 104 = .ok (.iload 5, 2) := by decide +kernel
theorem d_Ref_run_106 : decode prog_8_method_55_code 106 = .ok (.iload 4, 2) := by decide +kernel
theorem d_Ref_run_108 : decode prog_8_method_55_code 108 = .ok (.sipush 4095, 3) := by decide +kernel
theorem d_Ref_run_111 : decode prog_8_method_55_code 111 = .ok (.iand, 1) := by decide +kernel
theorem d_Ref_run_112 : decode prog_8_method_55_code 112 = .ok (.invokevirtual 228, 3) := by decide +kernel
theorem d_Ref_run_115 : decode prog_8_method_55_code 115 = .ok (.iinc 2 1, 3) := by decide +kernel
theorem d_Ref_run_118 : decode prog_8_method_55_code 118 = .ok (.goto (-96), 3) := by decide +kernel
theorem d_Ref_run_121 : decode prog_8_method_55_code 121 = .ok (.iload_n 2, 1) := by decide +kernel
theorem d_Ref_run_122 : decode prog_8_method_55_code 122 = .ok (.ireturn, 1) := by decide +kernel
theorem d_Ref_register_0 : decode prog_8_method_56_code 0 = .ok (.aload_n 0, 1) := by decide +kernel
theorem d_Ref_register_1 : decode prog_8_method_56_code 1 = .ok (.getfield 183, 3) := by decide +kernel
theorem d_Ref_register_4 : decode prog_8_method_56_code 4 = .ok (.ifCond .eq 13, 3) := by decide +kernel
theorem d_Ref_register_7 : decode prog_8_method_56_code 7 = .ok (.iload_n 1, 1) := by decide +kernel
theorem d_Ref_register_8 : decode prog_8_method_56_code 8 = .ok (.ifCond .lt 9, 3) := by decide +kernel
theorem d_Ref_register_11 : decode prog_8_method_56_code 11 = .ok (.iload_n 1, 1) := by decide +kernel
theorem d_Ref_register_12 : decode prog_8_method_56_code 12 = .ok (.bipush 8, 2) := by decide +kernel
theorem d_Ref_register_14 : decode prog_8_method_56_code 14 = .ok (.if_icmp .le 5, 3) := by decide +kernel
theorem d_Ref_register_17 : decode prog_8_method_56_code 17 = .ok (.iconst (-1), 1) := by decide +kernel
theorem d_Ref_register_18 : decode prog_8_method_56_code 18 = .ok (.ireturn, 1) := by decide +kernel
theorem d_Ref_register_19 : decode prog_8_method_56_code 19 = .ok (.iload_n 1, 1) := by decide +kernel
theorem d_Ref_register_20 : decode prog_8_method_56_code 20 = .ok (.iconst 5, 1) := by decide +kernel
theorem d_Ref_register_21 : decode prog_8_method_56_code 21 = .ok (.if_icmp .lt 26, 3) := by decide +kernel
theorem d_Ref_register_24 : decode prog_8_method_56_code 24 = .ok (.iload_n 1, 1) := by decide +kernel
theorem d_Ref_register_25 : decode prog_8_method_56_code 25 = .ok (.iconst 5, 1) := by decide +kernel
theorem d_Ref_register_26 : decode prog_8_method_56_code 26 = .ok (.isub, 1) := by decide +kernel
theorem d_Ref_register_27 : decode prog_8_method_56_code 27 = .ok (.aload_n 0, 1) := by decide +kernel
theorem d_Ref_register_28 : decode prog_8_method_56_code 28 = .ok (.getfield 207, 3) := by decide +kernel
theorem d_Ref_register_31 : decode prog_8_method_56_code 31 = .ok (.if_icmp .ge 14, 3) := by decide +kernel
theorem d_Ref_register_34 : decode prog_8_method_56_code 34 = .ok (.aload_n 0, 1) := by decide +kernel
theorem d_Ref_register_35 : decode prog_8_method_56_code 35 = .ok (.getfield 54, 3) := by decide +kernel
theorem d_Ref_register_38 : decode prog_8_method_56_code 38 = .ok (.iload_n 1, 1) := by decide +kernel
theorem d_Ref_register_39 : decode prog_8_method_56_code 39 = .ok (.iconst 5, 1) := by decide +kernel
theorem d_Ref_register_40 : decode prog_8_method_56_code 40 = .ok (.isub, 1) := by decide +kernel
theorem d_Ref_register_41 : decode prog_8_method_56_code 41 = .ok (.iaload, 1) := by decide +kernel
theorem d_Ref_register_42 : decode prog_8_method_56_code 42 = .ok (.goto 4, 3) := by decide +kernel
theorem d_Ref_register_45 : decode prog_8_method_56_code 45 = .ok (.iconst (-1), 1) := by decide +kernel
theorem d_Ref_register_46 : decode prog_8_method_56_code 46 = .ok (.ireturn, 1) := by decide +kernel
theorem d_Ref_register_47 : decode prog_8_method_56_code 47 = .ok (.iload_n 1, 1) := by decide +kernel
theorem d_Ref_register_48 : decode prog_8_method_56_code 48 = .ok (.ifCond .ne 10, 3) := by decide +kernel
theorem d_Ref_register_51 : decode prog_8_method_56_code 51 = .ok (.aload_n 0, 1) := by decide +kernel
theorem d_Ref_register_52 : decode prog_8_method_56_code 52 = .ok (.getfield 195, 3) := by decide +kernel
theorem d_Ref_register_55 : decode prog_8_method_56_code 55 = .ok (.goto 43, 3) := by decide +kernel
theorem d_Ref_register_58 : decode prog_8_method_56_code 58 = .ok (.iload_n 1, 1) := by decide +kernel
theorem d_Ref_register_59 : decode prog_8_method_56_code 59 = .ok (.iconst 1, 1) := by decide +kernel
theorem d_Ref_register_60 : decode prog_8_method_56_code 60 = .ok (.if_icmp .ne 10, 3) := by decide +kernel
theorem d_Ref_register_63 : decode prog_8_method_56_code 63 = .ok (.aload_n 0, 1) := by decide +kernel
theorem d_Ref_register_64 : decode prog_8_method_56_code 64 = .ok (.getfield 198, 3) := by decide +kernel
theorem d_Ref_register_67 : decode prog_8_method_56_code 67 = .ok (.goto 31, 3) := by decide +kernel
theorem d_Ref_register_70 : decode prog_8_method_56_code 70 = .ok (.iload_n 1, 1) := by decide +kernel
theorem d_Ref_register_71 : decode prog_8_method_56_code 71 = .ok (.iconst 2, 1) := by decide +kernel
theorem d_Ref_register_72 : decode prog_8_method_56_code 72 = .ok (.if_icmp .ne 10, 3) := by decide +kernel
theorem d_Ref_register_75 : decode prog_8_method_56_code 75 = .ok (.aload_n 0, 1) := by decide +kernel
theorem d_Ref_register_76 : decode prog_8_method_56_code 76 = .ok (.getfield 201, 3) := by decide +kernel
theorem d_Ref_register_79 : decode prog_8_method_56_code 79 = .ok (.goto 19, 3) := by decide +kernel
theorem d_Ref_register_82 : decode prog_8_method_56_code 82 = .ok (.iload_n 1, 1) := by decide +kernel
theorem d_Ref_register_83 : decode prog_8_method_56_code 83 = .ok (.iconst 3, 1) := by decide +kernel
theorem d_Ref_register_84 : decode prog_8_method_56_code 84 = .ok (.if_icmp .ne 10, 3) := by decide +kernel
theorem d_Ref_register_87 : decode prog_8_method_56_code 87 = .ok (.aload_n 0, 1) := by decide +kernel
theorem d_Ref_register_88 : decode prog_8_method_56_code 88 = .ok (.getfield 204, 3) := by decide +kernel
theorem d_Ref_register_91 : decode prog_8_method_56_code 91 = .ok (.goto 7, 3) := by decide +kernel
theorem d_Ref_register_94 : decode prog_8_method_56_code 94 = .ok (.aload_n 0, 1) := by decide +kernel
theorem d_Ref_register_95 : decode prog_8_method_56_code 95 = .ok (.getfield 207, 3) := by decide +kernel
theorem d_Ref_register_98 : decode prog_8_method_56_code 98 = .ok (.ireturn, 1) := by decide +kernel
theorem d_Ref_memory_0 : decode prog_8_method_57_code 0 = .ok (.aload_n 0, 1) := by decide +kernel
theorem d_Ref_memory_1 : decode prog_8_method_57_code 1 = .ok (.getfield 183, 3) := by decide +kernel
theorem d_Ref_memory_4 : decode prog_8_method_57_code 4 = .ok (.ifCond .eq 20, 3) := by decide +kernel
theorem d_Ref_memory_7 : decode prog_8_method_57_code 7 = .ok (.aload_n 0, 1) := by decide +kernel
theorem d_Ref_memory_8 : decode prog_8_method_57_code 8 = .ok (.iload_n 1, 1) := by decide +kernel
theorem d_Ref_memory_9 : decode prog_8_method_57_code 9 = .ok (.invokevirtual 216, 3) := by decide +kernel
theorem d_Ref_memory_12 : decode prog_8_method_57_code 12 = .ok (.ifCond .eq 12, 3) := by decide +kernel
theorem d_Ref_memory_15 : decode prog_8_method_57_code 15 = .ok (.aload_n 0, 1) := by decide +kernel
theorem d_Ref_memory_16 : decode prog_8_method_57_code 16 = .ok (.getfield 51, 3) := by decide +kernel
theorem d_Ref_memory_19 : decode prog_8_method_57_code 19 = .ok (.iload_n 1, 1) := by decide +kernel
theorem d_Ref_memory_20 : decode prog_8_method_57_code 20 = .ok (.iaload, 1) := by decide +kernel
theorem d_Ref_memory_21 : decode prog_8_method_57_code 21 = .ok (.goto 4, 3) := by decide +kernel
theorem d_Ref_memory_24 : decode prog_8_method_57_code 24 = .ok (.iconst (-1), 1) := by decide +kernel
theorem d_Ref_memory_25 : decode prog_8_method_57_code 25 = .ok (.ireturn, 1) := by decide +kernel
theorem d_Img_init_0 : decode prog_2_method_1_code 0 = .ok (.aload_n 0, 1) := by decide +kernel
theorem d_Img_init_1 : decode prog_2_method_1_code 1 = .ok (.invokespecial 3, 3) := by decide +kernel
theorem d_Img_init_4 : decode prog_2_method_1_code 4 = .ok (.aload_n 0, 1) := by decide +kernel
theorem d_Img_init_5 : decode prog_2_method_1_code 5 = .ok (.bipush 6, 2) := by decide +kernel
theorem d_Img_init_7 : decode prog_2_method_1_code 7 = .ok (.iconst 3, 1) := by decide +kernel
theorem d_Img_init_8 : decode prog_2_method_1_code 8 = .ok (.multianewarray 9 2, 4) := by decide +kernel
theorem d_Img_init_12 : decode prog_2_method_1_code 12 = .ok (.putfield 11, 3) := by decide +kernel
theorem d_Img_init_15 : decode prog_2_method_1_code 15 = .ok (.aload_n 0, 1) := by decide +kernel
theorem d_Img_init_16 : decode prog_2_method_1_code 16 = .ok (.sipush 200, 3) := by decide +kernel
theorem d_Img_init_19 : decode prog_2_method_1_code 19 = .ok (.newarray .int, 2) := by decide +kernel
theorem d_Img_init_21 : decode prog_2_method_1_code 21 = .ok (.putfield 16, 3) := by decide +kernel
theorem d_Img_init_24 : decode prog_2_method_1_code 24 = .ok (.aload_n 0, 1) := by decide +kernel
theorem d_Img_init_25 : decode prog_2_method_1_code 25 = .ok (.iconst 3, 1) := by decide +kernel
theorem d_Img_init_26 : decode prog_2_method_1_code 26 = .ok (.newarray .int, 2) := by decide +kernel
theorem d_Img_init_28 : decode prog_2_method_1_code 28 = .ok (.putfield 20, 3) := by decide +kernel
theorem d_Img_init_31 : decode prog_2_method_1_code 31 = .ok (.aload_n 0, 1) := by decide +kernel
theorem d_Img_init_32 : decode prog_2_method_1_code 32 = .ok (.bipush 16, 2) := by decide +kernel
theorem d_Img_init_34 : decode prog_2_method_1_code 34 = .ok (.newarray .int, 2) := by decide +kernel
theorem d_Img_init_36 : decode prog_2_method_1_code 36 = .ok (.putfield 23, 3) := by decide +kernel
theorem d_Img_init_39 : decode prog_2_method_1_code 39 = .ok (.aload_n 0, 1) := by decide +kernel
theorem d_Img_init_40 : decode prog_2_method_1_code 40 = .ok (.aload_n 1, 1) := by decide +kernel
theorem d_Img_init_41 : decode prog_2_method_1_code 41 = .ok (.putfield 26, 3) := by decide +kernel
theorem d_Img_init_44 : decode prog_2_method_1_code 44 = .ok (.aload_n 0, 1) := by decide +kernel
theorem d_Img_init_45 : decode prog_2_method_1_code 45 = .ok (.aload_n 2, 1) := by decide +kernel
theorem d_Img_init_46 : decode prog_2_method_1_code 46 = .ok (.putfield 30, 3) := by decide +kernel
theorem d_Img_init_49 : decode prog_2_method_1_code 49 = .ok (.return_, 1) := by decide +kernel
theorem d_Img_throwAway_0 : decode prog_2_method_2_code 0 = .ok (.aload_n 0, 1) := by decide +kernel
theorem d_Img_throwAway_1 : decode prog_2_method_2_code 1 = .ok (.iconst 0, 1) := by decide +kernel
theorem d_Img_throwAway_2 : decode prog_2_method_2_code 2 = .ok (.putfield 34, 3) := by decide +kernel
theorem d_Img_throwAway_5 : decode prog_2_method_2_code 5 = .ok (.return_, 1) := by decide +kernel
theorem d_Img_isThere_0 : decode prog_2_method_3_code 0 = .ok (.aload_n 0, 1) := by decide +kernel
theorem d_Img_isThere_1 : decode prog_2_method_3_code 1 = .ok (.getfield 34, 3) := by decide +kernel
theorem d_Img_isThere_4 : decode prog_2_method_3_code 4 = .ok (.ireturn, 1) := by decide +kernel
theorem d_Img_build_0 : decode prog_2_method_4_code 0 = .ok (.aload_n 0, 1) := by decide +kernel
theorem d_Img_build_1 : decode prog_2_method_4_code 1 = .ok (.invokevirtual 38, 3) := by decide +kernel
theorem d_Img_build_4 : decode prog_2_method_4_code 4 = .ok (.aload_n 0, 1) := by decide +kernel
theorem d_Img_build_5 : decode prog_2_method_4_code 5 = .ok (.invokevirtual 41, 3) := by decide +kernel
theorem d_Img_build_8 : decode prog_2_method_4_code 8 = .ok (.aload_n 0, 1) := by decide +kernel
theorem d_Img_build_9 : decode prog_2_method_4_code 9 = .ok (.getfield 44, 3) := by decide +kernel
theorem d_Img_build_12 : decode prog_2_method_4_code 12 = .ok (.sipush 200, 3) := by decide +kernel
theorem d_Img_build_15 : decode prog_2_method_4_code 15 = .ok (.if_icmp .le 5, 3) := by decide +kernel
theorem d_Img_build_18 : decode prog_2_method_4_code 18 = .ok (.iconst 0, 1) := by decide +kernel
theorem d_Img_build_19 : decode prog_2_method_4_code 19 = .ok (.ireturn, 1) := by decide +kernel
theorem d_Img_build_20 : decode prog_2_method_4_code 20 = .ok (.iconst 0, 1) := by decide +kernel
theorem d_Img_build_21 : decode prog_2_method_4_code 21 = .ok (.istore_n 2, 1) := by decide +kernel
theorem d_Img_build_22 : decode prog_2_method_4_code 22 = .ok (.iload_n 2, 1) := by decide +kernel
theorem d_Img_build_23 : decode prog_2_method_4_code 23 = .ok (.aload_n 0, 1) := by decide +kernel
theorem d_Img_build_24 : decode prog_2_method_4_code 24 = .ok (.getfield 30, 3) := by decide +kernel
theorem d_Img_build_27 : decode prog_2_method_4_code 27 = .ok (.invokevirtual 48, 3) := by decide +kernel
theorem d_Img_build_30 : decode prog_2_method_4_code 30 = .ok (.if_icmp .ge 21, 3) := by decide +kernel
theorem d_Img_build_33 : decode prog_2_method_4_code 33 = .ok (.aload_n 0, 1) := by decide +kernel
theorem d_Img_build_34 : decode prog_2_method_4_code 34 = .ok (.aload_n 0, 1) := by decide +kernel
theorem d_Img_build_35 : decode prog_2_method_4_code 35 = .ok (.getfield 30, 3) := by decide +kernel
theorem d_Img_build_38 : decode prog_2_method_4_code 38 = .ok (.iload_n 2, 1) := by decide +kernel
theorem d_Img_build_39 : decode prog_2_method_4_code 39 = .ok (.invokevirtual 54, 3) := by decide +kernel
theorem d_Img_build_42 : decode prog_2_method_4_code 42 = .ok (.invokevirtual 58, 3) := by decide +kernel
theorem d_Img_build_45 : decode prog_2_method_4_code 45 = .ok (.iinc 2 1, 3) := by decide +kernel
theorem d_Img_build_48 : decode prog_2_method_4_code 48 = .ok (.goto (-26), 3) := by decide +kernel
theorem d_Img_build_51 : decode prog_2_method_4_code 51 = .ok (.aload_n 0, 1) := by decide +kernel
theorem d_Img_build_52 : decode prog_2_method_4_code 52 = .ok (.invokevirtual 62, 3) := by decide +kernel
theorem d_Img_build_55 : decode prog_2_method_4_code 55 = .ok (.iconst 0, 1) := by decide +kernel
theorem d_Img_build_56 : decode prog_2_method_4_code 56 = .ok (.istore_n 2, 1) := by decide +kernel
theorem d_Img_build_57 : decode prog_2_method_4_code 57 = .ok (.iload_n 2, 1) := by decide +kernel
theorem d_Img_build_58 : decode prog_2_method_4_code 58 = .ok (.aload_n 0, 1) := by decide +kernel
theorem d_Img_build_59 : decode prog_2_method_4_code 59 = .ok (.getfield 30, 3) := by decide +kernel
theorem d_Img_build_62 : decode prog_2_method_4_code 62 = .ok (.invokevirtual 48, 3) := by decide +kernel
theorem d_Img_build_65 : decode prog_2_method_4_code 65 = .ok (.if_icmp .ge 21, 3) := by decide +kernel
theorem d_Img_build_68 : decode prog_2_method_4_code 68 = .ok (.aload_n 0, 1) := by decide +kernel
theorem d_Img_build_69 : decode prog_2_method_4_code 69 = .ok (.aload_n 0, 1) := by decide +kernel
theorem d_Img_build_70 : decode prog_2_method_4_code 70 = .ok (.getfield 30, 3) := by decide +kernel
theorem d_Img_build_73 : decode prog_2_method_4_code 73 = .ok (.iload_n 2, 1) := by decide +kernel
theorem d_Img_build_74 : decode prog_2_method_4_code 74 = .ok (.invokevirtual 54, 3) := by decide +kernel
theorem d_Img_build_77 : decode prog_2_method_4_code 77 = .ok (.invokevirtual 65, 3) := by decide +kernel
theorem d_Img_build_80 : decode prog_2_method_4_code 80 = .ok (.iinc 2 1, 3) := by decide +kernel
theorem d_Img_build_83 : decode prog_2_method_4_code 83 = .ok (.goto (-26), 3) := by decide +kernel
theorem d_Img_build_86 : decode prog_2_method_4_code 86 = .ok (.aload_n 0, 1) := by decide +kernel
theorem d_Img_build_87 : decode prog_2_method_4_code 87 = .ok (.iload_n 1, 1) := by decide +kernel
theorem d_Img_build_88 : decode prog_2_method_4_code 88 = .ok (.iconst (-1), 1) := by decide +kernel
theorem d_Img_build_89 : decode prog_2_method_4_code 89 = .ok (.if_icmp .ne 7, 3) := by decide +kernel
theorem d_Img_build_92 : decode prog_2_method_4_code 92 = .ok (.iconst 0, 1) := by decide +kernel
theorem d_Img_build_93 : decode prog_2_method_4_code 93 = .ok (.goto 9, 3) := by decide +kernel
theorem d_Img_build_96 : decode prog_2_method_4_code 96 = .ok (.aload_n 0, 1) := by decide +kernel
theorem d_Img_build_97 : decode prog_2_method_4_code 97 = .ok (.getfield 23, 3) := by decide +kernel
theorem d_Img_build_100 : decode prog_2_method_4_code 100 = .ok (.iload_n 1, 1) := by decide +kernel
theorem d_Img_build_101 : decode prog_2_method_4_code 101 = .ok (.iaload, 1) := by decide +kernel
theorem d_Img_build_102 : decode prog_2_method_4_code 102 = .ok (.putfield 68, 3) := by decide +kernel
theorem d_Img_build_105 : decode prog_2_method_4_code 105 = .ok (.aload_n 0, 1) := by decide +kernel
theorem d_Img_build_106 : decode prog_2_method_4_code 106 = .ok (.iconst 1, 1) := by decide +kernel
theorem d_Img_build_107 : decode prog_2_method_4_code 107 = .ok (.putfield 34, 3) := by decide +kernel
theorem d_Img_build_110 : decode prog_2_method_4_code 110 = .ok (.aload_n 0, 1) := by decide +kernel
theorem d_Img_build_111 : decode prog_2_method_4_code 111 = .ok (.iconst 0, 1) := by decide +kernel
theorem d_Img_build_112 : decode prog_2_method_4_code 112 = .ok (.putfield 71, 3) := by decide +kernel
theorem d_Img_build_115 : decode prog_2_method_4_code 115 = .ok (.iconst 1, 1) := by decide +kernel
theorem d_Img_build_116 : decode prog_2_method_4_code 116 = .ok (.ireturn, 1) := by decide +kernel
theorem d_Img_howMany_0 : decode prog_2_method_5_code 0 = .ok (.aload_n 0, 1) := by decide +kernel
theorem d_Img_howMany_1 : decode prog_2_method_5_code 1 = .ok (.getfield 44, 3) := by decide +kernel
theorem d_Img_howMany_4 : decode prog_2_method_5_code 4 = .ok (.ireturn, 1) := by decide +kernel
theorem d_Img_textWords_0 : decode prog_2_method_6_code 0 = .ok (.aload_n 0, 1) := by decide +kernel
theorem d_Img_textWords_1 : decode prog_2_method_6_code 1 = .ok (.getfield 20, 3) := by decide +kernel
theorem d_Img_textWords_4 : decode prog_2_method_6_code 4 = .ok (.iconst 0, 1) := by decide +kernel
theorem d_Img_textWords_5 : decode prog_2_method_6_code 5 = .ok (.iaload, 1) := by decide +kernel
theorem d_Img_textWords_6 : decode prog_2_method_6_code 6 = .ok (.ireturn, 1) := by decide +kernel
theorem d_Img_entryAddress_0 : decode prog_2_method_7_code 0 = .ok (.aload_n 0, 1) := by decide +kernel
theorem d_Img_entryAddress_1 : decode prog_2_method_7_code 1 = .ok (.getfield 68, 3) := by decide +kernel
theorem d_Img_entryAddress_4 : decode prog_2_method_7_code 4 = .ok (.ireturn, 1) := by decide +kernel
theorem d_Img_wordsIn_0 : decode prog_2_method_8_code 0 = .ok (.aload_n 0, 1) := by decide +kernel
theorem d_Img_wordsIn_1 : decode prog_2_method_8_code 1 = .ok (.getfield 34, 3) := by decide +kernel
theorem d_Img_wordsIn_4 : decode prog_2_method_8_code 4 = .ok (.ifCond .eq 19, 3) := by decide +kernel
theorem d_Img_wordsIn_7 : decode prog_2_method_8_code 7 = .ok (.iload_n 1, 1) := by decide +kernel
theorem d_Img_wordsIn_8 : decode prog_2_method_8_code 8 = .ok (.invokestatic 74, 3) := by decide +kernel
theorem d_Img_wordsIn_11 : decode prog_2_method_8_code 11 = .ok (.ifCond .eq 12, 3) := by decide +kernel
theorem d_Img_wordsIn_14 : decode prog_2_method_8_code 14 = .ok (.aload_n 0, 1) := by decide +kernel
theorem d_Img_wordsIn_15 : decode prog_2_method_8_code 15 = .ok (.getfield 20, 3) := by decide +kernel
theorem d_Img_wordsIn_18 : decode prog_2_method_8_code 18 = .ok (.iload_n 1, 1) := by decide +kernel
theorem d_Img_wordsIn_19 : decode prog_2_method_8_code 19 = .ok (.iaload, 1) := by decide +kernel
theorem d_Img_wordsIn_20 : decode prog_2_method_8_code 20 = .ok (.goto 4, 3) := by decide +kernel
theorem d_Img_wordsIn_23 : decode prog_2_method_8_code 23 = .ok (.iconst (-1), 1) := by decide +kernel
theorem d_Img_wordsIn_24 : decode prog_2_method_8_code 24 = .ok (.ireturn, 1) := by decide +kernel
theorem d_Img_wordAt_0 : decode prog_2_method_9_code 0 = .ok (.aload_n 0, 1) := by decide +kernel
theorem d_Img_wordAt_1 : decode prog_2_method_9_code 1 = .ok (.getfield 34, 3) := by decide +kernel
theorem d_Img_wordAt_4 : decode prog_2_method_9_code 4 = .ok (.ifCond .eq 26, 3) := by decide +kernel
theorem d_Img_wordAt_7 : decode prog_2_method_9_code 7 = .ok (.iload_n 1, 1) := by decide +kernel
theorem d_Img_wordAt_8 : decode prog_2_method_9_code 8 = .ok (.iconst 0, 1) := by decide +kernel
theorem d_Img_wordAt_9 : decode prog_2_method_9_code 9 = .ok (.aload_n 0, 1) := by decide +kernel
theorem d_Img_wordAt_10 : decode prog_2_method_9_code 10 = .ok (.getfield 44, 3) := by decide +kernel
theorem d_Img_wordAt_13 : decode prog_2_method_9_code 13 = .ok (.iconst 1, 1) := by decide +kernel
theorem d_Img_wordAt_14 : decode prog_2_method_9_code 14 = .ok (.isub, 1) := by decide +kernel
theorem d_Img_wordAt_15 : decode prog_2_method_9_code 15 = .ok (.invokestatic 78, 3) := by decide +kernel
theorem d_Img_wordAt_18 : decode prog_2_method_9_code 18 = .ok (.ifCond .eq 12, 3) := by decide +kernel
theorem d_Img_wordAt_21 : decode prog_2_method_9_code 21 = .ok (.aload_n 0, 1) := by decide +kernel
theorem d_Img_wordAt_22 : decode prog_2_method_9_code 22 = .ok (.getfield 16, 3) := by decide +kernel
theorem d_Img_wordAt_25 : decode prog_2_method_9_code 25 = .ok (.iload_n 1, 1) := by decide +kernel
theorem d_Img_wordAt_26 : decode prog_2_method_9_code 26 = .ok (.iaload, 1) := by decide +kernel
theorem d_Img_wordAt_27 : decode prog_2_method_9_code 27 = .ok (.goto 4, 3) := by decide +kernel
theorem d_Img_wordAt_30 : decode prog_2_method_9_code 30 = .ok (.iconst (-1), 1) := by decide +kernel
theorem d_Img_wordAt_31 : decode prog_2_method_9_code 31 = .ok (.ireturn, 1) := by decide +kernel
theorem d_Img_valueOf_0 : decode prog_2_method_10_code 0 = .ok (.aload_n 0, 1) := by decide +kernel
theorem d_Img_valueOf_1 : decode prog_2_method_10_code 1 = .ok (.getfield 34, 3) := by decide +kernel
theorem d_Img_valueOf_4 : decode prog_2_method_10_code 4 = .ok (.ifCond .eq 26, 3) := by decide +kernel
theorem d_Img_valueOf_7 : decode prog_2_method_10_code 7 = .ok (.aload_n 0, 1) := by decide +kernel
theorem d_Img_valueOf_8 : decode prog_2_method_10_code 8 = .ok (.getfield 71, 3) := by decide +kernel
theorem d_Img_valueOf_11 : decode prog_2_method_10_code 11 = .ok (.ifCond .ne 19, 3) := by decide +kernel
theorem d_Img_valueOf_14 : decode prog_2_method_10_code 14 = .ok (.iload_n 1, 1) := by decide +kernel
theorem d_Img_valueOf_15 : decode prog_2_method_10_code 15 = .ok (.invokestatic 82, 3) := by decide +kernel
theorem d_Img_valueOf_18 : decode prog_2_method_10_code 18 = .ok (.ifCond .eq 12, 3) := by decide +kernel
theorem d_Img_valueOf_21 : decode prog_2_method_10_code 21 = .ok (.aload_n 0, 1) := by decide +kernel
theorem d_Img_valueOf_22 : decode prog_2_method_10_code 22 = .ok (.getfield 23, 3) := by decide +kernel
theorem d_Img_valueOf_25 : decode prog_2_method_10_code 25 = .ok (.iload_n 1, 1) := by decide +kernel
theorem d_Img_valueOf_26 : decode prog_2_method_10_code 26 = .ok (.iaload, 1) := by decide +kernel
theorem d_Img_valueOf_27 : decode prog_2_method_10_code 27 = .ok (.goto 4, 3) := by decide +kernel
theorem d_Img_valueOf_30 : decode prog_2_method_10_code 30 = .ok (.iconst (-1), 1) := by decide +kernel
theorem d_Img_valueOf_31 : decode prog_2_method_10_code 31 = .ok (.ireturn, 1) := by decide +kernel
theorem d_Img_dropNames_0 : decode prog_2_method_11_code 0 = .ok (.aload_n 0, 1) := by decide +kernel
theorem d_Img_dropNames_1 : decode prog_2_method_11_code 1 = .ok (.getfield 34, 3) := by decide +kernel
theorem d_Img_dropNames_4 : decode prog_2_method_11_code 4 = .ok (.ifCond .eq 10, 3) := by decide +kernel
theorem d_Img_dropNames_7 : decode prog_2_method_11_code 7 = .ok (.aload_n 0, 1) := by decide +kernel
theorem d_Img_dropNames_8 : decode prog_2_method_11_code 8 = .ok (.getfield 71, 3) := by decide +kernel
theorem d_Img_dropNames_11 : decode prog_2_method_11_code 11 = .ok (.ifCond .eq 5, 3) := by decide +kernel
theorem d_Img_dropNames_14 : decode prog_2_method_11_code 14 = .ok (.iconst 0, 1) := by decide +kernel
theorem d_Img_dropNames_15 : decode prog_2_method_11_code 15 = .ok (.ireturn, 1) := by decide +kernel
theorem d_Img_dropNames_16 : decode prog_2_method_11_code 16 = .ok (.aload_n 0, 1) := by decide +kernel
theorem d_Img_dropNames_17 : decode prog_2_method_11_code 17 = .ok (.iconst 1, 1) := by decide +kernel
theorem d_Img_dropNames_18 : decode prog_2_method_11_code 18 = .ok (.putfield 71, 3) := by decide +kernel
theorem d_Img_dropNames_21 : decode prog_2_method_11_code 21 = .ok (.iconst 1, 1) := by decide +kernel
theorem d_Img_dropNames_22 : decode prog_2_method_11_code 22 = .ok (.ireturn, 1) := by decide +kernel
theorem d_Img_layOutSections_0 : decode prog_2_method_12_code 0 = .ok (.aload_n 0, 1) := by decide +kernel
theorem d_Img_layOutSections_1 : decode prog_2_method_12_code 1 = .ok (.iconst 0, 1) := by decide +kernel
theorem d_Img_layOutSections_2 : decode prog_2_method_12_code 2 = .ok (.putfield 44, 3) := by decide +kernel
theorem d_Img_layOutSections_5 : decode prog_2_method_12_code 5 = .ok (.iconst 0, 1) := by decide +kernel
theorem d_Img_layOutSections_6 : decode prog_2_method_12_code 6 = .ok (.istore_n 1, 1) := by decide +kernel
theorem d_Img_layOutSections_7 : decode prog_2_method_12_code 7 = .ok (.iload_n 1, 1) := by decide +kernel
theorem d_Img_layOutSections_8 : decode prog_2_method_12_code 8 = .ok (.iconst 3, 1) := by decide +kernel
theorem d_Img_layOutSections_9 : decode prog_2_method_12_code 9 = .ok (.if_icmp .ge 88, 3) := by decide +kernel
theorem d_Img_layOutSections_12 : decode prog_2_method_12_code 12 = .ok (.aload_n 0, 1) := by decide +kernel
theorem d_Img_layOutSections_13 : decode prog_2_method_12_code 13 = .ok (.getfield 44, 3) := by decide +kernel
theorem d_Img_layOutSections_16 : decode prog_2_method_12_code 16 = .ok (.istore_n 2, 1) := by decide +kernel
theorem d_Img_layOutSections_17 : decode prog_2_method_12_code 17 = .ok (.iconst 0, 1) := by decide +kernel
theorem d_Img_layOutSections_18 : decode prog_2_method_12_code 18 = .ok (.istore_n 3, 1) := by decide +kernel
theorem d_Img_layOutSections_19 : decode prog_2_method_12_code 19 = .ok (.iload_n 3, 1) := by decide +kernel
theorem d_Img_layOutSections_20 : decode prog_2_method_12_code 20 = .ok (.aload_n 0, 1) := by decide +kernel
theorem d_Img_layOutSections_21 : decode prog_2_method_12_code 21 = .ok (.getfield 30, 3) := by decide +kernel
theorem d_Img_layOutSections_24 : decode prog_2_method_12_code 24 = .ok (.invokevirtual 48, 3) := by decide +kernel
theorem d_Img_layOutSections_27 : decode prog_2_method_12_code 27 = .ok (.if_icmp .ge 52, 3) := by decide +kernel
theorem d_Img_layOutSections_30 : decode prog_2_method_12_code 30 = .ok (.aload_n 0, 1) := by decide +kernel
theorem d_Img_layOutSections_31 : decode prog_2_method_12_code 31 = .ok (.getfield 30, 3) := by decide +kernel
theorem d_Img_layOutSections_34 : decode prog_2_method_12_code 34 = .ok (.iload_n 3, 1) := by decide +kernel
theorem d_Img_layOutSections_35 : decode prog_2_method_12_code 35 = .ok (.invokevirtual 54, 3) := by decide +kernel
theorem d_Img_layOutSections_38 : decode prog_2_method_12_code 38 = .ok (.istore 4, 2) := by decide +kernel
theorem d_Img_layOutSections_40 : decode prog_2_method_12_code 40 = .ok (.aload_n 0, 1) := by decide +kernel
theorem d_Img_layOutSections_41 : decode prog_2_method_12_code 41 = .ok (.getfield 11, 3) := by decide +kernel
theorem d_Img_layOutSections_44 : decode prog_2_method_12_code 44 = .ok (.iload 4, 2) := by decide +kernel
theorem d_Img_layOutSections_46 : decode prog_2_method_12_code 46 = .ok (.aaload, 1) := by decide +kernel
theorem d_Img_layOutSections_47 : decode prog_2_method_12_code 47 = .ok (.iload_n 1, 1) := by decide +kernel
theorem d_Img_layOutSections_48 : decode prog_2_method_12_code 48 = .ok (.aload_n 0, 1) := by decide +kernel
theorem d_Img_layOutSections_49 : decode prog_2_method_12_code 49 = .ok (.getfield 44, 3) := by decide +kernel
theorem d_Img_layOutSections_52 : decode prog_2_method_12_code 52 = .ok (.iastore, 1) := by decide +kernel
theorem d_Img_layOutSections_53 : decode prog_2_method_12_code 53 = .ok (.aload_n 0, 1) := by decide +kernel
theorem d_Img_layOutSections_54 : decode prog_2_method_12_code 54 = .ok (.dup, 1) := by decide +kernel
theorem d_Img_layOutSections_55 : decode prog_2_method_12_code 55 = .ok (.getfield 44, 3) := by decide +kernel
theorem d_Img_layOutSections_58 : decode prog_2_method_12_code 58 = .ok (.aload_n 0, 1) := by decide +kernel
theorem d_Img_layOutSections_59 : decode prog_2_method_12_code 59 = .ok (.getfield 26, 3) := by decide +kernel
theorem d_Img_layOutSections_62 : decode prog_2_method_12_code 62 = .ok (.iload 4, 2) := by decide +kernel
theorem d_Img_layOutSections_64 : decode prog_2_method_12_code 64 = .ok (.aaload, 1) := by decide +kernel
theorem d_Img_layOutSections_65 : decode prog_2_method_12_code 65 = .ok (.iload_n 1, 1) := by decide +kernel
theorem d_Img_layOutSections_66 : decode prog_2_method_12_code 66 = .ok (.invokevirtual 85, 3) := by decide +kernel
theorem d_Img_layOutSections_69 : decode prog_2_method_12_code 69 = .ok (.iadd, 1) := by decide +kernel
theorem d_Img_layOutSections_70 : decode prog_2_method_12_code 70 = .ok (.putfield 44, 3) := by decide +kernel
theorem d_Img_layOutSections_73 : decode prog_2_method_12_code 73 = .ok (.iinc 3 1, 3) := by decide +kernel
theorem d_Img_layOutSections_76 : decode prog_2_method_12_code 76 = .ok (.goto (-57), 3) := by decide +kernel
theorem d_Img_layOutSections_79 : decode prog_2_method_12_code 79 = .ok (.aload_n 0, 1) := by decide +kernel
theorem d_Img_layOutSections_80 : decode prog_2_method_12_code 80 = .ok (.getfield 20, 3) := by decide +kernel
theorem d_Img_layOutSections_83 : decode prog_2_method_12_code 83 = .ok (.iload_n 1, 1) := by decide +kernel
theorem d_Img_layOutSections_84 : decode prog_2_method_12_code 84 = .ok (.aload_n 0, 1) := by decide +kernel
theorem d_Img_layOutSections_85 : decode prog_2_method_12_code 85 = .ok (.getfield 44, 3) := by decide +kernel
theorem d_Img_layOutSections_88 : decode prog_2_method_12_code 88 = .ok (.iload_n 2, 1) := by decide +kernel
theorem d_Img_layOutSections_89 : decode prog_2_method_12_code 89 = .ok (.isub, 1) := by decide +kernel
theorem d_Img_layOutSections_90 : decode prog_2_method_12_code 90 = .ok (.iastore, 1) := by decide +kernel
theorem d_Img_layOutSections_91 : decode prog_2_method_12_code 91 = .ok (.iinc 1 1, 3) := by decide +kernel
theorem d_Img_layOutSections_94 : decode prog_2_method_12_code 94 = .ok (.goto (-87), 3) := by decide +kernel
theorem d_Img_layOutSections_97 : decode prog_2_method_12_code 97 = .ok (.return_, 1) := by decide +kernel
theorem d_Img_layOutCommons_0 : decode prog_2_method_13_code 0 = .ok (.iconst 0, 1) := by decide +kernel
theorem d_Img_layOutCommons_1 : decode prog_2_method_13_code 1 = .ok (.istore_n 1, 1) := by decide +kernel
theorem d_Img_layOutCommons_2 : decode prog_2_method_13_code 2 = .ok (.iload_n 1, 1) := by decide +kernel
theorem d_Img_layOutCommons_3 : decode prog_2_method_13_code 3 = .ok (.bipush 16, 2) := by decide +kernel
theorem d_Img_layOutCommons_5 : decode prog_2_method_13_code 5 = .ok (.if_icmp .ge 63, 3) := by decide +kernel
theorem d_Img_layOutCommons_8 : decode prog_2_method_13_code 8 = .ok (.aload_n 0, 1) := by decide +kernel
theorem d_Img_layOutCommons_9 : decode prog_2_method_13_code 9 = .ok (.getfield 23, 3) := by decide +kernel
theorem d_Img_layOutCommons_12 : decode prog_2_method_13_code 12 = .ok (.iload_n 1, 1) := by decide +kernel
theorem d_Img_layOutCommons_13 : decode prog_2_method_13_code 13 = .ok (.iconst (-1), 1) := by decide +kernel
theorem d_Img_layOutCommons_14 : decode prog_2_method_13_code 14 = .ok (.iastore, 1) := by decide +kernel
theorem d_Img_layOutCommons_15 : decode prog_2_method_13_code 15 = .ok (.aload_n 0, 1) := by decide +kernel
theorem d_Img_layOutCommons_16 : decode prog_2_method_13_code 16 = .ok (.getfield 30, 3) := by decide +kernel
theorem d_Img_layOutCommons_19 : decode prog_2_method_13_code 19 = .ok (.iload_n 1, 1) := by decide +kernel
theorem d_Img_layOutCommons_20 : decode prog_2_method_13_code 20 = .ok (.invokevirtual 90, 3) := by decide +kernel
theorem d_Img_layOutCommons_23 : decode prog_2_method_13_code 23 = .ok (.ifCond .eq 39, 3) := by decide +kernel
theorem d_Img_layOutCommons_26 : decode prog_2_method_13_code 26 = .ok (.aload_n 0, 1) := by decide +kernel
theorem d_Img_layOutCommons_27 : decode prog_2_method_13_code 27 = .ok (.iload_n 1, 1) := by decide +kernel
theorem d_Img_layOutCommons_28 : decode prog_2_method_13_code 28 = .ok (.invokevirtual 93, 3) := by decide +kernel
theorem d_Img_layOutCommons_31 : decode prog_2_method_13_code 31 = .ok (.istore_n 2, 1) := by decide +kernel
theorem d_Img_layOutCommons_32 : decode prog_2_method_13_code 32 = .ok (.aload_n 0, 1) := by decide +kernel
theorem d_Img_layOutCommons_33 : decode prog_2_method_13_code 33 = .ok (.getfield 23, 3) := by decide +kernel
theorem d_Img_layOutCommons_36 : decode prog_2_method_13_code 36 = .ok (.iload_n 1, 1) := by decide +kernel
theorem d_Img_layOutCommons_37 : decode prog_2_method_13_code 37 = .ok (.aload_n 0, 1) := by decide +kernel
theorem d_Img_layOutCommons_38 : decode prog_2_method_13_code 38 = .ok (.getfield 44, 3) := by decide +kernel
theorem d_Img_layOutCommons_41 : decode prog_2_method_13_code 41 = .ok (.iastore, 1) := by decide +kernel
theorem d_Img_layOutCommons_42 : decode prog_2_method_13_code 42 = .ok (.aload_n 0, 1) := by decide +kernel
theorem d_Img_layOutCommons_43 : decode prog_2_method_13_code 43 = .ok (.dup, 1) := by decide +kernel
theorem d_Img_layOutCommons_44 : decode prog_2_method_13_code 44 = .ok (.getfield 44, 3) := by decide +kernel
theorem d_Img_layOutCommons_47 : decode prog_2_method_13_code 47 = .ok (.iload_n 2, 1) := by decide +kernel
theorem d_Img_layOutCommons_48 : decode prog_2_method_13_code 48 = .ok (.iadd, 1) := by decide +kernel
theorem d_Img_layOutCommons_49 : decode prog_2_method_13_code 49 = .ok (.putfield 44, 3) := by decide +kernel
theorem d_Img_layOutCommons_52 : decode prog_2_method_13_code 52 = .ok (.aload_n 0, 1) := by decide +kernel
theorem d_Img_layOutCommons_53 : decode prog_2_method_13_code 53 = .ok (.getfield 20, 3) := by decide +kernel
theorem d_Img_layOutCommons_56 : decode prog_2_method_13_code 56 = .ok (.iconst 2, 1) := by decide +kernel
theorem d_Img_layOutCommons_57 : decode prog_2_method_13_code 57 = .ok (.dup2, 1) := by decide +kernel
theorem d_Img_layOutCommons_58 : decode prog_2_method_13_code 58 = .ok (.iaload, 1) := by decide +kernel
theorem d_Img_layOutCommons_59 : decode prog_2_method_13_code 59 = .ok (.iload_n 2, 1) := by decide +kernel
theorem d_Img_layOutCommons_60 : decode prog_2_method_13_code 60 = .ok (.iadd, 1) := by decide +kernel
theorem d_Img_layOutCommons_61 : decode prog_2_method_13_code 61 = .ok (.iastore, 1) := by decide +kernel
theorem d_Img_layOutCommons_62 : decode prog_2_method_13_code 62 = .ok (.iinc 1 1, 3) := by decide +kernel
theorem d_Img_layOutCommons_65 : decode prog_2_method_13_code 65 = .ok (.goto (-63), 3) := by decide +kernel
theorem d_Img_layOutCommons_68 : decode prog_2_method_13_code 68 = .ok (.return_, 1) := by decide +kernel
theorem d_Img_largestCommon_0 : decode prog_2_method_14_code 0 = .ok (.iconst 0, 1) := by decide +kernel
theorem d_Img_largestCommon_1 : decode prog_2_method_14_code 1 = .ok (.istore_n 2, 1) := by decide +kernel
theorem d_Img_largestCommon_2 : decode prog_2_method_14_code 2 = .ok (.iconst 0, 1) := by decide +kernel
theorem d_Img_largestCommon_3 : decode prog_2_method_14_code 3 = .ok (.istore_n 3, 1) := by decide +kernel
theorem d_Img_largestCommon_4 : decode prog_2_method_14_code 4 = .ok (.iload_n 3, 1) := by decide +kernel
theorem d_Img_largestCommon_5 : decode prog_2_method_14_code 5 = .ok (.aload_n 0, 1) := by decide +kernel
theorem d_Img_largestCommon_6 : decode prog_2_method_14_code 6 = .ok (.getfield 30, 3) := by decide +kernel
theorem d_Img_largestCommon_9 : decode prog_2_method_14_code 9 = .ok (.invokevirtual 48, 3) := by decide +kernel
theorem d_Img_largestCommon_12 : decode prog_2_method_14_code 12 = .ok (.if_icmp .ge 35, 3) := by decide +kernel
theorem d_Img_largestCommon_15 : decode prog_2_method_14_code 15 = .ok (.aload_n 0, 1) := by decide +kernel
theorem d_Img_largestCommon_16 : decode prog_2_method_14_code 16 = .ok (.getfield 26, 3) := by decide +kernel
theorem d_Img_largestCommon_19 : decode prog_2_method_14_code 19 = .ok (.aload_n 0, 1) := by decide +kernel
theorem d_Img_largestCommon_20 : decode prog_2_method_14_code 20 = .ok (.getfield 30, 3) := by decide +kernel
theorem d_Img_largestCommon_23 : decode prog_2_method_14_code 23 = .ok (.iload_n 3, 1) := by decide +kernel
theorem d_Img_largestCommon_24 : decode prog_2_method_14_code 24 = .ok (.invokevirtual 54, 3) := by decide +kernel
theorem d_Img_largestCommon_27 : decode prog_2_method_14_code 27 = .ok (.aaload, 1) := by decide +kernel
theorem d_Img_largestCommon_28 : decode prog_2_method_14_code 28 = .ok (.iload_n 1, 1) := by decide +kernel
theorem d_Img_largestCommon_29 : decode prog_2_method_14_code 29 = .ok (.invokevirtual 96, 3) := by decide +kernel
theorem d_Img_largestCommon_32 : decode prog_2_method_14_code 32 = .ok (.istore 4, 2) := by decide +kernel
theorem d_Img_largestCommon_34 : decode prog_2_method_14_code 34 = .ok (.iload_n 2, 1) := by decide +kernel
theorem d_Img_largestCommon_35 : decode prog_2_method_14_code 35 = .ok (.iload 4, 2) := by decide +kernel
theorem d_Img_largestCommon_37 : decode prog_2_method_14_code 37 = .ok (.invokestatic 99, 3) := by decide +kernel
theorem d_Img_largestCommon_40 : decode prog_2_method_14_code 40 = .ok (.istore_n 2, 1) := by decide +kernel
theorem d_Img_largestCommon_41 : decode prog_2_method_14_code 41 = .ok (.iinc 3 1, 3) := by decide +kernel
theorem d_Img_largestCommon_44 : decode prog_2_method_14_code 44 = .ok (.goto (-40), 3) := by decide +kernel
theorem d_Img_largestCommon_47 : decode prog_2_method_14_code 47 = .ok (.iload_n 2, 1) := by decide +kernel
theorem d_Img_largestCommon_48 : decode prog_2_method_14_code 48 = .ok (.ireturn, 1) := by decide +kernel
theorem d_Img_noteExports_0 : decode prog_2_method_15_code 0 = .ok (.aload_n 0, 1) := by decide +kernel
theorem d_Img_noteExports_1 : decode prog_2_method_15_code 1 = .ok (.getfield 26, 3) := by decide +kernel
theorem d_Img_noteExports_4 : decode prog_2_method_15_code 4 = .ok (.iload_n 1, 1) := by decide +kernel
theorem d_Img_noteExports_5 : decode prog_2_method_15_code 5 = .ok (.aaload, 1) := by decide +kernel
theorem d_Img_noteExports_6 : decode prog_2_method_15_code 6 = .ok (.invokevirtual 105, 3) := by decide +kernel
theorem d_Img_noteExports_9 : decode prog_2_method_15_code 9 = .ok (.istore_n 2, 1) := by decide +kernel
theorem d_Img_noteExports_10 : decode prog_2_method_15_code 10 = .ok (.iconst 0, 1) := by decide +kernel
theorem d_Img_noteExports_11 : decode prog_2_method_15_code 11 = .ok (.istore_n 3, 1) := by decide +kernel
theorem d_Img_noteExports_12 : decode prog_2_method_15_code 12 = .ok (.iload_n 3, 1) := by decide +kernel
theorem d_Img_noteExports_13 : decode prog_2_method_15_code 13 = .ok (.bipush 16, 2) := by decide +kernel
theorem d_Img_noteExports_15 : decode prog_2_method_15_code 15 = .ok (.if_icmp .ge 29, 3) := by decide +kernel
theorem d_Img_noteExports_18 : decode prog_2_method_15_code 18 = .ok (.iload_n 2, 1) := by decide +kernel
theorem d_Img_noteExports_19 : decode prog_2_method_15_code 19 = .ok (.iload_n 3, 1) := by decide +kernel
theorem d_Img_noteExports_20 : decode prog_2_method_15_code 20 = .ok (.invokestatic 108, 3) := by decide +kernel
theorem d_Img_noteExports_23 : decode prog_2_method_15_code 23 = .ok (.ifCond .eq 15, 3) := by decide +kernel
theorem d_Img_noteExports_26 : decode prog_2_method_15_code 26 = .ok (.aload_n 0, 1) := by decide +kernel
theorem d_Img_noteExports_27 : decode prog_2_method_15_code 27 = .ok (.getfield 23, 3) := by decide +kernel
theorem d_Img_noteExports_30 : decode prog_2_method_15_code 30 = .ok (.iload_n 3, 1) := by decide +kernel
theorem d_Img_noteExports_31 : decode prog_2_method_15_code 31 = .ok (.aload_n 0, 1) := by decide +kernel
theorem d_Img_noteExports_32 : decode prog_2_method_15_code 32 = .ok (.iload_n 1, 1) := by decide +kernel
theorem d_Img_noteExports_33 : decode prog_2_method_15_code 33 = .ok (.iload_n 3, 1) := by decide +kernel
theorem d_Img_noteExports_34 : decode prog_2_method_15_code 34 = .ok (.invokevirtual 112, 3) := by decide +kernel
theorem d_Img_noteExports_37 : decode prog_2_method_15_code 37 = .ok (.iastore, 1) := by decide +kernel
theorem d_Img_noteExports_38 : decode prog_2_method_15_code 38 = .ok (.iinc 3 1, 3) := by decide +kernel
theorem d_Img_noteExports_41 : decode prog_2_method_15_code 41 = .ok (.goto (-29), 3) := by decide +kernel
theorem d_Img_noteExports_44 : decode prog_2_method_15_code 44 = .ok (.return_, 1) := by decide +kernel
theorem d_Img_standsFor_0 : decode prog_2_method_16_code 0 = .ok (.aload_n 0, 1) := by decide +kernel
theorem d_Img_standsFor_1 : decode prog_2_method_16_code 1 = .ok (.getfield 26, 3) := by decide +kernel
theorem d_Img_standsFor_4 : decode prog_2_method_16_code 4 = .ok (.iload_n 1, 1) := by decide +kernel
theorem d_Img_standsFor_5 : decode prog_2_method_16_code 5 = .ok (.aaload, 1) := by decide +kernel
theorem d_Img_standsFor_6 : decode prog_2_method_16_code 6 = .ok (.astore_n 3, 1) := by decide +kernel
theorem d_Img_standsFor_7 : decode prog_2_method_16_code 7 = .ok (.aload_n 3, 1) := by decide +kernel
theorem d_Img_standsFor_8 : decode prog_2_method_16_code 8 = .ok (.iload_n 2, 1) := by decide +kernel
theorem d_Img_standsFor_9 : decode prog_2_method_16_code 9 = .ok (.invokevirtual 115, 3) := by decide +kernel
theorem d_Img_standsFor_12 : decode prog_2_method_16_code 12 = .ok (.ifCond .ne 10, 3) := by decide +kernel
theorem d_Img_standsFor_15 : decode prog_2_method_16_code 15 = .ok (.aload_n 0, 1) := by decide +kernel
theorem d_Img_standsFor_16 : decode prog_2_method_16_code 16 = .ok (.getfield 23, 3) := by decide +kernel
theorem d_Img_standsFor_19 : decode prog_2_method_16_code 19 = .ok (.iload_n 2, 1) := by decide +kernel
theorem d_Img_standsFor_20 : decode prog_2_method_16_code 20 = .ok (.iaload, 1) := by decide +kernel
theorem d_Img_standsFor_21 : decode prog_2_method_16_code 21 = .ok (.ireturn, 1) := by decide +kernel
theorem d_Img_standsFor_22 : decode prog_2_method_16_code 22 = .ok (.aload_n 3, 1) := by decide +kernel
theorem d_Img_standsFor_23 : decode prog_2_method_16_code 23 = .ok (.iload_n 2, 1) := by decide +kernel
theorem d_Img_standsFor_24 : decode prog_2_method_16_code 24 = .ok (.invokevirtual 118, 3) := by decide +kernel
theorem d_Img_standsFor_27 : decode prog_2_method_16_code 27 = .ok (.istore 4, 2) := by decide +kernel
theorem d_Img_standsFor_29 : decode prog_2_method_16_code 29 = .ok (.aload_n 3, 1) := by decide +kernel
theorem d_Img_standsFor_30 : decode prog_2_method_16_code 30 = .ok (.iload 4, 2) := by decide +kernel
theorem d_Img_standsFor_32 : decode prog_2_method_16_code 32 = .ok (.invokevirtual 121, 3) := by decide +kernel
theorem d_Img_standsFor_35 : decode prog_2_method_16_code 35 = .ok (.bipush 8, 2) := by decide +kernel
theorem d_Img_standsFor_37 : decode prog_2_method_16_code 37 = .ok (.if_icmp .ne 10, 3) := by decide +kernel
theorem d_Img_standsFor_40 : decode prog_2_method_16_code 40 = .ok (.aload_n 3, 1) := by decide +kernel
theorem d_Img_standsFor_41 : decode prog_2_method_16_code 41 = .ok (.iload 4, 2) := by decide +kernel
theorem d_Img_standsFor_43 : decode prog_2_method_16_code 43 = .ok (.invokevirtual 124, 3) := by decide +kernel
theorem d_Img_standsFor_46 : decode prog_2_method_16_code 46 = .ok (.ireturn, 1) := by decide +kernel
theorem d_Img_standsFor_47 : decode prog_2_method_16_code 47 = .ok (.aload_n 0, 1) := by decide +kernel
theorem d_Img_standsFor_48 : decode prog_2_method_16_code 48 = .ok (.iload_n 1, 1) := by decide +kernel
theorem d_Img_standsFor_49 : decode prog_2_method_16_code 49 = .ok (.iload 4, 2) := by decide +kernel
theorem d_Img_standsFor_51 : decode prog_2_method_16_code 51 = .ok (.invokevirtual 127, 3) := by decide +kernel
theorem d_Img_standsFor_54 : decode prog_2_method_16_code 54 = .ok (.ireturn, 1) := by decide +kernel
theorem d_Img_addressOf_0 : decode prog_2_method_17_code 0 = .ok (.aload_n 0, 1) := by decide +kernel
theorem d_Img_addressOf_1 : decode prog_2_method_17_code 1 = .ok (.getfield 26, 3) := by decide +kernel
theorem d_Img_addressOf_4 : decode prog_2_method_17_code 4 = .ok (.iload_n 1, 1) := by decide +kernel
theorem d_Img_addressOf_5 : decode prog_2_method_17_code 5 = .ok (.aaload, 1) := by decide +kernel
theorem d_Img_addressOf_6 : decode prog_2_method_17_code 6 = .ok (.astore_n 3, 1) := by decide +kernel
theorem d_Img_addressOf_7 : decode prog_2_method_17_code 7 = .ok (.aload_n 0, 1) := by decide +kernel
theorem d_Img_addressOf_8 : decode prog_2_method_17_code 8 = .ok (.getfield 11, 3) := by decide +kernel
theorem d_Img_addressOf_11 : decode prog_2_method_17_code 11 = .ok (.iload_n 1, 1) := by decide +kernel
theorem d_Img_addressOf_12 : decode prog_2_method_17_code 12 = .ok (.aaload, 1) := by decide +kernel
theorem d_Img_addressOf_13 : decode prog_2_method_17_code 13 = .ok (.aload_n 3, 1) := by decide +kernel
theorem d_Img_addressOf_14 : decode prog_2_method_17_code 14 = .ok (.iload_n 2, 1) := by decide +kernel
theorem d_Img_addressOf_15 : decode prog_2_method_17_code 15 = .ok (.invokevirtual 130, 3) := by decide +kernel
theorem d_Img_addressOf_18 : decode prog_2_method_17_code 18 = .ok (.iaload, 1) := by decide +kernel
theorem d_Img_addressOf_19 : decode prog_2_method_17_code 19 = .ok (.aload_n 3, 1) := by decide +kernel
theorem d_Img_addressOf_20 : decode prog_2_method_17_code 20 = .ok (.iload_n 2, 1) := by decide +kernel
theorem d_Img_addressOf_21 : decode prog_2_method_17_code 21 = .ok (.invokevirtual 133, 3) := by decide +kernel
theorem d_Img_addressOf_24 : decode prog_2_method_17_code 24 = .ok (.iadd, 1) := by decide +kernel
theorem d_Img_addressOf_25 : decode prog_2_method_17_code 25 = .ok (.ireturn, 1) := by decide +kernel
theorem d_Img_makeWordsZero_0 : decode prog_2_method_18_code 0 = .ok (.iconst 0, 1) := by decide +kernel
theorem d_Img_makeWordsZero_1 : decode prog_2_method_18_code 1 = .ok (.istore_n 1, 1) := by decide +kernel
theorem d_Img_makeWordsZero_2 : decode prog_2_method_18_code 2 = .ok (.iload_n 1, 1) := by decide +kernel
theorem d_Img_makeWordsZero_3 : decode prog_2_method_18_code 3 = .ok (.sipush 200, 3) := by decide +kernel
theorem d_Img_makeWordsZero_6 : decode prog_2_method_18_code 6 = .ok (.if_icmp .ge 16, 3) := by decide +kernel
theorem d_Img_makeWordsZero_9 : decode prog_2_method_18_code 9 = .ok (.aload_n 0, 1) := by decide +kernel
theorem d_Img_makeWordsZero_10 : decode prog_2_method_18_code 10 = .ok (.getfield 16, 3) := by decide +kernel
theorem d_Img_makeWordsZero_13 : decode prog_2_method_18_code 13 = .ok (.iload_n 1, 1) := by decide +kernel
theorem d_Img_makeWordsZero_14 : decode prog_2_method_18_code 14 = .ok (.iconst 0, 1) := by decide +kernel
theorem d_Img_makeWordsZero_15 : decode prog_2_method_18_code 15 = .ok (.iastore, 1) := by decide +kernel
theorem d_Img_makeWordsZero_16 : decode prog_2_method_18_code 16 = .ok (.iinc 1 1, 3) := by decide +kernel
theorem d_Img_makeWordsZero_19 : decode prog_2_method_18_code 19 = .ok (.goto (-17), 3) := by decide +kernel
theorem d_Img_makeWordsZero_22 : decode prog_2_method_18_code 22 = .ok (.return_, 1) := by decide +kernel
theorem d_Img_writeModule_0 : decode prog_2_method_19_code 0 = .ok (.aload_n 0, 1) := by decide +kernel
theorem d_Img_writeModule_1 : decode prog_2_method_19_code 1 = .ok (.getfield 26, 3) := by decide +kernel
theorem d_Img_writeModule_4 : decode prog_2_method_19_code 4 = .ok (.iload_n 1, 1) := by decide +kernel
theorem d_Img_writeModule_5 : decode prog_2_method_19_code 5 = .ok (.aaload, 1) := by decide +kernel
theorem d_Img_writeModule_6 : decode prog_2_method_19_code 6 = .ok (.astore_n 2, 1) := by decide +kernel
theorem d_Img_writeModule_7 : decode prog_2_method_19_code 7 = .ok (.iconst 0, 1) := by decide +kernel
theorem d_Img_writeModule_8 : decode prog_2_method_19_code 8 = .ok (.istore_n 3, 1) := by decide +kernel
theorem d_Img_writeModule_9 : decode prog_2_method_19_code 9 = .ok (.iload_n 3, 1) := by decide +kernel
theorem d_Img_writeModule_10 : decode prog_2_method_19_code 10 = .ok (.aload_n 2, 1) := by decide +kernel
theorem d_Img_writeModule_11 : decode prog_2_method_19_code 11 = .ok (.invokevirtual 136, 3) := by decide +kernel
theorem d_Img_writeModule_14 : decode prog_2_method_19_code 14 = .ok (.if_icmp .ge 99, 3) := by decide +kernel
theorem d_Img_writeModule_17 : decode prog_2_method_19_code 17 = .ok (.aload_n 0, 1) := by decide +kernel
theorem d_Img_writeModule_18 : decode prog_2_method_19_code 18 = .ok (.iload_n 1, 1) := by decide +kernel
theorem d_Img_writeModule_19 : decode prog_2_method_19_code 19 = .ok (.iload_n 3, 1) := by decide +kernel
theorem d_Img_writeModule_20 : decode prog_2_method_19_code 20 = .ok (.invokevirtual 127, 3) := by decide +kernel
theorem d_Img_writeModule_23 : decode prog_2_method_19_code 23 = .ok (.istore 4, 2) := by decide +kernel
theorem d_Img_writeModule_25 : decode prog_2_method_19_code 25 = .ok (.aload_n 2, 1) := by decide +kernel
theorem d_Img_writeModule_26 : decode prog_2_method_19_code 26 = .ok (.iload_n 3, 1) := by decide +kernel
theorem d_Img_writeModule_27 : decode prog_2_method_19_code 27 = .ok (.invokevirtual 121, 3) := by decide +kernel
theorem d_Img_writeModule_30 : decode prog_2_method_19_code 30 = .ok (.istore 5, 2) := by decide +kernel
theorem d_Img_writeModule_32 : decode prog_2_method_19_code 32 = .ok (.iload 5, 2) := by decide +kernel
theorem d_Img_writeModule_34 : decode prog_2_method_19_code 34 = .ok (.iconst 3, 1) := by decide +kernel
theorem d_Img_writeModule_35 : decode prog_2_method_19_code 35 = .ok (.if_icmp .ne 18, 3) := by decide +kernel
theorem d_Img_writeModule_38 : decode prog_2_method_19_code 38 = .ok (.aload_n 0, 1) := by decide +kernel
theorem d_Img_writeModule_39 : decode prog_2_method_19_code 39 = .ok (.getfield 16, 3) := by decide +kernel
theorem d_Img_writeModule_42 : decode prog_2_method_19_code 42 = .ok (.iload 4, 2) := by decide +kernel
theorem d_Img_writeModule_44 : decode prog_2_method_19_code 44 = .ok (.aload_n 2, 1) := by decide +kernel
theorem d_Img_writeModule_45 : decode prog_2_method_19_code 45 = .ok (.iload_n 3, 1) := by decide +kernel
theorem d_Img_writeModule_46 : decode prog_2_method_19_code 46 = .ok (.invokevirtual 137, 3) := by decide +kernel
theorem d_Img_writeModule_49 : decode prog_2_method_19_code 49 = .ok (.iastore, 1) := by decide +kernel
theorem d_Img_writeModule_50 : decode prog_2_method_19_code 50 = .ok (.goto 57, 3) := by decide +kernel
theorem d_Img_writeModule_53 : decode prog_2_method_19_code 53 = .ok (.iload 5, 2) := by decide +kernel
theorem d_Img_writeModule_55 : decode prog_2_method_19_code 55 = .ok (.iconst 4, 1) := by decide +kernel
theorem d_Img_writeModule_56 : decode prog_2_method_19_code 56 = .ok (.if_icmp .ne 36, 3) := by decide +kernel
theorem d_Img_writeModule_59 : decode prog_2_method_19_code 59 = .ok (.aload_n 0, 1) := by decide +kernel
theorem d_Img_writeModule_60 : decode prog_2_method_19_code 60 = .ok (.iload_n 1, 1) := by decide +kernel
theorem d_Img_writeModule_61 : decode prog_2_method_19_code 61 = .ok (.aload_n 2, 1) := by decide +kernel
theorem d_Img_writeModule_62 : decode prog_2_method_19_code 62 = .ok (.iload_n 3, 1) := by decide +kernel
theorem d_Img_writeModule_63 : decode prog_2_method_19_code 63 = .ok (.invokevirtual 137, 3) := by decide +kernel
theorem d_Img_writeModule_66 : decode prog_2_method_19_code 66 = .ok (.invokevirtual 112, 3) := by decide +kernel
theorem d_Img_writeModule_69 : decode prog_2_method_19_code 69 = .ok (.istore 6, 2) := by decide +kernel
theorem d_Img_writeModule_71 : decode prog_2_method_19_code 71 = .ok (.aload_n 0, 1) := by decide +kernel
theorem d_Img_writeModule_72 : decode prog_2_method_19_code 72 = .ok (.getfield 16, 3) := by decide +kernel
theorem d_Img_writeModule_75 : decode prog_2_method_19_code 75 = .ok (.iload 4, 2) := by decide +kernel
theorem d_Img_writeModule_77 : decode prog_2_method_19_code 77 = .ok (.iload 6, 2) := by decide +kernel
theorem d_Img_writeModule_79 : decode prog_2_method_19_code 79 = .ok (.aload_n 2, 1) := by decide +kernel
theorem d_Img_writeModule_80 : decode prog_2_method_19_code 80 = .ok (.iload_n 3, 1) := by decide +kernel
theorem d_Img_writeModule_81 : decode prog_2_method_19_code 81 = .ok (.invokevirtual 124, 3) := by decide +kernel
theorem d_Img_writeModule_84 : decode prog_2_method_19_code 84 = .ok (.iadd, 1) := by decide +kernel
theorem d_Img_writeModule_85 : decode prog_2_method_19_code 85 = .ok (.invokestatic 140, 3) := by decide +kernel
theorem d_Img_writeModule_88 : decode prog_2_method_19_code 88 = .ok (.iastore, 1) := by decide +kernel
theorem d_Img_writeModule_89 : decode prog_2_method_19_code 89 = .ok (.goto 18, 3) := by decide +kernel
theorem d_Img_writeModule_92 : decode prog_2_method_19_code 92 = .ok (.iload 5, 2) := by decide +kernel
theorem d_Img_writeModule_94 : decode prog_2_method_19_code 94 = .ok (.bipush 6, 2) := by decide +kernel
theorem d_Img_writeModule_96 : decode prog_2_method_19_code 96 = .ok (.if_icmp .ne 11, 3) := by decide +kernel
theorem d_Img_writeModule_99 : decode prog_2_method_19_code 99 = .ok (.aload_n 0, 1) := by decide +kernel
theorem d_Img_writeModule_100 : decode prog_2_method_19_code 100 = .ok (.iload_n 1, 1) := by decide +kernel
theorem d_Img_writeModule_101 : decode prog_2_method_19_code 101 = .ok (.iload_n 3, 1) := by decide +kernel
theorem d_Img_writeModule_102 : decode prog_2_method_19_code 102 = .ok (.iload 4, 2) := by decide +kernel
theorem d_Img_writeModule_104 : decode prog_2_method_19_code 104 = .ok (.invokevirtual 143, 3) := by decide +kernel
theorem d_Img_writeModule_107 : decode prog_2_method_19_code 107 = .ok (.iinc 3 1, 3) := by decide +kernel
theorem d_Img_writeModule_110 : decode prog_2_method_19_code 110 = .ok (.goto (-101), 3) := by decide +kernel
theorem d_Img_writeModule_113 : decode prog_2_method_19_code 113 = .ok (.return_, 1) := by decide +kernel
theorem d_Img_writeJump_0 : decode prog_2_method_20_code 0 = .ok (.aload_n 0, 1) := by decide +kernel
theorem d_Img_writeJump_1 : decode prog_2_method_20_code 1 = .ok (.getfield 26, 3) := by decide +kernel
theorem d_Img_writeJump_4 : decode prog_2_method_20_code 4 = .ok (.iload_n 1, 1) := by decide +kernel
theorem d_Img_writeJump_5 : decode prog_2_method_20_code 5 = .ok (.aaload, 1) := by decide +kernel
theorem d_Img_writeJump_6 : decode prog_2_method_20_code 6 = .ok (.astore 4, 2) := by decide +kernel
theorem d_Img_writeJump_8 : decode prog_2_method_20_code 8 = .ok (.sipush 256, 3) := by decide +kernel
theorem d_Img_writeJump_11 : decode prog_2_method_20_code 11 = .ok (.aload 4, 2) := by decide +kernel
theorem d_Img_writeJump_13 : decode prog_2_method_20_code 13 = .ok (.iload_n 2, 1) := by decide +kernel
theorem d_Img_writeJump_14 : decode prog_2_method_20_code 14 = .ok (.invokevirtual 124, 3) := by decide +kernel
theorem d_Img_writeJump_17 : decode prog_2_method_20_code 17 = .ok (.imul, 1) := by decide +kernel
theorem d_Img_writeJump_18 : decode prog_2_method_20_code 18 = .ok (.istore 5, 2) := by decide +kernel
theorem d_Img_writeJump_20 : decode prog_2_method_20_code 20 = .ok (.aload 4, 2) := by decide +kernel
theorem d_Img_writeJump_22 : decode prog_2_method_20_code 22 = .ok (.iload_n 2, 1) := by decide +kernel
theorem d_Img_writeJump_23 : decode prog_2_method_20_code 23 = .ok (.invokevirtual 147, 3) := by decide +kernel
theorem d_Img_writeJump_26 : decode prog_2_method_20_code 26 = .ok (.ifCond .eq 36, 3) := by decide +kernel
theorem d_Img_writeJump_29 : decode prog_2_method_20_code 29 = .ok (.aload_n 0, 1) := by decide +kernel
theorem d_Img_writeJump_30 : decode prog_2_method_20_code 30 = .ok (.getfield 16, 3) := by decide +kernel
theorem d_Img_writeJump_33 : decode prog_2_method_20_code 33 = .ok (.iload_n 3, 1) := by decide +kernel
theorem d_Img_writeJump_34 : decode prog_2_method_20_code 34 = .ok (.ldc 150, 2) := by decide +kernel
theorem d_Img_writeJump_36 : decode prog_2_method_20_code 36 = .ok (.iload 5, 2) := by decide +kernel
theorem d_Img_writeJump_38 : decode prog_2_method_20_code 38 = .ok (.iadd, 1) := by decide +kernel
theorem d_Img_writeJump_39 : decode prog_2_method_20_code 39 = .ok (.iastore, 1) := by decide +kernel
theorem d_Img_writeJump_40 : decode prog_2_method_20_code 40 = .ok (.aload_n 0, 1) := by decide +kernel
theorem d_Img_writeJump_41 : decode prog_2_method_20_code 41 = .ok (.getfield 16, 3) := by decide +kernel
theorem d_Img_writeJump_44 : decode prog_2_method_20_code 44 = .ok (.iload_n 3, 1) := by decide +kernel
theorem d_Img_writeJump_45 : decode prog_2_method_20_code 45 = .ok (.iconst 1, 1) := by decide +kernel
theorem d_Img_writeJump_46 : decode prog_2_method_20_code 46 = .ok (.iadd, 1) := by decide +kernel
theorem d_Img_writeJump_47 : decode prog_2_method_20_code 47 = .ok (.aload_n 0, 1) := by decide +kernel
theorem d_Img_writeJump_48 : decode prog_2_method_20_code 48 = .ok (.iload_n 1, 1) := by decide +kernel
theorem d_Img_writeJump_49 : decode prog_2_method_20_code 49 = .ok (.aload 4, 2) := by decide +kernel
theorem d_Img_writeJump_51 : decode prog_2_method_20_code 51 = .ok (.iload_n 2, 1) := by decide +kernel
theorem d_Img_writeJump_52 : decode prog_2_method_20_code 52 = .ok (.invokevirtual 137, 3) := by decide +kernel
theorem d_Img_writeJump_55 : decode prog_2_method_20_code 55 = .ok (.invokevirtual 112, 3) := by decide +kernel
theorem d_Img_writeJump_58 : decode prog_2_method_20_code 58 = .ok (.iastore, 1) := by decide +kernel
theorem d_Img_writeJump_59 : decode prog_2_method_20_code 59 = .ok (.goto 25, 3) := by decide +kernel
theorem d_Img_writeJump_62 : decode prog_2_method_20_code 62 = .ok (.aload_n 0, 1) := by decide +kernel
theorem d_Img_writeJump_63 : decode prog_2_method_20_code 63 = .ok (.getfield 16, 3) := by decide +kernel
theorem d_Img_writeJump_66 : decode prog_2_method_20_code 66 = .ok (.iload_n 3, 1) := by decide +kernel
theorem d_Img_writeJump_67 : decode prog_2_method_20_code 67 = .ok (.ldc 151, 2) := by decide +kernel
theorem d_Img_writeJump_69 : decode prog_2_method_20_code 69 = .ok (.iload 5, 2) := by decide +kernel
theorem d_Img_writeJump_71 : decode prog_2_method_20_code 71 = .ok (.iadd, 1) := by decide +kernel
theorem d_Img_writeJump_72 : decode prog_2_method_20_code 72 = .ok (.aload 4, 2) := by decide +kernel
theorem d_Img_writeJump_74 : decode prog_2_method_20_code 74 = .ok (.iload_n 2, 1) := by decide +kernel
theorem d_Img_writeJump_75 : decode prog_2_method_20_code 75 = .ok (.invokevirtual 152, 3) := by decide +kernel
theorem d_Img_writeJump_78 : decode prog_2_method_20_code 78 = .ok (.sipush 255, 3) := by decide +kernel
theorem d_Img_writeJump_81 : decode prog_2_method_20_code 81 = .ok (.iand, 1) := by decide +kernel
theorem d_Img_writeJump_82 : decode prog_2_method_20_code 82 = .ok (.iadd, 1) := by decide +kernel
theorem d_Img_writeJump_83 : decode prog_2_method_20_code 83 = .ok (.iastore, 1) := by decide +kernel
theorem d_Img_writeJump_84 : decode prog_2_method_20_code 84 = .ok (.return_, 1) := by decide +kernel
theorem d_Inc_init_0 : decode prog_3_method_1_code 0 = .ok (.aload_n 0, 1) := by decide +kernel
theorem d_Inc_init_1 : decode prog_3_method_1_code 1 = .ok (.invokespecial 3, 3) := by decide +kernel
theorem d_Inc_init_4 : decode prog_3_method_1_code 4 = .ok (.aload_n 0, 1) := by decide +kernel
theorem d_Inc_init_5 : decode prog_3_method_1_code 5 = .ok (.new 9, 3) := by decide +kernel
theorem d_Inc_init_8 : decode prog_3_method_1_code 8 = .ok (.dup, 1) := by decide +kernel
theorem d_Inc_init_9 : decode prog_3_method_1_code 9 = .ok (.bipush 6, 2) := by decide +kernel
theorem d_Inc_init_11 : decode prog_3_method_1_code 11 = .ok (.invokespecial 11, 3) := by decide +kernel
theorem d_Inc_init_14 : decode prog_3_method_1_code 14 = .ok (.putfield 14, 3) := by decide +kernel
theorem d_Inc_init_17 : decode prog_3_method_1_code 17 = .ok (.aload_n 0, 1) := by decide +kernel
theorem d_Inc_init_18 : decode prog_3_method_1_code 18 = .ok (.aload_n 1, 1) := by decide +kernel
theorem d_Inc_init_19 : decode prog_3_method_1_code 19 = .ok (.putfield 20, 3) := by decide +kernel
theorem d_Inc_init_22 : decode prog_3_method_1_code 22 = .ok (.return_, 1) := by decide +kernel
theorem d_Inc_goOver_0 : decode prog_3_method_2_code 0 = .ok (.aload_n 0, 1) := by decide +kernel
theorem d_Inc_goOver_1 : decode prog_3_method_2_code 1 = .ok (.getfield 14, 3) := by decide +kernel
theorem d_Inc_goOver_4 : decode prog_3_method_2_code 4 = .ok (.invokevirtual 24, 3) := by decide +kernel
theorem d_Inc_goOver_7 : decode prog_3_method_2_code 7 = .ok (.aload_n 0, 1) := by decide +kernel
theorem d_Inc_goOver_8 : decode prog_3_method_2_code 8 = .ok (.iload_n 3, 1) := by decide +kernel
theorem d_Inc_goOver_9 : decode prog_3_method_2_code 9 = .ok (.iconst (-1), 1) := by decide +kernel
theorem d_Inc_goOver_10 : decode prog_3_method_2_code 10 = .ok (.if_icmp .ne 7, 3) := by decide +kernel
theorem d_Inc_goOver_13 : decode prog_3_method_2_code 13 = .ok (.iconst 0, 1) := by decide +kernel
theorem d_Inc_goOver_14 : decode prog_3_method_2_code 14 = .ok (.goto 7, 3) := by decide +kernel
theorem d_Inc_goOver_17 : decode prog_3_method_2_code 17 = .ok (.iload_n 3, 1) := by decide +kernel
theorem d_Inc_goOver_18 : decode prog_3_method_2_code 18 = .ok (.invokestatic 27, 3) := by decide +kernel
theorem d_Inc_goOver_21 : decode prog_3_method_2_code 21 = .ok (.putfield 31, 3) := by decide +kernel
theorem d_Inc_goOver_24 : decode prog_3_method_2_code 24 = .ok (.aload_n 0, 1) := by decide +kernel
theorem d_Inc_goOver_25 : decode prog_3_method_2_code 25 = .ok (.iconst 0, 1) := by decide +kernel
theorem d_Inc_goOver_26 : decode prog_3_method_2_code 26 = .ok (.putfield 35, 3) := by decide +kernel
theorem d_Inc_goOver_29 : decode prog_3_method_2_code 29 = .ok (.aload_n 0, 1) := by decide +kernel
theorem d_Inc_goOver_30 : decode prog_3_method_2_code 30 = .ok (.iconst 0, 1) := by decide +kernel
theorem d_Inc_goOver_31 : decode prog_3_method_2_code 31 = .ok (.putfield 38, 3) := by decide +kernel
theorem d_Inc_goOver_34 : decode prog_3_method_2_code 34 = .ok (.aload_n 0, 1) := by decide +kernel
theorem d_Inc_goOver_35 : decode prog_3_method_2_code 35 = .ok (.iconst 0, 1) := by decide +kernel
theorem d_Inc_goOver_36 : decode prog_3_method_2_code 36 = .ok (.putfield 41, 3) := by decide +kernel
theorem d_Inc_goOver_39 : decode prog_3_method_2_code 39 = .ok (.iconst 0, 1) := by decide +kernel
theorem d_Inc_goOver_40 : decode prog_3_method_2_code 40 = .ok (.istore 4, 2) := by decide +kernel
theorem d_Inc_goOver_42 : decode prog_3_method_2_code 42 = .ok (.iload 4, 2) := by decide +kernel
theorem d_Inc_goOver_44 : decode prog_3_method_2_code 44 = .ok (.aload_n 1, 1) := by decide +kernel
theorem d_Inc_goOver_45 : decode prog_3_method_2_code 45 = .ok (.invokevirtual 44, 3) := by decide +kernel
theorem d_Inc_goOver_48 : decode prog_3_method_2_code 48 = .ok (.if_icmp .ge 38, 3) := by decide +kernel
theorem d_Inc_goOver_51 : decode prog_3_method_2_code 51 = .ok (.aload_n 1, 1) := by decide +kernel
theorem d_Inc_goOver_52 : decode prog_3_method_2_code 52 = .ok (.iload 4, 2) := by decide +kernel
theorem d_Inc_goOver_54 : decode prog_3_method_2_code 54 = .ok (.invokevirtual 48, 3) := by decide +kernel
theorem d_Inc_goOver_57 : decode prog_3_method_2_code 57 = .ok (.bipush 6, 2) := by decide +kernel
theorem d_Inc_goOver_59 : decode prog_3_method_2_code 59 = .ok (.if_icmp .ne 11, 3) := by decide +kernel
theorem d_Inc_goOver_62 : decode prog_3_method_2_code 62 = .ok (.aload_n 0, 1) := by decide +kernel
theorem d_Inc_goOver_63 : decode prog_3_method_2_code 63 = .ok (.aload_n 2, 1) := by decide +kernel
theorem d_Inc_goOver_64 : decode prog_3_method_2_code 64 = .ok (.invokevirtual 51, 3) := by decide +kernel
theorem d_Inc_goOver_67 : decode prog_3_method_2_code 67 = .ok (.goto 13, 3) := by decide +kernel
theorem d_Inc_goOver_70 : decode prog_3_method_2_code 70 = .ok (.aload_n 0, 1) := by decide +kernel
theorem d_Inc_goOver_71 : decode prog_3_method_2_code 71 = .ok (.aload_n 1, 1) := by decide +kernel
theorem d_Inc_goOver_72 : decode prog_3_method_2_code 72 = .ok (.iload 4, 2) := by decide +kernel
theorem d_Inc_goOver_74 : decode prog_3_method_2_code 74 = .ok (.invokevirtual 48, 3) := by decide +kernel
theorem d_Inc_goOver_77 : decode prog_3_method_2_code 77 = .ok (.invokevirtual 55, 3) := by decide +kernel
theorem d_Inc_goOver_80 : decode prog_3_method_2_code 80 = .ok (.iinc 4 1, 3) := by decide +kernel
theorem d_Inc_goOver_83 : decode prog_3_method_2_code 83 = .ok (.goto (-41), 3) := by decide +kernel
theorem d_Inc_goOver_86 : decode prog_3_method_2_code 86 = .ok (.return_, 1) := by decide +kernel
theorem d_Inc_howMany_0 : decode prog_3_method_3_code 0 = .ok (.aload_n 0, 1) := by decide +kernel
theorem d_Inc_howMany_1 : decode prog_3_method_3_code 1 = .ok (.getfield 14, 3) := by decide +kernel
theorem d_Inc_howMany_4 : decode prog_3_method_3_code 4 = .ok (.invokevirtual 44, 3) := by decide +kernel
theorem d_Inc_howMany_7 : decode prog_3_method_3_code 7 = .ok (.ireturn, 1) := by decide +kernel
theorem d_Inc_moduleAt_0 : decode prog_3_method_4_code 0 = .ok (.aload_n 0, 1) := by decide +kernel
theorem d_Inc_moduleAt_1 : decode prog_3_method_4_code 1 = .ok (.getfield 14, 3) := by decide +kernel
theorem d_Inc_moduleAt_4 : decode prog_3_method_4_code 4 = .ok (.iload_n 1, 1) := by decide +kernel
theorem d_Inc_moduleAt_5 : decode prog_3_method_4_code 5 = .ok (.invokevirtual 48, 3) := by decide +kernel
theorem d_Inc_moduleAt_8 : decode prog_3_method_4_code 8 = .ok (.ireturn, 1) := by decide +kernel
theorem d_Inc_hasDouble_0 : decode prog_3_method_5_code 0 = .ok (.aload_n 0, 1) := by decide +kernel
theorem d_Inc_hasDouble_1 : decode prog_3_method_5_code 1 = .ok (.getfield 41, 3) := by decide +kernel
theorem d_Inc_hasDouble_4 : decode prog_3_method_5_code 4 = .ok (.ifCond .eq 7, 3) := by decide +kernel
theorem d_Inc_hasDouble_7 : decode prog_3_method_5_code 7 = .ok (.iconst 1, 1) := by decide +kernel
theorem d_Inc_hasDouble_8 : decode prog_3_method_5_code 8 = .ok (.goto 4, 3) := by decide +kernel
theorem d_Inc_hasDouble_11 : decode prog_3_method_5_code 11 = .ok (.iconst 0, 1) := by decide +kernel
theorem d_Inc_hasDouble_12 : decode prog_3_method_5_code 12 = .ok (.ireturn, 1) := by decide +kernel
theorem d_Inc_wantedNames_0 : decode prog_3_method_6_code 0 = .ok (.aload_n 0, 1) := by decide +kernel
theorem d_Inc_wantedNames_1 : decode prog_3_method_6_code 1 = .ok (.getfield 31, 3) := by decide +kernel
theorem d_Inc_wantedNames_4 : decode prog_3_method_6_code 4 = .ok (.aload_n 0, 1) := by decide +kernel
theorem d_Inc_wantedNames_5 : decode prog_3_method_6_code 5 = .ok (.getfield 35, 3) := by decide +kernel
theorem d_Inc_wantedNames_8 : decode prog_3_method_6_code 8 = .ok (.iconst (-1), 1) := by decide +kernel
theorem d_Inc_wantedNames_9 : decode prog_3_method_6_code 9 = .ok (.ixor, 1) := by decide +kernel
theorem d_Inc_wantedNames_10 : decode prog_3_method_6_code 10 = .ok (.iand, 1) := by decide +kernel
theorem d_Inc_wantedNames_11 : decode prog_3_method_6_code 11 = .ok (.aload_n 0, 1) := by decide +kernel
theorem d_Inc_wantedNames_12 : decode prog_3_method_6_code 12 = .ok (.getfield 38, 3) := by decide +kernel
theorem d_Inc_wantedNames_15 : decode prog_3_method_6_code 15 = .ok (.iconst (-1), 1) := by decide +kernel
theorem d_Inc_wantedNames_16 : decode prog_3_method_6_code 16 = .ok (.ixor, 1) := by decide +kernel
theorem d_Inc_wantedNames_17 : decode prog_3_method_6_code 17 = .ok (.iand, 1) := by decide +kernel
theorem d_Inc_wantedNames_18 : decode prog_3_method_6_code 18 = .ok (.ireturn, 1) := by decide +kernel
theorem d_Inc_isLoneCommon_0 : decode prog_3_method_7_code 0 = .ok (.aload_n 0, 1) := by decide +kernel
theorem d_Inc_isLoneCommon_1 : decode prog_3_method_7_code 1 = .ok (.getfield 38, 3) := by decide +kernel
theorem d_Inc_isLoneCommon_4 : decode prog_3_method_7_code 4 = .ok (.aload_n 0, 1) := by decide +kernel
theorem d_Inc_isLoneCommon_5 : decode prog_3_method_7_code 5 = .ok (.getfield 35, 3) := by decide +kernel
theorem d_Inc_isLoneCommon_8 : decode prog_3_method_7_code 8 = .ok (.iconst (-1), 1) := by decide +kernel
theorem d_Inc_isLoneCommon_9 : decode prog_3_method_7_code 9 = .ok (.ixor, 1) := by decide +kernel
theorem d_Inc_isLoneCommon_10 : decode prog_3_method_7_code 10 = .ok (.iand, 1) := by decide +kernel
theorem d_Inc_isLoneCommon_11 : decode prog_3_method_7_code 11 = .ok (.iload_n 1, 1) := by decide +kernel
theorem d_Inc_isLoneCommon_12 : decode prog_3_method_7_code 12 = .ok (.invokestatic 58, 3) := by decide +kernel
theorem d_Inc_isLoneCommon_15 : decode prog_3_method_7_code 15 = .ok (.ireturn, 1) := by decide +kernel
theorem d_Inc_search_0 : decode prog_3_method_8_code 0 = .ok (.iconst 0, 1) := by decide +kernel
theorem d_Inc_search_1 : decode prog_3_method_8_code 1 = .ok (.istore_n 2, 1) := by decide +kernel
theorem d_Inc_search_2 : decode prog_3_method_8_code 2 = .ok (.iload_n 2, 1) := by decide +kernel
theorem d_Inc_search_3 : decode prog_3_method_8_code 3 = .ok (.bipush 6, 2) := by decide +kernel
theorem d_Inc_search_5 : decode prog_3_method_8_code 5 = .ok (.if_icmp .gt 18, 3) := by decide +kernel
theorem d_Inc_search_8 : decode prog_3_method_8_code 8 = .ok (.aload_n 0, 1) := by decide +kernel
theorem d_Inc_search_9 : decode prog_3_method_8_code 9 = .ok (.aload_n 1, 1) := by decide +kernel
theorem d_Inc_search_10 : decode prog_3_method_8_code 10 = .ok (.invokevirtual 62, 3) := by decide +kernel
theorem d_Inc_search_13 : decode prog_3_method_8_code 13 = .ok (.ifCond .ne 4, 3) := by decide +kernel
theorem d_Inc_search_16 : decode prog_3_method_8_code 16 = .ok (.return_, 1) := by decide +kernel
theorem d_Inc_search_17 : decode prog_3_method_8_code 17 = .ok (.iinc 2 1, 3) := by decide +kernel
theorem d_Inc_search_20 : decode prog_3_method_8_code 20 = .ok (.goto (-18), 3) := by decide +kernel
theorem d_Inc_search_23 : decode prog_3_method_8_code 23 = .ok (.return_, 1) := by decide +kernel
theorem d_Inc_includeWantedMembers_0 : decode prog_3_method_9_code 0 = .ok (.iconst 0, 1) := by decide +kernel
theorem d_Inc_includeWantedMembers_1 : decode prog_3_method_9_code 1 = .ok (.istore_n 2, 1) := by decide +kernel
theorem d_Inc_includeWantedMembers_2 : decode prog_3_method_9_code 2 = .ok (.iconst 0, 1) := by decide +kernel
theorem d_Inc_includeWantedMembers_3 : decode prog_3_method_9_code 3 = .ok (.istore_n 3, 1) := by decide +kernel
theorem d_Inc_includeWantedMembers_4 : decode prog_3_method_9_code 4 = .ok (.iload_n 3, 1) := by decide +kernel
theorem d_Inc_includeWantedMembers_5 : decode prog_3_method_9_code 5 = .ok (.aload_n 1, 1) := by decide +kernel
theorem d_Inc_includeWantedMembers_6 : decode prog_3_method_9_code 6 = .ok (.invokevirtual 44, 3) := by decide +kernel
theorem d_Inc_includeWantedMembers_9 : decode prog_3_method_9_code 9 = .ok (.if_icmp .ge 45, 3) := by decide +kernel
theorem d_Inc_includeWantedMembers_12 : decode prog_3_method_9_code 12 = .ok (.aload_n 1, 1) := by decide +kernel
theorem d_Inc_includeWantedMembers_13 : decode prog_3_method_9_code 13 = .ok (.iload_n 3, 1) := by decide +kernel
theorem d_Inc_includeWantedMembers_14 : decode prog_3_method_9_code 14 = .ok (.invokevirtual 48, 3) := by decide +kernel
theorem d_Inc_includeWantedMembers_17 : decode prog_3_method_9_code 17 = .ok (.istore 4, 2) := by decide +kernel
theorem d_Inc_includeWantedMembers_19 : decode prog_3_method_9_code 19 = .ok (.aload_n 0, 1) := by decide +kernel
theorem d_Inc_includeWantedMembers_20 : decode prog_3_method_9_code 20 = .ok (.getfield 14, 3) := by decide +kernel
theorem d_Inc_includeWantedMembers_23 : decode prog_3_method_9_code 23 = .ok (.iload 4, 2) := by decide +kernel
theorem d_Inc_includeWantedMembers_25 : decode prog_3_method_9_code 25 = .ok (.invokevirtual 66, 3) := by decide +kernel
theorem d_Inc_includeWantedMembers_28 : decode prog_3_method_9_code 28 = .ok (.ifCond .ne 20, 3) := by decide +kernel
theorem d_Inc_includeWantedMembers_31 : decode prog_3_method_9_code 31 = .ok (.aload_n 0, 1) := by decide +kernel
theorem d_Inc_includeWantedMembers_32 : decode prog_3_method_9_code 32 = .ok (.iload 4, 2) := by decide +kernel
theorem d_Inc_includeWantedMembers_34 : decode prog_3_method_9_code 34 = .ok (.invokevirtual 70, 3) := by decide +kernel
theorem d_Inc_includeWantedMembers_37 : decode prog_3_method_9_code 37 = .ok (.ifCond .eq 11, 3) := by decide +kernel
theorem d_Inc_includeWantedMembers_40 : decode prog_3_method_9_code 40 = .ok (.aload_n 0, 1) := by decide +kernel
theorem d_Inc_includeWantedMembers_41 : decode prog_3_method_9_code 41 = .ok (.iload 4, 2) := by decide +kernel
theorem d_Inc_includeWantedMembers_43 : decode prog_3_method_9_code 43 = .ok (.invokevirtual 55, 3) := by decide +kernel
theorem d_Inc_includeWantedMembers_46 : decode prog_3_method_9_code 46 = .ok (.iconst 1, 1) := by decide +kernel
theorem d_Inc_includeWantedMembers_47 : decode prog_3_method_9_code 47 = .ok (.istore_n 2, 1) := by decide +kernel
theorem d_Inc_includeWantedMembers_48 : decode prog_3_method_9_code 48 = .ok (.iinc 3 1, 3) := by decide +kernel
theorem d_Inc_includeWantedMembers_51 : decode prog_3_method_9_code 51 = .ok (.goto (-47), 3) := by decide +kernel
theorem d_Inc_includeWantedMembers_54 : decode prog_3_method_9_code 54 = .ok (.iload_n 2, 1) := by decide +kernel
theorem d_Inc_includeWantedMembers_55 : decode prog_3_method_9_code 55 = .ok (.ireturn, 1) := by decide +kernel
theorem d_Inc_exportsWantedName_0 : decode prog_3_method_10_code 0 = .ok (.aload_n 0, 1) := by decide +kernel
theorem d_Inc_exportsWantedName_1 : decode prog_3_method_10_code 1 = .ok (.getfield 20, 3) := by decide +kernel
theorem d_Inc_exportsWantedName_4 : decode prog_3_method_10_code 4 = .ok (.iload_n 1, 1) := by decide +kernel
theorem d_Inc_exportsWantedName_5 : decode prog_3_method_10_code 5 = .ok (.aaload, 1) := by decide +kernel
theorem d_Inc_exportsWantedName_6 : decode prog_3_method_10_code 6 = .ok (.invokevirtual 73, 3) := by decide +kernel
theorem d_Inc_exportsWantedName_9 : decode prog_3_method_10_code 9 = .ok (.aload_n 0, 1) := by decide +kernel
theorem d_Inc_exportsWantedName_10 : decode prog_3_method_10_code 10 = .ok (.invokevirtual 77, 3) := by decide +kernel
theorem d_Inc_exportsWantedName_13 : decode prog_3_method_10_code 13 = .ok (.iand, 1) := by decide +kernel
theorem d_Inc_exportsWantedName_14 : decode prog_3_method_10_code 14 = .ok (.ifCond .eq 7, 3) := by decide +kernel
theorem d_Inc_exportsWantedName_17 : decode prog_3_method_10_code 17 = .ok (.iconst 1, 1) := by decide +kernel
theorem d_Inc_exportsWantedName_18 : decode prog_3_method_10_code 18 = .ok (.goto 4, 3) := by decide +kernel
theorem d_Inc_exportsWantedName_21 : decode prog_3_method_10_code 21 = .ok (.iconst 0, 1) := by decide +kernel
theorem d_Inc_exportsWantedName_22 : decode prog_3_method_10_code 22 = .ok (.ireturn, 1) := by decide +kernel
theorem d_Inc_include_0 : decode prog_3_method_11_code 0 = .ok (.aload_n 0, 1) := by decide +kernel
theorem d_Inc_include_1 : decode prog_3_method_11_code 1 = .ok (.getfield 20, 3) := by decide +kernel
theorem d_Inc_include_4 : decode prog_3_method_11_code 4 = .ok (.iload_n 1, 1) := by decide +kernel
theorem d_Inc_include_5 : decode prog_3_method_11_code 5 = .ok (.aaload, 1) := by decide +kernel
theorem d_Inc_include_6 : decode prog_3_method_11_code 6 = .ok (.astore_n 2, 1) := by decide +kernel
theorem d_Inc_include_7 : decode prog_3_method_11_code 7 = .ok (.aload_n 0, 1) := by decide +kernel
theorem d_Inc_include_8 : decode prog_3_method_11_code 8 = .ok (.getfield 14, 3) := by decide +kernel
theorem d_Inc_include_11 : decode prog_3_method_11_code 11 = .ok (.iload_n 1, 1) := by decide +kernel
theorem d_Inc_include_12 : decode prog_3_method_11_code 12 = .ok (.invokevirtual 80, 3) := by decide +kernel
theorem d_Inc_include_15 : decode prog_3_method_11_code 15 = .ok (.pop, 1) := by decide +kernel
theorem d_Inc_include_16 : decode prog_3_method_11_code 16 = .ok (.aload_n 0, 1) := by decide +kernel
theorem d_Inc_include_17 : decode prog_3_method_11_code 17 = .ok (.dup, 1) := by decide +kernel
theorem d_Inc_include_18 : decode prog_3_method_11_code 18 = .ok (.getfield 41, 3) := by decide +kernel
theorem d_Inc_include_21 : decode prog_3_method_11_code 21 = .ok (.aload_n 0, 1) := by decide +kernel
theorem d_Inc_include_22 : decode prog_3_method_11_code 22 = .ok (.getfield 35, 3) := by decide +kernel
theorem d_Inc_include_25 : decode prog_3_method_11_code 25 = .ok (.aload_n 2, 1) := by decide +kernel
theorem d_Inc_include_26 : decode prog_3_method_11_code 26 = .ok (.invokevirtual 73, 3) := by decide +kernel
theorem d_Inc_include_29 : decode prog_3_method_11_code 29 = .ok (.iand, 1) := by decide +kernel
theorem d_Inc_include_30 : decode prog_3_method_11_code 30 = .ok (.ior, 1) := by decide +kernel
theorem d_Inc_include_31 : decode prog_3_method_11_code 31 = .ok (.putfield 41, 3) := by decide +kernel
theorem d_Inc_include_34 : decode prog_3_method_11_code 34 = .ok (.aload_n 0, 1) := by decide +kernel
theorem d_Inc_include_35 : decode prog_3_method_11_code 35 = .ok (.dup, 1) := by decide +kernel
theorem d_Inc_include_36 : decode prog_3_method_11_code 36 = .ok (.getfield 35, 3) := by decide +kernel
theorem d_Inc_include_39 : decode prog_3_method_11_code 39 = .ok (.aload_n 2, 1) := by decide +kernel
theorem d_Inc_include_40 : decode prog_3_method_11_code 40 = .ok (.invokevirtual 73, 3) := by decide +kernel
theorem d_Inc_include_43 : decode prog_3_method_11_code 43 = .ok (.ior, 1) := by decide +kernel
theorem d_Inc_include_44 : decode prog_3_method_11_code 44 = .ok (.putfield 35, 3) := by decide +kernel
theorem d_Inc_include_47 : decode prog_3_method_11_code 47 = .ok (.aload_n 0, 1) := by decide +kernel
theorem d_Inc_include_48 : decode prog_3_method_11_code 48 = .ok (.dup, 1) := by decide +kernel
theorem d_Inc_include_49 : decode prog_3_method_11_code 49 = .ok (.getfield 38, 3) := by decide +kernel
theorem d_Inc_include_52 : decode prog_3_method_11_code 52 = .ok (.aload_n 2, 1) := by decide +kernel
theorem d_Inc_include_53 : decode prog_3_method_11_code 53 = .ok (.invokevirtual 83, 3) := by decide +kernel
theorem d_Inc_include_56 : decode prog_3_method_11_code 56 = .ok (.ior, 1) := by decide +kernel
theorem d_Inc_include_57 : decode prog_3_method_11_code 57 = .ok (.putfield 38, 3) := by decide +kernel
theorem d_Inc_include_60 : decode prog_3_method_11_code 60 = .ok (.aload_n 0, 1) := by decide +kernel
theorem d_Inc_include_61 : decode prog_3_method_11_code 61 = .ok (.dup, 1) := by decide +kernel
theorem d_Inc_include_62 : decode prog_3_method_11_code 62 = .ok (.getfield 31, 3) := by decide +kernel
theorem d_Inc_include_65 : decode prog_3_method_11_code 65 = .ok (.aload_n 2, 1) := by decide +kernel
theorem d_Inc_include_66 : decode prog_3_method_11_code 66 = .ok (.invokevirtual 86, 3) := by decide +kernel
theorem d_Inc_include_69 : decode prog_3_method_11_code 69 = .ok (.ior, 1) := by decide +kernel
theorem d_Inc_include_70 : decode prog_3_method_11_code 70 = .ok (.putfield 31, 3) := by decide +kernel
theorem d_Inc_include_73 : decode prog_3_method_11_code 73 = .ok (.return_, 1) := by decide +kernel
theorem d_Mac_init_0 : decode prog_4_method_1_code 0 = .ok (.aload_n 0, 1) := by decide +kernel
theorem d_Mac_init_1 : decode prog_4_method_1_code 1 = .ok (.invokespecial 3, 3) := by decide +kernel
theorem d_Mac_init_4 : decode prog_4_method_1_code 4 = .ok (.aload_n 0, 1) := by decide +kernel
theorem d_Mac_init_5 : decode prog_4_method_1_code 5 = .ok (.sipush 200, 3) := by decide +kernel
theorem d_Mac_init_8 : decode prog_4_method_1_code 8 = .ok (.newarray .int, 2) := by decide +kernel
theorem d_Mac_init_10 : decode prog_4_method_1_code 10 = .ok (.putfield 9, 3) := by decide +kernel
theorem d_Mac_init_13 : decode prog_4_method_1_code 13 = .ok (.aload_n 0, 1) := by decide +kernel
theorem d_Mac_init_14 : decode prog_4_method_1_code 14 = .ok (.bipush 8, 2) := by decide +kernel
theorem d_Mac_init_16 : decode prog_4_method_1_code 16 = .ok (.newarray .int, 2) := by decide +kernel
theorem d_Mac_init_18 : decode prog_4_method_1_code 18 = .ok (.putfield 15, 3) := by decide +kernel
theorem d_Mac_init_21 : decode prog_4_method_1_code 21 = .ok (.aload_n 0, 1) := by decide +kernel
theorem d_Mac_init_22 : decode prog_4_method_1_code 22 = .ok (.iconst 4, 1) := by decide +kernel
theorem d_Mac_init_23 : decode prog_4_method_1_code 23 = .ok (.newarray .int, 2) := by decide +kernel
theorem d_Mac_init_25 : decode prog_4_method_1_code 25 = .ok (.putfield 18, 3) := by decide +kernel
theorem d_Mac_init_28 : decode prog_4_method_1_code 28 = .ok (.return_, 1) := by decide +kernel
theorem d_Mac_throwAway_0 : decode prog_4_method_2_code 0 = .ok (.aload_n 0, 1) := by decide +kernel
theorem d_Mac_throwAway_1 : decode prog_4_method_2_code 1 = .ok (.iconst 0, 1) := by decide +kernel
theorem d_Mac_throwAway_2 : decode prog_4_method_2_code 2 = .ok (.putfield 21, 3) := by decide +kernel
theorem d_Mac_throwAway_5 : decode prog_4_method_2_code 5 = .ok (.return_, 1) := by decide +kernel
theorem d_Mac_isThere_0 : decode prog_4_method_3_code 0 = .ok (.aload_n 0, 1) := by decide +kernel
theorem d_Mac_isThere_1 : decode prog_4_method_3_code 1 = .ok (.getfield 21, 3) := by decide +kernel
theorem d_Mac_isThere_4 : decode prog_4_method_3_code 4 = .ok (.ireturn, 1) := by decide +kernel
theorem d_Mac_begin_0 : decode prog_4_method_4_code 0 = .ok (.aload_n 0, 1) := by decide +kernel
theorem d_Mac_begin_1 : decode prog_4_method_4_code 1 = .ok (.aload_n 1, 1) := by decide +kernel
theorem d_Mac_begin_2 : decode prog_4_method_4_code 2 = .ok (.invokevirtual 25, 3) := by decide +kernel
theorem d_Mac_begin_5 : decode prog_4_method_4_code 5 = .ok (.putfield 31, 3) := by decide +kernel
theorem d_Mac_begin_8 : decode prog_4_method_4_code 8 = .ok (.aload_n 0, 1) := by decide +kernel
theorem d_Mac_begin_9 : decode prog_4_method_4_code 9 = .ok (.aload_n 1, 1) := by decide +kernel
theorem d_Mac_begin_10 : decode prog_4_method_4_code 10 = .ok (.invokevirtual 35, 3) := by decide +kernel
theorem d_Mac_begin_13 : decode prog_4_method_4_code 13 = .ok (.putfield 38, 3) := by decide +kernel
theorem d_Mac_begin_16 : decode prog_4_method_4_code 16 = .ok (.iconst 0, 1) := by decide +kernel
theorem d_Mac_begin_17 : decode prog_4_method_4_code 17 = .ok (.istore_n 2, 1) := by decide +kernel
theorem d_Mac_begin_18 : decode prog_4_method_4_code 18 = .ok (.iload_n 2, 1) := by decide +kernel
theorem d_Mac_begin_19 : decode prog_4_method_4_code 19 = .ok (.aload_n 0, 1) := by decide +kernel
theorem d_Mac_begin_20 : decode prog_4_method_4_code 20 = .ok (.getfield 31, 3) := by decide +kernel
theorem d_Mac_begin_23 : decode prog_4_method_4_code 23 = .ok (.if_icmp .ge 20, 3) := by decide +kernel
theorem d_Mac_begin_26 : decode prog_4_method_4_code 26 = .ok (.aload_n 0, 1) := by decide +kernel
theorem d_Mac_begin_27 : decode prog_4_method_4_code 27 = .ok (.getfield 9, 3) := by decide +kernel
theorem d_Mac_begin_30 : decode prog_4_method_4_code 30 = .ok (.iload_n 2, 1) := by decide +kernel
theorem d_Mac_begin_31 : decode prog_4_method_4_code 31 = .ok (.aload_n 1, 1) := by decide +kernel
theorem d_Mac_begin_32 : decode prog_4_method_4_code 32 = .ok (.iload_n 2, 1) := by decide +kernel
theorem d_Mac_begin_33 : decode prog_4_method_4_code 33 = .ok (.invokevirtual 40, 3) := by decide +kernel
theorem d_Mac_begin_36 : decode prog_4_method_4_code 36 = .ok (.iastore, 1) := by decide +kernel
theorem d_Mac_begin_37 : decode prog_4_method_4_code 37 = .ok (.iinc 2 1, 3) := by decide +kernel
theorem d_Mac_begin_40 : decode prog_4_method_4_code 40 = .ok (.goto (-22), 3) := by decide +kernel
theorem d_Mac_begin_43 : decode prog_4_method_4_code 43 = .ok (.aload_n 0, 1) := by decide +kernel
theorem d_Mac_begin_44 : decode prog_4_method_4_code 44 = .ok (.iconst 0, 1) := by decide +kernel
theorem d_Mac_begin_45 : decode prog_4_method_4_code 45 = .ok (.putfield 44, 3) := by decide +kernel
theorem d_Mac_begin_48 : decode prog_4_method_4_code 48 = .ok (.aload_n 0, 1) := by decide +kernel
theorem d_Mac_begin_49 : decode prog_4_method_4_code 49 = .ok (.iconst 0, 1) := by decide +kernel
theorem d_Mac_begin_50 : decode prog_4_method_4_code 50 = .ok (.putfield 47, 3) := by decide +kernel
theorem d_Mac_begin_53 : decode prog_4_method_4_code 53 = .ok (.aload_n 0, 1) := by decide +kernel
theorem d_Mac_begin_54 : decode prog_4_method_4_code 54 = .ok (.aload_n 1, 1) := by decide +kernel
theorem d_Mac_begin_55 : decode prog_4_method_4_code 55 = .ok (.invokevirtual 50, 3) := by decide +kernel
theorem d_Mac_begin_58 : decode prog_4_method_4_code 58 = .ok (.putfield 53, 3) := by decide +kernel
theorem d_Mac_begin_61 : decode prog_4_method_4_code 61 = .ok (.aload_n 0, 1) := by decide +kernel
theorem d_Mac_begin_62 : decode prog_4_method_4_code 62 = .ok (.iconst 0, 1) := by decide +kernel
theorem d_Mac_begin_63 : decode prog_4_method_4_code 63 = .ok (.putfield 56, 3) := by decide +kernel
theorem d_Mac_begin_66 : decode prog_4_method_4_code 66 = .ok (.aload_n 0, 1) := by decide +kernel
theorem d_Mac_begin_67 : decode prog_4_method_4_code 67 = .ok (.iconst 0, 1) := by decide +kernel
theorem d_Mac_begin_68 : decode prog_4_method_4_code 68 = .ok (.putfield 59, 3) := by decide +kernel
theorem d_Mac_begin_71 : decode prog_4_method_4_code 71 = .ok (.aload_n 0, 1) := by decide +kernel
theorem d_Mac_begin_72 : decode prog_4_method_4_code 72 = .ok (.iconst 0, 1) := by decide +kernel
theorem d_Mac_begin_73 : decode prog_4_method_4_code 73 = .ok (.putfield 62, 3) := by decide +kernel
theorem d_Mac_begin_76 : decode prog_4_method_4_code 76 = .ok (.aload_n 0, 1) := by decide +kernel
theorem d_Mac_begin_77 : decode prog_4_method_4_code 77 = .ok (.iconst 0, 1) := by decide +kernel
theorem d_Mac_begin_78 : decode prog_4_method_4_code 78 = .ok (.putfield 65, 3) := by decide +kernel
theorem d_Mac_begin_81 : decode prog_4_method_4_code 81 = .ok (.aload_n 0, 1) := by decide +kernel
theorem d_Mac_begin_82 : decode prog_4_method_4_code 82 = .ok (.iconst 1, 1) := by decide +kernel
theorem d_Mac_begin_83 : decode prog_4_method_4_code 83 = .ok (.putfield 21, 3) := by decide +kernel
theorem d_Mac_begin_86 : decode prog_4_method_4_code 86 = .ok (.return_, 1) := by decide +kernel
theorem d_Mac_putOnTape_0 : decode prog_4_method_5_code 0 = .ok (.aload_n 0, 1) := by decide +kernel
theorem d_Mac_putOnTape_1 : decode prog_4_method_5_code 1 = .ok (.getfield 21, 3) := by decide +kernel
theorem d_Mac_putOnTape_4 : decode prog_4_method_5_code 4 = .ok (.ifCond .eq 19, 3) := by decide +kernel
theorem d_Mac_putOnTape_7 : decode prog_4_method_5_code 7 = .ok (.iload_n 1, 1) := by decide +kernel
theorem d_Mac_putOnTape_8 : decode prog_4_method_5_code 8 = .ok (.invokestatic 68, 3) := by decide +kernel
theorem d_Mac_putOnTape_11 : decode prog_4_method_5_code 11 = .ok (.ifCond .eq 12, 3) := by decide +kernel
theorem d_Mac_putOnTape_14 : decode prog_4_method_5_code 14 = .ok (.aload_n 0, 1) := by decide +kernel
theorem d_Mac_putOnTape_15 : decode prog_4_method_5_code 15 = .ok (.getfield 59, 3) := by decide +kernel
theorem d_Mac_putOnTape_18 : decode prog_4_method_5_code 18 = .ok (.bipush 8, 2) := by decide +kernel
theorem d_Mac_putOnTape_20 : decode prog_4_method_5_code 20 = .ok (.if_icmp .lt 5, 3) := by decide +kernel
theorem d_Mac_putOnTape_23 : decode prog_4_method_5_code 23 = .ok (.iconst 0, 1) := by decide +kernel
theorem d_Mac_putOnTape_24 : decode prog_4_method_5_code 24 = .ok (.ireturn, 1) := by decide +kernel
theorem d_Mac_putOnTape_25 : decode prog_4_method_5_code 25 = .ok (.aload_n 0, 1) := by decide +kernel
theorem d_Mac_putOnTape_26 : decode prog_4_method_5_code 26 = .ok (.getfield 15, 3) := by decide +kernel
theorem d_Mac_putOnTape_29 : decode prog_4_method_5_code 29 = .ok (.aload_n 0, 1) := by decide +kernel
theorem d_Mac_putOnTape_30 : decode prog_4_method_5_code 30 = .ok (.getfield 59, 3) := by decide +kernel
theorem d_Mac_putOnTape_33 : decode prog_4_method_5_code 33 = .ok (.iload_n 1, 1) := by decide +kernel
theorem d_Mac_putOnTape_34 : decode prog_4_method_5_code 34 = .ok (.iastore, 1) := by decide +kernel
theorem d_Mac_putOnTape_35 : decode prog_4_method_5_code 35 = .ok (.aload_n 0, 1) := by decide +kernel
theorem d_Mac_putOnTape_36 : decode prog_4_method_5_code 36 = .ok (.dup, 1) := by decide +kernel
theorem d_Mac_putOnTape_37 : decode prog_4_method_5_code 37 = .ok (.getfield 59, 3) := by decide +kernel
theorem d_Mac_putOnTape_40 : decode prog_4_method_5_code 40 = .ok (.iconst 1, 1) := by decide +kernel
theorem d_Mac_putOnTape_41 : decode prog_4_method_5_code 41 = .ok (.iadd, 1) := by decide +kernel
theorem d_Mac_putOnTape_42 : decode prog_4_method_5_code 42 = .ok (.putfield 59, 3) := by decide +kernel
theorem d_Mac_putOnTape_45 : decode prog_4_method_5_code 45 = .ok (.iconst 1, 1) := by decide +kernel
theorem d_Mac_putOnTape_46 : decode prog_4_method_5_code 46 = .ok (.ireturn, 1) := by decide +kernel
theorem d_Mac_doSteps_0 : decode prog_4_method_6_code 0 = .ok (.iconst 0, 1) := by decide +kernel
theorem d_Mac_doSteps_1 : decode prog_4_method_6_code 1 = .ok (.istore_n 2, 1) := by decide +kernel
theorem d_Mac_doSteps_2 : decode prog_4_method_6_code 2 = .ok (.iload_n 2, 1) := by decide +kernel
theorem d_Mac_doSteps_3 : decode prog_4_method_6_code 3 = .ok (.iload_n 1, 1) := by decide +kernel
theorem d_Mac_doSteps_4 : decode prog_4_method_6_code 4 = .ok (.if_icmp .ge 40, 3) := by decide +kernel
theorem d_Mac_doSteps_7 : decode prog_4_method_6_code 7 = .ok (.aload_n 0, 1) := by decide +kernel
theorem d_Mac_doSteps_8 : decode prog_4_method_6_code 8 = .ok (.getfield 56, 3) := by decide +kernel
theorem d_Mac_doSteps_11 : decode prog_4_method_6_code 11 = .ok (.ifCond .eq 5, 3) := by decide +kernel
theorem d_Mac_doSteps_14 : decode prog_4_method_6_code 14 = .ok (.iload_n 2, 1) := by decide +kernel
theorem d_Mac_doSteps_15 : decode prog_4_method_6_code 15 = .ok (.ireturn, 1) := by decide +kernel
theorem d_Mac_doSteps_16 : decode prog_4_method_6_code 16 = .ok (.aload_n 0, 1) := by decide +kernel
theorem d_Mac_doSteps_17 : decode prog_4_method_6_code 17 = .ok (.invokevirtual 72, 3) := by decide +kernel
theorem d_Mac_doSteps_20 : decode prog_4_method_6_code 20 = .ok (.aload_n 0, 1) := by decide +kernel
theorem d_Mac_doSteps_21 : decode prog_4_method_6_code 21 = .ok (.getfield 56, 3) := by decide +kernel
theorem d_Mac_doSteps_24 : decode prog_4_method_6_code 24 = .ok (.iconst 2, 1) := by decide +kernel
theorem d_Mac_doSteps_25 : decode prog_4_method_6_code 25 = .ok (.if_icmp .eq 11, 3) := by decide +kernel
theorem d_Mac_doSteps_28 : decode prog_4_method_6_code 28 = .ok (.aload_n 0, 1) := by decide +kernel
theorem d_Mac_doSteps_29 : decode prog_4_method_6_code 29 = .ok (.getfield 56, 3) := by decide +kernel
theorem d_Mac_doSteps_32 : decode prog_4_method_6_code 32 = .ok (.iconst 3, 1) := by decide +kernel
theorem d_Mac_doSteps_33 : decode prog_4_method_6_code 33 = .ok (.if_icmp .ne 5, 3) := by decide +kernel
theorem d_Mac_doSteps_36 : decode prog_4_method_6_code 36 = .ok (.iload_n 2, 1) := by decide +kernel
theorem d_Mac_doSteps_37 : decode prog_4_method_6_code 37 = .ok (.ireturn, 1) := by decide +kernel
theorem d_Mac_doSteps_38 : decode prog_4_method_6_code 38 = .ok (.iinc 2 1, 3) := by decide +kernel
theorem d_Mac_doSteps_41 : decode prog_4_method_6_code 41 = .ok (.goto (-39), 3) := by decide +kernel
theorem d_Mac_doSteps_44 : decode prog_4_method_6_code 44 = .ok (.iload_n 1, 1) := by decide +kernel
theorem d_Mac_doSteps_45 : decode prog_4_method_6_code 45 = .ok (.ireturn, 1) := by decide +kernel
theorem d_Mac_registerAt_0 : decode prog_4_method_7_code 0 = .ok (.iload_n 1, 1) := by decide +kernel
theorem d_Mac_registerAt_1 : decode prog_4_method_7_code 1 = .ok (.tableswitch 60 0 4 #[35, 40, 45, 50, 55], 35) := by decide +kernel
theorem d_Mac_registerAt_36 : decode prog_4_method_7_code 36 = .ok (.aload_n 0, 1) := by decide +kernel
theorem d_Mac_registerAt_37 : decode prog_4_method_7_code 37 = .ok (.getfield 44, 3) := by decide +kernel
theorem d_Mac_registerAt_40 : decode prog_4_method_7_code 40 = .ok (.ireturn, 1) := by decide +kernel
theorem d_Mac_registerAt_41 : decode prog_4_method_7_code 41 = .ok (.aload_n 0, 1) := by decide +kernel
theorem d_Mac_registerAt_42 : decode prog_4_method_7_code 42 = .ok (.getfield 47, 3) := by decide +kernel
theorem d_Mac_registerAt_45 : decode prog_4_method_7_code 45 = .ok (.ireturn, 1) := by decide +kernel
theorem d_Mac_registerAt_46 : decode prog_4_method_7_code 46 = .ok (.aload_n 0, 1) := by decide +kernel
theorem d_Mac_registerAt_47 : decode prog_4_method_7_code 47 = .ok (.getfield 53, 3) := by decide +kernel
theorem d_Mac_registerAt_50 : decode prog_4_method_7_code 50 = .ok (.ireturn, 1) := by decide +kernel
theorem d_Mac_registerAt_51 : decode prog_4_method_7_code 51 = .ok (.aload_n 0, 1) := by decide +kernel
theorem d_Mac_registerAt_52 : decode prog_4_method_7_code 52 = .ok (.getfield 56, 3) := by decide +kernel
theorem d_Mac_registerAt_55 : decode prog_4_method_7_code 55 = .ok (.ireturn, 1) := by decide +kernel
theorem d_Mac_registerAt_56 : decode prog_4_method_7_code 56 = .ok (.aload_n 0, 1) := by decide +kernel
theorem d_Mac_registerAt_57 : decode prog_4_method_7_code 57 = .ok (.getfield 65, 3) := by decide +kernel
theorem d_Mac_registerAt_60 : decode prog_4_method_7_code 60 = .ok (.ireturn, 1) := by decide +kernel
theorem d_Mac_registerAt_61 : decode prog_4_method_7_code 61 = .ok (.aload_n 0, 1) := by decide +kernel
theorem d_Mac_registerAt_62 : decode prog_4_method_7_code 62 = .ok (.iload_n 1, 1) := by decide +kernel
theorem d_Mac_registerAt_63 : decode prog_4_method_7_code 63 = .ok (.iconst 5, 1) := by decide +kernel
theorem d_Mac_registerAt_64 : decode prog_4_method_7_code 64 = .ok (.isub, 1) := by decide +kernel
theorem d_Mac_registerAt_65 : decode prog_4_method_7_code 65 = .ok (.invokevirtual 75, 3) := by decide +kernel
theorem d_Mac_registerAt_68 : decode prog_4_method_7_code 68 = .ok (.ireturn, 1) := by decide +kernel
theorem d_Mac_wordAt_0 : decode prog_4_method_8_code 0 = .ok (.aload_n 0, 1) := by decide +kernel
theorem d_Mac_wordAt_1 : decode prog_4_method_8_code 1 = .ok (.getfield 21, 3) := by decide +kernel
theorem d_Mac_wordAt_4 : decode prog_4_method_8_code 4 = .ok (.ifCond .eq 20, 3) := by decide +kernel
theorem d_Mac_wordAt_7 : decode prog_4_method_8_code 7 = .ok (.aload_n 0, 1) := by decide +kernel
theorem d_Mac_wordAt_8 : decode prog_4_method_8_code 8 = .ok (.iload_n 1, 1) := by decide +kernel
theorem d_Mac_wordAt_9 : decode prog_4_method_8_code 9 = .ok (.invokevirtual 78, 3) := by decide +kernel
theorem d_Mac_wordAt_12 : decode prog_4_method_8_code 12 = .ok (.ifCond .eq 12, 3) := by decide +kernel
theorem d_Mac_wordAt_15 : decode prog_4_method_8_code 15 = .ok (.aload_n 0, 1) := by decide +kernel
theorem d_Mac_wordAt_16 : decode prog_4_method_8_code 16 = .ok (.getfield 9, 3) := by decide +kernel
theorem d_Mac_wordAt_19 : decode prog_4_method_8_code 19 = .ok (.iload_n 1, 1) := by decide +kernel
theorem d_Mac_wordAt_20 : decode prog_4_method_8_code 20 = .ok (.iaload, 1) := by decide +kernel
theorem d_Mac_wordAt_21 : decode prog_4_method_8_code 21 = .ok (.goto 4, 3) := by decide +kernel
theorem d_Mac_wordAt_24 : decode prog_4_method_8_code 24 = .ok (.iconst (-1), 1) := by decide +kernel
theorem d_Mac_wordAt_25 : decode prog_4_method_8_code 25 = .ok (.ireturn, 1) := by decide +kernel
theorem d_Mac_latestWord_0 : decode prog_4_method_9_code 0 = .ok (.iload_n 1, 1) := by decide +kernel
theorem d_Mac_latestWord_1 : decode prog_4_method_9_code 1 = .ok (.iconst 0, 1) := by decide +kernel
theorem d_Mac_latestWord_2 : decode prog_4_method_9_code 2 = .ok (.iconst 3, 1) := by decide +kernel
theorem d_Mac_latestWord_3 : decode prog_4_method_9_code 3 = .ok (.invokestatic 81, 3) := by decide +kernel
theorem d_Mac_latestWord_6 : decode prog_4_method_9_code 6 = .ok (.ifCond .eq 20, 3) := by decide +kernel
theorem d_Mac_latestWord_9 : decode prog_4_method_9_code 9 = .ok (.iload_n 1, 1) := by decide +kernel
theorem d_Mac_latestWord_10 : decode prog_4_method_9_code 10 = .ok (.aload_n 0, 1) := by decide +kernel
theorem d_Mac_latestWord_11 : decode prog_4_method_9_code 11 = .ok (.getfield 65, 3) := by decide +kernel
theorem d_Mac_latestWord_14 : decode prog_4_method_9_code 14 = .ok (.if_icmp .ge 12, 3) := by decide +kernel
theorem d_Mac_latestWord_17 : decode prog_4_method_9_code 17 = .ok (.aload_n 0, 1) := by decide +kernel
theorem d_Mac_latestWord_18 : decode prog_4_method_9_code 18 = .ok (.getfield 18, 3) := by decide +kernel
theorem d_Mac_latestWord_21 : decode prog_4_method_9_code 21 = .ok (.iload_n 1, 1) := by decide +kernel
theorem d_Mac_latestWord_22 : decode prog_4_method_9_code 22 = .ok (.iaload, 1) := by decide +kernel
theorem d_Mac_latestWord_23 : decode prog_4_method_9_code 23 = .ok (.goto 4, 3) := by decide +kernel
theorem d_Mac_latestWord_26 : decode prog_4_method_9_code 26 = .ok (.iconst (-1), 1) := by decide +kernel
theorem d_Mac_latestWord_27 : decode prog_4_method_9_code 27 = .ok (.ireturn, 1) := by decide +kernel
theorem d_Mac_isInside_0 : decode prog_4_method_10_code 0 = .ok (.iload_n 1, 1) := by decide +kernel
theorem d_Mac_isInside_1 : decode prog_4_method_10_code 1 = .ok (.ifCond .lt 15, 3) := by decide +kernel
theorem d_Mac_isInside_4 : decode prog_4_method_10_code 4 = .ok (.iload_n 1, 1) := by decide +kernel
theorem d_Mac_isInside_5 : decode prog_4_method_10_code 5 = .ok (.aload_n 0, 1) := by decide +kernel
theorem d_Mac_isInside_6 : decode prog_4_method_10_code 6 = .ok (.getfield 31, 3) := by decide +kernel
theorem d_Mac_isInside_9 : decode prog_4_method_10_code 9 = .ok (.if_icmp .ge 7, 3) := by decide +kernel
theorem d_Mac_isInside_12 : decode prog_4_method_10_code 12 = .ok (.iconst 1, 1) := by decide +kernel
theorem d_Mac_isInside_13 : decode prog_4_method_10_code 13 = .ok (.goto 4, 3) := by decide +kernel
theorem d_Mac_isInside_16 : decode prog_4_method_10_code 16 = .ok (.iconst 0, 1) := by decide +kernel
theorem d_Mac_isInside_17 : decode prog_4_method_10_code 17 = .ok (.ireturn, 1) := by decide +kernel
theorem d_Mac_doStep_0 : decode prog_4_method_11_code 0 = .ok (.aload_n 0, 1) := by decide +kernel
theorem d_Mac_doStep_1 : decode prog_4_method_11_code 1 = .ok (.aload_n 0, 1) := by decide +kernel
theorem d_Mac_doStep_2 : decode prog_4_method_11_code 2 = .ok (.getfield 53, 3) := by decide +kernel
theorem d_Mac_doStep_5 : decode prog_4_method_11_code 5 = .ok (.invokevirtual 78, 3) := by decide +kernel
theorem d_Mac_doStep_8 : decode prog_4_method_11_code 8 = .ok (.ifCond .ne 9, 3) := by decide +kernel
theorem d_Mac_doStep_11 : decode prog_4_method_11_code 11 = .ok (.aload_n 0, 1) := by decide +kernel
theorem d_Mac_doStep_12 : decode prog_4_method_11_code 12 = .ok (.iconst 3, 1) := by decide +kernel
theorem d_Mac_doStep_13 : decode prog_4_method_11_code 13 = .ok (.putfield 56, 3) := by decide +kernel
theorem d_Mac_doStep_16 : decode prog_4_method_11_code 16 = .ok (.return_, 1) := by decide +kernel
theorem d_Mac_doStep_17 : decode prog_4_method_11_code 17 = .ok (.aload_n 0, 1) := by decide +kernel
theorem d_Mac_doStep_18 : decode prog_4_method_11_code 18 = .ok (.getfield 9, 3) := by decide +kernel
theorem d_Mac_doStep_21 : decode prog_4_method_11_code 21 = .ok (.aload_n 0, 1) := by decide +kernel
theorem d_Mac_doStep_22 : decode prog_4_method_11_code 22 = .ok (.getfield 53, 3) := by decide +kernel
theorem d_Mac_doStep_25 : decode prog_4_method_11_code 25 = .ok (.iaload, 1) := by decide +kernel
theorem d_Mac_doStep_26 : decode prog_4_method_11_code 26 = .ok (.sipush 4096, 3) := by decide +kernel
theorem d_Mac_doStep_29 : decode prog_4_method_11_code 29 = .ok (.idiv, 1) := by decide +kernel
theorem d_Mac_doStep_30 : decode prog_4_method_11_code 30 = .ok (.istore_n 1, 1) := by decide +kernel
theorem d_Mac_doStep_31 : decode prog_4_method_11_code 31 = .ok (.aload_n 0, 1) := by decide +kernel
theorem d_Mac_doStep_32 : decode prog_4_method_11_code 32 = .ok (.getfield 9, 3) := by decide +kernel
theorem d_Mac_doStep_35 : decode prog_4_method_11_code 35 = .ok (.aload_n 0, 1) := by decide +kernel
theorem d_Mac_doStep_36 : decode prog_4_method_11_code 36 = .ok (.getfield 53, 3) := by decide +kernel
theorem d_Mac_doStep_39 : decode prog_4_method_11_code 39 = .ok (.iaload, 1) := by decide +kernel
theorem d_Mac_doStep_40 : decode prog_4_method_11_code 40 = .ok (.sipush 4096, 3) := by decide +kernel
theorem d_Mac_doStep_43 : decode prog_4_method_11_code 43 = .ok (.irem, 1) := by decide +kernel
theorem d_Mac_doStep_44 : decode prog_4_method_11_code 44 = .ok (.istore_n 2, 1) := by decide +kernel
theorem d_Mac_doStep_45 : decode prog_4_method_11_code 45 = .ok (.iload_n 1, 1) := by decide +kernel
theorem d_Mac_doStep_46 : decode prog_4_method_11_code 46 = .ok (.bipush 13, 2) := by decide +kernel
theorem d_Mac_doStep_48 : decode prog_4_method_11_code 48 = .ok (.if_icmp .le 11, 3) := by decide +kernel
theorem d_Mac_doStep_51 : decode prog_4_method_11_code 51 = .ok (.aload_n 0, 1) := by decide +kernel
theorem d_Mac_doStep_52 : decode prog_4_method_11_code 52 = .ok (.iconst 2, 1) := by decide +kernel
theorem d_Mac_doStep_53 : decode prog_4_method_11_code 53 = .ok (.putfield 56, 3) := by decide +kernel
theorem d_Mac_doStep_56 : decode prog_4_method_11_code 56 = .ok (.goto 25, 3) := by decide +kernel
theorem d_Mac_doStep_59 : decode prog_4_method_11_code 59 = .ok (.iload_n 1, 1) := by decide +kernel
theorem d_Mac_doStep_60 : decode prog_4_method_11_code 60 = .ok (.invokestatic 85, 3) := by decide +kernel
theorem d_Mac_doStep_63 : decode prog_4_method_11_code 63 = .ok (.ifCond .eq 12, 3) := by decide +kernel
theorem d_Mac_doStep_66 : decode prog_4_method_11_code 66 = .ok (.aload_n 0, 1) := by decide +kernel
theorem d_Mac_doStep_67 : decode prog_4_method_11_code 67 = .ok (.iload_n 1, 1) := by decide +kernel
theorem d_Mac_doStep_68 : decode prog_4_method_11_code 68 = .ok (.iload_n 2, 1) := by decide +kernel
theorem d_Mac_doStep_69 : decode prog_4_method_11_code 69 = .ok (.invokevirtual 88, 3) := by decide +kernel
theorem d_Mac_doStep_72 : decode prog_4_method_11_code 72 = .ok (.goto 9, 3) := by decide +kernel
theorem d_Mac_doStep_75 : decode prog_4_method_11_code 75 = .ok (.aload_n 0, 1) := by decide +kernel
theorem d_Mac_doStep_76 : decode prog_4_method_11_code 76 = .ok (.iload_n 1, 1) := by decide +kernel
theorem d_Mac_doStep_77 : decode prog_4_method_11_code 77 = .ok (.iload_n 2, 1) := by decide +kernel
theorem d_Mac_doStep_78 : decode prog_4_method_11_code 78 = .ok (.invokevirtual 92, 3) := by decide +kernel
theorem d_Mac_doStep_81 : decode prog_4_method_11_code 81 = .ok (.return_, 1) := by decide +kernel
theorem d_Mac_isTwoWordsLong_0 : decode prog_4_method_12_code 0 = .ok (.iload_n 0, 1) := by decide +kernel
theorem d_Mac_isTwoWordsLong_1 : decode prog_4_method_12_code 1 = .ok (.iconst 1, 1) := by decide +kernel
theorem d_Mac_isTwoWordsLong_2 : decode prog_4_method_12_code 2 = .ok (.bipush 6, 2) := by decide +kernel
theorem d_Mac_isTwoWordsLong_4 : decode prog_4_method_12_code 4 = .ok (.invokestatic 81, 3) := by decide +kernel
theorem d_Mac_isTwoWordsLong_7 : decode prog_4_method_12_code 7 = .ok (.ifCond .ne 9, 3) := by decide +kernel
theorem d_Mac_isTwoWordsLong_10 : decode prog_4_method_12_code 10 = .ok (.iload_n 0, 1) := by decide +kernel
theorem d_Mac_isTwoWordsLong_11 : decode prog_4_method_12_code 11 = .ok (.bipush 8, 2) := by decide +kernel
theorem d_Mac_isTwoWordsLong_13 : decode prog_4_method_12_code 13 = .ok (.if_icmp .ne 7, 3) := by decide +kernel
theorem d_Mac_isTwoWordsLong_16 : decode prog_4_method_12_code 16 = .ok (.iconst 1, 1) := by decide +kernel
theorem d_Mac_isTwoWordsLong_17 : decode prog_4_method_12_code 17 = .ok (.goto 4, 3) := by decide +kernel
theorem d_Mac_isTwoWordsLong_20 : decode prog_4_method_12_code 20 = .ok (.iconst 0, 1) := by decide +kernel
theorem d_Mac_isTwoWordsLong_21 : decode prog_4_method_12_code 21 = .ok (.ireturn, 1) := by decide +kernel
theorem d_Mac_doTwoWords_0 : decode prog_4_method_13_code 0 = .ok (.aload_n 0, 1) := by decide +kernel
theorem d_Mac_doTwoWords_1 : decode prog_4_method_13_code 1 = .ok (.aload_n 0, 1) := by decide +kernel
theorem d_Mac_doTwoWords_2 : decode prog_4_method_13_code 2 = .ok (.getfield 53, 3) := by decide +kernel
theorem d_Mac_doTwoWords_5 : decode prog_4_method_13_code 5 = .ok (.iconst 1, 1) := by decide +kernel
theorem d_Mac_doTwoWords_6 : decode prog_4_method_13_code 6 = .ok (.iadd, 1) := by decide +kernel
theorem d_Mac_doTwoWords_7 : decode prog_4_method_13_code 7 = .ok (.invokevirtual 78, 3) := by decide +kernel
theorem d_Mac_doTwoWords_10 : decode prog_4_method_13_code 10 = .ok (.ifCond .eq 22, 3) := by decide +kernel
theorem d_Mac_doTwoWords_13 : decode prog_4_method_13_code 13 = .ok (.aload_n 0, 1) := by decide +kernel
theorem d_Mac_doTwoWords_14 : decode prog_4_method_13_code 14 = .ok (.iload_n 1, 1) := by decide +kernel
theorem d_Mac_doTwoWords_15 : decode prog_4_method_13_code 15 = .ok (.aload_n 0, 1) := by decide +kernel
theorem d_Mac_doTwoWords_16 : decode prog_4_method_13_code 16 = .ok (.getfield 9, 3) := by decide +kernel
theorem d_Mac_doTwoWords_19 : decode prog_4_method_13_code 19 = .ok (.aload_n 0, 1) := by decide +kernel
theorem d_Mac_doTwoWords_20 : decode prog_4_method_13_code 20 = .ok (.getfield 53, 3) := by decide +kernel
theorem d_Mac_doTwoWords_23 : decode prog_4_method_13_code 23 = .ok (.iconst 1, 1) := by decide +kernel
theorem d_Mac_doTwoWords_24 : decode prog_4_method_13_code 24 = .ok (.iadd, 1) := by decide +kernel
theorem d_Mac_doTwoWords_25 : decode prog_4_method_13_code 25 = .ok (.iaload, 1) := by decide +kernel
theorem d_Mac_doTwoWords_26 : decode prog_4_method_13_code 26 = .ok (.invokevirtual 95, 3) := by decide +kernel
theorem d_Mac_doTwoWords_29 : decode prog_4_method_13_code 29 = .ok (.ifCond .ne 9, 3) := by decide +kernel
theorem d_Mac_doTwoWords_32 : decode prog_4_method_13_code 32 = .ok (.aload_n 0, 1) := by decide +kernel
theorem d_Mac_doTwoWords_33 : decode prog_4_method_13_code 33 = .ok (.iconst 3, 1) := by decide +kernel
theorem d_Mac_doTwoWords_34 : decode prog_4_method_13_code 34 = .ok (.putfield 56, 3) := by decide +kernel
theorem d_Mac_doTwoWords_37 : decode prog_4_method_13_code 37 = .ok (.return_, 1) := by decide +kernel
theorem d_Mac_doTwoWords_38 : decode prog_4_method_13_code 38 = .ok (.aload_n 0, 1) := by decide +kernel
theorem d_Mac_doTwoWords_39 : decode prog_4_method_13_code 39 = .ok (.getfield 9, 3) := by decide +kernel
theorem d_Mac_doTwoWords_42 : decode prog_4_method_13_code 42 = .ok (.aload_n 0, 1) := by decide +kernel
theorem d_Mac_doTwoWords_43 : decode prog_4_method_13_code 43 = .ok (.getfield 53, 3) := by decide +kernel
theorem d_Mac_doTwoWords_46 : decode prog_4_method_13_code 46 = .ok (.iconst 1, 1) := by decide +kernel
theorem d_Mac_doTwoWords_47 : decode prog_4_method_13_code 47 = .ok (.iadd, 1) := by decide +kernel
theorem d_Mac_doTwoWords_48 : decode prog_4_method_13_code 48 = .ok (.iaload, 1) := by decide +kernel
theorem d_Mac_doTwoWords_49 : decode prog_4_method_13_code 49 = .ok (.istore_n 3, 1) := by decide +kernel
theorem d_Mac_doTwoWords_50 : decode prog_4_method_13_code 50 = .ok (.aload_n 0, 1) := by decide +kernel
theorem d_Mac_doTwoWords_51 : decode prog_4_method_13_code 51 = .ok (.getfield 53, 3) := by decide +kernel
theorem d_Mac_doTwoWords_54 : decode prog_4_method_13_code 54 = .ok (.iconst 2, 1) := by decide +kernel
theorem d_Mac_doTwoWords_55 : decode prog_4_method_13_code 55 = .ok (.iadd, 1) := by decide +kernel
theorem d_Mac_doTwoWords_56 : decode prog_4_method_13_code 56 = .ok (.invokestatic 99, 3) := by decide +kernel
theorem d_Mac_doTwoWords_59 : decode prog_4_method_13_code 59 = .ok (.istore 4, 2) := by decide +kernel
theorem d_Mac_doTwoWords_61 : decode prog_4_method_13_code 61 = .ok (.iload_n 1, 1) := by decide +kernel
theorem d_Mac_doTwoWords_62 : decode prog_4_method_13_code 62 = .ok (.tableswitch 126 1 6 #[38, 46, 59, 72, 93, 114], 38) := by decide +kernel
theorem d_Mac_doTwoWords_100 : decode prog_4_method_13_code 100 = .ok (.aload_n 0, 1) := by decide +kernel
theorem d_Mac_doTwoWords_101 : decode prog_4_method_13_code 101 = .ok (.iload_n 3, 1) := by decide +kernel
theorem d_Mac_doTwoWords_102 : decode prog_4_method_13_code 102 = .ok (.putfield 44, 3) := by decide +kernel
theorem d_Mac_doTwoWords_105 : decode prog_4_method_13_code 105 = .ok (.goto 99, 3) := by decide +kernel
theorem d_Mac_doTwoWords_108 : decode prog_4_method_13_code 108 = .ok (.aload_n 0, 1) := by decide +kernel
theorem d_Mac_doTwoWords_109 : decode prog_4_method_13_code 109 = .ok (.aload_n 0, 1) := by decide +kernel
theorem d_Mac_doTwoWords_110 : decode prog_4_method_13_code 110 = .ok (.getfield 9, 3) := by decide +kernel
theorem d_Mac_doTwoWords_113 : decode prog_4_method_13_code 113 = .ok (.iload_n 3, 1) := by decide +kernel
theorem d_Mac_doTwoWords_114 : decode prog_4_method_13_code 114 = .ok (.iaload, 1) := by decide +kernel
theorem d_Mac_doTwoWords_115 : decode prog_4_method_13_code 115 = .ok (.putfield 44, 3) := by decide +kernel
theorem d_Mac_doTwoWords_118 : decode prog_4_method_13_code 118 = .ok (.goto 86, 3) := by decide +kernel
theorem d_Mac_doTwoWords_121 : decode prog_4_method_13_code 121 = .ok (.aload_n 0, 1) := by decide +kernel
theorem d_Mac_doTwoWords_122 : decode prog_4_method_13_code 122 = .ok (.getfield 9, 3) := by decide +kernel
theorem d_Mac_doTwoWords_125 : decode prog_4_method_13_code 125 = .ok (.iload_n 3, 1) := by decide +kernel
theorem d_Mac_doTwoWords_126 : decode prog_4_method_13_code 126 = .ok (.aload_n 0, 1) := by decide +kernel
theorem d_Mac_doTwoWords_127 : decode prog_4_method_13_code 127 = .ok (.getfield 44, 3) := by decide +kernel
theorem d_Mac_doTwoWords_130 : decode prog_4_method_13_code 130 = .ok (.iastore, 1) := by decide +kernel
theorem d_Mac_doTwoWords_131 : decode prog_4_method_13_code 131 = .ok (.goto 73, 3) := by decide +kernel
theorem d_Mac_doTwoWords_134 : decode prog_4_method_13_code 134 = .ok (.aload_n 0, 1) := by decide +kernel
theorem d_Mac_doTwoWords_135 : decode prog_4_method_13_code 135 = .ok (.aload_n 0, 1) := by decide +kernel
theorem d_Mac_doTwoWords_136 : decode prog_4_method_13_code 136 = .ok (.getfield 44, 3) := by decide +kernel
theorem d_Mac_doTwoWords_139 : decode prog_4_method_13_code 139 = .ok (.aload_n 0, 1) := by decide +kernel
theorem d_Mac_doTwoWords_140 : decode prog_4_method_13_code 140 = .ok (.getfield 9, 3) := by decide +kernel
theorem d_Mac_doTwoWords_143 : decode prog_4_method_13_code 143 = .ok (.iload_n 3, 1) := by decide +kernel
theorem d_Mac_doTwoWords_144 : decode prog_4_method_13_code 144 = .ok (.iaload, 1) := by decide +kernel
theorem d_Mac_doTwoWords_145 : decode prog_4_method_13_code 145 = .ok (.iadd, 1) := by decide +kernel
theorem d_Mac_doTwoWords_146 : decode prog_4_method_13_code 146 = .ok (.invokestatic 99, 3) := by decide +kernel
theorem d_Mac_doTwoWords_149 : decode prog_4_method_13_code 149 = .ok (.putfield 44, 3) := by decide +kernel
theorem d_Mac_doTwoWords_152 : decode prog_4_method_13_code 152 = .ok (.goto 52, 3) := by decide +kernel
theorem d_Mac_doTwoWords_155 : decode prog_4_method_13_code 155 = .ok (.aload_n 0, 1) := by decide +kernel
theorem d_Mac_doTwoWords_156 : decode prog_4_method_13_code 156 = .ok (.aload_n 0, 1) := by decide +kernel
theorem d_Mac_doTwoWords_157 : decode prog_4_method_13_code 157 = .ok (.getfield 44, 3) := by decide +kernel
theorem d_Mac_doTwoWords_160 : decode prog_4_method_13_code 160 = .ok (.aload_n 0, 1) := by decide +kernel
theorem d_Mac_doTwoWords_161 : decode prog_4_method_13_code 161 = .ok (.getfield 9, 3) := by decide +kernel
theorem d_Mac_doTwoWords_164 : decode prog_4_method_13_code 164 = .ok (.iload_n 3, 1) := by decide +kernel
theorem d_Mac_doTwoWords_165 : decode prog_4_method_13_code 165 = .ok (.iaload, 1) := by decide +kernel
theorem d_Mac_doTwoWords_166 : decode prog_4_method_13_code 166 = .ok (.isub, 1) := by decide +kernel
theorem d_Mac_doTwoWords_167 : decode prog_4_method_13_code 167 = .ok (.invokestatic 99, 3) := by decide +kernel
theorem d_Mac_doTwoWords_170 : decode prog_4_method_13_code 170 = .ok (.putfield 44, 3) := by decide +kernel
theorem d_Mac_doTwoWords_173 : decode prog_4_method_13_code 173 = .ok (.goto 31, 3) := by decide +kernel
theorem d_Mac_doTwoWords_176 : decode prog_4_method_13_code 176 = .ok (.aload_n 0, 1) := by decide +kernel
theorem d_Mac_doTwoWords_177 : decode prog_4_method_13_code 177 = .ok (.iload 4, 2) := by decide +kernel
theorem d_Mac_doTwoWords_179 : decode prog_4_method_13_code 179 = .ok (.putfield 47, 3) := by decide +kernel
theorem d_Mac_doTwoWords_182 : decode prog_4_method_13_code 182 = .ok (.iload_n 3, 1) := by decide +kernel
theorem d_Mac_doTwoWords_183 : decode prog_4_method_13_code 183 = .ok (.istore 4, 2) := by decide +kernel
theorem d_Mac_doTwoWords_185 : decode prog_4_method_13_code 185 = .ok (.goto 19, 3) := by decide +kernel
theorem d_Mac_doTwoWords_188 : decode prog_4_method_13_code 188 = .ok (.aload_n 0, 1) := by decide +kernel
theorem d_Mac_doTwoWords_189 : decode prog_4_method_13_code 189 = .ok (.iload_n 2, 1) := by decide +kernel
theorem d_Mac_doTwoWords_190 : decode prog_4_method_13_code 190 = .ok (.invokevirtual 102, 3) := by decide +kernel
theorem d_Mac_doTwoWords_193 : decode prog_4_method_13_code 193 = .ok (.ifCond .eq 7, 3) := by decide +kernel
theorem d_Mac_doTwoWords_196 : decode prog_4_method_13_code 196 = .ok (.iload_n 3, 1) := by decide +kernel
theorem d_Mac_doTwoWords_197 : decode prog_4_method_13_code 197 = .ok (.goto 5, 3) := by decide +kernel
theorem d_Mac_doTwoWords_200 : decode prog_4_method_13_code 200 = .ok (.iload 4, 2) := by decide +kernel
theorem d_Mac_doTwoWords_202 : decode prog_4_method_13_code 202 = .ok (.istore 4, 2) := by decide +kernel
theorem d_Mac_doTwoWords_204 : decode prog_4_method_13_code 204 = .ok (.aload_n 0, 1) := by decide +kernel
theorem d_Mac_doTwoWords_205 : decode prog_4_method_13_code 205 = .ok (.iload 4, 2) := by decide +kernel
theorem d_Mac_doTwoWords_207 : decode prog_4_method_13_code 207 = .ok (.putfield 53, 3) := by decide +kernel
theorem d_Mac_doTwoWords_210 : decode prog_4_method_13_code 210 = .ok (.return_, 1) := by decide +kernel
theorem d_Mac_mayTouch_0 : decode prog_4_method_14_code 0 = .ok (.iload_n 1, 1) := by decide +kernel
theorem d_Mac_mayTouch_1 : decode prog_4_method_14_code 1 = .ok (.iconst 3, 1) := by decide +kernel
theorem d_Mac_mayTouch_2 : decode prog_4_method_14_code 2 = .ok (.if_icmp .ne 13, 3) := by decide +kernel
theorem d_Mac_mayTouch_5 : decode prog_4_method_14_code 5 = .ok (.iload_n 2, 1) := by decide +kernel
theorem d_Mac_mayTouch_6 : decode prog_4_method_14_code 6 = .ok (.aload_n 0, 1) := by decide +kernel
theorem d_Mac_mayTouch_7 : decode prog_4_method_14_code 7 = .ok (.getfield 38, 3) := by decide +kernel
theorem d_Mac_mayTouch_10 : decode prog_4_method_14_code 10 = .ok (.if_icmp .ge 5, 3) := by decide +kernel
theorem d_Mac_mayTouch_13 : decode prog_4_method_14_code 13 = .ok (.iconst 0, 1) := by decide +kernel
theorem d_Mac_mayTouch_14 : decode prog_4_method_14_code 14 = .ok (.ireturn, 1) := by decide +kernel
theorem d_Mac_mayTouch_15 : decode prog_4_method_14_code 15 = .ok (.iload_n 1, 1) := by decide +kernel
theorem d_Mac_mayTouch_16 : decode prog_4_method_14_code 16 = .ok (.iconst 2, 1) := by decide +kernel
theorem d_Mac_mayTouch_17 : decode prog_4_method_14_code 17 = .ok (.iconst 5, 1) := by decide +kernel
theorem d_Mac_mayTouch_18 : decode prog_4_method_14_code 18 = .ok (.invokestatic 81, 3) := by decide +kernel
theorem d_Mac_mayTouch_21 : decode prog_4_method_14_code 21 = .ok (.ifCond .eq 11, 3) := by decide +kernel
theorem d_Mac_mayTouch_24 : decode prog_4_method_14_code 24 = .ok (.aload_n 0, 1) := by decide +kernel
theorem d_Mac_mayTouch_25 : decode prog_4_method_14_code 25 = .ok (.iload_n 2, 1) := by decide +kernel
theorem d_Mac_mayTouch_26 : decode prog_4_method_14_code 26 = .ok (.invokevirtual 78, 3) := by decide +kernel
theorem d_Mac_mayTouch_29 : decode prog_4_method_14_code 29 = .ok (.ifCond .eq 7, 3) := by decide +kernel
theorem d_Mac_mayTouch_32 : decode prog_4_method_14_code 32 = .ok (.iconst 1, 1) := by decide +kernel
theorem d_Mac_mayTouch_33 : decode prog_4_method_14_code 33 = .ok (.goto 4, 3) := by decide +kernel
theorem d_Mac_mayTouch_36 : decode prog_4_method_14_code 36 = .ok (.iconst 0, 1) := by decide +kernel
theorem d_Mac_mayTouch_37 : decode prog_4_method_14_code 37 = .ok (.ireturn, 1) := by decide +kernel
theorem d_Mac_doOneWord_0 : decode prog_4_method_15_code 0 = .ok (.iload_n 1, 1) := by decide +kernel
theorem d_Mac_doOneWord_1 : decode prog_4_method_15_code 1 = .ok (.bipush 12, 2) := by decide +kernel
theorem d_Mac_doOneWord_3 : decode prog_4_method_15_code 3 = .ok (.if_icmp .ne 20, 3) := by decide +kernel
theorem d_Mac_doOneWord_6 : decode prog_4_method_15_code 6 = .ok (.aload_n 0, 1) := by decide +kernel
theorem d_Mac_doOneWord_7 : decode prog_4_method_15_code 7 = .ok (.aload_n 0, 1) := by decide +kernel
theorem d_Mac_doOneWord_8 : decode prog_4_method_15_code 8 = .ok (.getfield 44, 3) := by decide +kernel
theorem d_Mac_doOneWord_11 : decode prog_4_method_15_code 11 = .ok (.invokevirtual 78, 3) := by decide +kernel
theorem d_Mac_doOneWord_14 : decode prog_4_method_15_code 14 = .ok (.ifCond .ne 9, 3) := by decide +kernel
theorem d_Mac_doOneWord_17 : decode prog_4_method_15_code 17 = .ok (.aload_n 0, 1) := by decide +kernel
theorem d_Mac_doOneWord_18 : decode prog_4_method_15_code 18 = .ok (.iconst 3, 1) := by decide +kernel
theorem d_Mac_doOneWord_19 : decode prog_4_method_15_code 19 = .ok (.putfield 56, 3) := by decide +kernel
theorem d_Mac_doOneWord_22 : decode prog_4_method_15_code 22 = .ok (.return_, 1) := by decide +kernel
theorem d_Mac_doOneWord_23 : decode prog_4_method_15_code 23 = .ok (.aload_n 0, 1) := by decide +kernel
theorem d_Mac_doOneWord_24 : decode prog_4_method_15_code 24 = .ok (.getfield 53, 3) := by decide +kernel
theorem d_Mac_doOneWord_27 : decode prog_4_method_15_code 27 = .ok (.iconst 1, 1) := by decide +kernel
theorem d_Mac_doOneWord_28 : decode prog_4_method_15_code 28 = .ok (.iadd, 1) := by decide +kernel
theorem d_Mac_doOneWord_29 : decode prog_4_method_15_code 29 = .ok (.invokestatic 99, 3) := by decide +kernel
theorem d_Mac_doOneWord_32 : decode prog_4_method_15_code 32 = .ok (.istore_n 3, 1) := by decide +kernel
theorem d_Mac_doOneWord_33 : decode prog_4_method_15_code 33 = .ok (.iload_n 1, 1) := by decide +kernel
theorem d_Mac_doOneWord_34 : decode prog_4_method_15_code 34 = .ok (.tableswitch 150 0 12 #[66, 150, 150, 150, 150, 150, 150, 79, 150, 87, 116, 123, 134], 66) := by decide +kernel
theorem d_Mac_doOneWord_100 : decode prog_4_method_15_code 100 = .ok (.aload_n 0, 1) := by decide +kernel
theorem d_Mac_doOneWord_101 : decode prog_4_method_15_code 101 = .ok (.iconst 1, 1) := by decide +kernel
theorem d_Mac_doOneWord_102 : decode prog_4_method_15_code 102 = .ok (.putfield 56, 3) := by decide +kernel
theorem d_Mac_doOneWord_105 : decode prog_4_method_15_code 105 = .ok (.aload_n 0, 1) := by decide +kernel
theorem d_Mac_doOneWord_106 : decode prog_4_method_15_code 106 = .ok (.getfield 53, 3) := by decide +kernel
theorem d_Mac_doOneWord_109 : decode prog_4_method_15_code 109 = .ok (.istore_n 3, 1) := by decide +kernel
theorem d_Mac_doOneWord_110 : decode prog_4_method_15_code 110 = .ok (.goto 87, 3) := by decide +kernel
theorem d_Mac_doOneWord_113 : decode prog_4_method_15_code 113 = .ok (.aload_n 0, 1) := by decide +kernel
theorem d_Mac_doOneWord_114 : decode prog_4_method_15_code 114 = .ok (.getfield 47, 3) := by decide +kernel
theorem d_Mac_doOneWord_117 : decode prog_4_method_15_code 117 = .ok (.istore_n 3, 1) := by decide +kernel
theorem d_Mac_doOneWord_118 : decode prog_4_method_15_code 118 = .ok (.goto 79, 3) := by decide +kernel
theorem d_Mac_doOneWord_121 : decode prog_4_method_15_code 121 = .ok (.aload_n 0, 1) := by decide +kernel
theorem d_Mac_doOneWord_122 : decode prog_4_method_15_code 122 = .ok (.iload_n 2, 1) := by decide +kernel
theorem d_Mac_doOneWord_123 : decode prog_4_method_15_code 123 = .ok (.invokevirtual 102, 3) := by decide +kernel
theorem d_Mac_doOneWord_126 : decode prog_4_method_15_code 126 = .ok (.ifCond .eq 19, 3) := by decide +kernel
theorem d_Mac_doOneWord_129 : decode prog_4_method_15_code 129 = .ok (.iload_n 3, 1) := by decide +kernel
theorem d_Mac_doOneWord_130 : decode prog_4_method_15_code 130 = .ok (.iload_n 2, 1) := by decide +kernel
theorem d_Mac_doOneWord_131 : decode prog_4_method_15_code 131 = .ok (.sipush 256, 3) := by decide +kernel
theorem d_Mac_doOneWord_134 : decode prog_4_method_15_code 134 = .ok (.irem, 1) := by decide +kernel
theorem d_Mac_doOneWord_135 : decode prog_4_method_15_code 135 = .ok (.invokestatic 105, 3) := by decide +kernel
theorem d_Mac_doOneWord_138 : decode prog_4_method_15_code 138 = .ok (.iadd, 1) := by decide +kernel
theorem d_Mac_doOneWord_139 : decode prog_4_method_15_code 139 = .ok (.invokestatic 99, 3) := by decide +kernel
theorem d_Mac_doOneWord_142 : decode prog_4_method_15_code 142 = .ok (.goto 4, 3) := by decide +kernel
theorem d_Mac_doOneWord_145 : decode prog_4_method_15_code 145 = .ok (.iload_n 3, 1) := by decide +kernel
theorem d_Mac_doOneWord_146 : decode prog_4_method_15_code 146 = .ok (.istore_n 3, 1) := by decide +kernel
theorem d_Mac_doOneWord_147 : decode prog_4_method_15_code 147 = .ok (.goto 50, 3) := by decide +kernel
theorem d_Mac_doOneWord_150 : decode prog_4_method_15_code 150 = .ok (.aload_n 0, 1) := by decide +kernel
theorem d_Mac_doOneWord_151 : decode prog_4_method_15_code 151 = .ok (.invokevirtual 108, 3) := by decide +kernel
theorem d_Mac_doOneWord_154 : decode prog_4_method_15_code 154 = .ok (.goto 43, 3) := by decide +kernel
theorem d_Mac_doOneWord_157 : decode prog_4_method_15_code 157 = .ok (.aload_n 0, 1) := by decide +kernel
theorem d_Mac_doOneWord_158 : decode prog_4_method_15_code 158 = .ok (.aload_n 0, 1) := by decide +kernel
theorem d_Mac_doOneWord_159 : decode prog_4_method_15_code 159 = .ok (.invokevirtual 111, 3) := by decide +kernel
theorem d_Mac_doOneWord_162 : decode prog_4_method_15_code 162 = .ok (.putfield 44, 3) := by decide +kernel
theorem d_Mac_doOneWord_165 : decode prog_4_method_15_code 165 = .ok (.goto 32, 3) := by decide +kernel
theorem d_Mac_doOneWord_168 : decode prog_4_method_15_code 168 = .ok (.aload_n 0, 1) := by decide +kernel
theorem d_Mac_doOneWord_169 : decode prog_4_method_15_code 169 = .ok (.aload_n 0, 1) := by decide +kernel
theorem d_Mac_doOneWord_170 : decode prog_4_method_15_code 170 = .ok (.getfield 9, 3) := by decide +kernel
theorem d_Mac_doOneWord_173 : decode prog_4_method_15_code 173 = .ok (.aload_n 0, 1) := by decide +kernel
theorem d_Mac_doOneWord_174 : decode prog_4_method_15_code 174 = .ok (.getfield 44, 3) := by decide +kernel
theorem d_Mac_doOneWord_177 : decode prog_4_method_15_code 177 = .ok (.iaload, 1) := by decide +kernel
theorem d_Mac_doOneWord_178 : decode prog_4_method_15_code 178 = .ok (.putfield 44, 3) := by decide +kernel
theorem d_Mac_doOneWord_181 : decode prog_4_method_15_code 181 = .ok (.goto 16, 3) := by decide +kernel
theorem d_Mac_doOneWord_184 : decode prog_4_method_15_code 184 = .ok (.aload_n 0, 1) := by decide +kernel
theorem d_Mac_doOneWord_185 : decode prog_4_method_15_code 185 = .ok (.aload_n 0, 1) := by decide +kernel
theorem d_Mac_doOneWord_186 : decode prog_4_method_15_code 186 = .ok (.getfield 44, 3) := by decide +kernel
theorem d_Mac_doOneWord_189 : decode prog_4_method_15_code 189 = .ok (.iload_n 2, 1) := by decide +kernel
theorem d_Mac_doOneWord_190 : decode prog_4_method_15_code 190 = .ok (.bipush 16, 2) := by decide +kernel
theorem d_Mac_doOneWord_192 : decode prog_4_method_15_code 192 = .ok (.irem, 1) := by decide +kernel
theorem d_Mac_doOneWord_193 : decode prog_4_method_15_code 193 = .ok (.iushr, 1) := by decide +kernel
theorem d_Mac_doOneWord_194 : decode prog_4_method_15_code 194 = .ok (.putfield 44, 3) := by decide +kernel
theorem d_Mac_doOneWord_197 : decode prog_4_method_15_code 197 = .ok (.aload_n 0, 1) := by decide +kernel
theorem d_Mac_doOneWord_198 : decode prog_4_method_15_code 198 = .ok (.iload_n 3, 1) := by decide +kernel
theorem d_Mac_doOneWord_199 : decode prog_4_method_15_code 199 = .ok (.putfield 53, 3) := by decide +kernel
theorem d_Mac_doOneWord_202 : decode prog_4_method_15_code 202 = .ok (.return_, 1) := by decide +kernel
theorem d_Mac_signed_0 : decode prog_4_method_16_code 0 = .ok (.iload_n 0, 1) := by decide +kernel
theorem d_Mac_signed_1 : decode prog_4_method_16_code 1 = .ok (.bipush 127, 2) := by decide +kernel
theorem d_Mac_signed_3 : decode prog_4_method_16_code 3 = .ok (.if_icmp .le 11, 3) := by decide +kernel
theorem d_Mac_signed_6 : decode prog_4_method_16_code 6 = .ok (.iload_n 0, 1) := by decide +kernel
theorem d_Mac_signed_7 : decode prog_4_method_16_code 7 = .ok (.sipush 256, 3) := by decide +kernel
theorem d_Mac_signed_10 : decode prog_4_method_16_code 10 = .ok (.isub, 1) := by decide +kernel
theorem d_Mac_signed_11 : decode prog_4_method_16_code 11 = .ok (.goto 4, 3) := by decide +kernel
theorem d_Mac_signed_14 : decode prog_4_method_16_code 14 = .ok (.iload_n 0, 1) := by decide +kernel
theorem d_Mac_signed_15 : decode prog_4_method_16_code 15 = .ok (.ireturn, 1) := by decide +kernel
theorem d_Mac_conditionHolds_0 : decode prog_4_method_17_code 0 = .ok (.iload_n 1, 1) := by decide +kernel
theorem d_Mac_conditionHolds_1 : decode prog_4_method_17_code 1 = .ok (.sipush 256, 3) := by decide +kernel
theorem d_Mac_conditionHolds_4 : decode prog_4_method_17_code 4 = .ok (.idiv, 1) := by decide +kernel
theorem d_Mac_conditionHolds_5 : decode prog_4_method_17_code 5 = .ok (.iconst 4, 1) := by decide +kernel
theorem d_Mac_conditionHolds_6 : decode prog_4_method_17_code 6 = .ok (.irem, 1) := by decide +kernel
theorem d_Mac_conditionHolds_7 : decode prog_4_method_17_code 7 = .ok (.tableswitch 55 0 2 #[25, 27, 40], 25) := by decide +kernel
theorem d_Mac_conditionHolds_32 : decode prog_4_method_17_code 32 = .ok (.iconst 1, 1) := by decide +kernel
theorem d_Mac_conditionHolds_33 : decode prog_4_method_17_code 33 = .ok (.ireturn, 1) := by decide +kernel
theorem d_Mac_conditionHolds_34 : decode prog_4_method_17_code 34 = .ok (.aload_n 0, 1) := by decide +kernel
theorem d_Mac_conditionHolds_35 : decode prog_4_method_17_code 35 = .ok (.getfield 44, 3) := by decide +kernel
theorem d_Mac_conditionHolds_38 : decode prog_4_method_17_code 38 = .ok (.ifCond .ne 7, 3) := by decide +kernel
theorem d_Mac_conditionHolds_41 : decode prog_4_method_17_code 41 = .ok (.iconst 1, 1) := by decide +kernel
theorem d_Mac_conditionHolds_42 : decode prog_4_method_17_code 42 = .ok (.goto 4, 3) := by decide +kernel
theorem d_Mac_conditionHolds_45 : decode prog_4_method_17_code 45 = .ok (.iconst 0, 1) := by decide +kernel
theorem d_Mac_conditionHolds_46 : decode prog_4_method_17_code 46 = .ok (.ireturn, 1) := by decide +kernel
theorem d_Mac_conditionHolds_47 : decode prog_4_method_17_code 47 = .ok (.aload_n 0, 1) := by decide +kernel
theorem d_Mac_conditionHolds_48 : decode prog_4_method_17_code 48 = .ok (.getfield 44, 3) := by decide +kernel
theorem d_Mac_conditionHolds_51 : decode prog_4_method_17_code 51 = .ok (.ldc 114, 2) := by decide +kernel
theorem d_Mac_conditionHolds_53 : decode prog_4_method_17_code 53 = .ok (.if_icmp .lt 7, 3) := by decide +kernel
theorem d_Mac_conditionHolds_56 : decode prog_4_method_17_code 56 = .ok (.iconst 1, 1) := by decide +kernel
theorem d_Mac_conditionHolds_57 : decode prog_4_method_17_code 57 = .ok (.goto 4, 3) := by decide +kernel
theorem d_Mac_conditionHolds_60 : decode prog_4_method_17_code 60 = .ok (.iconst 0, 1) := by decide +kernel
theorem d_Mac_conditionHolds_61 : decode prog_4_method_17_code 61 = .ok (.ireturn, 1) := by decide +kernel
theorem d_Mac_conditionHolds_62 : decode prog_4_method_17_code 62 = .ok (.aload_n 0, 1) := by decide +kernel
theorem d_Mac_conditionHolds_63 : decode prog_4_method_17_code 63 = .ok (.getfield 44, 3) := by decide +kernel
theorem d_Mac_conditionHolds_66 : decode prog_4_method_17_code 66 = .ok (.ifCond .eq 7, 3) := by decide +kernel
theorem d_Mac_conditionHolds_69 : decode prog_4_method_17_code 69 = .ok (.iconst 1, 1) := by decide +kernel
theorem d_Mac_conditionHolds_70 : decode prog_4_method_17_code 70 = .ok (.goto 4, 3) := by decide +kernel
theorem d_Mac_conditionHolds_73 : decode prog_4_method_17_code 73 = .ok (.iconst 0, 1) := by decide +kernel
theorem d_Mac_conditionHolds_74 : decode prog_4_method_17_code 74 = .ok (.ireturn, 1) := by decide +kernel
theorem d_Mac_putOutA_0 : decode prog_4_method_18_code 0 = .ok (.iconst 3, 1) := by decide +kernel
theorem d_Mac_putOutA_1 : decode prog_4_method_18_code 1 = .ok (.istore_n 1, 1) := by decide +kernel
theorem d_Mac_putOutA_2 : decode prog_4_method_18_code 2 = .ok (.iload_n 1, 1) := by decide +kernel
theorem d_Mac_putOutA_3 : decode prog_4_method_18_code 3 = .ok (.ifCond .le 23, 3) := by decide +kernel
theorem d_Mac_putOutA_6 : decode prog_4_method_18_code 6 = .ok (.aload_n 0, 1) := by decide +kernel
theorem d_Mac_putOutA_7 : decode prog_4_method_18_code 7 = .ok (.getfield 18, 3) := by decide +kernel
theorem d_Mac_putOutA_10 : decode prog_4_method_18_code 10 = .ok (.iload_n 1, 1) := by decide +kernel
theorem d_Mac_putOutA_11 : decode prog_4_method_18_code 11 = .ok (.aload_n 0, 1) := by decide +kernel
theorem d_Mac_putOutA_12 : decode prog_4_method_18_code 12 = .ok (.getfield 18, 3) := by decide +kernel
theorem d_Mac_putOutA_15 : decode prog_4_method_18_code 15 = .ok (.iload_n 1, 1) := by decide +kernel
theorem d_Mac_putOutA_16 : decode prog_4_method_18_code 16 = .ok (.iconst 1, 1) := by decide +kernel
theorem d_Mac_putOutA_17 : decode prog_4_method_18_code 17 = .ok (.isub, 1) := by decide +kernel
theorem d_Mac_putOutA_18 : decode prog_4_method_18_code 18 = .ok (.iaload, 1) := by decide +kernel
theorem d_Mac_putOutA_19 : decode prog_4_method_18_code 19 = .ok (.iastore, 1) := by decide +kernel
theorem d_Mac_putOutA_20 : decode prog_4_method_18_code 20 = .ok (.iinc 1 (-1), 3) := by decide +kernel
theorem d_Mac_putOutA_23 : decode prog_4_method_18_code 23 = .ok (.goto (-21), 3) := by decide +kernel
theorem d_Mac_putOutA_26 : decode prog_4_method_18_code 26 = .ok (.aload_n 0, 1) := by decide +kernel
theorem d_Mac_putOutA_27 : decode prog_4_method_18_code 27 = .ok (.getfield 18, 3) := by decide +kernel
theorem d_Mac_putOutA_30 : decode prog_4_method_18_code 30 = .ok (.iconst 0, 1) := by decide +kernel
theorem d_Mac_putOutA_31 : decode prog_4_method_18_code 31 = .ok (.aload_n 0, 1) := by decide +kernel
theorem d_Mac_putOutA_32 : decode prog_4_method_18_code 32 = .ok (.getfield 44, 3) := by decide +kernel
theorem d_Mac_putOutA_35 : decode prog_4_method_18_code 35 = .ok (.iastore, 1) := by decide +kernel
theorem d_Mac_putOutA_36 : decode prog_4_method_18_code 36 = .ok (.aload_n 0, 1) := by decide +kernel
theorem d_Mac_putOutA_37 : decode prog_4_method_18_code 37 = .ok (.dup, 1) := by decide +kernel
theorem d_Mac_putOutA_38 : decode prog_4_method_18_code 38 = .ok (.getfield 65, 3) := by decide +kernel
theorem d_Mac_putOutA_41 : decode prog_4_method_18_code 41 = .ok (.iconst 1, 1) := by decide +kernel
theorem d_Mac_putOutA_42 : decode prog_4_method_18_code 42 = .ok (.iadd, 1) := by decide +kernel
theorem d_Mac_putOutA_43 : decode prog_4_method_18_code 43 = .ok (.putfield 65, 3) := by decide +kernel
theorem d_Mac_putOutA_46 : decode prog_4_method_18_code 46 = .ok (.return_, 1) := by decide +kernel
theorem d_Mac_nextOfTape_0 : decode prog_4_method_19_code 0 = .ok (.aload_n 0, 1) := by decide +kernel
theorem d_Mac_nextOfTape_1 : decode prog_4_method_19_code 1 = .ok (.getfield 62, 3) := by decide +kernel
theorem d_Mac_nextOfTape_4 : decode prog_4_method_19_code 4 = .ok (.aload_n 0, 1) := by decide +kernel
theorem d_Mac_nextOfTape_5 : decode prog_4_method_19_code 5 = .ok (.getfield 59, 3) := by decide +kernel
theorem d_Mac_nextOfTape_8 : decode prog_4_method_19_code 8 = .ok (.if_icmp .lt 5, 3) := by decide +kernel
theorem d_Mac_nextOfTape_11 : decode prog_4_method_19_code 11 = .ok (.iconst 0, 1) := by decide +kernel
theorem d_Mac_nextOfTape_12 : decode prog_4_method_19_code 12 = .ok (.ireturn, 1) := by decide +kernel
theorem d_Mac_nextOfTape_13 : decode prog_4_method_19_code 13 = .ok (.aload_n 0, 1) := by decide +kernel
theorem d_Mac_nextOfTape_14 : decode prog_4_method_19_code 14 = .ok (.getfield 15, 3) := by decide +kernel
theorem d_Mac_nextOfTape_17 : decode prog_4_method_19_code 17 = .ok (.aload_n 0, 1) := by decide +kernel
theorem d_Mac_nextOfTape_18 : decode prog_4_method_19_code 18 = .ok (.getfield 62, 3) := by decide +kernel
theorem d_Mac_nextOfTape_21 : decode prog_4_method_19_code 21 = .ok (.iaload, 1) := by decide +kernel
theorem d_Mac_nextOfTape_22 : decode prog_4_method_19_code 22 = .ok (.istore_n 1, 1) := by decide +kernel
theorem d_Mac_nextOfTape_23 : decode prog_4_method_19_code 23 = .ok (.aload_n 0, 1) := by decide +kernel
theorem d_Mac_nextOfTape_24 : decode prog_4_method_19_code 24 = .ok (.dup, 1) := by decide +kernel
theorem d_Mac_nextOfTape_25 : decode prog_4_method_19_code 25 = .ok (.getfield 62, 3) := by decide +kernel
end
section
theorem d_Mac_nextOfTape_28 : decode prog_4_method_19_code 28 = .ok (.iconst 1, 1) := by decide +kernel
theorem d_Mac_nextOfTape_29 : decode prog_4_method_19_code 29 = .ok (.iadd, 1) := by decide +kernel
theorem d_Mac_nextOfTape_30 : decode prog_4_method_19_code 30 = .ok (.putfield 62, 3) := by decide +kernel
theorem d_Mac_nextOfTape_33 : decode prog_4_method_19_code 33 = .ok (.iload_n 1, 1) := by decide +kernel
theorem d_Mac_nextOfTape_34 : decode prog_4_method_19_code 34 = .ok (.ireturn, 1) := by decide +kernel
theorem d_Row_init_0 : decode prog_5_method_1_code 0 = .ok (.aload_n 0, 1) := by decide +kernel
theorem d_Row_init_1 : decode prog_5_method_1_code 1 = .ok (.invokespecial 3, 3) := by decide +kernel
theorem d_Row_init_4 : decode prog_5_method_1_code 4 = .ok (.aload_n 0, 1) := by decide +kernel
theorem d_Row_init_5 : decode prog_5_method_1_code 5 = .ok (.iload_n 1, 1) := by decide +kernel
theorem d_Row_init_6 : decode prog_5_method_1_code 6 = .ok (.newarray .int, 2) := by decide +kernel
theorem d_Row_init_8 : decode prog_5_method_1_code 8 = .ok (.putfield 9, 3) := by decide +kernel
theorem d_Row_init_11 : decode prog_5_method_1_code 11 = .ok (.return_, 1) := by decide +kernel
theorem d_Row_howMany_0 : decode prog_5_method_2_code 0 = .ok (.aload_n 0, 1) := by decide +kernel
theorem d_Row_howMany_1 : decode prog_5_method_2_code 1 = .ok (.getfield 15, 3) := by decide +kernel
theorem d_Row_howMany_4 : decode prog_5_method_2_code 4 = .ok (.ireturn, 1) := by decide +kernel
theorem d_Row_at_0 : decode prog_5_method_3_code 0 = .ok (.iload_n 1, 1) := by decide +kernel
theorem d_Row_at_1 : decode prog_5_method_3_code 1 = .ok (.ifCond .lt 20, 3) := by decide +kernel
theorem d_Row_at_4 : decode prog_5_method_3_code 4 = .ok (.iload_n 1, 1) := by decide +kernel
theorem d_Row_at_5 : decode prog_5_method_3_code 5 = .ok (.aload_n 0, 1) := by decide +kernel
theorem d_Row_at_6 : decode prog_5_method_3_code 6 = .ok (.getfield 15, 3) := by decide +kernel
theorem d_Row_at_9 : decode prog_5_method_3_code 9 = .ok (.if_icmp .ge 12, 3) := by decide +kernel
theorem d_Row_at_12 : decode prog_5_method_3_code 12 = .ok (.aload_n 0, 1) := by decide +kernel
theorem d_Row_at_13 : decode prog_5_method_3_code 13 = .ok (.getfield 9, 3) := by decide +kernel
theorem d_Row_at_16 : decode prog_5_method_3_code 16 = .ok (.iload_n 1, 1) := by decide +kernel
theorem d_Row_at_17 : decode prog_5_method_3_code 17 = .ok (.iaload, 1) := by decide +kernel
theorem d_Row_at_18 : decode prog_5_method_3_code 18 = .ok (.goto 4, 3) := by decide +kernel
theorem d_Row_at_21 : decode prog_5_method_3_code 21 = .ok (.iconst (-1), 1) := by decide +kernel
theorem d_Row_at_22 : decode prog_5_method_3_code 22 = .ok (.ireturn, 1) := by decide +kernel
theorem d_Row_placeOf_0 : decode prog_5_method_4_code 0 = .ok (.iconst 0, 1) := by decide +kernel
theorem d_Row_placeOf_1 : decode prog_5_method_4_code 1 = .ok (.istore_n 2, 1) := by decide +kernel
theorem d_Row_placeOf_2 : decode prog_5_method_4_code 2 = .ok (.iload_n 2, 1) := by decide +kernel
theorem d_Row_placeOf_3 : decode prog_5_method_4_code 3 = .ok (.aload_n 0, 1) := by decide +kernel
theorem d_Row_placeOf_4 : decode prog_5_method_4_code 4 = .ok (.getfield 15, 3) := by decide +kernel
theorem d_Row_placeOf_7 : decode prog_5_method_4_code 7 = .ok (.if_icmp .ge 21, 3) := by decide +kernel
theorem d_Row_placeOf_10 : decode prog_5_method_4_code 10 = .ok (.aload_n 0, 1) := by decide +kernel
theorem d_Row_placeOf_11 : decode prog_5_method_4_code 11 = .ok (.getfield 9, 3) := by decide +kernel
theorem d_Row_placeOf_14 : decode prog_5_method_4_code 14 = .ok (.iload_n 2, 1) := by decide +kernel
theorem d_Row_placeOf_15 : decode prog_5_method_4_code 15 = .ok (.iaload, 1) := by decide +kernel
theorem d_Row_placeOf_16 : decode prog_5_method_4_code 16 = .ok (.iload_n 1, 1) := by decide +kernel
theorem d_Row_placeOf_17 : decode prog_5_method_4_code 17 = .ok (.if_icmp .ne 5, 3) := by decide +kernel
theorem d_Row_placeOf_20 : decode prog_5_method_4_code 20 = .ok (.iload_n 2, 1) := by decide +kernel
theorem d_Row_placeOf_21 : decode prog_5_method_4_code 21 = .ok (.ireturn, 1) := by decide +kernel
theorem d_Row_placeOf_22 : decode prog_5_method_4_code 22 = .ok (.iinc 2 1, 3) := by decide +kernel
theorem d_Row_placeOf_25 : decode prog_5_method_4_code 25 = .ok (.goto (-23), 3) := by decide +kernel
theorem d_Row_placeOf_28 : decode prog_5_method_4_code 28 = .ok (.iconst (-1), 1) := by decide +kernel
theorem d_Row_placeOf_29 : decode prog_5_method_4_code 29 = .ok (.ireturn, 1) := by decide +kernel
theorem d_Row_holds_0 : decode prog_5_method_5_code 0 = .ok (.aload_n 0, 1) := by decide +kernel
theorem d_Row_holds_1 : decode prog_5_method_5_code 1 = .ok (.iload_n 1, 1) := by decide +kernel
theorem d_Row_holds_2 : decode prog_5_method_5_code 2 = .ok (.invokevirtual 19, 3) := by decide +kernel
theorem d_Row_holds_5 : decode prog_5_method_5_code 5 = .ok (.iconst (-1), 1) := by decide +kernel
theorem d_Row_holds_6 : decode prog_5_method_5_code 6 = .ok (.if_icmp .eq 7, 3) := by decide +kernel
theorem d_Row_holds_9 : decode prog_5_method_5_code 9 = .ok (.iconst 1, 1) := by decide +kernel
theorem d_Row_holds_10 : decode prog_5_method_5_code 10 = .ok (.goto 4, 3) := by decide +kernel
theorem d_Row_holds_13 : decode prog_5_method_5_code 13 = .ok (.iconst 0, 1) := by decide +kernel
theorem d_Row_holds_14 : decode prog_5_method_5_code 14 = .ok (.ireturn, 1) := by decide +kernel
theorem d_Row_append_0 : decode prog_5_method_6_code 0 = .ok (.aload_n 0, 1) := by decide +kernel
theorem d_Row_append_1 : decode prog_5_method_6_code 1 = .ok (.aload_n 0, 1) := by decide +kernel
theorem d_Row_append_2 : decode prog_5_method_6_code 2 = .ok (.getfield 15, 3) := by decide +kernel
theorem d_Row_append_5 : decode prog_5_method_6_code 5 = .ok (.iload_n 1, 1) := by decide +kernel
theorem d_Row_append_6 : decode prog_5_method_6_code 6 = .ok (.invokevirtual 23, 3) := by decide +kernel
theorem d_Row_append_9 : decode prog_5_method_6_code 9 = .ok (.ireturn, 1) := by decide +kernel
theorem d_Row_insert_0 : decode prog_5_method_7_code 0 = .ok (.aload_n 0, 1) := by decide +kernel
theorem d_Row_insert_1 : decode prog_5_method_7_code 1 = .ok (.getfield 15, 3) := by decide +kernel
theorem d_Row_insert_4 : decode prog_5_method_7_code 4 = .ok (.aload_n 0, 1) := by decide +kernel
theorem d_Row_insert_5 : decode prog_5_method_7_code 5 = .ok (.getfield 9, 3) := by decide +kernel
theorem d_Row_insert_8 : decode prog_5_method_7_code 8 = .ok (.arraylength, 1) := by decide +kernel
theorem d_Row_insert_9 : decode prog_5_method_7_code 9 = .ok (.if_icmp .ge 15, 3) := by decide +kernel
theorem d_Row_insert_12 : decode prog_5_method_7_code 12 = .ok (.iload_n 1, 1) := by decide +kernel
theorem d_Row_insert_13 : decode prog_5_method_7_code 13 = .ok (.ifCond .lt 11, 3) := by decide +kernel
theorem d_Row_insert_16 : decode prog_5_method_7_code 16 = .ok (.iload_n 1, 1) := by decide +kernel
theorem d_Row_insert_17 : decode prog_5_method_7_code 17 = .ok (.aload_n 0, 1) := by decide +kernel
theorem d_Row_insert_18 : decode prog_5_method_7_code 18 = .ok (.getfield 15, 3) := by decide +kernel
theorem d_Row_insert_21 : decode prog_5_method_7_code 21 = .ok (.if_icmp .le 5, 3) := by decide +kernel
theorem d_Row_insert_24 : decode prog_5_method_7_code 24 = .ok (.iconst 0, 1) := by decide +kernel
theorem d_Row_insert_25 : decode prog_5_method_7_code 25 = .ok (.ireturn, 1) := by decide +kernel
theorem d_Row_insert_26 : decode prog_5_method_7_code 26 = .ok (.aload_n 0, 1) := by decide +kernel
theorem d_Row_insert_27 : decode prog_5_method_7_code 27 = .ok (.getfield 15, 3) := by decide +kernel
theorem d_Row_insert_30 : decode prog_5_method_7_code 30 = .ok (.istore_n 3, 1) := by decide +kernel
theorem d_Row_insert_31 : decode prog_5_method_7_code 31 = .ok (.iload_n 3, 1) := by decide +kernel
theorem d_Row_insert_32 : decode prog_5_method_7_code 32 = .ok (.iload_n 1, 1) := by decide +kernel
theorem d_Row_insert_33 : decode prog_5_method_7_code 33 = .ok (.if_icmp .le 23, 3) := by decide +kernel
theorem d_Row_insert_36 : decode prog_5_method_7_code 36 = .ok (.aload_n 0, 1) := by decide +kernel
theorem d_Row_insert_37 : decode prog_5_method_7_code 37 = .ok (.getfield 9, 3) := by decide +kernel
theorem d_Row_insert_40 : decode prog_5_method_7_code 40 = .ok (.iload_n 3, 1) := by decide +kernel
theorem d_Row_insert_41 : decode prog_5_method_7_code 41 = .ok (.aload_n 0, 1) := by decide +kernel
theorem d_Row_insert_42 : decode prog_5_method_7_code 42 = .ok (.getfield 9, 3) := by decide +kernel
theorem d_Row_insert_45 : decode prog_5_method_7_code 45 = .ok (.iload_n 3, 1) := by decide +kernel
theorem d_Row_insert_46 : decode prog_5_method_7_code 46 = .ok (.iconst 1, 1) := by decide +kernel
theorem d_Row_insert_47 : decode prog_5_method_7_code 47 = .ok (.isub, 1) := by decide +kernel
theorem d_Row_insert_48 : decode prog_5_method_7_code 48 = .ok (.iaload, 1) := by decide +kernel
theorem d_Row_insert_49 : decode prog_5_method_7_code 49 = .ok (.iastore, 1) := by decide +kernel
theorem d_Row_insert_50 : decode prog_5_method_7_code 50 = .ok (.iinc 3 (-1), 3) := by decide +kernel
theorem d_Row_insert_53 : decode prog_5_method_7_code 53 = .ok (.goto (-22), 3) := by decide +kernel
theorem d_Row_insert_56 : decode prog_5_method_7_code 56 = .ok (.aload_n 0, 1) := by decide +kernel
theorem d_Row_insert_57 : decode prog_5_method_7_code 57 = .ok (.getfield 9, 3) := by decide +kernel
theorem d_Row_insert_60 : decode prog_5_method_7_code 60 = .ok (.iload_n 1, 1) := by decide +kernel
theorem d_Row_insert_61 : decode prog_5_method_7_code 61 = .ok (.iload_n 2, 1) := by decide +kernel
theorem d_Row_insert_62 : decode prog_5_method_7_code 62 = .ok (.iastore, 1) := by decide +kernel
theorem d_Row_insert_63 : decode prog_5_method_7_code 63 = .ok (.aload_n 0, 1) := by decide +kernel
theorem d_Row_insert_64 : decode prog_5_method_7_code 64 = .ok (.dup, 1) := by decide +kernel
theorem d_Row_insert_65 : decode prog_5_method_7_code 65 = .ok (.getfield 15, 3) := by decide +kernel
theorem d_Row_insert_68 : decode prog_5_method_7_code 68 = .ok (.iconst 1, 1) := by decide +kernel
theorem d_Row_insert_69 : decode prog_5_method_7_code 69 = .ok (.iadd, 1) := by decide +kernel
theorem d_Row_insert_70 : decode prog_5_method_7_code 70 = .ok (.putfield 15, 3) := by decide +kernel
theorem d_Row_insert_73 : decode prog_5_method_7_code 73 = .ok (.iconst 1, 1) := by decide +kernel
theorem d_Row_insert_74 : decode prog_5_method_7_code 74 = .ok (.ireturn, 1) := by decide +kernel
theorem d_Row_takeOut_0 : decode prog_5_method_8_code 0 = .ok (.aload_n 0, 1) := by decide +kernel
theorem d_Row_takeOut_1 : decode prog_5_method_8_code 1 = .ok (.iload_n 1, 1) := by decide +kernel
theorem d_Row_takeOut_2 : decode prog_5_method_8_code 2 = .ok (.invokevirtual 19, 3) := by decide +kernel
theorem d_Row_takeOut_5 : decode prog_5_method_8_code 5 = .ok (.istore_n 2, 1) := by decide +kernel
theorem d_Row_takeOut_6 : decode prog_5_method_8_code 6 = .ok (.iload_n 2, 1) := by decide +kernel
theorem d_Row_takeOut_7 : decode prog_5_method_8_code 7 = .ok (.iconst (-1), 1) := by decide +kernel
theorem d_Row_takeOut_8 : decode prog_5_method_8_code 8 = .ok (.if_icmp .ne 5, 3) := by decide +kernel
theorem d_Row_takeOut_11 : decode prog_5_method_8_code 11 = .ok (.iconst 0, 1) := by decide +kernel
theorem d_Row_takeOut_12 : decode prog_5_method_8_code 12 = .ok (.ireturn, 1) := by decide +kernel
theorem d_Row_takeOut_13 : decode prog_5_method_8_code 13 = .ok (.aload_n 0, 1) := by decide +kernel
theorem d_Row_takeOut_14 : decode prog_5_method_8_code 14 = .ok (.dup, 1) := by decide +kernel
theorem d_Row_takeOut_15 : decode prog_5_method_8_code 15 = .ok (.getfield 15, 3) := by decide +kernel
theorem d_Row_takeOut_18 : decode prog_5_method_8_code 18 = .ok (.iconst 1, 1) := by decide +kernel
theorem d_Row_takeOut_19 : decode prog_5_method_8_code 19 = .ok (.isub, 1) := by decide +kernel
theorem d_Row_takeOut_20 : decode prog_5_method_8_code 20 = .ok (.putfield 15, 3) := by decide +kernel
theorem d_Row_takeOut_23 : decode prog_5_method_8_code 23 = .ok (.iload_n 2, 1) := by decide +kernel
theorem d_Row_takeOut_24 : decode prog_5_method_8_code 24 = .ok (.istore_n 3, 1) := by decide +kernel
theorem d_Row_takeOut_25 : decode prog_5_method_8_code 25 = .ok (.iload_n 3, 1) := by decide +kernel
theorem d_Row_takeOut_26 : decode prog_5_method_8_code 26 = .ok (.aload_n 0, 1) := by decide +kernel
theorem d_Row_takeOut_27 : decode prog_5_method_8_code 27 = .ok (.getfield 15, 3) := by decide +kernel
theorem d_Row_takeOut_30 : decode prog_5_method_8_code 30 = .ok (.if_icmp .ge 23, 3) := by decide +kernel
theorem d_Row_takeOut_33 : decode prog_5_method_8_code 33 = .ok (.aload_n 0, 1) := by decide +kernel
theorem d_Row_takeOut_34 : decode prog_5_method_8_code 34 = .ok (.getfield 9, 3) := by decide +kernel
theorem d_Row_takeOut_37 : decode prog_5_method_8_code 37 = .ok (.iload_n 3, 1) := by decide +kernel
theorem d_Row_takeOut_38 : decode prog_5_method_8_code 38 = .ok (.aload_n 0, 1) := by decide +kernel
theorem d_Row_takeOut_39 : decode prog_5_method_8_code 39 = .ok (.getfield 9, 3) := by decide +kernel
theorem d_Row_takeOut_42 : decode prog_5_method_8_code 42 = .ok (.iload_n 3, 1) := by decide +kernel
theorem d_Row_takeOut_43 : decode prog_5_method_8_code 43 = .ok (.iconst 1, 1) := by decide +kernel
theorem d_Row_takeOut_44 : decode prog_5_method_8_code 44 = .ok (.iadd, 1) := by decide +kernel
theorem d_Row_takeOut_45 : decode prog_5_method_8_code 45 = .ok (.iaload, 1) := by decide +kernel
theorem d_Row_takeOut_46 : decode prog_5_method_8_code 46 = .ok (.iastore, 1) := by decide +kernel
theorem d_Row_takeOut_47 : decode prog_5_method_8_code 47 = .ok (.iinc 3 1, 3) := by decide +kernel
theorem d_Row_takeOut_50 : decode prog_5_method_8_code 50 = .ok (.goto (-25), 3) := by decide +kernel
theorem d_Row_takeOut_53 : decode prog_5_method_8_code 53 = .ok (.iconst 1, 1) := by decide +kernel
theorem d_Row_takeOut_54 : decode prog_5_method_8_code 54 = .ok (.ireturn, 1) := by decide +kernel
theorem d_Row_makeEmpty_0 : decode prog_5_method_9_code 0 = .ok (.aload_n 0, 1) := by decide +kernel
theorem d_Row_makeEmpty_1 : decode prog_5_method_9_code 1 = .ok (.iconst 0, 1) := by decide +kernel
theorem d_Row_makeEmpty_2 : decode prog_5_method_9_code 2 = .ok (.putfield 15, 3) := by decide +kernel
theorem d_Row_makeEmpty_5 : decode prog_5_method_9_code 5 = .ok (.return_, 1) := by decide +kernel
theorem d_Mod_init_0 : decode prog_6_method_1_code 0 = .ok (.aload_n 0, 1) := by decide +kernel
theorem d_Mod_init_1 : decode prog_6_method_1_code 1 = .ok (.invokespecial 3, 3) := by decide +kernel
theorem d_Mod_init_4 : decode prog_6_method_1_code 4 = .ok (.aload_n 0, 1) := by decide +kernel
theorem d_Mod_init_5 : decode prog_6_method_1_code 5 = .ok (.bipush 20, 2) := by decide +kernel
theorem d_Mod_init_7 : decode prog_6_method_1_code 7 = .ok (.newarray .int, 2) := by decide +kernel
theorem d_Mod_init_9 : decode prog_6_method_1_code 9 = .ok (.putfield 9, 3) := by decide +kernel
theorem d_Mod_init_12 : decode prog_6_method_1_code 12 = .ok (.aload_n 0, 1) := by decide +kernel
theorem d_Mod_init_13 : decode prog_6_method_1_code 13 = .ok (.bipush 20, 2) := by decide +kernel
theorem d_Mod_init_15 : decode prog_6_method_1_code 15 = .ok (.newarray .int, 2) := by decide +kernel
theorem d_Mod_init_17 : decode prog_6_method_1_code 17 = .ok (.putfield 15, 3) := by decide +kernel
theorem d_Mod_init_20 : decode prog_6_method_1_code 20 = .ok (.aload_n 0, 1) := by decide +kernel
theorem d_Mod_init_21 : decode prog_6_method_1_code 21 = .ok (.bipush 20, 2) := by decide +kernel
theorem d_Mod_init_23 : decode prog_6_method_1_code 23 = .ok (.newarray .int, 2) := by decide +kernel
theorem d_Mod_init_25 : decode prog_6_method_1_code 25 = .ok (.putfield 18, 3) := by decide +kernel
theorem d_Mod_init_28 : decode prog_6_method_1_code 28 = .ok (.aload_n 0, 1) := by decide +kernel
theorem d_Mod_init_29 : decode prog_6_method_1_code 29 = .ok (.bipush 20, 2) := by decide +kernel
theorem d_Mod_init_31 : decode prog_6_method_1_code 31 = .ok (.newarray .int, 2) := by decide +kernel
theorem d_Mod_init_33 : decode prog_6_method_1_code 33 = .ok (.putfield 21, 3) := by decide +kernel
theorem d_Mod_init_36 : decode prog_6_method_1_code 36 = .ok (.aload_n 0, 1) := by decide +kernel
theorem d_Mod_init_37 : decode prog_6_method_1_code 37 = .ok (.bipush 20, 2) := by decide +kernel
theorem d_Mod_init_39 : decode prog_6_method_1_code 39 = .ok (.newarray .int, 2) := by decide +kernel
theorem d_Mod_init_41 : decode prog_6_method_1_code 41 = .ok (.putfield 24, 3) := by decide +kernel
theorem d_Mod_init_44 : decode prog_6_method_1_code 44 = .ok (.aload_n 0, 1) := by decide +kernel
theorem d_Mod_init_45 : decode prog_6_method_1_code 45 = .ok (.bipush 20, 2) := by decide +kernel
theorem d_Mod_init_47 : decode prog_6_method_1_code 47 = .ok (.newarray .boolean, 2) := by decide +kernel
theorem d_Mod_init_49 : decode prog_6_method_1_code 49 = .ok (.putfield 27, 3) := by decide +kernel
theorem d_Mod_init_52 : decode prog_6_method_1_code 52 = .ok (.aload_n 0, 1) := by decide +kernel
theorem d_Mod_init_53 : decode prog_6_method_1_code 53 = .ok (.iconst 3, 1) := by decide +kernel
theorem d_Mod_init_54 : decode prog_6_method_1_code 54 = .ok (.newarray .int, 2) := by decide +kernel
theorem d_Mod_init_56 : decode prog_6_method_1_code 56 = .ok (.putfield 31, 3) := by decide +kernel
theorem d_Mod_init_59 : decode prog_6_method_1_code 59 = .ok (.aload_n 0, 1) := by decide +kernel
theorem d_Mod_init_60 : decode prog_6_method_1_code 60 = .ok (.bipush 16, 2) := by decide +kernel
theorem d_Mod_init_62 : decode prog_6_method_1_code 62 = .ok (.newarray .int, 2) := by decide +kernel
theorem d_Mod_init_64 : decode prog_6_method_1_code 64 = .ok (.putfield 34, 3) := by decide +kernel
theorem d_Mod_init_67 : decode prog_6_method_1_code 67 = .ok (.return_, 1) := by decide +kernel
theorem d_Mod_accepts_0 : decode prog_6_method_2_code 0 = .ok (.aload_n 0, 1) := by decide +kernel
theorem d_Mod_accepts_1 : decode prog_6_method_2_code 1 = .ok (.getfield 37, 3) := by decide +kernel
theorem d_Mod_accepts_4 : decode prog_6_method_2_code 4 = .ok (.bipush 20, 2) := by decide +kernel
theorem d_Mod_accepts_6 : decode prog_6_method_2_code 6 = .ok (.if_icmp .ge 33, 3) := by decide +kernel
theorem d_Mod_accepts_9 : decode prog_6_method_2_code 9 = .ok (.iload_n 1, 1) := by decide +kernel
theorem d_Mod_accepts_10 : decode prog_6_method_2_code 10 = .ok (.iload_n 2, 1) := by decide +kernel
theorem d_Mod_accepts_11 : decode prog_6_method_2_code 11 = .ok (.iload_n 3, 1) := by decide +kernel
theorem d_Mod_accepts_12 : decode prog_6_method_2_code 12 = .ok (.invokestatic 41, 3) := by decide +kernel
theorem d_Mod_accepts_15 : decode prog_6_method_2_code 15 = .ok (.ifCond .eq 24, 3) := by decide +kernel
theorem d_Mod_accepts_18 : decode prog_6_method_2_code 18 = .ok (.aload_n 0, 1) := by decide +kernel
theorem d_Mod_accepts_19 : decode prog_6_method_2_code 19 = .ok (.iload_n 1, 1) := by decide +kernel
theorem d_Mod_accepts_20 : decode prog_6_method_2_code 20 = .ok (.invokevirtual 45, 3) := by decide +kernel
theorem d_Mod_accepts_23 : decode prog_6_method_2_code 23 = .ok (.ifCond .eq 16, 3) := by decide +kernel
theorem d_Mod_accepts_26 : decode prog_6_method_2_code 26 = .ok (.aload_n 0, 1) := by decide +kernel
theorem d_Mod_accepts_27 : decode prog_6_method_2_code 27 = .ok (.iload_n 1, 1) := by decide +kernel
theorem d_Mod_accepts_28 : decode prog_6_method_2_code 28 = .ok (.iload_n 2, 1) := by decide +kernel
theorem d_Mod_accepts_29 : decode prog_6_method_2_code 29 = .ok (.invokevirtual 49, 3) := by decide +kernel
theorem d_Mod_accepts_32 : decode prog_6_method_2_code 32 = .ok (.ifCond .ne 7, 3) := by decide +kernel
theorem d_Mod_accepts_35 : decode prog_6_method_2_code 35 = .ok (.iconst 1, 1) := by decide +kernel
theorem d_Mod_accepts_36 : decode prog_6_method_2_code 36 = .ok (.goto 4, 3) := by decide +kernel
theorem d_Mod_accepts_39 : decode prog_6_method_2_code 39 = .ok (.iconst 0, 1) := by decide +kernel
theorem d_Mod_accepts_40 : decode prog_6_method_2_code 40 = .ok (.ireturn, 1) := by decide +kernel
theorem d_Mod_append_0 : decode prog_6_method_3_code 0 = .ok (.iload_n 1, 1) := by decide +kernel
theorem d_Mod_append_1 : decode prog_6_method_3_code 1 = .ok (.iconst 2, 1) := by decide +kernel
theorem d_Mod_append_2 : decode prog_6_method_3_code 2 = .ok (.if_icmp .ne 7, 3) := by decide +kernel
theorem d_Mod_append_5 : decode prog_6_method_3_code 5 = .ok (.iload_n 2, 1) := by decide +kernel
theorem d_Mod_append_6 : decode prog_6_method_3_code 6 = .ok (.goto 7, 3) := by decide +kernel
theorem d_Mod_append_9 : decode prog_6_method_3_code 9 = .ok (.aload_n 0, 1) := by decide +kernel
theorem d_Mod_append_10 : decode prog_6_method_3_code 10 = .ok (.invokevirtual 53, 3) := by decide +kernel
theorem d_Mod_append_13 : decode prog_6_method_3_code 13 = .ok (.istore 4, 2) := by decide +kernel
theorem d_Mod_append_15 : decode prog_6_method_3_code 15 = .ok (.aload_n 0, 1) := by decide +kernel
theorem d_Mod_append_16 : decode prog_6_method_3_code 16 = .ok (.getfield 9, 3) := by decide +kernel
theorem d_Mod_append_19 : decode prog_6_method_3_code 19 = .ok (.aload_n 0, 1) := by decide +kernel
theorem d_Mod_append_20 : decode prog_6_method_3_code 20 = .ok (.getfield 37, 3) := by decide +kernel
theorem d_Mod_append_23 : decode prog_6_method_3_code 23 = .ok (.iload_n 1, 1) := by decide +kernel
theorem d_Mod_append_24 : decode prog_6_method_3_code 24 = .ok (.iastore, 1) := by decide +kernel
theorem d_Mod_append_25 : decode prog_6_method_3_code 25 = .ok (.aload_n 0, 1) := by decide +kernel
theorem d_Mod_append_26 : decode prog_6_method_3_code 26 = .ok (.getfield 15, 3) := by decide +kernel
theorem d_Mod_append_29 : decode prog_6_method_3_code 29 = .ok (.aload_n 0, 1) := by decide +kernel
theorem d_Mod_append_30 : decode prog_6_method_3_code 30 = .ok (.getfield 37, 3) := by decide +kernel
theorem d_Mod_append_33 : decode prog_6_method_3_code 33 = .ok (.iload_n 2, 1) := by decide +kernel
theorem d_Mod_append_34 : decode prog_6_method_3_code 34 = .ok (.iastore, 1) := by decide +kernel
theorem d_Mod_append_35 : decode prog_6_method_3_code 35 = .ok (.aload_n 0, 1) := by decide +kernel
theorem d_Mod_append_36 : decode prog_6_method_3_code 36 = .ok (.getfield 18, 3) := by decide +kernel
theorem d_Mod_append_39 : decode prog_6_method_3_code 39 = .ok (.aload_n 0, 1) := by decide +kernel
theorem d_Mod_append_40 : decode prog_6_method_3_code 40 = .ok (.getfield 37, 3) := by decide +kernel
theorem d_Mod_append_43 : decode prog_6_method_3_code 43 = .ok (.iload_n 3, 1) := by decide +kernel
theorem d_Mod_append_44 : decode prog_6_method_3_code 44 = .ok (.iastore, 1) := by decide +kernel
theorem d_Mod_append_45 : decode prog_6_method_3_code 45 = .ok (.aload_n 0, 1) := by decide +kernel
theorem d_Mod_append_46 : decode prog_6_method_3_code 46 = .ok (.getfield 21, 3) := by decide +kernel
theorem d_Mod_append_49 : decode prog_6_method_3_code 49 = .ok (.aload_n 0, 1) := by decide +kernel
theorem d_Mod_append_50 : decode prog_6_method_3_code 50 = .ok (.getfield 37, 3) := by decide +kernel
theorem d_Mod_append_53 : decode prog_6_method_3_code 53 = .ok (.iload 4, 2) := by decide +kernel
theorem d_Mod_append_55 : decode prog_6_method_3_code 55 = .ok (.iastore, 1) := by decide +kernel
theorem d_Mod_append_56 : decode prog_6_method_3_code 56 = .ok (.aload_n 0, 1) := by decide +kernel
theorem d_Mod_append_57 : decode prog_6_method_3_code 57 = .ok (.iload_n 1, 1) := by decide +kernel
theorem d_Mod_append_58 : decode prog_6_method_3_code 58 = .ok (.iload_n 2, 1) := by decide +kernel
theorem d_Mod_append_59 : decode prog_6_method_3_code 59 = .ok (.invokevirtual 57, 3) := by decide +kernel
theorem d_Mod_append_62 : decode prog_6_method_3_code 62 = .ok (.aload_n 0, 1) := by decide +kernel
theorem d_Mod_append_63 : decode prog_6_method_3_code 63 = .ok (.dup, 1) := by decide +kernel
theorem d_Mod_append_64 : decode prog_6_method_3_code 64 = .ok (.getfield 37, 3) := by decide +kernel
theorem d_Mod_append_67 : decode prog_6_method_3_code 67 = .ok (.iconst 1, 1) := by decide +kernel
theorem d_Mod_append_68 : decode prog_6_method_3_code 68 = .ok (.iadd, 1) := by decide +kernel
theorem d_Mod_append_69 : decode prog_6_method_3_code 69 = .ok (.putfield 37, 3) := by decide +kernel
theorem d_Mod_append_72 : decode prog_6_method_3_code 72 = .ok (.aload_n 0, 1) := by decide +kernel
theorem d_Mod_append_73 : decode prog_6_method_3_code 73 = .ok (.invokevirtual 61, 3) := by decide +kernel
theorem d_Mod_append_76 : decode prog_6_method_3_code 76 = .ok (.return_, 1) := by decide +kernel
theorem d_Mod_takeAllAway_0 : decode prog_6_method_4_code 0 = .ok (.aload_n 0, 1) := by decide +kernel
theorem d_Mod_takeAllAway_1 : decode prog_6_method_4_code 1 = .ok (.getfield 37, 3) := by decide +kernel
theorem d_Mod_takeAllAway_4 : decode prog_6_method_4_code 4 = .ok (.istore_n 1, 1) := by decide +kernel
theorem d_Mod_takeAllAway_5 : decode prog_6_method_4_code 5 = .ok (.aload_n 0, 1) := by decide +kernel
theorem d_Mod_takeAllAway_6 : decode prog_6_method_4_code 6 = .ok (.iconst 0, 1) := by decide +kernel
theorem d_Mod_takeAllAway_7 : decode prog_6_method_4_code 7 = .ok (.putfield 37, 3) := by decide +kernel
theorem d_Mod_takeAllAway_10 : decode prog_6_method_4_code 10 = .ok (.aload_n 0, 1) := by decide +kernel
theorem d_Mod_takeAllAway_11 : decode prog_6_method_4_code 11 = .ok (.iconst 0, 1) := by decide +kernel
theorem d_Mod_takeAllAway_12 : decode prog_6_method_4_code 12 = .ok (.putfield 64, 3) := by decide +kernel
theorem d_Mod_takeAllAway_15 : decode prog_6_method_4_code 15 = .ok (.aload_n 0, 1) := by decide +kernel
theorem d_Mod_takeAllAway_16 : decode prog_6_method_4_code 16 = .ok (.iconst 0, 1) := by decide +kernel
theorem d_Mod_takeAllAway_17 : decode prog_6_method_4_code 17 = .ok (.putfield 67, 3) := by decide +kernel
theorem d_Mod_takeAllAway_20 : decode prog_6_method_4_code 20 = .ok (.aload_n 0, 1) := by decide +kernel
theorem d_Mod_takeAllAway_21 : decode prog_6_method_4_code 21 = .ok (.iconst 0, 1) := by decide +kernel
theorem d_Mod_takeAllAway_22 : decode prog_6_method_4_code 22 = .ok (.putfield 70, 3) := by decide +kernel
theorem d_Mod_takeAllAway_25 : decode prog_6_method_4_code 25 = .ok (.aload_n 0, 1) := by decide +kernel
theorem d_Mod_takeAllAway_26 : decode prog_6_method_4_code 26 = .ok (.iconst 0, 1) := by decide +kernel
theorem d_Mod_takeAllAway_27 : decode prog_6_method_4_code 27 = .ok (.putfield 73, 3) := by decide +kernel
theorem d_Mod_takeAllAway_30 : decode prog_6_method_4_code 30 = .ok (.aload_n 0, 1) := by decide +kernel
theorem d_Mod_takeAllAway_31 : decode prog_6_method_4_code 31 = .ok (.invokevirtual 61, 3) := by decide +kernel
theorem d_Mod_takeAllAway_34 : decode prog_6_method_4_code 34 = .ok (.iload_n 1, 1) := by decide +kernel
theorem d_Mod_takeAllAway_35 : decode prog_6_method_4_code 35 = .ok (.ireturn, 1) := by decide +kernel
theorem d_Mod_howMany_0 : decode prog_6_method_5_code 0 = .ok (.aload_n 0, 1) := by decide +kernel
theorem d_Mod_howMany_1 : decode prog_6_method_5_code 1 = .ok (.getfield 37, 3) := by decide +kernel
theorem d_Mod_howMany_4 : decode prog_6_method_5_code 4 = .ok (.ireturn, 1) := by decide +kernel
theorem d_Mod_kindOf_0 : decode prog_6_method_6_code 0 = .ok (.aload_n 0, 1) := by decide +kernel
theorem d_Mod_kindOf_1 : decode prog_6_method_6_code 1 = .ok (.getfield 9, 3) := by decide +kernel
theorem d_Mod_kindOf_4 : decode prog_6_method_6_code 4 = .ok (.iload_n 1, 1) := by decide +kernel
theorem d_Mod_kindOf_5 : decode prog_6_method_6_code 5 = .ok (.iaload, 1) := by decide +kernel
theorem d_Mod_kindOf_6 : decode prog_6_method_6_code 6 = .ok (.ireturn, 1) := by decide +kernel
theorem d_Mod_firstOf_0 : decode prog_6_method_7_code 0 = .ok (.aload_n 0, 1) := by decide +kernel
theorem d_Mod_firstOf_1 : decode prog_6_method_7_code 1 = .ok (.getfield 15, 3) := by decide +kernel
theorem d_Mod_firstOf_4 : decode prog_6_method_7_code 4 = .ok (.iload_n 1, 1) := by decide +kernel
theorem d_Mod_firstOf_5 : decode prog_6_method_7_code 5 = .ok (.iaload, 1) := by decide +kernel
theorem d_Mod_firstOf_6 : decode prog_6_method_7_code 6 = .ok (.ireturn, 1) := by decide +kernel
theorem d_Mod_secondOf_0 : decode prog_6_method_8_code 0 = .ok (.aload_n 0, 1) := by decide +kernel
theorem d_Mod_secondOf_1 : decode prog_6_method_8_code 1 = .ok (.getfield 18, 3) := by decide +kernel
theorem d_Mod_secondOf_4 : decode prog_6_method_8_code 4 = .ok (.iload_n 1, 1) := by decide +kernel
theorem d_Mod_secondOf_5 : decode prog_6_method_8_code 5 = .ok (.iaload, 1) := by decide +kernel
theorem d_Mod_secondOf_6 : decode prog_6_method_8_code 6 = .ok (.ireturn, 1) := by decide +kernel
theorem d_Mod_sectionOf_0 : decode prog_6_method_9_code 0 = .ok (.aload_n 0, 1) := by decide +kernel
theorem d_Mod_sectionOf_1 : decode prog_6_method_9_code 1 = .ok (.getfield 21, 3) := by decide +kernel
theorem d_Mod_sectionOf_4 : decode prog_6_method_9_code 4 = .ok (.iload_n 1, 1) := by decide +kernel
theorem d_Mod_sectionOf_5 : decode prog_6_method_9_code 5 = .ok (.iaload, 1) := by decide +kernel
theorem d_Mod_sectionOf_6 : decode prog_6_method_9_code 6 = .ok (.ireturn, 1) := by decide +kernel
theorem d_Mod_placeOf_0 : decode prog_6_method_10_code 0 = .ok (.aload_n 0, 1) := by decide +kernel
theorem d_Mod_placeOf_1 : decode prog_6_method_10_code 1 = .ok (.getfield 24, 3) := by decide +kernel
theorem d_Mod_placeOf_4 : decode prog_6_method_10_code 4 = .ok (.iload_n 1, 1) := by decide +kernel
theorem d_Mod_placeOf_5 : decode prog_6_method_10_code 5 = .ok (.iaload, 1) := by decide +kernel
theorem d_Mod_placeOf_6 : decode prog_6_method_10_code 6 = .ok (.ireturn, 1) := by decide +kernel
theorem d_Mod_holderOf_0 : decode prog_6_method_11_code 0 = .ok (.aload_n 0, 1) := by decide +kernel
theorem d_Mod_holderOf_1 : decode prog_6_method_11_code 1 = .ok (.getfield 34, 3) := by decide +kernel
theorem d_Mod_holderOf_4 : decode prog_6_method_11_code 4 = .ok (.iload_n 1, 1) := by decide +kernel
theorem d_Mod_holderOf_5 : decode prog_6_method_11_code 5 = .ok (.iaload, 1) := by decide +kernel
theorem d_Mod_holderOf_6 : decode prog_6_method_11_code 6 = .ok (.ireturn, 1) := by decide +kernel
theorem d_Mod_wordsIn_0 : decode prog_6_method_12_code 0 = .ok (.aload_n 0, 1) := by decide +kernel
theorem d_Mod_wordsIn_1 : decode prog_6_method_12_code 1 = .ok (.getfield 31, 3) := by decide +kernel
theorem d_Mod_wordsIn_4 : decode prog_6_method_12_code 4 = .ok (.iload_n 1, 1) := by decide +kernel
theorem d_Mod_wordsIn_5 : decode prog_6_method_12_code 5 = .ok (.iaload, 1) := by decide +kernel
theorem d_Mod_wordsIn_6 : decode prog_6_method_12_code 6 = .ok (.ireturn, 1) := by decide +kernel
theorem d_Mod_isLongJump_0 : decode prog_6_method_13_code 0 = .ok (.iload_n 1, 1) := by decide +kernel
theorem d_Mod_isLongJump_1 : decode prog_6_method_13_code 1 = .ok (.ifCond .lt 24, 3) := by decide +kernel
theorem d_Mod_isLongJump_4 : decode prog_6_method_13_code 4 = .ok (.iload_n 1, 1) := by decide +kernel
theorem d_Mod_isLongJump_5 : decode prog_6_method_13_code 5 = .ok (.aload_n 0, 1) := by decide +kernel
theorem d_Mod_isLongJump_6 : decode prog_6_method_13_code 6 = .ok (.getfield 37, 3) := by decide +kernel
theorem d_Mod_isLongJump_9 : decode prog_6_method_13_code 9 = .ok (.if_icmp .ge 16, 3) := by decide +kernel
theorem d_Mod_isLongJump_12 : decode prog_6_method_13_code 12 = .ok (.aload_n 0, 1) := by decide +kernel
theorem d_Mod_isLongJump_13 : decode prog_6_method_13_code 13 = .ok (.getfield 27, 3) := by decide +kernel
theorem d_Mod_isLongJump_16 : decode prog_6_method_13_code 16 = .ok (.iload_n 1, 1) := by decide +kernel
theorem d_Mod_isLongJump_17 : decode prog_6_method_13_code 17 = .ok (.baload, 1) := by decide +kernel
theorem d_Mod_isLongJump_18 : decode prog_6_method_13_code 18 = .ok (.ifCond .eq 7, 3) := by decide +kernel
theorem d_Mod_isLongJump_21 : decode prog_6_method_13_code 21 = .ok (.iconst 1, 1) := by decide +kernel
theorem d_Mod_isLongJump_22 : decode prog_6_method_13_code 22 = .ok (.goto 4, 3) := by decide +kernel
theorem d_Mod_isLongJump_25 : decode prog_6_method_13_code 25 = .ok (.iconst 0, 1) := by decide +kernel
theorem d_Mod_isLongJump_26 : decode prog_6_method_13_code 26 = .ok (.ireturn, 1) := by decide +kernel
theorem d_Mod_distanceOf_0 : decode prog_6_method_14_code 0 = .ok (.aload_n 0, 1) := by decide +kernel
theorem d_Mod_distanceOf_1 : decode prog_6_method_14_code 1 = .ok (.getfield 24, 3) := by decide +kernel
theorem d_Mod_distanceOf_4 : decode prog_6_method_14_code 4 = .ok (.aload_n 0, 1) := by decide +kernel
theorem d_Mod_distanceOf_5 : decode prog_6_method_14_code 5 = .ok (.getfield 34, 3) := by decide +kernel
theorem d_Mod_distanceOf_8 : decode prog_6_method_14_code 8 = .ok (.aload_n 0, 1) := by decide +kernel
theorem d_Mod_distanceOf_9 : decode prog_6_method_14_code 9 = .ok (.getfield 15, 3) := by decide +kernel
theorem d_Mod_distanceOf_12 : decode prog_6_method_14_code 12 = .ok (.iload_n 1, 1) := by decide +kernel
theorem d_Mod_distanceOf_13 : decode prog_6_method_14_code 13 = .ok (.iaload, 1) := by decide +kernel
theorem d_Mod_distanceOf_14 : decode prog_6_method_14_code 14 = .ok (.iaload, 1) := by decide +kernel
theorem d_Mod_distanceOf_15 : decode prog_6_method_14_code 15 = .ok (.iaload, 1) := by decide +kernel
theorem d_Mod_distanceOf_16 : decode prog_6_method_14_code 16 = .ok (.aload_n 0, 1) := by decide +kernel
theorem d_Mod_distanceOf_17 : decode prog_6_method_14_code 17 = .ok (.getfield 24, 3) := by decide +kernel
theorem d_Mod_distanceOf_20 : decode prog_6_method_14_code 20 = .ok (.iload_n 1, 1) := by decide +kernel
theorem d_Mod_distanceOf_21 : decode prog_6_method_14_code 21 = .ok (.iaload, 1) := by decide +kernel
theorem d_Mod_distanceOf_22 : decode prog_6_method_14_code 22 = .ok (.isub, 1) := by decide +kernel
theorem d_Mod_distanceOf_23 : decode prog_6_method_14_code 23 = .ok (.iconst 1, 1) := by decide +kernel
theorem d_Mod_distanceOf_24 : decode prog_6_method_14_code 24 = .ok (.isub, 1) := by decide +kernel
theorem d_Mod_distanceOf_25 : decode prog_6_method_14_code 25 = .ok (.ireturn, 1) := by decide +kernel
theorem d_Mod_defines_0 : decode prog_6_method_15_code 0 = .ok (.aload_n 0, 1) := by decide +kernel
theorem d_Mod_defines_1 : decode prog_6_method_15_code 1 = .ok (.getfield 64, 3) := by decide +kernel
theorem d_Mod_defines_4 : decode prog_6_method_15_code 4 = .ok (.iload_n 1, 1) := by decide +kernel
theorem d_Mod_defines_5 : decode prog_6_method_15_code 5 = .ok (.invokestatic 76, 3) := by decide +kernel
theorem d_Mod_defines_8 : decode prog_6_method_15_code 8 = .ok (.ireturn, 1) := by decide +kernel
theorem d_Mod_exportedNames_0 : decode prog_6_method_16_code 0 = .ok (.aload_n 0, 1) := by decide +kernel
theorem d_Mod_exportedNames_1 : decode prog_6_method_16_code 1 = .ok (.getfield 64, 3) := by decide +kernel
theorem d_Mod_exportedNames_4 : decode prog_6_method_16_code 4 = .ok (.aload_n 0, 1) := by decide +kernel
theorem d_Mod_exportedNames_5 : decode prog_6_method_16_code 5 = .ok (.getfield 70, 3) := by decide +kernel
theorem d_Mod_exportedNames_8 : decode prog_6_method_16_code 8 = .ok (.iand, 1) := by decide +kernel
theorem d_Mod_exportedNames_9 : decode prog_6_method_16_code 9 = .ok (.ireturn, 1) := by decide +kernel
theorem d_Mod_referredNames_0 : decode prog_6_method_17_code 0 = .ok (.aload_n 0, 1) := by decide +kernel
theorem d_Mod_referredNames_1 : decode prog_6_method_17_code 1 = .ok (.getfield 70, 3) := by decide +kernel
theorem d_Mod_referredNames_4 : decode prog_6_method_17_code 4 = .ok (.aload_n 0, 1) := by decide +kernel
theorem d_Mod_referredNames_5 : decode prog_6_method_17_code 5 = .ok (.getfield 73, 3) := by decide +kernel
theorem d_Mod_referredNames_8 : decode prog_6_method_17_code 8 = .ok (.ior, 1) := by decide +kernel
theorem d_Mod_referredNames_9 : decode prog_6_method_17_code 9 = .ok (.aload_n 0, 1) := by decide +kernel
theorem d_Mod_referredNames_10 : decode prog_6_method_17_code 10 = .ok (.getfield 64, 3) := by decide +kernel
theorem d_Mod_referredNames_13 : decode prog_6_method_17_code 13 = .ok (.iconst (-1), 1) := by decide +kernel
theorem d_Mod_referredNames_14 : decode prog_6_method_17_code 14 = .ok (.ixor, 1) := by decide +kernel
theorem d_Mod_referredNames_15 : decode prog_6_method_17_code 15 = .ok (.iand, 1) := by decide +kernel
theorem d_Mod_referredNames_16 : decode prog_6_method_17_code 16 = .ok (.aload_n 0, 1) := by decide +kernel
theorem d_Mod_referredNames_17 : decode prog_6_method_17_code 17 = .ok (.getfield 67, 3) := by decide +kernel
theorem d_Mod_referredNames_20 : decode prog_6_method_17_code 20 = .ok (.iconst (-1), 1) := by decide +kernel
theorem d_Mod_referredNames_21 : decode prog_6_method_17_code 21 = .ok (.ixor, 1) := by decide +kernel
theorem d_Mod_referredNames_22 : decode prog_6_method_17_code 22 = .ok (.iand, 1) := by decide +kernel
theorem d_Mod_referredNames_23 : decode prog_6_method_17_code 23 = .ok (.ireturn, 1) := by decide +kernel
theorem d_Mod_commons_0 : decode prog_6_method_18_code 0 = .ok (.aload_n 0, 1) := by decide +kernel
theorem d_Mod_commons_1 : decode prog_6_method_18_code 1 = .ok (.getfield 67, 3) := by decide +kernel
theorem d_Mod_commons_4 : decode prog_6_method_18_code 4 = .ok (.ireturn, 1) := by decide +kernel
theorem d_Mod_wordsOfCommon_0 : decode prog_6_method_19_code 0 = .ok (.aload_n 0, 1) := by decide +kernel
theorem d_Mod_wordsOfCommon_1 : decode prog_6_method_19_code 1 = .ok (.getfield 67, 3) := by decide +kernel
theorem d_Mod_wordsOfCommon_4 : decode prog_6_method_19_code 4 = .ok (.iload_n 1, 1) := by decide +kernel
theorem d_Mod_wordsOfCommon_5 : decode prog_6_method_19_code 5 = .ok (.invokestatic 76, 3) := by decide +kernel
theorem d_Mod_wordsOfCommon_8 : decode prog_6_method_19_code 8 = .ok (.ifCond .eq 17, 3) := by decide +kernel
theorem d_Mod_wordsOfCommon_11 : decode prog_6_method_19_code 11 = .ok (.aload_n 0, 1) := by decide +kernel
theorem d_Mod_wordsOfCommon_12 : decode prog_6_method_19_code 12 = .ok (.getfield 18, 3) := by decide +kernel
theorem d_Mod_wordsOfCommon_15 : decode prog_6_method_19_code 15 = .ok (.aload_n 0, 1) := by decide +kernel
theorem d_Mod_wordsOfCommon_16 : decode prog_6_method_19_code 16 = .ok (.getfield 34, 3) := by decide +kernel
theorem d_Mod_wordsOfCommon_19 : decode prog_6_method_19_code 19 = .ok (.iload_n 1, 1) := by decide +kernel
theorem d_Mod_wordsOfCommon_20 : decode prog_6_method_19_code 20 = .ok (.iaload, 1) := by decide +kernel
theorem d_Mod_wordsOfCommon_21 : decode prog_6_method_19_code 21 = .ok (.iaload, 1) := by decide +kernel
theorem d_Mod_wordsOfCommon_22 : decode prog_6_method_19_code 22 = .ok (.goto 4, 3) := by decide +kernel
theorem d_Mod_wordsOfCommon_25 : decode prog_6_method_19_code 25 = .ok (.iconst 0, 1) := by decide +kernel
theorem d_Mod_wordsOfCommon_26 : decode prog_6_method_19_code 26 = .ok (.ireturn, 1) := by decide +kernel
theorem d_Mod_hasFittingNumbers_0 : decode prog_6_method_20_code 0 = .ok (.iload_n 0, 1) := by decide +kernel
theorem d_Mod_hasFittingNumbers_1 : decode prog_6_method_20_code 1 = .ok (.tableswitch 165 0 8 #[51, 51, 56, 61, 66, 92, 100, 122, 145], 51) := by decide +kernel
theorem d_Mod_hasFittingNumbers_52 : decode prog_6_method_20_code 52 = .ok (.iload_n 1, 1) := by decide +kernel
theorem d_Mod_hasFittingNumbers_53 : decode prog_6_method_20_code 53 = .ok (.invokestatic 79, 3) := by decide +kernel
theorem d_Mod_hasFittingNumbers_56 : decode prog_6_method_20_code 56 = .ok (.ireturn, 1) := by decide +kernel
theorem d_Mod_hasFittingNumbers_57 : decode prog_6_method_20_code 57 = .ok (.iload_n 1, 1) := by decide +kernel
theorem d_Mod_hasFittingNumbers_58 : decode prog_6_method_20_code 58 = .ok (.invokestatic 82, 3) := by decide +kernel
theorem d_Mod_hasFittingNumbers_61 : decode prog_6_method_20_code 61 = .ok (.ireturn, 1) := by decide +kernel
theorem d_Mod_hasFittingNumbers_62 : decode prog_6_method_20_code 62 = .ok (.iload_n 1, 1) := by decide +kernel
theorem d_Mod_hasFittingNumbers_63 : decode prog_6_method_20_code 63 = .ok (.invokestatic 85, 3) := by decide +kernel
theorem d_Mod_hasFittingNumbers_66 : decode prog_6_method_20_code 66 = .ok (.ireturn, 1) := by decide +kernel
theorem d_Mod_hasFittingNumbers_67 : decode prog_6_method_20_code 67 = .ok (.iload_n 1, 1) := by decide +kernel
theorem d_Mod_hasFittingNumbers_68 : decode prog_6_method_20_code 68 = .ok (.invokestatic 79, 3) := by decide +kernel
theorem d_Mod_hasFittingNumbers_71 : decode prog_6_method_20_code 71 = .ok (.ifCond .eq 20, 3) := by decide +kernel
theorem d_Mod_hasFittingNumbers_74 : decode prog_6_method_20_code 74 = .ok (.iload_n 2, 1) := by decide +kernel
theorem d_Mod_hasFittingNumbers_75 : decode prog_6_method_20_code 75 = .ok (.sipush (-32768), 3) := by decide +kernel
theorem d_Mod_hasFittingNumbers_78 : decode prog_6_method_20_code 78 = .ok (.sipush 32767, 3) := by decide +kernel
theorem d_Mod_hasFittingNumbers_81 : decode prog_6_method_20_code 81 = .ok (.invokestatic 88, 3) := by decide +kernel
theorem d_Mod_hasFittingNumbers_84 : decode prog_6_method_20_code 84 = .ok (.ifCond .eq 7, 3) := by decide +kernel
theorem d_Mod_hasFittingNumbers_87 : decode prog_6_method_20_code 87 = .ok (.iconst 1, 1) := by decide +kernel
theorem d_Mod_hasFittingNumbers_88 : decode prog_6_method_20_code 88 = .ok (.goto 4, 3) := by decide +kernel
theorem d_Mod_hasFittingNumbers_91 : decode prog_6_method_20_code 91 = .ok (.iconst 0, 1) := by decide +kernel
theorem d_Mod_hasFittingNumbers_92 : decode prog_6_method_20_code 92 = .ok (.ireturn, 1) := by decide +kernel
theorem d_Mod_hasFittingNumbers_93 : decode prog_6_method_20_code 93 = .ok (.iload_n 1, 1) := by decide +kernel
theorem d_Mod_hasFittingNumbers_94 : decode prog_6_method_20_code 94 = .ok (.iconst 1, 1) := by decide +kernel
theorem d_Mod_hasFittingNumbers_95 : decode prog_6_method_20_code 95 = .ok (.bipush 16, 2) := by decide +kernel
theorem d_Mod_hasFittingNumbers_97 : decode prog_6_method_20_code 97 = .ok (.invokestatic 88, 3) := by decide +kernel
theorem d_Mod_hasFittingNumbers_100 : decode prog_6_method_20_code 100 = .ok (.ireturn, 1) := by decide +kernel
theorem d_Mod_hasFittingNumbers_101 : decode prog_6_method_20_code 101 = .ok (.iload_n 1, 1) := by decide +kernel
theorem d_Mod_hasFittingNumbers_102 : decode prog_6_method_20_code 102 = .ok (.invokestatic 79, 3) := by decide +kernel
theorem d_Mod_hasFittingNumbers_105 : decode prog_6_method_20_code 105 = .ok (.ifCond .eq 16, 3) := by decide +kernel
theorem d_Mod_hasFittingNumbers_108 : decode prog_6_method_20_code 108 = .ok (.iload_n 2, 1) := by decide +kernel
theorem d_Mod_hasFittingNumbers_109 : decode prog_6_method_20_code 109 = .ok (.iconst 0, 1) := by decide +kernel
theorem d_Mod_hasFittingNumbers_110 : decode prog_6_method_20_code 110 = .ok (.iconst 3, 1) := by decide +kernel
theorem d_Mod_hasFittingNumbers_111 : decode prog_6_method_20_code 111 = .ok (.invokestatic 88, 3) := by decide +kernel
theorem d_Mod_hasFittingNumbers_114 : decode prog_6_method_20_code 114 = .ok (.ifCond .eq 7, 3) := by decide +kernel
theorem d_Mod_hasFittingNumbers_117 : decode prog_6_method_20_code 117 = .ok (.iconst 1, 1) := by decide +kernel
theorem d_Mod_hasFittingNumbers_118 : decode prog_6_method_20_code 118 = .ok (.goto 4, 3) := by decide +kernel
theorem d_Mod_hasFittingNumbers_121 : decode prog_6_method_20_code 121 = .ok (.iconst 0, 1) := by decide +kernel
theorem d_Mod_hasFittingNumbers_122 : decode prog_6_method_20_code 122 = .ok (.ireturn, 1) := by decide +kernel
theorem d_Mod_hasFittingNumbers_123 : decode prog_6_method_20_code 123 = .ok (.iload_n 1, 1) := by decide +kernel
theorem d_Mod_hasFittingNumbers_124 : decode prog_6_method_20_code 124 = .ok (.invokestatic 79, 3) := by decide +kernel
theorem d_Mod_hasFittingNumbers_127 : decode prog_6_method_20_code 127 = .ok (.ifCond .eq 17, 3) := by decide +kernel
theorem d_Mod_hasFittingNumbers_130 : decode prog_6_method_20_code 130 = .ok (.iload_n 2, 1) := by decide +kernel
theorem d_Mod_hasFittingNumbers_131 : decode prog_6_method_20_code 131 = .ok (.iconst 1, 1) := by decide +kernel
theorem d_Mod_hasFittingNumbers_132 : decode prog_6_method_20_code 132 = .ok (.bipush 16, 2) := by decide +kernel
theorem d_Mod_hasFittingNumbers_134 : decode prog_6_method_20_code 134 = .ok (.invokestatic 88, 3) := by decide +kernel
theorem d_Mod_hasFittingNumbers_137 : decode prog_6_method_20_code 137 = .ok (.ifCond .eq 7, 3) := by decide +kernel
theorem d_Mod_hasFittingNumbers_140 : decode prog_6_method_20_code 140 = .ok (.iconst 1, 1) := by decide +kernel
theorem d_Mod_hasFittingNumbers_141 : decode prog_6_method_20_code 141 = .ok (.goto 4, 3) := by decide +kernel
theorem d_Mod_hasFittingNumbers_144 : decode prog_6_method_20_code 144 = .ok (.iconst 0, 1) := by decide +kernel
theorem d_Mod_hasFittingNumbers_145 : decode prog_6_method_20_code 145 = .ok (.ireturn, 1) := by decide +kernel
theorem d_Mod_hasFittingNumbers_146 : decode prog_6_method_20_code 146 = .ok (.iload_n 1, 1) := by decide +kernel
theorem d_Mod_hasFittingNumbers_147 : decode prog_6_method_20_code 147 = .ok (.invokestatic 79, 3) := by decide +kernel
theorem d_Mod_hasFittingNumbers_150 : decode prog_6_method_20_code 150 = .ok (.ifCond .eq 14, 3) := by decide +kernel
theorem d_Mod_hasFittingNumbers_153 : decode prog_6_method_20_code 153 = .ok (.iload_n 2, 1) := by decide +kernel
theorem d_Mod_hasFittingNumbers_154 : decode prog_6_method_20_code 154 = .ok (.invokestatic 85, 3) := by decide +kernel
theorem d_Mod_hasFittingNumbers_157 : decode prog_6_method_20_code 157 = .ok (.ifCond .eq 7, 3) := by decide +kernel
theorem d_Mod_hasFittingNumbers_160 : decode prog_6_method_20_code 160 = .ok (.iconst 1, 1) := by decide +kernel
theorem d_Mod_hasFittingNumbers_161 : decode prog_6_method_20_code 161 = .ok (.goto 4, 3) := by decide +kernel
theorem d_Mod_hasFittingNumbers_164 : decode prog_6_method_20_code 164 = .ok (.iconst 0, 1) := by decide +kernel
theorem d_Mod_hasFittingNumbers_165 : decode prog_6_method_20_code 165 = .ok (.ireturn, 1) := by decide +kernel
theorem d_Mod_hasFittingNumbers_166 : decode prog_6_method_20_code 166 = .ok (.iconst 0, 1) := by decide +kernel
theorem d_Mod_hasFittingNumbers_167 : decode prog_6_method_20_code 167 = .ok (.ireturn, 1) := by decide +kernel
theorem d_Mod_mayStandInSection_0 : decode prog_6_method_21_code 0 = .ok (.iload_n 1, 1) := by decide +kernel
theorem d_Mod_mayStandInSection_1 : decode prog_6_method_21_code 1 = .ok (.bipush 6, 2) := by decide +kernel
theorem d_Mod_mayStandInSection_3 : decode prog_6_method_21_code 3 = .ok (.if_icmp .ne 16, 3) := by decide +kernel
theorem d_Mod_mayStandInSection_6 : decode prog_6_method_21_code 6 = .ok (.aload_n 0, 1) := by decide +kernel
theorem d_Mod_mayStandInSection_7 : decode prog_6_method_21_code 7 = .ok (.invokevirtual 53, 3) := by decide +kernel
theorem d_Mod_mayStandInSection_10 : decode prog_6_method_21_code 10 = .ok (.ifCond .ne 7, 3) := by decide +kernel
theorem d_Mod_mayStandInSection_13 : decode prog_6_method_21_code 13 = .ok (.iconst 1, 1) := by decide +kernel
theorem d_Mod_mayStandInSection_14 : decode prog_6_method_21_code 14 = .ok (.goto 4, 3) := by decide +kernel
theorem d_Mod_mayStandInSection_17 : decode prog_6_method_21_code 17 = .ok (.iconst 0, 1) := by decide +kernel
theorem d_Mod_mayStandInSection_18 : decode prog_6_method_21_code 18 = .ok (.ireturn, 1) := by decide +kernel
theorem d_Mod_mayStandInSection_19 : decode prog_6_method_21_code 19 = .ok (.iload_n 1, 1) := by decide +kernel
theorem d_Mod_mayStandInSection_20 : decode prog_6_method_21_code 20 = .ok (.iconst 3, 1) := by decide +kernel
theorem d_Mod_mayStandInSection_21 : decode prog_6_method_21_code 21 = .ok (.if_icmp .eq 8, 3) := by decide +kernel
theorem d_Mod_mayStandInSection_24 : decode prog_6_method_21_code 24 = .ok (.iload_n 1, 1) := by decide +kernel
theorem d_Mod_mayStandInSection_25 : decode prog_6_method_21_code 25 = .ok (.iconst 4, 1) := by decide +kernel
theorem d_Mod_mayStandInSection_26 : decode prog_6_method_21_code 26 = .ok (.if_icmp .ne 17, 3) := by decide +kernel
theorem d_Mod_mayStandInSection_29 : decode prog_6_method_21_code 29 = .ok (.aload_n 0, 1) := by decide +kernel
theorem d_Mod_mayStandInSection_30 : decode prog_6_method_21_code 30 = .ok (.invokevirtual 53, 3) := by decide +kernel
theorem d_Mod_mayStandInSection_33 : decode prog_6_method_21_code 33 = .ok (.iconst 2, 1) := by decide +kernel
theorem d_Mod_mayStandInSection_34 : decode prog_6_method_21_code 34 = .ok (.if_icmp .eq 7, 3) := by decide +kernel
theorem d_Mod_mayStandInSection_37 : decode prog_6_method_21_code 37 = .ok (.iconst 1, 1) := by decide +kernel
theorem d_Mod_mayStandInSection_38 : decode prog_6_method_21_code 38 = .ok (.goto 4, 3) := by decide +kernel
theorem d_Mod_mayStandInSection_41 : decode prog_6_method_21_code 41 = .ok (.iconst 0, 1) := by decide +kernel
theorem d_Mod_mayStandInSection_42 : decode prog_6_method_21_code 42 = .ok (.ireturn, 1) := by decide +kernel
theorem d_Mod_mayStandInSection_43 : decode prog_6_method_21_code 43 = .ok (.iconst 1, 1) := by decide +kernel
theorem d_Mod_mayStandInSection_44 : decode prog_6_method_21_code 44 = .ok (.ireturn, 1) := by decide +kernel
theorem d_Mod_isSaidTwice_0 : decode prog_6_method_22_code 0 = .ok (.iload_n 1, 1) := by decide +kernel
theorem d_Mod_isSaidTwice_1 : decode prog_6_method_22_code 1 = .ok (.invokestatic 91, 3) := by decide +kernel
theorem d_Mod_isSaidTwice_4 : decode prog_6_method_22_code 4 = .ok (.ifCond .eq 23, 3) := by decide +kernel
theorem d_Mod_isSaidTwice_7 : decode prog_6_method_22_code 7 = .ok (.aload_n 0, 1) := by decide +kernel
theorem d_Mod_isSaidTwice_8 : decode prog_6_method_22_code 8 = .ok (.getfield 64, 3) := by decide +kernel
theorem d_Mod_isSaidTwice_11 : decode prog_6_method_22_code 11 = .ok (.aload_n 0, 1) := by decide +kernel
theorem d_Mod_isSaidTwice_12 : decode prog_6_method_22_code 12 = .ok (.getfield 67, 3) := by decide +kernel
theorem d_Mod_isSaidTwice_15 : decode prog_6_method_22_code 15 = .ok (.ior, 1) := by decide +kernel
theorem d_Mod_isSaidTwice_16 : decode prog_6_method_22_code 16 = .ok (.iload_n 2, 1) := by decide +kernel
theorem d_Mod_isSaidTwice_17 : decode prog_6_method_22_code 17 = .ok (.invokestatic 76, 3) := by decide +kernel
theorem d_Mod_isSaidTwice_20 : decode prog_6_method_22_code 20 = .ok (.ifCond .eq 7, 3) := by decide +kernel
theorem d_Mod_isSaidTwice_23 : decode prog_6_method_22_code 23 = .ok (.iconst 1, 1) := by decide +kernel
theorem d_Mod_isSaidTwice_24 : decode prog_6_method_22_code 24 = .ok (.goto 4, 3) := by decide +kernel
theorem d_Mod_isSaidTwice_27 : decode prog_6_method_22_code 27 = .ok (.iconst 0, 1) := by decide +kernel
theorem d_Mod_isSaidTwice_28 : decode prog_6_method_22_code 28 = .ok (.ireturn, 1) := by decide +kernel
theorem d_Mod_holdsName_0 : decode prog_6_method_23_code 0 = .ok (.iload_n 0, 1) := by decide +kernel
theorem d_Mod_holdsName_1 : decode prog_6_method_23_code 1 = .ok (.ifCond .eq 15, 3) := by decide +kernel
theorem d_Mod_holdsName_4 : decode prog_6_method_23_code 4 = .ok (.iload_n 0, 1) := by decide +kernel
theorem d_Mod_holdsName_5 : decode prog_6_method_23_code 5 = .ok (.bipush 8, 2) := by decide +kernel
theorem d_Mod_holdsName_7 : decode prog_6_method_23_code 7 = .ok (.if_icmp .eq 9, 3) := by decide +kernel
theorem d_Mod_holdsName_10 : decode prog_6_method_23_code 10 = .ok (.iload_n 0, 1) := by decide +kernel
theorem d_Mod_holdsName_11 : decode prog_6_method_23_code 11 = .ok (.bipush 7, 2) := by decide +kernel
theorem d_Mod_holdsName_13 : decode prog_6_method_23_code 13 = .ok (.if_icmp .ne 7, 3) := by decide +kernel
theorem d_Mod_holdsName_16 : decode prog_6_method_23_code 16 = .ok (.iconst 1, 1) := by decide +kernel
theorem d_Mod_holdsName_17 : decode prog_6_method_23_code 17 = .ok (.goto 4, 3) := by decide +kernel
theorem d_Mod_holdsName_20 : decode prog_6_method_23_code 20 = .ok (.iconst 0, 1) := by decide +kernel
theorem d_Mod_holdsName_21 : decode prog_6_method_23_code 21 = .ok (.ireturn, 1) := by decide +kernel
theorem d_Mod_currentSection_0 : decode prog_6_method_24_code 0 = .ok (.aload_n 0, 1) := by decide +kernel
theorem d_Mod_currentSection_1 : decode prog_6_method_24_code 1 = .ok (.getfield 37, 3) := by decide +kernel
theorem d_Mod_currentSection_4 : decode prog_6_method_24_code 4 = .ok (.ifCond .ne 7, 3) := by decide +kernel
theorem d_Mod_currentSection_7 : decode prog_6_method_24_code 7 = .ok (.iconst 0, 1) := by decide +kernel
theorem d_Mod_currentSection_8 : decode prog_6_method_24_code 8 = .ok (.goto 14, 3) := by decide +kernel
theorem d_Mod_currentSection_11 : decode prog_6_method_24_code 11 = .ok (.aload_n 0, 1) := by decide +kernel
theorem d_Mod_currentSection_12 : decode prog_6_method_24_code 12 = .ok (.getfield 21, 3) := by decide +kernel
theorem d_Mod_currentSection_15 : decode prog_6_method_24_code 15 = .ok (.aload_n 0, 1) := by decide +kernel
theorem d_Mod_currentSection_16 : decode prog_6_method_24_code 16 = .ok (.getfield 37, 3) := by decide +kernel
theorem d_Mod_currentSection_19 : decode prog_6_method_24_code 19 = .ok (.iconst 1, 1) := by decide +kernel
theorem d_Mod_currentSection_20 : decode prog_6_method_24_code 20 = .ok (.isub, 1) := by decide +kernel
theorem d_Mod_currentSection_21 : decode prog_6_method_24_code 21 = .ok (.iaload, 1) := by decide +kernel
theorem d_Mod_currentSection_22 : decode prog_6_method_24_code 22 = .ok (.ireturn, 1) := by decide +kernel
theorem d_Mod_noteName_0 : decode prog_6_method_25_code 0 = .ok (.iload_n 1, 1) := by decide +kernel
theorem d_Mod_noteName_1 : decode prog_6_method_25_code 1 = .ok (.invokestatic 91, 3) := by decide +kernel
theorem d_Mod_noteName_4 : decode prog_6_method_25_code 4 = .ok (.ifCond .eq 13, 3) := by decide +kernel
theorem d_Mod_noteName_7 : decode prog_6_method_25_code 7 = .ok (.aload_n 0, 1) := by decide +kernel
theorem d_Mod_noteName_8 : decode prog_6_method_25_code 8 = .ok (.getfield 34, 3) := by decide +kernel
theorem d_Mod_noteName_11 : decode prog_6_method_25_code 11 = .ok (.iload_n 2, 1) := by decide +kernel
theorem d_Mod_noteName_12 : decode prog_6_method_25_code 12 = .ok (.aload_n 0, 1) := by decide +kernel
theorem d_Mod_noteName_13 : decode prog_6_method_25_code 13 = .ok (.getfield 37, 3) := by decide +kernel
theorem d_Mod_noteName_16 : decode prog_6_method_25_code 16 = .ok (.iastore, 1) := by decide +kernel
theorem d_Mod_noteName_17 : decode prog_6_method_25_code 17 = .ok (.iload_n 1, 1) := by decide +kernel
theorem d_Mod_noteName_18 : decode prog_6_method_25_code 18 = .ok (.ifCond .eq 9, 3) := by decide +kernel
theorem d_Mod_noteName_21 : decode prog_6_method_25_code 21 = .ok (.iload_n 1, 1) := by decide +kernel
theorem d_Mod_noteName_22 : decode prog_6_method_25_code 22 = .ok (.bipush 8, 2) := by decide +kernel
theorem d_Mod_noteName_24 : decode prog_6_method_25_code 24 = .ok (.if_icmp .ne 19, 3) := by decide +kernel
theorem d_Mod_noteName_27 : decode prog_6_method_25_code 27 = .ok (.aload_n 0, 1) := by decide +kernel
theorem d_Mod_noteName_28 : decode prog_6_method_25_code 28 = .ok (.dup, 1) := by decide +kernel
theorem d_Mod_noteName_29 : decode prog_6_method_25_code 29 = .ok (.getfield 64, 3) := by decide +kernel
theorem d_Mod_noteName_32 : decode prog_6_method_25_code 32 = .ok (.iload_n 2, 1) := by decide +kernel
theorem d_Mod_noteName_33 : decode prog_6_method_25_code 33 = .ok (.invokestatic 94, 3) := by decide +kernel
theorem d_Mod_noteName_36 : decode prog_6_method_25_code 36 = .ok (.ior, 1) := by decide +kernel
theorem d_Mod_noteName_37 : decode prog_6_method_25_code 37 = .ok (.putfield 64, 3) := by decide +kernel
theorem d_Mod_noteName_40 : decode prog_6_method_25_code 40 = .ok (.goto 70, 3) := by decide +kernel
theorem d_Mod_noteName_43 : decode prog_6_method_25_code 43 = .ok (.iload_n 1, 1) := by decide +kernel
theorem d_Mod_noteName_44 : decode prog_6_method_25_code 44 = .ok (.bipush 7, 2) := by decide +kernel
theorem d_Mod_noteName_46 : decode prog_6_method_25_code 46 = .ok (.if_icmp .ne 19, 3) := by decide +kernel
theorem d_Mod_noteName_49 : decode prog_6_method_25_code 49 = .ok (.aload_n 0, 1) := by decide +kernel
theorem d_Mod_noteName_50 : decode prog_6_method_25_code 50 = .ok (.dup, 1) := by decide +kernel
theorem d_Mod_noteName_51 : decode prog_6_method_25_code 51 = .ok (.getfield 67, 3) := by decide +kernel
theorem d_Mod_noteName_54 : decode prog_6_method_25_code 54 = .ok (.iload_n 2, 1) := by decide +kernel
theorem d_Mod_noteName_55 : decode prog_6_method_25_code 55 = .ok (.invokestatic 94, 3) := by decide +kernel
theorem d_Mod_noteName_58 : decode prog_6_method_25_code 58 = .ok (.ior, 1) := by decide +kernel
theorem d_Mod_noteName_59 : decode prog_6_method_25_code 59 = .ok (.putfield 67, 3) := by decide +kernel
theorem d_Mod_noteName_62 : decode prog_6_method_25_code 62 = .ok (.goto 48, 3) := by decide +kernel
theorem d_Mod_noteName_65 : decode prog_6_method_25_code 65 = .ok (.iload_n 1, 1) := by decide +kernel
theorem d_Mod_noteName_66 : decode prog_6_method_25_code 66 = .ok (.iconst 1, 1) := by decide +kernel
theorem d_Mod_noteName_67 : decode prog_6_method_25_code 67 = .ok (.if_icmp .ne 19, 3) := by decide +kernel
theorem d_Mod_noteName_70 : decode prog_6_method_25_code 70 = .ok (.aload_n 0, 1) := by decide +kernel
theorem d_Mod_noteName_71 : decode prog_6_method_25_code 71 = .ok (.dup, 1) := by decide +kernel
theorem d_Mod_noteName_72 : decode prog_6_method_25_code 72 = .ok (.getfield 70, 3) := by decide +kernel
theorem d_Mod_noteName_75 : decode prog_6_method_25_code 75 = .ok (.iload_n 2, 1) := by decide +kernel
theorem d_Mod_noteName_76 : decode prog_6_method_25_code 76 = .ok (.invokestatic 94, 3) := by decide +kernel
theorem d_Mod_noteName_79 : decode prog_6_method_25_code 79 = .ok (.ior, 1) := by decide +kernel
theorem d_Mod_noteName_80 : decode prog_6_method_25_code 80 = .ok (.putfield 70, 3) := by decide +kernel
theorem d_Mod_noteName_83 : decode prog_6_method_25_code 83 = .ok (.goto 27, 3) := by decide +kernel
theorem d_Mod_noteName_86 : decode prog_6_method_25_code 86 = .ok (.iload_n 1, 1) := by decide +kernel
theorem d_Mod_noteName_87 : decode prog_6_method_25_code 87 = .ok (.iconst 4, 1) := by decide +kernel
theorem d_Mod_noteName_88 : decode prog_6_method_25_code 88 = .ok (.if_icmp .eq 9, 3) := by decide +kernel
theorem d_Mod_noteName_91 : decode prog_6_method_25_code 91 = .ok (.iload_n 1, 1) := by decide +kernel
theorem d_Mod_noteName_92 : decode prog_6_method_25_code 92 = .ok (.bipush 6, 2) := by decide +kernel
theorem d_Mod_noteName_94 : decode prog_6_method_25_code 94 = .ok (.if_icmp .ne 16, 3) := by decide +kernel
theorem d_Mod_noteName_97 : decode prog_6_method_25_code 97 = .ok (.aload_n 0, 1) := by decide +kernel
theorem d_Mod_noteName_98 : decode prog_6_method_25_code 98 = .ok (.dup, 1) := by decide +kernel
theorem d_Mod_noteName_99 : decode prog_6_method_25_code 99 = .ok (.getfield 73, 3) := by decide +kernel
theorem d_Mod_noteName_102 : decode prog_6_method_25_code 102 = .ok (.iload_n 2, 1) := by decide +kernel
theorem d_Mod_noteName_103 : decode prog_6_method_25_code 103 = .ok (.invokestatic 94, 3) := by decide +kernel
theorem d_Mod_noteName_106 : decode prog_6_method_25_code 106 = .ok (.ior, 1) := by decide +kernel
theorem d_Mod_noteName_107 : decode prog_6_method_25_code 107 = .ok (.putfield 73, 3) := by decide +kernel
theorem d_Mod_noteName_110 : decode prog_6_method_25_code 110 = .ok (.return_, 1) := by decide +kernel
theorem d_Mod_settleJumps_0 : decode prog_6_method_26_code 0 = .ok (.iconst 0, 1) := by decide +kernel
theorem d_Mod_settleJumps_1 : decode prog_6_method_26_code 1 = .ok (.istore_n 1, 1) := by decide +kernel
theorem d_Mod_settleJumps_2 : decode prog_6_method_26_code 2 = .ok (.iload_n 1, 1) := by decide +kernel
theorem d_Mod_settleJumps_3 : decode prog_6_method_26_code 3 = .ok (.aload_n 0, 1) := by decide +kernel
theorem d_Mod_settleJumps_4 : decode prog_6_method_26_code 4 = .ok (.getfield 37, 3) := by decide +kernel
theorem d_Mod_settleJumps_7 : decode prog_6_method_26_code 7 = .ok (.if_icmp .ge 39, 3) := by decide +kernel
theorem d_Mod_settleJumps_10 : decode prog_6_method_26_code 10 = .ok (.aload_n 0, 1) := by decide +kernel
theorem d_Mod_settleJumps_11 : decode prog_6_method_26_code 11 = .ok (.getfield 27, 3) := by decide +kernel
theorem d_Mod_settleJumps_14 : decode prog_6_method_26_code 14 = .ok (.iload_n 1, 1) := by decide +kernel
theorem d_Mod_settleJumps_15 : decode prog_6_method_26_code 15 = .ok (.aload_n 0, 1) := by decide +kernel
theorem d_Mod_settleJumps_16 : decode prog_6_method_26_code 16 = .ok (.getfield 9, 3) := by decide +kernel
theorem d_Mod_settleJumps_19 : decode prog_6_method_26_code 19 = .ok (.iload_n 1, 1) := by decide +kernel
theorem d_Mod_settleJumps_20 : decode prog_6_method_26_code 20 = .ok (.iaload, 1) := by decide +kernel
theorem d_Mod_settleJumps_21 : decode prog_6_method_26_code 21 = .ok (.bipush 6, 2) := by decide +kernel
theorem d_Mod_settleJumps_23 : decode prog_6_method_26_code 23 = .ok (.if_icmp .ne 15, 3) := by decide +kernel
theorem d_Mod_settleJumps_26 : decode prog_6_method_26_code 26 = .ok (.aload_n 0, 1) := by decide +kernel
theorem d_Mod_settleJumps_27 : decode prog_6_method_26_code 27 = .ok (.iload_n 1, 1) := by decide +kernel
theorem d_Mod_settleJumps_28 : decode prog_6_method_26_code 28 = .ok (.invokevirtual 98, 3) := by decide +kernel
theorem d_Mod_settleJumps_31 : decode prog_6_method_26_code 31 = .ok (.ifCond .ne 7, 3) := by decide +kernel
theorem d_Mod_settleJumps_34 : decode prog_6_method_26_code 34 = .ok (.iconst 1, 1) := by decide +kernel
theorem d_Mod_settleJumps_35 : decode prog_6_method_26_code 35 = .ok (.goto 4, 3) := by decide +kernel
theorem d_Mod_settleJumps_38 : decode prog_6_method_26_code 38 = .ok (.iconst 0, 1) := by decide +kernel
theorem d_Mod_settleJumps_39 : decode prog_6_method_26_code 39 = .ok (.bastore, 1) := by decide +kernel
theorem d_Mod_settleJumps_40 : decode prog_6_method_26_code 40 = .ok (.iinc 1 1, 3) := by decide +kernel
theorem d_Mod_settleJumps_43 : decode prog_6_method_26_code 43 = .ok (.goto (-41), 3) := by decide +kernel
theorem d_Mod_settleJumps_46 : decode prog_6_method_26_code 46 = .ok (.aload_n 0, 1) := by decide +kernel
theorem d_Mod_settleJumps_47 : decode prog_6_method_26_code 47 = .ok (.invokevirtual 101, 3) := by decide +kernel
theorem d_Mod_settleJumps_50 : decode prog_6_method_26_code 50 = .ok (.iconst 0, 1) := by decide +kernel
theorem d_Mod_settleJumps_51 : decode prog_6_method_26_code 51 = .ok (.istore_n 1, 1) := by decide +kernel
theorem d_Mod_settleJumps_52 : decode prog_6_method_26_code 52 = .ok (.iload_n 1, 1) := by decide +kernel
theorem d_Mod_settleJumps_53 : decode prog_6_method_26_code 53 = .ok (.bipush 20, 2) := by decide +kernel
theorem d_Mod_settleJumps_55 : decode prog_6_method_26_code 55 = .ok (.if_icmp .ge 21, 3) := by decide +kernel
theorem d_Mod_settleJumps_58 : decode prog_6_method_26_code 58 = .ok (.aload_n 0, 1) := by decide +kernel
theorem d_Mod_settleJumps_59 : decode prog_6_method_26_code 59 = .ok (.invokevirtual 104, 3) := by decide +kernel
theorem d_Mod_settleJumps_62 : decode prog_6_method_26_code 62 = .ok (.ifCond .ne 4, 3) := by decide +kernel
theorem d_Mod_settleJumps_65 : decode prog_6_method_26_code 65 = .ok (.return_, 1) := by decide +kernel
theorem d_Mod_settleJumps_66 : decode prog_6_method_26_code 66 = .ok (.aload_n 0, 1) := by decide +kernel
theorem d_Mod_settleJumps_67 : decode prog_6_method_26_code 67 = .ok (.invokevirtual 101, 3) := by decide +kernel
theorem d_Mod_settleJumps_70 : decode prog_6_method_26_code 70 = .ok (.iinc 1 1, 3) := by decide +kernel
theorem d_Mod_settleJumps_73 : decode prog_6_method_26_code 73 = .ok (.goto (-21), 3) := by decide +kernel
theorem d_Mod_settleJumps_76 : decode prog_6_method_26_code 76 = .ok (.return_, 1) := by decide +kernel
theorem d_Mod_aimsAtOwnText_0 : decode prog_6_method_27_code 0 = .ok (.aload_n 0, 1) := by decide +kernel
theorem d_Mod_aimsAtOwnText_1 : decode prog_6_method_27_code 1 = .ok (.getfield 15, 3) := by decide +kernel
theorem d_Mod_aimsAtOwnText_4 : decode prog_6_method_27_code 4 = .ok (.iload_n 1, 1) := by decide +kernel
theorem d_Mod_aimsAtOwnText_5 : decode prog_6_method_27_code 5 = .ok (.iaload, 1) := by decide +kernel
theorem d_Mod_aimsAtOwnText_6 : decode prog_6_method_27_code 6 = .ok (.istore_n 2, 1) := by decide +kernel
theorem d_Mod_aimsAtOwnText_7 : decode prog_6_method_27_code 7 = .ok (.aload_n 0, 1) := by decide +kernel
theorem d_Mod_aimsAtOwnText_8 : decode prog_6_method_27_code 8 = .ok (.getfield 64, 3) := by decide +kernel
theorem d_Mod_aimsAtOwnText_11 : decode prog_6_method_27_code 11 = .ok (.iload_n 2, 1) := by decide +kernel
theorem d_Mod_aimsAtOwnText_12 : decode prog_6_method_27_code 12 = .ok (.invokestatic 76, 3) := by decide +kernel
theorem d_Mod_aimsAtOwnText_15 : decode prog_6_method_27_code 15 = .ok (.ifCond .ne 5, 3) := by decide +kernel
theorem d_Mod_aimsAtOwnText_18 : decode prog_6_method_27_code 18 = .ok (.iconst 0, 1) := by decide +kernel
theorem d_Mod_aimsAtOwnText_19 : decode prog_6_method_27_code 19 = .ok (.ireturn, 1) := by decide +kernel
theorem d_Mod_aimsAtOwnText_20 : decode prog_6_method_27_code 20 = .ok (.aload_n 0, 1) := by decide +kernel
theorem d_Mod_aimsAtOwnText_21 : decode prog_6_method_27_code 21 = .ok (.getfield 34, 3) := by decide +kernel
theorem d_Mod_aimsAtOwnText_24 : decode prog_6_method_27_code 24 = .ok (.iload_n 2, 1) := by decide +kernel
theorem d_Mod_aimsAtOwnText_25 : decode prog_6_method_27_code 25 = .ok (.iaload, 1) := by decide +kernel
theorem d_Mod_aimsAtOwnText_26 : decode prog_6_method_27_code 26 = .ok (.istore_n 3, 1) := by decide +kernel
theorem d_Mod_aimsAtOwnText_27 : decode prog_6_method_27_code 27 = .ok (.aload_n 0, 1) := by decide +kernel
theorem d_Mod_aimsAtOwnText_28 : decode prog_6_method_27_code 28 = .ok (.getfield 9, 3) := by decide +kernel
theorem d_Mod_aimsAtOwnText_31 : decode prog_6_method_27_code 31 = .ok (.iload_n 3, 1) := by decide +kernel
theorem d_Mod_aimsAtOwnText_32 : decode prog_6_method_27_code 32 = .ok (.iaload, 1) := by decide +kernel
theorem d_Mod_aimsAtOwnText_33 : decode prog_6_method_27_code 33 = .ok (.ifCond .ne 16, 3) := by decide +kernel
theorem d_Mod_aimsAtOwnText_36 : decode prog_6_method_27_code 36 = .ok (.aload_n 0, 1) := by decide +kernel
theorem d_Mod_aimsAtOwnText_37 : decode prog_6_method_27_code 37 = .ok (.getfield 21, 3) := by decide +kernel
theorem d_Mod_aimsAtOwnText_40 : decode prog_6_method_27_code 40 = .ok (.iload_n 3, 1) := by decide +kernel
theorem d_Mod_aimsAtOwnText_41 : decode prog_6_method_27_code 41 = .ok (.iaload, 1) := by decide +kernel
theorem d_Mod_aimsAtOwnText_42 : decode prog_6_method_27_code 42 = .ok (.ifCond .ne 7, 3) := by decide +kernel
theorem d_Mod_aimsAtOwnText_45 : decode prog_6_method_27_code 45 = .ok (.iconst 1, 1) := by decide +kernel
theorem d_Mod_aimsAtOwnText_46 : decode prog_6_method_27_code 46 = .ok (.goto 4, 3) := by decide +kernel
theorem d_Mod_aimsAtOwnText_49 : decode prog_6_method_27_code 49 = .ok (.iconst 0, 1) := by decide +kernel
theorem d_Mod_aimsAtOwnText_50 : decode prog_6_method_27_code 50 = .ok (.ireturn, 1) := by decide +kernel
theorem d_Mod_placeWords_0 : decode prog_6_method_28_code 0 = .ok (.iconst 0, 1) := by decide +kernel
theorem d_Mod_placeWords_1 : decode prog_6_method_28_code 1 = .ok (.istore_n 1, 1) := by decide +kernel
theorem d_Mod_placeWords_2 : decode prog_6_method_28_code 2 = .ok (.iload_n 1, 1) := by decide +kernel
theorem d_Mod_placeWords_3 : decode prog_6_method_28_code 3 = .ok (.iconst 3, 1) := by decide +kernel
theorem d_Mod_placeWords_4 : decode prog_6_method_28_code 4 = .ok (.if_icmp .ge 16, 3) := by decide +kernel
theorem d_Mod_placeWords_7 : decode prog_6_method_28_code 7 = .ok (.aload_n 0, 1) := by decide +kernel
theorem d_Mod_placeWords_8 : decode prog_6_method_28_code 8 = .ok (.getfield 31, 3) := by decide +kernel
theorem d_Mod_placeWords_11 : decode prog_6_method_28_code 11 = .ok (.iload_n 1, 1) := by decide +kernel
theorem d_Mod_placeWords_12 : decode prog_6_method_28_code 12 = .ok (.iconst 0, 1) := by decide +kernel
theorem d_Mod_placeWords_13 : decode prog_6_method_28_code 13 = .ok (.iastore, 1) := by decide +kernel
theorem d_Mod_placeWords_14 : decode prog_6_method_28_code 14 = .ok (.iinc 1 1, 3) := by decide +kernel
theorem d_Mod_placeWords_17 : decode prog_6_method_28_code 17 = .ok (.goto (-15), 3) := by decide +kernel
theorem d_Mod_placeWords_20 : decode prog_6_method_28_code 20 = .ok (.iconst 0, 1) := by decide +kernel
theorem d_Mod_placeWords_21 : decode prog_6_method_28_code 21 = .ok (.istore_n 1, 1) := by decide +kernel
theorem d_Mod_placeWords_22 : decode prog_6_method_28_code 22 = .ok (.iload_n 1, 1) := by decide +kernel
theorem d_Mod_placeWords_23 : decode prog_6_method_28_code 23 = .ok (.aload_n 0, 1) := by decide +kernel
theorem d_Mod_placeWords_24 : decode prog_6_method_28_code 24 = .ok (.getfield 37, 3) := by decide +kernel
theorem d_Mod_placeWords_27 : decode prog_6_method_28_code 27 = .ok (.if_icmp .ge 42, 3) := by decide +kernel
theorem d_Mod_placeWords_30 : decode prog_6_method_28_code 30 = .ok (.aload_n 0, 1) := by decide +kernel
theorem d_Mod_placeWords_31 : decode prog_6_method_28_code 31 = .ok (.getfield 21, 3) := by decide +kernel
theorem d_Mod_placeWords_34 : decode prog_6_method_28_code 34 = .ok (.iload_n 1, 1) := by decide +kernel
theorem d_Mod_placeWords_35 : decode prog_6_method_28_code 35 = .ok (.iaload, 1) := by decide +kernel
theorem d_Mod_placeWords_36 : decode prog_6_method_28_code 36 = .ok (.istore_n 2, 1) := by decide +kernel
theorem d_Mod_placeWords_37 : decode prog_6_method_28_code 37 = .ok (.aload_n 0, 1) := by decide +kernel
theorem d_Mod_placeWords_38 : decode prog_6_method_28_code 38 = .ok (.getfield 24, 3) := by decide +kernel
theorem d_Mod_placeWords_41 : decode prog_6_method_28_code 41 = .ok (.iload_n 1, 1) := by decide +kernel
theorem d_Mod_placeWords_42 : decode prog_6_method_28_code 42 = .ok (.aload_n 0, 1) := by decide +kernel
theorem d_Mod_placeWords_43 : decode prog_6_method_28_code 43 = .ok (.getfield 31, 3) := by decide +kernel
theorem d_Mod_placeWords_46 : decode prog_6_method_28_code 46 = .ok (.iload_n 2, 1) := by decide +kernel
theorem d_Mod_placeWords_47 : decode prog_6_method_28_code 47 = .ok (.iaload, 1) := by decide +kernel
theorem d_Mod_placeWords_48 : decode prog_6_method_28_code 48 = .ok (.iastore, 1) := by decide +kernel
theorem d_Mod_placeWords_49 : decode prog_6_method_28_code 49 = .ok (.aload_n 0, 1) := by decide +kernel
theorem d_Mod_placeWords_50 : decode prog_6_method_28_code 50 = .ok (.getfield 31, 3) := by decide +kernel
theorem d_Mod_placeWords_53 : decode prog_6_method_28_code 53 = .ok (.iload_n 2, 1) := by decide +kernel
theorem d_Mod_placeWords_54 : decode prog_6_method_28_code 54 = .ok (.dup2, 1) := by decide +kernel
theorem d_Mod_placeWords_55 : decode prog_6_method_28_code 55 = .ok (.iaload, 1) := by decide +kernel
theorem d_Mod_placeWords_56 : decode prog_6_method_28_code 56 = .ok (.aload_n 0, 1) := by decide +kernel
theorem d_Mod_placeWords_57 : decode prog_6_method_28_code 57 = .ok (.iload_n 1, 1) := by decide +kernel
theorem d_Mod_placeWords_58 : decode prog_6_method_28_code 58 = .ok (.invokevirtual 108, 3) := by decide +kernel
theorem d_Mod_placeWords_61 : decode prog_6_method_28_code 61 = .ok (.iadd, 1) := by decide +kernel
theorem d_Mod_placeWords_62 : decode prog_6_method_28_code 62 = .ok (.iastore, 1) := by decide +kernel
theorem d_Mod_placeWords_63 : decode prog_6_method_28_code 63 = .ok (.iinc 1 1, 3) := by decide +kernel
theorem d_Mod_placeWords_66 : decode prog_6_method_28_code 66 = .ok (.goto (-44), 3) := by decide +kernel
theorem d_Mod_placeWords_69 : decode prog_6_method_28_code 69 = .ok (.return_, 1) := by decide +kernel
theorem d_Mod_wordsOf_0 : decode prog_6_method_29_code 0 = .ok (.aload_n 0, 1) := by decide +kernel
theorem d_Mod_wordsOf_1 : decode prog_6_method_29_code 1 = .ok (.getfield 9, 3) := by decide +kernel
theorem d_Mod_wordsOf_4 : decode prog_6_method_29_code 4 = .ok (.iload_n 1, 1) := by decide +kernel
theorem d_Mod_wordsOf_5 : decode prog_6_method_29_code 5 = .ok (.iaload, 1) := by decide +kernel
theorem d_Mod_wordsOf_6 : decode prog_6_method_29_code 6 = .ok (.tableswitch 54 3 6 #[30, 30, 32, 39], 30) := by decide +kernel
theorem d_Mod_wordsOf_36 : decode prog_6_method_29_code 36 = .ok (.iconst 1, 1) := by decide +kernel
theorem d_Mod_wordsOf_37 : decode prog_6_method_29_code 37 = .ok (.ireturn, 1) := by decide +kernel
theorem d_Mod_wordsOf_38 : decode prog_6_method_29_code 38 = .ok (.aload_n 0, 1) := by decide +kernel
theorem d_Mod_wordsOf_39 : decode prog_6_method_29_code 39 = .ok (.getfield 15, 3) := by decide +kernel
theorem d_Mod_wordsOf_42 : decode prog_6_method_29_code 42 = .ok (.iload_n 1, 1) := by decide +kernel
theorem d_Mod_wordsOf_43 : decode prog_6_method_29_code 43 = .ok (.iaload, 1) := by decide +kernel
theorem d_Mod_wordsOf_44 : decode prog_6_method_29_code 44 = .ok (.ireturn, 1) := by decide +kernel
theorem d_Mod_wordsOf_45 : decode prog_6_method_29_code 45 = .ok (.aload_n 0, 1) := by decide +kernel
theorem d_Mod_wordsOf_46 : decode prog_6_method_29_code 46 = .ok (.getfield 27, 3) := by decide +kernel
theorem d_Mod_wordsOf_49 : decode prog_6_method_29_code 49 = .ok (.iload_n 1, 1) := by decide +kernel
theorem d_Mod_wordsOf_50 : decode prog_6_method_29_code 50 = .ok (.baload, 1) := by decide +kernel
theorem d_Mod_wordsOf_51 : decode prog_6_method_29_code 51 = .ok (.ifCond .eq 7, 3) := by decide +kernel
theorem d_Mod_wordsOf_54 : decode prog_6_method_29_code 54 = .ok (.iconst 2, 1) := by decide +kernel
theorem d_Mod_wordsOf_55 : decode prog_6_method_29_code 55 = .ok (.goto 4, 3) := by decide +kernel
theorem d_Mod_wordsOf_58 : decode prog_6_method_29_code 58 = .ok (.iconst 1, 1) := by decide +kernel
theorem d_Mod_wordsOf_59 : decode prog_6_method_29_code 59 = .ok (.ireturn, 1) := by decide +kernel
theorem d_Mod_wordsOf_60 : decode prog_6_method_29_code 60 = .ok (.iconst 0, 1) := by decide +kernel
theorem d_Mod_wordsOf_61 : decode prog_6_method_29_code 61 = .ok (.ireturn, 1) := by decide +kernel
theorem d_Mod_lengthenFarJumps_0 : decode prog_6_method_30_code 0 = .ok (.iconst 0, 1) := by decide +kernel
theorem d_Mod_lengthenFarJumps_1 : decode prog_6_method_30_code 1 = .ok (.istore_n 1, 1) := by decide +kernel
theorem d_Mod_lengthenFarJumps_2 : decode prog_6_method_30_code 2 = .ok (.iconst 0, 1) := by decide +kernel
theorem d_Mod_lengthenFarJumps_3 : decode prog_6_method_30_code 3 = .ok (.istore_n 2, 1) := by decide +kernel
theorem d_Mod_lengthenFarJumps_4 : decode prog_6_method_30_code 4 = .ok (.iload_n 2, 1) := by decide +kernel
theorem d_Mod_lengthenFarJumps_5 : decode prog_6_method_30_code 5 = .ok (.aload_n 0, 1) := by decide +kernel
theorem d_Mod_lengthenFarJumps_6 : decode prog_6_method_30_code 6 = .ok (.getfield 37, 3) := by decide +kernel
theorem d_Mod_lengthenFarJumps_9 : decode prog_6_method_30_code 9 = .ok (.if_icmp .ge 53, 3) := by decide +kernel
theorem d_Mod_lengthenFarJumps_12 : decode prog_6_method_30_code 12 = .ok (.aload_n 0, 1) := by decide +kernel
theorem d_Mod_lengthenFarJumps_13 : decode prog_6_method_30_code 13 = .ok (.getfield 9, 3) := by decide +kernel
theorem d_Mod_lengthenFarJumps_16 : decode prog_6_method_30_code 16 = .ok (.iload_n 2, 1) := by decide +kernel
theorem d_Mod_lengthenFarJumps_17 : decode prog_6_method_30_code 17 = .ok (.iaload, 1) := by decide +kernel
theorem d_Mod_lengthenFarJumps_18 : decode prog_6_method_30_code 18 = .ok (.bipush 6, 2) := by decide +kernel
theorem d_Mod_lengthenFarJumps_20 : decode prog_6_method_30_code 20 = .ok (.if_icmp .ne 36, 3) := by decide +kernel
theorem d_Mod_lengthenFarJumps_23 : decode prog_6_method_30_code 23 = .ok (.aload_n 0, 1) := by decide +kernel
theorem d_Mod_lengthenFarJumps_24 : decode prog_6_method_30_code 24 = .ok (.getfield 27, 3) := by decide +kernel
theorem d_Mod_lengthenFarJumps_27 : decode prog_6_method_30_code 27 = .ok (.iload_n 2, 1) := by decide +kernel
theorem d_Mod_lengthenFarJumps_28 : decode prog_6_method_30_code 28 = .ok (.baload, 1) := by decide +kernel
theorem d_Mod_lengthenFarJumps_29 : decode prog_6_method_30_code 29 = .ok (.ifCond .ne 27, 3) := by decide +kernel
theorem d_Mod_lengthenFarJumps_32 : decode prog_6_method_30_code 32 = .ok (.aload_n 0, 1) := by decide +kernel
theorem d_Mod_lengthenFarJumps_33 : decode prog_6_method_30_code 33 = .ok (.iload_n 2, 1) := by decide +kernel
theorem d_Mod_lengthenFarJumps_34 : decode prog_6_method_30_code 34 = .ok (.invokevirtual 111, 3) := by decide +kernel
theorem d_Mod_lengthenFarJumps_37 : decode prog_6_method_30_code 37 = .ok (.bipush (-8), 2) := by decide +kernel
theorem d_Mod_lengthenFarJumps_39 : decode prog_6_method_30_code 39 = .ok (.bipush 7, 2) := by decide +kernel
theorem d_Mod_lengthenFarJumps_41 : decode prog_6_method_30_code 41 = .ok (.invokestatic 88, 3) := by decide +kernel
theorem d_Mod_lengthenFarJumps_44 : decode prog_6_method_30_code 44 = .ok (.ifCond .ne 12, 3) := by decide +kernel
theorem d_Mod_lengthenFarJumps_47 : decode prog_6_method_30_code 47 = .ok (.aload_n 0, 1) := by decide +kernel
theorem d_Mod_lengthenFarJumps_48 : decode prog_6_method_30_code 48 = .ok (.getfield 27, 3) := by decide +kernel
theorem d_Mod_lengthenFarJumps_51 : decode prog_6_method_30_code 51 = .ok (.iload_n 2, 1) := by decide +kernel
theorem d_Mod_lengthenFarJumps_52 : decode prog_6_method_30_code 52 = .ok (.iconst 1, 1) := by decide +kernel
theorem d_Mod_lengthenFarJumps_53 : decode prog_6_method_30_code 53 = .ok (.bastore, 1) := by decide +kernel
theorem d_Mod_lengthenFarJumps_54 : decode prog_6_method_30_code 54 = .ok (.iconst 1, 1) := by decide +kernel
theorem d_Mod_lengthenFarJumps_55 : decode prog_6_method_30_code 55 = .ok (.istore_n 1, 1) := by decide +kernel
theorem d_Mod_lengthenFarJumps_56 : decode prog_6_method_30_code 56 = .ok (.iinc 2 1, 3) := by decide +kernel
theorem d_Mod_lengthenFarJumps_59 : decode prog_6_method_30_code 59 = .ok (.goto (-55), 3) := by decide +kernel
theorem d_Mod_lengthenFarJumps_62 : decode prog_6_method_30_code 62 = .ok (.iload_n 1, 1) := by decide +kernel
theorem d_Mod_lengthenFarJumps_63 : decode prog_6_method_30_code 63 = .ok (.ireturn, 1) := by decide +kernel
theorem d_Law_law_0 : decode code 0 = .ok (.new 7, 3) := by decide +kernel
theorem d_Law_law_3 : decode code 3 = .ok (.dup, 1) := by decide +kernel
theorem d_Law_law_4 : decode code 4 = .ok (.invokespecial 9, 3) := by decide +kernel
theorem d_Law_law_7 : decode code 7 = .ok (.astore_n 1, 1) := by decide +kernel
theorem d_Law_law_8 : decode code 8 = .ok (.new 10, 3) := by decide +kernel
theorem d_Law_law_11 : decode code 11 = .ok (.dup, 1) := by decide +kernel
theorem d_Law_law_12 : decode code 12 = .ok (.invokespecial 12, 3) := by decide +kernel
theorem d_Law_law_15 : decode code 15 = .ok (.astore_n 2, 1) := by decide +kernel
theorem d_Law_law_16 : decode code 16 = .ok (.iconst 0, 1) := by decide +kernel
theorem d_Law_law_17 : decode code 17 = .ok (.istore_n 3, 1) := by decide +kernel
theorem d_Law_law_18 : decode code 18 = .ok (.iload_n 3, 1) := by decide +kernel
theorem d_Law_law_19 : decode code 19 = .ok (.aload_n 0, 1) := by decide +kernel
theorem d_Law_law_20 : decode code 20 = .ok (.arraylength, 1) := by decide +kernel
theorem d_Law_law_21 : decode code 21 = .ok (.iconst 5, 1) := by decide +kernel
theorem d_Law_law_22 : decode code 22 = .ok (.isub, 1) := by decide +kernel
theorem d_Law_law_23 : decode code 23 = .ok (.if_icmp .gt 616, 3) := by decide +kernel
theorem d_Law_law_26 : decode code 26 = .ok (.aload_n 0, 1) := by decide +kernel
theorem d_Law_law_27 : decode code 27 = .ok (.iload_n 3, 1) := by decide +kernel
theorem d_Law_law_28 : decode code 28 = .ok (.iaload, 1) := by decide +kernel
theorem d_Law_law_29 : decode code 29 = .ok (.bipush 31, 2) := by decide +kernel
theorem d_Law_law_31 : decode code 31 = .ok (.iand, 1) := by decide +kernel
theorem d_Law_law_32 : decode code 32 = .ok (.tableswitch 601 0 20 #[100, 153, 176, 209, 242, 275, 298, 321, 344, 355, 378, 401, 414, 437, 460, 483, 496, 509, 532, 555, 578], 100) := by decide +kernel
theorem d_Law_law_132 : decode code 132 = .ok (.aload_n 1, 1) := by decide +kernel
theorem d_Law_law_133 : decode code 133 = .ok (.aload_n 0, 1) := by decide +kernel
theorem d_Law_law_134 : decode code 134 = .ok (.iload_n 3, 1) := by decide +kernel
theorem d_Law_law_135 : decode code 135 = .ok (.iconst 1, 1) := by decide +kernel
theorem d_Law_law_136 : decode code 136 = .ok (.iadd, 1) := by decide +kernel
theorem d_Law_law_137 : decode code 137 = .ok (.iaload, 1) := by decide +kernel
theorem d_Law_law_138 : decode code 138 = .ok (.aload_n 0, 1) := by decide +kernel
theorem d_Law_law_139 : decode code 139 = .ok (.iload_n 3, 1) := by decide +kernel
theorem d_Law_law_140 : decode code 140 = .ok (.iconst 2, 1) := by decide +kernel
theorem d_Law_law_141 : decode code 141 = .ok (.iadd, 1) := by decide +kernel
theorem d_Law_law_142 : decode code 142 = .ok (.iaload, 1) := by decide +kernel
theorem d_Law_law_143 : decode code 143 = .ok (.aload_n 0, 1) := by decide +kernel
theorem d_Law_law_144 : decode code 144 = .ok (.iload_n 3, 1) := by decide +kernel
theorem d_Law_law_145 : decode code 145 = .ok (.iconst 3, 1) := by decide +kernel
theorem d_Law_law_146 : decode code 146 = .ok (.iadd, 1) := by decide +kernel
theorem d_Law_law_147 : decode code 147 = .ok (.iaload, 1) := by decide +kernel
theorem d_Law_law_148 : decode code 148 = .ok (.aload_n 0, 1) := by decide +kernel
theorem d_Law_law_149 : decode code 149 = .ok (.iload_n 3, 1) := by decide +kernel
theorem d_Law_law_150 : decode code 150 = .ok (.iconst 4, 1) := by decide +kernel
theorem d_Law_law_151 : decode code 151 = .ok (.iadd, 1) := by decide +kernel
theorem d_Law_law_152 : decode code 152 = .ok (.iaload, 1) := by decide +kernel
theorem d_Law_law_153 : decode code 153 = .ok (.invokevirtual 13, 3) := by decide +kernel
theorem d_Law_law_156 : decode code 156 = .ok (.aload_n 2, 1) := by decide +kernel
theorem d_Law_law_157 : decode code 157 = .ok (.aload_n 0, 1) := by decide +kernel
theorem d_Law_law_158 : decode code 158 = .ok (.iload_n 3, 1) := by decide +kernel
theorem d_Law_law_159 : decode code 159 = .ok (.iconst 1, 1) := by decide +kernel
theorem d_Law_law_160 : decode code 160 = .ok (.iadd, 1) := by decide +kernel
theorem d_Law_law_161 : decode code 161 = .ok (.iaload, 1) := by decide +kernel
theorem d_Law_law_162 : decode code 162 = .ok (.aload_n 0, 1) := by decide +kernel
theorem d_Law_law_163 : decode code 163 = .ok (.iload_n 3, 1) := by decide +kernel
theorem d_Law_law_164 : decode code 164 = .ok (.iconst 2, 1) := by decide +kernel
theorem d_Law_law_165 : decode code 165 = .ok (.iadd, 1) := by decide +kernel
theorem d_Law_law_166 : decode code 166 = .ok (.iaload, 1) := by decide +kernel
theorem d_Law_law_167 : decode code 167 = .ok (.aload_n 0, 1) := by decide +kernel
theorem d_Law_law_168 : decode code 168 = .ok (.iload_n 3, 1) := by decide +kernel
theorem d_Law_law_169 : decode code 169 = .ok (.iconst 3, 1) := by decide +kernel
theorem d_Law_law_170 : decode code 170 = .ok (.iadd, 1) := by decide +kernel
theorem d_Law_law_171 : decode code 171 = .ok (.iaload, 1) := by decide +kernel
theorem d_Law_law_172 : decode code 172 = .ok (.aload_n 0, 1) := by decide +kernel
theorem d_Law_law_173 : decode code 173 = .ok (.iload_n 3, 1) := by decide +kernel
theorem d_Law_law_174 : decode code 174 = .ok (.iconst 4, 1) := by decide +kernel
theorem d_Law_law_175 : decode code 175 = .ok (.iadd, 1) := by decide +kernel
theorem d_Law_law_176 : decode code 176 = .ok (.iaload, 1) := by decide +kernel
theorem d_Law_law_177 : decode code 177 = .ok (.invokevirtual 17, 3) := by decide +kernel
theorem d_Law_law_180 : decode code 180 = .ok (.if_icmp .eq 453, 3) := by decide +kernel
theorem d_Law_law_183 : decode code 183 = .ok (.iconst 0, 1) := by decide +kernel
theorem d_Law_law_184 : decode code 184 = .ok (.ireturn, 1) := by decide +kernel
theorem d_Law_law_185 : decode code 185 = .ok (.aload_n 1, 1) := by decide +kernel
theorem d_Law_law_186 : decode code 186 = .ok (.aload_n 0, 1) := by decide +kernel
theorem d_Law_law_187 : decode code 187 = .ok (.iload_n 3, 1) := by decide +kernel
theorem d_Law_law_188 : decode code 188 = .ok (.iconst 1, 1) := by decide +kernel
theorem d_Law_law_189 : decode code 189 = .ok (.iadd, 1) := by decide +kernel
theorem d_Law_law_190 : decode code 190 = .ok (.iaload, 1) := by decide +kernel
theorem d_Law_law_191 : decode code 191 = .ok (.invokevirtual 18, 3) := by decide +kernel
theorem d_Law_law_194 : decode code 194 = .ok (.aload_n 2, 1) := by decide +kernel
theorem d_Law_law_195 : decode code 195 = .ok (.aload_n 0, 1) := by decide +kernel
theorem d_Law_law_196 : decode code 196 = .ok (.iload_n 3, 1) := by decide +kernel
theorem d_Law_law_197 : decode code 197 = .ok (.iconst 1, 1) := by decide +kernel
theorem d_Law_law_198 : decode code 198 = .ok (.iadd, 1) := by decide +kernel
theorem d_Law_law_199 : decode code 199 = .ok (.iaload, 1) := by decide +kernel
theorem d_Law_law_200 : decode code 200 = .ok (.invokevirtual 22, 3) := by decide +kernel
theorem d_Law_law_203 : decode code 203 = .ok (.if_icmp .eq 430, 3) := by decide +kernel
theorem d_Law_law_206 : decode code 206 = .ok (.iconst 0, 1) := by decide +kernel
theorem d_Law_law_207 : decode code 207 = .ok (.ireturn, 1) := by decide +kernel
theorem d_Law_law_208 : decode code 208 = .ok (.aload_n 1, 1) := by decide +kernel
theorem d_Law_law_209 : decode code 209 = .ok (.aload_n 0, 1) := by decide +kernel
theorem d_Law_law_210 : decode code 210 = .ok (.iload_n 3, 1) := by decide +kernel
theorem d_Law_law_211 : decode code 211 = .ok (.iconst 1, 1) := by decide +kernel
theorem d_Law_law_212 : decode code 212 = .ok (.iadd, 1) := by decide +kernel
theorem d_Law_law_213 : decode code 213 = .ok (.iaload, 1) := by decide +kernel
theorem d_Law_law_214 : decode code 214 = .ok (.aload_n 0, 1) := by decide +kernel
theorem d_Law_law_215 : decode code 215 = .ok (.iload_n 3, 1) := by decide +kernel
theorem d_Law_law_216 : decode code 216 = .ok (.iconst 2, 1) := by decide +kernel
theorem d_Law_law_217 : decode code 217 = .ok (.iadd, 1) := by decide +kernel
theorem d_Law_law_218 : decode code 218 = .ok (.iaload, 1) := by decide +kernel
theorem d_Law_law_219 : decode code 219 = .ok (.invokevirtual 23, 3) := by decide +kernel
theorem d_Law_law_222 : decode code 222 = .ok (.aload_n 2, 1) := by decide +kernel
theorem d_Law_law_223 : decode code 223 = .ok (.aload_n 0, 1) := by decide +kernel
theorem d_Law_law_224 : decode code 224 = .ok (.iload_n 3, 1) := by decide +kernel
theorem d_Law_law_225 : decode code 225 = .ok (.iconst 1, 1) := by decide +kernel
theorem d_Law_law_226 : decode code 226 = .ok (.iadd, 1) := by decide +kernel
theorem d_Law_law_227 : decode code 227 = .ok (.iaload, 1) := by decide +kernel
theorem d_Law_law_228 : decode code 228 = .ok (.aload_n 0, 1) := by decide +kernel
theorem d_Law_law_229 : decode code 229 = .ok (.iload_n 3, 1) := by decide +kernel
theorem d_Law_law_230 : decode code 230 = .ok (.iconst 2, 1) := by decide +kernel
theorem d_Law_law_231 : decode code 231 = .ok (.iadd, 1) := by decide +kernel
theorem d_Law_law_232 : decode code 232 = .ok (.iaload, 1) := by decide +kernel
theorem d_Law_law_233 : decode code 233 = .ok (.invokevirtual 27, 3) := by decide +kernel
theorem d_Law_law_236 : decode code 236 = .ok (.if_icmp .eq 397, 3) := by decide +kernel
theorem d_Law_law_239 : decode code 239 = .ok (.iconst 0, 1) := by decide +kernel
theorem d_Law_law_240 : decode code 240 = .ok (.ireturn, 1) := by decide +kernel
theorem d_Law_law_241 : decode code 241 = .ok (.aload_n 1, 1) := by decide +kernel
theorem d_Law_law_242 : decode code 242 = .ok (.aload_n 0, 1) := by decide +kernel
theorem d_Law_law_243 : decode code 243 = .ok (.iload_n 3, 1) := by decide +kernel
theorem d_Law_law_244 : decode code 244 = .ok (.iconst 1, 1) := by decide +kernel
theorem d_Law_law_245 : decode code 245 = .ok (.iadd, 1) := by decide +kernel
theorem d_Law_law_246 : decode code 246 = .ok (.iaload, 1) := by decide +kernel
theorem d_Law_law_247 : decode code 247 = .ok (.aload_n 0, 1) := by decide +kernel
theorem d_Law_law_248 : decode code 248 = .ok (.iload_n 3, 1) := by decide +kernel
theorem d_Law_law_249 : decode code 249 = .ok (.iconst 2, 1) := by decide +kernel
theorem d_Law_law_250 : decode code 250 = .ok (.iadd, 1) := by decide +kernel
theorem d_Law_law_251 : decode code 251 = .ok (.iaload, 1) := by decide +kernel
theorem d_Law_law_252 : decode code 252 = .ok (.invokevirtual 28, 3) := by decide +kernel
theorem d_Law_law_255 : decode code 255 = .ok (.aload_n 2, 1) := by decide +kernel
theorem d_Law_law_256 : decode code 256 = .ok (.aload_n 0, 1) := by decide +kernel
theorem d_Law_law_257 : decode code 257 = .ok (.iload_n 3, 1) := by decide +kernel
theorem d_Law_law_258 : decode code 258 = .ok (.iconst 1, 1) := by decide +kernel
theorem d_Law_law_259 : decode code 259 = .ok (.iadd, 1) := by decide +kernel
theorem d_Law_law_260 : decode code 260 = .ok (.iaload, 1) := by decide +kernel
theorem d_Law_law_261 : decode code 261 = .ok (.aload_n 0, 1) := by decide +kernel
theorem d_Law_law_262 : decode code 262 = .ok (.iload_n 3, 1) := by decide +kernel
theorem d_Law_law_263 : decode code 263 = .ok (.iconst 2, 1) := by decide +kernel
theorem d_Law_law_264 : decode code 264 = .ok (.iadd, 1) := by decide +kernel
theorem d_Law_law_265 : decode code 265 = .ok (.iaload, 1) := by decide +kernel
theorem d_Law_law_266 : decode code 266 = .ok (.invokevirtual 32, 3) := by decide +kernel
theorem d_Law_law_269 : decode code 269 = .ok (.if_icmp .eq 364, 3) := by decide +kernel
theorem d_Law_law_272 : decode code 272 = .ok (.iconst 0, 1) := by decide +kernel
theorem d_Law_law_273 : decode code 273 = .ok (.ireturn, 1) := by decide +kernel
theorem d_Law_law_274 : decode code 274 = .ok (.aload_n 1, 1) := by decide +kernel
theorem d_Law_law_275 : decode code 275 = .ok (.aload_n 0, 1) := by decide +kernel
theorem d_Law_law_276 : decode code 276 = .ok (.iload_n 3, 1) := by decide +kernel
theorem d_Law_law_277 : decode code 277 = .ok (.iconst 1, 1) := by decide +kernel
theorem d_Law_law_278 : decode code 278 = .ok (.iadd, 1) := by decide +kernel
theorem d_Law_law_279 : decode code 279 = .ok (.iaload, 1) := by decide +kernel
theorem d_Law_law_280 : decode code 280 = .ok (.aload_n 0, 1) := by decide +kernel
theorem d_Law_law_281 : decode code 281 = .ok (.iload_n 3, 1) := by decide +kernel
theorem d_Law_law_282 : decode code 282 = .ok (.iconst 2, 1) := by decide +kernel
theorem d_Law_law_283 : decode code 283 = .ok (.iadd, 1) := by decide +kernel
theorem d_Law_law_284 : decode code 284 = .ok (.iaload, 1) := by decide +kernel
theorem d_Law_law_285 : decode code 285 = .ok (.invokevirtual 33, 3) := by decide +kernel
theorem d_Law_law_288 : decode code 288 = .ok (.aload_n 2, 1) := by decide +kernel
theorem d_Law_law_289 : decode code 289 = .ok (.aload_n 0, 1) := by decide +kernel
theorem d_Law_law_290 : decode code 290 = .ok (.iload_n 3, 1) := by decide +kernel
theorem d_Law_law_291 : decode code 291 = .ok (.iconst 1, 1) := by decide +kernel
theorem d_Law_law_292 : decode code 292 = .ok (.iadd, 1) := by decide +kernel
theorem d_Law_law_293 : decode code 293 = .ok (.iaload, 1) := by decide +kernel
theorem d_Law_law_294 : decode code 294 = .ok (.aload_n 0, 1) := by decide +kernel
theorem d_Law_law_295 : decode code 295 = .ok (.iload_n 3, 1) := by decide +kernel
theorem d_Law_law_296 : decode code 296 = .ok (.iconst 2, 1) := by decide +kernel
theorem d_Law_law_297 : decode code 297 = .ok (.iadd, 1) := by decide +kernel
theorem d_Law_law_298 : decode code 298 = .ok (.iaload, 1) := by decide +kernel
theorem d_Law_law_299 : decode code 299 = .ok (.invokevirtual 36, 3) := by decide +kernel
theorem d_Law_law_302 : decode code 302 = .ok (.if_icmp .eq 331, 3) := by decide +kernel
theorem d_Law_law_305 : decode code 305 = .ok (.iconst 0, 1) := by decide +kernel
theorem d_Law_law_306 : decode code 306 = .ok (.ireturn, 1) := by decide +kernel
theorem d_Law_law_307 : decode code 307 = .ok (.aload_n 1, 1) := by decide +kernel
theorem d_Law_law_308 : decode code 308 = .ok (.aload_n 0, 1) := by decide +kernel
theorem d_Law_law_309 : decode code 309 = .ok (.iload_n 3, 1) := by decide +kernel
theorem d_Law_law_310 : decode code 310 = .ok (.iconst 1, 1) := by decide +kernel
theorem d_Law_law_311 : decode code 311 = .ok (.iadd, 1) := by decide +kernel
theorem d_Law_law_312 : decode code 312 = .ok (.iaload, 1) := by decide +kernel
theorem d_Law_law_313 : decode code 313 = .ok (.invokevirtual 37, 3) := by decide +kernel
theorem d_Law_law_316 : decode code 316 = .ok (.aload_n 2, 1) := by decide +kernel
theorem d_Law_law_317 : decode code 317 = .ok (.aload_n 0, 1) := by decide +kernel
theorem d_Law_law_318 : decode code 318 = .ok (.iload_n 3, 1) := by decide +kernel
theorem d_Law_law_319 : decode code 319 = .ok (.iconst 1, 1) := by decide +kernel
theorem d_Law_law_320 : decode code 320 = .ok (.iadd, 1) := by decide +kernel
theorem d_Law_law_321 : decode code 321 = .ok (.iaload, 1) := by decide +kernel
theorem d_Law_law_322 : decode code 322 = .ok (.invokevirtual 41, 3) := by decide +kernel
theorem d_Law_law_325 : decode code 325 = .ok (.if_icmp .eq 308, 3) := by decide +kernel
theorem d_Law_law_328 : decode code 328 = .ok (.iconst 0, 1) := by decide +kernel
theorem d_Law_law_329 : decode code 329 = .ok (.ireturn, 1) := by decide +kernel
theorem d_Law_law_330 : decode code 330 = .ok (.aload_n 1, 1) := by decide +kernel
theorem d_Law_law_331 : decode code 331 = .ok (.aload_n 0, 1) := by decide +kernel
theorem d_Law_law_332 : decode code 332 = .ok (.iload_n 3, 1) := by decide +kernel
theorem d_Law_law_333 : decode code 333 = .ok (.iconst 1, 1) := by decide +kernel
theorem d_Law_law_334 : decode code 334 = .ok (.iadd, 1) := by decide +kernel
theorem d_Law_law_335 : decode code 335 = .ok (.iaload, 1) := by decide +kernel
theorem d_Law_law_336 : decode code 336 = .ok (.invokevirtual 42, 3) := by decide +kernel
theorem d_Law_law_339 : decode code 339 = .ok (.aload_n 2, 1) := by decide +kernel
theorem d_Law_law_340 : decode code 340 = .ok (.aload_n 0, 1) := by decide +kernel
theorem d_Law_law_341 : decode code 341 = .ok (.iload_n 3, 1) := by decide +kernel
theorem d_Law_law_342 : decode code 342 = .ok (.iconst 1, 1) := by decide +kernel
theorem d_Law_law_343 : decode code 343 = .ok (.iadd, 1) := by decide +kernel
theorem d_Law_law_344 : decode code 344 = .ok (.iaload, 1) := by decide +kernel
theorem d_Law_law_345 : decode code 345 = .ok (.invokevirtual 45, 3) := by decide +kernel
theorem d_Law_law_348 : decode code 348 = .ok (.if_icmp .eq 285, 3) := by decide +kernel
theorem d_Law_law_351 : decode code 351 = .ok (.iconst 0, 1) := by decide +kernel
theorem d_Law_law_352 : decode code 352 = .ok (.ireturn, 1) := by decide +kernel
theorem d_Law_law_353 : decode code 353 = .ok (.aload_n 1, 1) := by decide +kernel
theorem d_Law_law_354 : decode code 354 = .ok (.aload_n 0, 1) := by decide +kernel
theorem d_Law_law_355 : decode code 355 = .ok (.iload_n 3, 1) := by decide +kernel
theorem d_Law_law_356 : decode code 356 = .ok (.iconst 1, 1) := by decide +kernel
theorem d_Law_law_357 : decode code 357 = .ok (.iadd, 1) := by decide +kernel
theorem d_Law_law_358 : decode code 358 = .ok (.iaload, 1) := by decide +kernel
theorem d_Law_law_359 : decode code 359 = .ok (.invokevirtual 46, 3) := by decide +kernel
theorem d_Law_law_362 : decode code 362 = .ok (.aload_n 2, 1) := by decide +kernel
theorem d_Law_law_363 : decode code 363 = .ok (.aload_n 0, 1) := by decide +kernel
theorem d_Law_law_364 : decode code 364 = .ok (.iload_n 3, 1) := by decide +kernel
theorem d_Law_law_365 : decode code 365 = .ok (.iconst 1, 1) := by decide +kernel
theorem d_Law_law_366 : decode code 366 = .ok (.iadd, 1) := by decide +kernel
theorem d_Law_law_367 : decode code 367 = .ok (.iaload, 1) := by decide +kernel
theorem d_Law_law_368 : decode code 368 = .ok (.invokevirtual 49, 3) := by decide +kernel
theorem d_Law_law_371 : decode code 371 = .ok (.if_icmp .eq 262, 3) := by decide +kernel
theorem d_Law_law_374 : decode code 374 = .ok (.iconst 0, 1) := by decide +kernel
theorem d_Law_law_375 : decode code 375 = .ok (.ireturn, 1) := by decide +kernel
theorem d_Law_law_376 : decode code 376 = .ok (.aload_n 1, 1) := by decide +kernel
theorem d_Law_law_377 : decode code 377 = .ok (.invokevirtual 50, 3) := by decide +kernel
theorem d_Law_law_380 : decode code 380 = .ok (.aload_n 2, 1) := by decide +kernel
theorem d_Law_law_381 : decode code 381 = .ok (.invokevirtual 53, 3) := by decide +kernel
theorem d_Law_law_384 : decode code 384 = .ok (.goto 249, 3) := by decide +kernel
theorem d_Law_law_387 : decode code 387 = .ok (.aload_n 1, 1) := by decide +kernel
theorem d_Law_law_388 : decode code 388 = .ok (.aload_n 0, 1) := by decide +kernel
theorem d_Law_law_389 : decode code 389 = .ok (.iload_n 3, 1) := by decide +kernel
theorem d_Law_law_390 : decode code 390 = .ok (.iconst 1, 1) := by decide +kernel
theorem d_Law_law_391 : decode code 391 = .ok (.iadd, 1) := by decide +kernel
theorem d_Law_law_392 : decode code 392 = .ok (.iaload, 1) := by decide +kernel
theorem d_Law_law_393 : decode code 393 = .ok (.invokevirtual 54, 3) := by decide +kernel
theorem d_Law_law_396 : decode code 396 = .ok (.aload_n 2, 1) := by decide +kernel
theorem d_Law_law_397 : decode code 397 = .ok (.aload_n 0, 1) := by decide +kernel
theorem d_Law_law_398 : decode code 398 = .ok (.iload_n 3, 1) := by decide +kernel
theorem d_Law_law_399 : decode code 399 = .ok (.iconst 1, 1) := by decide +kernel
theorem d_Law_law_400 : decode code 400 = .ok (.iadd, 1) := by decide +kernel
theorem d_Law_law_401 : decode code 401 = .ok (.iaload, 1) := by decide +kernel
theorem d_Law_law_402 : decode code 402 = .ok (.invokevirtual 57, 3) := by decide +kernel
theorem d_Law_law_405 : decode code 405 = .ok (.if_icmp .eq 228, 3) := by decide +kernel
theorem d_Law_law_408 : decode code 408 = .ok (.iconst 0, 1) := by decide +kernel
theorem d_Law_law_409 : decode code 409 = .ok (.ireturn, 1) := by decide +kernel
theorem d_Law_law_410 : decode code 410 = .ok (.aload_n 1, 1) := by decide +kernel
theorem d_Law_law_411 : decode code 411 = .ok (.aload_n 0, 1) := by decide +kernel
theorem d_Law_law_412 : decode code 412 = .ok (.iload_n 3, 1) := by decide +kernel
theorem d_Law_law_413 : decode code 413 = .ok (.iconst 1, 1) := by decide +kernel
theorem d_Law_law_414 : decode code 414 = .ok (.iadd, 1) := by decide +kernel
theorem d_Law_law_415 : decode code 415 = .ok (.iaload, 1) := by decide +kernel
theorem d_Law_law_416 : decode code 416 = .ok (.invokevirtual 58, 3) := by decide +kernel
theorem d_Law_law_419 : decode code 419 = .ok (.aload_n 2, 1) := by decide +kernel
theorem d_Law_law_420 : decode code 420 = .ok (.aload_n 0, 1) := by decide +kernel
theorem d_Law_law_421 : decode code 421 = .ok (.iload_n 3, 1) := by decide +kernel
theorem d_Law_law_422 : decode code 422 = .ok (.iconst 1, 1) := by decide +kernel
theorem d_Law_law_423 : decode code 423 = .ok (.iadd, 1) := by decide +kernel
theorem d_Law_law_424 : decode code 424 = .ok (.iaload, 1) := by decide +kernel
theorem d_Law_law_425 : decode code 425 = .ok (.invokevirtual 61, 3) := by decide +kernel
theorem d_Law_law_428 : decode code 428 = .ok (.if_icmp .eq 205, 3) := by decide +kernel
theorem d_Law_law_431 : decode code 431 = .ok (.iconst 0, 1) := by decide +kernel
theorem d_Law_law_432 : decode code 432 = .ok (.ireturn, 1) := by decide +kernel
theorem d_Law_law_433 : decode code 433 = .ok (.aload_n 1, 1) := by decide +kernel
theorem d_Law_law_434 : decode code 434 = .ok (.invokevirtual 62, 3) := by decide +kernel
theorem d_Law_law_437 : decode code 437 = .ok (.aload_n 2, 1) := by decide +kernel
theorem d_Law_law_438 : decode code 438 = .ok (.invokevirtual 66, 3) := by decide +kernel
theorem d_Law_law_441 : decode code 441 = .ok (.if_icmp .eq 192, 3) := by decide +kernel
theorem d_Law_law_444 : decode code 444 = .ok (.iconst 0, 1) := by decide +kernel
theorem d_Law_law_445 : decode code 445 = .ok (.ireturn, 1) := by decide +kernel
theorem d_Law_law_446 : decode code 446 = .ok (.aload_n 1, 1) := by decide +kernel
theorem d_Law_law_447 : decode code 447 = .ok (.aload_n 0, 1) := by decide +kernel
theorem d_Law_law_448 : decode code 448 = .ok (.iload_n 3, 1) := by decide +kernel
theorem d_Law_law_449 : decode code 449 = .ok (.iconst 1, 1) := by decide +kernel
theorem d_Law_law_450 : decode code 450 = .ok (.iadd, 1) := by decide +kernel
theorem d_Law_law_451 : decode code 451 = .ok (.iaload, 1) := by decide +kernel
theorem d_Law_law_452 : decode code 452 = .ok (.invokevirtual 67, 3) := by decide +kernel
theorem d_Law_law_455 : decode code 455 = .ok (.aload_n 2, 1) := by decide +kernel
theorem d_Law_law_456 : decode code 456 = .ok (.aload_n 0, 1) := by decide +kernel
theorem d_Law_law_457 : decode code 457 = .ok (.iload_n 3, 1) := by decide +kernel
theorem d_Law_law_458 : decode code 458 = .ok (.iconst 1, 1) := by decide +kernel
theorem d_Law_law_459 : decode code 459 = .ok (.iadd, 1) := by decide +kernel
theorem d_Law_law_460 : decode code 460 = .ok (.iaload, 1) := by decide +kernel
theorem d_Law_law_461 : decode code 461 = .ok (.invokevirtual 70, 3) := by decide +kernel
theorem d_Law_law_464 : decode code 464 = .ok (.if_icmp .eq 169, 3) := by decide +kernel
theorem d_Law_law_467 : decode code 467 = .ok (.iconst 0, 1) := by decide +kernel
theorem d_Law_law_468 : decode code 468 = .ok (.ireturn, 1) := by decide +kernel
theorem d_Law_law_469 : decode code 469 = .ok (.aload_n 1, 1) := by decide +kernel
theorem d_Law_law_470 : decode code 470 = .ok (.aload_n 0, 1) := by decide +kernel
theorem d_Law_law_471 : decode code 471 = .ok (.iload_n 3, 1) := by decide +kernel
theorem d_Law_law_472 : decode code 472 = .ok (.iconst 1, 1) := by decide +kernel
theorem d_Law_law_473 : decode code 473 = .ok (.iadd, 1) := by decide +kernel
theorem d_Law_law_474 : decode code 474 = .ok (.iaload, 1) := by decide +kernel
theorem d_Law_law_475 : decode code 475 = .ok (.invokevirtual 71, 3) := by decide +kernel
theorem d_Law_law_478 : decode code 478 = .ok (.aload_n 2, 1) := by decide +kernel
theorem d_Law_law_479 : decode code 479 = .ok (.aload_n 0, 1) := by decide +kernel
theorem d_Law_law_480 : decode code 480 = .ok (.iload_n 3, 1) := by decide +kernel
theorem d_Law_law_481 : decode code 481 = .ok (.iconst 1, 1) := by decide +kernel
theorem d_Law_law_482 : decode code 482 = .ok (.iadd, 1) := by decide +kernel
theorem d_Law_law_483 : decode code 483 = .ok (.iaload, 1) := by decide +kernel
theorem d_Law_law_484 : decode code 484 = .ok (.invokevirtual 74, 3) := by decide +kernel
theorem d_Law_law_487 : decode code 487 = .ok (.if_icmp .eq 146, 3) := by decide +kernel
theorem d_Law_law_490 : decode code 490 = .ok (.iconst 0, 1) := by decide +kernel
theorem d_Law_law_491 : decode code 491 = .ok (.ireturn, 1) := by decide +kernel
theorem d_Law_law_492 : decode code 492 = .ok (.aload_n 1, 1) := by decide +kernel
theorem d_Law_law_493 : decode code 493 = .ok (.aload_n 0, 1) := by decide +kernel
theorem d_Law_law_494 : decode code 494 = .ok (.iload_n 3, 1) := by decide +kernel
theorem d_Law_law_495 : decode code 495 = .ok (.iconst 1, 1) := by decide +kernel
theorem d_Law_law_496 : decode code 496 = .ok (.iadd, 1) := by decide +kernel
theorem d_Law_law_497 : decode code 497 = .ok (.iaload, 1) := by decide +kernel
theorem d_Law_law_498 : decode code 498 = .ok (.invokevirtual 75, 3) := by decide +kernel
theorem d_Law_law_501 : decode code 501 = .ok (.aload_n 2, 1) := by decide +kernel
theorem d_Law_law_502 : decode code 502 = .ok (.aload_n 0, 1) := by decide +kernel
theorem d_Law_law_503 : decode code 503 = .ok (.iload_n 3, 1) := by decide +kernel
theorem d_Law_law_504 : decode code 504 = .ok (.iconst 1, 1) := by decide +kernel
theorem d_Law_law_505 : decode code 505 = .ok (.iadd, 1) := by decide +kernel
theorem d_Law_law_506 : decode code 506 = .ok (.iaload, 1) := by decide +kernel
theorem d_Law_law_507 : decode code 507 = .ok (.invokevirtual 78, 3) := by decide +kernel
theorem d_Law_law_510 : decode code 510 = .ok (.if_icmp .eq 123, 3) := by decide +kernel
theorem d_Law_law_513 : decode code 513 = .ok (.iconst 0, 1) := by decide +kernel
theorem d_Law_law_514 : decode code 514 = .ok (.ireturn, 1) := by decide +kernel
theorem d_Law_law_515 : decode code 515 = .ok (.aload_n 1, 1) := by decide +kernel
theorem d_Law_law_516 : decode code 516 = .ok (.invokevirtual 79, 3) := by decide +kernel
theorem d_Law_law_519 : decode code 519 = .ok (.aload_n 2, 1) := by decide +kernel
theorem d_Law_law_520 : decode code 520 = .ok (.invokevirtual 83, 3) := by decide +kernel
theorem d_Law_law_523 : decode code 523 = .ok (.if_icmp .eq 110, 3) := by decide +kernel
theorem d_Law_law_526 : decode code 526 = .ok (.iconst 0, 1) := by decide +kernel
theorem d_Law_law_527 : decode code 527 = .ok (.ireturn, 1) := by decide +kernel
theorem d_Law_law_528 : decode code 528 = .ok (.aload_n 1, 1) := by decide +kernel
theorem d_Law_law_529 : decode code 529 = .ok (.invokevirtual 84, 3) := by decide +kernel
theorem d_Law_law_532 : decode code 532 = .ok (.aload_n 2, 1) := by decide +kernel
theorem d_Law_law_533 : decode code 533 = .ok (.invokevirtual 87, 3) := by decide +kernel
theorem d_Law_law_536 : decode code 536 = .ok (.if_icmp .eq 97, 3) := by decide +kernel
theorem d_Law_law_539 : decode code 539 = .ok (.iconst 0, 1) := by decide +kernel
theorem d_Law_law_540 : decode code 540 = .ok (.ireturn, 1) := by decide +kernel
theorem d_Law_law_541 : decode code 541 = .ok (.aload_n 1, 1) := by decide +kernel
theorem d_Law_law_542 : decode code 542 = .ok (.aload_n 0, 1) := by decide +kernel
theorem d_Law_law_543 : decode code 543 = .ok (.iload_n 3, 1) := by decide +kernel
theorem d_Law_law_544 : decode code 544 = .ok (.iconst 1, 1) := by decide +kernel
theorem d_Law_law_545 : decode code 545 = .ok (.iadd, 1) := by decide +kernel
theorem d_Law_law_546 : decode code 546 = .ok (.iaload, 1) := by decide +kernel
theorem d_Law_law_547 : decode code 547 = .ok (.invokevirtual 88, 3) := by decide +kernel
theorem d_Law_law_550 : decode code 550 = .ok (.aload_n 2, 1) := by decide +kernel
theorem d_Law_law_551 : decode code 551 = .ok (.aload_n 0, 1) := by decide +kernel
theorem d_Law_law_552 : decode code 552 = .ok (.iload_n 3, 1) := by decide +kernel
theorem d_Law_law_553 : decode code 553 = .ok (.iconst 1, 1) := by decide +kernel
theorem d_Law_law_554 : decode code 554 = .ok (.iadd, 1) := by decide +kernel
theorem d_Law_law_555 : decode code 555 = .ok (.iaload, 1) := by decide +kernel
theorem d_Law_law_556 : decode code 556 = .ok (.invokevirtual 91, 3) := by decide +kernel
theorem d_Law_law_559 : decode code 559 = .ok (.if_icmp .eq 74, 3) := by decide +kernel
theorem d_Law_law_562 : decode code 562 = .ok (.iconst 0, 1) := by decide +kernel
theorem d_Law_law_563 : decode code 563 = .ok (.ireturn, 1) := by decide +kernel
theorem d_Law_law_564 : decode code 564 = .ok (.aload_n 1, 1) := by decide +kernel
theorem d_Law_law_565 : decode code 565 = .ok (.aload_n 0, 1) := by decide +kernel
theorem d_Law_law_566 : decode code 566 = .ok (.iload_n 3, 1) := by decide +kernel
theorem d_Law_law_567 : decode code 567 = .ok (.iconst 1, 1) := by decide +kernel
theorem d_Law_law_568 : decode code 568 = .ok (.iadd, 1) := by decide +kernel
theorem d_Law_law_569 : decode code 569 = .ok (.iaload, 1) := by decide +kernel
theorem d_Law_law_570 : decode code 570 = .ok (.invokevirtual 92, 3) := by decide +kernel
theorem d_Law_law_573 : decode code 573 = .ok (.aload_n 2, 1) := by decide +kernel
theorem d_Law_law_574 : decode code 574 = .ok (.aload_n 0, 1) := by decide +kernel
theorem d_Law_law_575 : decode code 575 = .ok (.iload_n 3, 1) := by decide +kernel
theorem d_Law_law_576 : decode code 576 = .ok (.iconst 1, 1) := by decide +kernel
theorem d_Law_law_577 : decode code 577 = .ok (.iadd, 1) := by decide +kernel
theorem d_Law_law_578 : decode code 578 = .ok (.iaload, 1) := by decide +kernel
theorem d_Law_law_579 : decode code 579 = .ok (.invokevirtual 95, 3) := by decide +kernel
theorem d_Law_law_582 : decode code 582 = .ok (.if_icmp .eq 51, 3) := by decide +kernel
theorem d_Law_law_585 : decode code 585 = .ok (.iconst 0, 1) := by decide +kernel
theorem d_Law_law_586 : decode code 586 = .ok (.ireturn, 1) := by decide +kernel
theorem d_Law_law_587 : decode code 587 = .ok (.aload_n 1, 1) := by decide +kernel
theorem d_Law_law_588 : decode code 588 = .ok (.aload_n 0, 1) := by decide +kernel
theorem d_Law_law_589 : decode code 589 = .ok (.iload_n 3, 1) := by decide +kernel
theorem d_Law_law_590 : decode code 590 = .ok (.iconst 1, 1) := by decide +kernel
theorem d_Law_law_591 : decode code 591 = .ok (.iadd, 1) := by decide +kernel
theorem d_Law_law_592 : decode code 592 = .ok (.iaload, 1) := by decide +kernel
theorem d_Law_law_593 : decode code 593 = .ok (.invokevirtual 96, 3) := by decide +kernel
theorem d_Law_law_596 : decode code 596 = .ok (.aload_n 2, 1) := by decide +kernel
theorem d_Law_law_597 : decode code 597 = .ok (.aload_n 0, 1) := by decide +kernel
theorem d_Law_law_598 : decode code 598 = .ok (.iload_n 3, 1) := by decide +kernel
theorem d_Law_law_599 : decode code 599 = .ok (.iconst 1, 1) := by decide +kernel
theorem d_Law_law_600 : decode code 600 = .ok (.iadd, 1) := by decide +kernel
theorem d_Law_law_601 : decode code 601 = .ok (.iaload, 1) := by decide +kernel
theorem d_Law_law_602 : decode code 602 = .ok (.invokevirtual 99, 3) := by decide +kernel
theorem d_Law_law_605 : decode code 605 = .ok (.if_icmp .eq 28, 3) := by decide +kernel
theorem d_Law_law_608 : decode code 608 = .ok (.iconst 0, 1) := by decide +kernel
theorem d_Law_law_609 : decode code 609 = .ok (.ireturn, 1) := by decide +kernel
theorem d_Law_law_610 : decode code 610 = .ok (.aload_n 1, 1) := by decide +kernel
theorem d_Law_law_611 : decode code 611 = .ok (.aload_n 0, 1) := by decide +kernel
theorem d_Law_law_612 : decode code 612 = .ok (.iload_n 3, 1) := by decide +kernel
theorem d_Law_law_613 : decode code 613 = .ok (.iconst 1, 1) := by decide +kernel
theorem d_Law_law_614 : decode code 614 = .ok (.iadd, 1) := by decide +kernel
theorem d_Law_law_615 : decode code 615 = .ok (.iaload, 1) := by decide +kernel
theorem d_Law_law_616 : decode code 616 = .ok (.invokevirtual 100, 3) := by decide +kernel
theorem d_Law_law_619 : decode code 619 = .ok (.aload_n 2, 1) := by decide +kernel
theorem d_Law_law_620 : decode code 620 = .ok (.aload_n 0, 1) := by decide +kernel
theorem d_Law_law_621 : decode code 621 = .ok (.iload_n 3, 1) := by decide +kernel
theorem d_Law_law_622 : decode code 622 = .ok (.iconst 1, 1) := by decide +kernel
theorem d_Law_law_623 : decode code 623 = .ok (.iadd, 1) := by decide +kernel
theorem d_Law_law_624 : decode code 624 = .ok (.iaload, 1) := by decide +kernel
theorem d_Law_law_625 : decode code 625 = .ok (.invokevirtual 103, 3) := by decide +kernel
theorem d_Law_law_628 : decode code 628 = .ok (.if_icmp .eq 5, 3) := by decide +kernel
theorem d_Law_law_631 : decode code 631 = .ok (.iconst 0, 1) := by decide +kernel
theorem d_Law_law_632 : decode code 632 = .ok (.ireturn, 1) := by decide +kernel
theorem d_Law_law_633 : decode code 633 = .ok (.iinc 3 5, 3) := by decide +kernel
theorem d_Law_law_636 : decode code 636 = .ok (.goto (-618), 3) := by decide +kernel
theorem d_Law_law_639 : decode code 639 = .ok (.iconst 1, 1) := by decide +kernel
theorem d_Law_law_640 : decode code 640 = .ok (.ireturn, 1) := by decide +kernel
end
section
-- the layer over positions. 'classes', 'am_all', 'am_nest' come from the names' part (09) ahead of this one.
/-- what stands on the stack and in the locals: an int, or a reference by its position (none: null) -/
abbrev am_V : Type := Int32 ⊕ Option Nat
abbrev vI (x : Int32) : am_V := .inl x
abbrev vR (k : Nat) : am_V := .inr (some k)
def am_cv (ad : Nat → Nat) (v : am_V) : Value := match v with
  | .inl x => .int x
  | .inr r => va_rf (r.map ad)
theorem am_cv_cat (ad : Nat → Nat) (v : am_V) : (am_cv ad v).category = 1 := by
  cases v with
  | inl x => rfl
  | inr r => cases r <;> rfl
/-- a cell: an array (number of its table, length, ints or references), or an object (number of its class, fields) -/
abbrev am_E : Type := (Nat × Nat × ((Nat → Int32) ⊕ (Nat → Option Nat))) ⊕ (Nat × List am_V)
abbrev am_H : Type := Nat → am_E
def am_ce (tc : Nat → ClassId) (ad : Nat → Nat) (e : am_E) : va_E := match e with
  | .inl (t, N, .inl f) => .inl (tc t, N, .inl f)
  | .inl (t, N, .inr g) => .inl (tc t, N, .inr (.inr (.inr (.inr (fun i => (g i).map ad)))))
  | .inr (ci, fs) => .inr (ci, fs.map (am_cv ad))
def am_ws (tc : Nat → ClassId) (ad : Nat → Nat) (n : Nat) (h : am_H) : va_W := (List.range n).map (fun k => (ad k, am_ce tc ad (h k)))
theorem am_get {tc : Nat → ClassId} {ad : Nat → Nat} {n k : Nat} {h : am_H} {e : am_E} (hk : k < n) (he : h k = e) : (am_ws tc ad n h)[k]? = some (ad k, am_ce tc ad e) := by
  subst he
  simp [am_ws, hk]
theorem am_len (tc : Nat → ClassId) (ad : Nat → Nat) (n : Nat) (h : am_H) : (am_ws tc ad n h).length = n := by simp [am_ws]
theorem am_set {tc : Nat → ClassId} {ad : Nat → Nat} {n k : Nat} {h : am_H} (e : am_E) (hk : k < n) : (am_ws tc ad n h).set k (ad k, am_ce tc ad e) = am_ws tc ad n (va_up h k e) := by
  apply List.ext_getElem?
  intro i
  by_cases hi : i = k
  · subst hi
    rw [List.getElem?_set_self (by rw [am_len]; exact hk), am_get hk (va_up_self _ _ _)]
  · rw [List.getElem?_set_ne (fun q => hi q.symm)]
    by_cases hn : i < n
    · rw [am_get hn rfl, am_get hn rfl, va_up_ne _ _ hi]
    · rw [List.getElem?_eq_none (by rw [am_len]; omega), List.getElem?_eq_none (by rw [am_len]; omega)]
-- scoping: all references of a cell point below n
def am_okv (n : Nat) (v : am_V) : Prop := match v with
  | .inr (some k) => k < n
  | _ => True
def am_oke (n : Nat) (e : am_E) : Prop := match e with
  | .inl (_, _, .inl _) => True
  | .inl (_, _, .inr g) => ∀ i k, g i = some k → k < n
  | .inr (_, fs) => ∀ v ∈ fs, am_okv n v
theorem am_cv_congr {n : Nat} {ad ad' : Nat → Nat} (ha : ∀ k, k < n → ad' k = ad k) {v : am_V} (hv : am_okv n v) : am_cv ad' v = am_cv ad v := by
  cases v with
  | inl x => rfl
  | inr r =>
    cases r with
    | none => rfl
    | some k =>
      show Value.ref (ad' k) = Value.ref (ad k)
      rw [ha k hv]
theorem am_ce_congr {n : Nat} {tc : Nat → ClassId} {ad ad' : Nat → Nat} (ha : ∀ k, k < n → ad' k = ad k) {e : am_E} (he : am_oke n e) : am_ce tc ad' e = am_ce tc ad e := by
  rcases e with ⟨t, N, f | g⟩ | ⟨ci, fs⟩
  · rfl
  · have : (fun i => (g i).map ad') = fun i => (g i).map ad := funext fun i => by
      cases hg : g i with
      | none => rfl
      | some k => show some (ad' k) = some (ad k); rw [ha k (he i k hg)]
    show (Sum.inl (tc t, N, .inr (.inr (.inr (.inr (fun i => (g i).map ad'))))) : va_E) = Sum.inl (tc t, N, .inr (.inr (.inr (.inr (fun i => (g i).map ad)))))
    rw [this]
  · have : fs.map (am_cv ad') = fs.map (am_cv ad) := List.map_congr_left fun v hv => am_cv_congr ha (he v hv)
    show (Sum.inr (ci, fs.map (am_cv ad')) : va_E) = Sum.inr (ci, fs.map (am_cv ad))
    rw [this]
theorem am_push {tc : Nat → ClassId} {ad : Nat → Nat} {n q : Nat} {h : am_H} {e : am_E} (hs : ∀ k, k < n → am_oke n (h k)) : am_ws tc ad n h ++ [(q, am_ce tc (va_up ad n q) e)] = am_ws tc (va_up ad n q) (n + 1) (va_up h n e) := by
  unfold am_ws
  rw [List.range_succ, List.map_append, List.map_singleton, va_up_self, va_up_self]
  congr 1
  apply List.map_congr_left
  intro k hk
  have hk := List.mem_range.mp hk
  rw [va_up_ne ad q (Nat.ne_of_lt hk), va_up_ne h e (Nat.ne_of_lt hk), am_ce_congr (fun j hj => va_up_ne ad q (Nat.ne_of_lt hj)) (hs k hk)]
-- locals: what is known of them, by number
def am_has (ls : Array Slot) (n : Nat) (ad : Nat → Nat) (L : Nat → Option am_V) : Prop := ls.size = n ∧ lv_wf ls ∧ ∀ i v, L i = some v → ls[i]? = some (.val (am_cv ad v))
def am_ll (ad : Nat → Nat) (n : Nat) (L : Nat → Option am_V) : List (Nat × Value) := (List.range n).filterMap (fun i => (L i).map (fun v => (i, am_cv ad v)))
theorem am_ll_in {ad : Nat → Nat} {n : Nat} {L : Nat → Option am_V} {q : Nat × Value} (h : q ∈ am_ll ad n L) : ∃ v, L q.1 = some v ∧ q.2 = am_cv ad v := by
  obtain ⟨j, -, hm⟩ := List.mem_filterMap.mp h
  cases hL : L j with
  | none => rw [hL] at hm; cases hm
  | some w =>
    rw [hL] at hm
    have e : (j, am_cv ad w) = q := Option.some.inj hm
    subst e
    exact ⟨w, hL, rfl⟩
theorem am_ll_mem {ad : Nat → Nat} {n i : Nat} {L : Nat → Option am_V} {v : am_V} (hi : i < n) (h : L i = some v) : (i, am_cv ad v) ∈ am_ll ad n L := List.mem_filterMap.mpr ⟨i, List.mem_range.mpr hi, by rw [h]; rfl⟩
theorem am_has.ll {ls : Array Slot} {n : Nat} {ad : Nat → Nat} {L : Nat → Option am_V} (h : am_has ls n ad L) : lv_has ls n (am_ll ad n L) := ⟨h.1, h.2.1, fun q hq => by
  obtain ⟨v, h1, h2⟩ := am_ll_in hq
  rw [h2]
  exact h.2.2 q.1 v h1⟩
theorem am_has.ll1 {ls : Array Slot} {n i : Nat} {ad : Nat → Nat} {L : Nat → Option am_V} {v : am_V} (h : am_has ls n ad L) (hv : L i = some v) : lv_has ls n ((i, am_cv ad v) :: am_ll ad n L) := ⟨h.1, h.2.1, fun q hq => by
  rcases List.mem_cons.mp hq with rfl | hq
  · exact h.2.2 i v hv
  · exact h.ll.2.2 q hq⟩
theorem am_has.st {ls ls' : Array Slot} {n i : Nat} {ad : Nat → Nat} {L : Nat → Option am_V} {v : am_V} {l : List (Nat × Value)} (h : am_has ls n ad L) (hs : ∀ q ∈ am_ll ad n L, q ∈ l) (h' : lv_has ls' n ((i, am_cv ad v) :: l.filter (fun q => !(q.1 == i) && !(q.1 + 1 == i && q.2.category == 2)))) : am_has ls' n ad (va_up L i (some v)) := by
  refine ⟨h'.1, h'.2.1, fun j w hw => ?_⟩
  by_cases e : j = i
  · subst e
    rw [va_up_self] at hw
    cases hw
    exact h'.2.2 _ List.mem_cons_self
  · rw [va_up_ne _ _ e] at hw
    have hj : j < n := by
      have := lv_lt (h.2.2 j w hw)
      rw [h.1] at this
      exact this
    exact h'.2.2 (j, am_cv ad w) (List.mem_cons_of_mem _ (List.mem_filter.mpr ⟨hs _ (am_ll_mem hj hw), by simp [e, am_cv_cat]⟩))
theorem am_args_mem (ad : Nat → Nat) : ∀ (av : List am_V) (k i : Nat) (v : am_V), av[i]? = some v → (k + i, am_cv ad v) ∈ lv_args k (av.map (am_cv ad))
  | [], _, i, v, h => by simp at h
  | a :: r, k, 0, v, h => by
    have e : a = v := by simpa using h
    subst e
    show (k + 0, am_cv ad a) ∈ (k, am_cv ad a) :: _
    exact List.mem_cons_self
  | a :: r, k, i + 1, v, h => by
    have h2 : r[i]? = some v := by simpa using h
    have := am_args_mem ad r (k + 1) i v h2
    show (k + (i + 1), am_cv ad v) ∈ (k, am_cv ad a) :: lv_args (if (am_cv ad a).category = 2 then k + 2 else k + 1) (r.map (am_cv ad))
    rw [am_cv_cat, if_neg (by decide), show k + (i + 1) = k + 1 + i by omega]
    exact List.mem_cons_of_mem _ this
theorem am_entry {ls : Array Slot} {n : Nat} {ad : Nat → Nat} {av : List am_V} (h : lv_has ls n (lv_args 0 (av.map (am_cv ad)))) : am_has ls n ad (fun i => av[i]?) := ⟨h.1, h.2.1, fun i v hv => by
  have := h.2.2 _ (am_args_mem ad av 0 i v hv)
  rw [Nat.zero_add] at this
  exact this⟩
theorem am_sl (ad : Nat → Nat) (av : List am_V) : (lg_sl (av.map (am_cv ad))).length = av.length := by
  induction av with
  | nil => rfl
  | cons v t ih =>
    simp only [lg_sl, List.map_cons, List.flatMap_cons, List.length_append] at ih ⊢
    rw [ih, am_cv_cat]
    simp
    omega
-- array classes by number, and what is known of the tables in every state
def am_tl (tc : Nat → ClassId) : List (ClassId × FieldType) := [(tc 0, .int), (tc 1, .boolean), (tc 2, .object "SpanLinker$SourceModule"), (tc 3, .array .int)]
/-- arrays of int[] can be made -/
def am_AOA (U : State) : Prop := (Cond.arrayOver (.array .int)).before #[] U = true
def am_K (D : va_G) (tc : Nat → ClassId) (U : State) : Prop := va_K D classes (am_tl tc) U ∧ (∀ w ∈ am_nest, va_Nw w U) ∧ va_AO "SpanLinker$SourceModule" U ∧ am_AOA U
-- a method: own class, name, bytes, locals, return type
abbrev am_M : Type := String × MethodName × ByteArray × Nat × Option FieldType
def am_w (M : am_M) : List Cond := .code M.2.1 M.2.2.1 M.2.2.2.1 M.2.2.2.2 :: am_all
def am_R (d mc ms : Nat) : Room := { frames := d, cells := mc, slots := ms, locals := 40 * d }
def am_F (M : am_M) (d mc ms : Nat) (p : Program) (R : Room) (s : State) (m : MethodId) (args : Array Value) (meth : Method) (c : Code) (D : va_G) (tc : Nat → ClassId) (A : Nat → Prop) : Prop :=
  CallFix p m c M.2.2.1 M.2.2.2.1 s args am_all M.1 ∧ meth.sig.returnType = M.2.2.2.2 ∧ meth.locks = false ∧ (M.2.1.name = "<init>" → meth.name = "<init>") ∧ (d ≤ R.frames ∧ R.cells = mc ∧ R.slots = ms ∧ 40 * d ≤ R.locals) ∧ am_K D tc s ∧ ∀ q, s.heap.size ≤ q → A q
-- the script: its address is ad at a position far above all cells
def am_SP : Nat := 1000000
def am_X (SC : Option (Nat × (Nat → Int32))) (ad : Nat → Nat) (A : Nat → Prop) (s : State) : Prop := ∀ L xs, SC = some (L, xs) → va_X (ad am_SP) L xs s s.heap ∧ ad am_SP < s.heap.size ∧ ¬ A (ad am_SP)
-- an instruction that returns v
def am_rd (M : am_M) (pc : Nat) (v : Option am_V) : Prop :=
  (decode M.2.2.1 pc = .ok (.ireturn, 1) ∧ ∃ (x : Int32) (ty : FieldType), v = some (vI x) ∧ M.2.2.2.2 = some ty ∧ narrow ty (.int x) = .int x) ∨
  (decode M.2.2.1 pc = .ok (.return_, 1) ∧ v = none ∧ M.2.2.2.2 = none) ∨
  (decode M.2.2.1 pc = .ok (.areturn, 1) ∧ ∃ (k : Nat) (ty : FieldType), v = some (vR k) ∧ M.2.2.2.2 = some ty ∧ ((∃ z, ty = .object z) ∨ ∃ t, ty = .array t))
def am_AW (M : am_M) (d mc ms : Nat) (SC : Option (Nat × (Nat → Int32))) (Q : Option am_V → Nat → am_H → Prop) (pc : Nat) (L : Nat → Option am_V) (st : List am_V) (n : Nat) (h : am_H) (uc us : Nat) : Prop :=
  ∀ (p : Program) (l : Launch) (e : Env) (R : Room) (s : State) (m : MethodId) (args : Array Value) (below : List Frame) (meth : Method) (c : Code) (D : va_G) (tc : Nat → ClassId) (A : Nat → Prop) (Qm : State → Prop) (ad : Nat → Nat) (H : Heap) (locs : List Loc) (ls : Array Slot),
    am_F M d mc ms p R s m args meth c D tc A → am_X SC ad A s →
    va_P D classes (am_ws tc ad n h) H → va_D A (am_ws tc ad n h) → va_S A s.heap H locs →
    am_has ls M.2.2.2.1 ad L →
    (∀ (v : Option am_V) (n' : Nat) (h' : am_H) (ad' : Nat → Nat) (H' : Heap) (locs' : List Loc) (ls' : Array Slot) (pc' : Nat), Q v n' h' → n ≤ n' → (∀ k, k < n ∨ n' ≤ k → ad' k = ad k) → va_P D classes (am_ws tc ad' n' h') H' → va_D A (am_ws tc ad' n' h') → va_S A s.heap H' locs' → am_rd M pc' v →
      W p l e R s m args below meth c H' locs' mc ms Qm (F0 m pc' ls' (v.toList.map (am_cv ad')))) →
    W p l e R s m args below meth c H locs uc us Qm (F0 m pc ls (st.map (am_cv ad)))
-- a method's contract: from heap (n, h) and arguments av, answer and heap with Q
def am_AM (M : am_M) (d mc ms : Nat) (av : List am_V) (n : Nat) (h : am_H) (Q : Option am_V → Nat → am_H → Prop) : Prop :=
  ∀ (l : Launch) (D : va_G) (tc : Nat → ClassId) (ad : Nat → Nat) (sz : Nat), Met l M.2.1 (am_w M) (am_R d mc ms)
    (va_Pc (av.map (am_cv ad)) (fun U => U.heap.size = sz ∧ va_P D classes (am_ws tc ad n h) U.heap ∧ am_K D tc U ∧ va_D (fun _ => True) (am_ws tc ad n h)))
    (fun _ st oc t => (∃ (v : Option am_V) (n' : Nat) (h' : am_H) (ad' : Nat → Nat), oc = .returned (v.map (am_cv ad')) ∧ Q v n' h' ∧ n ≤ n' ∧ (∀ k, k < n ∨ n' ≤ k → ad' k = ad k) ∧ va_P D classes (am_ws tc ad' n' h') t.heap ∧ va_D (va_A (am_ws tc ad n h) sz) (am_ws tc ad' n' h')) ∧ va_F (va_A (am_ws tc ad n h) sz) st t)
    mc ms (va_A (am_ws tc ad n h) sz)
-- weaker ends, and loops: an AW is a Prop, so a loop is an induction of one's own on a measure with 'AW at the head' as its statement
theorem am_AW.mono {M : am_M} {d mc ms : Nat} {SC : Option (Nat × (Nat → Int32))} {Q Q2 : Option am_V → Nat → am_H → Prop} {pc : Nat} {L : Nat → Option am_V} {st : List am_V} {n : Nat} {h : am_H} {uc us : Nat} (hw : am_AW M d mc ms SC Q pc L st n h uc us) (hq : ∀ v n' h', Q v n' h' → Q2 v n' h') : am_AW M d mc ms SC Q2 pc L st n h uc us := by
  intro p l e R s m args below meth c D tc A Qm ad H locs ls F X hP hD hS hl hret
  exact hw p l e R s m args below meth c D tc A Qm ad H locs ls F X hP hD hS hl (fun v n' h' ad' H' locs' ls' pc' q => hret v n' h' ad' H' locs' ls' pc' (hq v n' h' q))
theorem am_AW.wide {M : am_M} {d mc ms : Nat} {SC : Option (Nat × (Nat → Int32))} {Q : Option am_V → Nat → am_H → Prop} {pc : Nat} {L : Nat → Option am_V} {st : List am_V} {n : Nat} {h : am_H} {uc us uc' us' : Nat} (h1 : uc ≤ uc') (h2 : us ≤ us') (hw : am_AW M d mc ms SC Q pc L st n h uc' us') : am_AW M d mc ms SC Q pc L st n h uc us := by
  intro p l e R s m args below meth c D tc A Qm ad H locs ls F X hP hD hS hl hret
  exact W.widen h1 h2 (hw p l e R s m args below meth c D tc A Qm ad H locs ls F X hP hD hS hl hret)
end
section
-- printed by wip/whole/gen/gen_ai.py
section AI
variable {M : am_M} {d mc ms : Nat} {SC : Option (Nat × (Nat → Int32))} {Q : Option am_V → Nat → am_H → Prop} {pc : Nat} {L : Nat → Option am_V} {rest : List am_V} {n : Nat} {h : am_H} {uc us : Nat}
theorem i_iconst {z : Int} {x : Int32} (hd : decode M.2.2.1 pc = .ok (.iconst z, 1)) (hv : Int32.ofInt z = x) (kk : am_AW M d mc ms SC Q (pc + 1) L (vI x :: rest) n h uc us) : am_AW M d mc ms SC Q pc L rest n h uc us := by
  intro p l e R s m args below meth c D tc A Qm ad H locs ls F X hP hD hS hl hret
  exact lv_iconst F.1.1 F.1.2.1 hd hv (kk p l e R s m args below meth c D tc A Qm ad H locs ls F X hP hD hS hl hret)
theorem i_bipush {z : Int} {x : Int32} (hd : decode M.2.2.1 pc = .ok (.bipush z, 2)) (hv : (Int8.ofInt z).toInt32 = x) (kk : am_AW M d mc ms SC Q (pc + 2) L (vI x :: rest) n h uc us) : am_AW M d mc ms SC Q pc L rest n h uc us := by
  intro p l e R s m args below meth c D tc A Qm ad H locs ls F X hP hD hS hl hret
  exact lv_bipush F.1.1 F.1.2.1 hd hv (kk p l e R s m args below meth c D tc A Qm ad H locs ls F X hP hD hS hl hret)
theorem i_sipush {z : Int} {x : Int32} (hd : decode M.2.2.1 pc = .ok (.sipush z, 3)) (hv : (Int16.ofInt z).toInt32 = x) (kk : am_AW M d mc ms SC Q (pc + 3) L (vI x :: rest) n h uc us) : am_AW M d mc ms SC Q pc L rest n h uc us := by
  intro p l e R s m args below meth c D tc A Qm ad H locs ls F X hP hD hS hl hret
  exact lv_sipush F.1.1 F.1.2.1 hd hv (kk p l e R s m args below meth c D tc A Qm ad H locs ls F X hP hD hS hl hret)
theorem i_ldc {index : Nat} {x : Int32} (hd : decode M.2.2.1 pc = .ok (.ldc index, 2)) (hw : Cond.constant M.1 index x ∈ am_all) (kk : am_AW M d mc ms SC Q (pc + 2) L (vI x :: rest) n h uc us) : am_AW M d mc ms SC Q pc L rest n h uc us := by
  intro p l e R s m args below meth c D tc A Qm ad H locs ls F X hP hD hS hl hret
  exact lv_ldc F.1.1 F.1.2.1 F.1.2.2.2.1 (F.1.2.2.2.2 _ hw) hd (kk p l e R s m args below meth c D tc A Qm ad H locs ls F X hP hD hS hl hret)
theorem i_iload_n {k : Fin 4} {i : Nat} {x : Int32} (hd : decode M.2.2.1 pc = .ok (.iload_n k, 1)) (hi : (k : Nat) = i) (hL : L i = some (vI x)) (kk : am_AW M d mc ms SC Q (pc + 1) L (vI x :: rest) n h uc us) : am_AW M d mc ms SC Q pc L rest n h uc us := by
  intro p l e R s m args below meth c D tc A Qm ad H locs ls F X hP hD hS hl hret
  exact lv_iload_n F.1.1 F.1.2.1 hd hi (hl.2.2 i _ hL) (kk p l e R s m args below meth c D tc A Qm ad H locs ls F X hP hD hS hl hret)
theorem i_iload {i : Nat} {x : Int32} (hd : decode M.2.2.1 pc = .ok (.iload i, 2)) (hL : L i = some (vI x)) (kk : am_AW M d mc ms SC Q (pc + 2) L (vI x :: rest) n h uc us) : am_AW M d mc ms SC Q pc L rest n h uc us := by
  intro p l e R s m args below meth c D tc A Qm ad H locs ls F X hP hD hS hl hret
  exact lv_iload F.1.1 F.1.2.1 hd (hl.2.2 i _ hL) (kk p l e R s m args below meth c D tc A Qm ad H locs ls F X hP hD hS hl hret)
theorem i_istore_n {k : Fin 4} {i : Nat} {x : Int32} (hd : decode M.2.2.1 pc = .ok (.istore_n k, 1)) (hi : (k : Nat) = i) (hn : i < M.2.2.2.1) (kk : am_AW M d mc ms SC Q (pc + 1) (va_up L i (some (vI x))) rest n h uc us) : am_AW M d mc ms SC Q pc L (vI x :: rest) n h uc us := by
  intro p l e R s m args below meth c D tc A Qm ad H locs ls F X hP hD hS hl hret
  exact lv_istore_n F.1.1 F.1.2.1 hd hi hl.ll hn rfl (fun ls' hl' => kk p l e R s m args below meth c D tc A Qm ad H locs ls' F X hP hD hS (hl.st (v := vI x) (fun _ q => q) hl') hret)
theorem i_istore {i : Nat} {x : Int32} (hd : decode M.2.2.1 pc = .ok (.istore i, 2)) (hn : i < M.2.2.2.1) (kk : am_AW M d mc ms SC Q (pc + 2) (va_up L i (some (vI x))) rest n h uc us) : am_AW M d mc ms SC Q pc L (vI x :: rest) n h uc us := by
  intro p l e R s m args below meth c D tc A Qm ad H locs ls F X hP hD hS hl hret
  exact lv_istore F.1.1 F.1.2.1 hd hl.ll hn rfl (fun ls' hl' => kk p l e R s m args below meth c D tc A Qm ad H locs ls' F X hP hD hS (hl.st (v := vI x) (fun _ q => q) hl') hret)
theorem i_aload_n {k : Fin 4} {i : Nat} {x : Nat} (hd : decode M.2.2.1 pc = .ok (.aload_n k, 1)) (hi : (k : Nat) = i) (hL : L i = some (vR x)) (kk : am_AW M d mc ms SC Q (pc + 1) L (vR x :: rest) n h uc us) : am_AW M d mc ms SC Q pc L rest n h uc us := by
  intro p l e R s m args below meth c D tc A Qm ad H locs ls F X hP hD hS hl hret
  exact lv_aload_n F.1.1 F.1.2.1 hd hi (hl.2.2 i _ hL) (kk p l e R s m args below meth c D tc A Qm ad H locs ls F X hP hD hS hl hret)
theorem i_aload {i : Nat} {x : Nat} (hd : decode M.2.2.1 pc = .ok (.aload i, 2)) (hL : L i = some (vR x)) (kk : am_AW M d mc ms SC Q (pc + 2) L (vR x :: rest) n h uc us) : am_AW M d mc ms SC Q pc L rest n h uc us := by
  intro p l e R s m args below meth c D tc A Qm ad H locs ls F X hP hD hS hl hret
  exact lv_aload F.1.1 F.1.2.1 hd (hl.2.2 i _ hL) (kk p l e R s m args below meth c D tc A Qm ad H locs ls F X hP hD hS hl hret)
theorem i_astore_n {k : Fin 4} {i : Nat} {x : Nat} (hd : decode M.2.2.1 pc = .ok (.astore_n k, 1)) (hi : (k : Nat) = i) (hn : i < M.2.2.2.1) (kk : am_AW M d mc ms SC Q (pc + 1) (va_up L i (some (vR x))) rest n h uc us) : am_AW M d mc ms SC Q pc L (vR x :: rest) n h uc us := by
  intro p l e R s m args below meth c D tc A Qm ad H locs ls F X hP hD hS hl hret
  exact lv_astore_n F.1.1 F.1.2.1 hd hi hl.ll hn rfl (fun ls' hl' => kk p l e R s m args below meth c D tc A Qm ad H locs ls' F X hP hD hS (hl.st (v := vR x) (fun _ q => q) hl') hret)
theorem i_astore {i : Nat} {x : Nat} (hd : decode M.2.2.1 pc = .ok (.astore i, 2)) (hn : i < M.2.2.2.1) (kk : am_AW M d mc ms SC Q (pc + 2) (va_up L i (some (vR x))) rest n h uc us) : am_AW M d mc ms SC Q pc L (vR x :: rest) n h uc us := by
  intro p l e R s m args below meth c D tc A Qm ad H locs ls F X hP hD hS hl hret
  exact lv_astore F.1.1 F.1.2.1 hd hl.ll hn rfl (fun ls' hl' => kk p l e R s m args below meth c D tc A Qm ad H locs ls' F X hP hD hS (hl.st (v := vR x) (fun _ q => q) hl') hret)
theorem i_iinc {i : Nat} {z : Int} {x y w : Int32} (hd : decode M.2.2.1 pc = .ok (.iinc i z, 3)) (hL : L i = some (vI x)) (hw : Int32.ofInt z = w) (hv : x + w = y) (hn : i < M.2.2.2.1) (kk : am_AW M d mc ms SC Q (pc + 3) (va_up L i (some (vI y))) rest n h uc us) : am_AW M d mc ms SC Q pc L rest n h uc us := by
  intro p l e R s m args below meth c D tc A Qm ad H locs ls F X hP hD hS hl hret
  subst hw; exact lv_iinc (k := 0) F.1.1 F.1.2.1 hd (hl.ll1 hL) rfl hv hn rfl (fun ls' hl' => kk p l e R s m args below meth c D tc A Qm ad H locs ls' F X hP hD hS (hl.st (v := vI y) (fun _ q => List.mem_cons_of_mem _ q) hl') hret)
theorem i_iadd {x y z : Int32} (hd : decode M.2.2.1 pc = .ok (.iadd, 1)) (hv : x + y = z) (kk : am_AW M d mc ms SC Q (pc + 1) L (vI z :: rest) n h uc us) : am_AW M d mc ms SC Q pc L (vI y :: vI x :: rest) n h uc us := by
  intro p l e R s m args below meth c D tc A Qm ad H locs ls F X hP hD hS hl hret
  subst hv; exact lv_iadd F.1.1 F.1.2.1 hd (kk p l e R s m args below meth c D tc A Qm ad H locs ls F X hP hD hS hl hret)
theorem i_isub {x y z : Int32} (hd : decode M.2.2.1 pc = .ok (.isub, 1)) (hv : x - y = z) (kk : am_AW M d mc ms SC Q (pc + 1) L (vI z :: rest) n h uc us) : am_AW M d mc ms SC Q pc L (vI y :: vI x :: rest) n h uc us := by
  intro p l e R s m args below meth c D tc A Qm ad H locs ls F X hP hD hS hl hret
  subst hv; exact lv_isub F.1.1 F.1.2.1 hd (kk p l e R s m args below meth c D tc A Qm ad H locs ls F X hP hD hS hl hret)
theorem i_imul {x y z : Int32} (hd : decode M.2.2.1 pc = .ok (.imul, 1)) (hv : x * y = z) (kk : am_AW M d mc ms SC Q (pc + 1) L (vI z :: rest) n h uc us) : am_AW M d mc ms SC Q pc L (vI y :: vI x :: rest) n h uc us := by
  intro p l e R s m args below meth c D tc A Qm ad H locs ls F X hP hD hS hl hret
  subst hv; exact lv_imul F.1.1 F.1.2.1 hd (kk p l e R s m args below meth c D tc A Qm ad H locs ls F X hP hD hS hl hret)
theorem i_iand {x y z : Int32} (hd : decode M.2.2.1 pc = .ok (.iand, 1)) (hv : x &&& y = z) (kk : am_AW M d mc ms SC Q (pc + 1) L (vI z :: rest) n h uc us) : am_AW M d mc ms SC Q pc L (vI y :: vI x :: rest) n h uc us := by
  intro p l e R s m args below meth c D tc A Qm ad H locs ls F X hP hD hS hl hret
  subst hv; exact lv_iand F.1.1 F.1.2.1 hd (kk p l e R s m args below meth c D tc A Qm ad H locs ls F X hP hD hS hl hret)
theorem i_ior {x y z : Int32} (hd : decode M.2.2.1 pc = .ok (.ior, 1)) (hv : x ||| y = z) (kk : am_AW M d mc ms SC Q (pc + 1) L (vI z :: rest) n h uc us) : am_AW M d mc ms SC Q pc L (vI y :: vI x :: rest) n h uc us := by
  intro p l e R s m args below meth c D tc A Qm ad H locs ls F X hP hD hS hl hret
  subst hv; exact lv_ior F.1.1 F.1.2.1 hd (kk p l e R s m args below meth c D tc A Qm ad H locs ls F X hP hD hS hl hret)
theorem i_ixor {x y z : Int32} (hd : decode M.2.2.1 pc = .ok (.ixor, 1)) (hv : x ^^^ y = z) (kk : am_AW M d mc ms SC Q (pc + 1) L (vI z :: rest) n h uc us) : am_AW M d mc ms SC Q pc L (vI y :: vI x :: rest) n h uc us := by
  intro p l e R s m args below meth c D tc A Qm ad H locs ls F X hP hD hS hl hret
  subst hv; exact lv_ixor F.1.1 F.1.2.1 hd (kk p l e R s m args below meth c D tc A Qm ad H locs ls F X hP hD hS hl hret)
theorem i_ishl {x y z : Int32} (hd : decode M.2.2.1 pc = .ok (.ishl, 1)) (hv : x <<< (y &&& 31) = z) (kk : am_AW M d mc ms SC Q (pc + 1) L (vI z :: rest) n h uc us) : am_AW M d mc ms SC Q pc L (vI y :: vI x :: rest) n h uc us := by
  intro p l e R s m args below meth c D tc A Qm ad H locs ls F X hP hD hS hl hret
  subst hv; exact lv_ishl F.1.1 F.1.2.1 hd (kk p l e R s m args below meth c D tc A Qm ad H locs ls F X hP hD hS hl hret)
theorem i_ishr {x y z : Int32} (hd : decode M.2.2.1 pc = .ok (.ishr, 1)) (hv : x >>> (y &&& 31) = z) (kk : am_AW M d mc ms SC Q (pc + 1) L (vI z :: rest) n h uc us) : am_AW M d mc ms SC Q pc L (vI y :: vI x :: rest) n h uc us := by
  intro p l e R s m args below meth c D tc A Qm ad H locs ls F X hP hD hS hl hret
  subst hv; exact lv_ishr F.1.1 F.1.2.1 hd (kk p l e R s m args below meth c D tc A Qm ad H locs ls F X hP hD hS hl hret)
theorem i_idiv {x y z : Int32} (hd : decode M.2.2.1 pc = .ok (.idiv, 1)) (hne : ¬ y = 0) (hv : x / y = z) (kk : am_AW M d mc ms SC Q (pc + 1) L (vI z :: rest) n h uc us) : am_AW M d mc ms SC Q pc L (vI y :: vI x :: rest) n h uc us := by
  intro p l e R s m args below meth c D tc A Qm ad H locs ls F X hP hD hS hl hret
  subst hv; exact lv_idiv F.1.1 F.1.2.1 hd hne (kk p l e R s m args below meth c D tc A Qm ad H locs ls F X hP hD hS hl hret)
theorem i_irem {x y z : Int32} (hd : decode M.2.2.1 pc = .ok (.irem, 1)) (hne : ¬ y = 0) (hv : x - x / y * y = z) (kk : am_AW M d mc ms SC Q (pc + 1) L (vI z :: rest) n h uc us) : am_AW M d mc ms SC Q pc L (vI y :: vI x :: rest) n h uc us := by
  intro p l e R s m args below meth c D tc A Qm ad H locs ls F X hP hD hS hl hret
  subst hv; exact lv_irem F.1.1 F.1.2.1 hd hne (kk p l e R s m args below meth c D tc A Qm ad H locs ls F X hP hD hS hl hret)
theorem i_iushr {x y z : Int32} (hd : decode M.2.2.1 pc = .ok (.iushr, 1)) (hv : (x.toUInt32 >>> (y.toUInt32 &&& Int32.toUInt32 31)).toInt32 = z) (kk : am_AW M d mc ms SC Q (pc + 1) L (vI z :: rest) n h uc us) : am_AW M d mc ms SC Q pc L (vI y :: vI x :: rest) n h uc us := by
  intro p l e R s m args below meth c D tc A Qm ad H locs ls F X hP hD hS hl hret
  exact lv_iushr F.1.1 F.1.2.1 hd hv (kk p l e R s m args below meth c D tc A Qm ad H locs ls F X hP hD hS hl hret)
theorem i_ineg {x z : Int32} (hd : decode M.2.2.1 pc = .ok (.ineg, 1)) (hv : -x = z) (kk : am_AW M d mc ms SC Q (pc + 1) L (vI z :: rest) n h uc us) : am_AW M d mc ms SC Q pc L (vI x :: rest) n h uc us := by
  intro p l e R s m args below meth c D tc A Qm ad H locs ls F X hP hD hS hl hret
  subst hv; exact lv_ineg F.1.1 F.1.2.1 hd (kk p l e R s m args below meth c D tc A Qm ad H locs ls F X hP hD hS hl hret)
theorem i_dup {a : am_V} (hd : decode M.2.2.1 pc = .ok (.dup, 1)) (kk : am_AW M d mc ms SC Q (pc + 1) L (a :: a :: rest) n h uc us) : am_AW M d mc ms SC Q pc L (a :: rest) n h uc us := by
  intro p l e R s m args below meth c D tc A Qm ad H locs ls F X hP hD hS hl hret
  exact lv_dup F.1.1 F.1.2.1 hd (am_cv_cat ad a) (kk p l e R s m args below meth c D tc A Qm ad H locs ls F X hP hD hS hl hret)
theorem i_pop {a : am_V} (hd : decode M.2.2.1 pc = .ok (.pop, 1)) (kk : am_AW M d mc ms SC Q (pc + 1) L rest n h uc us) : am_AW M d mc ms SC Q pc L (a :: rest) n h uc us := by
  intro p l e R s m args below meth c D tc A Qm ad H locs ls F X hP hD hS hl hret
  exact lv_pop F.1.1 F.1.2.1 hd (am_cv_cat ad a) (kk p l e R s m args below meth c D tc A Qm ad H locs ls F X hP hD hS hl hret)
theorem i_dup_x1 {a b : am_V} (hd : decode M.2.2.1 pc = .ok (.dup_x1, 1)) (kk : am_AW M d mc ms SC Q (pc + 1) L (a :: b :: a :: rest) n h uc us) : am_AW M d mc ms SC Q pc L (a :: b :: rest) n h uc us := by
  intro p l e R s m args below meth c D tc A Qm ad H locs ls F X hP hD hS hl hret
  exact lv_dup_x1 F.1.1 F.1.2.1 hd (am_cv_cat ad a) (am_cv_cat ad b) (kk p l e R s m args below meth c D tc A Qm ad H locs ls F X hP hD hS hl hret)
theorem i_dup2 {a b : am_V} (hd : decode M.2.2.1 pc = .ok (.dup2, 1)) (kk : am_AW M d mc ms SC Q (pc + 1) L (a :: b :: a :: b :: rest) n h uc us) : am_AW M d mc ms SC Q pc L (a :: b :: rest) n h uc us := by
  intro p l e R s m args below meth c D tc A Qm ad H locs ls F X hP hD hS hl hret
  exact lv_dup2_11 F.1.1 F.1.2.1 hd (am_cv_cat ad a) (am_cv_cat ad b) (kk p l e R s m args below meth c D tc A Qm ad H locs ls F X hP hD hS hl hret)
theorem i_ifeq {x : Int32} {off : Int} {tgt : Nat} (hd : decode M.2.2.1 pc = .ok (.ifCond .eq off, 3)) (ht : (pc : Int) + off = (tgt : Int)) (kt : x = 0 → am_AW M d mc ms SC Q tgt L rest n h uc us) (kf : ¬ x = 0 → am_AW M d mc ms SC Q (pc + 3) L rest n h uc us) : am_AW M d mc ms SC Q pc L (vI x :: rest) n h uc us := by
  intro p l e R s m args below meth c D tc A Qm ad H locs ls F X hP hD hS hl hret
  exact lv_if_eq F.1.1 F.1.2.1 hd ht (fun q => kt q p l e R s m args below meth c D tc A Qm ad H locs ls F X hP hD hS hl hret) (fun q => kf q p l e R s m args below meth c D tc A Qm ad H locs ls F X hP hD hS hl hret)
theorem i_icmpeq {x y : Int32} {off : Int} {tgt : Nat} (hd : decode M.2.2.1 pc = .ok (.if_icmp .eq off, 3)) (ht : (pc : Int) + off = (tgt : Int)) (kt : x = y → am_AW M d mc ms SC Q tgt L rest n h uc us) (kf : ¬ x = y → am_AW M d mc ms SC Q (pc + 3) L rest n h uc us) : am_AW M d mc ms SC Q pc L (vI y :: vI x :: rest) n h uc us := by
  intro p l e R s m args below meth c D tc A Qm ad H locs ls F X hP hD hS hl hret
  exact lv_icmp_eq F.1.1 F.1.2.1 hd ht (fun q => kt q p l e R s m args below meth c D tc A Qm ad H locs ls F X hP hD hS hl hret) (fun q => kf q p l e R s m args below meth c D tc A Qm ad H locs ls F X hP hD hS hl hret)
theorem i_ifne {x : Int32} {off : Int} {tgt : Nat} (hd : decode M.2.2.1 pc = .ok (.ifCond .ne off, 3)) (ht : (pc : Int) + off = (tgt : Int)) (kt : ¬ x = 0 → am_AW M d mc ms SC Q tgt L rest n h uc us) (kf : x = 0 → am_AW M d mc ms SC Q (pc + 3) L rest n h uc us) : am_AW M d mc ms SC Q pc L (vI x :: rest) n h uc us := by
  intro p l e R s m args below meth c D tc A Qm ad H locs ls F X hP hD hS hl hret
  exact lv_if_ne F.1.1 F.1.2.1 hd ht (fun q => kt q p l e R s m args below meth c D tc A Qm ad H locs ls F X hP hD hS hl hret) (fun q => kf q p l e R s m args below meth c D tc A Qm ad H locs ls F X hP hD hS hl hret)
theorem i_icmpne {x y : Int32} {off : Int} {tgt : Nat} (hd : decode M.2.2.1 pc = .ok (.if_icmp .ne off, 3)) (ht : (pc : Int) + off = (tgt : Int)) (kt : ¬ x = y → am_AW M d mc ms SC Q tgt L rest n h uc us) (kf : x = y → am_AW M d mc ms SC Q (pc + 3) L rest n h uc us) : am_AW M d mc ms SC Q pc L (vI y :: vI x :: rest) n h uc us := by
  intro p l e R s m args below meth c D tc A Qm ad H locs ls F X hP hD hS hl hret
  exact lv_icmp_ne F.1.1 F.1.2.1 hd ht (fun q => kt q p l e R s m args below meth c D tc A Qm ad H locs ls F X hP hD hS hl hret) (fun q => kf q p l e R s m args below meth c D tc A Qm ad H locs ls F X hP hD hS hl hret)
theorem i_iflt {x : Int32} {off : Int} {tgt : Nat} (hd : decode M.2.2.1 pc = .ok (.ifCond .lt off, 3)) (ht : (pc : Int) + off = (tgt : Int)) (kt : x < 0 → am_AW M d mc ms SC Q tgt L rest n h uc us) (kf : ¬ x < 0 → am_AW M d mc ms SC Q (pc + 3) L rest n h uc us) : am_AW M d mc ms SC Q pc L (vI x :: rest) n h uc us := by
  intro p l e R s m args below meth c D tc A Qm ad H locs ls F X hP hD hS hl hret
  exact lv_if_lt F.1.1 F.1.2.1 hd ht (fun q => kt q p l e R s m args below meth c D tc A Qm ad H locs ls F X hP hD hS hl hret) (fun q => kf q p l e R s m args below meth c D tc A Qm ad H locs ls F X hP hD hS hl hret)
theorem i_icmplt {x y : Int32} {off : Int} {tgt : Nat} (hd : decode M.2.2.1 pc = .ok (.if_icmp .lt off, 3)) (ht : (pc : Int) + off = (tgt : Int)) (kt : x < y → am_AW M d mc ms SC Q tgt L rest n h uc us) (kf : ¬ x < y → am_AW M d mc ms SC Q (pc + 3) L rest n h uc us) : am_AW M d mc ms SC Q pc L (vI y :: vI x :: rest) n h uc us := by
  intro p l e R s m args below meth c D tc A Qm ad H locs ls F X hP hD hS hl hret
  exact lv_icmp_lt F.1.1 F.1.2.1 hd ht (fun q => kt q p l e R s m args below meth c D tc A Qm ad H locs ls F X hP hD hS hl hret) (fun q => kf q p l e R s m args below meth c D tc A Qm ad H locs ls F X hP hD hS hl hret)
theorem i_ifge {x : Int32} {off : Int} {tgt : Nat} (hd : decode M.2.2.1 pc = .ok (.ifCond .ge off, 3)) (ht : (pc : Int) + off = (tgt : Int)) (kt : 0 ≤ x → am_AW M d mc ms SC Q tgt L rest n h uc us) (kf : ¬ 0 ≤ x → am_AW M d mc ms SC Q (pc + 3) L rest n h uc us) : am_AW M d mc ms SC Q pc L (vI x :: rest) n h uc us := by
  intro p l e R s m args below meth c D tc A Qm ad H locs ls F X hP hD hS hl hret
  exact lv_if_ge F.1.1 F.1.2.1 hd ht (fun q => kt q p l e R s m args below meth c D tc A Qm ad H locs ls F X hP hD hS hl hret) (fun q => kf q p l e R s m args below meth c D tc A Qm ad H locs ls F X hP hD hS hl hret)
theorem i_icmpge {x y : Int32} {off : Int} {tgt : Nat} (hd : decode M.2.2.1 pc = .ok (.if_icmp .ge off, 3)) (ht : (pc : Int) + off = (tgt : Int)) (kt : y ≤ x → am_AW M d mc ms SC Q tgt L rest n h uc us) (kf : ¬ y ≤ x → am_AW M d mc ms SC Q (pc + 3) L rest n h uc us) : am_AW M d mc ms SC Q pc L (vI y :: vI x :: rest) n h uc us := by
  intro p l e R s m args below meth c D tc A Qm ad H locs ls F X hP hD hS hl hret
  exact lv_icmp_ge F.1.1 F.1.2.1 hd ht (fun q => kt q p l e R s m args below meth c D tc A Qm ad H locs ls F X hP hD hS hl hret) (fun q => kf q p l e R s m args below meth c D tc A Qm ad H locs ls F X hP hD hS hl hret)
theorem i_ifgt {x : Int32} {off : Int} {tgt : Nat} (hd : decode M.2.2.1 pc = .ok (.ifCond .gt off, 3)) (ht : (pc : Int) + off = (tgt : Int)) (kt : 0 < x → am_AW M d mc ms SC Q tgt L rest n h uc us) (kf : ¬ 0 < x → am_AW M d mc ms SC Q (pc + 3) L rest n h uc us) : am_AW M d mc ms SC Q pc L (vI x :: rest) n h uc us := by
  intro p l e R s m args below meth c D tc A Qm ad H locs ls F X hP hD hS hl hret
  exact lv_if_gt F.1.1 F.1.2.1 hd ht (fun q => kt q p l e R s m args below meth c D tc A Qm ad H locs ls F X hP hD hS hl hret) (fun q => kf q p l e R s m args below meth c D tc A Qm ad H locs ls F X hP hD hS hl hret)
theorem i_icmpgt {x y : Int32} {off : Int} {tgt : Nat} (hd : decode M.2.2.1 pc = .ok (.if_icmp .gt off, 3)) (ht : (pc : Int) + off = (tgt : Int)) (kt : y < x → am_AW M d mc ms SC Q tgt L rest n h uc us) (kf : ¬ y < x → am_AW M d mc ms SC Q (pc + 3) L rest n h uc us) : am_AW M d mc ms SC Q pc L (vI y :: vI x :: rest) n h uc us := by
  intro p l e R s m args below meth c D tc A Qm ad H locs ls F X hP hD hS hl hret
  exact lv_icmp_gt F.1.1 F.1.2.1 hd ht (fun q => kt q p l e R s m args below meth c D tc A Qm ad H locs ls F X hP hD hS hl hret) (fun q => kf q p l e R s m args below meth c D tc A Qm ad H locs ls F X hP hD hS hl hret)
theorem i_ifle {x : Int32} {off : Int} {tgt : Nat} (hd : decode M.2.2.1 pc = .ok (.ifCond .le off, 3)) (ht : (pc : Int) + off = (tgt : Int)) (kt : x ≤ 0 → am_AW M d mc ms SC Q tgt L rest n h uc us) (kf : ¬ x ≤ 0 → am_AW M d mc ms SC Q (pc + 3) L rest n h uc us) : am_AW M d mc ms SC Q pc L (vI x :: rest) n h uc us := by
  intro p l e R s m args below meth c D tc A Qm ad H locs ls F X hP hD hS hl hret
  exact lv_if_le F.1.1 F.1.2.1 hd ht (fun q => kt q p l e R s m args below meth c D tc A Qm ad H locs ls F X hP hD hS hl hret) (fun q => kf q p l e R s m args below meth c D tc A Qm ad H locs ls F X hP hD hS hl hret)
theorem i_icmple {x y : Int32} {off : Int} {tgt : Nat} (hd : decode M.2.2.1 pc = .ok (.if_icmp .le off, 3)) (ht : (pc : Int) + off = (tgt : Int)) (kt : x ≤ y → am_AW M d mc ms SC Q tgt L rest n h uc us) (kf : ¬ x ≤ y → am_AW M d mc ms SC Q (pc + 3) L rest n h uc us) : am_AW M d mc ms SC Q pc L (vI y :: vI x :: rest) n h uc us := by
  intro p l e R s m args below meth c D tc A Qm ad H locs ls F X hP hD hS hl hret
  exact lv_icmp_le F.1.1 F.1.2.1 hd ht (fun q => kt q p l e R s m args below meth c D tc A Qm ad H locs ls F X hP hD hS hl hret) (fun q => kf q p l e R s m args below meth c D tc A Qm ad H locs ls F X hP hD hS hl hret)
theorem i_goto {off : Int} {tgt : Nat} (hd : decode M.2.2.1 pc = .ok (.goto off, 3)) (ht : (pc : Int) + off = (tgt : Int)) (kk : am_AW M d mc ms SC Q tgt L rest n h uc us) : am_AW M d mc ms SC Q pc L rest n h uc us := by
  intro p l e R s m args below meth c D tc A Qm ad H locs ls F X hP hD hS hl hret
  exact lv_goto F.1.1 F.1.2.1 hd ht (kk p l e R s m args below meth c D tc A Qm ad H locs ls F X hP hD hS hl hret)
theorem i_tableOut {dflt lo hi : Int} {offs : Array Int} {len : Nat} {x : Int32} {tgt : Nat} (hd : decode M.2.2.1 pc = .ok (.tableswitch dflt lo hi offs, len)) (hx : x.toInt < lo ∨ hi < x.toInt) (ht : (pc : Int) + dflt = (tgt : Int)) (kk : am_AW M d mc ms SC Q tgt L rest n h uc us) : am_AW M d mc ms SC Q pc L (vI x :: rest) n h uc us := by
  intro p l e R s m args below meth c D tc A Qm ad H locs ls F X hP hD hS hl hret
  exact lv_tableOut F.1.1 F.1.2.1 hd hx ht (kk p l e R s m args below meth c D tc A Qm ad H locs ls F X hP hD hS hl hret)
theorem i_tableIn {dflt lo hi : Int} {offs : Array Int} {len : Nat} {x : Int32} {off : Int} {tgt : Nat} (hd : decode M.2.2.1 pc = .ok (.tableswitch dflt lo hi offs, len)) (h1 : ¬ x.toInt < lo) (h2 : ¬ hi < x.toInt) (ho : offs[(x.toInt - lo).toNat]? = some off) (ht : (pc : Int) + off = (tgt : Int)) (kk : am_AW M d mc ms SC Q tgt L rest n h uc us) : am_AW M d mc ms SC Q pc L (vI x :: rest) n h uc us := by
  intro p l e R s m args below meth c D tc A Qm ad H locs ls F X hP hD hS hl hret
  exact lv_tableIn F.1.1 F.1.2.1 hd h1 h2 ho ht (kk p l e R s m args below meth c D tc A Qm ad H locs ls F X hP hD hS hl hret)
theorem i_lookup {dflt : Int} {ps : Array (Int × Int)} {len : Nat} {x : Int32} {off : Int} {tgt : Nat} (hd : decode M.2.2.1 pc = .ok (.lookupswitch dflt ps, len)) (hp : (ps.toList.zip (ps.toList.drop 1)).all (fun (a, next) => a.1 < next.1) = true) (ho : Op.lookupswitch.offset ps.toList dflt x.toInt = off) (ht : (pc : Int) + off = (tgt : Int)) (kk : am_AW M d mc ms SC Q tgt L rest n h uc us) : am_AW M d mc ms SC Q pc L (vI x :: rest) n h uc us := by
  intro p l e R s m args below meth c D tc A Qm ad H locs ls F X hP hD hS hl hret
  exact lv_lookup F.1.1 F.1.2.1 hd hp ho ht (kk p l e R s m args below meth c D tc A Qm ad H locs ls F X hP hD hS hl hret)
theorem i_iret {x : Int32} {ty : FieldType} (hd : decode M.2.2.1 pc = .ok (.ireturn, 1)) (hty : M.2.2.2.2 = some ty) (hn : narrow ty (.int x) = .int x) (hc : uc ≤ mc) (hs : us ≤ ms) (hQ : Q (some (vI x)) n h) : am_AW M d mc ms SC Q pc L [vI x] n h uc us := by
  intro p l e R s m args below meth c D tc A Qm ad H locs ls F X hP hD hS hl hret
  exact W.widen hc hs (hret (some (vI x)) n h ad H locs ls pc hQ (Nat.le_refl _) (fun _ _ => rfl) hP hD hS (Or.inl ⟨hd, x, ty, rfl, hty, hn⟩))
theorem i_ret (hd : decode M.2.2.1 pc = .ok (.return_, 1)) (hty : M.2.2.2.2 = none) (hc : uc ≤ mc) (hs : us ≤ ms) (hQ : Q none n h) : am_AW M d mc ms SC Q pc L [] n h uc us := by
  intro p l e R s m args below meth c D tc A Qm ad H locs ls F X hP hD hS hl hret
  exact W.widen hc hs (hret none n h ad H locs ls pc hQ (Nat.le_refl _) (fun _ _ => rfl) hP hD hS (Or.inr (Or.inl ⟨hd, rfl, hty⟩)))
theorem i_aret {k : Nat} {ty : FieldType} (hd : decode M.2.2.1 pc = .ok (.areturn, 1)) (hty : M.2.2.2.2 = some ty) (hrt : (∃ z, ty = .object z) ∨ ∃ t, ty = .array t) (hc : uc ≤ mc) (hs : us ≤ ms) (hQ : Q (some (vR k)) n h) : am_AW M d mc ms SC Q pc L [vR k] n h uc us := by
  intro p l e R s m args below meth c D tc A Qm ad H locs ls F X hP hD hS hl hret
  exact W.widen hc hs (hret (some (vR k)) n h ad H locs ls pc hQ (Nat.le_refl _) (fun _ _ => rfl) hP hD hS (Or.inr (Or.inr ⟨hd, k, ty, rfl, hty, hrt⟩)))
theorem i_top {x y : Int32} (e : x = y) (kk : am_AW M d mc ms SC Q pc L (vI y :: rest) n h uc us) : am_AW M d mc ms SC Q pc L (vI x :: rest) n h uc us := e ▸ kk
theorem i_getf {C : String} {T : u_T} {N ci index b k : Nat} {fs : List am_V} {v : am_V} (hd : decode M.2.2.1 pc = .ok (.getfield index, 3)) (hc : classes[ci]? = some (C, T, N)) (hin : ∀ w ∈ u_ws C T N, w ∈ am_all) (hk : k < N) (hlk : Cond.fieldLink M.1 index (T k).1 (T k).2.1 (T k).2.2.1 ∈ am_all) (hb : b < n) (ho : h b = .inr (ci, fs)) (hv : fs[k]? = some v) (kk : am_AW M d mc ms SC Q (pc + 3) L (v :: rest) n h uc us) : am_AW M d mc ms SC Q pc L (vR b :: rest) n h uc us := by
  intro p l e R s m args below meth c D tc A Qm ad H locs ls F X hP hD hS hl hret
  have F2 := F
  obtain ⟨⟨hx, hbb, hml, hown, hts⟩, -, -, -, -, hK, -⟩ := F2
  exact va_get (ref := (T k).1) hx hbb hts hin hown hK.1 hP b (am_get hb ho) hc k hk (hts _ hlk) (fun _ q => q) (v := am_cv ad v) (by rw [List.getElem?_map, hv]; rfl) hd (kk p l e R s m args below meth c D tc A Qm ad H locs ls F X hP hD hS hl hret)
theorem i_putf {C : String} {T : u_T} {N ci index b k : Nat} {fs : List am_V} {v : am_V} {ty : FieldType} (ty0 : Nat → FieldType) (hty : ∀ k, k < N → parseFieldDescriptor (T k).2.2.1 = some (ty0 k)) (hnm : ∀ a, a < N → ∀ b, b < N → a ≠ b → (T a).2.1 ≠ (T b).2.1) (hd : decode M.2.2.1 pc = .ok (.putfield index, 3)) (hc : classes[ci]? = some (C, T, N)) (hin : ∀ w ∈ u_ws C T N, w ∈ am_all) (hk : k < N) (hlk : Cond.fieldLink M.1 index (T k).1 (T k).2.1 (T k).2.2.1 ∈ am_all) (hfin : (T k).2.2.2 = false) (hb : b < n) (ho : h b = .inr (ci, fs)) (hl0 : k < fs.length) (hpd : parseFieldDescriptor (T k).2.2.1 = some ty) (hnr : ∀ ad, narrow ty (am_cv ad v) = am_cv ad v) (hft : ∀ ad, fits ty (am_cv ad v) = true) (kk : am_AW M d mc ms SC Q (pc + 3) L rest n (va_up h b (.inr (ci, fs.set k v))) uc us) : am_AW M d mc ms SC Q pc L (v :: vR b :: rest) n h uc us := by
  intro p l e R s m args below meth c D tc A Qm ad H locs ls F X hP hD hS hl hret
  have F2 := F
  obtain ⟨⟨hx, hbb, hml, hown, hts⟩, -, -, hname, -, hK, -⟩ := F2
  refine va_put (ref := (T k).1) hx hbb hts hin ty0 hty hnm hown hK.1 hP hD hS b (am_get hb ho) hc k hk (hts _ hlk) (fun _ q => q) hfin hpd (hnr ad) (hft ad) (by rw [List.length_map]; exact hl0) hd (fun H1 locs1 hP1 hD1 hS1 => ?_)
  have e1 : (am_ws tc ad n h).set b (ad b, .inr (ci, (fs.map (am_cv ad)).set k (am_cv ad v))) = am_ws tc ad n (va_up h b (.inr (ci, fs.set k v))) := by
    rw [← List.map_set]
    exact am_set (.inr (ci, fs.set k v)) hb
  exact kk p l e R s m args below meth c D tc A Qm ad H1 locs1 ls F X (e1 ▸ hP1) (e1 ▸ hD1) hS1 hl hret
theorem i_putF {C : String} {T : u_T} {N ci index b k : Nat} {fs : List am_V} {v : am_V} {ty : FieldType} (ty0 : Nat → FieldType) (hty : ∀ k, k < N → parseFieldDescriptor (T k).2.2.1 = some (ty0 k)) (hnm : ∀ a, a < N → ∀ b, b < N → a ≠ b → (T a).2.1 ≠ (T b).2.1) (hd : decode M.2.2.1 pc = .ok (.putfield index, 3)) (hc : classes[ci]? = some (C, T, N)) (hin : ∀ w ∈ u_ws C T N, w ∈ am_all) (hk : k < N) (hlk : Cond.fieldLink M.1 index (T k).1 (T k).2.1 (T k).2.2.1 ∈ am_all) (hfin : (T k).2.2.2 = true) (hini : M.2.1.name = "<init>") (hdcl : (T k).1 = M.1) (hb : b < n) (ho : h b = .inr (ci, fs)) (hl0 : k < fs.length) (hpd : parseFieldDescriptor (T k).2.2.1 = some ty) (hnr : ∀ ad, narrow ty (am_cv ad v) = am_cv ad v) (hft : ∀ ad, fits ty (am_cv ad v) = true) (kk : am_AW M d mc ms SC Q (pc + 3) L rest n (va_up h b (.inr (ci, fs.set k v))) uc us) : am_AW M d mc ms SC Q pc L (v :: vR b :: rest) n h uc us := by
  intro p l e R s m args below meth c D tc A Qm ad H locs ls F X hP hD hS hl hret
  have F2 := F
  obtain ⟨⟨hx, hbb, hml, hown, hts⟩, -, -, hname, -, hK, -⟩ := F2
  refine va_putF (ref := (T k).1) hx hbb hts hin ty0 hty hnm hown hK.1 hP hD hS b (am_get hb ho) hc k hk (hts _ hlk) (fun _ q => q) hfin (hname hini) hdcl hpd (hnr ad) (hft ad) (by rw [List.length_map]; exact hl0) hd (fun H1 locs1 hP1 hD1 hS1 => ?_)
  have e1 : (am_ws tc ad n h).set b (ad b, .inr (ci, (fs.map (am_cv ad)).set k (am_cv ad v))) = am_ws tc ad n (va_up h b (.inr (ci, fs.set k v))) := by
    rw [← List.map_set]
    exact am_set (.inr (ci, fs.set k v)) hb
  exact kk p l e R s m args below meth c D tc A Qm ad H1 locs1 ls F X (e1 ▸ hP1) (e1 ▸ hD1) hS1 hl hret
theorem i_iald {b N : Nat} {f : Nat → Int32} {i : Int32} (hd : decode M.2.2.1 pc = .ok (.iaload, 1)) (hb : b < n) (ho : h b = .inl (0, N, .inl f)) (hi : vp_in i N) (kk : am_AW M d mc ms SC Q (pc + 1) L (vI (f i.toNatClampNeg) :: rest) n h uc us) : am_AW M d mc ms SC Q pc L (vI i :: vR b :: rest) n h uc us := by
  intro p l e R s m args below meth c D tc A Qm ad H locs ls F X hP hD hS hl hret
  exact va_iald F.1.1 F.1.2.1 F.2.2.2.2.2.1.1 hP b 0 (am_get hb ho) rfl hi hd (kk p l e R s m args below meth c D tc A Qm ad H locs ls F X hP hD hS hl hret)
theorem i_zald {b N : Nat} {f : Nat → Int32} {i : Int32} (hd : decode M.2.2.1 pc = .ok (.baload, 1)) (hb : b < n) (ho : h b = .inl (1, N, .inl f)) (hi : vp_in i N) (kk : am_AW M d mc ms SC Q (pc + 1) L (vI (f i.toNatClampNeg) :: rest) n h uc us) : am_AW M d mc ms SC Q pc L (vI i :: vR b :: rest) n h uc us := by
  intro p l e R s m args below meth c D tc A Qm ad H locs ls F X hP hD hS hl hret
  exact va_zald F.1.1 F.1.2.1 F.2.2.2.2.2.1.1 hP b 1 (am_get hb ho) rfl hi hd (kk p l e R s m args below meth c D tc A Qm ad H locs ls F X hP hD hS hl hret)
theorem i_iast {b N : Nat} {f : Nat → Int32} {i x : Int32} (hd : decode M.2.2.1 pc = .ok (.iastore, 1)) (hb : b < n) (ho : h b = .inl (0, N, .inl f)) (hi : vp_in i N) (kk : am_AW M d mc ms SC Q (pc + 1) L rest n (va_up h b (.inl (0, N, .inl (upd f i.toNatClampNeg x)))) uc us) : am_AW M d mc ms SC Q pc L (vI x :: vI i :: vR b :: rest) n h uc us := by
  intro p l e R s m args below meth c D tc A Qm ad H locs ls F X hP hD hS hl hret
  refine va_iast F.1.1 F.1.2.1 F.2.2.2.2.2.1.1 hP hD hS b 0 (am_get hb ho) rfl hi hd (fun H1 locs1 hP1 hD1 hS1 => ?_)
  have e1 := am_set (tc := tc) (ad := ad) (h := h) (.inl (0, N, .inl (upd f i.toNatClampNeg x))) hb
  exact kk p l e R s m args below meth c D tc A Qm ad H1 locs1 ls F X (e1 ▸ hP1) (e1 ▸ hD1) hS1 hl hret
theorem i_zast {b N : Nat} {f : Nat → Int32} {i x : Int32} (hd : decode M.2.2.1 pc = .ok (.bastore, 1)) (hb : b < n) (ho : h b = .inl (1, N, .inl f)) (hi : vp_in i N) (kk : am_AW M d mc ms SC Q (pc + 1) L rest n (va_up h b (.inl (1, N, .inl (upd f i.toNatClampNeg (vp_nar .boolean x))))) uc us) : am_AW M d mc ms SC Q pc L (vI x :: vI i :: vR b :: rest) n h uc us := by
  intro p l e R s m args below meth c D tc A Qm ad H locs ls F X hP hD hS hl hret
  refine va_zast F.1.1 F.1.2.1 F.2.2.2.2.2.1.1 hP hD hS b 1 (am_get hb ho) rfl hi hd (fun H1 locs1 hP1 hD1 hS1 => ?_)
  have e1 := am_set (tc := tc) (ad := ad) (h := h) (.inl (1, N, .inl (upd f i.toNatClampNeg (vp_nar .boolean x)))) hb
  exact kk p l e R s m args below meth c D tc A Qm ad H1 locs1 ls F X (e1 ▸ hP1) (e1 ▸ hD1) hS1 hl hret
theorem i_aald {b N y : Nat} {g : Nat → Option Nat} {i : Int32} (hd : decode M.2.2.1 pc = .ok (.aaload, 1)) (hb : b < n) (ho : h b = .inl (2, N, .inr g)) (hi : vp_in i N) (hy : g i.toNatClampNeg = some y) (kk : am_AW M d mc ms SC Q (pc + 1) L (vR y :: rest) n h uc us) : am_AW M d mc ms SC Q pc L (vI i :: vR b :: rest) n h uc us := by
  intro p l e R s m args below meth c D tc A Qm ad H locs ls F X hP hD hS hl hret
  refine va_aldq F.1.1 F.1.2.1 F.2.2.2.2.2.1.1 hP b 2 (am_get hb ho) rfl hi hd ?_
  rw [hy]
  exact kk p l e R s m args below meth c D tc A Qm ad H locs ls F X hP hD hS hl hret
theorem i_alen {b t N : Nat} {f : (Nat → Int32) ⊕ (Nat → Option Nat)} {x : Int32} {ty : FieldType} (hd : decode M.2.2.1 pc = .ok (.arraylength, 1)) (hb : b < n) (ho : h b = .inl (t, N, f)) (ht : ∀ tc, (am_tl tc)[t]? = some (tc t, ty)) (hx : Int32.ofNat N = x) (kk : am_AW M d mc ms SC Q (pc + 1) L (vI x :: rest) n h uc us) : am_AW M d mc ms SC Q pc L (vR b :: rest) n h uc us := by
  intro p l e R s m args below meth c D tc A Qm ad H locs ls F X hP hD hS hl hret
  cases f with
  | inl f => exact va_alen F.1.1 F.1.2.1 F.2.2.2.2.2.1.1 hP b t (am_get hb ho) (ht tc) hx hd (kk p l e R s m args below meth c D tc A Qm ad H locs ls F X hP hD hS hl hret)
  | inr g => exact va_alen F.1.1 F.1.2.1 F.2.2.2.2.2.1.1 hP b t (am_get hb ho) (ht tc) hx hd (kk p l e R s m args below meth c D tc A Qm ad H locs ls F X hP hD hS hl hret)
theorem i_sald {Ln : Nat} {xs : Nat → Int32} {i : Int32} (hSC : SC = some (Ln, xs)) (hd : decode M.2.2.1 pc = .ok (.iaload, 1)) (hi : vp_in i Ln) (kk : am_AW M d mc ms SC Q (pc + 1) L (vI (xs i.toNatClampNeg) :: rest) n h uc us) : am_AW M d mc ms SC Q pc L (vI i :: vR am_SP :: rest) n h uc us := by
  intro p l e R s m args below meth c D tc A Qm ad H locs ls F X hP hD hS hl hret
  obtain ⟨x1, x2, x3⟩ := X Ln xs hSC
  exact va_sld F.1.1 F.1.2.1 x1 x2 x3 hS hi hd (kk p l e R s m args below meth c D tc A Qm ad H locs ls F X hP hD hS hl hret)
theorem i_slen {Ln : Nat} {xs : Nat → Int32} (hSC : SC = some (Ln, xs)) (hd : decode M.2.2.1 pc = .ok (.arraylength, 1)) (kk : am_AW M d mc ms SC Q (pc + 1) L (vI (Int32.ofNat Ln) :: rest) n h uc us) : am_AW M d mc ms SC Q pc L (vR am_SP :: rest) n h uc us := by
  intro p l e R s m args below meth c D tc A Qm ad H locs ls F X hP hD hS hl hret
  obtain ⟨x1, x2, x3⟩ := X Ln xs hSC
  exact va_slen F.1.1 F.1.2.1 x1 x2 x3 hS hd (kk p l e R s m args below meth c D tc A Qm ad H locs ls F X hP hD hS hl hret)
end AI
end
section
-- a method out of its walk; calls
theorem am_met {M : am_M} {d mc ms : Nat} {av : List am_V} {n : Nat} {h : am_H} {Q : Option am_V → Nat → am_H → Prop} (hy : plainName M.2.1.cls = true) (how : M.1 = M.2.1.cls) (hlen : av.length ≤ M.2.2.2.1)
    (hw : am_AW M d mc ms none Q 0 (fun i => av[i]?) [] n h 0 0) : am_AM M d mc ms av n h Q := by
  intro l D tc ad sz
  refine Met.ofW (cc := M.2.2.1) (maxL := M.2.2.2.1) (ret := M.2.2.2.2) hy rfl ?_
  intro p e s m args below meth c s₁ B hml hv
  obtain ⟨rfl, hsz, hP, hK, hD0⟩ := hv
  have hx := B.exec
  have hb := B.bytes
  have hr := B.returns
  have hts := atoms_spec (ws := am_w M) B.pre
  have hown : s.vm.findClass M.1 = some m.cls := by rw [how]; exact findClass_of_methodNamed B.named
  have hlk : meth.locks = false := B.notSynchronized
  have hin : meth.name = M.2.1.name := (name_of_methodNamed B.named B.method).1
  subst hsz
  have hD := hD0.self (sz := s.heap.size)
  generalize hAe : va_A (am_ws tc ad n h) s.heap.size = A at hD ⊢
  have hA : ∀ q : Nat, s.heap.size ≤ q → A q := fun q h => by rw [← hAe]; exact Or.inr h
  have hl := lv_entry (av.map (am_cv ad)) (n := M.2.2.2.1) (by rw [am_sl]; exact hlen)
  rw [lg_entry_eq]
  generalize (lg_sl (av.map (am_cv ad)) ++ List.replicate (M.2.2.2.1 - (lg_sl (av.map (am_cv ad))).length) Slot.unset).toArray = ls at hl ⊢
  have hl := am_entry hl
  refine hw p l e _ s m _ below meth c D tc A _ ad s.heap [] ls ⟨⟨hx, hb, hml, hown, fun w h => hts w (List.mem_cons_of_mem _ h)⟩, hr, hlk, fun e => hin.trans e, ⟨Nat.le_refl _, rfl, rfl, Nat.le_refl _⟩, hK, hA⟩ (fun _ _ q => by cases q) hP hD va_S.rf hl ?_
  intro v n' h' ad' H' locs' ls' pc' hQ hnn hag hP' hD' hS' hrd
  rcases hrd with ⟨hd, x, ty, rfl, hty, hn⟩ | ⟨hd, rfl, hty⟩ | ⟨hd, k, ty, rfl, hty, hrt⟩
  · exact W.zret hx hb (hr.trans hty) hn (fun t ht hW => ⟨⟨some (vI x), n', h', ad', rfl, hQ, hnn, hag, by rw [ht]; exact hP', hD'⟩, hS'.F ht⟩) hS'.2.2 hd hlk
  · exact W.vret hx hb (hr.trans hty) (fun t ht hW => ⟨⟨none, n', h', ad', rfl, hQ, hnn, hag, by rw [ht]; exact hP', hD'⟩, hS'.F ht⟩) hS'.2.2 hd hlk
  · exact W.aret hx hb (hr.trans hty) hrt (Or.inr ⟨_, rfl⟩) (fun t ht hW => ⟨⟨some (vR k), n', h', ad', rfl, hQ, hnn, hag, by rw [ht]; exact hP', hD'⟩, hS'.F ht⟩) hS'.2.2 hd hlk
-- what am_K needs to go into a callee
theorem am_AOA.moved {u U : State} (hvm : u.vm.Alike U.vm) (h : am_AOA u) : am_AOA U := by
  obtain ⟨comp, c, k, h1, h2, h3, h4, h5⟩ := arrayOverA_spec h
  obtain ⟨k', hk', he⟩ := hvm.2.2 _ _ h3
  have hkind : k'.kind = .array comp (.array .int) := by rw [he]; exact h4
  have f1 : U.vm.findClass (FieldType.array .int).toString = some comp := by rw [hvm.findClass]; exact h1
  have f2 : U.vm.findClass ("[" ++ (FieldType.array .int).toString) = some c := by rw [hvm.findClass]; exact h5
  rw [← hvm.findIdx?_eq _ (fun _ => rfl)] at h2
  unfold am_AOA Cond.before Cond.holds
  simp only [Cond.value]
  rw [f1, Option.bind_some]
  refine (congrArg (fun o : Option Nat => (o.bind (fun c => (U.vm.classes[c]?).map fun (k : Class) => match k.kind with | .array _ ty => decide (ty = FieldType.array .int) && decide (U.vm.findClass ("[" ++ (FieldType.array .int).toString) = some c) | _ => false) == some true)) h2).trans ?_
  simp [hk', hkind, f2]
-- am_nest is am_nl.map (fun q => Cond.methodLinkNest q.1 q.2.1 q.2.2.1 q.2.2.2)
theorem am_K.warm {D : va_G} {tc : Nat → ClassId} {s U : State} (hW : s.WarmedH U.vm) (hK : am_K D tc s) : am_K D tc U := ⟨va_K.moved hW.alike hK.1, fun w hw => by
  obtain ⟨q, -, rfl⟩ := List.mem_map.mp hw
  exact va_Nw.warmM hW (hK.2.1 _ hw), va_AO.moved hW.alike hK.2.2.1, am_AOA.moved hW.alike hK.2.2.2⟩
theorem am_K.calling {D : va_G} {tc : Nat → ClassId} {U : State} {g : JFrame} {mk : MethodId} {a : Array Value} (hK : am_K D tc U) : am_K D tc (U.calling g mk a) := ⟨va_K.moved (u := U) (U := U.calling g mk a) (Vm.Alike.refl U.vm) hK.1, fun w hw => by
  obtain ⟨q, -, rfl⟩ := List.mem_map.mp hw
  exact va_Nw.same (u := U) (U := U.calling g mk a) rfl rfl (hK.2.1 _ hw), va_AO.moved (u := U) (U := U.calling g mk a) (Vm.Alike.refl U.vm) hK.2.2.1, am_AOA.moved (u := U) (U := U.calling g mk a) (Vm.Alike.refl U.vm) hK.2.2.2⟩
-- names known before a call are still names of the same cells behind it
def am_sc (n : Nat) (L : Nat → Option am_V) (rest : List am_V) (n' : Nat) : Prop := (∀ ad ad' : Nat → Nat, n ≤ n' → (∀ k, k < n ∨ n' ≤ k → ad' k = ad k) → (∀ i v, L i = some v → am_cv ad' v = am_cv ad v) ∧ rest.map (am_cv ad') = rest.map (am_cv ad)) ∧ n' ≤ am_SP
theorem am_sc.same {n : Nat} {L : Nat → Option am_V} {rest : List am_V} (hn : n ≤ am_SP) : am_sc n L rest n := ⟨fun ad ad' _ hag => by
  have e : ad' = ad := funext fun k => hag k (by omega)
  subst e
  exact ⟨fun _ _ _ => rfl, rfl⟩, hn⟩
theorem am_sc.of {n n' : Nat} {L : Nat → Option am_V} {rest : List am_V} (hL : ∀ i k, L i = some (vR k) → k < n ∨ k = am_SP) (hr : ∀ k, vR k ∈ rest → k < n ∨ k = am_SP) (hn : n' ≤ am_SP) : am_sc n L rest n' := by
  have key : ∀ ad ad' : Nat → Nat, (∀ k, k < n ∨ n' ≤ k → ad' k = ad k) → ∀ v : am_V, (∀ k, v = vR k → k < n ∨ k = am_SP) → am_cv ad' v = am_cv ad v := by
    intro ad ad' hag v hv
    rcases v with x | r
    · rfl
    · cases r with
      | none => rfl
      | some k =>
        show Value.ref (ad' k) = Value.ref (ad k)
        rw [hag k]
        rcases hv k rfl with h1 | h1
        · exact Or.inl h1
        · exact Or.inr (by rw [h1]; exact hn)
  exact ⟨fun ad ad' _ hag => ⟨fun i v hv => key ad ad' hag v (fun k e => hL i k (by rw [hv, e])), List.map_congr_left fun v hv => key ad ad' hag v (fun k e => hr k (e ▸ hv))⟩, hn⟩
theorem am_has.re {ls : Array Slot} {nL : Nat} {ad ad' : Nat → Nat} {L : Nat → Option am_V} (h : am_has ls nL ad L) (he : ∀ i v, L i = some v → am_cv ad' v = am_cv ad v) : am_has ls nL ad' L := ⟨h.1, h.2.1, fun i v hv => by rw [he i v hv]; exact h.2.2 i v hv⟩
def am_Qa (tc : Nat → ClassId) (D : va_G) (ad : Nat → Nat) (n : Nat) (h : am_H) (sz : Nat) (Q' : Option am_V → Nat → am_H → Prop) (st : State) (oc : Outcome) (t : State) : Prop :=
  (∃ (v : Option am_V) (n' : Nat) (h' : am_H) (ad' : Nat → Nat), oc = .returned (v.map (am_cv ad')) ∧ Q' v n' h' ∧ n ≤ n' ∧ (∀ k, k < n ∨ n' ≤ k → ad' k = ad k) ∧ va_P D classes (am_ws tc ad' n' h') t.heap ∧ va_D (va_A (am_ws tc ad n h) sz) (am_ws tc ad' n' h')) ∧ va_F (va_A (am_ws tc ad n h) sz) st t
section AC
variable {M M' : am_M} {d mc ms d' mc' ms' : Nat} {SC : Option (Nat × (Nat → Int32))} {Q Q' : Option am_V → Nat → am_H → Prop} {pc : Nat} {L : Nat → Option am_V} {rest st av : List am_V} {n : Nat} {h : am_H} {uc us : Nat}
/-- the part that all calls share; hr: the kit's run of the callee -/
theorem am_call (hsc : ∀ v n' h', Q' v n' h' → am_sc n L rest n')
    (hr : ∀ (p : Program) (l : Launch) (e : Env) (R : Room) (s : State) (m : MethodId) (args : Array Value) (below : List Frame) (meth : Method) (c : Code) (D : va_G) (tc : Nat → ClassId) (A : Nat → Prop) (ad : Nat → Nat) (H : Heap) (locs : List Loc) (ls : Array Slot),
      am_F M d mc ms p R s m args meth c D tc A → va_P D classes (am_ws tc ad n h) H → va_D A (am_ws tc ad n h) → va_S A s.heap H locs → am_has ls M.2.2.2.1 ad L →
      va_Run p l e R s m args below meth c H locs uc us mc' ms' (F0 m pc ls (st.map (am_cv ad))) (rest.map (am_cv ad)) (am_Qa tc D ad n h H.size Q') (va_A (am_ws tc ad n h) H.size))
    (kk : ∀ v n' h', Q' v n' h' → n ≤ n' → am_AW M d mc ms SC Q (pc + 3) L (v.toList ++ rest) n' h' (uc + mc') (us + ms')) : am_AW M d mc ms SC Q pc L st n h uc us := by
  intro p l e R s m args below meth c D tc A Qm ad H locs ls F X hP hD hS hl hret T hT XX
  obtain ⟨v, st₀, t, T', Lc, h0, X', hL, e1, e2, ⟨⟨w, n', h', ad', hv, hQ, hnn, hag, hP1, hD1⟩, hz, hk⟩, stp⟩ := hr p l e R s m args below meth c D tc A ad H locs ls F hP hD hS hl T hT XX
  have hv : v = w.map (am_cv ad') := by cases hv; rfl
  subst hv
  rw [h0] at hz hk
  have hfr : ∀ q, va_A (am_ws tc ad n h) H.size q → A q := fun q hq => by
    rcases hq with ⟨k, e0, hk0⟩ | hq
    · exact hD.2 k _ hk0
    · exact F.2.2.2.2.2.2 q (Nat.le_trans hS.1 hq)
  obtain ⟨hsc1, hsc2⟩ := hsc w n' h' hQ
  obtain ⟨hLe, hRe⟩ := hsc1 ad ad' hnn hag
  have hS1 : va_S A s.heap T'.heap (locs ++ Lc) := ⟨Nat.le_trans hS.1 (by rw [e1]; exact hz), fun q h1 h2 => by
      rw [e1, hk q (Nat.lt_of_lt_of_le h1 hS.1) (fun z => h2 (hfr q z))]
      exact hS.2.1 q h1 h2, fun q hq => by
      rcases List.mem_append.mp hq with h9 | h9
      · exact hS.2.2 q h9
      · exact hfr _ (hL q h9)⟩
  have hX1 : am_X SC ad' A s := fun L0 xs hs => by
    rw [hag am_SP (Or.inr hsc2)]
    exact X L0 xs hs
  obtain ⟨t2, a1, b1⟩ := kk w n' h' hQ hnn p l e R s m args below meth c D tc A Qm ad' T'.heap (locs ++ Lc) ls F hX1 (by rw [e1]; exact hP1) (hD1.weaken (fun _ _ _ z => hfr _ z)) hS1 (hl.re hLe)
    (fun v2 n2 h2 ad2 H2 locs2 ls2 pc2 q1 q2 q3 => hret v2 n2 h2 ad2 H2 locs2 ls2 pc2 q1 (Nat.le_trans hnn q2) (fun k hk9 => by
      rw [q3 k (hk9.imp (fun z => Nat.lt_of_lt_of_le z hnn) id)]
      exact hag k (hk9.imp id (fun z => Nat.le_trans q2 z)))) T' rfl X'
  refine ⟨t2, stp t2 ?_, b1⟩
  have e3 : (w.toList ++ rest).map (am_cv ad') = (w.map (am_cv ad')).toList ++ rest.map (am_cv ad) := by
    rw [List.map_append, hRe]
    cases w <;> rfl
  rw [e3] at a1
  exact a1
theorem am_cats (ad : Nat → Nat) (l : List am_V) : ((l.map (am_cv ad)).map fun v => v.category).sum = l.length := by
  induction l with
  | nil => rfl
  | cons v t ih =>
    simp only [List.map_cons, List.sum_cons, List.length_cons, am_cv_cat, ih]
    omega
theorem am_cvs_rev (ad : Nat → Nat) (As : List am_V) (b : Nat) (rest : List am_V) : (As.reverse ++ vR b :: rest).map (am_cv ad) = (As.map (am_cv ad)).reverse ++ .ref (ad b) :: rest.map (am_cv ad) := by
  rw [List.map_append, List.map_reverse]
  rfl
theorem am_callV {As : List am_V} {b ci N index : Nat} {C : String} {T : u_T} {fs : List am_V} (hM : am_AM M' d' mc' ms' (vR b :: As) n h Q') (hst : st = As.reverse ++ vR b :: rest)
    (hd : decode M.2.2.1 pc = .ok (.invokevirtual index, 3)) (hG : GoodIn am_all (wsV M.1 index C M'.2.1 (am_w M')))
    (hy : M'.2.1.cls = C ∧ M'.2.1.cls ≠ "java/lang/invoke/MethodHandle" ∧ M'.2.1.cls ≠ "java/lang/invoke/VarHandle" ∧ (parseMethodDescriptor M'.2.1.desc).map (fun d => d.parameters.length) = some As.length)
    (hdd : d' + 1 ≤ d) (hnl : M'.2.2.2.1 ≤ 21) (hb : b < n) (ho : h b = .inr (ci, fs)) (hc : classes[ci]? = some (C, T, N)) (hrs : rest.length ≤ 8) (hcc : uc + mc' ≤ mc) (hss : us + ms' ≤ ms)
    (hsc : ∀ v n' h', Q' v n' h' → am_sc n L rest n')
    (kk : ∀ v n' h', Q' v n' h' → n ≤ n' → am_AW M d mc ms SC Q (pc + 3) L (v.toList ++ rest) n' h' (uc + mc') (us + ms')) : am_AW M d mc ms SC Q pc L st n h uc us := by
  refine am_call hsc ?_ kk
  intro p l e R s m args below meth c D tc A ad H locs ls F hP hD hS hl
  have F2 := F
  obtain ⟨⟨hx, hbb, hml, hown, hts⟩, -, -, -, hR, hK, -⟩ := F2
  obtain ⟨hR1, hR2, hR3, hR4⟩ := hR
  exact va_runV (As := As.map (am_cv ad)) (b := ad b) F.1 (hM l D tc ad H.size) (cwV As.length hts hG rfl rfl rfl hy ⟨by show d' + 1 ≤ R.frames; omega, by show 8 + (M'.2.2.2.1 + 11) + 40 * d' ≤ R.locals; omega⟩)
    ⟨fun a U g mk q => by obtain ⟨q0, q1, qP, qK, qD⟩ := q; exact ⟨q0, q1, qP, qK.calling, qD⟩, va_recv hK.1 hP hc (am_get hb ho), fun U hU hW => ⟨rfl, by rw [hU], by rw [hU]; exact hP, am_K.warm hW hK, hD.weaken (fun _ _ _ _ => trivial)⟩⟩
    rfl (by rw [List.length_map]) hl.1 (by subst hst; exact am_cvs_rev ad As b rest) (lv_room (by rw [am_cats]; exact hrs)) hd ⟨by rw [hR2]; exact hcc, by rw [hR3]; exact hss⟩
/-- a static method of the own class -/
theorem am_callS {As : List am_V} {index : Nat} (hM : am_AM M' d' mc' ms' As n h Q') (hst : st = As.reverse ++ rest)
    (hd : decode M.2.2.1 pc = .ok (.invokestatic index, 3)) (hG : GoodIn am_all (wsS M.1 index M'.2.1 (am_w M')))
    (hy : M'.2.1.cls = M.1 ∧ M'.2.1.cls ≠ "java/lang/invoke/MethodHandle" ∧ M'.2.1.cls ≠ "java/lang/invoke/VarHandle" ∧ (parseMethodDescriptor M'.2.1.desc).map (fun d => d.parameters.length) = some As.length)
    (hdd : d' + 1 ≤ d) (hnl : M'.2.2.2.1 ≤ 21) (hrs : rest.length ≤ 8) (hcc : uc + mc' ≤ mc) (hss : us + ms' ≤ ms)
    (hsc : ∀ v n' h', Q' v n' h' → am_sc n L rest n')
    (kk : ∀ v n' h', Q' v n' h' → n ≤ n' → am_AW M d mc ms SC Q (pc + 3) L (v.toList ++ rest) n' h' (uc + mc') (us + ms')) : am_AW M d mc ms SC Q pc L st n h uc us := by
  refine am_call hsc ?_ kk
  intro p l e R s m args below meth c D tc A ad H locs ls F hP hD hS hl
  have F2 := F
  obtain ⟨⟨hx, hbb, hml, hown, hts⟩, -, -, -, hR, hK, -⟩ := F2
  obtain ⟨hR1, hR2, hR3, hR4⟩ := hR
  exact va_runS (As := As.map (am_cv ad)) F.1 (hM l D tc ad H.size) (cwS As.length hts hG rfl rfl rfl hy ⟨by show d' + 1 ≤ R.frames; omega, by show 8 + (M'.2.2.2.1 + 11) + 40 * d' ≤ R.locals; omega⟩)
    ⟨fun a U g mk q => by obtain ⟨q0, q1, qP, qK, qD⟩ := q; exact ⟨q0, q1, qP, qK.calling, qD⟩, fun U hU hW => ⟨rfl, by rw [hU], by rw [hU]; exact hP, am_K.warm hW hK, hD.weaken (fun _ _ _ _ => trivial)⟩⟩
    rfl (by rw [List.length_map]) hl.1 (by subst hst; show (As.reverse ++ rest).map (am_cv ad) = _; rw [List.map_append, List.map_reverse]) (lv_room (by rw [am_cats]; exact hrs)) hd ⟨by rw [hR2]; exact hcc, by rw [hR3]; exact hss⟩
/-- a private static method of a nest mate -/
theorem am_callSN {As : List am_V} {index : Nat} {host : String} (hM : am_AM M' d' mc' ms' As n h Q') (hst : st = As.reverse ++ rest)
    (hd : decode M.2.2.1 pc = .ok (.invokestatic index, 3)) (hG : GoodIn am_all (am_w M')) (hnw : Cond.methodLinkNest M.1 index M'.2.1 host ∈ am_nest) (hini : Cond.initialized M'.2.1.cls ∈ am_all) (hstt : Cond.static M'.2.1 ∈ am_all)
    (hy : M'.2.1.cls ≠ "java/lang/invoke/MethodHandle" ∧ M'.2.1.cls ≠ "java/lang/invoke/VarHandle" ∧ (parseMethodDescriptor M'.2.1.desc).map (fun d => d.parameters.length) = some As.length)
    (hdd : d' + 1 ≤ d) (hnl : M'.2.2.2.1 ≤ 21) (hrs : rest.length ≤ 8) (hcc : uc + mc' ≤ mc) (hss : us + ms' ≤ ms)
    (hsc : ∀ v n' h', Q' v n' h' → am_sc n L rest n')
    (kk : ∀ v n' h', Q' v n' h' → n ≤ n' → am_AW M d mc ms SC Q (pc + 3) L (v.toList ++ rest) n' h' (uc + mc') (us + ms')) : am_AW M d mc ms SC Q pc L st n h uc us := by
  refine am_call hsc ?_ kk
  intro p l e R s m args below meth c D tc A ad H locs ls F hP hD hS hl
  have F2 := F
  obtain ⟨⟨hx, hbb, hml, hown, hts⟩, -, -, -, hR, hK, -⟩ := F2
  obtain ⟨hR1, hR2, hR3, hR4⟩ := hR
  exact va_runSN (As := As.map (am_cv ad)) F.1 (hM l D tc ad H.size) ⟨va_cnB As.length hts hG rfl rfl rfl (hK.2.1 _ hnw) (hts _ hini) hy ⟨by show d' + 1 ≤ R.frames; omega, by show 8 + (M'.2.2.2.1 + 11) + 40 * d' ≤ R.locals; omega⟩, hts _ hstt, trivial⟩
    ⟨fun a U g mk q => by obtain ⟨q0, q1, qP, qK, qD⟩ := q; exact ⟨q0, q1, qP, qK.calling, qD⟩, fun U hU hW => ⟨rfl, by rw [hU], by rw [hU]; exact hP, am_K.warm hW hK, hD.weaken (fun _ _ _ _ => trivial)⟩⟩
    rfl (by rw [List.length_map]) hl.1 (by subst hst; show (As.reverse ++ rest).map (am_cv ad) = _; rw [List.map_append, List.map_reverse]) (lv_room (by rw [am_cats]; exact hrs)) hd ⟨by rw [hR2]; exact hcc, by rw [hR3]; exact hss⟩
/-- a constructor that is no nest mate's secret (package-private or public) -/
theorem am_callI {As : List am_V} {b index : Nat} (hM : am_AM M' d' mc' ms' (vR b :: As) n h Q') (hst : st = As.reverse ++ vR b :: rest) (hret0 : M'.2.2.2.2 = none)
    (hd : decode M.2.2.1 pc = .ok (.invokespecial index, 3)) (hG : GoodIn am_all (am_w M')) (hini : Cond.initialized M'.2.1.cls ∈ am_all) (hlk : Cond.methodLink M.1 index M'.2.1 ∈ am_all) (hins : Cond.instanceMethod M'.2.1 ∈ am_all) (hnm : M'.2.1.name = "<init>")
    (hy : M'.2.1.cls ≠ "java/lang/invoke/MethodHandle" ∧ M'.2.1.cls ≠ "java/lang/invoke/VarHandle" ∧ (parseMethodDescriptor M'.2.1.desc).map (fun d => d.parameters.length) = some As.length)
    (hdd : d' + 1 ≤ d) (hnl : M'.2.2.2.1 ≤ 21) (hrs : rest.length ≤ 8) (hcc : uc + mc' ≤ mc) (hss : us + ms' ≤ ms)
    (hsc : ∀ v n' h', Q' v n' h' → am_sc n L rest n')
    (kk : ∀ v n' h', Q' v n' h' → n ≤ n' → am_AW M d mc ms SC Q (pc + 3) L (v.toList ++ rest) n' h' (uc + mc') (us + ms')) : am_AW M d mc ms SC Q pc L st n h uc us := by
  refine am_call hsc ?_ kk
  intro p l e R s m args below meth c D tc A ad H locs ls F hP hD hS hl
  have F2 := F
  obtain ⟨⟨hx, hbb, hml, hown, hts⟩, -, -, -, hR, hK, -⟩ := F2
  obtain ⟨hR1, hR2, hR3, hR4⟩ := hR
  have hcw : am_w M' = Cond.code M'.2.1 M'.2.2.1 M'.2.2.2.1 none :: am_all := by unfold am_w; rw [hret0]
  exact va_runI (As := As.map (am_cv ad)) (b := ad b) F.1 (hM l D tc ad H.size) (cwI As.length hts hG hcw rfl rfl (hts _ hini) (hts _ hlk) (hts _ hins) hnm hy ⟨by show d' + 1 ≤ R.frames; omega, by show 8 + (M'.2.2.2.1 + 11) + 40 * d' ≤ R.locals; omega⟩)
    ⟨fun a U g mk q => by obtain ⟨q0, q1, qP, qK, qD⟩ := q; exact ⟨q0, q1, qP, qK.calling, qD⟩, fun U hU hW => ⟨rfl, by rw [hU], by rw [hU]; exact hP, am_K.warm hW hK, hD.weaken (fun _ _ _ _ => trivial)⟩⟩
    rfl (by rw [List.length_map]) hl.1 (by subst hst; exact am_cvs_rev ad As b rest) (lv_room (by rw [am_cats]; exact hrs)) hd ⟨by rw [hR2]; exact hcc, by rw [hR3]; exact hss⟩
end AC
end
section
-- flat memory. Behind the constructors no cell comes and no reference changes: a heap is a shape and a table of ints I : position → slot → int.
/-- shapes: ints (table, length); references (table, length, which); an object (class, its fields: a position, or none for an int) -/
abbrev fm_S : Type := (Nat × Nat) ⊕ (Nat × Nat × (Nat → Option Nat)) ⊕ (Nat × List (Option Nat))
abbrev fm_I : Type := Nat → Nat → Int32
def fm_fs (f : Nat → Int32) : Nat → List (Option Nat) → List am_V
  | _, [] => []
  | k, some q :: r => vR q :: fm_fs f (k + 1) r
  | k, none :: r => vI (f k) :: fm_fs f (k + 1) r
def fm_c (s : fm_S) (f : Nat → Int32) : am_E := match s with
  | .inl (t, N) => .inl (t, N, .inl f)
  | .inr (.inl (t, N, g)) => .inl (t, N, .inr g)
  | .inr (.inr (ci, fs)) => .inr (ci, fm_fs f 0 fs)
theorem fm_fs_i (f : Nat → Int32) : ∀ (fs : List (Option Nat)) (j k : Nat), fs[k]? = some none → (fm_fs f j fs)[k]? = some (vI (f (j + k)))
  | [], _, k, h => by simp at h
  | o :: r, j, 0, h => by
    have e : o = none := by simpa using h
    subst e
    rfl
  | o :: r, j, k + 1, h => by
    have h2 : r[k]? = some none := by simpa using h
    have := fm_fs_i f r (j + 1) k h2
    rw [show j + 1 + k = j + (k + 1) by omega] at this
    cases o <;> simpa [fm_fs] using this
theorem fm_fs_r (f : Nat → Int32) : ∀ (fs : List (Option Nat)) (j k q : Nat), fs[k]? = some (some q) → (fm_fs f j fs)[k]? = some (vR q)
  | [], _, k, _, h => by simp at h
  | o :: r, j, 0, q, h => by
    have e : o = some q := by simpa using h
    subst e
    rfl
  | o :: r, j, k + 1, q, h => by
    have h2 : r[k]? = some (some q) := by simpa using h
    have := fm_fs_r f r (j + 1) k q h2
    cases o <;> simpa [fm_fs] using this
theorem fm_fs_cg {f g : Nat → Int32} : ∀ (fs : List (Option Nat)) (j : Nat), (∀ i, j ≤ i → f i = g i) → fm_fs f j fs = fm_fs g j fs
  | [], _, _ => rfl
  | some q :: r, j, h => by
    show vR q :: fm_fs f (j + 1) r = vR q :: fm_fs g (j + 1) r
    rw [fm_fs_cg r (j + 1) (fun i hi => h i (by omega))]
  | none :: r, j, h => by
    show vI (f j) :: fm_fs f (j + 1) r = vI (g j) :: fm_fs g (j + 1) r
    rw [fm_fs_cg r (j + 1) (fun i hi => h i (by omega)), h j (Nat.le_refl _)]
theorem fm_fs_set {f : Nat → Int32} {x : Int32} : ∀ (fs : List (Option Nat)) (j k : Nat), fs[k]? = some none → (fm_fs f j fs).set k (vI x) = fm_fs (upd f (j + k) x) j fs
  | [], _, k, h => by simp at h
  | o :: r, j, 0, h => by
    have e : o = none := by simpa using h
    subst e
    show vI x :: fm_fs f (j + 1) r = vI (upd f (j + 0) x j) :: fm_fs (upd f (j + 0) x) (j + 1) r
    rw [fm_fs_cg (f := upd f (j + 0) x) (g := f) r (j + 1) (fun i hi => pk_un (by omega)), show upd f (j + 0) x j = x from pk_us]
  | o :: r, j, k + 1, h => by
    have h2 : r[k]? = some none := by simpa using h
    have := fm_fs_set (f := f) (x := x) r (j + 1) k h2
    rw [show j + 1 + k = j + (k + 1) by omega] at this
    cases o with
    | none =>
      show vI (f j) :: (fm_fs f (j + 1) r).set k (vI x) = vI (upd f (j + (k + 1)) x j) :: fm_fs (upd f (j + (k + 1)) x) (j + 1) r
      rw [this, pk_un (by omega)]
    | some q =>
      show vR q :: (fm_fs f (j + 1) r).set k (vI x) = vR q :: fm_fs (upd f (j + (k + 1)) x) (j + 1) r
      rw [this]
theorem fm_fs_len (f : Nat → Int32) : ∀ (fs : List (Option Nat)) (j : Nat), (fm_fs f j fs).length = fs.length
  | [], _ => rfl
  | some q :: r, j => by show (fm_fs f (j + 1) r).length + 1 = r.length + 1; rw [fm_fs_len f r]
  | none :: r, j => by show (fm_fs f (j + 1) r).length + 1 = r.length + 1; rw [fm_fs_len f r]
-- the shape of this program's heap behind both constructors: positions in the order of making
-- 0 SpanLinker; 1 its modules; 2 + 9 m: module m, 3 + 9 m .. 10 + 9 m its rows; 56 Inclusion, 57 order, 58; 59 archive, 60; 61 line, 62; 63 Image, 64 bases, 65 .. 70 their rows, 71 words, 72 sizes, 73 values; 74 Machine, 75 words, 76 tape, 77 latest; 78 the reference, 79 .. 93 its rows
-- class numbers: as 'classes' has them (here: 0 SpanLinker, 1 SourceModule, 2 Inclusion, 3 Row, 4 Image, 5 Machine, 6 SpanLinkerModel)
def fm_mod (b j : Nat) : fm_S := match j with
  | 0 => .inr (.inr (1, [some (b + 1), some (b + 2), some (b + 3), some (b + 4), some (b + 5), some (b + 6), some (b + 7), some (b + 8), none, none, none, none, none]))
  | 6 => .inl (1, 20)
  | 7 => .inl (0, 3)
  | 8 => .inl (0, 16)
  | _ => .inl (0, 20)
def fm_low (p : Nat) : fm_S := match p with
  | 0 => .inr (.inr (0, [some 1, some 59, some 61, some 56, some 63, some 74]))
  | _ => .inr (.inl (2, 6, fun i => if i < 6 then some (2 + 9 * i) else none))
def fm_top (p : Nat) : fm_S := match p with
  | 56 => .inr (.inr (2, [some 1, some 57, none, none, none, none]))
  | 57 => .inr (.inr (3, [some 58, none]))
  | 58 => .inl (0, 6)
  | 59 => .inr (.inr (3, [some 60, none]))
  | 60 => .inl (0, 6)
  | 61 => .inr (.inr (3, [some 62, none]))
  | 62 => .inl (0, 8)
  | 63 => .inr (.inr (4, [some 1, some 56, some 64, some 71, some 72, some 73, none, none, none, none]))
  | 64 => .inr (.inl (3, 6, fun i => if i < 6 then some (65 + i) else none))
  | 71 => .inl (0, 200)
  | 72 => .inl (0, 3)
  | 73 => .inl (0, 16)
  | 74 => .inr (.inr (5, [some 75, some 76, some 77, none, none, none, none, none, none, none, none, none, none]))
  | 75 => .inl (0, 200)
  | 76 => .inl (0, 8)
  | 77 => .inl (0, 4)
  | 78 => .inr (.inr (6, [some 79, some 80, some 81, some 82, some 83, some 84, none, some 85, none, some 86, none, none, some 87, none, none, none, some 88, some 89, none, some 90, none, none, some 91, none, none, none, none, none, some 92, some 93, none, none]))
  | 79 => .inl (0, 6)
  | 80 => .inl (0, 120)
  | 81 => .inl (0, 120)
  | 82 => .inl (0, 120)
  | 83 => .inl (0, 120)
  | 84 => .inl (1, 120)
  | 85 => .inl (0, 6)
  | 86 => .inl (0, 8)
  | 87 => .inl (0, 6)
  | 88 => .inl (0, 200)
  | 89 => .inl (0, 3)
  | 90 => .inl (0, 16)
  | 91 => .inl (0, 200)
  | 92 => .inl (0, 4)
  | 93 => .inl (0, 8)
  | _ => .inl (0, 3)
def fm_sh (p : Nat) : fm_S := if p < 2 then fm_low p else if p < 56 then fm_mod (2 + 9 * ((p - 2) / 9)) ((p - 2) % 9) else fm_top p
abbrev fm_N : Nat := 94
def fm_hp (I : fm_I) : am_H := fun p => fm_c (fm_sh p) (I p)
def fm_up (I : fm_I) (p k : Nat) (x : Int32) : fm_I := va_up I p (upd (I p) k x)
theorem fm_sh_mod {m j : Nat} (hm : m < 6) (hj : j < 9) : fm_sh (2 + 9 * m + j) = fm_mod (2 + 9 * m) j := by
  unfold fm_sh
  rw [if_neg (by omega), if_pos (by omega), show (2 + 9 * m + j - 2) / 9 = m by omega, show (2 + 9 * m + j - 2) % 9 = j by omega]
theorem fm_up_s (I : fm_I) (p k : Nat) (x : Int32) : fm_up I p k x p k = x := by unfold fm_up; rw [va_up_self]; exact pk_us
theorem fm_up_k (I : fm_I) {p k j : Nat} (x : Int32) (h : j ≠ k) : fm_up I p k x p j = I p j := by unfold fm_up; rw [va_up_self]; exact pk_un h
theorem fm_up_p (I : fm_I) {p k q : Nat} (j : Nat) (x : Int32) (h : q ≠ p) : fm_up I p k x q j = I q j := by unfold fm_up; rw [va_up_ne _ _ h]
theorem fm_hp_up {I : fm_I} {p : Nat} {f : Nat → Int32} : va_up (fm_hp I) p (fm_c (fm_sh p) f) = fm_hp (va_up I p f) := funext fun q => by
  by_cases e : q = p
  · subst e
    rw [va_up_self]
    show _ = fm_c (fm_sh q) (va_up I q f q)
    rw [va_up_self]
  · rw [va_up_ne _ _ e]
    show fm_c (fm_sh q) (I q) = fm_c (fm_sh q) (va_up I p f q)
    rw [va_up_ne _ _ e]
-- ends: an int, nothing
def fm_Q (Q : Option am_V → fm_I → Prop) : Option am_V → Nat → am_H → Prop := fun v n' h' => n' = fm_N ∧ ∃ I', h' = fm_hp I' ∧ Q v I'
abbrev fi (P : Int32 → fm_I → Prop) : Option am_V → fm_I → Prop := fun v I' => ∃ x, v = some (vI x) ∧ P x I'
abbrev fv (P : fm_I → Prop) : Option am_V → fm_I → Prop := fun v I' => v = none ∧ P I'
/-- a walk, and a contract, over the flat memory -/
abbrev fW (M : am_M) (d : Nat) (Q : Option am_V → fm_I → Prop) (pc : Nat) (L : Nat → Option am_V) (st : List am_V) (I : fm_I) : Prop := am_AW M d 0 0 none (fm_Q Q) pc L st fm_N (fm_hp I) 0 0
abbrev fM (M : am_M) (d : Nat) (av : List am_V) (I : fm_I) (Q : Option am_V → fm_I → Prop) : Prop := am_AM M d 0 0 av fm_N (fm_hp I) (fm_Q Q)
section FM
variable {M : am_M} {d mc ms : Nat} {SC : Option (Nat × (Nat → Int32))} {Q : Option am_V → Nat → am_H → Prop} {pc : Nat} {L : Nat → Option am_V} {rest : List am_V} {I : fm_I} {uc us : Nat}
theorem f_geti {C : String} {T : u_T} {N ci index b k : Nat} {fs : List (Option Nat)} {x : Int32} (hd : decode M.2.2.1 pc = .ok (.getfield index, 3)) (hc : classes[ci]? = some (C, T, N)) (hin : ∀ w ∈ u_ws C T N, w ∈ am_all) (hk : k < N) (hlk : Cond.fieldLink M.1 index (T k).1 (T k).2.1 (T k).2.2.1 ∈ am_all) (hf : fs[k]? = some none) (hb : b < fm_N) (hs : fm_sh b = .inr (.inr (ci, fs))) (hv : I b k = x)
    (kk : am_AW M d mc ms SC Q (pc + 3) L (vI x :: rest) fm_N (fm_hp I) uc us) : am_AW M d mc ms SC Q pc L (vR b :: rest) fm_N (fm_hp I) uc us :=
  i_getf hd hc hin hk hlk hb (fs := fm_fs (I b) 0 fs) (by show fm_c (fm_sh b) (I b) = _; rw [hs]; rfl) (v := vI x) (by rw [fm_fs_i (I b) fs 0 k hf, Nat.zero_add, hv]) kk
theorem f_getr {C : String} {T : u_T} {N ci index b k q : Nat} {fs : List (Option Nat)} (hd : decode M.2.2.1 pc = .ok (.getfield index, 3)) (hc : classes[ci]? = some (C, T, N)) (hin : ∀ w ∈ u_ws C T N, w ∈ am_all) (hk : k < N) (hlk : Cond.fieldLink M.1 index (T k).1 (T k).2.1 (T k).2.2.1 ∈ am_all) (hf : fs[k]? = some (some q)) (hb : b < fm_N) (hs : fm_sh b = .inr (.inr (ci, fs)))
    (kk : am_AW M d mc ms SC Q (pc + 3) L (vR q :: rest) fm_N (fm_hp I) uc us) : am_AW M d mc ms SC Q pc L (vR b :: rest) fm_N (fm_hp I) uc us :=
  i_getf hd hc hin hk hlk hb (fs := fm_fs (I b) 0 fs) (by show fm_c (fm_sh b) (I b) = _; rw [hs]; rfl) (v := vR q) (fm_fs_r (I b) fs 0 k q hf) kk
theorem f_puti {C : String} {T : u_T} {N ci index b k : Nat} {fs : List (Option Nat)} {x : Int32} {ty : FieldType} (ty0 : Nat → FieldType) (hty : ∀ k, k < N → parseFieldDescriptor (T k).2.2.1 = some (ty0 k)) (hnm : ∀ a, a < N → ∀ b, b < N → a ≠ b → (T a).2.1 ≠ (T b).2.1) (hd : decode M.2.2.1 pc = .ok (.putfield index, 3)) (hc : classes[ci]? = some (C, T, N)) (hin : ∀ w ∈ u_ws C T N, w ∈ am_all) (hk : k < N) (hlk : Cond.fieldLink M.1 index (T k).1 (T k).2.1 (T k).2.2.1 ∈ am_all) (hfin : (T k).2.2.2 = false) (hpd : parseFieldDescriptor (T k).2.2.1 = some ty) (hf : fs[k]? = some none) (hnr : narrow ty (.int x) = .int x) (hft : fits ty (.int x) = true) (hb : b < fm_N) (hs : fm_sh b = .inr (.inr (ci, fs)))
    (kk : am_AW M d mc ms SC Q (pc + 3) L rest fm_N (fm_hp (fm_up I b k x)) uc us) : am_AW M d mc ms SC Q pc L (vI x :: vR b :: rest) fm_N (fm_hp I) uc us := by
  have hlt : k < fs.length := (List.getElem?_eq_some_iff.mp hf).1
  refine i_putf ty0 hty hnm hd hc hin hk hlk hfin hb (fs := fm_fs (I b) 0 fs) (by show fm_c (fm_sh b) (I b) = _; rw [hs]; rfl) (by rw [fm_fs_len]; exact hlt) hpd (fun _ => hnr) (fun _ => hft) ?_
  have e : va_up (fm_hp I) b (.inr (ci, (fm_fs (I b) 0 fs).set k (vI x))) = fm_hp (fm_up I b k x) := by
    rw [fm_fs_set fs 0 k hf, Nat.zero_add]
    have := fm_hp_up (I := I) (p := b) (f := upd (I b) k x)
    rw [hs] at this
    exact this
  rw [e]
  exact kk
theorem f_iald {b N j : Nat} {i x : Int32} (hd : decode M.2.2.1 pc = .ok (.iaload, 1)) (hb : b < fm_N) (hs : fm_sh b = .inl (0, N)) (hN : N < 2147483648) (hi : i = nI j) (hj : j < N) (hv : I b j = x)
    (kk : am_AW M d mc ms SC Q (pc + 1) L (vI x :: rest) fm_N (fm_hp I) uc us) : am_AW M d mc ms SC Q pc L (vI i :: vR b :: rest) fm_N (fm_hp I) uc us := by
  subst hi; subst hv
  refine i_iald (f := I b) hd hb (by show fm_c (fm_sh b) (I b) = _; rw [hs]; rfl) (vp_in_nI hj hN) ?_
  rw [nI_clamp (Nat.lt_trans hj hN)]
  exact kk
theorem f_zald {b N j : Nat} {i x : Int32} (hd : decode M.2.2.1 pc = .ok (.baload, 1)) (hb : b < fm_N) (hs : fm_sh b = .inl (1, N)) (hN : N < 2147483648) (hi : i = nI j) (hj : j < N) (hv : I b j = x)
    (kk : am_AW M d mc ms SC Q (pc + 1) L (vI x :: rest) fm_N (fm_hp I) uc us) : am_AW M d mc ms SC Q pc L (vI i :: vR b :: rest) fm_N (fm_hp I) uc us := by
  subst hi; subst hv
  refine i_zald (f := I b) hd hb (by show fm_c (fm_sh b) (I b) = _; rw [hs]; rfl) (vp_in_nI hj hN) ?_
  rw [nI_clamp (Nat.lt_trans hj hN)]
  exact kk
theorem f_iast {b N j : Nat} {i x : Int32} (hd : decode M.2.2.1 pc = .ok (.iastore, 1)) (hb : b < fm_N) (hs : fm_sh b = .inl (0, N)) (hN : N < 2147483648) (hi : i = nI j) (hj : j < N)
    (kk : am_AW M d mc ms SC Q (pc + 1) L rest fm_N (fm_hp (fm_up I b j x)) uc us) : am_AW M d mc ms SC Q pc L (vI x :: vI i :: vR b :: rest) fm_N (fm_hp I) uc us := by
  subst hi
  refine i_iast (f := I b) hd hb (by show fm_c (fm_sh b) (I b) = _; rw [hs]; rfl) (vp_in_nI hj hN) ?_
  rw [nI_clamp (Nat.lt_trans hj hN)]
  have := fm_hp_up (I := I) (p := b) (f := upd (I b) j x)
  rw [hs] at this
  show am_AW M d mc ms SC Q (pc + 1) L rest fm_N (va_up (fm_hp I) b (fm_c (.inl (0, N)) (upd (I b) j x))) uc us
  rw [this]
  exact kk
theorem f_zast {b N j : Nat} {i x y : Int32} (hd : decode M.2.2.1 pc = .ok (.bastore, 1)) (hb : b < fm_N) (hs : fm_sh b = .inl (1, N)) (hN : N < 2147483648) (hi : i = nI j) (hj : j < N) (hx : vp_nar .boolean x = y)
    (kk : am_AW M d mc ms SC Q (pc + 1) L rest fm_N (fm_hp (fm_up I b j y)) uc us) : am_AW M d mc ms SC Q pc L (vI x :: vI i :: vR b :: rest) fm_N (fm_hp I) uc us := by
  subst hi; subst hx
  refine i_zast (f := I b) hd hb (by show fm_c (fm_sh b) (I b) = _; rw [hs]; rfl) (vp_in_nI hj hN) ?_
  rw [nI_clamp (Nat.lt_trans hj hN)]
  have := fm_hp_up (I := I) (p := b) (f := upd (I b) j (vp_nar .boolean x))
  rw [hs] at this
  show am_AW M d mc ms SC Q (pc + 1) L rest fm_N (va_up (fm_hp I) b (fm_c (.inl (1, N)) (upd (I b) j (vp_nar .boolean x)))) uc us
  rw [this]
  exact kk
theorem f_aald {b N j y : Nat} {g : Nat → Option Nat} {i : Int32} (hd : decode M.2.2.1 pc = .ok (.aaload, 1)) (hb : b < fm_N) (hs : fm_sh b = .inr (.inl (2, N, g))) (hN : N < 2147483648) (hi : i = nI j) (hj : j < N) (hy : g j = some y)
    (kk : am_AW M d mc ms SC Q (pc + 1) L (vR y :: rest) fm_N (fm_hp I) uc us) : am_AW M d mc ms SC Q pc L (vI i :: vR b :: rest) fm_N (fm_hp I) uc us := by
  subst hi
  exact i_aald (g := g) hd hb (by show fm_c (fm_sh b) (I b) = _; rw [hs]; rfl) (vp_in_nI hj hN) (by rw [nI_clamp (Nat.lt_trans hj hN)]; exact hy) kk
theorem f_alen {b N : Nat} {x : Int32} (hd : decode M.2.2.1 pc = .ok (.arraylength, 1)) (hb : b < fm_N) (hs : fm_sh b = .inl (0, N)) (hx : Int32.ofNat N = x)
    (kk : am_AW M d mc ms SC Q (pc + 1) L (vI x :: rest) fm_N (fm_hp I) uc us) : am_AW M d mc ms SC Q pc L (vR b :: rest) fm_N (fm_hp I) uc us :=
  i_alen (f := .inl (I b)) hd hb (by show fm_c (fm_sh b) (I b) = _; rw [hs]; rfl) (fun _ => rfl) hx kk
end FM
theorem f_iret {M : am_M} {d mc ms : Nat} {SC : Option (Nat × (Nat → Int32))} {P : Int32 → fm_I → Prop} {pc : Nat} {L : Nat → Option am_V} {I : fm_I} {uc us : Nat} {x : Int32} {ty : FieldType} (hd : decode M.2.2.1 pc = .ok (.ireturn, 1)) (hty : M.2.2.2.2 = some ty) (hn : narrow ty (.int x) = .int x) (hc : uc ≤ mc) (hs : us ≤ ms) (hP : P x I) : am_AW M d mc ms SC (fm_Q (fi P)) pc L [vI x] fm_N (fm_hp I) uc us := i_iret hd hty hn hc hs ⟨rfl, I, rfl, x, rfl, hP⟩
theorem f_ret {M : am_M} {d mc ms : Nat} {SC : Option (Nat × (Nat → Int32))} {P : fm_I → Prop} {pc : Nat} {L : Nat → Option am_V} {I : fm_I} {uc us : Nat} (hd : decode M.2.2.1 pc = .ok (.return_, 1)) (hty : M.2.2.2.2 = none) (hc : uc ≤ mc) (hs : us ≤ ms) (hP : P I) : am_AW M d mc ms SC (fm_Q (fv P)) pc L [] fm_N (fm_hp I) uc us := i_ret hd hty hc hs ⟨rfl, I, rfl, rfl, hP⟩
theorem f_met {M : am_M} {d : Nat} {av : List am_V} {I : fm_I} {Q : Option am_V → fm_I → Prop} (hy : plainName M.2.1.cls = true) (how : M.1 = M.2.1.cls) (hlen : av.length ≤ M.2.2.2.1) (hw : fW M d Q 0 (fun i => av[i]?) [] I) : fM M d av I Q := am_met hy how hlen hw
theorem f_sp : fm_N ≤ am_SP := by decide
-- calls over the flat memory. am_all = am_codes ++ am_links; am_allgood: every word of it is good (by decide, once)
theorem am_good {M' : am_M} {ws : List Cond} (hc : Cond.code M'.2.1 M'.2.2.1 M'.2.2.2.1 M'.2.2.2.2 ∈ am_all) (hws : ∀ w ∈ ws, w ∈ am_all) : GoodIn am_all (ws ++ am_w M') := by
  intro w hw
  have h : w ∈ am_all := by
    rcases List.mem_append.mp hw with h | h
    · exact hws w h
    · rcases List.mem_cons.mp h with rfl | h
      · exact hc
      · exact h
  exact ⟨h, am_allgood w h⟩
theorem am_good0 {M' : am_M} (hc : Cond.code M'.2.1 M'.2.2.1 M'.2.2.2.1 M'.2.2.2.2 ∈ am_all) : GoodIn am_all (am_w M') := am_good (ws := []) hc (fun _ h => by cases h)
section FC
variable {M M' : am_M} {d d' mc ms : Nat} {SC : Option (Nat × (Nat → Int32))} {Q : Option am_V → Nat → am_H → Prop} {pc : Nat} {L : Nat → Option am_V} {rest st As : List am_V} {I : fm_I} {uc us : Nat}
theorem f_callV {b ci N index : Nat} {C : String} {T : u_T} {fs : List (Option Nat)} {Q' : Option am_V → fm_I → Prop} (hM : fM M' d' (vR b :: As) I Q') (hst : st = As.reverse ++ vR b :: rest) (hd : decode M.2.2.1 pc = .ok (.invokevirtual index, 3))
    (hcw : Cond.code M'.2.1 M'.2.2.1 M'.2.2.2.1 M'.2.2.2.2 ∈ am_all) (hws : ∀ w ∈ ([.methodLink M.1 index M'.2.1, .instanceMethod M'.2.1, .selects C M'.2.1 M'.2.1, .initialized C] : List Cond), w ∈ am_all)
    (hy : M'.2.1.cls = C ∧ M'.2.1.cls ≠ "java/lang/invoke/MethodHandle" ∧ M'.2.1.cls ≠ "java/lang/invoke/VarHandle" ∧ (parseMethodDescriptor M'.2.1.desc).map (fun d => d.parameters.length) = some As.length)
    (hdd : d' + 1 ≤ d) (hnl : M'.2.2.2.1 ≤ 21) (hb : b < fm_N) (hs : fm_sh b = .inr (.inr (ci, fs))) (hc : classes[ci]? = some (C, T, N)) (hrs : rest.length ≤ 8) (hcc : uc ≤ mc) (hss : us ≤ ms)
    (kk : ∀ v I', Q' v I' → am_AW M d mc ms SC Q (pc + 3) L (v.toList ++ rest) fm_N (fm_hp I') uc us) : am_AW M d mc ms SC Q pc L st fm_N (fm_hp I) uc us :=
  am_callV (mc' := 0) (ms' := 0) hM hst hd (am_good hcw hws) hy hdd hnl hb (fs := fm_fs (I b) 0 fs) (by show fm_c (fm_sh b) (I b) = _; rw [hs]; rfl) hc hrs hcc hss (fun v n' h' q => by obtain ⟨e, -⟩ := q; rw [e]; exact am_sc.same f_sp) (fun v n' h' q _ => by obtain ⟨e, I', e2, q⟩ := q; subst e; subst e2; exact kk v I' q)
theorem f_callS {index : Nat} {Q' : Option am_V → fm_I → Prop} (hM : fM M' d' As I Q') (hst : st = As.reverse ++ rest) (hd : decode M.2.2.1 pc = .ok (.invokestatic index, 3))
    (hcw : Cond.code M'.2.1 M'.2.2.1 M'.2.2.2.1 M'.2.2.2.2 ∈ am_all) (hws : ∀ w ∈ ([.methodLink M.1 index M'.2.1, .static M'.2.1, .initialized M.1] : List Cond), w ∈ am_all)
    (hy : M'.2.1.cls = M.1 ∧ M'.2.1.cls ≠ "java/lang/invoke/MethodHandle" ∧ M'.2.1.cls ≠ "java/lang/invoke/VarHandle" ∧ (parseMethodDescriptor M'.2.1.desc).map (fun d => d.parameters.length) = some As.length)
    (hdd : d' + 1 ≤ d) (hnl : M'.2.2.2.1 ≤ 21) (hrs : rest.length ≤ 8) (hcc : uc ≤ mc) (hss : us ≤ ms)
    (kk : ∀ v I', Q' v I' → am_AW M d mc ms SC Q (pc + 3) L (v.toList ++ rest) fm_N (fm_hp I') uc us) : am_AW M d mc ms SC Q pc L st fm_N (fm_hp I) uc us :=
  am_callS (mc' := 0) (ms' := 0) hM hst hd (am_good hcw hws) hy hdd hnl hrs hcc hss (fun v n' h' q => by obtain ⟨e, -⟩ := q; rw [e]; exact am_sc.same f_sp) (fun v n' h' q _ => by obtain ⟨e, I', e2, q⟩ := q; subst e; subst e2; exact kk v I' q)
theorem f_callSN {index : Nat} {host : String} {Q' : Option am_V → fm_I → Prop} (hM : fM M' d' As I Q') (hst : st = As.reverse ++ rest) (hd : decode M.2.2.1 pc = .ok (.invokestatic index, 3))
    (hcw : Cond.code M'.2.1 M'.2.2.1 M'.2.2.2.1 M'.2.2.2.2 ∈ am_all) (hnw : Cond.methodLinkNest M.1 index M'.2.1 host ∈ am_nest) (hini : Cond.initialized M'.2.1.cls ∈ am_all) (hstt : Cond.static M'.2.1 ∈ am_all)
    (hy : M'.2.1.cls ≠ "java/lang/invoke/MethodHandle" ∧ M'.2.1.cls ≠ "java/lang/invoke/VarHandle" ∧ (parseMethodDescriptor M'.2.1.desc).map (fun d => d.parameters.length) = some As.length)
    (hdd : d' + 1 ≤ d) (hnl : M'.2.2.2.1 ≤ 21) (hrs : rest.length ≤ 8) (hcc : uc ≤ mc) (hss : us ≤ ms)
    (kk : ∀ v I', Q' v I' → am_AW M d mc ms SC Q (pc + 3) L (v.toList ++ rest) fm_N (fm_hp I') uc us) : am_AW M d mc ms SC Q pc L st fm_N (fm_hp I) uc us :=
  am_callSN (mc' := 0) (ms' := 0) hM hst hd (am_good0 hcw) hnw hini hstt hy hdd hnl hrs hcc hss (fun v n' h' q => by obtain ⟨e, -⟩ := q; rw [e]; exact am_sc.same f_sp) (fun v n' h' q _ => by obtain ⟨e, I', e2, q⟩ := q; subst e; subst e2; exact kk v I' q)
end FC
-- from a general end to an int's or to none: behind a call 'fun v I2 q => by obtain ⟨x, rfl, q⟩ := q; ..'
end
section
-- new cells: the position n is the new one
def am_so (n : Nat) (h : am_H) (L : Nat → Option am_V) (rest : List am_V) : Prop := (∀ k, k < n → am_oke n (h k)) ∧ (∀ i k, L i = some (vR k) → k < n ∨ k = am_SP) ∧ (∀ k, vR k ∈ rest → k < n ∨ k = am_SP) ∧ n < am_SP
section AL
variable {M : am_M} {d mc ms : Nat} {SC : Option (Nat × (Nat → Int32))} {Q : Option am_V → Nat → am_H → Prop} {pc : Nat} {L : Nat → Option am_V} {rest : List am_V} {n : Nat} {h : am_H} {uc us : Nat}
theorem am_grow {e : am_E} {q pc' uc' us' : Nat} {p : Program} {l : Launch} {e0 : Env} {R : Room} {s : State} {m : MethodId} {args : Array Value} {below : List Frame} {meth : Method} {c : Code} {D : va_G} {tc : Nat → ClassId} {A : Nat → Prop} {Qm : State → Prop} {ad : Nat → Nat} {H1 : Heap} {locs : List Loc} {ls : Array Slot}
    (hso : am_so n h L rest) (F : am_F M d mc ms p R s m args meth c D tc A) (X : am_X SC ad A s) (hP1 : va_P D classes (am_ws tc ad n h ++ [(q, am_ce tc (va_up ad n q) e)]) H1) (hD1 : va_D A (am_ws tc ad n h ++ [(q, am_ce tc (va_up ad n q) e)])) (hS1 : va_S A s.heap H1 locs) (hl : am_has ls M.2.2.2.1 ad L)
    (hret : ∀ (v : Option am_V) (n' : Nat) (h' : am_H) (ad' : Nat → Nat) (H' : Heap) (locs' : List Loc) (ls' : Array Slot) (pc' : Nat), Q v n' h' → n ≤ n' → (∀ k, k < n ∨ n' ≤ k → ad' k = ad k) → va_P D classes (am_ws tc ad' n' h') H' → va_D A (am_ws tc ad' n' h') → va_S A s.heap H' locs' → am_rd M pc' v →
      W p l e0 R s m args below meth c H' locs' mc ms Qm (F0 m pc' ls' (v.toList.map (am_cv ad'))))
    (kk : am_AW M d mc ms SC Q pc' L (vR n :: rest) (n + 1) (va_up h n e) uc' us') : W p l e0 R s m args below meth c H1 locs uc' us' Qm (F0 m pc' ls (.ref q :: rest.map (am_cv ad))) := by
  obtain ⟨hs, hL, hr, hn⟩ := hso
  rw [am_push hs] at hP1 hD1
  have hcv : ∀ v : am_V, (∀ k, v = vR k → k < n ∨ k = am_SP) → am_cv (va_up ad n q) v = am_cv ad v := by
    intro v hv
    rcases v with x | r
    · rfl
    · cases r with
      | none => rfl
      | some k =>
        show Value.ref (va_up ad n q k) = Value.ref (ad k)
        rw [va_up_ne ad q (by rcases hv k rfl with h1 | h1 <;> omega)]
  have hl' : am_has ls M.2.2.2.1 (va_up ad n q) L := hl.re (fun i v hv => hcv v (fun k e9 => hL i k (by rw [hv, e9])))
  have hX' : am_X SC (va_up ad n q) A s := fun L0 xs hs9 => by
    rw [va_up_ne ad q (Nat.ne_of_gt hn)]
    exact X L0 xs hs9
  have est : (vR n :: rest).map (am_cv (va_up ad n q)) = .ref q :: rest.map (am_cv ad) := by
    rw [List.map_cons, List.map_congr_left (fun v hv => hcv v (fun k e9 => hr k (e9 ▸ hv)))]
    show Value.ref (va_up ad n q n) :: _ = _
    rw [va_up_self]
  have := kk p l e0 R s m args below meth c D tc A Qm (va_up ad n q) H1 locs ls F hX' hP1 hD1 hS1 hl' (fun v2 n2 h2 ad2 H2 locs2 ls2 pc2 q1 q2 q3 => hret v2 n2 h2 ad2 H2 locs2 ls2 pc2 q1 (by omega) (fun k hk => by
    rw [q3 k (by omega)]
    exact va_up_ne ad q (by omega)))
  rw [est] at this
  exact this
theorem i_new {C : String} {T : u_T} {N ci index : Nat} {fs : List am_V} (ty0 : Nat → FieldType) (hty : ∀ k, k < N → parseFieldDescriptor (T k).2.2.1 = some (ty0 k)) (hd : decode M.2.2.1 pc = .ok (.new index, 3)) (hc : classes[ci]? = some (C, T, N)) (hin : ∀ w ∈ u_ws C T N, w ∈ am_all) (hcl : Cond.classLink M.1 index C ∈ am_all) (hinst : Cond.instantiable C N ∈ am_all) (hini : Cond.initialized C ∈ am_all)
    (hfs : ∀ j, j < N → defaultValue (ty0 j) = vp_V (fs.map (am_cv id)) j) (hok : ∀ v ∈ fs, am_okv 0 v) (hcc : uc + 1 ≤ mc) (hss : us + N ≤ ms) (hso : am_so n h L rest) (kk : am_AW M d mc ms SC Q (pc + 3) L (vR n :: rest) (n + 1) (va_up h n (.inr (ci, fs))) (uc + 1) (us + N)) : am_AW M d mc ms SC Q pc L rest n h uc us := by
  intro p l e R s m args below meth c D tc A Qm ad H locs ls F X hP hD hS hl hret
  have F2 := F
  obtain ⟨⟨hx, hbb, hml, hown, hts⟩, -, -, -, hR, hK, hA⟩ := F2
  have hcg : ∀ a b : Nat → Nat, fs.map (am_cv a) = fs.map (am_cv b) := fun a b => List.map_congr_left fun v hv => am_cv_congr (n := 0) (fun k hk => absurd hk (Nat.not_lt_zero k)) (hok v hv)
  obtain ⟨hR1, hR2, hR3, hR4⟩ := hR
  subst hR2; subst hR3
  refine va_new (ci := ci) (fs := fs.map (am_cv ad)) hx hbb hts hin ty0 hty hown (hts _ hcl) (hts _ hinst) (hts _ hini) hK.1 hP hD hS hA hc (fun j hj => by rw [hcg ad id]; exact hfs j hj) hcc hss hd (fun q H1 hP1 hD1 hS1 => ?_)
  have e1 : (Sum.inr (ci, fs.map (am_cv ad)) : va_E) = am_ce tc (va_up ad n q) (.inr (ci, fs)) := by
    show _ = (Sum.inr (ci, fs.map (am_cv (va_up ad n q))) : va_E)
    rw [hcg ad (va_up ad n q)]
  rw [e1] at hP1 hD1
  exact am_grow hso F X hP1 hD1 hS1 hl hret kk
theorem i_newa {atype : ArrayType} {t N : Nat} {ty : FieldType} {x : Int32} (hd : decode M.2.2.1 pc = .ok (.newarray atype, 2)) (hty : newarray.typeOf atype = ty) (ht : ∀ tc : Nat → ClassId, (am_tl tc)[t]? = some (tc t, ty)) (hpr : ∀ (U : State) (cA : ClassId), va_RA U cA ty → U.vm.findClass ("[" ++ ty.toString) = some cA) (hdf : defaultValue ty = .int 0) (hw : Cond.arrayClass ty ∈ am_all)
    (hx0 : ¬ x < 0) (hN : x.toNatClampNeg = N) (hby : N * componentBytes ty ≤ 536870912) (hcc : uc + 1 ≤ mc) (hss : us + N ≤ ms) (hso : am_so n h L rest) (kk : am_AW M d mc ms SC Q (pc + 2) L (vR n :: rest) (n + 1) (va_up h n (.inl (t, N, .inl (fun _ => 0)))) (uc + 1) (us + N)) : am_AW M d mc ms SC Q pc L (vI x :: rest) n h uc us := by
  intro p l e R s m args below meth c D tc A Qm ad H locs ls F X hP hD hS hl hret
  have F2 := F
  obtain ⟨⟨hx, hbb, hml, hown, hts⟩, -, -, -, hR, hK, hA⟩ := F2
  obtain ⟨hR1, hR2, hR3, hR4⟩ := hR; subst hR2; subst hR3; subst hty
  refine va_newaK hx hbb (hts _ hw) rfl hd rfl hx0 hN hby hcc hss rfl fun H1 cA e1 z1 o1 hAr hNm => ?_
  have hcA : cA = tc t := Option.some.inj (hNm.symm.trans (hpr s (tc t) (hK.1.2 t _ (ht tc)).2))
  subst hcA
  have hk : ∀ (k : Nat) (x : Nat × va_E), (am_ws tc ad n h)[k]? = some x → H1[x.1]? = H[x.1]? := fun k x hx => o1 x.1 ((hP k x hx).lt)
  refine am_grow (q := H.size) (pc' := pc + 2) (e := .inl (t, N, .inl (fun _ => 0))) hso F X ((hP.kept hk).app (fun k x hx => ?_)) (hD.push hP rfl (hA _ hS.1)) ⟨Nat.le_trans hS.1 (by omega), fun x h1 h2 => (o1 x (Nat.lt_of_lt_of_le h1 hS.1)).trans (hS.2.1 x h1 h2), hS.2.2⟩ hl hret kk
  have hz : k < 1 := (List.getElem?_eq_some_iff.mp hx).1
  rw [show k = 0 by omega] at hx
  cases hx
  show H1[H.size]? = some (vp_cell (tc t) (N, .inl (fun _ => 0)))
  rw [vp_cell_i, e1, hdf]
theorem i_anew {N index : Nat} {x : Int32} (hd : decode M.2.2.1 pc = .ok (.anewarray index, 3)) (hcl : Cond.classLink M.1 index "SpanLinker$SourceModule" ∈ am_all) (hov : ∀ (p : Program) (R : Room) (s : State) (m : MethodId) (args : Array Value) (meth : Method) (c : Code) (D : va_G) (tc : Nat → ClassId) (A : Nat → Prop), am_F M d mc ms p R s m args meth c D tc A → va_AO "SpanLinker$SourceModule" s)
    (hx0 : ¬ x < 0) (hN : x.toNatClampNeg = N) (hby : N * 4 ≤ 536870912) (hcc : uc + 1 ≤ mc) (hss : us + N ≤ ms) (hso : am_so n h L rest) (kk : am_AW M d mc ms SC Q (pc + 3) L (vR n :: rest) (n + 1) (va_up h n (.inl (2, N, .inr (fun _ => none)))) (uc + 1) (us + N)) : am_AW M d mc ms SC Q pc L (vI x :: rest) n h uc us := by
  intro p l e R s m args below meth c D tc A Qm ad H locs ls F X hP hD hS hl hret
  have F2 := F
  obtain ⟨⟨hx, hbb, hml, hown, hts⟩, -, -, -, hR, hK, hA⟩ := F2
  have ho := hov p R s m args meth c D tc A F
  obtain ⟨hR1, hR2, hR3, hR4⟩ := hR
  subst hR2; subst hR3
  refine va_newq hx hbb hown (hts _ hcl) ho hK.1 hP hD hS hA hx0 hN hby hcc hss hd (fun q cA H1 hK1 hP1 hD1 hS1 => ?_)
  have hcA : cA = tc 2 := by
    have h1 := (hK1.2 4 (cA, .object "SpanLinker$SourceModule") rfl).2
    have h2 := (hK.1.2 2 (tc 2, .object "SpanLinker$SourceModule") rfl).2
    obtain ⟨-, -, -, -, -, h1⟩ := h1
    obtain ⟨-, -, -, -, -, h2⟩ := h2
    exact Option.some.inj (h1.symm.trans h2)
  subst hcA
  exact am_grow (q := q) (pc' := pc + 3) (e := .inl (2, N, .inr (fun _ => none))) hso F X hP1 hD1 hS1 hl hret kk
theorem i_aast {b N y ci : Nat} {g : Nat → Option Nat} {i : Int32} {T : u_T} {NN : Nat} {fs : List am_V} (hd : decode M.2.2.1 pc = .ok (.aastore, 1)) (hb : b < n) (ho : h b = .inl (2, N, .inr g)) (hy : y < n) (hoy : h y = .inr (ci, fs)) (hc : classes[ci]? = some ("SpanLinker$SourceModule", T, NN)) (hi : vp_in i N) (kk : am_AW M d mc ms SC Q (pc + 1) L rest n (va_up h b (.inl (2, N, .inr (va_up g i.toNatClampNeg (some y))))) uc us) : am_AW M d mc ms SC Q pc L (vR y :: vI i :: vR b :: rest) n h uc us := by
  intro p l e R s m args below meth c D tc A Qm ad H locs ls F X hP hD hS hl hret
  have F2 := F
  obtain ⟨⟨hx, hbb, hml, hown, hts⟩, -, -, -, hR, hK, hA⟩ := F2
  refine va_astq (r := ("SpanLinker$SourceModule", T, NN)) hx hbb hK.1 hP hD hS b 2 y ci (am_get hb ho) rfl (am_get hy hoy) hc hi hd (fun H1 locs1 hP1 hD1 hS1 => ?_)
  have e1 : (am_ws tc ad n h).set b (ad b, .inl (tc 2, N, .inr (.inr (.inr (.inr (va_up (fun j => (g j).map ad) i.toNatClampNeg (some (ad y)))))))) = am_ws tc ad n (va_up h b (.inl (2, N, .inr (va_up g i.toNatClampNeg (some y))))) := by
    rw [← am_set _ hb]
    congr 2
    show (Sum.inl (tc 2, N, .inr (.inr (.inr (.inr (va_up (fun j => (g j).map ad) i.toNatClampNeg (some (ad y))))))) : va_E) = Sum.inl (tc 2, N, .inr (.inr (.inr (.inr (fun j => (va_up g i.toNatClampNeg (some y) j).map ad)))))
    have : va_up (fun j => (g j).map ad) i.toNatClampNeg (some (ad y)) = fun j => (va_up g i.toNatClampNeg (some y) j).map ad := funext fun j => by
      by_cases hj : j = i.toNatClampNeg
      · subst hj; rw [va_up_self, va_up_self]; rfl
      · rw [va_up_ne _ _ hj, va_up_ne _ _ hj]
    rw [this]
  rw [e1] at hP1 hD1
  exact kk p l e R s m args below meth c D tc A Qm ad H1 locs1 ls F X hP1 hD1 hS1 hl hret
theorem i_obj {index b : Nat} (hd : decode M.2.2.1 pc = .ok (.invokespecial index, 3)) (h1 : Cond.methodLink M.1 index Lib.objectInit ∈ am_all) (h2 : Cond.instanceMethod Lib.objectInit ∈ am_all) (h3 : Cond.code Lib.objectInit ⟨#[0xb1]⟩ 1 none ∈ am_all) (hdd : 1 ≤ d) (hrs : rest.length ≤ 8) (kk : am_AW M d mc ms SC Q (pc + 3) L rest n h uc us) : am_AW M d mc ms SC Q pc L (vR b :: rest) n h uc us := by
  intro p l e R s m args below meth c D tc A Qm ad H locs ls F X hP hD hS hl hret
  have F2 := F
  obtain ⟨⟨hx, hbb, hml, hown, hts⟩, -, -, -, hR, hK, hA⟩ := F2
  obtain ⟨hR1, hR2, hR3, hR4⟩ := hR
  subst hR2; subst hR3
  exact W.objInit (a := ad b) (rest := rest.map (am_cv ad)) hx hbb hown (hts _ h1) (hts _ h2) (hts _ h3) rfl (by rw [hml]; exact hl.1) rfl hd (by omega) (by rw [am_cats]; show 2 * 0 + rest.length + 12 ≤ R.locals; omega) (kk p l e _ s m args below meth c D tc A Qm ad H locs ls F X hP hD hS hl hret)
theorem i_aald3 {b N y : Nat} {g : Nat → Option Nat} {i : Int32} (hd : decode M.2.2.1 pc = .ok (.aaload, 1)) (hb : b < n) (ho : h b = .inl (3, N, .inr g)) (hi : vp_in i N) (hy : g i.toNatClampNeg = some y) (kk : am_AW M d mc ms SC Q (pc + 1) L (vR y :: rest) n h uc us) : am_AW M d mc ms SC Q pc L (vI i :: vR b :: rest) n h uc us := by
  intro p l e R s m args below meth c D tc A Qm ad H locs ls F X hP hD hS hl hret
  have hlt : i.toNatClampNeg < N := Nat.not_le.mp fun q => hi (Or.inr q)
  refine W.aald (v := va_rf ((g i.toNatClampNeg).map ad)) (ty := .array .int) F.1.1 F.1.2.1 (hP b _ (am_get hb ho)) ((F.2.2.2.2.2.1.1.2 3 (tc 3, .array .int) rfl).1 N (fun j => va_rf ((g j).map ad))) rfl (fun q => by cases q) (by show ¬ (i < 0 ∨ (arrV _ _ _).slots.size ≤ _); rw [arrV_size]; exact hi) (by show (arrV _ _ _).slots[_]? = _; rw [arrV_read _ _ hlt]) rfl rfl hd ?_
  rw [hy]
  exact kk p l e R s m args below meth c D tc A Qm ad H locs ls F X hP hD hS hl hret
theorem i_mmax {index : Nat} {x y : Int32} (hd : decode M.2.2.1 pc = .ok (.invokestatic index, 3)) (h1 : Cond.methodLink M.1 index Lib.Math.max.name ∈ am_all) (h2 : Cond.static Lib.Math.max.name ∈ am_all) (h3 : Cond.initialized "java/lang/Math" ∈ am_all) (h4 : Cond.code Lib.Math.max.name Lib.Math.max.code 2 (some .int) ∈ am_all) (hf : 1 ≤ d) (hr : rest.length ≤ 8) (hc : uc ≤ mc) (hs : us ≤ ms) (kk : am_AW M d mc ms SC Q (pc + 3) L (vI (if x < y then y else x) :: rest) n h uc us) : am_AW M d mc ms SC Q pc L (vI y :: vI x :: rest) n h uc us := by
  intro p l e R s m args below meth c D tc A Qm ad H locs ls F X hP hD hS hl hret
  have F2 := F
  obtain ⟨⟨hx, hbb, hml, hown, hts⟩, -, -, -, hR, hK, hA⟩ := F2
  obtain ⟨hR1, hR2, hR3, hR4⟩ := hR
  subst hR2; subst hR3
  exact va_mmax hx hbb (hml.trans hl.1.symm) hown (hts _ h1) (hts _ h2) (hts _ h3) (hts _ h4) (by omega) (by rw [am_cats]; show rest.length + 13 ≤ R.locals; omega) hc hs hd (kk p l e _ s m args below meth c D tc A Qm ad H locs ls F X hP hD hS hl hret)
end AL
theorem am_fitz (x : Int32) : fits .boolean (.int (x &&& 1)) = true := by
  obtain ⟨j, hj, e⟩ := pk_andE x (m := 1) 1 (by decide)
  rw [e]
  rcases (show j = 0 ∨ j = 1 by omega) with rfl | rfl <;> decide
end
section
-- printed by wip/whole/gen/gen_pg.py: what a method answers, as a function of its arguments and of the table of ints
abbrev pR : Type := Option (Option am_V × fm_I)
abbrev ri (x : Int32) (I : fm_I) : pR := some (some (vI x), I)
abbrev rv (I : fm_I) : pR := some (none, I)
def bi (r : pR) (k : Int32 → fm_I → pR) : pR := match r with
  | some (some (.inl x), I) => k x I
  | _ => none
def bv (r : pR) (k : fm_I → pR) : pR := match r with
  | some (none, I) => k I
  | _ => none
def bn (x : Int32) (k : Int32 → pR) : pR := k x
def rz (x : Int32) (I : fm_I) : pR := if x &&& 1 = x then ri x I else none
def sh_o (ci b : Nat) : Bool := match fm_sh b with
  | .inr (.inr (c, _)) => decide (c = ci) && decide (b < fm_N)
  | _ => false
def sh_i (ci b k : Nat) : Bool := match fm_sh b with
  | .inr (.inr (c, fs)) => decide (c = ci) && decide (b < fm_N) && decide (fs[k]? = some none)
  | _ => false
def sh_r (ci b k : Nat) : Option Nat := match fm_sh b with
  | .inr (.inr (c, fs)) => if c = ci ∧ b < fm_N then (fs[k]?).join else none
  | _ => none
def sh_n (t b : Nat) : Option Nat := match fm_sh b with
  | .inl (u, N) => if u = t ∧ b < fm_N ∧ N < 2147483648 then some N else none
  | _ => none
def sh_a (t b j : Nat) : Option Nat := match fm_sh b with
  | .inr (.inl (u, N, g)) => if u = t ∧ b < fm_N ∧ N < 2147483648 ∧ j < N then g j else none
  | _ => none
def gi (ci b k : Nat) (I : fm_I) (kk : Int32 → pR) : pR := if sh_i ci b k = true then kk (I b k) else none
def gr (ci b k : Nat) (kk : Nat → pR) : pR := match sh_r ci b k with
  | some q => kk q
  | none => none
def pI (ci b k : Nat) (x : Int32) (I : fm_I) (kk : fm_I → pR) : pR := if sh_i ci b k = true then kk (fm_up I b k x) else none
def pZ (ci b k : Nat) (x : Int32) (I : fm_I) (kk : fm_I → pR) : pR := if sh_i ci b k = true ∧ x &&& 1 = x then kk (fm_up I b k x) else none
def ld (t b : Nat) (i : Int32) (I : fm_I) (kk : Int32 → pR) : pR := match sh_n t b with
  | some N => if i < 0 ∨ N ≤ i.toNatClampNeg then none else kk (I b i.toNatClampNeg)
  | none => none
def sI (b : Nat) (i x : Int32) (I : fm_I) (kk : fm_I → pR) : pR := match sh_n 0 b with
  | some N => if i < 0 ∨ N ≤ i.toNatClampNeg then none else kk (fm_up I b i.toNatClampNeg x)
  | none => none
def sZ (b : Nat) (i x : Int32) (I : fm_I) (kk : fm_I → pR) : pR := match sh_n 1 b with
  | some N => if i < 0 ∨ N ≤ i.toNatClampNeg then none else kk (fm_up I b i.toNatClampNeg (vp_nar .boolean x))
  | none => none
def la (t b : Nat) (i : Int32) (kk : Nat → pR) : pR := if i < 0 then none else match sh_a t b i.toNatClampNeg with
  | some q => kk q
  | none => none
def ln (b : Nat) (kk : Int32 → pR) : pR := match sh_n 0 b with
  | some N => kk (Int32.ofNat N)
  | none => none
def vi (ci b : Nat) (f : pR) (kk : Int32 → fm_I → pR) : pR := if sh_o ci b = true then bi f kk else none
def vv (ci b : Nat) (f : pR) (kk : fm_I → pR) : pR := if sh_o ci b = true then bv f kk else none
def sl (S : Nat × (Nat → Int32)) (i : Int32) (kk : Int32 → pR) : pR := if i < 0 ∨ S.1 ≤ i.toNatClampNeg then none else kk (S.2 i.toNatClampNeg)
def FU : Nat := 4096
-- what is looked up of the tables, for a place in the constant pool
def fk (own : String) (index ci k : Nat) : Prop := ∃ (Cn : String) (T : u_T) (N : Nat), classes[ci]? = some (Cn, T, N) ∧ (∀ w ∈ u_ws Cn T N, w ∈ am_all) ∧ k < N ∧ Cond.fieldLink own index (T k).1 (T k).2.1 (T k).2.2.1 ∈ am_all
def fp (own : String) (index ci k : Nat) (ty : FieldType) : Prop := ∃ (Cn : String) (T : u_T) (N : Nat) (ty0 : Nat → FieldType), classes[ci]? = some (Cn, T, N) ∧ (∀ w ∈ u_ws Cn T N, w ∈ am_all) ∧ k < N ∧ Cond.fieldLink own index (T k).1 (T k).2.1 (T k).2.2.1 ∈ am_all ∧ (∀ k, k < N → parseFieldDescriptor (T k).2.2.1 = some (ty0 k)) ∧ (∀ a, a < N → ∀ b, b < N → a ≠ b → (T a).2.1 ≠ (T b).2.1) ∧ (T k).2.2.2 = false ∧ parseFieldDescriptor (T k).2.2.1 = some ty
def ckV (own : String) (index ci na : Nat) (M' : am_M) : Prop := Cond.code M'.2.1 M'.2.2.1 M'.2.2.2.1 M'.2.2.2.2 ∈ am_all ∧ (∀ w ∈ ([.methodLink own index M'.2.1, .instanceMethod M'.2.1, .selects M'.2.1.cls M'.2.1 M'.2.1, .initialized M'.2.1.cls] : List Cond), w ∈ am_all) ∧ (M'.2.1.cls ≠ "java/lang/invoke/MethodHandle" ∧ M'.2.1.cls ≠ "java/lang/invoke/VarHandle" ∧ (parseMethodDescriptor M'.2.1.desc).map (fun d => d.parameters.length) = some na) ∧ M'.2.2.2.1 ≤ 21 ∧ ∃ (T : u_T) (N : Nat), classes[ci]? = some (M'.2.1.cls, T, N)
def ckS (own : String) (index na : Nat) (M' : am_M) : Prop := Cond.code M'.2.1 M'.2.2.1 M'.2.2.2.1 M'.2.2.2.2 ∈ am_all ∧ (∀ w ∈ ([.methodLink own index M'.2.1, .static M'.2.1, .initialized own] : List Cond), w ∈ am_all) ∧ (M'.2.1.cls = own ∧ M'.2.1.cls ≠ "java/lang/invoke/MethodHandle" ∧ M'.2.1.cls ≠ "java/lang/invoke/VarHandle" ∧ (parseMethodDescriptor M'.2.1.desc).map (fun d => d.parameters.length) = some na) ∧ M'.2.2.2.1 ≤ 21
def ckN (own : String) (index na : Nat) (M' : am_M) : Prop := Cond.code M'.2.1 M'.2.2.1 M'.2.2.2.1 M'.2.2.2.2 ∈ am_all ∧ (∃ host, Cond.methodLinkNest own index M'.2.1 host ∈ am_nest) ∧ Cond.initialized M'.2.1.cls ∈ am_all ∧ Cond.static M'.2.1 ∈ am_all ∧ (M'.2.1.cls ≠ "java/lang/invoke/MethodHandle" ∧ M'.2.1.cls ≠ "java/lang/invoke/VarHandle" ∧ (parseMethodDescriptor M'.2.1.desc).map (fun d => d.parameters.length) = some na) ∧ M'.2.2.2.1 ≤ 21
-- method, depth, cells, slots, script, cells and slots so far
abbrev gC : Type := am_M × Nat × Nat × Nat × Option (Nat × (Nat → Int32)) × Nat × Nat
def gW (C : gC) (r : pR) (pc : Nat) (L : Nat → Option am_V) (st : List am_V) (I : fm_I) : Prop := ∀ (Q : Option am_V → fm_I → Prop) (v : Option am_V) (J : fm_I), r = some (v, J) → Q v J → am_AW C.1 C.2.1 C.2.2.1 C.2.2.2.1 C.2.2.2.2.1 (fm_Q Q) pc L st fm_N (fm_hp I) C.2.2.2.2.2.1 C.2.2.2.2.2.2
def gM (M : am_M) (d : Nat) (r : pR) (av : List am_V) (I : fm_I) : Prop := ∀ (v : Option am_V) (J : fm_I), r = some (v, J) → fM M d av I (fun w K => w = v ∧ K = J)
theorem gM_of {M : am_M} {d : Nat} {r : pR} {av : List am_V} {I : fm_I} (hy : plainName M.2.1.cls = true) (how : M.1 = M.2.1.cls) (hlen : av.length ≤ M.2.2.2.1) (hw : gW (M, d, 0, 0, none, 0, 0) r 0 (fun i => av[i]?) [] I) : gM M d r av I := fun v J e => f_met hy how hlen (hw _ v J e ⟨rfl, rfl⟩)
theorem bi_some {f : pR} {kk : Int32 → fm_I → pR} {v : Option am_V} {J : fm_I} (e : bi f kk = some (v, J)) : ∃ x K, f = some (some (vI x), K) ∧ kk x K = some (v, J) := by
  unfold bi at e
  split at e
  · exact ⟨_, _, rfl, e⟩
  · cases e
theorem bv_some {f : pR} {kk : fm_I → pR} {v : Option am_V} {J : fm_I} (e : bv f kk = some (v, J)) : ∃ K, f = some (none, K) ∧ kk K = some (v, J) := by
  unfold bv at e
  split at e
  · exact ⟨_, rfl, e⟩
  · cases e
theorem sh_o_some {ci b : Nat} (h : sh_o ci b = true) : b < fm_N ∧ ∃ fs, fm_sh b = .inr (.inr (ci, fs)) := by
  unfold sh_o at h
  split at h
  · rename_i c fs e
    simp only [Bool.and_eq_true, decide_eq_true_eq] at h
    obtain ⟨rfl, h2⟩ := h
    exact ⟨h2, fs, e⟩
  · cases h
theorem sh_i_some {ci b k : Nat} (h : sh_i ci b k = true) : b < fm_N ∧ ∃ fs, fm_sh b = .inr (.inr (ci, fs)) ∧ fs[k]? = some none := by
  unfold sh_i at h
  split at h
  · rename_i c fs e
    simp only [Bool.and_eq_true, decide_eq_true_eq] at h
    obtain ⟨⟨rfl, h2⟩, h3⟩ := h
    exact ⟨h2, fs, e, h3⟩
  · cases h
theorem sh_r_some {ci b k q : Nat} (h : sh_r ci b k = some q) : b < fm_N ∧ ∃ fs, fm_sh b = .inr (.inr (ci, fs)) ∧ fs[k]? = some (some q) := by
  unfold sh_r at h
  split at h
  · rename_i c fs e
    split at h
    · rename_i h1
      obtain ⟨rfl, h2⟩ := h1
      refine ⟨h2, fs, e, ?_⟩
      cases hf : fs[k]? with
      | none => rw [hf] at h; cases h
      | some o => rw [hf] at h; exact congrArg some h
    · cases h
  · cases h
theorem sh_n_some {t b N : Nat} (h : sh_n t b = some N) : b < fm_N ∧ N < 2147483648 ∧ fm_sh b = .inl (t, N) := by
  unfold sh_n at h
  split at h
  · rename_i u N' e
    split at h
    · rename_i h1
      obtain ⟨rfl, h2, h3⟩ := h1
      cases h
      exact ⟨h2, h3, e⟩
    · cases h
  · cases h
theorem sh_a_some {t b j q : Nat} (h : sh_a t b j = some q) : b < fm_N ∧ ∃ N g, N < 2147483648 ∧ j < N ∧ fm_sh b = .inr (.inl (t, N, g)) ∧ g j = some q := by
  unfold sh_a at h
  split at h
  · rename_i u N g e
    split at h
    · rename_i h1
      obtain ⟨rfl, h2, h3, h4⟩ := h1
      exact ⟨h2, N, g, h3, h4, e, h⟩
    · cases h
  · cases h
theorem am_ni {x c : Int32} {z : Int} (h : ¬ x = c) (e : c.toInt = z) : x.toInt ≠ z := fun q => h (Int32.toInt_inj.mp (q.trans e.symm))
section PG
variable {C : gC} {r : pR} {pc : Nat} {L : Nat → Option am_V} {rest st As : List am_V} {I : fm_I}
theorem g_none : gW C none pc L st I := fun _ _ _ e => by cases e
theorem g_bn {x : Int32} {kk : Int32 → pR} (k : ∀ y, gW C (kk y) pc L (vI y :: rest) I) : gW C (bn x kk) pc L (vI x :: rest) I := k x
theorem g_iconst {z : Int} {x : Int32} (hd : decode C.1.2.2.1 pc = .ok (.iconst z, 1)) (hv : Int32.ofInt z = x) (kk : gW C r (pc + 1) L (vI x :: rest) I) : gW C r pc L rest I := fun Q v J e q => i_iconst hd hv (kk Q v J e q)
theorem g_bipush {z : Int} {x : Int32} (hd : decode C.1.2.2.1 pc = .ok (.bipush z, 2)) (hv : (Int8.ofInt z).toInt32 = x) (kk : gW C r (pc + 2) L (vI x :: rest) I) : gW C r pc L rest I := fun Q v J e q => i_bipush hd hv (kk Q v J e q)
theorem g_sipush {z : Int} {x : Int32} (hd : decode C.1.2.2.1 pc = .ok (.sipush z, 3)) (hv : (Int16.ofInt z).toInt32 = x) (kk : gW C r (pc + 3) L (vI x :: rest) I) : gW C r pc L rest I := fun Q v J e q => i_sipush hd hv (kk Q v J e q)
theorem g_ldc {index : Nat} {x : Int32} (hd : decode C.1.2.2.1 pc = .ok (.ldc index, 2)) (hw : Cond.constant C.1.1 index x ∈ am_all) (kk : gW C r (pc + 2) L (vI x :: rest) I) : gW C r pc L rest I := fun Q v J e q => i_ldc hd hw (kk Q v J e q)
theorem g_iload_n {k : Fin 4} {i : Nat} {x : Int32} (hd : decode C.1.2.2.1 pc = .ok (.iload_n k, 1)) (hi : (k : Nat) = i) (hL : L i = some (vI x)) (kk : gW C r (pc + 1) L (vI x :: rest) I) : gW C r pc L rest I := fun Q v J e q => i_iload_n hd hi hL (kk Q v J e q)
theorem g_iload {i : Nat} {x : Int32} (hd : decode C.1.2.2.1 pc = .ok (.iload i, 2)) (hL : L i = some (vI x)) (kk : gW C r (pc + 2) L (vI x :: rest) I) : gW C r pc L rest I := fun Q v J e q => i_iload hd hL (kk Q v J e q)
theorem g_istore_n {k : Fin 4} {i : Nat} {x : Int32} (hd : decode C.1.2.2.1 pc = .ok (.istore_n k, 1)) (hi : (k : Nat) = i) (hn : i < C.1.2.2.2.1) (kk : gW C r (pc + 1) (va_up L i (some (vI x))) rest I) : gW C r pc L (vI x :: rest) I := fun Q v J e q => i_istore_n hd hi hn (kk Q v J e q)
theorem g_istore {i : Nat} {x : Int32} (hd : decode C.1.2.2.1 pc = .ok (.istore i, 2)) (hn : i < C.1.2.2.2.1) (kk : gW C r (pc + 2) (va_up L i (some (vI x))) rest I) : gW C r pc L (vI x :: rest) I := fun Q v J e q => i_istore hd hn (kk Q v J e q)
theorem g_aload_n {k : Fin 4} {i : Nat} {x : Nat} (hd : decode C.1.2.2.1 pc = .ok (.aload_n k, 1)) (hi : (k : Nat) = i) (hL : L i = some (vR x)) (kk : gW C r (pc + 1) L (vR x :: rest) I) : gW C r pc L rest I := fun Q v J e q => i_aload_n hd hi hL (kk Q v J e q)
theorem g_aload {i : Nat} {x : Nat} (hd : decode C.1.2.2.1 pc = .ok (.aload i, 2)) (hL : L i = some (vR x)) (kk : gW C r (pc + 2) L (vR x :: rest) I) : gW C r pc L rest I := fun Q v J e q => i_aload hd hL (kk Q v J e q)
theorem g_astore_n {k : Fin 4} {i : Nat} {x : Nat} (hd : decode C.1.2.2.1 pc = .ok (.astore_n k, 1)) (hi : (k : Nat) = i) (hn : i < C.1.2.2.2.1) (kk : gW C r (pc + 1) (va_up L i (some (vR x))) rest I) : gW C r pc L (vR x :: rest) I := fun Q v J e q => i_astore_n hd hi hn (kk Q v J e q)
theorem g_astore {i : Nat} {x : Nat} (hd : decode C.1.2.2.1 pc = .ok (.astore i, 2)) (hn : i < C.1.2.2.2.1) (kk : gW C r (pc + 2) (va_up L i (some (vR x))) rest I) : gW C r pc L (vR x :: rest) I := fun Q v J e q => i_astore hd hn (kk Q v J e q)
theorem g_iinc {i : Nat} {z : Int} {x w : Int32} (hd : decode C.1.2.2.1 pc = .ok (.iinc i z, 3)) (hL : L i = some (vI x)) (hw : Int32.ofInt z = w) (hn : i < C.1.2.2.2.1) (kk : gW C r (pc + 3) (va_up L i (some (vI (x + w)))) rest I) : gW C r pc L rest I := fun Q v J e q => i_iinc hd hL hw rfl hn (kk Q v J e q)
theorem g_iadd {x y : Int32} (hd : decode C.1.2.2.1 pc = .ok (.iadd, 1)) (kk : gW C r (pc + 1) L (vI (x + y) :: rest) I) : gW C r pc L (vI y :: vI x :: rest) I := fun Q v J e q => i_iadd hd rfl (kk Q v J e q)
theorem g_isub {x y : Int32} (hd : decode C.1.2.2.1 pc = .ok (.isub, 1)) (kk : gW C r (pc + 1) L (vI (x - y) :: rest) I) : gW C r pc L (vI y :: vI x :: rest) I := fun Q v J e q => i_isub hd rfl (kk Q v J e q)
theorem g_imul {x y : Int32} (hd : decode C.1.2.2.1 pc = .ok (.imul, 1)) (kk : gW C r (pc + 1) L (vI (x * y) :: rest) I) : gW C r pc L (vI y :: vI x :: rest) I := fun Q v J e q => i_imul hd rfl (kk Q v J e q)
theorem g_iand {x y : Int32} (hd : decode C.1.2.2.1 pc = .ok (.iand, 1)) (kk : gW C r (pc + 1) L (vI (x &&& y) :: rest) I) : gW C r pc L (vI y :: vI x :: rest) I := fun Q v J e q => i_iand hd rfl (kk Q v J e q)
theorem g_ior {x y : Int32} (hd : decode C.1.2.2.1 pc = .ok (.ior, 1)) (kk : gW C r (pc + 1) L (vI (x ||| y) :: rest) I) : gW C r pc L (vI y :: vI x :: rest) I := fun Q v J e q => i_ior hd rfl (kk Q v J e q)
theorem g_ixor {x y : Int32} (hd : decode C.1.2.2.1 pc = .ok (.ixor, 1)) (kk : gW C r (pc + 1) L (vI (x ^^^ y) :: rest) I) : gW C r pc L (vI y :: vI x :: rest) I := fun Q v J e q => i_ixor hd rfl (kk Q v J e q)
theorem g_ishl {x y : Int32} (hd : decode C.1.2.2.1 pc = .ok (.ishl, 1)) (kk : gW C r (pc + 1) L (vI (x <<< (y &&& 31)) :: rest) I) : gW C r pc L (vI y :: vI x :: rest) I := fun Q v J e q => i_ishl hd rfl (kk Q v J e q)
theorem g_ishr {x y : Int32} (hd : decode C.1.2.2.1 pc = .ok (.ishr, 1)) (kk : gW C r (pc + 1) L (vI (x >>> (y &&& 31)) :: rest) I) : gW C r pc L (vI y :: vI x :: rest) I := fun Q v J e q => i_ishr hd rfl (kk Q v J e q)
theorem g_iushr {x y : Int32} (hd : decode C.1.2.2.1 pc = .ok (.iushr, 1)) (kk : gW C r (pc + 1) L (vI ((x.toUInt32 >>> (y.toUInt32 &&& Int32.toUInt32 31)).toInt32) :: rest) I) : gW C r pc L (vI y :: vI x :: rest) I := fun Q v J e q => i_iushr hd rfl (kk Q v J e q)
theorem g_idiv {x y : Int32} (hd : decode C.1.2.2.1 pc = .ok (.idiv, 1)) (hne : ¬ y = 0) (kk : gW C r (pc + 1) L (vI (x / y) :: rest) I) : gW C r pc L (vI y :: vI x :: rest) I := fun Q v J e q => i_idiv hd hne rfl (kk Q v J e q)
theorem g_irem {x y : Int32} (hd : decode C.1.2.2.1 pc = .ok (.irem, 1)) (hne : ¬ y = 0) (kk : gW C r (pc + 1) L (vI (x - x / y * y) :: rest) I) : gW C r pc L (vI y :: vI x :: rest) I := fun Q v J e q => i_irem hd hne rfl (kk Q v J e q)
theorem g_ineg {x : Int32} (hd : decode C.1.2.2.1 pc = .ok (.ineg, 1)) (kk : gW C r (pc + 1) L (vI (-x) :: rest) I) : gW C r pc L (vI x :: rest) I := fun Q v J e q => i_ineg hd rfl (kk Q v J e q)
theorem g_dup {a : am_V} (hd : decode C.1.2.2.1 pc = .ok (.dup, 1)) (kk : gW C r (pc + 1) L (a :: a :: rest) I) : gW C r pc L (a :: rest) I := fun Q v J e q => i_dup hd (kk Q v J e q)
theorem g_pop {a : am_V} (hd : decode C.1.2.2.1 pc = .ok (.pop, 1)) (kk : gW C r (pc + 1) L rest I) : gW C r pc L (a :: rest) I := fun Q v J e q => i_pop hd (kk Q v J e q)
theorem g_dup_x1 {a b : am_V} (hd : decode C.1.2.2.1 pc = .ok (.dup_x1, 1)) (kk : gW C r (pc + 1) L (a :: b :: a :: rest) I) : gW C r pc L (a :: b :: rest) I := fun Q v J e q => i_dup_x1 hd (kk Q v J e q)
theorem g_dup2 {a b : am_V} (hd : decode C.1.2.2.1 pc = .ok (.dup2, 1)) (kk : gW C r (pc + 1) L (a :: b :: a :: b :: rest) I) : gW C r pc L (a :: b :: rest) I := fun Q v J e q => i_dup2 hd (kk Q v J e q)
theorem g_goto {off : Int} {tgt : Nat} (hd : decode C.1.2.2.1 pc = .ok (.goto off, 3)) (ht : (pc : Int) + off = (tgt : Int)) (kk : gW C r tgt L rest I) : gW C r pc L rest I := fun Q v J e q => i_goto hd ht (kk Q v J e q)
theorem g_ifeq {x : Int32} {off : Int} {tgt : Nat} {a b : pR} (hd : decode C.1.2.2.1 pc = .ok (.ifCond .eq off, 3)) (ht : (pc : Int) + off = (tgt : Int)) (kt : gW C a tgt L rest I) (kf : gW C b (pc + 3) L rest I) : gW C (if x = 0 then a else b) pc L (vI x :: rest) I := fun Q v J e q => i_ifeq hd ht (fun c => kt Q v J (by rw [if_pos c] at e; exact e) q) (fun c => kf Q v J (by rw [if_neg c] at e; exact e) q)
theorem g_icmpeq {x y : Int32} {off : Int} {tgt : Nat} {a b : pR} (hd : decode C.1.2.2.1 pc = .ok (.if_icmp .eq off, 3)) (ht : (pc : Int) + off = (tgt : Int)) (kt : gW C a tgt L rest I) (kf : gW C b (pc + 3) L rest I) : gW C (if x = y then a else b) pc L (vI y :: vI x :: rest) I := fun Q v J e q => i_icmpeq hd ht (fun c => kt Q v J (by rw [if_pos c] at e; exact e) q) (fun c => kf Q v J (by rw [if_neg c] at e; exact e) q)
theorem g_ifne {x : Int32} {off : Int} {tgt : Nat} {a b : pR} (hd : decode C.1.2.2.1 pc = .ok (.ifCond .ne off, 3)) (ht : (pc : Int) + off = (tgt : Int)) (kt : gW C a tgt L rest I) (kf : gW C b (pc + 3) L rest I) : gW C (if x = 0 then b else a) pc L (vI x :: rest) I := fun Q v J e q => i_ifne hd ht (fun c => kt Q v J (by rw [if_neg c] at e; exact e) q) (fun c => kf Q v J (by rw [if_pos c] at e; exact e) q)
theorem g_icmpne {x y : Int32} {off : Int} {tgt : Nat} {a b : pR} (hd : decode C.1.2.2.1 pc = .ok (.if_icmp .ne off, 3)) (ht : (pc : Int) + off = (tgt : Int)) (kt : gW C a tgt L rest I) (kf : gW C b (pc + 3) L rest I) : gW C (if x = y then b else a) pc L (vI y :: vI x :: rest) I := fun Q v J e q => i_icmpne hd ht (fun c => kt Q v J (by rw [if_neg c] at e; exact e) q) (fun c => kf Q v J (by rw [if_pos c] at e; exact e) q)
theorem g_iflt {x : Int32} {off : Int} {tgt : Nat} {a b : pR} (hd : decode C.1.2.2.1 pc = .ok (.ifCond .lt off, 3)) (ht : (pc : Int) + off = (tgt : Int)) (kt : gW C a tgt L rest I) (kf : gW C b (pc + 3) L rest I) : gW C (if x < 0 then a else b) pc L (vI x :: rest) I := fun Q v J e q => i_iflt hd ht (fun c => kt Q v J (by rw [if_pos c] at e; exact e) q) (fun c => kf Q v J (by rw [if_neg c] at e; exact e) q)
theorem g_icmplt {x y : Int32} {off : Int} {tgt : Nat} {a b : pR} (hd : decode C.1.2.2.1 pc = .ok (.if_icmp .lt off, 3)) (ht : (pc : Int) + off = (tgt : Int)) (kt : gW C a tgt L rest I) (kf : gW C b (pc + 3) L rest I) : gW C (if x < y then a else b) pc L (vI y :: vI x :: rest) I := fun Q v J e q => i_icmplt hd ht (fun c => kt Q v J (by rw [if_pos c] at e; exact e) q) (fun c => kf Q v J (by rw [if_neg c] at e; exact e) q)
theorem g_ifge {x : Int32} {off : Int} {tgt : Nat} {a b : pR} (hd : decode C.1.2.2.1 pc = .ok (.ifCond .ge off, 3)) (ht : (pc : Int) + off = (tgt : Int)) (kt : gW C a tgt L rest I) (kf : gW C b (pc + 3) L rest I) : gW C (if 0 ≤ x then a else b) pc L (vI x :: rest) I := fun Q v J e q => i_ifge hd ht (fun c => kt Q v J (by rw [if_pos c] at e; exact e) q) (fun c => kf Q v J (by rw [if_neg c] at e; exact e) q)
theorem g_icmpge {x y : Int32} {off : Int} {tgt : Nat} {a b : pR} (hd : decode C.1.2.2.1 pc = .ok (.if_icmp .ge off, 3)) (ht : (pc : Int) + off = (tgt : Int)) (kt : gW C a tgt L rest I) (kf : gW C b (pc + 3) L rest I) : gW C (if y ≤ x then a else b) pc L (vI y :: vI x :: rest) I := fun Q v J e q => i_icmpge hd ht (fun c => kt Q v J (by rw [if_pos c] at e; exact e) q) (fun c => kf Q v J (by rw [if_neg c] at e; exact e) q)
theorem g_ifgt {x : Int32} {off : Int} {tgt : Nat} {a b : pR} (hd : decode C.1.2.2.1 pc = .ok (.ifCond .gt off, 3)) (ht : (pc : Int) + off = (tgt : Int)) (kt : gW C a tgt L rest I) (kf : gW C b (pc + 3) L rest I) : gW C (if 0 < x then a else b) pc L (vI x :: rest) I := fun Q v J e q => i_ifgt hd ht (fun c => kt Q v J (by rw [if_pos c] at e; exact e) q) (fun c => kf Q v J (by rw [if_neg c] at e; exact e) q)
theorem g_icmpgt {x y : Int32} {off : Int} {tgt : Nat} {a b : pR} (hd : decode C.1.2.2.1 pc = .ok (.if_icmp .gt off, 3)) (ht : (pc : Int) + off = (tgt : Int)) (kt : gW C a tgt L rest I) (kf : gW C b (pc + 3) L rest I) : gW C (if y < x then a else b) pc L (vI y :: vI x :: rest) I := fun Q v J e q => i_icmpgt hd ht (fun c => kt Q v J (by rw [if_pos c] at e; exact e) q) (fun c => kf Q v J (by rw [if_neg c] at e; exact e) q)
theorem g_ifle {x : Int32} {off : Int} {tgt : Nat} {a b : pR} (hd : decode C.1.2.2.1 pc = .ok (.ifCond .le off, 3)) (ht : (pc : Int) + off = (tgt : Int)) (kt : gW C a tgt L rest I) (kf : gW C b (pc + 3) L rest I) : gW C (if x ≤ 0 then a else b) pc L (vI x :: rest) I := fun Q v J e q => i_ifle hd ht (fun c => kt Q v J (by rw [if_pos c] at e; exact e) q) (fun c => kf Q v J (by rw [if_neg c] at e; exact e) q)
theorem g_icmple {x y : Int32} {off : Int} {tgt : Nat} {a b : pR} (hd : decode C.1.2.2.1 pc = .ok (.if_icmp .le off, 3)) (ht : (pc : Int) + off = (tgt : Int)) (kt : gW C a tgt L rest I) (kf : gW C b (pc + 3) L rest I) : gW C (if x ≤ y then a else b) pc L (vI y :: vI x :: rest) I := fun Q v J e q => i_icmple hd ht (fun c => kt Q v J (by rw [if_pos c] at e; exact e) q) (fun c => kf Q v J (by rw [if_neg c] at e; exact e) q)
theorem g_sw {x c : Int32} {a b : pR} (k1 : x = c → gW C a pc L (vI x :: rest) I) (k2 : ¬ x = c → gW C b pc L (vI x :: rest) I) : gW C (if x = c then a else b) pc L (vI x :: rest) I := by
  by_cases h : x = c
  · rw [if_pos h]; exact k1 h
  · rw [if_neg h]; exact k2 h
theorem g_tin {dflt lo hi : Int} {offs : Array Int} {len : Nat} {x c : Int32} {off : Int} {tgt : Nat} (hx : x = c) (hd : decode C.1.2.2.1 pc = .ok (.tableswitch dflt lo hi offs, len)) (h1 : ¬ c.toInt < lo) (h2 : ¬ hi < c.toInt) (ho : offs[(c.toInt - lo).toNat]? = some off) (ht : (pc : Int) + off = (tgt : Int)) (kk : gW C r tgt L rest I) : gW C r pc L (vI x :: rest) I := by
  subst hx
  exact fun Q v J e q => i_tableIn hd h1 h2 ho ht (kk Q v J e q)
theorem g_tout {dflt lo hi : Int} {offs : Array Int} {len : Nat} {x : Int32} {tgt : Nat} (hd : decode C.1.2.2.1 pc = .ok (.tableswitch dflt lo hi offs, len)) (hx : x.toInt < lo ∨ hi < x.toInt) (ht : (pc : Int) + dflt = (tgt : Int)) (kk : gW C r tgt L rest I) : gW C r pc L (vI x :: rest) I := fun Q v J e q => i_tableOut hd hx ht (kk Q v J e q)
theorem g_iret {x : Int32} (hd : decode C.1.2.2.1 pc = .ok (.ireturn, 1)) (hty : C.1.2.2.2.2 = some .int) (hc : C.2.2.2.2.2.1 ≤ C.2.2.1) (hs : C.2.2.2.2.2.2 ≤ C.2.2.2.1) : gW C (ri x I) pc L [vI x] I := fun Q v J e q => by
  cases e
  exact i_iret hd hty (vp_nar_int x) hc hs ⟨rfl, I, rfl, q⟩
theorem g_zret {x : Int32} (hd : decode C.1.2.2.1 pc = .ok (.ireturn, 1)) (hty : C.1.2.2.2.2 = some .boolean) (hc : C.2.2.2.2.2.1 ≤ C.2.2.1) (hs : C.2.2.2.2.2.2 ≤ C.2.2.2.1) : gW C (rz x I) pc L [vI x] I := fun Q v J e q => by
  unfold rz at e
  split at e
  · rename_i hx
    cases e
    exact i_iret hd hty (congrArg Value.int hx) hc hs ⟨rfl, I, rfl, q⟩
  · cases e
theorem g_ret (hd : decode C.1.2.2.1 pc = .ok (.return_, 1)) (hty : C.1.2.2.2.2 = none) (hc : C.2.2.2.2.2.1 ≤ C.2.2.1) (hs : C.2.2.2.2.2.2 ≤ C.2.2.2.1) : gW C (rv I) pc L [] I := fun Q v J e q => by
  cases e
  exact i_ret hd hty hc hs ⟨rfl, I, rfl, q⟩
theorem g_gi {ci index b k : Nat} {kk : Int32 → pR} (hd : decode C.1.2.2.1 pc = .ok (.getfield index, 3)) (hf : fk C.1.1 index ci k) (h : ∀ x, gW C (kk x) (pc + 3) L (vI x :: rest) I) : gW C (gi ci b k I kk) pc L (vR b :: rest) I := fun Q v J e q => by
  obtain ⟨Cn, T, N, h1, h2, h3, h4⟩ := hf
  unfold gi at e
  split at e
  · rename_i hs
    obtain ⟨hb, fs, hs, hk⟩ := sh_i_some hs
    exact f_geti hd h1 h2 h3 h4 hk hb hs rfl (h _ Q v J e q)
  · cases e
theorem g_gr {ci index b k : Nat} {kk : Nat → pR} (hd : decode C.1.2.2.1 pc = .ok (.getfield index, 3)) (hf : fk C.1.1 index ci k) (h : ∀ x, gW C (kk x) (pc + 3) L (vR x :: rest) I) : gW C (gr ci b k kk) pc L (vR b :: rest) I := fun Q v J e q => by
  obtain ⟨Cn, T, N, h1, h2, h3, h4⟩ := hf
  unfold gr at e
  split at e
  · rename_i y hs
    obtain ⟨hb, fs, hs, hk⟩ := sh_r_some hs
    exact f_getr hd h1 h2 h3 h4 hk hb hs (h _ Q v J e q)
  · cases e
theorem g_pI {ci index b k : Nat} {x : Int32} {kk : fm_I → pR} (hd : decode C.1.2.2.1 pc = .ok (.putfield index, 3)) (hf : fp C.1.1 index ci k .int) (h : ∀ J, gW C (kk J) (pc + 3) L rest J) : gW C (pI ci b k x I kk) pc L (vI x :: vR b :: rest) I := fun Q v J e q => by
  obtain ⟨Cn, T, N, ty0, h1, h2, h3, h4, h5, h6, h7, h8⟩ := hf
  unfold pI at e
  split at e
  · rename_i hs
    obtain ⟨hb, fs, hs, hk⟩ := sh_i_some hs
    exact f_puti ty0 h5 h6 hd h1 h2 h3 h4 h7 h8 hk (vp_nar_int x) rfl hb hs (h _ Q v J e q)
  · cases e
theorem g_pZ {ci index b k : Nat} {x : Int32} {kk : fm_I → pR} (hd : decode C.1.2.2.1 pc = .ok (.putfield index, 3)) (hf : fp C.1.1 index ci k .boolean) (h : ∀ J, gW C (kk J) (pc + 3) L rest J) : gW C (pZ ci b k x I kk) pc L (vI x :: vR b :: rest) I := fun Q v J e q => by
  obtain ⟨Cn, T, N, ty0, h1, h2, h3, h4, h5, h6, h7, h8⟩ := hf
  unfold pZ at e
  split at e
  · rename_i hs
    obtain ⟨hs, hx⟩ := hs
    obtain ⟨hb, fs, hs, hk⟩ := sh_i_some hs
    exact f_puti ty0 h5 h6 hd h1 h2 h3 h4 h7 h8 hk (congrArg Value.int hx) (by rw [← hx]; exact am_fitz x) hb hs (h _ Q v J e q)
  · cases e
theorem g_ldI {b : Nat} {i : Int32} {kk : Int32 → pR} (hd : decode C.1.2.2.1 pc = .ok (.iaload, 1)) (h : ∀ x, gW C (kk x) (pc + 1) L (vI x :: rest) I) : gW C (ld 0 b i I kk) pc L (vI i :: vR b :: rest) I := fun Q v J e q => by
  unfold ld at e
  split at e
  · rename_i N hs
    obtain ⟨hb, hN, hs⟩ := sh_n_some hs
    split at e
    · cases e
    · rename_i hi
      exact i_iald (f := I b) hd hb (by show fm_c (fm_sh b) (I b) = _; rw [hs]; rfl) hi (h _ Q v J e q)
  · cases e
theorem g_ldZ {b : Nat} {i : Int32} {kk : Int32 → pR} (hd : decode C.1.2.2.1 pc = .ok (.baload, 1)) (h : ∀ x, gW C (kk x) (pc + 1) L (vI x :: rest) I) : gW C (ld 1 b i I kk) pc L (vI i :: vR b :: rest) I := fun Q v J e q => by
  unfold ld at e
  split at e
  · rename_i N hs
    obtain ⟨hb, hN, hs⟩ := sh_n_some hs
    split at e
    · cases e
    · rename_i hi
      exact i_zald (f := I b) hd hb (by show fm_c (fm_sh b) (I b) = _; rw [hs]; rfl) hi (h _ Q v J e q)
  · cases e
theorem g_sI {b : Nat} {i x : Int32} {kk : fm_I → pR} (hd : decode C.1.2.2.1 pc = .ok (.iastore, 1)) (h : ∀ J, gW C (kk J) (pc + 1) L rest J) : gW C (sI b i x I kk) pc L (vI x :: vI i :: vR b :: rest) I := fun Q v J e q => by
  unfold sI at e
  split at e
  · rename_i N hs
    obtain ⟨hb, hN, hs⟩ := sh_n_some hs
    split at e
    · cases e
    · rename_i hi
      have hi2 : vp_in i N := hi
      obtain ⟨j, hj, rfl⟩ := vp_in_of hi2 hN
      rw [nI_clamp (Nat.lt_trans hj hN)] at e
      exact f_iast hd hb hs hN rfl hj (h _ Q v J e q)
  · cases e
theorem g_sZ {b : Nat} {i x : Int32} {kk : fm_I → pR} (hd : decode C.1.2.2.1 pc = .ok (.bastore, 1)) (h : ∀ J, gW C (kk J) (pc + 1) L rest J) : gW C (sZ b i x I kk) pc L (vI x :: vI i :: vR b :: rest) I := fun Q v J e q => by
  unfold sZ at e
  split at e
  · rename_i N hs
    obtain ⟨hb, hN, hs⟩ := sh_n_some hs
    split at e
    · cases e
    · rename_i hi
      have hi2 : vp_in i N := hi
      obtain ⟨j, hj, rfl⟩ := vp_in_of hi2 hN
      rw [nI_clamp (Nat.lt_trans hj hN)] at e
      exact f_zast hd hb hs hN rfl hj rfl (h _ Q v J e q)
  · cases e
theorem g_la2 {b : Nat} {i : Int32} {kk : Nat → pR} (hd : decode C.1.2.2.1 pc = .ok (.aaload, 1)) (h : ∀ x, gW C (kk x) (pc + 1) L (vR x :: rest) I) : gW C (la 2 b i kk) pc L (vI i :: vR b :: rest) I := fun Q v J e q => by
  unfold la at e
  split at e
  · cases e
  · rename_i h0
    split at e
    · rename_i y hs
      obtain ⟨hb, N, g, hN, hj, hs, hy⟩ := sh_a_some hs
      exact i_aald (g := g) hd hb (by show fm_c (fm_sh b) (I b) = _; rw [hs]; rfl) (fun z => z.elim h0 (fun z => absurd hj (by omega))) hy (h _ Q v J e q)
    · cases e
theorem g_la3 {b : Nat} {i : Int32} {kk : Nat → pR} (hd : decode C.1.2.2.1 pc = .ok (.aaload, 1)) (h : ∀ x, gW C (kk x) (pc + 1) L (vR x :: rest) I) : gW C (la 3 b i kk) pc L (vI i :: vR b :: rest) I := fun Q v J e q => by
  unfold la at e
  split at e
  · cases e
  · rename_i h0
    split at e
    · rename_i y hs
      obtain ⟨hb, N, g, hN, hj, hs, hy⟩ := sh_a_some hs
      exact i_aald3 (g := g) hd hb (by show fm_c (fm_sh b) (I b) = _; rw [hs]; rfl) (fun z => z.elim h0 (fun z => absurd hj (by omega))) hy (h _ Q v J e q)
    · cases e
theorem g_ln {b : Nat} {kk : Int32 → pR} (hd : decode C.1.2.2.1 pc = .ok (.arraylength, 1)) (h : ∀ x, gW C (kk x) (pc + 1) L (vI x :: rest) I) : gW C (ln b kk) pc L (vR b :: rest) I := fun Q v J e q => by
  unfold ln at e
  split at e
  · rename_i N hs
    obtain ⟨hb, hN, hs⟩ := sh_n_some hs
    exact f_alen hd hb hs rfl (h _ Q v J e q)
  · cases e
theorem g_sl {S : Nat × (Nat → Int32)} {i : Int32} {kk : Int32 → pR} (hS : C.2.2.2.2.1 = some S) (hd : decode C.1.2.2.1 pc = .ok (.iaload, 1)) (h : ∀ x, gW C (kk x) (pc + 1) L (vI x :: rest) I) : gW C (sl S i kk) pc L (vI i :: vR am_SP :: rest) I := fun Q v J e q => by
  unfold sl at e
  split at e
  · cases e
  · rename_i hi
    exact i_sald (Ln := S.1) (xs := S.2) hS hd hi (h _ Q v J e q)
theorem g_sn {S : Nat × (Nat → Int32)} (hS : C.2.2.2.2.1 = some S) (hd : decode C.1.2.2.1 pc = .ok (.arraylength, 1)) (h : gW C r (pc + 1) L (vI (Int32.ofNat S.1) :: rest) I) : gW C r pc L (vR am_SP :: rest) I := fun Q v J e q => i_slen (Ln := S.1) (xs := S.2) hS hd (h Q v J e q)
theorem g_mx {index : Nat} {x y : Int32} {kk : Int32 → pR} (hd : decode C.1.2.2.1 pc = .ok (.invokestatic index, 3)) (h1 : Cond.methodLink C.1.1 index Lib.Math.max.name ∈ am_all) (hf : 1 ≤ C.2.1) (hr : rest.length ≤ 8) (hc : C.2.2.2.2.2.1 ≤ C.2.2.1) (hs : C.2.2.2.2.2.2 ≤ C.2.2.2.1) (h : ∀ z, gW C (kk z) (pc + 3) L (vI z :: rest) I) : gW C (bn (if x < y then y else x) kk) pc L (vI y :: vI x :: rest) I := fun Q v J e q => i_mmax hd h1 am_mx1 am_mx2 am_mx3 hf hr hc hs (h _ Q v J e q)
variable {M' : am_M} {d' index ci b na : Nat} {f : pR}
theorem g_vi {kk : Int32 → fm_I → pR} (hM : gM M' d' f (vR b :: As) I) (hst : st = As.reverse ++ vR b :: rest) (hn : As.length = na) (hd : decode C.1.2.2.1 pc = .ok (.invokevirtual index, 3)) (hk : ckV C.1.1 index ci na M') (hdd : d' + 1 ≤ C.2.1) (hrs : rest.length ≤ 8) (hc : C.2.2.2.2.2.1 ≤ C.2.2.1) (hs : C.2.2.2.2.2.2 ≤ C.2.2.2.1) (h : ∀ x J, gW C (kk x J) (pc + 3) L (vI x :: rest) J) : gW C (vi ci b f kk) pc L st I := fun Q v J e q => by
  subst hn
  obtain ⟨h1, h2, ⟨h3, h4, h5⟩, h6, T, N, h7⟩ := hk
  unfold vi at e
  split at e
  · rename_i ho
    obtain ⟨hb, fs, ho⟩ := sh_o_some ho
    obtain ⟨x, K, e1, e2⟩ := bi_some e
    exact f_callV (hM _ _ e1) hst hd h1 h2 ⟨rfl, h3, h4, h5⟩ hdd h6 hb ho h7 hrs hc hs (fun w K2 z => by obtain ⟨rfl, rfl⟩ := z; exact h x K2 Q v J e2 q)
  · cases e
theorem g_vv {kk : fm_I → pR} (hM : gM M' d' f (vR b :: As) I) (hst : st = As.reverse ++ vR b :: rest) (hn : As.length = na) (hd : decode C.1.2.2.1 pc = .ok (.invokevirtual index, 3)) (hk : ckV C.1.1 index ci na M') (hdd : d' + 1 ≤ C.2.1) (hrs : rest.length ≤ 8) (hc : C.2.2.2.2.2.1 ≤ C.2.2.1) (hs : C.2.2.2.2.2.2 ≤ C.2.2.2.1) (h : ∀ J, gW C (kk J) (pc + 3) L rest J) : gW C (vv ci b f kk) pc L st I := fun Q v J e q => by
  subst hn
  obtain ⟨h1, h2, ⟨h3, h4, h5⟩, h6, T, N, h7⟩ := hk
  unfold vv at e
  split at e
  · rename_i ho
    obtain ⟨hb, fs, ho⟩ := sh_o_some ho
    obtain ⟨K, e1, e2⟩ := bv_some e
    exact f_callV (hM _ _ e1) hst hd h1 h2 ⟨rfl, h3, h4, h5⟩ hdd h6 hb ho h7 hrs hc hs (fun w K2 z => by obtain ⟨rfl, rfl⟩ := z; exact h K2 Q v J e2 q)
  · cases e
theorem g_si {kk : Int32 → fm_I → pR} (hM : gM M' d' f As I) (hst : st = As.reverse ++ rest) (hn : As.length = na) (hd : decode C.1.2.2.1 pc = .ok (.invokestatic index, 3)) (hk : ckS C.1.1 index na M') (hdd : d' + 1 ≤ C.2.1) (hrs : rest.length ≤ 8) (hc : C.2.2.2.2.2.1 ≤ C.2.2.1) (hs : C.2.2.2.2.2.2 ≤ C.2.2.2.1) (h : ∀ x J, gW C (kk x J) (pc + 3) L (vI x :: rest) J) : gW C (bi f kk) pc L st I := fun Q v J e q => by
  subst hn
  obtain ⟨h1, h2, h3, h6⟩ := hk
  obtain ⟨x, K, e1, e2⟩ := bi_some e
  exact f_callS (hM _ _ e1) hst hd h1 h2 h3 hdd h6 hrs hc hs (fun w K2 z => by obtain ⟨rfl, rfl⟩ := z; exact h x K2 Q v J e2 q)
theorem g_ni {kk : Int32 → fm_I → pR} (hM : gM M' d' f As I) (hst : st = As.reverse ++ rest) (hn : As.length = na) (hd : decode C.1.2.2.1 pc = .ok (.invokestatic index, 3)) (hk : ckN C.1.1 index na M') (hdd : d' + 1 ≤ C.2.1) (hrs : rest.length ≤ 8) (hc : C.2.2.2.2.2.1 ≤ C.2.2.1) (hs : C.2.2.2.2.2.2 ≤ C.2.2.2.1) (h : ∀ x J, gW C (kk x J) (pc + 3) L (vI x :: rest) J) : gW C (bi f kk) pc L st I := fun Q v J e q => by
  subst hn
  obtain ⟨h1, ⟨host, h2⟩, h3, h4, h5, h6⟩ := hk
  obtain ⟨x, K, e1, e2⟩ := bi_some e
  exact f_callSN (hM _ _ e1) hst hd h1 h2 h3 h4 h5 hdd h6 hrs hc hs (fun w K2 z => by obtain ⟨rfl, rfl⟩ := z; exact h x K2 Q v J e2 q)
end PG
end
section
abbrev m_SL_init : am_M := ("SpanLinker", ⟨"SpanLinker", "<init>", "()V"⟩, prog_1_method_1_code, 3, none)
theorem cw_SL_init : Cond.code m_SL_init.2.1 m_SL_init.2.2.1 m_SL_init.2.2.2.1 m_SL_init.2.2.2.2 ∈ am_all := (am_mem (tb1 13 rfl) rfl)
abbrev m_SL_add : am_M := ("SpanLinker", ⟨"SpanLinker", "add", "(IIII)Z"⟩, prog_1_method_2_code, 5, some .boolean)
theorem cw_SL_add : Cond.code m_SL_add.2.1 m_SL_add.2.2.1 m_SL_add.2.2.2.1 m_SL_add.2.2.2.2 ∈ am_all := (am_mem (tb1 216 rfl) rfl)
abbrev m_SL_clear : am_M := ("SpanLinker", ⟨"SpanLinker", "clear", "(I)I"⟩, prog_1_method_3_code, 2, some .int)
theorem cw_SL_clear : Cond.code m_SL_clear.2.1 m_SL_clear.2.2.1 m_SL_clear.2.2.2.1 m_SL_clear.2.2.2.2 ∈ am_all := (am_mem (tb2 57 rfl) rfl)
abbrev m_SL_length : am_M := ("SpanLinker", ⟨"SpanLinker", "length", "(II)I"⟩, prog_1_method_4_code, 3, some .int)
theorem cw_SL_length : Cond.code m_SL_length.2.1 m_SL_length.2.2.1 m_SL_length.2.2.2.1 m_SL_length.2.2.2.2 ∈ am_all := (am_mem (tb2 65 rfl) rfl)
abbrev m_SL_isLong : am_M := ("SpanLinker", ⟨"SpanLinker", "isLong", "(II)Z"⟩, prog_1_method_5_code, 3, some .boolean)
theorem cw_SL_isLong : Cond.code m_SL_isLong.2.1 m_SL_isLong.2.2.1 m_SL_isLong.2.2.2.1 m_SL_isLong.2.2.2.2 ∈ am_all := (am_mem (tb2 74 rfl) rfl)
abbrev m_SL_store : am_M := ("SpanLinker", ⟨"SpanLinker", "store", "(II)Z"⟩, prog_1_method_6_code, 3, some .boolean)
theorem cw_SL_store : Cond.code m_SL_store.2.1 m_SL_store.2.2.1 m_SL_store.2.2.2.1 m_SL_store.2.2.2.2 ∈ am_all := (am_mem (tb2 82 rfl) rfl)
abbrev m_SL_remove : am_M := ("SpanLinker", ⟨"SpanLinker", "remove", "(I)Z"⟩, prog_1_method_7_code, 2, some .boolean)
theorem cw_SL_remove : Cond.code m_SL_remove.2.1 m_SL_remove.2.2.1 m_SL_remove.2.2.2.1 m_SL_remove.2.2.2.2 ∈ am_all := (am_mem (tb2 112 rfl) rfl)
abbrev m_SL_member : am_M := ("SpanLinker", ⟨"SpanLinker", "member", "(I)I"⟩, prog_1_method_8_code, 2, some .int)
theorem cw_SL_member : Cond.code m_SL_member.2.1 m_SL_member.2.2.1 m_SL_member.2.2.2.1 m_SL_member.2.2.2.2 ∈ am_all := (am_mem (tb2 116 rfl) rfl)
abbrev m_SL_item : am_M := ("SpanLinker", ⟨"SpanLinker", "item", "(I)Z"⟩, prog_1_method_9_code, 2, some .boolean)
theorem cw_SL_item : Cond.code m_SL_item.2.1 m_SL_item.2.2.1 m_SL_item.2.2.2.1 m_SL_item.2.2.2.2 ∈ am_all := (am_mem (tb2 124 rfl) rfl)
abbrev m_SL_newLine : am_M := ("SpanLinker", ⟨"SpanLinker", "newLine", "()V"⟩, prog_1_method_10_code, 1, none)
theorem cw_SL_newLine : Cond.code m_SL_newLine.2.1 m_SL_newLine.2.2.1 m_SL_newLine.2.2.2.1 m_SL_newLine.2.2.2.2 ∈ am_all := (am_mem (tb2 132 rfl) rfl)
abbrev m_SL_link : am_M := ("SpanLinker", ⟨"SpanLinker", "link", "(I)I"⟩, prog_1_method_11_code, 2, some .int)
theorem cw_SL_link : Cond.code m_SL_link.2.1 m_SL_link.2.2.1 m_SL_link.2.2.2.1 m_SL_link.2.2.2.2 ∈ am_all := (am_mem (tb2 140 rfl) rfl)
abbrev m_SL_included : am_M := ("SpanLinker", ⟨"SpanLinker", "included", "(I)I"⟩, prog_1_method_12_code, 2, some .int)
theorem cw_SL_included : Cond.code m_SL_included.2.1 m_SL_included.2.2.1 m_SL_included.2.2.2.1 m_SL_included.2.2.2.2 ∈ am_all := (am_mem (tb3 65 rfl) rfl)
abbrev m_SL_missing : am_M := ("SpanLinker", ⟨"SpanLinker", "missing", "()I"⟩, prog_1_method_13_code, 1, some .int)
theorem cw_SL_missing : Cond.code m_SL_missing.2.1 m_SL_missing.2.2.1 m_SL_missing.2.2.2.1 m_SL_missing.2.2.2.2 ∈ am_all := (am_mem (tb3 70 rfl) rfl)
abbrev m_SL_size : am_M := ("SpanLinker", ⟨"SpanLinker", "size", "(I)I"⟩, prog_1_method_14_code, 2, some .int)
theorem cw_SL_size : Cond.code m_SL_size.2.1 m_SL_size.2.2.1 m_SL_size.2.2.2.1 m_SL_size.2.2.2.2 ∈ am_all := (am_mem (tb3 74 rfl) rfl)
abbrev m_SL_word : am_M := ("SpanLinker", ⟨"SpanLinker", "word", "(I)I"⟩, prog_1_method_15_code, 2, some .int)
theorem cw_SL_word : Cond.code m_SL_word.2.1 m_SL_word.2.2.1 m_SL_word.2.2.2.1 m_SL_word.2.2.2.2 ∈ am_all := (am_mem (tb3 83 rfl) rfl)
abbrev m_SL_symbol : am_M := ("SpanLinker", ⟨"SpanLinker", "symbol", "(I)I"⟩, prog_1_method_16_code, 2, some .int)
theorem cw_SL_symbol : Cond.code m_SL_symbol.2.1 m_SL_symbol.2.2.1 m_SL_symbol.2.2.2.1 m_SL_symbol.2.2.2.2 ∈ am_all := (am_mem (tb3 92 rfl) rfl)
abbrev m_SL_strip : am_M := ("SpanLinker", ⟨"SpanLinker", "strip", "()Z"⟩, prog_1_method_17_code, 1, some .boolean)
theorem cw_SL_strip : Cond.code m_SL_strip.2.1 m_SL_strip.2.2.1 m_SL_strip.2.2.2.1 m_SL_strip.2.2.2.2 ∈ am_all := (am_mem (tb3 101 rfl) rfl)
abbrev m_SL_start : am_M := ("SpanLinker", ⟨"SpanLinker", "start", "()Z"⟩, prog_1_method_18_code, 1, some .boolean)
theorem cw_SL_start : Cond.code m_SL_start.2.1 m_SL_start.2.2.1 m_SL_start.2.2.2.1 m_SL_start.2.2.2.2 ∈ am_all := (am_mem (tb3 109 rfl) rfl)
abbrev m_SL_feed : am_M := ("SpanLinker", ⟨"SpanLinker", "feed", "(I)Z"⟩, prog_1_method_19_code, 2, some .boolean)
theorem cw_SL_feed : Cond.code m_SL_feed.2.1 m_SL_feed.2.2.1 m_SL_feed.2.2.2.1 m_SL_feed.2.2.2.2 ∈ am_all := (am_mem (tb3 134 rfl) rfl)
abbrev m_SL_run : am_M := ("SpanLinker", ⟨"SpanLinker", "run", "(I)I"⟩, prog_1_method_20_code, 2, some .int)
theorem cw_SL_run : Cond.code m_SL_run.2.1 m_SL_run.2.2.1 m_SL_run.2.2.2.1 m_SL_run.2.2.2.2 ∈ am_all := (am_mem (tb3 143 rfl) rfl)
abbrev m_SL_register : am_M := ("SpanLinker", ⟨"SpanLinker", "register", "(I)I"⟩, prog_1_method_21_code, 2, some .int)
theorem cw_SL_register : Cond.code m_SL_register.2.1 m_SL_register.2.2.1 m_SL_register.2.2.2.1 m_SL_register.2.2.2.2 ∈ am_all := (am_mem (tb3 196 rfl) rfl)
abbrev m_SL_memory : am_M := ("SpanLinker", ⟨"SpanLinker", "memory", "(I)I"⟩, prog_1_method_22_code, 2, some .int)
theorem cw_SL_memory : Cond.code m_SL_memory.2.1 m_SL_memory.2.2.1 m_SL_memory.2.2.2.1 m_SL_memory.2.2.2.2 ∈ am_all := (am_mem (tb3 208 rfl) rfl)
abbrev m_SL_emptyModules : am_M := ("SpanLinker", ⟨"SpanLinker", "emptyModules", "()[LSpanLinker$SourceModule;"⟩, prog_1_method_23_code, 2, some (.array (.object "SpanLinker$SourceModule")))
theorem cw_SL_emptyModules : Cond.code m_SL_emptyModules.2.1 m_SL_emptyModules.2.2.1 m_SL_emptyModules.2.2.2.1 m_SL_emptyModules.2.2.2.2 ∈ am_all := (am_mem (tb1 19 rfl) rfl)
abbrev m_SL_mayStandBefore : am_M := ("SpanLinker", ⟨"SpanLinker", "mayStandBefore", "(II)Z"⟩, prog_1_method_24_code, 3, some .boolean)
theorem cw_SL_mayStandBefore : Cond.code m_SL_mayStandBefore.2.1 m_SL_mayStandBefore.2.2.1 m_SL_mayStandBefore.2.2.2.1 m_SL_mayStandBefore.2.2.2.2 ∈ am_all := (am_mem (tb2 94 rfl) rfl)
abbrev m_SL_isFreeModule : am_M := ("SpanLinker", ⟨"SpanLinker", "isFreeModule", "(I)Z"⟩, prog_1_method_25_code, 2, some .boolean)
theorem cw_SL_isFreeModule : Cond.code m_SL_isFreeModule.2.1 m_SL_isFreeModule.2.2.1 m_SL_isFreeModule.2.2.2.1 m_SL_isFreeModule.2.2.2.2 ∈ am_all := (am_mem (tb2 128 rfl) rfl)
abbrev m_SL_isWithin : am_M := ("SpanLinker", ⟨"SpanLinker", "isWithin", "(III)Z"⟩, prog_1_method_26_code, 3, some .boolean)
theorem cw_SL_isWithin : Cond.code m_SL_isWithin.2.1 m_SL_isWithin.2.2.1 m_SL_isWithin.2.2.2.1 m_SL_isWithin.2.2.2.2 ∈ am_all := (am_mem (tb1 222 rfl) rfl)
abbrev m_SL_isModule : am_M := ("SpanLinker", ⟨"SpanLinker", "isModule", "(I)Z"⟩, prog_1_method_27_code, 1, some .boolean)
theorem cw_SL_isModule : Cond.code m_SL_isModule.2.1 m_SL_isModule.2.2.1 m_SL_isModule.2.2.2.1 m_SL_isModule.2.2.2.2 ∈ am_all := (am_mem (tb1 219 rfl) rfl)
abbrev m_SL_isSection : am_M := ("SpanLinker", ⟨"SpanLinker", "isSection", "(I)Z"⟩, prog_1_method_28_code, 1, some .boolean)
theorem cw_SL_isSection : Cond.code m_SL_isSection.2.1 m_SL_isSection.2.2.1 m_SL_isSection.2.2.2.1 m_SL_isSection.2.2.2.2 ∈ am_all := (am_mem (tb1 235 rfl) rfl)
abbrev m_SL_isName : am_M := ("SpanLinker", ⟨"SpanLinker", "isName", "(I)Z"⟩, prog_1_method_29_code, 1, some .boolean)
theorem cw_SL_isName : Cond.code m_SL_isName.2.1 m_SL_isName.2.2.1 m_SL_isName.2.2.2.1 m_SL_isName.2.2.2.2 ∈ am_all := (am_mem (tb1 232 rfl) rfl)
abbrev m_SL_isWord : am_M := ("SpanLinker", ⟨"SpanLinker", "isWord", "(I)Z"⟩, prog_1_method_30_code, 1, some .boolean)
theorem cw_SL_isWord : Cond.code m_SL_isWord.2.1 m_SL_isWord.2.2.1 m_SL_isWord.2.2.2.1 m_SL_isWord.2.2.2.2 ∈ am_all := (am_mem (tb1 238 rfl) rfl)
abbrev m_SL_toWord : am_M := ("SpanLinker", ⟨"SpanLinker", "toWord", "(I)I"⟩, prog_1_method_31_code, 1, some .int)
theorem cw_SL_toWord : Cond.code m_SL_toWord.2.1 m_SL_toWord.2.2.1 m_SL_toWord.2.2.2.1 m_SL_toWord.2.2.2.2 ∈ am_all := (am_mem (tb3 53 rfl) rfl)
abbrev m_SL_setOf : am_M := ("SpanLinker", ⟨"SpanLinker", "setOf", "(I)I"⟩, prog_1_method_32_code, 1, some .int)
theorem cw_SL_setOf : Cond.code m_SL_setOf.2.1 m_SL_setOf.2.2.1 m_SL_setOf.2.2.2.1 m_SL_setOf.2.2.2.2 ∈ am_all := (am_mem (tb2 29 rfl) rfl)
abbrev m_SL_hasName : am_M := ("SpanLinker", ⟨"SpanLinker", "hasName", "(II)Z"⟩, prog_1_method_33_code, 2, some .boolean)
theorem cw_SL_hasName : Cond.code m_SL_hasName.2.1 m_SL_hasName.2.2.1 m_SL_hasName.2.2.2.1 m_SL_hasName.2.2.2.2 ∈ am_all := (am_mem (tb2 18 rfl) rfl)
abbrev m_Ref_init : am_M := ("SpanLinkerModel", ⟨"SpanLinkerModel", "<init>", "()V"⟩, prog_8_method_1_code, 1, none)
theorem cw_Ref_init : Cond.code m_Ref_init.2.1 m_Ref_init.2.2.1 m_Ref_init.2.2.2.1 m_Ref_init.2.2.2.2 ∈ am_all := (am_mem (tb3 217 rfl) rfl)
abbrev m_Ref_module : am_M := ("SpanLinkerModel", ⟨"SpanLinkerModel", "module", "(I)Z"⟩, prog_8_method_2_code, 2, some .boolean)
theorem cw_Ref_module : Cond.code m_Ref_module.2.1 m_Ref_module.2.2.1 m_Ref_module.2.2.2.1 m_Ref_module.2.2.2.2 ∈ am_all := (am_mem (tb4 83 rfl) rfl)
abbrev m_Ref_name : am_M := ("SpanLinkerModel", ⟨"SpanLinkerModel", "name", "(I)Z"⟩, prog_8_method_3_code, 2, some .boolean)
theorem cw_Ref_name : Cond.code m_Ref_name.2.1 m_Ref_name.2.2.1 m_Ref_name.2.2.2.1 m_Ref_name.2.2.2.2 ∈ am_all := (am_mem (tb4 91 rfl) rfl)
abbrev m_Ref_isWord : am_M := ("SpanLinkerModel", ⟨"SpanLinkerModel", "isWord", "(I)Z"⟩, prog_8_method_4_code, 2, some .boolean)
theorem cw_Ref_isWord : Cond.code m_Ref_isWord.2.1 m_Ref_isWord.2.2.1 m_Ref_isWord.2.2.2.1 m_Ref_isWord.2.2.2.2 ∈ am_all := (am_mem (tb4 95 rfl) rfl)
abbrev m_Ref_width : am_M := ("SpanLinkerModel", ⟨"SpanLinkerModel", "width", "(I)I"⟩, prog_8_method_5_code, 2, some .int)
theorem cw_Ref_width : Cond.code m_Ref_width.2.1 m_Ref_width.2.2.1 m_Ref_width.2.2.2.1 m_Ref_width.2.2.2.2 ∈ am_all := (am_mem (tb4 120 rfl) rfl)
abbrev m_Ref_place : am_M := ("SpanLinkerModel", ⟨"SpanLinkerModel", "place", "(III)I"⟩, prog_8_method_6_code, 6, some .int)
theorem cw_Ref_place : Cond.code m_Ref_place.2.1 m_Ref_place.2.2.1 m_Ref_place.2.2.2.1 m_Ref_place.2.2.2.2 ∈ am_all := (am_mem (tb4 116 rfl) rfl)
abbrev m_Ref_definition : am_M := ("SpanLinkerModel", ⟨"SpanLinkerModel", "definition", "(II)I"⟩, prog_8_method_7_code, 4, some .int)
theorem cw_Ref_definition : Cond.code m_Ref_definition.2.1 m_Ref_definition.2.2.1 m_Ref_definition.2.2.2.1 m_Ref_definition.2.2.2.2 ∈ am_all := (am_mem (tb4 100 rfl) rfl)
abbrev m_Ref_common : am_M := ("SpanLinkerModel", ⟨"SpanLinkerModel", "common", "(II)I"⟩, prog_8_method_8_code, 4, some .int)
theorem cw_Ref_common : Cond.code m_Ref_common.2.1 m_Ref_common.2.2.1 m_Ref_common.2.2.2.1 m_Ref_common.2.2.2.2 ∈ am_all := (am_mem (tb4 104 rfl) rfl)
abbrev m_Ref_global : am_M := ("SpanLinkerModel", ⟨"SpanLinkerModel", "global", "(II)Z"⟩, prog_8_method_9_code, 5, some .boolean)
theorem cw_Ref_global : Cond.code m_Ref_global.2.1 m_Ref_global.2.2.1 m_Ref_global.2.2.2.1 m_Ref_global.2.2.2.2 ∈ am_all := (am_mem (tb4 185 rfl) rfl)
abbrev m_Ref_exports : am_M := ("SpanLinkerModel", ⟨"SpanLinkerModel", "exports", "(II)Z"⟩, prog_8_method_10_code, 3, some .boolean)
theorem cw_Ref_exports : Cond.code m_Ref_exports.2.1 m_Ref_exports.2.2.1 m_Ref_exports.2.2.2.1 m_Ref_exports.2.2.2.2 ∈ am_all := (am_mem (tb4 181 rfl) rfl)
abbrev m_Ref_refers : am_M := ("SpanLinkerModel", ⟨"SpanLinkerModel", "refers", "(II)Z"⟩, prog_8_method_11_code, 5, some .boolean)
theorem cw_Ref_refers : Cond.code m_Ref_refers.2.1 m_Ref_refers.2.2.1 m_Ref_refers.2.2.2.1 m_Ref_refers.2.2.2.2 ∈ am_all := (am_mem (tb4 193 rfl) rfl)
abbrev m_Ref_distance : am_M := ("SpanLinkerModel", ⟨"SpanLinkerModel", "distance", "(II)I"⟩, prog_8_method_12_code, 6, some .int)
theorem cw_Ref_distance : Cond.code m_Ref_distance.2.1 m_Ref_distance.2.2.1 m_Ref_distance.2.2.2.1 m_Ref_distance.2.2.2.2 ∈ am_all := (am_mem (tb4 112 rfl) rfl)
abbrev m_Ref_settle : am_M := ("SpanLinkerModel", ⟨"SpanLinkerModel", "settle", "(I)V"⟩, prog_8_method_13_code, 5, none)
theorem cw_Ref_settle : Cond.code m_Ref_settle.2.1 m_Ref_settle.2.2.1 m_Ref_settle.2.2.2.1 m_Ref_settle.2.2.2.2 ∈ am_all := (am_mem (tb4 108 rfl) rfl)
abbrev m_Ref_fits : am_M := ("SpanLinkerModel", ⟨"SpanLinkerModel", "fits", "(III)Z"⟩, prog_8_method_14_code, 4, some .boolean)
theorem cw_Ref_fits : Cond.code m_Ref_fits.2.1 m_Ref_fits.2.2.1 m_Ref_fits.2.2.2.1 m_Ref_fits.2.2.2.2 ∈ am_all := (am_mem (tb4 87 rfl) rfl)
abbrev m_Ref_add : am_M := ("SpanLinkerModel", ⟨"SpanLinkerModel", "add", "(IIII)Z"⟩, prog_8_method_15_code, 8, some .boolean)
theorem cw_Ref_add : Cond.code m_Ref_add.2.1 m_Ref_add.2.2.1 m_Ref_add.2.2.2.1 m_Ref_add.2.2.2.2 ∈ am_all := (am_mem (tb4 79 rfl) rfl)
abbrev m_Ref_clear : am_M := ("SpanLinkerModel", ⟨"SpanLinkerModel", "clear", "(I)I"⟩, prog_8_method_16_code, 3, some .int)
theorem cw_Ref_clear : Cond.code m_Ref_clear.2.1 m_Ref_clear.2.2.1 m_Ref_clear.2.2.2.1 m_Ref_clear.2.2.2.2 ∈ am_all := (am_mem (tb4 124 rfl) rfl)
abbrev m_Ref_length : am_M := ("SpanLinkerModel", ⟨"SpanLinkerModel", "length", "(II)I"⟩, prog_8_method_17_code, 3, some .int)
theorem cw_Ref_length : Cond.code m_Ref_length.2.1 m_Ref_length.2.2.1 m_Ref_length.2.2.2.1 m_Ref_length.2.2.2.2 ∈ am_all := (am_mem (tb4 128 rfl) rfl)
abbrev m_Ref_isLong : am_M := ("SpanLinkerModel", ⟨"SpanLinkerModel", "isLong", "(II)Z"⟩, prog_8_method_18_code, 3, some .boolean)
theorem cw_Ref_isLong : Cond.code m_Ref_isLong.2.1 m_Ref_isLong.2.2.1 m_Ref_isLong.2.2.2.1 m_Ref_isLong.2.2.2.2 ∈ am_all := (am_mem (tb4 132 rfl) rfl)
abbrev m_Ref_inArchive : am_M := ("SpanLinkerModel", ⟨"SpanLinkerModel", "inArchive", "(I)I"⟩, prog_8_method_19_code, 3, some .int)
theorem cw_Ref_inArchive : Cond.code m_Ref_inArchive.2.1 m_Ref_inArchive.2.2.1 m_Ref_inArchive.2.2.2.1 m_Ref_inArchive.2.2.2.2 ∈ am_all := (am_mem (tb4 144 rfl) rfl)
abbrev m_Ref_onLine : am_M := ("SpanLinkerModel", ⟨"SpanLinkerModel", "onLine", "(I)Z"⟩, prog_8_method_20_code, 4, some .boolean)
theorem cw_Ref_onLine : Cond.code m_Ref_onLine.2.1 m_Ref_onLine.2.2.1 m_Ref_onLine.2.2.2.1 m_Ref_onLine.2.2.2.2 ∈ am_all := (am_mem (tb4 140 rfl) rfl)
abbrev m_Ref_store : am_M := ("SpanLinkerModel", ⟨"SpanLinkerModel", "store", "(II)Z"⟩, prog_8_method_21_code, 5, some .boolean)
theorem cw_Ref_store : Cond.code m_Ref_store.2.1 m_Ref_store.2.2.1 m_Ref_store.2.2.2.1 m_Ref_store.2.2.2.2 ∈ am_all := (am_mem (tb4 136 rfl) rfl)
abbrev m_Ref_remove : am_M := ("SpanLinkerModel", ⟨"SpanLinkerModel", "remove", "(I)Z"⟩, prog_8_method_22_code, 4, some .boolean)
theorem cw_Ref_remove : Cond.code m_Ref_remove.2.1 m_Ref_remove.2.2.1 m_Ref_remove.2.2.2.1 m_Ref_remove.2.2.2.2 ∈ am_all := (am_mem (tb4 148 rfl) rfl)
abbrev m_Ref_member : am_M := ("SpanLinkerModel", ⟨"SpanLinkerModel", "member", "(I)I"⟩, prog_8_method_23_code, 2, some .int)
theorem cw_Ref_member : Cond.code m_Ref_member.2.1 m_Ref_member.2.2.1 m_Ref_member.2.2.2.1 m_Ref_member.2.2.2.2 ∈ am_all := (am_mem (tb4 153 rfl) rfl)
abbrev m_Ref_item : am_M := ("SpanLinkerModel", ⟨"SpanLinkerModel", "item", "(I)Z"⟩, prog_8_method_24_code, 2, some .boolean)
theorem cw_Ref_item : Cond.code m_Ref_item.2.1 m_Ref_item.2.2.1 m_Ref_item.2.2.2.1 m_Ref_item.2.2.2.2 ∈ am_all := (am_mem (tb4 157 rfl) rfl)
abbrev m_Ref_newLine : am_M := ("SpanLinkerModel", ⟨"SpanLinkerModel", "newLine", "()V"⟩, prog_8_method_25_code, 1, none)
theorem cw_Ref_newLine : Cond.code m_Ref_newLine.2.1 m_Ref_newLine.2.2.1 m_Ref_newLine.2.2.2.1 m_Ref_newLine.2.2.2.2 ∈ am_all := (am_mem (tb4 161 rfl) rfl)
abbrev m_Ref_isIn : am_M := ("SpanLinkerModel", ⟨"SpanLinkerModel", "isIn", "(I)Z"⟩, prog_8_method_26_code, 4, some .boolean)
theorem cw_Ref_isIn : Cond.code m_Ref_isIn.2.1 m_Ref_isIn.2.2.1 m_Ref_isIn.2.2.2.1 m_Ref_isIn.2.2.2.2 ∈ am_all := (am_mem (tb4 173 rfl) rfl)
abbrev m_Ref_exporters : am_M := ("SpanLinkerModel", ⟨"SpanLinkerModel", "exporters", "(I)I"⟩, prog_8_method_27_code, 4, some .int)
theorem cw_Ref_exporters : Cond.code m_Ref_exporters.2.1 m_Ref_exporters.2.2.1 m_Ref_exporters.2.2.2.1 m_Ref_exporters.2.2.2.2 ∈ am_all := (am_mem (tb4 197 rfl) rfl)
abbrev m_Ref_largest : am_M := ("SpanLinkerModel", ⟨"SpanLinkerModel", "largest", "(I)I"⟩, prog_8_method_28_code, 5, some .int)
theorem cw_Ref_largest : Cond.code m_Ref_largest.2.1 m_Ref_largest.2.2.1 m_Ref_largest.2.2.2.1 m_Ref_largest.2.2.2.2 ∈ am_all := (am_mem (tb4 201 rfl) rfl)
abbrev m_Ref_wanted : am_M := ("SpanLinkerModel", ⟨"SpanLinkerModel", "wanted", "(I)Z"⟩, prog_8_method_29_code, 4, some .boolean)
theorem cw_Ref_wanted : Cond.code m_Ref_wanted.2.1 m_Ref_wanted.2.2.1 m_Ref_wanted.2.2.2.1 m_Ref_wanted.2.2.2.2 ∈ am_all := (am_mem (tb4 189 rfl) rfl)
abbrev m_Ref_include : am_M := ("SpanLinkerModel", ⟨"SpanLinkerModel", "include", "(I)V"⟩, prog_8_method_30_code, 2, none)
theorem cw_Ref_include : Cond.code m_Ref_include.2.1 m_Ref_include.2.2.1 m_Ref_include.2.2.2.1 m_Ref_include.2.2.2.2 ∈ am_all := (am_mem (tb4 205 rfl) rfl)
abbrev m_Ref_helps : am_M := ("SpanLinkerModel", ⟨"SpanLinkerModel", "helps", "(I)Z"⟩, prog_8_method_31_code, 4, some .boolean)
theorem cw_Ref_helps : Cond.code m_Ref_helps.2.1 m_Ref_helps.2.2.1 m_Ref_helps.2.2.2.1 m_Ref_helps.2.2.2.2 ∈ am_all := (am_mem (tb4 177 rfl) rfl)
abbrev m_Ref_goOver : am_M := ("SpanLinkerModel", ⟨"SpanLinkerModel", "goOver", "()V"⟩, prog_8_method_32_code, 4, none)
theorem cw_Ref_goOver : Cond.code m_Ref_goOver.2.1 m_Ref_goOver.2.2.1 m_Ref_goOver.2.2.2.1 m_Ref_goOver.2.2.2.2 ∈ am_all := (am_mem (tb4 169 rfl) rfl)
abbrev m_Ref_base : am_M := ("SpanLinkerModel", ⟨"SpanLinkerModel", "base", "(II)I"⟩, prog_8_method_33_code, 6, some .int)
theorem cw_Ref_base : Cond.code m_Ref_base.2.1 m_Ref_base.2.2.1 m_Ref_base.2.2.2.1 m_Ref_base.2.2.2.2 ∈ am_all := (am_mem (tb4 226 rfl) rfl)
abbrev m_Ref_sum : am_M := ("SpanLinkerModel", ⟨"SpanLinkerModel", "sum", "(I)I"⟩, prog_8_method_34_code, 4, some .int)
theorem cw_Ref_sum : Cond.code m_Ref_sum.2.1 m_Ref_sum.2.2.1 m_Ref_sum.2.2.2.1 m_Ref_sum.2.2.2.2 ∈ am_all := (am_mem (tb4 209 rfl) rfl)
abbrev m_Ref_commonsBelow : am_M := ("SpanLinkerModel", ⟨"SpanLinkerModel", "commonsBelow", "(I)I"⟩, prog_8_method_35_code, 4, some .int)
theorem cw_Ref_commonsBelow : Cond.code m_Ref_commonsBelow.2.1 m_Ref_commonsBelow.2.2.1 m_Ref_commonsBelow.2.2.2.1 m_Ref_commonsBelow.2.2.2.2 ∈ am_all := (am_mem (tb4 214 rfl) rfl)
abbrev m_Ref_valueOf : am_M := ("SpanLinkerModel", ⟨"SpanLinkerModel", "valueOf", "(II)I"⟩, prog_8_method_36_code, 4, some .int)
theorem cw_Ref_valueOf : Cond.code m_Ref_valueOf.2.1 m_Ref_valueOf.2.2.1 m_Ref_valueOf.2.2.2.1 m_Ref_valueOf.2.2.2.2 ∈ am_all := (am_mem (tb4 234 rfl) rfl)
abbrev m_Ref_outside : am_M := ("SpanLinkerModel", ⟨"SpanLinkerModel", "outside", "(I)I"⟩, prog_8_method_37_code, 4, some .int)
theorem cw_Ref_outside : Cond.code m_Ref_outside.2.1 m_Ref_outside.2.2.1 m_Ref_outside.2.2.2.1 m_Ref_outside.2.2.2.2 ∈ am_all := (am_mem (tb4 238 rfl) rfl)
abbrev m_Ref_standsFor : am_M := ("SpanLinkerModel", ⟨"SpanLinkerModel", "standsFor", "(II)I"⟩, prog_8_method_38_code, 4, some .int)
theorem cw_Ref_standsFor : Cond.code m_Ref_standsFor.2.1 m_Ref_standsFor.2.2.1 m_Ref_standsFor.2.2.2.1 m_Ref_standsFor.2.2.2.2 ∈ am_all := (am_mem (tb4 230 rfl) rfl)
abbrev m_Ref_write : am_M := ("SpanLinkerModel", ⟨"SpanLinkerModel", "write", "(II)V"⟩, prog_8_method_39_code, 5, none)
theorem cw_Ref_write : Cond.code m_Ref_write.2.1 m_Ref_write.2.2.1 m_Ref_write.2.2.2.1 m_Ref_write.2.2.2.2 ∈ am_all := (am_mem (tb4 222 rfl) rfl)
abbrev m_Ref_layOut : am_M := ("SpanLinkerModel", ⟨"SpanLinkerModel", "layOut", "()V"⟩, prog_8_method_40_code, 4, none)
theorem cw_Ref_layOut : Cond.code m_Ref_layOut.2.1 m_Ref_layOut.2.2.1 m_Ref_layOut.2.2.2.1 m_Ref_layOut.2.2.2.2 ∈ am_all := (am_mem (tb4 218 rfl) rfl)
abbrev m_Ref_link : am_M := ("SpanLinkerModel", ⟨"SpanLinkerModel", "link", "(I)I"⟩, prog_8_method_41_code, 4, some .int)
theorem cw_Ref_link : Cond.code m_Ref_link.2.1 m_Ref_link.2.2.1 m_Ref_link.2.2.2.1 m_Ref_link.2.2.2.2 ∈ am_all := (am_mem (tb4 165 rfl) rfl)
abbrev m_Ref_included : am_M := ("SpanLinkerModel", ⟨"SpanLinkerModel", "included", "(I)I"⟩, prog_8_method_42_code, 2, some .int)
theorem cw_Ref_included : Cond.code m_Ref_included.2.1 m_Ref_included.2.2.1 m_Ref_included.2.2.2.1 m_Ref_included.2.2.2.2 ∈ am_all := (am_mem (tb5 4 rfl) rfl)
abbrev m_Ref_missing : am_M := ("SpanLinkerModel", ⟨"SpanLinkerModel", "missing", "()I"⟩, prog_8_method_43_code, 1, some .int)
theorem cw_Ref_missing : Cond.code m_Ref_missing.2.1 m_Ref_missing.2.2.1 m_Ref_missing.2.2.2.1 m_Ref_missing.2.2.2.2 ∈ am_all := (am_mem (tb5 8 rfl) rfl)
abbrev m_Ref_size : am_M := ("SpanLinkerModel", ⟨"SpanLinkerModel", "size", "(I)I"⟩, prog_8_method_44_code, 2, some .int)
theorem cw_Ref_size : Cond.code m_Ref_size.2.1 m_Ref_size.2.2.1 m_Ref_size.2.2.2.1 m_Ref_size.2.2.2.2 ∈ am_all := (am_mem (tb5 12 rfl) rfl)
abbrev m_Ref_word : am_M := ("SpanLinkerModel", ⟨"SpanLinkerModel", "word", "(I)I"⟩, prog_8_method_45_code, 2, some .int)
theorem cw_Ref_word : Cond.code m_Ref_word.2.1 m_Ref_word.2.2.1 m_Ref_word.2.2.2.1 m_Ref_word.2.2.2.2 ∈ am_all := (am_mem (tb5 16 rfl) rfl)
abbrev m_Ref_symbol : am_M := ("SpanLinkerModel", ⟨"SpanLinkerModel", "symbol", "(I)I"⟩, prog_8_method_46_code, 2, some .int)
theorem cw_Ref_symbol : Cond.code m_Ref_symbol.2.1 m_Ref_symbol.2.2.1 m_Ref_symbol.2.2.2.1 m_Ref_symbol.2.2.2.2 ∈ am_all := (am_mem (tb5 20 rfl) rfl)
abbrev m_Ref_strip : am_M := ("SpanLinkerModel", ⟨"SpanLinkerModel", "strip", "()Z"⟩, prog_8_method_47_code, 1, some .boolean)
theorem cw_Ref_strip : Cond.code m_Ref_strip.2.1 m_Ref_strip.2.2.1 m_Ref_strip.2.2.2.1 m_Ref_strip.2.2.2.2 ∈ am_all := (am_mem (tb5 24 rfl) rfl)
abbrev m_Ref_start : am_M := ("SpanLinkerModel", ⟨"SpanLinkerModel", "start", "()Z"⟩, prog_8_method_48_code, 2, some .boolean)
theorem cw_Ref_start : Cond.code m_Ref_start.2.1 m_Ref_start.2.2.1 m_Ref_start.2.2.2.1 m_Ref_start.2.2.2.2 ∈ am_all := (am_mem (tb5 28 rfl) rfl)
abbrev m_Ref_feed : am_M := ("SpanLinkerModel", ⟨"SpanLinkerModel", "feed", "(I)Z"⟩, prog_8_method_49_code, 2, some .boolean)
theorem cw_Ref_feed : Cond.code m_Ref_feed.2.1 m_Ref_feed.2.2.1 m_Ref_feed.2.2.2.1 m_Ref_feed.2.2.2.2 ∈ am_all := (am_mem (tb5 32 rfl) rfl)
abbrev m_Ref_there : am_M := ("SpanLinkerModel", ⟨"SpanLinkerModel", "there", "(I)Z"⟩, prog_8_method_50_code, 2, some .boolean)
theorem cw_Ref_there : Cond.code m_Ref_there.2.1 m_Ref_there.2.2.1 m_Ref_there.2.2.2.1 m_Ref_there.2.2.2.2 ∈ am_all := (am_mem (tb5 44 rfl) rfl)
abbrev m_Ref_holds : am_M := ("SpanLinkerModel", ⟨"SpanLinkerModel", "holds", "(I)Z"⟩, prog_8_method_51_code, 2, some .boolean)
theorem cw_Ref_holds : Cond.code m_Ref_holds.2.1 m_Ref_holds.2.2.1 m_Ref_holds.2.2.2.1 m_Ref_holds.2.2.2.2 ∈ am_all := (am_mem (tb5 52 rfl) rfl)
abbrev m_Ref_hindrance : am_M := ("SpanLinkerModel", ⟨"SpanLinkerModel", "hindrance", "()I"⟩, prog_8_method_52_code, 4, some .int)
theorem cw_Ref_hindrance : Cond.code m_Ref_hindrance.2.1 m_Ref_hindrance.2.2.1 m_Ref_hindrance.2.2.2.1 m_Ref_hindrance.2.2.2.2 ∈ am_all := (am_mem (tb5 40 rfl) rfl)
abbrev m_Ref_two : am_M := ("SpanLinkerModel", ⟨"SpanLinkerModel", "two", "(II)V"⟩, prog_8_method_53_code, 5, none)
theorem cw_Ref_two : Cond.code m_Ref_two.2.1 m_Ref_two.2.2.1 m_Ref_two.2.2.2.1 m_Ref_two.2.2.2.2 ∈ am_all := (am_mem (tb5 48 rfl) rfl)
abbrev m_Ref_single : am_M := ("SpanLinkerModel", ⟨"SpanLinkerModel", "single", "(II)V"⟩, prog_8_method_54_code, 5, none)
theorem cw_Ref_single : Cond.code m_Ref_single.2.1 m_Ref_single.2.2.1 m_Ref_single.2.2.2.1 m_Ref_single.2.2.2.2 ∈ am_all := (am_mem (tb5 56 rfl) rfl)
abbrev m_Ref_run : am_M := ("SpanLinkerModel", ⟨"SpanLinkerModel", "run", "(I)I"⟩, prog_8_method_55_code, 6, some .int)
theorem cw_Ref_run : Cond.code m_Ref_run.2.1 m_Ref_run.2.2.1 m_Ref_run.2.2.2.1 m_Ref_run.2.2.2.2 ∈ am_all := (am_mem (tb5 36 rfl) rfl)
abbrev m_Ref_register : am_M := ("SpanLinkerModel", ⟨"SpanLinkerModel", "register", "(I)I"⟩, prog_8_method_56_code, 2, some .int)
theorem cw_Ref_register : Cond.code m_Ref_register.2.1 m_Ref_register.2.2.1 m_Ref_register.2.2.2.1 m_Ref_register.2.2.2.2 ∈ am_all := (am_mem (tb5 60 rfl) rfl)
abbrev m_Ref_memory : am_M := ("SpanLinkerModel", ⟨"SpanLinkerModel", "memory", "(I)I"⟩, prog_8_method_57_code, 2, some .int)
theorem cw_Ref_memory : Cond.code m_Ref_memory.2.1 m_Ref_memory.2.2.1 m_Ref_memory.2.2.2.1 m_Ref_memory.2.2.2.2 ∈ am_all := (am_mem (tb5 64 rfl) rfl)
abbrev m_Img_init : am_M := ("SpanLinker$Image", ⟨"SpanLinker$Image", "<init>", "([LSpanLinker$SourceModule;LSpanLinker$Inclusion;)V"⟩, prog_2_method_1_code, 3, none)
theorem cw_Img_init : Cond.code m_Img_init.2.1 m_Img_init.2.2.1 m_Img_init.2.2.2.1 m_Img_init.2.2.2.2 ∈ am_all := (am_mem (tb1 113 rfl) rfl)
abbrev m_Img_throwAway : am_M := ("SpanLinker$Image", ⟨"SpanLinker$Image", "throwAway", "()V"⟩, prog_2_method_2_code, 1, none)
theorem cw_Img_throwAway : Cond.code m_Img_throwAway.2.1 m_Img_throwAway.2.2.1 m_Img_throwAway.2.2.2.1 m_Img_throwAway.2.2.2.2 ∈ am_all := (am_mem (tb2 145 rfl) rfl)
abbrev m_Img_isThere : am_M := ("SpanLinker$Image", ⟨"SpanLinker$Image", "isThere", "()Z"⟩, prog_2_method_3_code, 1, some .boolean)
theorem cw_Img_isThere : Cond.code m_Img_isThere.2.1 m_Img_isThere.2.2.1 m_Img_isThere.2.2.2.1 m_Img_isThere.2.2.2.2 ∈ am_all := (am_mem (tb3 113 rfl) rfl)
abbrev m_Img_build : am_M := ("SpanLinker$Image", ⟨"SpanLinker$Image", "build", "(I)Z"⟩, prog_2_method_4_code, 3, some .boolean)
theorem cw_Img_build : Cond.code m_Img_build.2.1 m_Img_build.2.2.1 m_Img_build.2.2.2.1 m_Img_build.2.2.2.2 ∈ am_all := (am_mem (tb2 203 rfl) rfl)
abbrev m_Img_howMany : am_M := ("SpanLinker$Image", ⟨"SpanLinker$Image", "howMany", "()I"⟩, prog_2_method_5_code, 1, some .int)
theorem cw_Img_howMany : Cond.code m_Img_howMany.2.1 m_Img_howMany.2.2.1 m_Img_howMany.2.2.2.1 m_Img_howMany.2.2.2.2 ∈ am_all := (am_mem (tb3 121 rfl) rfl)
abbrev m_Img_textWords : am_M := ("SpanLinker$Image", ⟨"SpanLinker$Image", "textWords", "()I"⟩, prog_2_method_6_code, 1, some .int)
theorem cw_Img_textWords : Cond.code m_Img_textWords.2.1 m_Img_textWords.2.2.1 m_Img_textWords.2.2.2.1 m_Img_textWords.2.2.2.2 ∈ am_all := (am_mem (tb3 125 rfl) rfl)
abbrev m_Img_entryAddress : am_M := ("SpanLinker$Image", ⟨"SpanLinker$Image", "entryAddress", "()I"⟩, prog_2_method_7_code, 1, some .int)
theorem cw_Img_entryAddress : Cond.code m_Img_entryAddress.2.1 m_Img_entryAddress.2.2.1 m_Img_entryAddress.2.2.2.1 m_Img_entryAddress.2.2.2.2 ∈ am_all := (am_mem (tb3 130 rfl) rfl)
abbrev m_Img_wordsIn : am_M := ("SpanLinker$Image", ⟨"SpanLinker$Image", "wordsIn", "(I)I"⟩, prog_2_method_8_code, 2, some .int)
theorem cw_Img_wordsIn : Cond.code m_Img_wordsIn.2.1 m_Img_wordsIn.2.2.1 m_Img_wordsIn.2.2.2.1 m_Img_wordsIn.2.2.2.2 ∈ am_all := (am_mem (tb3 78 rfl) rfl)
abbrev m_Img_wordAt : am_M := ("SpanLinker$Image", ⟨"SpanLinker$Image", "wordAt", "(I)I"⟩, prog_2_method_9_code, 2, some .int)
theorem cw_Img_wordAt : Cond.code m_Img_wordAt.2.1 m_Img_wordAt.2.2.1 m_Img_wordAt.2.2.2.1 m_Img_wordAt.2.2.2.2 ∈ am_all := (am_mem (tb3 87 rfl) rfl)
abbrev m_Img_valueOf : am_M := ("SpanLinker$Image", ⟨"SpanLinker$Image", "valueOf", "(I)I"⟩, prog_2_method_10_code, 2, some .int)
theorem cw_Img_valueOf : Cond.code m_Img_valueOf.2.1 m_Img_valueOf.2.2.1 m_Img_valueOf.2.2.2.1 m_Img_valueOf.2.2.2.2 ∈ am_all := (am_mem (tb3 96 rfl) rfl)
abbrev m_Img_dropNames : am_M := ("SpanLinker$Image", ⟨"SpanLinker$Image", "dropNames", "()Z"⟩, prog_2_method_11_code, 1, some .boolean)
theorem cw_Img_dropNames : Cond.code m_Img_dropNames.2.1 m_Img_dropNames.2.2.1 m_Img_dropNames.2.2.2.1 m_Img_dropNames.2.2.2.2 ∈ am_all := (am_mem (tb3 105 rfl) rfl)
abbrev m_Img_layOutSections : am_M := ("SpanLinker$Image", ⟨"SpanLinker$Image", "layOutSections", "()V"⟩, prog_2_method_12_code, 5, none)
theorem cw_Img_layOutSections : Cond.code m_Img_layOutSections.2.1 m_Img_layOutSections.2.2.1 m_Img_layOutSections.2.2.2.1 m_Img_layOutSections.2.2.2.2 ∈ am_all := (am_mem (tb2 207 rfl) rfl)
abbrev m_Img_layOutCommons : am_M := ("SpanLinker$Image", ⟨"SpanLinker$Image", "layOutCommons", "()V"⟩, prog_2_method_13_code, 3, none)
theorem cw_Img_layOutCommons : Cond.code m_Img_layOutCommons.2.1 m_Img_layOutCommons.2.2.1 m_Img_layOutCommons.2.2.2.1 m_Img_layOutCommons.2.2.2.2 ∈ am_all := (am_mem (tb2 220 rfl) rfl)
abbrev m_Img_largestCommon : am_M := ("SpanLinker$Image", ⟨"SpanLinker$Image", "largestCommon", "(I)I"⟩, prog_2_method_14_code, 5, some .int)
theorem cw_Img_largestCommon : Cond.code m_Img_largestCommon.2.1 m_Img_largestCommon.2.2.1 m_Img_largestCommon.2.2.2.1 m_Img_largestCommon.2.2.2.2 ∈ am_all := (am_mem (tb2 229 rfl) rfl)
abbrev m_Img_noteExports : am_M := ("SpanLinker$Image", ⟨"SpanLinker$Image", "noteExports", "(I)V"⟩, prog_2_method_15_code, 4, none)
theorem cw_Img_noteExports : Cond.code m_Img_noteExports.2.1 m_Img_noteExports.2.2.1 m_Img_noteExports.2.2.2.1 m_Img_noteExports.2.2.2.2 ∈ am_all := (am_mem (tb3 0 rfl) rfl)
abbrev m_Img_standsFor : am_M := ("SpanLinker$Image", ⟨"SpanLinker$Image", "standsFor", "(II)I"⟩, prog_2_method_16_code, 5, some .int)
theorem cw_Img_standsFor : Cond.code m_Img_standsFor.2.1 m_Img_standsFor.2.2.1 m_Img_standsFor.2.2.2.1 m_Img_standsFor.2.2.2.2 ∈ am_all := (am_mem (tb3 6 rfl) rfl)
abbrev m_Img_addressOf : am_M := ("SpanLinker$Image", ⟨"SpanLinker$Image", "addressOf", "(II)I"⟩, prog_2_method_17_code, 4, some .int)
theorem cw_Img_addressOf : Cond.code m_Img_addressOf.2.1 m_Img_addressOf.2.2.1 m_Img_addressOf.2.2.2.1 m_Img_addressOf.2.2.2.2 ∈ am_all := (am_mem (tb3 26 rfl) rfl)
abbrev m_Img_makeWordsZero : am_M := ("SpanLinker$Image", ⟨"SpanLinker$Image", "makeWordsZero", "()V"⟩, prog_2_method_18_code, 2, none)
theorem cw_Img_makeWordsZero : Cond.code m_Img_makeWordsZero.2.1 m_Img_makeWordsZero.2.2.1 m_Img_makeWordsZero.2.2.2.1 m_Img_makeWordsZero.2.2.2.2 ∈ am_all := (am_mem (tb3 38 rfl) rfl)
abbrev m_Img_writeModule : am_M := ("SpanLinker$Image", ⟨"SpanLinker$Image", "writeModule", "(I)V"⟩, prog_2_method_19_code, 7, none)
theorem cw_Img_writeModule : Cond.code m_Img_writeModule.2.1 m_Img_writeModule.2.2.1 m_Img_writeModule.2.2.2.1 m_Img_writeModule.2.2.2.2 ∈ am_all := (am_mem (tb3 42 rfl) rfl)
abbrev m_Img_writeJump : am_M := ("SpanLinker$Image", ⟨"SpanLinker$Image", "writeJump", "(III)V"⟩, prog_2_method_20_code, 6, none)
theorem cw_Img_writeJump : Cond.code m_Img_writeJump.2.1 m_Img_writeJump.2.2.1 m_Img_writeJump.2.2.2.1 m_Img_writeJump.2.2.2.2 ∈ am_all := (am_mem (tb3 57 rfl) rfl)
abbrev m_Inc_init : am_M := ("SpanLinker$Inclusion", ⟨"SpanLinker$Inclusion", "<init>", "([LSpanLinker$SourceModule;)V"⟩, prog_3_method_1_code, 2, none)
theorem cw_Inc_init : Cond.code m_Inc_init.2.1 m_Inc_init.2.2.1 m_Inc_init.2.2.2.1 m_Inc_init.2.2.2.2 ∈ am_all := (am_mem (tb1 73 rfl) rfl)
abbrev m_Inc_goOver : am_M := ("SpanLinker$Inclusion", ⟨"SpanLinker$Inclusion", "goOver", "(LSpanLinker$Row;LSpanLinker$Row;I)V"⟩, prog_3_method_2_code, 5, none)
theorem cw_Inc_goOver : Cond.code m_Inc_goOver.2.1 m_Inc_goOver.2.2.1 m_Inc_goOver.2.2.2.1 m_Inc_goOver.2.2.2.2 ∈ am_all := (am_mem (tb2 153 rfl) rfl)
abbrev m_Inc_howMany : am_M := ("SpanLinker$Inclusion", ⟨"SpanLinker$Inclusion", "howMany", "()I"⟩, prog_3_method_3_code, 1, some .int)
theorem cw_Inc_howMany : Cond.code m_Inc_howMany.2.1 m_Inc_howMany.2.2.1 m_Inc_howMany.2.2.2.1 m_Inc_howMany.2.2.2.2 ∈ am_all := (am_mem (tb2 211 rfl) rfl)
abbrev m_Inc_moduleAt : am_M := ("SpanLinker$Inclusion", ⟨"SpanLinker$Inclusion", "moduleAt", "(I)I"⟩, prog_3_method_4_code, 2, some .int)
theorem cw_Inc_moduleAt : Cond.code m_Inc_moduleAt.2.1 m_Inc_moduleAt.2.2.1 m_Inc_moduleAt.2.2.2.1 m_Inc_moduleAt.2.2.2.2 ∈ am_all := (am_mem (tb2 215 rfl) rfl)
abbrev m_Inc_hasDouble : am_M := ("SpanLinker$Inclusion", ⟨"SpanLinker$Inclusion", "hasDouble", "()Z"⟩, prog_3_method_5_code, 1, some .boolean)
theorem cw_Inc_hasDouble : Cond.code m_Inc_hasDouble.2.1 m_Inc_hasDouble.2.2.1 m_Inc_hasDouble.2.2.2.1 m_Inc_hasDouble.2.2.2.2 ∈ am_all := (am_mem (tb2 198 rfl) rfl)
abbrev m_Inc_wantedNames : am_M := ("SpanLinker$Inclusion", ⟨"SpanLinker$Inclusion", "wantedNames", "()I"⟩, prog_3_method_6_code, 1, some .int)
theorem cw_Inc_wantedNames : Cond.code m_Inc_wantedNames.2.1 m_Inc_wantedNames.2.2.1 m_Inc_wantedNames.2.2.2.1 m_Inc_wantedNames.2.2.2.2 ∈ am_all := (am_mem (tb2 181 rfl) rfl)
abbrev m_Inc_isLoneCommon : am_M := ("SpanLinker$Inclusion", ⟨"SpanLinker$Inclusion", "isLoneCommon", "(I)Z"⟩, prog_3_method_7_code, 2, some .boolean)
theorem cw_Inc_isLoneCommon : Cond.code m_Inc_isLoneCommon.2.1 m_Inc_isLoneCommon.2.2.1 m_Inc_isLoneCommon.2.2.2.1 m_Inc_isLoneCommon.2.2.2.2 ∈ am_all := (am_mem (tb2 224 rfl) rfl)
abbrev m_Inc_search : am_M := ("SpanLinker$Inclusion", ⟨"SpanLinker$Inclusion", "search", "(LSpanLinker$Row;)V"⟩, prog_3_method_8_code, 3, none)
theorem cw_Inc_search : Cond.code m_Inc_search.2.1 m_Inc_search.2.2.1 m_Inc_search.2.2.2.1 m_Inc_search.2.2.2.2 ∈ am_all := (am_mem (tb2 164 rfl) rfl)
abbrev m_Inc_includeWantedMembers : am_M := ("SpanLinker$Inclusion", ⟨"SpanLinker$Inclusion", "includeWantedMembers", "(LSpanLinker$Row;)Z"⟩, prog_3_method_9_code, 5, some .boolean)
theorem cw_Inc_includeWantedMembers : Cond.code m_Inc_includeWantedMembers.2.1 m_Inc_includeWantedMembers.2.2.1 m_Inc_includeWantedMembers.2.2.2.1 m_Inc_includeWantedMembers.2.2.2.2 ∈ am_all := (am_mem (tb2 168 rfl) rfl)
abbrev m_Inc_exportsWantedName : am_M := ("SpanLinker$Inclusion", ⟨"SpanLinker$Inclusion", "exportsWantedName", "(I)Z"⟩, prog_3_method_10_code, 2, some .boolean)
theorem cw_Inc_exportsWantedName : Cond.code m_Inc_exportsWantedName.2.1 m_Inc_exportsWantedName.2.2.1 m_Inc_exportsWantedName.2.2.2.1 m_Inc_exportsWantedName.2.2.2.2 ∈ am_all := (am_mem (tb2 173 rfl) rfl)
abbrev m_Inc_include : am_M := ("SpanLinker$Inclusion", ⟨"SpanLinker$Inclusion", "include", "(I)V"⟩, prog_3_method_11_code, 3, none)
theorem cw_Inc_include : Cond.code m_Inc_include.2.1 m_Inc_include.2.2.1 m_Inc_include.2.2.2.1 m_Inc_include.2.2.2.2 ∈ am_all := (am_mem (tb2 185 rfl) rfl)
abbrev m_Mac_init : am_M := ("SpanLinker$Machine", ⟨"SpanLinker$Machine", "<init>", "()V"⟩, prog_4_method_1_code, 1, none)
theorem cw_Mac_init : Cond.code m_Mac_init.2.1 m_Mac_init.2.2.1 m_Mac_init.2.2.2.1 m_Mac_init.2.2.2.2 ∈ am_all := (am_mem (tb1 152 rfl) rfl)
abbrev m_Mac_throwAway : am_M := ("SpanLinker$Machine", ⟨"SpanLinker$Machine", "throwAway", "()V"⟩, prog_4_method_2_code, 1, none)
theorem cw_Mac_throwAway : Cond.code m_Mac_throwAway.2.1 m_Mac_throwAway.2.2.1 m_Mac_throwAway.2.2.2.1 m_Mac_throwAway.2.2.2.2 ∈ am_all := (am_mem (tb2 149 rfl) rfl)
abbrev m_Mac_isThere : am_M := ("SpanLinker$Machine", ⟨"SpanLinker$Machine", "isThere", "()Z"⟩, prog_4_method_3_code, 1, some .boolean)
theorem cw_Mac_isThere : Cond.code m_Mac_isThere.2.1 m_Mac_isThere.2.2.1 m_Mac_isThere.2.2.2.1 m_Mac_isThere.2.2.2.2 ∈ am_all := (am_mem (tb3 147 rfl) rfl)
abbrev m_Mac_begin : am_M := ("SpanLinker$Machine", ⟨"SpanLinker$Machine", "begin", "(LSpanLinker$Image;)V"⟩, prog_4_method_4_code, 3, none)
theorem cw_Mac_begin : Cond.code m_Mac_begin.2.1 m_Mac_begin.2.2.1 m_Mac_begin.2.2.2.1 m_Mac_begin.2.2.2.2 ∈ am_all := (am_mem (tb3 117 rfl) rfl)
abbrev m_Mac_putOnTape : am_M := ("SpanLinker$Machine", ⟨"SpanLinker$Machine", "putOnTape", "(I)Z"⟩, prog_4_method_5_code, 2, some .boolean)
theorem cw_Mac_putOnTape : Cond.code m_Mac_putOnTape.2.1 m_Mac_putOnTape.2.2.1 m_Mac_putOnTape.2.2.2.1 m_Mac_putOnTape.2.2.2.2 ∈ am_all := (am_mem (tb3 138 rfl) rfl)
abbrev m_Mac_doSteps : am_M := ("SpanLinker$Machine", ⟨"SpanLinker$Machine", "doSteps", "(I)I"⟩, prog_4_method_6_code, 3, some .int)
theorem cw_Mac_doSteps : Cond.code m_Mac_doSteps.2.1 m_Mac_doSteps.2.2.1 m_Mac_doSteps.2.2.2.1 m_Mac_doSteps.2.2.2.2 ∈ am_all := (am_mem (tb3 151 rfl) rfl)
abbrev m_Mac_registerAt : am_M := ("SpanLinker$Machine", ⟨"SpanLinker$Machine", "registerAt", "(I)I"⟩, prog_4_method_7_code, 2, some .int)
theorem cw_Mac_registerAt : Cond.code m_Mac_registerAt.2.1 m_Mac_registerAt.2.2.1 m_Mac_registerAt.2.2.2.1 m_Mac_registerAt.2.2.2.2 ∈ am_all := (am_mem (tb3 200 rfl) rfl)
abbrev m_Mac_wordAt : am_M := ("SpanLinker$Machine", ⟨"SpanLinker$Machine", "wordAt", "(I)I"⟩, prog_4_method_8_code, 2, some .int)
theorem cw_Mac_wordAt : Cond.code m_Mac_wordAt.2.1 m_Mac_wordAt.2.2.1 m_Mac_wordAt.2.2.2.1 m_Mac_wordAt.2.2.2.2 ∈ am_all := (am_mem (tb3 212 rfl) rfl)
abbrev m_Mac_latestWord : am_M := ("SpanLinker$Machine", ⟨"SpanLinker$Machine", "latestWord", "(I)I"⟩, prog_4_method_9_code, 2, some .int)
theorem cw_Mac_latestWord : Cond.code m_Mac_latestWord.2.1 m_Mac_latestWord.2.2.1 m_Mac_latestWord.2.2.2.1 m_Mac_latestWord.2.2.2.2 ∈ am_all := (am_mem (tb3 204 rfl) rfl)
abbrev m_Mac_isInside : am_M := ("SpanLinker$Machine", ⟨"SpanLinker$Machine", "isInside", "(I)Z"⟩, prog_4_method_10_code, 2, some .boolean)
theorem cw_Mac_isInside : Cond.code m_Mac_isInside.2.1 m_Mac_isInside.2.2.1 m_Mac_isInside.2.2.2.1 m_Mac_isInside.2.2.2.2 ∈ am_all := (am_mem (tb3 159 rfl) rfl)
abbrev m_Mac_doStep : am_M := ("SpanLinker$Machine", ⟨"SpanLinker$Machine", "doStep", "()V"⟩, prog_4_method_11_code, 3, none)
theorem cw_Mac_doStep : Cond.code m_Mac_doStep.2.1 m_Mac_doStep.2.2.1 m_Mac_doStep.2.2.2.1 m_Mac_doStep.2.2.2.2 ∈ am_all := (am_mem (tb3 155 rfl) rfl)
abbrev m_Mac_isTwoWordsLong : am_M := ("SpanLinker$Machine", ⟨"SpanLinker$Machine", "isTwoWordsLong", "(I)Z"⟩, prog_4_method_12_code, 1, some .boolean)
theorem cw_Mac_isTwoWordsLong : Cond.code m_Mac_isTwoWordsLong.2.1 m_Mac_isTwoWordsLong.2.2.1 m_Mac_isTwoWordsLong.2.2.2.1 m_Mac_isTwoWordsLong.2.2.2.2 ∈ am_all := (am_mem (tb3 162 rfl) rfl)
abbrev m_Mac_doTwoWords : am_M := ("SpanLinker$Machine", ⟨"SpanLinker$Machine", "doTwoWords", "(II)V"⟩, prog_4_method_13_code, 5, none)
theorem cw_Mac_doTwoWords : Cond.code m_Mac_doTwoWords.2.1 m_Mac_doTwoWords.2.2.1 m_Mac_doTwoWords.2.2.2.1 m_Mac_doTwoWords.2.2.2.2 ∈ am_all := (am_mem (tb3 167 rfl) rfl)
abbrev m_Mac_mayTouch : am_M := ("SpanLinker$Machine", ⟨"SpanLinker$Machine", "mayTouch", "(II)Z"⟩, prog_4_method_14_code, 3, some .boolean)
theorem cw_Mac_mayTouch : Cond.code m_Mac_mayTouch.2.1 m_Mac_mayTouch.2.2.1 m_Mac_mayTouch.2.2.2.1 m_Mac_mayTouch.2.2.2.2 ∈ am_all := (am_mem (tb3 171 rfl) rfl)
abbrev m_Mac_doOneWord : am_M := ("SpanLinker$Machine", ⟨"SpanLinker$Machine", "doOneWord", "(II)V"⟩, prog_4_method_15_code, 4, none)
theorem cw_Mac_doOneWord : Cond.code m_Mac_doOneWord.2.1 m_Mac_doOneWord.2.2.1 m_Mac_doOneWord.2.2.2.1 m_Mac_doOneWord.2.2.2.2 ∈ am_all := (am_mem (tb3 181 rfl) rfl)
abbrev m_Mac_signed : am_M := ("SpanLinker$Machine", ⟨"SpanLinker$Machine", "signed", "(I)I"⟩, prog_4_method_16_code, 1, some .int)
theorem cw_Mac_signed : Cond.code m_Mac_signed.2.1 m_Mac_signed.2.2.1 m_Mac_signed.2.2.2.1 m_Mac_signed.2.2.2.2 ∈ am_all := (am_mem (tb3 184 rfl) rfl)
abbrev m_Mac_conditionHolds : am_M := ("SpanLinker$Machine", ⟨"SpanLinker$Machine", "conditionHolds", "(I)Z"⟩, prog_4_method_17_code, 2, some .boolean)
theorem cw_Mac_conditionHolds : Cond.code m_Mac_conditionHolds.2.1 m_Mac_conditionHolds.2.2.1 m_Mac_conditionHolds.2.2.2.1 m_Mac_conditionHolds.2.2.2.2 ∈ am_all := (am_mem (tb3 176 rfl) rfl)
abbrev m_Mac_putOutA : am_M := ("SpanLinker$Machine", ⟨"SpanLinker$Machine", "putOutA", "()V"⟩, prog_4_method_18_code, 2, none)
theorem cw_Mac_putOutA : Cond.code m_Mac_putOutA.2.1 m_Mac_putOutA.2.2.1 m_Mac_putOutA.2.2.2.1 m_Mac_putOutA.2.2.2.2 ∈ am_all := (am_mem (tb3 188 rfl) rfl)
abbrev m_Mac_nextOfTape : am_M := ("SpanLinker$Machine", ⟨"SpanLinker$Machine", "nextOfTape", "()I"⟩, prog_4_method_19_code, 2, some .int)
theorem cw_Mac_nextOfTape : Cond.code m_Mac_nextOfTape.2.1 m_Mac_nextOfTape.2.2.1 m_Mac_nextOfTape.2.2.2.1 m_Mac_nextOfTape.2.2.2.2 ∈ am_all := (am_mem (tb3 192 rfl) rfl)
abbrev m_Row_init : am_M := ("SpanLinker$Row", ⟨"SpanLinker$Row", "<init>", "(I)V"⟩, prog_5_method_1_code, 2, none)
theorem cw_Row_init : Cond.code m_Row_init.2.1 m_Row_init.2.2.1 m_Row_init.2.2.2.1 m_Row_init.2.2.2.2 ∈ am_all := (am_mem (tb1 79 rfl) rfl)
abbrev m_Row_howMany : am_M := ("SpanLinker$Row", ⟨"SpanLinker$Row", "howMany", "()I"⟩, prog_5_method_2_code, 1, some .int)
theorem cw_Row_howMany : Cond.code m_Row_howMany.2.1 m_Row_howMany.2.2.1 m_Row_howMany.2.2.2.1 m_Row_howMany.2.2.2.2 ∈ am_all := (am_mem (tb2 159 rfl) rfl)
abbrev m_Row_at : am_M := ("SpanLinker$Row", ⟨"SpanLinker$Row", "at", "(I)I"⟩, prog_5_method_3_code, 2, some .int)
theorem cw_Row_at : Cond.code m_Row_at.2.1 m_Row_at.2.2.1 m_Row_at.2.2.2.1 m_Row_at.2.2.2.2 ∈ am_all := (am_mem (tb2 120 rfl) rfl)
abbrev m_Row_placeOf : am_M := ("SpanLinker$Row", ⟨"SpanLinker$Row", "placeOf", "(I)I"⟩, prog_5_method_4_code, 3, some .int)
theorem cw_Row_placeOf : Cond.code m_Row_placeOf.2.1 m_Row_placeOf.2.2.1 m_Row_placeOf.2.2.2.1 m_Row_placeOf.2.2.2.2 ∈ am_all := (am_mem (tb2 90 rfl) rfl)
abbrev m_Row_holds : am_M := ("SpanLinker$Row", ⟨"SpanLinker$Row", "holds", "(I)Z"⟩, prog_5_method_5_code, 2, some .boolean)
theorem cw_Row_holds : Cond.code m_Row_holds.2.1 m_Row_holds.2.2.1 m_Row_holds.2.2.2.1 m_Row_holds.2.2.2.2 ∈ am_all := (am_mem (tb2 86 rfl) rfl)
abbrev m_Row_append : am_M := ("SpanLinker$Row", ⟨"SpanLinker$Row", "append", "(I)Z"⟩, prog_5_method_6_code, 2, some .boolean)
theorem cw_Row_append : Cond.code m_Row_append.2.1 m_Row_append.2.2.1 m_Row_append.2.2.2.1 m_Row_append.2.2.2.2 ∈ am_all := (am_mem (tb2 102 rfl) rfl)
abbrev m_Row_insert : am_M := ("SpanLinker$Row", ⟨"SpanLinker$Row", "insert", "(II)Z"⟩, prog_5_method_7_code, 4, some .boolean)
theorem cw_Row_insert : Cond.code m_Row_insert.2.1 m_Row_insert.2.2.1 m_Row_insert.2.2.2.1 m_Row_insert.2.2.2.2 ∈ am_all := (am_mem (tb2 106 rfl) rfl)
abbrev m_Row_takeOut : am_M := ("SpanLinker$Row", ⟨"SpanLinker$Row", "takeOut", "(I)Z"⟩, prog_5_method_8_code, 4, some .boolean)
theorem cw_Row_takeOut : Cond.code m_Row_takeOut.2.1 m_Row_takeOut.2.2.1 m_Row_takeOut.2.2.2.1 m_Row_takeOut.2.2.2.2 ∈ am_all := (am_mem (tb2 98 rfl) rfl)
abbrev m_Row_makeEmpty : am_M := ("SpanLinker$Row", ⟨"SpanLinker$Row", "makeEmpty", "()V"⟩, prog_5_method_9_code, 1, none)
theorem cw_Row_makeEmpty : Cond.code m_Row_makeEmpty.2.1 m_Row_makeEmpty.2.2.1 m_Row_makeEmpty.2.2.2.1 m_Row_makeEmpty.2.2.2.2 ∈ am_all := (am_mem (tb2 136 rfl) rfl)
abbrev m_Mod_init : am_M := ("SpanLinker$SourceModule", ⟨"SpanLinker$SourceModule", "<init>", "()V"⟩, prog_6_method_1_code, 1, none)
theorem cw_Mod_init : Cond.code m_Mod_init.2.1 m_Mod_init.2.2.1 m_Mod_init.2.2.2.1 m_Mod_init.2.2.2.2 ∈ am_all := (am_mem (tb1 25 rfl) rfl)
abbrev m_Mod_accepts : am_M := ("SpanLinker$SourceModule", ⟨"SpanLinker$SourceModule", "accepts", "(III)Z"⟩, prog_6_method_2_code, 4, some .boolean)
theorem cw_Mod_accepts : Cond.code m_Mod_accepts.2.1 m_Mod_accepts.2.2.1 m_Mod_accepts.2.2.2.1 m_Mod_accepts.2.2.2.2 ∈ am_all := (am_mem (tb1 226 rfl) rfl)
abbrev m_Mod_append : am_M := ("SpanLinker$SourceModule", ⟨"SpanLinker$SourceModule", "append", "(III)V"⟩, prog_6_method_3_code, 5, none)
theorem cw_Mod_append : Cond.code m_Mod_append.2.1 m_Mod_append.2.2.1 m_Mod_append.2.2.2.1 m_Mod_append.2.2.2.2 ∈ am_all := (am_mem (tb2 22 rfl) rfl)
abbrev m_Mod_takeAllAway : am_M := ("SpanLinker$SourceModule", ⟨"SpanLinker$SourceModule", "takeAllAway", "()I"⟩, prog_6_method_4_code, 2, some .int)
theorem cw_Mod_takeAllAway : Cond.code m_Mod_takeAllAway.2.1 m_Mod_takeAllAway.2.2.1 m_Mod_takeAllAway.2.2.2.1 m_Mod_takeAllAway.2.2.2.2 ∈ am_all := (am_mem (tb2 61 rfl) rfl)
abbrev m_Mod_howMany : am_M := ("SpanLinker$SourceModule", ⟨"SpanLinker$SourceModule", "howMany", "()I"⟩, prog_6_method_5_code, 1, some .int)
theorem cw_Mod_howMany : Cond.code m_Mod_howMany.2.1 m_Mod_howMany.2.2.1 m_Mod_howMany.2.2.2.1 m_Mod_howMany.2.2.2.2 ∈ am_all := (am_mem (tb3 46 rfl) rfl)
abbrev m_Mod_kindOf : am_M := ("SpanLinker$SourceModule", ⟨"SpanLinker$SourceModule", "kindOf", "(I)I"⟩, prog_6_method_6_code, 2, some .int)
theorem cw_Mod_kindOf : Cond.code m_Mod_kindOf.2.1 m_Mod_kindOf.2.2.1 m_Mod_kindOf.2.2.2.1 m_Mod_kindOf.2.2.2.2 ∈ am_all := (am_mem (tb3 18 rfl) rfl)
abbrev m_Mod_firstOf : am_M := ("SpanLinker$SourceModule", ⟨"SpanLinker$SourceModule", "firstOf", "(I)I"⟩, prog_6_method_7_code, 2, some .int)
theorem cw_Mod_firstOf : Cond.code m_Mod_firstOf.2.1 m_Mod_firstOf.2.2.1 m_Mod_firstOf.2.2.2.1 m_Mod_firstOf.2.2.2.2 ∈ am_all := (am_mem (tb3 50 rfl) rfl)
abbrev m_Mod_secondOf : am_M := ("SpanLinker$SourceModule", ⟨"SpanLinker$SourceModule", "secondOf", "(I)I"⟩, prog_6_method_8_code, 2, some .int)
theorem cw_Mod_secondOf : Cond.code m_Mod_secondOf.2.1 m_Mod_secondOf.2.2.1 m_Mod_secondOf.2.2.2.1 m_Mod_secondOf.2.2.2.2 ∈ am_all := (am_mem (tb3 22 rfl) rfl)
abbrev m_Mod_sectionOf : am_M := ("SpanLinker$SourceModule", ⟨"SpanLinker$SourceModule", "sectionOf", "(I)I"⟩, prog_6_method_9_code, 2, some .int)
theorem cw_Mod_sectionOf : Cond.code m_Mod_sectionOf.2.1 m_Mod_sectionOf.2.2.1 m_Mod_sectionOf.2.2.2.1 m_Mod_sectionOf.2.2.2.2 ∈ am_all := (am_mem (tb3 30 rfl) rfl)
abbrev m_Mod_placeOf : am_M := ("SpanLinker$SourceModule", ⟨"SpanLinker$SourceModule", "placeOf", "(I)I"⟩, prog_6_method_10_code, 2, some .int)
theorem cw_Mod_placeOf : Cond.code m_Mod_placeOf.2.1 m_Mod_placeOf.2.2.1 m_Mod_placeOf.2.2.2.1 m_Mod_placeOf.2.2.2.2 ∈ am_all := (am_mem (tb3 34 rfl) rfl)
abbrev m_Mod_holderOf : am_M := ("SpanLinker$SourceModule", ⟨"SpanLinker$SourceModule", "holderOf", "(I)I"⟩, prog_6_method_11_code, 2, some .int)
theorem cw_Mod_holderOf : Cond.code m_Mod_holderOf.2.1 m_Mod_holderOf.2.2.1 m_Mod_holderOf.2.2.2.1 m_Mod_holderOf.2.2.2.2 ∈ am_all := (am_mem (tb3 14 rfl) rfl)
abbrev m_Mod_wordsIn : am_M := ("SpanLinker$SourceModule", ⟨"SpanLinker$SourceModule", "wordsIn", "(I)I"⟩, prog_6_method_12_code, 2, some .int)
theorem cw_Mod_wordsIn : Cond.code m_Mod_wordsIn.2.1 m_Mod_wordsIn.2.2.1 m_Mod_wordsIn.2.2.2.1 m_Mod_wordsIn.2.2.2.2 ∈ am_all := (am_mem (tb2 70 rfl) rfl)
abbrev m_Mod_isLongJump : am_M := ("SpanLinker$SourceModule", ⟨"SpanLinker$SourceModule", "isLongJump", "(I)Z"⟩, prog_6_method_13_code, 2, some .boolean)
theorem cw_Mod_isLongJump : Cond.code m_Mod_isLongJump.2.1 m_Mod_isLongJump.2.2.1 m_Mod_isLongJump.2.2.2.1 m_Mod_isLongJump.2.2.2.2 ∈ am_all := (am_mem (tb2 78 rfl) rfl)
abbrev m_Mod_distanceOf : am_M := ("SpanLinker$SourceModule", ⟨"SpanLinker$SourceModule", "distanceOf", "(I)I"⟩, prog_6_method_14_code, 2, some .int)
theorem cw_Mod_distanceOf : Cond.code m_Mod_distanceOf.2.1 m_Mod_distanceOf.2.2.1 m_Mod_distanceOf.2.2.2.1 m_Mod_distanceOf.2.2.2.2 ∈ am_all := (am_mem (tb2 53 rfl) rfl)
abbrev m_Mod_defines : am_M := ("SpanLinker$SourceModule", ⟨"SpanLinker$SourceModule", "defines", "(I)Z"⟩, prog_6_method_15_code, 2, some .boolean)
theorem cw_Mod_defines : Cond.code m_Mod_defines.2.1 m_Mod_defines.2.2.1 m_Mod_defines.2.2.2.1 m_Mod_defines.2.2.2.2 ∈ am_all := (am_mem (tb3 10 rfl) rfl)
abbrev m_Mod_exportedNames : am_M := ("SpanLinker$SourceModule", ⟨"SpanLinker$SourceModule", "exportedNames", "()I"⟩, prog_6_method_16_code, 1, some .int)
theorem cw_Mod_exportedNames : Cond.code m_Mod_exportedNames.2.1 m_Mod_exportedNames.2.2.1 m_Mod_exportedNames.2.2.2.1 m_Mod_exportedNames.2.2.2.2 ∈ am_all := (am_mem (tb2 177 rfl) rfl)
abbrev m_Mod_referredNames : am_M := ("SpanLinker$SourceModule", ⟨"SpanLinker$SourceModule", "referredNames", "()I"⟩, prog_6_method_17_code, 1, some .int)
theorem cw_Mod_referredNames : Cond.code m_Mod_referredNames.2.1 m_Mod_referredNames.2.2.1 m_Mod_referredNames.2.2.2.1 m_Mod_referredNames.2.2.2.2 ∈ am_all := (am_mem (tb2 194 rfl) rfl)
abbrev m_Mod_commons : am_M := ("SpanLinker$SourceModule", ⟨"SpanLinker$SourceModule", "commons", "()I"⟩, prog_6_method_18_code, 1, some .int)
theorem cw_Mod_commons : Cond.code m_Mod_commons.2.1 m_Mod_commons.2.2.1 m_Mod_commons.2.2.2.1 m_Mod_commons.2.2.2.2 ∈ am_all := (am_mem (tb2 190 rfl) rfl)
abbrev m_Mod_wordsOfCommon : am_M := ("SpanLinker$SourceModule", ⟨"SpanLinker$SourceModule", "wordsOfCommon", "(I)I"⟩, prog_6_method_19_code, 2, some .int)
theorem cw_Mod_wordsOfCommon : Cond.code m_Mod_wordsOfCommon.2.1 m_Mod_wordsOfCommon.2.2.1 m_Mod_wordsOfCommon.2.2.2.1 m_Mod_wordsOfCommon.2.2.2.2 ∈ am_all := (am_mem (tb2 233 rfl) rfl)
abbrev m_Mod_hasFittingNumbers : am_M := ("SpanLinker$SourceModule", ⟨"SpanLinker$SourceModule", "hasFittingNumbers", "(III)Z"⟩, prog_6_method_20_code, 3, some .boolean)
theorem cw_Mod_hasFittingNumbers : Cond.code m_Mod_hasFittingNumbers.2.1 m_Mod_hasFittingNumbers.2.2.1 m_Mod_hasFittingNumbers.2.2.2.1 m_Mod_hasFittingNumbers.2.2.2.2 ∈ am_all := (am_mem (tb1 229 rfl) rfl)
abbrev m_Mod_mayStandInSection : am_M := ("SpanLinker$SourceModule", ⟨"SpanLinker$SourceModule", "mayStandInSection", "(I)Z"⟩, prog_6_method_21_code, 2, some .boolean)
theorem cw_Mod_mayStandInSection : Cond.code m_Mod_mayStandInSection.2.1 m_Mod_mayStandInSection.2.2.1 m_Mod_mayStandInSection.2.2.2.1 m_Mod_mayStandInSection.2.2.2.2 ∈ am_all := (am_mem (tb2 4 rfl) rfl)
abbrev m_Mod_isSaidTwice : am_M := ("SpanLinker$SourceModule", ⟨"SpanLinker$SourceModule", "isSaidTwice", "(II)Z"⟩, prog_6_method_22_code, 3, some .boolean)
theorem cw_Mod_isSaidTwice : Cond.code m_Mod_isSaidTwice.2.1 m_Mod_isSaidTwice.2.2.1 m_Mod_isSaidTwice.2.2.2.1 m_Mod_isSaidTwice.2.2.2.2 ∈ am_all := (am_mem (tb2 12 rfl) rfl)
abbrev m_Mod_holdsName : am_M := ("SpanLinker$SourceModule", ⟨"SpanLinker$SourceModule", "holdsName", "(I)Z"⟩, prog_6_method_23_code, 1, some .boolean)
theorem cw_Mod_holdsName : Cond.code m_Mod_holdsName.2.1 m_Mod_holdsName.2.2.1 m_Mod_holdsName.2.2.2.1 m_Mod_holdsName.2.2.2.2 ∈ am_all := (am_mem (tb2 15 rfl) rfl)
abbrev m_Mod_currentSection : am_M := ("SpanLinker$SourceModule", ⟨"SpanLinker$SourceModule", "currentSection", "()I"⟩, prog_6_method_24_code, 1, some .int)
theorem cw_Mod_currentSection : Cond.code m_Mod_currentSection.2.1 m_Mod_currentSection.2.2.1 m_Mod_currentSection.2.2.2.1 m_Mod_currentSection.2.2.2.2 ∈ am_all := (am_mem (tb2 8 rfl) rfl)
abbrev m_Mod_noteName : am_M := ("SpanLinker$SourceModule", ⟨"SpanLinker$SourceModule", "noteName", "(II)V"⟩, prog_6_method_25_code, 3, none)
theorem cw_Mod_noteName : Cond.code m_Mod_noteName.2.1 m_Mod_noteName.2.2.1 m_Mod_noteName.2.2.2.1 m_Mod_noteName.2.2.2.2 ∈ am_all := (am_mem (tb2 26 rfl) rfl)
abbrev m_Mod_settleJumps : am_M := ("SpanLinker$SourceModule", ⟨"SpanLinker$SourceModule", "settleJumps", "()V"⟩, prog_6_method_26_code, 2, none)
theorem cw_Mod_settleJumps : Cond.code m_Mod_settleJumps.2.1 m_Mod_settleJumps.2.2.1 m_Mod_settleJumps.2.2.2.1 m_Mod_settleJumps.2.2.2.2 ∈ am_all := (am_mem (tb2 33 rfl) rfl)
abbrev m_Mod_aimsAtOwnText : am_M := ("SpanLinker$SourceModule", ⟨"SpanLinker$SourceModule", "aimsAtOwnText", "(I)Z"⟩, prog_6_method_27_code, 4, some .boolean)
theorem cw_Mod_aimsAtOwnText : Cond.code m_Mod_aimsAtOwnText.2.1 m_Mod_aimsAtOwnText.2.2.1 m_Mod_aimsAtOwnText.2.2.2.1 m_Mod_aimsAtOwnText.2.2.2.2 ∈ am_all := (am_mem (tb2 37 rfl) rfl)
abbrev m_Mod_placeWords : am_M := ("SpanLinker$SourceModule", ⟨"SpanLinker$SourceModule", "placeWords", "()V"⟩, prog_6_method_28_code, 3, none)
theorem cw_Mod_placeWords : Cond.code m_Mod_placeWords.2.1 m_Mod_placeWords.2.2.1 m_Mod_placeWords.2.2.2.1 m_Mod_placeWords.2.2.2.2 ∈ am_all := (am_mem (tb2 41 rfl) rfl)
abbrev m_Mod_wordsOf : am_M := ("SpanLinker$SourceModule", ⟨"SpanLinker$SourceModule", "wordsOf", "(I)I"⟩, prog_6_method_29_code, 2, some .int)
theorem cw_Mod_wordsOf : Cond.code m_Mod_wordsOf.2.1 m_Mod_wordsOf.2.2.1 m_Mod_wordsOf.2.2.2.1 m_Mod_wordsOf.2.2.2.2 ∈ am_all := (am_mem (tb2 45 rfl) rfl)
abbrev m_Mod_lengthenFarJumps : am_M := ("SpanLinker$SourceModule", ⟨"SpanLinker$SourceModule", "lengthenFarJumps", "()Z"⟩, prog_6_method_30_code, 3, some .boolean)
theorem cw_Mod_lengthenFarJumps : Cond.code m_Mod_lengthenFarJumps.2.1 m_Mod_lengthenFarJumps.2.2.1 m_Mod_lengthenFarJumps.2.2.2.1 m_Mod_lengthenFarJumps.2.2.2.2 ∈ am_all := (am_mem (tb2 49 rfl) rfl)
abbrev m_Law_law : am_M := ("SpanLinkerLaw", ⟨"SpanLinkerLaw", "law", "([I)Z"⟩, code, 4, some .boolean)
end
section
theorem fk_SL_18 : fk "SpanLinker" 18 0 0 := ⟨"SpanLinker", T_SL, 6, rfl, in_SL, by decide, (am_mem (tb1 194 rfl) rfl)⟩
theorem fk_SL_27 : fk "SpanLinker" 27 0 1 := ⟨"SpanLinker", T_SL, 6, rfl, in_SL, by decide, (am_mem (tb1 195 rfl) rfl)⟩
theorem fk_SL_31 : fk "SpanLinker" 31 0 2 := ⟨"SpanLinker", T_SL, 6, rfl, in_SL, by decide, (am_mem (tb1 196 rfl) rfl)⟩
theorem fk_SL_34 : fk "SpanLinker" 34 0 3 := ⟨"SpanLinker", T_SL, 6, rfl, in_SL, by decide, (am_mem (tb1 197 rfl) rfl)⟩
theorem fk_SL_43 : fk "SpanLinker" 43 0 4 := ⟨"SpanLinker", T_SL, 6, rfl, in_SL, by decide, (am_mem (tb1 198 rfl) rfl)⟩
theorem fk_SL_50 : fk "SpanLinker" 50 0 5 := ⟨"SpanLinker", T_SL, 6, rfl, in_SL, by decide, (am_mem (tb1 199 rfl) rfl)⟩
theorem fk_Img_11 : fk "SpanLinker$Image" 11 4 2 := ⟨"SpanLinker$Image", T_Img, 10, rfl, in_Img, by decide, (am_mem (tb1 119 rfl) rfl)⟩
theorem fk_Img_16 : fk "SpanLinker$Image" 16 4 3 := ⟨"SpanLinker$Image", T_Img, 10, rfl, in_Img, by decide, (am_mem (tb1 120 rfl) rfl)⟩
theorem fk_Img_20 : fk "SpanLinker$Image" 20 4 4 := ⟨"SpanLinker$Image", T_Img, 10, rfl, in_Img, by decide, (am_mem (tb1 121 rfl) rfl)⟩
theorem fk_Img_23 : fk "SpanLinker$Image" 23 4 5 := ⟨"SpanLinker$Image", T_Img, 10, rfl, in_Img, by decide, (am_mem (tb1 122 rfl) rfl)⟩
theorem fk_Img_26 : fk "SpanLinker$Image" 26 4 0 := ⟨"SpanLinker$Image", T_Img, 10, rfl, in_Img, by decide, (am_mem (tb1 117 rfl) rfl)⟩
theorem fk_Img_30 : fk "SpanLinker$Image" 30 4 1 := ⟨"SpanLinker$Image", T_Img, 10, rfl, in_Img, by decide, (am_mem (tb1 118 rfl) rfl)⟩
theorem fk_Img_34 : fk "SpanLinker$Image" 34 4 8 := ⟨"SpanLinker$Image", T_Img, 10, rfl, in_Img, by decide, (am_mem (tb1 125 rfl) rfl)⟩
theorem fk_Img_44 : fk "SpanLinker$Image" 44 4 6 := ⟨"SpanLinker$Image", T_Img, 10, rfl, in_Img, by decide, (am_mem (tb1 123 rfl) rfl)⟩
theorem fk_Img_68 : fk "SpanLinker$Image" 68 4 7 := ⟨"SpanLinker$Image", T_Img, 10, rfl, in_Img, by decide, (am_mem (tb1 124 rfl) rfl)⟩
theorem fk_Img_71 : fk "SpanLinker$Image" 71 4 9 := ⟨"SpanLinker$Image", T_Img, 10, rfl, in_Img, by decide, (am_mem (tb1 126 rfl) rfl)⟩
theorem fk_Inc_14 : fk "SpanLinker$Inclusion" 14 2 1 := ⟨"SpanLinker$Inclusion", T_Inc, 6, rfl, in_Inc, by decide, (am_mem (tb1 89 rfl) rfl)⟩
theorem fk_Inc_20 : fk "SpanLinker$Inclusion" 20 2 0 := ⟨"SpanLinker$Inclusion", T_Inc, 6, rfl, in_Inc, by decide, (am_mem (tb1 88 rfl) rfl)⟩
theorem fk_Inc_31 : fk "SpanLinker$Inclusion" 31 2 2 := ⟨"SpanLinker$Inclusion", T_Inc, 6, rfl, in_Inc, by decide, (am_mem (tb1 90 rfl) rfl)⟩
theorem fk_Inc_35 : fk "SpanLinker$Inclusion" 35 2 3 := ⟨"SpanLinker$Inclusion", T_Inc, 6, rfl, in_Inc, by decide, (am_mem (tb1 91 rfl) rfl)⟩
theorem fk_Inc_38 : fk "SpanLinker$Inclusion" 38 2 4 := ⟨"SpanLinker$Inclusion", T_Inc, 6, rfl, in_Inc, by decide, (am_mem (tb1 92 rfl) rfl)⟩
theorem fk_Inc_41 : fk "SpanLinker$Inclusion" 41 2 5 := ⟨"SpanLinker$Inclusion", T_Inc, 6, rfl, in_Inc, by decide, (am_mem (tb1 93 rfl) rfl)⟩
theorem fk_Mac_9 : fk "SpanLinker$Machine" 9 5 0 := ⟨"SpanLinker$Machine", T_Mac, 13, rfl, in_Mac, by decide, (am_mem (tb1 154 rfl) rfl)⟩
theorem fk_Mac_15 : fk "SpanLinker$Machine" 15 5 1 := ⟨"SpanLinker$Machine", T_Mac, 13, rfl, in_Mac, by decide, (am_mem (tb1 155 rfl) rfl)⟩
theorem fk_Mac_18 : fk "SpanLinker$Machine" 18 5 2 := ⟨"SpanLinker$Machine", T_Mac, 13, rfl, in_Mac, by decide, (am_mem (tb1 156 rfl) rfl)⟩
theorem fk_Mac_21 : fk "SpanLinker$Machine" 21 5 12 := ⟨"SpanLinker$Machine", T_Mac, 13, rfl, in_Mac, by decide, (am_mem (tb1 166 rfl) rfl)⟩
theorem fk_Mac_31 : fk "SpanLinker$Machine" 31 5 3 := ⟨"SpanLinker$Machine", T_Mac, 13, rfl, in_Mac, by decide, (am_mem (tb1 157 rfl) rfl)⟩
theorem fk_Mac_38 : fk "SpanLinker$Machine" 38 5 4 := ⟨"SpanLinker$Machine", T_Mac, 13, rfl, in_Mac, by decide, (am_mem (tb1 158 rfl) rfl)⟩
theorem fk_Mac_44 : fk "SpanLinker$Machine" 44 5 5 := ⟨"SpanLinker$Machine", T_Mac, 13, rfl, in_Mac, by decide, (am_mem (tb1 159 rfl) rfl)⟩
theorem fk_Mac_47 : fk "SpanLinker$Machine" 47 5 6 := ⟨"SpanLinker$Machine", T_Mac, 13, rfl, in_Mac, by decide, (am_mem (tb1 160 rfl) rfl)⟩
theorem fk_Mac_53 : fk "SpanLinker$Machine" 53 5 7 := ⟨"SpanLinker$Machine", T_Mac, 13, rfl, in_Mac, by decide, (am_mem (tb1 161 rfl) rfl)⟩
theorem fk_Mac_56 : fk "SpanLinker$Machine" 56 5 8 := ⟨"SpanLinker$Machine", T_Mac, 13, rfl, in_Mac, by decide, (am_mem (tb1 162 rfl) rfl)⟩
theorem fk_Mac_59 : fk "SpanLinker$Machine" 59 5 9 := ⟨"SpanLinker$Machine", T_Mac, 13, rfl, in_Mac, by decide, (am_mem (tb1 163 rfl) rfl)⟩
theorem fk_Mac_62 : fk "SpanLinker$Machine" 62 5 10 := ⟨"SpanLinker$Machine", T_Mac, 13, rfl, in_Mac, by decide, (am_mem (tb1 164 rfl) rfl)⟩
theorem fk_Mac_65 : fk "SpanLinker$Machine" 65 5 11 := ⟨"SpanLinker$Machine", T_Mac, 13, rfl, in_Mac, by decide, (am_mem (tb1 165 rfl) rfl)⟩
theorem fk_Row_9 : fk "SpanLinker$Row" 9 3 0 := ⟨"SpanLinker$Row", T_Row, 2, rfl, in_Row, by decide, (am_mem (tb1 81 rfl) rfl)⟩
theorem fk_Row_15 : fk "SpanLinker$Row" 15 3 1 := ⟨"SpanLinker$Row", T_Row, 2, rfl, in_Row, by decide, (am_mem (tb1 82 rfl) rfl)⟩
theorem fk_Mod_9 : fk "SpanLinker$SourceModule" 9 1 0 := ⟨"SpanLinker$SourceModule", T_Mod, 13, rfl, in_Mod, by decide, (am_mem (tb1 27 rfl) rfl)⟩
theorem fk_Mod_15 : fk "SpanLinker$SourceModule" 15 1 1 := ⟨"SpanLinker$SourceModule", T_Mod, 13, rfl, in_Mod, by decide, (am_mem (tb1 28 rfl) rfl)⟩
theorem fk_Mod_18 : fk "SpanLinker$SourceModule" 18 1 2 := ⟨"SpanLinker$SourceModule", T_Mod, 13, rfl, in_Mod, by decide, (am_mem (tb1 29 rfl) rfl)⟩
theorem fk_Mod_21 : fk "SpanLinker$SourceModule" 21 1 3 := ⟨"SpanLinker$SourceModule", T_Mod, 13, rfl, in_Mod, by decide, (am_mem (tb1 30 rfl) rfl)⟩
theorem fk_Mod_24 : fk "SpanLinker$SourceModule" 24 1 4 := ⟨"SpanLinker$SourceModule", T_Mod, 13, rfl, in_Mod, by decide, (am_mem (tb1 31 rfl) rfl)⟩
theorem fk_Mod_27 : fk "SpanLinker$SourceModule" 27 1 5 := ⟨"SpanLinker$SourceModule", T_Mod, 13, rfl, in_Mod, by decide, (am_mem (tb1 32 rfl) rfl)⟩
theorem fk_Mod_31 : fk "SpanLinker$SourceModule" 31 1 6 := ⟨"SpanLinker$SourceModule", T_Mod, 13, rfl, in_Mod, by decide, (am_mem (tb1 33 rfl) rfl)⟩
theorem fk_Mod_34 : fk "SpanLinker$SourceModule" 34 1 7 := ⟨"SpanLinker$SourceModule", T_Mod, 13, rfl, in_Mod, by decide, (am_mem (tb1 34 rfl) rfl)⟩
theorem fk_Mod_37 : fk "SpanLinker$SourceModule" 37 1 8 := ⟨"SpanLinker$SourceModule", T_Mod, 13, rfl, in_Mod, by decide, (am_mem (tb1 35 rfl) rfl)⟩
theorem fk_Mod_64 : fk "SpanLinker$SourceModule" 64 1 9 := ⟨"SpanLinker$SourceModule", T_Mod, 13, rfl, in_Mod, by decide, (am_mem (tb1 36 rfl) rfl)⟩
theorem fk_Mod_67 : fk "SpanLinker$SourceModule" 67 1 10 := ⟨"SpanLinker$SourceModule", T_Mod, 13, rfl, in_Mod, by decide, (am_mem (tb1 37 rfl) rfl)⟩
theorem fk_Mod_70 : fk "SpanLinker$SourceModule" 70 1 11 := ⟨"SpanLinker$SourceModule", T_Mod, 13, rfl, in_Mod, by decide, (am_mem (tb1 38 rfl) rfl)⟩
theorem fk_Mod_73 : fk "SpanLinker$SourceModule" 73 1 12 := ⟨"SpanLinker$SourceModule", T_Mod, 13, rfl, in_Mod, by decide, (am_mem (tb1 39 rfl) rfl)⟩
theorem fk_Ref_7 : fk "SpanLinkerModel" 7 6 0 := ⟨"SpanLinkerModel", T_Ref, 32, rfl, in_Ref, by decide, (am_mem (tb3 219 rfl) rfl)⟩
theorem fk_Ref_13 : fk "SpanLinkerModel" 13 6 1 := ⟨"SpanLinkerModel", T_Ref, 32, rfl, in_Ref, by decide, (am_mem (tb3 220 rfl) rfl)⟩
theorem fk_Ref_16 : fk "SpanLinkerModel" 16 6 2 := ⟨"SpanLinkerModel", T_Ref, 32, rfl, in_Ref, by decide, (am_mem (tb3 221 rfl) rfl)⟩
theorem fk_Ref_19 : fk "SpanLinkerModel" 19 6 3 := ⟨"SpanLinkerModel", T_Ref, 32, rfl, in_Ref, by decide, (am_mem (tb3 222 rfl) rfl)⟩
theorem fk_Ref_22 : fk "SpanLinkerModel" 22 6 4 := ⟨"SpanLinkerModel", T_Ref, 32, rfl, in_Ref, by decide, (am_mem (tb3 223 rfl) rfl)⟩
theorem fk_Ref_25 : fk "SpanLinkerModel" 25 6 5 := ⟨"SpanLinkerModel", T_Ref, 32, rfl, in_Ref, by decide, (am_mem (tb3 224 rfl) rfl)⟩
theorem fk_Ref_29 : fk "SpanLinkerModel" 29 6 7 := ⟨"SpanLinkerModel", T_Ref, 32, rfl, in_Ref, by decide, (am_mem (tb3 226 rfl) rfl)⟩
theorem fk_Ref_32 : fk "SpanLinkerModel" 32 6 9 := ⟨"SpanLinkerModel", T_Ref, 32, rfl, in_Ref, by decide, (am_mem (tb3 228 rfl) rfl)⟩
theorem fk_Ref_35 : fk "SpanLinkerModel" 35 6 10 := ⟨"SpanLinkerModel", T_Ref, 32, rfl, in_Ref, by decide, (am_mem (tb3 229 rfl) rfl)⟩
theorem fk_Ref_39 : fk "SpanLinkerModel" 39 6 12 := ⟨"SpanLinkerModel", T_Ref, 32, rfl, in_Ref, by decide, (am_mem (tb3 231 rfl) rfl)⟩
theorem fk_Ref_42 : fk "SpanLinkerModel" 42 6 16 := ⟨"SpanLinkerModel", T_Ref, 32, rfl, in_Ref, by decide, (am_mem (tb3 235 rfl) rfl)⟩
theorem fk_Ref_45 : fk "SpanLinkerModel" 45 6 17 := ⟨"SpanLinkerModel", T_Ref, 32, rfl, in_Ref, by decide, (am_mem (tb3 236 rfl) rfl)⟩
theorem fk_Ref_48 : fk "SpanLinkerModel" 48 6 19 := ⟨"SpanLinkerModel", T_Ref, 32, rfl, in_Ref, by decide, (am_mem (tb3 238 rfl) rfl)⟩
theorem fk_Ref_51 : fk "SpanLinkerModel" 51 6 22 := ⟨"SpanLinkerModel", T_Ref, 32, rfl, in_Ref, by decide, (am_mem (tb4 1 rfl) rfl)⟩
theorem fk_Ref_54 : fk "SpanLinkerModel" 54 6 28 := ⟨"SpanLinkerModel", T_Ref, 32, rfl, in_Ref, by decide, (am_mem (tb4 7 rfl) rfl)⟩
theorem fk_Ref_57 : fk "SpanLinkerModel" 57 6 29 := ⟨"SpanLinkerModel", T_Ref, 32, rfl, in_Ref, by decide, (am_mem (tb4 8 rfl) rfl)⟩
theorem fk_Ref_101 : fk "SpanLinkerModel" 101 6 6 := ⟨"SpanLinkerModel", T_Ref, 32, rfl, in_Ref, by decide, (am_mem (tb3 225 rfl) rfl)⟩
theorem fk_Ref_104 : fk "SpanLinkerModel" 104 6 8 := ⟨"SpanLinkerModel", T_Ref, 32, rfl, in_Ref, by decide, (am_mem (tb3 227 rfl) rfl)⟩
theorem fk_Ref_116 : fk "SpanLinkerModel" 116 6 11 := ⟨"SpanLinkerModel", T_Ref, 32, rfl, in_Ref, by decide, (am_mem (tb3 230 rfl) rfl)⟩
theorem fk_Ref_170 : fk "SpanLinkerModel" 170 6 18 := ⟨"SpanLinkerModel", T_Ref, 32, rfl, in_Ref, by decide, (am_mem (tb3 237 rfl) rfl)⟩
theorem fk_Ref_173 : fk "SpanLinkerModel" 173 6 20 := ⟨"SpanLinkerModel", T_Ref, 32, rfl, in_Ref, by decide, (am_mem (tb3 239 rfl) rfl)⟩
theorem fk_Ref_176 : fk "SpanLinkerModel" 176 6 14 := ⟨"SpanLinkerModel", T_Ref, 32, rfl, in_Ref, by decide, (am_mem (tb3 233 rfl) rfl)⟩
theorem fk_Ref_180 : fk "SpanLinkerModel" 180 6 15 := ⟨"SpanLinkerModel", T_Ref, 32, rfl, in_Ref, by decide, (am_mem (tb3 234 rfl) rfl)⟩
theorem fk_Ref_183 : fk "SpanLinkerModel" 183 6 21 := ⟨"SpanLinkerModel", T_Ref, 32, rfl, in_Ref, by decide, (am_mem (tb4 0 rfl) rfl)⟩
theorem fk_Ref_189 : fk "SpanLinkerModel" 189 6 13 := ⟨"SpanLinkerModel", T_Ref, 32, rfl, in_Ref, by decide, (am_mem (tb3 232 rfl) rfl)⟩
theorem fk_Ref_195 : fk "SpanLinkerModel" 195 6 23 := ⟨"SpanLinkerModel", T_Ref, 32, rfl, in_Ref, by decide, (am_mem (tb4 2 rfl) rfl)⟩
theorem fk_Ref_198 : fk "SpanLinkerModel" 198 6 24 := ⟨"SpanLinkerModel", T_Ref, 32, rfl, in_Ref, by decide, (am_mem (tb4 3 rfl) rfl)⟩
theorem fk_Ref_201 : fk "SpanLinkerModel" 201 6 25 := ⟨"SpanLinkerModel", T_Ref, 32, rfl, in_Ref, by decide, (am_mem (tb4 4 rfl) rfl)⟩
theorem fk_Ref_204 : fk "SpanLinkerModel" 204 6 26 := ⟨"SpanLinkerModel", T_Ref, 32, rfl, in_Ref, by decide, (am_mem (tb4 5 rfl) rfl)⟩
theorem fk_Ref_207 : fk "SpanLinkerModel" 207 6 27 := ⟨"SpanLinkerModel", T_Ref, 32, rfl, in_Ref, by decide, (am_mem (tb4 6 rfl) rfl)⟩
theorem fk_Ref_210 : fk "SpanLinkerModel" 210 6 30 := ⟨"SpanLinkerModel", T_Ref, 32, rfl, in_Ref, by decide, (am_mem (tb4 9 rfl) rfl)⟩
theorem fk_Ref_213 : fk "SpanLinkerModel" 213 6 31 := ⟨"SpanLinkerModel", T_Ref, 32, rfl, in_Ref, by decide, (am_mem (tb4 10 rfl) rfl)⟩
theorem fp_Img_34 : fp "SpanLinker$Image" 34 4 8 .boolean := ⟨"SpanLinker$Image", T_Img, 10, ty_Img, rfl, in_Img, by decide, (am_mem (tb1 125 rfl) rfl), to_Img, nm_Img, rfl, to_Img 8 (by decide)⟩
theorem fp_Img_44 : fp "SpanLinker$Image" 44 4 6 .int := ⟨"SpanLinker$Image", T_Img, 10, ty_Img, rfl, in_Img, by decide, (am_mem (tb1 123 rfl) rfl), to_Img, nm_Img, rfl, to_Img 6 (by decide)⟩
theorem fp_Img_68 : fp "SpanLinker$Image" 68 4 7 .int := ⟨"SpanLinker$Image", T_Img, 10, ty_Img, rfl, in_Img, by decide, (am_mem (tb1 124 rfl) rfl), to_Img, nm_Img, rfl, to_Img 7 (by decide)⟩
theorem fp_Img_71 : fp "SpanLinker$Image" 71 4 9 .boolean := ⟨"SpanLinker$Image", T_Img, 10, ty_Img, rfl, in_Img, by decide, (am_mem (tb1 126 rfl) rfl), to_Img, nm_Img, rfl, to_Img 9 (by decide)⟩
theorem fp_Inc_31 : fp "SpanLinker$Inclusion" 31 2 2 .int := ⟨"SpanLinker$Inclusion", T_Inc, 6, ty_Inc, rfl, in_Inc, by decide, (am_mem (tb1 90 rfl) rfl), to_Inc, nm_Inc, rfl, to_Inc 2 (by decide)⟩
theorem fp_Inc_35 : fp "SpanLinker$Inclusion" 35 2 3 .int := ⟨"SpanLinker$Inclusion", T_Inc, 6, ty_Inc, rfl, in_Inc, by decide, (am_mem (tb1 91 rfl) rfl), to_Inc, nm_Inc, rfl, to_Inc 3 (by decide)⟩
theorem fp_Inc_38 : fp "SpanLinker$Inclusion" 38 2 4 .int := ⟨"SpanLinker$Inclusion", T_Inc, 6, ty_Inc, rfl, in_Inc, by decide, (am_mem (tb1 92 rfl) rfl), to_Inc, nm_Inc, rfl, to_Inc 4 (by decide)⟩
theorem fp_Inc_41 : fp "SpanLinker$Inclusion" 41 2 5 .int := ⟨"SpanLinker$Inclusion", T_Inc, 6, ty_Inc, rfl, in_Inc, by decide, (am_mem (tb1 93 rfl) rfl), to_Inc, nm_Inc, rfl, to_Inc 5 (by decide)⟩
theorem fp_Mac_21 : fp "SpanLinker$Machine" 21 5 12 .boolean := ⟨"SpanLinker$Machine", T_Mac, 13, ty_Mac, rfl, in_Mac, by decide, (am_mem (tb1 166 rfl) rfl), to_Mac, nm_Mac, rfl, to_Mac 12 (by decide)⟩
theorem fp_Mac_31 : fp "SpanLinker$Machine" 31 5 3 .int := ⟨"SpanLinker$Machine", T_Mac, 13, ty_Mac, rfl, in_Mac, by decide, (am_mem (tb1 157 rfl) rfl), to_Mac, nm_Mac, rfl, to_Mac 3 (by decide)⟩
theorem fp_Mac_38 : fp "SpanLinker$Machine" 38 5 4 .int := ⟨"SpanLinker$Machine", T_Mac, 13, ty_Mac, rfl, in_Mac, by decide, (am_mem (tb1 158 rfl) rfl), to_Mac, nm_Mac, rfl, to_Mac 4 (by decide)⟩
theorem fp_Mac_44 : fp "SpanLinker$Machine" 44 5 5 .int := ⟨"SpanLinker$Machine", T_Mac, 13, ty_Mac, rfl, in_Mac, by decide, (am_mem (tb1 159 rfl) rfl), to_Mac, nm_Mac, rfl, to_Mac 5 (by decide)⟩
theorem fp_Mac_47 : fp "SpanLinker$Machine" 47 5 6 .int := ⟨"SpanLinker$Machine", T_Mac, 13, ty_Mac, rfl, in_Mac, by decide, (am_mem (tb1 160 rfl) rfl), to_Mac, nm_Mac, rfl, to_Mac 6 (by decide)⟩
theorem fp_Mac_53 : fp "SpanLinker$Machine" 53 5 7 .int := ⟨"SpanLinker$Machine", T_Mac, 13, ty_Mac, rfl, in_Mac, by decide, (am_mem (tb1 161 rfl) rfl), to_Mac, nm_Mac, rfl, to_Mac 7 (by decide)⟩
theorem fp_Mac_56 : fp "SpanLinker$Machine" 56 5 8 .int := ⟨"SpanLinker$Machine", T_Mac, 13, ty_Mac, rfl, in_Mac, by decide, (am_mem (tb1 162 rfl) rfl), to_Mac, nm_Mac, rfl, to_Mac 8 (by decide)⟩
theorem fp_Mac_59 : fp "SpanLinker$Machine" 59 5 9 .int := ⟨"SpanLinker$Machine", T_Mac, 13, ty_Mac, rfl, in_Mac, by decide, (am_mem (tb1 163 rfl) rfl), to_Mac, nm_Mac, rfl, to_Mac 9 (by decide)⟩
theorem fp_Mac_62 : fp "SpanLinker$Machine" 62 5 10 .int := ⟨"SpanLinker$Machine", T_Mac, 13, ty_Mac, rfl, in_Mac, by decide, (am_mem (tb1 164 rfl) rfl), to_Mac, nm_Mac, rfl, to_Mac 10 (by decide)⟩
theorem fp_Mac_65 : fp "SpanLinker$Machine" 65 5 11 .int := ⟨"SpanLinker$Machine", T_Mac, 13, ty_Mac, rfl, in_Mac, by decide, (am_mem (tb1 165 rfl) rfl), to_Mac, nm_Mac, rfl, to_Mac 11 (by decide)⟩
theorem fp_Row_15 : fp "SpanLinker$Row" 15 3 1 .int := ⟨"SpanLinker$Row", T_Row, 2, ty_Row, rfl, in_Row, by decide, (am_mem (tb1 82 rfl) rfl), to_Row, nm_Row, rfl, to_Row 1 (by decide)⟩
theorem fp_Mod_37 : fp "SpanLinker$SourceModule" 37 1 8 .int := ⟨"SpanLinker$SourceModule", T_Mod, 13, ty_Mod, rfl, in_Mod, by decide, (am_mem (tb1 35 rfl) rfl), to_Mod, nm_Mod, rfl, to_Mod 8 (by decide)⟩
theorem fp_Mod_64 : fp "SpanLinker$SourceModule" 64 1 9 .int := ⟨"SpanLinker$SourceModule", T_Mod, 13, ty_Mod, rfl, in_Mod, by decide, (am_mem (tb1 36 rfl) rfl), to_Mod, nm_Mod, rfl, to_Mod 9 (by decide)⟩
theorem fp_Mod_67 : fp "SpanLinker$SourceModule" 67 1 10 .int := ⟨"SpanLinker$SourceModule", T_Mod, 13, ty_Mod, rfl, in_Mod, by decide, (am_mem (tb1 37 rfl) rfl), to_Mod, nm_Mod, rfl, to_Mod 10 (by decide)⟩
theorem fp_Mod_70 : fp "SpanLinker$SourceModule" 70 1 11 .int := ⟨"SpanLinker$SourceModule", T_Mod, 13, ty_Mod, rfl, in_Mod, by decide, (am_mem (tb1 38 rfl) rfl), to_Mod, nm_Mod, rfl, to_Mod 11 (by decide)⟩
theorem fp_Mod_73 : fp "SpanLinker$SourceModule" 73 1 12 .int := ⟨"SpanLinker$SourceModule", T_Mod, 13, ty_Mod, rfl, in_Mod, by decide, (am_mem (tb1 39 rfl) rfl), to_Mod, nm_Mod, rfl, to_Mod 12 (by decide)⟩
theorem fp_Ref_35 : fp "SpanLinkerModel" 35 6 10 .int := ⟨"SpanLinkerModel", T_Ref, 32, ty_Ref, rfl, in_Ref, by decide, (am_mem (tb3 229 rfl) rfl), to_Ref, nm_Ref, rfl, to_Ref 10 (by decide)⟩
theorem fp_Ref_101 : fp "SpanLinkerModel" 101 6 6 .int := ⟨"SpanLinkerModel", T_Ref, 32, ty_Ref, rfl, in_Ref, by decide, (am_mem (tb3 225 rfl) rfl), to_Ref, nm_Ref, rfl, to_Ref 6 (by decide)⟩
theorem fp_Ref_104 : fp "SpanLinkerModel" 104 6 8 .int := ⟨"SpanLinkerModel", T_Ref, 32, ty_Ref, rfl, in_Ref, by decide, (am_mem (tb3 227 rfl) rfl), to_Ref, nm_Ref, rfl, to_Ref 8 (by decide)⟩
theorem fp_Ref_116 : fp "SpanLinkerModel" 116 6 11 .int := ⟨"SpanLinkerModel", T_Ref, 32, ty_Ref, rfl, in_Ref, by decide, (am_mem (tb3 230 rfl) rfl), to_Ref, nm_Ref, rfl, to_Ref 11 (by decide)⟩
theorem fp_Ref_170 : fp "SpanLinkerModel" 170 6 18 .int := ⟨"SpanLinkerModel", T_Ref, 32, ty_Ref, rfl, in_Ref, by decide, (am_mem (tb3 237 rfl) rfl), to_Ref, nm_Ref, rfl, to_Ref 18 (by decide)⟩
theorem fp_Ref_173 : fp "SpanLinkerModel" 173 6 20 .int := ⟨"SpanLinkerModel", T_Ref, 32, ty_Ref, rfl, in_Ref, by decide, (am_mem (tb3 239 rfl) rfl), to_Ref, nm_Ref, rfl, to_Ref 20 (by decide)⟩
theorem fp_Ref_176 : fp "SpanLinkerModel" 176 6 14 .boolean := ⟨"SpanLinkerModel", T_Ref, 32, ty_Ref, rfl, in_Ref, by decide, (am_mem (tb3 233 rfl) rfl), to_Ref, nm_Ref, rfl, to_Ref 14 (by decide)⟩
theorem fp_Ref_180 : fp "SpanLinkerModel" 180 6 15 .boolean := ⟨"SpanLinkerModel", T_Ref, 32, ty_Ref, rfl, in_Ref, by decide, (am_mem (tb3 234 rfl) rfl), to_Ref, nm_Ref, rfl, to_Ref 15 (by decide)⟩
theorem fp_Ref_183 : fp "SpanLinkerModel" 183 6 21 .boolean := ⟨"SpanLinkerModel", T_Ref, 32, ty_Ref, rfl, in_Ref, by decide, (am_mem (tb4 0 rfl) rfl), to_Ref, nm_Ref, rfl, to_Ref 21 (by decide)⟩
theorem fp_Ref_189 : fp "SpanLinkerModel" 189 6 13 .int := ⟨"SpanLinkerModel", T_Ref, 32, ty_Ref, rfl, in_Ref, by decide, (am_mem (tb3 232 rfl) rfl), to_Ref, nm_Ref, rfl, to_Ref 13 (by decide)⟩
theorem fp_Ref_195 : fp "SpanLinkerModel" 195 6 23 .int := ⟨"SpanLinkerModel", T_Ref, 32, ty_Ref, rfl, in_Ref, by decide, (am_mem (tb4 2 rfl) rfl), to_Ref, nm_Ref, rfl, to_Ref 23 (by decide)⟩
theorem fp_Ref_198 : fp "SpanLinkerModel" 198 6 24 .int := ⟨"SpanLinkerModel", T_Ref, 32, ty_Ref, rfl, in_Ref, by decide, (am_mem (tb4 3 rfl) rfl), to_Ref, nm_Ref, rfl, to_Ref 24 (by decide)⟩
theorem fp_Ref_201 : fp "SpanLinkerModel" 201 6 25 .int := ⟨"SpanLinkerModel", T_Ref, 32, ty_Ref, rfl, in_Ref, by decide, (am_mem (tb4 4 rfl) rfl), to_Ref, nm_Ref, rfl, to_Ref 25 (by decide)⟩
theorem fp_Ref_204 : fp "SpanLinkerModel" 204 6 26 .int := ⟨"SpanLinkerModel", T_Ref, 32, ty_Ref, rfl, in_Ref, by decide, (am_mem (tb4 5 rfl) rfl), to_Ref, nm_Ref, rfl, to_Ref 26 (by decide)⟩
theorem fp_Ref_207 : fp "SpanLinkerModel" 207 6 27 .int := ⟨"SpanLinkerModel", T_Ref, 32, ty_Ref, rfl, in_Ref, by decide, (am_mem (tb4 6 rfl) rfl), to_Ref, nm_Ref, rfl, to_Ref 27 (by decide)⟩
theorem fp_Ref_210 : fp "SpanLinkerModel" 210 6 30 .int := ⟨"SpanLinkerModel", T_Ref, 32, ty_Ref, rfl, in_Ref, by decide, (am_mem (tb4 9 rfl) rfl), to_Ref, nm_Ref, rfl, to_Ref 30 (by decide)⟩
theorem fp_Ref_213 : fp "SpanLinkerModel" 213 6 31 .int := ⟨"SpanLinkerModel", T_Ref, 32, ty_Ref, rfl, in_Ref, by decide, (am_mem (tb4 10 rfl) rfl), to_Ref, nm_Ref, rfl, to_Ref 31 (by decide)⟩
theorem ck_SL_54 : ckS "SpanLinker" 54 1 m_SL_isModule := ⟨cw_SL_isModule, List.forall_mem_cons.mpr ⟨(am_mem (tb1 217 rfl) rfl), List.forall_mem_cons.mpr ⟨(am_mem (tb1 218 rfl) rfl), List.forall_mem_cons.mpr ⟨(am_mem (tb1 1 rfl) rfl), fun _ h => absurd h List.not_mem_nil⟩⟩⟩, ⟨rfl, by decide, by decide, by decide +kernel⟩, by decide⟩
theorem ck_SL_58 : ckV "SpanLinker" 58 1 3 m_Mod_accepts := ⟨cw_Mod_accepts, List.forall_mem_cons.mpr ⟨(am_mem (tb1 223 rfl) rfl), List.forall_mem_cons.mpr ⟨(am_mem (tb1 224 rfl) rfl), List.forall_mem_cons.mpr ⟨(am_mem (tb1 225 rfl) rfl), List.forall_mem_cons.mpr ⟨(am_mem (tb1 2 rfl) rfl), fun _ h => absurd h List.not_mem_nil⟩⟩⟩⟩, ⟨by decide, by decide, by decide +kernel⟩, by decide, _, _, rfl⟩
theorem ck_SL_64 : ckV "SpanLinker" 64 1 3 m_Mod_append := ⟨cw_Mod_append, List.forall_mem_cons.mpr ⟨(am_mem (tb2 19 rfl) rfl), List.forall_mem_cons.mpr ⟨(am_mem (tb2 20 rfl) rfl), List.forall_mem_cons.mpr ⟨(am_mem (tb2 21 rfl) rfl), List.forall_mem_cons.mpr ⟨(am_mem (tb1 2 rfl) rfl), fun _ h => absurd h List.not_mem_nil⟩⟩⟩⟩, ⟨by decide, by decide, by decide +kernel⟩, by decide, _, _, rfl⟩
theorem ck_SL_68 : ckV "SpanLinker" 68 1 0 m_Mod_takeAllAway := ⟨cw_Mod_takeAllAway, List.forall_mem_cons.mpr ⟨(am_mem (tb2 58 rfl) rfl), List.forall_mem_cons.mpr ⟨(am_mem (tb2 59 rfl) rfl), List.forall_mem_cons.mpr ⟨(am_mem (tb2 60 rfl) rfl), List.forall_mem_cons.mpr ⟨(am_mem (tb1 2 rfl) rfl), fun _ h => absurd h List.not_mem_nil⟩⟩⟩⟩, ⟨by decide, by decide, by decide +kernel⟩, by decide, _, _, rfl⟩
theorem ck_SL_72 : ckS "SpanLinker" 72 1 m_SL_isSection := ⟨cw_SL_isSection, List.forall_mem_cons.mpr ⟨(am_mem (tb2 66 rfl) rfl), List.forall_mem_cons.mpr ⟨(am_mem (tb1 234 rfl) rfl), List.forall_mem_cons.mpr ⟨(am_mem (tb1 1 rfl) rfl), fun _ h => absurd h List.not_mem_nil⟩⟩⟩, ⟨rfl, by decide, by decide, by decide +kernel⟩, by decide⟩
theorem ck_SL_75 : ckV "SpanLinker" 75 1 1 m_Mod_wordsIn := ⟨cw_Mod_wordsIn, List.forall_mem_cons.mpr ⟨(am_mem (tb2 67 rfl) rfl), List.forall_mem_cons.mpr ⟨(am_mem (tb2 68 rfl) rfl), List.forall_mem_cons.mpr ⟨(am_mem (tb2 69 rfl) rfl), List.forall_mem_cons.mpr ⟨(am_mem (tb1 2 rfl) rfl), fun _ h => absurd h List.not_mem_nil⟩⟩⟩⟩, ⟨by decide, by decide, by decide +kernel⟩, by decide, _, _, rfl⟩
theorem ck_SL_79 : ckV "SpanLinker" 79 1 1 m_Mod_isLongJump := ⟨cw_Mod_isLongJump, List.forall_mem_cons.mpr ⟨(am_mem (tb2 75 rfl) rfl), List.forall_mem_cons.mpr ⟨(am_mem (tb2 76 rfl) rfl), List.forall_mem_cons.mpr ⟨(am_mem (tb2 77 rfl) rfl), List.forall_mem_cons.mpr ⟨(am_mem (tb1 2 rfl) rfl), fun _ h => absurd h List.not_mem_nil⟩⟩⟩⟩, ⟨by decide, by decide, by decide +kernel⟩, by decide, _, _, rfl⟩
theorem ck_SL_82 : ckV "SpanLinker" 82 3 1 m_Row_holds := ⟨cw_Row_holds, List.forall_mem_cons.mpr ⟨(am_mem (tb2 83 rfl) rfl), List.forall_mem_cons.mpr ⟨(am_mem (tb2 84 rfl) rfl), List.forall_mem_cons.mpr ⟨(am_mem (tb2 85 rfl) rfl), List.forall_mem_cons.mpr ⟨(am_mem (tb1 4 rfl) rfl), fun _ h => absurd h List.not_mem_nil⟩⟩⟩⟩, ⟨by decide, by decide, by decide +kernel⟩, by decide, _, _, rfl⟩
theorem ck_SL_85 : ckV "SpanLinker" 85 0 2 m_SL_mayStandBefore := ⟨cw_SL_mayStandBefore, List.forall_mem_cons.mpr ⟨(am_mem (tb2 91 rfl) rfl), List.forall_mem_cons.mpr ⟨(am_mem (tb2 93 rfl) rfl), List.forall_mem_cons.mpr ⟨(am_mem (tb0 9 rfl) rfl), List.forall_mem_cons.mpr ⟨(am_mem (tb1 1 rfl) rfl), fun _ h => absurd h List.not_mem_nil⟩⟩⟩⟩, ⟨by decide, by decide, by decide +kernel⟩, by decide, _, _, rfl⟩
theorem ck_SL_89 : ckV "SpanLinker" 89 3 1 m_Row_takeOut := ⟨cw_Row_takeOut, List.forall_mem_cons.mpr ⟨(am_mem (tb2 95 rfl) rfl), List.forall_mem_cons.mpr ⟨(am_mem (tb2 96 rfl) rfl), List.forall_mem_cons.mpr ⟨(am_mem (tb2 97 rfl) rfl), List.forall_mem_cons.mpr ⟨(am_mem (tb1 4 rfl) rfl), fun _ h => absurd h List.not_mem_nil⟩⟩⟩⟩, ⟨by decide, by decide, by decide +kernel⟩, by decide, _, _, rfl⟩
theorem ck_SL_92 : ckV "SpanLinker" 92 3 1 m_Row_append := ⟨cw_Row_append, List.forall_mem_cons.mpr ⟨(am_mem (tb2 99 rfl) rfl), List.forall_mem_cons.mpr ⟨(am_mem (tb2 100 rfl) rfl), List.forall_mem_cons.mpr ⟨(am_mem (tb2 101 rfl) rfl), List.forall_mem_cons.mpr ⟨(am_mem (tb1 4 rfl) rfl), fun _ h => absurd h List.not_mem_nil⟩⟩⟩⟩, ⟨by decide, by decide, by decide +kernel⟩, by decide, _, _, rfl⟩
theorem ck_SL_94 : ckV "SpanLinker" 94 3 1 m_Row_placeOf := ⟨cw_Row_placeOf, List.forall_mem_cons.mpr ⟨(am_mem (tb2 107 rfl) rfl), List.forall_mem_cons.mpr ⟨(am_mem (tb2 88 rfl) rfl), List.forall_mem_cons.mpr ⟨(am_mem (tb2 89 rfl) rfl), List.forall_mem_cons.mpr ⟨(am_mem (tb1 4 rfl) rfl), fun _ h => absurd h List.not_mem_nil⟩⟩⟩⟩, ⟨by decide, by decide, by decide +kernel⟩, by decide, _, _, rfl⟩
theorem ck_SL_97 : ckV "SpanLinker" 97 3 2 m_Row_insert := ⟨cw_Row_insert, List.forall_mem_cons.mpr ⟨(am_mem (tb2 108 rfl) rfl), List.forall_mem_cons.mpr ⟨(am_mem (tb2 104 rfl) rfl), List.forall_mem_cons.mpr ⟨(am_mem (tb2 105 rfl) rfl), List.forall_mem_cons.mpr ⟨(am_mem (tb1 4 rfl) rfl), fun _ h => absurd h List.not_mem_nil⟩⟩⟩⟩, ⟨by decide, by decide, by decide +kernel⟩, by decide, _, _, rfl⟩
theorem ck_SL_100 : ckV "SpanLinker" 100 3 1 m_Row_at := ⟨cw_Row_at, List.forall_mem_cons.mpr ⟨(am_mem (tb2 117 rfl) rfl), List.forall_mem_cons.mpr ⟨(am_mem (tb2 118 rfl) rfl), List.forall_mem_cons.mpr ⟨(am_mem (tb2 119 rfl) rfl), List.forall_mem_cons.mpr ⟨(am_mem (tb1 4 rfl) rfl), fun _ h => absurd h List.not_mem_nil⟩⟩⟩⟩, ⟨by decide, by decide, by decide +kernel⟩, by decide, _, _, rfl⟩
theorem ck_SL_103 : ckV "SpanLinker" 103 0 1 m_SL_isFreeModule := ⟨cw_SL_isFreeModule, List.forall_mem_cons.mpr ⟨(am_mem (tb2 125 rfl) rfl), List.forall_mem_cons.mpr ⟨(am_mem (tb2 127 rfl) rfl), List.forall_mem_cons.mpr ⟨(am_mem (tb0 10 rfl) rfl), List.forall_mem_cons.mpr ⟨(am_mem (tb1 1 rfl) rfl), fun _ h => absurd h List.not_mem_nil⟩⟩⟩⟩, ⟨by decide, by decide, by decide +kernel⟩, by decide, _, _, rfl⟩
theorem ck_SL_106 : ckV "SpanLinker" 106 3 0 m_Row_makeEmpty := ⟨cw_Row_makeEmpty, List.forall_mem_cons.mpr ⟨(am_mem (tb2 133 rfl) rfl), List.forall_mem_cons.mpr ⟨(am_mem (tb2 134 rfl) rfl), List.forall_mem_cons.mpr ⟨(am_mem (tb2 135 rfl) rfl), List.forall_mem_cons.mpr ⟨(am_mem (tb1 4 rfl) rfl), fun _ h => absurd h List.not_mem_nil⟩⟩⟩⟩, ⟨by decide, by decide, by decide +kernel⟩, by decide, _, _, rfl⟩
theorem ck_SL_109 : ckS "SpanLinker" 109 1 m_SL_isName := ⟨cw_SL_isName, List.forall_mem_cons.mpr ⟨(am_mem (tb2 141 rfl) rfl), List.forall_mem_cons.mpr ⟨(am_mem (tb1 231 rfl) rfl), List.forall_mem_cons.mpr ⟨(am_mem (tb1 1 rfl) rfl), fun _ h => absurd h List.not_mem_nil⟩⟩⟩, ⟨rfl, by decide, by decide, by decide +kernel⟩, by decide⟩
theorem ck_SL_112 : ckV "SpanLinker" 112 4 0 m_Img_throwAway := ⟨cw_Img_throwAway, List.forall_mem_cons.mpr ⟨(am_mem (tb2 142 rfl) rfl), List.forall_mem_cons.mpr ⟨(am_mem (tb2 143 rfl) rfl), List.forall_mem_cons.mpr ⟨(am_mem (tb2 144 rfl) rfl), List.forall_mem_cons.mpr ⟨(am_mem (tb1 5 rfl) rfl), fun _ h => absurd h List.not_mem_nil⟩⟩⟩⟩, ⟨by decide, by decide, by decide +kernel⟩, by decide, _, _, rfl⟩
theorem ck_SL_115 : ckV "SpanLinker" 115 5 0 m_Mac_throwAway := ⟨cw_Mac_throwAway, List.forall_mem_cons.mpr ⟨(am_mem (tb2 146 rfl) rfl), List.forall_mem_cons.mpr ⟨(am_mem (tb2 147 rfl) rfl), List.forall_mem_cons.mpr ⟨(am_mem (tb2 148 rfl) rfl), List.forall_mem_cons.mpr ⟨(am_mem (tb1 6 rfl) rfl), fun _ h => absurd h List.not_mem_nil⟩⟩⟩⟩, ⟨by decide, by decide, by decide +kernel⟩, by decide, _, _, rfl⟩
theorem ck_SL_116 : ckV "SpanLinker" 116 2 3 m_Inc_goOver := ⟨cw_Inc_goOver, List.forall_mem_cons.mpr ⟨(am_mem (tb2 150 rfl) rfl), List.forall_mem_cons.mpr ⟨(am_mem (tb2 151 rfl) rfl), List.forall_mem_cons.mpr ⟨(am_mem (tb2 152 rfl) rfl), List.forall_mem_cons.mpr ⟨(am_mem (tb1 3 rfl) rfl), fun _ h => absurd h List.not_mem_nil⟩⟩⟩⟩, ⟨by decide, by decide, by decide +kernel⟩, by decide, _, _, rfl⟩
theorem ck_SL_120 : ckV "SpanLinker" 120 2 0 m_Inc_hasDouble := ⟨cw_Inc_hasDouble, List.forall_mem_cons.mpr ⟨(am_mem (tb2 195 rfl) rfl), List.forall_mem_cons.mpr ⟨(am_mem (tb2 196 rfl) rfl), List.forall_mem_cons.mpr ⟨(am_mem (tb2 197 rfl) rfl), List.forall_mem_cons.mpr ⟨(am_mem (tb1 3 rfl) rfl), fun _ h => absurd h List.not_mem_nil⟩⟩⟩⟩, ⟨by decide, by decide, by decide +kernel⟩, by decide, _, _, rfl⟩
theorem ck_SL_124 : ckV "SpanLinker" 124 2 0 m_Inc_wantedNames := ⟨cw_Inc_wantedNames, List.forall_mem_cons.mpr ⟨(am_mem (tb2 199 rfl) rfl), List.forall_mem_cons.mpr ⟨(am_mem (tb2 179 rfl) rfl), List.forall_mem_cons.mpr ⟨(am_mem (tb2 180 rfl) rfl), List.forall_mem_cons.mpr ⟨(am_mem (tb1 3 rfl) rfl), fun _ h => absurd h List.not_mem_nil⟩⟩⟩⟩, ⟨by decide, by decide, by decide +kernel⟩, by decide, _, _, rfl⟩
theorem ck_SL_127 : ckV "SpanLinker" 127 4 1 m_Img_build := ⟨cw_Img_build, List.forall_mem_cons.mpr ⟨(am_mem (tb2 200 rfl) rfl), List.forall_mem_cons.mpr ⟨(am_mem (tb2 201 rfl) rfl), List.forall_mem_cons.mpr ⟨(am_mem (tb2 202 rfl) rfl), List.forall_mem_cons.mpr ⟨(am_mem (tb1 5 rfl) rfl), fun _ h => absurd h List.not_mem_nil⟩⟩⟩⟩, ⟨by decide, by decide, by decide +kernel⟩, by decide, _, _, rfl⟩
theorem ck_SL_130 : ckV "SpanLinker" 130 2 1 m_Inc_moduleAt := ⟨cw_Inc_moduleAt, List.forall_mem_cons.mpr ⟨(am_mem (tb3 66 rfl) rfl), List.forall_mem_cons.mpr ⟨(am_mem (tb2 213 rfl) rfl), List.forall_mem_cons.mpr ⟨(am_mem (tb2 214 rfl) rfl), List.forall_mem_cons.mpr ⟨(am_mem (tb1 3 rfl) rfl), fun _ h => absurd h List.not_mem_nil⟩⟩⟩⟩, ⟨by decide, by decide, by decide +kernel⟩, by decide, _, _, rfl⟩
theorem ck_SL_133 : ckV "SpanLinker" 133 4 1 m_Img_wordsIn := ⟨cw_Img_wordsIn, List.forall_mem_cons.mpr ⟨(am_mem (tb3 75 rfl) rfl), List.forall_mem_cons.mpr ⟨(am_mem (tb3 76 rfl) rfl), List.forall_mem_cons.mpr ⟨(am_mem (tb3 77 rfl) rfl), List.forall_mem_cons.mpr ⟨(am_mem (tb1 5 rfl) rfl), fun _ h => absurd h List.not_mem_nil⟩⟩⟩⟩, ⟨by decide, by decide, by decide +kernel⟩, by decide, _, _, rfl⟩
theorem ck_SL_134 : ckV "SpanLinker" 134 4 1 m_Img_wordAt := ⟨cw_Img_wordAt, List.forall_mem_cons.mpr ⟨(am_mem (tb3 84 rfl) rfl), List.forall_mem_cons.mpr ⟨(am_mem (tb3 85 rfl) rfl), List.forall_mem_cons.mpr ⟨(am_mem (tb3 86 rfl) rfl), List.forall_mem_cons.mpr ⟨(am_mem (tb1 5 rfl) rfl), fun _ h => absurd h List.not_mem_nil⟩⟩⟩⟩, ⟨by decide, by decide, by decide +kernel⟩, by decide, _, _, rfl⟩
theorem ck_SL_137 : ckV "SpanLinker" 137 4 1 m_Img_valueOf := ⟨cw_Img_valueOf, List.forall_mem_cons.mpr ⟨(am_mem (tb3 93 rfl) rfl), List.forall_mem_cons.mpr ⟨(am_mem (tb3 94 rfl) rfl), List.forall_mem_cons.mpr ⟨(am_mem (tb3 95 rfl) rfl), List.forall_mem_cons.mpr ⟨(am_mem (tb1 5 rfl) rfl), fun _ h => absurd h List.not_mem_nil⟩⟩⟩⟩, ⟨by decide, by decide, by decide +kernel⟩, by decide, _, _, rfl⟩
theorem ck_SL_140 : ckV "SpanLinker" 140 4 0 m_Img_dropNames := ⟨cw_Img_dropNames, List.forall_mem_cons.mpr ⟨(am_mem (tb3 102 rfl) rfl), List.forall_mem_cons.mpr ⟨(am_mem (tb3 103 rfl) rfl), List.forall_mem_cons.mpr ⟨(am_mem (tb3 104 rfl) rfl), List.forall_mem_cons.mpr ⟨(am_mem (tb1 5 rfl) rfl), fun _ h => absurd h List.not_mem_nil⟩⟩⟩⟩, ⟨by decide, by decide, by decide +kernel⟩, by decide, _, _, rfl⟩
theorem ck_SL_143 : ckV "SpanLinker" 143 4 0 m_Img_isThere := ⟨cw_Img_isThere, List.forall_mem_cons.mpr ⟨(am_mem (tb3 110 rfl) rfl), List.forall_mem_cons.mpr ⟨(am_mem (tb3 111 rfl) rfl), List.forall_mem_cons.mpr ⟨(am_mem (tb3 112 rfl) rfl), List.forall_mem_cons.mpr ⟨(am_mem (tb1 5 rfl) rfl), fun _ h => absurd h List.not_mem_nil⟩⟩⟩⟩, ⟨by decide, by decide, by decide +kernel⟩, by decide, _, _, rfl⟩
theorem ck_SL_146 : ckV "SpanLinker" 146 5 1 m_Mac_begin := ⟨cw_Mac_begin, List.forall_mem_cons.mpr ⟨(am_mem (tb3 114 rfl) rfl), List.forall_mem_cons.mpr ⟨(am_mem (tb3 115 rfl) rfl), List.forall_mem_cons.mpr ⟨(am_mem (tb3 116 rfl) rfl), List.forall_mem_cons.mpr ⟨(am_mem (tb1 6 rfl) rfl), fun _ h => absurd h List.not_mem_nil⟩⟩⟩⟩, ⟨by decide, by decide, by decide +kernel⟩, by decide, _, _, rfl⟩
theorem ck_SL_150 : ckV "SpanLinker" 150 5 1 m_Mac_putOnTape := ⟨cw_Mac_putOnTape, List.forall_mem_cons.mpr ⟨(am_mem (tb3 135 rfl) rfl), List.forall_mem_cons.mpr ⟨(am_mem (tb3 136 rfl) rfl), List.forall_mem_cons.mpr ⟨(am_mem (tb3 137 rfl) rfl), List.forall_mem_cons.mpr ⟨(am_mem (tb1 6 rfl) rfl), fun _ h => absurd h List.not_mem_nil⟩⟩⟩⟩, ⟨by decide, by decide, by decide +kernel⟩, by decide, _, _, rfl⟩
theorem ck_SL_153 : ckV "SpanLinker" 153 5 0 m_Mac_isThere := ⟨cw_Mac_isThere, List.forall_mem_cons.mpr ⟨(am_mem (tb3 144 rfl) rfl), List.forall_mem_cons.mpr ⟨(am_mem (tb3 145 rfl) rfl), List.forall_mem_cons.mpr ⟨(am_mem (tb3 146 rfl) rfl), List.forall_mem_cons.mpr ⟨(am_mem (tb1 6 rfl) rfl), fun _ h => absurd h List.not_mem_nil⟩⟩⟩⟩, ⟨by decide, by decide, by decide +kernel⟩, by decide, _, _, rfl⟩
theorem ck_SL_154 : ckS "SpanLinker" 154 3 m_SL_isWithin := ⟨cw_SL_isWithin, List.forall_mem_cons.mpr ⟨(am_mem (tb1 220 rfl) rfl), List.forall_mem_cons.mpr ⟨(am_mem (tb1 221 rfl) rfl), List.forall_mem_cons.mpr ⟨(am_mem (tb1 1 rfl) rfl), fun _ h => absurd h List.not_mem_nil⟩⟩⟩, ⟨rfl, by decide, by decide, by decide +kernel⟩, by decide⟩
theorem ck_SL_157 : ckV "SpanLinker" 157 5 1 m_Mac_doSteps := ⟨cw_Mac_doSteps, List.forall_mem_cons.mpr ⟨(am_mem (tb3 148 rfl) rfl), List.forall_mem_cons.mpr ⟨(am_mem (tb3 149 rfl) rfl), List.forall_mem_cons.mpr ⟨(am_mem (tb3 150 rfl) rfl), List.forall_mem_cons.mpr ⟨(am_mem (tb1 6 rfl) rfl), fun _ h => absurd h List.not_mem_nil⟩⟩⟩⟩, ⟨by decide, by decide, by decide +kernel⟩, by decide, _, _, rfl⟩
theorem ck_SL_160 : ckV "SpanLinker" 160 5 1 m_Mac_registerAt := ⟨cw_Mac_registerAt, List.forall_mem_cons.mpr ⟨(am_mem (tb3 197 rfl) rfl), List.forall_mem_cons.mpr ⟨(am_mem (tb3 198 rfl) rfl), List.forall_mem_cons.mpr ⟨(am_mem (tb3 199 rfl) rfl), List.forall_mem_cons.mpr ⟨(am_mem (tb1 6 rfl) rfl), fun _ h => absurd h List.not_mem_nil⟩⟩⟩⟩, ⟨by decide, by decide, by decide +kernel⟩, by decide, _, _, rfl⟩
theorem ck_SL_163 : ckV "SpanLinker" 163 5 1 m_Mac_wordAt := ⟨cw_Mac_wordAt, List.forall_mem_cons.mpr ⟨(am_mem (tb3 209 rfl) rfl), List.forall_mem_cons.mpr ⟨(am_mem (tb3 210 rfl) rfl), List.forall_mem_cons.mpr ⟨(am_mem (tb3 211 rfl) rfl), List.forall_mem_cons.mpr ⟨(am_mem (tb1 6 rfl) rfl), fun _ h => absurd h List.not_mem_nil⟩⟩⟩⟩, ⟨by decide, by decide, by decide +kernel⟩, by decide, _, _, rfl⟩
theorem ck_Img_38 : ckV "SpanLinker$Image" 38 4 0 m_Img_layOutSections := ⟨cw_Img_layOutSections, List.forall_mem_cons.mpr ⟨(am_mem (tb2 204 rfl) rfl), List.forall_mem_cons.mpr ⟨(am_mem (tb2 206 rfl) rfl), List.forall_mem_cons.mpr ⟨(am_mem (tb0 15 rfl) rfl), List.forall_mem_cons.mpr ⟨(am_mem (tb1 5 rfl) rfl), fun _ h => absurd h List.not_mem_nil⟩⟩⟩⟩, ⟨by decide, by decide, by decide +kernel⟩, by decide, _, _, rfl⟩
theorem ck_Img_41 : ckV "SpanLinker$Image" 41 4 0 m_Img_layOutCommons := ⟨cw_Img_layOutCommons, List.forall_mem_cons.mpr ⟨(am_mem (tb2 217 rfl) rfl), List.forall_mem_cons.mpr ⟨(am_mem (tb2 219 rfl) rfl), List.forall_mem_cons.mpr ⟨(am_mem (tb0 16 rfl) rfl), List.forall_mem_cons.mpr ⟨(am_mem (tb1 5 rfl) rfl), fun _ h => absurd h List.not_mem_nil⟩⟩⟩⟩, ⟨by decide, by decide, by decide +kernel⟩, by decide, _, _, rfl⟩
theorem ck_Img_48 : ckV "SpanLinker$Image" 48 2 0 m_Inc_howMany := ⟨cw_Inc_howMany, List.forall_mem_cons.mpr ⟨(am_mem (tb2 208 rfl) rfl), List.forall_mem_cons.mpr ⟨(am_mem (tb2 209 rfl) rfl), List.forall_mem_cons.mpr ⟨(am_mem (tb2 210 rfl) rfl), List.forall_mem_cons.mpr ⟨(am_mem (tb1 3 rfl) rfl), fun _ h => absurd h List.not_mem_nil⟩⟩⟩⟩, ⟨by decide, by decide, by decide +kernel⟩, by decide, _, _, rfl⟩
theorem ck_Img_54 : ckV "SpanLinker$Image" 54 2 1 m_Inc_moduleAt := ⟨cw_Inc_moduleAt, List.forall_mem_cons.mpr ⟨(am_mem (tb2 212 rfl) rfl), List.forall_mem_cons.mpr ⟨(am_mem (tb2 213 rfl) rfl), List.forall_mem_cons.mpr ⟨(am_mem (tb2 214 rfl) rfl), List.forall_mem_cons.mpr ⟨(am_mem (tb1 3 rfl) rfl), fun _ h => absurd h List.not_mem_nil⟩⟩⟩⟩, ⟨by decide, by decide, by decide +kernel⟩, by decide, _, _, rfl⟩
theorem ck_Img_58 : ckV "SpanLinker$Image" 58 4 1 m_Img_noteExports := ⟨cw_Img_noteExports, List.forall_mem_cons.mpr ⟨(am_mem (tb2 237 rfl) rfl), List.forall_mem_cons.mpr ⟨(am_mem (tb2 239 rfl) rfl), List.forall_mem_cons.mpr ⟨(am_mem (tb0 18 rfl) rfl), List.forall_mem_cons.mpr ⟨(am_mem (tb1 5 rfl) rfl), fun _ h => absurd h List.not_mem_nil⟩⟩⟩⟩, ⟨by decide, by decide, by decide +kernel⟩, by decide, _, _, rfl⟩
theorem ck_Img_62 : ckV "SpanLinker$Image" 62 4 0 m_Img_makeWordsZero := ⟨cw_Img_makeWordsZero, List.forall_mem_cons.mpr ⟨(am_mem (tb3 35 rfl) rfl), List.forall_mem_cons.mpr ⟨(am_mem (tb3 37 rfl) rfl), List.forall_mem_cons.mpr ⟨(am_mem (tb0 21 rfl) rfl), List.forall_mem_cons.mpr ⟨(am_mem (tb1 5 rfl) rfl), fun _ h => absurd h List.not_mem_nil⟩⟩⟩⟩, ⟨by decide, by decide, by decide +kernel⟩, by decide, _, _, rfl⟩
theorem ck_Img_65 : ckV "SpanLinker$Image" 65 4 1 m_Img_writeModule := ⟨cw_Img_writeModule, List.forall_mem_cons.mpr ⟨(am_mem (tb3 39 rfl) rfl), List.forall_mem_cons.mpr ⟨(am_mem (tb3 41 rfl) rfl), List.forall_mem_cons.mpr ⟨(am_mem (tb0 22 rfl) rfl), List.forall_mem_cons.mpr ⟨(am_mem (tb1 5 rfl) rfl), fun _ h => absurd h List.not_mem_nil⟩⟩⟩⟩, ⟨by decide, by decide, by decide +kernel⟩, by decide, _, _, rfl⟩
theorem ck_Img_74 : ckN "SpanLinker$Image" 74 1 m_SL_isSection := ⟨cw_SL_isSection, ⟨"SpanLinker", List.mem_of_getElem? (i := 12) rfl⟩, (am_mem (tb1 1 rfl) rfl), (am_mem (tb1 234 rfl) rfl), ⟨by decide, by decide, by decide +kernel⟩, by decide⟩
theorem ck_Img_78 : ckN "SpanLinker$Image" 78 3 m_SL_isWithin := ⟨cw_SL_isWithin, ⟨"SpanLinker", List.mem_of_getElem? (i := 13) rfl⟩, (am_mem (tb1 1 rfl) rfl), (am_mem (tb1 221 rfl) rfl), ⟨by decide, by decide, by decide +kernel⟩, by decide⟩
theorem ck_Img_82 : ckN "SpanLinker$Image" 82 1 m_SL_isName := ⟨cw_SL_isName, ⟨"SpanLinker", List.mem_of_getElem? (i := 14) rfl⟩, (am_mem (tb1 1 rfl) rfl), (am_mem (tb1 231 rfl) rfl), ⟨by decide, by decide, by decide +kernel⟩, by decide⟩
theorem ck_Img_85 : ckV "SpanLinker$Image" 85 1 1 m_Mod_wordsIn := ⟨cw_Mod_wordsIn, List.forall_mem_cons.mpr ⟨(am_mem (tb2 216 rfl) rfl), List.forall_mem_cons.mpr ⟨(am_mem (tb2 68 rfl) rfl), List.forall_mem_cons.mpr ⟨(am_mem (tb2 69 rfl) rfl), List.forall_mem_cons.mpr ⟨(am_mem (tb1 2 rfl) rfl), fun _ h => absurd h List.not_mem_nil⟩⟩⟩⟩, ⟨by decide, by decide, by decide +kernel⟩, by decide, _, _, rfl⟩
theorem ck_Img_90 : ckV "SpanLinker$Image" 90 2 1 m_Inc_isLoneCommon := ⟨cw_Inc_isLoneCommon, List.forall_mem_cons.mpr ⟨(am_mem (tb2 221 rfl) rfl), List.forall_mem_cons.mpr ⟨(am_mem (tb2 222 rfl) rfl), List.forall_mem_cons.mpr ⟨(am_mem (tb2 223 rfl) rfl), List.forall_mem_cons.mpr ⟨(am_mem (tb1 3 rfl) rfl), fun _ h => absurd h List.not_mem_nil⟩⟩⟩⟩, ⟨by decide, by decide, by decide +kernel⟩, by decide, _, _, rfl⟩
theorem ck_Img_93 : ckV "SpanLinker$Image" 93 4 1 m_Img_largestCommon := ⟨cw_Img_largestCommon, List.forall_mem_cons.mpr ⟨(am_mem (tb2 226 rfl) rfl), List.forall_mem_cons.mpr ⟨(am_mem (tb2 228 rfl) rfl), List.forall_mem_cons.mpr ⟨(am_mem (tb0 17 rfl) rfl), List.forall_mem_cons.mpr ⟨(am_mem (tb1 5 rfl) rfl), fun _ h => absurd h List.not_mem_nil⟩⟩⟩⟩, ⟨by decide, by decide, by decide +kernel⟩, by decide, _, _, rfl⟩
theorem ck_Img_96 : ckV "SpanLinker$Image" 96 1 1 m_Mod_wordsOfCommon := ⟨cw_Mod_wordsOfCommon, List.forall_mem_cons.mpr ⟨(am_mem (tb2 230 rfl) rfl), List.forall_mem_cons.mpr ⟨(am_mem (tb2 231 rfl) rfl), List.forall_mem_cons.mpr ⟨(am_mem (tb2 232 rfl) rfl), List.forall_mem_cons.mpr ⟨(am_mem (tb1 2 rfl) rfl), fun _ h => absurd h List.not_mem_nil⟩⟩⟩⟩, ⟨by decide, by decide, by decide +kernel⟩, by decide, _, _, rfl⟩
theorem ck_Img_105 : ckV "SpanLinker$Image" 105 1 0 m_Mod_exportedNames := ⟨cw_Mod_exportedNames, List.forall_mem_cons.mpr ⟨(am_mem (tb3 1 rfl) rfl), List.forall_mem_cons.mpr ⟨(am_mem (tb2 175 rfl) rfl), List.forall_mem_cons.mpr ⟨(am_mem (tb2 176 rfl) rfl), List.forall_mem_cons.mpr ⟨(am_mem (tb1 2 rfl) rfl), fun _ h => absurd h List.not_mem_nil⟩⟩⟩⟩, ⟨by decide, by decide, by decide +kernel⟩, by decide, _, _, rfl⟩
theorem ck_Img_108 : ckN "SpanLinker$Image" 108 2 m_SL_hasName := ⟨cw_SL_hasName, ⟨"SpanLinker", List.mem_of_getElem? (i := 10) rfl⟩, (am_mem (tb1 1 rfl) rfl), (am_mem (tb2 17 rfl) rfl), ⟨by decide, by decide, by decide +kernel⟩, by decide⟩
theorem ck_Img_112 : ckV "SpanLinker$Image" 112 4 2 m_Img_standsFor := ⟨cw_Img_standsFor, List.forall_mem_cons.mpr ⟨(am_mem (tb3 3 rfl) rfl), List.forall_mem_cons.mpr ⟨(am_mem (tb3 5 rfl) rfl), List.forall_mem_cons.mpr ⟨(am_mem (tb0 19 rfl) rfl), List.forall_mem_cons.mpr ⟨(am_mem (tb1 5 rfl) rfl), fun _ h => absurd h List.not_mem_nil⟩⟩⟩⟩, ⟨by decide, by decide, by decide +kernel⟩, by decide, _, _, rfl⟩
theorem ck_Img_115 : ckV "SpanLinker$Image" 115 1 1 m_Mod_defines := ⟨cw_Mod_defines, List.forall_mem_cons.mpr ⟨(am_mem (tb3 7 rfl) rfl), List.forall_mem_cons.mpr ⟨(am_mem (tb3 8 rfl) rfl), List.forall_mem_cons.mpr ⟨(am_mem (tb3 9 rfl) rfl), List.forall_mem_cons.mpr ⟨(am_mem (tb1 2 rfl) rfl), fun _ h => absurd h List.not_mem_nil⟩⟩⟩⟩, ⟨by decide, by decide, by decide +kernel⟩, by decide, _, _, rfl⟩
theorem ck_Img_118 : ckV "SpanLinker$Image" 118 1 1 m_Mod_holderOf := ⟨cw_Mod_holderOf, List.forall_mem_cons.mpr ⟨(am_mem (tb3 11 rfl) rfl), List.forall_mem_cons.mpr ⟨(am_mem (tb3 12 rfl) rfl), List.forall_mem_cons.mpr ⟨(am_mem (tb3 13 rfl) rfl), List.forall_mem_cons.mpr ⟨(am_mem (tb1 2 rfl) rfl), fun _ h => absurd h List.not_mem_nil⟩⟩⟩⟩, ⟨by decide, by decide, by decide +kernel⟩, by decide, _, _, rfl⟩
theorem ck_Img_121 : ckV "SpanLinker$Image" 121 1 1 m_Mod_kindOf := ⟨cw_Mod_kindOf, List.forall_mem_cons.mpr ⟨(am_mem (tb3 15 rfl) rfl), List.forall_mem_cons.mpr ⟨(am_mem (tb3 16 rfl) rfl), List.forall_mem_cons.mpr ⟨(am_mem (tb3 17 rfl) rfl), List.forall_mem_cons.mpr ⟨(am_mem (tb1 2 rfl) rfl), fun _ h => absurd h List.not_mem_nil⟩⟩⟩⟩, ⟨by decide, by decide, by decide +kernel⟩, by decide, _, _, rfl⟩
theorem ck_Img_124 : ckV "SpanLinker$Image" 124 1 1 m_Mod_secondOf := ⟨cw_Mod_secondOf, List.forall_mem_cons.mpr ⟨(am_mem (tb3 19 rfl) rfl), List.forall_mem_cons.mpr ⟨(am_mem (tb3 20 rfl) rfl), List.forall_mem_cons.mpr ⟨(am_mem (tb3 21 rfl) rfl), List.forall_mem_cons.mpr ⟨(am_mem (tb1 2 rfl) rfl), fun _ h => absurd h List.not_mem_nil⟩⟩⟩⟩, ⟨by decide, by decide, by decide +kernel⟩, by decide, _, _, rfl⟩
theorem ck_Img_127 : ckV "SpanLinker$Image" 127 4 2 m_Img_addressOf := ⟨cw_Img_addressOf, List.forall_mem_cons.mpr ⟨(am_mem (tb3 23 rfl) rfl), List.forall_mem_cons.mpr ⟨(am_mem (tb3 25 rfl) rfl), List.forall_mem_cons.mpr ⟨(am_mem (tb0 20 rfl) rfl), List.forall_mem_cons.mpr ⟨(am_mem (tb1 5 rfl) rfl), fun _ h => absurd h List.not_mem_nil⟩⟩⟩⟩, ⟨by decide, by decide, by decide +kernel⟩, by decide, _, _, rfl⟩
theorem ck_Img_130 : ckV "SpanLinker$Image" 130 1 1 m_Mod_sectionOf := ⟨cw_Mod_sectionOf, List.forall_mem_cons.mpr ⟨(am_mem (tb3 27 rfl) rfl), List.forall_mem_cons.mpr ⟨(am_mem (tb3 28 rfl) rfl), List.forall_mem_cons.mpr ⟨(am_mem (tb3 29 rfl) rfl), List.forall_mem_cons.mpr ⟨(am_mem (tb1 2 rfl) rfl), fun _ h => absurd h List.not_mem_nil⟩⟩⟩⟩, ⟨by decide, by decide, by decide +kernel⟩, by decide, _, _, rfl⟩
theorem ck_Img_133 : ckV "SpanLinker$Image" 133 1 1 m_Mod_placeOf := ⟨cw_Mod_placeOf, List.forall_mem_cons.mpr ⟨(am_mem (tb3 31 rfl) rfl), List.forall_mem_cons.mpr ⟨(am_mem (tb3 32 rfl) rfl), List.forall_mem_cons.mpr ⟨(am_mem (tb3 33 rfl) rfl), List.forall_mem_cons.mpr ⟨(am_mem (tb1 2 rfl) rfl), fun _ h => absurd h List.not_mem_nil⟩⟩⟩⟩, ⟨by decide, by decide, by decide +kernel⟩, by decide, _, _, rfl⟩
theorem ck_Img_136 : ckV "SpanLinker$Image" 136 1 0 m_Mod_howMany := ⟨cw_Mod_howMany, List.forall_mem_cons.mpr ⟨(am_mem (tb3 43 rfl) rfl), List.forall_mem_cons.mpr ⟨(am_mem (tb3 44 rfl) rfl), List.forall_mem_cons.mpr ⟨(am_mem (tb3 45 rfl) rfl), List.forall_mem_cons.mpr ⟨(am_mem (tb1 2 rfl) rfl), fun _ h => absurd h List.not_mem_nil⟩⟩⟩⟩, ⟨by decide, by decide, by decide +kernel⟩, by decide, _, _, rfl⟩
theorem ck_Img_137 : ckV "SpanLinker$Image" 137 1 1 m_Mod_firstOf := ⟨cw_Mod_firstOf, List.forall_mem_cons.mpr ⟨(am_mem (tb3 47 rfl) rfl), List.forall_mem_cons.mpr ⟨(am_mem (tb3 48 rfl) rfl), List.forall_mem_cons.mpr ⟨(am_mem (tb3 49 rfl) rfl), List.forall_mem_cons.mpr ⟨(am_mem (tb1 2 rfl) rfl), fun _ h => absurd h List.not_mem_nil⟩⟩⟩⟩, ⟨by decide, by decide, by decide +kernel⟩, by decide, _, _, rfl⟩
theorem ck_Img_140 : ckN "SpanLinker$Image" 140 1 m_SL_toWord := ⟨cw_SL_toWord, ⟨"SpanLinker", List.mem_of_getElem? (i := 11) rfl⟩, (am_mem (tb1 1 rfl) rfl), (am_mem (tb3 52 rfl) rfl), ⟨by decide, by decide, by decide +kernel⟩, by decide⟩
theorem ck_Img_143 : ckV "SpanLinker$Image" 143 4 3 m_Img_writeJump := ⟨cw_Img_writeJump, List.forall_mem_cons.mpr ⟨(am_mem (tb3 54 rfl) rfl), List.forall_mem_cons.mpr ⟨(am_mem (tb3 56 rfl) rfl), List.forall_mem_cons.mpr ⟨(am_mem (tb0 23 rfl) rfl), List.forall_mem_cons.mpr ⟨(am_mem (tb1 5 rfl) rfl), fun _ h => absurd h List.not_mem_nil⟩⟩⟩⟩, ⟨by decide, by decide, by decide +kernel⟩, by decide, _, _, rfl⟩
theorem ck_Img_147 : ckV "SpanLinker$Image" 147 1 1 m_Mod_isLongJump := ⟨cw_Mod_isLongJump, List.forall_mem_cons.mpr ⟨(am_mem (tb3 58 rfl) rfl), List.forall_mem_cons.mpr ⟨(am_mem (tb2 76 rfl) rfl), List.forall_mem_cons.mpr ⟨(am_mem (tb2 77 rfl) rfl), List.forall_mem_cons.mpr ⟨(am_mem (tb1 2 rfl) rfl), fun _ h => absurd h List.not_mem_nil⟩⟩⟩⟩, ⟨by decide, by decide, by decide +kernel⟩, by decide, _, _, rfl⟩
theorem ck_Img_152 : ckV "SpanLinker$Image" 152 1 1 m_Mod_distanceOf := ⟨cw_Mod_distanceOf, List.forall_mem_cons.mpr ⟨(am_mem (tb3 61 rfl) rfl), List.forall_mem_cons.mpr ⟨(am_mem (tb2 51 rfl) rfl), List.forall_mem_cons.mpr ⟨(am_mem (tb2 52 rfl) rfl), List.forall_mem_cons.mpr ⟨(am_mem (tb1 2 rfl) rfl), fun _ h => absurd h List.not_mem_nil⟩⟩⟩⟩, ⟨by decide, by decide, by decide +kernel⟩, by decide, _, _, rfl⟩
theorem ck_Inc_24 : ckV "SpanLinker$Inclusion" 24 3 0 m_Row_makeEmpty := ⟨cw_Row_makeEmpty, List.forall_mem_cons.mpr ⟨(am_mem (tb2 154 rfl) rfl), List.forall_mem_cons.mpr ⟨(am_mem (tb2 134 rfl) rfl), List.forall_mem_cons.mpr ⟨(am_mem (tb2 135 rfl) rfl), List.forall_mem_cons.mpr ⟨(am_mem (tb1 4 rfl) rfl), fun _ h => absurd h List.not_mem_nil⟩⟩⟩⟩, ⟨by decide, by decide, by decide +kernel⟩, by decide, _, _, rfl⟩
theorem ck_Inc_27 : ckN "SpanLinker$Inclusion" 27 1 m_SL_setOf := ⟨cw_SL_setOf, ⟨"SpanLinker", List.mem_of_getElem? (i := 8) rfl⟩, (am_mem (tb1 1 rfl) rfl), (am_mem (tb2 28 rfl) rfl), ⟨by decide, by decide, by decide +kernel⟩, by decide⟩
theorem ck_Inc_44 : ckV "SpanLinker$Inclusion" 44 3 0 m_Row_howMany := ⟨cw_Row_howMany, List.forall_mem_cons.mpr ⟨(am_mem (tb2 156 rfl) rfl), List.forall_mem_cons.mpr ⟨(am_mem (tb2 157 rfl) rfl), List.forall_mem_cons.mpr ⟨(am_mem (tb2 158 rfl) rfl), List.forall_mem_cons.mpr ⟨(am_mem (tb1 4 rfl) rfl), fun _ h => absurd h List.not_mem_nil⟩⟩⟩⟩, ⟨by decide, by decide, by decide +kernel⟩, by decide, _, _, rfl⟩
theorem ck_Inc_48 : ckV "SpanLinker$Inclusion" 48 3 1 m_Row_at := ⟨cw_Row_at, List.forall_mem_cons.mpr ⟨(am_mem (tb2 160 rfl) rfl), List.forall_mem_cons.mpr ⟨(am_mem (tb2 118 rfl) rfl), List.forall_mem_cons.mpr ⟨(am_mem (tb2 119 rfl) rfl), List.forall_mem_cons.mpr ⟨(am_mem (tb1 4 rfl) rfl), fun _ h => absurd h List.not_mem_nil⟩⟩⟩⟩, ⟨by decide, by decide, by decide +kernel⟩, by decide, _, _, rfl⟩
theorem ck_Inc_51 : ckV "SpanLinker$Inclusion" 51 2 1 m_Inc_search := ⟨cw_Inc_search, List.forall_mem_cons.mpr ⟨(am_mem (tb2 161 rfl) rfl), List.forall_mem_cons.mpr ⟨(am_mem (tb2 163 rfl) rfl), List.forall_mem_cons.mpr ⟨(am_mem (tb0 11 rfl) rfl), List.forall_mem_cons.mpr ⟨(am_mem (tb1 3 rfl) rfl), fun _ h => absurd h List.not_mem_nil⟩⟩⟩⟩, ⟨by decide, by decide, by decide +kernel⟩, by decide, _, _, rfl⟩
theorem ck_Inc_55 : ckV "SpanLinker$Inclusion" 55 2 1 m_Inc_include := ⟨cw_Inc_include, List.forall_mem_cons.mpr ⟨(am_mem (tb2 182 rfl) rfl), List.forall_mem_cons.mpr ⟨(am_mem (tb2 184 rfl) rfl), List.forall_mem_cons.mpr ⟨(am_mem (tb0 14 rfl) rfl), List.forall_mem_cons.mpr ⟨(am_mem (tb1 3 rfl) rfl), fun _ h => absurd h List.not_mem_nil⟩⟩⟩⟩, ⟨by decide, by decide, by decide +kernel⟩, by decide, _, _, rfl⟩
theorem ck_Inc_58 : ckN "SpanLinker$Inclusion" 58 2 m_SL_hasName := ⟨cw_SL_hasName, ⟨"SpanLinker", List.mem_of_getElem? (i := 9) rfl⟩, (am_mem (tb1 1 rfl) rfl), (am_mem (tb2 17 rfl) rfl), ⟨by decide, by decide, by decide +kernel⟩, by decide⟩
theorem ck_Inc_62 : ckV "SpanLinker$Inclusion" 62 2 1 m_Inc_includeWantedMembers := ⟨cw_Inc_includeWantedMembers, List.forall_mem_cons.mpr ⟨(am_mem (tb2 165 rfl) rfl), List.forall_mem_cons.mpr ⟨(am_mem (tb2 167 rfl) rfl), List.forall_mem_cons.mpr ⟨(am_mem (tb0 12 rfl) rfl), List.forall_mem_cons.mpr ⟨(am_mem (tb1 3 rfl) rfl), fun _ h => absurd h List.not_mem_nil⟩⟩⟩⟩, ⟨by decide, by decide, by decide +kernel⟩, by decide, _, _, rfl⟩
theorem ck_Inc_66 : ckV "SpanLinker$Inclusion" 66 3 1 m_Row_holds := ⟨cw_Row_holds, List.forall_mem_cons.mpr ⟨(am_mem (tb2 169 rfl) rfl), List.forall_mem_cons.mpr ⟨(am_mem (tb2 84 rfl) rfl), List.forall_mem_cons.mpr ⟨(am_mem (tb2 85 rfl) rfl), List.forall_mem_cons.mpr ⟨(am_mem (tb1 4 rfl) rfl), fun _ h => absurd h List.not_mem_nil⟩⟩⟩⟩, ⟨by decide, by decide, by decide +kernel⟩, by decide, _, _, rfl⟩
theorem ck_Inc_70 : ckV "SpanLinker$Inclusion" 70 2 1 m_Inc_exportsWantedName := ⟨cw_Inc_exportsWantedName, List.forall_mem_cons.mpr ⟨(am_mem (tb2 170 rfl) rfl), List.forall_mem_cons.mpr ⟨(am_mem (tb2 172 rfl) rfl), List.forall_mem_cons.mpr ⟨(am_mem (tb0 13 rfl) rfl), List.forall_mem_cons.mpr ⟨(am_mem (tb1 3 rfl) rfl), fun _ h => absurd h List.not_mem_nil⟩⟩⟩⟩, ⟨by decide, by decide, by decide +kernel⟩, by decide, _, _, rfl⟩
theorem ck_Inc_73 : ckV "SpanLinker$Inclusion" 73 1 0 m_Mod_exportedNames := ⟨cw_Mod_exportedNames, List.forall_mem_cons.mpr ⟨(am_mem (tb2 174 rfl) rfl), List.forall_mem_cons.mpr ⟨(am_mem (tb2 175 rfl) rfl), List.forall_mem_cons.mpr ⟨(am_mem (tb2 176 rfl) rfl), List.forall_mem_cons.mpr ⟨(am_mem (tb1 2 rfl) rfl), fun _ h => absurd h List.not_mem_nil⟩⟩⟩⟩, ⟨by decide, by decide, by decide +kernel⟩, by decide, _, _, rfl⟩
theorem ck_Inc_77 : ckV "SpanLinker$Inclusion" 77 2 0 m_Inc_wantedNames := ⟨cw_Inc_wantedNames, List.forall_mem_cons.mpr ⟨(am_mem (tb2 178 rfl) rfl), List.forall_mem_cons.mpr ⟨(am_mem (tb2 179 rfl) rfl), List.forall_mem_cons.mpr ⟨(am_mem (tb2 180 rfl) rfl), List.forall_mem_cons.mpr ⟨(am_mem (tb1 3 rfl) rfl), fun _ h => absurd h List.not_mem_nil⟩⟩⟩⟩, ⟨by decide, by decide, by decide +kernel⟩, by decide, _, _, rfl⟩
theorem ck_Inc_80 : ckV "SpanLinker$Inclusion" 80 3 1 m_Row_append := ⟨cw_Row_append, List.forall_mem_cons.mpr ⟨(am_mem (tb2 186 rfl) rfl), List.forall_mem_cons.mpr ⟨(am_mem (tb2 100 rfl) rfl), List.forall_mem_cons.mpr ⟨(am_mem (tb2 101 rfl) rfl), List.forall_mem_cons.mpr ⟨(am_mem (tb1 4 rfl) rfl), fun _ h => absurd h List.not_mem_nil⟩⟩⟩⟩, ⟨by decide, by decide, by decide +kernel⟩, by decide, _, _, rfl⟩
theorem ck_Inc_83 : ckV "SpanLinker$Inclusion" 83 1 0 m_Mod_commons := ⟨cw_Mod_commons, List.forall_mem_cons.mpr ⟨(am_mem (tb2 187 rfl) rfl), List.forall_mem_cons.mpr ⟨(am_mem (tb2 188 rfl) rfl), List.forall_mem_cons.mpr ⟨(am_mem (tb2 189 rfl) rfl), List.forall_mem_cons.mpr ⟨(am_mem (tb1 2 rfl) rfl), fun _ h => absurd h List.not_mem_nil⟩⟩⟩⟩, ⟨by decide, by decide, by decide +kernel⟩, by decide, _, _, rfl⟩
theorem ck_Inc_86 : ckV "SpanLinker$Inclusion" 86 1 0 m_Mod_referredNames := ⟨cw_Mod_referredNames, List.forall_mem_cons.mpr ⟨(am_mem (tb2 191 rfl) rfl), List.forall_mem_cons.mpr ⟨(am_mem (tb2 192 rfl) rfl), List.forall_mem_cons.mpr ⟨(am_mem (tb2 193 rfl) rfl), List.forall_mem_cons.mpr ⟨(am_mem (tb1 2 rfl) rfl), fun _ h => absurd h List.not_mem_nil⟩⟩⟩⟩, ⟨by decide, by decide, by decide +kernel⟩, by decide, _, _, rfl⟩
theorem ck_Mac_25 : ckV "SpanLinker$Machine" 25 4 0 m_Img_howMany := ⟨cw_Img_howMany, List.forall_mem_cons.mpr ⟨(am_mem (tb3 118 rfl) rfl), List.forall_mem_cons.mpr ⟨(am_mem (tb3 119 rfl) rfl), List.forall_mem_cons.mpr ⟨(am_mem (tb3 120 rfl) rfl), List.forall_mem_cons.mpr ⟨(am_mem (tb1 5 rfl) rfl), fun _ h => absurd h List.not_mem_nil⟩⟩⟩⟩, ⟨by decide, by decide, by decide +kernel⟩, by decide, _, _, rfl⟩
theorem ck_Mac_35 : ckV "SpanLinker$Machine" 35 4 0 m_Img_textWords := ⟨cw_Img_textWords, List.forall_mem_cons.mpr ⟨(am_mem (tb3 122 rfl) rfl), List.forall_mem_cons.mpr ⟨(am_mem (tb3 123 rfl) rfl), List.forall_mem_cons.mpr ⟨(am_mem (tb3 124 rfl) rfl), List.forall_mem_cons.mpr ⟨(am_mem (tb1 5 rfl) rfl), fun _ h => absurd h List.not_mem_nil⟩⟩⟩⟩, ⟨by decide, by decide, by decide +kernel⟩, by decide, _, _, rfl⟩
theorem ck_Mac_40 : ckV "SpanLinker$Machine" 40 4 1 m_Img_wordAt := ⟨cw_Img_wordAt, List.forall_mem_cons.mpr ⟨(am_mem (tb3 126 rfl) rfl), List.forall_mem_cons.mpr ⟨(am_mem (tb3 85 rfl) rfl), List.forall_mem_cons.mpr ⟨(am_mem (tb3 86 rfl) rfl), List.forall_mem_cons.mpr ⟨(am_mem (tb1 5 rfl) rfl), fun _ h => absurd h List.not_mem_nil⟩⟩⟩⟩, ⟨by decide, by decide, by decide +kernel⟩, by decide, _, _, rfl⟩
theorem ck_Mac_50 : ckV "SpanLinker$Machine" 50 4 0 m_Img_entryAddress := ⟨cw_Img_entryAddress, List.forall_mem_cons.mpr ⟨(am_mem (tb3 127 rfl) rfl), List.forall_mem_cons.mpr ⟨(am_mem (tb3 128 rfl) rfl), List.forall_mem_cons.mpr ⟨(am_mem (tb3 129 rfl) rfl), List.forall_mem_cons.mpr ⟨(am_mem (tb1 5 rfl) rfl), fun _ h => absurd h List.not_mem_nil⟩⟩⟩⟩, ⟨by decide, by decide, by decide +kernel⟩, by decide, _, _, rfl⟩
theorem ck_Mac_68 : ckN "SpanLinker$Machine" 68 1 m_SL_isWord := ⟨cw_SL_isWord, ⟨"SpanLinker", List.mem_of_getElem? (i := 15) rfl⟩, (am_mem (tb1 1 rfl) rfl), (am_mem (tb1 237 rfl) rfl), ⟨by decide, by decide, by decide +kernel⟩, by decide⟩
theorem ck_Mac_72 : ckV "SpanLinker$Machine" 72 5 0 m_Mac_doStep := ⟨cw_Mac_doStep, List.forall_mem_cons.mpr ⟨(am_mem (tb3 152 rfl) rfl), List.forall_mem_cons.mpr ⟨(am_mem (tb3 154 rfl) rfl), List.forall_mem_cons.mpr ⟨(am_mem (tb0 24 rfl) rfl), List.forall_mem_cons.mpr ⟨(am_mem (tb1 6 rfl) rfl), fun _ h => absurd h List.not_mem_nil⟩⟩⟩⟩, ⟨by decide, by decide, by decide +kernel⟩, by decide, _, _, rfl⟩
theorem ck_Mac_75 : ckV "SpanLinker$Machine" 75 5 1 m_Mac_latestWord := ⟨cw_Mac_latestWord, List.forall_mem_cons.mpr ⟨(am_mem (tb3 201 rfl) rfl), List.forall_mem_cons.mpr ⟨(am_mem (tb3 203 rfl) rfl), List.forall_mem_cons.mpr ⟨(am_mem (tb0 32 rfl) rfl), List.forall_mem_cons.mpr ⟨(am_mem (tb1 6 rfl) rfl), fun _ h => absurd h List.not_mem_nil⟩⟩⟩⟩, ⟨by decide, by decide, by decide +kernel⟩, by decide, _, _, rfl⟩
theorem ck_Mac_78 : ckV "SpanLinker$Machine" 78 5 1 m_Mac_isInside := ⟨cw_Mac_isInside, List.forall_mem_cons.mpr ⟨(am_mem (tb3 156 rfl) rfl), List.forall_mem_cons.mpr ⟨(am_mem (tb3 158 rfl) rfl), List.forall_mem_cons.mpr ⟨(am_mem (tb0 25 rfl) rfl), List.forall_mem_cons.mpr ⟨(am_mem (tb1 6 rfl) rfl), fun _ h => absurd h List.not_mem_nil⟩⟩⟩⟩, ⟨by decide, by decide, by decide +kernel⟩, by decide, _, _, rfl⟩
theorem ck_Mac_81 : ckN "SpanLinker$Machine" 81 3 m_SL_isWithin := ⟨cw_SL_isWithin, ⟨"SpanLinker", List.mem_of_getElem? (i := 16) rfl⟩, (am_mem (tb1 1 rfl) rfl), (am_mem (tb1 221 rfl) rfl), ⟨by decide, by decide, by decide +kernel⟩, by decide⟩
theorem ck_Mac_85 : ckS "SpanLinker$Machine" 85 1 m_Mac_isTwoWordsLong := ⟨cw_Mac_isTwoWordsLong, List.forall_mem_cons.mpr ⟨(am_mem (tb3 160 rfl) rfl), List.forall_mem_cons.mpr ⟨(am_mem (tb3 161 rfl) rfl), List.forall_mem_cons.mpr ⟨(am_mem (tb1 6 rfl) rfl), fun _ h => absurd h List.not_mem_nil⟩⟩⟩, ⟨rfl, by decide, by decide, by decide +kernel⟩, by decide⟩
theorem ck_Mac_88 : ckV "SpanLinker$Machine" 88 5 2 m_Mac_doTwoWords := ⟨cw_Mac_doTwoWords, List.forall_mem_cons.mpr ⟨(am_mem (tb3 164 rfl) rfl), List.forall_mem_cons.mpr ⟨(am_mem (tb3 166 rfl) rfl), List.forall_mem_cons.mpr ⟨(am_mem (tb0 26 rfl) rfl), List.forall_mem_cons.mpr ⟨(am_mem (tb1 6 rfl) rfl), fun _ h => absurd h List.not_mem_nil⟩⟩⟩⟩, ⟨by decide, by decide, by decide +kernel⟩, by decide, _, _, rfl⟩
theorem ck_Mac_92 : ckV "SpanLinker$Machine" 92 5 2 m_Mac_doOneWord := ⟨cw_Mac_doOneWord, List.forall_mem_cons.mpr ⟨(am_mem (tb3 178 rfl) rfl), List.forall_mem_cons.mpr ⟨(am_mem (tb3 180 rfl) rfl), List.forall_mem_cons.mpr ⟨(am_mem (tb0 29 rfl) rfl), List.forall_mem_cons.mpr ⟨(am_mem (tb1 6 rfl) rfl), fun _ h => absurd h List.not_mem_nil⟩⟩⟩⟩, ⟨by decide, by decide, by decide +kernel⟩, by decide, _, _, rfl⟩
theorem ck_Mac_95 : ckV "SpanLinker$Machine" 95 5 2 m_Mac_mayTouch := ⟨cw_Mac_mayTouch, List.forall_mem_cons.mpr ⟨(am_mem (tb3 168 rfl) rfl), List.forall_mem_cons.mpr ⟨(am_mem (tb3 170 rfl) rfl), List.forall_mem_cons.mpr ⟨(am_mem (tb0 27 rfl) rfl), List.forall_mem_cons.mpr ⟨(am_mem (tb1 6 rfl) rfl), fun _ h => absurd h List.not_mem_nil⟩⟩⟩⟩, ⟨by decide, by decide, by decide +kernel⟩, by decide, _, _, rfl⟩
theorem ck_Mac_99 : ckN "SpanLinker$Machine" 99 1 m_SL_toWord := ⟨cw_SL_toWord, ⟨"SpanLinker", List.mem_of_getElem? (i := 17) rfl⟩, (am_mem (tb1 1 rfl) rfl), (am_mem (tb3 52 rfl) rfl), ⟨by decide, by decide, by decide +kernel⟩, by decide⟩
theorem ck_Mac_102 : ckV "SpanLinker$Machine" 102 5 1 m_Mac_conditionHolds := ⟨cw_Mac_conditionHolds, List.forall_mem_cons.mpr ⟨(am_mem (tb3 173 rfl) rfl), List.forall_mem_cons.mpr ⟨(am_mem (tb3 175 rfl) rfl), List.forall_mem_cons.mpr ⟨(am_mem (tb0 28 rfl) rfl), List.forall_mem_cons.mpr ⟨(am_mem (tb1 6 rfl) rfl), fun _ h => absurd h List.not_mem_nil⟩⟩⟩⟩, ⟨by decide, by decide, by decide +kernel⟩, by decide, _, _, rfl⟩
theorem ck_Mac_105 : ckS "SpanLinker$Machine" 105 1 m_Mac_signed := ⟨cw_Mac_signed, List.forall_mem_cons.mpr ⟨(am_mem (tb3 182 rfl) rfl), List.forall_mem_cons.mpr ⟨(am_mem (tb3 183 rfl) rfl), List.forall_mem_cons.mpr ⟨(am_mem (tb1 6 rfl) rfl), fun _ h => absurd h List.not_mem_nil⟩⟩⟩, ⟨rfl, by decide, by decide, by decide +kernel⟩, by decide⟩
theorem ck_Mac_108 : ckV "SpanLinker$Machine" 108 5 0 m_Mac_putOutA := ⟨cw_Mac_putOutA, List.forall_mem_cons.mpr ⟨(am_mem (tb3 185 rfl) rfl), List.forall_mem_cons.mpr ⟨(am_mem (tb3 187 rfl) rfl), List.forall_mem_cons.mpr ⟨(am_mem (tb0 30 rfl) rfl), List.forall_mem_cons.mpr ⟨(am_mem (tb1 6 rfl) rfl), fun _ h => absurd h List.not_mem_nil⟩⟩⟩⟩, ⟨by decide, by decide, by decide +kernel⟩, by decide, _, _, rfl⟩
theorem ck_Mac_111 : ckV "SpanLinker$Machine" 111 5 0 m_Mac_nextOfTape := ⟨cw_Mac_nextOfTape, List.forall_mem_cons.mpr ⟨(am_mem (tb3 189 rfl) rfl), List.forall_mem_cons.mpr ⟨(am_mem (tb3 191 rfl) rfl), List.forall_mem_cons.mpr ⟨(am_mem (tb0 31 rfl) rfl), List.forall_mem_cons.mpr ⟨(am_mem (tb1 6 rfl) rfl), fun _ h => absurd h List.not_mem_nil⟩⟩⟩⟩, ⟨by decide, by decide, by decide +kernel⟩, by decide, _, _, rfl⟩
theorem ck_Row_19 : ckV "SpanLinker$Row" 19 3 1 m_Row_placeOf := ⟨cw_Row_placeOf, List.forall_mem_cons.mpr ⟨(am_mem (tb2 87 rfl) rfl), List.forall_mem_cons.mpr ⟨(am_mem (tb2 88 rfl) rfl), List.forall_mem_cons.mpr ⟨(am_mem (tb2 89 rfl) rfl), List.forall_mem_cons.mpr ⟨(am_mem (tb1 4 rfl) rfl), fun _ h => absurd h List.not_mem_nil⟩⟩⟩⟩, ⟨by decide, by decide, by decide +kernel⟩, by decide, _, _, rfl⟩
theorem ck_Row_23 : ckV "SpanLinker$Row" 23 3 2 m_Row_insert := ⟨cw_Row_insert, List.forall_mem_cons.mpr ⟨(am_mem (tb2 103 rfl) rfl), List.forall_mem_cons.mpr ⟨(am_mem (tb2 104 rfl) rfl), List.forall_mem_cons.mpr ⟨(am_mem (tb2 105 rfl) rfl), List.forall_mem_cons.mpr ⟨(am_mem (tb1 4 rfl) rfl), fun _ h => absurd h List.not_mem_nil⟩⟩⟩⟩, ⟨by decide, by decide, by decide +kernel⟩, by decide, _, _, rfl⟩
theorem ck_Mod_41 : ckS "SpanLinker$SourceModule" 41 3 m_Mod_hasFittingNumbers := ⟨cw_Mod_hasFittingNumbers, List.forall_mem_cons.mpr ⟨(am_mem (tb1 227 rfl) rfl), List.forall_mem_cons.mpr ⟨(am_mem (tb1 228 rfl) rfl), List.forall_mem_cons.mpr ⟨(am_mem (tb1 2 rfl) rfl), fun _ h => absurd h List.not_mem_nil⟩⟩⟩, ⟨rfl, by decide, by decide, by decide +kernel⟩, by decide⟩
theorem ck_Mod_45 : ckV "SpanLinker$SourceModule" 45 1 1 m_Mod_mayStandInSection := ⟨cw_Mod_mayStandInSection, List.forall_mem_cons.mpr ⟨(am_mem (tb2 1 rfl) rfl), List.forall_mem_cons.mpr ⟨(am_mem (tb2 3 rfl) rfl), List.forall_mem_cons.mpr ⟨(am_mem (tb0 0 rfl) rfl), List.forall_mem_cons.mpr ⟨(am_mem (tb1 2 rfl) rfl), fun _ h => absurd h List.not_mem_nil⟩⟩⟩⟩, ⟨by decide, by decide, by decide +kernel⟩, by decide, _, _, rfl⟩
theorem ck_Mod_49 : ckV "SpanLinker$SourceModule" 49 1 2 m_Mod_isSaidTwice := ⟨cw_Mod_isSaidTwice, List.forall_mem_cons.mpr ⟨(am_mem (tb2 9 rfl) rfl), List.forall_mem_cons.mpr ⟨(am_mem (tb2 11 rfl) rfl), List.forall_mem_cons.mpr ⟨(am_mem (tb0 2 rfl) rfl), List.forall_mem_cons.mpr ⟨(am_mem (tb1 2 rfl) rfl), fun _ h => absurd h List.not_mem_nil⟩⟩⟩⟩, ⟨by decide, by decide, by decide +kernel⟩, by decide, _, _, rfl⟩
theorem ck_Mod_53 : ckV "SpanLinker$SourceModule" 53 1 0 m_Mod_currentSection := ⟨cw_Mod_currentSection, List.forall_mem_cons.mpr ⟨(am_mem (tb2 5 rfl) rfl), List.forall_mem_cons.mpr ⟨(am_mem (tb2 7 rfl) rfl), List.forall_mem_cons.mpr ⟨(am_mem (tb0 1 rfl) rfl), List.forall_mem_cons.mpr ⟨(am_mem (tb1 2 rfl) rfl), fun _ h => absurd h List.not_mem_nil⟩⟩⟩⟩, ⟨by decide, by decide, by decide +kernel⟩, by decide, _, _, rfl⟩
theorem ck_Mod_57 : ckV "SpanLinker$SourceModule" 57 1 2 m_Mod_noteName := ⟨cw_Mod_noteName, List.forall_mem_cons.mpr ⟨(am_mem (tb2 23 rfl) rfl), List.forall_mem_cons.mpr ⟨(am_mem (tb2 25 rfl) rfl), List.forall_mem_cons.mpr ⟨(am_mem (tb0 3 rfl) rfl), List.forall_mem_cons.mpr ⟨(am_mem (tb1 2 rfl) rfl), fun _ h => absurd h List.not_mem_nil⟩⟩⟩⟩, ⟨by decide, by decide, by decide +kernel⟩, by decide, _, _, rfl⟩
theorem ck_Mod_61 : ckV "SpanLinker$SourceModule" 61 1 0 m_Mod_settleJumps := ⟨cw_Mod_settleJumps, List.forall_mem_cons.mpr ⟨(am_mem (tb2 30 rfl) rfl), List.forall_mem_cons.mpr ⟨(am_mem (tb2 32 rfl) rfl), List.forall_mem_cons.mpr ⟨(am_mem (tb0 4 rfl) rfl), List.forall_mem_cons.mpr ⟨(am_mem (tb1 2 rfl) rfl), fun _ h => absurd h List.not_mem_nil⟩⟩⟩⟩, ⟨by decide, by decide, by decide +kernel⟩, by decide, _, _, rfl⟩
theorem ck_Mod_76 : ckN "SpanLinker$SourceModule" 76 2 m_SL_hasName := ⟨cw_SL_hasName, ⟨"SpanLinker", List.mem_of_getElem? (i := 6) rfl⟩, (am_mem (tb1 1 rfl) rfl), (am_mem (tb2 17 rfl) rfl), ⟨by decide, by decide, by decide +kernel⟩, by decide⟩
theorem ck_Mod_79 : ckN "SpanLinker$SourceModule" 79 1 m_SL_isName := ⟨cw_SL_isName, ⟨"SpanLinker", List.mem_of_getElem? (i := 2) rfl⟩, (am_mem (tb1 1 rfl) rfl), (am_mem (tb1 231 rfl) rfl), ⟨by decide, by decide, by decide +kernel⟩, by decide⟩
theorem ck_Mod_82 : ckN "SpanLinker$SourceModule" 82 1 m_SL_isSection := ⟨cw_SL_isSection, ⟨"SpanLinker", List.mem_of_getElem? (i := 3) rfl⟩, (am_mem (tb1 1 rfl) rfl), (am_mem (tb1 234 rfl) rfl), ⟨by decide, by decide, by decide +kernel⟩, by decide⟩
theorem ck_Mod_85 : ckN "SpanLinker$SourceModule" 85 1 m_SL_isWord := ⟨cw_SL_isWord, ⟨"SpanLinker", List.mem_of_getElem? (i := 4) rfl⟩, (am_mem (tb1 1 rfl) rfl), (am_mem (tb1 237 rfl) rfl), ⟨by decide, by decide, by decide +kernel⟩, by decide⟩
theorem ck_Mod_88 : ckN "SpanLinker$SourceModule" 88 3 m_SL_isWithin := ⟨cw_SL_isWithin, ⟨"SpanLinker", List.mem_of_getElem? (i := 5) rfl⟩, (am_mem (tb1 1 rfl) rfl), (am_mem (tb1 221 rfl) rfl), ⟨by decide, by decide, by decide +kernel⟩, by decide⟩
theorem ck_Mod_91 : ckS "SpanLinker$SourceModule" 91 1 m_Mod_holdsName := ⟨cw_Mod_holdsName, List.forall_mem_cons.mpr ⟨(am_mem (tb2 13 rfl) rfl), List.forall_mem_cons.mpr ⟨(am_mem (tb2 14 rfl) rfl), List.forall_mem_cons.mpr ⟨(am_mem (tb1 2 rfl) rfl), fun _ h => absurd h List.not_mem_nil⟩⟩⟩, ⟨rfl, by decide, by decide, by decide +kernel⟩, by decide⟩
theorem ck_Mod_94 : ckN "SpanLinker$SourceModule" 94 1 m_SL_setOf := ⟨cw_SL_setOf, ⟨"SpanLinker", List.mem_of_getElem? (i := 7) rfl⟩, (am_mem (tb1 1 rfl) rfl), (am_mem (tb2 28 rfl) rfl), ⟨by decide, by decide, by decide +kernel⟩, by decide⟩
theorem ck_Mod_98 : ckV "SpanLinker$SourceModule" 98 1 1 m_Mod_aimsAtOwnText := ⟨cw_Mod_aimsAtOwnText, List.forall_mem_cons.mpr ⟨(am_mem (tb2 34 rfl) rfl), List.forall_mem_cons.mpr ⟨(am_mem (tb2 36 rfl) rfl), List.forall_mem_cons.mpr ⟨(am_mem (tb0 5 rfl) rfl), List.forall_mem_cons.mpr ⟨(am_mem (tb1 2 rfl) rfl), fun _ h => absurd h List.not_mem_nil⟩⟩⟩⟩, ⟨by decide, by decide, by decide +kernel⟩, by decide, _, _, rfl⟩
theorem ck_Mod_101 : ckV "SpanLinker$SourceModule" 101 1 0 m_Mod_placeWords := ⟨cw_Mod_placeWords, List.forall_mem_cons.mpr ⟨(am_mem (tb2 38 rfl) rfl), List.forall_mem_cons.mpr ⟨(am_mem (tb2 40 rfl) rfl), List.forall_mem_cons.mpr ⟨(am_mem (tb0 6 rfl) rfl), List.forall_mem_cons.mpr ⟨(am_mem (tb1 2 rfl) rfl), fun _ h => absurd h List.not_mem_nil⟩⟩⟩⟩, ⟨by decide, by decide, by decide +kernel⟩, by decide, _, _, rfl⟩
theorem ck_Mod_104 : ckV "SpanLinker$SourceModule" 104 1 0 m_Mod_lengthenFarJumps := ⟨cw_Mod_lengthenFarJumps, List.forall_mem_cons.mpr ⟨(am_mem (tb2 46 rfl) rfl), List.forall_mem_cons.mpr ⟨(am_mem (tb2 48 rfl) rfl), List.forall_mem_cons.mpr ⟨(am_mem (tb0 8 rfl) rfl), List.forall_mem_cons.mpr ⟨(am_mem (tb1 2 rfl) rfl), fun _ h => absurd h List.not_mem_nil⟩⟩⟩⟩, ⟨by decide, by decide, by decide +kernel⟩, by decide, _, _, rfl⟩
theorem ck_Mod_108 : ckV "SpanLinker$SourceModule" 108 1 1 m_Mod_wordsOf := ⟨cw_Mod_wordsOf, List.forall_mem_cons.mpr ⟨(am_mem (tb2 42 rfl) rfl), List.forall_mem_cons.mpr ⟨(am_mem (tb2 44 rfl) rfl), List.forall_mem_cons.mpr ⟨(am_mem (tb0 7 rfl) rfl), List.forall_mem_cons.mpr ⟨(am_mem (tb1 2 rfl) rfl), fun _ h => absurd h List.not_mem_nil⟩⟩⟩⟩, ⟨by decide, by decide, by decide +kernel⟩, by decide, _, _, rfl⟩
theorem ck_Mod_111 : ckV "SpanLinker$SourceModule" 111 1 1 m_Mod_distanceOf := ⟨cw_Mod_distanceOf, List.forall_mem_cons.mpr ⟨(am_mem (tb2 50 rfl) rfl), List.forall_mem_cons.mpr ⟨(am_mem (tb2 51 rfl) rfl), List.forall_mem_cons.mpr ⟨(am_mem (tb2 52 rfl) rfl), List.forall_mem_cons.mpr ⟨(am_mem (tb1 2 rfl) rfl), fun _ h => absurd h List.not_mem_nil⟩⟩⟩⟩, ⟨by decide, by decide, by decide +kernel⟩, by decide, _, _, rfl⟩
theorem ck_Law_13 : ckV "SpanLinkerLaw" 13 0 4 m_SL_add := ⟨cw_SL_add, List.forall_mem_cons.mpr ⟨(am_mem (tb1 213 rfl) rfl), List.forall_mem_cons.mpr ⟨(am_mem (tb1 214 rfl) rfl), List.forall_mem_cons.mpr ⟨(am_mem (tb1 215 rfl) rfl), List.forall_mem_cons.mpr ⟨(am_mem (tb1 1 rfl) rfl), fun _ h => absurd h List.not_mem_nil⟩⟩⟩⟩, ⟨by decide, by decide, by decide +kernel⟩, by decide, _, _, rfl⟩
theorem ck_Law_17 : ckV "SpanLinkerLaw" 17 6 4 m_Ref_add := ⟨cw_Ref_add, List.forall_mem_cons.mpr ⟨(am_mem (tb4 76 rfl) rfl), List.forall_mem_cons.mpr ⟨(am_mem (tb4 77 rfl) rfl), List.forall_mem_cons.mpr ⟨(am_mem (tb4 78 rfl) rfl), List.forall_mem_cons.mpr ⟨(am_mem (tb1 7 rfl) rfl), fun _ h => absurd h List.not_mem_nil⟩⟩⟩⟩, ⟨by decide, by decide, by decide +kernel⟩, by decide, _, _, rfl⟩
theorem ck_Law_18 : ckV "SpanLinkerLaw" 18 0 1 m_SL_clear := ⟨cw_SL_clear, List.forall_mem_cons.mpr ⟨(am_mem (tb2 54 rfl) rfl), List.forall_mem_cons.mpr ⟨(am_mem (tb2 55 rfl) rfl), List.forall_mem_cons.mpr ⟨(am_mem (tb2 56 rfl) rfl), List.forall_mem_cons.mpr ⟨(am_mem (tb1 1 rfl) rfl), fun _ h => absurd h List.not_mem_nil⟩⟩⟩⟩, ⟨by decide, by decide, by decide +kernel⟩, by decide, _, _, rfl⟩
theorem ck_Law_22 : ckV "SpanLinkerLaw" 22 6 1 m_Ref_clear := ⟨cw_Ref_clear, List.forall_mem_cons.mpr ⟨(am_mem (tb4 121 rfl) rfl), List.forall_mem_cons.mpr ⟨(am_mem (tb4 122 rfl) rfl), List.forall_mem_cons.mpr ⟨(am_mem (tb4 123 rfl) rfl), List.forall_mem_cons.mpr ⟨(am_mem (tb1 7 rfl) rfl), fun _ h => absurd h List.not_mem_nil⟩⟩⟩⟩, ⟨by decide, by decide, by decide +kernel⟩, by decide, _, _, rfl⟩
theorem ck_Law_23 : ckV "SpanLinkerLaw" 23 0 2 m_SL_length := ⟨cw_SL_length, List.forall_mem_cons.mpr ⟨(am_mem (tb2 62 rfl) rfl), List.forall_mem_cons.mpr ⟨(am_mem (tb2 63 rfl) rfl), List.forall_mem_cons.mpr ⟨(am_mem (tb2 64 rfl) rfl), List.forall_mem_cons.mpr ⟨(am_mem (tb1 1 rfl) rfl), fun _ h => absurd h List.not_mem_nil⟩⟩⟩⟩, ⟨by decide, by decide, by decide +kernel⟩, by decide, _, _, rfl⟩
theorem ck_Law_27 : ckV "SpanLinkerLaw" 27 6 2 m_Ref_length := ⟨cw_Ref_length, List.forall_mem_cons.mpr ⟨(am_mem (tb4 125 rfl) rfl), List.forall_mem_cons.mpr ⟨(am_mem (tb4 126 rfl) rfl), List.forall_mem_cons.mpr ⟨(am_mem (tb4 127 rfl) rfl), List.forall_mem_cons.mpr ⟨(am_mem (tb1 7 rfl) rfl), fun _ h => absurd h List.not_mem_nil⟩⟩⟩⟩, ⟨by decide, by decide, by decide +kernel⟩, by decide, _, _, rfl⟩
theorem ck_Law_28 : ckV "SpanLinkerLaw" 28 0 2 m_SL_isLong := ⟨cw_SL_isLong, List.forall_mem_cons.mpr ⟨(am_mem (tb2 71 rfl) rfl), List.forall_mem_cons.mpr ⟨(am_mem (tb2 72 rfl) rfl), List.forall_mem_cons.mpr ⟨(am_mem (tb2 73 rfl) rfl), List.forall_mem_cons.mpr ⟨(am_mem (tb1 1 rfl) rfl), fun _ h => absurd h List.not_mem_nil⟩⟩⟩⟩, ⟨by decide, by decide, by decide +kernel⟩, by decide, _, _, rfl⟩
theorem ck_Law_32 : ckV "SpanLinkerLaw" 32 6 2 m_Ref_isLong := ⟨cw_Ref_isLong, List.forall_mem_cons.mpr ⟨(am_mem (tb4 129 rfl) rfl), List.forall_mem_cons.mpr ⟨(am_mem (tb4 130 rfl) rfl), List.forall_mem_cons.mpr ⟨(am_mem (tb4 131 rfl) rfl), List.forall_mem_cons.mpr ⟨(am_mem (tb1 7 rfl) rfl), fun _ h => absurd h List.not_mem_nil⟩⟩⟩⟩, ⟨by decide, by decide, by decide +kernel⟩, by decide, _, _, rfl⟩
theorem ck_Law_33 : ckV "SpanLinkerLaw" 33 0 2 m_SL_store := ⟨cw_SL_store, List.forall_mem_cons.mpr ⟨(am_mem (tb2 79 rfl) rfl), List.forall_mem_cons.mpr ⟨(am_mem (tb2 80 rfl) rfl), List.forall_mem_cons.mpr ⟨(am_mem (tb2 81 rfl) rfl), List.forall_mem_cons.mpr ⟨(am_mem (tb1 1 rfl) rfl), fun _ h => absurd h List.not_mem_nil⟩⟩⟩⟩, ⟨by decide, by decide, by decide +kernel⟩, by decide, _, _, rfl⟩
theorem ck_Law_36 : ckV "SpanLinkerLaw" 36 6 2 m_Ref_store := ⟨cw_Ref_store, List.forall_mem_cons.mpr ⟨(am_mem (tb4 133 rfl) rfl), List.forall_mem_cons.mpr ⟨(am_mem (tb4 134 rfl) rfl), List.forall_mem_cons.mpr ⟨(am_mem (tb4 135 rfl) rfl), List.forall_mem_cons.mpr ⟨(am_mem (tb1 7 rfl) rfl), fun _ h => absurd h List.not_mem_nil⟩⟩⟩⟩, ⟨by decide, by decide, by decide +kernel⟩, by decide, _, _, rfl⟩
theorem ck_Law_37 : ckV "SpanLinkerLaw" 37 0 1 m_SL_remove := ⟨cw_SL_remove, List.forall_mem_cons.mpr ⟨(am_mem (tb2 109 rfl) rfl), List.forall_mem_cons.mpr ⟨(am_mem (tb2 110 rfl) rfl), List.forall_mem_cons.mpr ⟨(am_mem (tb2 111 rfl) rfl), List.forall_mem_cons.mpr ⟨(am_mem (tb1 1 rfl) rfl), fun _ h => absurd h List.not_mem_nil⟩⟩⟩⟩, ⟨by decide, by decide, by decide +kernel⟩, by decide, _, _, rfl⟩
theorem ck_Law_41 : ckV "SpanLinkerLaw" 41 6 1 m_Ref_remove := ⟨cw_Ref_remove, List.forall_mem_cons.mpr ⟨(am_mem (tb4 149 rfl) rfl), List.forall_mem_cons.mpr ⟨(am_mem (tb4 146 rfl) rfl), List.forall_mem_cons.mpr ⟨(am_mem (tb4 147 rfl) rfl), List.forall_mem_cons.mpr ⟨(am_mem (tb1 7 rfl) rfl), fun _ h => absurd h List.not_mem_nil⟩⟩⟩⟩, ⟨by decide, by decide, by decide +kernel⟩, by decide, _, _, rfl⟩
theorem ck_Law_42 : ckV "SpanLinkerLaw" 42 0 1 m_SL_member := ⟨cw_SL_member, List.forall_mem_cons.mpr ⟨(am_mem (tb2 113 rfl) rfl), List.forall_mem_cons.mpr ⟨(am_mem (tb2 114 rfl) rfl), List.forall_mem_cons.mpr ⟨(am_mem (tb2 115 rfl) rfl), List.forall_mem_cons.mpr ⟨(am_mem (tb1 1 rfl) rfl), fun _ h => absurd h List.not_mem_nil⟩⟩⟩⟩, ⟨by decide, by decide, by decide +kernel⟩, by decide, _, _, rfl⟩
theorem ck_Law_45 : ckV "SpanLinkerLaw" 45 6 1 m_Ref_member := ⟨cw_Ref_member, List.forall_mem_cons.mpr ⟨(am_mem (tb4 150 rfl) rfl), List.forall_mem_cons.mpr ⟨(am_mem (tb4 151 rfl) rfl), List.forall_mem_cons.mpr ⟨(am_mem (tb4 152 rfl) rfl), List.forall_mem_cons.mpr ⟨(am_mem (tb1 7 rfl) rfl), fun _ h => absurd h List.not_mem_nil⟩⟩⟩⟩, ⟨by decide, by decide, by decide +kernel⟩, by decide, _, _, rfl⟩
theorem ck_Law_46 : ckV "SpanLinkerLaw" 46 0 1 m_SL_item := ⟨cw_SL_item, List.forall_mem_cons.mpr ⟨(am_mem (tb2 121 rfl) rfl), List.forall_mem_cons.mpr ⟨(am_mem (tb2 122 rfl) rfl), List.forall_mem_cons.mpr ⟨(am_mem (tb2 123 rfl) rfl), List.forall_mem_cons.mpr ⟨(am_mem (tb1 1 rfl) rfl), fun _ h => absurd h List.not_mem_nil⟩⟩⟩⟩, ⟨by decide, by decide, by decide +kernel⟩, by decide, _, _, rfl⟩
theorem ck_Law_49 : ckV "SpanLinkerLaw" 49 6 1 m_Ref_item := ⟨cw_Ref_item, List.forall_mem_cons.mpr ⟨(am_mem (tb4 154 rfl) rfl), List.forall_mem_cons.mpr ⟨(am_mem (tb4 155 rfl) rfl), List.forall_mem_cons.mpr ⟨(am_mem (tb4 156 rfl) rfl), List.forall_mem_cons.mpr ⟨(am_mem (tb1 7 rfl) rfl), fun _ h => absurd h List.not_mem_nil⟩⟩⟩⟩, ⟨by decide, by decide, by decide +kernel⟩, by decide, _, _, rfl⟩
theorem ck_Law_50 : ckV "SpanLinkerLaw" 50 0 0 m_SL_newLine := ⟨cw_SL_newLine, List.forall_mem_cons.mpr ⟨(am_mem (tb2 129 rfl) rfl), List.forall_mem_cons.mpr ⟨(am_mem (tb2 130 rfl) rfl), List.forall_mem_cons.mpr ⟨(am_mem (tb2 131 rfl) rfl), List.forall_mem_cons.mpr ⟨(am_mem (tb1 1 rfl) rfl), fun _ h => absurd h List.not_mem_nil⟩⟩⟩⟩, ⟨by decide, by decide, by decide +kernel⟩, by decide, _, _, rfl⟩
theorem ck_Law_53 : ckV "SpanLinkerLaw" 53 6 0 m_Ref_newLine := ⟨cw_Ref_newLine, List.forall_mem_cons.mpr ⟨(am_mem (tb4 158 rfl) rfl), List.forall_mem_cons.mpr ⟨(am_mem (tb4 159 rfl) rfl), List.forall_mem_cons.mpr ⟨(am_mem (tb4 160 rfl) rfl), List.forall_mem_cons.mpr ⟨(am_mem (tb1 7 rfl) rfl), fun _ h => absurd h List.not_mem_nil⟩⟩⟩⟩, ⟨by decide, by decide, by decide +kernel⟩, by decide, _, _, rfl⟩
theorem ck_Law_54 : ckV "SpanLinkerLaw" 54 0 1 m_SL_link := ⟨cw_SL_link, List.forall_mem_cons.mpr ⟨(am_mem (tb2 137 rfl) rfl), List.forall_mem_cons.mpr ⟨(am_mem (tb2 138 rfl) rfl), List.forall_mem_cons.mpr ⟨(am_mem (tb2 139 rfl) rfl), List.forall_mem_cons.mpr ⟨(am_mem (tb1 1 rfl) rfl), fun _ h => absurd h List.not_mem_nil⟩⟩⟩⟩, ⟨by decide, by decide, by decide +kernel⟩, by decide, _, _, rfl⟩
theorem ck_Law_57 : ckV "SpanLinkerLaw" 57 6 1 m_Ref_link := ⟨cw_Ref_link, List.forall_mem_cons.mpr ⟨(am_mem (tb4 162 rfl) rfl), List.forall_mem_cons.mpr ⟨(am_mem (tb4 163 rfl) rfl), List.forall_mem_cons.mpr ⟨(am_mem (tb4 164 rfl) rfl), List.forall_mem_cons.mpr ⟨(am_mem (tb1 7 rfl) rfl), fun _ h => absurd h List.not_mem_nil⟩⟩⟩⟩, ⟨by decide, by decide, by decide +kernel⟩, by decide, _, _, rfl⟩
theorem ck_Law_58 : ckV "SpanLinkerLaw" 58 0 1 m_SL_included := ⟨cw_SL_included, List.forall_mem_cons.mpr ⟨(am_mem (tb3 62 rfl) rfl), List.forall_mem_cons.mpr ⟨(am_mem (tb3 63 rfl) rfl), List.forall_mem_cons.mpr ⟨(am_mem (tb3 64 rfl) rfl), List.forall_mem_cons.mpr ⟨(am_mem (tb1 1 rfl) rfl), fun _ h => absurd h List.not_mem_nil⟩⟩⟩⟩, ⟨by decide, by decide, by decide +kernel⟩, by decide, _, _, rfl⟩
theorem ck_Law_61 : ckV "SpanLinkerLaw" 61 6 1 m_Ref_included := ⟨cw_Ref_included, List.forall_mem_cons.mpr ⟨(am_mem (tb5 1 rfl) rfl), List.forall_mem_cons.mpr ⟨(am_mem (tb5 2 rfl) rfl), List.forall_mem_cons.mpr ⟨(am_mem (tb5 3 rfl) rfl), List.forall_mem_cons.mpr ⟨(am_mem (tb1 7 rfl) rfl), fun _ h => absurd h List.not_mem_nil⟩⟩⟩⟩, ⟨by decide, by decide, by decide +kernel⟩, by decide, _, _, rfl⟩
theorem ck_Law_62 : ckV "SpanLinkerLaw" 62 0 0 m_SL_missing := ⟨cw_SL_missing, List.forall_mem_cons.mpr ⟨(am_mem (tb3 67 rfl) rfl), List.forall_mem_cons.mpr ⟨(am_mem (tb3 68 rfl) rfl), List.forall_mem_cons.mpr ⟨(am_mem (tb3 69 rfl) rfl), List.forall_mem_cons.mpr ⟨(am_mem (tb1 1 rfl) rfl), fun _ h => absurd h List.not_mem_nil⟩⟩⟩⟩, ⟨by decide, by decide, by decide +kernel⟩, by decide, _, _, rfl⟩
theorem ck_Law_66 : ckV "SpanLinkerLaw" 66 6 0 m_Ref_missing := ⟨cw_Ref_missing, List.forall_mem_cons.mpr ⟨(am_mem (tb5 5 rfl) rfl), List.forall_mem_cons.mpr ⟨(am_mem (tb5 6 rfl) rfl), List.forall_mem_cons.mpr ⟨(am_mem (tb5 7 rfl) rfl), List.forall_mem_cons.mpr ⟨(am_mem (tb1 7 rfl) rfl), fun _ h => absurd h List.not_mem_nil⟩⟩⟩⟩, ⟨by decide, by decide, by decide +kernel⟩, by decide, _, _, rfl⟩
theorem ck_Law_67 : ckV "SpanLinkerLaw" 67 0 1 m_SL_size := ⟨cw_SL_size, List.forall_mem_cons.mpr ⟨(am_mem (tb3 71 rfl) rfl), List.forall_mem_cons.mpr ⟨(am_mem (tb3 72 rfl) rfl), List.forall_mem_cons.mpr ⟨(am_mem (tb3 73 rfl) rfl), List.forall_mem_cons.mpr ⟨(am_mem (tb1 1 rfl) rfl), fun _ h => absurd h List.not_mem_nil⟩⟩⟩⟩, ⟨by decide, by decide, by decide +kernel⟩, by decide, _, _, rfl⟩
theorem ck_Law_70 : ckV "SpanLinkerLaw" 70 6 1 m_Ref_size := ⟨cw_Ref_size, List.forall_mem_cons.mpr ⟨(am_mem (tb5 9 rfl) rfl), List.forall_mem_cons.mpr ⟨(am_mem (tb5 10 rfl) rfl), List.forall_mem_cons.mpr ⟨(am_mem (tb5 11 rfl) rfl), List.forall_mem_cons.mpr ⟨(am_mem (tb1 7 rfl) rfl), fun _ h => absurd h List.not_mem_nil⟩⟩⟩⟩, ⟨by decide, by decide, by decide +kernel⟩, by decide, _, _, rfl⟩
theorem ck_Law_71 : ckV "SpanLinkerLaw" 71 0 1 m_SL_word := ⟨cw_SL_word, List.forall_mem_cons.mpr ⟨(am_mem (tb3 80 rfl) rfl), List.forall_mem_cons.mpr ⟨(am_mem (tb3 81 rfl) rfl), List.forall_mem_cons.mpr ⟨(am_mem (tb3 82 rfl) rfl), List.forall_mem_cons.mpr ⟨(am_mem (tb1 1 rfl) rfl), fun _ h => absurd h List.not_mem_nil⟩⟩⟩⟩, ⟨by decide, by decide, by decide +kernel⟩, by decide, _, _, rfl⟩
theorem ck_Law_74 : ckV "SpanLinkerLaw" 74 6 1 m_Ref_word := ⟨cw_Ref_word, List.forall_mem_cons.mpr ⟨(am_mem (tb5 13 rfl) rfl), List.forall_mem_cons.mpr ⟨(am_mem (tb5 14 rfl) rfl), List.forall_mem_cons.mpr ⟨(am_mem (tb5 15 rfl) rfl), List.forall_mem_cons.mpr ⟨(am_mem (tb1 7 rfl) rfl), fun _ h => absurd h List.not_mem_nil⟩⟩⟩⟩, ⟨by decide, by decide, by decide +kernel⟩, by decide, _, _, rfl⟩
theorem ck_Law_75 : ckV "SpanLinkerLaw" 75 0 1 m_SL_symbol := ⟨cw_SL_symbol, List.forall_mem_cons.mpr ⟨(am_mem (tb3 89 rfl) rfl), List.forall_mem_cons.mpr ⟨(am_mem (tb3 90 rfl) rfl), List.forall_mem_cons.mpr ⟨(am_mem (tb3 91 rfl) rfl), List.forall_mem_cons.mpr ⟨(am_mem (tb1 1 rfl) rfl), fun _ h => absurd h List.not_mem_nil⟩⟩⟩⟩, ⟨by decide, by decide, by decide +kernel⟩, by decide, _, _, rfl⟩
theorem ck_Law_78 : ckV "SpanLinkerLaw" 78 6 1 m_Ref_symbol := ⟨cw_Ref_symbol, List.forall_mem_cons.mpr ⟨(am_mem (tb5 17 rfl) rfl), List.forall_mem_cons.mpr ⟨(am_mem (tb5 18 rfl) rfl), List.forall_mem_cons.mpr ⟨(am_mem (tb5 19 rfl) rfl), List.forall_mem_cons.mpr ⟨(am_mem (tb1 7 rfl) rfl), fun _ h => absurd h List.not_mem_nil⟩⟩⟩⟩, ⟨by decide, by decide, by decide +kernel⟩, by decide, _, _, rfl⟩
theorem ck_Law_79 : ckV "SpanLinkerLaw" 79 0 0 m_SL_strip := ⟨cw_SL_strip, List.forall_mem_cons.mpr ⟨(am_mem (tb3 98 rfl) rfl), List.forall_mem_cons.mpr ⟨(am_mem (tb3 99 rfl) rfl), List.forall_mem_cons.mpr ⟨(am_mem (tb3 100 rfl) rfl), List.forall_mem_cons.mpr ⟨(am_mem (tb1 1 rfl) rfl), fun _ h => absurd h List.not_mem_nil⟩⟩⟩⟩, ⟨by decide, by decide, by decide +kernel⟩, by decide, _, _, rfl⟩
theorem ck_Law_83 : ckV "SpanLinkerLaw" 83 6 0 m_Ref_strip := ⟨cw_Ref_strip, List.forall_mem_cons.mpr ⟨(am_mem (tb5 21 rfl) rfl), List.forall_mem_cons.mpr ⟨(am_mem (tb5 22 rfl) rfl), List.forall_mem_cons.mpr ⟨(am_mem (tb5 23 rfl) rfl), List.forall_mem_cons.mpr ⟨(am_mem (tb1 7 rfl) rfl), fun _ h => absurd h List.not_mem_nil⟩⟩⟩⟩, ⟨by decide, by decide, by decide +kernel⟩, by decide, _, _, rfl⟩
theorem ck_Law_84 : ckV "SpanLinkerLaw" 84 0 0 m_SL_start := ⟨cw_SL_start, List.forall_mem_cons.mpr ⟨(am_mem (tb3 106 rfl) rfl), List.forall_mem_cons.mpr ⟨(am_mem (tb3 107 rfl) rfl), List.forall_mem_cons.mpr ⟨(am_mem (tb3 108 rfl) rfl), List.forall_mem_cons.mpr ⟨(am_mem (tb1 1 rfl) rfl), fun _ h => absurd h List.not_mem_nil⟩⟩⟩⟩, ⟨by decide, by decide, by decide +kernel⟩, by decide, _, _, rfl⟩
theorem ck_Law_87 : ckV "SpanLinkerLaw" 87 6 0 m_Ref_start := ⟨cw_Ref_start, List.forall_mem_cons.mpr ⟨(am_mem (tb5 25 rfl) rfl), List.forall_mem_cons.mpr ⟨(am_mem (tb5 26 rfl) rfl), List.forall_mem_cons.mpr ⟨(am_mem (tb5 27 rfl) rfl), List.forall_mem_cons.mpr ⟨(am_mem (tb1 7 rfl) rfl), fun _ h => absurd h List.not_mem_nil⟩⟩⟩⟩, ⟨by decide, by decide, by decide +kernel⟩, by decide, _, _, rfl⟩
theorem ck_Law_88 : ckV "SpanLinkerLaw" 88 0 1 m_SL_feed := ⟨cw_SL_feed, List.forall_mem_cons.mpr ⟨(am_mem (tb3 131 rfl) rfl), List.forall_mem_cons.mpr ⟨(am_mem (tb3 132 rfl) rfl), List.forall_mem_cons.mpr ⟨(am_mem (tb3 133 rfl) rfl), List.forall_mem_cons.mpr ⟨(am_mem (tb1 1 rfl) rfl), fun _ h => absurd h List.not_mem_nil⟩⟩⟩⟩, ⟨by decide, by decide, by decide +kernel⟩, by decide, _, _, rfl⟩
theorem ck_Law_91 : ckV "SpanLinkerLaw" 91 6 1 m_Ref_feed := ⟨cw_Ref_feed, List.forall_mem_cons.mpr ⟨(am_mem (tb5 29 rfl) rfl), List.forall_mem_cons.mpr ⟨(am_mem (tb5 30 rfl) rfl), List.forall_mem_cons.mpr ⟨(am_mem (tb5 31 rfl) rfl), List.forall_mem_cons.mpr ⟨(am_mem (tb1 7 rfl) rfl), fun _ h => absurd h List.not_mem_nil⟩⟩⟩⟩, ⟨by decide, by decide, by decide +kernel⟩, by decide, _, _, rfl⟩
theorem ck_Law_92 : ckV "SpanLinkerLaw" 92 0 1 m_SL_run := ⟨cw_SL_run, List.forall_mem_cons.mpr ⟨(am_mem (tb3 140 rfl) rfl), List.forall_mem_cons.mpr ⟨(am_mem (tb3 141 rfl) rfl), List.forall_mem_cons.mpr ⟨(am_mem (tb3 142 rfl) rfl), List.forall_mem_cons.mpr ⟨(am_mem (tb1 1 rfl) rfl), fun _ h => absurd h List.not_mem_nil⟩⟩⟩⟩, ⟨by decide, by decide, by decide +kernel⟩, by decide, _, _, rfl⟩
theorem ck_Law_95 : ckV "SpanLinkerLaw" 95 6 1 m_Ref_run := ⟨cw_Ref_run, List.forall_mem_cons.mpr ⟨(am_mem (tb5 33 rfl) rfl), List.forall_mem_cons.mpr ⟨(am_mem (tb5 34 rfl) rfl), List.forall_mem_cons.mpr ⟨(am_mem (tb5 35 rfl) rfl), List.forall_mem_cons.mpr ⟨(am_mem (tb1 7 rfl) rfl), fun _ h => absurd h List.not_mem_nil⟩⟩⟩⟩, ⟨by decide, by decide, by decide +kernel⟩, by decide, _, _, rfl⟩
theorem ck_Law_96 : ckV "SpanLinkerLaw" 96 0 1 m_SL_register := ⟨cw_SL_register, List.forall_mem_cons.mpr ⟨(am_mem (tb3 193 rfl) rfl), List.forall_mem_cons.mpr ⟨(am_mem (tb3 194 rfl) rfl), List.forall_mem_cons.mpr ⟨(am_mem (tb3 195 rfl) rfl), List.forall_mem_cons.mpr ⟨(am_mem (tb1 1 rfl) rfl), fun _ h => absurd h List.not_mem_nil⟩⟩⟩⟩, ⟨by decide, by decide, by decide +kernel⟩, by decide, _, _, rfl⟩
theorem ck_Law_99 : ckV "SpanLinkerLaw" 99 6 1 m_Ref_register := ⟨cw_Ref_register, List.forall_mem_cons.mpr ⟨(am_mem (tb5 57 rfl) rfl), List.forall_mem_cons.mpr ⟨(am_mem (tb5 58 rfl) rfl), List.forall_mem_cons.mpr ⟨(am_mem (tb5 59 rfl) rfl), List.forall_mem_cons.mpr ⟨(am_mem (tb1 7 rfl) rfl), fun _ h => absurd h List.not_mem_nil⟩⟩⟩⟩, ⟨by decide, by decide, by decide +kernel⟩, by decide, _, _, rfl⟩
theorem ck_Law_100 : ckV "SpanLinkerLaw" 100 0 1 m_SL_memory := ⟨cw_SL_memory, List.forall_mem_cons.mpr ⟨(am_mem (tb3 205 rfl) rfl), List.forall_mem_cons.mpr ⟨(am_mem (tb3 206 rfl) rfl), List.forall_mem_cons.mpr ⟨(am_mem (tb3 207 rfl) rfl), List.forall_mem_cons.mpr ⟨(am_mem (tb1 1 rfl) rfl), fun _ h => absurd h List.not_mem_nil⟩⟩⟩⟩, ⟨by decide, by decide, by decide +kernel⟩, by decide, _, _, rfl⟩
theorem ck_Law_103 : ckV "SpanLinkerLaw" 103 6 1 m_Ref_memory := ⟨cw_Ref_memory, List.forall_mem_cons.mpr ⟨(am_mem (tb5 61 rfl) rfl), List.forall_mem_cons.mpr ⟨(am_mem (tb5 62 rfl) rfl), List.forall_mem_cons.mpr ⟨(am_mem (tb5 63 rfl) rfl), List.forall_mem_cons.mpr ⟨(am_mem (tb1 7 rfl) rfl), fun _ h => absurd h List.not_mem_nil⟩⟩⟩⟩, ⟨by decide, by decide, by decide +kernel⟩, by decide, _, _, rfl⟩
theorem ck_Ref_61 : ckV "SpanLinkerModel" 61 6 1 m_Ref_width := ⟨cw_Ref_width, List.forall_mem_cons.mpr ⟨(am_mem (tb4 117 rfl) rfl), List.forall_mem_cons.mpr ⟨(am_mem (tb4 119 rfl) rfl), List.forall_mem_cons.mpr ⟨(am_mem (tb0 42 rfl) rfl), List.forall_mem_cons.mpr ⟨(am_mem (tb1 7 rfl) rfl), fun _ h => absurd h List.not_mem_nil⟩⟩⟩⟩, ⟨by decide, by decide, by decide +kernel⟩, by decide, _, _, rfl⟩
theorem ck_Ref_65 : ckV "SpanLinkerModel" 65 6 2 m_Ref_global := ⟨cw_Ref_global, List.forall_mem_cons.mpr ⟨(am_mem (tb4 182 rfl) rfl), List.forall_mem_cons.mpr ⟨(am_mem (tb4 184 rfl) rfl), List.forall_mem_cons.mpr ⟨(am_mem (tb0 49 rfl) rfl), List.forall_mem_cons.mpr ⟨(am_mem (tb1 7 rfl) rfl), fun _ h => absurd h List.not_mem_nil⟩⟩⟩⟩, ⟨by decide, by decide, by decide +kernel⟩, by decide, _, _, rfl⟩
theorem ck_Ref_69 : ckV "SpanLinkerModel" 69 6 2 m_Ref_definition := ⟨cw_Ref_definition, List.forall_mem_cons.mpr ⟨(am_mem (tb4 97 rfl) rfl), List.forall_mem_cons.mpr ⟨(am_mem (tb4 99 rfl) rfl), List.forall_mem_cons.mpr ⟨(am_mem (tb0 37 rfl) rfl), List.forall_mem_cons.mpr ⟨(am_mem (tb1 7 rfl) rfl), fun _ h => absurd h List.not_mem_nil⟩⟩⟩⟩, ⟨by decide, by decide, by decide +kernel⟩, by decide, _, _, rfl⟩
theorem ck_Ref_73 : ckV "SpanLinkerModel" 73 6 2 m_Ref_common := ⟨cw_Ref_common, List.forall_mem_cons.mpr ⟨(am_mem (tb4 101 rfl) rfl), List.forall_mem_cons.mpr ⟨(am_mem (tb4 103 rfl) rfl), List.forall_mem_cons.mpr ⟨(am_mem (tb0 38 rfl) rfl), List.forall_mem_cons.mpr ⟨(am_mem (tb1 7 rfl) rfl), fun _ h => absurd h List.not_mem_nil⟩⟩⟩⟩, ⟨by decide, by decide, by decide +kernel⟩, by decide, _, _, rfl⟩
theorem ck_Ref_76 : ckV "SpanLinkerModel" 76 6 3 m_Ref_place := ⟨cw_Ref_place, List.forall_mem_cons.mpr ⟨(am_mem (tb4 113 rfl) rfl), List.forall_mem_cons.mpr ⟨(am_mem (tb4 115 rfl) rfl), List.forall_mem_cons.mpr ⟨(am_mem (tb0 41 rfl) rfl), List.forall_mem_cons.mpr ⟨(am_mem (tb1 7 rfl) rfl), fun _ h => absurd h List.not_mem_nil⟩⟩⟩⟩, ⟨by decide, by decide, by decide +kernel⟩, by decide, _, _, rfl⟩
theorem ck_Ref_80 : ckV "SpanLinkerModel" 80 6 2 m_Ref_distance := ⟨cw_Ref_distance, List.forall_mem_cons.mpr ⟨(am_mem (tb4 109 rfl) rfl), List.forall_mem_cons.mpr ⟨(am_mem (tb4 111 rfl) rfl), List.forall_mem_cons.mpr ⟨(am_mem (tb0 40 rfl) rfl), List.forall_mem_cons.mpr ⟨(am_mem (tb1 7 rfl) rfl), fun _ h => absurd h List.not_mem_nil⟩⟩⟩⟩, ⟨by decide, by decide, by decide +kernel⟩, by decide, _, _, rfl⟩
theorem ck_Ref_83 : ckV "SpanLinkerModel" 83 6 1 m_Ref_name := ⟨cw_Ref_name, List.forall_mem_cons.mpr ⟨(am_mem (tb4 88 rfl) rfl), List.forall_mem_cons.mpr ⟨(am_mem (tb4 90 rfl) rfl), List.forall_mem_cons.mpr ⟨(am_mem (tb0 35 rfl) rfl), List.forall_mem_cons.mpr ⟨(am_mem (tb1 7 rfl) rfl), fun _ h => absurd h List.not_mem_nil⟩⟩⟩⟩, ⟨by decide, by decide, by decide +kernel⟩, by decide, _, _, rfl⟩
theorem ck_Ref_87 : ckV "SpanLinkerModel" 87 6 1 m_Ref_isWord := ⟨cw_Ref_isWord, List.forall_mem_cons.mpr ⟨(am_mem (tb4 92 rfl) rfl), List.forall_mem_cons.mpr ⟨(am_mem (tb4 94 rfl) rfl), List.forall_mem_cons.mpr ⟨(am_mem (tb0 36 rfl) rfl), List.forall_mem_cons.mpr ⟨(am_mem (tb1 7 rfl) rfl), fun _ h => absurd h List.not_mem_nil⟩⟩⟩⟩, ⟨by decide, by decide, by decide +kernel⟩, by decide, _, _, rfl⟩
theorem ck_Ref_90 : ckV "SpanLinkerModel" 90 6 1 m_Ref_module := ⟨cw_Ref_module, List.forall_mem_cons.mpr ⟨(am_mem (tb4 80 rfl) rfl), List.forall_mem_cons.mpr ⟨(am_mem (tb4 82 rfl) rfl), List.forall_mem_cons.mpr ⟨(am_mem (tb0 33 rfl) rfl), List.forall_mem_cons.mpr ⟨(am_mem (tb1 7 rfl) rfl), fun _ h => absurd h List.not_mem_nil⟩⟩⟩⟩, ⟨by decide, by decide, by decide +kernel⟩, by decide, _, _, rfl⟩
theorem ck_Ref_93 : ckV "SpanLinkerModel" 93 6 3 m_Ref_fits := ⟨cw_Ref_fits, List.forall_mem_cons.mpr ⟨(am_mem (tb4 84 rfl) rfl), List.forall_mem_cons.mpr ⟨(am_mem (tb4 86 rfl) rfl), List.forall_mem_cons.mpr ⟨(am_mem (tb0 34 rfl) rfl), List.forall_mem_cons.mpr ⟨(am_mem (tb1 7 rfl) rfl), fun _ h => absurd h List.not_mem_nil⟩⟩⟩⟩, ⟨by decide, by decide, by decide +kernel⟩, by decide, _, _, rfl⟩
theorem ck_Ref_97 : ckV "SpanLinkerModel" 97 6 1 m_Ref_settle := ⟨cw_Ref_settle, List.forall_mem_cons.mpr ⟨(am_mem (tb4 105 rfl) rfl), List.forall_mem_cons.mpr ⟨(am_mem (tb4 107 rfl) rfl), List.forall_mem_cons.mpr ⟨(am_mem (tb0 39 rfl) rfl), List.forall_mem_cons.mpr ⟨(am_mem (tb1 7 rfl) rfl), fun _ h => absurd h List.not_mem_nil⟩⟩⟩⟩, ⟨by decide, by decide, by decide +kernel⟩, by decide, _, _, rfl⟩
theorem ck_Ref_107 : ckV "SpanLinkerModel" 107 6 1 m_Ref_onLine := ⟨cw_Ref_onLine, List.forall_mem_cons.mpr ⟨(am_mem (tb4 137 rfl) rfl), List.forall_mem_cons.mpr ⟨(am_mem (tb4 139 rfl) rfl), List.forall_mem_cons.mpr ⟨(am_mem (tb0 43 rfl) rfl), List.forall_mem_cons.mpr ⟨(am_mem (tb1 7 rfl) rfl), fun _ h => absurd h List.not_mem_nil⟩⟩⟩⟩, ⟨by decide, by decide, by decide +kernel⟩, by decide, _, _, rfl⟩
theorem ck_Ref_110 : ckV "SpanLinkerModel" 110 6 1 m_Ref_inArchive := ⟨cw_Ref_inArchive, List.forall_mem_cons.mpr ⟨(am_mem (tb4 141 rfl) rfl), List.forall_mem_cons.mpr ⟨(am_mem (tb4 143 rfl) rfl), List.forall_mem_cons.mpr ⟨(am_mem (tb0 44 rfl) rfl), List.forall_mem_cons.mpr ⟨(am_mem (tb1 7 rfl) rfl), fun _ h => absurd h List.not_mem_nil⟩⟩⟩⟩, ⟨by decide, by decide, by decide +kernel⟩, by decide, _, _, rfl⟩
theorem ck_Ref_113 : ckV "SpanLinkerModel" 113 6 1 m_Ref_remove := ⟨cw_Ref_remove, List.forall_mem_cons.mpr ⟨(am_mem (tb4 145 rfl) rfl), List.forall_mem_cons.mpr ⟨(am_mem (tb4 146 rfl) rfl), List.forall_mem_cons.mpr ⟨(am_mem (tb4 147 rfl) rfl), List.forall_mem_cons.mpr ⟨(am_mem (tb1 7 rfl) rfl), fun _ h => absurd h List.not_mem_nil⟩⟩⟩⟩, ⟨by decide, by decide, by decide +kernel⟩, by decide, _, _, rfl⟩
theorem ck_Ref_119 : ckV "SpanLinkerModel" 119 6 2 m_Ref_exports := ⟨cw_Ref_exports, List.forall_mem_cons.mpr ⟨(am_mem (tb4 178 rfl) rfl), List.forall_mem_cons.mpr ⟨(am_mem (tb4 180 rfl) rfl), List.forall_mem_cons.mpr ⟨(am_mem (tb0 48 rfl) rfl), List.forall_mem_cons.mpr ⟨(am_mem (tb1 7 rfl) rfl), fun _ h => absurd h List.not_mem_nil⟩⟩⟩⟩, ⟨by decide, by decide, by decide +kernel⟩, by decide, _, _, rfl⟩
theorem ck_Ref_122 : ckV "SpanLinkerModel" 122 6 2 m_Ref_refers := ⟨cw_Ref_refers, List.forall_mem_cons.mpr ⟨(am_mem (tb4 190 rfl) rfl), List.forall_mem_cons.mpr ⟨(am_mem (tb4 192 rfl) rfl), List.forall_mem_cons.mpr ⟨(am_mem (tb0 51 rfl) rfl), List.forall_mem_cons.mpr ⟨(am_mem (tb1 7 rfl) rfl), fun _ h => absurd h List.not_mem_nil⟩⟩⟩⟩, ⟨by decide, by decide, by decide +kernel⟩, by decide, _, _, rfl⟩
theorem ck_Ref_125 : ckV "SpanLinkerModel" 125 6 1 m_Ref_exporters := ⟨cw_Ref_exporters, List.forall_mem_cons.mpr ⟨(am_mem (tb4 194 rfl) rfl), List.forall_mem_cons.mpr ⟨(am_mem (tb4 196 rfl) rfl), List.forall_mem_cons.mpr ⟨(am_mem (tb0 52 rfl) rfl), List.forall_mem_cons.mpr ⟨(am_mem (tb1 7 rfl) rfl), fun _ h => absurd h List.not_mem_nil⟩⟩⟩⟩, ⟨by decide, by decide, by decide +kernel⟩, by decide, _, _, rfl⟩
theorem ck_Ref_128 : ckV "SpanLinkerModel" 128 6 1 m_Ref_largest := ⟨cw_Ref_largest, List.forall_mem_cons.mpr ⟨(am_mem (tb4 198 rfl) rfl), List.forall_mem_cons.mpr ⟨(am_mem (tb4 200 rfl) rfl), List.forall_mem_cons.mpr ⟨(am_mem (tb0 53 rfl) rfl), List.forall_mem_cons.mpr ⟨(am_mem (tb1 7 rfl) rfl), fun _ h => absurd h List.not_mem_nil⟩⟩⟩⟩, ⟨by decide, by decide, by decide +kernel⟩, by decide, _, _, rfl⟩
theorem ck_Ref_131 : ckV "SpanLinkerModel" 131 6 1 m_Ref_wanted := ⟨cw_Ref_wanted, List.forall_mem_cons.mpr ⟨(am_mem (tb4 186 rfl) rfl), List.forall_mem_cons.mpr ⟨(am_mem (tb4 188 rfl) rfl), List.forall_mem_cons.mpr ⟨(am_mem (tb0 50 rfl) rfl), List.forall_mem_cons.mpr ⟨(am_mem (tb1 7 rfl) rfl), fun _ h => absurd h List.not_mem_nil⟩⟩⟩⟩, ⟨by decide, by decide, by decide +kernel⟩, by decide, _, _, rfl⟩
theorem ck_Ref_134 : ckV "SpanLinkerModel" 134 6 1 m_Ref_isIn := ⟨cw_Ref_isIn, List.forall_mem_cons.mpr ⟨(am_mem (tb4 170 rfl) rfl), List.forall_mem_cons.mpr ⟨(am_mem (tb4 172 rfl) rfl), List.forall_mem_cons.mpr ⟨(am_mem (tb0 46 rfl) rfl), List.forall_mem_cons.mpr ⟨(am_mem (tb1 7 rfl) rfl), fun _ h => absurd h List.not_mem_nil⟩⟩⟩⟩, ⟨by decide, by decide, by decide +kernel⟩, by decide, _, _, rfl⟩
theorem ck_Ref_137 : ckV "SpanLinkerModel" 137 6 1 m_Ref_helps := ⟨cw_Ref_helps, List.forall_mem_cons.mpr ⟨(am_mem (tb4 174 rfl) rfl), List.forall_mem_cons.mpr ⟨(am_mem (tb4 176 rfl) rfl), List.forall_mem_cons.mpr ⟨(am_mem (tb0 47 rfl) rfl), List.forall_mem_cons.mpr ⟨(am_mem (tb1 7 rfl) rfl), fun _ h => absurd h List.not_mem_nil⟩⟩⟩⟩, ⟨by decide, by decide, by decide +kernel⟩, by decide, _, _, rfl⟩
theorem ck_Ref_140 : ckV "SpanLinkerModel" 140 6 1 m_Ref_include := ⟨cw_Ref_include, List.forall_mem_cons.mpr ⟨(am_mem (tb4 202 rfl) rfl), List.forall_mem_cons.mpr ⟨(am_mem (tb4 204 rfl) rfl), List.forall_mem_cons.mpr ⟨(am_mem (tb0 54 rfl) rfl), List.forall_mem_cons.mpr ⟨(am_mem (tb1 7 rfl) rfl), fun _ h => absurd h List.not_mem_nil⟩⟩⟩⟩, ⟨by decide, by decide, by decide +kernel⟩, by decide, _, _, rfl⟩
theorem ck_Ref_143 : ckV "SpanLinkerModel" 143 6 2 m_Ref_length := ⟨cw_Ref_length, List.forall_mem_cons.mpr ⟨(am_mem (tb4 210 rfl) rfl), List.forall_mem_cons.mpr ⟨(am_mem (tb4 126 rfl) rfl), List.forall_mem_cons.mpr ⟨(am_mem (tb4 127 rfl) rfl), List.forall_mem_cons.mpr ⟨(am_mem (tb1 7 rfl) rfl), fun _ h => absurd h List.not_mem_nil⟩⟩⟩⟩, ⟨by decide, by decide, by decide +kernel⟩, by decide, _, _, rfl⟩
theorem ck_Ref_146 : ckV "SpanLinkerModel" 146 6 2 m_Ref_base := ⟨cw_Ref_base, List.forall_mem_cons.mpr ⟨(am_mem (tb4 223 rfl) rfl), List.forall_mem_cons.mpr ⟨(am_mem (tb4 225 rfl) rfl), List.forall_mem_cons.mpr ⟨(am_mem (tb0 59 rfl) rfl), List.forall_mem_cons.mpr ⟨(am_mem (tb1 7 rfl) rfl), fun _ h => absurd h List.not_mem_nil⟩⟩⟩⟩, ⟨by decide, by decide, by decide +kernel⟩, by decide, _, _, rfl⟩
theorem ck_Ref_149 : ckV "SpanLinkerModel" 149 6 2 m_Ref_valueOf := ⟨cw_Ref_valueOf, List.forall_mem_cons.mpr ⟨(am_mem (tb4 231 rfl) rfl), List.forall_mem_cons.mpr ⟨(am_mem (tb4 233 rfl) rfl), List.forall_mem_cons.mpr ⟨(am_mem (tb0 61 rfl) rfl), List.forall_mem_cons.mpr ⟨(am_mem (tb1 7 rfl) rfl), fun _ h => absurd h List.not_mem_nil⟩⟩⟩⟩, ⟨by decide, by decide, by decide +kernel⟩, by decide, _, _, rfl⟩
theorem ck_Ref_152 : ckV "SpanLinkerModel" 152 6 1 m_Ref_sum := ⟨cw_Ref_sum, List.forall_mem_cons.mpr ⟨(am_mem (tb4 206 rfl) rfl), List.forall_mem_cons.mpr ⟨(am_mem (tb4 208 rfl) rfl), List.forall_mem_cons.mpr ⟨(am_mem (tb0 55 rfl) rfl), List.forall_mem_cons.mpr ⟨(am_mem (tb1 7 rfl) rfl), fun _ h => absurd h List.not_mem_nil⟩⟩⟩⟩, ⟨by decide, by decide, by decide +kernel⟩, by decide, _, _, rfl⟩
theorem ck_Ref_155 : ckV "SpanLinkerModel" 155 6 1 m_Ref_commonsBelow := ⟨cw_Ref_commonsBelow, List.forall_mem_cons.mpr ⟨(am_mem (tb4 211 rfl) rfl), List.forall_mem_cons.mpr ⟨(am_mem (tb4 213 rfl) rfl), List.forall_mem_cons.mpr ⟨(am_mem (tb0 56 rfl) rfl), List.forall_mem_cons.mpr ⟨(am_mem (tb1 7 rfl) rfl), fun _ h => absurd h List.not_mem_nil⟩⟩⟩⟩, ⟨by decide, by decide, by decide +kernel⟩, by decide, _, _, rfl⟩
theorem ck_Ref_158 : ckV "SpanLinkerModel" 158 6 1 m_Ref_outside := ⟨cw_Ref_outside, List.forall_mem_cons.mpr ⟨(am_mem (tb4 235 rfl) rfl), List.forall_mem_cons.mpr ⟨(am_mem (tb4 237 rfl) rfl), List.forall_mem_cons.mpr ⟨(am_mem (tb0 62 rfl) rfl), List.forall_mem_cons.mpr ⟨(am_mem (tb1 7 rfl) rfl), fun _ h => absurd h List.not_mem_nil⟩⟩⟩⟩, ⟨by decide, by decide, by decide +kernel⟩, by decide, _, _, rfl⟩
theorem ck_Ref_161 : ckV "SpanLinkerModel" 161 6 2 m_Ref_standsFor := ⟨cw_Ref_standsFor, List.forall_mem_cons.mpr ⟨(am_mem (tb4 227 rfl) rfl), List.forall_mem_cons.mpr ⟨(am_mem (tb4 229 rfl) rfl), List.forall_mem_cons.mpr ⟨(am_mem (tb0 60 rfl) rfl), List.forall_mem_cons.mpr ⟨(am_mem (tb1 7 rfl) rfl), fun _ h => absurd h List.not_mem_nil⟩⟩⟩⟩, ⟨by decide, by decide, by decide +kernel⟩, by decide, _, _, rfl⟩
theorem ck_Ref_166 : ckV "SpanLinkerModel" 166 6 2 m_Ref_write := ⟨cw_Ref_write, List.forall_mem_cons.mpr ⟨(am_mem (tb4 219 rfl) rfl), List.forall_mem_cons.mpr ⟨(am_mem (tb4 221 rfl) rfl), List.forall_mem_cons.mpr ⟨(am_mem (tb0 58 rfl) rfl), List.forall_mem_cons.mpr ⟨(am_mem (tb1 7 rfl) rfl), fun _ h => absurd h List.not_mem_nil⟩⟩⟩⟩, ⟨by decide, by decide, by decide +kernel⟩, by decide, _, _, rfl⟩
theorem ck_Ref_186 : ckV "SpanLinkerModel" 186 6 0 m_Ref_goOver := ⟨cw_Ref_goOver, List.forall_mem_cons.mpr ⟨(am_mem (tb4 166 rfl) rfl), List.forall_mem_cons.mpr ⟨(am_mem (tb4 168 rfl) rfl), List.forall_mem_cons.mpr ⟨(am_mem (tb0 45 rfl) rfl), List.forall_mem_cons.mpr ⟨(am_mem (tb1 7 rfl) rfl), fun _ h => absurd h List.not_mem_nil⟩⟩⟩⟩, ⟨by decide, by decide, by decide +kernel⟩, by decide, _, _, rfl⟩
theorem ck_Ref_192 : ckV "SpanLinkerModel" 192 6 0 m_Ref_layOut := ⟨cw_Ref_layOut, List.forall_mem_cons.mpr ⟨(am_mem (tb4 215 rfl) rfl), List.forall_mem_cons.mpr ⟨(am_mem (tb4 217 rfl) rfl), List.forall_mem_cons.mpr ⟨(am_mem (tb0 57 rfl) rfl), List.forall_mem_cons.mpr ⟨(am_mem (tb1 7 rfl) rfl), fun _ h => absurd h List.not_mem_nil⟩⟩⟩⟩, ⟨by decide, by decide, by decide +kernel⟩, by decide, _, _, rfl⟩
theorem ck_Ref_216 : ckV "SpanLinkerModel" 216 6 1 m_Ref_there := ⟨cw_Ref_there, List.forall_mem_cons.mpr ⟨(am_mem (tb5 41 rfl) rfl), List.forall_mem_cons.mpr ⟨(am_mem (tb5 43 rfl) rfl), List.forall_mem_cons.mpr ⟨(am_mem (tb0 64 rfl) rfl), List.forall_mem_cons.mpr ⟨(am_mem (tb1 7 rfl) rfl), fun _ h => absurd h List.not_mem_nil⟩⟩⟩⟩, ⟨by decide, by decide, by decide +kernel⟩, by decide, _, _, rfl⟩
theorem ck_Ref_219 : ckV "SpanLinkerModel" 219 6 1 m_Ref_holds := ⟨cw_Ref_holds, List.forall_mem_cons.mpr ⟨(am_mem (tb5 49 rfl) rfl), List.forall_mem_cons.mpr ⟨(am_mem (tb5 51 rfl) rfl), List.forall_mem_cons.mpr ⟨(am_mem (tb0 66 rfl) rfl), List.forall_mem_cons.mpr ⟨(am_mem (tb1 7 rfl) rfl), fun _ h => absurd h List.not_mem_nil⟩⟩⟩⟩, ⟨by decide, by decide, by decide +kernel⟩, by decide, _, _, rfl⟩
theorem ck_Ref_222 : ckV "SpanLinkerModel" 222 6 0 m_Ref_hindrance := ⟨cw_Ref_hindrance, List.forall_mem_cons.mpr ⟨(am_mem (tb5 37 rfl) rfl), List.forall_mem_cons.mpr ⟨(am_mem (tb5 39 rfl) rfl), List.forall_mem_cons.mpr ⟨(am_mem (tb0 63 rfl) rfl), List.forall_mem_cons.mpr ⟨(am_mem (tb1 7 rfl) rfl), fun _ h => absurd h List.not_mem_nil⟩⟩⟩⟩, ⟨by decide, by decide, by decide +kernel⟩, by decide, _, _, rfl⟩
theorem ck_Ref_226 : ckV "SpanLinkerModel" 226 6 2 m_Ref_two := ⟨cw_Ref_two, List.forall_mem_cons.mpr ⟨(am_mem (tb5 45 rfl) rfl), List.forall_mem_cons.mpr ⟨(am_mem (tb5 47 rfl) rfl), List.forall_mem_cons.mpr ⟨(am_mem (tb0 65 rfl) rfl), List.forall_mem_cons.mpr ⟨(am_mem (tb1 7 rfl) rfl), fun _ h => absurd h List.not_mem_nil⟩⟩⟩⟩, ⟨by decide, by decide, by decide +kernel⟩, by decide, _, _, rfl⟩
theorem ck_Ref_228 : ckV "SpanLinkerModel" 228 6 2 m_Ref_single := ⟨cw_Ref_single, List.forall_mem_cons.mpr ⟨(am_mem (tb5 53 rfl) rfl), List.forall_mem_cons.mpr ⟨(am_mem (tb5 55 rfl) rfl), List.forall_mem_cons.mpr ⟨(am_mem (tb0 67 rfl) rfl), List.forall_mem_cons.mpr ⟨(am_mem (tb1 7 rfl) rfl), fun _ h => absurd h List.not_mem_nil⟩⟩⟩⟩, ⟨by decide, by decide, by decide +kernel⟩, by decide, _, _, rfl⟩
theorem lc_SL_165 : Cond.constant "SpanLinker" 165 65535 ∈ am_all := (am_mem (tb1 239 rfl) rfl)
theorem lc_Img_150 : Cond.constant "SpanLinker$Image" 150 32768 ∈ am_all := (am_mem (tb3 59 rfl) rfl)
theorem lc_Img_151 : Cond.constant "SpanLinker$Image" 151 36864 ∈ am_all := (am_mem (tb3 60 rfl) rfl)
theorem lc_Mac_114 : Cond.constant "SpanLinker$Machine" 114 32768 ∈ am_all := (am_mem (tb3 177 rfl) rfl)
theorem lc_Ref_60 : Cond.constant "SpanLinkerModel" 60 65535 ∈ am_all := (am_mem (tb4 96 rfl) rfl)
theorem lc_Ref_164 : Cond.constant "SpanLinkerModel" 164 32768 ∈ am_all := (am_mem (tb4 239 rfl) rfl)
theorem lc_Ref_165 : Cond.constant "SpanLinkerModel" 165 36864 ∈ am_all := (am_mem (tb5 0 rfl) rfl)
theorem ml_Img_99 : Cond.methodLink "SpanLinker$Image" 99 Lib.Math.max.name ∈ am_all := (am_mem (tb2 234 rfl) rfl)
end
section
abbrev c_SL_isWithin : gC := (m_SL_isWithin, 0, 0, 0, none, 0, 0)
def fn_SL_isWithin (a0 : Int32) (a1 : Int32) (a2 : Int32) (I : fm_I) : pR := (if a0 < a1 then (rz 0 I) else (if a2 < a0 then (rz 0 I) else (rz 1 I)))
theorem sn_SL_isWithin (a0 : Int32) (a1 : Int32) (a2 : Int32) (I : fm_I) : gM m_SL_isWithin 0 (fn_SL_isWithin a0 a1 a2 I) [vI a0, vI a1, vI a2] I := by
  refine gM_of (by decide) rfl (Nat.le_of_ble_eq_true rfl) ?_
  show gW c_SL_isWithin _ _ _ _ _
  unfold fn_SL_isWithin
  refine g_iload_n (pc := 0) (x := a0) d_SL_isWithin_0 rfl rfl ?_
  refine g_iload_n (pc := 1) (x := a1) d_SL_isWithin_1 rfl rfl ?_
  refine g_icmplt (pc := 2) (tgt := 14) d_SL_isWithin_2 rfl ?_ ?_
  · refine g_iconst (pc := 14) (x := 0) d_SL_isWithin_14 (by decide) ?_
    exact g_zret (pc := 15) d_SL_isWithin_15 rfl (Nat.le_refl _) (Nat.le_refl _)
  refine g_iload_n (pc := 5) (x := a0) d_SL_isWithin_5 rfl rfl ?_
  refine g_iload_n (pc := 6) (x := a2) d_SL_isWithin_6 rfl rfl ?_
  refine g_icmpgt (pc := 7) (tgt := 14) d_SL_isWithin_7 rfl ?_ ?_
  · refine g_iconst (pc := 14) (x := 0) d_SL_isWithin_14 (by decide) ?_
    exact g_zret (pc := 15) d_SL_isWithin_15 rfl (Nat.le_refl _) (Nat.le_refl _)
  refine g_iconst (pc := 10) (x := 1) d_SL_isWithin_10 (by decide) ?_
  refine g_goto (pc := 11) (tgt := 15) d_SL_isWithin_11 rfl ?_
  exact g_zret (pc := 15) d_SL_isWithin_15 rfl (Nat.le_refl _) (Nat.le_refl _)
abbrev c_SL_isModule : gC := (m_SL_isModule, 1, 0, 0, none, 0, 0)
def fn_SL_isModule (a0 : Int32) (I : fm_I) : pR := bi (fn_SL_isWithin a0 0 5 I) (fun v2 J1 => (rz v2 J1))
theorem sn_SL_isModule (a0 : Int32) (I : fm_I) : gM m_SL_isModule 1 (fn_SL_isModule a0 I) [vI a0] I := by
  refine gM_of (by decide) rfl (Nat.le_of_ble_eq_true rfl) ?_
  show gW c_SL_isModule _ _ _ _ _
  unfold fn_SL_isModule
  refine g_iload_n (pc := 0) (x := a0) d_SL_isModule_0 rfl rfl ?_
  refine g_iconst (pc := 1) (x := 0) d_SL_isModule_1 (by decide) ?_
  refine g_iconst (pc := 2) (x := 5) d_SL_isModule_2 (by decide) ?_
  refine g_si (pc := 3) (rest := []) (sn_SL_isWithin a0 0 5 I) rfl rfl d_SL_isModule_3 ck_SL_154 (Nat.le_of_ble_eq_true rfl) (Nat.le_of_ble_eq_true rfl) (Nat.le_refl _) (Nat.le_refl _) (fun v2 J1 => ?_)
  exact g_zret (pc := 6) d_SL_isModule_6 rfl (Nat.le_refl _) (Nat.le_refl _)
abbrev c_SL_isName : gC := (m_SL_isName, 1, 0, 0, none, 0, 0)
def fn_SL_isName (a0 : Int32) (I : fm_I) : pR := bi (fn_SL_isWithin a0 0 15 I) (fun v2 J1 => (rz v2 J1))
theorem sn_SL_isName (a0 : Int32) (I : fm_I) : gM m_SL_isName 1 (fn_SL_isName a0 I) [vI a0] I := by
  refine gM_of (by decide) rfl (Nat.le_of_ble_eq_true rfl) ?_
  show gW c_SL_isName _ _ _ _ _
  unfold fn_SL_isName
  refine g_iload_n (pc := 0) (x := a0) d_SL_isName_0 rfl rfl ?_
  refine g_iconst (pc := 1) (x := 0) d_SL_isName_1 (by decide) ?_
  refine g_bipush (pc := 2) (x := 15) d_SL_isName_2 (by decide) ?_
  refine g_si (pc := 4) (rest := []) (sn_SL_isWithin a0 0 15 I) rfl rfl d_SL_isName_4 ck_SL_154 (Nat.le_of_ble_eq_true rfl) (Nat.le_of_ble_eq_true rfl) (Nat.le_refl _) (Nat.le_refl _) (fun v2 J1 => ?_)
  exact g_zret (pc := 7) d_SL_isName_7 rfl (Nat.le_refl _) (Nat.le_refl _)
abbrev c_SL_isSection : gC := (m_SL_isSection, 1, 0, 0, none, 0, 0)
def fn_SL_isSection (a0 : Int32) (I : fm_I) : pR := bi (fn_SL_isWithin a0 0 2 I) (fun v2 J1 => (rz v2 J1))
theorem sn_SL_isSection (a0 : Int32) (I : fm_I) : gM m_SL_isSection 1 (fn_SL_isSection a0 I) [vI a0] I := by
  refine gM_of (by decide) rfl (Nat.le_of_ble_eq_true rfl) ?_
  show gW c_SL_isSection _ _ _ _ _
  unfold fn_SL_isSection
  refine g_iload_n (pc := 0) (x := a0) d_SL_isSection_0 rfl rfl ?_
  refine g_iconst (pc := 1) (x := 0) d_SL_isSection_1 (by decide) ?_
  refine g_iconst (pc := 2) (x := 2) d_SL_isSection_2 (by decide) ?_
  refine g_si (pc := 3) (rest := []) (sn_SL_isWithin a0 0 2 I) rfl rfl d_SL_isSection_3 ck_SL_154 (Nat.le_of_ble_eq_true rfl) (Nat.le_of_ble_eq_true rfl) (Nat.le_refl _) (Nat.le_refl _) (fun v2 J1 => ?_)
  exact g_zret (pc := 6) d_SL_isSection_6 rfl (Nat.le_refl _) (Nat.le_refl _)
abbrev c_SL_isWord : gC := (m_SL_isWord, 1, 0, 0, none, 0, 0)
def fn_SL_isWord (a0 : Int32) (I : fm_I) : pR := bi (fn_SL_isWithin a0 0 65535 I) (fun v2 J1 => (rz v2 J1))
theorem sn_SL_isWord (a0 : Int32) (I : fm_I) : gM m_SL_isWord 1 (fn_SL_isWord a0 I) [vI a0] I := by
  refine gM_of (by decide) rfl (Nat.le_of_ble_eq_true rfl) ?_
  show gW c_SL_isWord _ _ _ _ _
  unfold fn_SL_isWord
  refine g_iload_n (pc := 0) (x := a0) d_SL_isWord_0 rfl rfl ?_
  refine g_iconst (pc := 1) (x := 0) d_SL_isWord_1 (by decide) ?_
  refine g_ldc (pc := 2) (x := 65535) d_SL_isWord_2 lc_SL_165 ?_
  refine g_si (pc := 4) (rest := []) (sn_SL_isWithin a0 0 65535 I) rfl rfl d_SL_isWord_4 ck_SL_154 (Nat.le_of_ble_eq_true rfl) (Nat.le_of_ble_eq_true rfl) (Nat.le_refl _) (Nat.le_refl _) (fun v2 J1 => ?_)
  exact g_zret (pc := 7) d_SL_isWord_7 rfl (Nat.le_refl _) (Nat.le_refl _)
abbrev c_Mod_hasFittingNumbers : gC := (m_Mod_hasFittingNumbers, 2, 0, 0, none, 0, 0)
def fn_Mod_hasFittingNumbers (a0 : Int32) (a1 : Int32) (a2 : Int32) (I : fm_I) : pR := (if a0 = 0 then bi (fn_SL_isName a1 I) (fun v2 J1 => (rz v2 J1)) else (if a0 = 1 then bi (fn_SL_isName a1 I) (fun v4 J3 => (rz v4 J3)) else (if a0 = 2 then bi (fn_SL_isSection a1 I) (fun v6 J5 => (rz v6 J5)) else (if a0 = 3 then bi (fn_SL_isWord a1 I) (fun v8 J7 => (rz v8 J7)) else (if a0 = 4 then bi (fn_SL_isName a1 I) (fun v10 J9 => (if v10 = 0 then (rz 0 J9) else bi (fn_SL_isWithin a2 (-32768) 32767 J9) (fun v12 J11 => (if v12 = 0 then (rz 0 J11) else (rz 1 J11))))) else (if a0 = 5 then bi (fn_SL_isWithin a1 1 16 I) (fun v14 J13 => (rz v14 J13)) else (if a0 = 6 then bi (fn_SL_isName a1 I) (fun v16 J15 => (if v16 = 0 then (rz 0 J15) else bi (fn_SL_isWithin a2 0 3 J15) (fun v18 J17 => (if v18 = 0 then (rz 0 J17) else (rz 1 J17))))) else (if a0 = 7 then bi (fn_SL_isName a1 I) (fun v20 J19 => (if v20 = 0 then (rz 0 J19) else bi (fn_SL_isWithin a2 1 16 J19) (fun v22 J21 => (if v22 = 0 then (rz 0 J21) else (rz 1 J21))))) else (if a0 = 8 then bi (fn_SL_isName a1 I) (fun v24 J23 => (if v24 = 0 then (rz 0 J23) else bi (fn_SL_isWord a2 J23) (fun v26 J25 => (if v26 = 0 then (rz 0 J25) else (rz 1 J25))))) else (rz 0 I))))))))))
theorem sn_Mod_hasFittingNumbers (a0 : Int32) (a1 : Int32) (a2 : Int32) (I : fm_I) : gM m_Mod_hasFittingNumbers 2 (fn_Mod_hasFittingNumbers a0 a1 a2 I) [vI a0, vI a1, vI a2] I := by
  refine gM_of (by decide) rfl (Nat.le_of_ble_eq_true rfl) ?_
  show gW c_Mod_hasFittingNumbers _ _ _ _ _
  unfold fn_Mod_hasFittingNumbers
  refine g_iload_n (pc := 0) (x := a0) d_Mod_hasFittingNumbers_0 rfl rfl ?_
  refine g_sw (c := 0) (fun e0 => ?_) (fun e0 => ?_)
  · refine g_tin (pc := 1) (tgt := 52) (off := 51) e0 d_Mod_hasFittingNumbers_1 (by decide) (by decide) (by decide) (by decide) ?_
    refine g_iload_n (pc := 52) (x := a1) d_Mod_hasFittingNumbers_52 rfl rfl ?_
    refine g_ni (pc := 53) (rest := []) (sn_SL_isName a1 I) rfl rfl d_Mod_hasFittingNumbers_53 ck_Mod_79 (Nat.le_of_ble_eq_true rfl) (Nat.le_of_ble_eq_true rfl) (Nat.le_refl _) (Nat.le_refl _) (fun v2 J1 => ?_)
    exact g_zret (pc := 56) d_Mod_hasFittingNumbers_56 rfl (Nat.le_refl _) (Nat.le_refl _)
  refine g_sw (c := 1) (fun e1 => ?_) (fun e1 => ?_)
  · refine g_tin (pc := 1) (tgt := 52) (off := 51) e1 d_Mod_hasFittingNumbers_1 (by decide) (by decide) (by decide) (by decide) ?_
    refine g_iload_n (pc := 52) (x := a1) d_Mod_hasFittingNumbers_52 rfl rfl ?_
    refine g_ni (pc := 53) (rest := []) (sn_SL_isName a1 I) rfl rfl d_Mod_hasFittingNumbers_53 ck_Mod_79 (Nat.le_of_ble_eq_true rfl) (Nat.le_of_ble_eq_true rfl) (Nat.le_refl _) (Nat.le_refl _) (fun v4 J3 => ?_)
    exact g_zret (pc := 56) d_Mod_hasFittingNumbers_56 rfl (Nat.le_refl _) (Nat.le_refl _)
  refine g_sw (c := 2) (fun e2 => ?_) (fun e2 => ?_)
  · refine g_tin (pc := 1) (tgt := 57) (off := 56) e2 d_Mod_hasFittingNumbers_1 (by decide) (by decide) (by decide) (by decide) ?_
    refine g_iload_n (pc := 57) (x := a1) d_Mod_hasFittingNumbers_57 rfl rfl ?_
    refine g_ni (pc := 58) (rest := []) (sn_SL_isSection a1 I) rfl rfl d_Mod_hasFittingNumbers_58 ck_Mod_82 (Nat.le_of_ble_eq_true rfl) (Nat.le_of_ble_eq_true rfl) (Nat.le_refl _) (Nat.le_refl _) (fun v6 J5 => ?_)
    exact g_zret (pc := 61) d_Mod_hasFittingNumbers_61 rfl (Nat.le_refl _) (Nat.le_refl _)
  refine g_sw (c := 3) (fun e3 => ?_) (fun e3 => ?_)
  · refine g_tin (pc := 1) (tgt := 62) (off := 61) e3 d_Mod_hasFittingNumbers_1 (by decide) (by decide) (by decide) (by decide) ?_
    refine g_iload_n (pc := 62) (x := a1) d_Mod_hasFittingNumbers_62 rfl rfl ?_
    refine g_ni (pc := 63) (rest := []) (sn_SL_isWord a1 I) rfl rfl d_Mod_hasFittingNumbers_63 ck_Mod_85 (Nat.le_of_ble_eq_true rfl) (Nat.le_of_ble_eq_true rfl) (Nat.le_refl _) (Nat.le_refl _) (fun v8 J7 => ?_)
    exact g_zret (pc := 66) d_Mod_hasFittingNumbers_66 rfl (Nat.le_refl _) (Nat.le_refl _)
  refine g_sw (c := 4) (fun e4 => ?_) (fun e4 => ?_)
  · refine g_tin (pc := 1) (tgt := 67) (off := 66) e4 d_Mod_hasFittingNumbers_1 (by decide) (by decide) (by decide) (by decide) ?_
    refine g_iload_n (pc := 67) (x := a1) d_Mod_hasFittingNumbers_67 rfl rfl ?_
    refine g_ni (pc := 68) (rest := []) (sn_SL_isName a1 I) rfl rfl d_Mod_hasFittingNumbers_68 ck_Mod_79 (Nat.le_of_ble_eq_true rfl) (Nat.le_of_ble_eq_true rfl) (Nat.le_refl _) (Nat.le_refl _) (fun v10 J9 => ?_)
    refine g_ifeq (pc := 71) (tgt := 91) d_Mod_hasFittingNumbers_71 rfl ?_ ?_
    · refine g_iconst (pc := 91) (x := 0) d_Mod_hasFittingNumbers_91 (by decide) ?_
      exact g_zret (pc := 92) d_Mod_hasFittingNumbers_92 rfl (Nat.le_refl _) (Nat.le_refl _)
    refine g_iload_n (pc := 74) (x := a2) d_Mod_hasFittingNumbers_74 rfl rfl ?_
    refine g_sipush (pc := 75) (x := (-32768)) d_Mod_hasFittingNumbers_75 (by decide) ?_
    refine g_sipush (pc := 78) (x := 32767) d_Mod_hasFittingNumbers_78 (by decide) ?_
    refine g_ni (pc := 81) (rest := []) (sn_SL_isWithin a2 (-32768) 32767 J9) rfl rfl d_Mod_hasFittingNumbers_81 ck_Mod_88 (Nat.le_of_ble_eq_true rfl) (Nat.le_of_ble_eq_true rfl) (Nat.le_refl _) (Nat.le_refl _) (fun v12 J11 => ?_)
    refine g_ifeq (pc := 84) (tgt := 91) d_Mod_hasFittingNumbers_84 rfl ?_ ?_
    · refine g_iconst (pc := 91) (x := 0) d_Mod_hasFittingNumbers_91 (by decide) ?_
      exact g_zret (pc := 92) d_Mod_hasFittingNumbers_92 rfl (Nat.le_refl _) (Nat.le_refl _)
    refine g_iconst (pc := 87) (x := 1) d_Mod_hasFittingNumbers_87 (by decide) ?_
    refine g_goto (pc := 88) (tgt := 92) d_Mod_hasFittingNumbers_88 rfl ?_
    exact g_zret (pc := 92) d_Mod_hasFittingNumbers_92 rfl (Nat.le_refl _) (Nat.le_refl _)
  refine g_sw (c := 5) (fun e5 => ?_) (fun e5 => ?_)
  · refine g_tin (pc := 1) (tgt := 93) (off := 92) e5 d_Mod_hasFittingNumbers_1 (by decide) (by decide) (by decide) (by decide) ?_
    refine g_iload_n (pc := 93) (x := a1) d_Mod_hasFittingNumbers_93 rfl rfl ?_
    refine g_iconst (pc := 94) (x := 1) d_Mod_hasFittingNumbers_94 (by decide) ?_
    refine g_bipush (pc := 95) (x := 16) d_Mod_hasFittingNumbers_95 (by decide) ?_
    refine g_ni (pc := 97) (rest := []) (sn_SL_isWithin a1 1 16 I) rfl rfl d_Mod_hasFittingNumbers_97 ck_Mod_88 (Nat.le_of_ble_eq_true rfl) (Nat.le_of_ble_eq_true rfl) (Nat.le_refl _) (Nat.le_refl _) (fun v14 J13 => ?_)
    exact g_zret (pc := 100) d_Mod_hasFittingNumbers_100 rfl (Nat.le_refl _) (Nat.le_refl _)
  refine g_sw (c := 6) (fun e6 => ?_) (fun e6 => ?_)
  · refine g_tin (pc := 1) (tgt := 101) (off := 100) e6 d_Mod_hasFittingNumbers_1 (by decide) (by decide) (by decide) (by decide) ?_
    refine g_iload_n (pc := 101) (x := a1) d_Mod_hasFittingNumbers_101 rfl rfl ?_
    refine g_ni (pc := 102) (rest := []) (sn_SL_isName a1 I) rfl rfl d_Mod_hasFittingNumbers_102 ck_Mod_79 (Nat.le_of_ble_eq_true rfl) (Nat.le_of_ble_eq_true rfl) (Nat.le_refl _) (Nat.le_refl _) (fun v16 J15 => ?_)
    refine g_ifeq (pc := 105) (tgt := 121) d_Mod_hasFittingNumbers_105 rfl ?_ ?_
    · refine g_iconst (pc := 121) (x := 0) d_Mod_hasFittingNumbers_121 (by decide) ?_
      exact g_zret (pc := 122) d_Mod_hasFittingNumbers_122 rfl (Nat.le_refl _) (Nat.le_refl _)
    refine g_iload_n (pc := 108) (x := a2) d_Mod_hasFittingNumbers_108 rfl rfl ?_
    refine g_iconst (pc := 109) (x := 0) d_Mod_hasFittingNumbers_109 (by decide) ?_
    refine g_iconst (pc := 110) (x := 3) d_Mod_hasFittingNumbers_110 (by decide) ?_
    refine g_ni (pc := 111) (rest := []) (sn_SL_isWithin a2 0 3 J15) rfl rfl d_Mod_hasFittingNumbers_111 ck_Mod_88 (Nat.le_of_ble_eq_true rfl) (Nat.le_of_ble_eq_true rfl) (Nat.le_refl _) (Nat.le_refl _) (fun v18 J17 => ?_)
    refine g_ifeq (pc := 114) (tgt := 121) d_Mod_hasFittingNumbers_114 rfl ?_ ?_
    · refine g_iconst (pc := 121) (x := 0) d_Mod_hasFittingNumbers_121 (by decide) ?_
      exact g_zret (pc := 122) d_Mod_hasFittingNumbers_122 rfl (Nat.le_refl _) (Nat.le_refl _)
    refine g_iconst (pc := 117) (x := 1) d_Mod_hasFittingNumbers_117 (by decide) ?_
    refine g_goto (pc := 118) (tgt := 122) d_Mod_hasFittingNumbers_118 rfl ?_
    exact g_zret (pc := 122) d_Mod_hasFittingNumbers_122 rfl (Nat.le_refl _) (Nat.le_refl _)
  refine g_sw (c := 7) (fun e7 => ?_) (fun e7 => ?_)
  · refine g_tin (pc := 1) (tgt := 123) (off := 122) e7 d_Mod_hasFittingNumbers_1 (by decide) (by decide) (by decide) (by decide) ?_
    refine g_iload_n (pc := 123) (x := a1) d_Mod_hasFittingNumbers_123 rfl rfl ?_
    refine g_ni (pc := 124) (rest := []) (sn_SL_isName a1 I) rfl rfl d_Mod_hasFittingNumbers_124 ck_Mod_79 (Nat.le_of_ble_eq_true rfl) (Nat.le_of_ble_eq_true rfl) (Nat.le_refl _) (Nat.le_refl _) (fun v20 J19 => ?_)
    refine g_ifeq (pc := 127) (tgt := 144) d_Mod_hasFittingNumbers_127 rfl ?_ ?_
    · refine g_iconst (pc := 144) (x := 0) d_Mod_hasFittingNumbers_144 (by decide) ?_
      exact g_zret (pc := 145) d_Mod_hasFittingNumbers_145 rfl (Nat.le_refl _) (Nat.le_refl _)
    refine g_iload_n (pc := 130) (x := a2) d_Mod_hasFittingNumbers_130 rfl rfl ?_
    refine g_iconst (pc := 131) (x := 1) d_Mod_hasFittingNumbers_131 (by decide) ?_
    refine g_bipush (pc := 132) (x := 16) d_Mod_hasFittingNumbers_132 (by decide) ?_
    refine g_ni (pc := 134) (rest := []) (sn_SL_isWithin a2 1 16 J19) rfl rfl d_Mod_hasFittingNumbers_134 ck_Mod_88 (Nat.le_of_ble_eq_true rfl) (Nat.le_of_ble_eq_true rfl) (Nat.le_refl _) (Nat.le_refl _) (fun v22 J21 => ?_)
    refine g_ifeq (pc := 137) (tgt := 144) d_Mod_hasFittingNumbers_137 rfl ?_ ?_
    · refine g_iconst (pc := 144) (x := 0) d_Mod_hasFittingNumbers_144 (by decide) ?_
      exact g_zret (pc := 145) d_Mod_hasFittingNumbers_145 rfl (Nat.le_refl _) (Nat.le_refl _)
    refine g_iconst (pc := 140) (x := 1) d_Mod_hasFittingNumbers_140 (by decide) ?_
    refine g_goto (pc := 141) (tgt := 145) d_Mod_hasFittingNumbers_141 rfl ?_
    exact g_zret (pc := 145) d_Mod_hasFittingNumbers_145 rfl (Nat.le_refl _) (Nat.le_refl _)
  refine g_sw (c := 8) (fun e8 => ?_) (fun e8 => ?_)
  · refine g_tin (pc := 1) (tgt := 146) (off := 145) e8 d_Mod_hasFittingNumbers_1 (by decide) (by decide) (by decide) (by decide) ?_
    refine g_iload_n (pc := 146) (x := a1) d_Mod_hasFittingNumbers_146 rfl rfl ?_
    refine g_ni (pc := 147) (rest := []) (sn_SL_isName a1 I) rfl rfl d_Mod_hasFittingNumbers_147 ck_Mod_79 (Nat.le_of_ble_eq_true rfl) (Nat.le_of_ble_eq_true rfl) (Nat.le_refl _) (Nat.le_refl _) (fun v24 J23 => ?_)
    refine g_ifeq (pc := 150) (tgt := 164) d_Mod_hasFittingNumbers_150 rfl ?_ ?_
    · refine g_iconst (pc := 164) (x := 0) d_Mod_hasFittingNumbers_164 (by decide) ?_
      exact g_zret (pc := 165) d_Mod_hasFittingNumbers_165 rfl (Nat.le_refl _) (Nat.le_refl _)
    refine g_iload_n (pc := 153) (x := a2) d_Mod_hasFittingNumbers_153 rfl rfl ?_
    refine g_ni (pc := 154) (rest := []) (sn_SL_isWord a2 J23) rfl rfl d_Mod_hasFittingNumbers_154 ck_Mod_85 (Nat.le_of_ble_eq_true rfl) (Nat.le_of_ble_eq_true rfl) (Nat.le_refl _) (Nat.le_refl _) (fun v26 J25 => ?_)
    refine g_ifeq (pc := 157) (tgt := 164) d_Mod_hasFittingNumbers_157 rfl ?_ ?_
    · refine g_iconst (pc := 164) (x := 0) d_Mod_hasFittingNumbers_164 (by decide) ?_
      exact g_zret (pc := 165) d_Mod_hasFittingNumbers_165 rfl (Nat.le_refl _) (Nat.le_refl _)
    refine g_iconst (pc := 160) (x := 1) d_Mod_hasFittingNumbers_160 (by decide) ?_
    refine g_goto (pc := 161) (tgt := 165) d_Mod_hasFittingNumbers_161 rfl ?_
    exact g_zret (pc := 165) d_Mod_hasFittingNumbers_165 rfl (Nat.le_refl _) (Nat.le_refl _)
  refine g_tout (pc := 1) (tgt := 166) d_Mod_hasFittingNumbers_1 (by have q0 := am_ni e0 (z := 0) (by decide); have q1 := am_ni e1 (z := 1) (by decide); have q2 := am_ni e2 (z := 2) (by decide); have q3 := am_ni e3 (z := 3) (by decide); have q4 := am_ni e4 (z := 4) (by decide); have q5 := am_ni e5 (z := 5) (by decide); have q6 := am_ni e6 (z := 6) (by decide); have q7 := am_ni e7 (z := 7) (by decide); have q8 := am_ni e8 (z := 8) (by decide); omega) (by decide) ?_
  refine g_iconst (pc := 166) (x := 0) d_Mod_hasFittingNumbers_166 (by decide) ?_
  exact g_zret (pc := 167) d_Mod_hasFittingNumbers_167 rfl (Nat.le_refl _) (Nat.le_refl _)
abbrev c_Mod_currentSection : gC := (m_Mod_currentSection, 0, 0, 0, none, 0, 0)
def fn_Mod_currentSection (a0 : Nat) (I : fm_I) : pR := gi 1 a0 8 I (fun v1 => (if v1 = 0 then (ri 0 I) else gr 1 a0 3 (fun v2 => gi 1 a0 8 I (fun v3 => ld 0 v2 (v3 - 1) I (fun v4 => (ri v4 I))))))
theorem sn_Mod_currentSection (a0 : Nat) (I : fm_I) : gM m_Mod_currentSection 0 (fn_Mod_currentSection a0 I) [vR a0] I := by
  refine gM_of (by decide) rfl (Nat.le_of_ble_eq_true rfl) ?_
  show gW c_Mod_currentSection _ _ _ _ _
  unfold fn_Mod_currentSection
  refine g_aload_n (pc := 0) (x := a0) d_Mod_currentSection_0 rfl rfl ?_
  refine g_gi (pc := 1) d_Mod_currentSection_1 fk_Mod_37 (fun v1 => ?_)
  refine g_ifne (pc := 4) (tgt := 11) d_Mod_currentSection_4 rfl ?_ ?_
  · refine g_aload_n (pc := 11) (x := a0) d_Mod_currentSection_11 rfl rfl ?_
    refine g_gr (pc := 12) d_Mod_currentSection_12 fk_Mod_21 (fun v2 => ?_)
    refine g_aload_n (pc := 15) (x := a0) d_Mod_currentSection_15 rfl rfl ?_
    refine g_gi (pc := 16) d_Mod_currentSection_16 fk_Mod_37 (fun v3 => ?_)
    refine g_iconst (pc := 19) (x := 1) d_Mod_currentSection_19 (by decide) ?_
    refine g_isub (pc := 20) d_Mod_currentSection_20 ?_
    refine g_ldI (pc := 21) d_Mod_currentSection_21 (fun v4 => ?_)
    exact g_iret (pc := 22) d_Mod_currentSection_22 rfl (Nat.le_refl _) (Nat.le_refl _)
  refine g_iconst (pc := 7) (x := 0) d_Mod_currentSection_7 (by decide) ?_
  refine g_goto (pc := 8) (tgt := 22) d_Mod_currentSection_8 rfl ?_
  exact g_iret (pc := 22) d_Mod_currentSection_22 rfl (Nat.le_refl _) (Nat.le_refl _)
abbrev c_Mod_mayStandInSection : gC := (m_Mod_mayStandInSection, 1, 0, 0, none, 0, 0)
def fn_Mod_mayStandInSection (a0 : Nat) (a1 : Int32) (I : fm_I) : pR := (if a1 = 6 then vi 1 a0 (fn_Mod_currentSection a0 I) (fun v6 J5 => (if v6 = 0 then (rz 1 J5) else (rz 0 J5))) else (if a1 = 3 then vi 1 a0 (fn_Mod_currentSection a0 I) (fun v2 J1 => (if v2 = 2 then (rz 0 J1) else (rz 1 J1))) else (if a1 = 4 then vi 1 a0 (fn_Mod_currentSection a0 I) (fun v4 J3 => (if v4 = 2 then (rz 0 J3) else (rz 1 J3))) else (rz 1 I))))
theorem sn_Mod_mayStandInSection (a0 : Nat) (a1 : Int32) (I : fm_I) : gM m_Mod_mayStandInSection 1 (fn_Mod_mayStandInSection a0 a1 I) [vR a0, vI a1] I := by
  refine gM_of (by decide) rfl (Nat.le_of_ble_eq_true rfl) ?_
  show gW c_Mod_mayStandInSection _ _ _ _ _
  unfold fn_Mod_mayStandInSection
  refine g_iload_n (pc := 0) (x := a1) d_Mod_mayStandInSection_0 rfl rfl ?_
  refine g_bipush (pc := 1) (x := 6) d_Mod_mayStandInSection_1 (by decide) ?_
  refine g_icmpne (pc := 3) (tgt := 19) d_Mod_mayStandInSection_3 rfl ?_ ?_
  · refine g_iload_n (pc := 19) (x := a1) d_Mod_mayStandInSection_19 rfl rfl ?_
    refine g_iconst (pc := 20) (x := 3) d_Mod_mayStandInSection_20 (by decide) ?_
    refine g_icmpeq (pc := 21) (tgt := 29) d_Mod_mayStandInSection_21 rfl ?_ ?_
    · refine g_aload_n (pc := 29) (x := a0) d_Mod_mayStandInSection_29 rfl rfl ?_
      refine g_vi (pc := 30) (rest := []) (sn_Mod_currentSection a0 I) rfl rfl d_Mod_mayStandInSection_30 ck_Mod_53 (Nat.le_of_ble_eq_true rfl) (Nat.le_of_ble_eq_true rfl) (Nat.le_refl _) (Nat.le_refl _) (fun v2 J1 => ?_)
      refine g_iconst (pc := 33) (x := 2) d_Mod_mayStandInSection_33 (by decide) ?_
      refine g_icmpeq (pc := 34) (tgt := 41) d_Mod_mayStandInSection_34 rfl ?_ ?_
      · refine g_iconst (pc := 41) (x := 0) d_Mod_mayStandInSection_41 (by decide) ?_
        exact g_zret (pc := 42) d_Mod_mayStandInSection_42 rfl (Nat.le_refl _) (Nat.le_refl _)
      refine g_iconst (pc := 37) (x := 1) d_Mod_mayStandInSection_37 (by decide) ?_
      refine g_goto (pc := 38) (tgt := 42) d_Mod_mayStandInSection_38 rfl ?_
      exact g_zret (pc := 42) d_Mod_mayStandInSection_42 rfl (Nat.le_refl _) (Nat.le_refl _)
    refine g_iload_n (pc := 24) (x := a1) d_Mod_mayStandInSection_24 rfl rfl ?_
    refine g_iconst (pc := 25) (x := 4) d_Mod_mayStandInSection_25 (by decide) ?_
    refine g_icmpne (pc := 26) (tgt := 43) d_Mod_mayStandInSection_26 rfl ?_ ?_
    · refine g_iconst (pc := 43) (x := 1) d_Mod_mayStandInSection_43 (by decide) ?_
      exact g_zret (pc := 44) d_Mod_mayStandInSection_44 rfl (Nat.le_refl _) (Nat.le_refl _)
    refine g_aload_n (pc := 29) (x := a0) d_Mod_mayStandInSection_29 rfl rfl ?_
    refine g_vi (pc := 30) (rest := []) (sn_Mod_currentSection a0 I) rfl rfl d_Mod_mayStandInSection_30 ck_Mod_53 (Nat.le_of_ble_eq_true rfl) (Nat.le_of_ble_eq_true rfl) (Nat.le_refl _) (Nat.le_refl _) (fun v4 J3 => ?_)
    refine g_iconst (pc := 33) (x := 2) d_Mod_mayStandInSection_33 (by decide) ?_
    refine g_icmpeq (pc := 34) (tgt := 41) d_Mod_mayStandInSection_34 rfl ?_ ?_
    · refine g_iconst (pc := 41) (x := 0) d_Mod_mayStandInSection_41 (by decide) ?_
      exact g_zret (pc := 42) d_Mod_mayStandInSection_42 rfl (Nat.le_refl _) (Nat.le_refl _)
    refine g_iconst (pc := 37) (x := 1) d_Mod_mayStandInSection_37 (by decide) ?_
    refine g_goto (pc := 38) (tgt := 42) d_Mod_mayStandInSection_38 rfl ?_
    exact g_zret (pc := 42) d_Mod_mayStandInSection_42 rfl (Nat.le_refl _) (Nat.le_refl _)
  refine g_aload_n (pc := 6) (x := a0) d_Mod_mayStandInSection_6 rfl rfl ?_
  refine g_vi (pc := 7) (rest := []) (sn_Mod_currentSection a0 I) rfl rfl d_Mod_mayStandInSection_7 ck_Mod_53 (Nat.le_of_ble_eq_true rfl) (Nat.le_of_ble_eq_true rfl) (Nat.le_refl _) (Nat.le_refl _) (fun v6 J5 => ?_)
  refine g_ifne (pc := 10) (tgt := 17) d_Mod_mayStandInSection_10 rfl ?_ ?_
  · refine g_iconst (pc := 17) (x := 0) d_Mod_mayStandInSection_17 (by decide) ?_
    exact g_zret (pc := 18) d_Mod_mayStandInSection_18 rfl (Nat.le_refl _) (Nat.le_refl _)
  refine g_iconst (pc := 13) (x := 1) d_Mod_mayStandInSection_13 (by decide) ?_
  refine g_goto (pc := 14) (tgt := 18) d_Mod_mayStandInSection_14 rfl ?_
  exact g_zret (pc := 18) d_Mod_mayStandInSection_18 rfl (Nat.le_refl _) (Nat.le_refl _)
abbrev c_Mod_holdsName : gC := (m_Mod_holdsName, 0, 0, 0, none, 0, 0)
def fn_Mod_holdsName (a0 : Int32) (I : fm_I) : pR := (if a0 = 0 then (rz 1 I) else (if a0 = 8 then (rz 1 I) else (if a0 = 7 then (rz 1 I) else (rz 0 I))))
theorem sn_Mod_holdsName (a0 : Int32) (I : fm_I) : gM m_Mod_holdsName 0 (fn_Mod_holdsName a0 I) [vI a0] I := by
  refine gM_of (by decide) rfl (Nat.le_of_ble_eq_true rfl) ?_
  show gW c_Mod_holdsName _ _ _ _ _
  unfold fn_Mod_holdsName
  refine g_iload_n (pc := 0) (x := a0) d_Mod_holdsName_0 rfl rfl ?_
  refine g_ifeq (pc := 1) (tgt := 16) d_Mod_holdsName_1 rfl ?_ ?_
  · refine g_iconst (pc := 16) (x := 1) d_Mod_holdsName_16 (by decide) ?_
    refine g_goto (pc := 17) (tgt := 21) d_Mod_holdsName_17 rfl ?_
    exact g_zret (pc := 21) d_Mod_holdsName_21 rfl (Nat.le_refl _) (Nat.le_refl _)
  refine g_iload_n (pc := 4) (x := a0) d_Mod_holdsName_4 rfl rfl ?_
  refine g_bipush (pc := 5) (x := 8) d_Mod_holdsName_5 (by decide) ?_
  refine g_icmpeq (pc := 7) (tgt := 16) d_Mod_holdsName_7 rfl ?_ ?_
  · refine g_iconst (pc := 16) (x := 1) d_Mod_holdsName_16 (by decide) ?_
    refine g_goto (pc := 17) (tgt := 21) d_Mod_holdsName_17 rfl ?_
    exact g_zret (pc := 21) d_Mod_holdsName_21 rfl (Nat.le_refl _) (Nat.le_refl _)
  refine g_iload_n (pc := 10) (x := a0) d_Mod_holdsName_10 rfl rfl ?_
  refine g_bipush (pc := 11) (x := 7) d_Mod_holdsName_11 (by decide) ?_
  refine g_icmpne (pc := 13) (tgt := 20) d_Mod_holdsName_13 rfl ?_ ?_
  · refine g_iconst (pc := 20) (x := 0) d_Mod_holdsName_20 (by decide) ?_
    exact g_zret (pc := 21) d_Mod_holdsName_21 rfl (Nat.le_refl _) (Nat.le_refl _)
  refine g_iconst (pc := 16) (x := 1) d_Mod_holdsName_16 (by decide) ?_
  refine g_goto (pc := 17) (tgt := 21) d_Mod_holdsName_17 rfl ?_
  exact g_zret (pc := 21) d_Mod_holdsName_21 rfl (Nat.le_refl _) (Nat.le_refl _)
abbrev c_SL_hasName : gC := (m_SL_hasName, 0, 0, 0, none, 0, 0)
def fn_SL_hasName (a0 : Int32) (a1 : Int32) (I : fm_I) : pR := (if (((a0 : Int32) >>> ((a1 : Int32) &&& 31)) &&& 1) = 0 then (rz 0 I) else (rz 1 I))
theorem sn_SL_hasName (a0 : Int32) (a1 : Int32) (I : fm_I) : gM m_SL_hasName 0 (fn_SL_hasName a0 a1 I) [vI a0, vI a1] I := by
  refine gM_of (by decide) rfl (Nat.le_of_ble_eq_true rfl) ?_
  show gW c_SL_hasName _ _ _ _ _
  unfold fn_SL_hasName
  refine g_iload_n (pc := 0) (x := a0) d_SL_hasName_0 rfl rfl ?_
  refine g_iload_n (pc := 1) (x := a1) d_SL_hasName_1 rfl rfl ?_
  refine g_ishr (pc := 2) d_SL_hasName_2 ?_
  refine g_iconst (pc := 3) (x := 1) d_SL_hasName_3 (by decide) ?_
  refine g_iand (pc := 4) d_SL_hasName_4 ?_
  refine g_ifeq (pc := 5) (tgt := 12) d_SL_hasName_5 rfl ?_ ?_
  · refine g_iconst (pc := 12) (x := 0) d_SL_hasName_12 (by decide) ?_
    exact g_zret (pc := 13) d_SL_hasName_13 rfl (Nat.le_refl _) (Nat.le_refl _)
  refine g_iconst (pc := 8) (x := 1) d_SL_hasName_8 (by decide) ?_
  refine g_goto (pc := 9) (tgt := 13) d_SL_hasName_9 rfl ?_
  exact g_zret (pc := 13) d_SL_hasName_13 rfl (Nat.le_refl _) (Nat.le_refl _)
abbrev c_Mod_isSaidTwice : gC := (m_Mod_isSaidTwice, 1, 0, 0, none, 0, 0)
def fn_Mod_isSaidTwice (a0 : Nat) (a1 : Int32) (a2 : Int32) (I : fm_I) : pR := bi (fn_Mod_holdsName a1 I) (fun v2 J1 => (if v2 = 0 then (rz 0 J1) else gi 1 a0 9 J1 (fun v3 => gi 1 a0 10 J1 (fun v4 => bi (fn_SL_hasName (v3 ||| v4) a2 J1) (fun v6 J5 => (if v6 = 0 then (rz 0 J5) else (rz 1 J5)))))))
theorem sn_Mod_isSaidTwice (a0 : Nat) (a1 : Int32) (a2 : Int32) (I : fm_I) : gM m_Mod_isSaidTwice 1 (fn_Mod_isSaidTwice a0 a1 a2 I) [vR a0, vI a1, vI a2] I := by
  refine gM_of (by decide) rfl (Nat.le_of_ble_eq_true rfl) ?_
  show gW c_Mod_isSaidTwice _ _ _ _ _
  unfold fn_Mod_isSaidTwice
  refine g_iload_n (pc := 0) (x := a1) d_Mod_isSaidTwice_0 rfl rfl ?_
  refine g_si (pc := 1) (rest := []) (sn_Mod_holdsName a1 I) rfl rfl d_Mod_isSaidTwice_1 ck_Mod_91 (Nat.le_of_ble_eq_true rfl) (Nat.le_of_ble_eq_true rfl) (Nat.le_refl _) (Nat.le_refl _) (fun v2 J1 => ?_)
  refine g_ifeq (pc := 4) (tgt := 27) d_Mod_isSaidTwice_4 rfl ?_ ?_
  · refine g_iconst (pc := 27) (x := 0) d_Mod_isSaidTwice_27 (by decide) ?_
    exact g_zret (pc := 28) d_Mod_isSaidTwice_28 rfl (Nat.le_refl _) (Nat.le_refl _)
  refine g_aload_n (pc := 7) (x := a0) d_Mod_isSaidTwice_7 rfl rfl ?_
  refine g_gi (pc := 8) d_Mod_isSaidTwice_8 fk_Mod_64 (fun v3 => ?_)
  refine g_aload_n (pc := 11) (x := a0) d_Mod_isSaidTwice_11 rfl rfl ?_
  refine g_gi (pc := 12) d_Mod_isSaidTwice_12 fk_Mod_67 (fun v4 => ?_)
  refine g_ior (pc := 15) d_Mod_isSaidTwice_15 ?_
  refine g_iload_n (pc := 16) (x := a2) d_Mod_isSaidTwice_16 rfl rfl ?_
  refine g_ni (pc := 17) (rest := []) (sn_SL_hasName (v3 ||| v4) a2 J1) rfl rfl d_Mod_isSaidTwice_17 ck_Mod_76 (Nat.le_of_ble_eq_true rfl) (Nat.le_of_ble_eq_true rfl) (Nat.le_refl _) (Nat.le_refl _) (fun v6 J5 => ?_)
  refine g_ifeq (pc := 20) (tgt := 27) d_Mod_isSaidTwice_20 rfl ?_ ?_
  · refine g_iconst (pc := 27) (x := 0) d_Mod_isSaidTwice_27 (by decide) ?_
    exact g_zret (pc := 28) d_Mod_isSaidTwice_28 rfl (Nat.le_refl _) (Nat.le_refl _)
  refine g_iconst (pc := 23) (x := 1) d_Mod_isSaidTwice_23 (by decide) ?_
  refine g_goto (pc := 24) (tgt := 28) d_Mod_isSaidTwice_24 rfl ?_
  exact g_zret (pc := 28) d_Mod_isSaidTwice_28 rfl (Nat.le_refl _) (Nat.le_refl _)
abbrev c_Mod_accepts : gC := (m_Mod_accepts, 3, 0, 0, none, 0, 0)
def fn_Mod_accepts (a0 : Nat) (a1 : Int32) (a2 : Int32) (a3 : Int32) (I : fm_I) : pR := gi 1 a0 8 I (fun v1 => (if 20 ≤ v1 then (rz 0 I) else bi (fn_Mod_hasFittingNumbers a1 a2 a3 I) (fun v3 J2 => (if v3 = 0 then (rz 0 J2) else vi 1 a0 (fn_Mod_mayStandInSection a0 a1 J2) (fun v5 J4 => (if v5 = 0 then (rz 0 J4) else vi 1 a0 (fn_Mod_isSaidTwice a0 a1 a2 J4) (fun v7 J6 => (if v7 = 0 then (rz 1 J6) else (rz 0 J6)))))))))
theorem sn_Mod_accepts (a0 : Nat) (a1 : Int32) (a2 : Int32) (a3 : Int32) (I : fm_I) : gM m_Mod_accepts 3 (fn_Mod_accepts a0 a1 a2 a3 I) [vR a0, vI a1, vI a2, vI a3] I := by
  refine gM_of (by decide) rfl (Nat.le_of_ble_eq_true rfl) ?_
  show gW c_Mod_accepts _ _ _ _ _
  unfold fn_Mod_accepts
  refine g_aload_n (pc := 0) (x := a0) d_Mod_accepts_0 rfl rfl ?_
  refine g_gi (pc := 1) d_Mod_accepts_1 fk_Mod_37 (fun v1 => ?_)
  refine g_bipush (pc := 4) (x := 20) d_Mod_accepts_4 (by decide) ?_
  refine g_icmpge (pc := 6) (tgt := 39) d_Mod_accepts_6 rfl ?_ ?_
  · refine g_iconst (pc := 39) (x := 0) d_Mod_accepts_39 (by decide) ?_
    exact g_zret (pc := 40) d_Mod_accepts_40 rfl (Nat.le_refl _) (Nat.le_refl _)
  refine g_iload_n (pc := 9) (x := a1) d_Mod_accepts_9 rfl rfl ?_
  refine g_iload_n (pc := 10) (x := a2) d_Mod_accepts_10 rfl rfl ?_
  refine g_iload_n (pc := 11) (x := a3) d_Mod_accepts_11 rfl rfl ?_
  refine g_si (pc := 12) (rest := []) (sn_Mod_hasFittingNumbers a1 a2 a3 I) rfl rfl d_Mod_accepts_12 ck_Mod_41 (Nat.le_of_ble_eq_true rfl) (Nat.le_of_ble_eq_true rfl) (Nat.le_refl _) (Nat.le_refl _) (fun v3 J2 => ?_)
  refine g_ifeq (pc := 15) (tgt := 39) d_Mod_accepts_15 rfl ?_ ?_
  · refine g_iconst (pc := 39) (x := 0) d_Mod_accepts_39 (by decide) ?_
    exact g_zret (pc := 40) d_Mod_accepts_40 rfl (Nat.le_refl _) (Nat.le_refl _)
  refine g_aload_n (pc := 18) (x := a0) d_Mod_accepts_18 rfl rfl ?_
  refine g_iload_n (pc := 19) (x := a1) d_Mod_accepts_19 rfl rfl ?_
  refine g_vi (pc := 20) (rest := []) (sn_Mod_mayStandInSection a0 a1 J2) rfl rfl d_Mod_accepts_20 ck_Mod_45 (Nat.le_of_ble_eq_true rfl) (Nat.le_of_ble_eq_true rfl) (Nat.le_refl _) (Nat.le_refl _) (fun v5 J4 => ?_)
  refine g_ifeq (pc := 23) (tgt := 39) d_Mod_accepts_23 rfl ?_ ?_
  · refine g_iconst (pc := 39) (x := 0) d_Mod_accepts_39 (by decide) ?_
    exact g_zret (pc := 40) d_Mod_accepts_40 rfl (Nat.le_refl _) (Nat.le_refl _)
  refine g_aload_n (pc := 26) (x := a0) d_Mod_accepts_26 rfl rfl ?_
  refine g_iload_n (pc := 27) (x := a1) d_Mod_accepts_27 rfl rfl ?_
  refine g_iload_n (pc := 28) (x := a2) d_Mod_accepts_28 rfl rfl ?_
  refine g_vi (pc := 29) (rest := []) (sn_Mod_isSaidTwice a0 a1 a2 J4) rfl rfl d_Mod_accepts_29 ck_Mod_49 (Nat.le_of_ble_eq_true rfl) (Nat.le_of_ble_eq_true rfl) (Nat.le_refl _) (Nat.le_refl _) (fun v7 J6 => ?_)
  refine g_ifne (pc := 32) (tgt := 39) d_Mod_accepts_32 rfl ?_ ?_
  · refine g_iconst (pc := 39) (x := 0) d_Mod_accepts_39 (by decide) ?_
    exact g_zret (pc := 40) d_Mod_accepts_40 rfl (Nat.le_refl _) (Nat.le_refl _)
  refine g_iconst (pc := 35) (x := 1) d_Mod_accepts_35 (by decide) ?_
  refine g_goto (pc := 36) (tgt := 40) d_Mod_accepts_36 rfl ?_
  exact g_zret (pc := 40) d_Mod_accepts_40 rfl (Nat.le_refl _) (Nat.le_refl _)
abbrev c_SL_setOf : gC := (m_SL_setOf, 0, 0, 0, none, 0, 0)
def fn_SL_setOf (a0 : Int32) (I : fm_I) : pR := (ri ((1 : Int32) <<< ((a0 : Int32) &&& 31)) I)
theorem sn_SL_setOf (a0 : Int32) (I : fm_I) : gM m_SL_setOf 0 (fn_SL_setOf a0 I) [vI a0] I := by
  refine gM_of (by decide) rfl (Nat.le_of_ble_eq_true rfl) ?_
  show gW c_SL_setOf _ _ _ _ _
  unfold fn_SL_setOf
  refine g_iconst (pc := 0) (x := 1) d_SL_setOf_0 (by decide) ?_
  refine g_iload_n (pc := 1) (x := a0) d_SL_setOf_1 rfl rfl ?_
  refine g_ishl (pc := 2) d_SL_setOf_2 ?_
  exact g_iret (pc := 3) d_SL_setOf_3 rfl (Nat.le_refl _) (Nat.le_refl _)
abbrev c_Mod_noteName : gC := (m_Mod_noteName, 1, 0, 0, none, 0, 0)
def fn_Mod_noteName_17 (a0 : Nat) (a1 : Int32) (a2 : Int32) (I : fm_I) : pR := (if a1 = 0 then gi 1 a0 9 I (fun v1 => bi (fn_SL_setOf a2 I) (fun v3 J2 => pI 1 a0 9 (v1 ||| v3) J2 (fun J4 => (rv J4)))) else (if a1 = 8 then gi 1 a0 9 I (fun v21 => bi (fn_SL_setOf a2 I) (fun v23 J22 => pI 1 a0 9 (v21 ||| v23) J22 (fun J24 => (rv J24)))) else (if a1 = 7 then gi 1 a0 10 I (fun v17 => bi (fn_SL_setOf a2 I) (fun v19 J18 => pI 1 a0 10 (v17 ||| v19) J18 (fun J20 => (rv J20)))) else (if a1 = 1 then gi 1 a0 11 I (fun v13 => bi (fn_SL_setOf a2 I) (fun v15 J14 => pI 1 a0 11 (v13 ||| v15) J14 (fun J16 => (rv J16)))) else (if a1 = 4 then gi 1 a0 12 I (fun v5 => bi (fn_SL_setOf a2 I) (fun v7 J6 => pI 1 a0 12 (v5 ||| v7) J6 (fun J8 => (rv J8)))) else (if a1 = 6 then gi 1 a0 12 I (fun v9 => bi (fn_SL_setOf a2 I) (fun v11 J10 => pI 1 a0 12 (v9 ||| v11) J10 (fun J12 => (rv J12)))) else (rv I)))))))
theorem sn_Mod_noteName_17 : ∀ (a0 : Nat) (a1 : Int32) (a2 : Int32) (I : fm_I) (L : Nat → Option am_V), L 0 = some (vR a0) → L 1 = some (vI a1) → L 2 = some (vI a2) → gW c_Mod_noteName (fn_Mod_noteName_17 a0 a1 a2 I) 17 L [] I := by
  intro a0 a1 a2 I L h0 h1 h2
  unfold fn_Mod_noteName_17
  refine g_iload_n (pc := 17) (x := a1) d_Mod_noteName_17 rfl h1 ?_
  refine g_ifeq (pc := 18) (tgt := 27) d_Mod_noteName_18 rfl ?_ ?_
  · refine g_aload_n (pc := 27) (x := a0) d_Mod_noteName_27 rfl h0 ?_
    refine g_dup (pc := 28) d_Mod_noteName_28 ?_
    refine g_gi (pc := 29) d_Mod_noteName_29 fk_Mod_64 (fun v1 => ?_)
    refine g_iload_n (pc := 32) (x := a2) d_Mod_noteName_32 rfl h2 ?_
    refine g_ni (pc := 33) (rest := [vI v1, vR a0]) (sn_SL_setOf a2 I) rfl rfl d_Mod_noteName_33 ck_Mod_94 (Nat.le_of_ble_eq_true rfl) (Nat.le_of_ble_eq_true rfl) (Nat.le_refl _) (Nat.le_refl _) (fun v3 J2 => ?_)
    refine g_ior (pc := 36) d_Mod_noteName_36 ?_
    refine g_pI (pc := 37) d_Mod_noteName_37 fp_Mod_64 (fun J4 => ?_)
    refine g_goto (pc := 40) (tgt := 110) d_Mod_noteName_40 rfl ?_
    exact g_ret (pc := 110) d_Mod_noteName_110 rfl (Nat.le_refl _) (Nat.le_refl _)
  refine g_iload_n (pc := 21) (x := a1) d_Mod_noteName_21 rfl h1 ?_
  refine g_bipush (pc := 22) (x := 8) d_Mod_noteName_22 (by decide) ?_
  refine g_icmpne (pc := 24) (tgt := 43) d_Mod_noteName_24 rfl ?_ ?_
  · refine g_iload_n (pc := 43) (x := a1) d_Mod_noteName_43 rfl h1 ?_
    refine g_bipush (pc := 44) (x := 7) d_Mod_noteName_44 (by decide) ?_
    refine g_icmpne (pc := 46) (tgt := 65) d_Mod_noteName_46 rfl ?_ ?_
    · refine g_iload_n (pc := 65) (x := a1) d_Mod_noteName_65 rfl h1 ?_
      refine g_iconst (pc := 66) (x := 1) d_Mod_noteName_66 (by decide) ?_
      refine g_icmpne (pc := 67) (tgt := 86) d_Mod_noteName_67 rfl ?_ ?_
      · refine g_iload_n (pc := 86) (x := a1) d_Mod_noteName_86 rfl h1 ?_
        refine g_iconst (pc := 87) (x := 4) d_Mod_noteName_87 (by decide) ?_
        refine g_icmpeq (pc := 88) (tgt := 97) d_Mod_noteName_88 rfl ?_ ?_
        · refine g_aload_n (pc := 97) (x := a0) d_Mod_noteName_97 rfl h0 ?_
          refine g_dup (pc := 98) d_Mod_noteName_98 ?_
          refine g_gi (pc := 99) d_Mod_noteName_99 fk_Mod_73 (fun v5 => ?_)
          refine g_iload_n (pc := 102) (x := a2) d_Mod_noteName_102 rfl h2 ?_
          refine g_ni (pc := 103) (rest := [vI v5, vR a0]) (sn_SL_setOf a2 I) rfl rfl d_Mod_noteName_103 ck_Mod_94 (Nat.le_of_ble_eq_true rfl) (Nat.le_of_ble_eq_true rfl) (Nat.le_refl _) (Nat.le_refl _) (fun v7 J6 => ?_)
          refine g_ior (pc := 106) d_Mod_noteName_106 ?_
          refine g_pI (pc := 107) d_Mod_noteName_107 fp_Mod_73 (fun J8 => ?_)
          exact g_ret (pc := 110) d_Mod_noteName_110 rfl (Nat.le_refl _) (Nat.le_refl _)
        refine g_iload_n (pc := 91) (x := a1) d_Mod_noteName_91 rfl h1 ?_
        refine g_bipush (pc := 92) (x := 6) d_Mod_noteName_92 (by decide) ?_
        refine g_icmpne (pc := 94) (tgt := 110) d_Mod_noteName_94 rfl ?_ ?_
        · exact g_ret (pc := 110) d_Mod_noteName_110 rfl (Nat.le_refl _) (Nat.le_refl _)
        refine g_aload_n (pc := 97) (x := a0) d_Mod_noteName_97 rfl h0 ?_
        refine g_dup (pc := 98) d_Mod_noteName_98 ?_
        refine g_gi (pc := 99) d_Mod_noteName_99 fk_Mod_73 (fun v9 => ?_)
        refine g_iload_n (pc := 102) (x := a2) d_Mod_noteName_102 rfl h2 ?_
        refine g_ni (pc := 103) (rest := [vI v9, vR a0]) (sn_SL_setOf a2 I) rfl rfl d_Mod_noteName_103 ck_Mod_94 (Nat.le_of_ble_eq_true rfl) (Nat.le_of_ble_eq_true rfl) (Nat.le_refl _) (Nat.le_refl _) (fun v11 J10 => ?_)
        refine g_ior (pc := 106) d_Mod_noteName_106 ?_
        refine g_pI (pc := 107) d_Mod_noteName_107 fp_Mod_73 (fun J12 => ?_)
        exact g_ret (pc := 110) d_Mod_noteName_110 rfl (Nat.le_refl _) (Nat.le_refl _)
      refine g_aload_n (pc := 70) (x := a0) d_Mod_noteName_70 rfl h0 ?_
      refine g_dup (pc := 71) d_Mod_noteName_71 ?_
      refine g_gi (pc := 72) d_Mod_noteName_72 fk_Mod_70 (fun v13 => ?_)
      refine g_iload_n (pc := 75) (x := a2) d_Mod_noteName_75 rfl h2 ?_
      refine g_ni (pc := 76) (rest := [vI v13, vR a0]) (sn_SL_setOf a2 I) rfl rfl d_Mod_noteName_76 ck_Mod_94 (Nat.le_of_ble_eq_true rfl) (Nat.le_of_ble_eq_true rfl) (Nat.le_refl _) (Nat.le_refl _) (fun v15 J14 => ?_)
      refine g_ior (pc := 79) d_Mod_noteName_79 ?_
      refine g_pI (pc := 80) d_Mod_noteName_80 fp_Mod_70 (fun J16 => ?_)
      refine g_goto (pc := 83) (tgt := 110) d_Mod_noteName_83 rfl ?_
      exact g_ret (pc := 110) d_Mod_noteName_110 rfl (Nat.le_refl _) (Nat.le_refl _)
    refine g_aload_n (pc := 49) (x := a0) d_Mod_noteName_49 rfl h0 ?_
    refine g_dup (pc := 50) d_Mod_noteName_50 ?_
    refine g_gi (pc := 51) d_Mod_noteName_51 fk_Mod_67 (fun v17 => ?_)
    refine g_iload_n (pc := 54) (x := a2) d_Mod_noteName_54 rfl h2 ?_
    refine g_ni (pc := 55) (rest := [vI v17, vR a0]) (sn_SL_setOf a2 I) rfl rfl d_Mod_noteName_55 ck_Mod_94 (Nat.le_of_ble_eq_true rfl) (Nat.le_of_ble_eq_true rfl) (Nat.le_refl _) (Nat.le_refl _) (fun v19 J18 => ?_)
    refine g_ior (pc := 58) d_Mod_noteName_58 ?_
    refine g_pI (pc := 59) d_Mod_noteName_59 fp_Mod_67 (fun J20 => ?_)
    refine g_goto (pc := 62) (tgt := 110) d_Mod_noteName_62 rfl ?_
    exact g_ret (pc := 110) d_Mod_noteName_110 rfl (Nat.le_refl _) (Nat.le_refl _)
  refine g_aload_n (pc := 27) (x := a0) d_Mod_noteName_27 rfl h0 ?_
  refine g_dup (pc := 28) d_Mod_noteName_28 ?_
  refine g_gi (pc := 29) d_Mod_noteName_29 fk_Mod_64 (fun v21 => ?_)
  refine g_iload_n (pc := 32) (x := a2) d_Mod_noteName_32 rfl h2 ?_
  refine g_ni (pc := 33) (rest := [vI v21, vR a0]) (sn_SL_setOf a2 I) rfl rfl d_Mod_noteName_33 ck_Mod_94 (Nat.le_of_ble_eq_true rfl) (Nat.le_of_ble_eq_true rfl) (Nat.le_refl _) (Nat.le_refl _) (fun v23 J22 => ?_)
  refine g_ior (pc := 36) d_Mod_noteName_36 ?_
  refine g_pI (pc := 37) d_Mod_noteName_37 fp_Mod_64 (fun J24 => ?_)
  refine g_goto (pc := 40) (tgt := 110) d_Mod_noteName_40 rfl ?_
  exact g_ret (pc := 110) d_Mod_noteName_110 rfl (Nat.le_refl _) (Nat.le_refl _)
def fn_Mod_noteName (a0 : Nat) (a1 : Int32) (a2 : Int32) (I : fm_I) : pR := bi (fn_Mod_holdsName a1 I) (fun v2 J1 => (if v2 = 0 then (fn_Mod_noteName_17 a0 a1 a2 J1) else gr 1 a0 7 (fun v3 => gi 1 a0 8 J1 (fun v4 => sI v3 a2 v4 J1 (fun J5 => (fn_Mod_noteName_17 a0 a1 a2 J5))))))
theorem sn_Mod_noteName (a0 : Nat) (a1 : Int32) (a2 : Int32) (I : fm_I) : gM m_Mod_noteName 1 (fn_Mod_noteName a0 a1 a2 I) [vR a0, vI a1, vI a2] I := by
  refine gM_of (by decide) rfl (Nat.le_of_ble_eq_true rfl) ?_
  show gW c_Mod_noteName _ _ _ _ _
  unfold fn_Mod_noteName
  refine g_iload_n (pc := 0) (x := a1) d_Mod_noteName_0 rfl rfl ?_
  refine g_si (pc := 1) (rest := []) (sn_Mod_holdsName a1 I) rfl rfl d_Mod_noteName_1 ck_Mod_91 (Nat.le_of_ble_eq_true rfl) (Nat.le_of_ble_eq_true rfl) (Nat.le_refl _) (Nat.le_refl _) (fun v2 J1 => ?_)
  refine g_ifeq (pc := 4) (tgt := 17) d_Mod_noteName_4 rfl ?_ ?_
  · exact sn_Mod_noteName_17 _ _ _ _ _ rfl rfl rfl
  refine g_aload_n (pc := 7) (x := a0) d_Mod_noteName_7 rfl rfl ?_
  refine g_gr (pc := 8) d_Mod_noteName_8 fk_Mod_34 (fun v3 => ?_)
  refine g_iload_n (pc := 11) (x := a2) d_Mod_noteName_11 rfl rfl ?_
  refine g_aload_n (pc := 12) (x := a0) d_Mod_noteName_12 rfl rfl ?_
  refine g_gi (pc := 13) d_Mod_noteName_13 fk_Mod_37 (fun v4 => ?_)
  refine g_sI (pc := 16) d_Mod_noteName_16 (fun J5 => ?_)
  exact sn_Mod_noteName_17 _ _ _ _ _ rfl rfl rfl
abbrev c_Mod_aimsAtOwnText : gC := (m_Mod_aimsAtOwnText, 1, 0, 0, none, 0, 0)
def fn_Mod_aimsAtOwnText (a0 : Nat) (a1 : Int32) (I : fm_I) : pR := gr 1 a0 1 (fun v1 => ld 0 v1 a1 I (fun v2 => gi 1 a0 9 I (fun v3 => bi (fn_SL_hasName v3 v2 I) (fun v5 J4 => (if v5 = 0 then (rz 0 J4) else gr 1 a0 7 (fun v6 => ld 0 v6 v2 J4 (fun v7 => gr 1 a0 0 (fun v8 => ld 0 v8 v7 J4 (fun v9 => (if v9 = 0 then gr 1 a0 3 (fun v10 => ld 0 v10 v7 J4 (fun v11 => (if v11 = 0 then (rz 1 J4) else (rz 0 J4)))) else (rz 0 J4)))))))))))
theorem sn_Mod_aimsAtOwnText (a0 : Nat) (a1 : Int32) (I : fm_I) : gM m_Mod_aimsAtOwnText 1 (fn_Mod_aimsAtOwnText a0 a1 I) [vR a0, vI a1] I := by
  refine gM_of (by decide) rfl (Nat.le_of_ble_eq_true rfl) ?_
  show gW c_Mod_aimsAtOwnText _ _ _ _ _
  unfold fn_Mod_aimsAtOwnText
  refine g_aload_n (pc := 0) (x := a0) d_Mod_aimsAtOwnText_0 rfl rfl ?_
  refine g_gr (pc := 1) d_Mod_aimsAtOwnText_1 fk_Mod_15 (fun v1 => ?_)
  refine g_iload_n (pc := 4) (x := a1) d_Mod_aimsAtOwnText_4 rfl rfl ?_
  refine g_ldI (pc := 5) d_Mod_aimsAtOwnText_5 (fun v2 => ?_)
  refine g_istore_n (pc := 6) (x := v2) d_Mod_aimsAtOwnText_6 rfl (Nat.le_of_ble_eq_true rfl) ?_
  refine g_aload_n (pc := 7) (x := a0) d_Mod_aimsAtOwnText_7 rfl rfl ?_
  refine g_gi (pc := 8) d_Mod_aimsAtOwnText_8 fk_Mod_64 (fun v3 => ?_)
  refine g_iload_n (pc := 11) (x := v2) d_Mod_aimsAtOwnText_11 rfl rfl ?_
  refine g_ni (pc := 12) (rest := []) (sn_SL_hasName v3 v2 I) rfl rfl d_Mod_aimsAtOwnText_12 ck_Mod_76 (Nat.le_of_ble_eq_true rfl) (Nat.le_of_ble_eq_true rfl) (Nat.le_refl _) (Nat.le_refl _) (fun v5 J4 => ?_)
  refine g_ifne (pc := 15) (tgt := 20) d_Mod_aimsAtOwnText_15 rfl ?_ ?_
  · refine g_aload_n (pc := 20) (x := a0) d_Mod_aimsAtOwnText_20 rfl rfl ?_
    refine g_gr (pc := 21) d_Mod_aimsAtOwnText_21 fk_Mod_34 (fun v6 => ?_)
    refine g_iload_n (pc := 24) (x := v2) d_Mod_aimsAtOwnText_24 rfl rfl ?_
    refine g_ldI (pc := 25) d_Mod_aimsAtOwnText_25 (fun v7 => ?_)
    refine g_istore_n (pc := 26) (x := v7) d_Mod_aimsAtOwnText_26 rfl (Nat.le_of_ble_eq_true rfl) ?_
    refine g_aload_n (pc := 27) (x := a0) d_Mod_aimsAtOwnText_27 rfl rfl ?_
    refine g_gr (pc := 28) d_Mod_aimsAtOwnText_28 fk_Mod_9 (fun v8 => ?_)
    refine g_iload_n (pc := 31) (x := v7) d_Mod_aimsAtOwnText_31 rfl rfl ?_
    refine g_ldI (pc := 32) d_Mod_aimsAtOwnText_32 (fun v9 => ?_)
    refine g_ifne (pc := 33) (tgt := 49) d_Mod_aimsAtOwnText_33 rfl ?_ ?_
    · refine g_iconst (pc := 49) (x := 0) d_Mod_aimsAtOwnText_49 (by decide) ?_
      exact g_zret (pc := 50) d_Mod_aimsAtOwnText_50 rfl (Nat.le_refl _) (Nat.le_refl _)
    refine g_aload_n (pc := 36) (x := a0) d_Mod_aimsAtOwnText_36 rfl rfl ?_
    refine g_gr (pc := 37) d_Mod_aimsAtOwnText_37 fk_Mod_21 (fun v10 => ?_)
    refine g_iload_n (pc := 40) (x := v7) d_Mod_aimsAtOwnText_40 rfl rfl ?_
    refine g_ldI (pc := 41) d_Mod_aimsAtOwnText_41 (fun v11 => ?_)
    refine g_ifne (pc := 42) (tgt := 49) d_Mod_aimsAtOwnText_42 rfl ?_ ?_
    · refine g_iconst (pc := 49) (x := 0) d_Mod_aimsAtOwnText_49 (by decide) ?_
      exact g_zret (pc := 50) d_Mod_aimsAtOwnText_50 rfl (Nat.le_refl _) (Nat.le_refl _)
    refine g_iconst (pc := 45) (x := 1) d_Mod_aimsAtOwnText_45 (by decide) ?_
    refine g_goto (pc := 46) (tgt := 50) d_Mod_aimsAtOwnText_46 rfl ?_
    exact g_zret (pc := 50) d_Mod_aimsAtOwnText_50 rfl (Nat.le_refl _) (Nat.le_refl _)
  refine g_iconst (pc := 18) (x := 0) d_Mod_aimsAtOwnText_18 (by decide) ?_
  exact g_zret (pc := 19) d_Mod_aimsAtOwnText_19 rfl (Nat.le_refl _) (Nat.le_refl _)
abbrev c_Mod_wordsOf : gC := (m_Mod_wordsOf, 0, 0, 0, none, 0, 0)
def fn_Mod_wordsOf (a0 : Nat) (a1 : Int32) (I : fm_I) : pR := gr 1 a0 0 (fun v1 => ld 0 v1 a1 I (fun v2 => (if v2 = 3 then (ri 1 I) else (if v2 = 4 then (ri 1 I) else (if v2 = 5 then gr 1 a0 1 (fun v3 => ld 0 v3 a1 I (fun v4 => (ri v4 I))) else (if v2 = 6 then gr 1 a0 5 (fun v5 => ld 1 v5 a1 I (fun v6 => (if v6 = 0 then (ri 1 I) else (ri 2 I)))) else (ri 0 I)))))))
theorem sn_Mod_wordsOf (a0 : Nat) (a1 : Int32) (I : fm_I) : gM m_Mod_wordsOf 0 (fn_Mod_wordsOf a0 a1 I) [vR a0, vI a1] I := by
  refine gM_of (by decide) rfl (Nat.le_of_ble_eq_true rfl) ?_
  show gW c_Mod_wordsOf _ _ _ _ _
  unfold fn_Mod_wordsOf
  refine g_aload_n (pc := 0) (x := a0) d_Mod_wordsOf_0 rfl rfl ?_
  refine g_gr (pc := 1) d_Mod_wordsOf_1 fk_Mod_9 (fun v1 => ?_)
  refine g_iload_n (pc := 4) (x := a1) d_Mod_wordsOf_4 rfl rfl ?_
  refine g_ldI (pc := 5) d_Mod_wordsOf_5 (fun v2 => ?_)
  refine g_sw (c := 3) (fun e3 => ?_) (fun e3 => ?_)
  · refine g_tin (pc := 6) (tgt := 36) (off := 30) e3 d_Mod_wordsOf_6 (by decide) (by decide) (by decide) (by decide) ?_
    refine g_iconst (pc := 36) (x := 1) d_Mod_wordsOf_36 (by decide) ?_
    exact g_iret (pc := 37) d_Mod_wordsOf_37 rfl (Nat.le_refl _) (Nat.le_refl _)
  refine g_sw (c := 4) (fun e4 => ?_) (fun e4 => ?_)
  · refine g_tin (pc := 6) (tgt := 36) (off := 30) e4 d_Mod_wordsOf_6 (by decide) (by decide) (by decide) (by decide) ?_
    refine g_iconst (pc := 36) (x := 1) d_Mod_wordsOf_36 (by decide) ?_
    exact g_iret (pc := 37) d_Mod_wordsOf_37 rfl (Nat.le_refl _) (Nat.le_refl _)
  refine g_sw (c := 5) (fun e5 => ?_) (fun e5 => ?_)
  · refine g_tin (pc := 6) (tgt := 38) (off := 32) e5 d_Mod_wordsOf_6 (by decide) (by decide) (by decide) (by decide) ?_
    refine g_aload_n (pc := 38) (x := a0) d_Mod_wordsOf_38 rfl rfl ?_
    refine g_gr (pc := 39) d_Mod_wordsOf_39 fk_Mod_15 (fun v3 => ?_)
    refine g_iload_n (pc := 42) (x := a1) d_Mod_wordsOf_42 rfl rfl ?_
    refine g_ldI (pc := 43) d_Mod_wordsOf_43 (fun v4 => ?_)
    exact g_iret (pc := 44) d_Mod_wordsOf_44 rfl (Nat.le_refl _) (Nat.le_refl _)
  refine g_sw (c := 6) (fun e6 => ?_) (fun e6 => ?_)
  · refine g_tin (pc := 6) (tgt := 45) (off := 39) e6 d_Mod_wordsOf_6 (by decide) (by decide) (by decide) (by decide) ?_
    refine g_aload_n (pc := 45) (x := a0) d_Mod_wordsOf_45 rfl rfl ?_
    refine g_gr (pc := 46) d_Mod_wordsOf_46 fk_Mod_27 (fun v5 => ?_)
    refine g_iload_n (pc := 49) (x := a1) d_Mod_wordsOf_49 rfl rfl ?_
    refine g_ldZ (pc := 50) d_Mod_wordsOf_50 (fun v6 => ?_)
    refine g_ifeq (pc := 51) (tgt := 58) d_Mod_wordsOf_51 rfl ?_ ?_
    · refine g_iconst (pc := 58) (x := 1) d_Mod_wordsOf_58 (by decide) ?_
      exact g_iret (pc := 59) d_Mod_wordsOf_59 rfl (Nat.le_refl _) (Nat.le_refl _)
    refine g_iconst (pc := 54) (x := 2) d_Mod_wordsOf_54 (by decide) ?_
    refine g_goto (pc := 55) (tgt := 59) d_Mod_wordsOf_55 rfl ?_
    exact g_iret (pc := 59) d_Mod_wordsOf_59 rfl (Nat.le_refl _) (Nat.le_refl _)
  refine g_tout (pc := 6) (tgt := 60) d_Mod_wordsOf_6 (by have q3 := am_ni e3 (z := 3) (by decide); have q4 := am_ni e4 (z := 4) (by decide); have q5 := am_ni e5 (z := 5) (by decide); have q6 := am_ni e6 (z := 6) (by decide); omega) (by decide) ?_
  refine g_iconst (pc := 60) (x := 0) d_Mod_wordsOf_60 (by decide) ?_
  exact g_iret (pc := 61) d_Mod_wordsOf_61 rfl (Nat.le_refl _) (Nat.le_refl _)
abbrev c_Mod_placeWords : gC := (m_Mod_placeWords, 1, 0, 0, none, 0, 0)
def fn_Mod_placeWords_22 : Nat → Nat → Int32 → fm_I → pR
  | 0, _, _, _ => none
  | n + 1, a0, a1, I => gi 1 a0 8 I (fun v1 => (if v1 ≤ a1 then (rv I) else gr 1 a0 3 (fun v2 => ld 0 v2 a1 I (fun v3 => gr 1 a0 4 (fun v4 => gr 1 a0 6 (fun v5 => ld 0 v5 v3 I (fun v6 => sI v4 a1 v6 I (fun J7 => gr 1 a0 6 (fun v8 => ld 0 v8 v3 J7 (fun v9 => vi 1 a0 (fn_Mod_wordsOf a0 a1 J7) (fun v11 J10 => sI v8 v3 (v9 + v11) J10 (fun J12 => (fn_Mod_placeWords_22 n a0 (a1 + 1) J12)))))))))))))
theorem sn_Mod_placeWords_22 (n : Nat) : ∀ (a0 : Nat) (a1 : Int32) (I : fm_I) (L : Nat → Option am_V), L 0 = some (vR a0) → L 1 = some (vI a1) → gW c_Mod_placeWords (fn_Mod_placeWords_22 n a0 a1 I) 22 L [] I := by
  induction n with
  | zero =>
    intro a0 a1 I L h0 h1
    unfold fn_Mod_placeWords_22
    exact g_none
  | succ n ih =>
    intro a0 a1 I L h0 h1
    unfold fn_Mod_placeWords_22
    refine g_iload_n (pc := 22) (x := a1) d_Mod_placeWords_22 rfl h1 ?_
    refine g_aload_n (pc := 23) (x := a0) d_Mod_placeWords_23 rfl h0 ?_
    refine g_gi (pc := 24) d_Mod_placeWords_24 fk_Mod_37 (fun v1 => ?_)
    refine g_icmpge (pc := 27) (tgt := 69) d_Mod_placeWords_27 rfl ?_ ?_
    · exact g_ret (pc := 69) d_Mod_placeWords_69 rfl (Nat.le_refl _) (Nat.le_refl _)
    refine g_aload_n (pc := 30) (x := a0) d_Mod_placeWords_30 rfl h0 ?_
    refine g_gr (pc := 31) d_Mod_placeWords_31 fk_Mod_21 (fun v2 => ?_)
    refine g_iload_n (pc := 34) (x := a1) d_Mod_placeWords_34 rfl h1 ?_
    refine g_ldI (pc := 35) d_Mod_placeWords_35 (fun v3 => ?_)
    refine g_istore_n (pc := 36) (x := v3) d_Mod_placeWords_36 rfl (Nat.le_of_ble_eq_true rfl) ?_
    refine g_aload_n (pc := 37) (x := a0) d_Mod_placeWords_37 rfl h0 ?_
    refine g_gr (pc := 38) d_Mod_placeWords_38 fk_Mod_24 (fun v4 => ?_)
    refine g_iload_n (pc := 41) (x := a1) d_Mod_placeWords_41 rfl h1 ?_
    refine g_aload_n (pc := 42) (x := a0) d_Mod_placeWords_42 rfl h0 ?_
    refine g_gr (pc := 43) d_Mod_placeWords_43 fk_Mod_31 (fun v5 => ?_)
    refine g_iload_n (pc := 46) (x := v3) d_Mod_placeWords_46 rfl rfl ?_
    refine g_ldI (pc := 47) d_Mod_placeWords_47 (fun v6 => ?_)
    refine g_sI (pc := 48) d_Mod_placeWords_48 (fun J7 => ?_)
    refine g_aload_n (pc := 49) (x := a0) d_Mod_placeWords_49 rfl h0 ?_
    refine g_gr (pc := 50) d_Mod_placeWords_50 fk_Mod_31 (fun v8 => ?_)
    refine g_iload_n (pc := 53) (x := v3) d_Mod_placeWords_53 rfl rfl ?_
    refine g_dup2 (pc := 54) d_Mod_placeWords_54 ?_
    refine g_ldI (pc := 55) d_Mod_placeWords_55 (fun v9 => ?_)
    refine g_aload_n (pc := 56) (x := a0) d_Mod_placeWords_56 rfl h0 ?_
    refine g_iload_n (pc := 57) (x := a1) d_Mod_placeWords_57 rfl h1 ?_
    refine g_vi (pc := 58) (rest := [vI v9, vI v3, vR v8]) (sn_Mod_wordsOf a0 a1 J7) rfl rfl d_Mod_placeWords_58 ck_Mod_108 (Nat.le_of_ble_eq_true rfl) (Nat.le_of_ble_eq_true rfl) (Nat.le_refl _) (Nat.le_refl _) (fun v11 J10 => ?_)
    refine g_iadd (pc := 61) d_Mod_placeWords_61 ?_
    refine g_sI (pc := 62) d_Mod_placeWords_62 (fun J12 => ?_)
    refine g_iinc (pc := 63) (x := a1) (w := 1) d_Mod_placeWords_63 h1 (by decide) (Nat.le_of_ble_eq_true rfl) ?_
    refine g_goto (pc := 66) (tgt := 22) d_Mod_placeWords_66 rfl ?_
    exact ih _ _ _ _ h0 rfl
def fn_Mod_placeWords_2 : Nat → Nat → Int32 → fm_I → pR
  | 0, _, _, _ => none
  | n + 1, a0, a1, I => (if 3 ≤ a1 then (fn_Mod_placeWords_22 FU a0 0 I) else gr 1 a0 6 (fun v1 => sI v1 a1 0 I (fun J2 => (fn_Mod_placeWords_2 n a0 (a1 + 1) J2))))
theorem sn_Mod_placeWords_2 (n : Nat) : ∀ (a0 : Nat) (a1 : Int32) (I : fm_I) (L : Nat → Option am_V), L 0 = some (vR a0) → L 1 = some (vI a1) → gW c_Mod_placeWords (fn_Mod_placeWords_2 n a0 a1 I) 2 L [] I := by
  induction n with
  | zero =>
    intro a0 a1 I L h0 h1
    unfold fn_Mod_placeWords_2
    exact g_none
  | succ n ih =>
    intro a0 a1 I L h0 h1
    unfold fn_Mod_placeWords_2
    refine g_iload_n (pc := 2) (x := a1) d_Mod_placeWords_2 rfl h1 ?_
    refine g_iconst (pc := 3) (x := 3) d_Mod_placeWords_3 (by decide) ?_
    refine g_icmpge (pc := 4) (tgt := 20) d_Mod_placeWords_4 rfl ?_ ?_
    · refine g_iconst (pc := 20) (x := 0) d_Mod_placeWords_20 (by decide) ?_
      refine g_istore_n (pc := 21) (x := 0) d_Mod_placeWords_21 rfl (Nat.le_of_ble_eq_true rfl) ?_
      exact sn_Mod_placeWords_22 FU _ _ _ _ h0 rfl
    refine g_aload_n (pc := 7) (x := a0) d_Mod_placeWords_7 rfl h0 ?_
    refine g_gr (pc := 8) d_Mod_placeWords_8 fk_Mod_31 (fun v1 => ?_)
    refine g_iload_n (pc := 11) (x := a1) d_Mod_placeWords_11 rfl h1 ?_
    refine g_iconst (pc := 12) (x := 0) d_Mod_placeWords_12 (by decide) ?_
    refine g_sI (pc := 13) d_Mod_placeWords_13 (fun J2 => ?_)
    refine g_iinc (pc := 14) (x := a1) (w := 1) d_Mod_placeWords_14 h1 (by decide) (Nat.le_of_ble_eq_true rfl) ?_
    refine g_goto (pc := 17) (tgt := 2) d_Mod_placeWords_17 rfl ?_
    exact ih _ _ _ _ h0 rfl
def fn_Mod_placeWords (a0 : Nat) (I : fm_I) : pR := (fn_Mod_placeWords_2 FU a0 0 I)
theorem sn_Mod_placeWords (a0 : Nat) (I : fm_I) : gM m_Mod_placeWords 1 (fn_Mod_placeWords a0 I) [vR a0] I := by
  refine gM_of (by decide) rfl (Nat.le_of_ble_eq_true rfl) ?_
  show gW c_Mod_placeWords _ _ _ _ _
  unfold fn_Mod_placeWords
  refine g_iconst (pc := 0) (x := 0) d_Mod_placeWords_0 (by decide) ?_
  refine g_istore_n (pc := 1) (x := 0) d_Mod_placeWords_1 rfl (Nat.le_of_ble_eq_true rfl) ?_
  exact sn_Mod_placeWords_2 FU _ _ _ _ rfl rfl
abbrev c_Mod_distanceOf : gC := (m_Mod_distanceOf, 0, 0, 0, none, 0, 0)
def fn_Mod_distanceOf (a0 : Nat) (a1 : Int32) (I : fm_I) : pR := gr 1 a0 4 (fun v1 => gr 1 a0 7 (fun v2 => gr 1 a0 1 (fun v3 => ld 0 v3 a1 I (fun v4 => ld 0 v2 v4 I (fun v5 => ld 0 v1 v5 I (fun v6 => gr 1 a0 4 (fun v7 => ld 0 v7 a1 I (fun v8 => (ri ((v6 - v8) - 1) I)))))))))
theorem sn_Mod_distanceOf (a0 : Nat) (a1 : Int32) (I : fm_I) : gM m_Mod_distanceOf 0 (fn_Mod_distanceOf a0 a1 I) [vR a0, vI a1] I := by
  refine gM_of (by decide) rfl (Nat.le_of_ble_eq_true rfl) ?_
  show gW c_Mod_distanceOf _ _ _ _ _
  unfold fn_Mod_distanceOf
  refine g_aload_n (pc := 0) (x := a0) d_Mod_distanceOf_0 rfl rfl ?_
  refine g_gr (pc := 1) d_Mod_distanceOf_1 fk_Mod_24 (fun v1 => ?_)
  refine g_aload_n (pc := 4) (x := a0) d_Mod_distanceOf_4 rfl rfl ?_
  refine g_gr (pc := 5) d_Mod_distanceOf_5 fk_Mod_34 (fun v2 => ?_)
  refine g_aload_n (pc := 8) (x := a0) d_Mod_distanceOf_8 rfl rfl ?_
  refine g_gr (pc := 9) d_Mod_distanceOf_9 fk_Mod_15 (fun v3 => ?_)
  refine g_iload_n (pc := 12) (x := a1) d_Mod_distanceOf_12 rfl rfl ?_
  refine g_ldI (pc := 13) d_Mod_distanceOf_13 (fun v4 => ?_)
  refine g_ldI (pc := 14) d_Mod_distanceOf_14 (fun v5 => ?_)
  refine g_ldI (pc := 15) d_Mod_distanceOf_15 (fun v6 => ?_)
  refine g_aload_n (pc := 16) (x := a0) d_Mod_distanceOf_16 rfl rfl ?_
  refine g_gr (pc := 17) d_Mod_distanceOf_17 fk_Mod_24 (fun v7 => ?_)
  refine g_iload_n (pc := 20) (x := a1) d_Mod_distanceOf_20 rfl rfl ?_
  refine g_ldI (pc := 21) d_Mod_distanceOf_21 (fun v8 => ?_)
  refine g_isub (pc := 22) d_Mod_distanceOf_22 ?_
  refine g_iconst (pc := 23) (x := 1) d_Mod_distanceOf_23 (by decide) ?_
  refine g_isub (pc := 24) d_Mod_distanceOf_24 ?_
  exact g_iret (pc := 25) d_Mod_distanceOf_25 rfl (Nat.le_refl _) (Nat.le_refl _)
abbrev c_Mod_lengthenFarJumps : gC := (m_Mod_lengthenFarJumps, 1, 0, 0, none, 0, 0)
def fn_Mod_lengthenFarJumps_4 : Nat → Nat → Int32 → Int32 → fm_I → pR
  | 0, _, _, _, _ => none
  | n + 1, a0, a1, a2, I => gi 1 a0 8 I (fun v1 => (if v1 ≤ a2 then (rz a1 I) else gr 1 a0 0 (fun v2 => ld 0 v2 a2 I (fun v3 => (if v3 = 6 then gr 1 a0 5 (fun v4 => ld 1 v4 a2 I (fun v5 => (if v5 = 0 then vi 1 a0 (fn_Mod_distanceOf a0 a2 I) (fun v7 J6 => bi (fn_SL_isWithin v7 (-8) 7 J6) (fun v9 J8 => (if v9 = 0 then gr 1 a0 5 (fun v10 => sZ v10 a2 1 J8 (fun J11 => (fn_Mod_lengthenFarJumps_4 n a0 1 (a2 + 1) J11))) else (fn_Mod_lengthenFarJumps_4 n a0 a1 (a2 + 1) J8)))) else (fn_Mod_lengthenFarJumps_4 n a0 a1 (a2 + 1) I)))) else (fn_Mod_lengthenFarJumps_4 n a0 a1 (a2 + 1) I))))))
theorem sn_Mod_lengthenFarJumps_4 (n : Nat) : ∀ (a0 : Nat) (a1 : Int32) (a2 : Int32) (I : fm_I) (L : Nat → Option am_V), L 0 = some (vR a0) → L 1 = some (vI a1) → L 2 = some (vI a2) → gW c_Mod_lengthenFarJumps (fn_Mod_lengthenFarJumps_4 n a0 a1 a2 I) 4 L [] I := by
  induction n with
  | zero =>
    intro a0 a1 a2 I L h0 h1 h2
    unfold fn_Mod_lengthenFarJumps_4
    exact g_none
  | succ n ih =>
    intro a0 a1 a2 I L h0 h1 h2
    unfold fn_Mod_lengthenFarJumps_4
    refine g_iload_n (pc := 4) (x := a2) d_Mod_lengthenFarJumps_4 rfl h2 ?_
    refine g_aload_n (pc := 5) (x := a0) d_Mod_lengthenFarJumps_5 rfl h0 ?_
    refine g_gi (pc := 6) d_Mod_lengthenFarJumps_6 fk_Mod_37 (fun v1 => ?_)
    refine g_icmpge (pc := 9) (tgt := 62) d_Mod_lengthenFarJumps_9 rfl ?_ ?_
    · refine g_iload_n (pc := 62) (x := a1) d_Mod_lengthenFarJumps_62 rfl h1 ?_
      exact g_zret (pc := 63) d_Mod_lengthenFarJumps_63 rfl (Nat.le_refl _) (Nat.le_refl _)
    refine g_aload_n (pc := 12) (x := a0) d_Mod_lengthenFarJumps_12 rfl h0 ?_
    refine g_gr (pc := 13) d_Mod_lengthenFarJumps_13 fk_Mod_9 (fun v2 => ?_)
    refine g_iload_n (pc := 16) (x := a2) d_Mod_lengthenFarJumps_16 rfl h2 ?_
    refine g_ldI (pc := 17) d_Mod_lengthenFarJumps_17 (fun v3 => ?_)
    refine g_bipush (pc := 18) (x := 6) d_Mod_lengthenFarJumps_18 (by decide) ?_
    refine g_icmpne (pc := 20) (tgt := 56) d_Mod_lengthenFarJumps_20 rfl ?_ ?_
    · refine g_iinc (pc := 56) (x := a2) (w := 1) d_Mod_lengthenFarJumps_56 h2 (by decide) (Nat.le_of_ble_eq_true rfl) ?_
      refine g_goto (pc := 59) (tgt := 4) d_Mod_lengthenFarJumps_59 rfl ?_
      exact ih _ _ _ _ _ h0 h1 rfl
    refine g_aload_n (pc := 23) (x := a0) d_Mod_lengthenFarJumps_23 rfl h0 ?_
    refine g_gr (pc := 24) d_Mod_lengthenFarJumps_24 fk_Mod_27 (fun v4 => ?_)
    refine g_iload_n (pc := 27) (x := a2) d_Mod_lengthenFarJumps_27 rfl h2 ?_
    refine g_ldZ (pc := 28) d_Mod_lengthenFarJumps_28 (fun v5 => ?_)
    refine g_ifne (pc := 29) (tgt := 56) d_Mod_lengthenFarJumps_29 rfl ?_ ?_
    · refine g_iinc (pc := 56) (x := a2) (w := 1) d_Mod_lengthenFarJumps_56 h2 (by decide) (Nat.le_of_ble_eq_true rfl) ?_
      refine g_goto (pc := 59) (tgt := 4) d_Mod_lengthenFarJumps_59 rfl ?_
      exact ih _ _ _ _ _ h0 h1 rfl
    refine g_aload_n (pc := 32) (x := a0) d_Mod_lengthenFarJumps_32 rfl h0 ?_
    refine g_iload_n (pc := 33) (x := a2) d_Mod_lengthenFarJumps_33 rfl h2 ?_
    refine g_vi (pc := 34) (rest := []) (sn_Mod_distanceOf a0 a2 I) rfl rfl d_Mod_lengthenFarJumps_34 ck_Mod_111 (Nat.le_of_ble_eq_true rfl) (Nat.le_of_ble_eq_true rfl) (Nat.le_refl _) (Nat.le_refl _) (fun v7 J6 => ?_)
    refine g_bipush (pc := 37) (x := (-8)) d_Mod_lengthenFarJumps_37 (by decide) ?_
    refine g_bipush (pc := 39) (x := 7) d_Mod_lengthenFarJumps_39 (by decide) ?_
    refine g_ni (pc := 41) (rest := []) (sn_SL_isWithin v7 (-8) 7 J6) rfl rfl d_Mod_lengthenFarJumps_41 ck_Mod_88 (Nat.le_of_ble_eq_true rfl) (Nat.le_of_ble_eq_true rfl) (Nat.le_refl _) (Nat.le_refl _) (fun v9 J8 => ?_)
    refine g_ifne (pc := 44) (tgt := 56) d_Mod_lengthenFarJumps_44 rfl ?_ ?_
    · refine g_iinc (pc := 56) (x := a2) (w := 1) d_Mod_lengthenFarJumps_56 h2 (by decide) (Nat.le_of_ble_eq_true rfl) ?_
      refine g_goto (pc := 59) (tgt := 4) d_Mod_lengthenFarJumps_59 rfl ?_
      exact ih _ _ _ _ _ h0 h1 rfl
    refine g_aload_n (pc := 47) (x := a0) d_Mod_lengthenFarJumps_47 rfl h0 ?_
    refine g_gr (pc := 48) d_Mod_lengthenFarJumps_48 fk_Mod_27 (fun v10 => ?_)
    refine g_iload_n (pc := 51) (x := a2) d_Mod_lengthenFarJumps_51 rfl h2 ?_
    refine g_iconst (pc := 52) (x := 1) d_Mod_lengthenFarJumps_52 (by decide) ?_
    refine g_sZ (pc := 53) d_Mod_lengthenFarJumps_53 (fun J11 => ?_)
    refine g_iconst (pc := 54) (x := 1) d_Mod_lengthenFarJumps_54 (by decide) ?_
    refine g_istore_n (pc := 55) (x := 1) d_Mod_lengthenFarJumps_55 rfl (Nat.le_of_ble_eq_true rfl) ?_
    refine g_iinc (pc := 56) (x := a2) (w := 1) d_Mod_lengthenFarJumps_56 h2 (by decide) (Nat.le_of_ble_eq_true rfl) ?_
    refine g_goto (pc := 59) (tgt := 4) d_Mod_lengthenFarJumps_59 rfl ?_
    exact ih _ _ _ _ _ h0 rfl rfl
def fn_Mod_lengthenFarJumps (a0 : Nat) (I : fm_I) : pR := (fn_Mod_lengthenFarJumps_4 FU a0 0 0 I)
theorem sn_Mod_lengthenFarJumps (a0 : Nat) (I : fm_I) : gM m_Mod_lengthenFarJumps 1 (fn_Mod_lengthenFarJumps a0 I) [vR a0] I := by
  refine gM_of (by decide) rfl (Nat.le_of_ble_eq_true rfl) ?_
  show gW c_Mod_lengthenFarJumps _ _ _ _ _
  unfold fn_Mod_lengthenFarJumps
  refine g_iconst (pc := 0) (x := 0) d_Mod_lengthenFarJumps_0 (by decide) ?_
  refine g_istore_n (pc := 1) (x := 0) d_Mod_lengthenFarJumps_1 rfl (Nat.le_of_ble_eq_true rfl) ?_
  refine g_iconst (pc := 2) (x := 0) d_Mod_lengthenFarJumps_2 (by decide) ?_
  refine g_istore_n (pc := 3) (x := 0) d_Mod_lengthenFarJumps_3 rfl (Nat.le_of_ble_eq_true rfl) ?_
  exact sn_Mod_lengthenFarJumps_4 FU _ _ _ _ _ rfl rfl rfl
abbrev c_Mod_settleJumps : gC := (m_Mod_settleJumps, 2, 0, 0, none, 0, 0)
def fn_Mod_settleJumps_52 : Nat → Nat → Int32 → fm_I → pR
  | 0, _, _, _ => none
  | n + 1, a0, a1, I => (if 20 ≤ a1 then (rv I) else vi 1 a0 (fn_Mod_lengthenFarJumps a0 I) (fun v2 J1 => (if v2 = 0 then (rv J1) else vv 1 a0 (fn_Mod_placeWords a0 J1) (fun J3 => (fn_Mod_settleJumps_52 n a0 (a1 + 1) J3)))))
theorem sn_Mod_settleJumps_52 (n : Nat) : ∀ (a0 : Nat) (a1 : Int32) (I : fm_I) (L : Nat → Option am_V), L 0 = some (vR a0) → L 1 = some (vI a1) → gW c_Mod_settleJumps (fn_Mod_settleJumps_52 n a0 a1 I) 52 L [] I := by
  induction n with
  | zero =>
    intro a0 a1 I L h0 h1
    unfold fn_Mod_settleJumps_52
    exact g_none
  | succ n ih =>
    intro a0 a1 I L h0 h1
    unfold fn_Mod_settleJumps_52
    refine g_iload_n (pc := 52) (x := a1) d_Mod_settleJumps_52 rfl h1 ?_
    refine g_bipush (pc := 53) (x := 20) d_Mod_settleJumps_53 (by decide) ?_
    refine g_icmpge (pc := 55) (tgt := 76) d_Mod_settleJumps_55 rfl ?_ ?_
    · exact g_ret (pc := 76) d_Mod_settleJumps_76 rfl (Nat.le_refl _) (Nat.le_refl _)
    refine g_aload_n (pc := 58) (x := a0) d_Mod_settleJumps_58 rfl h0 ?_
    refine g_vi (pc := 59) (rest := []) (sn_Mod_lengthenFarJumps a0 I) rfl rfl d_Mod_settleJumps_59 ck_Mod_104 (Nat.le_of_ble_eq_true rfl) (Nat.le_of_ble_eq_true rfl) (Nat.le_refl _) (Nat.le_refl _) (fun v2 J1 => ?_)
    refine g_ifne (pc := 62) (tgt := 66) d_Mod_settleJumps_62 rfl ?_ ?_
    · refine g_aload_n (pc := 66) (x := a0) d_Mod_settleJumps_66 rfl h0 ?_
      refine g_vv (pc := 67) (rest := []) (sn_Mod_placeWords a0 J1) rfl rfl d_Mod_settleJumps_67 ck_Mod_101 (Nat.le_of_ble_eq_true rfl) (Nat.le_of_ble_eq_true rfl) (Nat.le_refl _) (Nat.le_refl _) (fun J3 => ?_)
      refine g_iinc (pc := 70) (x := a1) (w := 1) d_Mod_settleJumps_70 h1 (by decide) (Nat.le_of_ble_eq_true rfl) ?_
      refine g_goto (pc := 73) (tgt := 52) d_Mod_settleJumps_73 rfl ?_
      exact ih _ _ _ _ h0 rfl
    exact g_ret (pc := 65) d_Mod_settleJumps_65 rfl (Nat.le_refl _) (Nat.le_refl _)
def fn_Mod_settleJumps_2 : Nat → Nat → Int32 → fm_I → pR
  | 0, _, _, _ => none
  | n + 1, a0, a1, I => gi 1 a0 8 I (fun v1 => (if v1 ≤ a1 then vv 1 a0 (fn_Mod_placeWords a0 I) (fun J2 => (fn_Mod_settleJumps_52 FU a0 0 J2)) else gr 1 a0 5 (fun v3 => gr 1 a0 0 (fun v4 => ld 0 v4 a1 I (fun v5 => (if v5 = 6 then vi 1 a0 (fn_Mod_aimsAtOwnText a0 a1 I) (fun v8 J7 => (if v8 = 0 then sZ v3 a1 1 J7 (fun J10 => (fn_Mod_settleJumps_2 n a0 (a1 + 1) J10)) else sZ v3 a1 0 J7 (fun J9 => (fn_Mod_settleJumps_2 n a0 (a1 + 1) J9)))) else sZ v3 a1 0 I (fun J6 => (fn_Mod_settleJumps_2 n a0 (a1 + 1) J6))))))))
theorem sn_Mod_settleJumps_2 (n : Nat) : ∀ (a0 : Nat) (a1 : Int32) (I : fm_I) (L : Nat → Option am_V), L 0 = some (vR a0) → L 1 = some (vI a1) → gW c_Mod_settleJumps (fn_Mod_settleJumps_2 n a0 a1 I) 2 L [] I := by
  induction n with
  | zero =>
    intro a0 a1 I L h0 h1
    unfold fn_Mod_settleJumps_2
    exact g_none
  | succ n ih =>
    intro a0 a1 I L h0 h1
    unfold fn_Mod_settleJumps_2
    refine g_iload_n (pc := 2) (x := a1) d_Mod_settleJumps_2 rfl h1 ?_
    refine g_aload_n (pc := 3) (x := a0) d_Mod_settleJumps_3 rfl h0 ?_
    refine g_gi (pc := 4) d_Mod_settleJumps_4 fk_Mod_37 (fun v1 => ?_)
    refine g_icmpge (pc := 7) (tgt := 46) d_Mod_settleJumps_7 rfl ?_ ?_
    · refine g_aload_n (pc := 46) (x := a0) d_Mod_settleJumps_46 rfl h0 ?_
      refine g_vv (pc := 47) (rest := []) (sn_Mod_placeWords a0 I) rfl rfl d_Mod_settleJumps_47 ck_Mod_101 (Nat.le_of_ble_eq_true rfl) (Nat.le_of_ble_eq_true rfl) (Nat.le_refl _) (Nat.le_refl _) (fun J2 => ?_)
      refine g_iconst (pc := 50) (x := 0) d_Mod_settleJumps_50 (by decide) ?_
      refine g_istore_n (pc := 51) (x := 0) d_Mod_settleJumps_51 rfl (Nat.le_of_ble_eq_true rfl) ?_
      exact sn_Mod_settleJumps_52 FU _ _ _ _ h0 rfl
    refine g_aload_n (pc := 10) (x := a0) d_Mod_settleJumps_10 rfl h0 ?_
    refine g_gr (pc := 11) d_Mod_settleJumps_11 fk_Mod_27 (fun v3 => ?_)
    refine g_iload_n (pc := 14) (x := a1) d_Mod_settleJumps_14 rfl h1 ?_
    refine g_aload_n (pc := 15) (x := a0) d_Mod_settleJumps_15 rfl h0 ?_
    refine g_gr (pc := 16) d_Mod_settleJumps_16 fk_Mod_9 (fun v4 => ?_)
    refine g_iload_n (pc := 19) (x := a1) d_Mod_settleJumps_19 rfl h1 ?_
    refine g_ldI (pc := 20) d_Mod_settleJumps_20 (fun v5 => ?_)
    refine g_bipush (pc := 21) (x := 6) d_Mod_settleJumps_21 (by decide) ?_
    refine g_icmpne (pc := 23) (tgt := 38) d_Mod_settleJumps_23 rfl ?_ ?_
    · refine g_iconst (pc := 38) (x := 0) d_Mod_settleJumps_38 (by decide) ?_
      refine g_sZ (pc := 39) d_Mod_settleJumps_39 (fun J6 => ?_)
      refine g_iinc (pc := 40) (x := a1) (w := 1) d_Mod_settleJumps_40 h1 (by decide) (Nat.le_of_ble_eq_true rfl) ?_
      refine g_goto (pc := 43) (tgt := 2) d_Mod_settleJumps_43 rfl ?_
      exact ih _ _ _ _ h0 rfl
    refine g_aload_n (pc := 26) (x := a0) d_Mod_settleJumps_26 rfl h0 ?_
    refine g_iload_n (pc := 27) (x := a1) d_Mod_settleJumps_27 rfl h1 ?_
    refine g_vi (pc := 28) (rest := [vI a1, vR v3]) (sn_Mod_aimsAtOwnText a0 a1 I) rfl rfl d_Mod_settleJumps_28 ck_Mod_98 (Nat.le_of_ble_eq_true rfl) (Nat.le_of_ble_eq_true rfl) (Nat.le_refl _) (Nat.le_refl _) (fun v8 J7 => ?_)
    refine g_ifne (pc := 31) (tgt := 38) d_Mod_settleJumps_31 rfl ?_ ?_
    · refine g_iconst (pc := 38) (x := 0) d_Mod_settleJumps_38 (by decide) ?_
      refine g_sZ (pc := 39) d_Mod_settleJumps_39 (fun J9 => ?_)
      refine g_iinc (pc := 40) (x := a1) (w := 1) d_Mod_settleJumps_40 h1 (by decide) (Nat.le_of_ble_eq_true rfl) ?_
      refine g_goto (pc := 43) (tgt := 2) d_Mod_settleJumps_43 rfl ?_
      exact ih _ _ _ _ h0 rfl
    refine g_iconst (pc := 34) (x := 1) d_Mod_settleJumps_34 (by decide) ?_
    refine g_goto (pc := 35) (tgt := 39) d_Mod_settleJumps_35 rfl ?_
    refine g_sZ (pc := 39) d_Mod_settleJumps_39 (fun J10 => ?_)
    refine g_iinc (pc := 40) (x := a1) (w := 1) d_Mod_settleJumps_40 h1 (by decide) (Nat.le_of_ble_eq_true rfl) ?_
    refine g_goto (pc := 43) (tgt := 2) d_Mod_settleJumps_43 rfl ?_
    exact ih _ _ _ _ h0 rfl
def fn_Mod_settleJumps (a0 : Nat) (I : fm_I) : pR := (fn_Mod_settleJumps_2 FU a0 0 I)
theorem sn_Mod_settleJumps (a0 : Nat) (I : fm_I) : gM m_Mod_settleJumps 2 (fn_Mod_settleJumps a0 I) [vR a0] I := by
  refine gM_of (by decide) rfl (Nat.le_of_ble_eq_true rfl) ?_
  show gW c_Mod_settleJumps _ _ _ _ _
  unfold fn_Mod_settleJumps
  refine g_iconst (pc := 0) (x := 0) d_Mod_settleJumps_0 (by decide) ?_
  refine g_istore_n (pc := 1) (x := 0) d_Mod_settleJumps_1 rfl (Nat.le_of_ble_eq_true rfl) ?_
  exact sn_Mod_settleJumps_2 FU _ _ _ _ rfl rfl
abbrev c_Mod_append : gC := (m_Mod_append, 3, 0, 0, none, 0, 0)
def fn_Mod_append_13 (a0 : Nat) (a1 : Int32) (a2 : Int32) (a3 : Int32) (t0 : Int32) (I : fm_I) : pR := gr 1 a0 0 (fun v1 => gi 1 a0 8 I (fun v2 => sI v1 v2 a1 I (fun J3 => gr 1 a0 1 (fun v4 => gi 1 a0 8 J3 (fun v5 => sI v4 v5 a2 J3 (fun J6 => gr 1 a0 2 (fun v7 => gi 1 a0 8 J6 (fun v8 => sI v7 v8 a3 J6 (fun J9 => gr 1 a0 3 (fun v10 => gi 1 a0 8 J9 (fun v11 => sI v10 v11 t0 J9 (fun J12 => vv 1 a0 (fn_Mod_noteName a0 a1 a2 J12) (fun J13 => gi 1 a0 8 J13 (fun v14 => pI 1 a0 8 (v14 + 1) J13 (fun J15 => vv 1 a0 (fn_Mod_settleJumps a0 J15) (fun J16 => (rv J16)))))))))))))))))
theorem sn_Mod_append_13 : ∀ (a0 : Nat) (a1 : Int32) (a2 : Int32) (a3 : Int32) (t0 : Int32) (I : fm_I) (L : Nat → Option am_V), L 0 = some (vR a0) → L 1 = some (vI a1) → L 2 = some (vI a2) → L 3 = some (vI a3) → gW c_Mod_append (fn_Mod_append_13 a0 a1 a2 a3 t0 I) 13 L [vI t0] I := by
  intro a0 a1 a2 a3 t0 I L h0 h1 h2 h3
  unfold fn_Mod_append_13
  refine g_istore (pc := 13) (x := t0) d_Mod_append_13 (Nat.le_of_ble_eq_true rfl) ?_
  refine g_aload_n (pc := 15) (x := a0) d_Mod_append_15 rfl h0 ?_
  refine g_gr (pc := 16) d_Mod_append_16 fk_Mod_9 (fun v1 => ?_)
  refine g_aload_n (pc := 19) (x := a0) d_Mod_append_19 rfl h0 ?_
  refine g_gi (pc := 20) d_Mod_append_20 fk_Mod_37 (fun v2 => ?_)
  refine g_iload_n (pc := 23) (x := a1) d_Mod_append_23 rfl h1 ?_
  refine g_sI (pc := 24) d_Mod_append_24 (fun J3 => ?_)
  refine g_aload_n (pc := 25) (x := a0) d_Mod_append_25 rfl h0 ?_
  refine g_gr (pc := 26) d_Mod_append_26 fk_Mod_15 (fun v4 => ?_)
  refine g_aload_n (pc := 29) (x := a0) d_Mod_append_29 rfl h0 ?_
  refine g_gi (pc := 30) d_Mod_append_30 fk_Mod_37 (fun v5 => ?_)
  refine g_iload_n (pc := 33) (x := a2) d_Mod_append_33 rfl h2 ?_
  refine g_sI (pc := 34) d_Mod_append_34 (fun J6 => ?_)
  refine g_aload_n (pc := 35) (x := a0) d_Mod_append_35 rfl h0 ?_
  refine g_gr (pc := 36) d_Mod_append_36 fk_Mod_18 (fun v7 => ?_)
  refine g_aload_n (pc := 39) (x := a0) d_Mod_append_39 rfl h0 ?_
  refine g_gi (pc := 40) d_Mod_append_40 fk_Mod_37 (fun v8 => ?_)
  refine g_iload_n (pc := 43) (x := a3) d_Mod_append_43 rfl h3 ?_
  refine g_sI (pc := 44) d_Mod_append_44 (fun J9 => ?_)
  refine g_aload_n (pc := 45) (x := a0) d_Mod_append_45 rfl h0 ?_
  refine g_gr (pc := 46) d_Mod_append_46 fk_Mod_21 (fun v10 => ?_)
  refine g_aload_n (pc := 49) (x := a0) d_Mod_append_49 rfl h0 ?_
  refine g_gi (pc := 50) d_Mod_append_50 fk_Mod_37 (fun v11 => ?_)
  refine g_iload (pc := 53) (x := t0) d_Mod_append_53 rfl ?_
  refine g_sI (pc := 55) d_Mod_append_55 (fun J12 => ?_)
  refine g_aload_n (pc := 56) (x := a0) d_Mod_append_56 rfl h0 ?_
  refine g_iload_n (pc := 57) (x := a1) d_Mod_append_57 rfl h1 ?_
  refine g_iload_n (pc := 58) (x := a2) d_Mod_append_58 rfl h2 ?_
  refine g_vv (pc := 59) (rest := []) (sn_Mod_noteName a0 a1 a2 J12) rfl rfl d_Mod_append_59 ck_Mod_57 (Nat.le_of_ble_eq_true rfl) (Nat.le_of_ble_eq_true rfl) (Nat.le_refl _) (Nat.le_refl _) (fun J13 => ?_)
  refine g_aload_n (pc := 62) (x := a0) d_Mod_append_62 rfl h0 ?_
  refine g_dup (pc := 63) d_Mod_append_63 ?_
  refine g_gi (pc := 64) d_Mod_append_64 fk_Mod_37 (fun v14 => ?_)
  refine g_iconst (pc := 67) (x := 1) d_Mod_append_67 (by decide) ?_
  refine g_iadd (pc := 68) d_Mod_append_68 ?_
  refine g_pI (pc := 69) d_Mod_append_69 fp_Mod_37 (fun J15 => ?_)
  refine g_aload_n (pc := 72) (x := a0) d_Mod_append_72 rfl h0 ?_
  refine g_vv (pc := 73) (rest := []) (sn_Mod_settleJumps a0 J15) rfl rfl d_Mod_append_73 ck_Mod_61 (Nat.le_of_ble_eq_true rfl) (Nat.le_of_ble_eq_true rfl) (Nat.le_refl _) (Nat.le_refl _) (fun J16 => ?_)
  exact g_ret (pc := 76) d_Mod_append_76 rfl (Nat.le_refl _) (Nat.le_refl _)
def fn_Mod_append (a0 : Nat) (a1 : Int32) (a2 : Int32) (a3 : Int32) (I : fm_I) : pR := (if a1 = 2 then (fn_Mod_append_13 a0 a1 a2 a3 a2 I) else vi 1 a0 (fn_Mod_currentSection a0 I) (fun v2 J1 => (fn_Mod_append_13 a0 a1 a2 a3 v2 J1)))
theorem sn_Mod_append (a0 : Nat) (a1 : Int32) (a2 : Int32) (a3 : Int32) (I : fm_I) : gM m_Mod_append 3 (fn_Mod_append a0 a1 a2 a3 I) [vR a0, vI a1, vI a2, vI a3] I := by
  refine gM_of (by decide) rfl (Nat.le_of_ble_eq_true rfl) ?_
  show gW c_Mod_append _ _ _ _ _
  unfold fn_Mod_append
  refine g_iload_n (pc := 0) (x := a1) d_Mod_append_0 rfl rfl ?_
  refine g_iconst (pc := 1) (x := 2) d_Mod_append_1 (by decide) ?_
  refine g_icmpne (pc := 2) (tgt := 9) d_Mod_append_2 rfl ?_ ?_
  · refine g_aload_n (pc := 9) (x := a0) d_Mod_append_9 rfl rfl ?_
    refine g_vi (pc := 10) (rest := []) (sn_Mod_currentSection a0 I) rfl rfl d_Mod_append_10 ck_Mod_53 (Nat.le_of_ble_eq_true rfl) (Nat.le_of_ble_eq_true rfl) (Nat.le_refl _) (Nat.le_refl _) (fun v2 J1 => ?_)
    exact sn_Mod_append_13 _ _ _ _ _ _ _ rfl rfl rfl rfl
  refine g_iload_n (pc := 5) (x := a2) d_Mod_append_5 rfl rfl ?_
  refine g_goto (pc := 6) (tgt := 13) d_Mod_append_6 rfl ?_
  exact sn_Mod_append_13 _ _ _ _ _ _ _ rfl rfl rfl rfl
abbrev c_SL_add : gC := (m_SL_add, 4, 0, 0, none, 0, 0)
def fn_SL_add (a0 : Nat) (a1 : Int32) (a2 : Int32) (a3 : Int32) (a4 : Int32) (I : fm_I) : pR := bi (fn_SL_isModule a1 I) (fun v2 J1 => (if v2 = 0 then (rz 0 J1) else gr 0 a0 0 (fun v3 => la 2 v3 a1 (fun v4 => vi 1 v4 (fn_Mod_accepts v4 a2 a3 a4 J1) (fun v6 J5 => (if v6 = 0 then (rz 0 J5) else gr 0 a0 0 (fun v7 => la 2 v7 a1 (fun v8 => vv 1 v8 (fn_Mod_append v8 a2 a3 a4 J5) (fun J9 => (rz 1 J9))))))))))
theorem sn_SL_add (a0 : Nat) (a1 : Int32) (a2 : Int32) (a3 : Int32) (a4 : Int32) (I : fm_I) : gM m_SL_add 4 (fn_SL_add a0 a1 a2 a3 a4 I) [vR a0, vI a1, vI a2, vI a3, vI a4] I := by
  refine gM_of (by decide) rfl (Nat.le_of_ble_eq_true rfl) ?_
  show gW c_SL_add _ _ _ _ _
  unfold fn_SL_add
  refine g_iload_n (pc := 0) (x := a1) d_SL_add_0 rfl rfl ?_
  refine g_si (pc := 1) (rest := []) (sn_SL_isModule a1 I) rfl rfl d_SL_add_1 ck_SL_54 (Nat.le_of_ble_eq_true rfl) (Nat.le_of_ble_eq_true rfl) (Nat.le_refl _) (Nat.le_refl _) (fun v2 J1 => ?_)
  refine g_ifeq (pc := 4) (tgt := 23) d_SL_add_4 rfl ?_ ?_
  · refine g_iconst (pc := 23) (x := 0) d_SL_add_23 (by decide) ?_
    exact g_zret (pc := 24) d_SL_add_24 rfl (Nat.le_refl _) (Nat.le_refl _)
  refine g_aload_n (pc := 7) (x := a0) d_SL_add_7 rfl rfl ?_
  refine g_gr (pc := 8) d_SL_add_8 fk_SL_18 (fun v3 => ?_)
  refine g_iload_n (pc := 11) (x := a1) d_SL_add_11 rfl rfl ?_
  refine g_la2 (pc := 12) d_SL_add_12 (fun v4 => ?_)
  refine g_iload_n (pc := 13) (x := a2) d_SL_add_13 rfl rfl ?_
  refine g_iload_n (pc := 14) (x := a3) d_SL_add_14 rfl rfl ?_
  refine g_iload (pc := 15) (x := a4) d_SL_add_15 rfl ?_
  refine g_vi (pc := 17) (rest := []) (sn_Mod_accepts v4 a2 a3 a4 J1) rfl rfl d_SL_add_17 ck_SL_58 (Nat.le_of_ble_eq_true rfl) (Nat.le_of_ble_eq_true rfl) (Nat.le_refl _) (Nat.le_refl _) (fun v6 J5 => ?_)
  refine g_ifne (pc := 20) (tgt := 25) d_SL_add_20 rfl ?_ ?_
  · refine g_aload_n (pc := 25) (x := a0) d_SL_add_25 rfl rfl ?_
    refine g_gr (pc := 26) d_SL_add_26 fk_SL_18 (fun v7 => ?_)
    refine g_iload_n (pc := 29) (x := a1) d_SL_add_29 rfl rfl ?_
    refine g_la2 (pc := 30) d_SL_add_30 (fun v8 => ?_)
    refine g_iload_n (pc := 31) (x := a2) d_SL_add_31 rfl rfl ?_
    refine g_iload_n (pc := 32) (x := a3) d_SL_add_32 rfl rfl ?_
    refine g_iload (pc := 33) (x := a4) d_SL_add_33 rfl ?_
    refine g_vv (pc := 35) (rest := []) (sn_Mod_append v8 a2 a3 a4 J5) rfl rfl d_SL_add_35 ck_SL_64 (Nat.le_of_ble_eq_true rfl) (Nat.le_of_ble_eq_true rfl) (Nat.le_refl _) (Nat.le_refl _) (fun J9 => ?_)
    refine g_iconst (pc := 38) (x := 1) d_SL_add_38 (by decide) ?_
    exact g_zret (pc := 39) d_SL_add_39 rfl (Nat.le_refl _) (Nat.le_refl _)
  refine g_iconst (pc := 23) (x := 0) d_SL_add_23 (by decide) ?_
  exact g_zret (pc := 24) d_SL_add_24 rfl (Nat.le_refl _) (Nat.le_refl _)
abbrev c_Mod_takeAllAway : gC := (m_Mod_takeAllAway, 3, 0, 0, none, 0, 0)
def fn_Mod_takeAllAway (a0 : Nat) (I : fm_I) : pR := gi 1 a0 8 I (fun v1 => pI 1 a0 8 0 I (fun J2 => pI 1 a0 9 0 J2 (fun J3 => pI 1 a0 10 0 J3 (fun J4 => pI 1 a0 11 0 J4 (fun J5 => pI 1 a0 12 0 J5 (fun J6 => vv 1 a0 (fn_Mod_settleJumps a0 J6) (fun J7 => (ri v1 J7))))))))
theorem sn_Mod_takeAllAway (a0 : Nat) (I : fm_I) : gM m_Mod_takeAllAway 3 (fn_Mod_takeAllAway a0 I) [vR a0] I := by
  refine gM_of (by decide) rfl (Nat.le_of_ble_eq_true rfl) ?_
  show gW c_Mod_takeAllAway _ _ _ _ _
  unfold fn_Mod_takeAllAway
  refine g_aload_n (pc := 0) (x := a0) d_Mod_takeAllAway_0 rfl rfl ?_
  refine g_gi (pc := 1) d_Mod_takeAllAway_1 fk_Mod_37 (fun v1 => ?_)
  refine g_istore_n (pc := 4) (x := v1) d_Mod_takeAllAway_4 rfl (Nat.le_of_ble_eq_true rfl) ?_
  refine g_aload_n (pc := 5) (x := a0) d_Mod_takeAllAway_5 rfl rfl ?_
  refine g_iconst (pc := 6) (x := 0) d_Mod_takeAllAway_6 (by decide) ?_
  refine g_pI (pc := 7) d_Mod_takeAllAway_7 fp_Mod_37 (fun J2 => ?_)
  refine g_aload_n (pc := 10) (x := a0) d_Mod_takeAllAway_10 rfl rfl ?_
  refine g_iconst (pc := 11) (x := 0) d_Mod_takeAllAway_11 (by decide) ?_
  refine g_pI (pc := 12) d_Mod_takeAllAway_12 fp_Mod_64 (fun J3 => ?_)
  refine g_aload_n (pc := 15) (x := a0) d_Mod_takeAllAway_15 rfl rfl ?_
  refine g_iconst (pc := 16) (x := 0) d_Mod_takeAllAway_16 (by decide) ?_
  refine g_pI (pc := 17) d_Mod_takeAllAway_17 fp_Mod_67 (fun J4 => ?_)
  refine g_aload_n (pc := 20) (x := a0) d_Mod_takeAllAway_20 rfl rfl ?_
  refine g_iconst (pc := 21) (x := 0) d_Mod_takeAllAway_21 (by decide) ?_
  refine g_pI (pc := 22) d_Mod_takeAllAway_22 fp_Mod_70 (fun J5 => ?_)
  refine g_aload_n (pc := 25) (x := a0) d_Mod_takeAllAway_25 rfl rfl ?_
  refine g_iconst (pc := 26) (x := 0) d_Mod_takeAllAway_26 (by decide) ?_
  refine g_pI (pc := 27) d_Mod_takeAllAway_27 fp_Mod_73 (fun J6 => ?_)
  refine g_aload_n (pc := 30) (x := a0) d_Mod_takeAllAway_30 rfl rfl ?_
  refine g_vv (pc := 31) (rest := []) (sn_Mod_settleJumps a0 J6) rfl rfl d_Mod_takeAllAway_31 ck_Mod_61 (Nat.le_of_ble_eq_true rfl) (Nat.le_of_ble_eq_true rfl) (Nat.le_refl _) (Nat.le_refl _) (fun J7 => ?_)
  refine g_iload_n (pc := 34) (x := v1) d_Mod_takeAllAway_34 rfl rfl ?_
  exact g_iret (pc := 35) d_Mod_takeAllAway_35 rfl (Nat.le_refl _) (Nat.le_refl _)
abbrev c_SL_clear : gC := (m_SL_clear, 4, 0, 0, none, 0, 0)
def fn_SL_clear (a0 : Nat) (a1 : Int32) (I : fm_I) : pR := bi (fn_SL_isModule a1 I) (fun v2 J1 => (if v2 = 0 then (ri (-1) J1) else gr 0 a0 0 (fun v3 => la 2 v3 a1 (fun v4 => vi 1 v4 (fn_Mod_takeAllAway v4 J1) (fun v6 J5 => (ri v6 J5))))))
theorem sn_SL_clear (a0 : Nat) (a1 : Int32) (I : fm_I) : gM m_SL_clear 4 (fn_SL_clear a0 a1 I) [vR a0, vI a1] I := by
  refine gM_of (by decide) rfl (Nat.le_of_ble_eq_true rfl) ?_
  show gW c_SL_clear _ _ _ _ _
  unfold fn_SL_clear
  refine g_iload_n (pc := 0) (x := a1) d_SL_clear_0 rfl rfl ?_
  refine g_si (pc := 1) (rest := []) (sn_SL_isModule a1 I) rfl rfl d_SL_clear_1 ck_SL_54 (Nat.le_of_ble_eq_true rfl) (Nat.le_of_ble_eq_true rfl) (Nat.le_refl _) (Nat.le_refl _) (fun v2 J1 => ?_)
  refine g_ifeq (pc := 4) (tgt := 19) d_SL_clear_4 rfl ?_ ?_
  · refine g_iconst (pc := 19) (x := (-1)) d_SL_clear_19 (by decide) ?_
    exact g_iret (pc := 20) d_SL_clear_20 rfl (Nat.le_refl _) (Nat.le_refl _)
  refine g_aload_n (pc := 7) (x := a0) d_SL_clear_7 rfl rfl ?_
  refine g_gr (pc := 8) d_SL_clear_8 fk_SL_18 (fun v3 => ?_)
  refine g_iload_n (pc := 11) (x := a1) d_SL_clear_11 rfl rfl ?_
  refine g_la2 (pc := 12) d_SL_clear_12 (fun v4 => ?_)
  refine g_vi (pc := 13) (rest := []) (sn_Mod_takeAllAway v4 J1) rfl rfl d_SL_clear_13 ck_SL_68 (Nat.le_of_ble_eq_true rfl) (Nat.le_of_ble_eq_true rfl) (Nat.le_refl _) (Nat.le_refl _) (fun v6 J5 => ?_)
  refine g_goto (pc := 16) (tgt := 20) d_SL_clear_16 rfl ?_
  exact g_iret (pc := 20) d_SL_clear_20 rfl (Nat.le_refl _) (Nat.le_refl _)
end
