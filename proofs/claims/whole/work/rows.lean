section
-- ===== PART A: goes FIRST, ahead of the names: the tables' words, and 'selects' of the private methods out of them =====
/-- a private method of a class that the tables say can be made, by its rows of tables_1 -/
def lw_okq (q : MethodName × Nat) : Prop := (q.1.cls ≠ "java/lang/invoke/MethodHandle" ∧ q.1.cls ≠ "java/lang/invoke/VarHandle") ∧ Cond.instantiable q.1.cls q.2 ∈ tables_1 ∧ Cond.privateMethod q.1 ∈ tables_1 ∧ Cond.instanceMethod q.1 ∈ tables_1
theorem lw_p0 : lw_okq (⟨"HamperDays$Tape", "takeToken", "()Z"⟩, 10) := ⟨⟨by decide +kernel, by decide +kernel⟩, List.mem_of_getElem? (i := 93) (by decide +kernel), List.mem_of_getElem? (i := 235) (by decide +kernel), List.mem_of_getElem? (i := 236) (by decide +kernel)⟩
theorem lw_p1 : lw_okq (⟨"HamperDays$Tape", "sortAt", "(I)I"⟩, 10) := ⟨⟨by decide +kernel, by decide +kernel⟩, List.mem_of_getElem? (i := 93) (by decide +kernel), List.mem_of_getElem? (i := 239) (by decide +kernel), List.mem_of_getElem? (i := 240) (by decide +kernel)⟩
theorem lw_p2 : lw_okq (⟨"HamperDays$Tape", "refuse", "(I)Z"⟩, 10) := ⟨⟨by decide +kernel, by decide +kernel⟩, List.mem_of_getElem? (i := 93) (by decide +kernel), List.mem_of_getElem? (i := 243) (by decide +kernel), List.mem_of_getElem? (i := 244) (by decide +kernel)⟩
theorem lw_p3 : lw_okq (⟨"HamperDays$Tape", "tellNumber", "()Z"⟩, 10) := ⟨⟨by decide +kernel, by decide +kernel⟩, List.mem_of_getElem? (i := 93) (by decide +kernel), List.mem_of_getElem? (i := 247) (by decide +kernel), List.mem_of_getElem? (i := 248) (by decide +kernel)⟩
theorem lw_p4 : lw_okq (⟨"HamperDays$Tape", "takeLine", "(LHamperDays$Hamper;)Z"⟩, 10) := ⟨⟨by decide +kernel, by decide +kernel⟩, List.mem_of_getElem? (i := 93) (by decide +kernel), List.mem_of_getElem? (i := 251) (by decide +kernel), List.mem_of_getElem? (i := 252) (by decide +kernel)⟩
theorem lw_p5 : lw_okq (⟨"HamperDays$Tape", "wordTaken", "()I"⟩, 10) := ⟨⟨by decide +kernel, by decide +kernel⟩, List.mem_of_getElem? (i := 93) (by decide +kernel), List.mem_of_getElem? (i := 255) (by decide +kernel), List.mem_of_getElem? (i := 256) (by decide +kernel)⟩
theorem lw_p6 : lw_okq (⟨"HamperDays$Tape", "isWord", "(Ljava/lang/String;)Z"⟩, 10) := ⟨⟨by decide +kernel, by decide +kernel⟩, List.mem_of_getElem? (i := 93) (by decide +kernel), List.mem_of_getElem? (i := 260) (by decide +kernel), List.mem_of_getElem? (i := 261) (by decide +kernel)⟩
theorem lw_p7 : lw_okq (⟨"HamperDays$Tape", "takeMood", "(LHamperDays$Hamper;)Z"⟩, 10) := ⟨⟨by decide +kernel, by decide +kernel⟩, List.mem_of_getElem? (i := 93) (by decide +kernel), List.mem_of_getElem? (i := 317) (by decide +kernel), List.mem_of_getElem? (i := 318) (by decide +kernel)⟩
theorem lw_p8 : lw_okq (⟨"HamperDays$Tape", "takeNumber", "(II)Z"⟩, 10) := ⟨⟨by decide +kernel, by decide +kernel⟩, List.mem_of_getElem? (i := 93) (by decide +kernel), List.mem_of_getElem? (i := 321) (by decide +kernel), List.mem_of_getElem? (i := 322) (by decide +kernel)⟩
theorem lw_p9 : lw_okq (⟨"HamperDays$Tape", "takeStop", "()Z"⟩, 10) := ⟨⟨by decide +kernel, by decide +kernel⟩, List.mem_of_getElem? (i := 93) (by decide +kernel), List.mem_of_getElem? (i := 326) (by decide +kernel), List.mem_of_getElem? (i := 327) (by decide +kernel)⟩
theorem lw_p10 : lw_okq (⟨"HamperDays$Tape", "takeTire", "(LHamperDays$Hamper;)Z"⟩, 10) := ⟨⟨by decide +kernel, by decide +kernel⟩, List.mem_of_getElem? (i := 93) (by decide +kernel), List.mem_of_getElem? (i := 330) (by decide +kernel), List.mem_of_getElem? (i := 331) (by decide +kernel)⟩
theorem lw_p11 : lw_okq (⟨"HamperDays$Tape", "takeThing", "(LHamperDays$Hamper;I)Z"⟩, 10) := ⟨⟨by decide +kernel, by decide +kernel⟩, List.mem_of_getElem? (i := 93) (by decide +kernel), List.mem_of_getElem? (i := 334) (by decide +kernel), List.mem_of_getElem? (i := 335) (by decide +kernel)⟩
theorem lw_p12 : lw_okq (⟨"HamperDays$Hamper", "copyDayOf", "(LHamperDays$Hamper;)V"⟩, 10) := ⟨⟨by decide +kernel, by decide +kernel⟩, List.mem_of_getElem? (i := 24) (by decide +kernel), List.mem_of_getElem? (i := 346) (by decide +kernel), List.mem_of_getElem? (i := 347) (by decide +kernel)⟩
theorem lw_p13 : lw_okq (⟨"HamperDays$Hamper", "copyThing", "(ILHamperDays$Hamper;I)V"⟩, 10) := ⟨⟨by decide +kernel, by decide +kernel⟩, List.mem_of_getElem? (i := 24) (by decide +kernel), List.mem_of_getElem? (i := 350) (by decide +kernel), List.mem_of_getElem? (i := 351) (by decide +kernel)⟩
theorem lw_p14 : lw_okq (⟨"HamperDays", "isThing", "(I)Z"⟩, 10) := ⟨⟨by decide +kernel, by decide +kernel⟩, List.mem_of_getElem? (i := 16) (by decide +kernel), List.mem_of_getElem? (i := 386) (by decide +kernel), List.mem_of_getElem? (i := 387) (by decide +kernel)⟩
theorem lw_p15 : lw_okq (⟨"HamperDays$Hamper", "cheersUnder", "(II)I"⟩, 10) := ⟨⟨by decide +kernel, by decide +kernel⟩, List.mem_of_getElem? (i := 24) (by decide +kernel), List.mem_of_getElem? (i := 396) (by decide +kernel), List.mem_of_getElem? (i := 397) (by decide +kernel)⟩
def lw_privs_1 : List (MethodName × Nat) := [(⟨"HamperDays$Tape", "takeToken", "()Z"⟩, 10), (⟨"HamperDays$Tape", "sortAt", "(I)I"⟩, 10), (⟨"HamperDays$Tape", "refuse", "(I)Z"⟩, 10), (⟨"HamperDays$Tape", "tellNumber", "()Z"⟩, 10), (⟨"HamperDays$Tape", "takeLine", "(LHamperDays$Hamper;)Z"⟩, 10), (⟨"HamperDays$Tape", "wordTaken", "()I"⟩, 10), (⟨"HamperDays$Tape", "isWord", "(Ljava/lang/String;)Z"⟩, 10), (⟨"HamperDays$Tape", "takeMood", "(LHamperDays$Hamper;)Z"⟩, 10), (⟨"HamperDays$Tape", "takeNumber", "(II)Z"⟩, 10), (⟨"HamperDays$Tape", "takeStop", "()Z"⟩, 10), (⟨"HamperDays$Tape", "takeTire", "(LHamperDays$Hamper;)Z"⟩, 10), (⟨"HamperDays$Tape", "takeThing", "(LHamperDays$Hamper;I)Z"⟩, 10), (⟨"HamperDays$Hamper", "copyDayOf", "(LHamperDays$Hamper;)V"⟩, 10), (⟨"HamperDays$Hamper", "copyThing", "(ILHamperDays$Hamper;I)V"⟩, 10), (⟨"HamperDays", "isThing", "(I)Z"⟩, 10), (⟨"HamperDays$Hamper", "cheersUnder", "(II)I"⟩, 10)]
theorem lw_r1 : ∀ q ∈ lw_privs_1, lw_okq q := List.forall_mem_cons.mpr ⟨lw_p0, List.forall_mem_cons.mpr ⟨lw_p1, List.forall_mem_cons.mpr ⟨lw_p2, List.forall_mem_cons.mpr ⟨lw_p3, List.forall_mem_cons.mpr ⟨lw_p4, List.forall_mem_cons.mpr ⟨lw_p5, List.forall_mem_cons.mpr ⟨lw_p6, List.forall_mem_cons.mpr ⟨lw_p7, List.forall_mem_cons.mpr ⟨lw_p8, List.forall_mem_cons.mpr ⟨lw_p9, List.forall_mem_cons.mpr ⟨lw_p10, List.forall_mem_cons.mpr ⟨lw_p11, List.forall_mem_cons.mpr ⟨lw_p12, List.forall_mem_cons.mpr ⟨lw_p13, List.forall_mem_cons.mpr ⟨lw_p14, List.forall_mem_cons.mpr ⟨lw_p15, fun _ h => absurd h List.not_mem_nil⟩⟩⟩⟩⟩⟩⟩⟩⟩⟩⟩⟩⟩⟩⟩⟩
theorem lw_p16 : lw_okq (⟨"HamperDays$Hamper", "lastsOf", "(I)I"⟩, 10) := ⟨⟨by decide +kernel, by decide +kernel⟩, List.mem_of_getElem? (i := 24) (by decide +kernel), List.mem_of_getElem? (i := 463) (by decide +kernel), List.mem_of_getElem? (i := 464) (by decide +kernel)⟩
theorem lw_p17 : lw_okq (⟨"HamperDays", "moodBehind", "(I)I"⟩, 10) := ⟨⟨by decide +kernel, by decide +kernel⟩, List.mem_of_getElem? (i := 16) (by decide +kernel), List.mem_of_getElem? (i := 480) (by decide +kernel), List.mem_of_getElem? (i := 481) (by decide +kernel)⟩
theorem lw_p18 : lw_okq (⟨"HamperDays", "utmostMood", "(IZ)I"⟩, 10) := ⟨⟨by decide +kernel, by decide +kernel⟩, List.mem_of_getElem? (i := 16) (by decide +kernel), List.mem_of_getElem? (i := 484) (by decide +kernel), List.mem_of_getElem? (i := 485) (by decide +kernel)⟩
theorem lw_p19 : lw_okq (⟨"HamperDays", "startTrial", "()V"⟩, 10) := ⟨⟨by decide +kernel, by decide +kernel⟩, List.mem_of_getElem? (i := 16) (by decide +kernel), List.mem_of_getElem? (i := 488) (by decide +kernel), List.mem_of_getElem? (i := 489) (by decide +kernel)⟩
theorem lw_p20 : lw_okq (⟨"HamperDays", "outBehind", "(I)I"⟩, 10) := ⟨⟨by decide +kernel, by decide +kernel⟩, List.mem_of_getElem? (i := 16) (by decide +kernel), List.mem_of_getElem? (i := 496) (by decide +kernel), List.mem_of_getElem? (i := 497) (by decide +kernel)⟩
theorem lw_p21 : lw_okq (⟨"HamperDays", "firstAtZero", "(I)I"⟩, 10) := ⟨⟨by decide +kernel, by decide +kernel⟩, List.mem_of_getElem? (i := 16) (by decide +kernel), List.mem_of_getElem? (i := 500) (by decide +kernel), List.mem_of_getElem? (i := 501) (by decide +kernel)⟩
theorem lw_p22 : lw_okq (⟨"HamperDays", "findBestRow", "()I"⟩, 10) := ⟨⟨by decide +kernel, by decide +kernel⟩, List.mem_of_getElem? (i := 16) (by decide +kernel), List.mem_of_getElem? (i := 520) (by decide +kernel), List.mem_of_getElem? (i := 521) (by decide +kernel)⟩
theorem lw_p23 : lw_okq (⟨"HamperDays", "stepRow", "(I)Z"⟩, 10) := ⟨⟨by decide +kernel, by decide +kernel⟩, List.mem_of_getElem? (i := 16) (by decide +kernel), List.mem_of_getElem? (i := 531) (by decide +kernel), List.mem_of_getElem? (i := 532) (by decide +kernel)⟩
theorem lw_p24 : lw_okq (⟨"HamperDays", "exchangeInRow", "(II)V"⟩, 10) := ⟨⟨by decide +kernel, by decide +kernel⟩, List.mem_of_getElem? (i := 16) (by decide +kernel), List.mem_of_getElem? (i := 535) (by decide +kernel), List.mem_of_getElem? (i := 536) (by decide +kernel)⟩
theorem lw_p25 : lw_okq (⟨"HamperDays", "bestOfOne", "(IIZ)I"⟩, 10) := ⟨⟨by decide +kernel, by decide +kernel⟩, List.mem_of_getElem? (i := 16) (by decide +kernel), List.mem_of_getElem? (i := 543) (by decide +kernel), List.mem_of_getElem? (i := 544) (by decide +kernel)⟩
theorem lw_p26 : lw_okq (⟨"HamperDays", "moodWith", "(IIII)I"⟩, 10) := ⟨⟨by decide +kernel, by decide +kernel⟩, List.mem_of_getElem? (i := 16) (by decide +kernel), List.mem_of_getElem? (i := 580) (by decide +kernel), List.mem_of_getElem? (i := 581) (by decide +kernel)⟩
theorem lw_p27 : lw_okq (⟨"HamperDays", "moodUnderLids", "(II)I"⟩, 10) := ⟨⟨by decide +kernel, by decide +kernel⟩, List.mem_of_getElem? (i := 16) (by decide +kernel), List.mem_of_getElem? (i := 600) (by decide +kernel), List.mem_of_getElem? (i := 601) (by decide +kernel)⟩
theorem lw_p28 : lw_okq (⟨"HamperDays", "traitsAsSeen", "(III)I"⟩, 10) := ⟨⟨by decide +kernel, by decide +kernel⟩, List.mem_of_getElem? (i := 16) (by decide +kernel), List.mem_of_getElem? (i := 630) (by decide +kernel), List.mem_of_getElem? (i := 631) (by decide +kernel)⟩
theorem lw_p29 : lw_okq (⟨"HamperDays", "isAsSeen", "(III)Z"⟩, 10) := ⟨⟨by decide +kernel, by decide +kernel⟩, List.mem_of_getElem? (i := 16) (by decide +kernel), List.mem_of_getElem? (i := 634) (by decide +kernel), List.mem_of_getElem? (i := 635) (by decide +kernel)⟩
theorem lw_p30 : lw_okq (⟨"HamperDays", "fillLooks", "(II)V"⟩, 10) := ⟨⟨by decide +kernel, by decide +kernel⟩, List.mem_of_getElem? (i := 16) (by decide +kernel), List.mem_of_getElem? (i := 646) (by decide +kernel), List.mem_of_getElem? (i := 647) (by decide +kernel)⟩
theorem lw_p31 : lw_okq (⟨"HamperDays", "mostAlike", "(II)I"⟩, 10) := ⟨⟨by decide +kernel, by decide +kernel⟩, List.mem_of_getElem? (i := 16) (by decide +kernel), List.mem_of_getElem? (i := 656) (by decide +kernel), List.mem_of_getElem? (i := 657) (by decide +kernel)⟩
def lw_privs_2 : List (MethodName × Nat) := [(⟨"HamperDays$Hamper", "lastsOf", "(I)I"⟩, 10), (⟨"HamperDays", "moodBehind", "(I)I"⟩, 10), (⟨"HamperDays", "utmostMood", "(IZ)I"⟩, 10), (⟨"HamperDays", "startTrial", "()V"⟩, 10), (⟨"HamperDays", "outBehind", "(I)I"⟩, 10), (⟨"HamperDays", "firstAtZero", "(I)I"⟩, 10), (⟨"HamperDays", "findBestRow", "()I"⟩, 10), (⟨"HamperDays", "stepRow", "(I)Z"⟩, 10), (⟨"HamperDays", "exchangeInRow", "(II)V"⟩, 10), (⟨"HamperDays", "bestOfOne", "(IIZ)I"⟩, 10), (⟨"HamperDays", "moodWith", "(IIII)I"⟩, 10), (⟨"HamperDays", "moodUnderLids", "(II)I"⟩, 10), (⟨"HamperDays", "traitsAsSeen", "(III)I"⟩, 10), (⟨"HamperDays", "isAsSeen", "(III)Z"⟩, 10), (⟨"HamperDays", "fillLooks", "(II)V"⟩, 10), (⟨"HamperDays", "mostAlike", "(II)I"⟩, 10)]
theorem lw_r2 : ∀ q ∈ lw_privs_2, lw_okq q := List.forall_mem_cons.mpr ⟨lw_p16, List.forall_mem_cons.mpr ⟨lw_p17, List.forall_mem_cons.mpr ⟨lw_p18, List.forall_mem_cons.mpr ⟨lw_p19, List.forall_mem_cons.mpr ⟨lw_p20, List.forall_mem_cons.mpr ⟨lw_p21, List.forall_mem_cons.mpr ⟨lw_p22, List.forall_mem_cons.mpr ⟨lw_p23, List.forall_mem_cons.mpr ⟨lw_p24, List.forall_mem_cons.mpr ⟨lw_p25, List.forall_mem_cons.mpr ⟨lw_p26, List.forall_mem_cons.mpr ⟨lw_p27, List.forall_mem_cons.mpr ⟨lw_p28, List.forall_mem_cons.mpr ⟨lw_p29, List.forall_mem_cons.mpr ⟨lw_p30, List.forall_mem_cons.mpr ⟨lw_p31, fun _ h => absurd h List.not_mem_nil⟩⟩⟩⟩⟩⟩⟩⟩⟩⟩⟩⟩⟩⟩⟩⟩
theorem lw_p32 : lw_okq (⟨"HamperDays", "alikeWith", "(III)I"⟩, 10) := ⟨⟨by decide +kernel, by decide +kernel⟩, List.mem_of_getElem? (i := 16) (by decide +kernel), List.mem_of_getElem? (i := 660) (by decide +kernel), List.mem_of_getElem? (i := 661) (by decide +kernel)⟩
theorem lw_p33 : lw_okq (⟨"HamperDays", "imagesMade", "()I"⟩, 10) := ⟨⟨by decide +kernel, by decide +kernel⟩, List.mem_of_getElem? (i := 16) (by decide +kernel), List.mem_of_getElem? (i := 730) (by decide +kernel), List.mem_of_getElem? (i := 731) (by decide +kernel)⟩
theorem lw_p34 : lw_okq (⟨"HamperDaysModel", "firstDraft", "()V"⟩, 28) := ⟨⟨by decide +kernel, by decide +kernel⟩, List.mem_of_getElem? (i := 738) (by decide +kernel), List.mem_of_getElem? (i := 744) (by decide +kernel), List.mem_of_getElem? (i := 745) (by decide +kernel)⟩
theorem lw_p35 : lw_okq (⟨"HamperDaysModel", "keepDraft", "()V"⟩, 28) := ⟨⟨by decide +kernel, by decide +kernel⟩, List.mem_of_getElem? (i := 738) (by decide +kernel), List.mem_of_getElem? (i := 748) (by decide +kernel), List.mem_of_getElem? (i := 749) (by decide +kernel)⟩
theorem lw_p36 : lw_okq (⟨"HamperDaysModel", "reads", "()V"⟩, 28) := ⟨⟨by decide +kernel, by decide +kernel⟩, List.mem_of_getElem? (i := 738) (by decide +kernel), List.mem_of_getElem? (i := 854) (by decide +kernel), List.mem_of_getElem? (i := 855) (by decide +kernel)⟩
theorem lw_p37 : lw_okq (⟨"HamperDaysModel", "byteAt", "(I)I"⟩, 28) := ⟨⟨by decide +kernel, by decide +kernel⟩, List.mem_of_getElem? (i := 738) (by decide +kernel), List.mem_of_getElem? (i := 858) (by decide +kernel), List.mem_of_getElem? (i := 859) (by decide +kernel)⟩
theorem lw_p38 : lw_okq (⟨"HamperDaysModel", "requires", "(ZI)V"⟩, 28) := ⟨⟨by decide +kernel, by decide +kernel⟩, List.mem_of_getElem? (i := 738) (by decide +kernel), List.mem_of_getElem? (i := 866) (by decide +kernel), List.mem_of_getElem? (i := 867) (by decide +kernel)⟩
theorem lw_p39 : lw_okq (⟨"HamperDaysModel", "readLine", "()V"⟩, 28) := ⟨⟨by decide +kernel, by decide +kernel⟩, List.mem_of_getElem? (i := 738) (by decide +kernel), List.mem_of_getElem? (i := 870) (by decide +kernel), List.mem_of_getElem? (i := 871) (by decide +kernel)⟩
theorem lw_p40 : lw_okq (⟨"HamperDaysModel", "lineNow", "()I"⟩, 28) := ⟨⟨by decide +kernel, by decide +kernel⟩, List.mem_of_getElem? (i := 738) (by decide +kernel), List.mem_of_getElem? (i := 874) (by decide +kernel), List.mem_of_getElem? (i := 875) (by decide +kernel)⟩
theorem lw_p41 : lw_okq (⟨"HamperDaysModel", "is", "(IIIII)Z"⟩, 28) := ⟨⟨by decide +kernel, by decide +kernel⟩, List.mem_of_getElem? (i := 738) (by decide +kernel), List.mem_of_getElem? (i := 878) (by decide +kernel), List.mem_of_getElem? (i := 879) (by decide +kernel)⟩
theorem lw_p42 : lw_okq (⟨"HamperDaysModel", "endsIn", "(II)Z"⟩, 28) := ⟨⟨by decide +kernel, by decide +kernel⟩, List.mem_of_getElem? (i := 738) (by decide +kernel), List.mem_of_getElem? (i := 882) (by decide +kernel), List.mem_of_getElem? (i := 883) (by decide +kernel)⟩
theorem lw_p43 : lw_okq (⟨"HamperDaysModel", "readLineOf", "(I)V"⟩, 28) := ⟨⟨by decide +kernel, by decide +kernel⟩, List.mem_of_getElem? (i := 738) (by decide +kernel), List.mem_of_getElem? (i := 886) (by decide +kernel), List.mem_of_getElem? (i := 887) (by decide +kernel)⟩
theorem lw_p44 : lw_okq (⟨"HamperDaysModel", "readNumber", "(II)I"⟩, 28) := ⟨⟨by decide +kernel, by decide +kernel⟩, List.mem_of_getElem? (i := 738) (by decide +kernel), List.mem_of_getElem? (i := 890) (by decide +kernel), List.mem_of_getElem? (i := 891) (by decide +kernel)⟩
theorem lw_p45 : lw_okq (⟨"HamperDaysModel", "starts", "()V"⟩, 28) := ⟨⟨by decide +kernel, by decide +kernel⟩, List.mem_of_getElem? (i := 738) (by decide +kernel), List.mem_of_getElem? (i := 902) (by decide +kernel), List.mem_of_getElem? (i := 903) (by decide +kernel)⟩
theorem lw_p46 : lw_okq (⟨"HamperDaysModel", "isCrushed", "(I)Z"⟩, 28) := ⟨⟨by decide +kernel, by decide +kernel⟩, List.mem_of_getElem? (i := 738) (by decide +kernel), List.mem_of_getElem? (i := 906) (by decide +kernel), List.mem_of_getElem? (i := 907) (by decide +kernel)⟩
theorem lw_p47 : lw_okq (⟨"HamperDaysModel", "laidOn", "(I)I"⟩, 28) := ⟨⟨by decide +kernel, by decide +kernel⟩, List.mem_of_getElem? (i := 738) (by decide +kernel), List.mem_of_getElem? (i := 910) (by decide +kernel), List.mem_of_getElem? (i := 911) (by decide +kernel)⟩
def lw_privs_3 : List (MethodName × Nat) := [(⟨"HamperDays", "alikeWith", "(III)I"⟩, 10), (⟨"HamperDays", "imagesMade", "()I"⟩, 10), (⟨"HamperDaysModel", "firstDraft", "()V"⟩, 28), (⟨"HamperDaysModel", "keepDraft", "()V"⟩, 28), (⟨"HamperDaysModel", "reads", "()V"⟩, 28), (⟨"HamperDaysModel", "byteAt", "(I)I"⟩, 28), (⟨"HamperDaysModel", "requires", "(ZI)V"⟩, 28), (⟨"HamperDaysModel", "readLine", "()V"⟩, 28), (⟨"HamperDaysModel", "lineNow", "()I"⟩, 28), (⟨"HamperDaysModel", "is", "(IIIII)Z"⟩, 28), (⟨"HamperDaysModel", "endsIn", "(II)Z"⟩, 28), (⟨"HamperDaysModel", "readLineOf", "(I)V"⟩, 28), (⟨"HamperDaysModel", "readNumber", "(II)I"⟩, 28), (⟨"HamperDaysModel", "starts", "()V"⟩, 28), (⟨"HamperDaysModel", "isCrushed", "(I)Z"⟩, 28), (⟨"HamperDaysModel", "laidOn", "(I)I"⟩, 28)]
theorem lw_r3 : ∀ q ∈ lw_privs_3, lw_okq q := List.forall_mem_cons.mpr ⟨lw_p32, List.forall_mem_cons.mpr ⟨lw_p33, List.forall_mem_cons.mpr ⟨lw_p34, List.forall_mem_cons.mpr ⟨lw_p35, List.forall_mem_cons.mpr ⟨lw_p36, List.forall_mem_cons.mpr ⟨lw_p37, List.forall_mem_cons.mpr ⟨lw_p38, List.forall_mem_cons.mpr ⟨lw_p39, List.forall_mem_cons.mpr ⟨lw_p40, List.forall_mem_cons.mpr ⟨lw_p41, List.forall_mem_cons.mpr ⟨lw_p42, List.forall_mem_cons.mpr ⟨lw_p43, List.forall_mem_cons.mpr ⟨lw_p44, List.forall_mem_cons.mpr ⟨lw_p45, List.forall_mem_cons.mpr ⟨lw_p46, List.forall_mem_cons.mpr ⟨lw_p47, fun _ h => absurd h List.not_mem_nil⟩⟩⟩⟩⟩⟩⟩⟩⟩⟩⟩⟩⟩⟩⟩⟩
theorem lw_p48 : lw_okq (⟨"HamperDaysModel", "of", "(II)I"⟩, 28) := ⟨⟨by decide +kernel, by decide +kernel⟩, List.mem_of_getElem? (i := 738) (by decide +kernel), List.mem_of_getElem? (i := 914) (by decide +kernel), List.mem_of_getElem? (i := 915) (by decide +kernel)⟩
theorem lw_p49 : lw_okq (⟨"HamperDaysModel", "bears", "(I)I"⟩, 28) := ⟨⟨by decide +kernel, by decide +kernel⟩, List.mem_of_getElem? (i := 738) (by decide +kernel), List.mem_of_getElem? (i := 918) (by decide +kernel), List.mem_of_getElem? (i := 919) (by decide +kernel)⟩
theorem lw_p50 : lw_okq (⟨"HamperDaysModel", "outNow", "()I"⟩, 28) := ⟨⟨by decide +kernel, by decide +kernel⟩, List.mem_of_getElem? (i := 738) (by decide +kernel), List.mem_of_getElem? (i := 925) (by decide +kernel), List.mem_of_getElem? (i := 926) (by decide +kernel)⟩
theorem lw_p51 : lw_okq (⟨"HamperDaysModel", "isThing", "(I)Z"⟩, 28) := ⟨⟨by decide +kernel, by decide +kernel⟩, List.mem_of_getElem? (i := 738) (by decide +kernel), List.mem_of_getElem? (i := 933) (by decide +kernel), List.mem_of_getElem? (i := 934) (by decide +kernel)⟩
theorem lw_p52 : lw_okq (⟨"HamperDaysModel", "cheers", "(I)I"⟩, 28) := ⟨⟨by decide +kernel, by decide +kernel⟩, List.mem_of_getElem? (i := 738) (by decide +kernel), List.mem_of_getElem? (i := 937) (by decide +kernel), List.mem_of_getElem? (i := 938) (by decide +kernel)⟩
theorem lw_p53 : lw_okq (⟨"HamperDaysModel", "becomes", "(II)I"⟩, 28) := ⟨⟨by decide +kernel, by decide +kernel⟩, List.mem_of_getElem? (i := 738) (by decide +kernel), List.mem_of_getElem? (i := 947) (by decide +kernel), List.mem_of_getElem? (i := 948) (by decide +kernel)⟩
theorem lw_p54 : lw_okq (⟨"HamperDaysModel", "allAreIn", "()Z"⟩, 28) := ⟨⟨by decide +kernel, by decide +kernel⟩, List.mem_of_getElem? (i := 738) (by decide +kernel), List.mem_of_getElem? (i := 967) (by decide +kernel), List.mem_of_getElem? (i := 968) (by decide +kernel)⟩
theorem lw_p55 : lw_okq (⟨"HamperDaysModel", "allGoIn", "()V"⟩, 28) := ⟨⟨by decide +kernel, by decide +kernel⟩, List.mem_of_getElem? (i := 738) (by decide +kernel), List.mem_of_getElem? (i := 975) (by decide +kernel), List.mem_of_getElem? (i := 976) (by decide +kernel)⟩
theorem lw_p56 : lw_okq (⟨"HamperDaysModel", "becomesOf", "(III)V"⟩, 28) := ⟨⟨by decide +kernel, by decide +kernel⟩, List.mem_of_getElem? (i := 738) (by decide +kernel), List.mem_of_getElem? (i := 979) (by decide +kernel), List.mem_of_getElem? (i := 980) (by decide +kernel)⟩
theorem lw_p57 : lw_okq (⟨"HamperDaysModel", "settles", "()V"⟩, 28) := ⟨⟨by decide +kernel, by decide +kernel⟩, List.mem_of_getElem? (i := 738) (by decide +kernel), List.mem_of_getElem? (i := 983) (by decide +kernel), List.mem_of_getElem? (i := 984) (by decide +kernel)⟩
theorem lw_p58 : lw_okq (⟨"HamperDaysModel", "hoursGo", "(I)V"⟩, 28) := ⟨⟨by decide +kernel, by decide +kernel⟩, List.mem_of_getElem? (i := 738) (by decide +kernel), List.mem_of_getElem? (i := 996) (by decide +kernel), List.mem_of_getElem? (i := 997) (by decide +kernel)⟩
theorem lw_p59 : lw_okq (⟨"HamperDaysModel", "hourGoes", "(Z)V"⟩, 28) := ⟨⟨by decide +kernel, by decide +kernel⟩, List.mem_of_getElem? (i := 738) (by decide +kernel), List.mem_of_getElem? (i := 1000) (by decide +kernel), List.mem_of_getElem? (i := 1001) (by decide +kernel)⟩
theorem lw_p60 : lw_okq (⟨"HamperDaysModel", "lasts", "(I)I"⟩, 28) := ⟨⟨by decide +kernel, by decide +kernel⟩, List.mem_of_getElem? (i := 738) (by decide +kernel), List.mem_of_getElem? (i := 1004) (by decide +kernel), List.mem_of_getElem? (i := 1005) (by decide +kernel)⟩
theorem lw_p61 : lw_okq (⟨"HamperDaysModel", "isGone", "(I)Z"⟩, 28) := ⟨⟨by decide +kernel, by decide +kernel⟩, List.mem_of_getElem? (i := 738) (by decide +kernel), List.mem_of_getElem? (i := 1021) (by decide +kernel), List.mem_of_getElem? (i := 1022) (by decide +kernel)⟩
theorem lw_p62 : lw_okq (⟨"HamperDaysModel", "findOrder", "()I"⟩, 28) := ⟨⟨by decide +kernel, by decide +kernel⟩, List.mem_of_getElem? (i := 738) (by decide +kernel), List.mem_of_getElem? (i := 1035) (by decide +kernel), List.mem_of_getElem? (i := 1036) (by decide +kernel)⟩
theorem lw_p63 : lw_okq (⟨"HamperDaysModel", "startsJudging", "(I)V"⟩, 28) := ⟨⟨by decide +kernel, by decide +kernel⟩, List.mem_of_getElem? (i := 738) (by decide +kernel), List.mem_of_getElem? (i := 1039) (by decide +kernel), List.mem_of_getElem? (i := 1040) (by decide +kernel)⟩
def lw_privs_4 : List (MethodName × Nat) := [(⟨"HamperDaysModel", "of", "(II)I"⟩, 28), (⟨"HamperDaysModel", "bears", "(I)I"⟩, 28), (⟨"HamperDaysModel", "outNow", "()I"⟩, 28), (⟨"HamperDaysModel", "isThing", "(I)Z"⟩, 28), (⟨"HamperDaysModel", "cheers", "(I)I"⟩, 28), (⟨"HamperDaysModel", "becomes", "(II)I"⟩, 28), (⟨"HamperDaysModel", "allAreIn", "()Z"⟩, 28), (⟨"HamperDaysModel", "allGoIn", "()V"⟩, 28), (⟨"HamperDaysModel", "becomesOf", "(III)V"⟩, 28), (⟨"HamperDaysModel", "settles", "()V"⟩, 28), (⟨"HamperDaysModel", "hoursGo", "(I)V"⟩, 28), (⟨"HamperDaysModel", "hourGoes", "(Z)V"⟩, 28), (⟨"HamperDaysModel", "lasts", "(I)I"⟩, 28), (⟨"HamperDaysModel", "isGone", "(I)Z"⟩, 28), (⟨"HamperDaysModel", "findOrder", "()I"⟩, 28), (⟨"HamperDaysModel", "startsJudging", "(I)V"⟩, 28)]
theorem lw_r4 : ∀ q ∈ lw_privs_4, lw_okq q := List.forall_mem_cons.mpr ⟨lw_p48, List.forall_mem_cons.mpr ⟨lw_p49, List.forall_mem_cons.mpr ⟨lw_p50, List.forall_mem_cons.mpr ⟨lw_p51, List.forall_mem_cons.mpr ⟨lw_p52, List.forall_mem_cons.mpr ⟨lw_p53, List.forall_mem_cons.mpr ⟨lw_p54, List.forall_mem_cons.mpr ⟨lw_p55, List.forall_mem_cons.mpr ⟨lw_p56, List.forall_mem_cons.mpr ⟨lw_p57, List.forall_mem_cons.mpr ⟨lw_p58, List.forall_mem_cons.mpr ⟨lw_p59, List.forall_mem_cons.mpr ⟨lw_p60, List.forall_mem_cons.mpr ⟨lw_p61, List.forall_mem_cons.mpr ⟨lw_p62, List.forall_mem_cons.mpr ⟨lw_p63, fun _ h => absurd h List.not_mem_nil⟩⟩⟩⟩⟩⟩⟩⟩⟩⟩⟩⟩⟩⟩⟩⟩
theorem lw_p64 : lw_okq (⟨"HamperDaysModel", "isRow", "(I)Z"⟩, 28) := ⟨⟨by decide +kernel, by decide +kernel⟩, List.mem_of_getElem? (i := 738) (by decide +kernel), List.mem_of_getElem? (i := 1043) (by decide +kernel), List.mem_of_getElem? (i := 1044) (by decide +kernel)⟩
theorem lw_p65 : lw_okq (⟨"HamperDaysModel", "lays", "(II)V"⟩, 28) := ⟨⟨by decide +kernel, by decide +kernel⟩, List.mem_of_getElem? (i := 738) (by decide +kernel), List.mem_of_getElem? (i := 1047) (by decide +kernel), List.mem_of_getElem? (i := 1048) (by decide +kernel)⟩
theorem lw_p66 : lw_okq (⟨"HamperDaysModel", "moodBehind", "(I)I"⟩, 28) := ⟨⟨by decide +kernel, by decide +kernel⟩, List.mem_of_getElem? (i := 738) (by decide +kernel), List.mem_of_getElem? (i := 1051) (by decide +kernel), List.mem_of_getElem? (i := 1052) (by decide +kernel)⟩
theorem lw_p67 : lw_okq (⟨"HamperDaysModel", "judges", "(II)V"⟩, 28) := ⟨⟨by decide +kernel, by decide +kernel⟩, List.mem_of_getElem? (i := 738) (by decide +kernel), List.mem_of_getElem? (i := 1055) (by decide +kernel), List.mem_of_getElem? (i := 1056) (by decide +kernel)⟩
theorem lw_p68 : lw_okq (⟨"HamperDaysModel", "closes", "(I)V"⟩, 28) := ⟨⟨by decide +kernel, by decide +kernel⟩, List.mem_of_getElem? (i := 738) (by decide +kernel), List.mem_of_getElem? (i := 1066) (by decide +kernel), List.mem_of_getElem? (i := 1067) (by decide +kernel)⟩
theorem lw_p69 : lw_okq (⟨"HamperDaysModel", "judged", "(I)I"⟩, 28) := ⟨⟨by decide +kernel, by decide +kernel⟩, List.mem_of_getElem? (i := 738) (by decide +kernel), List.mem_of_getElem? (i := 1070) (by decide +kernel), List.mem_of_getElem? (i := 1071) (by decide +kernel)⟩
theorem lw_p70 : lw_okq (⟨"HamperDaysModel", "findOdds", "(III)V"⟩, 28) := ⟨⟨by decide +kernel, by decide +kernel⟩, List.mem_of_getElem? (i := 738) (by decide +kernel), List.mem_of_getElem? (i := 1100) (by decide +kernel), List.mem_of_getElem? (i := 1101) (by decide +kernel)⟩
theorem lw_p71 : lw_okq (⟨"HamperDaysModel", "which", "(II)I"⟩, 28) := ⟨⟨by decide +kernel, by decide +kernel⟩, List.mem_of_getElem? (i := 738) (by decide +kernel), List.mem_of_getElem? (i := 1127) (by decide +kernel), List.mem_of_getElem? (i := 1128) (by decide +kernel)⟩
theorem lw_p72 : lw_okq (⟨"HamperDaysModel", "isSoWith", "(II)Z"⟩, 28) := ⟨⟨by decide +kernel, by decide +kernel⟩, List.mem_of_getElem? (i := 738) (by decide +kernel), List.mem_of_getElem? (i := 1131) (by decide +kernel), List.mem_of_getElem? (i := 1132) (by decide +kernel)⟩
theorem lw_p73 : lw_okq (⟨"HamperDaysModel", "copies", "(II)V"⟩, 28) := ⟨⟨by decide +kernel, by decide +kernel⟩, List.mem_of_getElem? (i := 738) (by decide +kernel), List.mem_of_getElem? (i := 1152) (by decide +kernel), List.mem_of_getElem? (i := 1153) (by decide +kernel)⟩
theorem lw_p74 : lw_okq (⟨"HamperDaysModel", "sumOf", "(I)I"⟩, 28) := ⟨⟨by decide +kernel, by decide +kernel⟩, List.mem_of_getElem? (i := 738) (by decide +kernel), List.mem_of_getElem? (i := 1186) (by decide +kernel), List.mem_of_getElem? (i := 1187) (by decide +kernel)⟩
def lw_privs_5 : List (MethodName × Nat) := [(⟨"HamperDaysModel", "isRow", "(I)Z"⟩, 28), (⟨"HamperDaysModel", "lays", "(II)V"⟩, 28), (⟨"HamperDaysModel", "moodBehind", "(I)I"⟩, 28), (⟨"HamperDaysModel", "judges", "(II)V"⟩, 28), (⟨"HamperDaysModel", "closes", "(I)V"⟩, 28), (⟨"HamperDaysModel", "judged", "(I)I"⟩, 28), (⟨"HamperDaysModel", "findOdds", "(III)V"⟩, 28), (⟨"HamperDaysModel", "which", "(II)I"⟩, 28), (⟨"HamperDaysModel", "isSoWith", "(II)Z"⟩, 28), (⟨"HamperDaysModel", "copies", "(II)V"⟩, 28), (⟨"HamperDaysModel", "sumOf", "(I)I"⟩, 28)]
theorem lw_r5 : ∀ q ∈ lw_privs_5, lw_okq q := List.forall_mem_cons.mpr ⟨lw_p64, List.forall_mem_cons.mpr ⟨lw_p65, List.forall_mem_cons.mpr ⟨lw_p66, List.forall_mem_cons.mpr ⟨lw_p67, List.forall_mem_cons.mpr ⟨lw_p68, List.forall_mem_cons.mpr ⟨lw_p69, List.forall_mem_cons.mpr ⟨lw_p70, List.forall_mem_cons.mpr ⟨lw_p71, List.forall_mem_cons.mpr ⟨lw_p72, List.forall_mem_cons.mpr ⟨lw_p73, List.forall_mem_cons.mpr ⟨lw_p74, fun _ h => absurd h List.not_mem_nil⟩⟩⟩⟩⟩⟩⟩⟩⟩⟩⟩
def lw_privs : List (MethodName × Nat) := lw_privs_1 ++ (lw_privs_2 ++ (lw_privs_3 ++ (lw_privs_4 ++ (lw_privs_5))))
def lw_tbl : List Cond := k2_sels lw_privs ++ tables_1
theorem lw_privs_ok : ∀ q ∈ lw_privs, lw_okq q := by
  show ∀ q ∈ lw_privs_1 ++ (lw_privs_2 ++ (lw_privs_3 ++ (lw_privs_4 ++ (lw_privs_5)))), lw_okq q
  exact List.forall_mem_append.mpr ⟨lw_r1, List.forall_mem_append.mpr ⟨lw_r2, List.forall_mem_append.mpr ⟨lw_r3, List.forall_mem_append.mpr ⟨lw_r4, lw_r5⟩⟩⟩⟩
-- ===== end of PART A; then your names; then what follows =====
end
section
/-! ===== BEGIN printed: names, fields, word lists, decode rows ===== -/
def RX0 : String := "HamperDays$Hamper"
def TX0 : u_T := fun k => match k with
  | 0 => ("HamperDays$Hamper", "kinds", "[I", true)
  | 1 => ("HamperDays$Hamper", "goods", "[I", true)
  | 2 => ("HamperDays$Hamper", "weights", "[I", true)
  | 3 => ("HamperDays$Hamper", "outFor", "[I", true)
  | 4 => ("HamperDays$Hamper", "cheers", "[I", true)
  | 5 => ("HamperDays$Hamper", "size", "I", false)
  | 6 => ("HamperDays$Hamper", "left", "I", false)
  | 7 => ("HamperDays$Hamper", "mood", "I", false)
  | 8 => ("HamperDays$Hamper", "tire", "I", false)
  | _ => ("HamperDays$Hamper", "hour", "I", false)
def tyX0 : Nat → FieldType := fun k => match k with
  | 0 => .array .int
  | 1 => .array .int
  | 2 => .array .int
  | 3 => .array .int
  | 4 => .array .int
  | 5 => .int
  | 6 => .int
  | 7 => .int
  | 8 => .int
  | _ => .int
abbrev wsX00 : List Cond := u_ws RX0 TX0 10
theorem nmX0 : ∀ a, a < 10 → ∀ b, b < 10 → a ≠ b → (TX0 a).2.1 ≠ (TX0 b).2.1 := by decide +kernel
theorem tyX0_ok : ∀ k, k < 10 → parseFieldDescriptor (TX0 k).2.2.1 = some (tyX0 k) := by decide +kernel
abbrev cX0_init : ByteArray := prog_2_method_1_code
def yX0_init : MethodName := ⟨RX0, "<init>", "()V"⟩
abbrev cX0_clear : ByteArray := prog_2_method_2_code
def yX0_clear : MethodName := ⟨RX0, "clear", "()V"⟩
abbrev cX0_copyFrom : ByteArray := prog_2_method_3_code
def yX0_copyFrom : MethodName := ⟨RX0, "copyFrom", "(LHamperDays$Hamper;)V"⟩
abbrev cX0_copyOrdered : ByteArray := prog_2_method_4_code
def yX0_copyOrdered : MethodName := ⟨RX0, "copyOrdered", "(LHamperDays$Hamper;[I)V"⟩
abbrev cX0_copyDayOf : ByteArray := prog_2_method_5_code
def yX0_copyDayOf : MethodName := ⟨RX0, "copyDayOf", "(LHamperDays$Hamper;)V"⟩
abbrev cX0_copyThing : ByteArray := prog_2_method_6_code
def yX0_copyThing : MethodName := ⟨RX0, "copyThing", "(ILHamperDays$Hamper;I)V"⟩
abbrev cX0_isAllIn : ByteArray := prog_2_method_7_code
def yX0_isAllIn : MethodName := ⟨RX0, "isAllIn", "()Z"⟩
abbrev cX0_isGone : ByteArray := prog_2_method_8_code
def yX0_isGone : MethodName := ⟨RX0, "isGone", "(I)Z"⟩
abbrev cX0_add : ByteArray := prog_2_method_9_code
def yX0_add : MethodName := ⟨RX0, "add", "(III)Z"⟩
abbrev cX0_change : ByteArray := prog_2_method_10_code
def yX0_change : MethodName := ⟨RX0, "change", "(III)I"⟩
abbrev cX0_bringAllIn : ByteArray := prog_2_method_11_code
def yX0_bringAllIn : MethodName := ⟨RX0, "bringAllIn", "()V"⟩
abbrev cX0_shrinkTo : ByteArray := prog_2_method_12_code
def yX0_shrinkTo : MethodName := ⟨RX0, "shrinkTo", "(I)V"⟩
abbrev cX0_takeAway : ByteArray := prog_2_method_13_code
def yX0_takeAway : MethodName := ⟨RX0, "takeAway", "(I)V"⟩
abbrev cX0_layOnTop : ByteArray := prog_2_method_14_code
def yX0_layOnTop : MethodName := ⟨RX0, "layOnTop", "(I)V"⟩
abbrev cX0_exchange : ByteArray := prog_2_method_15_code
def yX0_exchange : MethodName := ⟨RX0, "exchange", "(II)V"⟩
abbrev cX0_exchangeIn : ByteArray := prog_2_method_16_code
def yX0_exchangeIn : MethodName := ⟨RX0, "exchangeIn", "([III)V"⟩
abbrev cX0_bearsOf : ByteArray := prog_2_method_17_code
def yX0_bearsOf : MethodName := ⟨RX0, "bearsOf", "(I)I"⟩
abbrev cX0_weightBehind : ByteArray := prog_2_method_18_code
def yX0_weightBehind : MethodName := ⟨RX0, "weightBehind", "(I)I"⟩
abbrev cX0_isCrushed : ByteArray := prog_2_method_19_code
def yX0_isCrushed : MethodName := ⟨RX0, "isCrushed", "(I)Z"⟩
abbrev cX0_cheersOf : ByteArray := prog_2_method_20_code
def yX0_cheersOf : MethodName := ⟨RX0, "cheersOf", "(I)I"⟩
abbrev cX0_cheersUnder : ByteArray := prog_2_method_21_code
def yX0_cheersUnder : MethodName := ⟨RX0, "cheersUnder", "(II)I"⟩
abbrev cX0_lastsOf : ByteArray := prog_2_method_22_code
def yX0_lastsOf : MethodName := ⟨RX0, "lastsOf", "(I)I"⟩
abbrev cX0_tallyCheers : ByteArray := prog_2_method_23_code
def yX0_tallyCheers : MethodName := ⟨RX0, "tallyCheers", "()V"⟩
abbrev cX0_pass : ByteArray := prog_2_method_24_code
def yX0_pass : MethodName := ⟨RX0, "pass", "(I)I"⟩
abbrev cX0_passOne : ByteArray := prog_2_method_25_code
def yX0_passOne : MethodName := ⟨RX0, "passOne", "(Z)V"⟩
abbrev cX0_blow : ByteArray := prog_2_method_26_code
def yX0_blow : MethodName := ⟨RX0, "blow", "(I)V"⟩
abbrev cX0_outBits : ByteArray := prog_2_method_27_code
def yX0_outBits : MethodName := ⟨RX0, "outBits", "()I"⟩
abbrev cX0_crushedBits : ByteArray := prog_2_method_28_code
def yX0_crushedBits : MethodName := ⟨RX0, "crushedBits", "()I"⟩
abbrev cX0_sumOf : ByteArray := prog_2_method_29_code
def yX0_sumOf : MethodName := ⟨RX0, "sumOf", "([I)I"⟩
def RX1 : String := "HamperDays$Image"
def TX1 : u_T := fun k => match k with
  | 0 => ("HamperDays$Image", "things", "LHamperDays$Hamper;", true)
  | 1 => ("HamperDays$Image", "seen", "LHamperDays$Seen;", true)
  | _ => ("HamperDays$Image", "made", "Z", false)
def tyX1 : Nat → FieldType := fun k => match k with
  | 0 => .object "HamperDays$Hamper"
  | 1 => .object "HamperDays$Seen"
  | _ => .boolean
abbrev wsX10 : List Cond := u_ws RX1 TX1 3
theorem nmX1 : ∀ a, a < 3 → ∀ b, b < 3 → a ≠ b → (TX1 a).2.1 ≠ (TX1 b).2.1 := by decide +kernel
theorem tyX1_ok : ∀ k, k < 3 → parseFieldDescriptor (TX1 k).2.2.1 = some (tyX1 k) := by decide +kernel
abbrev cX1_init : ByteArray := prog_3_method_1_code
def yX1_init : MethodName := ⟨RX1, "<init>", "()V"⟩
def RX2 : String := "HamperDays$Seen"
def TX2 : u_T := fun k => match k with
  | 0 => ("HamperDays$Seen", "behind", "[I", true)
  | 1 => ("HamperDays$Seen", "moods", "[I", true)
  | _ => ("HamperDays$Seen", "size", "I", false)
def tyX2 : Nat → FieldType := fun k => match k with
  | 0 => .array .int
  | 1 => .array .int
  | _ => .int
abbrev wsX20 : List Cond := u_ws RX2 TX2 3
theorem nmX2 : ∀ a, a < 3 → ∀ b, b < 3 → a ≠ b → (TX2 a).2.1 ≠ (TX2 b).2.1 := by decide +kernel
theorem tyX2_ok : ∀ k, k < 3 → parseFieldDescriptor (TX2 k).2.2.1 = some (tyX2 k) := by decide +kernel
abbrev cX2_init : ByteArray := prog_4_method_1_code
def yX2_init : MethodName := ⟨RX2, "<init>", "()V"⟩
abbrev cX2_add : ByteArray := prog_4_method_2_code
def yX2_add : MethodName := ⟨RX2, "add", "(II)Z"⟩
abbrev cX2_copyFrom : ByteArray := prog_4_method_3_code
def yX2_copyFrom : MethodName := ⟨RX2, "copyFrom", "(LHamperDays$Seen;)V"⟩
def RX3 : String := "HamperDays$Sheet"
def TX3 : u_T := fun k => match k with
  | 0 => ("HamperDays$Sheet", "cells", "[I", true)
  | 1 => ("HamperDays$Sheet", "lane", "I", false)
  | _ => ("HamperDays$Sheet", "size", "I", false)
def tyX3 : Nat → FieldType := fun k => match k with
  | 0 => .array .int
  | 1 => .int
  | _ => .int
abbrev wsX30 : List Cond := u_ws RX3 TX3 3
theorem nmX3 : ∀ a, a < 3 → ∀ b, b < 3 → a ≠ b → (TX3 a).2.1 ≠ (TX3 b).2.1 := by decide +kernel
theorem tyX3_ok : ∀ k, k < 3 → parseFieldDescriptor (TX3 k).2.2.1 = some (tyX3 k) := by decide +kernel
abbrev cX3_init : ByteArray := prog_5_method_1_code
def yX3_init : MethodName := ⟨RX3, "<init>", "()V"⟩
abbrev cX3_renew : ByteArray := prog_5_method_2_code
def yX3_renew : MethodName := ⟨RX3, "renew", "(II)V"⟩
abbrev cX3_faultAt : ByteArray := prog_5_method_3_code
def yX3_faultAt : MethodName := ⟨RX3, "faultAt", "(I)I"⟩
abbrev cX3_faultOfThree : ByteArray := prog_5_method_4_code
def yX3_faultOfThree : MethodName := ⟨RX3, "faultOfThree", "(III)I"⟩
abbrev cX3_put : ByteArray := prog_5_method_5_code
def yX3_put : MethodName := ⟨RX3, "put", "(II)V"⟩
def RX4 : String := "HamperDays$Tape"
def TX4 : u_T := fun k => match k with
  | 0 => ("HamperDays$Tape", "bytes", "[B", true)
  | 1 => ("HamperDays$Tape", "length", "I", false)
  | 2 => ("HamperDays$Tape", "faultFound", "I", false)
  | 3 => ("HamperDays$Tape", "faultPlace", "I", false)
  | 4 => ("HamperDays$Tape", "place", "I", false)
  | 5 => ("HamperDays$Tape", "start", "I", false)
  | 6 => ("HamperDays$Tape", "token", "I", false)
  | 7 => ("HamperDays$Tape", "number", "I", false)
  | 8 => ("HamperDays$Tape", "moodTold", "Z", false)
  | _ => ("HamperDays$Tape", "tireTold", "Z", false)
def tyX4 : Nat → FieldType := fun k => match k with
  | 0 => .array .byte
  | 1 => .int
  | 2 => .int
  | 3 => .int
  | 4 => .int
  | 5 => .int
  | 6 => .int
  | 7 => .int
  | 8 => .boolean
  | _ => .boolean
abbrev wsX40 : List Cond := u_ws RX4 TX4 10
theorem nmX4 : ∀ a, a < 10 → ∀ b, b < 10 → a ≠ b → (TX4 a).2.1 ≠ (TX4 b).2.1 := by decide +kernel
theorem tyX4_ok : ∀ k, k < 10 → parseFieldDescriptor (TX4 k).2.2.1 = some (tyX4 k) := by decide +kernel
abbrev cX4_init : ByteArray := prog_6_method_1_code
def yX4_init : MethodName := ⟨RX4, "<init>", "()V"⟩
abbrev cX4_append : ByteArray := prog_6_method_2_code
def yX4_append : MethodName := ⟨RX4, "append", "(I)Z"⟩
abbrev cX4_tell : ByteArray := prog_6_method_3_code
def yX4_tell : MethodName := ⟨RX4, "tell", "(LHamperDays$Hamper;)I"⟩
abbrev cX4_refuse : ByteArray := prog_6_method_4_code
def yX4_refuse : MethodName := ⟨RX4, "refuse", "(I)Z"⟩
abbrev cX4_takeLine : ByteArray := prog_6_method_5_code
def yX4_takeLine : MethodName := ⟨RX4, "takeLine", "(LHamperDays$Hamper;)Z"⟩
abbrev cX4_takeMood : ByteArray := prog_6_method_6_code
def yX4_takeMood : MethodName := ⟨RX4, "takeMood", "(LHamperDays$Hamper;)Z"⟩
abbrev cX4_takeTire : ByteArray := prog_6_method_7_code
def yX4_takeTire : MethodName := ⟨RX4, "takeTire", "(LHamperDays$Hamper;)Z"⟩
abbrev cX4_takeThing : ByteArray := prog_6_method_8_code
def yX4_takeThing : MethodName := ⟨RX4, "takeThing", "(LHamperDays$Hamper;I)Z"⟩
abbrev cX4_takeNumber : ByteArray := prog_6_method_9_code
def yX4_takeNumber : MethodName := ⟨RX4, "takeNumber", "(II)Z"⟩
abbrev cX4_takeStop : ByteArray := prog_6_method_10_code
def yX4_takeStop : MethodName := ⟨RX4, "takeStop", "()Z"⟩
abbrev cX4_takeToken : ByteArray := prog_6_method_11_code
def yX4_takeToken : MethodName := ⟨RX4, "takeToken", "()Z"⟩
abbrev cX4_tellNumber : ByteArray := prog_6_method_12_code
def yX4_tellNumber : MethodName := ⟨RX4, "tellNumber", "()Z"⟩
abbrev cX4_sortAt : ByteArray := prog_6_method_13_code
def yX4_sortAt : MethodName := ⟨RX4, "sortAt", "(I)I"⟩
abbrev cX4_wordTaken : ByteArray := prog_6_method_14_code
def yX4_wordTaken : MethodName := ⟨RX4, "wordTaken", "()I"⟩
abbrev cX4_isWord : ByteArray := prog_6_method_15_code
def yX4_isWord : MethodName := ⟨RX4, "isWord", "(Ljava/lang/String;)Z"⟩
def RX5 : String := "HamperDays"
def TX5 : u_T := fun k => match k with
  | 0 => ("HamperDays", "now", "LHamperDays$Hamper;", true)
  | 1 => ("HamperDays", "trial", "LHamperDays$Hamper;", true)
  | 2 => ("HamperDays", "seen", "LHamperDays$Seen;", true)
  | 3 => ("HamperDays", "tape", "LHamperDays$Tape;", true)
  | 4 => ("HamperDays", "images", "[LHamperDays$Image;", true)
  | 5 => ("HamperDays", "sheets", "[LHamperDays$Sheet;", true)
  | 6 => ("HamperDays", "row", "[I", true)
  | 7 => ("HamperDays", "bestRow", "[I", true)
  | 8 => ("HamperDays", "looks", "[I", true)
  | _ => ("HamperDays", "tornBy", "I", false)
def tyX5 : Nat → FieldType := fun k => match k with
  | 0 => .object "HamperDays$Hamper"
  | 1 => .object "HamperDays$Hamper"
  | 2 => .object "HamperDays$Seen"
  | 3 => .object "HamperDays$Tape"
  | 4 => .array (.object "HamperDays$Image")
  | 5 => .array (.object "HamperDays$Sheet")
  | 6 => .array .int
  | 7 => .array .int
  | 8 => .array .int
  | _ => .int
abbrev wsX50 : List Cond := u_ws RX5 TX5 10
theorem nmX5 : ∀ a, a < 10 → ∀ b, b < 10 → a ≠ b → (TX5 a).2.1 ≠ (TX5 b).2.1 := by decide +kernel
theorem tyX5_ok : ∀ k, k < 10 → parseFieldDescriptor (TX5 k).2.2.1 = some (tyX5 k) := by decide +kernel
abbrev cX5_init : ByteArray := prog_1_method_1_code
def yX5_init : MethodName := ⟨RX5, "<init>", "()V"⟩
abbrev cX5_feed : ByteArray := prog_1_method_2_code
def yX5_feed : MethodName := ⟨RX5, "feed", "(I)I"⟩
abbrev cX5_end : ByteArray := prog_1_method_3_code
def yX5_end : MethodName := ⟨RX5, "end", "(I)I"⟩
abbrev cX5_text : ByteArray := prog_1_method_4_code
def yX5_text : MethodName := ⟨RX5, "text", "()I"⟩
abbrev cX5_fault : ByteArray := prog_1_method_5_code
def yX5_fault : MethodName := ⟨RX5, "fault", "()I"⟩
abbrev cX5_rule : ByteArray := prog_1_method_6_code
def yX5_rule : MethodName := ⟨RX5, "rule", "(I)I"⟩
abbrev cX5_thing : ByteArray := prog_1_method_7_code
def yX5_thing : MethodName := ⟨RX5, "thing", "(II)I"⟩
abbrev cX5_alter : ByteArray := prog_1_method_8_code
def yX5_alter : MethodName := ⟨RX5, "alter", "(III)I"⟩
abbrev cX5_mood : ByteArray := prog_1_method_9_code
def yX5_mood : MethodName := ⟨RX5, "mood", "(I)I"⟩
abbrev cX5_tire : ByteArray := prog_1_method_10_code
def yX5_tire : MethodName := ⟨RX5, "tire", "(I)I"⟩
abbrev cX5_pack : ByteArray := prog_1_method_11_code
def yX5_pack : MethodName := ⟨RX5, "pack", "(III)I"⟩
abbrev cX5_strap : ByteArray := prog_1_method_12_code
def yX5_strap : MethodName := ⟨RX5, "strap", "()I"⟩
abbrev cX5_lift : ByteArray := prog_1_method_13_code
def yX5_lift : MethodName := ⟨RX5, "lift", "()I"⟩
abbrev cX5_hours : ByteArray := prog_1_method_14_code
def yX5_hours : MethodName := ⟨RX5, "hours", "(I)I"⟩
abbrev cX5_runs : ByteArray := prog_1_method_15_code
def yX5_runs : MethodName := ⟨RX5, "runs", "(II)I"⟩
abbrev cX5_gone : ByteArray := prog_1_method_16_code
def yX5_gone : MethodName := ⟨RX5, "gone", "(I)I"⟩
abbrev cX5_glad : ByteArray := prog_1_method_17_code
def yX5_glad : MethodName := ⟨RX5, "glad", "(I)I"⟩
abbrev cX5_order : ByteArray := prog_1_method_18_code
def yX5_order : MethodName := ⟨RX5, "order", "(I)I"⟩
abbrev cX5_leave : ByteArray := prog_1_method_19_code
def yX5_leave : MethodName := ⟨RX5, "leave", "(II)I"⟩
abbrev cX5_top : ByteArray := prog_1_method_20_code
def yX5_top : MethodName := ⟨RX5, "top", "(II)I"⟩
abbrev cX5_swap : ByteArray := prog_1_method_21_code
def yX5_swap : MethodName := ⟨RX5, "swap", "(II)I"⟩
abbrev cX5_need : ByteArray := prog_1_method_22_code
def yX5_need : MethodName := ⟨RX5, "need", "(III)I"⟩
abbrev cX5_kind : ByteArray := prog_1_method_23_code
def yX5_kind : MethodName := ⟨RX5, "kind", "(III)I"⟩
abbrev cX5_bear : ByteArray := prog_1_method_24_code
def yX5_bear : MethodName := ⟨RX5, "bear", "(II)I"⟩
abbrev cX5_luck : ByteArray := prog_1_method_25_code
def yX5_luck : MethodName := ⟨RX5, "luck", "(IIII)J"⟩
abbrev cX5_mean : ByteArray := prog_1_method_26_code
def yX5_mean : MethodName := ⟨RX5, "mean", "(III)J"⟩
abbrev cX5_see : ByteArray := prog_1_method_27_code
def yX5_see : MethodName := ⟨RX5, "see", "(II)I"⟩
abbrev cX5_forget : ByteArray := prog_1_method_28_code
def yX5_forget : MethodName := ⟨RX5, "forget", "(I)I"⟩
abbrev cX5_kinds : ByteArray := prog_1_method_29_code
def yX5_kinds : MethodName := ⟨RX5, "kinds", "(I)I"⟩
abbrev cX5_goods : ByteArray := prog_1_method_30_code
def yX5_goods : MethodName := ⟨RX5, "goods", "(I)I"⟩
abbrev cX5_ask : ByteArray := prog_1_method_31_code
def yX5_ask : MethodName := ⟨RX5, "ask", "(II)I"⟩
abbrev cX5_drift : ByteArray := prog_1_method_32_code
def yX5_drift : MethodName := ⟨RX5, "drift", "(III)I"⟩
abbrev cX5_keep : ByteArray := prog_1_method_33_code
def yX5_keep : MethodName := ⟨RX5, "keep", "(I)I"⟩
abbrev cX5_back : ByteArray := prog_1_method_34_code
def yX5_back : MethodName := ⟨RX5, "back", "(I)I"⟩
abbrev cX5_sheet : ByteArray := prog_1_method_35_code
def yX5_sheet : MethodName := ⟨RX5, "sheet", "(III)I"⟩
abbrev cX5_lay : ByteArray := prog_1_method_36_code
def yX5_lay : MethodName := ⟨RX5, "lay", "(III)I"⟩
abbrev cX5_read : ByteArray := prog_1_method_37_code
def yX5_read : MethodName := ⟨RX5, "read", "(IIII)I"⟩
abbrev cX5_torn : ByteArray := prog_1_method_38_code
def yX5_torn : MethodName := ⟨RX5, "torn", "()I"⟩
abbrev cX5_count : ByteArray := prog_1_method_39_code
def yX5_count : MethodName := ⟨RX5, "count", "(I)I"⟩
abbrev cX5_isWithin : ByteArray := prog_1_method_40_code
def yX5_isWithin : MethodName := ⟨RX5, "isWithin", "(III)Z"⟩
abbrev cX5_isMood : ByteArray := prog_1_method_41_code
def yX5_isMood : MethodName := ⟨RX5, "isMood", "(I)Z"⟩
abbrev cX5_isSpan : ByteArray := prog_1_method_42_code
def yX5_isSpan : MethodName := ⟨RX5, "isSpan", "(I)Z"⟩
abbrev cX5_isOdds : ByteArray := prog_1_method_43_code
def yX5_isOdds : MethodName := ⟨RX5, "isOdds", "(II)Z"⟩
abbrev cX5_isSheet : ByteArray := prog_1_method_44_code
def yX5_isSheet : MethodName := ⟨RX5, "isSheet", "(I)Z"⟩
abbrev cX5_isLane : ByteArray := prog_1_method_45_code
def yX5_isLane : MethodName := ⟨RX5, "isLane", "(I)Z"⟩
abbrev cX5_isThing : ByteArray := prog_1_method_46_code
def yX5_isThing : MethodName := ⟨RX5, "isThing", "(I)Z"⟩
abbrev cX5_isTrait : ByteArray := prog_1_method_47_code
def yX5_isTrait : MethodName := ⟨RX5, "isTrait", "(II)Z"⟩
abbrev cX5_startTrial : ByteArray := prog_1_method_48_code
def yX5_startTrial : MethodName := ⟨RX5, "startTrial", "()V"⟩
abbrev cX5_moodBehind : ByteArray := prog_1_method_49_code
def yX5_moodBehind : MethodName := ⟨RX5, "moodBehind", "(I)I"⟩
abbrev cX5_moodWith : ByteArray := prog_1_method_50_code
def yX5_moodWith : MethodName := ⟨RX5, "moodWith", "(IIII)I"⟩
abbrev cX5_outBehind : ByteArray := prog_1_method_51_code
def yX5_outBehind : MethodName := ⟨RX5, "outBehind", "(I)I"⟩
abbrev cX5_utmostMood : ByteArray := prog_1_method_52_code
def yX5_utmostMood : MethodName := ⟨RX5, "utmostMood", "(IZ)I"⟩
abbrev cX5_firstAtZero : ByteArray := prog_1_method_53_code
def yX5_firstAtZero : MethodName := ⟨RX5, "firstAtZero", "(I)I"⟩
abbrev cX5_bestOfOne : ByteArray := prog_1_method_54_code
def yX5_bestOfOne : MethodName := ⟨RX5, "bestOfOne", "(IIZ)I"⟩
abbrev cX5_foundOrBest : ByteArray := prog_1_method_55_code
def yX5_foundOrBest : MethodName := ⟨RX5, "foundOrBest", "(III)I"⟩
abbrev cX5_findBestRow : ByteArray := prog_1_method_56_code
def yX5_findBestRow : MethodName := ⟨RX5, "findBestRow", "()I"⟩
abbrev cX5_stepRow : ByteArray := prog_1_method_57_code
def yX5_stepRow : MethodName := ⟨RX5, "stepRow", "(I)Z"⟩
abbrev cX5_exchangeInRow : ByteArray := prog_1_method_58_code
def yX5_exchangeInRow : MethodName := ⟨RX5, "exchangeInRow", "(II)V"⟩
abbrev cX5_moodUnderLids : ByteArray := prog_1_method_59_code
def yX5_moodUnderLids : MethodName := ⟨RX5, "moodUnderLids", "(II)I"⟩
abbrev cX5_waysOfLids : ByteArray := prog_1_method_60_code
def yX5_waysOfLids : MethodName := ⟨RX5, "waysOfLids", "(III)J"⟩
abbrev cX5_partOfFraction : ByteArray := prog_1_method_61_code
def yX5_partOfFraction : MethodName := ⟨RX5, "partOfFraction", "(JJI)J"⟩
abbrev cX5_traitsAsSeen : ByteArray := prog_1_method_62_code
def yX5_traitsAsSeen : MethodName := ⟨RX5, "traitsAsSeen", "(III)I"⟩
abbrev cX5_isAsSeen : ByteArray := prog_1_method_63_code
def yX5_isAsSeen : MethodName := ⟨RX5, "isAsSeen", "(III)Z"⟩
abbrev cX5_fillLooks : ByteArray := prog_1_method_64_code
def yX5_fillLooks : MethodName := ⟨RX5, "fillLooks", "(II)V"⟩
abbrev cX5_mostAlike : ByteArray := prog_1_method_65_code
def yX5_mostAlike : MethodName := ⟨RX5, "mostAlike", "(II)I"⟩
abbrev cX5_alikeWith : ByteArray := prog_1_method_66_code
def yX5_alikeWith : MethodName := ⟨RX5, "alikeWith", "(III)I"⟩
abbrev cX5_imagesMade : ByteArray := prog_1_method_67_code
def yX5_imagesMade : MethodName := ⟨RX5, "imagesMade", "()I"⟩
def RX6 : String := "HamperDaysModel"
def TX6 : u_T := fun k => match k with
  | 0 => ("HamperDaysModel", "st", "[I", true)
  | 1 => ("HamperDaysModel", "now", "[I", true)
  | 2 => ("HamperDaysModel", "isKept", "[Z", true)
  | 3 => ("HamperDaysModel", "draft", "[I", true)
  | 4 => ("HamperDaysModel", "hasMood", "Z", false)
  | 5 => ("HamperDaysModel", "hasTire", "Z", false)
  | 6 => ("HamperDaysModel", "tape", "[I", true)
  | 7 => ("HamperDaysModel", "taped", "I", false)
  | 8 => ("HamperDaysModel", "pos", "I", false)
  | 9 => ("HamperDaysModel", "begun", "I", false)
  | 10 => ("HamperDaysModel", "sort", "I", false)
  | 11 => ("HamperDaysModel", "value", "I", false)
  | 12 => ("HamperDaysModel", "fault", "I", false)
  | 13 => ("HamperDaysModel", "wrongAt", "I", false)
  | 14 => ("HamperDaysModel", "bestCode", "I", false)
  | 15 => ("HamperDaysModel", "bestMuch", "I", false)
  | 16 => ("HamperDaysModel", "row", "[I", true)
  | 17 => ("HamperDaysModel", "bestRow", "[I", true)
  | 18 => ("HamperDaysModel", "gladSum", "J", false)
  | 19 => ("HamperDaysModel", "moodSum", "J", false)
  | 20 => ("HamperDaysModel", "allWays", "J", false)
  | 21 => ("HamperDaysModel", "moods", "[I", true)
  | 22 => ("HamperDaysModel", "byGood", "[I", true)
  | 23 => ("HamperDaysModel", "lanes", "[I", true)
  | 24 => ("HamperDaysModel", "sizes", "[I", true)
  | 25 => ("HamperDaysModel", "cells", "[I", true)
  | 26 => ("HamperDaysModel", "torn", "I", false)
  | _ => ("HamperDaysModel", "before", "[I", true)
def tyX6 : Nat → FieldType := fun k => match k with
  | 0 => .array .int
  | 1 => .array .int
  | 2 => .array .boolean
  | 3 => .array .int
  | 4 => .boolean
  | 5 => .boolean
  | 6 => .array .int
  | 7 => .int
  | 8 => .int
  | 9 => .int
  | 10 => .int
  | 11 => .int
  | 12 => .int
  | 13 => .int
  | 14 => .int
  | 15 => .int
  | 16 => .array .int
  | 17 => .array .int
  | 18 => .long
  | 19 => .long
  | 20 => .long
  | 21 => .array .int
  | 22 => .array .int
  | 23 => .array .int
  | 24 => .array .int
  | 25 => .array .int
  | 26 => .int
  | _ => .array .int
abbrev wsX60 : List Cond := u_ws RX6 TX6 28
theorem nmX6 : ∀ a, a < 28 → ∀ b, b < 28 → a ≠ b → (TX6 a).2.1 ≠ (TX6 b).2.1 := by decide +kernel
theorem tyX6_ok : ∀ k, k < 28 → parseFieldDescriptor (TX6 k).2.2.1 = some (tyX6 k) := by decide +kernel
abbrev cX6_init : ByteArray := prog_8_method_1_code
def yX6_init : MethodName := ⟨RX6, "<init>", "()V"⟩
abbrev cX6_in : ByteArray := prog_8_method_3_code
def yX6_in : MethodName := ⟨RX6, "in", "(JJJ)Z"⟩
abbrev cX6_flag : ByteArray := prog_8_method_4_code
def yX6_flag : MethodName := ⟨RX6, "flag", "(Z)I"⟩
abbrev cX6_firstDraft : ByteArray := prog_8_method_5_code
def yX6_firstDraft : MethodName := ⟨RX6, "firstDraft", "()V"⟩
abbrev cX6_keepDraft : ByteArray := prog_8_method_6_code
def yX6_keepDraft : MethodName := ⟨RX6, "keepDraft", "()V"⟩
abbrev cX6_feed : ByteArray := prog_8_method_7_code
def yX6_feed : MethodName := ⟨RX6, "feed", "(I)I"⟩
abbrev cX6_end : ByteArray := prog_8_method_8_code
def yX6_end : MethodName := ⟨RX6, "end", "(I)I"⟩
abbrev cX6_requires : ByteArray := prog_8_method_9_code
def yX6_requires : MethodName := ⟨RX6, "requires", "(ZI)V"⟩
abbrev cX6_byteAt : ByteArray := prog_8_method_10_code
def yX6_byteAt : MethodName := ⟨RX6, "byteAt", "(I)I"⟩
abbrev cX6_is : ByteArray := prog_8_method_11_code
def yX6_is : MethodName := ⟨RX6, "is", "(IIIII)Z"⟩
abbrev cX6_endsIn : ByteArray := prog_8_method_12_code
def yX6_endsIn : MethodName := ⟨RX6, "endsIn", "(II)Z"⟩
abbrev cX6_lineNow : ByteArray := prog_8_method_13_code
def yX6_lineNow : MethodName := ⟨RX6, "lineNow", "()I"⟩
abbrev cX6_reads : ByteArray := prog_8_method_14_code
def yX6_reads : MethodName := ⟨RX6, "reads", "()V"⟩
abbrev cX6_readNumber : ByteArray := prog_8_method_15_code
def yX6_readNumber : MethodName := ⟨RX6, "readNumber", "(II)I"⟩
abbrev cX6_readLineOf : ByteArray := prog_8_method_16_code
def yX6_readLineOf : MethodName := ⟨RX6, "readLineOf", "(I)V"⟩
abbrev cX6_readLine : ByteArray := prog_8_method_17_code
def yX6_readLine : MethodName := ⟨RX6, "readLine", "()V"⟩
abbrev cX6_text : ByteArray := prog_8_method_18_code
def yX6_text : MethodName := ⟨RX6, "text", "()I"⟩
abbrev cX6_fault : ByteArray := prog_8_method_19_code
def yX6_fault : MethodName := ⟨RX6, "fault", "()I"⟩
abbrev cX6_isThing : ByteArray := prog_8_method_20_code
def yX6_isThing : MethodName := ⟨RX6, "isThing", "(I)Z"⟩
abbrev cX6_isMood : ByteArray := prog_8_method_21_code
def yX6_isMood : MethodName := ⟨RX6, "isMood", "(I)Z"⟩
abbrev cX6_isPart : ByteArray := prog_8_method_22_code
def yX6_isPart : MethodName := ⟨RX6, "isPart", "(I)Z"⟩
abbrev cX6_allAreIn : ByteArray := prog_8_method_23_code
def yX6_allAreIn : MethodName := ⟨RX6, "allAreIn", "()Z"⟩
abbrev cX6_starts : ByteArray := prog_8_method_24_code
def yX6_starts : MethodName := ⟨RX6, "starts", "()V"⟩
abbrev cX6_settles : ByteArray := prog_8_method_25_code
def yX6_settles : MethodName := ⟨RX6, "settles", "()V"⟩
abbrev cX6_of : ByteArray := prog_8_method_26_code
def yX6_of : MethodName := ⟨RX6, "of", "(II)I"⟩
abbrev cX6_becomesOf : ByteArray := prog_8_method_27_code
def yX6_becomesOf : MethodName := ⟨RX6, "becomesOf", "(III)V"⟩
abbrev cX6_bears : ByteArray := prog_8_method_28_code
def yX6_bears : MethodName := ⟨RX6, "bears", "(I)I"⟩
abbrev cX6_laidOn : ByteArray := prog_8_method_29_code
def yX6_laidOn : MethodName := ⟨RX6, "laidOn", "(I)I"⟩
abbrev cX6_isCrushed : ByteArray := prog_8_method_30_code
def yX6_isCrushed : MethodName := ⟨RX6, "isCrushed", "(I)Z"⟩
abbrev cX6_cheers : ByteArray := prog_8_method_31_code
def yX6_cheers : MethodName := ⟨RX6, "cheers", "(I)I"⟩
abbrev cX6_lasts : ByteArray := prog_8_method_32_code
def yX6_lasts : MethodName := ⟨RX6, "lasts", "(I)I"⟩
abbrev cX6_hourGoes : ByteArray := prog_8_method_33_code
def yX6_hourGoes : MethodName := ⟨RX6, "hourGoes", "(Z)V"⟩
abbrev cX6_hoursGo : ByteArray := prog_8_method_34_code
def yX6_hoursGo : MethodName := ⟨RX6, "hoursGo", "(I)V"⟩
abbrev cX6_moodBehind : ByteArray := prog_8_method_35_code
def yX6_moodBehind : MethodName := ⟨RX6, "moodBehind", "(I)I"⟩
abbrev cX6_outNow : ByteArray := prog_8_method_36_code
def yX6_outNow : MethodName := ⟨RX6, "outNow", "()I"⟩
abbrev cX6_allGoIn : ByteArray := prog_8_method_37_code
def yX6_allGoIn : MethodName := ⟨RX6, "allGoIn", "()V"⟩
abbrev cX6_rule : ByteArray := prog_8_method_38_code
def yX6_rule : MethodName := ⟨RX6, "rule", "(I)I"⟩
abbrev cX6_thing : ByteArray := prog_8_method_39_code
def yX6_thing : MethodName := ⟨RX6, "thing", "(II)I"⟩
abbrev cX6_becomes : ByteArray := prog_8_method_40_code
def yX6_becomes : MethodName := ⟨RX6, "becomes", "(II)I"⟩
abbrev cX6_alter : ByteArray := prog_8_method_41_code
def yX6_alter : MethodName := ⟨RX6, "alter", "(III)I"⟩
abbrev cX6_mood : ByteArray := prog_8_method_42_code
def yX6_mood : MethodName := ⟨RX6, "mood", "(I)I"⟩
abbrev cX6_tire : ByteArray := prog_8_method_43_code
def yX6_tire : MethodName := ⟨RX6, "tire", "(I)I"⟩
abbrev cX6_pack : ByteArray := prog_8_method_44_code
def yX6_pack : MethodName := ⟨RX6, "pack", "(III)I"⟩
abbrev cX6_strap : ByteArray := prog_8_method_45_code
def yX6_strap : MethodName := ⟨RX6, "strap", "()I"⟩
abbrev cX6_lift : ByteArray := prog_8_method_46_code
def yX6_lift : MethodName := ⟨RX6, "lift", "()I"⟩
abbrev cX6_hours : ByteArray := prog_8_method_47_code
def yX6_hours : MethodName := ⟨RX6, "hours", "(I)I"⟩
abbrev cX6_isFar : ByteArray := prog_8_method_48_code
def yX6_isFar : MethodName := ⟨RX6, "isFar", "(I)Z"⟩
abbrev cX6_runs : ByteArray := prog_8_method_49_code
def yX6_runs : MethodName := ⟨RX6, "runs", "(II)I"⟩
abbrev cX6_isGone : ByteArray := prog_8_method_50_code
def yX6_isGone : MethodName := ⟨RX6, "isGone", "(I)Z"⟩
abbrev cX6_gone : ByteArray := prog_8_method_51_code
def yX6_gone : MethodName := ⟨RX6, "gone", "(I)I"⟩
abbrev cX6_glad : ByteArray := prog_8_method_52_code
def yX6_glad : MethodName := ⟨RX6, "glad", "(I)I"⟩
abbrev cX6_startsJudging : ByteArray := prog_8_method_53_code
def yX6_startsJudging : MethodName := ⟨RX6, "startsJudging", "(I)V"⟩
abbrev cX6_judges : ByteArray := prog_8_method_54_code
def yX6_judges : MethodName := ⟨RX6, "judges", "(II)V"⟩
abbrev cX6_judged : ByteArray := prog_8_method_55_code
def yX6_judged : MethodName := ⟨RX6, "judged", "(I)I"⟩
abbrev cX6_lays : ByteArray := prog_8_method_56_code
def yX6_lays : MethodName := ⟨RX6, "lays", "(II)V"⟩
abbrev cX6_isRow : ByteArray := prog_8_method_57_code
def yX6_isRow : MethodName := ⟨RX6, "isRow", "(I)Z"⟩
abbrev cX6_findOrder : ByteArray := prog_8_method_58_code
def yX6_findOrder : MethodName := ⟨RX6, "findOrder", "()I"⟩
abbrev cX6_order : ByteArray := prog_8_method_59_code
def yX6_order : MethodName := ⟨RX6, "order", "(I)I"⟩
abbrev cX6_closes : ByteArray := prog_8_method_60_code
def yX6_closes : MethodName := ⟨RX6, "closes", "(I)V"⟩
abbrev cX6_leave : ByteArray := prog_8_method_61_code
def yX6_leave : MethodName := ⟨RX6, "leave", "(II)I"⟩
abbrev cX6_top : ByteArray := prog_8_method_62_code
def yX6_top : MethodName := ⟨RX6, "top", "(II)I"⟩
abbrev cX6_swap : ByteArray := prog_8_method_63_code
def yX6_swap : MethodName := ⟨RX6, "swap", "(II)I"⟩
abbrev cX6_need : ByteArray := prog_8_method_64_code
def yX6_need : MethodName := ⟨RX6, "need", "(III)I"⟩
abbrev cX6_kind : ByteArray := prog_8_method_65_code
def yX6_kind : MethodName := ⟨RX6, "kind", "(III)I"⟩
abbrev cX6_bear : ByteArray := prog_8_method_66_code
def yX6_bear : MethodName := ⟨RX6, "bear", "(II)I"⟩
abbrev cX6_common : ByteArray := prog_8_method_67_code
def yX6_common : MethodName := ⟨RX6, "common", "(JJ)J"⟩
abbrev cX6_told : ByteArray := prog_8_method_68_code
def yX6_told : MethodName := ⟨RX6, "told", "(JJI)J"⟩
abbrev cX6_findOdds : ByteArray := prog_8_method_69_code
def yX6_findOdds : MethodName := ⟨RX6, "findOdds", "(III)V"⟩
abbrev cX6_luck : ByteArray := prog_8_method_70_code
def yX6_luck : MethodName := ⟨RX6, "luck", "(IIII)J"⟩
abbrev cX6_mean : ByteArray := prog_8_method_71_code
def yX6_mean : MethodName := ⟨RX6, "mean", "(III)J"⟩
abbrev cX6_see : ByteArray := prog_8_method_72_code
def yX6_see : MethodName := ⟨RX6, "see", "(II)I"⟩
abbrev cX6_forget : ByteArray := prog_8_method_73_code
def yX6_forget : MethodName := ⟨RX6, "forget", "(I)I"⟩
abbrev cX6_isSoWith : ByteArray := prog_8_method_74_code
def yX6_isSoWith : MethodName := ⟨RX6, "isSoWith", "(II)Z"⟩
abbrev cX6_which : ByteArray := prog_8_method_75_code
def yX6_which : MethodName := ⟨RX6, "which", "(II)I"⟩
abbrev cX6_kinds : ByteArray := prog_8_method_76_code
def yX6_kinds : MethodName := ⟨RX6, "kinds", "(I)I"⟩
abbrev cX6_goods : ByteArray := prog_8_method_77_code
def yX6_goods : MethodName := ⟨RX6, "goods", "(I)I"⟩
abbrev cX6_ask : ByteArray := prog_8_method_78_code
def yX6_ask : MethodName := ⟨RX6, "ask", "(II)I"⟩
abbrev cX6_drift : ByteArray := prog_8_method_79_code
def yX6_drift : MethodName := ⟨RX6, "drift", "(III)I"⟩
abbrev cX6_copies : ByteArray := prog_8_method_80_code
def yX6_copies : MethodName := ⟨RX6, "copies", "(II)V"⟩
abbrev cX6_keep : ByteArray := prog_8_method_81_code
def yX6_keep : MethodName := ⟨RX6, "keep", "(I)I"⟩
abbrev cX6_back : ByteArray := prog_8_method_82_code
def yX6_back : MethodName := ⟨RX6, "back", "(I)I"⟩
abbrev cX6_isSheet : ByteArray := prog_8_method_83_code
def yX6_isSheet : MethodName := ⟨RX6, "isSheet", "(II)Z"⟩
abbrev cX6_sheet : ByteArray := prog_8_method_84_code
def yX6_sheet : MethodName := ⟨RX6, "sheet", "(III)I"⟩
abbrev cX6_lay : ByteArray := prog_8_method_85_code
def yX6_lay : MethodName := ⟨RX6, "lay", "(III)I"⟩
abbrev cX6_read : ByteArray := prog_8_method_86_code
def yX6_read : MethodName := ⟨RX6, "read", "(IIII)I"⟩
abbrev cX6_torn : ByteArray := prog_8_method_87_code
def yX6_torn : MethodName := ⟨RX6, "torn", "()I"⟩
abbrev cX6_sumOf : ByteArray := prog_8_method_88_code
def yX6_sumOf : MethodName := ⟨RX6, "sumOf", "(I)I"⟩
abbrev cX6_count : ByteArray := prog_8_method_89_code
def yX6_count : MethodName := ⟨RX6, "count", "(I)I"⟩
def RJ6 : String := "java/lang/Integer"
def TJ6 : u_T := fun k => match k with
  | _ => ("", "", "", false)
def tyJ6 : Nat → FieldType := fun k => match k with
  | _ => .int
abbrev wsJ60 : List Cond := u_ws RJ6 TJ6 0
theorem nmJ6 : ∀ a, a < 0 → ∀ b, b < 0 → a ≠ b → (TJ6 a).2.1 ≠ (TJ6 b).2.1 := by decide +kernel
theorem tyJ6_ok : ∀ k, k < 0 → parseFieldDescriptor (TJ6 k).2.2.1 = some (tyJ6 k) := by decide +kernel
abbrev cJ6_bitCount_0f7a4 : ByteArray := prog_9_method_49_code
def yJ6_bitCount_0f7a4 : MethodName := ⟨RJ6, "bitCount", "(I)I"⟩
def RJ9 : String := "java/lang/Math"
def TJ9 : u_T := fun k => match k with
  | _ => ("", "", "", false)
def tyJ9 : Nat → FieldType := fun k => match k with
  | _ => .int
abbrev wsJ90 : List Cond := u_ws RJ9 TJ9 0
theorem nmJ9 : ∀ a, a < 0 → ∀ b, b < 0 → a ≠ b → (TJ9 a).2.1 ≠ (TJ9 b).2.1 := by decide +kernel
theorem tyJ9_ok : ∀ k, k < 0 → parseFieldDescriptor (TJ9 k).2.2.1 = some (tyJ9 k) := by decide +kernel
abbrev cJ9_max_7cf53 : ByteArray := prog_10_method_65_code
def yJ9_max_7cf53 : MethodName := ⟨RJ9, "max", "(II)I"⟩
abbrev cJ9_min_7cf53 : ByteArray := prog_10_method_69_code
def yJ9_min_7cf53 : MethodName := ⟨RJ9, "min", "(II)I"⟩
def RJ0 : String := "java/lang/String"
def TJ0 : u_T := fun k => match k with
  | _ => ("", "", "", false)
def tyJ0 : Nat → FieldType := fun k => match k with
  | _ => .int
abbrev wsJ00 : List Cond := u_ws RJ0 TJ0 0
theorem nmJ0 : ∀ a, a < 0 → ∀ b, b < 0 → a ≠ b → (TJ0 a).2.1 ≠ (TJ0 b).2.1 := by decide +kernel
theorem tyJ0_ok : ∀ k, k < 0 → parseFieldDescriptor (TJ0 k).2.2.1 = some (tyJ0 k) := by decide +kernel
abbrev cJ0_length_8abf5 : ByteArray := prog_11_method_54_code
def yJ0_length_8abf5 : MethodName := ⟨RJ0, "length", "()I"⟩
abbrev cJ0_charAt_5068e : ByteArray := prog_11_method_56_code
def yJ0_charAt_5068e : MethodName := ⟨RJ0, "charAt", "(I)C"⟩
abbrev cJ0_coder_7d493 : ByteArray := prog_11_method_152_code
def yJ0_coder_7d493 : MethodName := ⟨RJ0, "coder", "()B"⟩
abbrev cJ0_isLatin1_aae02 : ByteArray := prog_11_method_154_code
def yJ0_isLatin1_aae02 : MethodName := ⟨RJ0, "isLatin1", "()Z"⟩
abbrev cJ0_checkIndex_df160 : ByteArray := prog_11_method_155_code
def yJ0_checkIndex_df160 : MethodName := ⟨RJ0, "checkIndex", "(II)V"⟩
def RJ1 : String := "java/lang/StringLatin1"
def TJ1 : u_T := fun k => match k with
  | _ => ("", "", "", false)
def tyJ1 : Nat → FieldType := fun k => match k with
  | _ => .int
abbrev wsJ10 : List Cond := u_ws RJ1 TJ1 0
theorem nmJ1 : ∀ a, a < 0 → ∀ b, b < 0 → a ≠ b → (TJ1 a).2.1 ≠ (TJ1 b).2.1 := by decide +kernel
theorem tyJ1_ok : ∀ k, k < 0 → parseFieldDescriptor (TJ1 k).2.2.1 = some (tyJ1 k) := by decide +kernel
abbrev cJ1_charAt_3b067 : ByteArray := prog_12_method_2_code
def yJ1_charAt_3b067 : MethodName := ⟨RJ1, "charAt", "([BI)C"⟩
def RJ2 : String := "java/lang/StringUTF16"
def TJ2 : u_T := fun k => match k with
  | _ => ("", "", "", false)
def tyJ2 : Nat → FieldType := fun k => match k with
  | _ => .int
abbrev wsJ20 : List Cond := u_ws RJ2 TJ2 0
theorem nmJ2 : ∀ a, a < 0 → ∀ b, b < 0 → a ≠ b → (TJ2 a).2.1 ≠ (TJ2 b).2.1 := by decide +kernel
theorem tyJ2_ok : ∀ k, k < 0 → parseFieldDescriptor (TJ2 k).2.2.1 = some (tyJ2 k) := by decide +kernel
abbrev cJ2_getChar_3b067 : ByteArray := prog_13_method_5_code
def yJ2_getChar_3b067 : MethodName := ⟨RJ2, "getChar", "([BI)C"⟩
abbrev cJ2_length_9d52b : ByteArray := prog_13_method_6_code
def yJ2_length_9d52b : MethodName := ⟨RJ2, "length", "([B)I"⟩
abbrev cJ2_charAt_3b067 : ByteArray := prog_13_method_83_code
def yJ2_charAt_3b067 : MethodName := ⟨RJ2, "charAt", "([BI)C"⟩
abbrev cJ2_checkIndex_2214a : ByteArray := prog_13_method_91_code
def yJ2_checkIndex_2214a : MethodName := ⟨RJ2, "checkIndex", "(I[B)V"⟩
def RJ10 : String := "java/lang/System"
def TJ10 : u_T := fun k => match k with
  | _ => ("", "", "", false)
def tyJ10 : Nat → FieldType := fun k => match k with
  | _ => .int
abbrev wsJ100 : List Cond := u_ws RJ10 TJ10 0
theorem nmJ10 : ∀ a, a < 0 → ∀ b, b < 0 → a ≠ b → (TJ10 a).2.1 ≠ (TJ10 b).2.1 := by decide +kernel
theorem tyJ10_ok : ∀ k, k < 0 → parseFieldDescriptor (TJ10 k).2.2.1 = some (tyJ10 k) := by decide +kernel
def RJ3 : String := "jdk/internal/util/Preconditions"
def TJ3 : u_T := fun k => match k with
  | _ => ("", "", "", false)
def tyJ3 : Nat → FieldType := fun k => match k with
  | _ => .int
abbrev wsJ30 : List Cond := u_ws RJ3 TJ3 0
theorem nmJ3 : ∀ a, a < 0 → ∀ b, b < 0 → a ≠ b → (TJ3 a).2.1 ≠ (TJ3 b).2.1 := by decide +kernel
theorem tyJ3_ok : ∀ k, k < 0 → parseFieldDescriptor (TJ3 k).2.2.1 = some (tyJ3 k) := by decide +kernel
abbrev cJ3_checkIndex_8e157 : ByteArray := prog_15_method_11_code
def yJ3_checkIndex_8e157 : MethodName := ⟨RJ3, "checkIndex", "(IILjava/util/function/BiFunction;)I"⟩
def RL : String := "HamperDaysLaw"
abbrev cL_law : ByteArray := code
def yL_law : MethodName := ⟨RL, "law", "([I)Z"⟩
end
section
/-! THE PURE MACHINE: a memory of ints and longs over a fixed shape of cells; 'hd_Go' says of a frame of a method that it returns, with a post over answer and memory. -/
/-- the words that last -/
def hd_tbl : List Cond := lw_tbl.filter goodWord
theorem hd_good : ∀ w ∈ hd_tbl, goodWord w = true := fun w h => (List.mem_filter.mp h).2
theorem hd_in {w : Cond} (i : Nat) (h : lw_tbl[i]? = some w) (hg : goodWord w = true) : w ∈ hd_tbl := List.mem_filter.mpr ⟨List.mem_of_getElem? h, hg⟩
abbrev hd_M : Type := Nat → Nat → Int32
abbrev hd_N : Type := Nat → Nat → Int64
abbrev hd_L : Type := List (Option Value)
abbrev hd_S : Type := (Nat × Nat) ⊕ ((Nat × List Nat) ⊕ (Nat × List (Nat × Nat)))
abbrev hd_G : Type := va_G × (Nat → Nat) × (Nat → ClassId)
/-- an instruction, where the next one lies, two numbers, its constants, its cases, the places of its words -/
abbrev hd_O : Type := Instr × Nat × Nat × Nat × Int32 × Int64 × List (Int32 × Nat) × List Nat
abbrev hd_Q : Type := Option Value → hd_M → hd_N → Prop
abbrev hd_cl : List vw_C := [(RX0, TX0, 10), (RX1, TX1, 3), (RX2, TX2, 3), (RX3, TX3, 3), (RX4, TX4, 10), (RX5, TX5, 10), (RX6, TX6, 28)]
abbrev hd_tf : List FieldType := [.int, .byte, .boolean, .object "HamperDays$Image", .object "HamperDays$Sheet"]
def hd_tys (dA : Nat → ClassId) : List (ClassId × FieldType) := [(dA 0, .int), (dA 1, .byte), (dA 2, .boolean), (dA 3, .object "HamperDays$Image"), (dA 4, .object "HamperDays$Sheet")]
/-- every cell of the two systems; a field is 0 (an int), 1 (a long), or 2 with the number of the cell that it holds -/
def hd_shp : List hd_S :=
  [.inr (.inr (5, [(2, 1), (2, 7), (2, 13), (2, 16), (2, 18), (2, 39), (2, 48), (2, 49), (2, 50), (0, 0)])),
   .inr (.inr (0, [(2, 2), (2, 3), (2, 4), (2, 5), (2, 6), (0, 0), (0, 0), (0, 0), (0, 0), (0, 0)])), .inl (0, 7), .inl (0, 7), .inl (0, 7), .inl (0, 7), .inl (0, 7),
   .inr (.inr (0, [(2, 8), (2, 9), (2, 10), (2, 11), (2, 12), (0, 0), (0, 0), (0, 0), (0, 0), (0, 0)])), .inl (0, 7), .inl (0, 7), .inl (0, 7), .inl (0, 7), .inl (0, 7),
   .inr (.inr (2, [(2, 14), (2, 15), (0, 0)])), .inl (0, 6), .inl (0, 6),
   .inr (.inr (4, [(2, 17), (0, 0), (0, 0), (0, 0), (0, 0), (0, 0), (0, 0), (0, 0), (0, 0), (0, 0)])), .inl (1, 160),
   .inr (.inl (3, [19, 29])),
   .inr (.inr (1, [(2, 20), (2, 26), (0, 0)])),
   .inr (.inr (0, [(2, 21), (2, 22), (2, 23), (2, 24), (2, 25), (0, 0), (0, 0), (0, 0), (0, 0), (0, 0)])), .inl (0, 7), .inl (0, 7), .inl (0, 7), .inl (0, 7), .inl (0, 7),
   .inr (.inr (2, [(2, 27), (2, 28), (0, 0)])), .inl (0, 6), .inl (0, 6),
   .inr (.inr (1, [(2, 30), (2, 36), (0, 0)])),
   .inr (.inr (0, [(2, 31), (2, 32), (2, 33), (2, 34), (2, 35), (0, 0), (0, 0), (0, 0), (0, 0), (0, 0)])), .inl (0, 7), .inl (0, 7), .inl (0, 7), .inl (0, 7), .inl (0, 7),
   .inr (.inr (2, [(2, 37), (2, 38), (0, 0)])), .inl (0, 6), .inl (0, 6),
   .inr (.inl (4, [40, 42, 44, 46])),
   .inr (.inr (3, [(2, 41), (0, 0), (0, 0)])), .inl (0, 40), .inr (.inr (3, [(2, 43), (0, 0), (0, 0)])), .inl (0, 40), .inr (.inr (3, [(2, 45), (0, 0), (0, 0)])), .inl (0, 40), .inr (.inr (3, [(2, 47), (0, 0), (0, 0)])), .inl (0, 40),
   .inl (0, 5), .inl (0, 5), .inl (0, 210),
   .inr (.inr (6, [(2, 52), (2, 53), (2, 54), (2, 55), (0, 0), (0, 0), (2, 56), (0, 0), (0, 0), (0, 0), (0, 0), (0, 0), (0, 0), (0, 0), (0, 0), (0, 0), (2, 57), (2, 58), (1, 0), (1, 0), (1, 0), (2, 59), (2, 60), (2, 61), (2, 62), (2, 63), (0, 0), (2, 64)])),
   .inl (0, 138), .inl (0, 46), .inl (2, 2), .inl (0, 46), .inl (0, 160), .inl (0, 5), .inl (0, 5), .inl (0, 21), .inl (0, 210), .inl (0, 4), .inl (0, 4), .inl (0, 160), .inl (0, 46)]
def hd_v (ad : Nat → Nat) : Value → Value
  | .ref k => .ref (ad k)
  | v => v
def hd_f (ad : Nat → Nat) (M : hd_M) (N : hd_N) (k j : Nat) (r : Nat × Nat) : Value := match r.1 with
  | 0 => .int (M k j)
  | 1 => .long (N k j)
  | _ => .ref (ad r.2)
def hd_e (G : hd_G) (M : hd_M) (N : hd_N) (k : Nat) : hd_S → Nat × va_E
  | .inl (t, n) => (G.2.1 k, .inl (G.2.2 t, n, .inl (M k)))
  | .inr (.inl (t, rs)) => (G.2.1 k, .inl (G.2.2 t, rs.length, .inr (.inr (.inr (.inr (fun i => rs[i]?.map G.2.1))))))
  | .inr (.inr (ci, fs)) => (G.2.1 k, .inr (ci, fs.mapIdx (hd_f G.2.1 M N k)))
def hd_w (G : hd_G) (M : hd_M) (N : hd_N) : va_W := hd_shp.mapIdx (hd_e G M N)
def hd_u (M : hd_M) (k j : Nat) (x : Int32) : hd_M := fun a b => if a = k ∧ b = j then x else M a b
def hd_uN (N : hd_N) (k j : Nat) (x : Int64) : hd_N := fun a b => if a = k ∧ b = j then x else N a b
theorem hd_v_cat (ad : Nat → Nat) (v : Value) : (hd_v ad v).category = v.category := by cases v <;> rfl
theorem hd_w_at {G : hd_G} {M : hd_M} {N : hd_N} {k : Nat} {sh : hd_S} (h : hd_shp[k]? = some sh) : (hd_w G M N)[k]? = some (hd_e G M N k sh) := by
  unfold hd_w
  rw [List.getElem?_mapIdx, h]
  rfl
theorem hd_e_ad (G : hd_G) (M : hd_M) (N : hd_N) (k : Nat) (sh : hd_S) : (hd_e G M N k sh).1 = G.2.1 k := by
  rcases sh with ⟨t, n⟩ | ⟨t, rs⟩ | ⟨ci, fs⟩ <;> rfl
/-- the world's cells apart and of a kind, whatever they hold -/
theorem hd_D_any {G : hd_G} {A : Nat → Prop} {M M' : hd_M} {N N' : hd_N} (h : va_D A (hd_w G M N)) : va_D A (hd_w G M' N') := by
  have key : ∀ (i : Nat) (p : Nat × va_E), (hd_w G M' N')[i]? = some p → ∃ q : Nat × va_E, (hd_w G M N)[i]? = some q ∧ q.1 = p.1 := by
    intro i p hp
    unfold hd_w at hp ⊢
    rw [List.getElem?_mapIdx] at hp ⊢
    cases hs : hd_shp[i]? with
    | none => rw [hs] at hp; cases hp
    | some sh =>
      rw [hs] at hp
      cases hp
      exact ⟨_, rfl, by rw [hd_e_ad, hd_e_ad]⟩
  refine ⟨fun i j p q hp hq e => ?_, fun k q hq => ?_⟩
  · obtain ⟨p', h1, e1⟩ := key i p hp
    obtain ⟨q', h2, e2⟩ := key j q hq
    exact h.1 i j p' q' h1 h2 (by rw [e1, e2, e])
  · obtain ⟨q', h1, e1⟩ := key k q hq
    rw [← e1]
    exact h.2 k q' h1
theorem hd_w_set {G : hd_G} {M M' : hd_M} {N N' : hd_N} {k : Nat} {sh : hd_S} (h : hd_shp[k]? = some sh) (ho : ∀ a b, a ≠ k → M' a b = M a b) (hoN : ∀ a b, a ≠ k → N' a b = N a b) : (hd_w G M N).set k (hd_e G M' N' k sh) = hd_w G M' N' := by
  apply List.ext_getElem?
  intro i
  rw [List.getElem?_set]
  unfold hd_w
  rw [List.length_mapIdx, List.getElem?_mapIdx, List.getElem?_mapIdx]
  by_cases hi : k = i
  · subst hi
    rw [if_pos rfl, h]
    have hl : k < hd_shp.length := by
      rcases Nat.lt_or_ge k hd_shp.length with q | q
      · exact q
      · rw [List.getElem?_eq_none q] at h; cases h
    rw [if_pos hl]
    rfl
  · rw [if_neg hi]
    cases hs : hd_shp[i]? with
    | none => rfl
    | some s2 =>
      have hne : i ≠ k := fun e => hi e.symm
      have e1 : M' i = M i := funext fun b => ho i b hne
      rcases s2 with ⟨t, n⟩ | ⟨t, rs⟩ | ⟨ci, fs⟩
      · show some (hd_e G M N i _) = some (hd_e G M' N' i _)
        simp only [hd_e, e1]
      · rfl
      · show some (hd_e G M N i _) = some (hd_e G M' N' i _)
        simp only [hd_e]
        have e2 : hd_f G.2.1 M N i = hd_f G.2.1 M' N' i := by
          funext j r
          obtain ⟨z, r⟩ := r
          match z with
          | 0 => simp only [hd_f, e1]
          | 1 => simp only [hd_f, hoN i j hne]
          | z + 2 => rfl
        rw [e2]
theorem hd_fs_set {ad : Nat → Nat} {M : hd_M} {N : hd_N} {k j : Nat} {fs : List (Nat × Nat)} {r0 : Nat} {x : Int32} (h : fs[j]? = some (0, r0)) : (fs.mapIdx (hd_f ad M N k)).set j (.int x) = fs.mapIdx (hd_f ad (hd_u M k j x) N k) := by
  apply List.ext_getElem?
  intro i
  rw [List.getElem?_set, List.length_mapIdx, List.getElem?_mapIdx, List.getElem?_mapIdx]
  by_cases hi : j = i
  · subst hi
    have hl : j < fs.length := by
      rcases Nat.lt_or_ge j fs.length with q | q
      · exact q
      · rw [List.getElem?_eq_none q] at h; cases h
    rw [if_pos rfl, if_pos hl, h]
    simp [hd_f, hd_u]
  · rw [if_neg hi]
    cases hs : fs[i]? with
    | none => rfl
    | some r =>
      obtain ⟨z, r⟩ := r
      match z with
      | 0 => simp [hd_f, hd_u, show ¬ i = j from fun e => hi e.symm]
      | 1 => rfl
      | z + 2 => rfl
theorem hd_fs_setN {ad : Nat → Nat} {M : hd_M} {N : hd_N} {k j : Nat} {fs : List (Nat × Nat)} {r0 : Nat} {x : Int64} (h : fs[j]? = some (1, r0)) : (fs.mapIdx (hd_f ad M N k)).set j (.long x) = fs.mapIdx (hd_f ad M (hd_uN N k j x) k) := by
  apply List.ext_getElem?
  intro i
  rw [List.getElem?_set, List.length_mapIdx, List.getElem?_mapIdx, List.getElem?_mapIdx]
  by_cases hi : j = i
  · subst hi
    have hl : j < fs.length := by
      rcases Nat.lt_or_ge j fs.length with q | q
      · exact q
      · rw [List.getElem?_eq_none q] at h; cases h
    rw [if_pos rfl, if_pos hl, h]
    simp [hd_f, hd_uN]
  · rw [if_neg hi]
    cases hs : fs[i]? with
    | none => rfl
    | some r =>
      obtain ⟨z, r⟩ := r
      match z with
      | 0 => rfl
      | 1 => simp [hd_f, hd_uN, show ¬ i = j from fun e => hi e.symm]
      | z + 2 => rfl
theorem hd_u_row (M : hd_M) (k j : Nat) (x : Int32) : hd_u M k j x k = upd (M k) j x := by
  funext b
  simp [hd_u, upd]
/-! locals, by place -/
def hd_as (ad : Nat → Nat) (L : hd_L) : List (Nat × Value) := (List.range L.length).filterMap (fun i => match L[i]? with | some (some v) => some (i, hd_v ad v) | _ => none)
theorem hd_as_mem {ad : Nat → Nat} {L : hd_L} {q : Nat × Value} : q ∈ hd_as ad L ↔ ∃ v, L[q.1]? = some (some v) ∧ q.2 = hd_v ad v := by
  unfold hd_as
  rw [List.mem_filterMap]
  constructor
  · rintro ⟨i, -, h⟩
    split at h
    · next v hv => cases h; exact ⟨v, hv, rfl⟩
    · cases h
  · rintro ⟨v, hv, e⟩
    refine ⟨q.1, ?_, ?_⟩
    · rw [List.mem_range]
      rcases Nat.lt_or_ge q.1 L.length with h | h
      · exact h
      · rw [List.getElem?_eq_none h] at hv; cases hv
    · rw [hv]
      simp only [← e]
def hd_lo (ls : Array Slot) (nL : Nat) (ad : Nat → Nat) (L : hd_L) : Prop := L.length ≤ nL ∧ lv_has ls nL (hd_as ad L)
theorem hd_lo.at {ls : Array Slot} {nL : Nat} {ad : Nat → Nat} {L : hd_L} (h : hd_lo ls nL ad L) {i : Nat} {v : Value} (hi : L[i]? = some (some v)) : ls[i]? = some (.val (hd_v ad v)) := h.2.2.2 (i, hd_v ad v) (hd_as_mem.mpr ⟨v, hi, rfl⟩)
theorem hd_lo.of {ls : Array Slot} {nL : Nat} {ad : Nat → Nat} {L : hd_L} {lv : List (Nat × Value)} (hL : L.length ≤ nL) (h : lv_has ls nL lv) (hs : ∀ (i : Nat) (v : Value), L[i]? = some (some v) → (i, hd_v ad v) ∈ lv) : hd_lo ls nL ad L := by
  refine ⟨hL, h.1, h.2.1, fun q hq => ?_⟩
  obtain ⟨v, hv, e⟩ := hd_as_mem.mp hq
  have := h.2.2 _ (hs q.1 v hv)
  rw [e]
  exact this
/-- a frame may know less of its locals -/
theorem hd_lo.less {ls : Array Slot} {nL : Nat} {ad : Nat → Nat} {L L' : hd_L} (h : hd_lo ls nL ad L) (hl : L'.length ≤ L.length) (hs : ∀ (i : Nat) (v : Value), L'[i]? = some (some v) → L[i]? = some (some v)) : hd_lo ls nL ad L' :=
  hd_lo.of (Nat.le_trans hl h.1) h.2 (fun i v hv => hd_as_mem.mpr ⟨v, hs i v hv, rfl⟩)
theorem hd_w_set2 {G : hd_G} {M M' : hd_M} {N N' : hd_N} {k : Nat} {sh : hd_S} {x : Nat × va_E} (hx : x = hd_e G M' N' k sh) (h : hd_shp[k]? = some sh) (ho : ∀ a b, a ≠ k → M' a b = M a b) (hoN : ∀ a b, a ≠ k → N' a b = N a b) : (hd_w G M N).set k x = hd_w G M' N' := by
  rw [hx]
  exact hd_w_set h ho hoN
end
section
/-! WHAT A FRAME COMES TO: the judgement, and a row for each instruction -/
/-- the literals of the system: at place i of java/lang/String's, at 1000 + i in the addresses; their bytes at 1100 + i -/
def hd_tx : List (Nat × String) := [(105, "plain"), (111, "glass"), (113, "shower"), (115, "view"), (117, "mood"), (118, "tire")]
/-- the one link to a nest mate's method (Tape calls HamperDays.isWithin) -/
def hd_nx : Nat := 95
/-- a method: its own class, its name, its bytes, locals, answer, height above the leaves, instructions -/
abbrev hd_I : Type := String × MethodName × ByteArray × Nat × Option FieldType × Nat × List (Nat × hd_O)
def hd_rm (d : Nat) : Room := { frames := d, cells := 0, slots := 0, locals := 36 * d }
/-- the surroundings of a run: strings and statics that no one writes -/
def hd_X (G : hd_G) (A : Nat → Prop) (s : State) : Prop := va_Z "java/lang/String" "COMPACT_STRINGS" "Z" (.int 1) A s s.heap ∧ vk_S 6 [5, 5, 6, 4, 4, 4] [[112, 108, 97, 105, 110], [103, 108, 97, 115, 115], [115, 104, 111, 119, 101, 114], [118, 105, 101, 119], [109, 111, 111, 100], [116, 105, 114, 101]] (fun i => G.2.1 (1000 + i)) (fun i => G.2.1 (1100 + i)) A s s.heap ∧ (∀ i : Nat, ∀ q : Nat × String, hd_tx[i]? = some q → vk_R RX4 q.1 q.2 (G.2.1 (1000 + i)) s) ∧ va_Nw (.methodLinkNest RX4 hd_nx yX5_isWithin RX5) s
/-- the machine, the method's own facts, the words, the classes -/
def hd_C (I : hd_I) (p : Program) (s : State) (m : MethodId) (args : Array Value) (meth : Method) (c : Code) (G : hd_G) (A : Nat → Prop) : Prop :=
  p.tables.exec = Jvm.exec ∧ c.code = I.2.2.1 ∧ c.maxLocals = I.2.2.2.1 ∧ meth.sig.returnType = I.2.2.2.2.1 ∧ s.vm.findClass I.1 = some m.cls ∧ (∀ w ∈ hd_tbl, w.before args s = true) ∧ meth.locks = false ∧ va_K G.1 hd_cl (hd_tys G.2.2) s ∧ hd_X G A s
/-- the heap -/
def hd_H (G : hd_G) (A : Nat → Prop) (M : hd_M) (N : hd_N) (s : State) (H : Heap) (locs : List Loc) : Prop :=
  va_P G.1 hd_cl (hd_w G M N) H ∧ va_D A (hd_w G M N) ∧ va_S A s.heap H locs
/-- a method's end -/
def hd_E (G : hd_G) (A : Nat → Prop) (Q : hd_Q) : Array Value → State → Outcome → State → Prop := fun _ st oc t =>
  (∃ (r : Option Value) (M : hd_M) (N : hd_N), oc = .returned (r.map (hd_v G.2.1)) ∧ Q r M N ∧ va_P G.1 hd_cl (hd_w G M N) t.heap) ∧ va_F A st t
def hd_Go (I : hd_I) (pc : Nat) (lv : hd_L) (st : List Value) (M : hd_M) (N : hd_N) (Q : hd_Q) : Prop :=
  ∀ (p : Program) (l : Launch) (e : Env) (s : State) (m : MethodId) (args : Array Value) (below : List Frame) (meth : Method) (c : Code) (H : Heap) (locs : List Loc) (G : hd_G) (A : Nat → Prop) (ls : Array Slot),
    hd_C I p s m args meth c G A → hd_H G A M N s H locs → hd_lo ls I.2.2.2.1 G.2.1 lv →
    W p l e (hd_rm I.2.2.2.2.2.1) s m args below meth c H locs 0 0 (MQ below (hd_E G A Q) args s 0 0 A) (F0 m pc ls (st.map (hd_v G.2.1)))
section
variable {I : hd_I} {pc : Nat} {lv : hd_L} {st : List Value} {M : hd_M} {N : hd_N} {Q : hd_Q}
/-- a frame may know less -/
theorem hd_Go.less {lv' : hd_L} (hl : lv'.length ≤ lv.length) (hs : ∀ (i : Nat) (v : Value), lv'[i]? = some (some v) → lv[i]? = some (some v)) (h : hd_Go I pc lv' st M N Q) : hd_Go I pc lv st M N Q :=
  fun p l e s m args below meth c H locs G A ls C hH hL => h p l e s m args below meth c H locs G A ls C hH (hL.less hl hs)
theorem hd_Go.post {Q' : hd_Q} (hq : ∀ r M N, Q' r M N → Q r M N) (h : hd_Go I pc lv st M N Q') : hd_Go I pc lv st M N Q := by
  intro p l e s m args below meth c H locs G A ls C hH hL T hT X
  obtain ⟨t, a, o, h1, h2, ⟨⟨r, M1, N1, h3, h4, h5⟩, h6⟩, h7⟩ := h p l e s m args below meth c H locs G A ls C hH hL T hT X
  exact ⟨t, a, o, h1, h2, ⟨⟨r, M1, N1, h3, hq _ _ _ h4, h5⟩, h6⟩, h7⟩
theorem hd_iconst {n : Int} {v : Int32} (hd : decode I.2.2.1 pc = .ok (.iconst n, 1)) (hv : Int32.ofInt n = v) (h : hd_Go I (pc + 1) lv (.int v :: st) M N Q) : hd_Go I pc lv st M N Q :=
  fun p l e s m args below meth c H locs G A ls C hH hL => lv_iconst C.1 C.2.1 hd hv (h p l e s m args below meth c H locs G A ls C hH hL)
theorem hd_bipush {n : Int} {v : Int32} (hd : decode I.2.2.1 pc = .ok (.bipush n, 2)) (hv : (Int8.ofInt n).toInt32 = v) (h : hd_Go I (pc + 2) lv (.int v :: st) M N Q) : hd_Go I pc lv st M N Q :=
  fun p l e s m args below meth c H locs G A ls C hH hL => lv_bipush C.1 C.2.1 hd hv (h p l e s m args below meth c H locs G A ls C hH hL)
theorem hd_sipush {n : Int} {v : Int32} (hd : decode I.2.2.1 pc = .ok (.sipush n, 3)) (hv : (Int16.ofInt n).toInt32 = v) (h : hd_Go I (pc + 3) lv (.int v :: st) M N Q) : hd_Go I pc lv st M N Q :=
  fun p l e s m args below meth c H locs G A ls C hH hL => lv_sipush C.1 C.2.1 hd hv (h p l e s m args below meth c H locs G A ls C hH hL)
theorem hd_lconst {n : Fin 2} {v : Int64} (hd : decode I.2.2.1 pc = .ok (.lconst n, 1)) (hv : Int64.ofNat (n : Nat) = v) (h : hd_Go I (pc + 1) lv (.long v :: st) M N Q) : hd_Go I pc lv st M N Q :=
  fun p l e s m args below meth c H locs G A ls C hH hL => lv_lconst C.1 C.2.1 hd hv (h p l e s m args below meth c H locs G A ls C hH hL)
theorem hd_ldc {index : Nat} {v : Int32} (hd : decode I.2.2.1 pc = .ok (.ldc index, 2)) (hc : Cond.constant I.1 index v ∈ hd_tbl) (h : hd_Go I (pc + 2) lv (.int v :: st) M N Q) : hd_Go I pc lv st M N Q :=
  fun p l e s m args below meth c H locs G A ls C hH hL => lv_ldc C.1 C.2.1 C.2.2.2.2.1 (C.2.2.2.2.2.1 _ hc) hd (h p l e s m args below meth c H locs G A ls C hH hL)
theorem hd_ldcw {index : Nat} {v : Int32} (hd : decode I.2.2.1 pc = .ok (.ldc_w index, 3)) (hc : Cond.constant I.1 index v ∈ hd_tbl) (h : hd_Go I (pc + 3) lv (.int v :: st) M N Q) : hd_Go I pc lv st M N Q :=
  fun p l e s m args below meth c H locs G A ls C hH hL => lv_ldcw C.1 C.2.1 C.2.2.2.2.1 (C.2.2.2.2.2.1 _ hc) hd (h p l e s m args below meth c H locs G A ls C hH hL)
theorem hd_ldc2 {index : Nat} {v : Int64} (hd : decode I.2.2.1 pc = .ok (.ldc2_w index, 3)) (hc : Cond.constantLong I.1 index v ∈ hd_tbl) (h : hd_Go I (pc + 3) lv (.long v :: st) M N Q) : hd_Go I pc lv st M N Q :=
  fun p l e s m args below meth c H locs G A ls C hH hL => lv_ldc2 C.1 C.2.1 C.2.2.2.2.1 (C.2.2.2.2.2.1 _ hc) hd (h p l e s m args below meth c H locs G A ls C hH hL)
theorem hd_iload_n {k : Fin 4} {i : Nat} {x : Int32} (hd : decode I.2.2.1 pc = .ok (.iload_n k, 1)) (hi : (k : Nat) = i) (hx : lv[i]? = some (some (.int x))) (h : hd_Go I (pc + 1) lv (.int x :: st) M N Q) : hd_Go I pc lv st M N Q :=
  fun p l e s m args below meth c H locs G A ls C hH hL => lv_iload_n C.1 C.2.1 hd hi (hL.at hx) (h p l e s m args below meth c H locs G A ls C hH hL)
theorem hd_iload {i : Nat} {x : Int32} (hd : decode I.2.2.1 pc = .ok (.iload i, 2)) (hx : lv[i]? = some (some (.int x))) (h : hd_Go I (pc + 2) lv (.int x :: st) M N Q) : hd_Go I pc lv st M N Q :=
  fun p l e s m args below meth c H locs G A ls C hH hL => lv_iload C.1 C.2.1 hd (hL.at hx) (h p l e s m args below meth c H locs G A ls C hH hL)
theorem hd_lload_n {k : Fin 4} {i : Nat} {x : Int64} (hd : decode I.2.2.1 pc = .ok (.lload_n k, 1)) (hi : (k : Nat) = i) (hx : lv[i]? = some (some (.long x))) (h : hd_Go I (pc + 1) lv (.long x :: st) M N Q) : hd_Go I pc lv st M N Q :=
  fun p l e s m args below meth c H locs G A ls C hH hL => lv_lload_n C.1 C.2.1 hd hi (hL.at hx) (h p l e s m args below meth c H locs G A ls C hH hL)
theorem hd_lload {i : Nat} {x : Int64} (hd : decode I.2.2.1 pc = .ok (.lload i, 2)) (hx : lv[i]? = some (some (.long x))) (h : hd_Go I (pc + 2) lv (.long x :: st) M N Q) : hd_Go I pc lv st M N Q :=
  fun p l e s m args below meth c H locs G A ls C hH hL => lv_lload C.1 C.2.1 hd (hL.at hx) (h p l e s m args below meth c H locs G A ls C hH hL)
theorem hd_aload_n {k : Fin 4} {i : Nat} {x : Nat} (hd : decode I.2.2.1 pc = .ok (.aload_n k, 1)) (hi : (k : Nat) = i) (hx : lv[i]? = some (some (.ref x))) (h : hd_Go I (pc + 1) lv (.ref x :: st) M N Q) : hd_Go I pc lv st M N Q :=
  fun p l e s m args below meth c H locs G A ls C hH hL => lv_aload_n C.1 C.2.1 hd hi (hL.at hx) (h p l e s m args below meth c H locs G A ls C hH hL)
theorem hd_aload {i : Nat} {x : Nat} (hd : decode I.2.2.1 pc = .ok (.aload i, 2)) (hx : lv[i]? = some (some (.ref x))) (h : hd_Go I (pc + 2) lv (.ref x :: st) M N Q) : hd_Go I pc lv st M N Q :=
  fun p l e s m args below meth c H locs G A ls C hH hL => lv_aload C.1 C.2.1 hd (hL.at hx) (h p l e s m args below meth c H locs G A ls C hH hL)
/-- a local is set: what is known behind it -/
theorem hd_lo.set {ls : Array Slot} {nL : Nat} {ad : Nat → Nat} {lv : hd_L} {i : Nat} {v : Value} (hL : hd_lo ls nL ad lv) (hp : ∀ u : Value, lv[i - 1]? = some (some u) → 0 < i → u.category ≠ 2) {ls' : Array Slot} (h : lv_has ls' nL ((i, hd_v ad v) :: (hd_as ad lv).filter (fun q => !(q.1 == i) && !(q.1 + 1 == i && q.2.category == 2)))) : hd_lo ls' nL ad (lv.set i (some v)) := by
  refine hd_lo.of (by rw [List.length_set]; exact hL.1) h (fun j u hu => ?_)
  rw [List.getElem?_set] at hu
  by_cases hj : i = j
  · subst hj
    rw [if_pos rfl] at hu
    split at hu
    · cases hu; exact List.mem_cons_self
    · cases hu
  · rw [if_neg hj] at hu
    refine List.mem_cons_of_mem _ (List.mem_filter.mpr ⟨hd_as_mem.mpr ⟨u, hu, rfl⟩, ?_⟩)
    have h1 : (j == i) = false := beq_eq_false_iff_ne.mpr (fun e => hj e.symm)
    have h2 : ((j + 1 == i) && ((hd_v ad u).category == 2)) = false := by
      by_cases hji : j + 1 = i
      · have hc := hp u (by rw [show i - 1 = j by omega]; exact hu) (by omega)
        rw [hd_v_cat]
        simp [hc]
      · simp [hji]
    simp [h1, h2]
theorem hd_lo.set2 {ls : Array Slot} {nL : Nat} {ad : Nat → Nat} {lv : hd_L} {i : Nat} {v : Value} (hL : hd_lo ls nL ad lv) (hp : ∀ u : Value, lv[i - 1]? = some (some u) → 0 < i → u.category ≠ 2) {ls' : Array Slot} (h : lv_has ls' nL ((i, hd_v ad v) :: (hd_as ad lv).filter (fun q => !(q.1 == i) && (!(q.1 == i + 1) && !(q.1 + 1 == i && q.2.category == 2))))) : hd_lo ls' nL ad ((lv.set i (some v)).set (i + 1) none) := by
  refine hd_lo.of (by rw [List.length_set, List.length_set]; exact hL.1) h (fun j u hu => ?_)
  rw [List.getElem?_set] at hu
  by_cases hk : i + 1 = j
  · rw [if_pos hk] at hu
    split at hu <;> cases hu
  rw [if_neg hk, List.getElem?_set] at hu
  by_cases hj : i = j
  · subst hj
    rw [if_pos rfl] at hu
    split at hu
    · cases hu; exact List.mem_cons_self
    · cases hu
  · rw [if_neg hj] at hu
    refine List.mem_cons_of_mem _ (List.mem_filter.mpr ⟨hd_as_mem.mpr ⟨u, hu, rfl⟩, ?_⟩)
    have h1 : (j == i) = false := beq_eq_false_iff_ne.mpr (fun e => hj e.symm)
    have h3 : (j == i + 1) = false := beq_eq_false_iff_ne.mpr (fun e => hk e.symm)
    have h2 : ((j + 1 == i) && ((hd_v ad u).category == 2)) = false := by
      by_cases hji : j + 1 = i
      · have hc := hp u (by rw [show i - 1 = j by omega]; exact hu) (by omega)
        rw [hd_v_cat]
        simp [hc]
      · simp [hji]
    simp [h1, h2, h3]
theorem hd_istore_n {k : Fin 4} {i : Nat} {x : Int32} (hd : decode I.2.2.1 pc = .ok (.istore_n k, 1)) (hi : (k : Nat) = i) (hn : i < lv.length) (hp : ∀ u : Value, lv[i - 1]? = some (some u) → 0 < i → u.category ≠ 2) (h : hd_Go I (pc + 1) (lv.set i (some (.int x))) st M N Q) : hd_Go I pc lv (.int x :: st) M N Q :=
  fun p l e s m args below meth c H locs G A ls C hH hL => lv_istore_n C.1 C.2.1 hd hi hL.2 (Nat.lt_of_lt_of_le hn hL.1) rfl (fun ls' h' => h p l e s m args below meth c H locs G A ls' C hH (hL.set hp h'))
theorem hd_istore {i : Nat} {x : Int32} (hd : decode I.2.2.1 pc = .ok (.istore i, 2)) (hn : i < lv.length) (hp : ∀ u : Value, lv[i - 1]? = some (some u) → 0 < i → u.category ≠ 2) (h : hd_Go I (pc + 2) (lv.set i (some (.int x))) st M N Q) : hd_Go I pc lv (.int x :: st) M N Q :=
  fun p l e s m args below meth c H locs G A ls C hH hL => lv_istore C.1 C.2.1 hd hL.2 (Nat.lt_of_lt_of_le hn hL.1) rfl (fun ls' h' => h p l e s m args below meth c H locs G A ls' C hH (hL.set hp h'))
theorem hd_astore_n {k : Fin 4} {i : Nat} {x : Nat} (hd : decode I.2.2.1 pc = .ok (.astore_n k, 1)) (hi : (k : Nat) = i) (hn : i < lv.length) (hp : ∀ u : Value, lv[i - 1]? = some (some u) → 0 < i → u.category ≠ 2) (h : hd_Go I (pc + 1) (lv.set i (some (.ref x))) st M N Q) : hd_Go I pc lv (.ref x :: st) M N Q :=
  fun p l e s m args below meth c H locs G A ls C hH hL => lv_astore_n C.1 C.2.1 hd hi hL.2 (Nat.lt_of_lt_of_le hn hL.1) rfl (fun ls' h' => h p l e s m args below meth c H locs G A ls' C hH (hL.set (v := .ref x) hp h'))
theorem hd_astore {i : Nat} {x : Nat} (hd : decode I.2.2.1 pc = .ok (.astore i, 2)) (hn : i < lv.length) (hp : ∀ u : Value, lv[i - 1]? = some (some u) → 0 < i → u.category ≠ 2) (h : hd_Go I (pc + 2) (lv.set i (some (.ref x))) st M N Q) : hd_Go I pc lv (.ref x :: st) M N Q :=
  fun p l e s m args below meth c H locs G A ls C hH hL => lv_astore C.1 C.2.1 hd hL.2 (Nat.lt_of_lt_of_le hn hL.1) rfl (fun ls' h' => h p l e s m args below meth c H locs G A ls' C hH (hL.set (v := .ref x) hp h'))
theorem hd_lstore_n {k : Fin 4} {i : Nat} {x : Int64} (hd : decode I.2.2.1 pc = .ok (.lstore_n k, 1)) (hi : (k : Nat) = i) (hn : i + 1 < lv.length) (hp : ∀ u : Value, lv[i - 1]? = some (some u) → 0 < i → u.category ≠ 2) (h : hd_Go I (pc + 1) ((lv.set i (some (.long x))).set (i + 1) none) st M N Q) : hd_Go I pc lv (.long x :: st) M N Q :=
  fun p l e s m args below meth c H locs G A ls C hH hL => lv_lstore_n C.1 C.2.1 hd hi hL.2 (Nat.lt_of_lt_of_le hn hL.1) rfl (fun ls' h' => h p l e s m args below meth c H locs G A ls' C hH (hL.set2 (v := .long x) hp h'))
theorem hd_lstore {i : Nat} {x : Int64} (hd : decode I.2.2.1 pc = .ok (.lstore i, 2)) (hn : i + 1 < lv.length) (hp : ∀ u : Value, lv[i - 1]? = some (some u) → 0 < i → u.category ≠ 2) (h : hd_Go I (pc + 2) ((lv.set i (some (.long x))).set (i + 1) none) st M N Q) : hd_Go I pc lv (.long x :: st) M N Q :=
  fun p l e s m args below meth c H locs G A ls C hH hL => lv_lstore C.1 C.2.1 hd hL.2 (Nat.lt_of_lt_of_le hn hL.1) rfl (fun ls' h' => h p l e s m args below meth c H locs G A ls' C hH (hL.set2 (v := .long x) hp h'))
theorem hd_iinc {i : Nat} {n : Int} {x v : Int32} (hd : decode I.2.2.1 pc = .ok (.iinc i n, 3)) (hx : lv[i]? = some (some (.int x))) (hv : Int32.ofInt n = v) (hp : ∀ u : Value, lv[i - 1]? = some (some u) → 0 < i → u.category ≠ 2) (h : hd_Go I (pc + 3) (lv.set i (some (.int (x + v)))) st M N Q) : hd_Go I pc lv st M N Q := by
  intro p l e s m args below meth c H locs G A ls C hH hL
  have hm : (i, hd_v G.2.1 (.int x)) ∈ hd_as G.2.1 lv := hd_as_mem.mpr ⟨_, hx, rfl⟩
  obtain ⟨k, hk⟩ := List.mem_iff_getElem?.mp hm
  have hn : i < lv.length := by
    rcases Nat.lt_or_ge i lv.length with q | q
    · exact q
    · rw [List.getElem?_eq_none q] at hx; cases hx
  exact lv_iinc C.1 C.2.1 hd hL.2 (k := k) hk (by rw [hv]) (Nat.lt_of_lt_of_le hn hL.1) rfl (fun ls' h' => h p l e s m args below meth c H locs G A ls' C hH (hL.set (v := .int (x + v)) hp h'))
end
end
section
/-! THE JUDGEMENT'S ROWS, GONE ON: numbers, the stack, jumps, fields, rows of cells, ends -/
section
variable {I : hd_I} {pc : Nat} {lv : hd_L} {st : List Value} {M : hd_M} {N : hd_N} {Q : hd_Q}
theorem hd_iadd {x y : Int32} (hd : decode I.2.2.1 pc = .ok (.iadd, 1)) (h : hd_Go I (pc + 1) lv (.int (x + y) :: st) M N Q) : hd_Go I pc lv (.int y :: .int x :: st) M N Q :=
  fun p l e s m args below meth c H locs G A ls C hH hL => lv_iadd C.1 C.2.1 hd (h p l e s m args below meth c H locs G A ls C hH hL)
theorem hd_isub {x y : Int32} (hd : decode I.2.2.1 pc = .ok (.isub, 1)) (h : hd_Go I (pc + 1) lv (.int (x - y) :: st) M N Q) : hd_Go I pc lv (.int y :: .int x :: st) M N Q :=
  fun p l e s m args below meth c H locs G A ls C hH hL => lv_isub C.1 C.2.1 hd (h p l e s m args below meth c H locs G A ls C hH hL)
theorem hd_imul {x y : Int32} (hd : decode I.2.2.1 pc = .ok (.imul, 1)) (h : hd_Go I (pc + 1) lv (.int (x * y) :: st) M N Q) : hd_Go I pc lv (.int y :: .int x :: st) M N Q :=
  fun p l e s m args below meth c H locs G A ls C hH hL => lv_imul C.1 C.2.1 hd (h p l e s m args below meth c H locs G A ls C hH hL)
theorem hd_ishl {x y : Int32} (hd : decode I.2.2.1 pc = .ok (.ishl, 1)) (h : hd_Go I (pc + 1) lv (.int (x <<< (y &&& 31)) :: st) M N Q) : hd_Go I pc lv (.int y :: .int x :: st) M N Q :=
  fun p l e s m args below meth c H locs G A ls C hH hL => lv_ishl C.1 C.2.1 hd (h p l e s m args below meth c H locs G A ls C hH hL)
theorem hd_ishr {x y : Int32} (hd : decode I.2.2.1 pc = .ok (.ishr, 1)) (h : hd_Go I (pc + 1) lv (.int (x >>> (y &&& 31)) :: st) M N Q) : hd_Go I pc lv (.int y :: .int x :: st) M N Q :=
  fun p l e s m args below meth c H locs G A ls C hH hL => lv_ishr C.1 C.2.1 hd (h p l e s m args below meth c H locs G A ls C hH hL)
theorem hd_iand {x y : Int32} (hd : decode I.2.2.1 pc = .ok (.iand, 1)) (h : hd_Go I (pc + 1) lv (.int (x &&& y) :: st) M N Q) : hd_Go I pc lv (.int y :: .int x :: st) M N Q :=
  fun p l e s m args below meth c H locs G A ls C hH hL => lv_iand C.1 C.2.1 hd (h p l e s m args below meth c H locs G A ls C hH hL)
theorem hd_ior {x y : Int32} (hd : decode I.2.2.1 pc = .ok (.ior, 1)) (h : hd_Go I (pc + 1) lv (.int (x ||| y) :: st) M N Q) : hd_Go I pc lv (.int y :: .int x :: st) M N Q :=
  fun p l e s m args below meth c H locs G A ls C hH hL => lv_ior C.1 C.2.1 hd (h p l e s m args below meth c H locs G A ls C hH hL)
theorem hd_idiv {x y : Int32} (hd : decode I.2.2.1 pc = .ok (.idiv, 1)) (hn : ¬ y = 0) (h : hd_Go I (pc + 1) lv (.int (x / y) :: st) M N Q) : hd_Go I pc lv (.int y :: .int x :: st) M N Q :=
  fun p l e s m args below meth c H locs G A ls C hH hL => lv_idiv C.1 C.2.1 hd hn (h p l e s m args below meth c H locs G A ls C hH hL)
theorem hd_irem {x y : Int32} (hd : decode I.2.2.1 pc = .ok (.irem, 1)) (hn : ¬ y = 0) (h : hd_Go I (pc + 1) lv (.int (x - x / y * y) :: st) M N Q) : hd_Go I pc lv (.int y :: .int x :: st) M N Q :=
  fun p l e s m args below meth c H locs G A ls C hH hL => lv_irem C.1 C.2.1 hd hn (h p l e s m args below meth c H locs G A ls C hH hL)
theorem hd_iushr {x y : Int32} (hd : decode I.2.2.1 pc = .ok (.iushr, 1)) (h : hd_Go I (pc + 1) lv (.int (x.toUInt32 >>> (y.toUInt32 &&& Int32.toUInt32 31)).toInt32 :: st) M N Q) : hd_Go I pc lv (.int y :: .int x :: st) M N Q :=
  fun p l e s m args below meth c H locs G A ls C hH hL => lv_iushr C.1 C.2.1 hd rfl (h p l e s m args below meth c H locs G A ls C hH hL)
theorem hd_ineg {x : Int32} (hd : decode I.2.2.1 pc = .ok (.ineg, 1)) (h : hd_Go I (pc + 1) lv (.int (-x) :: st) M N Q) : hd_Go I pc lv (.int x :: st) M N Q :=
  fun p l e s m args below meth c H locs G A ls C hH hL => lv_ineg C.1 C.2.1 hd (h p l e s m args below meth c H locs G A ls C hH hL)
theorem hd_i2l {x : Int32} (hd : decode I.2.2.1 pc = .ok (.i2l, 1)) (h : hd_Go I (pc + 1) lv (.long x.toInt64 :: st) M N Q) : hd_Go I pc lv (.int x :: st) M N Q :=
  fun p l e s m args below meth c H locs G A ls C hH hL => lv_i2l C.1 C.2.1 hd rfl (h p l e s m args below meth c H locs G A ls C hH hL)
theorem hd_i2b {x : Int32} (hd : decode I.2.2.1 pc = .ok (.i2b, 1)) (h : hd_Go I (pc + 1) lv (.int x.toInt8.toInt32 :: st) M N Q) : hd_Go I pc lv (.int x :: st) M N Q :=
  fun p l e s m args below meth c H locs G A ls C hH hL => lv_i2b C.1 C.2.1 hd rfl (h p l e s m args below meth c H locs G A ls C hH hL)
theorem hd_i2s {x : Int32} (hd : decode I.2.2.1 pc = .ok (.i2s, 1)) (h : hd_Go I (pc + 1) lv (.int x.toInt16.toInt32 :: st) M N Q) : hd_Go I pc lv (.int x :: st) M N Q :=
  fun p l e s m args below meth c H locs G A ls C hH hL => lv_i2s C.1 C.2.1 hd rfl (h p l e s m args below meth c H locs G A ls C hH hL)
theorem hd_ladd {x y : Int64} (hd : decode I.2.2.1 pc = .ok (.ladd, 1)) (h : hd_Go I (pc + 1) lv (.long (x + y) :: st) M N Q) : hd_Go I pc lv (.long y :: .long x :: st) M N Q :=
  fun p l e s m args below meth c H locs G A ls C hH hL => lv_ladd C.1 C.2.1 hd (h p l e s m args below meth c H locs G A ls C hH hL)
theorem hd_lmul {x y : Int64} (hd : decode I.2.2.1 pc = .ok (.lmul, 1)) (h : hd_Go I (pc + 1) lv (.long (x * y) :: st) M N Q) : hd_Go I pc lv (.long y :: .long x :: st) M N Q :=
  fun p l e s m args below meth c H locs G A ls C hH hL => lv_lmul C.1 C.2.1 hd (h p l e s m args below meth c H locs G A ls C hH hL)
theorem hd_ldiv {x y : Int64} (hd : decode I.2.2.1 pc = .ok (.ldiv, 1)) (hn : ¬ y = 0) (h : hd_Go I (pc + 1) lv (.long (x / y) :: st) M N Q) : hd_Go I pc lv (.long y :: .long x :: st) M N Q :=
  fun p l e s m args below meth c H locs G A ls C hH hL => lv_ldiv C.1 C.2.1 hd hn (h p l e s m args below meth c H locs G A ls C hH hL)
theorem hd_lrem {x y : Int64} (hd : decode I.2.2.1 pc = .ok (.lrem, 1)) (hn : ¬ y = 0) (h : hd_Go I (pc + 1) lv (.long (x - x / y * y) :: st) M N Q) : hd_Go I pc lv (.long y :: .long x :: st) M N Q :=
  fun p l e s m args below meth c H locs G A ls C hH hL => lv_lrem C.1 C.2.1 hd hn (h p l e s m args below meth c H locs G A ls C hH hL)
theorem hd_lcmp {x y : Int64} (hd : decode I.2.2.1 pc = .ok (.lcmp, 1)) (h : hd_Go I (pc + 1) lv (.int (lg_cmp x y) :: st) M N Q) : hd_Go I pc lv (.long y :: .long x :: st) M N Q :=
  fun p l e s m args below meth c H locs G A ls C hH hL => W.lcmp C.1 C.2.1 hd (h p l e s m args below meth c H locs G A ls C hH hL)
theorem hd_dup {v : Value} (hd : decode I.2.2.1 pc = .ok (.dup, 1)) (hc : v.category = 1) (h : hd_Go I (pc + 1) lv (v :: v :: st) M N Q) : hd_Go I pc lv (v :: st) M N Q :=
  fun p l e s m args below meth c H locs G A ls C hH hL => lv_dup C.1 C.2.1 hd (by rw [hd_v_cat]; exact hc) (h p l e s m args below meth c H locs G A ls C hH hL)
theorem hd_pop {v : Value} (hd : decode I.2.2.1 pc = .ok (.pop, 1)) (hc : v.category = 1) (h : hd_Go I (pc + 1) lv st M N Q) : hd_Go I pc lv (v :: st) M N Q :=
  fun p l e s m args below meth c H locs G A ls C hH hL => lv_pop C.1 C.2.1 hd (by rw [hd_v_cat]; exact hc) (h p l e s m args below meth c H locs G A ls C hH hL)
theorem hd_dup2 {v u : Value} (hd : decode I.2.2.1 pc = .ok (.dup2, 1)) (hv : v.category = 1) (hu : u.category = 1) (h : hd_Go I (pc + 1) lv (v :: u :: v :: u :: st) M N Q) : hd_Go I pc lv (v :: u :: st) M N Q :=
  fun p l e s m args below meth c H locs G A ls C hH hL => lv_dup2_11 C.1 C.2.1 hd (by rw [hd_v_cat]; exact hv) (by rw [hd_v_cat]; exact hu) (h p l e s m args below meth c H locs G A ls C hH hL)
theorem hd_goto {off : Int} {tgt : Nat} (hd : decode I.2.2.1 pc = .ok (.goto off, 3)) (ht : (pc : Int) + off = (tgt : Int)) (h : hd_Go I tgt lv st M N Q) : hd_Go I pc lv st M N Q :=
  fun p l e s m args below meth c H locs G A ls C hH hL => lv_goto C.1 C.2.1 hd ht (h p l e s m args below meth c H locs G A ls C hH hL)
def hd_ct : ClassFile.Cond → Int32 → Int32 → Prop
  | .eq, x, y => x = y
  | .ne, x, y => ¬ x = y
  | .lt, x, y => x < y
  | .ge, x, y => y ≤ x
  | .gt, x, y => y < x
  | .le, x, y => x ≤ y
def hd_cf : ClassFile.Cond → Int32 → Int32 → Prop
  | .eq, x, y => ¬ x = y
  | .ne, x, y => x = y
  | .lt, x, y => ¬ x < y
  | .ge, x, y => ¬ y ≤ x
  | .gt, x, y => ¬ y < x
  | .le, x, y => ¬ x ≤ y
theorem hd_icmp {op : ClassFile.Cond} {x y : Int32} {off : Int} {tgt : Nat} (hd : decode I.2.2.1 pc = .ok (.if_icmp op off, 3)) (ht : (pc : Int) + off = (tgt : Int)) (ha : hd_ct op x y → hd_Go I tgt lv st M N Q) (hb : hd_cf op x y → hd_Go I (pc + 3) lv st M N Q) : hd_Go I pc lv (.int y :: .int x :: st) M N Q := by
  intro p l e s m args below meth c H locs G A ls C hH hL
  cases op
  · exact lv_icmp_eq C.1 C.2.1 hd ht (fun q => ha q p l e s m args below meth c H locs G A ls C hH hL) (fun q => hb q p l e s m args below meth c H locs G A ls C hH hL)
  · exact lv_icmp_ne C.1 C.2.1 hd ht (fun q => ha q p l e s m args below meth c H locs G A ls C hH hL) (fun q => hb q p l e s m args below meth c H locs G A ls C hH hL)
  · exact lv_icmp_lt C.1 C.2.1 hd ht (fun q => ha q p l e s m args below meth c H locs G A ls C hH hL) (fun q => hb q p l e s m args below meth c H locs G A ls C hH hL)
  · exact lv_icmp_ge C.1 C.2.1 hd ht (fun q => ha q p l e s m args below meth c H locs G A ls C hH hL) (fun q => hb q p l e s m args below meth c H locs G A ls C hH hL)
  · exact lv_icmp_gt C.1 C.2.1 hd ht (fun q => ha q p l e s m args below meth c H locs G A ls C hH hL) (fun q => hb q p l e s m args below meth c H locs G A ls C hH hL)
  · exact lv_icmp_le C.1 C.2.1 hd ht (fun q => ha q p l e s m args below meth c H locs G A ls C hH hL) (fun q => hb q p l e s m args below meth c H locs G A ls C hH hL)
theorem hd_if {op : ClassFile.Cond} {x : Int32} {off : Int} {tgt : Nat} (hd : decode I.2.2.1 pc = .ok (.ifCond op off, 3)) (ht : (pc : Int) + off = (tgt : Int)) (ha : hd_ct op x 0 → hd_Go I tgt lv st M N Q) (hb : hd_cf op x 0 → hd_Go I (pc + 3) lv st M N Q) : hd_Go I pc lv (.int x :: st) M N Q := by
  intro p l e s m args below meth c H locs G A ls C hH hL
  cases op
  · exact lv_if_eq C.1 C.2.1 hd ht (fun q => ha q p l e s m args below meth c H locs G A ls C hH hL) (fun q => hb q p l e s m args below meth c H locs G A ls C hH hL)
  · exact lv_if_ne C.1 C.2.1 hd ht (fun q => ha q p l e s m args below meth c H locs G A ls C hH hL) (fun q => hb q p l e s m args below meth c H locs G A ls C hH hL)
  · exact lv_if_lt C.1 C.2.1 hd ht (fun q => ha q p l e s m args below meth c H locs G A ls C hH hL) (fun q => hb q p l e s m args below meth c H locs G A ls C hH hL)
  · exact lv_if_ge C.1 C.2.1 hd ht (fun q => ha q p l e s m args below meth c H locs G A ls C hH hL) (fun q => hb q p l e s m args below meth c H locs G A ls C hH hL)
  · exact lv_if_gt C.1 C.2.1 hd ht (fun q => ha q p l e s m args below meth c H locs G A ls C hH hL) (fun q => hb q p l e s m args below meth c H locs G A ls C hH hL)
  · exact lv_if_le C.1 C.2.1 hd ht (fun q => ha q p l e s m args below meth c H locs G A ls C hH hL) (fun q => hb q p l e s m args below meth c H locs G A ls C hH hL)
theorem hd_v_f (ad : Nat → Nat) (M : hd_M) (N : hd_N) (k j : Nat) (r : Nat × Nat) : hd_v ad (hd_f id M N k j r) = hd_f ad M N k j r := by
  obtain ⟨z, r⟩ := r
  match z with
  | 0 => rfl
  | 1 => rfl
  | z + 2 => rfl
theorem hd_uws : ∀ (ci : Nat) (q : vw_C), hd_cl[ci]? = some q → ∀ w ∈ u_ws q.1 q.2.1 q.2.2, w ∈ hd_tbl := by
  intro ci q h
  match ci, h with
  | 0, h => cases h; decide +kernel
  | 1, h => cases h; decide +kernel
  | 2, h => cases h; decide +kernel
  | 3, h => cases h; decide +kernel
  | 4, h => cases h; decide +kernel
  | 5, h => cases h; decide +kernel
  | 6, h => cases h; decide +kernel
  | n + 7, h => simp [hd_cl] at h
def hd_ty (ci k : Nat) : FieldType := match ci with
  | 0 => tyX0 k
  | 1 => tyX1 k
  | 2 => tyX2 k
  | 3 => tyX3 k
  | 4 => tyX4 k
  | 5 => tyX5 k
  | _ => tyX6 k
theorem hd_tyok : ∀ (ci : Nat) (q : vw_C), hd_cl[ci]? = some q → (∀ k, k < q.2.2 → parseFieldDescriptor (q.2.1 k).2.2.1 = some (hd_ty ci k)) ∧ ∀ a, a < q.2.2 → ∀ b, b < q.2.2 → a ≠ b → (q.2.1 a).2.1 ≠ (q.2.1 b).2.1 := by
  intro ci q h
  match ci, h with
  | 0, h => cases h; exact ⟨tyX0_ok, nmX0⟩
  | 1, h => cases h; exact ⟨tyX1_ok, nmX1⟩
  | 2, h => cases h; exact ⟨tyX2_ok, nmX2⟩
  | 3, h => cases h; exact ⟨tyX3_ok, nmX3⟩
  | 4, h => cases h; exact ⟨tyX4_ok, nmX4⟩
  | 5, h => cases h; exact ⟨tyX5_ok, nmX5⟩
  | 6, h => cases h; exact ⟨tyX6_ok, nmX6⟩
  | n + 7, h => simp [hd_cl] at h
theorem hd_getf {index ci k a : Nat} {r : Nat × Nat} {fs : List (Nat × Nat)} {q : vw_C} (hd : decode I.2.2.1 pc = .ok (.getfield index, 3)) (hs : hd_shp[a]? = some (.inr (.inr (ci, fs)))) (hq : hd_cl[ci]? = some q) (hk : k < q.2.2) (hl : Cond.fieldLink I.1 index (q.2.1 k).1 (q.2.1 k).2.1 (q.2.1 k).2.2.1 ∈ hd_tbl) (hr : fs[k]? = some r) (h : hd_Go I (pc + 3) lv (hd_f id M N a k r :: st) M N Q) : hd_Go I pc lv (.ref a :: st) M N Q := by
  intro p l e s m args below meth c H locs G A ls C hH hL
  have hT := C.2.2.2.2.2.1
  refine va_get (D := G.1) (cl := hd_cl) (tys := hd_tys G.2.2) (ws := hd_w G M N) (C := q.1) (T := q.2.1) (N := q.2.2) (ci := ci) C.1 C.2.1 hT (hd_uws ci q hq) C.2.2.2.2.1 C.2.2.2.2.2.2.2.1 hH.1 a (hd_w_at hs) hq k hk (hT _ hl) (fun _ h9 => h9) (v := hd_f G.2.1 M N a k r) ?_ hd ?_
  · rw [List.getElem?_mapIdx, hr]; rfl
  · have := h p l e s m args below meth c H locs G A ls C hH hL
    rw [List.map_cons, hd_v_f] at this
    exact this
theorem hd_putf {index ci k a r0 : Nat} {fs : List (Nat × Nat)} {q : vw_C} {x : Int32} (hd : decode I.2.2.1 pc = .ok (.putfield index, 3)) (hs : hd_shp[a]? = some (.inr (.inr (ci, fs)))) (hq : hd_cl[ci]? = some q) (hk : k < q.2.2) (hl : Cond.fieldLink I.1 index (q.2.1 k).1 (q.2.1 k).2.1 (q.2.1 k).2.2.1 ∈ hd_tbl) (hr : fs[k]? = some (0, r0)) (hfin : (q.2.1 k).2.2.2 = false) (hn : narrow (hd_ty ci k) (.int x) = .int x) (hfit : fits (hd_ty ci k) (.int x) = true) (h : hd_Go I (pc + 3) lv st (hd_u M a k x) N Q) : hd_Go I pc lv (.int x :: .ref a :: st) M N Q := by
  intro p l e s m args below meth c H locs G A ls C hH hL
  have hT := C.2.2.2.2.2.1
  have hlen : k < (fs.mapIdx (hd_f G.2.1 M N a)).length := by
    rw [List.length_mapIdx]
    rcases Nat.lt_or_ge k fs.length with z | z
    · exact z
    · rw [List.getElem?_eq_none z] at hr; cases hr
  refine va_put (D := G.1) (cl := hd_cl) (tys := hd_tys G.2.2) (ws := hd_w G M N) (C := q.1) (T := q.2.1) (N := q.2.2) (ci := ci) (v := .int x) C.1 C.2.1 hT (hd_uws ci q hq) (hd_ty ci) (hd_tyok ci q hq).1 (hd_tyok ci q hq).2 C.2.2.2.2.1 C.2.2.2.2.2.2.2.1 hH.1 hH.2.1 hH.2.2 a (hd_w_at hs) hq k hk (hT _ hl) (fun _ h9 => h9) hfin ((hd_tyok ci q hq).1 k hk) hn hfit hlen hd ?_
  intro H1 locs1 hP hD hS
  rw [hd_fs_set hr] at hP hD
  have e9 : (hd_w G M N).set a (G.2.1 a, .inr (ci, fs.mapIdx (hd_f G.2.1 (hd_u M a k x) N a))) = hd_w G (hd_u M a k x) N := hd_w_set2 (M' := hd_u M a k x) (N' := N) rfl hs (fun b d hb => by simp [hd_u, hb]) (fun _ _ _ => rfl)
  rw [e9] at hP hD
  exact h p l e s m args below meth c H1 locs1 G A ls C ⟨hP, hD, hS⟩ hL
theorem hd_putl {index ci k a r0 : Nat} {fs : List (Nat × Nat)} {q : vw_C} {x : Int64} (hd : decode I.2.2.1 pc = .ok (.putfield index, 3)) (hs : hd_shp[a]? = some (.inr (.inr (ci, fs)))) (hq : hd_cl[ci]? = some q) (hk : k < q.2.2) (hl : Cond.fieldLink I.1 index (q.2.1 k).1 (q.2.1 k).2.1 (q.2.1 k).2.2.1 ∈ hd_tbl) (hr : fs[k]? = some (1, r0)) (hfin : (q.2.1 k).2.2.2 = false) (hn : narrow (hd_ty ci k) (.long x) = .long x) (hfit : fits (hd_ty ci k) (.long x) = true) (h : hd_Go I (pc + 3) lv st M (hd_uN N a k x) Q) : hd_Go I pc lv (.long x :: .ref a :: st) M N Q := by
  intro p l e s m args below meth c H locs G A ls C hH hL
  have hT := C.2.2.2.2.2.1
  have hlen : k < (fs.mapIdx (hd_f G.2.1 M N a)).length := by
    rw [List.length_mapIdx]
    rcases Nat.lt_or_ge k fs.length with z | z
    · exact z
    · rw [List.getElem?_eq_none z] at hr; cases hr
  refine va_put (D := G.1) (cl := hd_cl) (tys := hd_tys G.2.2) (ws := hd_w G M N) (C := q.1) (T := q.2.1) (N := q.2.2) (ci := ci) (v := .long x) C.1 C.2.1 hT (hd_uws ci q hq) (hd_ty ci) (hd_tyok ci q hq).1 (hd_tyok ci q hq).2 C.2.2.2.2.1 C.2.2.2.2.2.2.2.1 hH.1 hH.2.1 hH.2.2 a (hd_w_at hs) hq k hk (hT _ hl) (fun _ h9 => h9) hfin ((hd_tyok ci q hq).1 k hk) hn hfit hlen hd ?_
  intro H1 locs1 hP hD hS
  rw [hd_fs_setN hr] at hP hD
  have e9 : (hd_w G M N).set a (G.2.1 a, .inr (ci, fs.mapIdx (hd_f G.2.1 M (hd_uN N a k x) a))) = hd_w G M (hd_uN N a k x) := hd_w_set2 (M' := M) (N' := hd_uN N a k x) rfl hs (fun _ _ _ => rfl) (fun b d hb => by simp [hd_uN, hb])
  rw [e9] at hP hD
  exact h p l e s m args below meth c H1 locs1 G A ls C ⟨hP, hD, hS⟩ hL
theorem hd_iaload {a n : Nat} {i : Int32} (hd : decode I.2.2.1 pc = .ok (.iaload, 1)) (hs : hd_shp[a]? = some (.inl (0, n))) (hin : vp_in i n) (h : hd_Go I (pc + 1) lv (.int (M a i.toNatClampNeg) :: st) M N Q) : hd_Go I pc lv (.int i :: .ref a :: st) M N Q :=
  fun p l e s m args below meth c H locs G A ls C hH hL => va_iald (ws := hd_w G M N) C.1 C.2.1 C.2.2.2.2.2.2.2.1 hH.1 a 0 (hd_w_at hs) rfl hin hd (h p l e s m args below meth c H locs G A ls C hH hL)
theorem hd_baload {a n : Nat} {i : Int32} (hd : decode I.2.2.1 pc = .ok (.baload, 1)) (hs : hd_shp[a]? = some (.inl (1, n)) ∨ hd_shp[a]? = some (.inl (2, n))) (hin : vp_in i n) (h : hd_Go I (pc + 1) lv (.int (M a i.toNatClampNeg) :: st) M N Q) : hd_Go I pc lv (.int i :: .ref a :: st) M N Q := by
  intro p l e s m args below meth c H locs G A ls C hH hL
  rcases hs with hs | hs
  · exact va_bald (ws := hd_w G M N) C.1 C.2.1 C.2.2.2.2.2.2.2.1 hH.1 a 1 (hd_w_at hs) rfl hin hd (h p l e s m args below meth c H locs G A ls C hH hL)
  · exact va_zald (ws := hd_w G M N) C.1 C.2.1 C.2.2.2.2.2.2.2.1 hH.1 a 2 (hd_w_at hs) rfl hin hd (h p l e s m args below meth c H locs G A ls C hH hL)
theorem hd_w_put {G : hd_G} {t a n : Nat} (hs : hd_shp[a]? = some (.inl (t, n))) (j : Nat) (x : Int32) : (hd_w G M N).set a (G.2.1 a, .inl (G.2.2 t, n, .inl (upd (M a) j x))) = hd_w G (hd_u M a j x) N := by
  rw [← hd_u_row]
  exact hd_w_set2 (M' := hd_u M a j x) (N' := N) rfl hs (fun b d hb => by simp [hd_u, hb]) (fun _ _ _ => rfl)
theorem hd_iastore {a n : Nat} {i x : Int32} (hd : decode I.2.2.1 pc = .ok (.iastore, 1)) (hs : hd_shp[a]? = some (.inl (0, n))) (hin : vp_in i n) (h : hd_Go I (pc + 1) lv st (hd_u M a i.toNatClampNeg x) N Q) : hd_Go I pc lv (.int x :: .int i :: .ref a :: st) M N Q := by
  intro p l e s m args below meth c H locs G A ls C hH hL
  refine va_iast (ws := hd_w G M N) C.1 C.2.1 C.2.2.2.2.2.2.2.1 hH.1 hH.2.1 hH.2.2 a 0 (hd_w_at hs) rfl hin hd ?_
  intro H1 locs1 hP hD hS
  rw [hd_w_put hs] at hP hD
  exact h p l e s m args below meth c H1 locs1 G A ls C ⟨hP, hD, hS⟩ hL
theorem hd_bastore {a n : Nat} {i x : Int32} (hd : decode I.2.2.1 pc = .ok (.bastore, 1)) (hs : hd_shp[a]? = some (.inl (1, n)) ∧ vp_nar .byte x = x ∨ hd_shp[a]? = some (.inl (2, n)) ∧ vp_nar .boolean x = x) (hin : vp_in i n) (h : hd_Go I (pc + 1) lv st (hd_u M a i.toNatClampNeg x) N Q) : hd_Go I pc lv (.int x :: .int i :: .ref a :: st) M N Q := by
  intro p l e s m args below meth c H locs G A ls C hH hL
  rcases hs with ⟨hs, hx⟩ | ⟨hs, hx⟩
  · refine va_bast (ws := hd_w G M N) C.1 C.2.1 C.2.2.2.2.2.2.2.1 hH.1 hH.2.1 hH.2.2 a 1 (hd_w_at hs) rfl hin hd ?_
    intro H1 locs1 hP hD hS
    rw [hx, hd_w_put hs] at hP hD
    exact h p l e s m args below meth c H1 locs1 G A ls C ⟨hP, hD, hS⟩ hL
  · refine va_zast (ws := hd_w G M N) C.1 C.2.1 C.2.2.2.2.2.2.2.1 hH.1 hH.2.1 hH.2.2 a 2 (hd_w_at hs) rfl hin hd ?_
    intro H1 locs1 hP hD hS
    rw [hx, hd_w_put hs] at hP hD
    exact h p l e s m args below meth c H1 locs1 G A ls C ⟨hP, hD, hS⟩ hL
theorem hd_aaload {a t k : Nat} {rs : List Nat} {i : Int32} (hd : decode I.2.2.1 pc = .ok (.aaload, 1)) (ht : t = 3 ∨ t = 4) (hs : hd_shp[a]? = some (.inr (.inl (t, rs)))) (hi : ¬ i < 0) (hk : rs[i.toNatClampNeg]? = some k) (h : hd_Go I (pc + 1) lv (.ref k :: st) M N Q) : hd_Go I pc lv (.int i :: .ref a :: st) M N Q := by
  intro p l e s m args below meth c H locs G A ls C hH hL
  have hlt : i.toNatClampNeg < rs.length := by
    rcases Nat.lt_or_ge i.toNatClampNeg rs.length with z | z
    · exact z
    · rw [List.getElem?_eq_none z] at hk; cases hk
  have hin : vp_in i rs.length := fun z => z.elim hi (fun z => absurd hlt (Nat.not_lt.mpr z))
  have e9 : va_rf ((fun j : Nat => rs[j]?.map G.2.1) i.toNatClampNeg) = .ref (G.2.1 k) := by show va_rf (rs[i.toNatClampNeg]?.map G.2.1) = _; rw [hk]; rfl
  have h2 := h p l e s m args below meth c H locs G A ls C hH hL
  rcases ht with rfl | rfl
  · refine va_aldq (ws := hd_w G M N) C.1 C.2.1 C.2.2.2.2.2.2.2.1 hH.1 a 3 (hd_w_at hs) rfl hin hd ?_
    rw [e9]
    exact h2
  · refine va_aldq (ws := hd_w G M N) C.1 C.2.1 C.2.2.2.2.2.2.2.1 hH.1 a 4 (hd_w_at hs) rfl hin hd ?_
    rw [e9]
    exact h2
theorem hd_alen {a t n : Nat} {v : Int32} (hd : decode I.2.2.1 pc = .ok (.arraylength, 1)) (ht : t < 3) (hs : hd_shp[a]? = some (.inl (t, n))) (hv : Int32.ofNat n = v) (h : hd_Go I (pc + 1) lv (.int v :: st) M N Q) : hd_Go I pc lv (.ref a :: st) M N Q := by
  intro p l e s m args below meth c H locs G A ls C hH hL
  rcases (show t = 0 ∨ t = 1 ∨ t = 2 by omega) with rfl | rfl | rfl
  · exact va_alen (ws := hd_w G M N) C.1 C.2.1 C.2.2.2.2.2.2.2.1 hH.1 a 0 (hd_w_at hs) (ty := .int) rfl hv hd (h p l e s m args below meth c H locs G A ls C hH hL)
  · exact va_alen (ws := hd_w G M N) C.1 C.2.1 C.2.2.2.2.2.2.2.1 hH.1 a 1 (hd_w_at hs) (ty := .byte) rfl hv hd (h p l e s m args below meth c H locs G A ls C hH hL)
  · exact va_alen (ws := hd_w G M N) C.1 C.2.1 C.2.2.2.2.2.2.2.1 hH.1 a 2 (hd_w_at hs) (ty := .boolean) rfl hv hd (h p l e s m args below meth c H locs G A ls C hH hL)
theorem hd_S_F {A : Nat → Prop} {s t : State} {H : Heap} {locs : List Loc} (h : va_S A s.heap H locs) (ht : t.heap = H) : va_F A s t := by
  refine ⟨by rw [ht]; exact h.1, fun q h1 h2 => by rw [ht]; exact h.2.1 q h1 h2⟩
theorem hd_ireturn {v : Int32} {ty : FieldType} (hd : decode I.2.2.1 pc = .ok (.ireturn, 1)) (hr : I.2.2.2.2.1 = some ty) (hn : narrow ty (.int v) = .int v) (h : Q (some (.int v)) M N) : hd_Go I pc lv [.int v] M N Q := by
  intro p l e s m args below meth c H locs G A ls C hH hL
  have hlocks := C.2.2.2.2.2.2.1
  exact W.zret (v := v) C.1 C.2.1 (C.2.2.2.1.trans hr) hn (fun t ht _ => ⟨⟨some (.int v), M, N, rfl, h, by rw [ht]; exact hH.1⟩, hd_S_F hH.2.2 ht⟩) hH.2.2.2.2 hd
theorem hd_lreturn {v : Int64} (hd : decode I.2.2.1 pc = .ok (.lreturn, 1)) (hr : I.2.2.2.2.1 = some .long) (h : Q (some (.long v)) M N) : hd_Go I pc lv [.long v] M N Q := by
  intro p l e s m args below meth c H locs G A ls C hH hL
  have hlocks := C.2.2.2.2.2.2.1
  exact W.lret (v := v) C.1 C.2.1 (C.2.2.2.1.trans hr) (fun t ht _ => ⟨⟨some (.long v), M, N, rfl, h, by rw [ht]; exact hH.1⟩, hd_S_F hH.2.2 ht⟩) hH.2.2.2.2 hd
theorem hd_vreturn (hd : decode I.2.2.1 pc = .ok (.return_, 1)) (hr : I.2.2.2.2.1 = none) (h : Q none M N) : hd_Go I pc lv [] M N Q := by
  intro p l e s m args below meth c H locs G A ls C hH hL
  have hlocks := C.2.2.2.2.2.2.1
  exact W.vret C.1 C.2.1 (C.2.2.2.1.trans hr) (fun t ht _ => ⟨⟨none, M, N, rfl, h, by rw [ht]; exact hH.1⟩, hd_S_F hH.2.2 ht⟩) hH.2.2.2.2 hd
end
end
section
/-! CALLS: a method's contract out of its judgement, and a row for each kind of call -/
def hd_en1 : List Value → hd_L
  | [] => []
  | .long x :: vs => some (.long x) :: none :: hd_en1 vs
  | .double x :: vs => some (.double x) :: none :: hd_en1 vs
  | v :: vs => some v :: hd_en1 vs
/-- the locals at a method's entry -/
def hd_en (n : Nat) (vs : List Value) : hd_L := hd_en1 vs ++ List.replicate (n - (hd_en1 vs).length) none
/-- the method I, called with these values on this memory, returns, and its end is as told -/
def hd_Ret (I : hd_I) (vs : List Value) (M : hd_M) (N : hd_N) (Q : hd_Q) : Prop := hd_Go I 0 (hd_en I.2.2.2.1 vs) [] M N Q
theorem hd_en1_cons (v : Value) (vs : List Value) : hd_en1 (v :: vs) = if v.category = 2 then some v :: none :: hd_en1 vs else some v :: hd_en1 vs := by
  cases v <;> rfl
theorem hd_en1_len (ad : Nat → Nat) : ∀ vs : List Value, (hd_en1 vs).length = (lg_sl (vs.map (hd_v ad))).length := by
  intro vs
  induction vs with
  | nil => rfl
  | cons v vs ih =>
    rw [hd_en1_cons, List.map_cons, lg_sl, List.flatMap_cons, List.length_append, hd_v_cat]
    rw [lg_sl] at ih
    by_cases h : v.category = 2
    · rw [if_pos h, if_pos h]
      simp only [List.length_cons, List.length_nil, ih]
      omega
    · rw [if_neg h, if_neg h]
      simp only [List.length_cons, List.length_nil, ih]
      omega
theorem hd_en1_at (ad : Nat → Nat) : ∀ (vs : List Value) (b i : Nat) (v : Value), (hd_en1 vs)[i]? = some (some v) → (b + i, hd_v ad v) ∈ lv_args b (vs.map (hd_v ad)) := by
  intro vs
  induction vs with
  | nil => intro b i v h; simp [hd_en1] at h
  | cons w vs ih =>
    intro b i v h
    rw [hd_en1_cons] at h
    rw [List.map_cons, lv_args, hd_v_cat]
    by_cases hc : w.category = 2
    · rw [if_pos hc] at h ⊢
      match i, h with
      | 0, h => cases h; exact List.mem_cons_self
      | 1, h => cases h
      | i + 2, h =>
        refine List.mem_cons_of_mem _ ?_
        have := ih (b + 2) i v h
        rw [show b + (i + 2) = b + 2 + i by omega]
        exact this
    · rw [if_neg hc] at h ⊢
      match i, h with
      | 0, h => cases h; exact List.mem_cons_self
      | i + 1, h =>
        refine List.mem_cons_of_mem _ ?_
        have := ih (b + 1) i v h
        rw [show b + (i + 1) = b + 1 + i by omega]
        exact this
/-- what a caller must show of the state at the callee's entry -/
def hd_B (G : hd_G) (A : Nat → Prop) (M : hd_M) (N : hd_N) (U : State) : Prop := va_P G.1 hd_cl (hd_w G M N) U.heap ∧ va_D A (hd_w G M N) ∧ va_K G.1 hd_cl (hd_tys G.2.2) U ∧ hd_X G A U
abbrev hd_ws (I : hd_I) : List Cond := Cond.code I.2.1 I.2.2.1 I.2.2.2.1 I.2.2.2.2.1 :: hd_tbl
theorem hd_met {I : hd_I} {vs : List Value} {M : hd_M} {N : hd_N} {Q : hd_Q} (h : hd_Ret I vs M N Q) (hy : plainName I.2.1.cls = true) (ho : I.1 = I.2.1.cls) (hn : (hd_en1 vs).length ≤ I.2.2.2.1) (l : Launch) (G : hd_G) (A : Nat → Prop) :
    Met l I.2.1 (hd_ws I) (hd_rm I.2.2.2.2.2.1) (va_Pc (vs.map (hd_v G.2.1)) (hd_B G A M N)) (hd_E G A Q) 0 0 A := by
  refine Met.ofW (cc := I.2.2.1) (maxL := I.2.2.2.1) (ret := I.2.2.2.2.1) hy rfl ?_
  intro p e s m args below meth c s₁ B hml hv
  obtain ⟨rfl, hP, hD, hK, hX⟩ := hv
  have hts := atoms_spec (ws := hd_ws I) B.pre
  have hown : s.vm.findClass I.1 = some m.cls := by rw [ho]; exact findClass_of_methodNamed B.named
  have hC : hd_C I p s m (vs.map (hd_v G.2.1)).toArray meth c G A := ⟨B.exec, B.bytes, hml, B.returns, hown, fun w hw => hts w (List.mem_cons_of_mem _ hw), B.notSynchronized, hK, hX⟩
  have hlen := hd_en1_len G.2.1 vs
  have hl := lv_entry (vs.map (hd_v G.2.1)) (n := I.2.2.2.1) (by rw [← hlen]; exact hn)
  rw [lg_entry_eq]
  have hlo : hd_lo ((lg_sl (vs.map (hd_v G.2.1)) ++ List.replicate (I.2.2.2.1 - (lg_sl (vs.map (hd_v G.2.1))).length) Slot.unset).toArray) I.2.2.2.1 G.2.1 (hd_en I.2.2.2.1 vs) := by
    refine hd_lo.of ?_ hl ?_
    · unfold hd_en
      rw [List.length_append, List.length_replicate]
      omega
    · intro i v hv
      unfold hd_en at hv
      rw [List.getElem?_append] at hv
      split at hv
      · have := hd_en1_at G.2.1 vs 0 i v hv
        rw [Nat.zero_add] at this
        exact this
      · rw [List.getElem?_replicate] at hv
        split at hv <;> cases hv
  exact h p l e s m _ below meth c s.heap [] G A _ hC ⟨hP, hD, va_S.rf⟩ hlo
theorem hd_X.go {G : hd_G} {A : Nat → Prop} {s U : State} {H : Heap} {locs : List Loc} (hX : hd_X G A s) (hS : va_S A s.heap H locs) (hU : U.heap = H) (hW : s.WarmedH U.vm) : hd_X G A U := by
  subst hU
  exact ⟨(hX.1.moved hW.alike).kept hS.2.1, (hX.2.1.moved hW.alike).kept hS.2.1, fun i q hq => (hX.2.2.1 i q hq).warm hW, hX.2.2.2.warmM hW⟩
theorem hd_blind {G : hd_G} {A : Nat → Prop} {M : hd_M} {N : hd_N} {vs : List Value} : FrameBlind (va_Pc vs (hd_B G A M N)) := by
  intro a U g mk ⟨h0, hP, hD, hK, hX⟩
  refine ⟨h0, hP, hD, va_K.moved (u := U) (U := U.calling g mk a) (Vm.Alike.refl U.vm) hK, ?_⟩
  exact ⟨hX.1.moved (u := U) (U := U.calling g mk a) (Vm.Alike.refl U.vm), hX.2.1.moved (u := U) (U := U.calling g mk a) (Vm.Alike.refl U.vm), fun i q hq => vk_R.same (u := U) (U := U.calling g mk a) rfl (hX.2.2.1 i q hq), hX.2.2.2.same (u := U) (U := U.calling g mk a) rfl rfl⟩
theorem hd_enter {G : hd_G} {A : Nat → Prop} {M : hd_M} {N : hd_N} {s : State} {H : Heap} {locs : List Loc} (hK : va_K G.1 hd_cl (hd_tys G.2.2) s) (hX : hd_X G A s) (hH : hd_H G A M N s H locs) : ∀ U : State, U.heap = H → s.WarmedH U.vm → hd_B G A M N U := by
  intro U hU hW
  exact ⟨by rw [hU]; exact hH.1, hH.2.1, va_K.moved hW.alike hK, hX.go hH.2.2 hU hW⟩
theorem hd_goodws {I : hd_I} (h : Cond.code I.2.1 I.2.2.1 I.2.2.2.1 I.2.2.2.2.1 ∈ hd_tbl) : GoodIn hd_tbl (hd_ws I) := by
  intro w hw
  rcases List.mem_cons.mp hw with e | hw
  · rw [e]; exact ⟨h, good_of_word (hd_good _ h)⟩
  · exact ⟨hw, good_of_word (hd_good _ hw)⟩
section
variable {I : hd_I} {pc : Nat} {lv : hd_L} {st : List Value} {M : hd_M} {N : hd_N} {Q : hd_Q}
/-- a call, however it is found: what comes behind it -/
theorem hd_after {P : hd_Q} {p : Program} {l : Launch} {e : Env} {R : Room} {s : State} {m : MethodId} {args : Array Value} {below : List Frame} {meth : Method} {c : Code} {H : Heap} {locs : List Loc} {G : hd_G} {A : Nat → Prop} {ls : Array Slot} {st0 : List Value} {Z : State → Prop} {a : Array Value} {cells slots : Nat}
    (hr : va_Run p l e R s m args below meth c H locs cells slots 0 0 (F0 m pc ls st0) (st.map (hd_v G.2.1)) (hd_E G A P a) A) (hH : hd_H G A M N s H locs)
    (k : ∀ r M1 N1, P r M1 N1 → ∀ H1 locs1, hd_H G A M1 N1 s H1 locs1 → W p l e R s m args below meth c H1 locs1 cells slots Z (F0 m (pc + 3) ls ((r.toList ++ st).map (hd_v G.2.1)))) : W p l e R s m args below meth c H locs cells slots Z (F0 m pc ls st0) := by
  intro T hT X
  obtain ⟨v, st₀, t, T', L, h0, X', hL, e1, e2, ⟨⟨r, M1, N1, hv, hp, hP⟩, hz, hk⟩, go⟩ := hr T hT X
  rw [h0] at hz hk
  have hv : v = r.map (hd_v G.2.1) := by
    have := hv
    injection this
  have hS := hH.2.2
  obtain ⟨t2, a1, b1⟩ := k r M1 N1 hp T'.heap (locs ++ L) ⟨by rw [e1]; exact hP, hd_D_any hH.2.1, ⟨Nat.le_trans hS.1 (by rw [e1]; exact hz), fun q h1 h2 => by rw [e1, hk q (Nat.lt_of_lt_of_le h1 hS.1) h2]; exact hS.2.1 q h1 h2, fun q hq => by
      rcases List.mem_append.mp hq with h | h
      · exact hS.2.2 q h
      · exact hL q h⟩⟩ T' rfl X'
  refine ⟨t2, go t2 ?_, b1⟩
  rw [hv]
  rw [List.map_append] at a1
  have e9 : (r.toList).map (hd_v G.2.1) = (r.map (hd_v G.2.1)).toList := by cases r <;> rfl
  rw [e9] at a1
  exact a1
/-- what is static at a call of J by its link -/
def hd_cal (I J : hd_I) (index n : Nat) : Prop := Cond.code J.2.1 J.2.2.1 J.2.2.2.1 J.2.2.2.2.1 ∈ hd_tbl ∧ Cond.initialized J.2.1.cls ∈ hd_tbl ∧ plainName J.2.1.cls = true ∧ J.1 = J.2.1.cls ∧ (J.2.1.cls ≠ "java/lang/invoke/MethodHandle" ∧ J.2.1.cls ≠ "java/lang/invoke/VarHandle" ∧ (parseMethodDescriptor J.2.1.desc).map (fun d => d.parameters.length) = some n) ∧ J.2.2.2.2.2.1 < I.2.2.2.2.2.1 ∧ J.2.2.2.1 ≤ 17
theorem hd_room {d d' x : Nat} (h : d' < d) (hx : x ≤ 17) : (hd_rm d').frames + 1 ≤ (hd_rm d).frames ∧ 8 + (x + 11) + (hd_rm d').locals ≤ (hd_rm d).locals := by
  show d' + 1 ≤ d ∧ 8 + (x + 11) + 36 * d' ≤ 36 * d
  omega
theorem hd_cats {ad : Nat → Nat} {st : List Value} : ((st.map (hd_v ad)).map fun v => v.category).sum = (st.map fun v => v.category).sum := by
  rw [List.map_map]
  congr 1
  apply List.map_congr_left
  intro v _
  exact hd_v_cat ad v
theorem hd_callS {J : hd_I} {index : Nat} {as st0 : List Value} {P : hd_Q} (hd : decode I.2.2.1 pc = .ok (.invokestatic index, 3)) (hc : hd_cal I J index as.length) (hl : Cond.methodLink I.1 index J.2.1 ∈ hd_tbl) (hst : Cond.static J.2.1 ∈ hd_tbl) (hst0 : st0 = as.reverse ++ st) (hlen : (hd_en1 as).length ≤ J.2.2.2.1) (hcat : (st.map fun v => v.category).sum ≤ 8)
    (h : hd_Ret J as M N P) (k : ∀ r M1 N1, P r M1 N1 → hd_Go I (pc + 3) lv (r.toList ++ st) M1 N1 Q) : hd_Go I pc lv st0 M N Q := by
  intro p l e s m args below meth c H locs G A ls C hH hL
  have hT := C.2.2.2.2.2.1
  obtain ⟨q1, q2, q3, q4, q5, q6, q7⟩ := hc
  refine hd_after (P := P) (a := (as.map (hd_v G.2.1)).toArray) (va_runS (As := as.map (hd_v G.2.1)) (rest := st.map (hd_v G.2.1)) ⟨C.1, C.2.1, C.2.2.1, C.2.2.2.2.1, hT⟩ (hd_met h q3 q4 hlen l G A) ⟨callB_of as.length hT (hd_goodws q1) rfl rfl rfl (hT _ q2) (hT _ hl) q5 (hd_room q6 q7), hT _ hst⟩ ⟨hd_blind, fun U hU hW => ⟨rfl, hd_enter C.2.2.2.2.2.2.2.1 C.2.2.2.2.2.2.2.2 hH U hU hW⟩⟩ rfl (List.length_map _) hL.2.1 ?_ ?_ hd ⟨Nat.le_refl _, Nat.le_refl _⟩) hH ?_
  · show st0.map (hd_v G.2.1) = _
    rw [hst0, List.map_append, List.map_reverse]
  · rw [hd_cats]
    show 2 * 0 + _ ≤ 8
    omega
  · intro r M1 N1 hp H1 locs1 hH1
    exact k r M1 N1 hp p l e s m args below meth c H1 locs1 G A ls C hH1 hL
theorem hd_callSN {J : hd_I} {index : Nat} {as st0 : List Value} {P : hd_Q} (hd : decode I.2.2.1 pc = .ok (.invokestatic index, 3)) (hc : hd_cal I J index as.length) (hl : I.1 = RX4 ∧ index = hd_nx ∧ J.2.1 = yX5_isWithin) (hst : Cond.static J.2.1 ∈ hd_tbl) (hst0 : st0 = as.reverse ++ st) (hlen : (hd_en1 as).length ≤ J.2.2.2.1) (hcat : (st.map fun v => v.category).sum ≤ 8)
    (h : hd_Ret J as M N P) (k : ∀ r M1 N1, P r M1 N1 → hd_Go I (pc + 3) lv (r.toList ++ st) M1 N1 Q) : hd_Go I pc lv st0 M N Q := by
  intro p l e s m args below meth c H locs G A ls C hH hL
  have hT := C.2.2.2.2.2.1
  obtain ⟨q1, q2, q3, q4, q5, q6, q7⟩ := hc
  have hN : va_Nw (.methodLinkNest I.1 index J.2.1 RX5) s := by
    rw [hl.1, hl.2.1, hl.2.2]
    exact C.2.2.2.2.2.2.2.2.2.2.2
  refine hd_after (P := P) (a := (as.map (hd_v G.2.1)).toArray) (va_runSN (As := as.map (hd_v G.2.1)) (rest := st.map (hd_v G.2.1)) ⟨C.1, C.2.1, C.2.2.1, C.2.2.2.2.1, hT⟩ (hd_met h q3 q4 hlen l G A) ⟨va_cnB as.length hT (hd_goodws q1) rfl rfl rfl hN (hT _ q2) q5 (hd_room q6 q7), hT _ hst, trivial⟩ ⟨hd_blind, fun U hU hW => ⟨rfl, hd_enter C.2.2.2.2.2.2.2.1 C.2.2.2.2.2.2.2.2 hH U hU hW⟩⟩ rfl (List.length_map _) hL.2.1 ?_ ?_ hd ⟨Nat.le_refl _, Nat.le_refl _⟩) hH ?_
  · show st0.map (hd_v G.2.1) = _
    rw [hst0, List.map_append, List.map_reverse]
  · rw [hd_cats]
    show 2 * 0 + _ ≤ 8
    omega
  · intro r M1 N1 hp H1 locs1 hH1
    exact k r M1 N1 hp p l e s m args below meth c H1 locs1 G A ls C hH1 hL
theorem hd_callV {J : hd_I} {index ci b : Nat} {fs : List (Nat × Nat)} {q : vw_C} {as st0 : List Value} {P : hd_Q} (hd : decode I.2.2.1 pc = .ok (.invokevirtual index, 3)) (hc : hd_cal I J index as.length) (hl : Cond.methodLink I.1 index J.2.1 ∈ hd_tbl) (hin : Cond.instanceMethod J.2.1 ∈ hd_tbl) (hsel : Cond.selects J.2.1.cls J.2.1 J.2.1 ∈ hd_tbl) (hs : hd_shp[b]? = some (.inr (.inr (ci, fs)))) (hq : hd_cl[ci]? = some q) (hqc : q.1 = J.2.1.cls) (hst0 : st0 = as.reverse ++ .ref b :: st) (hlen : (hd_en1 (.ref b :: as)).length ≤ J.2.2.2.1) (hcat : (st.map fun v => v.category).sum ≤ 8)
    (h : hd_Ret J (.ref b :: as) M N P) (k : ∀ r M1 N1, P r M1 N1 → hd_Go I (pc + 3) lv (r.toList ++ st) M1 N1 Q) : hd_Go I pc lv st0 M N Q := by
  intro p l e s m args below meth c H locs G A ls C hH hL
  have hT := C.2.2.2.2.2.1
  obtain ⟨q1, q2, q3, q4, q5, q6, q7⟩ := hc
  have hrecv := va_recv (ws := hd_w G M N) (a := G.2.1 b) C.2.2.2.2.2.2.2.1 hH.1 hq (q0 := b) (hd_w_at hs)
  rw [hqc] at hrecv
  refine hd_after (P := P) (a := ((.ref b :: as).map (hd_v G.2.1)).toArray) (va_runV (C := J.2.1.cls) (b := G.2.1 b) (As := as.map (hd_v G.2.1)) (rest := st.map (hd_v G.2.1)) ⟨C.1, C.2.1, C.2.2.1, C.2.2.2.2.1, hT⟩ (hd_met h q3 q4 hlen l G A) ⟨callB_of as.length hT (hd_goodws q1) rfl rfl rfl (hT _ q2) (hT _ hl) q5 (hd_room q6 q7), hT _ hin, hT _ hsel⟩ ⟨hd_blind, hrecv, fun U hU hW => ⟨rfl, hd_enter C.2.2.2.2.2.2.2.1 C.2.2.2.2.2.2.2.2 hH U hU hW⟩⟩ rfl (List.length_map _) hL.2.1 ?_ ?_ hd ⟨Nat.le_refl _, Nat.le_refl _⟩) hH ?_
  · show st0.map (hd_v G.2.1) = _
    rw [hst0, List.map_append, List.map_reverse]
    rfl
  · rw [hd_cats]
    show 2 * 0 + _ ≤ 8
    omega
  · intro r M1 N1 hp H1 locs1 hH1
    exact k r M1 N1 hp p l e s m args below meth c H1 locs1 G A ls C hH1 hL
theorem hd_ldcs {index i : Nat} {tx : String} (hd : decode I.2.2.1 pc = .ok (.ldc index, 2)) (ho : I.1 = RX4) (hx : hd_tx[i]? = some (index, tx)) (h : hd_Go I (pc + 2) lv (.ref (1000 + i) :: st) M N Q) : hd_Go I pc lv st M N Q :=
  fun p l e s m args below meth c H locs G A ls C hH hL => va_ldcS C.1 C.2.1 (own := RX4) (by rw [← ho]; exact C.2.2.2.2.1) (C.2.2.2.2.2.2.2.2.2.2.1 i (index, tx) hx) hd (h p l e s m args below meth c H locs G A ls C hH hL)
theorem hd_d1 {d : Nat} (h : 0 < d) {st : List Value} {ad : Nat → Nat} (hc : (st.map fun v => v.category).sum ≤ 8) : 1 ≤ (hd_rm d).frames ∧ ((st.map (hd_v ad)).map fun v => v.category).sum + 13 ≤ (hd_rm d).locals := by
  rw [hd_cats]
  show 1 ≤ d ∧ _ + 13 ≤ 36 * d
  omega
theorem hd_mmax {index : Nat} {x y : Int32} (hd : decode I.2.2.1 pc = .ok (.invokestatic index, 3)) (hl : Cond.methodLink I.1 index Lib.Math.max.name ∈ hd_tbl) (hst : Cond.static Lib.Math.max.name ∈ hd_tbl) (hini : Cond.initialized "java/lang/Math" ∈ hd_tbl) (hco : Cond.code Lib.Math.max.name Lib.Math.max.code 2 (some .int) ∈ hd_tbl) (h0 : 0 < I.2.2.2.2.2.1) (hcat : (st.map fun v => v.category).sum ≤ 8) (h : hd_Go I (pc + 3) lv (.int (if x < y then y else x) :: st) M N Q) : hd_Go I pc lv (.int y :: .int x :: st) M N Q := by
  intro p l e s m args below meth c H locs G A ls C hH hL
  have hT := C.2.2.2.2.2.1
  obtain ⟨r1, r2⟩ := hd_d1 (ad := G.2.1) h0 hcat
  exact va_mmax C.1 C.2.1 (C.2.2.1.trans hL.2.1.symm) C.2.2.2.2.1 (hT _ hl) (hT _ hst) (hT _ hini) (hT _ hco) r1 r2 (Nat.zero_le _) (Nat.zero_le _) hd (h p l e s m args below meth c H locs G A ls C hH hL)
theorem hd_mmin {index : Nat} {x y : Int32} (hd : decode I.2.2.1 pc = .ok (.invokestatic index, 3)) (hl : Cond.methodLink I.1 index Lib.Math.min.name ∈ hd_tbl) (hst : Cond.static Lib.Math.min.name ∈ hd_tbl) (hini : Cond.initialized "java/lang/Math" ∈ hd_tbl) (hco : Cond.code Lib.Math.min.name Lib.Math.min.code 2 (some .int) ∈ hd_tbl) (h0 : 0 < I.2.2.2.2.2.1) (hcat : (st.map fun v => v.category).sum ≤ 8) (h : hd_Go I (pc + 3) lv (.int (if y < x then y else x) :: st) M N Q) : hd_Go I pc lv (.int y :: .int x :: st) M N Q := by
  intro p l e s m args below meth c H locs G A ls C hH hL
  have hT := C.2.2.2.2.2.1
  obtain ⟨r1, r2⟩ := hd_d1 (ad := G.2.1) h0 hcat
  exact va_mmin C.1 C.2.1 (C.2.2.1.trans hL.2.1.symm) C.2.2.2.2.1 (hT _ hl) (hT _ hst) (hT _ hini) (hT _ hco) r1 r2 (Nat.zero_le _) (Nat.zero_le _) hd (h p l e s m args below meth c H locs G A ls C hH hL)
/-- arraycopy between rows of ints -/
def hd_cp (M : hd_M) (a b sp dp n : Nat) : hd_M := fun c j => if c = b then va_cpy (M a) (M b) sp dp n j else M c j
theorem hd_copy {index a b n0 n1 : Nat} {sp dp n : Int32} (hd : decode I.2.2.1 pc = .ok (.invokestatic index, 3)) (hl : Cond.methodLink I.1 index arraycopyName ∈ hd_tbl) (hnat : Cond.native arraycopyName ∈ hd_tbl) (hst : Cond.static arraycopyName ∈ hd_tbl) (hini : Cond.initialized "java/lang/System" ∈ hd_tbl) (h0 : 0 < I.2.2.2.2.2.1) (hcat : st = []) (hs0 : hd_shp[a]? = some (.inl (0, n0))) (hs1 : hd_shp[b]? = some (.inl (0, n1))) (h1 : ¬ sp < 0) (h2 : ¬ dp < 0) (h3 : ¬ n < 0) (h4 : sp.toNatClampNeg + n.toNatClampNeg ≤ n0) (h5 : dp.toNatClampNeg + n.toNatClampNeg ≤ n1) (h : hd_Go I (pc + 3) lv st (hd_cp M a b sp.toNatClampNeg dp.toNatClampNeg n.toNatClampNeg) N Q) : hd_Go I pc lv (.int n :: .int dp :: .ref b :: .int sp :: .ref a :: st) M N Q := by
  intro p l e s m args below meth c H locs G A ls C hH hL
  subst hcat
  have hT := C.2.2.2.2.2.1
  refine va_copyi (ws := hd_w G M N) C.1 C.2.1 (C.2.2.1.trans hL.2.1.symm) C.2.2.2.2.1 (hT _ hl) (hT _ hnat) (hT _ hst) (hT _ hini) C.2.2.2.2.2.2.2.1 hH.1 hH.2.1 hH.2.2 a b 0 0 (hd_w_at hs0) (hd_w_at hs1) (ty := .int) rfl rfl rfl h1 h2 h3 h4 h5 (fun _ _ => rfl) ?_ ?_ hd ?_
  · show 1 ≤ I.2.2.2.2.2.1
    omega
  · show 0 + (nativeFrameWords "java/lang/System" "arraycopy" 5 + 11) ≤ 36 * I.2.2.2.2.2.1
    have : nativeFrameWords "java/lang/System" "arraycopy" 5 ≤ 25 := by decide +kernel
    omega
  · intro H1 locs1 hP hD hS
    have e9 : (hd_w G M N).set b (G.2.1 b, .inl (G.2.2 0, n1, .inl (va_cpy (M a) (M b) sp.toNatClampNeg dp.toNatClampNeg n.toNatClampNeg))) = hd_w G (hd_cp M a b sp.toNatClampNeg dp.toNatClampNeg n.toNatClampNeg) N := by
      refine hd_w_set2 (M' := hd_cp M a b sp.toNatClampNeg dp.toNatClampNeg n.toNatClampNeg) (N' := N) ?_ hs1 (fun c d hc => by simp [hd_cp, hc]) (fun _ _ _ => rfl)
      show _ = (G.2.1 b, Sum.inl (G.2.2 0, n1, Sum.inl (hd_cp M a b sp.toNatClampNeg dp.toNatClampNeg n.toNatClampNeg b)))
      have : hd_cp M a b sp.toNatClampNeg dp.toNatClampNeg n.toNatClampNeg b = va_cpy (M a) (M b) sp.toNatClampNeg dp.toNatClampNeg n.toNatClampNeg := by
        funext j
        simp [hd_cp]
      rw [this]
    rw [e9] at hP hD
    exact h p l e s m args below meth c H1 locs1 G A ls C ⟨hP, hD, hS⟩ hL
/-! switches -/
def hd_sw (dflt : Nat) (x : Int32) : List (Int32 × Nat) → Nat
  | [] => dflt
  | (v, t) :: r => if x = v then t else hd_sw dflt x r
end
end
section
/-! THE EVALUATOR: straight stretches of a method, by reckoning alone -/
abbrev hd_K : Type := Prop → Nat → hd_L → List Value → hd_M → hd_N → Prop
def hd_nth {α : Type} : List α → Nat → Option α
  | [], _ => none
  | x :: _, 0 => some x
  | _ :: xs, n + 1 => hd_nth xs n
theorem hd_nth_eq {α : Type} : ∀ (l : List α) (n : Nat), hd_nth l n = l[n]? := by
  intro l
  induction l with
  | nil => intro n; rfl
  | cons x xs ih =>
    intro n
    match n with
    | 0 => rfl
    | n + 1 => rw [hd_nth, List.getElem?_cons_succ]; exact ih n
def hd_ld : hd_L → Nat → (Value → Prop) → Prop
  | [], _, _ => False
  | x :: _, 0, k => (match x with | some v => k v | none => False)
  | _ :: xs, n + 1, k => hd_ld xs n k
theorem hd_ld_ok : ∀ (l : hd_L) (n : Nat) (k : Value → Prop), hd_ld l n k → ∃ v, l[n]? = some (some v) ∧ k v := by
  intro l
  induction l with
  | nil => intro n k h; exact h.elim
  | cons x xs ih =>
    intro n k h
    match n, h with
    | 0, h =>
      cases x with
      | none => exact h.elim
      | some v => exact ⟨v, rfl, h⟩
    | n + 1, h =>
      obtain ⟨v, h1, h2⟩ := ih n k h
      exact ⟨v, by rw [List.getElem?_cons_succ]; exact h1, h2⟩
def hd_no2 : Option Value → Prop → Prop
  | some (.long _), _ => False
  | some (.double _), _ => False
  | _, k => k
theorem hd_no2_ok {x : Option Value} {k : Prop} (h : hd_no2 x k) : k ∧ ∀ u : Value, x = some u → u.category ≠ 2 := by
  cases x with
  | none => exact ⟨h, fun _ e => by cases e⟩
  | some v => cases v <;> first | exact h.elim | exact ⟨h, fun u e => by cases e; decide⟩ | exact ⟨h, fun u e => by cases e; intro z; cases z⟩
def hd_sv : hd_L → Nat → Option Value → (hd_L → Prop) → Prop
  | [], _, _, _ => False
  | _ :: xs, 0, v, k => k (v :: xs)
  | x :: xs, 1, v, k => (match xs with | [] => False | _ :: ys => hd_no2 x (k (x :: v :: ys)))
  | x :: xs, n + 2, v, k => hd_sv xs (n + 1) v (fun ys => k (x :: ys))
theorem hd_sv_ok : ∀ (l : hd_L) (n : Nat) (v : Option Value) (k : hd_L → Prop), hd_sv l n v k → k (l.set n v) ∧ n < l.length ∧ ∀ u : Value, l[n - 1]? = some (some u) → 0 < n → u.category ≠ 2 := by
  intro l
  induction l with
  | nil => intro n v k h; unfold hd_sv at h; exact h.elim
  | cons x xs ih =>
    intro n v k h
    match n, h with
    | 0, h => exact ⟨h, Nat.zero_lt_succ _, fun u _ z => absurd z (Nat.lt_irrefl 0)⟩
    | 1, h =>
      cases xs with
      | nil => exact h.elim
      | cons y ys =>
        obtain ⟨h1, h2⟩ := hd_no2_ok h
        exact ⟨h1, by simp, fun u hu _ => h2 u (by simpa using hu)⟩
    | n + 2, h =>
      obtain ⟨h1, h2, h3⟩ := ih (n + 1) v _ h
      refine ⟨h1, by simp only [List.length_cons]; omega, fun u hu _ => h3 u ?_ (by omega)⟩
      simpa using hu
def hd_bq (a b : Nat) (P : Prop) : Prop := match Nat.beq a b with
  | true => P
  | false => False
theorem hd_bq_ok {a b : Nat} {P : Prop} (h : hd_bq a b P) : a = b ∧ P := by
  unfold hd_bq at h
  split at h
  · next e => exact ⟨Nat.eq_of_beq_eq_true e, h⟩
  · exact h.elim
def hd_i1 (st : List Value) (k : Int32 → List Value → Prop) : Prop := match st with
  | .int x :: st => k x st
  | _ => False
def hd_i2 (st : List Value) (k : Int32 → Int32 → List Value → Prop) : Prop := match st with
  | .int y :: .int x :: st => k x y st
  | _ => False
def hd_l2 (st : List Value) (k : Int64 → Int64 → List Value → Prop) : Prop := match st with
  | .long y :: .long x :: st => k x y st
  | _ => False
def hd_l1 (st : List Value) (k : Int64 → List Value → Prop) : Prop := match st with
  | .long x :: st => k x st
  | _ => False
def hd_r1 (st : List Value) (k : Nat → List Value → Prop) : Prop := match st with
  | .ref x :: st => k x st
  | _ => False
def hd_isI (v : Value) (k : Int32 → Prop) : Prop := match v with
  | .int x => k x
  | _ => False
def hd_isL (v : Value) (k : Int64 → Prop) : Prop := match v with
  | .long x => k x
  | _ => False
def hd_isR (v : Value) (k : Nat → Prop) : Prop := match v with
  | .ref x => k x
  | _ => False
def hd_obj (c : Nat) (k : Nat → List (Nat × Nat) → Prop) : Prop := match hd_nth hd_shp c with
  | some (.inr (.inr (ci, fs))) => k ci fs
  | _ => False
def hd_arr (c : Nat) (k : Nat → Nat → Prop) : Prop := match hd_nth hd_shp c with
  | some (.inl (t, n)) => k t n
  | _ => False
def hd_rar (c : Nat) (k : Nat → List Nat → Prop) : Prop := match hd_nth hd_shp c with
  | some (.inr (.inl (t, rs))) => k t rs
  | _ => False
theorem hd_obj_ok {c : Nat} {k : Nat → List (Nat × Nat) → Prop} (h : hd_obj c k) : ∃ ci fs, hd_shp[c]? = some (.inr (.inr (ci, fs))) ∧ k ci fs := by
  unfold hd_obj at h
  rw [hd_nth_eq] at h
  split at h
  · next ci fs e => exact ⟨ci, fs, e, h⟩
  · exact h.elim
theorem hd_arr_ok {c : Nat} {k : Nat → Nat → Prop} (h : hd_arr c k) : ∃ t n, hd_shp[c]? = some (.inl (t, n)) ∧ k t n := by
  unfold hd_arr at h
  rw [hd_nth_eq] at h
  split at h
  · next ci fs e => exact ⟨ci, fs, e, h⟩
  · exact h.elim
theorem hd_rar_ok {c : Nat} {k : Nat → List Nat → Prop} (h : hd_rar c k) : ∃ t rs, hd_shp[c]? = some (.inr (.inl (t, rs))) ∧ k t rs := by
  unfold hd_rar at h
  rw [hd_nth_eq] at h
  split at h
  · next ci fs e => exact ⟨ci, fs, e, h⟩
  · exact h.elim
theorem hd_i1_ok {st : List Value} {k : Int32 → List Value → Prop} (h : hd_i1 st k) : ∃ x r, st = .int x :: r ∧ k x r := by
  unfold hd_i1 at h
  split at h
  · exact ⟨_, _, rfl, h⟩
  · exact h.elim
theorem hd_i2_ok {st : List Value} {k : Int32 → Int32 → List Value → Prop} (h : hd_i2 st k) : ∃ x y r, st = .int y :: .int x :: r ∧ k x y r := by
  unfold hd_i2 at h
  split at h
  · exact ⟨_, _, _, rfl, h⟩
  · exact h.elim
theorem hd_l1_ok {st : List Value} {k : Int64 → List Value → Prop} (h : hd_l1 st k) : ∃ x r, st = .long x :: r ∧ k x r := by
  unfold hd_l1 at h
  split at h
  · exact ⟨_, _, rfl, h⟩
  · exact h.elim
theorem hd_l2_ok {st : List Value} {k : Int64 → Int64 → List Value → Prop} (h : hd_l2 st k) : ∃ x y r, st = .long y :: .long x :: r ∧ k x y r := by
  unfold hd_l2 at h
  split at h
  · exact ⟨_, _, _, rfl, h⟩
  · exact h.elim
theorem hd_r1_ok {st : List Value} {k : Nat → List Value → Prop} (h : hd_r1 st k) : ∃ x r, st = .ref x :: r ∧ k x r := by
  unfold hd_r1 at h
  split at h
  · exact ⟨_, _, rfl, h⟩
  · exact h.elim
theorem hd_isI_ok {v : Value} {k : Int32 → Prop} (h : hd_isI v k) : ∃ x, v = .int x ∧ k x := by
  unfold hd_isI at h
  split at h
  · exact ⟨_, rfl, h⟩
  · exact h.elim
theorem hd_isL_ok {v : Value} {k : Int64 → Prop} (h : hd_isL v k) : ∃ x, v = .long x ∧ k x := by
  unfold hd_isL at h
  split at h
  · exact ⟨_, rfl, h⟩
  · exact h.elim
theorem hd_isR_ok {v : Value} {k : Nat → Prop} (h : hd_isR v k) : ∃ x, v = .ref x ∧ k x := by
  unfold hd_isR at h
  split at h
  · exact ⟨_, rfl, h⟩
  · exact h.elim
def hd_few : List Value → Nat → Prop → Prop
  | [], _, k => k
  | _ :: xs, n + 1, k => hd_few xs n k
  | _ :: _, 0, _ => False
theorem hd_cat_le (v : Value) : v.category ≤ 2 := by cases v <;> first | exact Nat.le_refl 2 | exact Nat.le_succ 1
theorem hd_few_ok : ∀ (l : List Value) (n : Nat) (k : Prop), hd_few l n k → (l.map fun v => v.category).sum ≤ 2 * n ∧ k := by
  intro l
  induction l with
  | nil => intro n k h; exact ⟨Nat.zero_le _, by simpa [hd_few] using h⟩
  | cons x xs ih =>
    intro n k h
    match n, h with
    | 0, h => exact h.elim
    | n + 1, h =>
      obtain ⟨h1, h2⟩ := ih n k h
      refine ⟨?_, h2⟩
      rw [List.map_cons, List.sum_cons]
      have := hd_cat_le x
      omega
/-- an instruction's length in bytes -/
def hd_len : Instr → Nat
  | .bipush _ => 2
  | .ldc _ => 2
  | .iload _ => 2
  | .lload _ => 2
  | .aload _ => 2
  | .istore _ => 2
  | .lstore _ => 2
  | .astore _ => 2
  | .sipush _ => 3
  | .ldc_w _ => 3
  | .ldc2_w _ => 3
  | .iinc _ _ => 3
  | .goto _ => 3
  | .if_icmp _ _ => 3
  | .ifCond _ _ => 3
  | .getfield _ => 3
  | .putfield _ => 3
  | .invokevirtual _ => 3
  | .invokestatic _ => 3
  | _ => 1
/-- the word w stands at place i of the tables, and lasts -/
def hd_wd (i : Nat) (w : Cond) : Bool := decide (lw_tbl[i]? = some w) && goodWord w
theorem hd_wd_ok {i : Nat} {w : Cond} (h : hd_wd i w = true) : w ∈ hd_tbl := by
  unfold hd_wd at h
  rw [Bool.and_eq_true, decide_eq_true_eq] at h
  exact hd_in i h.1 h.2
def hd_fld (I : hd_I) (index ci k i : Nat) : Bool := match hd_nth hd_cl ci with
  | some q => decide (k < q.2.2) && hd_wd i (Cond.fieldLink I.1 index (q.2.1 k).1 (q.2.1 k).2.1 (q.2.1 k).2.2.1)
  | none => false
theorem hd_fld_ok {I : hd_I} {index ci k i : Nat} (h : hd_fld I index ci k i = true) : ∃ q : vw_C, hd_cl[ci]? = some q ∧ k < q.2.2 ∧ Cond.fieldLink I.1 index (q.2.1 k).1 (q.2.1 k).2.1 (q.2.1 k).2.2.1 ∈ hd_tbl := by
  unfold hd_fld at h
  rw [hd_nth_eq] at h
  split at h
  · next q e =>
    rw [Bool.and_eq_true, decide_eq_true_eq] at h
    exact ⟨q, e, h.1, hd_wd_ok h.2⟩
  · cases h
def hd_fin (ci k : Nat) : Bool := match hd_nth hd_cl ci with
  | some q => !(q.2.1 k).2.2.2
  | none => false
/-- 0: an int; 1: a boolean; 2: a long -/
def hd_kd (ci k : Nat) (v : Int32) : Bool := match hd_ty ci k with
  | .int => decide (v = 0)
  | .boolean => decide (v = 1)
  | .long => decide (v = 2)
  | _ => false
def hd_al (pc : Nat) : List (Int32 × Nat) → List (Int × Int) → Bool
  | [], [] => true
  | (v, t) :: r, (k, o) :: r' => decide (v.toInt = k) && decide ((pc : Int) + o = (t : Int)) && hd_al pc r r'
  | _, _ => false
def hd_tps : Int → List Int → List (Int × Int)
  | _, [] => []
  | lo, o :: r => (lo, o) :: hd_tps (lo + 1) r
/-- what is static of an instruction -/
def hd_ok1 (I : hd_I) (pc : Nat) (o : hd_O) : Bool := match o with
  | (i, nx, a, b, v, v64, sw, ws) => (match i with
    | .tableswitch dflt lo hi offs => decide (decode I.2.2.1 pc = .ok (i, nx - pc)) && decide ((pc : Int) + dflt = (a : Int)) && hd_al pc sw (hd_tps lo offs.toList) && decide (lo + offs.toList.length = hi + 1)
    | .lookupswitch dflt ps => decide (decode I.2.2.1 pc = .ok (i, nx - pc)) && decide ((pc : Int) + dflt = (a : Int)) && hd_al pc sw ps.toList && (ps.toList.zip (ps.toList.drop 1)).all (fun (a, next) => a.1 < next.1)
    | i => decide (decode I.2.2.1 pc = .ok (i, hd_len i)) && decide (nx = pc + hd_len i) && (match i with
      | .iconst n => decide (Int32.ofInt n = v)
      | .bipush n => decide ((Int8.ofInt n).toInt32 = v)
      | .sipush n => decide ((Int16.ofInt n).toInt32 = v)
      | .lconst n => decide (Int64.ofNat (n : Nat) = v64)
      | .ldc k => (match b with
        | 0 => hd_wd (ws.getD 0 0) (Cond.constant I.1 k v)
        | j + 1 => decide (I.1 = RX4) && decide (a = 1000 + j) && decide ((hd_tx[j]?).map Prod.fst = some k))
      | .ldc_w k => hd_wd (ws.getD 0 0) (Cond.constant I.1 k v)
      | .ldc2_w k => hd_wd (ws.getD 0 0) (Cond.constantLong I.1 k v64)
      | .iload_n k => decide ((k : Nat) = a)
      | .lload_n k => decide ((k : Nat) = a)
      | .aload_n k => decide ((k : Nat) = a)
      | .istore_n k => decide ((k : Nat) = a)
      | .lstore_n k => decide ((k : Nat) = a)
      | .astore_n k => decide ((k : Nat) = a)
      | .iload k => decide (k = a)
      | .lload k => decide (k = a)
      | .aload k => decide (k = a)
      | .istore k => decide (k = a)
      | .lstore k => decide (k = a)
      | .astore k => decide (k = a)
      | .iinc k n => decide (k = a) && decide (Int32.ofInt n = v)
      | .goto off => decide ((pc : Int) + off = (a : Int))
      | .if_icmp _ off => decide ((pc : Int) + off = (a : Int))
      | .ifCond _ off => decide ((pc : Int) + off = (a : Int))
      | .invokestatic k => (match Nat.beq a 9001 with
        | true => hd_wd (ws.getD 0 0) (Cond.code Lib.Math.max.name Lib.Math.max.code 2 (some .int)) && hd_wd (ws.getD 1 0) (Cond.initialized "java/lang/Math") && hd_wd (ws.getD 2 0) (Cond.methodLink I.1 k Lib.Math.max.name) && hd_wd (ws.getD 3 0) (Cond.static Lib.Math.max.name) && decide (0 < I.2.2.2.2.2.1)
        | false => (match Nat.beq a 9002 with
          | true => hd_wd (ws.getD 0 0) (Cond.code Lib.Math.min.name Lib.Math.min.code 2 (some .int)) && hd_wd (ws.getD 1 0) (Cond.initialized "java/lang/Math") && hd_wd (ws.getD 2 0) (Cond.methodLink I.1 k Lib.Math.min.name) && hd_wd (ws.getD 3 0) (Cond.static Lib.Math.min.name) && decide (0 < I.2.2.2.2.2.1)
          | false => (match Nat.beq a 9003 with
            | true => hd_wd (ws.getD 0 0) (Cond.native arraycopyName) && hd_wd (ws.getD 1 0) (Cond.initialized "java/lang/System") && hd_wd (ws.getD 2 0) (Cond.methodLink I.1 k arraycopyName) && hd_wd (ws.getD 3 0) (Cond.static arraycopyName) && decide (0 < I.2.2.2.2.2.1)
            | false => true)))
      | .getfield k => hd_fld I k a b (ws.getD 0 0)
      | .putfield k => hd_fld I k a b (ws.getD 0 0) && hd_fin a b && hd_kd a b v
      | _ => true))
/-- one instruction of a straight stretch; else the stretch stops -/
def hd_st1 (o : hd_O) (pc : Nat) (lv : hd_L) (st : List Value) (M : hd_M) (N : hd_N) (C : Prop) (k : hd_L → List Value → hd_M → hd_N → Prop → Prop) (stop : Nat → Prop) : Prop := match o with
  | (i, _, a, b, v, v64, _, _) => (match i with
    | .iconst _ => k lv (.int v :: st) M N C
    | .bipush _ => k lv (.int v :: st) M N C
    | .sipush _ => k lv (.int v :: st) M N C
    | .lconst _ => k lv (.long v64 :: st) M N C
    | .ldc _ => (match b with
      | 0 => k lv (.int v :: st) M N C
      | _ => k lv (.ref a :: st) M N C)
    | .ldc_w _ => k lv (.int v :: st) M N C
    | .ldc2_w _ => k lv (.long v64 :: st) M N C
    | .iload_n _ => hd_ld lv a (fun z => hd_isI z (fun x => k lv (.int x :: st) M N C))
    | .iload _ => hd_ld lv a (fun z => hd_isI z (fun x => k lv (.int x :: st) M N C))
    | .lload_n _ => hd_ld lv a (fun z => hd_isL z (fun x => k lv (.long x :: st) M N C))
    | .lload _ => hd_ld lv a (fun z => hd_isL z (fun x => k lv (.long x :: st) M N C))
    | .aload_n _ => hd_ld lv a (fun z => hd_isR z (fun x => k lv (.ref x :: st) M N C))
    | .aload _ => hd_ld lv a (fun z => hd_isR z (fun x => k lv (.ref x :: st) M N C))
    | .istore_n _ => hd_i1 st (fun x st => hd_sv lv a (some (.int x)) (fun lv => k lv st M N C))
    | .istore _ => hd_i1 st (fun x st => hd_sv lv a (some (.int x)) (fun lv => k lv st M N C))
    | .astore_n _ => hd_r1 st (fun x st => hd_sv lv a (some (.ref x)) (fun lv => k lv st M N C))
    | .astore _ => hd_r1 st (fun x st => hd_sv lv a (some (.ref x)) (fun lv => k lv st M N C))
    | .lstore_n _ => hd_l1 st (fun x st => hd_sv lv (a + 1) none (fun lv => hd_sv lv a (some (.long x)) (fun lv => k lv st M N C)))
    | .lstore _ => hd_l1 st (fun x st => hd_sv lv (a + 1) none (fun lv => hd_sv lv a (some (.long x)) (fun lv => k lv st M N C)))
    | .iinc _ _ => hd_ld lv a (fun z => hd_isI z (fun x => hd_sv lv a (some (.int (x + v))) (fun lv => k lv st M N C)))
    | .iadd => hd_i2 st (fun x y st => k lv (.int (x + y) :: st) M N C)
    | .isub => hd_i2 st (fun x y st => k lv (.int (x - y) :: st) M N C)
    | .imul => hd_i2 st (fun x y st => k lv (.int (x * y) :: st) M N C)
    | .ishl => hd_i2 st (fun x y st => k lv (.int (x <<< (y &&& 31)) :: st) M N C)
    | .ishr => hd_i2 st (fun x y st => k lv (.int (x >>> (y &&& 31)) :: st) M N C)
    | .iand => hd_i2 st (fun x y st => k lv (.int (x &&& y) :: st) M N C)
    | .ior => hd_i2 st (fun x y st => k lv (.int (x ||| y) :: st) M N C)
    | .idiv => hd_i2 st (fun x y st => k lv (.int (x / y) :: st) M N (C ∧ ¬ y = 0))
    | .irem => hd_i2 st (fun x y st => k lv (.int (x - x / y * y) :: st) M N (C ∧ ¬ y = 0))
    | .iushr => hd_i2 st (fun x y st => k lv (.int (x.toUInt32 >>> (y.toUInt32 &&& Int32.toUInt32 31)).toInt32 :: st) M N C)
    | .ineg => hd_i1 st (fun x st => k lv (.int (-x) :: st) M N C)
    | .i2l => hd_i1 st (fun x st => k lv (.long x.toInt64 :: st) M N C)
    | .i2b => hd_i1 st (fun x st => k lv (.int x.toInt8.toInt32 :: st) M N C)
    | .i2s => hd_i1 st (fun x st => k lv (.int x.toInt16.toInt32 :: st) M N C)
    | .ladd => hd_l2 st (fun x y st => k lv (.long (x + y) :: st) M N C)
    | .lmul => hd_l2 st (fun x y st => k lv (.long (x * y) :: st) M N C)
    | .ldiv => hd_l2 st (fun x y st => k lv (.long (x / y) :: st) M N (C ∧ ¬ y = 0))
    | .lrem => hd_l2 st (fun x y st => k lv (.long (x - x / y * y) :: st) M N (C ∧ ¬ y = 0))
    | .lcmp => hd_l2 st (fun x y st => k lv (.int (lg_cmp x y) :: st) M N C)
    | .dup => (match st with
      | .int x :: st => k lv (.int x :: .int x :: st) M N C
      | .ref x :: st => k lv (.ref x :: .ref x :: st) M N C
      | _ => False)
    | .pop => (match st with
      | .int _ :: st => k lv st M N C
      | .ref _ :: st => k lv st M N C
      | _ => False)
    | .dup2 => (match st with
      | .int x :: .ref y :: st => k lv (.int x :: .ref y :: .int x :: .ref y :: st) M N C
      | .int x :: .int y :: st => k lv (.int x :: .int y :: .int x :: .int y :: st) M N C
      | _ => False)
    | .getfield _ => hd_r1 st (fun c st => hd_obj c (fun ci fs => hd_bq ci a (match hd_nth fs b with
      | some (z, r) => (match z with
        | 0 => k lv (.int (M c b) :: st) M N C
        | 1 => k lv (.long (N c b) :: st) M N C
        | _ => k lv (.ref r :: st) M N C)
      | none => False)))
    | .putfield _ => (match st with
      | .int x :: .ref c :: st => hd_obj c (fun ci fs => hd_bq ci a (match hd_nth fs b with
        | some r => hd_bq r.1 0 (if v = 0 then k lv st (hd_u M c b x) N C else if v = 1 then k lv st (hd_u M c b x) N (C ∧ (x = 0 ∨ x = 1)) else False)
        | none => False))
      | .long x :: .ref c :: st => hd_obj c (fun ci fs => hd_bq ci a (match hd_nth fs b with
        | some r => hd_bq r.1 1 (if v = 2 then k lv st M (hd_uN N c b x) C else False)
        | none => False))
      | _ => False)
    | .iaload => hd_i1 st (fun i st => hd_r1 st (fun c st => hd_arr c (fun t n => hd_bq t 0 (k lv (.int (M c i.toNatClampNeg) :: st) M N (C ∧ vp_in i n)))))
    | .iastore => hd_i2 st (fun i x st => hd_r1 st (fun c st => hd_arr c (fun t n => hd_bq t 0 (k lv st (hd_u M c i.toNatClampNeg x) N (C ∧ vp_in i n)))))
    | .baload => hd_i1 st (fun i st => hd_r1 st (fun c st => hd_arr c (fun t n => (match t with
      | 1 => k lv (.int (M c i.toNatClampNeg) :: st) M N (C ∧ vp_in i n)
      | 2 => k lv (.int (M c i.toNatClampNeg) :: st) M N (C ∧ vp_in i n)
      | _ => False))))
    | .bastore => hd_i2 st (fun i x st => hd_r1 st (fun c st => hd_arr c (fun t n => (match t with
      | 1 => k lv st (hd_u M c i.toNatClampNeg x) N (C ∧ vp_in i n ∧ vp_nar .byte x = x)
      | 2 => k lv st (hd_u M c i.toNatClampNeg x) N (C ∧ vp_in i n ∧ (x = 0 ∨ x = 1))
      | _ => False))))
    | .aaload => hd_i1 st (fun i st => hd_r1 st (fun c st => hd_rar c (fun t rs => (match hd_nth rs i.toNatClampNeg with
      | some r => k lv (.ref r :: st) M N (C ∧ (t = 3 ∨ t = 4) ∧ ¬ i < 0)
      | none => False))))
    | .arraylength => hd_r1 st (fun c st => hd_arr c (fun t n => k lv (.int (Int32.ofNat n) :: st) M N (C ∧ t < 3)))
    | .invokestatic _ => (match Nat.beq a 9001 with
      | true => hd_i2 st (fun x y st => hd_few st 4 (k lv (.int (if x < y then y else x) :: st) M N C))
      | false => (match Nat.beq a 9002 with
        | true => hd_i2 st (fun x y st => hd_few st 4 (k lv (.int (if y < x then y else x) :: st) M N C))
        | false => (match Nat.beq a 9003 with
          | true => hd_i2 st (fun dp n st => hd_r1 st (fun q1 st => hd_i1 st (fun sp st => hd_r1 st (fun q0 st => hd_arr q0 (fun t0 n0 => hd_arr q1 (fun t1 n1 => hd_bq t0 0 (hd_bq t1 0 (hd_few st 0 (k lv st (hd_cp M q0 q1 sp.toNatClampNeg dp.toNatClampNeg n.toNatClampNeg) N (C ∧ ¬ sp < 0 ∧ ¬ dp < 0 ∧ ¬ n < 0 ∧ sp.toNatClampNeg + n.toNatClampNeg ≤ n0 ∧ dp.toNatClampNeg + n.toNatClampNeg ≤ n1))))))))))
          | false => stop pc)))
    | .goto _ => stop a
    | _ => stop pc)
/-- a stretch of instructions, up to the first that isn't straight, or to the place 'till' -/
def hd_ev1 (till : Nat) (k : hd_K) : List (Nat × hd_O) → hd_L → List Value → hd_M → hd_N → Prop → Prop
  | [], _, _, _, _, _ => False
  | (pc, o) :: r, lv, st, M, N, C => (match Nat.beq pc till with
    | true => k C pc lv st M N
    | false => hd_st1 o pc lv st M N C (fun lv st M N C => hd_ev1 till k r lv st M N C) (fun pc => k C pc lv st M N))
def hd_from (pc : Nat) : List (Nat × hd_O) → List (Nat × hd_O)
  | [] => []
  | (q, o) :: r => (match Nat.beq q pc with
    | true => (q, o) :: r
    | false => hd_from pc r)
/-- the first instruction, whatever 'till' says; then the stretch -/
def hd_ev0 (till : Nat) (k : hd_K) : List (Nat × hd_O) → hd_L → List Value → hd_M → hd_N → Prop
  | [], _, _, _, _ => False
  | (pc, o) :: r, lv, st, M, N => hd_st1 o pc lv st M N True (fun lv st M N C => hd_ev1 till k r lv st M N C) (fun pc => k True pc lv st M N)
end
section
/-! THE EVALUATOR IS RIGHT -/
section
variable {I : hd_I} {pc : Nat} {lv : hd_L} {st : List Value} {M : hd_M} {N : hd_N} {Q : hd_Q}
theorem hd_lget {lv : hd_L} {a : Nat} {x : Value} (h : lv[a]? = some (some x)) {y : Value} (e : x = y) : lv[a]? = some (some y) := e ▸ h
theorem hd_sv2_ok {lv : hd_L} {a : Nat} {v : Value} {k : hd_L → Prop} (h : hd_sv lv (a + 1) none (fun lv => hd_sv lv a (some v) k)) : k ((lv.set a (some v)).set (a + 1) none) ∧ a + 1 < lv.length ∧ ∀ u : Value, lv[a - 1]? = some (some u) → 0 < a → u.category ≠ 2 := by
  obtain ⟨h1, h2, h3⟩ := hd_sv_ok _ _ _ _ h
  obtain ⟨h4, h5, h6⟩ := hd_sv_ok _ _ _ _ h1
  refine ⟨?_, h2, fun u hu ha => h6 u ?_ ha⟩
  · rw [List.set_comm _ _ (by omega)]
    exact h4
  · rw [List.getElem?_set_ne (by omega)]
    exact hu
set_option maxHeartbeats 4000000 in
theorem hd_st1_ok {o : hd_O} {C : Prop} {k : hd_L → List Value → hd_M → hd_N → Prop → Prop} {stop : Nat → Prop} (hok : hd_ok1 I pc o = true) (h : hd_st1 o pc lv st M N C k stop) (hk : ∀ lv st M N C', k lv st M N C' → C' ∧ hd_Go I o.2.1 lv st M N Q) (hs : ∀ pc', stop pc' → C ∧ hd_Go I pc' lv st M N Q) : C ∧ hd_Go I pc lv st M N Q := by
  obtain ⟨i, nx, a, b, v, v64, sw, ws⟩ := o
  cases i
  case iconst z0 =>
    simp only [hd_ok1, Bool.and_eq_true, decide_eq_true_eq] at hok
    obtain ⟨⟨hd, rfl⟩, hv⟩ := hok
    obtain ⟨hC, hg⟩ := hk _ _ _ _ _ h
    exact ⟨hC, hd_iconst hd hv hg⟩
  case bipush z0 =>
    simp only [hd_ok1, Bool.and_eq_true, decide_eq_true_eq] at hok
    obtain ⟨⟨hd, rfl⟩, hv⟩ := hok
    obtain ⟨hC, hg⟩ := hk _ _ _ _ _ h
    exact ⟨hC, hd_bipush hd hv hg⟩
  case sipush z0 =>
    simp only [hd_ok1, Bool.and_eq_true, decide_eq_true_eq] at hok
    obtain ⟨⟨hd, rfl⟩, hv⟩ := hok
    obtain ⟨hC, hg⟩ := hk _ _ _ _ _ h
    exact ⟨hC, hd_sipush hd hv hg⟩
  case lconst z0 =>
    simp only [hd_ok1, Bool.and_eq_true, decide_eq_true_eq] at hok
    obtain ⟨⟨hd, rfl⟩, hv⟩ := hok
    obtain ⟨hC, hg⟩ := hk _ _ _ _ _ h
    exact ⟨hC, hd_lconst hd hv hg⟩
  case ldc z0 =>
    match b, h, hok with
    | 0, h, hok =>
      simp only [hd_ok1, Bool.and_eq_true, decide_eq_true_eq] at hok
      obtain ⟨⟨hd, rfl⟩, hv⟩ := hok
      obtain ⟨hC, hg⟩ := hk _ _ _ _ _ h
      exact ⟨hC, hd_ldc hd (hd_wd_ok hv) hg⟩
    | j + 1, h, hok =>
      simp only [hd_ok1, Bool.and_eq_true, decide_eq_true_eq] at hok
      obtain ⟨⟨hd, rfl⟩, ⟨ho, ha⟩, hx⟩ := hok
      obtain ⟨hC, hg⟩ := hk _ _ _ _ _ h
      subst ha
      cases hj : hd_tx[j]? with
      | none => rw [hj] at hx; cases hx
      | some q =>
        obtain ⟨q1, q2⟩ := q
        rw [hj] at hx
        cases hx
        exact ⟨hC, hd_ldcs hd ho hj hg⟩
  case ldc_w z0 =>
    simp only [hd_ok1, Bool.and_eq_true, decide_eq_true_eq] at hok
    obtain ⟨⟨hd, rfl⟩, hv⟩ := hok
    obtain ⟨hC, hg⟩ := hk _ _ _ _ _ h
    exact ⟨hC, hd_ldcw hd (hd_wd_ok hv) hg⟩
  case ldc2_w z0 =>
    simp only [hd_ok1, Bool.and_eq_true, decide_eq_true_eq] at hok
    obtain ⟨⟨hd, rfl⟩, hv⟩ := hok
    obtain ⟨hC, hg⟩ := hk _ _ _ _ _ h
    exact ⟨hC, hd_ldc2 hd (hd_wd_ok hv) hg⟩
  case iload_n z0 =>
    simp only [hd_ok1, Bool.and_eq_true, decide_eq_true_eq] at hok
    obtain ⟨⟨hd, rfl⟩, hv⟩ := hok
    obtain ⟨z, h1, h2⟩ := hd_ld_ok _ _ _ h
    obtain ⟨x, rfl, h3⟩ := hd_isI_ok h2
    obtain ⟨hC, hg⟩ := hk _ _ _ _ _ h3
    exact ⟨hC, hd_iload_n hd hv h1 hg⟩
  case iload z0 =>
    simp only [hd_ok1, Bool.and_eq_true, decide_eq_true_eq] at hok
    obtain ⟨⟨hd, rfl⟩, rfl⟩ := hok
    obtain ⟨z, h1, h2⟩ := hd_ld_ok _ _ _ h
    obtain ⟨x, rfl, h3⟩ := hd_isI_ok h2
    obtain ⟨hC, hg⟩ := hk _ _ _ _ _ h3
    exact ⟨hC, hd_iload hd h1 hg⟩
  case lload_n z0 =>
    simp only [hd_ok1, Bool.and_eq_true, decide_eq_true_eq] at hok
    obtain ⟨⟨hd, rfl⟩, hv⟩ := hok
    obtain ⟨z, h1, h2⟩ := hd_ld_ok _ _ _ h
    obtain ⟨x, rfl, h3⟩ := hd_isL_ok h2
    obtain ⟨hC, hg⟩ := hk _ _ _ _ _ h3
    exact ⟨hC, hd_lload_n hd hv h1 hg⟩
  case lload z0 =>
    simp only [hd_ok1, Bool.and_eq_true, decide_eq_true_eq] at hok
    obtain ⟨⟨hd, rfl⟩, rfl⟩ := hok
    obtain ⟨z, h1, h2⟩ := hd_ld_ok _ _ _ h
    obtain ⟨x, rfl, h3⟩ := hd_isL_ok h2
    obtain ⟨hC, hg⟩ := hk _ _ _ _ _ h3
    exact ⟨hC, hd_lload hd h1 hg⟩
  case aload_n z0 =>
    simp only [hd_ok1, Bool.and_eq_true, decide_eq_true_eq] at hok
    obtain ⟨⟨hd, rfl⟩, hv⟩ := hok
    obtain ⟨z, h1, h2⟩ := hd_ld_ok _ _ _ h
    obtain ⟨x, rfl, h3⟩ := hd_isR_ok h2
    obtain ⟨hC, hg⟩ := hk _ _ _ _ _ h3
    exact ⟨hC, hd_aload_n hd hv h1 hg⟩
  case aload z0 =>
    simp only [hd_ok1, Bool.and_eq_true, decide_eq_true_eq] at hok
    obtain ⟨⟨hd, rfl⟩, rfl⟩ := hok
    obtain ⟨z, h1, h2⟩ := hd_ld_ok _ _ _ h
    obtain ⟨x, rfl, h3⟩ := hd_isR_ok h2
    obtain ⟨hC, hg⟩ := hk _ _ _ _ _ h3
    exact ⟨hC, hd_aload hd h1 hg⟩
  case istore_n z0 =>
    simp only [hd_ok1, Bool.and_eq_true, decide_eq_true_eq] at hok
    obtain ⟨⟨hd, rfl⟩, hv⟩ := hok
    obtain ⟨x, r, rfl, h2⟩ := hd_i1_ok h
    obtain ⟨h3, h4, h5⟩ := hd_sv_ok _ _ _ _ h2
    obtain ⟨hC, hg⟩ := hk _ _ _ _ _ h3
    exact ⟨hC, hd_istore_n hd hv h4 h5 hg⟩
  case istore z0 =>
    simp only [hd_ok1, Bool.and_eq_true, decide_eq_true_eq] at hok
    obtain ⟨⟨hd, rfl⟩, rfl⟩ := hok
    obtain ⟨x, r, rfl, h2⟩ := hd_i1_ok h
    obtain ⟨h3, h4, h5⟩ := hd_sv_ok _ _ _ _ h2
    obtain ⟨hC, hg⟩ := hk _ _ _ _ _ h3
    exact ⟨hC, hd_istore hd h4 h5 hg⟩
  case astore_n z0 =>
    simp only [hd_ok1, Bool.and_eq_true, decide_eq_true_eq] at hok
    obtain ⟨⟨hd, rfl⟩, hv⟩ := hok
    obtain ⟨x, r, rfl, h2⟩ := hd_r1_ok h
    obtain ⟨h3, h4, h5⟩ := hd_sv_ok _ _ _ _ h2
    obtain ⟨hC, hg⟩ := hk _ _ _ _ _ h3
    exact ⟨hC, hd_astore_n hd hv h4 h5 hg⟩
  case astore z0 =>
    simp only [hd_ok1, Bool.and_eq_true, decide_eq_true_eq] at hok
    obtain ⟨⟨hd, rfl⟩, rfl⟩ := hok
    obtain ⟨x, r, rfl, h2⟩ := hd_r1_ok h
    obtain ⟨h3, h4, h5⟩ := hd_sv_ok _ _ _ _ h2
    obtain ⟨hC, hg⟩ := hk _ _ _ _ _ h3
    exact ⟨hC, hd_astore hd h4 h5 hg⟩
  case lstore_n z0 =>
    simp only [hd_ok1, Bool.and_eq_true, decide_eq_true_eq] at hok
    obtain ⟨⟨hd, rfl⟩, hv⟩ := hok
    obtain ⟨x, r, rfl, h2⟩ := hd_l1_ok h
    obtain ⟨h3, h4, h5⟩ := hd_sv2_ok h2
    obtain ⟨hC, hg⟩ := hk _ _ _ _ _ h3
    exact ⟨hC, hd_lstore_n hd hv h4 h5 hg⟩
  case lstore z0 =>
    simp only [hd_ok1, Bool.and_eq_true, decide_eq_true_eq] at hok
    obtain ⟨⟨hd, rfl⟩, rfl⟩ := hok
    obtain ⟨x, r, rfl, h2⟩ := hd_l1_ok h
    obtain ⟨h3, h4, h5⟩ := hd_sv2_ok h2
    obtain ⟨hC, hg⟩ := hk _ _ _ _ _ h3
    exact ⟨hC, hd_lstore hd h4 h5 hg⟩
  case iinc z0 z1 =>
    simp only [hd_ok1, Bool.and_eq_true, decide_eq_true_eq] at hok
    obtain ⟨⟨hd, rfl⟩, rfl, hv⟩ := hok
    obtain ⟨z, h1, h2⟩ := hd_ld_ok _ _ _ h
    obtain ⟨x, rfl, h3⟩ := hd_isI_ok h2
    obtain ⟨h4, h5, h6⟩ := hd_sv_ok _ _ _ _ h3
    obtain ⟨hC, hg⟩ := hk _ _ _ _ _ h4
    exact ⟨hC, hd_iinc hd h1 hv h6 hg⟩
  case iadd =>
    simp only [hd_ok1, Bool.and_eq_true, decide_eq_true_eq] at hok
    obtain ⟨⟨hd, rfl⟩, -⟩ := hok
    obtain ⟨x, y, r, rfl, h2⟩ := hd_i2_ok h
    obtain ⟨hC, hg⟩ := hk _ _ _ _ _ h2
    exact ⟨hC, hd_iadd hd hg⟩
  case isub =>
    simp only [hd_ok1, Bool.and_eq_true, decide_eq_true_eq] at hok
    obtain ⟨⟨hd, rfl⟩, -⟩ := hok
    obtain ⟨x, y, r, rfl, h2⟩ := hd_i2_ok h
    obtain ⟨hC, hg⟩ := hk _ _ _ _ _ h2
    exact ⟨hC, hd_isub hd hg⟩
  case imul =>
    simp only [hd_ok1, Bool.and_eq_true, decide_eq_true_eq] at hok
    obtain ⟨⟨hd, rfl⟩, -⟩ := hok
    obtain ⟨x, y, r, rfl, h2⟩ := hd_i2_ok h
    obtain ⟨hC, hg⟩ := hk _ _ _ _ _ h2
    exact ⟨hC, hd_imul hd hg⟩
  case ishl =>
    simp only [hd_ok1, Bool.and_eq_true, decide_eq_true_eq] at hok
    obtain ⟨⟨hd, rfl⟩, -⟩ := hok
    obtain ⟨x, y, r, rfl, h2⟩ := hd_i2_ok h
    obtain ⟨hC, hg⟩ := hk _ _ _ _ _ h2
    exact ⟨hC, hd_ishl hd hg⟩
  case ishr =>
    simp only [hd_ok1, Bool.and_eq_true, decide_eq_true_eq] at hok
    obtain ⟨⟨hd, rfl⟩, -⟩ := hok
    obtain ⟨x, y, r, rfl, h2⟩ := hd_i2_ok h
    obtain ⟨hC, hg⟩ := hk _ _ _ _ _ h2
    exact ⟨hC, hd_ishr hd hg⟩
  case iand =>
    simp only [hd_ok1, Bool.and_eq_true, decide_eq_true_eq] at hok
    obtain ⟨⟨hd, rfl⟩, -⟩ := hok
    obtain ⟨x, y, r, rfl, h2⟩ := hd_i2_ok h
    obtain ⟨hC, hg⟩ := hk _ _ _ _ _ h2
    exact ⟨hC, hd_iand hd hg⟩
  case ior =>
    simp only [hd_ok1, Bool.and_eq_true, decide_eq_true_eq] at hok
    obtain ⟨⟨hd, rfl⟩, -⟩ := hok
    obtain ⟨x, y, r, rfl, h2⟩ := hd_i2_ok h
    obtain ⟨hC, hg⟩ := hk _ _ _ _ _ h2
    exact ⟨hC, hd_ior hd hg⟩
  case iushr =>
    simp only [hd_ok1, Bool.and_eq_true, decide_eq_true_eq] at hok
    obtain ⟨⟨hd, rfl⟩, -⟩ := hok
    obtain ⟨x, y, r, rfl, h2⟩ := hd_i2_ok h
    obtain ⟨hC, hg⟩ := hk _ _ _ _ _ h2
    exact ⟨hC, hd_iushr hd hg⟩
  case idiv =>
    simp only [hd_ok1, Bool.and_eq_true, decide_eq_true_eq] at hok
    obtain ⟨⟨hd, rfl⟩, -⟩ := hok
    obtain ⟨x, y, r, rfl, h2⟩ := hd_i2_ok h
    obtain ⟨⟨hC, hn⟩, hg⟩ := hk _ _ _ _ _ h2
    exact ⟨hC, hd_idiv hd hn hg⟩
  case irem =>
    simp only [hd_ok1, Bool.and_eq_true, decide_eq_true_eq] at hok
    obtain ⟨⟨hd, rfl⟩, -⟩ := hok
    obtain ⟨x, y, r, rfl, h2⟩ := hd_i2_ok h
    obtain ⟨⟨hC, hn⟩, hg⟩ := hk _ _ _ _ _ h2
    exact ⟨hC, hd_irem hd hn hg⟩
  case ineg =>
    simp only [hd_ok1, Bool.and_eq_true, decide_eq_true_eq] at hok
    obtain ⟨⟨hd, rfl⟩, -⟩ := hok
    obtain ⟨x, r, rfl, h2⟩ := hd_i1_ok h
    obtain ⟨hC, hg⟩ := hk _ _ _ _ _ h2
    exact ⟨hC, hd_ineg hd hg⟩
  case i2l =>
    simp only [hd_ok1, Bool.and_eq_true, decide_eq_true_eq] at hok
    obtain ⟨⟨hd, rfl⟩, -⟩ := hok
    obtain ⟨x, r, rfl, h2⟩ := hd_i1_ok h
    obtain ⟨hC, hg⟩ := hk _ _ _ _ _ h2
    exact ⟨hC, hd_i2l hd hg⟩
  case i2b =>
    simp only [hd_ok1, Bool.and_eq_true, decide_eq_true_eq] at hok
    obtain ⟨⟨hd, rfl⟩, -⟩ := hok
    obtain ⟨x, r, rfl, h2⟩ := hd_i1_ok h
    obtain ⟨hC, hg⟩ := hk _ _ _ _ _ h2
    exact ⟨hC, hd_i2b hd hg⟩
  case i2s =>
    simp only [hd_ok1, Bool.and_eq_true, decide_eq_true_eq] at hok
    obtain ⟨⟨hd, rfl⟩, -⟩ := hok
    obtain ⟨x, r, rfl, h2⟩ := hd_i1_ok h
    obtain ⟨hC, hg⟩ := hk _ _ _ _ _ h2
    exact ⟨hC, hd_i2s hd hg⟩
  case ladd =>
    simp only [hd_ok1, Bool.and_eq_true, decide_eq_true_eq] at hok
    obtain ⟨⟨hd, rfl⟩, -⟩ := hok
    obtain ⟨x, y, r, rfl, h2⟩ := hd_l2_ok h
    obtain ⟨hC, hg⟩ := hk _ _ _ _ _ h2
    exact ⟨hC, hd_ladd hd hg⟩
  case lmul =>
    simp only [hd_ok1, Bool.and_eq_true, decide_eq_true_eq] at hok
    obtain ⟨⟨hd, rfl⟩, -⟩ := hok
    obtain ⟨x, y, r, rfl, h2⟩ := hd_l2_ok h
    obtain ⟨hC, hg⟩ := hk _ _ _ _ _ h2
    exact ⟨hC, hd_lmul hd hg⟩
  case lcmp =>
    simp only [hd_ok1, Bool.and_eq_true, decide_eq_true_eq] at hok
    obtain ⟨⟨hd, rfl⟩, -⟩ := hok
    obtain ⟨x, y, r, rfl, h2⟩ := hd_l2_ok h
    obtain ⟨hC, hg⟩ := hk _ _ _ _ _ h2
    exact ⟨hC, hd_lcmp hd hg⟩
  case ldiv =>
    simp only [hd_ok1, Bool.and_eq_true, decide_eq_true_eq] at hok
    obtain ⟨⟨hd, rfl⟩, -⟩ := hok
    obtain ⟨x, y, r, rfl, h2⟩ := hd_l2_ok h
    obtain ⟨⟨hC, hn⟩, hg⟩ := hk _ _ _ _ _ h2
    exact ⟨hC, hd_ldiv hd hn hg⟩
  case lrem =>
    simp only [hd_ok1, Bool.and_eq_true, decide_eq_true_eq] at hok
    obtain ⟨⟨hd, rfl⟩, -⟩ := hok
    obtain ⟨x, y, r, rfl, h2⟩ := hd_l2_ok h
    obtain ⟨⟨hC, hn⟩, hg⟩ := hk _ _ _ _ _ h2
    exact ⟨hC, hd_lrem hd hn hg⟩
  case dup =>
    simp only [hd_ok1, Bool.and_eq_true, decide_eq_true_eq] at hok
    obtain ⟨⟨hd, rfl⟩, -⟩ := hok
    simp only [hd_st1] at h
    split at h
    · obtain ⟨hC, hg⟩ := hk _ _ _ _ _ h
      exact ⟨hC, hd_dup hd rfl hg⟩
    · obtain ⟨hC, hg⟩ := hk _ _ _ _ _ h
      exact ⟨hC, hd_dup hd rfl hg⟩
    · exact h.elim
  case pop =>
    simp only [hd_ok1, Bool.and_eq_true, decide_eq_true_eq] at hok
    obtain ⟨⟨hd, rfl⟩, -⟩ := hok
    simp only [hd_st1] at h
    split at h
    · obtain ⟨hC, hg⟩ := hk _ _ _ _ _ h
      exact ⟨hC, hd_pop hd rfl hg⟩
    · obtain ⟨hC, hg⟩ := hk _ _ _ _ _ h
      exact ⟨hC, hd_pop hd rfl hg⟩
    · exact h.elim
  case dup2 =>
    simp only [hd_ok1, Bool.and_eq_true, decide_eq_true_eq] at hok
    obtain ⟨⟨hd, rfl⟩, -⟩ := hok
    simp only [hd_st1] at h
    split at h
    · obtain ⟨hC, hg⟩ := hk _ _ _ _ _ h
      exact ⟨hC, hd_dup2 hd rfl rfl hg⟩
    · obtain ⟨hC, hg⟩ := hk _ _ _ _ _ h
      exact ⟨hC, hd_dup2 hd rfl rfl hg⟩
    · exact h.elim
  case getfield z0 =>
    simp only [hd_ok1, Bool.and_eq_true, decide_eq_true_eq] at hok
    obtain ⟨⟨hd, rfl⟩, hv⟩ := hok
    obtain ⟨q, hq, hlt, hl⟩ := hd_fld_ok hv
    obtain ⟨c, r, rfl, h2⟩ := hd_r1_ok h
    obtain ⟨ci, fs, hsh, h3⟩ := hd_obj_ok h2
    obtain ⟨rfl, h4⟩ := hd_bq_ok h3
    rw [hd_nth_eq] at h4
    cases hr : fs[b]? with
    | none => rw [hr] at h4; exact h4.elim
    | some r =>
      rw [hr] at h4
      obtain ⟨r1, r2⟩ := r
      match r1, h4, hr with
      | 0, h4, hr =>
        obtain ⟨hC, hg⟩ := hk _ _ _ _ _ h4
        exact ⟨hC, hd_getf hd hsh hq hlt hl hr hg⟩
      | 1, h4, hr =>
        obtain ⟨hC, hg⟩ := hk _ _ _ _ _ h4
        exact ⟨hC, hd_getf hd hsh hq hlt hl hr hg⟩
      | j + 2, h4, hr =>
        obtain ⟨hC, hg⟩ := hk _ _ _ _ _ h4
        exact ⟨hC, hd_getf hd hsh hq hlt hl hr hg⟩
  case putfield z0 =>
    simp only [hd_ok1, Bool.and_eq_true, decide_eq_true_eq] at hok
    obtain ⟨⟨hd, rfl⟩, ⟨hv, hf⟩, hkd⟩ := hok
    obtain ⟨q, hq, hlt, hl⟩ := hd_fld_ok hv
    have hfin : (q.2.1 b).2.2.2 = false := by
      unfold hd_fin at hf
      rw [hd_nth_eq, hq] at hf
      simpa using hf
    simp only [hd_st1] at h
    split at h
    · next x c r =>
      obtain ⟨ci, fs, hsh, h3⟩ := hd_obj_ok h
      obtain ⟨rfl, h4⟩ := hd_bq_ok h3
      rw [hd_nth_eq] at h4
      cases hr : fs[b]? with
      | none => rw [hr] at h4; exact h4.elim
      | some r =>
        rw [hr] at h4
        obtain ⟨r1, r2⟩ := r
        obtain ⟨e1, h5⟩ := hd_bq_ok h4
        have e1 : r1 = 0 := e1
        subst e1
        by_cases hv0 : v = 0
        · rw [if_pos hv0] at h5
          obtain ⟨hC, hg⟩ := hk _ _ _ _ _ h5
          have ht : hd_ty ci b = .int := by
            unfold hd_kd at hkd
            split at hkd
            · assumption
            · rw [hv0] at hkd; exact absurd hkd (by decide)
            · rw [hv0] at hkd; exact absurd hkd (by decide)
            · cases hkd
          exact ⟨hC, hd_putf hd hsh hq hlt hl hr hfin (by rw [ht]; rfl) (by rw [ht]; rfl) hg⟩
        · rw [if_neg hv0] at h5
          by_cases hv1 : v = 1
          · rw [if_pos hv1] at h5
            obtain ⟨⟨hC, hx⟩, hg⟩ := hk _ _ _ _ _ h5
            have ht : hd_ty ci b = .boolean := by
              unfold hd_kd at hkd
              split at hkd
              · rw [hv1] at hkd; exact absurd hkd (by decide)
              · assumption
              · rw [hv1] at hkd; exact absurd hkd (by decide)
              · cases hkd
            refine ⟨hC, hd_putf hd hsh hq hlt hl hr hfin ?_ ?_ hg⟩
            · rw [ht]; rcases hx with rfl | rfl <;> rfl
            · rw [ht]; rcases hx with rfl | rfl <;> rfl
          · rw [if_neg hv1] at h5; exact h5.elim
    · next x c r =>
      obtain ⟨ci, fs, hsh, h3⟩ := hd_obj_ok h
      obtain ⟨rfl, h4⟩ := hd_bq_ok h3
      rw [hd_nth_eq] at h4
      cases hr : fs[b]? with
      | none => rw [hr] at h4; exact h4.elim
      | some r =>
        rw [hr] at h4
        obtain ⟨r1, r2⟩ := r
        obtain ⟨e1, h5⟩ := hd_bq_ok h4
        have e1 : r1 = 1 := e1
        subst e1
        by_cases hv2 : v = 2
        · rw [if_pos hv2] at h5
          obtain ⟨hC, hg⟩ := hk _ _ _ _ _ h5
          have ht : hd_ty ci b = .long := by
            unfold hd_kd at hkd
            split at hkd
            · rw [hv2] at hkd; exact absurd hkd (by decide)
            · rw [hv2] at hkd; exact absurd hkd (by decide)
            · assumption
            · cases hkd
          exact ⟨hC, hd_putl hd hsh hq hlt hl hr hfin (by rw [ht]; rfl) (by rw [ht]; rfl) hg⟩
        · rw [if_neg hv2] at h5; exact h5.elim
    · exact h.elim
  case iaload =>
    simp only [hd_ok1, Bool.and_eq_true, decide_eq_true_eq] at hok
    obtain ⟨⟨hd, rfl⟩, -⟩ := hok
    obtain ⟨x, r, rfl, h2⟩ := hd_i1_ok h
    obtain ⟨c, r2, rfl, h3⟩ := hd_r1_ok h2
    obtain ⟨t, n, hsh, h4⟩ := hd_arr_ok h3
    obtain ⟨rfl, h5⟩ := hd_bq_ok h4
    obtain ⟨⟨hC, hn⟩, hg⟩ := hk _ _ _ _ _ h5
    exact ⟨hC, hd_iaload hd hsh hn hg⟩
  case iastore =>
    simp only [hd_ok1, Bool.and_eq_true, decide_eq_true_eq] at hok
    obtain ⟨⟨hd, rfl⟩, -⟩ := hok
    obtain ⟨x, y, r, rfl, h2⟩ := hd_i2_ok h
    obtain ⟨c, r2, rfl, h3⟩ := hd_r1_ok h2
    obtain ⟨t, n, hsh, h4⟩ := hd_arr_ok h3
    obtain ⟨rfl, h5⟩ := hd_bq_ok h4
    obtain ⟨⟨hC, hn⟩, hg⟩ := hk _ _ _ _ _ h5
    exact ⟨hC, hd_iastore hd hsh hn hg⟩
  case baload =>
    simp only [hd_ok1, Bool.and_eq_true, decide_eq_true_eq] at hok
    obtain ⟨⟨hd, rfl⟩, -⟩ := hok
    obtain ⟨x, r, rfl, h2⟩ := hd_i1_ok h
    obtain ⟨c, r2, rfl, h3⟩ := hd_r1_ok h2
    obtain ⟨t, n, hsh, h4⟩ := hd_arr_ok h3
    split at h4
    · obtain ⟨⟨hC, hn⟩, hg⟩ := hk _ _ _ _ _ h4
      exact ⟨hC, hd_baload hd (Or.inl hsh) hn hg⟩
    · obtain ⟨⟨hC, hn⟩, hg⟩ := hk _ _ _ _ _ h4
      exact ⟨hC, hd_baload hd (Or.inr hsh) hn hg⟩
    · exact h4.elim
  case bastore =>
    simp only [hd_ok1, Bool.and_eq_true, decide_eq_true_eq] at hok
    obtain ⟨⟨hd, rfl⟩, -⟩ := hok
    obtain ⟨x, y, r, rfl, h2⟩ := hd_i2_ok h
    obtain ⟨c, r2, rfl, h3⟩ := hd_r1_ok h2
    obtain ⟨t, n, hsh, h4⟩ := hd_arr_ok h3
    split at h4
    · obtain ⟨⟨hC, hn, hx⟩, hg⟩ := hk _ _ _ _ _ h4
      exact ⟨hC, hd_bastore hd (Or.inl ⟨hsh, hx⟩) hn hg⟩
    · obtain ⟨⟨hC, hn, hx⟩, hg⟩ := hk _ _ _ _ _ h4
      exact ⟨hC, hd_bastore hd (Or.inr ⟨hsh, by rcases hx with rfl | rfl <;> rfl⟩) hn hg⟩
    · exact h4.elim
  case aaload =>
    simp only [hd_ok1, Bool.and_eq_true, decide_eq_true_eq] at hok
    obtain ⟨⟨hd, rfl⟩, -⟩ := hok
    obtain ⟨x, r, rfl, h2⟩ := hd_i1_ok h
    obtain ⟨c, r2, rfl, h3⟩ := hd_r1_ok h2
    obtain ⟨t, rs, hsh, h4⟩ := hd_rar_ok h3
    rw [hd_nth_eq] at h4
    split at h4
    · next j hj =>
      obtain ⟨⟨hC, ht, hn⟩, hg⟩ := hk _ _ _ _ _ h4
      exact ⟨hC, hd_aaload hd ht hsh hn hj hg⟩
    · exact h4.elim
  case arraylength =>
    simp only [hd_ok1, Bool.and_eq_true, decide_eq_true_eq] at hok
    obtain ⟨⟨hd, rfl⟩, -⟩ := hok
    obtain ⟨c, r2, rfl, h3⟩ := hd_r1_ok h
    obtain ⟨t, n, hsh, h4⟩ := hd_arr_ok h3
    obtain ⟨⟨hC, hn⟩, hg⟩ := hk _ _ _ _ _ h4
    exact ⟨hC, hd_alen hd hn hsh rfl hg⟩
  case invokestatic z0 =>
    simp only [hd_st1] at h
    cases e1 : Nat.beq a 9001 with
    | true =>
      simp only [hd_ok1, e1, Bool.and_eq_true, decide_eq_true_eq] at hok
      rw [e1] at h
      obtain ⟨⟨hd, rfl⟩, ⟨⟨⟨w1, w2⟩, w3⟩, w4⟩, w5⟩ := hok
      obtain ⟨x, y, r, rfl, h2⟩ := hd_i2_ok h
      obtain ⟨h3, h4⟩ := hd_few_ok _ _ _ h2
      obtain ⟨hC, hg⟩ := hk _ _ _ _ _ h4
      exact ⟨hC, hd_mmax hd (hd_wd_ok w3) (hd_wd_ok w4) (hd_wd_ok w2) (hd_wd_ok w1) w5 h3 hg⟩
    | false =>
      rw [e1] at h
      cases e2 : Nat.beq a 9002 with
      | true =>
        simp only [hd_ok1, e1, e2, Bool.and_eq_true, decide_eq_true_eq] at hok
        rw [e2] at h
        obtain ⟨⟨hd, rfl⟩, ⟨⟨⟨w1, w2⟩, w3⟩, w4⟩, w5⟩ := hok
        obtain ⟨x, y, r, rfl, h2⟩ := hd_i2_ok h
        obtain ⟨h3, h4⟩ := hd_few_ok _ _ _ h2
        obtain ⟨hC, hg⟩ := hk _ _ _ _ _ h4
        exact ⟨hC, hd_mmin hd (hd_wd_ok w3) (hd_wd_ok w4) (hd_wd_ok w2) (hd_wd_ok w1) w5 h3 hg⟩
      | false =>
        rw [e2] at h
        cases e3 : Nat.beq a 9003 with
        | true =>
          simp only [hd_ok1, e1, e2, e3, Bool.and_eq_true, decide_eq_true_eq] at hok
          rw [e3] at h
          obtain ⟨⟨hd, rfl⟩, ⟨⟨⟨w1, w2⟩, w3⟩, w4⟩, w5⟩ := hok
          obtain ⟨x, y, r, rfl, g2⟩ := hd_i2_ok h
          obtain ⟨q1, r1, rfl, g3⟩ := hd_r1_ok g2
          obtain ⟨sp, r2, rfl, g4⟩ := hd_i1_ok g3
          obtain ⟨q0, r3, rfl, g5⟩ := hd_r1_ok g4
          obtain ⟨t0, n0, hs0, g6⟩ := hd_arr_ok g5
          obtain ⟨t1, n1, hs1, g7⟩ := hd_arr_ok g6
          obtain ⟨rfl, g8⟩ := hd_bq_ok g7
          obtain ⟨rfl, g9⟩ := hd_bq_ok g8
          cases r3 with
          | nil =>
            obtain ⟨-, g10⟩ := hd_few_ok _ _ _ g9
            obtain ⟨⟨hC, c1, c2, c3, c4, c5⟩, hg⟩ := hk _ _ _ _ _ g10
            exact ⟨hC, hd_copy hd (hd_wd_ok w3) (hd_wd_ok w1) (hd_wd_ok w4) (hd_wd_ok w2) w5 rfl hs0 hs1 c1 c2 c3 c4 c5 hg⟩
          | cons z r3 => exact g9.elim
        | false =>
          rw [e3] at h
          exact hs _ h
  case goto z0 =>
    simp only [hd_ok1, Bool.and_eq_true, decide_eq_true_eq] at hok
    obtain ⟨⟨hd, -⟩, ht⟩ := hok
    obtain ⟨hC, hg⟩ := hs _ h
    exact ⟨hC, hd_goto hd ht hg⟩
  all_goals exact hs _ h
/-- a list of instructions, each as it stands in the bytes, one behind another -/
def hd_okL (I : hd_I) : List (Nat × hd_O) → Bool
  | [] => true
  | (pc, o) :: r => hd_ok1 I pc o && (match r with
    | [] => true
    | (q, _) :: _ => Nat.beq o.2.1 q) && hd_okL I r
theorem hd_ev1_ok (till : Nat) {k : hd_K} (hk : ∀ C pc lv st M N, k C pc lv st M N → C ∧ hd_Go I pc lv st M N Q) : ∀ (l : List (Nat × hd_O)) (lv : hd_L) (st : List Value) (M : hd_M) (N : hd_N) (C : Prop), hd_okL I l = true → hd_ev1 till k l lv st M N C → ∃ q o r, l = (q, o) :: r ∧ C ∧ hd_Go I q lv st M N Q := by
  intro l
  induction l with
  | nil => intro lv st M N C _ h; exact h.elim
  | cons x r ih =>
    obtain ⟨pc, o⟩ := x
    intro lv st M N C hok h
    refine ⟨pc, o, r, rfl, ?_⟩
    unfold hd_ev1 at h
    split at h
    · exact hk _ _ _ _ _ _ h
    · unfold hd_okL at hok
      rw [Bool.and_eq_true, Bool.and_eq_true] at hok
      refine hd_st1_ok hok.1.1 h ?_ (fun pc' h' => hk _ _ _ _ _ _ h')
      intro lv1 st1 M1 N1 C1 h1
      obtain ⟨q, o1, r1, rfl, h2, h3⟩ := ih lv1 st1 M1 N1 C1 hok.2 h1
      refine ⟨h2, ?_⟩
      have e : o.2.1 = q := Nat.eq_of_beq_eq_true hok.1.2
      rw [e]
      exact h3
theorem hd_from_ok : ∀ (l : List (Nat × hd_O)) (pc : Nat), hd_okL I l = true → hd_okL I (hd_from pc l) = true ∧ ∀ q o r, hd_from pc l = (q, o) :: r → q = pc := by
  intro l
  induction l with
  | nil => intro pc h; exact ⟨h, fun q o r e => by cases e⟩
  | cons x r ih =>
    obtain ⟨p, o⟩ := x
    intro pc h
    unfold hd_from
    split
    · next e => exact ⟨h, fun q o r e' => by cases e'; exact Nat.eq_of_beq_eq_true e⟩
    · unfold hd_okL at h
      rw [Bool.and_eq_true] at h
      exact ih pc h.2
abbrev hd_pg (I : hd_I) : List (Nat × hd_O) := I.2.2.2.2.2.2
/-- a straight stretch from pc on, to its end, or to the place 'till' -/
theorem hd_ev (ok : hd_okL I (hd_pg I) = true) (till : Nat) (h : ∀ k : hd_K, (∀ C pc lv st M N, C → hd_Go I pc lv st M N Q → k C pc lv st M N) → hd_ev0 till k (hd_from pc (hd_pg I)) lv st M N) : hd_Go I pc lv st M N Q := by
  have h0 := h (fun C pc lv st M N => C ∧ hd_Go I pc lv st M N Q) (fun C pc lv st M N a b => ⟨a, b⟩)
  obtain ⟨h1, h2⟩ := hd_from_ok (hd_pg I) pc ok
  generalize hd_from pc (hd_pg I) = l at h0 h1 h2
  cases l with
  | nil => exact h0.elim
  | cons x r =>
    obtain ⟨q, o⟩ := x
    have e := h2 q o r rfl
    subst e
    unfold hd_okL at h1
    rw [Bool.and_eq_true, Bool.and_eq_true] at h1
    unfold hd_ev0 at h0
    refine (hd_st1_ok h1.1.1 h0 ?_ (fun pc' h' => h')).2
    intro lv1 st1 M1 N1 C1 h3
    obtain ⟨q2, o1, r1, rfl, h4, h5⟩ := hd_ev1_ok till (fun C pc lv st M N h' => h') r lv1 st1 M1 N1 C1 h1.2 h3
    refine ⟨h4, ?_⟩
    have e : o.2.1 = q2 := Nat.eq_of_beq_eq_true h1.1.2
    rw [e]
    exact h5
end
end
section
/-! CONTROL: jumps, switches, ends, calls, read off the list of instructions -/
def hd_brK (l : List (Nat × hd_O)) (st : List Value) (k : Prop → Prop → Nat → Nat → List Value → Prop) : Prop := match l with
  | [] => False
  | (_, o) :: _ => (match o with
    | (i, nx, a, _, _, _, _, _) => (match i with
      | .if_icmp op _ => hd_i2 st (fun x y st => (match op with
        | .eq => k (x = y) (¬ x = y) a nx st
        | .ne => k (¬ x = y) (x = y) a nx st
        | .lt => k (x < y) (¬ x < y) a nx st
        | .ge => k (y ≤ x) (¬ y ≤ x) a nx st
        | .gt => k (y < x) (¬ y < x) a nx st
        | .le => k (x ≤ y) (¬ x ≤ y) a nx st))
      | .ifCond op _ => hd_i1 st (fun x st => (match op with
        | .eq => k (x = 0) (¬ x = 0) a nx st
        | .ne => k (¬ x = 0) (x = 0) a nx st
        | .lt => k (x < 0) (¬ x < 0) a nx st
        | .ge => k (0 ≤ x) (¬ 0 ≤ x) a nx st
        | .gt => k (0 < x) (¬ 0 < x) a nx st
        | .le => k (x ≤ 0) (¬ x ≤ 0) a nx st))
      | _ => False))
def hd_rtK (ret : Option FieldType) (l : List (Nat × hd_O)) (st : List Value) (k : Prop → Option Value → Prop) : Prop := match l with
  | [] => False
  | (_, o) :: _ => (match o.1 with
    | .ireturn => (match st with
      | [.int v] => (match ret with
        | some .int => k True (some (.int v))
        | some .boolean => k (v = 0 ∨ v = 1) (some (.int v))
        | some ty => k (narrow ty (.int v) = .int v) (some (.int v))
        | none => False)
      | _ => False)
    | .lreturn => (match st with
      | [.long v] => (match ret with
        | some .long => k True (some (.long v))
        | _ => False)
      | _ => False)
    | .return_ => (match st with
      | [] => (match ret with
        | none => k True none
        | some _ => False)
      | _ => False)
    | _ => False)
def hd_fit : hd_L → Nat → Prop → Prop
  | [], _, k => k
  | _ :: xs, n + 1, k => hd_fit xs n k
  | _ :: _, 0, _ => False
theorem hd_fit_ok : ∀ (l : hd_L) (n : Nat) (k : Prop), hd_fit l n k → l.length ≤ n ∧ k := by
  intro l
  induction l with
  | nil => intro n k h; exact ⟨Nat.zero_le _, by simpa [hd_fit] using h⟩
  | cons x xs ih =>
    intro n k h
    match n, h with
    | 0, h => exact h.elim
    | n + 1, h =>
      obtain ⟨h1, h2⟩ := ih n k h
      exact ⟨by simp only [List.length_cons]; omega, h2⟩
def hd_pp : Nat → List Value → List Value → (List Value → List Value → Prop) → Prop
  | 0, st, acc, k => k acc st
  | n + 1, v :: st, acc, k => hd_pp n st (v :: acc) k
  | _ + 1, [], _, _ => False
theorem hd_pp_ok : ∀ (n : Nat) (st acc : List Value) (k : List Value → List Value → Prop), hd_pp n st acc k → ∃ as r, k (as ++ acc) r ∧ st = as.reverse ++ r ∧ as.length = n := by
  intro n
  induction n with
  | zero => intro st acc k h; exact ⟨[], st, h, rfl, rfl⟩
  | succ n ih =>
    intro st acc k h
    match st, h with
    | [], h => exact h.elim
    | v :: st, h =>
      obtain ⟨as, r, h1, h2, h3⟩ := ih st (v :: acc) k h
      refine ⟨as ++ [v], r, by rw [List.append_assoc]; exact h1, ?_, by rw [List.length_append, h3]; rfl⟩
      rw [h2, List.reverse_append]
      rfl
/-- a call: whom, where it goes on, with what, what stays on the stack -/
def hd_clK (T : List hd_I) (l : List (Nat × hd_O)) (st : List Value) (k : hd_I → Nat → List Value → List Value → Prop) : Prop := match l with
  | [] => False
  | (_, o) :: _ => (match o with
    | (i, nx, a, b, _, _, _, ws) => (match hd_nth T a with
      | none => False
      | some J => (match i with
        | .invokestatic _ => hd_pp b st [] (fun as st => hd_fit (hd_en1 as) J.2.2.2.1 (hd_few st 4 (k J nx as st)))
        | .invokevirtual _ => hd_pp b st [] (fun as st => (match as with
          | .ref c :: as => hd_obj c (fun ci _ => hd_bq ci (ws.getD 5 0) (hd_fit (hd_en1 (.ref c :: as)) J.2.2.2.1 (hd_few st 4 (k J nx (.ref c :: as) st))))
          | _ => False))
        | _ => False)))
def hd_calB (I J : hd_I) (n : Nat) (ws : List Nat) : Bool := hd_wd (ws.getD 0 0) (Cond.code J.2.1 J.2.2.1 J.2.2.2.1 J.2.2.2.2.1) && hd_wd (ws.getD 1 0) (Cond.initialized J.2.1.cls) && plainName J.2.1.cls && decide (J.1 = J.2.1.cls) && (decide (J.2.1.cls ≠ "java/lang/invoke/MethodHandle") && decide (J.2.1.cls ≠ "java/lang/invoke/VarHandle") && decide ((parseMethodDescriptor J.2.1.desc).map (fun d => d.parameters.length) = some n)) && decide (J.2.2.2.2.2.1 < I.2.2.2.2.2.1) && decide (J.2.2.2.1 ≤ 17)
theorem hd_calB_ok {I J : hd_I} {n : Nat} {ws : List Nat} (h : hd_calB I J n ws = true) (index : Nat) : hd_cal I J index n := by
  unfold hd_calB at h
  simp only [Bool.and_eq_true, decide_eq_true_eq] at h
  obtain ⟨⟨⟨⟨⟨⟨h1, h2⟩, h3⟩, h4⟩, ⟨h5, h6⟩, h7⟩, h8⟩, h9⟩ := h
  exact ⟨hd_wd_ok h1, hd_wd_ok h2, h3, h4, ⟨h5, h6, h7⟩, h8, h9⟩
/-- what is static of a call -/
def hd_okc (T : List hd_I) (I : hd_I) (o : hd_O) : Bool := match o with
  | (i, _, a, b, v, _, _, ws) => (match hd_nth T a with
    | none => true
    | some J => (match i with
      | .invokestatic k => hd_calB I J b ws && hd_wd (ws.getD 3 0) (Cond.static J.2.1) && (if v = 0 then hd_wd (ws.getD 2 0) (Cond.methodLink I.1 k J.2.1) else decide (I.1 = RX4) && decide (k = hd_nx) && decide (J.2.1 = yX5_isWithin))
      | .invokevirtual k => decide (0 < b) && hd_calB I J (b - 1) ws && hd_wd (ws.getD 2 0) (Cond.methodLink I.1 k J.2.1) && hd_wd (ws.getD 3 0) (Cond.instanceMethod J.2.1) && hd_wd (ws.getD 4 0) (Cond.selects J.2.1.cls J.2.1 J.2.1) && (match hd_nth hd_cl (ws.getD 5 0) with
        | some q => decide (q.1 = J.2.1.cls)
        | none => false)
      | _ => true))
def hd_okC (T : List hd_I) (I : hd_I) : List (Nat × hd_O) → Bool
  | [] => true
  | (_, o) :: r => hd_okc T I o && hd_okC T I r
theorem hd_okC_from {T : List hd_I} {I : hd_I} (pc : Nat) : ∀ l : List (Nat × hd_O), hd_okC T I l = true → ∀ q o r, hd_from pc l = (q, o) :: r → hd_okc T I o = true := by
  intro l
  induction l with
  | nil => intro _ q o r e; cases e
  | cons x l ih =>
    obtain ⟨p, o⟩ := x
    intro h q o1 r e
    unfold hd_okC at h
    rw [Bool.and_eq_true] at h
    unfold hd_from at e
    split at e
    · cases e; exact h.1
    · exact ih h.2 q o1 r e
section
variable {I : hd_I} {pc : Nat} {lv : hd_L} {st : List Value} {M : hd_M} {N : hd_N} {Q : hd_Q}
theorem hd_br (ok : hd_okL I (hd_pg I) = true) (h : ∀ k : Prop → Prop → Nat → Nat → List Value → Prop, (∀ ct cf t f st', (ct → hd_Go I t lv st' M N Q) → (cf → hd_Go I f lv st' M N Q) → k ct cf t f st') → hd_brK (hd_from pc (hd_pg I)) st k) : hd_Go I pc lv st M N Q := by
  have h0 := h (fun ct cf t f st' => (ct → hd_Go I t lv st' M N Q) ∧ (cf → hd_Go I f lv st' M N Q)) (fun _ _ _ _ _ a b => ⟨a, b⟩)
  obtain ⟨h1, h2⟩ := hd_from_ok (hd_pg I) pc ok
  generalize hd_from pc (hd_pg I) = l at h0 h1 h2
  cases l with
  | nil => exact h0.elim
  | cons x r =>
    obtain ⟨q, i, nx, a, b, v, v64, sw, ws⟩ := x
    have e := h2 q _ r rfl
    subst e
    unfold hd_okL at h1
    rw [Bool.and_eq_true, Bool.and_eq_true] at h1
    have hok := h1.1.1
    cases i
    case if_icmp op off =>
      simp only [hd_ok1, Bool.and_eq_true, decide_eq_true_eq] at hok
      obtain ⟨⟨hd, rfl⟩, ht⟩ := hok
      obtain ⟨x, y, r, rfl, h3⟩ := hd_i2_ok h0
      cases op <;> exact hd_icmp hd ht h3.1 h3.2
    case ifCond op off =>
      simp only [hd_ok1, Bool.and_eq_true, decide_eq_true_eq] at hok
      obtain ⟨⟨hd, rfl⟩, ht⟩ := hok
      obtain ⟨x, r, rfl, h3⟩ := hd_i1_ok h0
      cases op <;> exact hd_if hd ht h3.1 h3.2
    all_goals exact h0.elim
theorem hd_rt (ok : hd_okL I (hd_pg I) = true) (h : ∀ k : Prop → Option Value → Prop, (∀ C r, C → Q r M N → k C r) → hd_rtK I.2.2.2.2.1 (hd_from pc (hd_pg I)) st k) : hd_Go I pc lv st M N Q := by
  have h0 := h (fun C r => C ∧ Q r M N) (fun _ _ a b => ⟨a, b⟩)
  obtain ⟨h1, h2⟩ := hd_from_ok (hd_pg I) pc ok
  generalize hd_from pc (hd_pg I) = l at h0 h1 h2
  cases l with
  | nil => exact h0.elim
  | cons x r =>
    obtain ⟨q, i, nx, a, b, v, v64, sw, ws⟩ := x
    have e := h2 q _ r rfl
    subst e
    unfold hd_okL at h1
    rw [Bool.and_eq_true, Bool.and_eq_true] at h1
    have hok := h1.1.1
    cases i
    case ireturn =>
      simp only [hd_ok1, Bool.and_eq_true, decide_eq_true_eq] at hok
      simp only [hd_rtK] at h0
      split at h0
      · split at h0
        · next e => exact hd_ireturn hok.1.1 e rfl h0.2
        · next e => exact hd_ireturn hok.1.1 e (by rcases h0.1 with rfl | rfl <;> rfl) h0.2
        · next e => exact hd_ireturn hok.1.1 e h0.1 h0.2
        · exact h0.elim
      · exact h0.elim
    case lreturn =>
      simp only [hd_ok1, Bool.and_eq_true, decide_eq_true_eq] at hok
      simp only [hd_rtK] at h0
      split at h0
      · split at h0
        · next e => exact hd_lreturn hok.1.1 e h0.2
        · exact h0.elim
      · exact h0.elim
    case return_ =>
      simp only [hd_ok1, Bool.and_eq_true, decide_eq_true_eq] at hok
      simp only [hd_rtK] at h0
      split at h0
      · split at h0
        · next e => exact hd_vreturn hok.1.1 e h0.2
        · exact h0.elim
      · exact h0.elim
    all_goals exact h0.elim
theorem hd_cll {T : List hd_I} (ok : hd_okL I (hd_pg I) = true) (okc : hd_okC T I (hd_pg I) = true) (h : ∀ k : hd_I → Nat → List Value → List Value → Prop, (∀ J nx as st', (∃ P : hd_Q, hd_Ret J as M N P ∧ ∀ r M1 N1, P r M1 N1 → hd_Go I nx lv (r.toList ++ st') M1 N1 Q) → k J nx as st') → hd_clK T (hd_from pc (hd_pg I)) st k) : hd_Go I pc lv st M N Q := by
  have h0 := h (fun J nx as st' => ∃ P : hd_Q, hd_Ret J as M N P ∧ ∀ r M1 N1, P r M1 N1 → hd_Go I nx lv (r.toList ++ st') M1 N1 Q) (fun _ _ _ _ a => a)
  obtain ⟨h1, h2⟩ := hd_from_ok (hd_pg I) pc ok
  have h3 := hd_okC_from pc (hd_pg I) okc
  generalize hd_from pc (hd_pg I) = l at h0 h1 h2 h3
  cases l with
  | nil => exact h0.elim
  | cons x r =>
    obtain ⟨q, i, nx, a, b, v, v64, sw, ws⟩ := x
    have e := h2 q _ r rfl
    have hc := h3 q _ r rfl
    subst e
    unfold hd_okL at h1
    rw [Bool.and_eq_true, Bool.and_eq_true] at h1
    have hok := h1.1.1
    simp only [hd_clK] at h0
    simp only [hd_okc] at hc
    cases hJ : hd_nth T a with
    | none => rw [hJ] at h0; exact h0.elim
    | some J =>
      rw [hJ] at h0 hc
      cases i
      case invokestatic index =>
        simp only [hd_ok1, Bool.and_eq_true, decide_eq_true_eq] at hok
        obtain ⟨⟨hd, rfl⟩, -⟩ := hok
        simp only [Bool.and_eq_true] at hc
        obtain ⟨⟨c1, c2⟩, c3⟩ := hc
        obtain ⟨as, r2, h4, h5, h6⟩ := hd_pp_ok _ _ _ _ h0
        rw [List.append_nil] at h4
        obtain ⟨h7, h8⟩ := hd_fit_ok _ _ _ h4
        obtain ⟨h9, P, h10, h11⟩ := hd_few_ok _ _ _ h8
        rw [← h6] at c1
        by_cases hv : v = 0
        · rw [if_pos hv] at c3
          exact hd_callS hd (hd_calB_ok c1 index) (hd_wd_ok c3) (hd_wd_ok c2) h5 h7 h9 h10 h11
        · rw [if_neg hv] at c3
          simp only [Bool.and_eq_true, decide_eq_true_eq] at c3
          exact hd_callSN hd (hd_calB_ok c1 index) ⟨c3.1.1, c3.1.2, c3.2⟩ (hd_wd_ok c2) h5 h7 h9 h10 h11
      case invokevirtual index =>
        simp only [hd_ok1, Bool.and_eq_true, decide_eq_true_eq] at hok
        obtain ⟨⟨hd, rfl⟩, -⟩ := hok
        simp only [Bool.and_eq_true, decide_eq_true_eq] at hc
        obtain ⟨⟨⟨⟨⟨c0, c1⟩, c2⟩, c3⟩, c4⟩, c5⟩ := hc
        obtain ⟨as, r2, h4, h5, h6⟩ := hd_pp_ok _ _ _ _ h0
        rw [List.append_nil] at h4
        split at h4
        · next c as' =>
          obtain ⟨ci, fs, hsh, h4⟩ := hd_obj_ok h4
          obtain ⟨e1, h4⟩ := hd_bq_ok h4
          obtain ⟨h7, h8⟩ := hd_fit_ok _ _ _ h4
          obtain ⟨h9, P, h10, h11⟩ := hd_few_ok _ _ _ h8
          rw [← e1, hd_nth_eq] at c5
          cases hq : hd_cl[ci]? with
          | none => rw [hq] at c5; cases c5
          | some q =>
            rw [hq] at c5
            have c5 : q.1 = J.2.1.cls := of_decide_eq_true c5
            have hn : as'.length = b - 1 := by
              rw [List.length_cons] at h6
              omega
            rw [← hn] at c1
            refine hd_callV hd (hd_calB_ok c1 index) (hd_wd_ok c2) (hd_wd_ok c3) (hd_wd_ok c4) hsh hq c5 (h5.trans ?_) h7 h9 h10 h11
            simp
        · exact h4.elim
      all_goals exact h0.elim
/-! switches -/
theorem hd_sw_look {x : Int32} {dflt : Int} {d : Nat} (hd : (pc : Int) + dflt = (d : Int)) : ∀ (sw : List (Int32 × Nat)) (ps : List (Int × Int)), hd_al pc sw ps = true → (pc : Int) + Op.lookupswitch.offset ps dflt x.toInt = (hd_sw d x sw : Int) := by
  intro sw
  induction sw with
  | nil =>
    intro ps h
    cases ps with
    | nil => exact hd
    | cons y ps => cases h
  | cons y sw ih =>
    obtain ⟨v, t⟩ := y
    intro ps h
    cases ps with
    | nil => cases h
    | cons z ps =>
      obtain ⟨k, o⟩ := z
      unfold hd_al at h
      simp only [Bool.and_eq_true, decide_eq_true_eq] at h
      obtain ⟨⟨h1, h2⟩, h3⟩ := h
      rw [Op.lookupswitch.offset_cons, hd_sw]
      by_cases hx : x = v
      · subst hx
        rw [if_pos h1.symm, if_pos rfl]
        exact h2
      · rw [if_neg hx, if_neg (fun e => hx (Int32.toInt_inj.mp (by rw [← e, h1])))]
        exact ih ps h3
theorem hd_tps_off (dflt k : Int) : ∀ (os : List Int) (lo : Int), Op.lookupswitch.offset (hd_tps lo os) dflt k = if lo ≤ k ∧ k < lo + os.length then os.getD (k - lo).toNat dflt else dflt := by
  intro os
  induction os with
  | nil =>
    intro lo
    rw [if_neg (by simp only [List.length_nil]; omega)]
    rfl
  | cons o os ih =>
    intro lo
    show Op.lookupswitch.offset ((lo, o) :: hd_tps (lo + 1) os) dflt k = _
    rw [Op.lookupswitch.offset_cons, ih (lo + 1)]
    simp only [List.length_cons]
    by_cases h : lo = k
    · subst h
      rw [if_pos rfl, if_pos (by omega)]
      simp
    · rw [if_neg h]
      by_cases h2 : lo + 1 ≤ k ∧ k < lo + 1 + os.length
      · rw [if_pos h2, if_pos (by omega), show (k - lo).toNat = (k - (lo + 1)).toNat + 1 by omega]
        simp
      · rw [if_neg h2, if_neg (by omega)]
def hd_swP (I : hd_I) (lv : hd_L) (st : List Value) (M : hd_M) (N : hd_N) (Q : hd_Q) (x : Int32) (d : Nat) : List (Int32 × Nat) → Prop
  | [] => hd_Go I d lv st M N Q
  | (v, t) :: r => (x = v → hd_Go I t lv st M N Q) ∧ (¬ x = v → hd_swP I lv st M N Q x d r)
theorem hd_swP_ok {x : Int32} {d : Nat} : ∀ sw : List (Int32 × Nat), hd_swP I lv st M N Q x d sw → hd_Go I (hd_sw d x sw) lv st M N Q := by
  intro sw
  induction sw with
  | nil => intro h; exact h
  | cons y sw ih =>
    obtain ⟨v, t⟩ := y
    intro h
    unfold hd_sw
    by_cases hx : x = v
    · rw [if_pos hx]; exact h.1 hx
    · rw [if_neg hx]; exact ih (h.2 hx)
def hd_swK (l : List (Nat × hd_O)) (st : List Value) (k : Int32 → Nat → List (Int32 × Nat) → List Value → Prop) : Prop := match l with
  | [] => False
  | (_, o) :: _ => (match o with
    | (i, _, a, _, _, _, sw, _) => (match i with
      | .tableswitch _ _ _ _ => hd_i1 st (fun x st => k x a sw st)
      | .lookupswitch _ _ => hd_i1 st (fun x st => k x a sw st)
      | _ => False))
theorem hd_swi (ok : hd_okL I (hd_pg I) = true) (h : ∀ k : Int32 → Nat → List (Int32 × Nat) → List Value → Prop, (∀ x d sw st', hd_swP I lv st' M N Q x d sw → k x d sw st') → hd_swK (hd_from pc (hd_pg I)) st k) : hd_Go I pc lv st M N Q := by
  have h0 := h (fun x d sw st' => hd_swP I lv st' M N Q x d sw) (fun _ _ _ _ a => a)
  obtain ⟨h1, h2⟩ := hd_from_ok (hd_pg I) pc ok
  generalize hd_from pc (hd_pg I) = l at h0 h1 h2
  cases l with
  | nil => exact h0.elim
  | cons x r =>
    obtain ⟨q, i, nx, a, b, v, v64, sw, ws⟩ := x
    have e := h2 q _ r rfl
    subst e
    unfold hd_okL at h1
    rw [Bool.and_eq_true, Bool.and_eq_true] at h1
    have hok := h1.1.1
    cases i
    case tableswitch dflt lo hi offs =>
      simp only [hd_ok1, Bool.and_eq_true, decide_eq_true_eq] at hok
      obtain ⟨⟨⟨hd, h3⟩, h4⟩, h5⟩ := hok
      obtain ⟨x, r, rfl, h6⟩ := hd_i1_ok h0
      have hg := hd_swP_ok sw h6
      have hl := hd_sw_look (x := x) h3 sw _ h4
      rw [hd_tps_off] at hl
      intro p l e s m args below meth c H locs G A ls C hH hL
      by_cases hx : lo ≤ x.toInt ∧ x.toInt < lo + offs.toList.length
      · rw [if_pos hx] at hl
        have hlt : (x.toInt - lo).toNat < offs.size := by
          have : offs.toList.length = offs.size := Array.length_toList
          omega
        have ho : offs[(x.toInt - lo).toNat]? = some (offs.toList.getD (x.toInt - lo).toNat dflt) := by
          rw [Array.getElem?_eq_getElem hlt]
          simp [hlt]
        exact lv_tableIn C.1 C.2.1 hd (by omega) (by omega) ho hl (hg p l e s m args below meth c H locs G A ls C hH hL)
      · rw [if_neg hx] at hl
        exact lv_tableOut C.1 C.2.1 hd (by omega) hl (hg p l e s m args below meth c H locs G A ls C hH hL)
    case lookupswitch dflt ps =>
      simp only [hd_ok1, Bool.and_eq_true, decide_eq_true_eq] at hok
      obtain ⟨⟨⟨hd, h3⟩, h4⟩, h5⟩ := hok
      obtain ⟨x, r, rfl, h6⟩ := hd_i1_ok h0
      have hg := hd_swP_ok sw h6
      have hl := hd_sw_look (x := x) h3 sw _ h4
      intro p l e s m args below meth c H locs G A ls C hH hL
      exact lv_lookup C.1 C.2.1 hd h5 rfl hl (hg p l e s m args below meth c H locs G A ls C hH hL)
    all_goals exact h0.elim
end
end
section
/-! printed by wip/whole/gen.py: the instructions of the methods, resolved -/
def pX0_clear : List (Nat × hd_O) := [
  (0, (.aload_n 0, 1, 0, 0, 0, 0, [], [])),
  (1, (.iconst 0, 2, 0, 0, 0, 0, [], [])),
  (2, (.putfield 27, 5, 0, 5, 0, 0, [], [113])),
  (5, (.aload_n 0, 6, 0, 0, 0, 0, [], [])),
  (6, (.iconst 0, 7, 0, 0, 0, 0, [], [])),
  (7, (.putfield 31, 10, 0, 6, 0, 0, [], [116])),
  (10, (.aload_n 0, 11, 0, 0, 0, 0, [], [])),
  (11, (.bipush 30, 13, 0, 0, 30, 0, [], [])),
  (13, (.putfield 34, 16, 0, 7, 0, 0, [], [118])),
  (16, (.aload_n 0, 17, 0, 0, 0, 0, [], [])),
  (17, (.iconst 1, 18, 0, 0, 1, 0, [], [])),
  (18, (.putfield 37, 21, 0, 8, 0, 0, [], [121])),
  (21, (.aload_n 0, 22, 0, 0, 0, 0, [], [])),
  (22, (.iconst 0, 23, 0, 0, 0, 0, [], [])),
  (23, (.putfield 40, 26, 0, 9, 0, 0, [], [124])),
  (26, (.return_, 27, 0, 0, 0, 0, [], []))]
def mX0_clear : hd_I := (RX0, yX0_clear, cX0_clear, 1, none, 1, pX0_clear)
def pX0_copyFrom : List (Nat × hd_O) := [
  (0, (.aload_n 0, 1, 0, 0, 0, 0, [], [])),
  (1, (.aload_n 1, 2, 1, 0, 0, 0, [], [])),
  (2, (.getfield 27, 5, 0, 5, 0, 0, [], [113])),
  (5, (.putfield 27, 8, 0, 5, 0, 0, [], [113])),
  (8, (.aload_n 0, 9, 0, 0, 0, 0, [], [])),
  (9, (.aload_n 1, 10, 1, 0, 0, 0, [], [])),
  (10, (.invokevirtual 43, 13, 3, 2, 0, 0, [], [423, 77, 420, 422, 12, 0])),
  (13, (.iconst 0, 14, 0, 0, 0, 0, [], [])),
  (14, (.istore_n 2, 15, 2, 0, 0, 0, [], [])),
  (15, (.iload_n 2, 16, 2, 0, 0, 0, [], [])),
  (16, (.aload_n 0, 17, 0, 0, 0, 0, [], [])),
  (17, (.getfield 27, 20, 0, 5, 0, 0, [], [113])),
  (20, (.if_icmp .ge 16, 23, 36, 0, 0, 0, [], [])),
  (23, (.aload_n 0, 24, 0, 0, 0, 0, [], [])),
  (24, (.iload_n 2, 25, 2, 0, 0, 0, [], [])),
  (25, (.aload_n 1, 26, 1, 0, 0, 0, [], [])),
  (26, (.iload_n 2, 27, 2, 0, 0, 0, [], [])),
  (27, (.invokevirtual 47, 30, 4, 4, 0, 0, [], [427, 77, 424, 426, 13, 0])),
  (30, (.iinc 2 1, 33, 2, 0, 1, 0, [], [])),
  (33, (.goto (-18), 36, 15, 0, 0, 0, [], [])),
  (36, (.return_, 37, 0, 0, 0, 0, [], []))]
def mX0_copyFrom : hd_I := (RX0, yX0_copyFrom, cX0_copyFrom, 3, none, 2, pX0_copyFrom)
def pX0_copyOrdered : List (Nat × hd_O) := [
  (0, (.aload_n 0, 1, 0, 0, 0, 0, [], [])),
  (1, (.aload_n 1, 2, 1, 0, 0, 0, [], [])),
  (2, (.getfield 27, 5, 0, 5, 0, 0, [], [113])),
  (5, (.putfield 27, 8, 0, 5, 0, 0, [], [113])),
  (8, (.aload_n 0, 9, 0, 0, 0, 0, [], [])),
  (9, (.aload_n 1, 10, 1, 0, 0, 0, [], [])),
  (10, (.invokevirtual 43, 13, 3, 2, 0, 0, [], [423, 77, 420, 422, 12, 0])),
  (13, (.iconst 0, 14, 0, 0, 0, 0, [], [])),
  (14, (.istore_n 3, 15, 3, 0, 0, 0, [], [])),
  (15, (.iload_n 3, 16, 3, 0, 0, 0, [], [])),
  (16, (.aload_n 0, 17, 0, 0, 0, 0, [], [])),
  (17, (.getfield 27, 20, 0, 5, 0, 0, [], [113])),
  (20, (.if_icmp .ge 24, 23, 44, 0, 0, 0, [], [])),
  (23, (.iload_n 3, 24, 3, 0, 0, 0, [], [])),
  (24, (.aload_n 2, 25, 2, 0, 0, 0, [], [])),
  (25, (.arraylength, 26, 0, 0, 0, 0, [], [])),
  (26, (.if_icmp .ge 18, 29, 44, 0, 0, 0, [], [])),
  (29, (.aload_n 0, 30, 0, 0, 0, 0, [], [])),
  (30, (.iload_n 3, 31, 3, 0, 0, 0, [], [])),
  (31, (.aload_n 1, 32, 1, 0, 0, 0, [], [])),
  (32, (.aload_n 2, 33, 2, 0, 0, 0, [], [])),
  (33, (.iload_n 3, 34, 3, 0, 0, 0, [], [])),
  (34, (.iaload, 35, 0, 0, 0, 0, [], [])),
  (35, (.invokevirtual 47, 38, 4, 4, 0, 0, [], [427, 77, 424, 426, 13, 0])),
  (38, (.iinc 3 1, 41, 3, 0, 1, 0, [], [])),
  (41, (.goto (-26), 44, 15, 0, 0, 0, [], [])),
  (44, (.return_, 45, 0, 0, 0, 0, [], []))]
def mX0_copyOrdered : hd_I := (RX0, yX0_copyOrdered, cX0_copyOrdered, 4, none, 2, pX0_copyOrdered)
def pX0_copyDayOf : List (Nat × hd_O) := [
  (0, (.aload_n 0, 1, 0, 0, 0, 0, [], [])),
  (1, (.aload_n 1, 2, 1, 0, 0, 0, [], [])),
  (2, (.getfield 31, 5, 0, 6, 0, 0, [], [116])),
  (5, (.putfield 31, 8, 0, 6, 0, 0, [], [116])),
  (8, (.aload_n 0, 9, 0, 0, 0, 0, [], [])),
  (9, (.aload_n 1, 10, 1, 0, 0, 0, [], [])),
  (10, (.getfield 34, 13, 0, 7, 0, 0, [], [118])),
  (13, (.putfield 34, 16, 0, 7, 0, 0, [], [118])),
  (16, (.aload_n 0, 17, 0, 0, 0, 0, [], [])),
  (17, (.aload_n 1, 18, 1, 0, 0, 0, [], [])),
  (18, (.getfield 37, 21, 0, 8, 0, 0, [], [121])),
  (21, (.putfield 37, 24, 0, 8, 0, 0, [], [121])),
  (24, (.aload_n 0, 25, 0, 0, 0, 0, [], [])),
  (25, (.aload_n 1, 26, 1, 0, 0, 0, [], [])),
  (26, (.getfield 40, 29, 0, 9, 0, 0, [], [124])),
  (29, (.putfield 40, 32, 0, 9, 0, 0, [], [124])),
  (32, (.return_, 33, 0, 0, 0, 0, [], []))]
def mX0_copyDayOf : hd_I := (RX0, yX0_copyDayOf, cX0_copyDayOf, 2, none, 1, pX0_copyDayOf)
def pX0_copyThing : List (Nat × hd_O) := [
  (0, (.aload_n 0, 1, 0, 0, 0, 0, [], [])),
  (1, (.getfield 9, 4, 0, 0, 0, 0, [], [104])),
  (4, (.iload_n 1, 5, 1, 0, 0, 0, [], [])),
  (5, (.aload_n 2, 6, 2, 0, 0, 0, [], [])),
  (6, (.getfield 9, 9, 0, 0, 0, 0, [], [104])),
  (9, (.iload_n 3, 10, 3, 0, 0, 0, [], [])),
  (10, (.iaload, 11, 0, 0, 0, 0, [], [])),
  (11, (.iastore, 12, 0, 0, 0, 0, [], [])),
  (12, (.aload_n 0, 13, 0, 0, 0, 0, [], [])),
  (13, (.getfield 15, 16, 0, 1, 0, 0, [], [106])),
  (16, (.iload_n 1, 17, 1, 0, 0, 0, [], [])),
  (17, (.aload_n 2, 18, 2, 0, 0, 0, [], [])),
  (18, (.getfield 15, 21, 0, 1, 0, 0, [], [106])),
  (21, (.iload_n 3, 22, 3, 0, 0, 0, [], [])),
  (22, (.iaload, 23, 0, 0, 0, 0, [], [])),
  (23, (.iastore, 24, 0, 0, 0, 0, [], [])),
  (24, (.aload_n 0, 25, 0, 0, 0, 0, [], [])),
  (25, (.getfield 18, 28, 0, 2, 0, 0, [], [108])),
  (28, (.iload_n 1, 29, 1, 0, 0, 0, [], [])),
  (29, (.aload_n 2, 30, 2, 0, 0, 0, [], [])),
  (30, (.getfield 18, 33, 0, 2, 0, 0, [], [108])),
  (33, (.iload_n 3, 34, 3, 0, 0, 0, [], [])),
  (34, (.iaload, 35, 0, 0, 0, 0, [], [])),
  (35, (.iastore, 36, 0, 0, 0, 0, [], [])),
  (36, (.aload_n 0, 37, 0, 0, 0, 0, [], [])),
  (37, (.getfield 21, 40, 0, 3, 0, 0, [], [110])),
  (40, (.iload_n 1, 41, 1, 0, 0, 0, [], [])),
  (41, (.aload_n 2, 42, 2, 0, 0, 0, [], [])),
  (42, (.getfield 21, 45, 0, 3, 0, 0, [], [110])),
  (45, (.iload_n 3, 46, 3, 0, 0, 0, [], [])),
  (46, (.iaload, 47, 0, 0, 0, 0, [], [])),
  (47, (.iastore, 48, 0, 0, 0, 0, [], [])),
  (48, (.return_, 49, 0, 0, 0, 0, [], []))]
def mX0_copyThing : hd_I := (RX0, yX0_copyThing, cX0_copyThing, 4, none, 1, pX0_copyThing)
def pX0_isAllIn : List (Nat × hd_O) := [
  (0, (.aload_n 0, 1, 0, 0, 0, 0, [], [])),
  (1, (.getfield 31, 4, 0, 6, 0, 0, [], [116])),
  (4, (.aload_n 0, 5, 0, 0, 0, 0, [], [])),
  (5, (.getfield 27, 8, 0, 5, 0, 0, [], [113])),
  (8, (.if_icmp .ne 7, 11, 15, 0, 0, 0, [], [])),
  (11, (.iconst 1, 12, 0, 0, 1, 0, [], [])),
  (12, (.goto 4, 15, 16, 0, 0, 0, [], [])),
  (15, (.iconst 0, 16, 0, 0, 0, 0, [], [])),
  (16, (.ireturn, 17, 0, 0, 0, 0, [], []))]
def mX0_isAllIn : hd_I := (RX0, yX0_isAllIn, cX0_isAllIn, 1, (some .boolean), 1, pX0_isAllIn)
def pX0_isGone : List (Nat × hd_O) := [
  (0, (.iload_n 1, 1, 1, 0, 0, 0, [], [])),
  (1, (.aload_n 0, 2, 0, 0, 0, 0, [], [])),
  (2, (.getfield 31, 5, 0, 6, 0, 0, [], [116])),
  (5, (.if_icmp .lt 16, 8, 21, 0, 0, 0, [], [])),
  (8, (.aload_n 0, 9, 0, 0, 0, 0, [], [])),
  (9, (.getfield 21, 12, 0, 3, 0, 0, [], [110])),
  (12, (.iload_n 1, 13, 1, 0, 0, 0, [], [])),
  (13, (.iaload, 14, 0, 0, 0, 0, [], [])),
  (14, (.ifCond .ne 7, 17, 21, 0, 0, 0, [], [])),
  (17, (.iconst 1, 18, 0, 0, 1, 0, [], [])),
  (18, (.goto 4, 21, 22, 0, 0, 0, [], [])),
  (21, (.iconst 0, 22, 0, 0, 0, 0, [], [])),
  (22, (.ireturn, 23, 0, 0, 0, 0, [], []))]
def mX0_isGone : hd_I := (RX0, yX0_isGone, cX0_isGone, 2, (some .boolean), 1, pX0_isGone)
def pX0_add : List (Nat × hd_O) := [
  (0, (.aload_n 0, 1, 0, 0, 0, 0, [], [])),
  (1, (.getfield 27, 4, 0, 5, 0, 0, [], [113])),
  (4, (.bipush 7, 6, 0, 0, 7, 0, [], [])),
  (6, (.if_icmp .lt 5, 9, 11, 0, 0, 0, [], [])),
  (9, (.iconst 0, 10, 0, 0, 0, 0, [], [])),
  (10, (.ireturn, 11, 0, 0, 0, 0, [], [])),
  (11, (.aload_n 0, 12, 0, 0, 0, 0, [], [])),
  (12, (.getfield 9, 15, 0, 0, 0, 0, [], [104])),
  (15, (.aload_n 0, 16, 0, 0, 0, 0, [], [])),
  (16, (.getfield 27, 19, 0, 5, 0, 0, [], [113])),
  (19, (.iload_n 1, 20, 1, 0, 0, 0, [], [])),
  (20, (.iastore, 21, 0, 0, 0, 0, [], [])),
  (21, (.aload_n 0, 22, 0, 0, 0, 0, [], [])),
  (22, (.getfield 15, 25, 0, 1, 0, 0, [], [106])),
  (25, (.aload_n 0, 26, 0, 0, 0, 0, [], [])),
  (26, (.getfield 27, 29, 0, 5, 0, 0, [], [113])),
  (29, (.iload_n 2, 30, 2, 0, 0, 0, [], [])),
  (30, (.iastore, 31, 0, 0, 0, 0, [], [])),
  (31, (.aload_n 0, 32, 0, 0, 0, 0, [], [])),
  (32, (.getfield 18, 35, 0, 2, 0, 0, [], [108])),
  (35, (.aload_n 0, 36, 0, 0, 0, 0, [], [])),
  (36, (.getfield 27, 39, 0, 5, 0, 0, [], [113])),
  (39, (.iload_n 3, 40, 3, 0, 0, 0, [], [])),
  (40, (.iastore, 41, 0, 0, 0, 0, [], [])),
  (41, (.aload_n 0, 42, 0, 0, 0, 0, [], [])),
  (42, (.getfield 21, 45, 0, 3, 0, 0, [], [110])),
  (45, (.aload_n 0, 46, 0, 0, 0, 0, [], [])),
  (46, (.getfield 27, 49, 0, 5, 0, 0, [], [113])),
  (49, (.iconst 0, 50, 0, 0, 0, 0, [], [])),
  (50, (.iastore, 51, 0, 0, 0, 0, [], [])),
  (51, (.aload_n 0, 52, 0, 0, 0, 0, [], [])),
  (52, (.dup, 53, 0, 0, 0, 0, [], [])),
  (53, (.getfield 27, 56, 0, 5, 0, 0, [], [113])),
  (56, (.iconst 1, 57, 0, 0, 1, 0, [], [])),
  (57, (.iadd, 58, 0, 0, 0, 0, [], [])),
  (58, (.putfield 27, 61, 0, 5, 0, 0, [], [113])),
  (61, (.aload_n 0, 62, 0, 0, 0, 0, [], [])),
  (62, (.aload_n 0, 63, 0, 0, 0, 0, [], [])),
  (63, (.getfield 27, 66, 0, 5, 0, 0, [], [113])),
  (66, (.putfield 31, 69, 0, 6, 0, 0, [], [116])),
  (69, (.iconst 1, 70, 0, 0, 1, 0, [], [])),
  (70, (.ireturn, 71, 0, 0, 0, 0, [], []))]
def mX0_add : hd_I := (RX0, yX0_add, cX0_add, 4, (some .boolean), 1, pX0_add)
def pX0_change : List (Nat × hd_O) := [
  (0, (.iload_n 2, 1, 2, 0, 0, 0, [], [])),
  (1, (.ifCond .ne 10, 4, 11, 0, 0, 0, [], [])),
  (4, (.aload_n 0, 5, 0, 0, 0, 0, [], [])),
  (5, (.getfield 9, 8, 0, 0, 0, 0, [], [104])),
  (8, (.goto 19, 11, 27, 0, 0, 0, [], [])),
  (11, (.iload_n 2, 12, 2, 0, 0, 0, [], [])),
  (12, (.iconst 1, 13, 0, 0, 1, 0, [], [])),
  (13, (.if_icmp .ne 10, 16, 23, 0, 0, 0, [], [])),
  (16, (.aload_n 0, 17, 0, 0, 0, 0, [], [])),
  (17, (.getfield 15, 20, 0, 1, 0, 0, [], [106])),
  (20, (.goto 7, 23, 27, 0, 0, 0, [], [])),
  (23, (.aload_n 0, 24, 0, 0, 0, 0, [], [])),
  (24, (.getfield 18, 27, 0, 2, 0, 0, [], [108])),
  (27, (.astore 4, 29, 4, 0, 0, 0, [], [])),
  (29, (.aload 4, 31, 4, 0, 0, 0, [], [])),
  (31, (.iload_n 1, 32, 1, 0, 0, 0, [], [])),
  (32, (.iaload, 33, 0, 0, 0, 0, [], [])),
  (33, (.istore 5, 35, 5, 0, 0, 0, [], [])),
  (35, (.aload 4, 37, 4, 0, 0, 0, [], [])),
  (37, (.iload_n 1, 38, 1, 0, 0, 0, [], [])),
  (38, (.iload_n 3, 39, 3, 0, 0, 0, [], [])),
  (39, (.iastore, 40, 0, 0, 0, 0, [], [])),
  (40, (.iload 5, 42, 5, 0, 0, 0, [], [])),
  (42, (.ireturn, 43, 0, 0, 0, 0, [], []))]
def mX0_change : hd_I := (RX0, yX0_change, cX0_change, 6, (some .int), 1, pX0_change)
def pX0_bringAllIn : List (Nat × hd_O) := [
  (0, (.aload_n 0, 1, 0, 0, 0, 0, [], [])),
  (1, (.aload_n 0, 2, 0, 0, 0, 0, [], [])),
  (2, (.getfield 27, 5, 0, 5, 0, 0, [], [113])),
  (5, (.putfield 31, 8, 0, 6, 0, 0, [], [116])),
  (8, (.iconst 0, 9, 0, 0, 0, 0, [], [])),
  (9, (.istore_n 1, 10, 1, 0, 0, 0, [], [])),
  (10, (.iload_n 1, 11, 1, 0, 0, 0, [], [])),
  (11, (.aload_n 0, 12, 0, 0, 0, 0, [], [])),
  (12, (.getfield 27, 15, 0, 5, 0, 0, [], [113])),
  (15, (.if_icmp .ge 16, 18, 31, 0, 0, 0, [], [])),
  (18, (.aload_n 0, 19, 0, 0, 0, 0, [], [])),
  (19, (.getfield 21, 22, 0, 3, 0, 0, [], [110])),
  (22, (.iload_n 1, 23, 1, 0, 0, 0, [], [])),
  (23, (.iconst 0, 24, 0, 0, 0, 0, [], [])),
  (24, (.iastore, 25, 0, 0, 0, 0, [], [])),
  (25, (.iinc 1 1, 28, 1, 0, 1, 0, [], [])),
  (28, (.goto (-18), 31, 10, 0, 0, 0, [], [])),
  (31, (.return_, 32, 0, 0, 0, 0, [], []))]
def mX0_bringAllIn : hd_I := (RX0, yX0_bringAllIn, cX0_bringAllIn, 2, none, 1, pX0_bringAllIn)
def pX0_shrinkTo : List (Nat × hd_O) := [
  (0, (.iload_n 1, 1, 1, 0, 0, 0, [], [])),
  (1, (.aload_n 0, 2, 0, 0, 0, 0, [], [])),
  (2, (.getfield 27, 5, 0, 5, 0, 0, [], [113])),
  (5, (.if_icmp .ge 13, 8, 18, 0, 0, 0, [], [])),
  (8, (.aload_n 0, 9, 0, 0, 0, 0, [], [])),
  (9, (.iload_n 1, 10, 1, 0, 0, 0, [], [])),
  (10, (.putfield 27, 13, 0, 5, 0, 0, [], [113])),
  (13, (.aload_n 0, 14, 0, 0, 0, 0, [], [])),
  (14, (.iload_n 1, 15, 1, 0, 0, 0, [], [])),
  (15, (.putfield 31, 18, 0, 6, 0, 0, [], [116])),
  (18, (.return_, 19, 0, 0, 0, 0, [], []))]
def mX0_shrinkTo : hd_I := (RX0, yX0_shrinkTo, cX0_shrinkTo, 2, none, 1, pX0_shrinkTo)
def pX0_takeAway : List (Nat × hd_O) := [
  (0, (.aload_n 0, 1, 0, 0, 0, 0, [], [])),
  (1, (.iload_n 1, 2, 1, 0, 0, 0, [], [])),
  (2, (.invokevirtual 51, 5, 12, 2, 0, 0, [], [624, 77, 636, 622, 623, 0])),
  (5, (.aload_n 0, 6, 0, 0, 0, 0, [], [])),
  (6, (.aload_n 0, 7, 0, 0, 0, 0, [], [])),
  (7, (.getfield 27, 10, 0, 5, 0, 0, [], [113])),
  (10, (.iconst 1, 11, 0, 0, 1, 0, [], [])),
  (11, (.isub, 12, 0, 0, 0, 0, [], [])),
  (12, (.invokevirtual 55, 15, 10, 2, 0, 0, [], [520, 77, 637, 518, 519, 0])),
  (15, (.return_, 16, 0, 0, 0, 0, [], []))]
def mX0_takeAway : hd_I := (RX0, yX0_takeAway, cX0_takeAway, 2, none, 4, pX0_takeAway)
def pX0_layOnTop : List (Nat × hd_O) := [
  (0, (.iload_n 1, 1, 1, 0, 0, 0, [], [])),
  (1, (.istore_n 2, 2, 2, 0, 0, 0, [], [])),
  (2, (.iload_n 2, 3, 2, 0, 0, 0, [], [])),
  (3, (.iconst 1, 4, 0, 0, 1, 0, [], [])),
  (4, (.iadd, 5, 0, 0, 0, 0, [], [])),
  (5, (.aload_n 0, 6, 0, 0, 0, 0, [], [])),
  (6, (.getfield 27, 9, 0, 5, 0, 0, [], [113])),
  (9, (.if_icmp .ge 17, 12, 26, 0, 0, 0, [], [])),
  (12, (.aload_n 0, 13, 0, 0, 0, 0, [], [])),
  (13, (.iload_n 2, 14, 2, 0, 0, 0, [], [])),
  (14, (.iload_n 2, 15, 2, 0, 0, 0, [], [])),
  (15, (.iconst 1, 16, 0, 0, 1, 0, [], [])),
  (16, (.iadd, 17, 0, 0, 0, 0, [], [])),
  (17, (.invokevirtual 58, 20, 13, 3, 0, 0, [], [628, 77, 625, 626, 627, 0])),
  (20, (.iinc 2 1, 23, 2, 0, 1, 0, [], [])),
  (23, (.goto (-21), 26, 2, 0, 0, 0, [], [])),
  (26, (.return_, 27, 0, 0, 0, 0, [], []))]
def mX0_layOnTop : hd_I := (RX0, yX0_layOnTop, cX0_layOnTop, 3, none, 3, pX0_layOnTop)
def pX0_exchange : List (Nat × hd_O) := [
  (0, (.aload_n 0, 1, 0, 0, 0, 0, [], [])),
  (1, (.getfield 9, 4, 0, 0, 0, 0, [], [104])),
  (4, (.iload_n 1, 5, 1, 0, 0, 0, [], [])),
  (5, (.iload_n 2, 6, 2, 0, 0, 0, [], [])),
  (6, (.invokestatic 62, 9, 14, 3, 0, 0, [], [631, 77, 629, 630])),
  (9, (.aload_n 0, 10, 0, 0, 0, 0, [], [])),
  (10, (.getfield 15, 13, 0, 1, 0, 0, [], [106])),
  (13, (.iload_n 1, 14, 1, 0, 0, 0, [], [])),
  (14, (.iload_n 2, 15, 2, 0, 0, 0, [], [])),
  (15, (.invokestatic 62, 18, 14, 3, 0, 0, [], [631, 77, 629, 630])),
  (18, (.aload_n 0, 19, 0, 0, 0, 0, [], [])),
  (19, (.getfield 18, 22, 0, 2, 0, 0, [], [108])),
  (22, (.iload_n 1, 23, 1, 0, 0, 0, [], [])),
  (23, (.iload_n 2, 24, 2, 0, 0, 0, [], [])),
  (24, (.invokestatic 62, 27, 14, 3, 0, 0, [], [631, 77, 629, 630])),
  (27, (.return_, 28, 0, 0, 0, 0, [], []))]
def mX0_exchange : hd_I := (RX0, yX0_exchange, cX0_exchange, 3, none, 2, pX0_exchange)
def pX0_exchangeIn : List (Nat × hd_O) := [
  (0, (.aload_n 0, 1, 0, 0, 0, 0, [], [])),
  (1, (.iload_n 1, 2, 1, 0, 0, 0, [], [])),
  (2, (.iaload, 3, 0, 0, 0, 0, [], [])),
  (3, (.istore_n 3, 4, 3, 0, 0, 0, [], [])),
  (4, (.aload_n 0, 5, 0, 0, 0, 0, [], [])),
  (5, (.iload_n 1, 6, 1, 0, 0, 0, [], [])),
  (6, (.aload_n 0, 7, 0, 0, 0, 0, [], [])),
  (7, (.iload_n 2, 8, 2, 0, 0, 0, [], [])),
  (8, (.iaload, 9, 0, 0, 0, 0, [], [])),
  (9, (.iastore, 10, 0, 0, 0, 0, [], [])),
  (10, (.aload_n 0, 11, 0, 0, 0, 0, [], [])),
  (11, (.iload_n 2, 12, 2, 0, 0, 0, [], [])),
  (12, (.iload_n 3, 13, 3, 0, 0, 0, [], [])),
  (13, (.iastore, 14, 0, 0, 0, 0, [], [])),
  (14, (.return_, 15, 0, 0, 0, 0, [], []))]
def mX0_exchangeIn : hd_I := (RX0, yX0_exchangeIn, cX0_exchangeIn, 4, none, 1, pX0_exchangeIn)
def pX0_bearsOf : List (Nat × hd_O) := [
  (0, (.aload_n 0, 1, 0, 0, 0, 0, [], [])),
  (1, (.getfield 9, 4, 0, 0, 0, 0, [], [104])),
  (4, (.iload_n 1, 5, 1, 0, 0, 0, [], [])),
  (5, (.iaload, 6, 0, 0, 0, 0, [], [])),
  (6, (.iconst 1, 7, 0, 0, 1, 0, [], [])),
  (7, (.if_icmp .eq 13, 10, 20, 0, 0, 0, [], [])),
  (10, (.aload_n 0, 11, 0, 0, 0, 0, [], [])),
  (11, (.getfield 9, 14, 0, 0, 0, 0, [], [104])),
  (14, (.iload_n 1, 15, 1, 0, 0, 0, [], [])),
  (15, (.iaload, 16, 0, 0, 0, 0, [], [])),
  (16, (.iconst 3, 17, 0, 0, 3, 0, [], [])),
  (17, (.if_icmp .ne 7, 20, 24, 0, 0, 0, [], [])),
  (20, (.iconst 1, 21, 0, 0, 1, 0, [], [])),
  (21, (.goto 4, 24, 25, 0, 0, 0, [], [])),
  (24, (.iconst 0, 25, 0, 0, 0, 0, [], [])),
  (25, (.istore_n 2, 26, 2, 0, 0, 0, [], [])),
  (26, (.iload_n 2, 27, 2, 0, 0, 0, [], [])),
  (27, (.ifCond .eq 12, 30, 39, 0, 0, 0, [], [])),
  (30, (.aload_n 0, 31, 0, 0, 0, 0, [], [])),
  (31, (.getfield 18, 34, 0, 2, 0, 0, [], [108])),
  (34, (.iload_n 1, 35, 1, 0, 0, 0, [], [])),
  (35, (.iaload, 36, 0, 0, 0, 0, [], [])),
  (36, (.goto 11, 39, 47, 0, 0, 0, [], [])),
  (39, (.iconst 2, 40, 0, 0, 2, 0, [], [])),
  (40, (.aload_n 0, 41, 0, 0, 0, 0, [], [])),
  (41, (.getfield 18, 44, 0, 2, 0, 0, [], [108])),
  (44, (.iload_n 1, 45, 1, 0, 0, 0, [], [])),
  (45, (.iaload, 46, 0, 0, 0, 0, [], [])),
  (46, (.imul, 47, 0, 0, 0, 0, [], [])),
  (47, (.ireturn, 48, 0, 0, 0, 0, [], []))]
def mX0_bearsOf : hd_I := (RX0, yX0_bearsOf, cX0_bearsOf, 3, (some .int), 1, pX0_bearsOf)
def pX0_weightBehind : List (Nat × hd_O) := [
  (0, (.iconst 0, 1, 0, 0, 0, 0, [], [])),
  (1, (.istore_n 2, 2, 2, 0, 0, 0, [], [])),
  (2, (.iload_n 1, 3, 1, 0, 0, 0, [], [])),
  (3, (.iconst 1, 4, 0, 0, 1, 0, [], [])),
  (4, (.iadd, 5, 0, 0, 0, 0, [], [])),
  (5, (.istore_n 3, 6, 3, 0, 0, 0, [], [])),
  (6, (.iload_n 3, 7, 3, 0, 0, 0, [], [])),
  (7, (.aload_n 0, 8, 0, 0, 0, 0, [], [])),
  (8, (.getfield 27, 11, 0, 5, 0, 0, [], [113])),
  (11, (.if_icmp .ge 18, 14, 29, 0, 0, 0, [], [])),
  (14, (.iload_n 2, 15, 2, 0, 0, 0, [], [])),
  (15, (.aload_n 0, 16, 0, 0, 0, 0, [], [])),
  (16, (.getfield 18, 19, 0, 2, 0, 0, [], [108])),
  (19, (.iload_n 3, 20, 3, 0, 0, 0, [], [])),
  (20, (.iaload, 21, 0, 0, 0, 0, [], [])),
  (21, (.iadd, 22, 0, 0, 0, 0, [], [])),
  (22, (.istore_n 2, 23, 2, 0, 0, 0, [], [])),
  (23, (.iinc 3 1, 26, 3, 0, 1, 0, [], [])),
  (26, (.goto (-20), 29, 6, 0, 0, 0, [], [])),
  (29, (.iload_n 2, 30, 2, 0, 0, 0, [], [])),
  (30, (.ireturn, 31, 0, 0, 0, 0, [], []))]
def mX0_weightBehind : hd_I := (RX0, yX0_weightBehind, cX0_weightBehind, 4, (some .int), 1, pX0_weightBehind)
def pX0_isCrushed : List (Nat × hd_O) := [
  (0, (.aload_n 0, 1, 0, 0, 0, 0, [], [])),
  (1, (.iload_n 1, 2, 1, 0, 0, 0, [], [])),
  (2, (.invokevirtual 66, 5, 16, 2, 0, 0, [], [451, 77, 448, 449, 450, 0])),
  (5, (.aload_n 0, 6, 0, 0, 0, 0, [], [])),
  (6, (.iload_n 1, 7, 1, 0, 0, 0, [], [])),
  (7, (.invokevirtual 70, 10, 15, 2, 0, 0, [], [455, 77, 452, 453, 454, 0])),
  (10, (.if_icmp .le 7, 13, 17, 0, 0, 0, [], [])),
  (13, (.iconst 1, 14, 0, 0, 1, 0, [], [])),
  (14, (.goto 4, 17, 18, 0, 0, 0, [], [])),
  (17, (.iconst 0, 18, 0, 0, 0, 0, [], [])),
  (18, (.ireturn, 19, 0, 0, 0, 0, [], []))]
def mX0_isCrushed : hd_I := (RX0, yX0_isCrushed, cX0_isCrushed, 2, (some .boolean), 2, pX0_isCrushed)
def pX0_cheersOf : List (Nat × hd_O) := [
  (0, (.aload_n 0, 1, 0, 0, 0, 0, [], [])),
  (1, (.iload_n 1, 2, 1, 0, 0, 0, [], [])),
  (2, (.aload_n 0, 3, 0, 0, 0, 0, [], [])),
  (3, (.iload_n 1, 4, 1, 0, 0, 0, [], [])),
  (4, (.invokevirtual 66, 7, 16, 2, 0, 0, [], [451, 77, 448, 449, 450, 0])),
  (7, (.invokevirtual 73, 10, 19, 3, 0, 0, [], [473, 77, 470, 472, 15, 0])),
  (10, (.ireturn, 11, 0, 0, 0, 0, [], []))]
def mX0_cheersOf : hd_I := (RX0, yX0_cheersOf, cX0_cheersOf, 2, (some .int), 3, pX0_cheersOf)
def pX0_cheersUnder : List (Nat × hd_O) := [
  (0, (.iload_n 2, 1, 2, 0, 0, 0, [], [])),
  (1, (.aload_n 0, 2, 0, 0, 0, 0, [], [])),
  (2, (.iload_n 1, 3, 1, 0, 0, 0, [], [])),
  (3, (.invokevirtual 70, 6, 15, 2, 0, 0, [], [455, 77, 452, 453, 454, 0])),
  (6, (.if_icmp .le 14, 9, 20, 0, 0, 0, [], [])),
  (9, (.aload_n 0, 10, 0, 0, 0, 0, [], [])),
  (10, (.getfield 15, 13, 0, 1, 0, 0, [], [106])),
  (13, (.iload_n 1, 14, 1, 0, 0, 0, [], [])),
  (14, (.iaload, 15, 0, 0, 0, 0, [], [])),
  (15, (.iconst 2, 16, 0, 0, 2, 0, [], [])),
  (16, (.idiv, 17, 0, 0, 0, 0, [], [])),
  (17, (.goto 9, 20, 26, 0, 0, 0, [], [])),
  (20, (.aload_n 0, 21, 0, 0, 0, 0, [], [])),
  (21, (.getfield 15, 24, 0, 1, 0, 0, [], [106])),
  (24, (.iload_n 1, 25, 1, 0, 0, 0, [], [])),
  (25, (.iaload, 26, 0, 0, 0, 0, [], [])),
  (26, (.istore_n 3, 27, 3, 0, 0, 0, [], [])),
  (27, (.aload_n 0, 28, 0, 0, 0, 0, [], [])),
  (28, (.getfield 9, 31, 0, 0, 0, 0, [], [104])),
  (31, (.iload_n 1, 32, 1, 0, 0, 0, [], [])),
  (32, (.iaload, 33, 0, 0, 0, 0, [], [])),
  (33, (.tableswitch 40 1 3 #[27, 31, 34], 60, 73, 0, 0, 0, [(1, 60), (2, 64), (3, 67)], [])),
  (60, (.iconst 2, 61, 0, 0, 2, 0, [], [])),
  (61, (.iload_n 3, 62, 3, 0, 0, 0, [], [])),
  (62, (.imul, 63, 0, 0, 0, 0, [], [])),
  (63, (.ireturn, 64, 0, 0, 0, 0, [], [])),
  (64, (.iload_n 3, 65, 3, 0, 0, 0, [], [])),
  (65, (.ineg, 66, 0, 0, 0, 0, [], [])),
  (66, (.ireturn, 67, 0, 0, 0, 0, [], [])),
  (67, (.iconst 2, 68, 0, 0, 2, 0, [], [])),
  (68, (.iload_n 3, 69, 3, 0, 0, 0, [], [])),
  (69, (.imul, 70, 0, 0, 0, 0, [], [])),
  (70, (.iconst 1, 71, 0, 0, 1, 0, [], [])),
  (71, (.iadd, 72, 0, 0, 0, 0, [], [])),
  (72, (.ireturn, 73, 0, 0, 0, 0, [], [])),
  (73, (.iload_n 3, 74, 3, 0, 0, 0, [], [])),
  (74, (.ireturn, 75, 0, 0, 0, 0, [], []))]
def mX0_cheersUnder : hd_I := (RX0, yX0_cheersUnder, cX0_cheersUnder, 4, (some .int), 2, pX0_cheersUnder)
def pX0_lastsOf : List (Nat × hd_O) := [
  (0, (.aload_n 0, 1, 0, 0, 0, 0, [], [])),
  (1, (.getfield 9, 4, 0, 0, 0, 0, [], [104])),
  (4, (.iload_n 1, 5, 1, 0, 0, 0, [], [])),
  (5, (.iaload, 6, 0, 0, 0, 0, [], [])),
  (6, (.lookupswitch 31 #[(2, 26), (3, 28)], 32, 37, 0, 0, 0, [(2, 32), (3, 34)], [])),
  (32, (.iconst 5, 33, 0, 0, 5, 0, [], [])),
  (33, (.ireturn, 34, 0, 0, 0, 0, [], [])),
  (34, (.bipush 6, 36, 0, 0, 6, 0, [], [])),
  (36, (.ireturn, 37, 0, 0, 0, 0, [], [])),
  (37, (.iconst 3, 38, 0, 0, 3, 0, [], [])),
  (38, (.ireturn, 39, 0, 0, 0, 0, [], []))]
def mX0_lastsOf : hd_I := (RX0, yX0_lastsOf, cX0_lastsOf, 2, (some .int), 1, pX0_lastsOf)
def pX0_tallyCheers : List (Nat × hd_O) := [
  (0, (.iconst 0, 1, 0, 0, 0, 0, [], [])),
  (1, (.istore_n 1, 2, 1, 0, 0, 0, [], [])),
  (2, (.aload_n 0, 3, 0, 0, 0, 0, [], [])),
  (3, (.getfield 27, 6, 0, 5, 0, 0, [], [113])),
  (6, (.iconst 1, 7, 0, 0, 1, 0, [], [])),
  (7, (.isub, 8, 0, 0, 0, 0, [], [])),
  (8, (.istore_n 2, 9, 2, 0, 0, 0, [], [])),
  (9, (.iload_n 2, 10, 2, 0, 0, 0, [], [])),
  (10, (.ifCond .lt 30, 13, 40, 0, 0, 0, [], [])),
  (13, (.aload_n 0, 14, 0, 0, 0, 0, [], [])),
  (14, (.getfield 24, 17, 0, 4, 0, 0, [], [112])),
  (17, (.iload_n 2, 18, 2, 0, 0, 0, [], [])),
  (18, (.aload_n 0, 19, 0, 0, 0, 0, [], [])),
  (19, (.iload_n 2, 20, 2, 0, 0, 0, [], [])),
  (20, (.iload_n 1, 21, 1, 0, 0, 0, [], [])),
  (21, (.invokevirtual 73, 24, 19, 3, 0, 0, [], [473, 77, 470, 472, 15, 0])),
  (24, (.iastore, 25, 0, 0, 0, 0, [], [])),
  (25, (.iload_n 1, 26, 1, 0, 0, 0, [], [])),
  (26, (.aload_n 0, 27, 0, 0, 0, 0, [], [])),
  (27, (.getfield 18, 30, 0, 2, 0, 0, [], [108])),
  (30, (.iload_n 2, 31, 2, 0, 0, 0, [], [])),
  (31, (.iaload, 32, 0, 0, 0, 0, [], [])),
  (32, (.iadd, 33, 0, 0, 0, 0, [], [])),
  (33, (.istore_n 1, 34, 1, 0, 0, 0, [], [])),
  (34, (.iinc 2 (-1), 37, 2, 0, (-1), 0, [], [])),
  (37, (.goto (-28), 40, 9, 0, 0, 0, [], [])),
  (40, (.return_, 41, 0, 0, 0, 0, [], []))]
def mX0_tallyCheers : hd_I := (RX0, yX0_tallyCheers, cX0_tallyCheers, 3, none, 3, pX0_tallyCheers)
def pX0_pass : List (Nat × hd_O) := [
  (0, (.aload_n 0, 1, 0, 0, 0, 0, [], [])),
  (1, (.invokevirtual 77, 4, 21, 1, 0, 0, [], [532, 77, 529, 530, 531, 0])),
  (4, (.iconst 0, 5, 0, 0, 0, 0, [], [])),
  (5, (.istore_n 2, 6, 2, 0, 0, 0, [], [])),
  (6, (.iload_n 2, 7, 2, 0, 0, 0, [], [])),
  (7, (.iload_n 1, 8, 1, 0, 0, 0, [], [])),
  (8, (.if_icmp .ge 14, 11, 22, 0, 0, 0, [], [])),
  (11, (.aload_n 0, 12, 0, 0, 0, 0, [], [])),
  (12, (.iconst 0, 13, 0, 0, 0, 0, [], [])),
  (13, (.invokevirtual 80, 16, 23, 2, 0, 0, [], [536, 77, 533, 534, 535, 0])),
  (16, (.iinc 2 1, 19, 2, 0, 1, 0, [], [])),
  (19, (.goto (-13), 22, 6, 0, 0, 0, [], [])),
  (22, (.aload_n 0, 23, 0, 0, 0, 0, [], [])),
  (23, (.getfield 34, 26, 0, 7, 0, 0, [], [118])),
  (26, (.ireturn, 27, 0, 0, 0, 0, [], []))]
def mX0_pass : hd_I := (RX0, yX0_pass, cX0_pass, 3, (some .int), 4, pX0_pass)
def pX0_passOne : List (Nat × hd_O) := [
  (0, (.aload_n 0, 1, 0, 0, 0, 0, [], [])),
  (1, (.getfield 31, 4, 0, 6, 0, 0, [], [116])),
  (4, (.ifCond .le 34, 7, 38, 0, 0, 0, [], [])),
  (7, (.iload_n 1, 8, 1, 0, 0, 0, [], [])),
  (8, (.ifCond .ne 30, 11, 38, 0, 0, 0, [], [])),
  (11, (.aload_n 0, 12, 0, 0, 0, 0, [], [])),
  (12, (.dup, 13, 0, 0, 0, 0, [], [])),
  (13, (.getfield 31, 16, 0, 6, 0, 0, [], [116])),
  (16, (.iconst 1, 17, 0, 0, 1, 0, [], [])),
  (17, (.isub, 18, 0, 0, 0, 0, [], [])),
  (18, (.putfield 31, 21, 0, 6, 0, 0, [], [116])),
  (21, (.aload_n 0, 22, 0, 0, 0, 0, [], [])),
  (22, (.getfield 21, 25, 0, 3, 0, 0, [], [110])),
  (25, (.aload_n 0, 26, 0, 0, 0, 0, [], [])),
  (26, (.getfield 31, 29, 0, 6, 0, 0, [], [116])),
  (29, (.aload_n 0, 30, 0, 0, 0, 0, [], [])),
  (30, (.aload_n 0, 31, 0, 0, 0, 0, [], [])),
  (31, (.getfield 31, 34, 0, 6, 0, 0, [], [116])),
  (34, (.invokevirtual 84, 37, 20, 2, 0, 0, [], [540, 77, 537, 539, 16, 0])),
  (37, (.iastore, 38, 0, 0, 0, 0, [], [])),
  (38, (.aload_n 0, 39, 0, 0, 0, 0, [], [])),
  (39, (.getfield 34, 42, 0, 7, 0, 0, [], [118])),
  (42, (.aload_n 0, 43, 0, 0, 0, 0, [], [])),
  (43, (.getfield 37, 46, 0, 8, 0, 0, [], [121])),
  (46, (.isub, 47, 0, 0, 0, 0, [], [])),
  (47, (.istore_n 2, 48, 2, 0, 0, 0, [], [])),
  (48, (.aload_n 0, 49, 0, 0, 0, 0, [], [])),
  (49, (.getfield 31, 52, 0, 6, 0, 0, [], [116])),
  (52, (.istore_n 3, 53, 3, 0, 0, 0, [], [])),
  (53, (.iload_n 3, 54, 3, 0, 0, 0, [], [])),
  (54, (.aload_n 0, 55, 0, 0, 0, 0, [], [])),
  (55, (.getfield 27, 58, 0, 5, 0, 0, [], [113])),
  (58, (.if_icmp .ge 37, 61, 95, 0, 0, 0, [], [])),
  (61, (.aload_n 0, 62, 0, 0, 0, 0, [], [])),
  (62, (.getfield 21, 65, 0, 3, 0, 0, [], [110])),
  (65, (.iload_n 3, 66, 3, 0, 0, 0, [], [])),
  (66, (.iaload, 67, 0, 0, 0, 0, [], [])),
  (67, (.ifCond .le 22, 70, 89, 0, 0, 0, [], [])),
  (70, (.iload_n 2, 71, 2, 0, 0, 0, [], [])),
  (71, (.aload_n 0, 72, 0, 0, 0, 0, [], [])),
  (72, (.getfield 24, 75, 0, 4, 0, 0, [], [112])),
  (75, (.iload_n 3, 76, 3, 0, 0, 0, [], [])),
  (76, (.iaload, 77, 0, 0, 0, 0, [], [])),
  (77, (.iadd, 78, 0, 0, 0, 0, [], [])),
  (78, (.istore_n 2, 79, 2, 0, 0, 0, [], [])),
  (79, (.aload_n 0, 80, 0, 0, 0, 0, [], [])),
  (80, (.getfield 21, 83, 0, 3, 0, 0, [], [110])),
  (83, (.iload_n 3, 84, 3, 0, 0, 0, [], [])),
  (84, (.dup2, 85, 0, 0, 0, 0, [], [])),
  (85, (.iaload, 86, 0, 0, 0, 0, [], [])),
  (86, (.iconst 1, 87, 0, 0, 1, 0, [], [])),
  (87, (.isub, 88, 0, 0, 0, 0, [], [])),
  (88, (.iastore, 89, 0, 0, 0, 0, [], [])),
  (89, (.iinc 3 1, 92, 3, 0, 1, 0, [], [])),
  (92, (.goto (-39), 95, 53, 0, 0, 0, [], [])),
  (95, (.aload_n 0, 96, 0, 0, 0, 0, [], [])),
  (96, (.iconst 0, 97, 0, 0, 0, 0, [], [])),
  (97, (.bipush 99, 99, 0, 0, 99, 0, [], [])),
  (99, (.iload_n 2, 100, 2, 0, 0, 0, [], [])),
  (100, (.invokestatic 87, 103, 9002, 0, 0, 0, [], [543, 87, 541, 542])),
  (103, (.invokestatic 92, 106, 9001, 0, 0, 0, [], [546, 87, 544, 545])),
  (106, (.putfield 34, 109, 0, 7, 0, 0, [], [118])),
  (109, (.aload_n 0, 110, 0, 0, 0, 0, [], [])),
  (110, (.dup, 111, 0, 0, 0, 0, [], [])),
  (111, (.getfield 40, 114, 0, 9, 0, 0, [], [124])),
  (114, (.iconst 1, 115, 0, 0, 1, 0, [], [])),
  (115, (.iadd, 116, 0, 0, 0, 0, [], [])),
  (116, (.putfield 40, 119, 0, 9, 0, 0, [], [124])),
  (119, (.return_, 120, 0, 0, 0, 0, [], []))]
def mX0_passOne : hd_I := (RX0, yX0_passOne, cX0_passOne, 4, none, 2, pX0_passOne)
def pX0_blow : List (Nat × hd_O) := [
  (0, (.aload_n 0, 1, 0, 0, 0, 0, [], [])),
  (1, (.getfield 27, 4, 0, 5, 0, 0, [], [113])),
  (4, (.ifCond .ne 4, 7, 8, 0, 0, 0, [], [])),
  (7, (.return_, 8, 0, 0, 0, 0, [], [])),
  (8, (.aload_n 0, 9, 0, 0, 0, 0, [], [])),
  (9, (.getfield 15, 12, 0, 1, 0, 0, [], [106])),
  (12, (.iload_n 1, 13, 1, 0, 0, 0, [], [])),
  (13, (.aload_n 0, 14, 0, 0, 0, 0, [], [])),
  (14, (.getfield 27, 17, 0, 5, 0, 0, [], [113])),
  (17, (.irem, 18, 0, 0, 0, 0, [], [])),
  (18, (.iload_n 1, 19, 1, 0, 0, 0, [], [])),
  (19, (.bipush 8, 21, 0, 0, 8, 0, [], [])),
  (21, (.idiv, 22, 0, 0, 0, 0, [], [])),
  (22, (.bipush 10, 24, 0, 0, 10, 0, [], [])),
  (24, (.irem, 25, 0, 0, 0, 0, [], [])),
  (25, (.iastore, 26, 0, 0, 0, 0, [], [])),
  (26, (.iload_n 1, 27, 1, 0, 0, 0, [], [])),
  (27, (.sipush 128, 30, 0, 0, 128, 0, [], [])),
  (30, (.idiv, 31, 0, 0, 0, 0, [], [])),
  (31, (.iconst 4, 32, 0, 0, 4, 0, [], [])),
  (32, (.irem, 33, 0, 0, 0, 0, [], [])),
  (33, (.ifCond .ne 7, 36, 40, 0, 0, 0, [], [])),
  (36, (.aload_n 0, 37, 0, 0, 0, 0, [], [])),
  (37, (.invokevirtual 95, 40, 9, 1, 0, 0, [], [512, 77, 747, 510, 511, 0])),
  (40, (.return_, 41, 0, 0, 0, 0, [], []))]
def mX0_blow : hd_I := (RX0, yX0_blow, cX0_blow, 2, none, 2, pX0_blow)
def pX0_outBits : List (Nat × hd_O) := [
  (0, (.iconst 0, 1, 0, 0, 0, 0, [], [])),
  (1, (.istore_n 1, 2, 1, 0, 0, 0, [], [])),
  (2, (.aload_n 0, 3, 0, 0, 0, 0, [], [])),
  (3, (.getfield 31, 6, 0, 6, 0, 0, [], [116])),
  (6, (.istore_n 2, 7, 2, 0, 0, 0, [], [])),
  (7, (.iload_n 2, 8, 2, 0, 0, 0, [], [])),
  (8, (.aload_n 0, 9, 0, 0, 0, 0, [], [])),
  (9, (.getfield 27, 12, 0, 5, 0, 0, [], [113])),
  (12, (.if_icmp .ge 24, 15, 36, 0, 0, 0, [], [])),
  (15, (.aload_n 0, 16, 0, 0, 0, 0, [], [])),
  (16, (.getfield 21, 19, 0, 3, 0, 0, [], [110])),
  (19, (.iload_n 2, 20, 2, 0, 0, 0, [], [])),
  (20, (.iaload, 21, 0, 0, 0, 0, [], [])),
  (21, (.ifCond .le 9, 24, 30, 0, 0, 0, [], [])),
  (24, (.iload_n 1, 25, 1, 0, 0, 0, [], [])),
  (25, (.iconst 1, 26, 0, 0, 1, 0, [], [])),
  (26, (.iload_n 2, 27, 2, 0, 0, 0, [], [])),
  (27, (.ishl, 28, 0, 0, 0, 0, [], [])),
  (28, (.ior, 29, 0, 0, 0, 0, [], [])),
  (29, (.istore_n 1, 30, 1, 0, 0, 0, [], [])),
  (30, (.iinc 2 1, 33, 2, 0, 1, 0, [], [])),
  (33, (.goto (-26), 36, 7, 0, 0, 0, [], [])),
  (36, (.iload_n 1, 37, 1, 0, 0, 0, [], [])),
  (37, (.ireturn, 38, 0, 0, 0, 0, [], []))]
def mX0_outBits : hd_I := (RX0, yX0_outBits, cX0_outBits, 3, (some .int), 1, pX0_outBits)
def pX0_crushedBits : List (Nat × hd_O) := [
  (0, (.iconst 0, 1, 0, 0, 0, 0, [], [])),
  (1, (.istore_n 1, 2, 1, 0, 0, 0, [], [])),
  (2, (.iconst 0, 3, 0, 0, 0, 0, [], [])),
  (3, (.istore_n 2, 4, 2, 0, 0, 0, [], [])),
  (4, (.iload_n 2, 5, 2, 0, 0, 0, [], [])),
  (5, (.aload_n 0, 6, 0, 0, 0, 0, [], [])),
  (6, (.getfield 27, 9, 0, 5, 0, 0, [], [113])),
  (9, (.if_icmp .ge 23, 12, 32, 0, 0, 0, [], [])),
  (12, (.aload_n 0, 13, 0, 0, 0, 0, [], [])),
  (13, (.iload_n 2, 14, 2, 0, 0, 0, [], [])),
  (14, (.invokevirtual 98, 17, 17, 2, 0, 0, [], [447, 77, 444, 445, 446, 0])),
  (17, (.ifCond .eq 9, 20, 26, 0, 0, 0, [], [])),
  (20, (.iload_n 1, 21, 1, 0, 0, 0, [], [])),
  (21, (.iconst 1, 22, 0, 0, 1, 0, [], [])),
  (22, (.iload_n 2, 23, 2, 0, 0, 0, [], [])),
  (23, (.ishl, 24, 0, 0, 0, 0, [], [])),
  (24, (.ior, 25, 0, 0, 0, 0, [], [])),
  (25, (.istore_n 1, 26, 1, 0, 0, 0, [], [])),
  (26, (.iinc 2 1, 29, 2, 0, 1, 0, [], [])),
  (29, (.goto (-25), 32, 4, 0, 0, 0, [], [])),
  (32, (.iload_n 1, 33, 1, 0, 0, 0, [], [])),
  (33, (.ireturn, 34, 0, 0, 0, 0, [], []))]
def mX0_crushedBits : hd_I := (RX0, yX0_crushedBits, cX0_crushedBits, 3, (some .int), 3, pX0_crushedBits)
def pX0_sumOf : List (Nat × hd_O) := [
  (0, (.iconst 0, 1, 0, 0, 0, 0, [], [])),
  (1, (.istore_n 2, 2, 2, 0, 0, 0, [], [])),
  (2, (.iconst 0, 3, 0, 0, 0, 0, [], [])),
  (3, (.istore_n 3, 4, 3, 0, 0, 0, [], [])),
  (4, (.iload_n 3, 5, 3, 0, 0, 0, [], [])),
  (5, (.aload_n 0, 6, 0, 0, 0, 0, [], [])),
  (6, (.getfield 27, 9, 0, 5, 0, 0, [], [113])),
  (9, (.if_icmp .ge 15, 12, 24, 0, 0, 0, [], [])),
  (12, (.iload_n 2, 13, 2, 0, 0, 0, [], [])),
  (13, (.aload_n 1, 14, 1, 0, 0, 0, [], [])),
  (14, (.iload_n 3, 15, 3, 0, 0, 0, [], [])),
  (15, (.iaload, 16, 0, 0, 0, 0, [], [])),
  (16, (.iadd, 17, 0, 0, 0, 0, [], [])),
  (17, (.istore_n 2, 18, 2, 0, 0, 0, [], [])),
  (18, (.iinc 3 1, 21, 3, 0, 1, 0, [], [])),
  (21, (.goto (-17), 24, 4, 0, 0, 0, [], [])),
  (24, (.iload_n 2, 25, 2, 0, 0, 0, [], [])),
  (25, (.ireturn, 26, 0, 0, 0, 0, [], []))]
def mX0_sumOf : hd_I := (RX0, yX0_sumOf, cX0_sumOf, 4, (some .int), 1, pX0_sumOf)
def pX2_add : List (Nat × hd_O) := [
  (0, (.aload_n 0, 1, 0, 0, 0, 0, [], [])),
  (1, (.getfield 18, 4, 2, 2, 0, 0, [], [158])),
  (4, (.bipush 6, 6, 0, 0, 6, 0, [], [])),
  (6, (.if_icmp .lt 5, 9, 11, 0, 0, 0, [], [])),
  (9, (.iconst 0, 10, 0, 0, 0, 0, [], [])),
  (10, (.ireturn, 11, 0, 0, 0, 0, [], [])),
  (11, (.aload_n 0, 12, 0, 0, 0, 0, [], [])),
  (12, (.getfield 9, 15, 2, 0, 0, 0, [], [154])),
  (15, (.aload_n 0, 16, 0, 0, 0, 0, [], [])),
  (16, (.getfield 18, 19, 2, 2, 0, 0, [], [158])),
  (19, (.iload_n 1, 20, 1, 0, 0, 0, [], [])),
  (20, (.iastore, 21, 0, 0, 0, 0, [], [])),
  (21, (.aload_n 0, 22, 0, 0, 0, 0, [], [])),
  (22, (.getfield 15, 25, 2, 1, 0, 0, [], [156])),
  (25, (.aload_n 0, 26, 0, 0, 0, 0, [], [])),
  (26, (.getfield 18, 29, 2, 2, 0, 0, [], [158])),
  (29, (.iload_n 2, 30, 2, 0, 0, 0, [], [])),
  (30, (.iastore, 31, 0, 0, 0, 0, [], [])),
  (31, (.aload_n 0, 32, 0, 0, 0, 0, [], [])),
  (32, (.dup, 33, 0, 0, 0, 0, [], [])),
  (33, (.getfield 18, 36, 2, 2, 0, 0, [], [158])),
  (36, (.iconst 1, 37, 0, 0, 1, 0, [], [])),
  (37, (.iadd, 38, 0, 0, 0, 0, [], [])),
  (38, (.putfield 18, 41, 2, 2, 0, 0, [], [158])),
  (41, (.iconst 1, 42, 0, 0, 1, 0, [], [])),
  (42, (.ireturn, 43, 0, 0, 0, 0, [], []))]
def mX2_add : hd_I := (RX2, yX2_add, cX2_add, 3, (some .boolean), 1, pX2_add)
def pX2_copyFrom : List (Nat × hd_O) := [
  (0, (.aload_n 0, 1, 0, 0, 0, 0, [], [])),
  (1, (.aload_n 1, 2, 1, 0, 0, 0, [], [])),
  (2, (.getfield 18, 5, 2, 2, 0, 0, [], [158])),
  (5, (.putfield 18, 8, 2, 2, 0, 0, [], [158])),
  (8, (.aload_n 1, 9, 1, 0, 0, 0, [], [])),
  (9, (.getfield 9, 12, 2, 0, 0, 0, [], [154])),
  (12, (.iconst 0, 13, 0, 0, 0, 0, [], [])),
  (13, (.aload_n 0, 14, 0, 0, 0, 0, [], [])),
  (14, (.getfield 9, 17, 2, 0, 0, 0, [], [154])),
  (17, (.iconst 0, 18, 0, 0, 0, 0, [], [])),
  (18, (.aload_n 0, 19, 0, 0, 0, 0, [], [])),
  (19, (.getfield 18, 22, 2, 2, 0, 0, [], [158])),
  (22, (.invokestatic 22, 25, 9003, 0, 0, 0, [], [604, 88, 756, 603])),
  (25, (.aload_n 1, 26, 1, 0, 0, 0, [], [])),
  (26, (.getfield 15, 29, 2, 1, 0, 0, [], [156])),
  (29, (.iconst 0, 30, 0, 0, 0, 0, [], [])),
  (30, (.aload_n 0, 31, 0, 0, 0, 0, [], [])),
  (31, (.getfield 15, 34, 2, 1, 0, 0, [], [156])),
  (34, (.iconst 0, 35, 0, 0, 0, 0, [], [])),
  (35, (.aload_n 0, 36, 0, 0, 0, 0, [], [])),
  (36, (.getfield 18, 39, 2, 2, 0, 0, [], [158])),
  (39, (.invokestatic 22, 42, 9003, 0, 0, 0, [], [604, 88, 756, 603])),
  (42, (.return_, 43, 0, 0, 0, 0, [], []))]
def mX2_copyFrom : hd_I := (RX2, yX2_copyFrom, cX2_copyFrom, 2, none, 1, pX2_copyFrom)
def pX3_renew : List (Nat × hd_O) := [
  (0, (.aload_n 0, 1, 0, 0, 0, 0, [], [])),
  (1, (.iload_n 1, 2, 1, 0, 0, 0, [], [])),
  (2, (.putfield 15, 5, 3, 1, 0, 0, [], [241])),
  (5, (.aload_n 0, 6, 0, 0, 0, 0, [], [])),
  (6, (.iload_n 2, 7, 2, 0, 0, 0, [], [])),
  (7, (.putfield 19, 10, 3, 2, 0, 0, [], [242])),
  (10, (.iconst 0, 11, 0, 0, 0, 0, [], [])),
  (11, (.istore_n 3, 12, 3, 0, 0, 0, [], [])),
  (12, (.iload_n 3, 13, 3, 0, 0, 0, [], [])),
  (13, (.iload_n 2, 14, 2, 0, 0, 0, [], [])),
  (14, (.if_icmp .ge 22, 17, 36, 0, 0, 0, [], [])),
  (17, (.iload_n 3, 18, 3, 0, 0, 0, [], [])),
  (18, (.bipush 40, 20, 0, 0, 40, 0, [], [])),
  (20, (.if_icmp .ge 16, 23, 36, 0, 0, 0, [], [])),
  (23, (.aload_n 0, 24, 0, 0, 0, 0, [], [])),
  (24, (.getfield 9, 27, 3, 0, 0, 0, [], [239])),
  (27, (.iload_n 3, 28, 3, 0, 0, 0, [], [])),
  (28, (.iconst 0, 29, 0, 0, 0, 0, [], [])),
  (29, (.iastore, 30, 0, 0, 0, 0, [], [])),
  (30, (.iinc 3 1, 33, 3, 0, 1, 0, [], [])),
  (33, (.goto (-21), 36, 12, 0, 0, 0, [], [])),
  (36, (.return_, 37, 0, 0, 0, 0, [], []))]
def mX3_renew : hd_I := (RX3, yX3_renew, cX3_renew, 4, none, 1, pX3_renew)
def pX3_faultAt : List (Nat × hd_O) := [
  (0, (.aload_n 0, 1, 0, 0, 0, 0, [], [])),
  (1, (.getfield 19, 4, 3, 2, 0, 0, [], [242])),
  (4, (.ifCond .ge 5, 7, 9, 0, 0, 0, [], [])),
  (7, (.iconst 1, 8, 0, 0, 1, 0, [], [])),
  (8, (.ireturn, 9, 0, 0, 0, 0, [], [])),
  (9, (.iload_n 1, 10, 1, 0, 0, 0, [], [])),
  (10, (.ifCond .lt 15, 13, 25, 0, 0, 0, [], [])),
  (13, (.iload_n 1, 14, 1, 0, 0, 0, [], [])),
  (14, (.aload_n 0, 15, 0, 0, 0, 0, [], [])),
  (15, (.getfield 19, 18, 3, 2, 0, 0, [], [242])),
  (18, (.if_icmp .ge 7, 21, 25, 0, 0, 0, [], [])),
  (21, (.iconst 0, 22, 0, 0, 0, 0, [], [])),
  (22, (.goto 4, 25, 26, 0, 0, 0, [], [])),
  (25, (.iconst 2, 26, 0, 0, 2, 0, [], [])),
  (26, (.ireturn, 27, 0, 0, 0, 0, [], []))]
def mX3_faultAt : hd_I := (RX3, yX3_faultAt, cX3_faultAt, 2, (some .int), 1, pX3_faultAt)
def pX3_faultOfThree : List (Nat × hd_O) := [
  (0, (.aload_n 0, 1, 0, 0, 0, 0, [], [])),
  (1, (.getfield 19, 4, 3, 2, 0, 0, [], [242])),
  (4, (.ifCond .ge 5, 7, 9, 0, 0, 0, [], [])),
  (7, (.iconst 1, 8, 0, 0, 1, 0, [], [])),
  (8, (.ireturn, 9, 0, 0, 0, 0, [], [])),
  (9, (.aload_n 0, 10, 0, 0, 0, 0, [], [])),
  (10, (.getfield 15, 13, 3, 1, 0, 0, [], [241])),
  (13, (.iload_n 1, 14, 1, 0, 0, 0, [], [])),
  (14, (.if_icmp .eq 5, 17, 19, 0, 0, 0, [], [])),
  (17, (.iconst 3, 18, 0, 0, 3, 0, [], [])),
  (18, (.ireturn, 19, 0, 0, 0, 0, [], [])),
  (19, (.iload_n 2, 20, 2, 0, 0, 0, [], [])),
  (20, (.ifCond .lt 29, 23, 49, 0, 0, 0, [], [])),
  (23, (.iload_n 2, 24, 2, 0, 0, 0, [], [])),
  (24, (.aload_n 0, 25, 0, 0, 0, 0, [], [])),
  (25, (.getfield 19, 28, 3, 2, 0, 0, [], [242])),
  (28, (.if_icmp .ge 21, 31, 49, 0, 0, 0, [], [])),
  (31, (.iload_n 2, 32, 2, 0, 0, 0, [], [])),
  (32, (.iconst 3, 33, 0, 0, 3, 0, [], [])),
  (33, (.iload_n 3, 34, 3, 0, 0, 0, [], [])),
  (34, (.imul, 35, 0, 0, 0, 0, [], [])),
  (35, (.iadd, 36, 0, 0, 0, 0, [], [])),
  (36, (.iconst 2, 37, 0, 0, 2, 0, [], [])),
  (37, (.iadd, 38, 0, 0, 0, 0, [], [])),
  (38, (.aload_n 0, 39, 0, 0, 0, 0, [], [])),
  (39, (.getfield 19, 42, 3, 2, 0, 0, [], [242])),
  (42, (.if_icmp .ge 7, 45, 49, 0, 0, 0, [], [])),
  (45, (.iconst 1, 46, 0, 0, 1, 0, [], [])),
  (46, (.goto 4, 49, 50, 0, 0, 0, [], [])),
  (49, (.iconst 0, 50, 0, 0, 0, 0, [], [])),
  (50, (.istore 4, 52, 4, 0, 0, 0, [], [])),
  (52, (.iload 4, 54, 4, 0, 0, 0, [], [])),
  (54, (.ifCond .eq 7, 57, 61, 0, 0, 0, [], [])),
  (57, (.iconst 0, 58, 0, 0, 0, 0, [], [])),
  (58, (.goto 4, 61, 62, 0, 0, 0, [], [])),
  (61, (.iconst 2, 62, 0, 0, 2, 0, [], [])),
  (62, (.ireturn, 63, 0, 0, 0, 0, [], []))]
def mX3_faultOfThree : hd_I := (RX3, yX3_faultOfThree, cX3_faultOfThree, 5, (some .int), 1, pX3_faultOfThree)
def pX3_put : List (Nat × hd_O) := [
  (0, (.aload_n 0, 1, 0, 0, 0, 0, [], [])),
  (1, (.getfield 9, 4, 3, 0, 0, 0, [], [239])),
  (4, (.iload_n 1, 5, 1, 0, 0, 0, [], [])),
  (5, (.aload_n 0, 6, 0, 0, 0, 0, [], [])),
  (6, (.getfield 15, 9, 3, 1, 0, 0, [], [241])),
  (9, (.ifCond .ne 8, 12, 17, 0, 0, 0, [], [])),
  (12, (.iload_n 2, 13, 2, 0, 0, 0, [], [])),
  (13, (.i2b, 14, 0, 0, 0, 0, [], [])),
  (14, (.goto 17, 17, 31, 0, 0, 0, [], [])),
  (17, (.aload_n 0, 18, 0, 0, 0, 0, [], [])),
  (18, (.getfield 15, 21, 3, 1, 0, 0, [], [241])),
  (21, (.iconst 1, 22, 0, 0, 1, 0, [], [])),
  (22, (.if_icmp .ne 8, 25, 30, 0, 0, 0, [], [])),
  (25, (.iload_n 2, 26, 2, 0, 0, 0, [], [])),
  (26, (.i2s, 27, 0, 0, 0, 0, [], [])),
  (27, (.goto 4, 30, 31, 0, 0, 0, [], [])),
  (30, (.iload_n 2, 31, 2, 0, 0, 0, [], [])),
  (31, (.iastore, 32, 0, 0, 0, 0, [], [])),
  (32, (.return_, 33, 0, 0, 0, 0, [], []))]
def mX3_put : hd_I := (RX3, yX3_put, cX3_put, 3, none, 1, pX3_put)
end
section
/-! printed by wip/whole/gen.py: the instructions of the methods, resolved -/
def pX4_append : List (Nat × hd_O) := [
  (0, (.aload_n 0, 1, 0, 0, 0, 0, [], [])),
  (1, (.getfield 15, 4, 4, 1, 0, 0, [], [174])),
  (4, (.sipush 160, 7, 0, 0, 160, 0, [], [])),
  (7, (.if_icmp .lt 5, 10, 12, 0, 0, 0, [], [])),
  (10, (.iconst 0, 11, 0, 0, 0, 0, [], [])),
  (11, (.ireturn, 12, 0, 0, 0, 0, [], [])),
  (12, (.aload_n 0, 13, 0, 0, 0, 0, [], [])),
  (13, (.getfield 9, 16, 4, 0, 0, 0, [], [173])),
  (16, (.aload_n 0, 17, 0, 0, 0, 0, [], [])),
  (17, (.getfield 15, 20, 4, 1, 0, 0, [], [174])),
  (20, (.iload_n 1, 21, 1, 0, 0, 0, [], [])),
  (21, (.i2b, 22, 0, 0, 0, 0, [], [])),
  (22, (.bastore, 23, 0, 0, 0, 0, [], [])),
  (23, (.aload_n 0, 24, 0, 0, 0, 0, [], [])),
  (24, (.dup, 25, 0, 0, 0, 0, [], [])),
  (25, (.getfield 15, 28, 4, 1, 0, 0, [], [174])),
  (28, (.iconst 1, 29, 0, 0, 1, 0, [], [])),
  (29, (.iadd, 30, 0, 0, 0, 0, [], [])),
  (30, (.putfield 15, 33, 4, 1, 0, 0, [], [174])),
  (33, (.iconst 1, 34, 0, 0, 1, 0, [], [])),
  (34, (.ireturn, 35, 0, 0, 0, 0, [], []))]
def mX4_append : hd_I := (RX4, yX4_append, cX4_append, 2, (some .boolean), 1, pX4_append)
def pX4_tell : List (Nat × hd_O) := [
  (0, (.aload_n 1, 1, 1, 0, 0, 0, [], [])),
  (1, (.invokevirtual 44, 4, 0, 1, 0, 0, [], [308, 77, 305, 306, 307, 0])),
  (4, (.aload_n 0, 5, 0, 0, 0, 0, [], [])),
  (5, (.iconst 0, 6, 0, 0, 0, 0, [], [])),
  (6, (.putfield 19, 9, 4, 2, 0, 0, [], [176])),
  (9, (.aload_n 0, 10, 0, 0, 0, 0, [], [])),
  (10, (.iconst 0, 11, 0, 0, 0, 0, [], [])),
  (11, (.putfield 25, 14, 4, 4, 0, 0, [], [180])),
  (14, (.aload_n 0, 15, 0, 0, 0, 0, [], [])),
  (15, (.iconst 0, 16, 0, 0, 0, 0, [], [])),
  (16, (.putfield 37, 19, 4, 8, 1, 0, [], [184])),
  (19, (.aload_n 0, 20, 0, 0, 0, 0, [], [])),
  (20, (.iconst 0, 21, 0, 0, 0, 0, [], [])),
  (21, (.putfield 41, 24, 4, 9, 1, 0, [], [185])),
  (24, (.iconst 0, 25, 0, 0, 0, 0, [], [])),
  (25, (.istore_n 2, 26, 2, 0, 0, 0, [], [])),
  (26, (.iload_n 2, 27, 2, 0, 0, 0, [], [])),
  (27, (.sipush 160, 30, 0, 0, 160, 0, [], [])),
  (30, (.if_icmp .gt 31, 33, 61, 0, 0, 0, [], [])),
  (33, (.aload_n 0, 34, 0, 0, 0, 0, [], [])),
  (34, (.invokevirtual 49, 37, 43, 1, 0, 0, [], [312, 79, 309, 311, 0, 4])),
  (37, (.ifCond .eq 24, 40, 61, 0, 0, 0, [], [])),
  (40, (.aload_n 0, 41, 0, 0, 0, 0, [], [])),
  (41, (.getfield 31, 44, 4, 6, 0, 0, [], [182])),
  (44, (.ifCond .eq 17, 47, 61, 0, 0, 0, [], [])),
  (47, (.aload_n 0, 48, 0, 0, 0, 0, [], [])),
  (48, (.aload_n 1, 49, 1, 0, 0, 0, [], [])),
  (49, (.invokevirtual 53, 52, 37, 2, 0, 0, [], [328, 79, 325, 327, 4, 4])),
  (52, (.ifCond .eq 9, 55, 61, 0, 0, 0, [], [])),
  (55, (.iinc 2 1, 58, 2, 0, 1, 0, [], [])),
  (58, (.goto (-32), 61, 26, 0, 0, 0, [], [])),
  (61, (.iload_n 2, 62, 2, 0, 0, 0, [], [])),
  (62, (.ireturn, 63, 0, 0, 0, 0, [], []))]
def mX4_tell : hd_I := (RX4, yX4_tell, cX4_tell, 3, (some .int), 8, pX4_tell)
def pX4_refuse : List (Nat × hd_O) := [
  (0, (.aload_n 0, 1, 0, 0, 0, 0, [], [])),
  (1, (.iload_n 1, 2, 1, 0, 0, 0, [], [])),
  (2, (.putfield 19, 5, 4, 2, 0, 0, [], [176])),
  (5, (.aload_n 0, 6, 0, 0, 0, 0, [], [])),
  (6, (.aload_n 0, 7, 0, 0, 0, 0, [], [])),
  (7, (.getfield 28, 10, 4, 5, 0, 0, [], [181])),
  (10, (.putfield 22, 13, 4, 3, 0, 0, [], [178])),
  (13, (.iconst 0, 14, 0, 0, 0, 0, [], [])),
  (14, (.ireturn, 15, 0, 0, 0, 0, [], []))]
def mX4_refuse : hd_I := (RX4, yX4_refuse, cX4_refuse, 2, (some .boolean), 1, pX4_refuse)
def pX4_takeLine : List (Nat × hd_O) := [
  (0, (.aload_n 0, 1, 0, 0, 0, 0, [], [])),
  (1, (.getfield 31, 4, 4, 6, 0, 0, [], [182])),
  (4, (.iconst 1, 5, 0, 0, 1, 0, [], [])),
  (5, (.if_icmp .ne 10, 8, 15, 0, 0, 0, [], [])),
  (8, (.aload_n 0, 9, 0, 0, 0, 0, [], [])),
  (9, (.invokevirtual 57, 12, 46, 1, 0, 0, [], [332, 79, 329, 331, 5, 4])),
  (12, (.goto 4, 15, 16, 0, 0, 0, [], [])),
  (15, (.iconst (-1), 16, 0, 0, (-1), 0, [], [])),
  (16, (.istore_n 2, 17, 2, 0, 0, 0, [], [])),
  (17, (.iload_n 2, 18, 2, 0, 0, 0, [], [])),
  (18, (.lookupswitch 52 #[(-1, 34), (4, 40), (5, 46)], 52, 70, 0, 0, 0, [((-1), 52), (4, 58), (5, 64)], [])),
  (52, (.aload_n 0, 53, 0, 0, 0, 0, [], [])),
  (53, (.iconst 2, 54, 0, 0, 2, 0, [], [])),
  (54, (.invokevirtual 61, 57, 36, 2, 0, 0, [], [320, 79, 317, 319, 2, 4])),
  (57, (.ireturn, 58, 0, 0, 0, 0, [], [])),
  (58, (.aload_n 0, 59, 0, 0, 0, 0, [], [])),
  (59, (.aload_n 1, 60, 1, 0, 0, 0, [], [])),
  (60, (.invokevirtual 65, 63, 38, 2, 0, 0, [], [394, 79, 391, 393, 7, 4])),
  (63, (.ireturn, 64, 0, 0, 0, 0, [], [])),
  (64, (.aload_n 0, 65, 0, 0, 0, 0, [], [])),
  (65, (.aload_n 1, 66, 1, 0, 0, 0, [], [])),
  (66, (.invokevirtual 68, 69, 39, 2, 0, 0, [], [407, 79, 404, 406, 10, 4])),
  (69, (.ireturn, 70, 0, 0, 0, 0, [], [])),
  (70, (.aload_n 0, 71, 0, 0, 0, 0, [], [])),
  (71, (.aload_n 1, 72, 1, 0, 0, 0, [], [])),
  (72, (.iload_n 2, 73, 2, 0, 0, 0, [], [])),
  (73, (.invokevirtual 71, 76, 40, 3, 0, 0, [], [411, 79, 408, 410, 11, 4])),
  (76, (.ireturn, 77, 0, 0, 0, 0, [], []))]
def mX4_takeLine : hd_I := (RX4, yX4_takeLine, cX4_takeLine, 3, (some .boolean), 7, pX4_takeLine)
def pX4_takeMood : List (Nat × hd_O) := [
  (0, (.aload_n 0, 1, 0, 0, 0, 0, [], [])),
  (1, (.getfield 37, 4, 4, 8, 0, 0, [], [184])),
  (4, (.ifCond .eq 9, 7, 13, 0, 0, 0, [], [])),
  (7, (.aload_n 0, 8, 0, 0, 0, 0, [], [])),
  (8, (.iconst 4, 9, 0, 0, 4, 0, [], [])),
  (9, (.invokevirtual 61, 12, 36, 2, 0, 0, [], [320, 79, 317, 319, 2, 4])),
  (12, (.ireturn, 13, 0, 0, 0, 0, [], [])),
  (13, (.aload_n 0, 14, 0, 0, 0, 0, [], [])),
  (14, (.iconst 1, 15, 0, 0, 1, 0, [], [])),
  (15, (.putfield 37, 18, 4, 8, 1, 0, [], [184])),
  (18, (.aload_n 0, 19, 0, 0, 0, 0, [], [])),
  (19, (.iconst 0, 20, 0, 0, 0, 0, [], [])),
  (20, (.bipush 99, 22, 0, 0, 99, 0, [], [])),
  (22, (.invokevirtual 75, 25, 41, 3, 0, 0, [], [398, 79, 395, 397, 8, 4])),
  (25, (.ifCond .ne 5, 28, 30, 0, 0, 0, [], [])),
  (28, (.iconst 0, 29, 0, 0, 0, 0, [], [])),
  (29, (.ireturn, 30, 0, 0, 0, 0, [], [])),
  (30, (.aload_n 1, 31, 1, 0, 0, 0, [], [])),
  (31, (.aload_n 0, 32, 0, 0, 0, 0, [], [])),
  (32, (.getfield 34, 35, 4, 7, 0, 0, [], [183])),
  (35, (.putfield 79, 38, 0, 7, 0, 0, [], [119])),
  (38, (.aload_n 0, 39, 0, 0, 0, 0, [], [])),
  (39, (.invokevirtual 82, 42, 42, 1, 0, 0, [], [403, 79, 400, 402, 9, 4])),
  (42, (.ireturn, 43, 0, 0, 0, 0, [], []))]
def mX4_takeMood : hd_I := (RX4, yX4_takeMood, cX4_takeMood, 2, (some .boolean), 5, pX4_takeMood)
def pX4_takeTire : List (Nat × hd_O) := [
  (0, (.aload_n 0, 1, 0, 0, 0, 0, [], [])),
  (1, (.getfield 41, 4, 4, 9, 0, 0, [], [185])),
  (4, (.ifCond .eq 9, 7, 13, 0, 0, 0, [], [])),
  (7, (.aload_n 0, 8, 0, 0, 0, 0, [], [])),
  (8, (.iconst 4, 9, 0, 0, 4, 0, [], [])),
  (9, (.invokevirtual 61, 12, 36, 2, 0, 0, [], [320, 79, 317, 319, 2, 4])),
  (12, (.ireturn, 13, 0, 0, 0, 0, [], [])),
  (13, (.aload_n 0, 14, 0, 0, 0, 0, [], [])),
  (14, (.iconst 1, 15, 0, 0, 1, 0, [], [])),
  (15, (.putfield 41, 18, 4, 9, 1, 0, [], [185])),
  (18, (.aload_n 0, 19, 0, 0, 0, 0, [], [])),
  (19, (.iconst 0, 20, 0, 0, 0, 0, [], [])),
  (20, (.bipush 9, 22, 0, 0, 9, 0, [], [])),
  (22, (.invokevirtual 75, 25, 41, 3, 0, 0, [], [398, 79, 395, 397, 8, 4])),
  (25, (.ifCond .ne 5, 28, 30, 0, 0, 0, [], [])),
  (28, (.iconst 0, 29, 0, 0, 0, 0, [], [])),
  (29, (.ireturn, 30, 0, 0, 0, 0, [], [])),
  (30, (.aload_n 1, 31, 1, 0, 0, 0, [], [])),
  (31, (.aload_n 0, 32, 0, 0, 0, 0, [], [])),
  (32, (.getfield 34, 35, 4, 7, 0, 0, [], [183])),
  (35, (.putfield 85, 38, 0, 8, 0, 0, [], [123])),
  (38, (.aload_n 0, 39, 0, 0, 0, 0, [], [])),
  (39, (.invokevirtual 82, 42, 42, 1, 0, 0, [], [403, 79, 400, 402, 9, 4])),
  (42, (.ireturn, 43, 0, 0, 0, 0, [], []))]
def mX4_takeTire : hd_I := (RX4, yX4_takeTire, cX4_takeTire, 2, (some .boolean), 5, pX4_takeTire)
def pX4_takeThing : List (Nat × hd_O) := [
  (0, (.aload_n 1, 1, 1, 0, 0, 0, [], [])),
  (1, (.getfield 88, 4, 0, 5, 0, 0, [], [115])),
  (4, (.bipush 7, 6, 0, 0, 7, 0, [], [])),
  (6, (.if_icmp .lt 9, 9, 15, 0, 0, 0, [], [])),
  (9, (.aload_n 0, 10, 0, 0, 0, 0, [], [])),
  (10, (.iconst 5, 11, 0, 0, 5, 0, [], [])),
  (11, (.invokevirtual 61, 14, 36, 2, 0, 0, [], [320, 79, 317, 319, 2, 4])),
  (14, (.ireturn, 15, 0, 0, 0, 0, [], [])),
  (15, (.aload_n 0, 16, 0, 0, 0, 0, [], [])),
  (16, (.iconst 0, 17, 0, 0, 0, 0, [], [])),
  (17, (.bipush 9, 19, 0, 0, 9, 0, [], [])),
  (19, (.invokevirtual 75, 22, 41, 3, 0, 0, [], [398, 79, 395, 397, 8, 4])),
  (22, (.ifCond .ne 5, 25, 27, 0, 0, 0, [], [])),
  (25, (.iconst 0, 26, 0, 0, 0, 0, [], [])),
  (26, (.ireturn, 27, 0, 0, 0, 0, [], [])),
  (27, (.aload_n 0, 28, 0, 0, 0, 0, [], [])),
  (28, (.getfield 34, 31, 4, 7, 0, 0, [], [183])),
  (31, (.istore_n 3, 32, 3, 0, 0, 0, [], [])),
  (32, (.aload_n 0, 33, 0, 0, 0, 0, [], [])),
  (33, (.iconst 1, 34, 0, 0, 1, 0, [], [])),
  (34, (.bipush 9, 36, 0, 0, 9, 0, [], [])),
  (36, (.invokevirtual 75, 39, 41, 3, 0, 0, [], [398, 79, 395, 397, 8, 4])),
  (39, (.ifCond .eq 27, 42, 66, 0, 0, 0, [], [])),
  (42, (.aload_n 0, 43, 0, 0, 0, 0, [], [])),
  (43, (.invokevirtual 82, 46, 42, 1, 0, 0, [], [403, 79, 400, 402, 9, 4])),
  (46, (.ifCond .eq 20, 49, 66, 0, 0, 0, [], [])),
  (49, (.aload_n 1, 50, 1, 0, 0, 0, [], [])),
  (50, (.iload_n 2, 51, 2, 0, 0, 0, [], [])),
  (51, (.iload_n 3, 52, 3, 0, 0, 0, [], [])),
  (52, (.aload_n 0, 53, 0, 0, 0, 0, [], [])),
  (53, (.getfield 34, 56, 4, 7, 0, 0, [], [183])),
  (56, (.invokevirtual 91, 59, 7, 4, 0, 0, [], [415, 77, 412, 413, 414, 0])),
  (59, (.ifCond .eq 7, 62, 66, 0, 0, 0, [], [])),
  (62, (.iconst 1, 63, 0, 0, 1, 0, [], [])),
  (63, (.goto 4, 66, 67, 0, 0, 0, [], [])),
  (66, (.iconst 0, 67, 0, 0, 0, 0, [], [])),
  (67, (.ireturn, 68, 0, 0, 0, 0, [], []))]
def mX4_takeThing : hd_I := (RX4, yX4_takeThing, cX4_takeThing, 4, (some .boolean), 5, pX4_takeThing)
def pX4_takeNumber : List (Nat × hd_O) := [
  (0, (.aload_n 0, 1, 0, 0, 0, 0, [], [])),
  (1, (.invokevirtual 49, 4, 43, 1, 0, 0, [], [312, 79, 309, 311, 0, 4])),
  (4, (.ifCond .ne 5, 7, 9, 0, 0, 0, [], [])),
  (7, (.iconst 0, 8, 0, 0, 0, 0, [], [])),
  (8, (.ireturn, 9, 0, 0, 0, 0, [], [])),
  (9, (.aload_n 0, 10, 0, 0, 0, 0, [], [])),
  (10, (.getfield 31, 13, 4, 6, 0, 0, [], [182])),
  (13, (.iconst 2, 14, 0, 0, 2, 0, [], [])),
  (14, (.if_icmp .eq 9, 17, 23, 0, 0, 0, [], [])),
  (17, (.aload_n 0, 18, 0, 0, 0, 0, [], [])),
  (18, (.iconst 2, 19, 0, 0, 2, 0, [], [])),
  (19, (.invokevirtual 61, 22, 36, 2, 0, 0, [], [320, 79, 317, 319, 2, 4])),
  (22, (.ireturn, 23, 0, 0, 0, 0, [], [])),
  (23, (.aload_n 0, 24, 0, 0, 0, 0, [], [])),
  (24, (.getfield 34, 27, 4, 7, 0, 0, [], [183])),
  (27, (.iload_n 1, 28, 1, 0, 0, 0, [], [])),
  (28, (.iload_n 2, 29, 2, 0, 0, 0, [], [])),
  (29, (.invokestatic 95, 32, 86, 3, 1, 0, [], [288, 76, 399, 287])),
  (32, (.ifCond .ne 11, 35, 43, 0, 0, 0, [], [])),
  (35, (.aload_n 0, 36, 0, 0, 0, 0, [], [])),
  (36, (.iconst 3, 37, 0, 0, 3, 0, [], [])),
  (37, (.invokevirtual 61, 40, 36, 2, 0, 0, [], [320, 79, 317, 319, 2, 4])),
  (40, (.ifCond .eq 7, 43, 47, 0, 0, 0, [], [])),
  (43, (.iconst 1, 44, 0, 0, 1, 0, [], [])),
  (44, (.goto 4, 47, 48, 0, 0, 0, [], [])),
  (47, (.iconst 0, 48, 0, 0, 0, 0, [], [])),
  (48, (.ireturn, 49, 0, 0, 0, 0, [], []))]
def mX4_takeNumber : hd_I := (RX4, yX4_takeNumber, cX4_takeNumber, 3, (some .boolean), 4, pX4_takeNumber)
def pX4_takeStop : List (Nat × hd_O) := [
  (0, (.aload_n 0, 1, 0, 0, 0, 0, [], [])),
  (1, (.invokevirtual 49, 4, 43, 1, 0, 0, [], [312, 79, 309, 311, 0, 4])),
  (4, (.ifCond .eq 23, 7, 27, 0, 0, 0, [], [])),
  (7, (.aload_n 0, 8, 0, 0, 0, 0, [], [])),
  (8, (.getfield 31, 11, 4, 6, 0, 0, [], [182])),
  (11, (.iconst 3, 12, 0, 0, 3, 0, [], [])),
  (12, (.if_icmp .eq 11, 15, 23, 0, 0, 0, [], [])),
  (15, (.aload_n 0, 16, 0, 0, 0, 0, [], [])),
  (16, (.iconst 2, 17, 0, 0, 2, 0, [], [])),
  (17, (.invokevirtual 61, 20, 36, 2, 0, 0, [], [320, 79, 317, 319, 2, 4])),
  (20, (.ifCond .eq 7, 23, 27, 0, 0, 0, [], [])),
  (23, (.iconst 1, 24, 0, 0, 1, 0, [], [])),
  (24, (.goto 4, 27, 28, 0, 0, 0, [], [])),
  (27, (.iconst 0, 28, 0, 0, 0, 0, [], [])),
  (28, (.ireturn, 29, 0, 0, 0, 0, [], []))]
def mX4_takeStop : hd_I := (RX4, yX4_takeStop, cX4_takeStop, 1, (some .boolean), 4, pX4_takeStop)
def pX4_takeToken : List (Nat × hd_O) := [
  (0, (.aload_n 0, 1, 0, 0, 0, 0, [], [])),
  (1, (.getfield 25, 4, 4, 4, 0, 0, [], [180])),
  (4, (.aload_n 0, 5, 0, 0, 0, 0, [], [])),
  (5, (.getfield 15, 8, 4, 1, 0, 0, [], [174])),
  (8, (.if_icmp .ge 28, 11, 36, 0, 0, 0, [], [])),
  (11, (.aload_n 0, 12, 0, 0, 0, 0, [], [])),
  (12, (.aload_n 0, 13, 0, 0, 0, 0, [], [])),
  (13, (.getfield 25, 16, 4, 4, 0, 0, [], [180])),
  (16, (.invokevirtual 98, 19, 45, 2, 0, 0, [], [316, 79, 313, 315, 1, 4])),
  (19, (.iconst 4, 20, 0, 0, 4, 0, [], [])),
  (20, (.if_icmp .ne 16, 23, 36, 0, 0, 0, [], [])),
  (23, (.aload_n 0, 24, 0, 0, 0, 0, [], [])),
  (24, (.dup, 25, 0, 0, 0, 0, [], [])),
  (25, (.getfield 25, 28, 4, 4, 0, 0, [], [180])),
  (28, (.iconst 1, 29, 0, 0, 1, 0, [], [])),
  (29, (.iadd, 30, 0, 0, 0, 0, [], [])),
  (30, (.putfield 25, 33, 4, 4, 0, 0, [], [180])),
  (33, (.goto (-33), 36, 0, 0, 0, 0, [], [])),
  (36, (.aload_n 0, 37, 0, 0, 0, 0, [], [])),
  (37, (.aload_n 0, 38, 0, 0, 0, 0, [], [])),
  (38, (.getfield 25, 41, 4, 4, 0, 0, [], [180])),
  (41, (.putfield 28, 44, 4, 5, 0, 0, [], [181])),
  (44, (.aload_n 0, 45, 0, 0, 0, 0, [], [])),
  (45, (.aload_n 0, 46, 0, 0, 0, 0, [], [])),
  (46, (.aload_n 0, 47, 0, 0, 0, 0, [], [])),
  (47, (.getfield 25, 50, 4, 4, 0, 0, [], [180])),
  (50, (.invokevirtual 98, 53, 45, 2, 0, 0, [], [316, 79, 313, 315, 1, 4])),
  (53, (.putfield 31, 56, 4, 6, 0, 0, [], [182])),
  (56, (.aload_n 0, 57, 0, 0, 0, 0, [], [])),
  (57, (.getfield 31, 60, 4, 6, 0, 0, [], [182])),
  (60, (.iconst 5, 61, 0, 0, 5, 0, [], [])),
  (61, (.if_icmp .ne 9, 64, 70, 0, 0, 0, [], [])),
  (64, (.aload_n 0, 65, 0, 0, 0, 0, [], [])),
  (65, (.iconst 1, 66, 0, 0, 1, 0, [], [])),
  (66, (.invokevirtual 61, 69, 36, 2, 0, 0, [], [320, 79, 317, 319, 2, 4])),
  (69, (.ireturn, 70, 0, 0, 0, 0, [], [])),
  (70, (.aload_n 0, 71, 0, 0, 0, 0, [], [])),
  (71, (.getfield 31, 74, 4, 6, 0, 0, [], [182])),
  (74, (.iconst 3, 75, 0, 0, 3, 0, [], [])),
  (75, (.if_icmp .ne 15, 78, 90, 0, 0, 0, [], [])),
  (78, (.aload_n 0, 79, 0, 0, 0, 0, [], [])),
  (79, (.dup, 80, 0, 0, 0, 0, [], [])),
  (80, (.getfield 25, 83, 4, 4, 0, 0, [], [180])),
  (83, (.iconst 1, 84, 0, 0, 1, 0, [], [])),
  (84, (.iadd, 85, 0, 0, 0, 0, [], [])),
  (85, (.putfield 25, 88, 4, 4, 0, 0, [], [180])),
  (88, (.iconst 1, 89, 0, 0, 1, 0, [], [])),
  (89, (.ireturn, 90, 0, 0, 0, 0, [], [])),
  (90, (.aload_n 0, 91, 0, 0, 0, 0, [], [])),
  (91, (.getfield 25, 94, 4, 4, 0, 0, [], [180])),
  (94, (.aload_n 0, 95, 0, 0, 0, 0, [], [])),
  (95, (.getfield 15, 98, 4, 1, 0, 0, [], [174])),
  (98, (.if_icmp .ge 31, 101, 129, 0, 0, 0, [], [])),
  (101, (.aload_n 0, 102, 0, 0, 0, 0, [], [])),
  (102, (.aload_n 0, 103, 0, 0, 0, 0, [], [])),
  (103, (.getfield 25, 106, 4, 4, 0, 0, [], [180])),
  (106, (.invokevirtual 98, 109, 45, 2, 0, 0, [], [316, 79, 313, 315, 1, 4])),
  (109, (.aload_n 0, 110, 0, 0, 0, 0, [], [])),
  (110, (.getfield 31, 113, 4, 6, 0, 0, [], [182])),
  (113, (.if_icmp .ne 16, 116, 129, 0, 0, 0, [], [])),
  (116, (.aload_n 0, 117, 0, 0, 0, 0, [], [])),
  (117, (.dup, 118, 0, 0, 0, 0, [], [])),
  (118, (.getfield 25, 121, 4, 4, 0, 0, [], [180])),
  (121, (.iconst 1, 122, 0, 0, 1, 0, [], [])),
  (122, (.iadd, 123, 0, 0, 0, 0, [], [])),
  (123, (.putfield 25, 126, 4, 4, 0, 0, [], [180])),
  (126, (.goto (-36), 129, 90, 0, 0, 0, [], [])),
  (129, (.aload_n 0, 130, 0, 0, 0, 0, [], [])),
  (130, (.getfield 31, 133, 4, 6, 0, 0, [], [182])),
  (133, (.iconst 2, 134, 0, 0, 2, 0, [], [])),
  (134, (.if_icmp .ne 10, 137, 144, 0, 0, 0, [], [])),
  (137, (.aload_n 0, 138, 0, 0, 0, 0, [], [])),
  (138, (.invokevirtual 102, 141, 44, 1, 0, 0, [], [324, 79, 321, 323, 3, 4])),
  (141, (.ifCond .eq 7, 144, 148, 0, 0, 0, [], [])),
  (144, (.iconst 1, 145, 0, 0, 1, 0, [], [])),
  (145, (.goto 4, 148, 149, 0, 0, 0, [], [])),
  (148, (.iconst 0, 149, 0, 0, 0, 0, [], [])),
  (149, (.ireturn, 150, 0, 0, 0, 0, [], []))]
def mX4_takeToken : hd_I := (RX4, yX4_takeToken, cX4_takeToken, 1, (some .boolean), 3, pX4_takeToken)
def pX4_tellNumber : List (Nat × hd_O) := [
  (0, (.aload_n 0, 1, 0, 0, 0, 0, [], [])),
  (1, (.getfield 25, 4, 4, 4, 0, 0, [], [180])),
  (4, (.aload_n 0, 5, 0, 0, 0, 0, [], [])),
  (5, (.getfield 28, 8, 4, 5, 0, 0, [], [181])),
  (8, (.isub, 9, 0, 0, 0, 0, [], [])),
  (9, (.iconst 2, 10, 0, 0, 2, 0, [], [])),
  (10, (.if_icmp .le 9, 13, 19, 0, 0, 0, [], [])),
  (13, (.aload_n 0, 14, 0, 0, 0, 0, [], [])),
  (14, (.iconst 1, 15, 0, 0, 1, 0, [], [])),
  (15, (.invokevirtual 61, 18, 36, 2, 0, 0, [], [320, 79, 317, 319, 2, 4])),
  (18, (.ireturn, 19, 0, 0, 0, 0, [], [])),
  (19, (.aload_n 0, 20, 0, 0, 0, 0, [], [])),
  (20, (.iconst 0, 21, 0, 0, 0, 0, [], [])),
  (21, (.putfield 34, 24, 4, 7, 0, 0, [], [183])),
  (24, (.aload_n 0, 25, 0, 0, 0, 0, [], [])),
  (25, (.getfield 28, 28, 4, 5, 0, 0, [], [181])),
  (28, (.istore_n 1, 29, 1, 0, 0, 0, [], [])),
  (29, (.iload_n 1, 30, 1, 0, 0, 0, [], [])),
  (30, (.aload_n 0, 31, 0, 0, 0, 0, [], [])),
  (31, (.getfield 25, 34, 4, 4, 0, 0, [], [180])),
  (34, (.if_icmp .ge 30, 37, 64, 0, 0, 0, [], [])),
  (37, (.aload_n 0, 38, 0, 0, 0, 0, [], [])),
  (38, (.bipush 10, 40, 0, 0, 10, 0, [], [])),
  (40, (.aload_n 0, 41, 0, 0, 0, 0, [], [])),
  (41, (.getfield 34, 44, 4, 7, 0, 0, [], [183])),
  (44, (.imul, 45, 0, 0, 0, 0, [], [])),
  (45, (.aload_n 0, 46, 0, 0, 0, 0, [], [])),
  (46, (.getfield 9, 49, 4, 0, 0, 0, [], [173])),
  (49, (.iload_n 1, 50, 1, 0, 0, 0, [], [])),
  (50, (.baload, 51, 0, 0, 0, 0, [], [])),
  (51, (.iadd, 52, 0, 0, 0, 0, [], [])),
  (52, (.bipush 48, 54, 0, 0, 48, 0, [], [])),
  (54, (.isub, 55, 0, 0, 0, 0, [], [])),
  (55, (.putfield 34, 58, 4, 7, 0, 0, [], [183])),
  (58, (.iinc 1 1, 61, 1, 0, 1, 0, [], [])),
  (61, (.goto (-32), 64, 29, 0, 0, 0, [], [])),
  (64, (.iconst 1, 65, 0, 0, 1, 0, [], [])),
  (65, (.ireturn, 66, 0, 0, 0, 0, [], []))]
def mX4_tellNumber : hd_I := (RX4, yX4_tellNumber, cX4_tellNumber, 2, (some .boolean), 2, pX4_tellNumber)
def pX4_sortAt : List (Nat × hd_O) := [
  (0, (.iload_n 1, 1, 1, 0, 0, 0, [], [])),
  (1, (.aload_n 0, 2, 0, 0, 0, 0, [], [])),
  (2, (.getfield 15, 5, 4, 1, 0, 0, [], [174])),
  (5, (.if_icmp .lt 5, 8, 10, 0, 0, 0, [], [])),
  (8, (.iconst 0, 9, 0, 0, 0, 0, [], [])),
  (9, (.ireturn, 10, 0, 0, 0, 0, [], [])),
  (10, (.aload_n 0, 11, 0, 0, 0, 0, [], [])),
  (11, (.getfield 9, 14, 4, 0, 0, 0, [], [173])),
  (14, (.iload_n 1, 15, 1, 0, 0, 0, [], [])),
  (15, (.baload, 16, 0, 0, 0, 0, [], [])),
  (16, (.istore_n 2, 17, 2, 0, 0, 0, [], [])),
  (17, (.iload_n 2, 18, 2, 0, 0, 0, [], [])),
  (18, (.bipush 97, 20, 0, 0, 97, 0, [], [])),
  (20, (.if_icmp .lt 11, 23, 31, 0, 0, 0, [], [])),
  (23, (.iload_n 2, 24, 2, 0, 0, 0, [], [])),
  (24, (.bipush 122, 26, 0, 0, 122, 0, [], [])),
  (26, (.if_icmp .gt 5, 29, 31, 0, 0, 0, [], [])),
  (29, (.iconst 1, 30, 0, 0, 1, 0, [], [])),
  (30, (.ireturn, 31, 0, 0, 0, 0, [], [])),
  (31, (.iload_n 2, 32, 2, 0, 0, 0, [], [])),
  (32, (.bipush 48, 34, 0, 0, 48, 0, [], [])),
  (34, (.if_icmp .lt 11, 37, 45, 0, 0, 0, [], [])),
  (37, (.iload_n 2, 38, 2, 0, 0, 0, [], [])),
  (38, (.bipush 57, 40, 0, 0, 57, 0, [], [])),
  (40, (.if_icmp .gt 5, 43, 45, 0, 0, 0, [], [])),
  (43, (.iconst 2, 44, 0, 0, 2, 0, [], [])),
  (44, (.ireturn, 45, 0, 0, 0, 0, [], [])),
  (45, (.iload_n 2, 46, 2, 0, 0, 0, [], [])),
  (46, (.bipush 59, 48, 0, 0, 59, 0, [], [])),
  (48, (.if_icmp .ne 7, 51, 55, 0, 0, 0, [], [])),
  (51, (.iconst 3, 52, 0, 0, 3, 0, [], [])),
  (52, (.goto 14, 55, 66, 0, 0, 0, [], [])),
  (55, (.iload_n 2, 56, 2, 0, 0, 0, [], [])),
  (56, (.bipush 32, 58, 0, 0, 32, 0, [], [])),
  (58, (.if_icmp .ne 7, 61, 65, 0, 0, 0, [], [])),
  (61, (.iconst 4, 62, 0, 0, 4, 0, [], [])),
  (62, (.goto 4, 65, 66, 0, 0, 0, [], [])),
  (65, (.iconst 5, 66, 0, 0, 5, 0, [], [])),
  (66, (.ireturn, 67, 0, 0, 0, 0, [], []))]
def mX4_sortAt : hd_I := (RX4, yX4_sortAt, cX4_sortAt, 3, (some .int), 1, pX4_sortAt)
def pX4_wordTaken : List (Nat × hd_O) := [
  (0, (.aload_n 0, 1, 0, 0, 0, 0, [], [])),
  (1, (.ldc 105, 3, 1000, 1, 0, 0, [], [])),
  (3, (.invokevirtual 107, 6, 47, 2, 0, 0, [], [337, 79, 334, 336, 6, 4])),
  (6, (.ifCond .eq 5, 9, 11, 0, 0, 0, [], [])),
  (9, (.iconst 0, 10, 0, 0, 0, 0, [], [])),
  (10, (.ireturn, 11, 0, 0, 0, 0, [], [])),
  (11, (.aload_n 0, 12, 0, 0, 0, 0, [], [])),
  (12, (.ldc 111, 14, 1001, 2, 0, 0, [], [])),
  (14, (.invokevirtual 107, 17, 47, 2, 0, 0, [], [337, 79, 334, 336, 6, 4])),
  (17, (.ifCond .eq 5, 20, 22, 0, 0, 0, [], [])),
  (20, (.iconst 1, 21, 0, 0, 1, 0, [], [])),
  (21, (.ireturn, 22, 0, 0, 0, 0, [], [])),
  (22, (.aload_n 0, 23, 0, 0, 0, 0, [], [])),
  (23, (.ldc 113, 25, 1002, 3, 0, 0, [], [])),
  (25, (.invokevirtual 107, 28, 47, 2, 0, 0, [], [337, 79, 334, 336, 6, 4])),
  (28, (.ifCond .eq 5, 31, 33, 0, 0, 0, [], [])),
  (31, (.iconst 2, 32, 0, 0, 2, 0, [], [])),
  (32, (.ireturn, 33, 0, 0, 0, 0, [], [])),
  (33, (.aload_n 0, 34, 0, 0, 0, 0, [], [])),
  (34, (.ldc 115, 36, 1003, 4, 0, 0, [], [])),
  (36, (.invokevirtual 107, 39, 47, 2, 0, 0, [], [337, 79, 334, 336, 6, 4])),
  (39, (.ifCond .eq 5, 42, 44, 0, 0, 0, [], [])),
  (42, (.iconst 3, 43, 0, 0, 3, 0, [], [])),
  (43, (.ireturn, 44, 0, 0, 0, 0, [], [])),
  (44, (.aload_n 0, 45, 0, 0, 0, 0, [], [])),
  (45, (.ldc 117, 47, 1004, 5, 0, 0, [], [])),
  (47, (.invokevirtual 107, 50, 47, 2, 0, 0, [], [337, 79, 334, 336, 6, 4])),
  (50, (.ifCond .eq 5, 53, 55, 0, 0, 0, [], [])),
  (53, (.iconst 4, 54, 0, 0, 4, 0, [], [])),
  (54, (.ireturn, 55, 0, 0, 0, 0, [], [])),
  (55, (.aload_n 0, 56, 0, 0, 0, 0, [], [])),
  (56, (.ldc 118, 58, 1005, 6, 0, 0, [], [])),
  (58, (.invokevirtual 107, 61, 47, 2, 0, 0, [], [337, 79, 334, 336, 6, 4])),
  (61, (.ifCond .eq 7, 64, 68, 0, 0, 0, [], [])),
  (64, (.iconst 5, 65, 0, 0, 5, 0, [], [])),
  (65, (.goto 4, 68, 69, 0, 0, 0, [], [])),
  (68, (.iconst (-1), 69, 0, 0, (-1), 0, [], [])),
  (69, (.ireturn, 70, 0, 0, 0, 0, [], []))]
def mX4_wordTaken : hd_I := (RX4, yX4_wordTaken, cX4_wordTaken, 1, (some .int), 6, pX4_wordTaken)
def pX4_isWord : List (Nat × hd_O) := [
  (0, (.aload_n 0, 1, 0, 0, 0, 0, [], [])),
  (1, (.getfield 25, 4, 4, 4, 0, 0, [], [180])),
  (4, (.aload_n 0, 5, 0, 0, 0, 0, [], [])),
  (5, (.getfield 28, 8, 4, 5, 0, 0, [], [181])),
  (8, (.isub, 9, 0, 0, 0, 0, [], [])),
  (9, (.aload_n 1, 10, 1, 0, 0, 0, [], [])),
  (10, (.invokevirtual 119, 13, 202, 1, 0, 0, [], [341, 83, 338, 339, 340, 99])),
  (13, (.if_icmp .eq 5, 16, 18, 0, 0, 0, [], [])),
  (16, (.iconst 0, 17, 0, 0, 0, 0, [], [])),
  (17, (.ireturn, 18, 0, 0, 0, 0, [], [])),
  (18, (.iconst 0, 19, 0, 0, 0, 0, [], [])),
  (19, (.istore_n 2, 20, 2, 0, 0, 0, [], [])),
  (20, (.iload_n 2, 21, 2, 0, 0, 0, [], [])),
  (21, (.aload_n 1, 22, 1, 0, 0, 0, [], [])),
  (22, (.invokevirtual 119, 25, 202, 1, 0, 0, [], [341, 83, 338, 339, 340, 99])),
  (25, (.if_icmp .ge 30, 28, 55, 0, 0, 0, [], [])),
  (28, (.aload_n 0, 29, 0, 0, 0, 0, [], [])),
  (29, (.getfield 9, 32, 4, 0, 0, 0, [], [173])),
  (32, (.aload_n 0, 33, 0, 0, 0, 0, [], [])),
  (33, (.getfield 28, 36, 4, 5, 0, 0, [], [181])),
  (36, (.iload_n 2, 37, 2, 0, 0, 0, [], [])),
  (37, (.iadd, 38, 0, 0, 0, 0, [], [])),
  (38, (.baload, 39, 0, 0, 0, 0, [], [])),
  (39, (.aload_n 1, 40, 1, 0, 0, 0, [], [])),
  (40, (.iload_n 2, 41, 2, 0, 0, 0, [], [])),
  (41, (.invokevirtual 123, 44, 203, 2, 0, 0, [], [351, 83, 348, 349, 350, 99])),
  (44, (.if_icmp .eq 5, 47, 49, 0, 0, 0, [], [])),
  (47, (.iconst 0, 48, 0, 0, 0, 0, [], [])),
  (48, (.ireturn, 49, 0, 0, 0, 0, [], [])),
  (49, (.iinc 2 1, 52, 2, 0, 1, 0, [], [])),
  (52, (.goto (-32), 55, 20, 0, 0, 0, [], [])),
  (55, (.iconst 1, 56, 0, 0, 1, 0, [], [])),
  (56, (.ireturn, 57, 0, 0, 0, 0, [], []))]
def mX4_isWord : hd_I := (RX4, yX4_isWord, cX4_isWord, 3, (some .boolean), 5, pX4_isWord)
def pJ6_bitCount_0f7a4 : List (Nat × hd_O) := [
  (0, (.iload_n 0, 1, 0, 0, 0, 0, [], [])),
  (1, (.iload_n 0, 2, 0, 0, 0, 0, [], [])),
  (2, (.iconst 1, 3, 0, 0, 1, 0, [], [])),
  (3, (.iushr, 4, 0, 0, 0, 0, [], [])),
  (4, (.ldc_w 265, 7, 0, 0, 1431655765, 0, [], [727])),
  (7, (.iand, 8, 0, 0, 0, 0, [], [])),
  (8, (.isub, 9, 0, 0, 0, 0, [], [])),
  (9, (.istore_n 0, 10, 0, 0, 0, 0, [], [])),
  (10, (.iload_n 0, 11, 0, 0, 0, 0, [], [])),
  (11, (.ldc_w 266, 14, 0, 0, 858993459, 0, [], [728])),
  (14, (.iand, 15, 0, 0, 0, 0, [], [])),
  (15, (.iload_n 0, 16, 0, 0, 0, 0, [], [])),
  (16, (.iconst 2, 17, 0, 0, 2, 0, [], [])),
  (17, (.iushr, 18, 0, 0, 0, 0, [], [])),
  (18, (.ldc_w 266, 21, 0, 0, 858993459, 0, [], [728])),
  (21, (.iand, 22, 0, 0, 0, 0, [], [])),
  (22, (.iadd, 23, 0, 0, 0, 0, [], [])),
  (23, (.istore_n 0, 24, 0, 0, 0, 0, [], [])),
  (24, (.iload_n 0, 25, 0, 0, 0, 0, [], [])),
  (25, (.iload_n 0, 26, 0, 0, 0, 0, [], [])),
  (26, (.iconst 4, 27, 0, 0, 4, 0, [], [])),
  (27, (.iushr, 28, 0, 0, 0, 0, [], [])),
  (28, (.iadd, 29, 0, 0, 0, 0, [], [])),
  (29, (.ldc_w 267, 32, 0, 0, 252645135, 0, [], [729])),
  (32, (.iand, 33, 0, 0, 0, 0, [], [])),
  (33, (.istore_n 0, 34, 0, 0, 0, 0, [], [])),
  (34, (.iload_n 0, 35, 0, 0, 0, 0, [], [])),
  (35, (.iload_n 0, 36, 0, 0, 0, 0, [], [])),
  (36, (.bipush 8, 38, 0, 0, 8, 0, [], [])),
  (38, (.iushr, 39, 0, 0, 0, 0, [], [])),
  (39, (.iadd, 40, 0, 0, 0, 0, [], [])),
  (40, (.istore_n 0, 41, 0, 0, 0, 0, [], [])),
  (41, (.iload_n 0, 42, 0, 0, 0, 0, [], [])),
  (42, (.iload_n 0, 43, 0, 0, 0, 0, [], [])),
  (43, (.bipush 16, 45, 0, 0, 16, 0, [], [])),
  (45, (.iushr, 46, 0, 0, 0, 0, [], [])),
  (46, (.iadd, 47, 0, 0, 0, 0, [], [])),
  (47, (.istore_n 0, 48, 0, 0, 0, 0, [], [])),
  (48, (.iload_n 0, 49, 0, 0, 0, 0, [], [])),
  (49, (.bipush 63, 51, 0, 0, 63, 0, [], [])),
  (51, (.iand, 52, 0, 0, 0, 0, [], [])),
  (52, (.ireturn, 53, 0, 0, 0, 0, [], []))]
def mJ6_bitCount_0f7a4 : hd_I := (RJ6, yJ6_bitCount_0f7a4, cJ6_bitCount_0f7a4, 1, (some .int), 1, pJ6_bitCount_0f7a4)
def pJ0_length_8abf5 : List (Nat × hd_O) := [
  (0, (.aload_n 0, 1, 0, 0, 0, 0, [], [])),
  (1, (.getfield 9, 4, 99, 0, 0, 0, [], [1264])),
  (4, (.arraylength, 5, 0, 0, 0, 0, [], [])),
  (5, (.aload_n 0, 6, 0, 0, 0, 0, [], [])),
  (6, (.invokevirtual 335, 9, 204, 1, 0, 0, [], [345, 83, 342, 343, 344, 99])),
  (9, (.ishr, 10, 0, 0, 0, 0, [], [])),
  (10, (.ireturn, 11, 0, 0, 0, 0, [], []))]
def mJ0_length_8abf5 : hd_I := (RJ0, yJ0_length_8abf5, cJ0_length_8abf5, 1, (some .int), 2, pJ0_length_8abf5)
def pJ0_charAt_5068e : List (Nat × hd_O) := [
  (0, (.aload_n 0, 1, 0, 0, 0, 0, [], [])),
  (1, (.invokevirtual 492, 4, 205, 1, 0, 0, [], [355, 83, 352, 353, 354, 99])),
  (4, (.ifCond .eq 12, 7, 16, 0, 0, 0, [], [])),
  (7, (.aload_n 0, 8, 0, 0, 0, 0, [], [])),
  (8, (.getfield 9, 11, 99, 0, 0, 0, [], [1264])),
  (11, (.iload_n 1, 12, 1, 0, 0, 0, [], [])),
  (12, (.invokestatic 495, 15, 207, 2, 0, 0, [], [358, 84, 356, 357])),
  (15, (.ireturn, 16, 0, 0, 0, 0, [], [])),
  (16, (.aload_n 0, 17, 0, 0, 0, 0, [], [])),
  (17, (.getfield 9, 20, 99, 0, 0, 0, [], [1264])),
  (20, (.iload_n 1, 21, 1, 0, 0, 0, [], [])),
  (21, (.invokestatic 498, 24, 9999, 0, 0, 0, [], [])),
  (24, (.ireturn, 25, 0, 0, 0, 0, [], []))]
def mJ0_charAt_5068e : hd_I := (RJ0, yJ0_charAt_5068e, cJ0_charAt_5068e, 2, (some .char), 4, pJ0_charAt_5068e)
def pJ0_coder_7d493 : List (Nat × hd_O) := [
  (0, (.getstatic 38, 3, 0, 0, 0, 0, [], [])),
  (3, (.ifCond .eq 10, 6, 13, 0, 0, 0, [], [])),
  (6, (.aload_n 0, 7, 0, 0, 0, 0, [], [])),
  (7, (.getfield 15, 10, 99, 0, 0, 0, [], [1265])),
  (10, (.goto 4, 13, 14, 0, 0, 0, [], [])),
  (13, (.iconst 1, 14, 0, 0, 1, 0, [], [])),
  (14, (.ireturn, 15, 0, 0, 0, 0, [], []))]
def mJ0_coder_7d493 : hd_I := (RJ0, yJ0_coder_7d493, cJ0_coder_7d493, 1, (some .byte), 1, pJ0_coder_7d493)
def pJ0_isLatin1_aae02 : List (Nat × hd_O) := [
  (0, (.getstatic 38, 3, 0, 0, 0, 0, [], [])),
  (3, (.ifCond .eq 14, 6, 17, 0, 0, 0, [], [])),
  (6, (.aload_n 0, 7, 0, 0, 0, 0, [], [])),
  (7, (.getfield 15, 10, 99, 0, 0, 0, [], [1265])),
  (10, (.ifCond .ne 7, 13, 17, 0, 0, 0, [], [])),
  (13, (.iconst 1, 14, 0, 0, 1, 0, [], [])),
  (14, (.goto 4, 17, 18, 0, 0, 0, [], [])),
  (17, (.iconst 0, 18, 0, 0, 0, 0, [], [])),
  (18, (.ireturn, 19, 0, 0, 0, 0, [], []))]
def mJ0_isLatin1_aae02 : hd_I := (RJ0, yJ0_isLatin1_aae02, cJ0_isLatin1_aae02, 1, (some .boolean), 1, pJ0_isLatin1_aae02)
def pJ0_checkIndex_df160 : List (Nat × hd_O) := [
  (0, (.iload_n 0, 1, 0, 0, 0, 0, [], [])),
  (1, (.iload_n 1, 2, 1, 0, 0, 0, [], [])),
  (2, (.getstatic 1053, 5, 0, 0, 0, 0, [], [])),
  (5, (.invokestatic 1059, 8, 208, 3, 0, 0, [], [366, 85, 364, 365])),
  (8, (.pop, 9, 0, 0, 0, 0, [], [])),
  (9, (.return_, 10, 0, 0, 0, 0, [], []))]
def mJ0_checkIndex_df160 : hd_I := (RJ0, yJ0_checkIndex_df160, cJ0_checkIndex_df160, 2, none, 2, pJ0_checkIndex_df160)
def pJ1_charAt_3b067 : List (Nat × hd_O) := [
  (0, (.iload_n 1, 1, 1, 0, 0, 0, [], [])),
  (1, (.aload_n 0, 2, 0, 0, 0, 0, [], [])),
  (2, (.arraylength, 3, 0, 0, 0, 0, [], [])),
  (3, (.invokestatic 9, 6, 206, 2, 0, 0, [], [361, 83, 359, 360])),
  (6, (.aload_n 0, 7, 0, 0, 0, 0, [], [])),
  (7, (.iload_n 1, 8, 1, 0, 0, 0, [], [])),
  (8, (.baload, 9, 0, 0, 0, 0, [], [])),
  (9, (.sipush 255, 12, 0, 0, 255, 0, [], [])),
  (12, (.iand, 13, 0, 0, 0, 0, [], [])),
  (13, (.i2c, 14, 0, 0, 0, 0, [], [])),
  (14, (.ireturn, 15, 0, 0, 0, 0, [], []))]
def mJ1_charAt_3b067 : hd_I := (RJ1, yJ1_charAt_3b067, cJ1_charAt_3b067, 2, (some .char), 3, pJ1_charAt_3b067)
def pJ3_checkIndex_8e157 : List (Nat × hd_O) := [
  (0, (.iload_n 0, 1, 0, 0, 0, 0, [], [])),
  (1, (.ifCond .lt 8, 4, 9, 0, 0, 0, [], [])),
  (4, (.iload_n 0, 5, 0, 0, 0, 0, [], [])),
  (5, (.iload_n 1, 6, 1, 0, 0, 0, [], [])),
  (6, (.if_icmp .lt 10, 9, 16, 0, 0, 0, [], [])),
  (9, (.aload_n 2, 10, 2, 0, 0, 0, [], [])),
  (10, (.iload_n 0, 11, 0, 0, 0, 0, [], [])),
  (11, (.iload_n 1, 12, 1, 0, 0, 0, [], [])),
  (12, (.invokestatic 95, 15, 9999, 0, 0, 0, [], [])),
  (15, (.athrow, 16, 0, 0, 0, 0, [], [])),
  (16, (.iload_n 0, 17, 0, 0, 0, 0, [], [])),
  (17, (.ireturn, 18, 0, 0, 0, 0, [], []))]
def mJ3_checkIndex_8e157 : hd_I := (RJ3, yJ3_checkIndex_8e157, cJ3_checkIndex_8e157, 3, (some .int), 1, pJ3_checkIndex_8e157)
end
section
/-! printed by wip/whole/gen.py: the instructions of the methods, resolved -/
def pX5_feed : List (Nat × hd_O) := [
  (0, (.iload_n 1, 1, 1, 0, 0, 0, [], [])),
  (1, (.iconst 0, 2, 0, 0, 0, 0, [], [])),
  (2, (.bipush 127, 4, 0, 0, 127, 0, [], [])),
  (4, (.invokestatic 61, 7, 86, 3, 0, 0, [], [288, 76, 286, 287])),
  (7, (.ifCond .ne 5, 10, 12, 0, 0, 0, [], [])),
  (10, (.iconst (-1), 11, 0, 0, (-1), 0, [], [])),
  (11, (.ireturn, 12, 0, 0, 0, 0, [], [])),
  (12, (.aload_n 0, 13, 0, 0, 0, 0, [], [])),
  (13, (.getfield 29, 16, 5, 3, 0, 0, [], [254])),
  (16, (.iload_n 1, 17, 1, 0, 0, 0, [], [])),
  (17, (.invokevirtual 65, 20, 34, 2, 0, 0, [], [292, 79, 289, 290, 291, 4])),
  (20, (.ifCond .eq 13, 23, 33, 0, 0, 0, [], [])),
  (23, (.aload_n 0, 24, 0, 0, 0, 0, [], [])),
  (24, (.getfield 29, 27, 5, 3, 0, 0, [], [254])),
  (27, (.getfield 69, 30, 4, 1, 0, 0, [], [175])),
  (30, (.goto 5, 33, 35, 0, 0, 0, [], [])),
  (33, (.bipush (-3), 35, 0, 0, (-3), 0, [], [])),
  (35, (.ireturn, 36, 0, 0, 0, 0, [], []))]
def mX5_feed : hd_I := (RX5, yX5_feed, cX5_feed, 2, (some .int), 2, pX5_feed)
def pX5_end : List (Nat × hd_O) := [
  (0, (.iload_n 1, 1, 1, 0, 0, 0, [], [])),
  (1, (.iconst 0, 2, 0, 0, 0, 0, [], [])),
  (2, (.aload_n 0, 3, 0, 0, 0, 0, [], [])),
  (3, (.getfield 29, 6, 5, 3, 0, 0, [], [254])),
  (6, (.getfield 69, 9, 4, 1, 0, 0, [], [175])),
  (9, (.invokestatic 61, 12, 86, 3, 0, 0, [], [288, 76, 286, 287])),
  (12, (.ifCond .ne 5, 15, 17, 0, 0, 0, [], [])),
  (15, (.iconst (-1), 16, 0, 0, (-1), 0, [], [])),
  (16, (.ireturn, 17, 0, 0, 0, 0, [], [])),
  (17, (.aload_n 0, 18, 0, 0, 0, 0, [], [])),
  (18, (.getfield 29, 21, 5, 3, 0, 0, [], [254])),
  (21, (.getfield 69, 24, 4, 1, 0, 0, [], [175])),
  (24, (.istore_n 2, 25, 2, 0, 0, 0, [], [])),
  (25, (.aload_n 0, 26, 0, 0, 0, 0, [], [])),
  (26, (.getfield 29, 29, 5, 3, 0, 0, [], [254])),
  (29, (.iload_n 1, 30, 1, 0, 0, 0, [], [])),
  (30, (.putfield 69, 33, 4, 1, 0, 0, [], [175])),
  (33, (.iload_n 2, 34, 2, 0, 0, 0, [], [])),
  (34, (.ireturn, 35, 0, 0, 0, 0, [], []))]
def mX5_end : hd_I := (RX5, yX5_end, cX5_end, 3, (some .int), 2, pX5_end)
def pX5_text : List (Nat × hd_O) := [
  (0, (.aload_n 0, 1, 0, 0, 0, 0, [], [])),
  (1, (.getfield 29, 4, 5, 3, 0, 0, [], [254])),
  (4, (.aload_n 0, 5, 0, 0, 0, 0, [], [])),
  (5, (.getfield 16, 8, 5, 1, 0, 0, [], [252])),
  (8, (.invokevirtual 72, 11, 35, 2, 0, 0, [], [304, 79, 301, 302, 303, 4])),
  (11, (.istore_n 1, 12, 1, 0, 0, 0, [], [])),
  (12, (.aload_n 0, 13, 0, 0, 0, 0, [], [])),
  (13, (.getfield 29, 16, 5, 3, 0, 0, [], [254])),
  (16, (.iconst 0, 17, 0, 0, 0, 0, [], [])),
  (17, (.putfield 69, 20, 4, 1, 0, 0, [], [175])),
  (20, (.aload_n 0, 21, 0, 0, 0, 0, [], [])),
  (21, (.getfield 29, 24, 5, 3, 0, 0, [], [254])),
  (24, (.getfield 76, 27, 4, 2, 0, 0, [], [177])),
  (27, (.ifCond .eq 14, 30, 41, 0, 0, 0, [], [])),
  (30, (.bipush (-10), 32, 0, 0, (-10), 0, [], [])),
  (32, (.aload_n 0, 33, 0, 0, 0, 0, [], [])),
  (33, (.getfield 29, 36, 5, 3, 0, 0, [], [254])),
  (36, (.getfield 79, 39, 4, 3, 0, 0, [], [179])),
  (39, (.isub, 40, 0, 0, 0, 0, [], [])),
  (40, (.ireturn, 41, 0, 0, 0, 0, [], [])),
  (41, (.aload_n 0, 42, 0, 0, 0, 0, [], [])),
  (42, (.getfield 10, 45, 5, 0, 0, 0, [], [251])),
  (45, (.aload_n 0, 46, 0, 0, 0, 0, [], [])),
  (46, (.getfield 16, 49, 5, 1, 0, 0, [], [252])),
  (49, (.invokevirtual 82, 52, 1, 2, 0, 0, [], [419, 77, 416, 417, 418, 0])),
  (52, (.aload_n 0, 53, 0, 0, 0, 0, [], [])),
  (53, (.getfield 22, 56, 5, 2, 0, 0, [], [253])),
  (56, (.iconst 0, 57, 0, 0, 0, 0, [], [])),
  (57, (.putfield 86, 60, 2, 2, 0, 0, [], [159])),
  (60, (.iconst 0, 61, 0, 0, 0, 0, [], [])),
  (61, (.istore_n 2, 62, 2, 0, 0, 0, [], [])),
  (62, (.iload_n 2, 63, 2, 0, 0, 0, [], [])),
  (63, (.iconst 2, 64, 0, 0, 2, 0, [], [])),
  (64, (.if_icmp .ge 19, 67, 83, 0, 0, 0, [], [])),
  (67, (.aload_n 0, 68, 0, 0, 0, 0, [], [])),
  (68, (.getfield 35, 71, 5, 4, 0, 0, [], [255])),
  (71, (.iload_n 2, 72, 2, 0, 0, 0, [], [])),
  (72, (.aaload, 73, 0, 0, 0, 0, [], [])),
  (73, (.iconst 0, 74, 0, 0, 0, 0, [], [])),
  (74, (.putfield 89, 77, 1, 2, 1, 0, [], [226])),
  (77, (.iinc 2 1, 80, 2, 0, 1, 0, [], [])),
  (80, (.goto (-18), 83, 62, 0, 0, 0, [], [])),
  (83, (.iload_n 1, 84, 1, 0, 0, 0, [], [])),
  (84, (.ireturn, 85, 0, 0, 0, 0, [], []))]
def mX5_text : hd_I := (RX5, yX5_text, cX5_text, 3, (some .int), 9, pX5_text)
def pX5_fault : List (Nat × hd_O) := [
  (0, (.aload_n 0, 1, 0, 0, 0, 0, [], [])),
  (1, (.getfield 29, 4, 5, 3, 0, 0, [], [254])),
  (4, (.getfield 76, 7, 4, 2, 0, 0, [], [177])),
  (7, (.ireturn, 8, 0, 0, 0, 0, [], []))]
def mX5_fault : hd_I := (RX5, yX5_fault, cX5_fault, 1, (some .int), 1, pX5_fault)
def pX5_rule : List (Nat × hd_O) := [
  (0, (.iload_n 1, 1, 1, 0, 0, 0, [], [])),
  (1, (.tableswitch 99 0 6 #[43, 51, 59, 67, 75, 83, 91], 44, 100, 0, 0, 0, [(0, 44), (1, 52), (2, 60), (3, 68), (4, 76), (5, 84), (6, 92)], [])),
  (44, (.aload_n 0, 45, 0, 0, 0, 0, [], [])),
  (45, (.getfield 10, 48, 5, 0, 0, 0, [], [251])),
  (48, (.getfield 93, 51, 0, 5, 0, 0, [], [114])),
  (51, (.ireturn, 52, 0, 0, 0, 0, [], [])),
  (52, (.aload_n 0, 53, 0, 0, 0, 0, [], [])),
  (53, (.getfield 10, 56, 5, 0, 0, 0, [], [251])),
  (56, (.getfield 94, 59, 0, 9, 0, 0, [], [125])),
  (59, (.ireturn, 60, 0, 0, 0, 0, [], [])),
  (60, (.aload_n 0, 61, 0, 0, 0, 0, [], [])),
  (61, (.getfield 10, 64, 5, 0, 0, 0, [], [251])),
  (64, (.getfield 97, 67, 0, 7, 0, 0, [], [120])),
  (67, (.ireturn, 68, 0, 0, 0, 0, [], [])),
  (68, (.aload_n 0, 69, 0, 0, 0, 0, [], [])),
  (69, (.getfield 10, 72, 5, 0, 0, 0, [], [251])),
  (72, (.getfield 100, 75, 0, 8, 0, 0, [], [122])),
  (75, (.ireturn, 76, 0, 0, 0, 0, [], [])),
  (76, (.aload_n 0, 77, 0, 0, 0, 0, [], [])),
  (77, (.getfield 10, 80, 5, 0, 0, 0, [], [251])),
  (80, (.getfield 103, 83, 0, 6, 0, 0, [], [117])),
  (83, (.ireturn, 84, 0, 0, 0, 0, [], [])),
  (84, (.aload_n 0, 85, 0, 0, 0, 0, [], [])),
  (85, (.getfield 10, 88, 5, 0, 0, 0, [], [251])),
  (88, (.invokevirtual 106, 91, 25, 1, 0, 0, [], [439, 77, 436, 437, 438, 0])),
  (91, (.ireturn, 92, 0, 0, 0, 0, [], [])),
  (92, (.aload_n 0, 93, 0, 0, 0, 0, [], [])),
  (93, (.getfield 10, 96, 5, 0, 0, 0, [], [251])),
  (96, (.invokevirtual 110, 99, 26, 1, 0, 0, [], [443, 77, 440, 441, 442, 0])),
  (99, (.ireturn, 100, 0, 0, 0, 0, [], [])),
  (100, (.iconst (-1), 101, 0, 0, (-1), 0, [], [])),
  (101, (.ireturn, 102, 0, 0, 0, 0, [], []))]
def mX5_rule : hd_I := (RX5, yX5_rule, cX5_rule, 2, (some .int), 4, pX5_rule)
def pX5_thing : List (Nat × hd_O) := [
  (0, (.aload_n 0, 1, 0, 0, 0, 0, [], [])),
  (1, (.iload_n 1, 2, 1, 0, 0, 0, [], [])),
  (2, (.invokevirtual 113, 5, 92, 2, 0, 0, [], [463, 76, 460, 462, 14, 5])),
  (5, (.ifCond .ne 5, 8, 10, 0, 0, 0, [], [])),
  (8, (.iconst (-1), 9, 0, 0, (-1), 0, [], [])),
  (9, (.ireturn, 10, 0, 0, 0, 0, [], [])),
  (10, (.iload_n 2, 11, 2, 0, 0, 0, [], [])),
  (11, (.tableswitch 111 0 6 #[41, 51, 61, 71, 80, 89, 101], 52, 122, 0, 0, 0, [(0, 52), (1, 62), (2, 72), (3, 82), (4, 91), (5, 100), (6, 112)], [])),
  (52, (.aload_n 0, 53, 0, 0, 0, 0, [], [])),
  (53, (.getfield 10, 56, 5, 0, 0, 0, [], [251])),
  (56, (.getfield 116, 59, 0, 0, 0, 0, [], [105])),
  (59, (.iload_n 1, 60, 1, 0, 0, 0, [], [])),
  (60, (.iaload, 61, 0, 0, 0, 0, [], [])),
  (61, (.ireturn, 62, 0, 0, 0, 0, [], [])),
  (62, (.aload_n 0, 63, 0, 0, 0, 0, [], [])),
  (63, (.getfield 10, 66, 5, 0, 0, 0, [], [251])),
  (66, (.getfield 119, 69, 0, 1, 0, 0, [], [107])),
  (69, (.iload_n 1, 70, 1, 0, 0, 0, [], [])),
  (70, (.iaload, 71, 0, 0, 0, 0, [], [])),
  (71, (.ireturn, 72, 0, 0, 0, 0, [], [])),
  (72, (.aload_n 0, 73, 0, 0, 0, 0, [], [])),
  (73, (.getfield 10, 76, 5, 0, 0, 0, [], [251])),
  (76, (.getfield 122, 79, 0, 2, 0, 0, [], [109])),
  (79, (.iload_n 1, 80, 1, 0, 0, 0, [], [])),
  (80, (.iaload, 81, 0, 0, 0, 0, [], [])),
  (81, (.ireturn, 82, 0, 0, 0, 0, [], [])),
  (82, (.aload_n 0, 83, 0, 0, 0, 0, [], [])),
  (83, (.getfield 10, 86, 5, 0, 0, 0, [], [251])),
  (86, (.iload_n 1, 87, 1, 0, 0, 0, [], [])),
  (87, (.invokevirtual 125, 90, 15, 2, 0, 0, [], [455, 77, 464, 453, 454, 0])),
  (90, (.ireturn, 91, 0, 0, 0, 0, [], [])),
  (91, (.aload_n 0, 92, 0, 0, 0, 0, [], [])),
  (92, (.getfield 10, 95, 5, 0, 0, 0, [], [251])),
  (95, (.iload_n 1, 96, 1, 0, 0, 0, [], [])),
  (96, (.invokevirtual 129, 99, 16, 2, 0, 0, [], [451, 77, 465, 449, 450, 0])),
  (99, (.ireturn, 100, 0, 0, 0, 0, [], [])),
  (100, (.bipush 20, 102, 0, 0, 20, 0, [], [])),
  (102, (.aload_n 0, 103, 0, 0, 0, 0, [], [])),
  (103, (.getfield 10, 106, 5, 0, 0, 0, [], [251])),
  (106, (.iload_n 1, 107, 1, 0, 0, 0, [], [])),
  (107, (.invokevirtual 132, 110, 18, 2, 0, 0, [], [469, 77, 466, 467, 468, 0])),
  (110, (.iadd, 111, 0, 0, 0, 0, [], [])),
  (111, (.ireturn, 112, 0, 0, 0, 0, [], [])),
  (112, (.aload_n 0, 113, 0, 0, 0, 0, [], [])),
  (113, (.getfield 10, 116, 5, 0, 0, 0, [], [251])),
  (116, (.getfield 135, 119, 0, 3, 0, 0, [], [111])),
  (119, (.iload_n 1, 120, 1, 0, 0, 0, [], [])),
  (120, (.iaload, 121, 0, 0, 0, 0, [], [])),
  (121, (.ireturn, 122, 0, 0, 0, 0, [], [])),
  (122, (.iconst (-1), 123, 0, 0, (-1), 0, [], [])),
  (123, (.ireturn, 124, 0, 0, 0, 0, [], []))]
def mX5_thing : hd_I := (RX5, yX5_thing, cX5_thing, 3, (some .int), 4, pX5_thing)
def pX5_alter : List (Nat × hd_O) := [
  (0, (.aload_n 0, 1, 0, 0, 0, 0, [], [])),
  (1, (.iload_n 1, 2, 1, 0, 0, 0, [], [])),
  (2, (.invokevirtual 113, 5, 92, 2, 0, 0, [], [463, 76, 460, 462, 14, 5])),
  (5, (.ifCond .eq 11, 8, 16, 0, 0, 0, [], [])),
  (8, (.iload_n 2, 9, 2, 0, 0, 0, [], [])),
  (9, (.iload_n 3, 10, 3, 0, 0, 0, [], [])),
  (10, (.invokestatic 138, 13, 93, 2, 0, 0, [], [480, 76, 478, 479])),
  (13, (.ifCond .ne 5, 16, 18, 0, 0, 0, [], [])),
  (16, (.iconst (-1), 17, 0, 0, (-1), 0, [], [])),
  (17, (.ireturn, 18, 0, 0, 0, 0, [], [])),
  (18, (.aload_n 0, 19, 0, 0, 0, 0, [], [])),
  (19, (.getfield 10, 22, 5, 0, 0, 0, [], [251])),
  (22, (.iload_n 1, 23, 1, 0, 0, 0, [], [])),
  (23, (.iload_n 2, 24, 2, 0, 0, 0, [], [])),
  (24, (.iload_n 3, 25, 3, 0, 0, 0, [], [])),
  (25, (.invokevirtual 142, 28, 8, 4, 0, 0, [], [484, 77, 481, 482, 483, 0])),
  (28, (.ireturn, 29, 0, 0, 0, 0, [], []))]
def mX5_alter : hd_I := (RX5, yX5_alter, cX5_alter, 4, (some .int), 3, pX5_alter)
def pX5_mood : List (Nat × hd_O) := [
  (0, (.iload_n 1, 1, 1, 0, 0, 0, [], [])),
  (1, (.invokestatic 146, 4, 87, 1, 0, 0, [], [491, 76, 489, 490])),
  (4, (.ifCond .ne 5, 7, 9, 0, 0, 0, [], [])),
  (7, (.iconst (-1), 8, 0, 0, (-1), 0, [], [])),
  (8, (.ireturn, 9, 0, 0, 0, 0, [], [])),
  (9, (.aload_n 0, 10, 0, 0, 0, 0, [], [])),
  (10, (.getfield 10, 13, 5, 0, 0, 0, [], [251])),
  (13, (.getfield 97, 16, 0, 7, 0, 0, [], [120])),
  (16, (.istore_n 2, 17, 2, 0, 0, 0, [], [])),
  (17, (.aload_n 0, 18, 0, 0, 0, 0, [], [])),
  (18, (.getfield 10, 21, 5, 0, 0, 0, [], [251])),
  (21, (.iload_n 1, 22, 1, 0, 0, 0, [], [])),
  (22, (.putfield 97, 25, 0, 7, 0, 0, [], [120])),
  (25, (.iload_n 2, 26, 2, 0, 0, 0, [], [])),
  (26, (.ireturn, 27, 0, 0, 0, 0, [], []))]
def mX5_mood : hd_I := (RX5, yX5_mood, cX5_mood, 3, (some .int), 3, pX5_mood)
def pX5_tire : List (Nat × hd_O) := [
  (0, (.iload_n 1, 1, 1, 0, 0, 0, [], [])),
  (1, (.iconst 0, 2, 0, 0, 0, 0, [], [])),
  (2, (.bipush 9, 4, 0, 0, 9, 0, [], [])),
  (4, (.invokestatic 61, 7, 86, 3, 0, 0, [], [288, 76, 286, 287])),
  (7, (.ifCond .ne 5, 10, 12, 0, 0, 0, [], [])),
  (10, (.iconst (-1), 11, 0, 0, (-1), 0, [], [])),
  (11, (.ireturn, 12, 0, 0, 0, 0, [], [])),
  (12, (.aload_n 0, 13, 0, 0, 0, 0, [], [])),
  (13, (.getfield 10, 16, 5, 0, 0, 0, [], [251])),
  (16, (.getfield 100, 19, 0, 8, 0, 0, [], [122])),
  (19, (.istore_n 2, 20, 2, 0, 0, 0, [], [])),
  (20, (.aload_n 0, 21, 0, 0, 0, 0, [], [])),
  (21, (.getfield 10, 24, 5, 0, 0, 0, [], [251])),
  (24, (.iload_n 1, 25, 1, 0, 0, 0, [], [])),
  (25, (.putfield 100, 28, 0, 8, 0, 0, [], [122])),
  (28, (.iload_n 2, 29, 2, 0, 0, 0, [], [])),
  (29, (.ireturn, 30, 0, 0, 0, 0, [], []))]
def mX5_tire : hd_I := (RX5, yX5_tire, cX5_tire, 3, (some .int), 2, pX5_tire)
def pX5_pack : List (Nat × hd_O) := [
  (0, (.iconst 0, 1, 0, 0, 0, 0, [], [])),
  (1, (.iload_n 1, 2, 1, 0, 0, 0, [], [])),
  (2, (.invokestatic 138, 5, 93, 2, 0, 0, [], [480, 76, 478, 479])),
  (5, (.ifCond .eq 19, 8, 24, 0, 0, 0, [], [])),
  (8, (.iconst 1, 9, 0, 0, 1, 0, [], [])),
  (9, (.iload_n 2, 10, 2, 0, 0, 0, [], [])),
  (10, (.invokestatic 138, 13, 93, 2, 0, 0, [], [480, 76, 478, 479])),
  (13, (.ifCond .eq 11, 16, 24, 0, 0, 0, [], [])),
  (16, (.iconst 2, 17, 0, 0, 2, 0, [], [])),
  (17, (.iload_n 3, 18, 3, 0, 0, 0, [], [])),
  (18, (.invokestatic 138, 21, 93, 2, 0, 0, [], [480, 76, 478, 479])),
  (21, (.ifCond .ne 5, 24, 26, 0, 0, 0, [], [])),
  (24, (.iconst (-1), 25, 0, 0, (-1), 0, [], [])),
  (25, (.ireturn, 26, 0, 0, 0, 0, [], [])),
  (26, (.aload_n 0, 27, 0, 0, 0, 0, [], [])),
  (27, (.getfield 10, 30, 5, 0, 0, 0, [], [251])),
  (30, (.invokevirtual 149, 33, 5, 1, 0, 0, [], [503, 77, 500, 501, 502, 0])),
  (33, (.ifCond .ne 6, 36, 39, 0, 0, 0, [], [])),
  (36, (.bipush (-2), 38, 0, 0, (-2), 0, [], [])),
  (38, (.ireturn, 39, 0, 0, 0, 0, [], [])),
  (39, (.aload_n 0, 40, 0, 0, 0, 0, [], [])),
  (40, (.getfield 10, 43, 5, 0, 0, 0, [], [251])),
  (43, (.iload_n 1, 44, 1, 0, 0, 0, [], [])),
  (44, (.iload_n 2, 45, 2, 0, 0, 0, [], [])),
  (45, (.iload_n 3, 46, 3, 0, 0, 0, [], [])),
  (46, (.invokevirtual 153, 49, 7, 4, 0, 0, [], [415, 77, 504, 413, 414, 0])),
  (49, (.ifCond .eq 13, 52, 62, 0, 0, 0, [], [])),
  (52, (.aload_n 0, 53, 0, 0, 0, 0, [], [])),
  (53, (.getfield 10, 56, 5, 0, 0, 0, [], [251])),
  (56, (.getfield 93, 59, 0, 5, 0, 0, [], [114])),
  (59, (.goto 5, 62, 64, 0, 0, 0, [], [])),
  (62, (.bipush (-3), 64, 0, 0, (-3), 0, [], [])),
  (64, (.ireturn, 65, 0, 0, 0, 0, [], []))]
def mX5_pack : hd_I := (RX5, yX5_pack, cX5_pack, 4, (some .int), 3, pX5_pack)
def pX5_strap : List (Nat × hd_O) := [
  (0, (.aload_n 0, 1, 0, 0, 0, 0, [], [])),
  (1, (.getfield 10, 4, 5, 0, 0, 0, [], [251])),
  (4, (.getfield 93, 7, 0, 5, 0, 0, [], [114])),
  (7, (.aload_n 0, 8, 0, 0, 0, 0, [], [])),
  (8, (.getfield 10, 11, 5, 0, 0, 0, [], [251])),
  (11, (.getfield 103, 14, 0, 6, 0, 0, [], [117])),
  (14, (.isub, 15, 0, 0, 0, 0, [], [])),
  (15, (.istore_n 1, 16, 1, 0, 0, 0, [], [])),
  (16, (.aload_n 0, 17, 0, 0, 0, 0, [], [])),
  (17, (.getfield 10, 20, 5, 0, 0, 0, [], [251])),
  (20, (.invokevirtual 156, 23, 9, 1, 0, 0, [], [512, 77, 509, 510, 511, 0])),
  (23, (.iload_n 1, 24, 1, 0, 0, 0, [], [])),
  (24, (.ireturn, 25, 0, 0, 0, 0, [], []))]
def mX5_strap : hd_I := (RX5, yX5_strap, cX5_strap, 2, (some .int), 2, pX5_strap)
def pX5_lift : List (Nat × hd_O) := [
  (0, (.aload_n 0, 1, 0, 0, 0, 0, [], [])),
  (1, (.getfield 10, 4, 5, 0, 0, 0, [], [251])),
  (4, (.getfield 93, 7, 0, 5, 0, 0, [], [114])),
  (7, (.ifCond .eq 13, 10, 20, 0, 0, 0, [], [])),
  (10, (.aload_n 0, 11, 0, 0, 0, 0, [], [])),
  (11, (.getfield 10, 14, 5, 0, 0, 0, [], [251])),
  (14, (.invokevirtual 149, 17, 5, 1, 0, 0, [], [503, 77, 500, 501, 502, 0])),
  (17, (.ifCond .ne 6, 20, 23, 0, 0, 0, [], [])),
  (20, (.bipush (-2), 22, 0, 0, (-2), 0, [], [])),
  (22, (.ireturn, 23, 0, 0, 0, 0, [], [])),
  (23, (.aload_n 0, 24, 0, 0, 0, 0, [], [])),
  (24, (.getfield 10, 27, 5, 0, 0, 0, [], [251])),
  (27, (.aload_n 0, 28, 0, 0, 0, 0, [], [])),
  (28, (.getfield 10, 31, 5, 0, 0, 0, [], [251])),
  (31, (.getfield 93, 34, 0, 5, 0, 0, [], [114])),
  (34, (.iconst 1, 35, 0, 0, 1, 0, [], [])),
  (35, (.isub, 36, 0, 0, 0, 0, [], [])),
  (36, (.invokevirtual 159, 39, 10, 2, 0, 0, [], [520, 77, 517, 518, 519, 0])),
  (39, (.aload_n 0, 40, 0, 0, 0, 0, [], [])),
  (40, (.getfield 10, 43, 5, 0, 0, 0, [], [251])),
  (43, (.getfield 93, 46, 0, 5, 0, 0, [], [114])),
  (46, (.ireturn, 47, 0, 0, 0, 0, [], []))]
def mX5_lift : hd_I := (RX5, yX5_lift, cX5_lift, 1, (some .int), 2, pX5_lift)
def pX5_hours : List (Nat × hd_O) := [
  (0, (.iload_n 1, 1, 1, 0, 0, 0, [], [])),
  (1, (.iconst 0, 2, 0, 0, 0, 0, [], [])),
  (2, (.bipush 30, 4, 0, 0, 30, 0, [], [])),
  (4, (.invokestatic 61, 7, 86, 3, 0, 0, [], [288, 76, 286, 287])),
  (7, (.ifCond .ne 5, 10, 12, 0, 0, 0, [], [])),
  (10, (.iconst (-1), 11, 0, 0, (-1), 0, [], [])),
  (11, (.ireturn, 12, 0, 0, 0, 0, [], [])),
  (12, (.aload_n 0, 13, 0, 0, 0, 0, [], [])),
  (13, (.getfield 10, 16, 5, 0, 0, 0, [], [251])),
  (16, (.getfield 94, 19, 0, 9, 0, 0, [], [125])),
  (19, (.iload_n 1, 20, 1, 0, 0, 0, [], [])),
  (20, (.iadd, 21, 0, 0, 0, 0, [], [])),
  (21, (.sipush 1000, 24, 0, 0, 1000, 0, [], [])),
  (24, (.if_icmp .lt 6, 27, 30, 0, 0, 0, [], [])),
  (27, (.bipush (-3), 29, 0, 0, (-3), 0, [], [])),
  (29, (.ireturn, 30, 0, 0, 0, 0, [], [])),
  (30, (.aload_n 0, 31, 0, 0, 0, 0, [], [])),
  (31, (.getfield 10, 34, 5, 0, 0, 0, [], [251])),
  (34, (.iload_n 1, 35, 1, 0, 0, 0, [], [])),
  (35, (.invokevirtual 163, 38, 22, 2, 0, 0, [], [528, 77, 525, 526, 527, 0])),
  (38, (.ireturn, 39, 0, 0, 0, 0, [], []))]
def mX5_hours : hd_I := (RX5, yX5_hours, cX5_hours, 2, (some .int), 5, pX5_hours)
def pX5_runs : List (Nat × hd_O) := [
  (0, (.iload_n 1, 1, 1, 0, 0, 0, [], [])),
  (1, (.invokestatic 166, 4, 88, 1, 0, 0, [], [553, 76, 551, 552])),
  (4, (.ifCond .ne 5, 7, 9, 0, 0, 0, [], [])),
  (7, (.iconst (-1), 8, 0, 0, (-1), 0, [], [])),
  (8, (.ireturn, 9, 0, 0, 0, 0, [], [])),
  (9, (.iload_n 2, 10, 2, 0, 0, 0, [], [])),
  (10, (.tableswitch 66 0 4 #[34, 40, 47, 54, 60], 44, 76, 0, 0, 0, [(0, 44), (1, 50), (2, 57), (3, 64), (4, 70)], [])),
  (44, (.aload_n 0, 45, 0, 0, 0, 0, [], [])),
  (45, (.iload_n 1, 46, 1, 0, 0, 0, [], [])),
  (46, (.invokevirtual 169, 49, 95, 2, 0, 0, [], [557, 76, 554, 556, 17, 5])),
  (49, (.ireturn, 50, 0, 0, 0, 0, [], [])),
  (50, (.aload_n 0, 51, 0, 0, 0, 0, [], [])),
  (51, (.iload_n 1, 52, 1, 0, 0, 0, [], [])),
  (52, (.iconst 1, 53, 0, 0, 1, 0, [], [])),
  (53, (.invokevirtual 172, 56, 98, 3, 0, 0, [], [561, 76, 558, 560, 18, 5])),
  (56, (.ireturn, 57, 0, 0, 0, 0, [], [])),
  (57, (.aload_n 0, 58, 0, 0, 0, 0, [], [])),
  (58, (.iload_n 1, 59, 1, 0, 0, 0, [], [])),
  (59, (.iconst 0, 60, 0, 0, 0, 0, [], [])),
  (60, (.invokevirtual 172, 63, 98, 3, 0, 0, [], [561, 76, 558, 560, 18, 5])),
  (63, (.ireturn, 64, 0, 0, 0, 0, [], [])),
  (64, (.aload_n 0, 65, 0, 0, 0, 0, [], [])),
  (65, (.iload_n 1, 66, 1, 0, 0, 0, [], [])),
  (66, (.invokevirtual 176, 69, 97, 2, 0, 0, [], [573, 76, 570, 572, 20, 5])),
  (69, (.ireturn, 70, 0, 0, 0, 0, [], [])),
  (70, (.aload_n 0, 71, 0, 0, 0, 0, [], [])),
  (71, (.iload_n 1, 72, 1, 0, 0, 0, [], [])),
  (72, (.invokevirtual 179, 75, 99, 2, 0, 0, [], [577, 76, 574, 576, 21, 5])),
  (75, (.ireturn, 76, 0, 0, 0, 0, [], [])),
  (76, (.iconst (-1), 77, 0, 0, (-1), 0, [], [])),
  (77, (.ireturn, 78, 0, 0, 0, 0, [], []))]
def mX5_runs : hd_I := (RX5, yX5_runs, cX5_runs, 3, (some .int), 6, pX5_runs)
def pX5_gone : List (Nat × hd_O) := [
  (0, (.aload_n 0, 1, 0, 0, 0, 0, [], [])),
  (1, (.iload_n 1, 2, 1, 0, 0, 0, [], [])),
  (2, (.invokevirtual 113, 5, 92, 2, 0, 0, [], [463, 76, 460, 462, 14, 5])),
  (5, (.ifCond .ne 5, 8, 10, 0, 0, 0, [], [])),
  (8, (.iconst (-1), 9, 0, 0, (-1), 0, [], [])),
  (9, (.ireturn, 10, 0, 0, 0, 0, [], [])),
  (10, (.aload_n 0, 11, 0, 0, 0, 0, [], [])),
  (11, (.getfield 10, 14, 5, 0, 0, 0, [], [251])),
  (14, (.iload_n 1, 15, 1, 0, 0, 0, [], [])),
  (15, (.invokevirtual 182, 18, 6, 2, 0, 0, [], [585, 77, 582, 583, 584, 0])),
  (18, (.ifCond .eq 6, 21, 24, 0, 0, 0, [], [])),
  (21, (.bipush (-2), 23, 0, 0, (-2), 0, [], [])),
  (23, (.ireturn, 24, 0, 0, 0, 0, [], [])),
  (24, (.aload_n 0, 25, 0, 0, 0, 0, [], [])),
  (25, (.invokevirtual 185, 28, 94, 1, 0, 0, [], [565, 76, 562, 564, 19, 5])),
  (28, (.iconst 1, 29, 0, 0, 1, 0, [], [])),
  (29, (.istore_n 2, 30, 2, 0, 0, 0, [], [])),
  (30, (.iload_n 2, 31, 2, 0, 0, 0, [], [])),
  (31, (.bipush 60, 33, 0, 0, 60, 0, [], [])),
  (33, (.if_icmp .gt 30, 36, 63, 0, 0, 0, [], [])),
  (36, (.aload_n 0, 37, 0, 0, 0, 0, [], [])),
  (37, (.getfield 16, 40, 5, 1, 0, 0, [], [252])),
  (40, (.iconst 0, 41, 0, 0, 0, 0, [], [])),
  (41, (.invokevirtual 188, 44, 23, 2, 0, 0, [], [536, 77, 567, 534, 535, 0])),
  (44, (.aload_n 0, 45, 0, 0, 0, 0, [], [])),
  (45, (.getfield 16, 48, 5, 1, 0, 0, [], [252])),
  (48, (.iload_n 1, 49, 1, 0, 0, 0, [], [])),
  (49, (.invokevirtual 182, 52, 6, 2, 0, 0, [], [585, 77, 582, 583, 584, 0])),
  (52, (.ifCond .eq 5, 55, 57, 0, 0, 0, [], [])),
  (55, (.iload_n 2, 56, 2, 0, 0, 0, [], [])),
  (56, (.ireturn, 57, 0, 0, 0, 0, [], [])),
  (57, (.iinc 2 1, 60, 2, 0, 1, 0, [], [])),
  (60, (.goto (-30), 63, 30, 0, 0, 0, [], [])),
  (63, (.bipush (-4), 65, 0, 0, (-4), 0, [], [])),
  (65, (.ireturn, 66, 0, 0, 0, 0, [], []))]
def mX5_gone : hd_I := (RX5, yX5_gone, cX5_gone, 3, (some .int), 5, pX5_gone)
def pX5_glad : List (Nat × hd_O) := [
  (0, (.iload_n 1, 1, 1, 0, 0, 0, [], [])),
  (1, (.invokestatic 146, 4, 87, 1, 0, 0, [], [491, 76, 489, 490])),
  (4, (.ifCond .ne 5, 7, 9, 0, 0, 0, [], [])),
  (7, (.iconst (-1), 8, 0, 0, (-1), 0, [], [])),
  (8, (.ireturn, 9, 0, 0, 0, 0, [], [])),
  (9, (.aload_n 0, 10, 0, 0, 0, 0, [], [])),
  (10, (.invokevirtual 185, 13, 94, 1, 0, 0, [], [565, 76, 562, 564, 19, 5])),
  (13, (.iconst 0, 14, 0, 0, 0, 0, [], [])),
  (14, (.istore_n 2, 15, 2, 0, 0, 0, [], [])),
  (15, (.iload_n 2, 16, 2, 0, 0, 0, [], [])),
  (16, (.bipush 60, 18, 0, 0, 60, 0, [], [])),
  (18, (.if_icmp .ge 28, 21, 46, 0, 0, 0, [], [])),
  (21, (.aload_n 0, 22, 0, 0, 0, 0, [], [])),
  (22, (.getfield 16, 25, 5, 1, 0, 0, [], [252])),
  (25, (.getfield 97, 28, 0, 7, 0, 0, [], [120])),
  (28, (.iload_n 1, 29, 1, 0, 0, 0, [], [])),
  (29, (.if_icmp .ge 17, 32, 46, 0, 0, 0, [], [])),
  (32, (.aload_n 0, 33, 0, 0, 0, 0, [], [])),
  (33, (.getfield 16, 36, 5, 1, 0, 0, [], [252])),
  (36, (.iconst 0, 37, 0, 0, 0, 0, [], [])),
  (37, (.invokevirtual 188, 40, 23, 2, 0, 0, [], [536, 77, 567, 534, 535, 0])),
  (40, (.iinc 2 1, 43, 2, 0, 1, 0, [], [])),
  (43, (.goto (-28), 46, 15, 0, 0, 0, [], [])),
  (46, (.aload_n 0, 47, 0, 0, 0, 0, [], [])),
  (47, (.getfield 16, 50, 5, 1, 0, 0, [], [252])),
  (50, (.getfield 97, 53, 0, 7, 0, 0, [], [120])),
  (53, (.iload_n 1, 54, 1, 0, 0, 0, [], [])),
  (54, (.if_icmp .lt 21, 57, 75, 0, 0, 0, [], [])),
  (57, (.aload_n 0, 58, 0, 0, 0, 0, [], [])),
  (58, (.getfield 16, 61, 5, 1, 0, 0, [], [252])),
  (61, (.getfield 94, 64, 0, 9, 0, 0, [], [125])),
  (64, (.aload_n 0, 65, 0, 0, 0, 0, [], [])),
  (65, (.getfield 10, 68, 5, 0, 0, 0, [], [251])),
  (68, (.getfield 94, 71, 0, 9, 0, 0, [], [125])),
  (71, (.isub, 72, 0, 0, 0, 0, [], [])),
  (72, (.goto 5, 75, 77, 0, 0, 0, [], [])),
  (75, (.bipush (-4), 77, 0, 0, (-4), 0, [], [])),
  (77, (.ireturn, 78, 0, 0, 0, 0, [], []))]
def mX5_glad : hd_I := (RX5, yX5_glad, cX5_glad, 3, (some .int), 5, pX5_glad)
def pX5_order : List (Nat × hd_O) := [
  (0, (.iload_n 1, 1, 1, 0, 0, 0, [], [])),
  (1, (.ifCond .eq 16, 4, 17, 0, 0, 0, [], [])),
  (4, (.iload_n 1, 5, 1, 0, 0, 0, [], [])),
  (5, (.bipush 10, 7, 0, 0, 10, 0, [], [])),
  (7, (.bipush 14, 9, 0, 0, 14, 0, [], [])),
  (9, (.invokestatic 61, 12, 86, 3, 0, 0, [], [288, 76, 286, 287])),
  (12, (.ifCond .ne 5, 15, 17, 0, 0, 0, [], [])),
  (15, (.iconst (-1), 16, 0, 0, (-1), 0, [], [])),
  (16, (.ireturn, 17, 0, 0, 0, 0, [], [])),
  (17, (.aload_n 0, 18, 0, 0, 0, 0, [], [])),
  (18, (.getfield 10, 21, 5, 0, 0, 0, [], [251])),
  (21, (.getfield 93, 24, 0, 5, 0, 0, [], [114])),
  (24, (.iconst 5, 25, 0, 0, 5, 0, [], [])),
  (25, (.if_icmp .gt 13, 28, 38, 0, 0, 0, [], [])),
  (28, (.aload_n 0, 29, 0, 0, 0, 0, [], [])),
  (29, (.getfield 10, 32, 5, 0, 0, 0, [], [251])),
  (32, (.invokevirtual 149, 35, 5, 1, 0, 0, [], [503, 77, 500, 501, 502, 0])),
  (35, (.ifCond .ne 6, 38, 41, 0, 0, 0, [], [])),
  (38, (.bipush (-2), 40, 0, 0, (-2), 0, [], [])),
  (40, (.ireturn, 41, 0, 0, 0, 0, [], [])),
  (41, (.iload_n 1, 42, 1, 0, 0, 0, [], [])),
  (42, (.bipush 10, 44, 0, 0, 10, 0, [], [])),
  (44, (.isub, 45, 0, 0, 0, 0, [], [])),
  (45, (.aload_n 0, 46, 0, 0, 0, 0, [], [])),
  (46, (.getfield 10, 49, 5, 0, 0, 0, [], [251])),
  (49, (.getfield 93, 52, 0, 5, 0, 0, [], [114])),
  (52, (.if_icmp .lt 6, 55, 58, 0, 0, 0, [], [])),
  (55, (.bipush (-4), 57, 0, 0, (-4), 0, [], [])),
  (57, (.ireturn, 58, 0, 0, 0, 0, [], [])),
  (58, (.aload_n 0, 59, 0, 0, 0, 0, [], [])),
  (59, (.invokevirtual 192, 62, 102, 1, 0, 0, [], [597, 76, 594, 596, 22, 5])),
  (62, (.istore_n 2, 63, 2, 0, 0, 0, [], [])),
  (63, (.iload_n 1, 64, 1, 0, 0, 0, [], [])),
  (64, (.ifCond .ne 7, 67, 71, 0, 0, 0, [], [])),
  (67, (.iload_n 2, 68, 2, 0, 0, 0, [], [])),
  (68, (.goto 12, 71, 80, 0, 0, 0, [], [])),
  (71, (.aload_n 0, 72, 0, 0, 0, 0, [], [])),
  (72, (.getfield 49, 75, 5, 7, 0, 0, [], [258])),
  (75, (.iload_n 1, 76, 1, 0, 0, 0, [], [])),
  (76, (.bipush 10, 78, 0, 0, 10, 0, [], [])),
  (78, (.isub, 79, 0, 0, 0, 0, [], [])),
  (79, (.iaload, 80, 0, 0, 0, 0, [], [])),
  (80, (.ireturn, 81, 0, 0, 0, 0, [], []))]
def mX5_order : hd_I := (RX5, yX5_order, cX5_order, 3, (some .int), 6, pX5_order)
def pX5_leave : List (Nat × hd_O) := [
  (0, (.aload_n 0, 1, 0, 0, 0, 0, [], [])),
  (1, (.iload_n 1, 2, 1, 0, 0, 0, [], [])),
  (2, (.iload_n 2, 3, 2, 0, 0, 0, [], [])),
  (3, (.iconst 0, 4, 0, 0, 0, 0, [], [])),
  (4, (.invokevirtual 195, 7, 100, 4, 0, 0, [], [620, 76, 617, 619, 25, 5])),
  (7, (.ireturn, 8, 0, 0, 0, 0, [], []))]
def mX5_leave : hd_I := (RX5, yX5_leave, cX5_leave, 3, (some .int), 7, pX5_leave)
def pX5_top : List (Nat × hd_O) := [
  (0, (.aload_n 0, 1, 0, 0, 0, 0, [], [])),
  (1, (.iload_n 1, 2, 1, 0, 0, 0, [], [])),
  (2, (.iload_n 2, 3, 2, 0, 0, 0, [], [])),
  (3, (.iconst 1, 4, 0, 0, 1, 0, [], [])),
  (4, (.invokevirtual 195, 7, 100, 4, 0, 0, [], [620, 76, 617, 619, 25, 5])),
  (7, (.ireturn, 8, 0, 0, 0, 0, [], []))]
def mX5_top : hd_I := (RX5, yX5_top, cX5_top, 3, (some .int), 7, pX5_top)
def pX5_swap : List (Nat × hd_O) := [
  (0, (.iload_n 1, 1, 1, 0, 0, 0, [], [])),
  (1, (.invokestatic 166, 4, 88, 1, 0, 0, [], [553, 76, 551, 552])),
  (4, (.ifCond .eq 12, 7, 16, 0, 0, 0, [], [])),
  (7, (.iload_n 2, 8, 2, 0, 0, 0, [], [])),
  (8, (.iconst 0, 9, 0, 0, 0, 0, [], [])),
  (9, (.iconst 1, 10, 0, 0, 1, 0, [], [])),
  (10, (.invokestatic 61, 13, 86, 3, 0, 0, [], [288, 76, 286, 287])),
  (13, (.ifCond .ne 5, 16, 18, 0, 0, 0, [], [])),
  (16, (.iconst (-1), 17, 0, 0, (-1), 0, [], [])),
  (17, (.ireturn, 18, 0, 0, 0, 0, [], [])),
  (18, (.aload_n 0, 19, 0, 0, 0, 0, [], [])),
  (19, (.getfield 10, 22, 5, 0, 0, 0, [], [251])),
  (22, (.invokevirtual 149, 25, 5, 1, 0, 0, [], [503, 77, 500, 501, 502, 0])),
  (25, (.ifCond .ne 6, 28, 31, 0, 0, 0, [], [])),
  (28, (.bipush (-2), 30, 0, 0, (-2), 0, [], [])),
  (30, (.ireturn, 31, 0, 0, 0, 0, [], [])),
  (31, (.aload_n 0, 32, 0, 0, 0, 0, [], [])),
  (32, (.iload_n 1, 33, 1, 0, 0, 0, [], [])),
  (33, (.invokevirtual 169, 36, 95, 2, 0, 0, [], [557, 76, 554, 556, 17, 5])),
  (36, (.istore_n 3, 37, 3, 0, 0, 0, [], [])),
  (37, (.bipush (-4), 39, 0, 0, (-4), 0, [], [])),
  (39, (.istore 4, 41, 4, 0, 0, 0, [], [])),
  (41, (.iconst 0, 42, 0, 0, 0, 0, [], [])),
  (42, (.istore 5, 44, 5, 0, 0, 0, [], [])),
  (44, (.iload 5, 46, 5, 0, 0, 0, [], [])),
  (46, (.aload_n 0, 47, 0, 0, 0, 0, [], [])),
  (47, (.getfield 10, 50, 5, 0, 0, 0, [], [251])),
  (50, (.getfield 93, 53, 0, 5, 0, 0, [], [114])),
  (53, (.if_icmp .ge 84, 56, 137, 0, 0, 0, [], [])),
  (56, (.iload 5, 58, 5, 0, 0, 0, [], [])),
  (58, (.iconst 1, 59, 0, 0, 1, 0, [], [])),
  (59, (.iadd, 60, 0, 0, 0, 0, [], [])),
  (60, (.istore 6, 62, 6, 0, 0, 0, [], [])),
  (62, (.iload 6, 64, 6, 0, 0, 0, [], [])),
  (64, (.aload_n 0, 65, 0, 0, 0, 0, [], [])),
  (65, (.getfield 10, 68, 5, 0, 0, 0, [], [251])),
  (68, (.getfield 93, 71, 0, 5, 0, 0, [], [114])),
  (71, (.if_icmp .ge 60, 74, 131, 0, 0, 0, [], [])),
  (74, (.aload_n 0, 75, 0, 0, 0, 0, [], [])),
  (75, (.getfield 16, 78, 5, 1, 0, 0, [], [252])),
  (78, (.aload_n 0, 79, 0, 0, 0, 0, [], [])),
  (79, (.getfield 10, 82, 5, 0, 0, 0, [], [251])),
  (82, (.invokevirtual 82, 85, 1, 2, 0, 0, [], [419, 77, 416, 417, 418, 0])),
  (85, (.aload_n 0, 86, 0, 0, 0, 0, [], [])),
  (86, (.getfield 16, 89, 5, 1, 0, 0, [], [252])),
  (89, (.iload 5, 91, 5, 0, 0, 0, [], [])),
  (91, (.iload 6, 93, 6, 0, 0, 0, [], [])),
  (93, (.invokevirtual 199, 96, 13, 3, 0, 0, [], [628, 77, 649, 626, 627, 0])),
  (96, (.aload_n 0, 97, 0, 0, 0, 0, [], [])),
  (97, (.getfield 16, 100, 5, 1, 0, 0, [], [252])),
  (100, (.iload_n 1, 101, 1, 0, 0, 0, [], [])),
  (101, (.invokevirtual 163, 104, 22, 2, 0, 0, [], [528, 77, 525, 526, 527, 0])),
  (104, (.istore 7, 106, 7, 0, 0, 0, [], [])),
  (106, (.iload 7, 108, 7, 0, 0, 0, [], [])),
  (108, (.iload_n 3, 109, 3, 0, 0, 0, [], [])),
  (109, (.if_icmp .le 16, 112, 125, 0, 0, 0, [], [])),
  (112, (.iload 7, 114, 7, 0, 0, 0, [], [])),
  (114, (.istore_n 3, 115, 3, 0, 0, 0, [], [])),
  (115, (.bipush 10, 117, 0, 0, 10, 0, [], [])),
  (117, (.iload 5, 119, 5, 0, 0, 0, [], [])),
  (119, (.imul, 120, 0, 0, 0, 0, [], [])),
  (120, (.iload 6, 122, 6, 0, 0, 0, [], [])),
  (122, (.iadd, 123, 0, 0, 0, 0, [], [])),
  (123, (.istore 4, 125, 4, 0, 0, 0, [], [])),
  (125, (.iinc 6 1, 128, 6, 0, 1, 0, [], [])),
  (128, (.goto (-66), 131, 62, 0, 0, 0, [], [])),
  (131, (.iinc 5 1, 134, 5, 0, 1, 0, [], [])),
  (134, (.goto (-90), 137, 44, 0, 0, 0, [], [])),
  (137, (.iload 4, 139, 4, 0, 0, 0, [], [])),
  (139, (.iload_n 3, 140, 3, 0, 0, 0, [], [])),
  (140, (.iload_n 2, 141, 2, 0, 0, 0, [], [])),
  (141, (.invokestatic 203, 144, 101, 3, 0, 0, [], [640, 76, 638, 639])),
  (144, (.ireturn, 145, 0, 0, 0, 0, [], []))]
def mX5_swap : hd_I := (RX5, yX5_swap, cX5_swap, 8, (some .int), 6, pX5_swap)
def pX5_need : List (Nat × hd_O) := [
  (0, (.aload_n 0, 1, 0, 0, 0, 0, [], [])),
  (1, (.iload_n 1, 2, 1, 0, 0, 0, [], [])),
  (2, (.invokevirtual 113, 5, 92, 2, 0, 0, [], [463, 76, 460, 462, 14, 5])),
  (5, (.ifCond .eq 17, 8, 22, 0, 0, 0, [], [])),
  (8, (.iload_n 2, 9, 2, 0, 0, 0, [], [])),
  (9, (.invokestatic 166, 12, 88, 1, 0, 0, [], [553, 76, 551, 552])),
  (12, (.ifCond .eq 10, 15, 22, 0, 0, 0, [], [])),
  (15, (.iload_n 3, 16, 3, 0, 0, 0, [], [])),
  (16, (.invokestatic 146, 19, 87, 1, 0, 0, [], [491, 76, 489, 490])),
  (19, (.ifCond .ne 5, 22, 24, 0, 0, 0, [], [])),
  (22, (.iconst (-1), 23, 0, 0, (-1), 0, [], [])),
  (23, (.ireturn, 24, 0, 0, 0, 0, [], [])),
  (24, (.iconst 0, 25, 0, 0, 0, 0, [], [])),
  (25, (.istore 4, 27, 4, 0, 0, 0, [], [])),
  (27, (.iload 4, 29, 4, 0, 0, 0, [], [])),
  (29, (.bipush 10, 31, 0, 0, 10, 0, [], [])),
  (31, (.if_icmp .ge 25, 34, 56, 0, 0, 0, [], [])),
  (34, (.aload_n 0, 35, 0, 0, 0, 0, [], [])),
  (35, (.iload_n 1, 36, 1, 0, 0, 0, [], [])),
  (36, (.iconst 1, 37, 0, 0, 1, 0, [], [])),
  (37, (.iload 4, 39, 4, 0, 0, 0, [], [])),
  (39, (.iload_n 2, 40, 2, 0, 0, 0, [], [])),
  (40, (.invokevirtual 206, 43, 96, 5, 0, 0, [], [657, 76, 654, 656, 26, 5])),
  (43, (.iload_n 3, 44, 3, 0, 0, 0, [], [])),
  (44, (.if_icmp .lt 6, 47, 50, 0, 0, 0, [], [])),
  (47, (.iload 4, 49, 4, 0, 0, 0, [], [])),
  (49, (.ireturn, 50, 0, 0, 0, 0, [], [])),
  (50, (.iinc 4 1, 53, 4, 0, 1, 0, [], [])),
  (53, (.goto (-26), 56, 27, 0, 0, 0, [], [])),
  (56, (.bipush (-4), 58, 0, 0, (-4), 0, [], [])),
  (58, (.ireturn, 59, 0, 0, 0, 0, [], []))]
def mX5_need : hd_I := (RX5, yX5_need, cX5_need, 5, (some .int), 6, pX5_need)
def pX5_kind : List (Nat × hd_O) := [
  (0, (.aload_n 0, 1, 0, 0, 0, 0, [], [])),
  (1, (.iload_n 1, 2, 1, 0, 0, 0, [], [])),
  (2, (.invokevirtual 113, 5, 92, 2, 0, 0, [], [463, 76, 460, 462, 14, 5])),
  (5, (.ifCond .eq 19, 8, 24, 0, 0, 0, [], [])),
  (8, (.iload_n 2, 9, 2, 0, 0, 0, [], [])),
  (9, (.invokestatic 166, 12, 88, 1, 0, 0, [], [553, 76, 551, 552])),
  (12, (.ifCond .eq 12, 15, 24, 0, 0, 0, [], [])),
  (15, (.iload_n 3, 16, 3, 0, 0, 0, [], [])),
  (16, (.iconst 0, 17, 0, 0, 0, 0, [], [])),
  (17, (.iconst 1, 18, 0, 0, 1, 0, [], [])),
  (18, (.invokestatic 61, 21, 86, 3, 0, 0, [], [288, 76, 286, 287])),
  (21, (.ifCond .ne 5, 24, 26, 0, 0, 0, [], [])),
  (24, (.iconst (-1), 25, 0, 0, (-1), 0, [], [])),
  (25, (.ireturn, 26, 0, 0, 0, 0, [], [])),
  (26, (.iconst (-1), 27, 0, 0, (-1), 0, [], [])),
  (27, (.istore 4, 29, 4, 0, 0, 0, [], [])),
  (29, (.bipush (-4), 31, 0, 0, (-4), 0, [], [])),
  (31, (.istore 5, 33, 5, 0, 0, 0, [], [])),
  (33, (.iconst 0, 34, 0, 0, 0, 0, [], [])),
  (34, (.istore 6, 36, 6, 0, 0, 0, [], [])),
  (36, (.iload 6, 38, 6, 0, 0, 0, [], [])),
  (38, (.iconst 3, 39, 0, 0, 3, 0, [], [])),
  (39, (.if_icmp .gt 35, 42, 74, 0, 0, 0, [], [])),
  (42, (.aload_n 0, 43, 0, 0, 0, 0, [], [])),
  (43, (.iload_n 1, 44, 1, 0, 0, 0, [], [])),
  (44, (.iconst 0, 45, 0, 0, 0, 0, [], [])),
  (45, (.iload 6, 47, 6, 0, 0, 0, [], [])),
  (47, (.iload_n 2, 48, 2, 0, 0, 0, [], [])),
  (48, (.invokevirtual 206, 51, 96, 5, 0, 0, [], [657, 76, 654, 656, 26, 5])),
  (51, (.istore 7, 53, 7, 0, 0, 0, [], [])),
  (53, (.iload 7, 55, 7, 0, 0, 0, [], [])),
  (55, (.iload 4, 57, 4, 0, 0, 0, [], [])),
  (57, (.if_icmp .le 11, 60, 68, 0, 0, 0, [], [])),
  (60, (.iload 7, 62, 7, 0, 0, 0, [], [])),
  (62, (.istore 4, 64, 4, 0, 0, 0, [], [])),
  (64, (.iload 6, 66, 6, 0, 0, 0, [], [])),
  (66, (.istore 5, 68, 5, 0, 0, 0, [], [])),
  (68, (.iinc 6 1, 71, 6, 0, 1, 0, [], [])),
  (71, (.goto (-35), 74, 36, 0, 0, 0, [], [])),
  (74, (.iload 5, 76, 5, 0, 0, 0, [], [])),
  (76, (.iload 4, 78, 4, 0, 0, 0, [], [])),
  (78, (.iload_n 3, 79, 3, 0, 0, 0, [], [])),
  (79, (.invokestatic 203, 82, 101, 3, 0, 0, [], [640, 76, 638, 639])),
  (82, (.ireturn, 83, 0, 0, 0, 0, [], []))]
def mX5_kind : hd_I := (RX5, yX5_kind, cX5_kind, 8, (some .int), 6, pX5_kind)
def pX5_bear : List (Nat × hd_O) := [
  (0, (.iload_n 1, 1, 1, 0, 0, 0, [], [])),
  (1, (.invokestatic 166, 4, 88, 1, 0, 0, [], [553, 76, 551, 552])),
  (4, (.ifCond .eq 10, 7, 14, 0, 0, 0, [], [])),
  (7, (.iload_n 2, 8, 2, 0, 0, 0, [], [])),
  (8, (.invokestatic 146, 11, 87, 1, 0, 0, [], [491, 76, 489, 490])),
  (11, (.ifCond .ne 5, 14, 16, 0, 0, 0, [], [])),
  (14, (.iconst (-1), 15, 0, 0, (-1), 0, [], [])),
  (15, (.ireturn, 16, 0, 0, 0, 0, [], [])),
  (16, (.bipush 9, 18, 0, 0, 9, 0, [], [])),
  (18, (.istore_n 3, 19, 3, 0, 0, 0, [], [])),
  (19, (.iload_n 3, 20, 3, 0, 0, 0, [], [])),
  (20, (.ifCond .lt 42, 23, 62, 0, 0, 0, [], [])),
  (23, (.aload_n 0, 24, 0, 0, 0, 0, [], [])),
  (24, (.getfield 16, 27, 5, 1, 0, 0, [], [252])),
  (27, (.aload_n 0, 28, 0, 0, 0, 0, [], [])),
  (28, (.getfield 10, 31, 5, 0, 0, 0, [], [251])),
  (31, (.invokevirtual 82, 34, 1, 2, 0, 0, [], [419, 77, 416, 417, 418, 0])),
  (34, (.aload_n 0, 35, 0, 0, 0, 0, [], [])),
  (35, (.getfield 16, 38, 5, 1, 0, 0, [], [252])),
  (38, (.iload_n 3, 39, 3, 0, 0, 0, [], [])),
  (39, (.putfield 100, 42, 0, 8, 0, 0, [], [122])),
  (42, (.aload_n 0, 43, 0, 0, 0, 0, [], [])),
  (43, (.getfield 16, 46, 5, 1, 0, 0, [], [252])),
  (46, (.iload_n 1, 47, 1, 0, 0, 0, [], [])),
  (47, (.invokevirtual 163, 50, 22, 2, 0, 0, [], [528, 77, 525, 526, 527, 0])),
  (50, (.iload_n 2, 51, 2, 0, 0, 0, [], [])),
  (51, (.if_icmp .lt 5, 54, 56, 0, 0, 0, [], [])),
  (54, (.iload_n 3, 55, 3, 0, 0, 0, [], [])),
  (55, (.ireturn, 56, 0, 0, 0, 0, [], [])),
  (56, (.iinc 3 (-1), 59, 3, 0, (-1), 0, [], [])),
  (59, (.goto (-40), 62, 19, 0, 0, 0, [], [])),
  (62, (.bipush (-4), 64, 0, 0, (-4), 0, [], [])),
  (64, (.ireturn, 65, 0, 0, 0, 0, [], []))]
def mX5_bear : hd_I := (RX5, yX5_bear, cX5_bear, 4, (some .int), 5, pX5_bear)
def pX5_luck : List (Nat × hd_O) := [
  (0, (.iload_n 1, 1, 1, 0, 0, 0, [], [])),
  (1, (.iload_n 2, 2, 2, 0, 0, 0, [], [])),
  (2, (.invokestatic 210, 5, 89, 2, 0, 0, [], [672, 76, 670, 671])),
  (5, (.ifCond .eq 20, 8, 25, 0, 0, 0, [], [])),
  (8, (.iload_n 3, 9, 3, 0, 0, 0, [], [])),
  (9, (.invokestatic 146, 12, 87, 1, 0, 0, [], [491, 76, 489, 490])),
  (12, (.ifCond .eq 13, 15, 25, 0, 0, 0, [], [])),
  (15, (.iload 4, 17, 4, 0, 0, 0, [], [])),
  (17, (.iconst 0, 18, 0, 0, 0, 0, [], [])),
  (18, (.iconst 1, 19, 0, 0, 1, 0, [], [])),
  (19, (.invokestatic 61, 22, 86, 3, 0, 0, [], [288, 76, 286, 287])),
  (22, (.ifCond .ne 7, 25, 29, 0, 0, 0, [], [])),
  (25, (.ldc2_w 213, 28, 0, 0, 0, (-1), [], [673])),
  (28, (.lreturn, 29, 0, 0, 0, 0, [], [])),
  (29, (.lconst 0, 30, 0, 0, 0, 0, [], [])),
  (30, (.lstore 5, 32, 5, 0, 0, 0, [], [])),
  (32, (.iconst 0, 33, 0, 0, 0, 0, [], [])),
  (33, (.istore 7, 35, 7, 0, 0, 0, [], [])),
  (35, (.iload 7, 37, 7, 0, 0, 0, [], [])),
  (37, (.iconst 1, 38, 0, 0, 1, 0, [], [])),
  (38, (.iload_n 2, 39, 2, 0, 0, 0, [], [])),
  (39, (.ishl, 40, 0, 0, 0, 0, [], [])),
  (40, (.if_icmp .ge 32, 43, 72, 0, 0, 0, [], [])),
  (43, (.aload_n 0, 44, 0, 0, 0, 0, [], [])),
  (44, (.iload 7, 46, 7, 0, 0, 0, [], [])),
  (46, (.iload_n 2, 47, 2, 0, 0, 0, [], [])),
  (47, (.invokevirtual 215, 50, 105, 3, 0, 0, [], [677, 76, 674, 676, 27, 5])),
  (50, (.iload_n 3, 51, 3, 0, 0, 0, [], [])),
  (51, (.if_icmp .lt 15, 54, 66, 0, 0, 0, [], [])),
  (54, (.lload 5, 56, 5, 0, 0, 0, [], [])),
  (56, (.iload 7, 58, 7, 0, 0, 0, [], [])),
  (58, (.iload_n 1, 59, 1, 0, 0, 0, [], [])),
  (59, (.iload_n 2, 60, 2, 0, 0, 0, [], [])),
  (60, (.invokestatic 219, 63, 106, 3, 0, 0, [], [680, 76, 678, 679])),
  (63, (.ladd, 64, 0, 0, 0, 0, [], [])),
  (64, (.lstore 5, 66, 5, 0, 0, 0, [], [])),
  (66, (.iinc 7 1, 69, 7, 0, 1, 0, [], [])),
  (69, (.goto (-34), 72, 35, 0, 0, 0, [], [])),
  (72, (.lload 5, 74, 5, 0, 0, 0, [], [])),
  (74, (.iconst 0, 75, 0, 0, 0, 0, [], [])),
  (75, (.iconst 0, 76, 0, 0, 0, 0, [], [])),
  (76, (.iload_n 2, 77, 2, 0, 0, 0, [], [])),
  (77, (.invokestatic 219, 80, 106, 3, 0, 0, [], [680, 76, 678, 679])),
  (80, (.iload 4, 82, 4, 0, 0, 0, [], [])),
  (82, (.invokestatic 223, 85, 107, 3, 0, 0, [], [683, 76, 681, 682])),
  (85, (.lreturn, 86, 0, 0, 0, 0, [], []))]
def mX5_luck : hd_I := (RX5, yX5_luck, cX5_luck, 8, (some .long), 6, pX5_luck)
def pX5_mean : List (Nat × hd_O) := [
  (0, (.iload_n 1, 1, 1, 0, 0, 0, [], [])),
  (1, (.iload_n 2, 2, 2, 0, 0, 0, [], [])),
  (2, (.invokestatic 210, 5, 89, 2, 0, 0, [], [672, 76, 670, 671])),
  (5, (.ifCond .eq 12, 8, 17, 0, 0, 0, [], [])),
  (8, (.iload_n 3, 9, 3, 0, 0, 0, [], [])),
  (9, (.iconst 0, 10, 0, 0, 0, 0, [], [])),
  (10, (.iconst 1, 11, 0, 0, 1, 0, [], [])),
  (11, (.invokestatic 61, 14, 86, 3, 0, 0, [], [288, 76, 286, 287])),
  (14, (.ifCond .ne 7, 17, 21, 0, 0, 0, [], [])),
  (17, (.ldc2_w 213, 20, 0, 0, 0, (-1), [], [673])),
  (20, (.lreturn, 21, 0, 0, 0, 0, [], [])),
  (21, (.lconst 0, 22, 0, 0, 0, 0, [], [])),
  (22, (.lstore 4, 24, 4, 0, 0, 0, [], [])),
  (24, (.iconst 0, 25, 0, 0, 0, 0, [], [])),
  (25, (.istore 6, 27, 6, 0, 0, 0, [], [])),
  (27, (.iload 6, 29, 6, 0, 0, 0, [], [])),
  (29, (.iconst 1, 30, 0, 0, 1, 0, [], [])),
  (30, (.iload_n 2, 31, 2, 0, 0, 0, [], [])),
  (31, (.ishl, 32, 0, 0, 0, 0, [], [])),
  (32, (.if_icmp .ge 30, 35, 62, 0, 0, 0, [], [])),
  (35, (.lload 4, 37, 4, 0, 0, 0, [], [])),
  (37, (.iload 6, 39, 6, 0, 0, 0, [], [])),
  (39, (.iload_n 1, 40, 1, 0, 0, 0, [], [])),
  (40, (.iload_n 2, 41, 2, 0, 0, 0, [], [])),
  (41, (.invokestatic 219, 44, 106, 3, 0, 0, [], [680, 76, 678, 679])),
  (44, (.aload_n 0, 45, 0, 0, 0, 0, [], [])),
  (45, (.iload 6, 47, 6, 0, 0, 0, [], [])),
  (47, (.iload_n 2, 48, 2, 0, 0, 0, [], [])),
  (48, (.invokevirtual 215, 51, 105, 3, 0, 0, [], [677, 76, 674, 676, 27, 5])),
  (51, (.i2l, 52, 0, 0, 0, 0, [], [])),
  (52, (.lmul, 53, 0, 0, 0, 0, [], [])),
  (53, (.ladd, 54, 0, 0, 0, 0, [], [])),
  (54, (.lstore 4, 56, 4, 0, 0, 0, [], [])),
  (56, (.iinc 6 1, 59, 6, 0, 1, 0, [], [])),
  (59, (.goto (-32), 62, 27, 0, 0, 0, [], [])),
  (62, (.lload 4, 64, 4, 0, 0, 0, [], [])),
  (64, (.iconst 0, 65, 0, 0, 0, 0, [], [])),
  (65, (.iconst 0, 66, 0, 0, 0, 0, [], [])),
  (66, (.iload_n 2, 67, 2, 0, 0, 0, [], [])),
  (67, (.invokestatic 219, 70, 106, 3, 0, 0, [], [680, 76, 678, 679])),
  (70, (.iload_n 3, 71, 3, 0, 0, 0, [], [])),
  (71, (.invokestatic 223, 74, 107, 3, 0, 0, [], [683, 76, 681, 682])),
  (74, (.lreturn, 75, 0, 0, 0, 0, [], []))]
def mX5_mean : hd_I := (RX5, yX5_mean, cX5_mean, 7, (some .long), 6, pX5_mean)
def pX5_see : List (Nat × hd_O) := [
  (0, (.iload_n 1, 1, 1, 0, 0, 0, [], [])),
  (1, (.iconst 0, 2, 0, 0, 0, 0, [], [])),
  (2, (.bipush 20, 4, 0, 0, 20, 0, [], [])),
  (4, (.invokestatic 61, 7, 86, 3, 0, 0, [], [288, 76, 286, 287])),
  (7, (.ifCond .eq 10, 10, 17, 0, 0, 0, [], [])),
  (10, (.iload_n 2, 11, 2, 0, 0, 0, [], [])),
  (11, (.invokestatic 146, 14, 87, 1, 0, 0, [], [491, 76, 489, 490])),
  (14, (.ifCond .ne 5, 17, 19, 0, 0, 0, [], [])),
  (17, (.iconst (-1), 18, 0, 0, (-1), 0, [], [])),
  (18, (.ireturn, 19, 0, 0, 0, 0, [], [])),
  (19, (.aload_n 0, 20, 0, 0, 0, 0, [], [])),
  (20, (.getfield 22, 23, 5, 2, 0, 0, [], [253])),
  (23, (.iload_n 1, 24, 1, 0, 0, 0, [], [])),
  (24, (.iload_n 2, 25, 2, 0, 0, 0, [], [])),
  (25, (.invokevirtual 227, 28, 28, 3, 0, 0, [], [695, 78, 692, 693, 694, 2])),
  (28, (.ifCond .eq 13, 31, 41, 0, 0, 0, [], [])),
  (31, (.aload_n 0, 32, 0, 0, 0, 0, [], [])),
  (32, (.getfield 22, 35, 5, 2, 0, 0, [], [253])),
  (35, (.getfield 86, 38, 2, 2, 0, 0, [], [159])),
  (38, (.goto 5, 41, 43, 0, 0, 0, [], [])),
  (41, (.bipush (-3), 43, 0, 0, (-3), 0, [], [])),
  (43, (.ireturn, 44, 0, 0, 0, 0, [], []))]
def mX5_see : hd_I := (RX5, yX5_see, cX5_see, 3, (some .int), 3, pX5_see)
def pX5_forget : List (Nat × hd_O) := [
  (0, (.iload_n 1, 1, 1, 0, 0, 0, [], [])),
  (1, (.iconst 0, 2, 0, 0, 0, 0, [], [])),
  (2, (.aload_n 0, 3, 0, 0, 0, 0, [], [])),
  (3, (.getfield 22, 6, 5, 2, 0, 0, [], [253])),
  (6, (.getfield 86, 9, 2, 2, 0, 0, [], [159])),
  (9, (.invokestatic 61, 12, 86, 3, 0, 0, [], [288, 76, 286, 287])),
  (12, (.ifCond .ne 5, 15, 17, 0, 0, 0, [], [])),
  (15, (.iconst (-1), 16, 0, 0, (-1), 0, [], [])),
  (16, (.ireturn, 17, 0, 0, 0, 0, [], [])),
  (17, (.aload_n 0, 18, 0, 0, 0, 0, [], [])),
  (18, (.getfield 22, 21, 5, 2, 0, 0, [], [253])),
  (21, (.getfield 86, 24, 2, 2, 0, 0, [], [159])),
  (24, (.istore_n 2, 25, 2, 0, 0, 0, [], [])),
  (25, (.aload_n 0, 26, 0, 0, 0, 0, [], [])),
  (26, (.getfield 22, 29, 5, 2, 0, 0, [], [253])),
  (29, (.iload_n 1, 30, 1, 0, 0, 0, [], [])),
  (30, (.putfield 86, 33, 2, 2, 0, 0, [], [159])),
  (33, (.iload_n 2, 34, 2, 0, 0, 0, [], [])),
  (34, (.ireturn, 35, 0, 0, 0, 0, [], []))]
def mX5_forget : hd_I := (RX5, yX5_forget, cX5_forget, 3, (some .int), 2, pX5_forget)
def pX5_kinds : List (Nat × hd_O) := [
  (0, (.aload_n 0, 1, 0, 0, 0, 0, [], [])),
  (1, (.iload_n 1, 2, 1, 0, 0, 0, [], [])),
  (2, (.invokevirtual 113, 5, 92, 2, 0, 0, [], [463, 76, 460, 462, 14, 5])),
  (5, (.ifCond .eq 13, 8, 18, 0, 0, 0, [], [])),
  (8, (.aload_n 0, 9, 0, 0, 0, 0, [], [])),
  (9, (.iload_n 1, 10, 1, 0, 0, 0, [], [])),
  (10, (.iconst 0, 11, 0, 0, 0, 0, [], [])),
  (11, (.iconst 3, 12, 0, 0, 3, 0, [], [])),
  (12, (.invokevirtual 229, 15, 108, 4, 0, 0, [], [707, 76, 704, 706, 28, 5])),
  (15, (.goto 4, 18, 19, 0, 0, 0, [], [])),
  (18, (.iconst (-1), 19, 0, 0, (-1), 0, [], [])),
  (19, (.ireturn, 20, 0, 0, 0, 0, [], []))]
def mX5_kinds : hd_I := (RX5, yX5_kinds, cX5_kinds, 2, (some .int), 8, pX5_kinds)
def pX5_goods : List (Nat × hd_O) := [
  (0, (.aload_n 0, 1, 0, 0, 0, 0, [], [])),
  (1, (.iload_n 1, 2, 1, 0, 0, 0, [], [])),
  (2, (.invokevirtual 113, 5, 92, 2, 0, 0, [], [463, 76, 460, 462, 14, 5])),
  (5, (.ifCond .eq 14, 8, 19, 0, 0, 0, [], [])),
  (8, (.aload_n 0, 9, 0, 0, 0, 0, [], [])),
  (9, (.iload_n 1, 10, 1, 0, 0, 0, [], [])),
  (10, (.iconst 1, 11, 0, 0, 1, 0, [], [])),
  (11, (.bipush 9, 13, 0, 0, 9, 0, [], [])),
  (13, (.invokevirtual 229, 16, 108, 4, 0, 0, [], [707, 76, 704, 706, 28, 5])),
  (16, (.goto 4, 19, 20, 0, 0, 0, [], [])),
  (19, (.iconst (-1), 20, 0, 0, (-1), 0, [], [])),
  (20, (.ireturn, 21, 0, 0, 0, 0, [], []))]
def mX5_goods : hd_I := (RX5, yX5_goods, cX5_goods, 2, (some .int), 8, pX5_goods)
def pX5_ask : List (Nat × hd_O) := [
  (0, (.aload_n 0, 1, 0, 0, 0, 0, [], [])),
  (1, (.iload_n 1, 2, 1, 0, 0, 0, [], [])),
  (2, (.invokevirtual 113, 5, 92, 2, 0, 0, [], [463, 76, 460, 462, 14, 5])),
  (5, (.ifCond .eq 12, 8, 17, 0, 0, 0, [], [])),
  (8, (.iload_n 2, 9, 2, 0, 0, 0, [], [])),
  (9, (.iconst 0, 10, 0, 0, 0, 0, [], [])),
  (10, (.iconst 1, 11, 0, 0, 1, 0, [], [])),
  (11, (.invokestatic 61, 14, 86, 3, 0, 0, [], [288, 76, 286, 287])),
  (14, (.ifCond .ne 5, 17, 19, 0, 0, 0, [], [])),
  (17, (.iconst (-1), 18, 0, 0, (-1), 0, [], [])),
  (18, (.ireturn, 19, 0, 0, 0, 0, [], [])),
  (19, (.aload_n 0, 20, 0, 0, 0, 0, [], [])),
  (20, (.iload_n 1, 21, 1, 0, 0, 0, [], [])),
  (21, (.iconst 1, 22, 0, 0, 1, 0, [], [])),
  (22, (.bipush 9, 24, 0, 0, 9, 0, [], [])),
  (24, (.invokevirtual 229, 27, 108, 4, 0, 0, [], [707, 76, 704, 706, 28, 5])),
  (27, (.istore_n 3, 28, 3, 0, 0, 0, [], [])),
  (28, (.aload_n 0, 29, 0, 0, 0, 0, [], [])),
  (29, (.iload_n 1, 30, 1, 0, 0, 0, [], [])),
  (30, (.iload_n 3, 31, 3, 0, 0, 0, [], [])),
  (31, (.invokevirtual 232, 34, 110, 3, 0, 0, [], [723, 76, 720, 722, 30, 5])),
  (34, (.iload_n 3, 35, 3, 0, 0, 0, [], [])),
  (35, (.invokestatic 235, 38, 201, 1, 0, 0, [], [726, 89, 724, 725])),
  (38, (.istore 4, 40, 4, 0, 0, 0, [], [])),
  (40, (.bipush (-4), 42, 0, 0, (-4), 0, [], [])),
  (42, (.istore 5, 44, 5, 0, 0, 0, [], [])),
  (44, (.iconst 0, 45, 0, 0, 0, 0, [], [])),
  (45, (.istore 6, 47, 6, 0, 0, 0, [], [])),
  (47, (.iload 6, 49, 6, 0, 0, 0, [], [])),
  (49, (.bipush 20, 51, 0, 0, 20, 0, [], [])),
  (51, (.if_icmp .gt 33, 54, 84, 0, 0, 0, [], [])),
  (54, (.aload_n 0, 55, 0, 0, 0, 0, [], [])),
  (55, (.iload 6, 57, 6, 0, 0, 0, [], [])),
  (57, (.iload_n 3, 58, 3, 0, 0, 0, [], [])),
  (58, (.invokevirtual 240, 61, 111, 3, 0, 0, [], [733, 76, 730, 732, 31, 5])),
  (61, (.istore 7, 63, 7, 0, 0, 0, [], [])),
  (63, (.iload 7, 65, 7, 0, 0, 0, [], [])),
  (65, (.iload 4, 67, 4, 0, 0, 0, [], [])),
  (67, (.if_icmp .ge 11, 70, 78, 0, 0, 0, [], [])),
  (70, (.iload 7, 72, 7, 0, 0, 0, [], [])),
  (72, (.istore 4, 74, 4, 0, 0, 0, [], [])),
  (74, (.iload 6, 76, 6, 0, 0, 0, [], [])),
  (76, (.istore 5, 78, 5, 0, 0, 0, [], [])),
  (78, (.iinc 6 1, 81, 6, 0, 1, 0, [], [])),
  (81, (.goto (-34), 84, 47, 0, 0, 0, [], [])),
  (84, (.iload 5, 86, 5, 0, 0, 0, [], [])),
  (86, (.iload 4, 88, 4, 0, 0, 0, [], [])),
  (88, (.iload_n 2, 89, 2, 0, 0, 0, [], [])),
  (89, (.invokestatic 203, 92, 101, 3, 0, 0, [], [640, 76, 638, 639])),
  (92, (.ireturn, 93, 0, 0, 0, 0, [], []))]
def mX5_ask : hd_I := (RX5, yX5_ask, cX5_ask, 8, (some .int), 8, pX5_ask)
def pX5_drift : List (Nat × hd_O) := [
  (0, (.iload_n 2, 1, 2, 0, 0, 0, [], [])),
  (1, (.iconst 1, 2, 0, 0, 1, 0, [], [])),
  (2, (.bipush 60, 4, 0, 0, 60, 0, [], [])),
  (4, (.invokestatic 61, 7, 86, 3, 0, 0, [], [288, 76, 286, 287])),
  (7, (.ifCond .eq 12, 10, 19, 0, 0, 0, [], [])),
  (10, (.iload_n 3, 11, 3, 0, 0, 0, [], [])),
  (11, (.iconst 0, 12, 0, 0, 0, 0, [], [])),
  (12, (.iconst 1, 13, 0, 0, 1, 0, [], [])),
  (13, (.invokestatic 61, 16, 86, 3, 0, 0, [], [288, 76, 286, 287])),
  (16, (.ifCond .ne 5, 19, 21, 0, 0, 0, [], [])),
  (19, (.iconst (-1), 20, 0, 0, (-1), 0, [], [])),
  (20, (.ireturn, 21, 0, 0, 0, 0, [], [])),
  (21, (.aload_n 0, 22, 0, 0, 0, 0, [], [])),
  (22, (.getfield 10, 25, 5, 0, 0, 0, [], [251])),
  (25, (.getfield 93, 28, 0, 5, 0, 0, [], [114])),
  (28, (.ifCond .ne 6, 31, 34, 0, 0, 0, [], [])),
  (31, (.bipush (-2), 33, 0, 0, (-2), 0, [], [])),
  (33, (.ireturn, 34, 0, 0, 0, 0, [], [])),
  (34, (.aload_n 0, 35, 0, 0, 0, 0, [], [])),
  (35, (.getfield 16, 38, 5, 1, 0, 0, [], [252])),
  (38, (.aload_n 0, 39, 0, 0, 0, 0, [], [])),
  (39, (.getfield 10, 42, 5, 0, 0, 0, [], [251])),
  (42, (.invokevirtual 82, 45, 1, 2, 0, 0, [], [419, 77, 416, 417, 418, 0])),
  (45, (.iload_n 1, 46, 1, 0, 0, 0, [], [])),
  (46, (.istore 4, 48, 4, 0, 0, 0, [], [])),
  (48, (.iconst 0, 49, 0, 0, 0, 0, [], [])),
  (49, (.istore 5, 51, 5, 0, 0, 0, [], [])),
  (51, (.iload 5, 53, 5, 0, 0, 0, [], [])),
  (53, (.iload_n 2, 54, 2, 0, 0, 0, [], [])),
  (54, (.if_icmp .ge 45, 57, 99, 0, 0, 0, [], [])),
  (57, (.iload 4, 59, 4, 0, 0, 0, [], [])),
  (59, (.ldc 243, 61, 0, 0, 1103515245, 0, [], [742])),
  (61, (.imul, 62, 0, 0, 0, 0, [], [])),
  (62, (.sipush 12345, 65, 0, 0, 12345, 0, [], [])),
  (65, (.iadd, 66, 0, 0, 0, 0, [], [])),
  (66, (.istore 4, 68, 4, 0, 0, 0, [], [])),
  (68, (.aload_n 0, 69, 0, 0, 0, 0, [], [])),
  (69, (.getfield 16, 72, 5, 1, 0, 0, [], [252])),
  (72, (.iload 4, 74, 4, 0, 0, 0, [], [])),
  (74, (.bipush 16, 76, 0, 0, 16, 0, [], [])),
  (76, (.iushr, 77, 0, 0, 0, 0, [], [])),
  (77, (.sipush 32767, 80, 0, 0, 32767, 0, [], [])),
  (80, (.iand, 81, 0, 0, 0, 0, [], [])),
  (81, (.invokevirtual 244, 84, 24, 2, 0, 0, [], [746, 77, 743, 744, 745, 0])),
  (84, (.aload_n 0, 85, 0, 0, 0, 0, [], [])),
  (85, (.getfield 16, 88, 5, 1, 0, 0, [], [252])),
  (88, (.iconst 1, 89, 0, 0, 1, 0, [], [])),
  (89, (.invokevirtual 163, 92, 22, 2, 0, 0, [], [528, 77, 525, 526, 527, 0])),
  (92, (.pop, 93, 0, 0, 0, 0, [], [])),
  (93, (.iinc 5 1, 96, 5, 0, 1, 0, [], [])),
  (96, (.goto (-45), 99, 51, 0, 0, 0, [], [])),
  (99, (.iload_n 3, 100, 3, 0, 0, 0, [], [])),
  (100, (.ifCond .ne 13, 103, 113, 0, 0, 0, [], [])),
  (103, (.aload_n 0, 104, 0, 0, 0, 0, [], [])),
  (104, (.getfield 16, 107, 5, 1, 0, 0, [], [252])),
  (107, (.getfield 97, 110, 0, 7, 0, 0, [], [120])),
  (110, (.goto 10, 113, 120, 0, 0, 0, [], [])),
  (113, (.aload_n 0, 114, 0, 0, 0, 0, [], [])),
  (114, (.getfield 16, 117, 5, 1, 0, 0, [], [252])),
  (117, (.invokevirtual 106, 120, 25, 1, 0, 0, [], [439, 77, 436, 437, 438, 0])),
  (120, (.ireturn, 121, 0, 0, 0, 0, [], []))]
def mX5_drift : hd_I := (RX5, yX5_drift, cX5_drift, 6, (some .int), 5, pX5_drift)
def pX5_keep : List (Nat × hd_O) := [
  (0, (.iload_n 1, 1, 1, 0, 0, 0, [], [])),
  (1, (.iconst 0, 2, 0, 0, 0, 0, [], [])),
  (2, (.iconst 1, 3, 0, 0, 1, 0, [], [])),
  (3, (.invokestatic 61, 6, 86, 3, 0, 0, [], [288, 76, 286, 287])),
  (6, (.ifCond .ne 5, 9, 11, 0, 0, 0, [], [])),
  (9, (.iconst (-1), 10, 0, 0, (-1), 0, [], [])),
  (10, (.ireturn, 11, 0, 0, 0, 0, [], [])),
  (11, (.aload_n 0, 12, 0, 0, 0, 0, [], [])),
  (12, (.getfield 35, 15, 5, 4, 0, 0, [], [255])),
  (15, (.iload_n 1, 16, 1, 0, 0, 0, [], [])),
  (16, (.aaload, 17, 0, 0, 0, 0, [], [])),
  (17, (.astore_n 2, 18, 2, 0, 0, 0, [], [])),
  (18, (.aload_n 2, 19, 2, 0, 0, 0, [], [])),
  (19, (.getfield 89, 22, 1, 2, 0, 0, [], [226])),
  (22, (.ifCond .eq 7, 25, 29, 0, 0, 0, [], [])),
  (25, (.iconst 1, 26, 0, 0, 1, 0, [], [])),
  (26, (.goto 4, 29, 30, 0, 0, 0, [], [])),
  (29, (.iconst 0, 30, 0, 0, 0, 0, [], [])),
  (30, (.istore_n 3, 31, 3, 0, 0, 0, [], [])),
  (31, (.aload_n 2, 32, 2, 0, 0, 0, [], [])),
  (32, (.getfield 247, 35, 1, 0, 0, 0, [], [222])),
  (35, (.aload_n 0, 36, 0, 0, 0, 0, [], [])),
  (36, (.getfield 10, 39, 5, 0, 0, 0, [], [251])),
  (39, (.invokevirtual 82, 42, 1, 2, 0, 0, [], [419, 77, 416, 417, 418, 0])),
  (42, (.aload_n 2, 43, 2, 0, 0, 0, [], [])),
  (43, (.getfield 250, 46, 1, 1, 0, 0, [], [224])),
  (46, (.aload_n 0, 47, 0, 0, 0, 0, [], [])),
  (47, (.getfield 22, 50, 5, 2, 0, 0, [], [253])),
  (50, (.invokevirtual 251, 53, 29, 2, 0, 0, [], [755, 78, 752, 753, 754, 2])),
  (53, (.aload_n 2, 54, 2, 0, 0, 0, [], [])),
  (54, (.iconst 1, 55, 0, 0, 1, 0, [], [])),
  (55, (.putfield 89, 58, 1, 2, 1, 0, [], [226])),
  (58, (.iload_n 3, 59, 3, 0, 0, 0, [], [])),
  (59, (.ireturn, 60, 0, 0, 0, 0, [], []))]
def mX5_keep : hd_I := (RX5, yX5_keep, cX5_keep, 4, (some .int), 3, pX5_keep)
def pX5_back : List (Nat × hd_O) := [
  (0, (.iload_n 1, 1, 1, 0, 0, 0, [], [])),
  (1, (.iconst 0, 2, 0, 0, 0, 0, [], [])),
  (2, (.iconst 1, 3, 0, 0, 1, 0, [], [])),
  (3, (.invokestatic 61, 6, 86, 3, 0, 0, [], [288, 76, 286, 287])),
  (6, (.ifCond .ne 5, 9, 11, 0, 0, 0, [], [])),
  (9, (.iconst (-1), 10, 0, 0, (-1), 0, [], [])),
  (10, (.ireturn, 11, 0, 0, 0, 0, [], [])),
  (11, (.aload_n 0, 12, 0, 0, 0, 0, [], [])),
  (12, (.getfield 35, 15, 5, 4, 0, 0, [], [255])),
  (15, (.iload_n 1, 16, 1, 0, 0, 0, [], [])),
  (16, (.aaload, 17, 0, 0, 0, 0, [], [])),
  (17, (.astore_n 2, 18, 2, 0, 0, 0, [], [])),
  (18, (.aload_n 2, 19, 2, 0, 0, 0, [], [])),
  (19, (.getfield 89, 22, 1, 2, 0, 0, [], [226])),
  (22, (.ifCond .ne 6, 25, 28, 0, 0, 0, [], [])),
  (25, (.bipush (-2), 27, 0, 0, (-2), 0, [], [])),
  (27, (.ireturn, 28, 0, 0, 0, 0, [], [])),
  (28, (.aload_n 0, 29, 0, 0, 0, 0, [], [])),
  (29, (.getfield 10, 32, 5, 0, 0, 0, [], [251])),
  (32, (.aload_n 2, 33, 2, 0, 0, 0, [], [])),
  (33, (.getfield 247, 36, 1, 0, 0, 0, [], [222])),
  (36, (.invokevirtual 82, 39, 1, 2, 0, 0, [], [419, 77, 416, 417, 418, 0])),
  (39, (.aload_n 0, 40, 0, 0, 0, 0, [], [])),
  (40, (.getfield 22, 43, 5, 2, 0, 0, [], [253])),
  (43, (.aload_n 2, 44, 2, 0, 0, 0, [], [])),
  (44, (.getfield 250, 47, 1, 1, 0, 0, [], [224])),
  (47, (.invokevirtual 251, 50, 29, 2, 0, 0, [], [755, 78, 752, 753, 754, 2])),
  (50, (.aload_n 0, 51, 0, 0, 0, 0, [], [])),
  (51, (.getfield 10, 54, 5, 0, 0, 0, [], [251])),
  (54, (.getfield 94, 57, 0, 9, 0, 0, [], [125])),
  (57, (.ireturn, 58, 0, 0, 0, 0, [], []))]
def mX5_back : hd_I := (RX5, yX5_back, cX5_back, 3, (some .int), 3, pX5_back)
def pX5_sheet : List (Nat × hd_O) := [
  (0, (.iload_n 1, 1, 1, 0, 0, 0, [], [])),
  (1, (.invokestatic 254, 4, 90, 1, 0, 0, [], [767, 76, 765, 766])),
  (4, (.ifCond .eq 16, 7, 20, 0, 0, 0, [], [])),
  (7, (.iload_n 2, 8, 2, 0, 0, 0, [], [])),
  (8, (.invokestatic 257, 11, 91, 1, 0, 0, [], [770, 76, 768, 769])),
  (11, (.ifCond .eq 9, 14, 20, 0, 0, 0, [], [])),
  (14, (.iload_n 3, 15, 3, 0, 0, 0, [], [])),
  (15, (.bipush 40, 17, 0, 0, 40, 0, [], [])),
  (17, (.if_icmp .le 5, 20, 22, 0, 0, 0, [], [])),
  (20, (.iconst (-1), 21, 0, 0, (-1), 0, [], [])),
  (21, (.ireturn, 22, 0, 0, 0, 0, [], [])),
  (22, (.iload_n 3, 23, 3, 0, 0, 0, [], [])),
  (23, (.ifCond .ge 6, 26, 29, 0, 0, 0, [], [])),
  (26, (.bipush (-14), 28, 0, 0, (-14), 0, [], [])),
  (28, (.ireturn, 29, 0, 0, 0, 0, [], [])),
  (29, (.aload_n 0, 30, 0, 0, 0, 0, [], [])),
  (30, (.getfield 41, 33, 5, 5, 0, 0, [], [256])),
  (33, (.iload_n 1, 34, 1, 0, 0, 0, [], [])),
  (34, (.aaload, 35, 0, 0, 0, 0, [], [])),
  (35, (.iload_n 2, 36, 2, 0, 0, 0, [], [])),
  (36, (.iload_n 3, 37, 3, 0, 0, 0, [], [])),
  (37, (.invokevirtual 260, 40, 30, 3, 0, 0, [], [774, 81, 771, 772, 773, 3])),
  (40, (.iconst 1, 41, 0, 0, 1, 0, [], [])),
  (41, (.ireturn, 42, 0, 0, 0, 0, [], []))]
def mX5_sheet : hd_I := (RX5, yX5_sheet, cX5_sheet, 4, (some .int), 3, pX5_sheet)
def pX5_lay : List (Nat × hd_O) := [
  (0, (.iload_n 1, 1, 1, 0, 0, 0, [], [])),
  (1, (.invokestatic 254, 4, 90, 1, 0, 0, [], [767, 76, 765, 766])),
  (4, (.ifCond .ne 5, 7, 9, 0, 0, 0, [], [])),
  (7, (.iconst (-1), 8, 0, 0, (-1), 0, [], [])),
  (8, (.ireturn, 9, 0, 0, 0, 0, [], [])),
  (9, (.aload_n 0, 10, 0, 0, 0, 0, [], [])),
  (10, (.getfield 41, 13, 5, 5, 0, 0, [], [256])),
  (13, (.iload_n 1, 14, 1, 0, 0, 0, [], [])),
  (14, (.aaload, 15, 0, 0, 0, 0, [], [])),
  (15, (.iload_n 2, 16, 2, 0, 0, 0, [], [])),
  (16, (.invokevirtual 263, 19, 31, 2, 0, 0, [], [782, 81, 779, 780, 781, 3])),
  (19, (.istore 4, 21, 4, 0, 0, 0, [], [])),
  (21, (.iload 4, 23, 4, 0, 0, 0, [], [])),
  (23, (.ifCond .eq 9, 26, 32, 0, 0, 0, [], [])),
  (26, (.bipush (-10), 28, 0, 0, (-10), 0, [], [])),
  (28, (.iload 4, 30, 4, 0, 0, 0, [], [])),
  (30, (.isub, 31, 0, 0, 0, 0, [], [])),
  (31, (.ireturn, 32, 0, 0, 0, 0, [], [])),
  (32, (.aload_n 0, 33, 0, 0, 0, 0, [], [])),
  (33, (.getfield 41, 36, 5, 5, 0, 0, [], [256])),
  (36, (.iload_n 1, 37, 1, 0, 0, 0, [], [])),
  (37, (.aaload, 38, 0, 0, 0, 0, [], [])),
  (38, (.iload_n 2, 39, 2, 0, 0, 0, [], [])),
  (39, (.iload_n 3, 40, 3, 0, 0, 0, [], [])),
  (40, (.invokevirtual 266, 43, 33, 3, 0, 0, [], [786, 81, 783, 784, 785, 3])),
  (43, (.iconst 1, 44, 0, 0, 1, 0, [], [])),
  (44, (.ireturn, 45, 0, 0, 0, 0, [], []))]
def mX5_lay : hd_I := (RX5, yX5_lay, cX5_lay, 5, (some .int), 3, pX5_lay)
def pX5_read : List (Nat × hd_O) := [
  (0, (.iload_n 1, 1, 1, 0, 0, 0, [], [])),
  (1, (.invokestatic 254, 4, 90, 1, 0, 0, [], [767, 76, 765, 766])),
  (4, (.ifCond .eq 21, 7, 25, 0, 0, 0, [], [])),
  (7, (.iload_n 2, 8, 2, 0, 0, 0, [], [])),
  (8, (.invokestatic 257, 11, 91, 1, 0, 0, [], [770, 76, 768, 769])),
  (11, (.ifCond .eq 14, 14, 25, 0, 0, 0, [], [])),
  (14, (.iload 4, 16, 4, 0, 0, 0, [], [])),
  (16, (.iconst 0, 17, 0, 0, 0, 0, [], [])),
  (17, (.bipush 13, 19, 0, 0, 13, 0, [], [])),
  (19, (.invokestatic 61, 22, 86, 3, 0, 0, [], [288, 76, 286, 287])),
  (22, (.ifCond .ne 5, 25, 27, 0, 0, 0, [], [])),
  (25, (.iconst (-1), 26, 0, 0, (-1), 0, [], [])),
  (26, (.ireturn, 27, 0, 0, 0, 0, [], [])),
  (27, (.aload_n 0, 28, 0, 0, 0, 0, [], [])),
  (28, (.getfield 41, 31, 5, 5, 0, 0, [], [256])),
  (31, (.iload_n 1, 32, 1, 0, 0, 0, [], [])),
  (32, (.aaload, 33, 0, 0, 0, 0, [], [])),
  (33, (.astore 5, 35, 5, 0, 0, 0, [], [])),
  (35, (.aload_n 0, 36, 0, 0, 0, 0, [], [])),
  (36, (.getfield 10, 39, 5, 0, 0, 0, [], [251])),
  (39, (.getfield 93, 42, 0, 5, 0, 0, [], [114])),
  (42, (.istore 6, 44, 6, 0, 0, 0, [], [])),
  (44, (.iconst 0, 45, 0, 0, 0, 0, [], [])),
  (45, (.istore 7, 47, 7, 0, 0, 0, [], [])),
  (47, (.iconst 0, 48, 0, 0, 0, 0, [], [])),
  (48, (.istore 8, 50, 8, 0, 0, 0, [], [])),
  (50, (.iconst 0, 51, 0, 0, 0, 0, [], [])),
  (51, (.istore 9, 53, 9, 0, 0, 0, [], [])),
  (53, (.iload 9, 55, 9, 0, 0, 0, [], [])),
  (55, (.iload 4, 57, 4, 0, 0, 0, [], [])),
  (57, (.if_icmp .ge 91, 60, 148, 0, 0, 0, [], [])),
  (60, (.iload 7, 62, 7, 0, 0, 0, [], [])),
  (62, (.ifCond .ne 86, 65, 148, 0, 0, 0, [], [])),
  (65, (.aload 5, 67, 5, 0, 0, 0, [], [])),
  (67, (.iload_n 2, 68, 2, 0, 0, 0, [], [])),
  (68, (.iload_n 3, 69, 3, 0, 0, 0, [], [])),
  (69, (.iload 9, 71, 9, 0, 0, 0, [], [])),
  (71, (.invokevirtual 269, 74, 32, 4, 0, 0, [], [794, 81, 791, 792, 793, 3])),
  (74, (.istore 7, 76, 7, 0, 0, 0, [], [])),
  (76, (.iload 7, 78, 7, 0, 0, 0, [], [])),
  (78, (.ifCond .ne 64, 81, 142, 0, 0, 0, [], [])),
  (81, (.iload_n 3, 82, 3, 0, 0, 0, [], [])),
  (82, (.iconst 3, 83, 0, 0, 3, 0, [], [])),
  (83, (.iload 9, 85, 9, 0, 0, 0, [], [])),
  (85, (.imul, 86, 0, 0, 0, 0, [], [])),
  (86, (.iadd, 87, 0, 0, 0, 0, [], [])),
  (87, (.istore 10, 89, 10, 0, 0, 0, [], [])),
  (89, (.aload_n 0, 90, 0, 0, 0, 0, [], [])),
  (90, (.aload 5, 92, 5, 0, 0, 0, [], [])),
  (92, (.getfield 272, 95, 3, 0, 0, 0, [], [240])),
  (95, (.iload 10, 97, 10, 0, 0, 0, [], [])),
  (97, (.iaload, 98, 0, 0, 0, 0, [], [])),
  (98, (.aload 5, 100, 5, 0, 0, 0, [], [])),
  (100, (.getfield 272, 103, 3, 0, 0, 0, [], [240])),
  (103, (.iload 10, 105, 10, 0, 0, 0, [], [])),
  (105, (.iconst 1, 106, 0, 0, 1, 0, [], [])),
  (106, (.iadd, 107, 0, 0, 0, 0, [], [])),
  (107, (.iaload, 108, 0, 0, 0, 0, [], [])),
  (108, (.aload 5, 110, 5, 0, 0, 0, [], [])),
  (110, (.getfield 272, 113, 3, 0, 0, 0, [], [240])),
  (113, (.iload 10, 115, 10, 0, 0, 0, [], [])),
  (115, (.iconst 2, 116, 0, 0, 2, 0, [], [])),
  (116, (.iadd, 117, 0, 0, 0, 0, [], [])),
  (117, (.iaload, 118, 0, 0, 0, 0, [], [])),
  (118, (.invokevirtual 275, 121, 57, 4, 0, 0, [], [499, 76, 795, 497, 498, 5])),
  (121, (.ifCond .ge 18, 124, 139, 0, 0, 0, [], [])),
  (124, (.aload_n 0, 125, 0, 0, 0, 0, [], [])),
  (125, (.getfield 10, 128, 5, 0, 0, 0, [], [251])),
  (128, (.iload 6, 130, 6, 0, 0, 0, [], [])),
  (130, (.invokevirtual 159, 133, 10, 2, 0, 0, [], [520, 77, 517, 518, 519, 0])),
  (133, (.bipush (-20), 135, 0, 0, (-20), 0, [], [])),
  (135, (.iload 9, 137, 9, 0, 0, 0, [], [])),
  (137, (.isub, 138, 0, 0, 0, 0, [], [])),
  (138, (.ireturn, 139, 0, 0, 0, 0, [], [])),
  (139, (.iinc 8 1, 142, 8, 0, 1, 0, [], [])),
  (142, (.iinc 9 1, 145, 9, 0, 1, 0, [], [])),
  (145, (.goto (-92), 148, 53, 0, 0, 0, [], [])),
  (148, (.aload_n 0, 149, 0, 0, 0, 0, [], [])),
  (149, (.iload 7, 151, 7, 0, 0, 0, [], [])),
  (151, (.putfield 55, 154, 5, 9, 0, 0, [], [260])),
  (154, (.iload 8, 156, 8, 0, 0, 0, [], [])),
  (156, (.ireturn, 157, 0, 0, 0, 0, [], []))]
def mX5_read : hd_I := (RX5, yX5_read, cX5_read, 11, (some .int), 4, pX5_read)
def pX5_torn : List (Nat × hd_O) := [
  (0, (.aload_n 0, 1, 0, 0, 0, 0, [], [])),
  (1, (.getfield 55, 4, 5, 9, 0, 0, [], [260])),
  (4, (.ireturn, 5, 0, 0, 0, 0, [], []))]
def mX5_torn : hd_I := (RX5, yX5_torn, cX5_torn, 1, (some .int), 1, pX5_torn)
def pX5_count : List (Nat × hd_O) := [
  (0, (.iload_n 1, 1, 1, 0, 0, 0, [], [])),
  (1, (.tableswitch 117 0 5 #[39, 47, 52, 60, 87, 102], 40, 118, 0, 0, 0, [(0, 40), (1, 48), (2, 53), (3, 61), (4, 88), (5, 103)], [])),
  (40, (.aload_n 0, 41, 0, 0, 0, 0, [], [])),
  (41, (.getfield 22, 44, 5, 2, 0, 0, [], [253])),
  (44, (.getfield 86, 47, 2, 2, 0, 0, [], [159])),
  (47, (.ireturn, 48, 0, 0, 0, 0, [], [])),
  (48, (.aload_n 0, 49, 0, 0, 0, 0, [], [])),
  (49, (.invokevirtual 278, 52, 113, 1, 0, 0, [], [807, 76, 804, 806, 33, 5])),
  (52, (.ireturn, 53, 0, 0, 0, 0, [], [])),
  (53, (.aload_n 0, 54, 0, 0, 0, 0, [], [])),
  (54, (.getfield 29, 57, 5, 3, 0, 0, [], [254])),
  (57, (.getfield 69, 60, 4, 1, 0, 0, [], [175])),
  (60, (.ireturn, 61, 0, 0, 0, 0, [], [])),
  (61, (.aload_n 0, 62, 0, 0, 0, 0, [], [])),
  (62, (.getfield 41, 65, 5, 5, 0, 0, [], [256])),
  (65, (.iconst 0, 66, 0, 0, 0, 0, [], [])),
  (66, (.aaload, 67, 0, 0, 0, 0, [], [])),
  (67, (.getfield 281, 70, 3, 2, 0, 0, [], [243])),
  (70, (.ifCond .ge 8, 73, 78, 0, 0, 0, [], [])),
  (73, (.bipush (-4), 75, 0, 0, (-4), 0, [], [])),
  (75, (.goto 12, 78, 87, 0, 0, 0, [], [])),
  (78, (.aload_n 0, 79, 0, 0, 0, 0, [], [])),
  (79, (.getfield 41, 82, 5, 5, 0, 0, [], [256])),
  (82, (.iconst 0, 83, 0, 0, 0, 0, [], [])),
  (83, (.aaload, 84, 0, 0, 0, 0, [], [])),
  (84, (.getfield 281, 87, 3, 2, 0, 0, [], [243])),
  (87, (.ireturn, 88, 0, 0, 0, 0, [], [])),
  (88, (.aload_n 0, 89, 0, 0, 0, 0, [], [])),
  (89, (.getfield 10, 92, 5, 0, 0, 0, [], [251])),
  (92, (.aload_n 0, 93, 0, 0, 0, 0, [], [])),
  (93, (.getfield 10, 96, 5, 0, 0, 0, [], [251])),
  (96, (.getfield 119, 99, 0, 1, 0, 0, [], [107])),
  (99, (.invokevirtual 282, 102, 27, 2, 0, 0, [], [811, 77, 808, 809, 810, 0])),
  (102, (.ireturn, 103, 0, 0, 0, 0, [], [])),
  (103, (.aload_n 0, 104, 0, 0, 0, 0, [], [])),
  (104, (.getfield 10, 107, 5, 0, 0, 0, [], [251])),
  (107, (.aload_n 0, 108, 0, 0, 0, 0, [], [])),
  (108, (.getfield 10, 111, 5, 0, 0, 0, [], [251])),
  (111, (.getfield 122, 114, 0, 2, 0, 0, [], [109])),
  (114, (.invokevirtual 282, 117, 27, 2, 0, 0, [], [811, 77, 808, 809, 810, 0])),
  (117, (.ireturn, 118, 0, 0, 0, 0, [], [])),
  (118, (.iconst (-1), 119, 0, 0, (-1), 0, [], [])),
  (119, (.ireturn, 120, 0, 0, 0, 0, [], []))]
def mX5_count : hd_I := (RX5, yX5_count, cX5_count, 2, (some .int), 2, pX5_count)
def pX5_isWithin : List (Nat × hd_O) := [
  (0, (.iload_n 0, 1, 0, 0, 0, 0, [], [])),
  (1, (.iload_n 1, 2, 1, 0, 0, 0, [], [])),
  (2, (.if_icmp .lt 12, 5, 14, 0, 0, 0, [], [])),
  (5, (.iload_n 0, 6, 0, 0, 0, 0, [], [])),
  (6, (.iload_n 2, 7, 2, 0, 0, 0, [], [])),
  (7, (.if_icmp .gt 7, 10, 14, 0, 0, 0, [], [])),
  (10, (.iconst 1, 11, 0, 0, 1, 0, [], [])),
  (11, (.goto 4, 14, 15, 0, 0, 0, [], [])),
  (14, (.iconst 0, 15, 0, 0, 0, 0, [], [])),
  (15, (.ireturn, 16, 0, 0, 0, 0, [], []))]
def mX5_isWithin : hd_I := (RX5, yX5_isWithin, cX5_isWithin, 3, (some .boolean), 1, pX5_isWithin)
def pX5_isMood : List (Nat × hd_O) := [
  (0, (.iload_n 0, 1, 0, 0, 0, 0, [], [])),
  (1, (.iconst 0, 2, 0, 0, 0, 0, [], [])),
  (2, (.bipush 99, 4, 0, 0, 99, 0, [], [])),
  (4, (.invokestatic 61, 7, 86, 3, 0, 0, [], [288, 76, 286, 287])),
  (7, (.ireturn, 8, 0, 0, 0, 0, [], []))]
def mX5_isMood : hd_I := (RX5, yX5_isMood, cX5_isMood, 1, (some .boolean), 2, pX5_isMood)
def pX5_isSpan : List (Nat × hd_O) := [
  (0, (.iload_n 0, 1, 0, 0, 0, 0, [], [])),
  (1, (.iconst 0, 2, 0, 0, 0, 0, [], [])),
  (2, (.bipush 60, 4, 0, 0, 60, 0, [], [])),
  (4, (.invokestatic 61, 7, 86, 3, 0, 0, [], [288, 76, 286, 287])),
  (7, (.ireturn, 8, 0, 0, 0, 0, [], []))]
def mX5_isSpan : hd_I := (RX5, yX5_isSpan, cX5_isSpan, 1, (some .boolean), 2, pX5_isSpan)
def pX5_isOdds : List (Nat × hd_O) := [
  (0, (.iload_n 0, 1, 0, 0, 0, 0, [], [])),
  (1, (.iconst 0, 2, 0, 0, 0, 0, [], [])),
  (2, (.bipush 10, 4, 0, 0, 10, 0, [], [])),
  (4, (.invokestatic 61, 7, 86, 3, 0, 0, [], [288, 76, 286, 287])),
  (7, (.ifCond .eq 17, 10, 24, 0, 0, 0, [], [])),
  (10, (.iload_n 1, 11, 1, 0, 0, 0, [], [])),
  (11, (.iconst 0, 12, 0, 0, 0, 0, [], [])),
  (12, (.bipush 8, 14, 0, 0, 8, 0, [], [])),
  (14, (.invokestatic 61, 17, 86, 3, 0, 0, [], [288, 76, 286, 287])),
  (17, (.ifCond .eq 7, 20, 24, 0, 0, 0, [], [])),
  (20, (.iconst 1, 21, 0, 0, 1, 0, [], [])),
  (21, (.goto 4, 24, 25, 0, 0, 0, [], [])),
  (24, (.iconst 0, 25, 0, 0, 0, 0, [], [])),
  (25, (.ireturn, 26, 0, 0, 0, 0, [], []))]
def mX5_isOdds : hd_I := (RX5, yX5_isOdds, cX5_isOdds, 2, (some .boolean), 2, pX5_isOdds)
def pX5_isSheet : List (Nat × hd_O) := [
  (0, (.iload_n 0, 1, 0, 0, 0, 0, [], [])),
  (1, (.iconst 0, 2, 0, 0, 0, 0, [], [])),
  (2, (.iconst 3, 3, 0, 0, 3, 0, [], [])),
  (3, (.invokestatic 61, 6, 86, 3, 0, 0, [], [288, 76, 286, 287])),
  (6, (.ireturn, 7, 0, 0, 0, 0, [], []))]
def mX5_isSheet : hd_I := (RX5, yX5_isSheet, cX5_isSheet, 1, (some .boolean), 2, pX5_isSheet)
def pX5_isLane : List (Nat × hd_O) := [
  (0, (.iload_n 0, 1, 0, 0, 0, 0, [], [])),
  (1, (.iconst 0, 2, 0, 0, 0, 0, [], [])),
  (2, (.iconst 2, 3, 0, 0, 2, 0, [], [])),
  (3, (.invokestatic 61, 6, 86, 3, 0, 0, [], [288, 76, 286, 287])),
  (6, (.ireturn, 7, 0, 0, 0, 0, [], []))]
def mX5_isLane : hd_I := (RX5, yX5_isLane, cX5_isLane, 1, (some .boolean), 2, pX5_isLane)
def pX5_isThing : List (Nat × hd_O) := [
  (0, (.iload_n 1, 1, 1, 0, 0, 0, [], [])),
  (1, (.ifCond .lt 18, 4, 19, 0, 0, 0, [], [])),
  (4, (.iload_n 1, 5, 1, 0, 0, 0, [], [])),
  (5, (.aload_n 0, 6, 0, 0, 0, 0, [], [])),
  (6, (.getfield 10, 9, 5, 0, 0, 0, [], [251])),
  (9, (.getfield 93, 12, 0, 5, 0, 0, [], [114])),
  (12, (.if_icmp .ge 7, 15, 19, 0, 0, 0, [], [])),
  (15, (.iconst 1, 16, 0, 0, 1, 0, [], [])),
  (16, (.goto 4, 19, 20, 0, 0, 0, [], [])),
  (19, (.iconst 0, 20, 0, 0, 0, 0, [], [])),
  (20, (.ireturn, 21, 0, 0, 0, 0, [], []))]
def mX5_isThing : hd_I := (RX5, yX5_isThing, cX5_isThing, 2, (some .boolean), 1, pX5_isThing)
def pX5_isTrait : List (Nat × hd_O) := [
  (0, (.iload_n 0, 1, 0, 0, 0, 0, [], [])),
  (1, (.tableswitch 50 0 2 #[27, 34, 42], 28, 51, 0, 0, 0, [(0, 28), (1, 35), (2, 43)], [])),
  (28, (.iload_n 1, 29, 1, 0, 0, 0, [], [])),
  (29, (.iconst 0, 30, 0, 0, 0, 0, [], [])),
  (30, (.iconst 3, 31, 0, 0, 3, 0, [], [])),
  (31, (.invokestatic 61, 34, 86, 3, 0, 0, [], [288, 76, 286, 287])),
  (34, (.ireturn, 35, 0, 0, 0, 0, [], [])),
  (35, (.iload_n 1, 36, 1, 0, 0, 0, [], [])),
  (36, (.iconst 0, 37, 0, 0, 0, 0, [], [])),
  (37, (.bipush 9, 39, 0, 0, 9, 0, [], [])),
  (39, (.invokestatic 61, 42, 86, 3, 0, 0, [], [288, 76, 286, 287])),
  (42, (.ireturn, 43, 0, 0, 0, 0, [], [])),
  (43, (.iload_n 1, 44, 1, 0, 0, 0, [], [])),
  (44, (.iconst 1, 45, 0, 0, 1, 0, [], [])),
  (45, (.bipush 9, 47, 0, 0, 9, 0, [], [])),
  (47, (.invokestatic 61, 50, 86, 3, 0, 0, [], [288, 76, 286, 287])),
  (50, (.ireturn, 51, 0, 0, 0, 0, [], [])),
  (51, (.iconst 0, 52, 0, 0, 0, 0, [], [])),
  (52, (.ireturn, 53, 0, 0, 0, 0, [], []))]
def mX5_isTrait : hd_I := (RX5, yX5_isTrait, cX5_isTrait, 2, (some .boolean), 2, pX5_isTrait)
def pX5_startTrial : List (Nat × hd_O) := [
  (0, (.aload_n 0, 1, 0, 0, 0, 0, [], [])),
  (1, (.getfield 16, 4, 5, 1, 0, 0, [], [252])),
  (4, (.aload_n 0, 5, 0, 0, 0, 0, [], [])),
  (5, (.getfield 10, 8, 5, 0, 0, 0, [], [251])),
  (8, (.invokevirtual 82, 11, 1, 2, 0, 0, [], [419, 77, 416, 417, 418, 0])),
  (11, (.aload_n 0, 12, 0, 0, 0, 0, [], [])),
  (12, (.getfield 16, 15, 5, 1, 0, 0, [], [252])),
  (15, (.invokevirtual 286, 18, 21, 1, 0, 0, [], [532, 77, 566, 530, 531, 0])),
  (18, (.return_, 19, 0, 0, 0, 0, [], []))]
def mX5_startTrial : hd_I := (RX5, yX5_startTrial, cX5_startTrial, 1, none, 4, pX5_startTrial)
def pX5_moodBehind : List (Nat × hd_O) := [
  (0, (.aload_n 0, 1, 0, 0, 0, 0, [], [])),
  (1, (.getfield 16, 4, 5, 1, 0, 0, [], [252])),
  (4, (.aload_n 0, 5, 0, 0, 0, 0, [], [])),
  (5, (.getfield 10, 8, 5, 0, 0, 0, [], [251])),
  (8, (.invokevirtual 82, 11, 1, 2, 0, 0, [], [419, 77, 416, 417, 418, 0])),
  (11, (.aload_n 0, 12, 0, 0, 0, 0, [], [])),
  (12, (.getfield 16, 15, 5, 1, 0, 0, [], [252])),
  (15, (.iload_n 1, 16, 1, 0, 0, 0, [], [])),
  (16, (.invokevirtual 163, 19, 22, 2, 0, 0, [], [528, 77, 525, 526, 527, 0])),
  (19, (.ireturn, 20, 0, 0, 0, 0, [], []))]
def mX5_moodBehind : hd_I := (RX5, yX5_moodBehind, cX5_moodBehind, 2, (some .int), 5, pX5_moodBehind)
def pX5_moodWith : List (Nat × hd_O) := [
  (0, (.aload_n 0, 1, 0, 0, 0, 0, [], [])),
  (1, (.getfield 16, 4, 5, 1, 0, 0, [], [252])),
  (4, (.aload_n 0, 5, 0, 0, 0, 0, [], [])),
  (5, (.getfield 10, 8, 5, 0, 0, 0, [], [251])),
  (8, (.invokevirtual 82, 11, 1, 2, 0, 0, [], [419, 77, 416, 417, 418, 0])),
  (11, (.aload_n 0, 12, 0, 0, 0, 0, [], [])),
  (12, (.getfield 16, 15, 5, 1, 0, 0, [], [252])),
  (15, (.iload_n 1, 16, 1, 0, 0, 0, [], [])),
  (16, (.iload_n 2, 17, 2, 0, 0, 0, [], [])),
  (17, (.iload_n 3, 18, 3, 0, 0, 0, [], [])),
  (18, (.invokevirtual 142, 21, 8, 4, 0, 0, [], [484, 77, 481, 482, 483, 0])),
  (21, (.pop, 22, 0, 0, 0, 0, [], [])),
  (22, (.aload_n 0, 23, 0, 0, 0, 0, [], [])),
  (23, (.getfield 16, 26, 5, 1, 0, 0, [], [252])),
  (26, (.iload 4, 28, 4, 0, 0, 0, [], [])),
  (28, (.invokevirtual 163, 31, 22, 2, 0, 0, [], [528, 77, 525, 526, 527, 0])),
  (31, (.ireturn, 32, 0, 0, 0, 0, [], []))]
def mX5_moodWith : hd_I := (RX5, yX5_moodWith, cX5_moodWith, 5, (some .int), 5, pX5_moodWith)
def pX5_outBehind : List (Nat × hd_O) := [
  (0, (.aload_n 0, 1, 0, 0, 0, 0, [], [])),
  (1, (.getfield 16, 4, 5, 1, 0, 0, [], [252])),
  (4, (.aload_n 0, 5, 0, 0, 0, 0, [], [])),
  (5, (.getfield 10, 8, 5, 0, 0, 0, [], [251])),
  (8, (.invokevirtual 82, 11, 1, 2, 0, 0, [], [419, 77, 416, 417, 418, 0])),
  (11, (.aload_n 0, 12, 0, 0, 0, 0, [], [])),
  (12, (.getfield 16, 15, 5, 1, 0, 0, [], [252])),
  (15, (.iload_n 1, 16, 1, 0, 0, 0, [], [])),
  (16, (.invokevirtual 163, 19, 22, 2, 0, 0, [], [528, 77, 525, 526, 527, 0])),
  (19, (.pop, 20, 0, 0, 0, 0, [], [])),
  (20, (.aload_n 0, 21, 0, 0, 0, 0, [], [])),
  (21, (.getfield 16, 24, 5, 1, 0, 0, [], [252])),
  (24, (.invokevirtual 106, 27, 25, 1, 0, 0, [], [439, 77, 436, 437, 438, 0])),
  (27, (.ireturn, 28, 0, 0, 0, 0, [], []))]
def mX5_outBehind : hd_I := (RX5, yX5_outBehind, cX5_outBehind, 2, (some .int), 5, pX5_outBehind)
def pX5_utmostMood : List (Nat × hd_O) := [
  (0, (.aload_n 0, 1, 0, 0, 0, 0, [], [])),
  (1, (.invokevirtual 185, 4, 94, 1, 0, 0, [], [565, 76, 562, 564, 19, 5])),
  (4, (.aload_n 0, 5, 0, 0, 0, 0, [], [])),
  (5, (.getfield 16, 8, 5, 1, 0, 0, [], [252])),
  (8, (.getfield 97, 11, 0, 7, 0, 0, [], [120])),
  (11, (.istore_n 3, 12, 3, 0, 0, 0, [], [])),
  (12, (.iconst 0, 13, 0, 0, 0, 0, [], [])),
  (13, (.istore 4, 15, 4, 0, 0, 0, [], [])),
  (15, (.iload 4, 17, 4, 0, 0, 0, [], [])),
  (17, (.iload_n 1, 18, 1, 0, 0, 0, [], [])),
  (18, (.if_icmp .ge 47, 21, 65, 0, 0, 0, [], [])),
  (21, (.aload_n 0, 22, 0, 0, 0, 0, [], [])),
  (22, (.getfield 16, 25, 5, 1, 0, 0, [], [252])),
  (25, (.iconst 0, 26, 0, 0, 0, 0, [], [])),
  (26, (.invokevirtual 188, 29, 23, 2, 0, 0, [], [536, 77, 567, 534, 535, 0])),
  (29, (.iload_n 2, 30, 2, 0, 0, 0, [], [])),
  (30, (.ifCond .eq 17, 33, 47, 0, 0, 0, [], [])),
  (33, (.iload_n 3, 34, 3, 0, 0, 0, [], [])),
  (34, (.aload_n 0, 35, 0, 0, 0, 0, [], [])),
  (35, (.getfield 16, 38, 5, 1, 0, 0, [], [252])),
  (38, (.getfield 97, 41, 0, 7, 0, 0, [], [120])),
  (41, (.invokestatic 289, 44, 9001, 0, 0, 0, [], [546, 87, 568, 545])),
  (44, (.goto 14, 47, 58, 0, 0, 0, [], [])),
  (47, (.iload_n 3, 48, 3, 0, 0, 0, [], [])),
  (48, (.aload_n 0, 49, 0, 0, 0, 0, [], [])),
  (49, (.getfield 16, 52, 5, 1, 0, 0, [], [252])),
  (52, (.getfield 97, 55, 0, 7, 0, 0, [], [120])),
  (55, (.invokestatic 294, 58, 9002, 0, 0, 0, [], [543, 87, 569, 542])),
  (58, (.istore_n 3, 59, 3, 0, 0, 0, [], [])),
  (59, (.iinc 4 1, 62, 4, 0, 1, 0, [], [])),
  (62, (.goto (-47), 65, 15, 0, 0, 0, [], [])),
  (65, (.iload_n 3, 66, 3, 0, 0, 0, [], [])),
  (66, (.ireturn, 67, 0, 0, 0, 0, [], []))]
def mX5_utmostMood : hd_I := (RX5, yX5_utmostMood, cX5_utmostMood, 5, (some .int), 5, pX5_utmostMood)
def pX5_firstAtZero : List (Nat × hd_O) := [
  (0, (.aload_n 0, 1, 0, 0, 0, 0, [], [])),
  (1, (.invokevirtual 185, 4, 94, 1, 0, 0, [], [565, 76, 562, 564, 19, 5])),
  (4, (.iconst 0, 5, 0, 0, 0, 0, [], [])),
  (5, (.istore_n 2, 6, 2, 0, 0, 0, [], [])),
  (6, (.iload_n 2, 7, 2, 0, 0, 0, [], [])),
  (7, (.iload_n 1, 8, 1, 0, 0, 0, [], [])),
  (8, (.if_icmp .ge 27, 11, 35, 0, 0, 0, [], [])),
  (11, (.aload_n 0, 12, 0, 0, 0, 0, [], [])),
  (12, (.getfield 16, 15, 5, 1, 0, 0, [], [252])),
  (15, (.getfield 97, 18, 0, 7, 0, 0, [], [120])),
  (18, (.ifCond .le 17, 21, 35, 0, 0, 0, [], [])),
  (21, (.aload_n 0, 22, 0, 0, 0, 0, [], [])),
  (22, (.getfield 16, 25, 5, 1, 0, 0, [], [252])),
  (25, (.iconst 0, 26, 0, 0, 0, 0, [], [])),
  (26, (.invokevirtual 188, 29, 23, 2, 0, 0, [], [536, 77, 567, 534, 535, 0])),
  (29, (.iinc 2 1, 32, 2, 0, 1, 0, [], [])),
  (32, (.goto (-26), 35, 6, 0, 0, 0, [], [])),
  (35, (.aload_n 0, 36, 0, 0, 0, 0, [], [])),
  (36, (.getfield 16, 39, 5, 1, 0, 0, [], [252])),
  (39, (.getfield 97, 42, 0, 7, 0, 0, [], [120])),
  (42, (.ifCond .ne 21, 45, 63, 0, 0, 0, [], [])),
  (45, (.aload_n 0, 46, 0, 0, 0, 0, [], [])),
  (46, (.getfield 16, 49, 5, 1, 0, 0, [], [252])),
  (49, (.getfield 94, 52, 0, 9, 0, 0, [], [125])),
  (52, (.aload_n 0, 53, 0, 0, 0, 0, [], [])),
  (53, (.getfield 10, 56, 5, 0, 0, 0, [], [251])),
  (56, (.getfield 94, 59, 0, 9, 0, 0, [], [125])),
  (59, (.isub, 60, 0, 0, 0, 0, [], [])),
  (60, (.goto 5, 63, 65, 0, 0, 0, [], [])),
  (63, (.bipush (-4), 65, 0, 0, (-4), 0, [], [])),
  (65, (.ireturn, 66, 0, 0, 0, 0, [], []))]
def mX5_firstAtZero : hd_I := (RX5, yX5_firstAtZero, cX5_firstAtZero, 3, (some .int), 5, pX5_firstAtZero)
def pX5_bestOfOne : List (Nat × hd_O) := [
  (0, (.iload_n 1, 1, 1, 0, 0, 0, [], [])),
  (1, (.invokestatic 166, 4, 88, 1, 0, 0, [], [553, 76, 551, 552])),
  (4, (.ifCond .eq 12, 7, 16, 0, 0, 0, [], [])),
  (7, (.iload_n 2, 8, 2, 0, 0, 0, [], [])),
  (8, (.iconst 0, 9, 0, 0, 0, 0, [], [])),
  (9, (.iconst 1, 10, 0, 0, 1, 0, [], [])),
  (10, (.invokestatic 61, 13, 86, 3, 0, 0, [], [288, 76, 286, 287])),
  (13, (.ifCond .ne 5, 16, 18, 0, 0, 0, [], [])),
  (16, (.iconst (-1), 17, 0, 0, (-1), 0, [], [])),
  (17, (.ireturn, 18, 0, 0, 0, 0, [], [])),
  (18, (.aload_n 0, 19, 0, 0, 0, 0, [], [])),
  (19, (.getfield 10, 22, 5, 0, 0, 0, [], [251])),
  (22, (.invokevirtual 149, 25, 5, 1, 0, 0, [], [503, 77, 500, 501, 502, 0])),
  (25, (.ifCond .ne 6, 28, 31, 0, 0, 0, [], [])),
  (28, (.bipush (-2), 30, 0, 0, (-2), 0, [], [])),
  (30, (.ireturn, 31, 0, 0, 0, 0, [], [])),
  (31, (.aload_n 0, 32, 0, 0, 0, 0, [], [])),
  (32, (.iload_n 1, 33, 1, 0, 0, 0, [], [])),
  (33, (.invokevirtual 169, 36, 95, 2, 0, 0, [], [557, 76, 554, 556, 17, 5])),
  (36, (.istore 4, 38, 4, 0, 0, 0, [], [])),
  (38, (.bipush (-4), 40, 0, 0, (-4), 0, [], [])),
  (40, (.istore 5, 42, 5, 0, 0, 0, [], [])),
  (42, (.iconst 0, 43, 0, 0, 0, 0, [], [])),
  (43, (.istore 6, 45, 6, 0, 0, 0, [], [])),
  (45, (.iload 6, 47, 6, 0, 0, 0, [], [])),
  (47, (.aload_n 0, 48, 0, 0, 0, 0, [], [])),
  (48, (.getfield 10, 51, 5, 0, 0, 0, [], [251])),
  (51, (.getfield 93, 54, 0, 5, 0, 0, [], [114])),
  (54, (.if_icmp .ge 70, 57, 124, 0, 0, 0, [], [])),
  (57, (.aload_n 0, 58, 0, 0, 0, 0, [], [])),
  (58, (.getfield 16, 61, 5, 1, 0, 0, [], [252])),
  (61, (.aload_n 0, 62, 0, 0, 0, 0, [], [])),
  (62, (.getfield 10, 65, 5, 0, 0, 0, [], [251])),
  (65, (.invokevirtual 82, 68, 1, 2, 0, 0, [], [419, 77, 416, 417, 418, 0])),
  (68, (.iload_n 3, 69, 3, 0, 0, 0, [], [])),
  (69, (.ifCond .eq 15, 72, 84, 0, 0, 0, [], [])),
  (72, (.aload_n 0, 73, 0, 0, 0, 0, [], [])),
  (73, (.getfield 16, 76, 5, 1, 0, 0, [], [252])),
  (76, (.iload 6, 78, 6, 0, 0, 0, [], [])),
  (78, (.invokevirtual 297, 81, 12, 2, 0, 0, [], [624, 77, 621, 622, 623, 0])),
  (81, (.goto 12, 84, 93, 0, 0, 0, [], [])),
  (84, (.aload_n 0, 85, 0, 0, 0, 0, [], [])),
  (85, (.getfield 16, 88, 5, 1, 0, 0, [], [252])),
  (88, (.iload 6, 90, 6, 0, 0, 0, [], [])),
  (90, (.invokevirtual 300, 93, 11, 2, 0, 0, [], [635, 77, 632, 633, 634, 0])),
  (93, (.aload_n 0, 94, 0, 0, 0, 0, [], [])),
  (94, (.getfield 16, 97, 5, 1, 0, 0, [], [252])),
  (97, (.iload_n 1, 98, 1, 0, 0, 0, [], [])),
  (98, (.invokevirtual 163, 101, 22, 2, 0, 0, [], [528, 77, 525, 526, 527, 0])),
  (101, (.istore 7, 103, 7, 0, 0, 0, [], [])),
  (103, (.iload 7, 105, 7, 0, 0, 0, [], [])),
  (105, (.iload 4, 107, 4, 0, 0, 0, [], [])),
  (107, (.if_icmp .le 11, 110, 118, 0, 0, 0, [], [])),
  (110, (.iload 7, 112, 7, 0, 0, 0, [], [])),
  (112, (.istore 4, 114, 4, 0, 0, 0, [], [])),
  (114, (.iload 6, 116, 6, 0, 0, 0, [], [])),
  (116, (.istore 5, 118, 5, 0, 0, 0, [], [])),
  (118, (.iinc 6 1, 121, 6, 0, 1, 0, [], [])),
  (121, (.goto (-76), 124, 45, 0, 0, 0, [], [])),
  (124, (.iload 5, 126, 5, 0, 0, 0, [], [])),
  (126, (.iload 4, 128, 4, 0, 0, 0, [], [])),
  (128, (.iload_n 2, 129, 2, 0, 0, 0, [], [])),
  (129, (.invokestatic 203, 132, 101, 3, 0, 0, [], [640, 76, 638, 639])),
  (132, (.ireturn, 133, 0, 0, 0, 0, [], []))]
def mX5_bestOfOne : hd_I := (RX5, yX5_bestOfOne, cX5_bestOfOne, 8, (some .int), 6, pX5_bestOfOne)
def pX5_foundOrBest : List (Nat × hd_O) := [
  (0, (.iload_n 2, 1, 2, 0, 0, 0, [], [])),
  (1, (.ifCond .eq 9, 4, 10, 0, 0, 0, [], [])),
  (4, (.iload_n 0, 5, 0, 0, 0, 0, [], [])),
  (5, (.bipush (-4), 7, 0, 0, (-4), 0, [], [])),
  (7, (.if_icmp .ne 7, 10, 14, 0, 0, 0, [], [])),
  (10, (.iload_n 0, 11, 0, 0, 0, 0, [], [])),
  (11, (.goto 4, 14, 15, 0, 0, 0, [], [])),
  (14, (.iload_n 1, 15, 1, 0, 0, 0, [], [])),
  (15, (.ireturn, 16, 0, 0, 0, 0, [], []))]
def mX5_foundOrBest : hd_I := (RX5, yX5_foundOrBest, cX5_foundOrBest, 3, (some .int), 1, pX5_foundOrBest)
def pX5_findBestRow : List (Nat × hd_O) := [
  (0, (.aload_n 0, 1, 0, 0, 0, 0, [], [])),
  (1, (.getfield 10, 4, 5, 0, 0, 0, [], [251])),
  (4, (.getfield 93, 7, 0, 5, 0, 0, [], [114])),
  (7, (.istore_n 1, 8, 1, 0, 0, 0, [], [])),
  (8, (.iconst 0, 9, 0, 0, 0, 0, [], [])),
  (9, (.istore_n 2, 10, 2, 0, 0, 0, [], [])),
  (10, (.iload_n 2, 11, 2, 0, 0, 0, [], [])),
  (11, (.iload_n 1, 12, 1, 0, 0, 0, [], [])),
  (12, (.if_icmp .ge 16, 15, 28, 0, 0, 0, [], [])),
  (15, (.aload_n 0, 16, 0, 0, 0, 0, [], [])),
  (16, (.getfield 45, 19, 5, 6, 0, 0, [], [257])),
  (19, (.iload_n 2, 20, 2, 0, 0, 0, [], [])),
  (20, (.iload_n 2, 21, 2, 0, 0, 0, [], [])),
  (21, (.iastore, 22, 0, 0, 0, 0, [], [])),
  (22, (.iinc 2 1, 25, 2, 0, 1, 0, [], [])),
  (25, (.goto (-15), 28, 10, 0, 0, 0, [], [])),
  (28, (.iconst (-1), 29, 0, 0, (-1), 0, [], [])),
  (29, (.istore_n 2, 30, 2, 0, 0, 0, [], [])),
  (30, (.iconst 1, 31, 0, 0, 1, 0, [], [])),
  (31, (.istore_n 3, 32, 3, 0, 0, 0, [], [])),
  (32, (.iconst 0, 33, 0, 0, 0, 0, [], [])),
  (33, (.istore 4, 35, 4, 0, 0, 0, [], [])),
  (35, (.iload 4, 37, 4, 0, 0, 0, [], [])),
  (37, (.bipush 120, 39, 0, 0, 120, 0, [], [])),
  (39, (.if_icmp .ge 68, 42, 107, 0, 0, 0, [], [])),
  (42, (.iload_n 3, 43, 3, 0, 0, 0, [], [])),
  (43, (.ifCond .eq 64, 46, 107, 0, 0, 0, [], [])),
  (46, (.aload_n 0, 47, 0, 0, 0, 0, [], [])),
  (47, (.getfield 16, 50, 5, 1, 0, 0, [], [252])),
  (50, (.aload_n 0, 51, 0, 0, 0, 0, [], [])),
  (51, (.getfield 10, 54, 5, 0, 0, 0, [], [251])),
  (54, (.aload_n 0, 55, 0, 0, 0, 0, [], [])),
  (55, (.getfield 45, 58, 5, 6, 0, 0, [], [257])),
  (58, (.invokevirtual 303, 61, 2, 3, 0, 0, [], [601, 77, 598, 599, 600, 0])),
  (61, (.aload_n 0, 62, 0, 0, 0, 0, [], [])),
  (62, (.getfield 16, 65, 5, 1, 0, 0, [], [252])),
  (65, (.bipush 10, 67, 0, 0, 10, 0, [], [])),
  (67, (.invokevirtual 163, 70, 22, 2, 0, 0, [], [528, 77, 525, 526, 527, 0])),
  (70, (.istore 5, 72, 5, 0, 0, 0, [], [])),
  (72, (.iload 5, 74, 5, 0, 0, 0, [], [])),
  (74, (.iload_n 2, 75, 2, 0, 0, 0, [], [])),
  (75, (.if_icmp .le 20, 78, 95, 0, 0, 0, [], [])),
  (78, (.iload 5, 80, 5, 0, 0, 0, [], [])),
  (80, (.istore_n 2, 81, 2, 0, 0, 0, [], [])),
  (81, (.aload_n 0, 82, 0, 0, 0, 0, [], [])),
  (82, (.getfield 45, 85, 5, 6, 0, 0, [], [257])),
  (85, (.iconst 0, 86, 0, 0, 0, 0, [], [])),
  (86, (.aload_n 0, 87, 0, 0, 0, 0, [], [])),
  (87, (.getfield 49, 90, 5, 7, 0, 0, [], [258])),
  (90, (.iconst 0, 91, 0, 0, 0, 0, [], [])),
  (91, (.iload_n 1, 92, 1, 0, 0, 0, [], [])),
  (92, (.invokestatic 307, 95, 9003, 0, 0, 0, [], [604, 88, 602, 603])),
  (95, (.aload_n 0, 96, 0, 0, 0, 0, [], [])),
  (96, (.iload_n 1, 97, 1, 0, 0, 0, [], [])),
  (97, (.invokevirtual 313, 100, 103, 2, 0, 0, [], [608, 76, 605, 607, 23, 5])),
  (100, (.istore_n 3, 101, 3, 0, 0, 0, [], [])),
  (101, (.iinc 4 1, 104, 4, 0, 1, 0, [], [])),
  (104, (.goto (-69), 107, 35, 0, 0, 0, [], [])),
  (107, (.iload_n 2, 108, 2, 0, 0, 0, [], [])),
  (108, (.ireturn, 109, 0, 0, 0, 0, [], []))]
def mX5_findBestRow : hd_I := (RX5, yX5_findBestRow, cX5_findBestRow, 6, (some .int), 5, pX5_findBestRow)
def pX5_stepRow : List (Nat × hd_O) := [
  (0, (.iload_n 1, 1, 1, 0, 0, 0, [], [])),
  (1, (.iconst 2, 2, 0, 0, 2, 0, [], [])),
  (2, (.isub, 3, 0, 0, 0, 0, [], [])),
  (3, (.istore_n 2, 4, 2, 0, 0, 0, [], [])),
  (4, (.iload_n 2, 5, 2, 0, 0, 0, [], [])),
  (5, (.ifCond .lt 26, 8, 31, 0, 0, 0, [], [])),
  (8, (.aload_n 0, 9, 0, 0, 0, 0, [], [])),
  (9, (.getfield 45, 12, 5, 6, 0, 0, [], [257])),
  (12, (.iload_n 2, 13, 2, 0, 0, 0, [], [])),
  (13, (.iaload, 14, 0, 0, 0, 0, [], [])),
  (14, (.aload_n 0, 15, 0, 0, 0, 0, [], [])),
  (15, (.getfield 45, 18, 5, 6, 0, 0, [], [257])),
  (18, (.iload_n 2, 19, 2, 0, 0, 0, [], [])),
  (19, (.iconst 1, 20, 0, 0, 1, 0, [], [])),
  (20, (.iadd, 21, 0, 0, 0, 0, [], [])),
  (21, (.iaload, 22, 0, 0, 0, 0, [], [])),
  (22, (.if_icmp .le 9, 25, 31, 0, 0, 0, [], [])),
  (25, (.iinc 2 (-1), 28, 2, 0, (-1), 0, [], [])),
  (28, (.goto (-24), 31, 4, 0, 0, 0, [], [])),
  (31, (.iload_n 2, 32, 2, 0, 0, 0, [], [])),
  (32, (.ifCond .ge 5, 35, 37, 0, 0, 0, [], [])),
  (35, (.iconst 0, 36, 0, 0, 0, 0, [], [])),
  (36, (.ireturn, 37, 0, 0, 0, 0, [], [])),
  (37, (.iload_n 1, 38, 1, 0, 0, 0, [], [])),
  (38, (.iconst 1, 39, 0, 0, 1, 0, [], [])),
  (39, (.isub, 40, 0, 0, 0, 0, [], [])),
  (40, (.istore_n 3, 41, 3, 0, 0, 0, [], [])),
  (41, (.iload_n 3, 42, 3, 0, 0, 0, [], [])),
  (42, (.iload_n 2, 43, 2, 0, 0, 0, [], [])),
  (43, (.iconst 1, 44, 0, 0, 1, 0, [], [])),
  (44, (.iadd, 45, 0, 0, 0, 0, [], [])),
  (45, (.if_icmp .le 24, 48, 69, 0, 0, 0, [], [])),
  (48, (.aload_n 0, 49, 0, 0, 0, 0, [], [])),
  (49, (.getfield 45, 52, 5, 6, 0, 0, [], [257])),
  (52, (.iload_n 3, 53, 3, 0, 0, 0, [], [])),
  (53, (.iaload, 54, 0, 0, 0, 0, [], [])),
  (54, (.aload_n 0, 55, 0, 0, 0, 0, [], [])),
  (55, (.getfield 45, 58, 5, 6, 0, 0, [], [257])),
  (58, (.iload_n 2, 59, 2, 0, 0, 0, [], [])),
  (59, (.iaload, 60, 0, 0, 0, 0, [], [])),
  (60, (.if_icmp .ge 9, 63, 69, 0, 0, 0, [], [])),
  (63, (.iinc 3 (-1), 66, 3, 0, (-1), 0, [], [])),
  (66, (.goto (-25), 69, 41, 0, 0, 0, [], [])),
  (69, (.aload_n 0, 70, 0, 0, 0, 0, [], [])),
  (70, (.iload_n 2, 71, 2, 0, 0, 0, [], [])),
  (71, (.iload_n 3, 72, 3, 0, 0, 0, [], [])),
  (72, (.invokevirtual 316, 75, 104, 3, 0, 0, [], [612, 76, 609, 611, 24, 5])),
  (75, (.iload_n 2, 76, 2, 0, 0, 0, [], [])),
  (76, (.iconst 1, 77, 0, 0, 1, 0, [], [])),
  (77, (.iadd, 78, 0, 0, 0, 0, [], [])),
  (78, (.istore 4, 80, 4, 0, 0, 0, [], [])),
  (80, (.iload_n 1, 81, 1, 0, 0, 0, [], [])),
  (81, (.iconst 1, 82, 0, 0, 1, 0, [], [])),
  (82, (.isub, 83, 0, 0, 0, 0, [], [])),
  (83, (.istore 5, 85, 5, 0, 0, 0, [], [])),
  (85, (.iload 4, 87, 4, 0, 0, 0, [], [])),
  (87, (.iload 5, 89, 5, 0, 0, 0, [], [])),
  (89, (.if_icmp .ge 20, 92, 109, 0, 0, 0, [], [])),
  (92, (.aload_n 0, 93, 0, 0, 0, 0, [], [])),
  (93, (.iload 4, 95, 4, 0, 0, 0, [], [])),
  (95, (.iload 5, 97, 5, 0, 0, 0, [], [])),
  (97, (.invokevirtual 316, 100, 104, 3, 0, 0, [], [612, 76, 609, 611, 24, 5])),
  (100, (.iinc 4 1, 103, 4, 0, 1, 0, [], [])),
  (103, (.iinc 5 (-1), 106, 5, 0, (-1), 0, [], [])),
  (106, (.goto (-21), 109, 85, 0, 0, 0, [], [])),
  (109, (.iconst 1, 110, 0, 0, 1, 0, [], [])),
  (110, (.ireturn, 111, 0, 0, 0, 0, [], []))]
def mX5_stepRow : hd_I := (RX5, yX5_stepRow, cX5_stepRow, 6, (some .boolean), 2, pX5_stepRow)
def pX5_exchangeInRow : List (Nat × hd_O) := [
  (0, (.aload_n 0, 1, 0, 0, 0, 0, [], [])),
  (1, (.getfield 45, 4, 5, 6, 0, 0, [], [257])),
  (4, (.iload_n 1, 5, 1, 0, 0, 0, [], [])),
  (5, (.iaload, 6, 0, 0, 0, 0, [], [])),
  (6, (.istore_n 3, 7, 3, 0, 0, 0, [], [])),
  (7, (.aload_n 0, 8, 0, 0, 0, 0, [], [])),
  (8, (.getfield 45, 11, 5, 6, 0, 0, [], [257])),
  (11, (.iload_n 1, 12, 1, 0, 0, 0, [], [])),
  (12, (.aload_n 0, 13, 0, 0, 0, 0, [], [])),
  (13, (.getfield 45, 16, 5, 6, 0, 0, [], [257])),
  (16, (.iload_n 2, 17, 2, 0, 0, 0, [], [])),
  (17, (.iaload, 18, 0, 0, 0, 0, [], [])),
  (18, (.iastore, 19, 0, 0, 0, 0, [], [])),
  (19, (.aload_n 0, 20, 0, 0, 0, 0, [], [])),
  (20, (.getfield 45, 23, 5, 6, 0, 0, [], [257])),
  (23, (.iload_n 2, 24, 2, 0, 0, 0, [], [])),
  (24, (.iload_n 3, 25, 3, 0, 0, 0, [], [])),
  (25, (.iastore, 26, 0, 0, 0, 0, [], [])),
  (26, (.return_, 27, 0, 0, 0, 0, [], []))]
def mX5_exchangeInRow : hd_I := (RX5, yX5_exchangeInRow, cX5_exchangeInRow, 4, none, 1, pX5_exchangeInRow)
def pX5_moodUnderLids : List (Nat × hd_O) := [
  (0, (.aload_n 0, 1, 0, 0, 0, 0, [], [])),
  (1, (.invokevirtual 185, 4, 94, 1, 0, 0, [], [565, 76, 562, 564, 19, 5])),
  (4, (.iconst 0, 5, 0, 0, 0, 0, [], [])),
  (5, (.istore_n 3, 6, 3, 0, 0, 0, [], [])),
  (6, (.iload_n 3, 7, 3, 0, 0, 0, [], [])),
  (7, (.iload_n 2, 8, 2, 0, 0, 0, [], [])),
  (8, (.if_icmp .ge 30, 11, 38, 0, 0, 0, [], [])),
  (11, (.aload_n 0, 12, 0, 0, 0, 0, [], [])),
  (12, (.getfield 16, 15, 5, 1, 0, 0, [], [252])),
  (15, (.iload_n 1, 16, 1, 0, 0, 0, [], [])),
  (16, (.iload_n 3, 17, 3, 0, 0, 0, [], [])),
  (17, (.ishr, 18, 0, 0, 0, 0, [], [])),
  (18, (.iconst 1, 19, 0, 0, 1, 0, [], [])),
  (19, (.iand, 20, 0, 0, 0, 0, [], [])),
  (20, (.iconst 1, 21, 0, 0, 1, 0, [], [])),
  (21, (.if_icmp .ne 7, 24, 28, 0, 0, 0, [], [])),
  (24, (.iconst 1, 25, 0, 0, 1, 0, [], [])),
  (25, (.goto 4, 28, 29, 0, 0, 0, [], [])),
  (28, (.iconst 0, 29, 0, 0, 0, 0, [], [])),
  (29, (.invokevirtual 188, 32, 23, 2, 0, 0, [], [536, 77, 567, 534, 535, 0])),
  (32, (.iinc 3 1, 35, 3, 0, 1, 0, [], [])),
  (35, (.goto (-29), 38, 6, 0, 0, 0, [], [])),
  (38, (.aload_n 0, 39, 0, 0, 0, 0, [], [])),
  (39, (.getfield 16, 42, 5, 1, 0, 0, [], [252])),
  (42, (.getfield 97, 45, 0, 7, 0, 0, [], [120])),
  (45, (.ireturn, 46, 0, 0, 0, 0, [], []))]
def mX5_moodUnderLids : hd_I := (RX5, yX5_moodUnderLids, cX5_moodUnderLids, 4, (some .int), 5, pX5_moodUnderLids)
def pX5_waysOfLids : List (Nat × hd_O) := [
  (0, (.lconst 1, 1, 0, 0, 0, 1, [], [])),
  (1, (.lstore_n 3, 2, 3, 0, 0, 0, [], [])),
  (2, (.iconst 0, 3, 0, 0, 0, 0, [], [])),
  (3, (.istore 5, 5, 5, 0, 0, 0, [], [])),
  (5, (.iload 5, 7, 5, 0, 0, 0, [], [])),
  (7, (.iload_n 2, 8, 2, 0, 0, 0, [], [])),
  (8, (.if_icmp .ge 32, 11, 40, 0, 0, 0, [], [])),
  (11, (.lload_n 3, 12, 3, 0, 0, 0, [], [])),
  (12, (.iload_n 0, 13, 0, 0, 0, 0, [], [])),
  (13, (.iload 5, 15, 5, 0, 0, 0, [], [])),
  (15, (.ishr, 16, 0, 0, 0, 0, [], [])),
  (16, (.iconst 1, 17, 0, 0, 1, 0, [], [])),
  (17, (.iand, 18, 0, 0, 0, 0, [], [])),
  (18, (.iconst 1, 19, 0, 0, 1, 0, [], [])),
  (19, (.if_icmp .ne 8, 22, 27, 0, 0, 0, [], [])),
  (22, (.iload_n 1, 23, 1, 0, 0, 0, [], [])),
  (23, (.i2l, 24, 0, 0, 0, 0, [], [])),
  (24, (.goto 8, 27, 32, 0, 0, 0, [], [])),
  (27, (.bipush 10, 29, 0, 0, 10, 0, [], [])),
  (29, (.iload_n 1, 30, 1, 0, 0, 0, [], [])),
  (30, (.isub, 31, 0, 0, 0, 0, [], [])),
  (31, (.i2l, 32, 0, 0, 0, 0, [], [])),
  (32, (.lmul, 33, 0, 0, 0, 0, [], [])),
  (33, (.lstore_n 3, 34, 3, 0, 0, 0, [], [])),
  (34, (.iinc 5 1, 37, 5, 0, 1, 0, [], [])),
  (37, (.goto (-32), 40, 5, 0, 0, 0, [], [])),
  (40, (.lload_n 3, 41, 3, 0, 0, 0, [], [])),
  (41, (.lreturn, 42, 0, 0, 0, 0, [], []))]
def mX5_waysOfLids : hd_I := (RX5, yX5_waysOfLids, cX5_waysOfLids, 6, (some .long), 1, pX5_waysOfLids)
def pX5_partOfFraction : List (Nat × hd_O) := [
  (0, (.lload_n 2, 1, 2, 0, 0, 0, [], [])),
  (1, (.lstore 5, 3, 5, 0, 0, 0, [], [])),
  (3, (.lload_n 0, 4, 0, 0, 0, 0, [], [])),
  (4, (.lstore 7, 6, 7, 0, 0, 0, [], [])),
  (6, (.iconst 0, 7, 0, 0, 0, 0, [], [])),
  (7, (.istore 9, 9, 9, 0, 0, 0, [], [])),
  (9, (.iload 9, 11, 9, 0, 0, 0, [], [])),
  (11, (.sipush 200, 14, 0, 0, 200, 0, [], [])),
  (14, (.if_icmp .ge 31, 17, 45, 0, 0, 0, [], [])),
  (17, (.lload 7, 19, 7, 0, 0, 0, [], [])),
  (19, (.lconst 0, 20, 0, 0, 0, 0, [], [])),
  (20, (.lcmp, 21, 0, 0, 0, 0, [], [])),
  (21, (.ifCond .eq 24, 24, 45, 0, 0, 0, [], [])),
  (24, (.lload 5, 26, 5, 0, 0, 0, [], [])),
  (26, (.lload 7, 28, 7, 0, 0, 0, [], [])),
  (28, (.lrem, 29, 0, 0, 0, 0, [], [])),
  (29, (.lstore 10, 31, 10, 0, 0, 0, [], [])),
  (31, (.lload 7, 33, 7, 0, 0, 0, [], [])),
  (33, (.lstore 5, 35, 5, 0, 0, 0, [], [])),
  (35, (.lload 10, 37, 10, 0, 0, 0, [], [])),
  (37, (.lstore 7, 39, 7, 0, 0, 0, [], [])),
  (39, (.iinc 9 1, 42, 9, 0, 1, 0, [], [])),
  (42, (.goto (-33), 45, 9, 0, 0, 0, [], [])),
  (45, (.lload 5, 47, 5, 0, 0, 0, [], [])),
  (47, (.lconst 0, 48, 0, 0, 0, 0, [], [])),
  (48, (.lcmp, 49, 0, 0, 0, 0, [], [])),
  (49, (.ifCond .ne 7, 52, 56, 0, 0, 0, [], [])),
  (52, (.ldc2_w 213, 55, 0, 0, 0, (-1), [], [673])),
  (55, (.lreturn, 56, 0, 0, 0, 0, [], [])),
  (56, (.iload 4, 58, 4, 0, 0, 0, [], [])),
  (58, (.ifCond .ne 7, 61, 65, 0, 0, 0, [], [])),
  (61, (.lload_n 0, 62, 0, 0, 0, 0, [], [])),
  (62, (.goto 4, 65, 66, 0, 0, 0, [], [])),
  (65, (.lload_n 2, 66, 2, 0, 0, 0, [], [])),
  (66, (.lload 5, 68, 5, 0, 0, 0, [], [])),
  (68, (.ldiv, 69, 0, 0, 0, 0, [], [])),
  (69, (.lreturn, 70, 0, 0, 0, 0, [], []))]
def mX5_partOfFraction : hd_I := (RX5, yX5_partOfFraction, cX5_partOfFraction, 12, (some .long), 1, pX5_partOfFraction)
def pX5_traitsAsSeen : List (Nat × hd_O) := [
  (0, (.iconst 0, 1, 0, 0, 0, 0, [], [])),
  (1, (.istore 4, 3, 4, 0, 0, 0, [], [])),
  (3, (.iconst 0, 4, 0, 0, 0, 0, [], [])),
  (4, (.istore 5, 6, 5, 0, 0, 0, [], [])),
  (6, (.iload 5, 8, 5, 0, 0, 0, [], [])),
  (8, (.iload_n 3, 9, 3, 0, 0, 0, [], [])),
  (9, (.if_icmp .gt 29, 12, 38, 0, 0, 0, [], [])),
  (12, (.aload_n 0, 13, 0, 0, 0, 0, [], [])),
  (13, (.iload_n 1, 14, 1, 0, 0, 0, [], [])),
  (14, (.iload_n 2, 15, 2, 0, 0, 0, [], [])),
  (15, (.iload 5, 17, 5, 0, 0, 0, [], [])),
  (17, (.invokevirtual 319, 20, 109, 4, 0, 0, [], [711, 76, 708, 710, 29, 5])),
  (20, (.ifCond .eq 12, 23, 32, 0, 0, 0, [], [])),
  (23, (.iload 4, 25, 4, 0, 0, 0, [], [])),
  (25, (.iconst 1, 26, 0, 0, 1, 0, [], [])),
  (26, (.iload 5, 28, 5, 0, 0, 0, [], [])),
  (28, (.ishl, 29, 0, 0, 0, 0, [], [])),
  (29, (.ior, 30, 0, 0, 0, 0, [], [])),
  (30, (.istore 4, 32, 4, 0, 0, 0, [], [])),
  (32, (.iinc 5 1, 35, 5, 0, 1, 0, [], [])),
  (35, (.goto (-29), 38, 6, 0, 0, 0, [], [])),
  (38, (.iload 4, 40, 4, 0, 0, 0, [], [])),
  (40, (.ireturn, 41, 0, 0, 0, 0, [], []))]
def mX5_traitsAsSeen : hd_I := (RX5, yX5_traitsAsSeen, cX5_traitsAsSeen, 6, (some .int), 7, pX5_traitsAsSeen)
def pX5_isAsSeen : List (Nat × hd_O) := [
  (0, (.iconst 0, 1, 0, 0, 0, 0, [], [])),
  (1, (.istore 4, 3, 4, 0, 0, 0, [], [])),
  (3, (.iload 4, 5, 4, 0, 0, 0, [], [])),
  (5, (.aload_n 0, 6, 0, 0, 0, 0, [], [])),
  (6, (.getfield 22, 9, 5, 2, 0, 0, [], [253])),
  (9, (.getfield 86, 12, 2, 2, 0, 0, [], [159])),
  (12, (.if_icmp .ge 41, 15, 53, 0, 0, 0, [], [])),
  (15, (.aload_n 0, 16, 0, 0, 0, 0, [], [])),
  (16, (.iload_n 1, 17, 1, 0, 0, 0, [], [])),
  (17, (.iload_n 2, 18, 2, 0, 0, 0, [], [])),
  (18, (.iload_n 3, 19, 3, 0, 0, 0, [], [])),
  (19, (.aload_n 0, 20, 0, 0, 0, 0, [], [])),
  (20, (.getfield 22, 23, 5, 2, 0, 0, [], [253])),
  (23, (.getfield 322, 26, 2, 0, 0, 0, [], [155])),
  (26, (.iload 4, 28, 4, 0, 0, 0, [], [])),
  (28, (.iaload, 29, 0, 0, 0, 0, [], [])),
  (29, (.invokevirtual 206, 32, 96, 5, 0, 0, [], [657, 76, 654, 656, 26, 5])),
  (32, (.aload_n 0, 33, 0, 0, 0, 0, [], [])),
  (33, (.getfield 22, 36, 5, 2, 0, 0, [], [253])),
  (36, (.getfield 325, 39, 2, 1, 0, 0, [], [157])),
  (39, (.iload 4, 41, 4, 0, 0, 0, [], [])),
  (41, (.iaload, 42, 0, 0, 0, 0, [], [])),
  (42, (.if_icmp .eq 5, 45, 47, 0, 0, 0, [], [])),
  (45, (.iconst 0, 46, 0, 0, 0, 0, [], [])),
  (46, (.ireturn, 47, 0, 0, 0, 0, [], [])),
  (47, (.iinc 4 1, 50, 4, 0, 1, 0, [], [])),
  (50, (.goto (-47), 53, 3, 0, 0, 0, [], [])),
  (53, (.iconst 1, 54, 0, 0, 1, 0, [], [])),
  (54, (.ireturn, 55, 0, 0, 0, 0, [], []))]
def mX5_isAsSeen : hd_I := (RX5, yX5_isAsSeen, cX5_isAsSeen, 5, (some .boolean), 6, pX5_isAsSeen)
def pX5_fillLooks : List (Nat × hd_O) := [
  (0, (.iconst 0, 1, 0, 0, 0, 0, [], [])),
  (1, (.istore_n 3, 2, 3, 0, 0, 0, [], [])),
  (2, (.iload_n 3, 3, 3, 0, 0, 0, [], [])),
  (3, (.bipush 10, 5, 0, 0, 10, 0, [], [])),
  (5, (.if_icmp .ge 90, 8, 95, 0, 0, 0, [], [])),
  (8, (.iload_n 2, 9, 2, 0, 0, 0, [], [])),
  (9, (.iload_n 3, 10, 3, 0, 0, 0, [], [])),
  (10, (.ishr, 11, 0, 0, 0, 0, [], [])),
  (11, (.iconst 1, 12, 0, 0, 1, 0, [], [])),
  (12, (.iand, 13, 0, 0, 0, 0, [], [])),
  (13, (.iconst 1, 14, 0, 0, 1, 0, [], [])),
  (14, (.if_icmp .ne 75, 17, 89, 0, 0, 0, [], [])),
  (17, (.aload_n 0, 18, 0, 0, 0, 0, [], [])),
  (18, (.getfield 16, 21, 5, 1, 0, 0, [], [252])),
  (21, (.aload_n 0, 22, 0, 0, 0, 0, [], [])),
  (22, (.getfield 10, 25, 5, 0, 0, 0, [], [251])),
  (25, (.invokevirtual 82, 28, 1, 2, 0, 0, [], [419, 77, 416, 417, 418, 0])),
  (28, (.aload_n 0, 29, 0, 0, 0, 0, [], [])),
  (29, (.getfield 16, 32, 5, 1, 0, 0, [], [252])),
  (32, (.iload_n 1, 33, 1, 0, 0, 0, [], [])),
  (33, (.iconst 1, 34, 0, 0, 1, 0, [], [])),
  (34, (.iload_n 3, 35, 3, 0, 0, 0, [], [])),
  (35, (.invokevirtual 142, 38, 8, 4, 0, 0, [], [484, 77, 481, 482, 483, 0])),
  (38, (.pop, 39, 0, 0, 0, 0, [], [])),
  (39, (.aload_n 0, 40, 0, 0, 0, 0, [], [])),
  (40, (.getfield 16, 43, 5, 1, 0, 0, [], [252])),
  (43, (.invokevirtual 286, 46, 21, 1, 0, 0, [], [532, 77, 566, 530, 531, 0])),
  (46, (.iconst 0, 47, 0, 0, 0, 0, [], [])),
  (47, (.istore 4, 49, 4, 0, 0, 0, [], [])),
  (49, (.iload 4, 51, 4, 0, 0, 0, [], [])),
  (51, (.bipush 20, 53, 0, 0, 20, 0, [], [])),
  (53, (.if_icmp .gt 36, 56, 89, 0, 0, 0, [], [])),
  (56, (.aload_n 0, 57, 0, 0, 0, 0, [], [])),
  (57, (.getfield 52, 60, 5, 8, 0, 0, [], [259])),
  (60, (.iload 4, 62, 4, 0, 0, 0, [], [])),
  (62, (.bipush 10, 64, 0, 0, 10, 0, [], [])),
  (64, (.imul, 65, 0, 0, 0, 0, [], [])),
  (65, (.iload_n 3, 66, 3, 0, 0, 0, [], [])),
  (66, (.iadd, 67, 0, 0, 0, 0, [], [])),
  (67, (.aload_n 0, 68, 0, 0, 0, 0, [], [])),
  (68, (.getfield 16, 71, 5, 1, 0, 0, [], [252])),
  (71, (.getfield 97, 74, 0, 7, 0, 0, [], [120])),
  (74, (.iastore, 75, 0, 0, 0, 0, [], [])),
  (75, (.aload_n 0, 76, 0, 0, 0, 0, [], [])),
  (76, (.getfield 16, 79, 5, 1, 0, 0, [], [252])),
  (79, (.iconst 0, 80, 0, 0, 0, 0, [], [])),
  (80, (.invokevirtual 188, 83, 23, 2, 0, 0, [], [536, 77, 567, 534, 535, 0])),
  (83, (.iinc 4 1, 86, 4, 0, 1, 0, [], [])),
  (86, (.goto (-37), 89, 49, 0, 0, 0, [], [])),
  (89, (.iinc 3 1, 92, 3, 0, 1, 0, [], [])),
  (92, (.goto (-90), 95, 2, 0, 0, 0, [], [])),
  (95, (.return_, 96, 0, 0, 0, 0, [], []))]
def mX5_fillLooks : hd_I := (RX5, yX5_fillLooks, cX5_fillLooks, 5, none, 4, pX5_fillLooks)
def pX5_mostAlike : List (Nat × hd_O) := [
  (0, (.iconst 0, 1, 0, 0, 0, 0, [], [])),
  (1, (.istore_n 3, 2, 3, 0, 0, 0, [], [])),
  (2, (.iconst 0, 3, 0, 0, 0, 0, [], [])),
  (3, (.istore 4, 5, 4, 0, 0, 0, [], [])),
  (5, (.iload 4, 7, 4, 0, 0, 0, [], [])),
  (7, (.bipush 10, 9, 0, 0, 10, 0, [], [])),
  (9, (.if_icmp .ge 32, 12, 41, 0, 0, 0, [], [])),
  (12, (.iload_n 2, 13, 2, 0, 0, 0, [], [])),
  (13, (.iload 4, 15, 4, 0, 0, 0, [], [])),
  (15, (.ishr, 16, 0, 0, 0, 0, [], [])),
  (16, (.iconst 1, 17, 0, 0, 1, 0, [], [])),
  (17, (.iand, 18, 0, 0, 0, 0, [], [])),
  (18, (.iconst 1, 19, 0, 0, 1, 0, [], [])),
  (19, (.if_icmp .ne 16, 22, 35, 0, 0, 0, [], [])),
  (22, (.iload_n 3, 23, 3, 0, 0, 0, [], [])),
  (23, (.aload_n 0, 24, 0, 0, 0, 0, [], [])),
  (24, (.iload_n 1, 25, 1, 0, 0, 0, [], [])),
  (25, (.iload_n 2, 26, 2, 0, 0, 0, [], [])),
  (26, (.iload 4, 28, 4, 0, 0, 0, [], [])),
  (28, (.invokevirtual 328, 31, 112, 4, 0, 0, [], [737, 76, 734, 736, 32, 5])),
  (31, (.invokestatic 289, 34, 9001, 0, 0, 0, [], [546, 87, 568, 545])),
  (34, (.istore_n 3, 35, 3, 0, 0, 0, [], [])),
  (35, (.iinc 4 1, 38, 4, 0, 1, 0, [], [])),
  (38, (.goto (-33), 41, 5, 0, 0, 0, [], [])),
  (41, (.iload_n 3, 42, 3, 0, 0, 0, [], [])),
  (42, (.ireturn, 43, 0, 0, 0, 0, [], []))]
def mX5_mostAlike : hd_I := (RX5, yX5_mostAlike, cX5_mostAlike, 5, (some .int), 2, pX5_mostAlike)
def pX5_alikeWith : List (Nat × hd_O) := [
  (0, (.iconst 0, 1, 0, 0, 0, 0, [], [])),
  (1, (.istore 4, 3, 4, 0, 0, 0, [], [])),
  (3, (.iconst 0, 4, 0, 0, 0, 0, [], [])),
  (4, (.istore 5, 6, 5, 0, 0, 0, [], [])),
  (6, (.iload 5, 8, 5, 0, 0, 0, [], [])),
  (8, (.bipush 10, 10, 0, 0, 10, 0, [], [])),
  (10, (.if_icmp .ge 48, 13, 58, 0, 0, 0, [], [])),
  (13, (.iload_n 2, 14, 2, 0, 0, 0, [], [])),
  (14, (.iload 5, 16, 5, 0, 0, 0, [], [])),
  (16, (.ishr, 17, 0, 0, 0, 0, [], [])),
  (17, (.iconst 1, 18, 0, 0, 1, 0, [], [])),
  (18, (.iand, 19, 0, 0, 0, 0, [], [])),
  (19, (.iconst 1, 20, 0, 0, 1, 0, [], [])),
  (20, (.if_icmp .ne 32, 23, 52, 0, 0, 0, [], [])),
  (23, (.aload_n 0, 24, 0, 0, 0, 0, [], [])),
  (24, (.getfield 52, 27, 5, 8, 0, 0, [], [259])),
  (27, (.iload_n 1, 28, 1, 0, 0, 0, [], [])),
  (28, (.bipush 10, 30, 0, 0, 10, 0, [], [])),
  (30, (.imul, 31, 0, 0, 0, 0, [], [])),
  (31, (.iload 5, 33, 5, 0, 0, 0, [], [])),
  (33, (.iadd, 34, 0, 0, 0, 0, [], [])),
  (34, (.iaload, 35, 0, 0, 0, 0, [], [])),
  (35, (.aload_n 0, 36, 0, 0, 0, 0, [], [])),
  (36, (.getfield 52, 39, 5, 8, 0, 0, [], [259])),
  (39, (.iload_n 1, 40, 1, 0, 0, 0, [], [])),
  (40, (.bipush 10, 42, 0, 0, 10, 0, [], [])),
  (42, (.imul, 43, 0, 0, 0, 0, [], [])),
  (43, (.iload_n 3, 44, 3, 0, 0, 0, [], [])),
  (44, (.iadd, 45, 0, 0, 0, 0, [], [])),
  (45, (.iaload, 46, 0, 0, 0, 0, [], [])),
  (46, (.if_icmp .ne 6, 49, 52, 0, 0, 0, [], [])),
  (49, (.iinc 4 1, 52, 4, 0, 1, 0, [], [])),
  (52, (.iinc 5 1, 55, 5, 0, 1, 0, [], [])),
  (55, (.goto (-49), 58, 6, 0, 0, 0, [], [])),
  (58, (.iload 4, 60, 4, 0, 0, 0, [], [])),
  (60, (.ireturn, 61, 0, 0, 0, 0, [], []))]
def mX5_alikeWith : hd_I := (RX5, yX5_alikeWith, cX5_alikeWith, 6, (some .int), 1, pX5_alikeWith)
def pX5_imagesMade : List (Nat × hd_O) := [
  (0, (.iconst 0, 1, 0, 0, 0, 0, [], [])),
  (1, (.istore_n 1, 2, 1, 0, 0, 0, [], [])),
  (2, (.iconst 0, 3, 0, 0, 0, 0, [], [])),
  (3, (.istore_n 2, 4, 2, 0, 0, 0, [], [])),
  (4, (.iload_n 2, 5, 2, 0, 0, 0, [], [])),
  (5, (.iconst 2, 6, 0, 0, 2, 0, [], [])),
  (6, (.if_icmp .ge 29, 9, 35, 0, 0, 0, [], [])),
  (9, (.iload_n 1, 10, 1, 0, 0, 0, [], [])),
  (10, (.aload_n 0, 11, 0, 0, 0, 0, [], [])),
  (11, (.getfield 35, 14, 5, 4, 0, 0, [], [255])),
  (14, (.iload_n 2, 15, 2, 0, 0, 0, [], [])),
  (15, (.aaload, 16, 0, 0, 0, 0, [], [])),
  (16, (.getfield 89, 19, 1, 2, 0, 0, [], [226])),
  (19, (.ifCond .eq 7, 22, 26, 0, 0, 0, [], [])),
  (22, (.iconst 1, 23, 0, 0, 1, 0, [], [])),
  (23, (.goto 4, 26, 27, 0, 0, 0, [], [])),
  (26, (.iconst 0, 27, 0, 0, 0, 0, [], [])),
  (27, (.iadd, 28, 0, 0, 0, 0, [], [])),
  (28, (.istore_n 1, 29, 1, 0, 0, 0, [], [])),
  (29, (.iinc 2 1, 32, 2, 0, 1, 0, [], [])),
  (32, (.goto (-28), 35, 4, 0, 0, 0, [], [])),
  (35, (.iload_n 1, 36, 1, 0, 0, 0, [], [])),
  (36, (.ireturn, 37, 0, 0, 0, 0, [], []))]
def mX5_imagesMade : hd_I := (RX5, yX5_imagesMade, cX5_imagesMade, 3, (some .int), 1, pX5_imagesMade)
end
section
/-! printed by wip/whole/gen.py: the instructions of the methods, resolved -/
def pX6_in : List (Nat × hd_O) := [
  (0, (.lload_n 0, 1, 0, 0, 0, 0, [], [])),
  (1, (.lload_n 2, 2, 2, 0, 0, 0, [], [])),
  (2, (.lcmp, 3, 0, 0, 0, 0, [], [])),
  (3, (.ifCond .lt 14, 6, 17, 0, 0, 0, [], [])),
  (6, (.lload_n 0, 7, 0, 0, 0, 0, [], [])),
  (7, (.lload 4, 9, 4, 0, 0, 0, [], [])),
  (9, (.lcmp, 10, 0, 0, 0, 0, [], [])),
  (10, (.ifCond .gt 7, 13, 17, 0, 0, 0, [], [])),
  (13, (.iconst 1, 14, 0, 0, 1, 0, [], [])),
  (14, (.goto 4, 17, 18, 0, 0, 0, [], [])),
  (17, (.iconst 0, 18, 0, 0, 0, 0, [], [])),
  (18, (.ireturn, 19, 0, 0, 0, 0, [], []))]
def mX6_in : hd_I := (RX6, yX6_in, cX6_in, 6, (some .boolean), 1, pX6_in)
def pX6_flag : List (Nat × hd_O) := [
  (0, (.iload_n 0, 1, 0, 0, 0, 0, [], [])),
  (1, (.ifCond .eq 7, 4, 8, 0, 0, 0, [], [])),
  (4, (.iconst 1, 5, 0, 0, 1, 0, [], [])),
  (5, (.goto 4, 8, 9, 0, 0, 0, [], [])),
  (8, (.iconst 0, 9, 0, 0, 0, 0, [], [])),
  (9, (.ireturn, 10, 0, 0, 0, 0, [], []))]
def mX6_flag : hd_I := (RX6, yX6_flag, cX6_flag, 1, (some .int), 1, pX6_flag)
def pX6_firstDraft : List (Nat × hd_O) := [
  (0, (.iconst 0, 1, 0, 0, 0, 0, [], [])),
  (1, (.istore_n 1, 2, 1, 0, 0, 0, [], [])),
  (2, (.iload_n 1, 3, 1, 0, 0, 0, [], [])),
  (3, (.bipush 46, 5, 0, 0, 46, 0, [], [])),
  (5, (.if_icmp .ge 16, 8, 21, 0, 0, 0, [], [])),
  (8, (.aload_n 0, 9, 0, 0, 0, 0, [], [])),
  (9, (.getfield 20, 12, 6, 3, 0, 0, [], [829])),
  (12, (.iload_n 1, 13, 1, 0, 0, 0, [], [])),
  (13, (.iconst 0, 14, 0, 0, 0, 0, [], [])),
  (14, (.iastore, 15, 0, 0, 0, 0, [], [])),
  (15, (.iinc 1 1, 18, 1, 0, 1, 0, [], [])),
  (18, (.goto (-16), 21, 2, 0, 0, 0, [], [])),
  (21, (.aload_n 0, 22, 0, 0, 0, 0, [], [])),
  (22, (.getfield 20, 25, 6, 3, 0, 0, [], [829])),
  (25, (.bipush 30, 27, 0, 0, 30, 0, [], [])),
  (27, (.bipush 30, 29, 0, 0, 30, 0, [], [])),
  (29, (.iastore, 30, 0, 0, 0, 0, [], [])),
  (30, (.aload_n 0, 31, 0, 0, 0, 0, [], [])),
  (31, (.getfield 20, 34, 6, 3, 0, 0, [], [829])),
  (34, (.bipush 31, 36, 0, 0, 31, 0, [], [])),
  (36, (.iconst 1, 37, 0, 0, 1, 0, [], [])),
  (37, (.iastore, 38, 0, 0, 0, 0, [], [])),
  (38, (.aload_n 0, 39, 0, 0, 0, 0, [], [])),
  (39, (.iconst 0, 40, 0, 0, 0, 0, [], [])),
  (40, (.putfield 56, 43, 6, 4, 1, 0, [], [830])),
  (43, (.aload_n 0, 44, 0, 0, 0, 0, [], [])),
  (44, (.iconst 0, 45, 0, 0, 0, 0, [], [])),
  (45, (.putfield 60, 48, 6, 5, 1, 0, [], [831])),
  (48, (.return_, 49, 0, 0, 0, 0, [], []))]
def mX6_firstDraft : hd_I := (RX6, yX6_firstDraft, cX6_firstDraft, 2, none, 1, pX6_firstDraft)
def pX6_keepDraft : List (Nat × hd_O) := [
  (0, (.aload_n 0, 1, 0, 0, 0, 0, [], [])),
  (1, (.getfield 20, 4, 6, 3, 0, 0, [], [829])),
  (4, (.bipush 29, 6, 0, 0, 29, 0, [], [])),
  (6, (.aload_n 0, 7, 0, 0, 0, 0, [], [])),
  (7, (.getfield 20, 10, 6, 3, 0, 0, [], [829])),
  (10, (.bipush 28, 12, 0, 0, 28, 0, [], [])),
  (12, (.iaload, 13, 0, 0, 0, 0, [], [])),
  (13, (.iastore, 14, 0, 0, 0, 0, [], [])),
  (14, (.iconst 0, 15, 0, 0, 0, 0, [], [])),
  (15, (.istore_n 1, 16, 1, 0, 0, 0, [], [])),
  (16, (.iload_n 1, 17, 1, 0, 0, 0, [], [])),
  (17, (.bipush 46, 19, 0, 0, 46, 0, [], [])),
  (19, (.if_icmp .ge 21, 22, 40, 0, 0, 0, [], [])),
  (22, (.aload_n 0, 23, 0, 0, 0, 0, [], [])),
  (23, (.getfield 7, 26, 6, 0, 0, 0, [], [826])),
  (26, (.iload_n 1, 27, 1, 0, 0, 0, [], [])),
  (27, (.aload_n 0, 28, 0, 0, 0, 0, [], [])),
  (28, (.getfield 20, 31, 6, 3, 0, 0, [], [829])),
  (31, (.iload_n 1, 32, 1, 0, 0, 0, [], [])),
  (32, (.iaload, 33, 0, 0, 0, 0, [], [])),
  (33, (.iastore, 34, 0, 0, 0, 0, [], [])),
  (34, (.iinc 1 1, 37, 1, 0, 1, 0, [], [])),
  (37, (.goto (-21), 40, 16, 0, 0, 0, [], [])),
  (40, (.aload_n 0, 41, 0, 0, 0, 0, [], [])),
  (41, (.getfield 16, 44, 6, 2, 0, 0, [], [828])),
  (44, (.iconst 0, 45, 0, 0, 0, 0, [], [])),
  (45, (.iconst 0, 46, 0, 0, 0, 0, [], [])),
  (46, (.bastore, 47, 0, 0, 0, 0, [], [])),
  (47, (.aload_n 0, 48, 0, 0, 0, 0, [], [])),
  (48, (.getfield 16, 51, 6, 2, 0, 0, [], [828])),
  (51, (.iconst 1, 52, 0, 0, 1, 0, [], [])),
  (52, (.iconst 0, 53, 0, 0, 0, 0, [], [])),
  (53, (.bastore, 54, 0, 0, 0, 0, [], [])),
  (54, (.return_, 55, 0, 0, 0, 0, [], []))]
def mX6_keepDraft : hd_I := (RX6, yX6_keepDraft, cX6_keepDraft, 2, none, 1, pX6_keepDraft)
def pX6_feed : List (Nat × hd_O) := [
  (0, (.iload_n 1, 1, 1, 0, 0, 0, [], [])),
  (1, (.i2l, 2, 0, 0, 0, 0, [], [])),
  (2, (.lconst 0, 3, 0, 0, 0, 0, [], [])),
  (3, (.ldc2_w 63, 6, 0, 0, 0, 127, [], [916])),
  (6, (.invokestatic 65, 9, 114, 3, 0, 0, [], [919, 82, 917, 918])),
  (9, (.ifCond .ne 5, 12, 14, 0, 0, 0, [], [])),
  (12, (.iconst (-1), 13, 0, 0, (-1), 0, [], [])),
  (13, (.ireturn, 14, 0, 0, 0, 0, [], [])),
  (14, (.aload_n 0, 15, 0, 0, 0, 0, [], [])),
  (15, (.getfield 69, 18, 6, 7, 0, 0, [], [833])),
  (18, (.sipush 160, 21, 0, 0, 160, 0, [], [])),
  (21, (.if_icmp .ne 6, 24, 27, 0, 0, 0, [], [])),
  (24, (.bipush (-3), 26, 0, 0, (-3), 0, [], [])),
  (26, (.ireturn, 27, 0, 0, 0, 0, [], [])),
  (27, (.aload_n 0, 28, 0, 0, 0, 0, [], [])),
  (28, (.getfield 23, 31, 6, 6, 0, 0, [], [832])),
  (31, (.aload_n 0, 32, 0, 0, 0, 0, [], [])),
  (32, (.getfield 69, 35, 6, 7, 0, 0, [], [833])),
  (35, (.iload_n 1, 36, 1, 0, 0, 0, [], [])),
  (36, (.iastore, 37, 0, 0, 0, 0, [], [])),
  (37, (.aload_n 0, 38, 0, 0, 0, 0, [], [])),
  (38, (.dup, 39, 0, 0, 0, 0, [], [])),
  (39, (.getfield 69, 42, 6, 7, 0, 0, [], [833])),
  (42, (.iconst 1, 43, 0, 0, 1, 0, [], [])),
  (43, (.iadd, 44, 0, 0, 0, 0, [], [])),
  (44, (.putfield 69, 47, 6, 7, 0, 0, [], [833])),
  (47, (.aload_n 0, 48, 0, 0, 0, 0, [], [])),
  (48, (.getfield 69, 51, 6, 7, 0, 0, [], [833])),
  (51, (.ireturn, 52, 0, 0, 0, 0, [], []))]
def mX6_feed : hd_I := (RX6, yX6_feed, cX6_feed, 2, (some .int), 2, pX6_feed)
def pX6_end : List (Nat × hd_O) := [
  (0, (.iload_n 1, 1, 1, 0, 0, 0, [], [])),
  (1, (.i2l, 2, 0, 0, 0, 0, [], [])),
  (2, (.lconst 0, 3, 0, 0, 0, 0, [], [])),
  (3, (.aload_n 0, 4, 0, 0, 0, 0, [], [])),
  (4, (.getfield 69, 7, 6, 7, 0, 0, [], [833])),
  (7, (.i2l, 8, 0, 0, 0, 0, [], [])),
  (8, (.invokestatic 65, 11, 114, 3, 0, 0, [], [919, 82, 917, 918])),
  (11, (.ifCond .ne 5, 14, 16, 0, 0, 0, [], [])),
  (14, (.iconst (-1), 15, 0, 0, (-1), 0, [], [])),
  (15, (.ireturn, 16, 0, 0, 0, 0, [], [])),
  (16, (.aload_n 0, 17, 0, 0, 0, 0, [], [])),
  (17, (.getfield 69, 20, 6, 7, 0, 0, [], [833])),
  (20, (.istore_n 2, 21, 2, 0, 0, 0, [], [])),
  (21, (.aload_n 0, 22, 0, 0, 0, 0, [], [])),
  (22, (.iload_n 1, 23, 1, 0, 0, 0, [], [])),
  (23, (.putfield 69, 26, 6, 7, 0, 0, [], [833])),
  (26, (.iload_n 2, 27, 2, 0, 0, 0, [], [])),
  (27, (.ireturn, 28, 0, 0, 0, 0, [], []))]
def mX6_end : hd_I := (RX6, yX6_end, cX6_end, 3, (some .int), 2, pX6_end)
def pX6_requires : List (Nat × hd_O) := [
  (0, (.iload_n 1, 1, 1, 0, 0, 0, [], [])),
  (1, (.ifCond .ne 23, 4, 24, 0, 0, 0, [], [])),
  (4, (.aload_n 0, 5, 0, 0, 0, 0, [], [])),
  (5, (.getfield 73, 8, 6, 12, 0, 0, [], [838])),
  (8, (.ifCond .ne 16, 11, 24, 0, 0, 0, [], [])),
  (11, (.aload_n 0, 12, 0, 0, 0, 0, [], [])),
  (12, (.iload_n 2, 13, 2, 0, 0, 0, [], [])),
  (13, (.putfield 73, 16, 6, 12, 0, 0, [], [838])),
  (16, (.aload_n 0, 17, 0, 0, 0, 0, [], [])),
  (17, (.aload_n 0, 18, 0, 0, 0, 0, [], [])),
  (18, (.getfield 76, 21, 6, 9, 0, 0, [], [835])),
  (21, (.putfield 79, 24, 6, 13, 0, 0, [], [839])),
  (24, (.return_, 25, 0, 0, 0, 0, [], []))]
def mX6_requires : hd_I := (RX6, yX6_requires, cX6_requires, 3, none, 1, pX6_requires)
def pX6_byteAt : List (Nat × hd_O) := [
  (0, (.iload_n 1, 1, 1, 0, 0, 0, [], [])),
  (1, (.aload_n 0, 2, 0, 0, 0, 0, [], [])),
  (2, (.getfield 69, 5, 6, 7, 0, 0, [], [833])),
  (5, (.if_icmp .ge 12, 8, 17, 0, 0, 0, [], [])),
  (8, (.aload_n 0, 9, 0, 0, 0, 0, [], [])),
  (9, (.getfield 23, 12, 6, 6, 0, 0, [], [832])),
  (12, (.iload_n 1, 13, 1, 0, 0, 0, [], [])),
  (13, (.iaload, 14, 0, 0, 0, 0, [], [])),
  (14, (.goto 4, 17, 18, 0, 0, 0, [], [])),
  (17, (.iconst (-1), 18, 0, 0, (-1), 0, [], [])),
  (18, (.ireturn, 19, 0, 0, 0, 0, [], []))]
def mX6_byteAt : hd_I := (RX6, yX6_byteAt, cX6_byteAt, 2, (some .int), 1, pX6_byteAt)
def pX6_is : List (Nat × hd_O) := [
  (0, (.aload_n 0, 1, 0, 0, 0, 0, [], [])),
  (1, (.getfield 82, 4, 6, 8, 0, 0, [], [834])),
  (4, (.aload_n 0, 5, 0, 0, 0, 0, [], [])),
  (5, (.getfield 76, 8, 6, 9, 0, 0, [], [835])),
  (8, (.isub, 9, 0, 0, 0, 0, [], [])),
  (9, (.iload_n 1, 10, 1, 0, 0, 0, [], [])),
  (10, (.if_icmp .ne 63, 13, 73, 0, 0, 0, [], [])),
  (13, (.aload_n 0, 14, 0, 0, 0, 0, [], [])),
  (14, (.aload_n 0, 15, 0, 0, 0, 0, [], [])),
  (15, (.getfield 76, 18, 6, 9, 0, 0, [], [835])),
  (18, (.invokevirtual 85, 21, 121, 2, 0, 0, [], [935, 82, 932, 934, 37, 6])),
  (21, (.iload_n 2, 22, 2, 0, 0, 0, [], [])),
  (22, (.if_icmp .ne 51, 25, 73, 0, 0, 0, [], [])),
  (25, (.aload_n 0, 26, 0, 0, 0, 0, [], [])),
  (26, (.aload_n 0, 27, 0, 0, 0, 0, [], [])),
  (27, (.getfield 76, 30, 6, 9, 0, 0, [], [835])),
  (30, (.iconst 1, 31, 0, 0, 1, 0, [], [])),
  (31, (.iadd, 32, 0, 0, 0, 0, [], [])),
  (32, (.invokevirtual 85, 35, 121, 2, 0, 0, [], [935, 82, 932, 934, 37, 6])),
  (35, (.iload_n 3, 36, 3, 0, 0, 0, [], [])),
  (36, (.if_icmp .ne 37, 39, 73, 0, 0, 0, [], [])),
  (39, (.aload_n 0, 40, 0, 0, 0, 0, [], [])),
  (40, (.aload_n 0, 41, 0, 0, 0, 0, [], [])),
  (41, (.getfield 76, 44, 6, 9, 0, 0, [], [835])),
  (44, (.iconst 2, 45, 0, 0, 2, 0, [], [])),
  (45, (.iadd, 46, 0, 0, 0, 0, [], [])),
  (46, (.invokevirtual 85, 49, 121, 2, 0, 0, [], [935, 82, 932, 934, 37, 6])),
  (49, (.iload 4, 51, 4, 0, 0, 0, [], [])),
  (51, (.if_icmp .ne 22, 54, 73, 0, 0, 0, [], [])),
  (54, (.aload_n 0, 55, 0, 0, 0, 0, [], [])),
  (55, (.aload_n 0, 56, 0, 0, 0, 0, [], [])),
  (56, (.getfield 76, 59, 6, 9, 0, 0, [], [835])),
  (59, (.iconst 3, 60, 0, 0, 3, 0, [], [])),
  (60, (.iadd, 61, 0, 0, 0, 0, [], [])),
  (61, (.invokevirtual 85, 64, 121, 2, 0, 0, [], [935, 82, 932, 934, 37, 6])),
  (64, (.iload 5, 66, 5, 0, 0, 0, [], [])),
  (66, (.if_icmp .ne 7, 69, 73, 0, 0, 0, [], [])),
  (69, (.iconst 1, 70, 0, 0, 1, 0, [], [])),
  (70, (.goto 4, 73, 74, 0, 0, 0, [], [])),
  (73, (.iconst 0, 74, 0, 0, 0, 0, [], [])),
  (74, (.ireturn, 75, 0, 0, 0, 0, [], []))]
def mX6_is : hd_I := (RX6, yX6_is, cX6_is, 6, (some .boolean), 2, pX6_is)
def pX6_endsIn : List (Nat × hd_O) := [
  (0, (.aload_n 0, 1, 0, 0, 0, 0, [], [])),
  (1, (.aload_n 0, 2, 0, 0, 0, 0, [], [])),
  (2, (.getfield 76, 5, 6, 9, 0, 0, [], [835])),
  (5, (.iconst 4, 6, 0, 0, 4, 0, [], [])),
  (6, (.iadd, 7, 0, 0, 0, 0, [], [])),
  (7, (.invokevirtual 85, 10, 121, 2, 0, 0, [], [935, 82, 932, 934, 37, 6])),
  (10, (.iload_n 1, 11, 1, 0, 0, 0, [], [])),
  (11, (.if_icmp .ne 25, 14, 36, 0, 0, 0, [], [])),
  (14, (.iload_n 2, 15, 2, 0, 0, 0, [], [])),
  (15, (.ifCond .eq 17, 18, 32, 0, 0, 0, [], [])),
  (18, (.aload_n 0, 19, 0, 0, 0, 0, [], [])),
  (19, (.aload_n 0, 20, 0, 0, 0, 0, [], [])),
  (20, (.getfield 76, 23, 6, 9, 0, 0, [], [835])),
  (23, (.iconst 5, 24, 0, 0, 5, 0, [], [])),
  (24, (.iadd, 25, 0, 0, 0, 0, [], [])),
  (25, (.invokevirtual 85, 28, 121, 2, 0, 0, [], [935, 82, 932, 934, 37, 6])),
  (28, (.iload_n 2, 29, 2, 0, 0, 0, [], [])),
  (29, (.if_icmp .ne 7, 32, 36, 0, 0, 0, [], [])),
  (32, (.iconst 1, 33, 0, 0, 1, 0, [], [])),
  (33, (.goto 4, 36, 37, 0, 0, 0, [], [])),
  (36, (.iconst 0, 37, 0, 0, 0, 0, [], [])),
  (37, (.ireturn, 38, 0, 0, 0, 0, [], []))]
def mX6_endsIn : hd_I := (RX6, yX6_endsIn, cX6_endsIn, 3, (some .boolean), 2, pX6_endsIn)
def pX6_lineNow : List (Nat × hd_O) := [
  (0, (.aload_n 0, 1, 0, 0, 0, 0, [], [])),
  (1, (.iconst 5, 2, 0, 0, 5, 0, [], [])),
  (2, (.bipush 112, 4, 0, 0, 112, 0, [], [])),
  (4, (.bipush 108, 6, 0, 0, 108, 0, [], [])),
  (6, (.bipush 97, 8, 0, 0, 97, 0, [], [])),
  (8, (.bipush 105, 10, 0, 0, 105, 0, [], [])),
  (10, (.invokevirtual 89, 13, 122, 6, 0, 0, [], [955, 82, 952, 954, 41, 6])),
  (13, (.ifCond .eq 15, 16, 28, 0, 0, 0, [], [])),
  (16, (.aload_n 0, 17, 0, 0, 0, 0, [], [])),
  (17, (.bipush 110, 19, 0, 0, 110, 0, [], [])),
  (19, (.iconst 0, 20, 0, 0, 0, 0, [], [])),
  (20, (.invokevirtual 93, 23, 123, 3, 0, 0, [], [959, 82, 956, 958, 42, 6])),
  (23, (.ifCond .eq 5, 26, 28, 0, 0, 0, [], [])),
  (26, (.iconst 0, 27, 0, 0, 0, 0, [], [])),
  (27, (.ireturn, 28, 0, 0, 0, 0, [], [])),
  (28, (.aload_n 0, 29, 0, 0, 0, 0, [], [])),
  (29, (.iconst 5, 30, 0, 0, 5, 0, [], [])),
  (30, (.bipush 103, 32, 0, 0, 103, 0, [], [])),
  (32, (.bipush 108, 34, 0, 0, 108, 0, [], [])),
  (34, (.bipush 97, 36, 0, 0, 97, 0, [], [])),
  (36, (.bipush 115, 38, 0, 0, 115, 0, [], [])),
  (38, (.invokevirtual 89, 41, 122, 6, 0, 0, [], [955, 82, 952, 954, 41, 6])),
  (41, (.ifCond .eq 15, 44, 56, 0, 0, 0, [], [])),
  (44, (.aload_n 0, 45, 0, 0, 0, 0, [], [])),
  (45, (.bipush 115, 47, 0, 0, 115, 0, [], [])),
  (47, (.iconst 0, 48, 0, 0, 0, 0, [], [])),
  (48, (.invokevirtual 93, 51, 123, 3, 0, 0, [], [959, 82, 956, 958, 42, 6])),
  (51, (.ifCond .eq 5, 54, 56, 0, 0, 0, [], [])),
  (54, (.iconst 1, 55, 0, 0, 1, 0, [], [])),
  (55, (.ireturn, 56, 0, 0, 0, 0, [], [])),
  (56, (.aload_n 0, 57, 0, 0, 0, 0, [], [])),
  (57, (.bipush 6, 59, 0, 0, 6, 0, [], [])),
  (59, (.bipush 115, 61, 0, 0, 115, 0, [], [])),
  (61, (.bipush 104, 63, 0, 0, 104, 0, [], [])),
  (63, (.bipush 111, 65, 0, 0, 111, 0, [], [])),
  (65, (.bipush 119, 67, 0, 0, 119, 0, [], [])),
  (67, (.invokevirtual 89, 70, 122, 6, 0, 0, [], [955, 82, 952, 954, 41, 6])),
  (70, (.ifCond .eq 16, 73, 86, 0, 0, 0, [], [])),
  (73, (.aload_n 0, 74, 0, 0, 0, 0, [], [])),
  (74, (.bipush 101, 76, 0, 0, 101, 0, [], [])),
  (76, (.bipush 114, 78, 0, 0, 114, 0, [], [])),
  (78, (.invokevirtual 93, 81, 123, 3, 0, 0, [], [959, 82, 956, 958, 42, 6])),
  (81, (.ifCond .eq 5, 84, 86, 0, 0, 0, [], [])),
  (84, (.iconst 2, 85, 0, 0, 2, 0, [], [])),
  (85, (.ireturn, 86, 0, 0, 0, 0, [], [])),
  (86, (.aload_n 0, 87, 0, 0, 0, 0, [], [])),
  (87, (.iconst 4, 88, 0, 0, 4, 0, [], [])),
  (88, (.bipush 118, 90, 0, 0, 118, 0, [], [])),
  (90, (.bipush 105, 92, 0, 0, 105, 0, [], [])),
  (92, (.bipush 101, 94, 0, 0, 101, 0, [], [])),
  (94, (.bipush 119, 96, 0, 0, 119, 0, [], [])),
  (96, (.invokevirtual 89, 99, 122, 6, 0, 0, [], [955, 82, 952, 954, 41, 6])),
  (99, (.ifCond .eq 5, 102, 104, 0, 0, 0, [], [])),
  (102, (.iconst 3, 103, 0, 0, 3, 0, [], [])),
  (103, (.ireturn, 104, 0, 0, 0, 0, [], [])),
  (104, (.aload_n 0, 105, 0, 0, 0, 0, [], [])),
  (105, (.iconst 4, 106, 0, 0, 4, 0, [], [])),
  (106, (.bipush 109, 108, 0, 0, 109, 0, [], [])),
  (108, (.bipush 111, 110, 0, 0, 111, 0, [], [])),
  (110, (.bipush 111, 112, 0, 0, 111, 0, [], [])),
  (112, (.bipush 100, 114, 0, 0, 100, 0, [], [])),
  (114, (.invokevirtual 89, 117, 122, 6, 0, 0, [], [955, 82, 952, 954, 41, 6])),
  (117, (.ifCond .eq 7, 120, 124, 0, 0, 0, [], [])),
  (120, (.iconst 4, 121, 0, 0, 4, 0, [], [])),
  (121, (.goto 25, 124, 146, 0, 0, 0, [], [])),
  (124, (.aload_n 0, 125, 0, 0, 0, 0, [], [])),
  (125, (.iconst 4, 126, 0, 0, 4, 0, [], [])),
  (126, (.bipush 116, 128, 0, 0, 116, 0, [], [])),
  (128, (.bipush 105, 130, 0, 0, 105, 0, [], [])),
  (130, (.bipush 114, 132, 0, 0, 114, 0, [], [])),
  (132, (.bipush 101, 134, 0, 0, 101, 0, [], [])),
  (134, (.invokevirtual 89, 137, 122, 6, 0, 0, [], [955, 82, 952, 954, 41, 6])),
  (137, (.ifCond .eq 7, 140, 144, 0, 0, 0, [], [])),
  (140, (.iconst 5, 141, 0, 0, 5, 0, [], [])),
  (141, (.goto 5, 144, 146, 0, 0, 0, [], [])),
  (144, (.bipush (-4), 146, 0, 0, (-4), 0, [], [])),
  (146, (.ireturn, 147, 0, 0, 0, 0, [], []))]
def mX6_lineNow : hd_I := (RX6, yX6_lineNow, cX6_lineNow, 1, (some .int), 3, pX6_lineNow)
def pX6_reads : List (Nat × hd_O) := [
  (0, (.aload_n 0, 1, 0, 0, 0, 0, [], [])),
  (1, (.getfield 73, 4, 6, 12, 0, 0, [], [838])),
  (4, (.ifCond .le 4, 7, 8, 0, 0, 0, [], [])),
  (7, (.return_, 8, 0, 0, 0, 0, [], [])),
  (8, (.aload_n 0, 9, 0, 0, 0, 0, [], [])),
  (9, (.aload_n 0, 10, 0, 0, 0, 0, [], [])),
  (10, (.getfield 82, 13, 6, 8, 0, 0, [], [834])),
  (13, (.invokevirtual 85, 16, 121, 2, 0, 0, [], [935, 82, 932, 934, 37, 6])),
  (16, (.bipush 32, 18, 0, 0, 32, 0, [], [])),
  (18, (.if_icmp .ne 16, 21, 34, 0, 0, 0, [], [])),
  (21, (.aload_n 0, 22, 0, 0, 0, 0, [], [])),
  (22, (.dup, 23, 0, 0, 0, 0, [], [])),
  (23, (.getfield 82, 26, 6, 8, 0, 0, [], [834])),
  (26, (.iconst 1, 27, 0, 0, 1, 0, [], [])),
  (27, (.iadd, 28, 0, 0, 0, 0, [], [])),
  (28, (.putfield 82, 31, 6, 8, 0, 0, [], [834])),
  (31, (.goto (-23), 34, 8, 0, 0, 0, [], [])),
  (34, (.aload_n 0, 35, 0, 0, 0, 0, [], [])),
  (35, (.aload_n 0, 36, 0, 0, 0, 0, [], [])),
  (36, (.getfield 82, 39, 6, 8, 0, 0, [], [834])),
  (39, (.putfield 76, 42, 6, 9, 0, 0, [], [835])),
  (42, (.aload_n 0, 43, 0, 0, 0, 0, [], [])),
  (43, (.aload_n 0, 44, 0, 0, 0, 0, [], [])),
  (44, (.getfield 82, 47, 6, 8, 0, 0, [], [834])),
  (47, (.invokevirtual 85, 50, 121, 2, 0, 0, [], [935, 82, 932, 934, 37, 6])),
  (50, (.istore_n 1, 51, 1, 0, 0, 0, [], [])),
  (51, (.iload_n 1, 52, 1, 0, 0, 0, [], [])),
  (52, (.ifCond .ge 11, 55, 63, 0, 0, 0, [], [])),
  (55, (.aload_n 0, 56, 0, 0, 0, 0, [], [])),
  (56, (.iconst 0, 57, 0, 0, 0, 0, [], [])),
  (57, (.putfield 97, 60, 6, 10, 0, 0, [], [836])),
  (60, (.goto 214, 63, 274, 0, 0, 0, [], [])),
  (63, (.iload_n 1, 64, 1, 0, 0, 0, [], [])),
  (64, (.i2l, 65, 0, 0, 0, 0, [], [])),
  (65, (.ldc2_w 100, 68, 0, 0, 0, 97, [], [936])),
  (68, (.ldc2_w 102, 71, 0, 0, 0, 122, [], [937])),
  (71, (.invokestatic 65, 74, 114, 3, 0, 0, [], [919, 82, 917, 918])),
  (74, (.ifCond .eq 42, 77, 116, 0, 0, 0, [], [])),
  (77, (.aload_n 0, 78, 0, 0, 0, 0, [], [])),
  (78, (.iconst 1, 79, 0, 0, 1, 0, [], [])),
  (79, (.putfield 97, 82, 6, 10, 0, 0, [], [836])),
  (82, (.aload_n 0, 83, 0, 0, 0, 0, [], [])),
  (83, (.aload_n 0, 84, 0, 0, 0, 0, [], [])),
  (84, (.getfield 82, 87, 6, 8, 0, 0, [], [834])),
  (87, (.invokevirtual 85, 90, 121, 2, 0, 0, [], [935, 82, 932, 934, 37, 6])),
  (90, (.i2l, 91, 0, 0, 0, 0, [], [])),
  (91, (.ldc2_w 100, 94, 0, 0, 0, 97, [], [936])),
  (94, (.ldc2_w 102, 97, 0, 0, 0, 122, [], [937])),
  (97, (.invokestatic 65, 100, 114, 3, 0, 0, [], [919, 82, 917, 918])),
  (100, (.ifCond .eq 174, 103, 274, 0, 0, 0, [], [])),
  (103, (.aload_n 0, 104, 0, 0, 0, 0, [], [])),
  (104, (.dup, 105, 0, 0, 0, 0, [], [])),
  (105, (.getfield 82, 108, 6, 8, 0, 0, [], [834])),
  (108, (.iconst 1, 109, 0, 0, 1, 0, [], [])),
  (109, (.iadd, 110, 0, 0, 0, 0, [], [])),
  (110, (.putfield 82, 113, 6, 8, 0, 0, [], [834])),
  (113, (.goto (-31), 116, 82, 0, 0, 0, [], [])),
  (116, (.iload_n 1, 117, 1, 0, 0, 0, [], [])),
  (117, (.i2l, 118, 0, 0, 0, 0, [], [])),
  (118, (.ldc2_w 104, 121, 0, 0, 0, 48, [], [938])),
  (121, (.ldc2_w 106, 124, 0, 0, 0, 57, [], [939])),
  (124, (.invokestatic 65, 127, 114, 3, 0, 0, [], [919, 82, 917, 918])),
  (127, (.ifCond .eq 116, 130, 243, 0, 0, 0, [], [])),
  (130, (.aload_n 0, 131, 0, 0, 0, 0, [], [])),
  (131, (.iconst 2, 132, 0, 0, 2, 0, [], [])),
  (132, (.putfield 97, 135, 6, 10, 0, 0, [], [836])),
  (135, (.aload_n 0, 136, 0, 0, 0, 0, [], [])),
  (136, (.iconst 0, 137, 0, 0, 0, 0, [], [])),
  (137, (.putfield 108, 140, 6, 11, 0, 0, [], [837])),
  (140, (.aload_n 0, 141, 0, 0, 0, 0, [], [])),
  (141, (.aload_n 0, 142, 0, 0, 0, 0, [], [])),
  (142, (.getfield 82, 145, 6, 8, 0, 0, [], [834])),
  (145, (.invokevirtual 85, 148, 121, 2, 0, 0, [], [935, 82, 932, 934, 37, 6])),
  (148, (.i2l, 149, 0, 0, 0, 0, [], [])),
  (149, (.ldc2_w 104, 152, 0, 0, 0, 48, [], [938])),
  (152, (.ldc2_w 106, 155, 0, 0, 0, 57, [], [939])),
  (155, (.invokestatic 65, 158, 114, 3, 0, 0, [], [919, 82, 917, 918])),
  (158, (.ifCond .eq 59, 161, 217, 0, 0, 0, [], [])),
  (161, (.aload_n 0, 162, 0, 0, 0, 0, [], [])),
  (162, (.aload_n 0, 163, 0, 0, 0, 0, [], [])),
  (163, (.getfield 82, 166, 6, 8, 0, 0, [], [834])),
  (166, (.aload_n 0, 167, 0, 0, 0, 0, [], [])),
  (167, (.getfield 76, 170, 6, 9, 0, 0, [], [835])),
  (170, (.isub, 171, 0, 0, 0, 0, [], [])),
  (171, (.iconst 2, 172, 0, 0, 2, 0, [], [])),
  (172, (.if_icmp .ge 25, 175, 197, 0, 0, 0, [], [])),
  (175, (.bipush 10, 177, 0, 0, 10, 0, [], [])),
  (177, (.aload_n 0, 178, 0, 0, 0, 0, [], [])),
  (178, (.getfield 108, 181, 6, 11, 0, 0, [], [837])),
  (181, (.imul, 182, 0, 0, 0, 0, [], [])),
  (182, (.aload_n 0, 183, 0, 0, 0, 0, [], [])),
  (183, (.aload_n 0, 184, 0, 0, 0, 0, [], [])),
  (184, (.getfield 82, 187, 6, 8, 0, 0, [], [834])),
  (187, (.invokevirtual 85, 190, 121, 2, 0, 0, [], [935, 82, 932, 934, 37, 6])),
  (190, (.iadd, 191, 0, 0, 0, 0, [], [])),
  (191, (.bipush 48, 193, 0, 0, 48, 0, [], [])),
  (193, (.isub, 194, 0, 0, 0, 0, [], [])),
  (194, (.goto 7, 197, 201, 0, 0, 0, [], [])),
  (197, (.aload_n 0, 198, 0, 0, 0, 0, [], [])),
  (198, (.getfield 108, 201, 6, 11, 0, 0, [], [837])),
  (201, (.putfield 108, 204, 6, 11, 0, 0, [], [837])),
  (204, (.aload_n 0, 205, 0, 0, 0, 0, [], [])),
  (205, (.dup, 206, 0, 0, 0, 0, [], [])),
  (206, (.getfield 82, 209, 6, 8, 0, 0, [], [834])),
  (209, (.iconst 1, 210, 0, 0, 1, 0, [], [])),
  (210, (.iadd, 211, 0, 0, 0, 0, [], [])),
  (211, (.putfield 82, 214, 6, 8, 0, 0, [], [834])),
  (214, (.goto (-74), 217, 140, 0, 0, 0, [], [])),
  (217, (.aload_n 0, 218, 0, 0, 0, 0, [], [])),
  (218, (.aload_n 0, 219, 0, 0, 0, 0, [], [])),
  (219, (.getfield 82, 222, 6, 8, 0, 0, [], [834])),
  (222, (.aload_n 0, 223, 0, 0, 0, 0, [], [])),
  (223, (.getfield 76, 226, 6, 9, 0, 0, [], [835])),
  (226, (.isub, 227, 0, 0, 0, 0, [], [])),
  (227, (.iconst 2, 228, 0, 0, 2, 0, [], [])),
  (228, (.if_icmp .gt 7, 231, 235, 0, 0, 0, [], [])),
  (231, (.iconst 1, 232, 0, 0, 1, 0, [], [])),
  (232, (.goto 4, 235, 236, 0, 0, 0, [], [])),
  (235, (.iconst 0, 236, 0, 0, 0, 0, [], [])),
  (236, (.iconst 1, 237, 0, 0, 1, 0, [], [])),
  (237, (.invokevirtual 111, 240, 120, 3, 0, 0, [], [943, 82, 940, 942, 38, 6])),
  (240, (.goto 34, 243, 274, 0, 0, 0, [], [])),
  (243, (.aload_n 0, 244, 0, 0, 0, 0, [], [])),
  (244, (.iconst 3, 245, 0, 0, 3, 0, [], [])),
  (245, (.putfield 97, 248, 6, 10, 0, 0, [], [836])),
  (248, (.aload_n 0, 249, 0, 0, 0, 0, [], [])),
  (249, (.iload_n 1, 250, 1, 0, 0, 0, [], [])),
  (250, (.bipush 59, 252, 0, 0, 59, 0, [], [])),
  (252, (.if_icmp .ne 7, 255, 259, 0, 0, 0, [], [])),
  (255, (.iconst 1, 256, 0, 0, 1, 0, [], [])),
  (256, (.goto 4, 259, 260, 0, 0, 0, [], [])),
  (259, (.iconst 0, 260, 0, 0, 0, 0, [], [])),
  (260, (.iconst 1, 261, 0, 0, 1, 0, [], [])),
  (261, (.invokevirtual 111, 264, 120, 3, 0, 0, [], [943, 82, 940, 942, 38, 6])),
  (264, (.aload_n 0, 265, 0, 0, 0, 0, [], [])),
  (265, (.dup, 266, 0, 0, 0, 0, [], [])),
  (266, (.getfield 82, 269, 6, 8, 0, 0, [], [834])),
  (269, (.iconst 1, 270, 0, 0, 1, 0, [], [])),
  (270, (.iadd, 271, 0, 0, 0, 0, [], [])),
  (271, (.putfield 82, 274, 6, 8, 0, 0, [], [834])),
  (274, (.return_, 275, 0, 0, 0, 0, [], []))]
def mX6_reads : hd_I := (RX6, yX6_reads, cX6_reads, 2, none, 2, pX6_reads)
def pX6_readNumber : List (Nat × hd_O) := [
  (0, (.aload_n 0, 1, 0, 0, 0, 0, [], [])),
  (1, (.getfield 73, 4, 6, 12, 0, 0, [], [838])),
  (4, (.ifCond .ne 21, 7, 25, 0, 0, 0, [], [])),
  (7, (.aload_n 0, 8, 0, 0, 0, 0, [], [])),
  (8, (.aload_n 0, 9, 0, 0, 0, 0, [], [])),
  (9, (.getfield 97, 12, 6, 10, 0, 0, [], [836])),
  (12, (.iconst 2, 13, 0, 0, 2, 0, [], [])),
  (13, (.if_icmp .ne 7, 16, 20, 0, 0, 0, [], [])),
  (16, (.iconst 1, 17, 0, 0, 1, 0, [], [])),
  (17, (.goto 4, 20, 21, 0, 0, 0, [], [])),
  (20, (.iconst 0, 21, 0, 0, 0, 0, [], [])),
  (21, (.iconst 2, 22, 0, 0, 2, 0, [], [])),
  (22, (.invokevirtual 111, 25, 120, 3, 0, 0, [], [943, 82, 940, 942, 38, 6])),
  (25, (.aload_n 0, 26, 0, 0, 0, 0, [], [])),
  (26, (.getfield 73, 29, 6, 12, 0, 0, [], [838])),
  (29, (.ifCond .ne 20, 32, 49, 0, 0, 0, [], [])),
  (32, (.aload_n 0, 33, 0, 0, 0, 0, [], [])),
  (33, (.aload_n 0, 34, 0, 0, 0, 0, [], [])),
  (34, (.getfield 108, 37, 6, 11, 0, 0, [], [837])),
  (37, (.i2l, 38, 0, 0, 0, 0, [], [])),
  (38, (.iload_n 1, 39, 1, 0, 0, 0, [], [])),
  (39, (.i2l, 40, 0, 0, 0, 0, [], [])),
  (40, (.iload_n 2, 41, 2, 0, 0, 0, [], [])),
  (41, (.i2l, 42, 0, 0, 0, 0, [], [])),
  (42, (.invokestatic 65, 45, 114, 3, 0, 0, [], [919, 82, 917, 918])),
  (45, (.iconst 3, 46, 0, 0, 3, 0, [], [])),
  (46, (.invokevirtual 111, 49, 120, 3, 0, 0, [], [943, 82, 940, 942, 38, 6])),
  (49, (.aload_n 0, 50, 0, 0, 0, 0, [], [])),
  (50, (.getfield 73, 53, 6, 12, 0, 0, [], [838])),
  (53, (.ifCond .ne 10, 56, 63, 0, 0, 0, [], [])),
  (56, (.aload_n 0, 57, 0, 0, 0, 0, [], [])),
  (57, (.getfield 108, 60, 6, 11, 0, 0, [], [837])),
  (60, (.goto 4, 63, 64, 0, 0, 0, [], [])),
  (63, (.iconst 0, 64, 0, 0, 0, 0, [], [])),
  (64, (.istore_n 3, 65, 3, 0, 0, 0, [], [])),
  (65, (.aload_n 0, 66, 0, 0, 0, 0, [], [])),
  (66, (.invokevirtual 115, 69, 125, 1, 0, 0, [], [931, 82, 928, 930, 36, 6])),
  (69, (.iload_n 3, 70, 3, 0, 0, 0, [], [])),
  (70, (.ireturn, 71, 0, 0, 0, 0, [], []))]
def mX6_readNumber : hd_I := (RX6, yX6_readNumber, cX6_readNumber, 4, (some .int), 3, pX6_readNumber)
def pX6_readLineOf : List (Nat × hd_O) := [
  (0, (.iconst 4, 1, 0, 0, 4, 0, [], [])),
  (1, (.aload_n 0, 2, 0, 0, 0, 0, [], [])),
  (2, (.getfield 20, 5, 6, 3, 0, 0, [], [829])),
  (5, (.bipush 28, 7, 0, 0, 28, 0, [], [])),
  (7, (.iaload, 8, 0, 0, 0, 0, [], [])),
  (8, (.imul, 9, 0, 0, 0, 0, [], [])),
  (9, (.istore_n 2, 10, 2, 0, 0, 0, [], [])),
  (10, (.iload_n 1, 11, 1, 0, 0, 0, [], [])),
  (11, (.lookupswitch 59 #[(4, 25), (5, 42)], 36, 70, 0, 0, 0, [(4, 36), (5, 53)], [])),
  (36, (.aload_n 0, 37, 0, 0, 0, 0, [], [])),
  (37, (.getfield 20, 40, 6, 3, 0, 0, [], [829])),
  (40, (.bipush 30, 42, 0, 0, 30, 0, [], [])),
  (42, (.aload_n 0, 43, 0, 0, 0, 0, [], [])),
  (43, (.iconst 0, 44, 0, 0, 0, 0, [], [])),
  (44, (.bipush 99, 46, 0, 0, 99, 0, [], [])),
  (46, (.invokevirtual 118, 49, 126, 3, 0, 0, [], [967, 82, 964, 966, 44, 6])),
  (49, (.iastore, 50, 0, 0, 0, 0, [], [])),
  (50, (.goto 70, 53, 120, 0, 0, 0, [], [])),
  (53, (.aload_n 0, 54, 0, 0, 0, 0, [], [])),
  (54, (.getfield 20, 57, 6, 3, 0, 0, [], [829])),
  (57, (.bipush 31, 59, 0, 0, 31, 0, [], [])),
  (59, (.aload_n 0, 60, 0, 0, 0, 0, [], [])),
  (60, (.iconst 0, 61, 0, 0, 0, 0, [], [])),
  (61, (.bipush 9, 63, 0, 0, 9, 0, [], [])),
  (63, (.invokevirtual 118, 66, 126, 3, 0, 0, [], [967, 82, 964, 966, 44, 6])),
  (66, (.iastore, 67, 0, 0, 0, 0, [], [])),
  (67, (.goto 53, 70, 120, 0, 0, 0, [], [])),
  (70, (.aload_n 0, 71, 0, 0, 0, 0, [], [])),
  (71, (.getfield 20, 74, 6, 3, 0, 0, [], [829])),
  (74, (.iload_n 2, 75, 2, 0, 0, 0, [], [])),
  (75, (.iconst 0, 76, 0, 0, 0, 0, [], [])),
  (76, (.iadd, 77, 0, 0, 0, 0, [], [])),
  (77, (.iload_n 1, 78, 1, 0, 0, 0, [], [])),
  (78, (.iastore, 79, 0, 0, 0, 0, [], [])),
  (79, (.aload_n 0, 80, 0, 0, 0, 0, [], [])),
  (80, (.getfield 20, 83, 6, 3, 0, 0, [], [829])),
  (83, (.iload_n 2, 84, 2, 0, 0, 0, [], [])),
  (84, (.iconst 1, 85, 0, 0, 1, 0, [], [])),
  (85, (.iadd, 86, 0, 0, 0, 0, [], [])),
  (86, (.aload_n 0, 87, 0, 0, 0, 0, [], [])),
  (87, (.iconst 0, 88, 0, 0, 0, 0, [], [])),
  (88, (.bipush 9, 90, 0, 0, 9, 0, [], [])),
  (90, (.invokevirtual 118, 93, 126, 3, 0, 0, [], [967, 82, 964, 966, 44, 6])),
  (93, (.iastore, 94, 0, 0, 0, 0, [], [])),
  (94, (.aload_n 0, 95, 0, 0, 0, 0, [], [])),
  (95, (.getfield 20, 98, 6, 3, 0, 0, [], [829])),
  (98, (.iload_n 2, 99, 2, 0, 0, 0, [], [])),
  (99, (.iconst 2, 100, 0, 0, 2, 0, [], [])),
  (100, (.iadd, 101, 0, 0, 0, 0, [], [])),
  (101, (.aload_n 0, 102, 0, 0, 0, 0, [], [])),
  (102, (.iconst 1, 103, 0, 0, 1, 0, [], [])),
  (103, (.bipush 9, 105, 0, 0, 9, 0, [], [])),
  (105, (.invokevirtual 118, 108, 126, 3, 0, 0, [], [967, 82, 964, 966, 44, 6])),
  (108, (.iastore, 109, 0, 0, 0, 0, [], [])),
  (109, (.aload_n 0, 110, 0, 0, 0, 0, [], [])),
  (110, (.getfield 20, 113, 6, 3, 0, 0, [], [829])),
  (113, (.bipush 28, 115, 0, 0, 28, 0, [], [])),
  (115, (.dup2, 116, 0, 0, 0, 0, [], [])),
  (116, (.iaload, 117, 0, 0, 0, 0, [], [])),
  (117, (.iconst 1, 118, 0, 0, 1, 0, [], [])),
  (118, (.iadd, 119, 0, 0, 0, 0, [], [])),
  (119, (.iastore, 120, 0, 0, 0, 0, [], [])),
  (120, (.return_, 121, 0, 0, 0, 0, [], []))]
def mX6_readLineOf : hd_I := (RX6, yX6_readLineOf, cX6_readLineOf, 3, none, 4, pX6_readLineOf)
def pX6_readLine : List (Nat × hd_O) := [
  (0, (.aload_n 0, 1, 0, 0, 0, 0, [], [])),
  (1, (.getfield 97, 4, 6, 10, 0, 0, [], [836])),
  (4, (.iconst 1, 5, 0, 0, 1, 0, [], [])),
  (5, (.if_icmp .ne 10, 8, 15, 0, 0, 0, [], [])),
  (8, (.aload_n 0, 9, 0, 0, 0, 0, [], [])),
  (9, (.invokevirtual 122, 12, 124, 1, 0, 0, [], [951, 82, 948, 950, 40, 6])),
  (12, (.goto 5, 15, 17, 0, 0, 0, [], [])),
  (15, (.bipush (-4), 17, 0, 0, (-4), 0, [], [])),
  (17, (.istore_n 1, 18, 1, 0, 0, 0, [], [])),
  (18, (.aload_n 0, 19, 0, 0, 0, 0, [], [])),
  (19, (.iload_n 1, 20, 1, 0, 0, 0, [], [])),
  (20, (.bipush (-4), 22, 0, 0, (-4), 0, [], [])),
  (22, (.if_icmp .eq 7, 25, 29, 0, 0, 0, [], [])),
  (25, (.iconst 1, 26, 0, 0, 1, 0, [], [])),
  (26, (.goto 4, 29, 30, 0, 0, 0, [], [])),
  (29, (.iconst 0, 30, 0, 0, 0, 0, [], [])),
  (30, (.iconst 2, 31, 0, 0, 2, 0, [], [])),
  (31, (.invokevirtual 111, 34, 120, 3, 0, 0, [], [943, 82, 940, 942, 38, 6])),
  (34, (.aload_n 0, 35, 0, 0, 0, 0, [], [])),
  (35, (.iload_n 1, 36, 1, 0, 0, 0, [], [])),
  (36, (.iconst 4, 37, 0, 0, 4, 0, [], [])),
  (37, (.if_icmp .ge 15, 40, 52, 0, 0, 0, [], [])),
  (40, (.aload_n 0, 41, 0, 0, 0, 0, [], [])),
  (41, (.getfield 20, 44, 6, 3, 0, 0, [], [829])),
  (44, (.bipush 28, 46, 0, 0, 28, 0, [], [])),
  (46, (.iaload, 47, 0, 0, 0, 0, [], [])),
  (47, (.bipush 7, 49, 0, 0, 7, 0, [], [])),
  (49, (.if_icmp .ge 7, 52, 56, 0, 0, 0, [], [])),
  (52, (.iconst 1, 53, 0, 0, 1, 0, [], [])),
  (53, (.goto 4, 56, 57, 0, 0, 0, [], [])),
  (56, (.iconst 0, 57, 0, 0, 0, 0, [], [])),
  (57, (.iconst 5, 58, 0, 0, 5, 0, [], [])),
  (58, (.invokevirtual 111, 61, 120, 3, 0, 0, [], [943, 82, 940, 942, 38, 6])),
  (61, (.aload_n 0, 62, 0, 0, 0, 0, [], [])),
  (62, (.iload_n 1, 63, 1, 0, 0, 0, [], [])),
  (63, (.iconst 4, 64, 0, 0, 4, 0, [], [])),
  (64, (.if_icmp .ne 10, 67, 74, 0, 0, 0, [], [])),
  (67, (.aload_n 0, 68, 0, 0, 0, 0, [], [])),
  (68, (.getfield 56, 71, 6, 4, 0, 0, [], [830])),
  (71, (.ifCond .ne 7, 74, 78, 0, 0, 0, [], [])),
  (74, (.iconst 1, 75, 0, 0, 1, 0, [], [])),
  (75, (.goto 4, 78, 79, 0, 0, 0, [], [])),
  (78, (.iconst 0, 79, 0, 0, 0, 0, [], [])),
  (79, (.iconst 4, 80, 0, 0, 4, 0, [], [])),
  (80, (.invokevirtual 111, 83, 120, 3, 0, 0, [], [943, 82, 940, 942, 38, 6])),
  (83, (.aload_n 0, 84, 0, 0, 0, 0, [], [])),
  (84, (.iload_n 1, 85, 1, 0, 0, 0, [], [])),
  (85, (.iconst 5, 86, 0, 0, 5, 0, [], [])),
  (86, (.if_icmp .ne 10, 89, 96, 0, 0, 0, [], [])),
  (89, (.aload_n 0, 90, 0, 0, 0, 0, [], [])),
  (90, (.getfield 60, 93, 6, 5, 0, 0, [], [831])),
  (93, (.ifCond .ne 7, 96, 100, 0, 0, 0, [], [])),
  (96, (.iconst 1, 97, 0, 0, 1, 0, [], [])),
  (97, (.goto 4, 100, 101, 0, 0, 0, [], [])),
  (100, (.iconst 0, 101, 0, 0, 0, 0, [], [])),
  (101, (.iconst 4, 102, 0, 0, 4, 0, [], [])),
  (102, (.invokevirtual 111, 105, 120, 3, 0, 0, [], [943, 82, 940, 942, 38, 6])),
  (105, (.aload_n 0, 106, 0, 0, 0, 0, [], [])),
  (106, (.aload_n 0, 107, 0, 0, 0, 0, [], [])),
  (107, (.getfield 56, 110, 6, 4, 0, 0, [], [830])),
  (110, (.ifCond .ne 8, 113, 118, 0, 0, 0, [], [])),
  (113, (.iload_n 1, 114, 1, 0, 0, 0, [], [])),
  (114, (.iconst 4, 115, 0, 0, 4, 0, [], [])),
  (115, (.if_icmp .ne 7, 118, 122, 0, 0, 0, [], [])),
  (118, (.iconst 1, 119, 0, 0, 1, 0, [], [])),
  (119, (.goto 4, 122, 123, 0, 0, 0, [], [])),
  (122, (.iconst 0, 123, 0, 0, 0, 0, [], [])),
  (123, (.putfield 56, 126, 6, 4, 1, 0, [], [830])),
  (126, (.aload_n 0, 127, 0, 0, 0, 0, [], [])),
  (127, (.aload_n 0, 128, 0, 0, 0, 0, [], [])),
  (128, (.getfield 60, 131, 6, 5, 0, 0, [], [831])),
  (131, (.ifCond .ne 8, 134, 139, 0, 0, 0, [], [])),
  (134, (.iload_n 1, 135, 1, 0, 0, 0, [], [])),
  (135, (.iconst 5, 136, 0, 0, 5, 0, [], [])),
  (136, (.if_icmp .ne 7, 139, 143, 0, 0, 0, [], [])),
  (139, (.iconst 1, 140, 0, 0, 1, 0, [], [])),
  (140, (.goto 4, 143, 144, 0, 0, 0, [], [])),
  (143, (.iconst 0, 144, 0, 0, 0, 0, [], [])),
  (144, (.putfield 60, 147, 6, 5, 1, 0, [], [831])),
  (147, (.aload_n 0, 148, 0, 0, 0, 0, [], [])),
  (148, (.invokevirtual 115, 151, 125, 1, 0, 0, [], [931, 82, 928, 930, 36, 6])),
  (151, (.aload_n 0, 152, 0, 0, 0, 0, [], [])),
  (152, (.getfield 73, 155, 6, 12, 0, 0, [], [838])),
  (155, (.ifCond .le 4, 158, 159, 0, 0, 0, [], [])),
  (158, (.return_, 159, 0, 0, 0, 0, [], [])),
  (159, (.aload_n 0, 160, 0, 0, 0, 0, [], [])),
  (160, (.iload_n 1, 161, 1, 0, 0, 0, [], [])),
  (161, (.invokevirtual 126, 164, 127, 2, 0, 0, [], [963, 82, 960, 962, 43, 6])),
  (164, (.aload_n 0, 165, 0, 0, 0, 0, [], [])),
  (165, (.getfield 73, 168, 6, 12, 0, 0, [], [838])),
  (168, (.ifCond .ne 21, 171, 189, 0, 0, 0, [], [])),
  (171, (.aload_n 0, 172, 0, 0, 0, 0, [], [])),
  (172, (.aload_n 0, 173, 0, 0, 0, 0, [], [])),
  (173, (.getfield 97, 176, 6, 10, 0, 0, [], [836])),
  (176, (.iconst 3, 177, 0, 0, 3, 0, [], [])),
  (177, (.if_icmp .ne 7, 180, 184, 0, 0, 0, [], [])),
  (180, (.iconst 1, 181, 0, 0, 1, 0, [], [])),
  (181, (.goto 4, 184, 185, 0, 0, 0, [], [])),
  (184, (.iconst 0, 185, 0, 0, 0, 0, [], [])),
  (185, (.iconst 2, 186, 0, 0, 2, 0, [], [])),
  (186, (.invokevirtual 111, 189, 120, 3, 0, 0, [], [943, 82, 940, 942, 38, 6])),
  (189, (.aload_n 0, 190, 0, 0, 0, 0, [], [])),
  (190, (.invokevirtual 115, 193, 125, 1, 0, 0, [], [931, 82, 928, 930, 36, 6])),
  (193, (.return_, 194, 0, 0, 0, 0, [], []))]
def mX6_readLine : hd_I := (RX6, yX6_readLine, cX6_readLine, 2, none, 5, pX6_readLine)
def pX6_text : List (Nat × hd_O) := [
  (0, (.iconst 0, 1, 0, 0, 0, 0, [], [])),
  (1, (.istore_n 1, 2, 1, 0, 0, 0, [], [])),
  (2, (.aload_n 0, 3, 0, 0, 0, 0, [], [])),
  (3, (.iconst 0, 4, 0, 0, 0, 0, [], [])),
  (4, (.putfield 73, 7, 6, 12, 0, 0, [], [838])),
  (7, (.aload_n 0, 8, 0, 0, 0, 0, [], [])),
  (8, (.iconst 0, 9, 0, 0, 0, 0, [], [])),
  (9, (.putfield 82, 12, 6, 8, 0, 0, [], [834])),
  (12, (.aload_n 0, 13, 0, 0, 0, 0, [], [])),
  (13, (.invokevirtual 50, 16, 116, 1, 0, 0, [], [821, 82, 818, 820, 34, 6])),
  (16, (.aload_n 0, 17, 0, 0, 0, 0, [], [])),
  (17, (.invokevirtual 115, 20, 125, 1, 0, 0, [], [931, 82, 928, 930, 36, 6])),
  (20, (.aload_n 0, 21, 0, 0, 0, 0, [], [])),
  (21, (.getfield 73, 24, 6, 12, 0, 0, [], [838])),
  (24, (.ifCond .ne 20, 27, 44, 0, 0, 0, [], [])),
  (27, (.aload_n 0, 28, 0, 0, 0, 0, [], [])),
  (28, (.getfield 97, 31, 6, 10, 0, 0, [], [836])),
  (31, (.ifCond .eq 13, 34, 44, 0, 0, 0, [], [])),
  (34, (.aload_n 0, 35, 0, 0, 0, 0, [], [])),
  (35, (.invokevirtual 130, 38, 128, 1, 0, 0, [], [947, 82, 944, 946, 39, 6])),
  (38, (.iinc 1 1, 41, 1, 0, 1, 0, [], [])),
  (41, (.goto (-21), 44, 20, 0, 0, 0, [], [])),
  (44, (.aload_n 0, 45, 0, 0, 0, 0, [], [])),
  (45, (.iconst 0, 46, 0, 0, 0, 0, [], [])),
  (46, (.putfield 69, 49, 6, 7, 0, 0, [], [833])),
  (49, (.aload_n 0, 50, 0, 0, 0, 0, [], [])),
  (50, (.getfield 73, 53, 6, 12, 0, 0, [], [838])),
  (53, (.ifCond .le 11, 56, 64, 0, 0, 0, [], [])),
  (56, (.bipush (-10), 58, 0, 0, (-10), 0, [], [])),
  (58, (.aload_n 0, 59, 0, 0, 0, 0, [], [])),
  (59, (.getfield 79, 62, 6, 13, 0, 0, [], [839])),
  (62, (.isub, 63, 0, 0, 0, 0, [], [])),
  (63, (.ireturn, 64, 0, 0, 0, 0, [], [])),
  (64, (.aload_n 0, 65, 0, 0, 0, 0, [], [])),
  (65, (.invokevirtual 53, 68, 117, 1, 0, 0, [], [825, 82, 822, 824, 35, 6])),
  (68, (.iload_n 1, 69, 1, 0, 0, 0, [], [])),
  (69, (.ireturn, 70, 0, 0, 0, 0, [], []))]
def mX6_text : hd_I := (RX6, yX6_text, cX6_text, 2, (some .int), 6, pX6_text)
def pX6_fault : List (Nat × hd_O) := [
  (0, (.aload_n 0, 1, 0, 0, 0, 0, [], [])),
  (1, (.getfield 73, 4, 6, 12, 0, 0, [], [838])),
  (4, (.ireturn, 5, 0, 0, 0, 0, [], []))]
def mX6_fault : hd_I := (RX6, yX6_fault, cX6_fault, 1, (some .int), 1, pX6_fault)
def pX6_isThing : List (Nat × hd_O) := [
  (0, (.iload_n 1, 1, 1, 0, 0, 0, [], [])),
  (1, (.i2l, 2, 0, 0, 0, 0, [], [])),
  (2, (.lconst 0, 3, 0, 0, 0, 0, [], [])),
  (3, (.aload_n 0, 4, 0, 0, 0, 0, [], [])),
  (4, (.getfield 7, 7, 6, 0, 0, 0, [], [826])),
  (7, (.bipush 28, 9, 0, 0, 28, 0, [], [])),
  (9, (.iaload, 10, 0, 0, 0, 0, [], [])),
  (10, (.iconst 1, 11, 0, 0, 1, 0, [], [])),
  (11, (.isub, 12, 0, 0, 0, 0, [], [])),
  (12, (.i2l, 13, 0, 0, 0, 0, [], [])),
  (13, (.invokestatic 65, 16, 114, 3, 0, 0, [], [919, 82, 917, 918])),
  (16, (.ireturn, 17, 0, 0, 0, 0, [], []))]
def mX6_isThing : hd_I := (RX6, yX6_isThing, cX6_isThing, 2, (some .boolean), 2, pX6_isThing)
def pX6_isMood : List (Nat × hd_O) := [
  (0, (.iload_n 0, 1, 0, 0, 0, 0, [], [])),
  (1, (.i2l, 2, 0, 0, 0, 0, [], [])),
  (2, (.lconst 0, 3, 0, 0, 0, 0, [], [])),
  (3, (.ldc2_w 133, 6, 0, 0, 0, 99, [], [1032])),
  (6, (.invokestatic 65, 9, 114, 3, 0, 0, [], [919, 82, 917, 918])),
  (9, (.ireturn, 10, 0, 0, 0, 0, [], []))]
def mX6_isMood : hd_I := (RX6, yX6_isMood, cX6_isMood, 1, (some .boolean), 2, pX6_isMood)
def pX6_isPart : List (Nat × hd_O) := [
  (0, (.iload_n 0, 1, 0, 0, 0, 0, [], [])),
  (1, (.i2l, 2, 0, 0, 0, 0, [], [])),
  (2, (.lconst 0, 3, 0, 0, 0, 0, [], [])),
  (3, (.lconst 1, 4, 0, 0, 0, 1, [], [])),
  (4, (.invokestatic 65, 7, 114, 3, 0, 0, [], [919, 82, 917, 918])),
  (7, (.ireturn, 8, 0, 0, 0, 0, [], []))]
def mX6_isPart : hd_I := (RX6, yX6_isPart, cX6_isPart, 1, (some .boolean), 2, pX6_isPart)
def pX6_allAreIn : List (Nat × hd_O) := [
  (0, (.aload_n 0, 1, 0, 0, 0, 0, [], [])),
  (1, (.getfield 7, 4, 6, 0, 0, 0, [], [826])),
  (4, (.bipush 29, 6, 0, 0, 29, 0, [], [])),
  (6, (.iaload, 7, 0, 0, 0, 0, [], [])),
  (7, (.aload_n 0, 8, 0, 0, 0, 0, [], [])),
  (8, (.getfield 7, 11, 6, 0, 0, 0, [], [826])),
  (11, (.bipush 28, 13, 0, 0, 28, 0, [], [])),
  (13, (.iaload, 14, 0, 0, 0, 0, [], [])),
  (14, (.if_icmp .ne 7, 17, 21, 0, 0, 0, [], [])),
  (17, (.iconst 1, 18, 0, 0, 1, 0, [], [])),
  (18, (.goto 4, 21, 22, 0, 0, 0, [], [])),
  (21, (.iconst 0, 22, 0, 0, 0, 0, [], [])),
  (22, (.ireturn, 23, 0, 0, 0, 0, [], []))]
def mX6_allAreIn : hd_I := (RX6, yX6_allAreIn, cX6_allAreIn, 1, (some .boolean), 1, pX6_allAreIn)
def pX6_starts : List (Nat × hd_O) := [
  (0, (.iconst 0, 1, 0, 0, 0, 0, [], [])),
  (1, (.istore_n 1, 2, 1, 0, 0, 0, [], [])),
  (2, (.iload_n 1, 3, 1, 0, 0, 0, [], [])),
  (3, (.bipush 46, 5, 0, 0, 46, 0, [], [])),
  (5, (.if_icmp .ge 21, 8, 26, 0, 0, 0, [], [])),
  (8, (.aload_n 0, 9, 0, 0, 0, 0, [], [])),
  (9, (.getfield 13, 12, 6, 1, 0, 0, [], [827])),
  (12, (.iload_n 1, 13, 1, 0, 0, 0, [], [])),
  (13, (.aload_n 0, 14, 0, 0, 0, 0, [], [])),
  (14, (.getfield 7, 17, 6, 0, 0, 0, [], [826])),
  (17, (.iload_n 1, 18, 1, 0, 0, 0, [], [])),
  (18, (.iaload, 19, 0, 0, 0, 0, [], [])),
  (19, (.iastore, 20, 0, 0, 0, 0, [], [])),
  (20, (.iinc 1 1, 23, 1, 0, 1, 0, [], [])),
  (23, (.goto (-21), 26, 2, 0, 0, 0, [], [])),
  (26, (.return_, 27, 0, 0, 0, 0, [], []))]
def mX6_starts : hd_I := (RX6, yX6_starts, cX6_starts, 2, none, 1, pX6_starts)
def pX6_settles : List (Nat × hd_O) := [
  (0, (.iconst 0, 1, 0, 0, 0, 0, [], [])),
  (1, (.istore_n 1, 2, 1, 0, 0, 0, [], [])),
  (2, (.iload_n 1, 3, 1, 0, 0, 0, [], [])),
  (3, (.bipush 46, 5, 0, 0, 46, 0, [], [])),
  (5, (.if_icmp .ge 21, 8, 26, 0, 0, 0, [], [])),
  (8, (.aload_n 0, 9, 0, 0, 0, 0, [], [])),
  (9, (.getfield 7, 12, 6, 0, 0, 0, [], [826])),
  (12, (.iload_n 1, 13, 1, 0, 0, 0, [], [])),
  (13, (.aload_n 0, 14, 0, 0, 0, 0, [], [])),
  (14, (.getfield 13, 17, 6, 1, 0, 0, [], [827])),
  (17, (.iload_n 1, 18, 1, 0, 0, 0, [], [])),
  (18, (.iaload, 19, 0, 0, 0, 0, [], [])),
  (19, (.iastore, 20, 0, 0, 0, 0, [], [])),
  (20, (.iinc 1 1, 23, 1, 0, 1, 0, [], [])),
  (23, (.goto (-21), 26, 2, 0, 0, 0, [], [])),
  (26, (.return_, 27, 0, 0, 0, 0, [], []))]
def mX6_settles : hd_I := (RX6, yX6_settles, cX6_settles, 2, none, 1, pX6_settles)
def pX6_of : List (Nat × hd_O) := [
  (0, (.aload_n 0, 1, 0, 0, 0, 0, [], [])),
  (1, (.getfield 13, 4, 6, 1, 0, 0, [], [827])),
  (4, (.iconst 4, 5, 0, 0, 4, 0, [], [])),
  (5, (.iload_n 1, 6, 1, 0, 0, 0, [], [])),
  (6, (.imul, 7, 0, 0, 0, 0, [], [])),
  (7, (.iload_n 2, 8, 2, 0, 0, 0, [], [])),
  (8, (.iadd, 9, 0, 0, 0, 0, [], [])),
  (9, (.iaload, 10, 0, 0, 0, 0, [], [])),
  (10, (.ireturn, 11, 0, 0, 0, 0, [], []))]
def mX6_of : hd_I := (RX6, yX6_of, cX6_of, 3, (some .int), 1, pX6_of)
def pX6_becomesOf : List (Nat × hd_O) := [
  (0, (.aload_n 0, 1, 0, 0, 0, 0, [], [])),
  (1, (.getfield 13, 4, 6, 1, 0, 0, [], [827])),
  (4, (.iconst 4, 5, 0, 0, 4, 0, [], [])),
  (5, (.iload_n 1, 6, 1, 0, 0, 0, [], [])),
  (6, (.imul, 7, 0, 0, 0, 0, [], [])),
  (7, (.iload_n 2, 8, 2, 0, 0, 0, [], [])),
  (8, (.iadd, 9, 0, 0, 0, 0, [], [])),
  (9, (.iload_n 3, 10, 3, 0, 0, 0, [], [])),
  (10, (.iastore, 11, 0, 0, 0, 0, [], [])),
  (11, (.return_, 12, 0, 0, 0, 0, [], []))]
def mX6_becomesOf : hd_I := (RX6, yX6_becomesOf, cX6_becomesOf, 4, none, 1, pX6_becomesOf)
def pX6_bears : List (Nat × hd_O) := [
  (0, (.aload_n 0, 1, 0, 0, 0, 0, [], [])),
  (1, (.iload_n 1, 2, 1, 0, 0, 0, [], [])),
  (2, (.iconst 0, 3, 0, 0, 0, 0, [], [])),
  (3, (.invokevirtual 135, 6, 137, 3, 0, 0, [], [991, 82, 988, 990, 48, 6])),
  (6, (.istore_n 2, 7, 2, 0, 0, 0, [], [])),
  (7, (.iload_n 2, 8, 2, 0, 0, 0, [], [])),
  (8, (.iconst 1, 9, 0, 0, 1, 0, [], [])),
  (9, (.if_icmp .eq 8, 12, 17, 0, 0, 0, [], [])),
  (12, (.iload_n 2, 13, 2, 0, 0, 0, [], [])),
  (13, (.iconst 3, 14, 0, 0, 3, 0, [], [])),
  (14, (.if_icmp .ne 12, 17, 26, 0, 0, 0, [], [])),
  (17, (.aload_n 0, 18, 0, 0, 0, 0, [], [])),
  (18, (.iload_n 1, 19, 1, 0, 0, 0, [], [])),
  (19, (.iconst 2, 20, 0, 0, 2, 0, [], [])),
  (20, (.invokevirtual 135, 23, 137, 3, 0, 0, [], [991, 82, 988, 990, 48, 6])),
  (23, (.goto 11, 26, 34, 0, 0, 0, [], [])),
  (26, (.iconst 2, 27, 0, 0, 2, 0, [], [])),
  (27, (.aload_n 0, 28, 0, 0, 0, 0, [], [])),
  (28, (.iload_n 1, 29, 1, 0, 0, 0, [], [])),
  (29, (.iconst 2, 30, 0, 0, 2, 0, [], [])),
  (30, (.invokevirtual 135, 33, 137, 3, 0, 0, [], [991, 82, 988, 990, 48, 6])),
  (33, (.imul, 34, 0, 0, 0, 0, [], [])),
  (34, (.ireturn, 35, 0, 0, 0, 0, [], []))]
def mX6_bears : hd_I := (RX6, yX6_bears, cX6_bears, 3, (some .int), 2, pX6_bears)
def pX6_laidOn : List (Nat × hd_O) := [
  (0, (.iconst 0, 1, 0, 0, 0, 0, [], [])),
  (1, (.istore_n 2, 2, 2, 0, 0, 0, [], [])),
  (2, (.iload_n 1, 3, 1, 0, 0, 0, [], [])),
  (3, (.iconst 1, 4, 0, 0, 1, 0, [], [])),
  (4, (.iadd, 5, 0, 0, 0, 0, [], [])),
  (5, (.istore_n 3, 6, 3, 0, 0, 0, [], [])),
  (6, (.iload_n 3, 7, 3, 0, 0, 0, [], [])),
  (7, (.aload_n 0, 8, 0, 0, 0, 0, [], [])),
  (8, (.getfield 13, 11, 6, 1, 0, 0, [], [827])),
  (11, (.bipush 28, 13, 0, 0, 28, 0, [], [])),
  (13, (.iaload, 14, 0, 0, 0, 0, [], [])),
  (14, (.if_icmp .ge 18, 17, 32, 0, 0, 0, [], [])),
  (17, (.iload_n 2, 18, 2, 0, 0, 0, [], [])),
  (18, (.aload_n 0, 19, 0, 0, 0, 0, [], [])),
  (19, (.iload_n 3, 20, 3, 0, 0, 0, [], [])),
  (20, (.iconst 2, 21, 0, 0, 2, 0, [], [])),
  (21, (.invokevirtual 135, 24, 137, 3, 0, 0, [], [991, 82, 988, 990, 48, 6])),
  (24, (.iadd, 25, 0, 0, 0, 0, [], [])),
  (25, (.istore_n 2, 26, 2, 0, 0, 0, [], [])),
  (26, (.iinc 3 1, 29, 3, 0, 1, 0, [], [])),
  (29, (.goto (-23), 32, 6, 0, 0, 0, [], [])),
  (32, (.iload_n 2, 33, 2, 0, 0, 0, [], [])),
  (33, (.ireturn, 34, 0, 0, 0, 0, [], []))]
def mX6_laidOn : hd_I := (RX6, yX6_laidOn, cX6_laidOn, 4, (some .int), 2, pX6_laidOn)
def pX6_isCrushed : List (Nat × hd_O) := [
  (0, (.aload_n 0, 1, 0, 0, 0, 0, [], [])),
  (1, (.iload_n 1, 2, 1, 0, 0, 0, [], [])),
  (2, (.invokevirtual 138, 5, 140, 2, 0, 0, [], [987, 82, 984, 986, 47, 6])),
  (5, (.aload_n 0, 6, 0, 0, 0, 0, [], [])),
  (6, (.iload_n 1, 7, 1, 0, 0, 0, [], [])),
  (7, (.invokevirtual 141, 10, 139, 2, 0, 0, [], [995, 82, 992, 994, 49, 6])),
  (10, (.if_icmp .le 7, 13, 17, 0, 0, 0, [], [])),
  (13, (.iconst 1, 14, 0, 0, 1, 0, [], [])),
  (14, (.goto 4, 17, 18, 0, 0, 0, [], [])),
  (17, (.iconst 0, 18, 0, 0, 0, 0, [], [])),
  (18, (.ireturn, 19, 0, 0, 0, 0, [], []))]
def mX6_isCrushed : hd_I := (RX6, yX6_isCrushed, cX6_isCrushed, 2, (some .boolean), 3, pX6_isCrushed)
def pX6_cheers : List (Nat × hd_O) := [
  (0, (.aload_n 0, 1, 0, 0, 0, 0, [], [])),
  (1, (.iload_n 1, 2, 1, 0, 0, 0, [], [])),
  (2, (.invokevirtual 144, 5, 141, 2, 0, 0, [], [983, 82, 980, 982, 46, 6])),
  (5, (.ifCond .eq 14, 8, 19, 0, 0, 0, [], [])),
  (8, (.aload_n 0, 9, 0, 0, 0, 0, [], [])),
  (9, (.iload_n 1, 10, 1, 0, 0, 0, [], [])),
  (10, (.iconst 1, 11, 0, 0, 1, 0, [], [])),
  (11, (.invokevirtual 135, 14, 137, 3, 0, 0, [], [991, 82, 988, 990, 48, 6])),
  (14, (.iconst 2, 15, 0, 0, 2, 0, [], [])),
  (15, (.idiv, 16, 0, 0, 0, 0, [], [])),
  (16, (.goto 9, 19, 25, 0, 0, 0, [], [])),
  (19, (.aload_n 0, 20, 0, 0, 0, 0, [], [])),
  (20, (.iload_n 1, 21, 1, 0, 0, 0, [], [])),
  (21, (.iconst 1, 22, 0, 0, 1, 0, [], [])),
  (22, (.invokevirtual 135, 25, 137, 3, 0, 0, [], [991, 82, 988, 990, 48, 6])),
  (25, (.istore_n 2, 26, 2, 0, 0, 0, [], [])),
  (26, (.aload_n 0, 27, 0, 0, 0, 0, [], [])),
  (27, (.iload_n 1, 28, 1, 0, 0, 0, [], [])),
  (28, (.iconst 0, 29, 0, 0, 0, 0, [], [])),
  (29, (.invokevirtual 135, 32, 137, 3, 0, 0, [], [991, 82, 988, 990, 48, 6])),
  (32, (.tableswitch 41 1 3 #[28, 32, 35], 60, 73, 0, 0, 0, [(1, 60), (2, 64), (3, 67)], [])),
  (60, (.iconst 2, 61, 0, 0, 2, 0, [], [])),
  (61, (.iload_n 2, 62, 2, 0, 0, 0, [], [])),
  (62, (.imul, 63, 0, 0, 0, 0, [], [])),
  (63, (.ireturn, 64, 0, 0, 0, 0, [], [])),
  (64, (.iload_n 2, 65, 2, 0, 0, 0, [], [])),
  (65, (.ineg, 66, 0, 0, 0, 0, [], [])),
  (66, (.ireturn, 67, 0, 0, 0, 0, [], [])),
  (67, (.iconst 2, 68, 0, 0, 2, 0, [], [])),
  (68, (.iload_n 2, 69, 2, 0, 0, 0, [], [])),
  (69, (.imul, 70, 0, 0, 0, 0, [], [])),
  (70, (.iconst 1, 71, 0, 0, 1, 0, [], [])),
  (71, (.iadd, 72, 0, 0, 0, 0, [], [])),
  (72, (.ireturn, 73, 0, 0, 0, 0, [], [])),
  (73, (.iload_n 2, 74, 2, 0, 0, 0, [], [])),
  (74, (.ireturn, 75, 0, 0, 0, 0, [], []))]
def mX6_cheers : hd_I := (RX6, yX6_cheers, cX6_cheers, 3, (some .int), 4, pX6_cheers)
def pX6_lasts : List (Nat × hd_O) := [
  (0, (.aload_n 0, 1, 0, 0, 0, 0, [], [])),
  (1, (.iload_n 1, 2, 1, 0, 0, 0, [], [])),
  (2, (.iconst 0, 3, 0, 0, 0, 0, [], [])),
  (3, (.invokevirtual 135, 6, 137, 3, 0, 0, [], [991, 82, 988, 990, 48, 6])),
  (6, (.istore_n 2, 7, 2, 0, 0, 0, [], [])),
  (7, (.iload_n 2, 8, 2, 0, 0, 0, [], [])),
  (8, (.iconst 2, 9, 0, 0, 2, 0, [], [])),
  (9, (.if_icmp .ne 7, 12, 16, 0, 0, 0, [], [])),
  (12, (.iconst 5, 13, 0, 0, 5, 0, [], [])),
  (13, (.goto 14, 16, 27, 0, 0, 0, [], [])),
  (16, (.iload_n 2, 17, 2, 0, 0, 0, [], [])),
  (17, (.iconst 3, 18, 0, 0, 3, 0, [], [])),
  (18, (.if_icmp .ne 8, 21, 26, 0, 0, 0, [], [])),
  (21, (.bipush 6, 23, 0, 0, 6, 0, [], [])),
  (23, (.goto 4, 26, 27, 0, 0, 0, [], [])),
  (26, (.iconst 3, 27, 0, 0, 3, 0, [], [])),
  (27, (.ireturn, 28, 0, 0, 0, 0, [], []))]
def mX6_lasts : hd_I := (RX6, yX6_lasts, cX6_lasts, 3, (some .int), 2, pX6_lasts)
def pX6_hourGoes : List (Nat × hd_O) := [
  (0, (.iload_n 1, 1, 1, 0, 0, 0, [], [])),
  (1, (.ifCond .ne 47, 4, 48, 0, 0, 0, [], [])),
  (4, (.aload_n 0, 5, 0, 0, 0, 0, [], [])),
  (5, (.getfield 13, 8, 6, 1, 0, 0, [], [827])),
  (8, (.bipush 29, 10, 0, 0, 29, 0, [], [])),
  (10, (.iaload, 11, 0, 0, 0, 0, [], [])),
  (11, (.ifCond .le 37, 14, 48, 0, 0, 0, [], [])),
  (14, (.aload_n 0, 15, 0, 0, 0, 0, [], [])),
  (15, (.getfield 13, 18, 6, 1, 0, 0, [], [827])),
  (18, (.bipush 29, 20, 0, 0, 29, 0, [], [])),
  (20, (.dup2, 21, 0, 0, 0, 0, [], [])),
  (21, (.iaload, 22, 0, 0, 0, 0, [], [])),
  (22, (.iconst 1, 23, 0, 0, 1, 0, [], [])),
  (23, (.isub, 24, 0, 0, 0, 0, [], [])),
  (24, (.iastore, 25, 0, 0, 0, 0, [], [])),
  (25, (.aload_n 0, 26, 0, 0, 0, 0, [], [])),
  (26, (.aload_n 0, 27, 0, 0, 0, 0, [], [])),
  (27, (.getfield 13, 30, 6, 1, 0, 0, [], [827])),
  (30, (.bipush 29, 32, 0, 0, 29, 0, [], [])),
  (32, (.iaload, 33, 0, 0, 0, 0, [], [])),
  (33, (.iconst 3, 34, 0, 0, 3, 0, [], [])),
  (34, (.aload_n 0, 35, 0, 0, 0, 0, [], [])),
  (35, (.aload_n 0, 36, 0, 0, 0, 0, [], [])),
  (36, (.getfield 13, 39, 6, 1, 0, 0, [], [827])),
  (39, (.bipush 29, 41, 0, 0, 29, 0, [], [])),
  (41, (.iaload, 42, 0, 0, 0, 0, [], [])),
  (42, (.invokevirtual 148, 45, 143, 2, 0, 0, [], [1081, 82, 1078, 1080, 60, 6])),
  (45, (.invokevirtual 151, 48, 138, 4, 0, 0, [], [1056, 82, 1053, 1055, 56, 6])),
  (48, (.aload_n 0, 49, 0, 0, 0, 0, [], [])),
  (49, (.getfield 13, 52, 6, 1, 0, 0, [], [827])),
  (52, (.bipush 30, 54, 0, 0, 30, 0, [], [])),
  (54, (.iaload, 55, 0, 0, 0, 0, [], [])),
  (55, (.aload_n 0, 56, 0, 0, 0, 0, [], [])),
  (56, (.getfield 13, 59, 6, 1, 0, 0, [], [827])),
  (59, (.bipush 31, 61, 0, 0, 31, 0, [], [])),
  (61, (.iaload, 62, 0, 0, 0, 0, [], [])),
  (62, (.isub, 63, 0, 0, 0, 0, [], [])),
  (63, (.istore_n 2, 64, 2, 0, 0, 0, [], [])),
  (64, (.iconst 0, 65, 0, 0, 0, 0, [], [])),
  (65, (.istore_n 3, 66, 3, 0, 0, 0, [], [])),
  (66, (.iload_n 3, 67, 3, 0, 0, 0, [], [])),
  (67, (.aload_n 0, 68, 0, 0, 0, 0, [], [])),
  (68, (.getfield 13, 71, 6, 1, 0, 0, [], [827])),
  (71, (.bipush 28, 73, 0, 0, 28, 0, [], [])),
  (73, (.iaload, 74, 0, 0, 0, 0, [], [])),
  (74, (.if_icmp .ge 40, 77, 114, 0, 0, 0, [], [])),
  (77, (.aload_n 0, 78, 0, 0, 0, 0, [], [])),
  (78, (.iload_n 3, 79, 3, 0, 0, 0, [], [])),
  (79, (.iconst 3, 80, 0, 0, 3, 0, [], [])),
  (80, (.invokevirtual 135, 83, 137, 3, 0, 0, [], [991, 82, 988, 990, 48, 6])),
  (83, (.ifCond .le 25, 86, 108, 0, 0, 0, [], [])),
  (86, (.iload_n 2, 87, 2, 0, 0, 0, [], [])),
  (87, (.aload_n 0, 88, 0, 0, 0, 0, [], [])),
  (88, (.iload_n 3, 89, 3, 0, 0, 0, [], [])),
  (89, (.invokevirtual 155, 92, 142, 2, 0, 0, [], [1014, 82, 1011, 1013, 52, 6])),
  (92, (.iadd, 93, 0, 0, 0, 0, [], [])),
  (93, (.istore_n 2, 94, 2, 0, 0, 0, [], [])),
  (94, (.aload_n 0, 95, 0, 0, 0, 0, [], [])),
  (95, (.iload_n 3, 96, 3, 0, 0, 0, [], [])),
  (96, (.iconst 3, 97, 0, 0, 3, 0, [], [])),
  (97, (.aload_n 0, 98, 0, 0, 0, 0, [], [])),
  (98, (.iload_n 3, 99, 3, 0, 0, 0, [], [])),
  (99, (.iconst 3, 100, 0, 0, 3, 0, [], [])),
  (100, (.invokevirtual 135, 103, 137, 3, 0, 0, [], [991, 82, 988, 990, 48, 6])),
  (103, (.iconst 1, 104, 0, 0, 1, 0, [], [])),
  (104, (.isub, 105, 0, 0, 0, 0, [], [])),
  (105, (.invokevirtual 151, 108, 138, 4, 0, 0, [], [1056, 82, 1053, 1055, 56, 6])),
  (108, (.iinc 3 1, 111, 3, 0, 1, 0, [], [])),
  (111, (.goto (-45), 114, 66, 0, 0, 0, [], [])),
  (114, (.aload_n 0, 115, 0, 0, 0, 0, [], [])),
  (115, (.getfield 13, 118, 6, 1, 0, 0, [], [827])),
  (118, (.bipush 30, 120, 0, 0, 30, 0, [], [])),
  (120, (.iload_n 2, 121, 2, 0, 0, 0, [], [])),
  (121, (.ifCond .ge 7, 124, 128, 0, 0, 0, [], [])),
  (124, (.iconst 0, 125, 0, 0, 0, 0, [], [])),
  (125, (.goto 15, 128, 140, 0, 0, 0, [], [])),
  (128, (.iload_n 2, 129, 2, 0, 0, 0, [], [])),
  (129, (.bipush 99, 131, 0, 0, 99, 0, [], [])),
  (131, (.if_icmp .le 8, 134, 139, 0, 0, 0, [], [])),
  (134, (.bipush 99, 136, 0, 0, 99, 0, [], [])),
  (136, (.goto 4, 139, 140, 0, 0, 0, [], [])),
  (139, (.iload_n 2, 140, 2, 0, 0, 0, [], [])),
  (140, (.iastore, 141, 0, 0, 0, 0, [], [])),
  (141, (.aload_n 0, 142, 0, 0, 0, 0, [], [])),
  (142, (.getfield 13, 145, 6, 1, 0, 0, [], [827])),
  (145, (.bipush 32, 147, 0, 0, 32, 0, [], [])),
  (147, (.dup2, 148, 0, 0, 0, 0, [], [])),
  (148, (.iaload, 149, 0, 0, 0, 0, [], [])),
  (149, (.iconst 1, 150, 0, 0, 1, 0, [], [])),
  (150, (.iadd, 151, 0, 0, 0, 0, [], [])),
  (151, (.iastore, 152, 0, 0, 0, 0, [], [])),
  (152, (.return_, 153, 0, 0, 0, 0, [], []))]
def mX6_hourGoes : hd_I := (RX6, yX6_hourGoes, cX6_hourGoes, 4, none, 5, pX6_hourGoes)
def pX6_hoursGo : List (Nat × hd_O) := [
  (0, (.iconst 0, 1, 0, 0, 0, 0, [], [])),
  (1, (.istore_n 2, 2, 2, 0, 0, 0, [], [])),
  (2, (.iload_n 2, 3, 2, 0, 0, 0, [], [])),
  (3, (.iload_n 1, 4, 1, 0, 0, 0, [], [])),
  (4, (.if_icmp .ge 14, 7, 18, 0, 0, 0, [], [])),
  (7, (.aload_n 0, 8, 0, 0, 0, 0, [], [])),
  (8, (.iconst 0, 9, 0, 0, 0, 0, [], [])),
  (9, (.invokevirtual 158, 12, 144, 2, 0, 0, [], [1077, 82, 1074, 1076, 59, 6])),
  (12, (.iinc 2 1, 15, 2, 0, 1, 0, [], [])),
  (15, (.goto (-13), 18, 2, 0, 0, 0, [], [])),
  (18, (.return_, 19, 0, 0, 0, 0, [], []))]
def mX6_hoursGo : hd_I := (RX6, yX6_hoursGo, cX6_hoursGo, 3, none, 6, pX6_hoursGo)
def pX6_moodBehind : List (Nat × hd_O) := [
  (0, (.aload_n 0, 1, 0, 0, 0, 0, [], [])),
  (1, (.iload_n 1, 2, 1, 0, 0, 0, [], [])),
  (2, (.invokevirtual 162, 5, 145, 2, 0, 0, [], [1073, 82, 1070, 1072, 58, 6])),
  (5, (.aload_n 0, 6, 0, 0, 0, 0, [], [])),
  (6, (.getfield 13, 9, 6, 1, 0, 0, [], [827])),
  (9, (.bipush 30, 11, 0, 0, 30, 0, [], [])),
  (11, (.iaload, 12, 0, 0, 0, 0, [], [])),
  (12, (.ireturn, 13, 0, 0, 0, 0, [], []))]
def mX6_moodBehind : hd_I := (RX6, yX6_moodBehind, cX6_moodBehind, 2, (some .int), 7, pX6_moodBehind)
def pX6_outNow : List (Nat × hd_O) := [
  (0, (.iconst 0, 1, 0, 0, 0, 0, [], [])),
  (1, (.istore_n 1, 2, 1, 0, 0, 0, [], [])),
  (2, (.iconst 0, 3, 0, 0, 0, 0, [], [])),
  (3, (.istore_n 2, 4, 2, 0, 0, 0, [], [])),
  (4, (.iload_n 2, 5, 2, 0, 0, 0, [], [])),
  (5, (.aload_n 0, 6, 0, 0, 0, 0, [], [])),
  (6, (.getfield 13, 9, 6, 1, 0, 0, [], [827])),
  (9, (.bipush 28, 11, 0, 0, 28, 0, [], [])),
  (11, (.iaload, 12, 0, 0, 0, 0, [], [])),
  (12, (.if_icmp .ge 31, 15, 43, 0, 0, 0, [], [])),
  (15, (.iload_n 1, 16, 1, 0, 0, 0, [], [])),
  (16, (.aload_n 0, 17, 0, 0, 0, 0, [], [])),
  (17, (.iload_n 2, 18, 2, 0, 0, 0, [], [])),
  (18, (.iconst 3, 19, 0, 0, 3, 0, [], [])),
  (19, (.invokevirtual 135, 22, 137, 3, 0, 0, [], [991, 82, 988, 990, 48, 6])),
  (22, (.ifCond .le 7, 25, 29, 0, 0, 0, [], [])),
  (25, (.iconst 1, 26, 0, 0, 1, 0, [], [])),
  (26, (.goto 4, 29, 30, 0, 0, 0, [], [])),
  (29, (.iconst 0, 30, 0, 0, 0, 0, [], [])),
  (30, (.invokestatic 165, 33, 115, 1, 0, 0, [], [998, 82, 996, 997])),
  (33, (.iload_n 2, 34, 2, 0, 0, 0, [], [])),
  (34, (.ishl, 35, 0, 0, 0, 0, [], [])),
  (35, (.ior, 36, 0, 0, 0, 0, [], [])),
  (36, (.istore_n 1, 37, 1, 0, 0, 0, [], [])),
  (37, (.iinc 2 1, 40, 2, 0, 1, 0, [], [])),
  (40, (.goto (-36), 43, 4, 0, 0, 0, [], [])),
  (43, (.iload_n 1, 44, 1, 0, 0, 0, [], [])),
  (44, (.ireturn, 45, 0, 0, 0, 0, [], []))]
def mX6_outNow : hd_I := (RX6, yX6_outNow, cX6_outNow, 3, (some .int), 2, pX6_outNow)
def pX6_allGoIn : List (Nat × hd_O) := [
  (0, (.aload_n 0, 1, 0, 0, 0, 0, [], [])),
  (1, (.getfield 13, 4, 6, 1, 0, 0, [], [827])),
  (4, (.bipush 29, 6, 0, 0, 29, 0, [], [])),
  (6, (.aload_n 0, 7, 0, 0, 0, 0, [], [])),
  (7, (.getfield 13, 10, 6, 1, 0, 0, [], [827])),
  (10, (.bipush 28, 12, 0, 0, 28, 0, [], [])),
  (12, (.iaload, 13, 0, 0, 0, 0, [], [])),
  (13, (.iastore, 14, 0, 0, 0, 0, [], [])),
  (14, (.iconst 0, 15, 0, 0, 0, 0, [], [])),
  (15, (.istore_n 1, 16, 1, 0, 0, 0, [], [])),
  (16, (.iload_n 1, 17, 1, 0, 0, 0, [], [])),
  (17, (.aload_n 0, 18, 0, 0, 0, 0, [], [])),
  (18, (.getfield 13, 21, 6, 1, 0, 0, [], [827])),
  (21, (.bipush 28, 23, 0, 0, 28, 0, [], [])),
  (23, (.iaload, 24, 0, 0, 0, 0, [], [])),
  (24, (.if_icmp .ge 16, 27, 40, 0, 0, 0, [], [])),
  (27, (.aload_n 0, 28, 0, 0, 0, 0, [], [])),
  (28, (.iload_n 1, 29, 1, 0, 0, 0, [], [])),
  (29, (.iconst 3, 30, 0, 0, 3, 0, [], [])),
  (30, (.iconst 0, 31, 0, 0, 0, 0, [], [])),
  (31, (.invokevirtual 151, 34, 138, 4, 0, 0, [], [1056, 82, 1053, 1055, 56, 6])),
  (34, (.iinc 1 1, 37, 1, 0, 1, 0, [], [])),
  (37, (.goto (-21), 40, 16, 0, 0, 0, [], [])),
  (40, (.return_, 41, 0, 0, 0, 0, [], []))]
def mX6_allGoIn : hd_I := (RX6, yX6_allGoIn, cX6_allGoIn, 2, none, 2, pX6_allGoIn)
def pX6_rule : List (Nat × hd_O) := [
  (0, (.aload_n 0, 1, 0, 0, 0, 0, [], [])),
  (1, (.invokevirtual 169, 4, 135, 1, 0, 0, [], [979, 82, 976, 978, 45, 6])),
  (4, (.iconst 0, 5, 0, 0, 0, 0, [], [])),
  (5, (.istore_n 2, 6, 2, 0, 0, 0, [], [])),
  (6, (.iconst 0, 7, 0, 0, 0, 0, [], [])),
  (7, (.istore_n 3, 8, 3, 0, 0, 0, [], [])),
  (8, (.iload_n 3, 9, 3, 0, 0, 0, [], [])),
  (9, (.aload_n 0, 10, 0, 0, 0, 0, [], [])),
  (10, (.getfield 7, 13, 6, 0, 0, 0, [], [826])),
  (13, (.bipush 28, 15, 0, 0, 28, 0, [], [])),
  (15, (.iaload, 16, 0, 0, 0, 0, [], [])),
  (16, (.if_icmp .ge 22, 19, 38, 0, 0, 0, [], [])),
  (19, (.iload_n 2, 20, 2, 0, 0, 0, [], [])),
  (20, (.aload_n 0, 21, 0, 0, 0, 0, [], [])),
  (21, (.iload_n 3, 22, 3, 0, 0, 0, [], [])),
  (22, (.invokevirtual 144, 25, 141, 2, 0, 0, [], [983, 82, 980, 982, 46, 6])),
  (25, (.invokestatic 165, 28, 115, 1, 0, 0, [], [998, 82, 996, 997])),
  (28, (.iload_n 3, 29, 3, 0, 0, 0, [], [])),
  (29, (.ishl, 30, 0, 0, 0, 0, [], [])),
  (30, (.ior, 31, 0, 0, 0, 0, [], [])),
  (31, (.istore_n 2, 32, 2, 0, 0, 0, [], [])),
  (32, (.iinc 3 1, 35, 3, 0, 1, 0, [], [])),
  (35, (.goto (-27), 38, 8, 0, 0, 0, [], [])),
  (38, (.iload_n 1, 39, 1, 0, 0, 0, [], [])),
  (39, (.tableswitch 88 0 6 #[41, 49, 57, 65, 73, 81, 86], 80, 127, 0, 0, 0, [(0, 80), (1, 88), (2, 96), (3, 104), (4, 112), (5, 120), (6, 125)], [])),
  (80, (.aload_n 0, 81, 0, 0, 0, 0, [], [])),
  (81, (.getfield 7, 84, 6, 0, 0, 0, [], [826])),
  (84, (.bipush 28, 86, 0, 0, 28, 0, [], [])),
  (86, (.iaload, 87, 0, 0, 0, 0, [], [])),
  (87, (.ireturn, 88, 0, 0, 0, 0, [], [])),
  (88, (.aload_n 0, 89, 0, 0, 0, 0, [], [])),
  (89, (.getfield 7, 92, 6, 0, 0, 0, [], [826])),
  (92, (.bipush 32, 94, 0, 0, 32, 0, [], [])),
  (94, (.iaload, 95, 0, 0, 0, 0, [], [])),
  (95, (.ireturn, 96, 0, 0, 0, 0, [], [])),
  (96, (.aload_n 0, 97, 0, 0, 0, 0, [], [])),
  (97, (.getfield 7, 100, 6, 0, 0, 0, [], [826])),
  (100, (.bipush 30, 102, 0, 0, 30, 0, [], [])),
  (102, (.iaload, 103, 0, 0, 0, 0, [], [])),
  (103, (.ireturn, 104, 0, 0, 0, 0, [], [])),
  (104, (.aload_n 0, 105, 0, 0, 0, 0, [], [])),
  (105, (.getfield 7, 108, 6, 0, 0, 0, [], [826])),
  (108, (.bipush 31, 110, 0, 0, 31, 0, [], [])),
  (110, (.iaload, 111, 0, 0, 0, 0, [], [])),
  (111, (.ireturn, 112, 0, 0, 0, 0, [], [])),
  (112, (.aload_n 0, 113, 0, 0, 0, 0, [], [])),
  (113, (.getfield 7, 116, 6, 0, 0, 0, [], [826])),
  (116, (.bipush 29, 118, 0, 0, 29, 0, [], [])),
  (118, (.iaload, 119, 0, 0, 0, 0, [], [])),
  (119, (.ireturn, 120, 0, 0, 0, 0, [], [])),
  (120, (.aload_n 0, 121, 0, 0, 0, 0, [], [])),
  (121, (.invokevirtual 172, 124, 147, 1, 0, 0, [], [1002, 82, 999, 1001, 50, 6])),
  (124, (.ireturn, 125, 0, 0, 0, 0, [], [])),
  (125, (.iload_n 2, 126, 2, 0, 0, 0, [], [])),
  (126, (.ireturn, 127, 0, 0, 0, 0, [], [])),
  (127, (.iconst (-1), 128, 0, 0, (-1), 0, [], [])),
  (128, (.ireturn, 129, 0, 0, 0, 0, [], []))]
def mX6_rule : hd_I := (RX6, yX6_rule, cX6_rule, 4, (some .int), 4, pX6_rule)
def pX6_thing : List (Nat × hd_O) := [
  (0, (.aload_n 0, 1, 0, 0, 0, 0, [], [])),
  (1, (.iload_n 1, 2, 1, 0, 0, 0, [], [])),
  (2, (.invokevirtual 175, 5, 131, 2, 0, 0, [], [1010, 82, 1007, 1009, 51, 6])),
  (5, (.ifCond .ne 5, 8, 10, 0, 0, 0, [], [])),
  (8, (.iconst (-1), 9, 0, 0, (-1), 0, [], [])),
  (9, (.ireturn, 10, 0, 0, 0, 0, [], [])),
  (10, (.aload_n 0, 11, 0, 0, 0, 0, [], [])),
  (11, (.invokevirtual 169, 14, 135, 1, 0, 0, [], [979, 82, 976, 978, 45, 6])),
  (14, (.iload_n 2, 15, 2, 0, 0, 0, [], [])),
  (15, (.tableswitch 76 0 6 #[41, 41, 41, 48, 54, 60, 69], 56, 91, 0, 0, 0, [(0, 56), (1, 56), (2, 56), (3, 63), (4, 69), (5, 75), (6, 84)], [])),
  (56, (.aload_n 0, 57, 0, 0, 0, 0, [], [])),
  (57, (.iload_n 1, 58, 1, 0, 0, 0, [], [])),
  (58, (.iload_n 2, 59, 2, 0, 0, 0, [], [])),
  (59, (.invokevirtual 135, 62, 137, 3, 0, 0, [], [991, 82, 988, 990, 48, 6])),
  (62, (.ireturn, 63, 0, 0, 0, 0, [], [])),
  (63, (.aload_n 0, 64, 0, 0, 0, 0, [], [])),
  (64, (.iload_n 1, 65, 1, 0, 0, 0, [], [])),
  (65, (.invokevirtual 141, 68, 139, 2, 0, 0, [], [995, 82, 992, 994, 49, 6])),
  (68, (.ireturn, 69, 0, 0, 0, 0, [], [])),
  (69, (.aload_n 0, 70, 0, 0, 0, 0, [], [])),
  (70, (.iload_n 1, 71, 1, 0, 0, 0, [], [])),
  (71, (.invokevirtual 138, 74, 140, 2, 0, 0, [], [987, 82, 984, 986, 47, 6])),
  (74, (.ireturn, 75, 0, 0, 0, 0, [], [])),
  (75, (.bipush 20, 77, 0, 0, 20, 0, [], [])),
  (77, (.aload_n 0, 78, 0, 0, 0, 0, [], [])),
  (78, (.iload_n 1, 79, 1, 0, 0, 0, [], [])),
  (79, (.invokevirtual 155, 82, 142, 2, 0, 0, [], [1014, 82, 1011, 1013, 52, 6])),
  (82, (.iadd, 83, 0, 0, 0, 0, [], [])),
  (83, (.ireturn, 84, 0, 0, 0, 0, [], [])),
  (84, (.aload_n 0, 85, 0, 0, 0, 0, [], [])),
  (85, (.iload_n 1, 86, 1, 0, 0, 0, [], [])),
  (86, (.iconst 3, 87, 0, 0, 3, 0, [], [])),
  (87, (.invokevirtual 135, 90, 137, 3, 0, 0, [], [991, 82, 988, 990, 48, 6])),
  (90, (.ireturn, 91, 0, 0, 0, 0, [], [])),
  (91, (.iconst (-1), 92, 0, 0, (-1), 0, [], [])),
  (92, (.ireturn, 93, 0, 0, 0, 0, [], []))]
def mX6_thing : hd_I := (RX6, yX6_thing, cX6_thing, 3, (some .int), 5, pX6_thing)
def pX6_becomes : List (Nat × hd_O) := [
  (0, (.aload_n 0, 1, 0, 0, 0, 0, [], [])),
  (1, (.getfield 7, 4, 6, 0, 0, 0, [], [826])),
  (4, (.iload_n 1, 5, 1, 0, 0, 0, [], [])),
  (5, (.iaload, 6, 0, 0, 0, 0, [], [])),
  (6, (.istore_n 3, 7, 3, 0, 0, 0, [], [])),
  (7, (.aload_n 0, 8, 0, 0, 0, 0, [], [])),
  (8, (.getfield 7, 11, 6, 0, 0, 0, [], [826])),
  (11, (.iload_n 1, 12, 1, 0, 0, 0, [], [])),
  (12, (.iload_n 2, 13, 2, 0, 0, 0, [], [])),
  (13, (.iastore, 14, 0, 0, 0, 0, [], [])),
  (14, (.iload_n 3, 15, 3, 0, 0, 0, [], [])),
  (15, (.ireturn, 16, 0, 0, 0, 0, [], []))]
def mX6_becomes : hd_I := (RX6, yX6_becomes, cX6_becomes, 4, (some .int), 1, pX6_becomes)
def pX6_alter : List (Nat × hd_O) := [
  (0, (.iload_n 2, 1, 2, 0, 0, 0, [], [])),
  (1, (.ifCond .ne 15, 4, 16, 0, 0, 0, [], [])),
  (4, (.iload_n 3, 5, 3, 0, 0, 0, [], [])),
  (5, (.i2l, 6, 0, 0, 0, 0, [], [])),
  (6, (.lconst 0, 7, 0, 0, 0, 0, [], [])),
  (7, (.ldc2_w 178, 10, 0, 0, 0, 3, [], [1019])),
  (10, (.invokestatic 65, 13, 114, 3, 0, 0, [], [919, 82, 917, 918])),
  (13, (.goto 42, 16, 55, 0, 0, 0, [], [])),
  (16, (.iload_n 2, 17, 2, 0, 0, 0, [], [])),
  (17, (.iconst 1, 18, 0, 0, 1, 0, [], [])),
  (18, (.if_icmp .ne 15, 21, 33, 0, 0, 0, [], [])),
  (21, (.iload_n 3, 22, 3, 0, 0, 0, [], [])),
  (22, (.i2l, 23, 0, 0, 0, 0, [], [])),
  (23, (.lconst 0, 24, 0, 0, 0, 0, [], [])),
  (24, (.ldc2_w 180, 27, 0, 0, 0, 9, [], [1020])),
  (27, (.invokestatic 65, 30, 114, 3, 0, 0, [], [919, 82, 917, 918])),
  (30, (.goto 25, 33, 55, 0, 0, 0, [], [])),
  (33, (.iload_n 2, 34, 2, 0, 0, 0, [], [])),
  (34, (.iconst 2, 35, 0, 0, 2, 0, [], [])),
  (35, (.if_icmp .ne 19, 38, 54, 0, 0, 0, [], [])),
  (38, (.iload_n 3, 39, 3, 0, 0, 0, [], [])),
  (39, (.i2l, 40, 0, 0, 0, 0, [], [])),
  (40, (.lconst 1, 41, 0, 0, 0, 1, [], [])),
  (41, (.ldc2_w 180, 44, 0, 0, 0, 9, [], [1020])),
  (44, (.invokestatic 65, 47, 114, 3, 0, 0, [], [919, 82, 917, 918])),
  (47, (.ifCond .eq 7, 50, 54, 0, 0, 0, [], [])),
  (50, (.iconst 1, 51, 0, 0, 1, 0, [], [])),
  (51, (.goto 4, 54, 55, 0, 0, 0, [], [])),
  (54, (.iconst 0, 55, 0, 0, 0, 0, [], [])),
  (55, (.istore 4, 57, 4, 0, 0, 0, [], [])),
  (57, (.aload_n 0, 58, 0, 0, 0, 0, [], [])),
  (58, (.iload_n 1, 59, 1, 0, 0, 0, [], [])),
  (59, (.invokevirtual 175, 62, 131, 2, 0, 0, [], [1010, 82, 1007, 1009, 51, 6])),
  (62, (.ifCond .eq 21, 65, 83, 0, 0, 0, [], [])),
  (65, (.iload 4, 67, 4, 0, 0, 0, [], [])),
  (67, (.ifCond .eq 16, 70, 83, 0, 0, 0, [], [])),
  (70, (.aload_n 0, 71, 0, 0, 0, 0, [], [])),
  (71, (.iconst 4, 72, 0, 0, 4, 0, [], [])),
  (72, (.iload_n 1, 73, 1, 0, 0, 0, [], [])),
  (73, (.imul, 74, 0, 0, 0, 0, [], [])),
  (74, (.iload_n 2, 75, 2, 0, 0, 0, [], [])),
  (75, (.iadd, 76, 0, 0, 0, 0, [], [])),
  (76, (.iload_n 3, 77, 3, 0, 0, 0, [], [])),
  (77, (.invokevirtual 182, 80, 151, 3, 0, 0, [], [1024, 82, 1021, 1023, 53, 6])),
  (80, (.goto 4, 83, 84, 0, 0, 0, [], [])),
  (83, (.iconst (-1), 84, 0, 0, (-1), 0, [], [])),
  (84, (.ireturn, 85, 0, 0, 0, 0, [], []))]
def mX6_alter : hd_I := (RX6, yX6_alter, cX6_alter, 5, (some .int), 3, pX6_alter)
def pX6_mood : List (Nat × hd_O) := [
  (0, (.iload_n 1, 1, 1, 0, 0, 0, [], [])),
  (1, (.invokestatic 185, 4, 132, 1, 0, 0, [], [1031, 82, 1029, 1030])),
  (4, (.ifCond .eq 13, 7, 17, 0, 0, 0, [], [])),
  (7, (.aload_n 0, 8, 0, 0, 0, 0, [], [])),
  (8, (.bipush 30, 10, 0, 0, 30, 0, [], [])),
  (10, (.iload_n 1, 11, 1, 0, 0, 0, [], [])),
  (11, (.invokevirtual 182, 14, 151, 3, 0, 0, [], [1024, 82, 1021, 1023, 53, 6])),
  (14, (.goto 4, 17, 18, 0, 0, 0, [], [])),
  (17, (.iconst (-1), 18, 0, 0, (-1), 0, [], [])),
  (18, (.ireturn, 19, 0, 0, 0, 0, [], []))]
def mX6_mood : hd_I := (RX6, yX6_mood, cX6_mood, 2, (some .int), 3, pX6_mood)
def pX6_tire : List (Nat × hd_O) := [
  (0, (.iload_n 1, 1, 1, 0, 0, 0, [], [])),
  (1, (.i2l, 2, 0, 0, 0, 0, [], [])),
  (2, (.lconst 0, 3, 0, 0, 0, 0, [], [])),
  (3, (.ldc2_w 180, 6, 0, 0, 0, 9, [], [1020])),
  (6, (.invokestatic 65, 9, 114, 3, 0, 0, [], [919, 82, 917, 918])),
  (9, (.ifCond .eq 13, 12, 22, 0, 0, 0, [], [])),
  (12, (.aload_n 0, 13, 0, 0, 0, 0, [], [])),
  (13, (.bipush 31, 15, 0, 0, 31, 0, [], [])),
  (15, (.iload_n 1, 16, 1, 0, 0, 0, [], [])),
  (16, (.invokevirtual 182, 19, 151, 3, 0, 0, [], [1024, 82, 1021, 1023, 53, 6])),
  (19, (.goto 4, 22, 23, 0, 0, 0, [], [])),
  (22, (.iconst (-1), 23, 0, 0, (-1), 0, [], [])),
  (23, (.ireturn, 24, 0, 0, 0, 0, [], []))]
def mX6_tire : hd_I := (RX6, yX6_tire, cX6_tire, 2, (some .int), 2, pX6_tire)
def pX6_pack : List (Nat × hd_O) := [
  (0, (.iload_n 1, 1, 1, 0, 0, 0, [], [])),
  (1, (.i2l, 2, 0, 0, 0, 0, [], [])),
  (2, (.lconst 0, 3, 0, 0, 0, 0, [], [])),
  (3, (.ldc2_w 178, 6, 0, 0, 0, 3, [], [1019])),
  (6, (.invokestatic 65, 9, 114, 3, 0, 0, [], [919, 82, 917, 918])),
  (9, (.ifCond .eq 27, 12, 36, 0, 0, 0, [], [])),
  (12, (.iload_n 2, 13, 2, 0, 0, 0, [], [])),
  (13, (.i2l, 14, 0, 0, 0, 0, [], [])),
  (14, (.lconst 0, 15, 0, 0, 0, 0, [], [])),
  (15, (.ldc2_w 180, 18, 0, 0, 0, 9, [], [1020])),
  (18, (.invokestatic 65, 21, 114, 3, 0, 0, [], [919, 82, 917, 918])),
  (21, (.ifCond .eq 15, 24, 36, 0, 0, 0, [], [])),
  (24, (.iload_n 3, 25, 3, 0, 0, 0, [], [])),
  (25, (.i2l, 26, 0, 0, 0, 0, [], [])),
  (26, (.lconst 1, 27, 0, 0, 0, 1, [], [])),
  (27, (.ldc2_w 180, 30, 0, 0, 0, 9, [], [1020])),
  (30, (.invokestatic 65, 33, 114, 3, 0, 0, [], [919, 82, 917, 918])),
  (33, (.ifCond .ne 5, 36, 38, 0, 0, 0, [], [])),
  (36, (.iconst (-1), 37, 0, 0, (-1), 0, [], [])),
  (37, (.ireturn, 38, 0, 0, 0, 0, [], [])),
  (38, (.aload_n 0, 39, 0, 0, 0, 0, [], [])),
  (39, (.invokevirtual 188, 42, 134, 1, 0, 0, [], [1044, 82, 1041, 1043, 54, 6])),
  (42, (.ifCond .ne 6, 45, 48, 0, 0, 0, [], [])),
  (45, (.bipush (-2), 47, 0, 0, (-2), 0, [], [])),
  (47, (.ireturn, 48, 0, 0, 0, 0, [], [])),
  (48, (.aload_n 0, 49, 0, 0, 0, 0, [], [])),
  (49, (.getfield 7, 52, 6, 0, 0, 0, [], [826])),
  (52, (.bipush 28, 54, 0, 0, 28, 0, [], [])),
  (54, (.iaload, 55, 0, 0, 0, 0, [], [])),
  (55, (.bipush 7, 57, 0, 0, 7, 0, [], [])),
  (57, (.if_icmp .ne 6, 60, 63, 0, 0, 0, [], [])),
  (60, (.bipush (-3), 62, 0, 0, (-3), 0, [], [])),
  (62, (.ireturn, 63, 0, 0, 0, 0, [], [])),
  (63, (.iconst 4, 64, 0, 0, 4, 0, [], [])),
  (64, (.aload_n 0, 65, 0, 0, 0, 0, [], [])),
  (65, (.getfield 7, 68, 6, 0, 0, 0, [], [826])),
  (68, (.bipush 28, 70, 0, 0, 28, 0, [], [])),
  (70, (.iaload, 71, 0, 0, 0, 0, [], [])),
  (71, (.imul, 72, 0, 0, 0, 0, [], [])),
  (72, (.istore 4, 74, 4, 0, 0, 0, [], [])),
  (74, (.aload_n 0, 75, 0, 0, 0, 0, [], [])),
  (75, (.getfield 7, 78, 6, 0, 0, 0, [], [826])),
  (78, (.iload 4, 80, 4, 0, 0, 0, [], [])),
  (80, (.iconst 0, 81, 0, 0, 0, 0, [], [])),
  (81, (.iadd, 82, 0, 0, 0, 0, [], [])),
  (82, (.iload_n 1, 83, 1, 0, 0, 0, [], [])),
  (83, (.iastore, 84, 0, 0, 0, 0, [], [])),
  (84, (.aload_n 0, 85, 0, 0, 0, 0, [], [])),
  (85, (.getfield 7, 88, 6, 0, 0, 0, [], [826])),
  (88, (.iload 4, 90, 4, 0, 0, 0, [], [])),
  (90, (.iconst 1, 91, 0, 0, 1, 0, [], [])),
  (91, (.iadd, 92, 0, 0, 0, 0, [], [])),
  (92, (.iload_n 2, 93, 2, 0, 0, 0, [], [])),
  (93, (.iastore, 94, 0, 0, 0, 0, [], [])),
  (94, (.aload_n 0, 95, 0, 0, 0, 0, [], [])),
  (95, (.getfield 7, 98, 6, 0, 0, 0, [], [826])),
  (98, (.iload 4, 100, 4, 0, 0, 0, [], [])),
  (100, (.iconst 2, 101, 0, 0, 2, 0, [], [])),
  (101, (.iadd, 102, 0, 0, 0, 0, [], [])),
  (102, (.iload_n 3, 103, 3, 0, 0, 0, [], [])),
  (103, (.iastore, 104, 0, 0, 0, 0, [], [])),
  (104, (.aload_n 0, 105, 0, 0, 0, 0, [], [])),
  (105, (.getfield 7, 108, 6, 0, 0, 0, [], [826])),
  (108, (.iload 4, 110, 4, 0, 0, 0, [], [])),
  (110, (.iconst 3, 111, 0, 0, 3, 0, [], [])),
  (111, (.iadd, 112, 0, 0, 0, 0, [], [])),
  (112, (.iconst 0, 113, 0, 0, 0, 0, [], [])),
  (113, (.iastore, 114, 0, 0, 0, 0, [], [])),
  (114, (.aload_n 0, 115, 0, 0, 0, 0, [], [])),
  (115, (.getfield 7, 118, 6, 0, 0, 0, [], [826])),
  (118, (.bipush 28, 120, 0, 0, 28, 0, [], [])),
  (120, (.dup2, 121, 0, 0, 0, 0, [], [])),
  (121, (.iaload, 122, 0, 0, 0, 0, [], [])),
  (122, (.iconst 1, 123, 0, 0, 1, 0, [], [])),
  (123, (.iadd, 124, 0, 0, 0, 0, [], [])),
  (124, (.iastore, 125, 0, 0, 0, 0, [], [])),
  (125, (.aload_n 0, 126, 0, 0, 0, 0, [], [])),
  (126, (.getfield 7, 129, 6, 0, 0, 0, [], [826])),
  (129, (.bipush 29, 131, 0, 0, 29, 0, [], [])),
  (131, (.dup2, 132, 0, 0, 0, 0, [], [])),
  (132, (.iaload, 133, 0, 0, 0, 0, [], [])),
  (133, (.iconst 1, 134, 0, 0, 1, 0, [], [])),
  (134, (.iadd, 135, 0, 0, 0, 0, [], [])),
  (135, (.iastore, 136, 0, 0, 0, 0, [], [])),
  (136, (.aload_n 0, 137, 0, 0, 0, 0, [], [])),
  (137, (.getfield 7, 140, 6, 0, 0, 0, [], [826])),
  (140, (.bipush 28, 142, 0, 0, 28, 0, [], [])),
  (142, (.iaload, 143, 0, 0, 0, 0, [], [])),
  (143, (.ireturn, 144, 0, 0, 0, 0, [], []))]
def mX6_pack : hd_I := (RX6, yX6_pack, cX6_pack, 5, (some .int), 2, pX6_pack)
def pX6_strap : List (Nat × hd_O) := [
  (0, (.aload_n 0, 1, 0, 0, 0, 0, [], [])),
  (1, (.getfield 7, 4, 6, 0, 0, 0, [], [826])),
  (4, (.bipush 28, 6, 0, 0, 28, 0, [], [])),
  (6, (.iaload, 7, 0, 0, 0, 0, [], [])),
  (7, (.aload_n 0, 8, 0, 0, 0, 0, [], [])),
  (8, (.getfield 7, 11, 6, 0, 0, 0, [], [826])),
  (11, (.bipush 29, 13, 0, 0, 29, 0, [], [])),
  (13, (.iaload, 14, 0, 0, 0, 0, [], [])),
  (14, (.isub, 15, 0, 0, 0, 0, [], [])),
  (15, (.istore_n 1, 16, 1, 0, 0, 0, [], [])),
  (16, (.aload_n 0, 17, 0, 0, 0, 0, [], [])),
  (17, (.invokevirtual 169, 20, 135, 1, 0, 0, [], [979, 82, 976, 978, 45, 6])),
  (20, (.aload_n 0, 21, 0, 0, 0, 0, [], [])),
  (21, (.invokevirtual 192, 24, 148, 1, 0, 0, [], [1052, 82, 1049, 1051, 55, 6])),
  (24, (.aload_n 0, 25, 0, 0, 0, 0, [], [])),
  (25, (.invokevirtual 195, 28, 136, 1, 0, 0, [], [1060, 82, 1057, 1059, 57, 6])),
  (28, (.iload_n 1, 29, 1, 0, 0, 0, [], [])),
  (29, (.ireturn, 30, 0, 0, 0, 0, [], []))]
def mX6_strap : hd_I := (RX6, yX6_strap, cX6_strap, 2, (some .int), 3, pX6_strap)
def pX6_lift : List (Nat × hd_O) := [
  (0, (.aload_n 0, 1, 0, 0, 0, 0, [], [])),
  (1, (.getfield 7, 4, 6, 0, 0, 0, [], [826])),
  (4, (.bipush 28, 6, 0, 0, 28, 0, [], [])),
  (6, (.iaload, 7, 0, 0, 0, 0, [], [])),
  (7, (.ifCond .eq 10, 10, 17, 0, 0, 0, [], [])),
  (10, (.aload_n 0, 11, 0, 0, 0, 0, [], [])),
  (11, (.invokevirtual 188, 14, 134, 1, 0, 0, [], [1044, 82, 1041, 1043, 54, 6])),
  (14, (.ifCond .ne 6, 17, 20, 0, 0, 0, [], [])),
  (17, (.bipush (-2), 19, 0, 0, (-2), 0, [], [])),
  (19, (.ireturn, 20, 0, 0, 0, 0, [], [])),
  (20, (.aload_n 0, 21, 0, 0, 0, 0, [], [])),
  (21, (.getfield 7, 24, 6, 0, 0, 0, [], [826])),
  (24, (.bipush 28, 26, 0, 0, 28, 0, [], [])),
  (26, (.dup2, 27, 0, 0, 0, 0, [], [])),
  (27, (.iaload, 28, 0, 0, 0, 0, [], [])),
  (28, (.iconst 1, 29, 0, 0, 1, 0, [], [])),
  (29, (.isub, 30, 0, 0, 0, 0, [], [])),
  (30, (.iastore, 31, 0, 0, 0, 0, [], [])),
  (31, (.aload_n 0, 32, 0, 0, 0, 0, [], [])),
  (32, (.getfield 7, 35, 6, 0, 0, 0, [], [826])),
  (35, (.bipush 29, 37, 0, 0, 29, 0, [], [])),
  (37, (.dup2, 38, 0, 0, 0, 0, [], [])),
  (38, (.iaload, 39, 0, 0, 0, 0, [], [])),
  (39, (.iconst 1, 40, 0, 0, 1, 0, [], [])),
  (40, (.isub, 41, 0, 0, 0, 0, [], [])),
  (41, (.iastore, 42, 0, 0, 0, 0, [], [])),
  (42, (.aload_n 0, 43, 0, 0, 0, 0, [], [])),
  (43, (.getfield 7, 46, 6, 0, 0, 0, [], [826])),
  (46, (.bipush 28, 48, 0, 0, 28, 0, [], [])),
  (48, (.iaload, 49, 0, 0, 0, 0, [], [])),
  (49, (.ireturn, 50, 0, 0, 0, 0, [], []))]
def mX6_lift : hd_I := (RX6, yX6_lift, cX6_lift, 1, (some .int), 2, pX6_lift)
def pX6_hours : List (Nat × hd_O) := [
  (0, (.iload_n 1, 1, 1, 0, 0, 0, [], [])),
  (1, (.i2l, 2, 0, 0, 0, 0, [], [])),
  (2, (.lconst 0, 3, 0, 0, 0, 0, [], [])),
  (3, (.ldc2_w 198, 6, 0, 0, 0, 30, [], [1069])),
  (6, (.invokestatic 65, 9, 114, 3, 0, 0, [], [919, 82, 917, 918])),
  (9, (.ifCond .ne 5, 12, 14, 0, 0, 0, [], [])),
  (12, (.iconst (-1), 13, 0, 0, (-1), 0, [], [])),
  (13, (.ireturn, 14, 0, 0, 0, 0, [], [])),
  (14, (.aload_n 0, 15, 0, 0, 0, 0, [], [])),
  (15, (.getfield 7, 18, 6, 0, 0, 0, [], [826])),
  (18, (.bipush 32, 20, 0, 0, 32, 0, [], [])),
  (20, (.iaload, 21, 0, 0, 0, 0, [], [])),
  (21, (.iload_n 1, 22, 1, 0, 0, 0, [], [])),
  (22, (.iadd, 23, 0, 0, 0, 0, [], [])),
  (23, (.sipush 999, 26, 0, 0, 999, 0, [], [])),
  (26, (.if_icmp .le 6, 29, 32, 0, 0, 0, [], [])),
  (29, (.bipush (-3), 31, 0, 0, (-3), 0, [], [])),
  (31, (.ireturn, 32, 0, 0, 0, 0, [], [])),
  (32, (.aload_n 0, 33, 0, 0, 0, 0, [], [])),
  (33, (.invokevirtual 169, 36, 135, 1, 0, 0, [], [979, 82, 976, 978, 45, 6])),
  (36, (.aload_n 0, 37, 0, 0, 0, 0, [], [])),
  (37, (.iload_n 1, 38, 1, 0, 0, 0, [], [])),
  (38, (.invokevirtual 162, 41, 145, 2, 0, 0, [], [1073, 82, 1070, 1072, 58, 6])),
  (41, (.aload_n 0, 42, 0, 0, 0, 0, [], [])),
  (42, (.invokevirtual 195, 45, 136, 1, 0, 0, [], [1060, 82, 1057, 1059, 57, 6])),
  (45, (.aload_n 0, 46, 0, 0, 0, 0, [], [])),
  (46, (.getfield 7, 49, 6, 0, 0, 0, [], [826])),
  (49, (.bipush 30, 51, 0, 0, 30, 0, [], [])),
  (51, (.iaload, 52, 0, 0, 0, 0, [], [])),
  (52, (.ireturn, 53, 0, 0, 0, 0, [], []))]
def mX6_hours : hd_I := (RX6, yX6_hours, cX6_hours, 2, (some .int), 7, pX6_hours)
def pX6_isFar : List (Nat × hd_O) := [
  (0, (.iload_n 0, 1, 0, 0, 0, 0, [], [])),
  (1, (.i2l, 2, 0, 0, 0, 0, [], [])),
  (2, (.lconst 0, 3, 0, 0, 0, 0, [], [])),
  (3, (.ldc2_w 200, 6, 0, 0, 0, 60, [], [1089])),
  (6, (.invokestatic 65, 9, 114, 3, 0, 0, [], [919, 82, 917, 918])),
  (9, (.ireturn, 10, 0, 0, 0, 0, [], []))]
def mX6_isFar : hd_I := (RX6, yX6_isFar, cX6_isFar, 1, (some .boolean), 2, pX6_isFar)
def pX6_runs : List (Nat × hd_O) := [
  (0, (.iload_n 1, 1, 1, 0, 0, 0, [], [])),
  (1, (.invokestatic 202, 4, 159, 1, 0, 0, [], [1088, 82, 1086, 1087])),
  (4, (.ifCond .eq 15, 7, 19, 0, 0, 0, [], [])),
  (7, (.iload_n 2, 8, 2, 0, 0, 0, [], [])),
  (8, (.i2l, 9, 0, 0, 0, 0, [], [])),
  (9, (.lconst 0, 10, 0, 0, 0, 0, [], [])),
  (10, (.ldc2_w 205, 13, 0, 0, 0, 4, [], [1090])),
  (13, (.invokestatic 65, 16, 114, 3, 0, 0, [], [919, 82, 917, 918])),
  (16, (.ifCond .ne 5, 19, 21, 0, 0, 0, [], [])),
  (19, (.iconst (-1), 20, 0, 0, (-1), 0, [], [])),
  (20, (.ireturn, 21, 0, 0, 0, 0, [], [])),
  (21, (.aload_n 0, 22, 0, 0, 0, 0, [], [])),
  (22, (.invokevirtual 169, 25, 135, 1, 0, 0, [], [979, 82, 976, 978, 45, 6])),
  (25, (.aload_n 0, 26, 0, 0, 0, 0, [], [])),
  (26, (.getfield 13, 29, 6, 1, 0, 0, [], [827])),
  (29, (.bipush 30, 31, 0, 0, 30, 0, [], [])),
  (31, (.iaload, 32, 0, 0, 0, 0, [], [])),
  (32, (.istore_n 3, 33, 3, 0, 0, 0, [], [])),
  (33, (.aload_n 0, 34, 0, 0, 0, 0, [], [])),
  (34, (.getfield 13, 37, 6, 1, 0, 0, [], [827])),
  (37, (.bipush 30, 39, 0, 0, 30, 0, [], [])),
  (39, (.iaload, 40, 0, 0, 0, 0, [], [])),
  (40, (.istore 4, 42, 4, 0, 0, 0, [], [])),
  (42, (.aload_n 0, 43, 0, 0, 0, 0, [], [])),
  (43, (.getfield 13, 46, 6, 1, 0, 0, [], [827])),
  (46, (.bipush 30, 48, 0, 0, 30, 0, [], [])),
  (48, (.iaload, 49, 0, 0, 0, 0, [], [])),
  (49, (.ifCond .ne 7, 52, 56, 0, 0, 0, [], [])),
  (52, (.iconst 0, 53, 0, 0, 0, 0, [], [])),
  (53, (.goto 5, 56, 58, 0, 0, 0, [], [])),
  (56, (.bipush (-4), 58, 0, 0, (-4), 0, [], [])),
  (58, (.istore 5, 60, 5, 0, 0, 0, [], [])),
  (60, (.iconst 1, 61, 0, 0, 1, 0, [], [])),
  (61, (.istore 6, 63, 6, 0, 0, 0, [], [])),
  (63, (.iload 6, 65, 6, 0, 0, 0, [], [])),
  (65, (.iload_n 1, 66, 1, 0, 0, 0, [], [])),
  (66, (.if_icmp .gt 89, 69, 155, 0, 0, 0, [], [])),
  (69, (.aload_n 0, 70, 0, 0, 0, 0, [], [])),
  (70, (.iconst 0, 71, 0, 0, 0, 0, [], [])),
  (71, (.invokevirtual 158, 74, 144, 2, 0, 0, [], [1077, 82, 1074, 1076, 59, 6])),
  (74, (.aload_n 0, 75, 0, 0, 0, 0, [], [])),
  (75, (.getfield 13, 78, 6, 1, 0, 0, [], [827])),
  (78, (.bipush 30, 80, 0, 0, 30, 0, [], [])),
  (80, (.iaload, 81, 0, 0, 0, 0, [], [])),
  (81, (.iload_n 3, 82, 3, 0, 0, 0, [], [])),
  (82, (.if_icmp .le 13, 85, 95, 0, 0, 0, [], [])),
  (85, (.aload_n 0, 86, 0, 0, 0, 0, [], [])),
  (86, (.getfield 13, 89, 6, 1, 0, 0, [], [827])),
  (89, (.bipush 30, 91, 0, 0, 30, 0, [], [])),
  (91, (.iaload, 92, 0, 0, 0, 0, [], [])),
  (92, (.goto 4, 95, 96, 0, 0, 0, [], [])),
  (95, (.iload_n 3, 96, 3, 0, 0, 0, [], [])),
  (96, (.istore_n 3, 97, 3, 0, 0, 0, [], [])),
  (97, (.aload_n 0, 98, 0, 0, 0, 0, [], [])),
  (98, (.getfield 13, 101, 6, 1, 0, 0, [], [827])),
  (101, (.bipush 30, 103, 0, 0, 30, 0, [], [])),
  (103, (.iaload, 104, 0, 0, 0, 0, [], [])),
  (104, (.iload 4, 106, 4, 0, 0, 0, [], [])),
  (106, (.if_icmp .ge 13, 109, 119, 0, 0, 0, [], [])),
  (109, (.aload_n 0, 110, 0, 0, 0, 0, [], [])),
  (110, (.getfield 13, 113, 6, 1, 0, 0, [], [827])),
  (113, (.bipush 30, 115, 0, 0, 30, 0, [], [])),
  (115, (.iaload, 116, 0, 0, 0, 0, [], [])),
  (116, (.goto 5, 119, 121, 0, 0, 0, [], [])),
  (119, (.iload 4, 121, 4, 0, 0, 0, [], [])),
  (121, (.istore 4, 123, 4, 0, 0, 0, [], [])),
  (123, (.iload 5, 125, 5, 0, 0, 0, [], [])),
  (125, (.bipush (-4), 127, 0, 0, (-4), 0, [], [])),
  (127, (.if_icmp .ne 18, 130, 145, 0, 0, 0, [], [])),
  (130, (.aload_n 0, 131, 0, 0, 0, 0, [], [])),
  (131, (.getfield 13, 134, 6, 1, 0, 0, [], [827])),
  (134, (.bipush 30, 136, 0, 0, 30, 0, [], [])),
  (136, (.iaload, 137, 0, 0, 0, 0, [], [])),
  (137, (.ifCond .ne 8, 140, 145, 0, 0, 0, [], [])),
  (140, (.iload 6, 142, 6, 0, 0, 0, [], [])),
  (142, (.goto 5, 145, 147, 0, 0, 0, [], [])),
  (145, (.iload 5, 147, 5, 0, 0, 0, [], [])),
  (147, (.istore 5, 149, 5, 0, 0, 0, [], [])),
  (149, (.iinc 6 1, 152, 6, 0, 1, 0, [], [])),
  (152, (.goto (-89), 155, 63, 0, 0, 0, [], [])),
  (155, (.iload_n 2, 156, 2, 0, 0, 0, [], [])),
  (156, (.tableswitch 50 0 3 #[32, 40, 42, 45], 188, 206, 0, 0, 0, [(0, 188), (1, 196), (2, 198), (3, 201)], [])),
  (188, (.aload_n 0, 189, 0, 0, 0, 0, [], [])),
  (189, (.getfield 13, 192, 6, 1, 0, 0, [], [827])),
  (192, (.bipush 30, 194, 0, 0, 30, 0, [], [])),
  (194, (.iaload, 195, 0, 0, 0, 0, [], [])),
  (195, (.ireturn, 196, 0, 0, 0, 0, [], [])),
  (196, (.iload_n 3, 197, 3, 0, 0, 0, [], [])),
  (197, (.ireturn, 198, 0, 0, 0, 0, [], [])),
  (198, (.iload 4, 200, 4, 0, 0, 0, [], [])),
  (200, (.ireturn, 201, 0, 0, 0, 0, [], [])),
  (201, (.aload_n 0, 202, 0, 0, 0, 0, [], [])),
  (202, (.invokevirtual 172, 205, 147, 1, 0, 0, [], [1002, 82, 999, 1001, 50, 6])),
  (205, (.ireturn, 206, 0, 0, 0, 0, [], [])),
  (206, (.iload 5, 208, 5, 0, 0, 0, [], [])),
  (208, (.ireturn, 209, 0, 0, 0, 0, [], []))]
def mX6_runs : hd_I := (RX6, yX6_runs, cX6_runs, 7, (some .int), 6, pX6_runs)
def pX6_isGone : List (Nat × hd_O) := [
  (0, (.iload_n 1, 1, 1, 0, 0, 0, [], [])),
  (1, (.aload_n 0, 2, 0, 0, 0, 0, [], [])),
  (2, (.getfield 13, 5, 6, 1, 0, 0, [], [827])),
  (5, (.bipush 29, 7, 0, 0, 29, 0, [], [])),
  (7, (.iaload, 8, 0, 0, 0, 0, [], [])),
  (8, (.if_icmp .lt 16, 11, 24, 0, 0, 0, [], [])),
  (11, (.aload_n 0, 12, 0, 0, 0, 0, [], [])),
  (12, (.iload_n 1, 13, 1, 0, 0, 0, [], [])),
  (13, (.iconst 3, 14, 0, 0, 3, 0, [], [])),
  (14, (.invokevirtual 135, 17, 137, 3, 0, 0, [], [991, 82, 988, 990, 48, 6])),
  (17, (.ifCond .ne 7, 20, 24, 0, 0, 0, [], [])),
  (20, (.iconst 1, 21, 0, 0, 1, 0, [], [])),
  (21, (.goto 4, 24, 25, 0, 0, 0, [], [])),
  (24, (.iconst 0, 25, 0, 0, 0, 0, [], [])),
  (25, (.ireturn, 26, 0, 0, 0, 0, [], []))]
def mX6_isGone : hd_I := (RX6, yX6_isGone, cX6_isGone, 2, (some .boolean), 2, pX6_isGone)
def pX6_gone : List (Nat × hd_O) := [
  (0, (.aload_n 0, 1, 0, 0, 0, 0, [], [])),
  (1, (.iload_n 1, 2, 1, 0, 0, 0, [], [])),
  (2, (.invokevirtual 175, 5, 131, 2, 0, 0, [], [1010, 82, 1007, 1009, 51, 6])),
  (5, (.ifCond .ne 5, 8, 10, 0, 0, 0, [], [])),
  (8, (.iconst (-1), 9, 0, 0, (-1), 0, [], [])),
  (9, (.ireturn, 10, 0, 0, 0, 0, [], [])),
  (10, (.aload_n 0, 11, 0, 0, 0, 0, [], [])),
  (11, (.invokevirtual 169, 14, 135, 1, 0, 0, [], [979, 82, 976, 978, 45, 6])),
  (14, (.aload_n 0, 15, 0, 0, 0, 0, [], [])),
  (15, (.iload_n 1, 16, 1, 0, 0, 0, [], [])),
  (16, (.invokevirtual 207, 19, 161, 2, 0, 0, [], [1098, 82, 1095, 1097, 61, 6])),
  (19, (.ifCond .eq 6, 22, 25, 0, 0, 0, [], [])),
  (22, (.bipush (-2), 24, 0, 0, (-2), 0, [], [])),
  (24, (.ireturn, 25, 0, 0, 0, 0, [], [])),
  (25, (.iconst 0, 26, 0, 0, 0, 0, [], [])),
  (26, (.istore_n 2, 27, 2, 0, 0, 0, [], [])),
  (27, (.iload_n 2, 28, 2, 0, 0, 0, [], [])),
  (28, (.bipush 60, 30, 0, 0, 60, 0, [], [])),
  (30, (.if_icmp .ge 22, 33, 52, 0, 0, 0, [], [])),
  (33, (.aload_n 0, 34, 0, 0, 0, 0, [], [])),
  (34, (.iload_n 1, 35, 1, 0, 0, 0, [], [])),
  (35, (.invokevirtual 207, 38, 161, 2, 0, 0, [], [1098, 82, 1095, 1097, 61, 6])),
  (38, (.ifCond .ne 14, 41, 52, 0, 0, 0, [], [])),
  (41, (.aload_n 0, 42, 0, 0, 0, 0, [], [])),
  (42, (.iconst 0, 43, 0, 0, 0, 0, [], [])),
  (43, (.invokevirtual 158, 46, 144, 2, 0, 0, [], [1077, 82, 1074, 1076, 59, 6])),
  (46, (.iinc 2 1, 49, 2, 0, 1, 0, [], [])),
  (49, (.goto (-22), 52, 27, 0, 0, 0, [], [])),
  (52, (.iload_n 2, 53, 2, 0, 0, 0, [], [])),
  (53, (.ireturn, 54, 0, 0, 0, 0, [], []))]
def mX6_gone : hd_I := (RX6, yX6_gone, cX6_gone, 3, (some .int), 6, pX6_gone)
def pX6_glad : List (Nat × hd_O) := [
  (0, (.iload_n 1, 1, 1, 0, 0, 0, [], [])),
  (1, (.invokestatic 185, 4, 132, 1, 0, 0, [], [1031, 82, 1029, 1030])),
  (4, (.ifCond .ne 5, 7, 9, 0, 0, 0, [], [])),
  (7, (.iconst (-1), 8, 0, 0, (-1), 0, [], [])),
  (8, (.ireturn, 9, 0, 0, 0, 0, [], [])),
  (9, (.aload_n 0, 10, 0, 0, 0, 0, [], [])),
  (10, (.invokevirtual 169, 13, 135, 1, 0, 0, [], [979, 82, 976, 978, 45, 6])),
  (13, (.iconst 0, 14, 0, 0, 0, 0, [], [])),
  (14, (.istore_n 2, 15, 2, 0, 0, 0, [], [])),
  (15, (.iload_n 2, 16, 2, 0, 0, 0, [], [])),
  (16, (.bipush 60, 18, 0, 0, 60, 0, [], [])),
  (18, (.if_icmp .gt 27, 21, 45, 0, 0, 0, [], [])),
  (21, (.aload_n 0, 22, 0, 0, 0, 0, [], [])),
  (22, (.getfield 13, 25, 6, 1, 0, 0, [], [827])),
  (25, (.bipush 30, 27, 0, 0, 30, 0, [], [])),
  (27, (.iaload, 28, 0, 0, 0, 0, [], [])),
  (28, (.iload_n 1, 29, 1, 0, 0, 0, [], [])),
  (29, (.if_icmp .lt 5, 32, 34, 0, 0, 0, [], [])),
  (32, (.iload_n 2, 33, 2, 0, 0, 0, [], [])),
  (33, (.ireturn, 34, 0, 0, 0, 0, [], [])),
  (34, (.aload_n 0, 35, 0, 0, 0, 0, [], [])),
  (35, (.iconst 0, 36, 0, 0, 0, 0, [], [])),
  (36, (.invokevirtual 158, 39, 144, 2, 0, 0, [], [1077, 82, 1074, 1076, 59, 6])),
  (39, (.iinc 2 1, 42, 2, 0, 1, 0, [], [])),
  (42, (.goto (-27), 45, 15, 0, 0, 0, [], [])),
  (45, (.bipush (-4), 47, 0, 0, (-4), 0, [], [])),
  (47, (.ireturn, 48, 0, 0, 0, 0, [], []))]
def mX6_glad : hd_I := (RX6, yX6_glad, cX6_glad, 3, (some .int), 6, pX6_glad)
def pX6_startsJudging : List (Nat × hd_O) := [
  (0, (.aload_n 0, 1, 0, 0, 0, 0, [], [])),
  (1, (.bipush (-4), 3, 0, 0, (-4), 0, [], [])),
  (3, (.putfield 210, 6, 6, 14, 0, 0, [], [840])),
  (6, (.aload_n 0, 7, 0, 0, 0, 0, [], [])),
  (7, (.iload_n 1, 8, 1, 0, 0, 0, [], [])),
  (8, (.putfield 213, 11, 6, 15, 0, 0, [], [841])),
  (11, (.return_, 12, 0, 0, 0, 0, [], []))]
def mX6_startsJudging : hd_I := (RX6, yX6_startsJudging, cX6_startsJudging, 2, none, 1, pX6_startsJudging)
def pX6_judges : List (Nat × hd_O) := [
  (0, (.aload_n 0, 1, 0, 0, 0, 0, [], [])),
  (1, (.iload_n 2, 2, 2, 0, 0, 0, [], [])),
  (2, (.aload_n 0, 3, 0, 0, 0, 0, [], [])),
  (3, (.getfield 213, 6, 6, 15, 0, 0, [], [841])),
  (6, (.if_icmp .le 7, 9, 13, 0, 0, 0, [], [])),
  (9, (.iload_n 1, 10, 1, 0, 0, 0, [], [])),
  (10, (.goto 7, 13, 17, 0, 0, 0, [], [])),
  (13, (.aload_n 0, 14, 0, 0, 0, 0, [], [])),
  (14, (.getfield 210, 17, 6, 14, 0, 0, [], [840])),
  (17, (.putfield 210, 20, 6, 14, 0, 0, [], [840])),
  (20, (.aload_n 0, 21, 0, 0, 0, 0, [], [])),
  (21, (.iload_n 2, 22, 2, 0, 0, 0, [], [])),
  (22, (.aload_n 0, 23, 0, 0, 0, 0, [], [])),
  (23, (.getfield 213, 26, 6, 15, 0, 0, [], [841])),
  (26, (.if_icmp .le 7, 29, 33, 0, 0, 0, [], [])),
  (29, (.iload_n 2, 30, 2, 0, 0, 0, [], [])),
  (30, (.goto 7, 33, 37, 0, 0, 0, [], [])),
  (33, (.aload_n 0, 34, 0, 0, 0, 0, [], [])),
  (34, (.getfield 213, 37, 6, 15, 0, 0, [], [841])),
  (37, (.putfield 213, 40, 6, 15, 0, 0, [], [841])),
  (40, (.return_, 41, 0, 0, 0, 0, [], []))]
def mX6_judges : hd_I := (RX6, yX6_judges, cX6_judges, 3, none, 1, pX6_judges)
def pX6_judged : List (Nat × hd_O) := [
  (0, (.aload_n 0, 1, 0, 0, 0, 0, [], [])),
  (1, (.getfield 210, 4, 6, 14, 0, 0, [], [840])),
  (4, (.bipush (-4), 6, 0, 0, (-4), 0, [], [])),
  (6, (.if_icmp .ne 8, 9, 14, 0, 0, 0, [], [])),
  (9, (.bipush (-4), 11, 0, 0, (-4), 0, [], [])),
  (11, (.goto 18, 14, 29, 0, 0, 0, [], [])),
  (14, (.iload_n 1, 15, 1, 0, 0, 0, [], [])),
  (15, (.ifCond .ne 10, 18, 25, 0, 0, 0, [], [])),
  (18, (.aload_n 0, 19, 0, 0, 0, 0, [], [])),
  (19, (.getfield 210, 22, 6, 14, 0, 0, [], [840])),
  (22, (.goto 7, 25, 29, 0, 0, 0, [], [])),
  (25, (.aload_n 0, 26, 0, 0, 0, 0, [], [])),
  (26, (.getfield 213, 29, 6, 15, 0, 0, [], [841])),
  (29, (.ireturn, 30, 0, 0, 0, 0, [], []))]
def mX6_judged : hd_I := (RX6, yX6_judged, cX6_judged, 2, (some .int), 1, pX6_judged)
def pX6_lays : List (Nat × hd_O) := [
  (0, (.iconst 0, 1, 0, 0, 0, 0, [], [])),
  (1, (.istore_n 3, 2, 3, 0, 0, 0, [], [])),
  (2, (.iload_n 3, 3, 3, 0, 0, 0, [], [])),
  (3, (.iconst 4, 4, 0, 0, 4, 0, [], [])),
  (4, (.if_icmp .ge 29, 7, 33, 0, 0, 0, [], [])),
  (7, (.aload_n 0, 8, 0, 0, 0, 0, [], [])),
  (8, (.getfield 13, 11, 6, 1, 0, 0, [], [827])),
  (11, (.iconst 4, 12, 0, 0, 4, 0, [], [])),
  (12, (.iload_n 1, 13, 1, 0, 0, 0, [], [])),
  (13, (.imul, 14, 0, 0, 0, 0, [], [])),
  (14, (.iload_n 3, 15, 3, 0, 0, 0, [], [])),
  (15, (.iadd, 16, 0, 0, 0, 0, [], [])),
  (16, (.aload_n 0, 17, 0, 0, 0, 0, [], [])),
  (17, (.getfield 7, 20, 6, 0, 0, 0, [], [826])),
  (20, (.iconst 4, 21, 0, 0, 4, 0, [], [])),
  (21, (.iload_n 2, 22, 2, 0, 0, 0, [], [])),
  (22, (.imul, 23, 0, 0, 0, 0, [], [])),
  (23, (.iload_n 3, 24, 3, 0, 0, 0, [], [])),
  (24, (.iadd, 25, 0, 0, 0, 0, [], [])),
  (25, (.iaload, 26, 0, 0, 0, 0, [], [])),
  (26, (.iastore, 27, 0, 0, 0, 0, [], [])),
  (27, (.iinc 3 1, 30, 3, 0, 1, 0, [], [])),
  (30, (.goto (-28), 33, 2, 0, 0, 0, [], [])),
  (33, (.return_, 34, 0, 0, 0, 0, [], []))]
def mX6_lays : hd_I := (RX6, yX6_lays, cX6_lays, 4, none, 1, pX6_lays)
def pX6_isRow : List (Nat × hd_O) := [
  (0, (.iload_n 1, 1, 1, 0, 0, 0, [], [])),
  (1, (.istore_n 2, 2, 2, 0, 0, 0, [], [])),
  (2, (.iconst 0, 3, 0, 0, 0, 0, [], [])),
  (3, (.istore_n 3, 4, 3, 0, 0, 0, [], [])),
  (4, (.aload_n 0, 5, 0, 0, 0, 0, [], [])),
  (5, (.getfield 7, 8, 6, 0, 0, 0, [], [826])),
  (8, (.bipush 28, 10, 0, 0, 28, 0, [], [])),
  (10, (.iaload, 11, 0, 0, 0, 0, [], [])),
  (11, (.iconst 1, 12, 0, 0, 1, 0, [], [])),
  (12, (.isub, 13, 0, 0, 0, 0, [], [])),
  (13, (.istore 4, 15, 4, 0, 0, 0, [], [])),
  (15, (.iload 4, 17, 4, 0, 0, 0, [], [])),
  (17, (.ifCond .lt 35, 20, 52, 0, 0, 0, [], [])),
  (20, (.aload_n 0, 21, 0, 0, 0, 0, [], [])),
  (21, (.getfield 26, 24, 6, 16, 0, 0, [], [842])),
  (24, (.iload 4, 26, 4, 0, 0, 0, [], [])),
  (26, (.iload_n 2, 27, 2, 0, 0, 0, [], [])),
  (27, (.iconst 5, 28, 0, 0, 5, 0, [], [])),
  (28, (.irem, 29, 0, 0, 0, 0, [], [])),
  (29, (.iastore, 30, 0, 0, 0, 0, [], [])),
  (30, (.iload_n 2, 31, 2, 0, 0, 0, [], [])),
  (31, (.iconst 5, 32, 0, 0, 5, 0, [], [])),
  (32, (.idiv, 33, 0, 0, 0, 0, [], [])),
  (33, (.istore_n 2, 34, 2, 0, 0, 0, [], [])),
  (34, (.iload_n 3, 35, 3, 0, 0, 0, [], [])),
  (35, (.iconst 1, 36, 0, 0, 1, 0, [], [])),
  (36, (.aload_n 0, 37, 0, 0, 0, 0, [], [])),
  (37, (.getfield 26, 40, 6, 16, 0, 0, [], [842])),
  (40, (.iload 4, 42, 4, 0, 0, 0, [], [])),
  (42, (.iaload, 43, 0, 0, 0, 0, [], [])),
  (43, (.ishl, 44, 0, 0, 0, 0, [], [])),
  (44, (.ior, 45, 0, 0, 0, 0, [], [])),
  (45, (.istore_n 3, 46, 3, 0, 0, 0, [], [])),
  (46, (.iinc 4 (-1), 49, 4, 0, (-1), 0, [], [])),
  (49, (.goto (-34), 52, 15, 0, 0, 0, [], [])),
  (52, (.iload_n 3, 53, 3, 0, 0, 0, [], [])),
  (53, (.iconst 1, 54, 0, 0, 1, 0, [], [])),
  (54, (.aload_n 0, 55, 0, 0, 0, 0, [], [])),
  (55, (.getfield 7, 58, 6, 0, 0, 0, [], [826])),
  (58, (.bipush 28, 60, 0, 0, 28, 0, [], [])),
  (60, (.iaload, 61, 0, 0, 0, 0, [], [])),
  (61, (.ishl, 62, 0, 0, 0, 0, [], [])),
  (62, (.iconst 1, 63, 0, 0, 1, 0, [], [])),
  (63, (.isub, 64, 0, 0, 0, 0, [], [])),
  (64, (.if_icmp .ne 7, 67, 71, 0, 0, 0, [], [])),
  (67, (.iconst 1, 68, 0, 0, 1, 0, [], [])),
  (68, (.goto 4, 71, 72, 0, 0, 0, [], [])),
  (71, (.iconst 0, 72, 0, 0, 0, 0, [], [])),
  (72, (.ireturn, 73, 0, 0, 0, 0, [], []))]
def mX6_isRow : hd_I := (RX6, yX6_isRow, cX6_isRow, 5, (some .boolean), 1, pX6_isRow)
def pX6_findOrder : List (Nat × hd_O) := [
  (0, (.iconst 1, 1, 0, 0, 1, 0, [], [])),
  (1, (.istore_n 1, 2, 1, 0, 0, 0, [], [])),
  (2, (.iconst 0, 3, 0, 0, 0, 0, [], [])),
  (3, (.istore_n 2, 4, 2, 0, 0, 0, [], [])),
  (4, (.iload_n 2, 5, 2, 0, 0, 0, [], [])),
  (5, (.aload_n 0, 6, 0, 0, 0, 0, [], [])),
  (6, (.getfield 7, 9, 6, 0, 0, 0, [], [826])),
  (9, (.bipush 28, 11, 0, 0, 28, 0, [], [])),
  (11, (.iaload, 12, 0, 0, 0, 0, [], [])),
  (12, (.if_icmp .ge 13, 15, 25, 0, 0, 0, [], [])),
  (15, (.iload_n 1, 16, 1, 0, 0, 0, [], [])),
  (16, (.iconst 5, 17, 0, 0, 5, 0, [], [])),
  (17, (.imul, 18, 0, 0, 0, 0, [], [])),
  (18, (.istore_n 1, 19, 1, 0, 0, 0, [], [])),
  (19, (.iinc 2 1, 22, 2, 0, 1, 0, [], [])),
  (22, (.goto (-18), 25, 4, 0, 0, 0, [], [])),
  (25, (.aload_n 0, 26, 0, 0, 0, 0, [], [])),
  (26, (.iconst (-1), 27, 0, 0, (-1), 0, [], [])),
  (27, (.invokevirtual 216, 30, 164, 2, 0, 0, [], [1116, 82, 1113, 1115, 63, 6])),
  (30, (.iconst 0, 31, 0, 0, 0, 0, [], [])),
  (31, (.istore_n 2, 32, 2, 0, 0, 0, [], [])),
  (32, (.iload_n 2, 33, 2, 0, 0, 0, [], [])),
  (33, (.iload_n 1, 34, 1, 0, 0, 0, [], [])),
  (34, (.if_icmp .ge 107, 37, 141, 0, 0, 0, [], [])),
  (37, (.aload_n 0, 38, 0, 0, 0, 0, [], [])),
  (38, (.iload_n 2, 39, 2, 0, 0, 0, [], [])),
  (39, (.invokevirtual 219, 42, 168, 2, 0, 0, [], [1120, 82, 1117, 1119, 64, 6])),
  (42, (.ifCond .eq 93, 45, 135, 0, 0, 0, [], [])),
  (45, (.aload_n 0, 46, 0, 0, 0, 0, [], [])),
  (46, (.invokevirtual 169, 49, 135, 1, 0, 0, [], [979, 82, 976, 978, 45, 6])),
  (49, (.iconst 0, 50, 0, 0, 0, 0, [], [])),
  (50, (.istore_n 3, 51, 3, 0, 0, 0, [], [])),
  (51, (.iload_n 3, 52, 3, 0, 0, 0, [], [])),
  (52, (.aload_n 0, 53, 0, 0, 0, 0, [], [])),
  (53, (.getfield 7, 56, 6, 0, 0, 0, [], [826])),
  (56, (.bipush 28, 58, 0, 0, 28, 0, [], [])),
  (58, (.iaload, 59, 0, 0, 0, 0, [], [])),
  (59, (.if_icmp .ge 20, 62, 79, 0, 0, 0, [], [])),
  (62, (.aload_n 0, 63, 0, 0, 0, 0, [], [])),
  (63, (.iload_n 3, 64, 3, 0, 0, 0, [], [])),
  (64, (.aload_n 0, 65, 0, 0, 0, 0, [], [])),
  (65, (.getfield 26, 68, 6, 16, 0, 0, [], [842])),
  (68, (.iload_n 3, 69, 3, 0, 0, 0, [], [])),
  (69, (.iaload, 70, 0, 0, 0, 0, [], [])),
  (70, (.invokevirtual 222, 73, 167, 3, 0, 0, [], [1124, 82, 1121, 1123, 65, 6])),
  (73, (.iinc 3 1, 76, 3, 0, 1, 0, [], [])),
  (76, (.goto (-25), 79, 51, 0, 0, 0, [], [])),
  (79, (.aload_n 0, 80, 0, 0, 0, 0, [], [])),
  (80, (.bipush 10, 82, 0, 0, 10, 0, [], [])),
  (82, (.invokevirtual 226, 85, 146, 2, 0, 0, [], [1128, 82, 1125, 1127, 66, 6])),
  (85, (.istore_n 3, 86, 3, 0, 0, 0, [], [])),
  (86, (.iconst 0, 87, 0, 0, 0, 0, [], [])),
  (87, (.istore 4, 89, 4, 0, 0, 0, [], [])),
  (89, (.iload 4, 91, 4, 0, 0, 0, [], [])),
  (91, (.aload_n 0, 92, 0, 0, 0, 0, [], [])),
  (92, (.getfield 7, 95, 6, 0, 0, 0, [], [826])),
  (95, (.bipush 28, 97, 0, 0, 28, 0, [], [])),
  (97, (.iaload, 98, 0, 0, 0, 0, [], [])),
  (98, (.if_icmp .ge 31, 101, 129, 0, 0, 0, [], [])),
  (101, (.iload_n 3, 102, 3, 0, 0, 0, [], [])),
  (102, (.aload_n 0, 103, 0, 0, 0, 0, [], [])),
  (103, (.getfield 213, 106, 6, 15, 0, 0, [], [841])),
  (106, (.if_icmp .le 23, 109, 129, 0, 0, 0, [], [])),
  (109, (.aload_n 0, 110, 0, 0, 0, 0, [], [])),
  (110, (.getfield 29, 113, 6, 17, 0, 0, [], [843])),
  (113, (.iload 4, 115, 4, 0, 0, 0, [], [])),
  (115, (.aload_n 0, 116, 0, 0, 0, 0, [], [])),
  (116, (.getfield 26, 119, 6, 16, 0, 0, [], [842])),
  (119, (.iload 4, 121, 4, 0, 0, 0, [], [])),
  (121, (.iaload, 122, 0, 0, 0, 0, [], [])),
  (122, (.iastore, 123, 0, 0, 0, 0, [], [])),
  (123, (.iinc 4 1, 126, 4, 0, 1, 0, [], [])),
  (126, (.goto (-37), 129, 89, 0, 0, 0, [], [])),
  (129, (.aload_n 0, 130, 0, 0, 0, 0, [], [])),
  (130, (.iload_n 2, 131, 2, 0, 0, 0, [], [])),
  (131, (.iload_n 3, 132, 3, 0, 0, 0, [], [])),
  (132, (.invokevirtual 229, 135, 165, 3, 0, 0, [], [1132, 82, 1129, 1131, 67, 6])),
  (135, (.iinc 2 1, 138, 2, 0, 1, 0, [], [])),
  (138, (.goto (-106), 141, 32, 0, 0, 0, [], [])),
  (141, (.aload_n 0, 142, 0, 0, 0, 0, [], [])),
  (142, (.getfield 213, 145, 6, 15, 0, 0, [], [841])),
  (145, (.ireturn, 146, 0, 0, 0, 0, [], []))]
def mX6_findOrder : hd_I := (RX6, yX6_findOrder, cX6_findOrder, 5, (some .int), 8, pX6_findOrder)
def pX6_order : List (Nat × hd_O) := [
  (0, (.iload_n 1, 1, 1, 0, 0, 0, [], [])),
  (1, (.ifCond .eq 19, 4, 20, 0, 0, 0, [], [])),
  (4, (.iload_n 1, 5, 1, 0, 0, 0, [], [])),
  (5, (.i2l, 6, 0, 0, 0, 0, [], [])),
  (6, (.ldc2_w 232, 9, 0, 0, 0, 10, [], [1107])),
  (9, (.ldc2_w 234, 12, 0, 0, 0, 14, [], [1108])),
  (12, (.invokestatic 65, 15, 114, 3, 0, 0, [], [919, 82, 917, 918])),
  (15, (.ifCond .ne 5, 18, 20, 0, 0, 0, [], [])),
  (18, (.iconst (-1), 19, 0, 0, (-1), 0, [], [])),
  (19, (.ireturn, 20, 0, 0, 0, 0, [], [])),
  (20, (.aload_n 0, 21, 0, 0, 0, 0, [], [])),
  (21, (.getfield 7, 24, 6, 0, 0, 0, [], [826])),
  (24, (.bipush 28, 26, 0, 0, 28, 0, [], [])),
  (26, (.iaload, 27, 0, 0, 0, 0, [], [])),
  (27, (.iconst 5, 28, 0, 0, 5, 0, [], [])),
  (28, (.if_icmp .gt 10, 31, 38, 0, 0, 0, [], [])),
  (31, (.aload_n 0, 32, 0, 0, 0, 0, [], [])),
  (32, (.invokevirtual 188, 35, 134, 1, 0, 0, [], [1044, 82, 1041, 1043, 54, 6])),
  (35, (.ifCond .ne 6, 38, 41, 0, 0, 0, [], [])),
  (38, (.bipush (-2), 40, 0, 0, (-2), 0, [], [])),
  (40, (.ireturn, 41, 0, 0, 0, 0, [], [])),
  (41, (.aload_n 0, 42, 0, 0, 0, 0, [], [])),
  (42, (.invokevirtual 236, 45, 169, 1, 0, 0, [], [1112, 82, 1109, 1111, 62, 6])),
  (45, (.istore_n 2, 46, 2, 0, 0, 0, [], [])),
  (46, (.iload_n 1, 47, 1, 0, 0, 0, [], [])),
  (47, (.ifCond .ne 7, 50, 54, 0, 0, 0, [], [])),
  (50, (.iload_n 2, 51, 2, 0, 0, 0, [], [])),
  (51, (.goto 31, 54, 82, 0, 0, 0, [], [])),
  (54, (.iload_n 1, 55, 1, 0, 0, 0, [], [])),
  (55, (.bipush 10, 57, 0, 0, 10, 0, [], [])),
  (57, (.isub, 58, 0, 0, 0, 0, [], [])),
  (58, (.aload_n 0, 59, 0, 0, 0, 0, [], [])),
  (59, (.getfield 7, 62, 6, 0, 0, 0, [], [826])),
  (62, (.bipush 28, 64, 0, 0, 28, 0, [], [])),
  (64, (.iaload, 65, 0, 0, 0, 0, [], [])),
  (65, (.if_icmp .ge 15, 68, 80, 0, 0, 0, [], [])),
  (68, (.aload_n 0, 69, 0, 0, 0, 0, [], [])),
  (69, (.getfield 29, 72, 6, 17, 0, 0, [], [843])),
  (72, (.iload_n 1, 73, 1, 0, 0, 0, [], [])),
  (73, (.bipush 10, 75, 0, 0, 10, 0, [], [])),
  (75, (.isub, 76, 0, 0, 0, 0, [], [])),
  (76, (.iaload, 77, 0, 0, 0, 0, [], [])),
  (77, (.goto 5, 80, 82, 0, 0, 0, [], [])),
  (80, (.bipush (-4), 82, 0, 0, (-4), 0, [], [])),
  (82, (.ireturn, 83, 0, 0, 0, 0, [], []))]
def mX6_order : hd_I := (RX6, yX6_order, cX6_order, 3, (some .int), 9, pX6_order)
def pX6_closes : List (Nat × hd_O) := [
  (0, (.iload_n 1, 1, 1, 0, 0, 0, [], [])),
  (1, (.istore_n 2, 2, 2, 0, 0, 0, [], [])),
  (2, (.iload_n 2, 3, 2, 0, 0, 0, [], [])),
  (3, (.aload_n 0, 4, 0, 0, 0, 0, [], [])),
  (4, (.getfield 7, 7, 6, 0, 0, 0, [], [826])),
  (7, (.bipush 28, 9, 0, 0, 28, 0, [], [])),
  (9, (.iaload, 10, 0, 0, 0, 0, [], [])),
  (10, (.iconst 1, 11, 0, 0, 1, 0, [], [])),
  (11, (.isub, 12, 0, 0, 0, 0, [], [])),
  (12, (.if_icmp .ge 17, 15, 29, 0, 0, 0, [], [])),
  (15, (.aload_n 0, 16, 0, 0, 0, 0, [], [])),
  (16, (.iload_n 2, 17, 2, 0, 0, 0, [], [])),
  (17, (.iload_n 2, 18, 2, 0, 0, 0, [], [])),
  (18, (.iconst 1, 19, 0, 0, 1, 0, [], [])),
  (19, (.iadd, 20, 0, 0, 0, 0, [], [])),
  (20, (.invokevirtual 222, 23, 167, 3, 0, 0, [], [1124, 82, 1121, 1123, 65, 6])),
  (23, (.iinc 2 1, 26, 2, 0, 1, 0, [], [])),
  (26, (.goto (-24), 29, 2, 0, 0, 0, [], [])),
  (29, (.return_, 30, 0, 0, 0, 0, [], []))]
def mX6_closes : hd_I := (RX6, yX6_closes, cX6_closes, 3, none, 2, pX6_closes)
def pX6_leave : List (Nat × hd_O) := [
  (0, (.iload_n 1, 1, 1, 0, 0, 0, [], [])),
  (1, (.invokestatic 202, 4, 159, 1, 0, 0, [], [1088, 82, 1086, 1087])),
  (4, (.ifCond .eq 10, 7, 14, 0, 0, 0, [], [])),
  (7, (.iload_n 2, 8, 2, 0, 0, 0, [], [])),
  (8, (.invokestatic 239, 11, 133, 1, 0, 0, [], [1139, 82, 1137, 1138])),
  (11, (.ifCond .ne 5, 14, 16, 0, 0, 0, [], [])),
  (14, (.iconst (-1), 15, 0, 0, (-1), 0, [], [])),
  (15, (.ireturn, 16, 0, 0, 0, 0, [], [])),
  (16, (.aload_n 0, 17, 0, 0, 0, 0, [], [])),
  (17, (.invokevirtual 188, 20, 134, 1, 0, 0, [], [1044, 82, 1041, 1043, 54, 6])),
  (20, (.ifCond .ne 6, 23, 26, 0, 0, 0, [], [])),
  (23, (.bipush (-2), 25, 0, 0, (-2), 0, [], [])),
  (25, (.ireturn, 26, 0, 0, 0, 0, [], [])),
  (26, (.aload_n 0, 27, 0, 0, 0, 0, [], [])),
  (27, (.invokevirtual 169, 30, 135, 1, 0, 0, [], [979, 82, 976, 978, 45, 6])),
  (30, (.aload_n 0, 31, 0, 0, 0, 0, [], [])),
  (31, (.aload_n 0, 32, 0, 0, 0, 0, [], [])),
  (32, (.iload_n 1, 33, 1, 0, 0, 0, [], [])),
  (33, (.invokevirtual 226, 36, 146, 2, 0, 0, [], [1128, 82, 1125, 1127, 66, 6])),
  (36, (.invokevirtual 216, 39, 164, 2, 0, 0, [], [1116, 82, 1113, 1115, 63, 6])),
  (39, (.iconst 0, 40, 0, 0, 0, 0, [], [])),
  (40, (.istore_n 3, 41, 3, 0, 0, 0, [], [])),
  (41, (.iload_n 3, 42, 3, 0, 0, 0, [], [])),
  (42, (.aload_n 0, 43, 0, 0, 0, 0, [], [])),
  (43, (.getfield 7, 46, 6, 0, 0, 0, [], [826])),
  (46, (.bipush 28, 48, 0, 0, 28, 0, [], [])),
  (48, (.iaload, 49, 0, 0, 0, 0, [], [])),
  (49, (.if_icmp .ge 50, 52, 99, 0, 0, 0, [], [])),
  (52, (.aload_n 0, 53, 0, 0, 0, 0, [], [])),
  (53, (.invokevirtual 169, 56, 135, 1, 0, 0, [], [979, 82, 976, 978, 45, 6])),
  (56, (.aload_n 0, 57, 0, 0, 0, 0, [], [])),
  (57, (.iload_n 3, 58, 3, 0, 0, 0, [], [])),
  (58, (.invokevirtual 242, 61, 171, 2, 0, 0, [], [1143, 82, 1140, 1142, 68, 6])),
  (61, (.aload_n 0, 62, 0, 0, 0, 0, [], [])),
  (62, (.getfield 13, 65, 6, 1, 0, 0, [], [827])),
  (65, (.bipush 28, 67, 0, 0, 28, 0, [], [])),
  (67, (.dup2, 68, 0, 0, 0, 0, [], [])),
  (68, (.iaload, 69, 0, 0, 0, 0, [], [])),
  (69, (.iconst 1, 70, 0, 0, 1, 0, [], [])),
  (70, (.isub, 71, 0, 0, 0, 0, [], [])),
  (71, (.iastore, 72, 0, 0, 0, 0, [], [])),
  (72, (.aload_n 0, 73, 0, 0, 0, 0, [], [])),
  (73, (.getfield 13, 76, 6, 1, 0, 0, [], [827])),
  (76, (.bipush 29, 78, 0, 0, 29, 0, [], [])),
  (78, (.dup2, 79, 0, 0, 0, 0, [], [])),
  (79, (.iaload, 80, 0, 0, 0, 0, [], [])),
  (80, (.iconst 1, 81, 0, 0, 1, 0, [], [])),
  (81, (.isub, 82, 0, 0, 0, 0, [], [])),
  (82, (.iastore, 83, 0, 0, 0, 0, [], [])),
  (83, (.aload_n 0, 84, 0, 0, 0, 0, [], [])),
  (84, (.iload_n 3, 85, 3, 0, 0, 0, [], [])),
  (85, (.aload_n 0, 86, 0, 0, 0, 0, [], [])),
  (86, (.iload_n 1, 87, 1, 0, 0, 0, [], [])),
  (87, (.invokevirtual 226, 90, 146, 2, 0, 0, [], [1128, 82, 1125, 1127, 66, 6])),
  (90, (.invokevirtual 229, 93, 165, 3, 0, 0, [], [1132, 82, 1129, 1131, 67, 6])),
  (93, (.iinc 3 1, 96, 3, 0, 1, 0, [], [])),
  (96, (.goto (-55), 99, 41, 0, 0, 0, [], [])),
  (99, (.aload_n 0, 100, 0, 0, 0, 0, [], [])),
  (100, (.iload_n 2, 101, 2, 0, 0, 0, [], [])),
  (101, (.invokevirtual 245, 104, 166, 2, 0, 0, [], [1147, 82, 1144, 1146, 69, 6])),
  (104, (.ireturn, 105, 0, 0, 0, 0, [], []))]
def mX6_leave : hd_I := (RX6, yX6_leave, cX6_leave, 4, (some .int), 8, pX6_leave)
def pX6_top : List (Nat × hd_O) := [
  (0, (.iload_n 1, 1, 1, 0, 0, 0, [], [])),
  (1, (.invokestatic 202, 4, 159, 1, 0, 0, [], [1088, 82, 1086, 1087])),
  (4, (.ifCond .eq 10, 7, 14, 0, 0, 0, [], [])),
  (7, (.iload_n 2, 8, 2, 0, 0, 0, [], [])),
  (8, (.invokestatic 239, 11, 133, 1, 0, 0, [], [1139, 82, 1137, 1138])),
  (11, (.ifCond .ne 5, 14, 16, 0, 0, 0, [], [])),
  (14, (.iconst (-1), 15, 0, 0, (-1), 0, [], [])),
  (15, (.ireturn, 16, 0, 0, 0, 0, [], [])),
  (16, (.aload_n 0, 17, 0, 0, 0, 0, [], [])),
  (17, (.invokevirtual 188, 20, 134, 1, 0, 0, [], [1044, 82, 1041, 1043, 54, 6])),
  (20, (.ifCond .ne 6, 23, 26, 0, 0, 0, [], [])),
  (23, (.bipush (-2), 25, 0, 0, (-2), 0, [], [])),
  (25, (.ireturn, 26, 0, 0, 0, 0, [], [])),
  (26, (.aload_n 0, 27, 0, 0, 0, 0, [], [])),
  (27, (.invokevirtual 169, 30, 135, 1, 0, 0, [], [979, 82, 976, 978, 45, 6])),
  (30, (.aload_n 0, 31, 0, 0, 0, 0, [], [])),
  (31, (.aload_n 0, 32, 0, 0, 0, 0, [], [])),
  (32, (.iload_n 1, 33, 1, 0, 0, 0, [], [])),
  (33, (.invokevirtual 226, 36, 146, 2, 0, 0, [], [1128, 82, 1125, 1127, 66, 6])),
  (36, (.invokevirtual 216, 39, 164, 2, 0, 0, [], [1116, 82, 1113, 1115, 63, 6])),
  (39, (.iconst 0, 40, 0, 0, 0, 0, [], [])),
  (40, (.istore_n 3, 41, 3, 0, 0, 0, [], [])),
  (41, (.iload_n 3, 42, 3, 0, 0, 0, [], [])),
  (42, (.aload_n 0, 43, 0, 0, 0, 0, [], [])),
  (43, (.getfield 7, 46, 6, 0, 0, 0, [], [826])),
  (46, (.bipush 28, 48, 0, 0, 28, 0, [], [])),
  (48, (.iaload, 49, 0, 0, 0, 0, [], [])),
  (49, (.if_icmp .ge 42, 52, 91, 0, 0, 0, [], [])),
  (52, (.aload_n 0, 53, 0, 0, 0, 0, [], [])),
  (53, (.invokevirtual 169, 56, 135, 1, 0, 0, [], [979, 82, 976, 978, 45, 6])),
  (56, (.aload_n 0, 57, 0, 0, 0, 0, [], [])),
  (57, (.iload_n 3, 58, 3, 0, 0, 0, [], [])),
  (58, (.invokevirtual 242, 61, 171, 2, 0, 0, [], [1143, 82, 1140, 1142, 68, 6])),
  (61, (.aload_n 0, 62, 0, 0, 0, 0, [], [])),
  (62, (.aload_n 0, 63, 0, 0, 0, 0, [], [])),
  (63, (.getfield 7, 66, 6, 0, 0, 0, [], [826])),
  (66, (.bipush 28, 68, 0, 0, 28, 0, [], [])),
  (68, (.iaload, 69, 0, 0, 0, 0, [], [])),
  (69, (.iconst 1, 70, 0, 0, 1, 0, [], [])),
  (70, (.isub, 71, 0, 0, 0, 0, [], [])),
  (71, (.iload_n 3, 72, 3, 0, 0, 0, [], [])),
  (72, (.invokevirtual 222, 75, 167, 3, 0, 0, [], [1124, 82, 1121, 1123, 65, 6])),
  (75, (.aload_n 0, 76, 0, 0, 0, 0, [], [])),
  (76, (.iload_n 3, 77, 3, 0, 0, 0, [], [])),
  (77, (.aload_n 0, 78, 0, 0, 0, 0, [], [])),
  (78, (.iload_n 1, 79, 1, 0, 0, 0, [], [])),
  (79, (.invokevirtual 226, 82, 146, 2, 0, 0, [], [1128, 82, 1125, 1127, 66, 6])),
  (82, (.invokevirtual 229, 85, 165, 3, 0, 0, [], [1132, 82, 1129, 1131, 67, 6])),
  (85, (.iinc 3 1, 88, 3, 0, 1, 0, [], [])),
  (88, (.goto (-47), 91, 41, 0, 0, 0, [], [])),
  (91, (.aload_n 0, 92, 0, 0, 0, 0, [], [])),
  (92, (.iload_n 2, 93, 2, 0, 0, 0, [], [])),
  (93, (.invokevirtual 245, 96, 166, 2, 0, 0, [], [1147, 82, 1144, 1146, 69, 6])),
  (96, (.ireturn, 97, 0, 0, 0, 0, [], []))]
def mX6_top : hd_I := (RX6, yX6_top, cX6_top, 4, (some .int), 8, pX6_top)
def pX6_swap : List (Nat × hd_O) := [
  (0, (.iload_n 1, 1, 1, 0, 0, 0, [], [])),
  (1, (.invokestatic 202, 4, 159, 1, 0, 0, [], [1088, 82, 1086, 1087])),
  (4, (.ifCond .eq 10, 7, 14, 0, 0, 0, [], [])),
  (7, (.iload_n 2, 8, 2, 0, 0, 0, [], [])),
  (8, (.invokestatic 239, 11, 133, 1, 0, 0, [], [1139, 82, 1137, 1138])),
  (11, (.ifCond .ne 5, 14, 16, 0, 0, 0, [], [])),
  (14, (.iconst (-1), 15, 0, 0, (-1), 0, [], [])),
  (15, (.ireturn, 16, 0, 0, 0, 0, [], [])),
  (16, (.aload_n 0, 17, 0, 0, 0, 0, [], [])),
  (17, (.invokevirtual 188, 20, 134, 1, 0, 0, [], [1044, 82, 1041, 1043, 54, 6])),
  (20, (.ifCond .ne 6, 23, 26, 0, 0, 0, [], [])),
  (23, (.bipush (-2), 25, 0, 0, (-2), 0, [], [])),
  (25, (.ireturn, 26, 0, 0, 0, 0, [], [])),
  (26, (.aload_n 0, 27, 0, 0, 0, 0, [], [])),
  (27, (.invokevirtual 169, 30, 135, 1, 0, 0, [], [979, 82, 976, 978, 45, 6])),
  (30, (.aload_n 0, 31, 0, 0, 0, 0, [], [])),
  (31, (.aload_n 0, 32, 0, 0, 0, 0, [], [])),
  (32, (.iload_n 1, 33, 1, 0, 0, 0, [], [])),
  (33, (.invokevirtual 226, 36, 146, 2, 0, 0, [], [1128, 82, 1125, 1127, 66, 6])),
  (36, (.invokevirtual 216, 39, 164, 2, 0, 0, [], [1116, 82, 1113, 1115, 63, 6])),
  (39, (.iconst 0, 40, 0, 0, 0, 0, [], [])),
  (40, (.istore_n 3, 41, 3, 0, 0, 0, [], [])),
  (41, (.iload_n 3, 42, 3, 0, 0, 0, [], [])),
  (42, (.aload_n 0, 43, 0, 0, 0, 0, [], [])),
  (43, (.getfield 7, 46, 6, 0, 0, 0, [], [826])),
  (46, (.bipush 28, 48, 0, 0, 28, 0, [], [])),
  (48, (.iaload, 49, 0, 0, 0, 0, [], [])),
  (49, (.if_icmp .ge 66, 52, 115, 0, 0, 0, [], [])),
  (52, (.iload_n 3, 53, 3, 0, 0, 0, [], [])),
  (53, (.iconst 1, 54, 0, 0, 1, 0, [], [])),
  (54, (.iadd, 55, 0, 0, 0, 0, [], [])),
  (55, (.istore 4, 57, 4, 0, 0, 0, [], [])),
  (57, (.iload 4, 59, 4, 0, 0, 0, [], [])),
  (59, (.aload_n 0, 60, 0, 0, 0, 0, [], [])),
  (60, (.getfield 7, 63, 6, 0, 0, 0, [], [826])),
  (63, (.bipush 28, 65, 0, 0, 28, 0, [], [])),
  (65, (.iaload, 66, 0, 0, 0, 0, [], [])),
  (66, (.if_icmp .ge 43, 69, 109, 0, 0, 0, [], [])),
  (69, (.aload_n 0, 70, 0, 0, 0, 0, [], [])),
  (70, (.invokevirtual 169, 73, 135, 1, 0, 0, [], [979, 82, 976, 978, 45, 6])),
  (73, (.aload_n 0, 74, 0, 0, 0, 0, [], [])),
  (74, (.iload_n 3, 75, 3, 0, 0, 0, [], [])),
  (75, (.iload 4, 77, 4, 0, 0, 0, [], [])),
  (77, (.invokevirtual 222, 80, 167, 3, 0, 0, [], [1124, 82, 1121, 1123, 65, 6])),
  (80, (.aload_n 0, 81, 0, 0, 0, 0, [], [])),
  (81, (.iload 4, 83, 4, 0, 0, 0, [], [])),
  (83, (.iload_n 3, 84, 3, 0, 0, 0, [], [])),
  (84, (.invokevirtual 222, 87, 167, 3, 0, 0, [], [1124, 82, 1121, 1123, 65, 6])),
  (87, (.aload_n 0, 88, 0, 0, 0, 0, [], [])),
  (88, (.bipush 10, 90, 0, 0, 10, 0, [], [])),
  (90, (.iload_n 3, 91, 3, 0, 0, 0, [], [])),
  (91, (.imul, 92, 0, 0, 0, 0, [], [])),
  (92, (.iload 4, 94, 4, 0, 0, 0, [], [])),
  (94, (.iadd, 95, 0, 0, 0, 0, [], [])),
  (95, (.aload_n 0, 96, 0, 0, 0, 0, [], [])),
  (96, (.iload_n 1, 97, 1, 0, 0, 0, [], [])),
  (97, (.invokevirtual 226, 100, 146, 2, 0, 0, [], [1128, 82, 1125, 1127, 66, 6])),
  (100, (.invokevirtual 229, 103, 165, 3, 0, 0, [], [1132, 82, 1129, 1131, 67, 6])),
  (103, (.iinc 4 1, 106, 4, 0, 1, 0, [], [])),
  (106, (.goto (-49), 109, 57, 0, 0, 0, [], [])),
  (109, (.iinc 3 1, 112, 3, 0, 1, 0, [], [])),
  (112, (.goto (-71), 115, 41, 0, 0, 0, [], [])),
  (115, (.aload_n 0, 116, 0, 0, 0, 0, [], [])),
  (116, (.iload_n 2, 117, 2, 0, 0, 0, [], [])),
  (117, (.invokevirtual 245, 120, 166, 2, 0, 0, [], [1147, 82, 1144, 1146, 69, 6])),
  (120, (.ireturn, 121, 0, 0, 0, 0, [], []))]
def mX6_swap : hd_I := (RX6, yX6_swap, cX6_swap, 5, (some .int), 8, pX6_swap)
def pX6_need : List (Nat × hd_O) := [
  (0, (.aload_n 0, 1, 0, 0, 0, 0, [], [])),
  (1, (.iload_n 1, 2, 1, 0, 0, 0, [], [])),
  (2, (.invokevirtual 175, 5, 131, 2, 0, 0, [], [1010, 82, 1007, 1009, 51, 6])),
  (5, (.ifCond .eq 17, 8, 22, 0, 0, 0, [], [])),
  (8, (.iload_n 2, 9, 2, 0, 0, 0, [], [])),
  (9, (.invokestatic 202, 12, 159, 1, 0, 0, [], [1088, 82, 1086, 1087])),
  (12, (.ifCond .eq 10, 15, 22, 0, 0, 0, [], [])),
  (15, (.iload_n 3, 16, 3, 0, 0, 0, [], [])),
  (16, (.invokestatic 185, 19, 132, 1, 0, 0, [], [1031, 82, 1029, 1030])),
  (19, (.ifCond .ne 5, 22, 24, 0, 0, 0, [], [])),
  (22, (.iconst (-1), 23, 0, 0, (-1), 0, [], [])),
  (23, (.ireturn, 24, 0, 0, 0, 0, [], [])),
  (24, (.iconst 0, 25, 0, 0, 0, 0, [], [])),
  (25, (.istore 4, 27, 4, 0, 0, 0, [], [])),
  (27, (.iload 4, 29, 4, 0, 0, 0, [], [])),
  (29, (.bipush 9, 31, 0, 0, 9, 0, [], [])),
  (31, (.if_icmp .gt 33, 34, 64, 0, 0, 0, [], [])),
  (34, (.aload_n 0, 35, 0, 0, 0, 0, [], [])),
  (35, (.invokevirtual 169, 38, 135, 1, 0, 0, [], [979, 82, 976, 978, 45, 6])),
  (38, (.aload_n 0, 39, 0, 0, 0, 0, [], [])),
  (39, (.iload_n 1, 40, 1, 0, 0, 0, [], [])),
  (40, (.iconst 1, 41, 0, 0, 1, 0, [], [])),
  (41, (.iload 4, 43, 4, 0, 0, 0, [], [])),
  (43, (.invokevirtual 151, 46, 138, 4, 0, 0, [], [1056, 82, 1053, 1055, 56, 6])),
  (46, (.aload_n 0, 47, 0, 0, 0, 0, [], [])),
  (47, (.iload_n 2, 48, 2, 0, 0, 0, [], [])),
  (48, (.invokevirtual 226, 51, 146, 2, 0, 0, [], [1128, 82, 1125, 1127, 66, 6])),
  (51, (.iload_n 3, 52, 3, 0, 0, 0, [], [])),
  (52, (.if_icmp .lt 6, 55, 58, 0, 0, 0, [], [])),
  (55, (.iload 4, 57, 4, 0, 0, 0, [], [])),
  (57, (.ireturn, 58, 0, 0, 0, 0, [], [])),
  (58, (.iinc 4 1, 61, 4, 0, 1, 0, [], [])),
  (61, (.goto (-34), 64, 27, 0, 0, 0, [], [])),
  (64, (.bipush (-4), 66, 0, 0, (-4), 0, [], [])),
  (66, (.ireturn, 67, 0, 0, 0, 0, [], []))]
def mX6_need : hd_I := (RX6, yX6_need, cX6_need, 5, (some .int), 8, pX6_need)
def pX6_kind : List (Nat × hd_O) := [
  (0, (.aload_n 0, 1, 0, 0, 0, 0, [], [])),
  (1, (.iload_n 1, 2, 1, 0, 0, 0, [], [])),
  (2, (.invokevirtual 175, 5, 131, 2, 0, 0, [], [1010, 82, 1007, 1009, 51, 6])),
  (5, (.ifCond .eq 17, 8, 22, 0, 0, 0, [], [])),
  (8, (.iload_n 2, 9, 2, 0, 0, 0, [], [])),
  (9, (.invokestatic 202, 12, 159, 1, 0, 0, [], [1088, 82, 1086, 1087])),
  (12, (.ifCond .eq 10, 15, 22, 0, 0, 0, [], [])),
  (15, (.iload_n 3, 16, 3, 0, 0, 0, [], [])),
  (16, (.invokestatic 239, 19, 133, 1, 0, 0, [], [1139, 82, 1137, 1138])),
  (19, (.ifCond .ne 5, 22, 24, 0, 0, 0, [], [])),
  (22, (.iconst (-1), 23, 0, 0, (-1), 0, [], [])),
  (23, (.ireturn, 24, 0, 0, 0, 0, [], [])),
  (24, (.aload_n 0, 25, 0, 0, 0, 0, [], [])),
  (25, (.iconst (-1), 26, 0, 0, (-1), 0, [], [])),
  (26, (.invokevirtual 216, 29, 164, 2, 0, 0, [], [1116, 82, 1113, 1115, 63, 6])),
  (29, (.iconst 0, 30, 0, 0, 0, 0, [], [])),
  (30, (.istore 4, 32, 4, 0, 0, 0, [], [])),
  (32, (.iload 4, 34, 4, 0, 0, 0, [], [])),
  (34, (.iconst 4, 35, 0, 0, 4, 0, [], [])),
  (35, (.if_icmp .ge 32, 38, 67, 0, 0, 0, [], [])),
  (38, (.aload_n 0, 39, 0, 0, 0, 0, [], [])),
  (39, (.invokevirtual 169, 42, 135, 1, 0, 0, [], [979, 82, 976, 978, 45, 6])),
  (42, (.aload_n 0, 43, 0, 0, 0, 0, [], [])),
  (43, (.iload_n 1, 44, 1, 0, 0, 0, [], [])),
  (44, (.iconst 0, 45, 0, 0, 0, 0, [], [])),
  (45, (.iload 4, 47, 4, 0, 0, 0, [], [])),
  (47, (.invokevirtual 151, 50, 138, 4, 0, 0, [], [1056, 82, 1053, 1055, 56, 6])),
  (50, (.aload_n 0, 51, 0, 0, 0, 0, [], [])),
  (51, (.iload 4, 53, 4, 0, 0, 0, [], [])),
  (53, (.aload_n 0, 54, 0, 0, 0, 0, [], [])),
  (54, (.iload_n 2, 55, 2, 0, 0, 0, [], [])),
  (55, (.invokevirtual 226, 58, 146, 2, 0, 0, [], [1128, 82, 1125, 1127, 66, 6])),
  (58, (.invokevirtual 229, 61, 165, 3, 0, 0, [], [1132, 82, 1129, 1131, 67, 6])),
  (61, (.iinc 4 1, 64, 4, 0, 1, 0, [], [])),
  (64, (.goto (-32), 67, 32, 0, 0, 0, [], [])),
  (67, (.aload_n 0, 68, 0, 0, 0, 0, [], [])),
  (68, (.iload_n 3, 69, 3, 0, 0, 0, [], [])),
  (69, (.invokevirtual 245, 72, 166, 2, 0, 0, [], [1147, 82, 1144, 1146, 69, 6])),
  (72, (.ireturn, 73, 0, 0, 0, 0, [], []))]
def mX6_kind : hd_I := (RX6, yX6_kind, cX6_kind, 5, (some .int), 8, pX6_kind)
def pX6_bear : List (Nat × hd_O) := [
  (0, (.iload_n 1, 1, 1, 0, 0, 0, [], [])),
  (1, (.invokestatic 202, 4, 159, 1, 0, 0, [], [1088, 82, 1086, 1087])),
  (4, (.ifCond .eq 10, 7, 14, 0, 0, 0, [], [])),
  (7, (.iload_n 2, 8, 2, 0, 0, 0, [], [])),
  (8, (.invokestatic 185, 11, 132, 1, 0, 0, [], [1031, 82, 1029, 1030])),
  (11, (.ifCond .ne 5, 14, 16, 0, 0, 0, [], [])),
  (14, (.iconst (-1), 15, 0, 0, (-1), 0, [], [])),
  (15, (.ireturn, 16, 0, 0, 0, 0, [], [])),
  (16, (.bipush 9, 18, 0, 0, 9, 0, [], [])),
  (18, (.istore_n 3, 19, 3, 0, 0, 0, [], [])),
  (19, (.iload_n 3, 20, 3, 0, 0, 0, [], [])),
  (20, (.ifCond .lt 32, 23, 52, 0, 0, 0, [], [])),
  (23, (.aload_n 0, 24, 0, 0, 0, 0, [], [])),
  (24, (.invokevirtual 169, 27, 135, 1, 0, 0, [], [979, 82, 976, 978, 45, 6])),
  (27, (.aload_n 0, 28, 0, 0, 0, 0, [], [])),
  (28, (.getfield 13, 31, 6, 1, 0, 0, [], [827])),
  (31, (.bipush 31, 33, 0, 0, 31, 0, [], [])),
  (33, (.iload_n 3, 34, 3, 0, 0, 0, [], [])),
  (34, (.iastore, 35, 0, 0, 0, 0, [], [])),
  (35, (.aload_n 0, 36, 0, 0, 0, 0, [], [])),
  (36, (.iload_n 1, 37, 1, 0, 0, 0, [], [])),
  (37, (.invokevirtual 226, 40, 146, 2, 0, 0, [], [1128, 82, 1125, 1127, 66, 6])),
  (40, (.iload_n 2, 41, 2, 0, 0, 0, [], [])),
  (41, (.if_icmp .lt 5, 44, 46, 0, 0, 0, [], [])),
  (44, (.iload_n 3, 45, 3, 0, 0, 0, [], [])),
  (45, (.ireturn, 46, 0, 0, 0, 0, [], [])),
  (46, (.iinc 3 (-1), 49, 3, 0, (-1), 0, [], [])),
  (49, (.goto (-30), 52, 19, 0, 0, 0, [], [])),
  (52, (.bipush (-4), 54, 0, 0, (-4), 0, [], [])),
  (54, (.ireturn, 55, 0, 0, 0, 0, [], []))]
def mX6_bear : hd_I := (RX6, yX6_bear, cX6_bear, 4, (some .int), 8, pX6_bear)
def pX6_common : List (Nat × hd_O) := [
  (0, (.lload_n 0, 1, 0, 0, 0, 0, [], [])),
  (1, (.lstore 4, 3, 4, 0, 0, 0, [], [])),
  (3, (.lload_n 2, 4, 2, 0, 0, 0, [], [])),
  (4, (.lstore 6, 6, 6, 0, 0, 0, [], [])),
  (6, (.lload 6, 8, 6, 0, 0, 0, [], [])),
  (8, (.lconst 0, 9, 0, 0, 0, 0, [], [])),
  (9, (.lcmp, 10, 0, 0, 0, 0, [], [])),
  (10, (.ifCond .eq 21, 13, 31, 0, 0, 0, [], [])),
  (13, (.lload 4, 15, 4, 0, 0, 0, [], [])),
  (15, (.lload 6, 17, 6, 0, 0, 0, [], [])),
  (17, (.lrem, 18, 0, 0, 0, 0, [], [])),
  (18, (.lstore 8, 20, 8, 0, 0, 0, [], [])),
  (20, (.lload 6, 22, 6, 0, 0, 0, [], [])),
  (22, (.lstore 4, 24, 4, 0, 0, 0, [], [])),
  (24, (.lload 8, 26, 8, 0, 0, 0, [], [])),
  (26, (.lstore 6, 28, 6, 0, 0, 0, [], [])),
  (28, (.goto (-22), 31, 6, 0, 0, 0, [], [])),
  (31, (.lload 4, 33, 4, 0, 0, 0, [], [])),
  (33, (.lreturn, 34, 0, 0, 0, 0, [], []))]
def mX6_common : hd_I := (RX6, yX6_common, cX6_common, 10, (some .long), 1, pX6_common)
def pX6_told : List (Nat × hd_O) := [
  (0, (.lload_n 2, 1, 2, 0, 0, 0, [], [])),
  (1, (.lload_n 0, 2, 0, 0, 0, 0, [], [])),
  (2, (.invokestatic 248, 5, 178, 2, 0, 0, [], [1183, 82, 1181, 1182])),
  (5, (.lstore 5, 7, 5, 0, 0, 0, [], [])),
  (7, (.iload 4, 9, 4, 0, 0, 0, [], [])),
  (9, (.ifCond .ne 10, 12, 19, 0, 0, 0, [], [])),
  (12, (.lload_n 0, 13, 0, 0, 0, 0, [], [])),
  (13, (.lload 5, 15, 5, 0, 0, 0, [], [])),
  (15, (.ldiv, 16, 0, 0, 0, 0, [], [])),
  (16, (.goto 7, 19, 23, 0, 0, 0, [], [])),
  (19, (.lload_n 2, 20, 2, 0, 0, 0, [], [])),
  (20, (.lload 5, 22, 5, 0, 0, 0, [], [])),
  (22, (.ldiv, 23, 0, 0, 0, 0, [], [])),
  (23, (.lreturn, 24, 0, 0, 0, 0, [], []))]
def mX6_told : hd_I := (RX6, yX6_told, cX6_told, 7, (some .long), 2, pX6_told)
def pX6_findOdds : List (Nat × hd_O) := [
  (0, (.aload_n 0, 1, 0, 0, 0, 0, [], [])),
  (1, (.lconst 0, 2, 0, 0, 0, 0, [], [])),
  (2, (.putfield 252, 5, 6, 18, 2, 0, [], [844])),
  (5, (.aload_n 0, 6, 0, 0, 0, 0, [], [])),
  (6, (.lconst 0, 7, 0, 0, 0, 0, [], [])),
  (7, (.putfield 256, 10, 6, 19, 2, 0, [], [845])),
  (10, (.aload_n 0, 11, 0, 0, 0, 0, [], [])),
  (11, (.lconst 1, 12, 0, 0, 0, 1, [], [])),
  (12, (.putfield 259, 15, 6, 20, 2, 0, [], [846])),
  (15, (.iconst 0, 16, 0, 0, 0, 0, [], [])),
  (16, (.istore 4, 18, 4, 0, 0, 0, [], [])),
  (18, (.iload 4, 20, 4, 0, 0, 0, [], [])),
  (20, (.iload_n 2, 21, 2, 0, 0, 0, [], [])),
  (21, (.if_icmp .ge 21, 24, 42, 0, 0, 0, [], [])),
  (24, (.aload_n 0, 25, 0, 0, 0, 0, [], [])),
  (25, (.dup, 26, 0, 0, 0, 0, [], [])),
  (26, (.getfield 259, 29, 6, 20, 0, 0, [], [846])),
  (29, (.ldc2_w 232, 32, 0, 0, 0, 10, [], [1107])),
  (32, (.lmul, 33, 0, 0, 0, 0, [], [])),
  (33, (.putfield 259, 36, 6, 20, 2, 0, [], [846])),
  (36, (.iinc 4 1, 39, 4, 0, 1, 0, [], [])),
  (39, (.goto (-21), 42, 18, 0, 0, 0, [], [])),
  (42, (.iconst 0, 43, 0, 0, 0, 0, [], [])),
  (43, (.istore 4, 45, 4, 0, 0, 0, [], [])),
  (45, (.iload 4, 47, 4, 0, 0, 0, [], [])),
  (47, (.iconst 1, 48, 0, 0, 1, 0, [], [])),
  (48, (.iload_n 2, 49, 2, 0, 0, 0, [], [])),
  (49, (.ishl, 50, 0, 0, 0, 0, [], [])),
  (50, (.if_icmp .ge 121, 53, 171, 0, 0, 0, [], [])),
  (53, (.lconst 1, 54, 0, 0, 0, 1, [], [])),
  (54, (.lstore 5, 56, 5, 0, 0, 0, [], [])),
  (56, (.aload_n 0, 57, 0, 0, 0, 0, [], [])),
  (57, (.invokevirtual 169, 60, 135, 1, 0, 0, [], [979, 82, 976, 978, 45, 6])),
  (60, (.iconst 0, 61, 0, 0, 0, 0, [], [])),
  (61, (.istore 7, 63, 7, 0, 0, 0, [], [])),
  (63, (.iload 7, 65, 7, 0, 0, 0, [], [])),
  (65, (.iload_n 2, 66, 2, 0, 0, 0, [], [])),
  (66, (.if_icmp .ge 53, 69, 119, 0, 0, 0, [], [])),
  (69, (.iload 4, 71, 4, 0, 0, 0, [], [])),
  (71, (.iload 7, 73, 7, 0, 0, 0, [], [])),
  (73, (.ishr, 74, 0, 0, 0, 0, [], [])),
  (74, (.iconst 1, 75, 0, 0, 1, 0, [], [])),
  (75, (.iand, 76, 0, 0, 0, 0, [], [])),
  (76, (.iconst 1, 77, 0, 0, 1, 0, [], [])),
  (77, (.if_icmp .ne 7, 80, 84, 0, 0, 0, [], [])),
  (80, (.iconst 1, 81, 0, 0, 1, 0, [], [])),
  (81, (.goto 4, 84, 85, 0, 0, 0, [], [])),
  (84, (.iconst 0, 85, 0, 0, 0, 0, [], [])),
  (85, (.istore 8, 87, 8, 0, 0, 0, [], [])),
  (87, (.lload 5, 89, 5, 0, 0, 0, [], [])),
  (89, (.iload 8, 91, 8, 0, 0, 0, [], [])),
  (91, (.ifCond .eq 8, 94, 99, 0, 0, 0, [], [])),
  (94, (.iload_n 1, 95, 1, 0, 0, 0, [], [])),
  (95, (.i2l, 96, 0, 0, 0, 0, [], [])),
  (96, (.goto 8, 99, 104, 0, 0, 0, [], [])),
  (99, (.bipush 10, 101, 0, 0, 10, 0, [], [])),
  (101, (.iload_n 1, 102, 1, 0, 0, 0, [], [])),
  (102, (.isub, 103, 0, 0, 0, 0, [], [])),
  (103, (.i2l, 104, 0, 0, 0, 0, [], [])),
  (104, (.lmul, 105, 0, 0, 0, 0, [], [])),
  (105, (.lstore 5, 107, 5, 0, 0, 0, [], [])),
  (107, (.aload_n 0, 108, 0, 0, 0, 0, [], [])),
  (108, (.iload 8, 110, 8, 0, 0, 0, [], [])),
  (110, (.invokevirtual 158, 113, 144, 2, 0, 0, [], [1077, 82, 1074, 1076, 59, 6])),
  (113, (.iinc 7 1, 116, 7, 0, 1, 0, [], [])),
  (116, (.goto (-53), 119, 63, 0, 0, 0, [], [])),
  (119, (.aload_n 0, 120, 0, 0, 0, 0, [], [])),
  (120, (.dup, 121, 0, 0, 0, 0, [], [])),
  (121, (.getfield 252, 124, 6, 18, 0, 0, [], [844])),
  (124, (.aload_n 0, 125, 0, 0, 0, 0, [], [])),
  (125, (.getfield 13, 128, 6, 1, 0, 0, [], [827])),
  (128, (.bipush 30, 130, 0, 0, 30, 0, [], [])),
  (130, (.iaload, 131, 0, 0, 0, 0, [], [])),
  (131, (.iload_n 3, 132, 3, 0, 0, 0, [], [])),
  (132, (.if_icmp .lt 8, 135, 140, 0, 0, 0, [], [])),
  (135, (.lload 5, 137, 5, 0, 0, 0, [], [])),
  (137, (.goto 4, 140, 141, 0, 0, 0, [], [])),
  (140, (.lconst 0, 141, 0, 0, 0, 0, [], [])),
  (141, (.ladd, 142, 0, 0, 0, 0, [], [])),
  (142, (.putfield 252, 145, 6, 18, 2, 0, [], [844])),
  (145, (.aload_n 0, 146, 0, 0, 0, 0, [], [])),
  (146, (.dup, 147, 0, 0, 0, 0, [], [])),
  (147, (.getfield 256, 150, 6, 19, 0, 0, [], [845])),
  (150, (.lload 5, 152, 5, 0, 0, 0, [], [])),
  (152, (.aload_n 0, 153, 0, 0, 0, 0, [], [])),
  (153, (.getfield 13, 156, 6, 1, 0, 0, [], [827])),
  (156, (.bipush 30, 158, 0, 0, 30, 0, [], [])),
  (158, (.iaload, 159, 0, 0, 0, 0, [], [])),
  (159, (.i2l, 160, 0, 0, 0, 0, [], [])),
  (160, (.lmul, 161, 0, 0, 0, 0, [], [])),
  (161, (.ladd, 162, 0, 0, 0, 0, [], [])),
  (162, (.putfield 256, 165, 6, 19, 2, 0, [], [845])),
  (165, (.iinc 4 1, 168, 4, 0, 1, 0, [], [])),
  (168, (.goto (-123), 171, 45, 0, 0, 0, [], [])),
  (171, (.return_, 172, 0, 0, 0, 0, [], []))]
def mX6_findOdds : hd_I := (RX6, yX6_findOdds, cX6_findOdds, 9, none, 6, pX6_findOdds)
def pX6_luck : List (Nat × hd_O) := [
  (0, (.iload_n 1, 1, 1, 0, 0, 0, [], [])),
  (1, (.i2l, 2, 0, 0, 0, 0, [], [])),
  (2, (.lconst 0, 3, 0, 0, 0, 0, [], [])),
  (3, (.ldc2_w 232, 6, 0, 0, 0, 10, [], [1107])),
  (6, (.invokestatic 65, 9, 114, 3, 0, 0, [], [919, 82, 917, 918])),
  (9, (.ifCond .eq 30, 12, 39, 0, 0, 0, [], [])),
  (12, (.iload_n 2, 13, 2, 0, 0, 0, [], [])),
  (13, (.i2l, 14, 0, 0, 0, 0, [], [])),
  (14, (.lconst 0, 15, 0, 0, 0, 0, [], [])),
  (15, (.ldc2_w 262, 18, 0, 0, 0, 8, [], [1172])),
  (18, (.invokestatic 65, 21, 114, 3, 0, 0, [], [919, 82, 917, 918])),
  (21, (.ifCond .eq 18, 24, 39, 0, 0, 0, [], [])),
  (24, (.iload_n 3, 25, 3, 0, 0, 0, [], [])),
  (25, (.invokestatic 185, 28, 132, 1, 0, 0, [], [1031, 82, 1029, 1030])),
  (28, (.ifCond .eq 11, 31, 39, 0, 0, 0, [], [])),
  (31, (.iload 4, 33, 4, 0, 0, 0, [], [])),
  (33, (.invokestatic 239, 36, 133, 1, 0, 0, [], [1139, 82, 1137, 1138])),
  (36, (.ifCond .ne 7, 39, 43, 0, 0, 0, [], [])),
  (39, (.ldc2_w 264, 42, 0, 0, 0, (-1), [], [1173])),
  (42, (.lreturn, 43, 0, 0, 0, 0, [], [])),
  (43, (.aload_n 0, 44, 0, 0, 0, 0, [], [])),
  (44, (.iload_n 1, 45, 1, 0, 0, 0, [], [])),
  (45, (.iload_n 2, 46, 2, 0, 0, 0, [], [])),
  (46, (.iload_n 3, 47, 3, 0, 0, 0, [], [])),
  (47, (.invokevirtual 266, 50, 180, 4, 0, 0, [], [1177, 82, 1174, 1176, 70, 6])),
  (50, (.aload_n 0, 51, 0, 0, 0, 0, [], [])),
  (51, (.getfield 252, 54, 6, 18, 0, 0, [], [844])),
  (54, (.aload_n 0, 55, 0, 0, 0, 0, [], [])),
  (55, (.getfield 259, 58, 6, 20, 0, 0, [], [846])),
  (58, (.iload 4, 60, 4, 0, 0, 0, [], [])),
  (60, (.invokestatic 269, 63, 179, 3, 0, 0, [], [1180, 82, 1178, 1179])),
  (63, (.lreturn, 64, 0, 0, 0, 0, [], []))]
def mX6_luck : hd_I := (RX6, yX6_luck, cX6_luck, 5, (some .long), 7, pX6_luck)
def pX6_mean : List (Nat × hd_O) := [
  (0, (.iload_n 1, 1, 1, 0, 0, 0, [], [])),
  (1, (.i2l, 2, 0, 0, 0, 0, [], [])),
  (2, (.lconst 0, 3, 0, 0, 0, 0, [], [])),
  (3, (.ldc2_w 232, 6, 0, 0, 0, 10, [], [1107])),
  (6, (.invokestatic 65, 9, 114, 3, 0, 0, [], [919, 82, 917, 918])),
  (9, (.ifCond .eq 22, 12, 31, 0, 0, 0, [], [])),
  (12, (.iload_n 2, 13, 2, 0, 0, 0, [], [])),
  (13, (.i2l, 14, 0, 0, 0, 0, [], [])),
  (14, (.lconst 0, 15, 0, 0, 0, 0, [], [])),
  (15, (.ldc2_w 262, 18, 0, 0, 0, 8, [], [1172])),
  (18, (.invokestatic 65, 21, 114, 3, 0, 0, [], [919, 82, 917, 918])),
  (21, (.ifCond .eq 10, 24, 31, 0, 0, 0, [], [])),
  (24, (.iload_n 3, 25, 3, 0, 0, 0, [], [])),
  (25, (.invokestatic 239, 28, 133, 1, 0, 0, [], [1139, 82, 1137, 1138])),
  (28, (.ifCond .ne 7, 31, 35, 0, 0, 0, [], [])),
  (31, (.ldc2_w 264, 34, 0, 0, 0, (-1), [], [1173])),
  (34, (.lreturn, 35, 0, 0, 0, 0, [], [])),
  (35, (.aload_n 0, 36, 0, 0, 0, 0, [], [])),
  (36, (.iload_n 1, 37, 1, 0, 0, 0, [], [])),
  (37, (.iload_n 2, 38, 2, 0, 0, 0, [], [])),
  (38, (.iconst 0, 39, 0, 0, 0, 0, [], [])),
  (39, (.invokevirtual 266, 42, 180, 4, 0, 0, [], [1177, 82, 1174, 1176, 70, 6])),
  (42, (.aload_n 0, 43, 0, 0, 0, 0, [], [])),
  (43, (.getfield 256, 46, 6, 19, 0, 0, [], [845])),
  (46, (.aload_n 0, 47, 0, 0, 0, 0, [], [])),
  (47, (.getfield 259, 50, 6, 20, 0, 0, [], [846])),
  (50, (.iload_n 3, 51, 3, 0, 0, 0, [], [])),
  (51, (.invokestatic 269, 54, 179, 3, 0, 0, [], [1180, 82, 1178, 1179])),
  (54, (.lreturn, 55, 0, 0, 0, 0, [], []))]
def mX6_mean : hd_I := (RX6, yX6_mean, cX6_mean, 4, (some .long), 7, pX6_mean)
def pX6_see : List (Nat × hd_O) := [
  (0, (.iload_n 1, 1, 1, 0, 0, 0, [], [])),
  (1, (.i2l, 2, 0, 0, 0, 0, [], [])),
  (2, (.lconst 0, 3, 0, 0, 0, 0, [], [])),
  (3, (.ldc2_w 273, 6, 0, 0, 0, 20, [], [1192])),
  (6, (.invokestatic 65, 9, 114, 3, 0, 0, [], [919, 82, 917, 918])),
  (9, (.ifCond .eq 10, 12, 19, 0, 0, 0, [], [])),
  (12, (.iload_n 2, 13, 2, 0, 0, 0, [], [])),
  (13, (.invokestatic 185, 16, 132, 1, 0, 0, [], [1031, 82, 1029, 1030])),
  (16, (.ifCond .ne 5, 19, 21, 0, 0, 0, [], [])),
  (19, (.iconst (-1), 20, 0, 0, (-1), 0, [], [])),
  (20, (.ireturn, 21, 0, 0, 0, 0, [], [])),
  (21, (.aload_n 0, 22, 0, 0, 0, 0, [], [])),
  (22, (.getfield 7, 25, 6, 0, 0, 0, [], [826])),
  (25, (.bipush 33, 27, 0, 0, 33, 0, [], [])),
  (27, (.iaload, 28, 0, 0, 0, 0, [], [])),
  (28, (.bipush 6, 30, 0, 0, 6, 0, [], [])),
  (30, (.if_icmp .ne 6, 33, 36, 0, 0, 0, [], [])),
  (33, (.bipush (-3), 35, 0, 0, (-3), 0, [], [])),
  (35, (.ireturn, 36, 0, 0, 0, 0, [], [])),
  (36, (.bipush 34, 38, 0, 0, 34, 0, [], [])),
  (38, (.iconst 2, 39, 0, 0, 2, 0, [], [])),
  (39, (.aload_n 0, 40, 0, 0, 0, 0, [], [])),
  (40, (.getfield 7, 43, 6, 0, 0, 0, [], [826])),
  (43, (.bipush 33, 45, 0, 0, 33, 0, [], [])),
  (45, (.iaload, 46, 0, 0, 0, 0, [], [])),
  (46, (.imul, 47, 0, 0, 0, 0, [], [])),
  (47, (.iadd, 48, 0, 0, 0, 0, [], [])),
  (48, (.istore_n 3, 49, 3, 0, 0, 0, [], [])),
  (49, (.aload_n 0, 50, 0, 0, 0, 0, [], [])),
  (50, (.getfield 7, 53, 6, 0, 0, 0, [], [826])),
  (53, (.iload_n 3, 54, 3, 0, 0, 0, [], [])),
  (54, (.iload_n 1, 55, 1, 0, 0, 0, [], [])),
  (55, (.iastore, 56, 0, 0, 0, 0, [], [])),
  (56, (.aload_n 0, 57, 0, 0, 0, 0, [], [])),
  (57, (.getfield 7, 60, 6, 0, 0, 0, [], [826])),
  (60, (.iload_n 3, 61, 3, 0, 0, 0, [], [])),
  (61, (.iconst 1, 62, 0, 0, 1, 0, [], [])),
  (62, (.iadd, 63, 0, 0, 0, 0, [], [])),
  (63, (.iload_n 2, 64, 2, 0, 0, 0, [], [])),
  (64, (.iastore, 65, 0, 0, 0, 0, [], [])),
  (65, (.aload_n 0, 66, 0, 0, 0, 0, [], [])),
  (66, (.getfield 7, 69, 6, 0, 0, 0, [], [826])),
  (69, (.bipush 33, 71, 0, 0, 33, 0, [], [])),
  (71, (.dup2, 72, 0, 0, 0, 0, [], [])),
  (72, (.iaload, 73, 0, 0, 0, 0, [], [])),
  (73, (.iconst 1, 74, 0, 0, 1, 0, [], [])),
  (74, (.iadd, 75, 0, 0, 0, 0, [], [])),
  (75, (.iastore, 76, 0, 0, 0, 0, [], [])),
  (76, (.aload_n 0, 77, 0, 0, 0, 0, [], [])),
  (77, (.getfield 7, 80, 6, 0, 0, 0, [], [826])),
  (80, (.bipush 33, 82, 0, 0, 33, 0, [], [])),
  (82, (.iaload, 83, 0, 0, 0, 0, [], [])),
  (83, (.ireturn, 84, 0, 0, 0, 0, [], []))]
def mX6_see : hd_I := (RX6, yX6_see, cX6_see, 4, (some .int), 3, pX6_see)
def pX6_forget : List (Nat × hd_O) := [
  (0, (.iload_n 1, 1, 1, 0, 0, 0, [], [])),
  (1, (.i2l, 2, 0, 0, 0, 0, [], [])),
  (2, (.lconst 0, 3, 0, 0, 0, 0, [], [])),
  (3, (.aload_n 0, 4, 0, 0, 0, 0, [], [])),
  (4, (.getfield 7, 7, 6, 0, 0, 0, [], [826])),
  (7, (.bipush 33, 9, 0, 0, 33, 0, [], [])),
  (9, (.iaload, 10, 0, 0, 0, 0, [], [])),
  (10, (.i2l, 11, 0, 0, 0, 0, [], [])),
  (11, (.invokestatic 65, 14, 114, 3, 0, 0, [], [919, 82, 917, 918])),
  (14, (.ifCond .eq 13, 17, 27, 0, 0, 0, [], [])),
  (17, (.aload_n 0, 18, 0, 0, 0, 0, [], [])),
  (18, (.bipush 33, 20, 0, 0, 33, 0, [], [])),
  (20, (.iload_n 1, 21, 1, 0, 0, 0, [], [])),
  (21, (.invokevirtual 182, 24, 151, 3, 0, 0, [], [1024, 82, 1021, 1023, 53, 6])),
  (24, (.goto 4, 27, 28, 0, 0, 0, [], [])),
  (27, (.iconst (-1), 28, 0, 0, (-1), 0, [], [])),
  (28, (.ireturn, 29, 0, 0, 0, 0, [], []))]
def mX6_forget : hd_I := (RX6, yX6_forget, cX6_forget, 2, (some .int), 2, pX6_forget)
def pX6_isSoWith : List (Nat × hd_O) := [
  (0, (.aload_n 0, 1, 0, 0, 0, 0, [], [])),
  (1, (.invokevirtual 169, 4, 135, 1, 0, 0, [], [979, 82, 976, 978, 45, 6])),
  (4, (.aload_n 0, 5, 0, 0, 0, 0, [], [])),
  (5, (.getfield 13, 8, 6, 1, 0, 0, [], [827])),
  (8, (.iload_n 1, 9, 1, 0, 0, 0, [], [])),
  (9, (.iload_n 2, 10, 2, 0, 0, 0, [], [])),
  (10, (.iastore, 11, 0, 0, 0, 0, [], [])),
  (11, (.iconst 0, 12, 0, 0, 0, 0, [], [])),
  (12, (.istore_n 3, 13, 3, 0, 0, 0, [], [])),
  (13, (.iload_n 3, 14, 3, 0, 0, 0, [], [])),
  (14, (.bipush 20, 16, 0, 0, 20, 0, [], [])),
  (16, (.if_icmp .gt 27, 19, 43, 0, 0, 0, [], [])),
  (19, (.aload_n 0, 20, 0, 0, 0, 0, [], [])),
  (20, (.getfield 32, 23, 6, 21, 0, 0, [], [847])),
  (23, (.iload_n 3, 24, 3, 0, 0, 0, [], [])),
  (24, (.aload_n 0, 25, 0, 0, 0, 0, [], [])),
  (25, (.getfield 13, 28, 6, 1, 0, 0, [], [827])),
  (28, (.bipush 30, 30, 0, 0, 30, 0, [], [])),
  (30, (.iaload, 31, 0, 0, 0, 0, [], [])),
  (31, (.iastore, 32, 0, 0, 0, 0, [], [])),
  (32, (.aload_n 0, 33, 0, 0, 0, 0, [], [])),
  (33, (.iconst 0, 34, 0, 0, 0, 0, [], [])),
  (34, (.invokevirtual 158, 37, 144, 2, 0, 0, [], [1077, 82, 1074, 1076, 59, 6])),
  (37, (.iinc 3 1, 40, 3, 0, 1, 0, [], [])),
  (40, (.goto (-27), 43, 13, 0, 0, 0, [], [])),
  (43, (.iconst 1, 44, 0, 0, 1, 0, [], [])),
  (44, (.istore_n 3, 45, 3, 0, 0, 0, [], [])),
  (45, (.iconst 0, 46, 0, 0, 0, 0, [], [])),
  (46, (.istore 4, 48, 4, 0, 0, 0, [], [])),
  (48, (.iload 4, 50, 4, 0, 0, 0, [], [])),
  (50, (.aload_n 0, 51, 0, 0, 0, 0, [], [])),
  (51, (.getfield 7, 54, 6, 0, 0, 0, [], [826])),
  (54, (.bipush 33, 56, 0, 0, 33, 0, [], [])),
  (56, (.iaload, 57, 0, 0, 0, 0, [], [])),
  (57, (.if_icmp .ge 53, 60, 110, 0, 0, 0, [], [])),
  (60, (.iload_n 3, 61, 3, 0, 0, 0, [], [])),
  (61, (.ifCond .eq 41, 64, 102, 0, 0, 0, [], [])),
  (64, (.aload_n 0, 65, 0, 0, 0, 0, [], [])),
  (65, (.getfield 32, 68, 6, 21, 0, 0, [], [847])),
  (68, (.aload_n 0, 69, 0, 0, 0, 0, [], [])),
  (69, (.getfield 7, 72, 6, 0, 0, 0, [], [826])),
  (72, (.bipush 34, 74, 0, 0, 34, 0, [], [])),
  (74, (.iconst 2, 75, 0, 0, 2, 0, [], [])),
  (75, (.iload 4, 77, 4, 0, 0, 0, [], [])),
  (77, (.imul, 78, 0, 0, 0, 0, [], [])),
  (78, (.iadd, 79, 0, 0, 0, 0, [], [])),
  (79, (.iaload, 80, 0, 0, 0, 0, [], [])),
  (80, (.iaload, 81, 0, 0, 0, 0, [], [])),
  (81, (.aload_n 0, 82, 0, 0, 0, 0, [], [])),
  (82, (.getfield 7, 85, 6, 0, 0, 0, [], [826])),
  (85, (.bipush 34, 87, 0, 0, 34, 0, [], [])),
  (87, (.iconst 2, 88, 0, 0, 2, 0, [], [])),
  (88, (.iload 4, 90, 4, 0, 0, 0, [], [])),
  (90, (.imul, 91, 0, 0, 0, 0, [], [])),
  (91, (.iadd, 92, 0, 0, 0, 0, [], [])),
  (92, (.iconst 1, 93, 0, 0, 1, 0, [], [])),
  (93, (.iadd, 94, 0, 0, 0, 0, [], [])),
  (94, (.iaload, 95, 0, 0, 0, 0, [], [])),
  (95, (.if_icmp .ne 7, 98, 102, 0, 0, 0, [], [])),
  (98, (.iconst 1, 99, 0, 0, 1, 0, [], [])),
  (99, (.goto 4, 102, 103, 0, 0, 0, [], [])),
  (102, (.iconst 0, 103, 0, 0, 0, 0, [], [])),
  (103, (.istore_n 3, 104, 3, 0, 0, 0, [], [])),
  (104, (.iinc 4 1, 107, 4, 0, 1, 0, [], [])),
  (107, (.goto (-59), 110, 48, 0, 0, 0, [], [])),
  (110, (.iload_n 3, 111, 3, 0, 0, 0, [], [])),
  (111, (.ireturn, 112, 0, 0, 0, 0, [], []))]
def mX6_isSoWith : hd_I := (RX6, yX6_isSoWith, cX6_isSoWith, 5, (some .boolean), 6, pX6_isSoWith)
def pX6_which : List (Nat × hd_O) := [
  (0, (.iconst 0, 1, 0, 0, 0, 0, [], [])),
  (1, (.istore_n 3, 2, 3, 0, 0, 0, [], [])),
  (2, (.iconst 0, 3, 0, 0, 0, 0, [], [])),
  (3, (.istore 4, 5, 4, 0, 0, 0, [], [])),
  (5, (.iload 4, 7, 4, 0, 0, 0, [], [])),
  (7, (.iload_n 2, 8, 2, 0, 0, 0, [], [])),
  (8, (.if_icmp .gt 25, 11, 33, 0, 0, 0, [], [])),
  (11, (.iload_n 3, 12, 3, 0, 0, 0, [], [])),
  (12, (.aload_n 0, 13, 0, 0, 0, 0, [], [])),
  (13, (.iload_n 1, 14, 1, 0, 0, 0, [], [])),
  (14, (.iload 4, 16, 4, 0, 0, 0, [], [])),
  (16, (.invokevirtual 275, 19, 185, 3, 0, 0, [], [1208, 82, 1205, 1207, 72, 6])),
  (19, (.invokestatic 165, 22, 115, 1, 0, 0, [], [998, 82, 996, 997])),
  (22, (.iload 4, 24, 4, 0, 0, 0, [], [])),
  (24, (.ishl, 25, 0, 0, 0, 0, [], [])),
  (25, (.ior, 26, 0, 0, 0, 0, [], [])),
  (26, (.istore_n 3, 27, 3, 0, 0, 0, [], [])),
  (27, (.iinc 4 1, 30, 4, 0, 1, 0, [], [])),
  (30, (.goto (-25), 33, 5, 0, 0, 0, [], [])),
  (33, (.iload_n 3, 34, 3, 0, 0, 0, [], [])),
  (34, (.ireturn, 35, 0, 0, 0, 0, [], []))]
def mX6_which : hd_I := (RX6, yX6_which, cX6_which, 5, (some .int), 7, pX6_which)
def pX6_kinds : List (Nat × hd_O) := [
  (0, (.aload_n 0, 1, 0, 0, 0, 0, [], [])),
  (1, (.iload_n 1, 2, 1, 0, 0, 0, [], [])),
  (2, (.invokevirtual 175, 5, 131, 2, 0, 0, [], [1010, 82, 1007, 1009, 51, 6])),
  (5, (.ifCond .eq 16, 8, 21, 0, 0, 0, [], [])),
  (8, (.aload_n 0, 9, 0, 0, 0, 0, [], [])),
  (9, (.iconst 4, 10, 0, 0, 4, 0, [], [])),
  (10, (.iload_n 1, 11, 1, 0, 0, 0, [], [])),
  (11, (.imul, 12, 0, 0, 0, 0, [], [])),
  (12, (.iconst 0, 13, 0, 0, 0, 0, [], [])),
  (13, (.iadd, 14, 0, 0, 0, 0, [], [])),
  (14, (.iconst 3, 15, 0, 0, 3, 0, [], [])),
  (15, (.invokevirtual 278, 18, 186, 3, 0, 0, [], [1204, 82, 1201, 1203, 71, 6])),
  (18, (.goto 4, 21, 22, 0, 0, 0, [], [])),
  (21, (.iconst (-1), 22, 0, 0, (-1), 0, [], [])),
  (22, (.ireturn, 23, 0, 0, 0, 0, [], []))]
def mX6_kinds : hd_I := (RX6, yX6_kinds, cX6_kinds, 2, (some .int), 8, pX6_kinds)
def pX6_goods : List (Nat × hd_O) := [
  (0, (.aload_n 0, 1, 0, 0, 0, 0, [], [])),
  (1, (.iload_n 1, 2, 1, 0, 0, 0, [], [])),
  (2, (.invokevirtual 175, 5, 131, 2, 0, 0, [], [1010, 82, 1007, 1009, 51, 6])),
  (5, (.ifCond .eq 17, 8, 22, 0, 0, 0, [], [])),
  (8, (.aload_n 0, 9, 0, 0, 0, 0, [], [])),
  (9, (.iconst 4, 10, 0, 0, 4, 0, [], [])),
  (10, (.iload_n 1, 11, 1, 0, 0, 0, [], [])),
  (11, (.imul, 12, 0, 0, 0, 0, [], [])),
  (12, (.iconst 1, 13, 0, 0, 1, 0, [], [])),
  (13, (.iadd, 14, 0, 0, 0, 0, [], [])),
  (14, (.bipush 9, 16, 0, 0, 9, 0, [], [])),
  (16, (.invokevirtual 278, 19, 186, 3, 0, 0, [], [1204, 82, 1201, 1203, 71, 6])),
  (19, (.goto 4, 22, 23, 0, 0, 0, [], [])),
  (22, (.iconst (-1), 23, 0, 0, (-1), 0, [], [])),
  (23, (.ireturn, 24, 0, 0, 0, 0, [], []))]
def mX6_goods : hd_I := (RX6, yX6_goods, cX6_goods, 2, (some .int), 8, pX6_goods)
def pX6_ask : List (Nat × hd_O) := [
  (0, (.aload_n 0, 1, 0, 0, 0, 0, [], [])),
  (1, (.iload_n 1, 2, 1, 0, 0, 0, [], [])),
  (2, (.invokevirtual 175, 5, 131, 2, 0, 0, [], [1010, 82, 1007, 1009, 51, 6])),
  (5, (.ifCond .eq 10, 8, 15, 0, 0, 0, [], [])),
  (8, (.iload_n 2, 9, 2, 0, 0, 0, [], [])),
  (9, (.invokestatic 239, 12, 133, 1, 0, 0, [], [1139, 82, 1137, 1138])),
  (12, (.ifCond .ne 5, 15, 17, 0, 0, 0, [], [])),
  (15, (.iconst (-1), 16, 0, 0, (-1), 0, [], [])),
  (16, (.ireturn, 17, 0, 0, 0, 0, [], [])),
  (17, (.iconst 0, 18, 0, 0, 0, 0, [], [])),
  (18, (.istore_n 3, 19, 3, 0, 0, 0, [], [])),
  (19, (.iconst 0, 20, 0, 0, 0, 0, [], [])),
  (20, (.istore 4, 22, 4, 0, 0, 0, [], [])),
  (22, (.iload 4, 24, 4, 0, 0, 0, [], [])),
  (24, (.bipush 9, 26, 0, 0, 9, 0, [], [])),
  (26, (.if_icmp .gt 61, 29, 87, 0, 0, 0, [], [])),
  (29, (.aload_n 0, 30, 0, 0, 0, 0, [], [])),
  (30, (.iconst 4, 31, 0, 0, 4, 0, [], [])),
  (31, (.iload_n 1, 32, 1, 0, 0, 0, [], [])),
  (32, (.imul, 33, 0, 0, 0, 0, [], [])),
  (33, (.iconst 1, 34, 0, 0, 1, 0, [], [])),
  (34, (.iadd, 35, 0, 0, 0, 0, [], [])),
  (35, (.iload 4, 37, 4, 0, 0, 0, [], [])),
  (37, (.invokevirtual 275, 40, 185, 3, 0, 0, [], [1208, 82, 1205, 1207, 72, 6])),
  (40, (.ifCond .eq 41, 43, 81, 0, 0, 0, [], [])),
  (43, (.iconst 0, 44, 0, 0, 0, 0, [], [])),
  (44, (.istore 5, 46, 5, 0, 0, 0, [], [])),
  (46, (.iload 5, 48, 5, 0, 0, 0, [], [])),
  (48, (.bipush 20, 50, 0, 0, 20, 0, [], [])),
  (50, (.if_icmp .gt 28, 53, 78, 0, 0, 0, [], [])),
  (53, (.aload_n 0, 54, 0, 0, 0, 0, [], [])),
  (54, (.getfield 35, 57, 6, 22, 0, 0, [], [848])),
  (57, (.bipush 21, 59, 0, 0, 21, 0, [], [])),
  (59, (.iload_n 3, 60, 3, 0, 0, 0, [], [])),
  (60, (.imul, 61, 0, 0, 0, 0, [], [])),
  (61, (.iload 5, 63, 5, 0, 0, 0, [], [])),
  (63, (.iadd, 64, 0, 0, 0, 0, [], [])),
  (64, (.aload_n 0, 65, 0, 0, 0, 0, [], [])),
  (65, (.getfield 32, 68, 6, 21, 0, 0, [], [847])),
  (68, (.iload 5, 70, 5, 0, 0, 0, [], [])),
  (70, (.iaload, 71, 0, 0, 0, 0, [], [])),
  (71, (.iastore, 72, 0, 0, 0, 0, [], [])),
  (72, (.iinc 5 1, 75, 5, 0, 1, 0, [], [])),
  (75, (.goto (-29), 78, 46, 0, 0, 0, [], [])),
  (78, (.iinc 3 1, 81, 3, 0, 1, 0, [], [])),
  (81, (.iinc 4 1, 84, 4, 0, 1, 0, [], [])),
  (84, (.goto (-62), 87, 22, 0, 0, 0, [], [])),
  (87, (.iload_n 3, 88, 3, 0, 0, 0, [], [])),
  (88, (.istore 4, 90, 4, 0, 0, 0, [], [])),
  (90, (.bipush (-4), 92, 0, 0, (-4), 0, [], [])),
  (92, (.istore 5, 94, 5, 0, 0, 0, [], [])),
  (94, (.iconst 0, 95, 0, 0, 0, 0, [], [])),
  (95, (.istore 6, 97, 6, 0, 0, 0, [], [])),
  (97, (.iload 6, 99, 6, 0, 0, 0, [], [])),
  (99, (.bipush 20, 101, 0, 0, 20, 0, [], [])),
  (101, (.if_icmp .gt 118, 104, 219, 0, 0, 0, [], [])),
  (104, (.iconst 0, 105, 0, 0, 0, 0, [], [])),
  (105, (.istore 7, 107, 7, 0, 0, 0, [], [])),
  (107, (.iconst 0, 108, 0, 0, 0, 0, [], [])),
  (108, (.istore 8, 110, 8, 0, 0, 0, [], [])),
  (110, (.iload 8, 112, 8, 0, 0, 0, [], [])),
  (112, (.iload_n 3, 113, 3, 0, 0, 0, [], [])),
  (113, (.if_icmp .ge 85, 116, 198, 0, 0, 0, [], [])),
  (116, (.iconst 0, 117, 0, 0, 0, 0, [], [])),
  (117, (.istore 9, 119, 9, 0, 0, 0, [], [])),
  (119, (.iconst 0, 120, 0, 0, 0, 0, [], [])),
  (120, (.istore 10, 122, 10, 0, 0, 0, [], [])),
  (122, (.iload 10, 124, 10, 0, 0, 0, [], [])),
  (124, (.iload_n 3, 125, 3, 0, 0, 0, [], [])),
  (125, (.if_icmp .ge 51, 128, 176, 0, 0, 0, [], [])),
  (128, (.iload 9, 130, 9, 0, 0, 0, [], [])),
  (130, (.aload_n 0, 131, 0, 0, 0, 0, [], [])),
  (131, (.getfield 35, 134, 6, 22, 0, 0, [], [848])),
  (134, (.bipush 21, 136, 0, 0, 21, 0, [], [])),
  (136, (.iload 8, 138, 8, 0, 0, 0, [], [])),
  (138, (.imul, 139, 0, 0, 0, 0, [], [])),
  (139, (.iload 6, 141, 6, 0, 0, 0, [], [])),
  (141, (.iadd, 142, 0, 0, 0, 0, [], [])),
  (142, (.iaload, 143, 0, 0, 0, 0, [], [])),
  (143, (.aload_n 0, 144, 0, 0, 0, 0, [], [])),
  (144, (.getfield 35, 147, 6, 22, 0, 0, [], [848])),
  (147, (.bipush 21, 149, 0, 0, 21, 0, [], [])),
  (149, (.iload 10, 151, 10, 0, 0, 0, [], [])),
  (151, (.imul, 152, 0, 0, 0, 0, [], [])),
  (152, (.iload 6, 154, 6, 0, 0, 0, [], [])),
  (154, (.iadd, 155, 0, 0, 0, 0, [], [])),
  (155, (.iaload, 156, 0, 0, 0, 0, [], [])),
  (156, (.if_icmp .ne 7, 159, 163, 0, 0, 0, [], [])),
  (159, (.iconst 1, 160, 0, 0, 1, 0, [], [])),
  (160, (.goto 4, 163, 164, 0, 0, 0, [], [])),
  (163, (.iconst 0, 164, 0, 0, 0, 0, [], [])),
  (164, (.invokestatic 165, 167, 115, 1, 0, 0, [], [998, 82, 996, 997])),
  (167, (.iadd, 168, 0, 0, 0, 0, [], [])),
  (168, (.istore 9, 170, 9, 0, 0, 0, [], [])),
  (170, (.iinc 10 1, 173, 10, 0, 1, 0, [], [])),
  (173, (.goto (-51), 176, 122, 0, 0, 0, [], [])),
  (176, (.iload 9, 178, 9, 0, 0, 0, [], [])),
  (178, (.iload 7, 180, 7, 0, 0, 0, [], [])),
  (180, (.if_icmp .le 8, 183, 188, 0, 0, 0, [], [])),
  (183, (.iload 9, 185, 9, 0, 0, 0, [], [])),
  (185, (.goto 5, 188, 190, 0, 0, 0, [], [])),
  (188, (.iload 7, 190, 7, 0, 0, 0, [], [])),
  (190, (.istore 7, 192, 7, 0, 0, 0, [], [])),
  (192, (.iinc 8 1, 195, 8, 0, 1, 0, [], [])),
  (195, (.goto (-85), 198, 110, 0, 0, 0, [], [])),
  (198, (.iload 7, 200, 7, 0, 0, 0, [], [])),
  (200, (.iload 4, 202, 4, 0, 0, 0, [], [])),
  (202, (.if_icmp .ge 11, 205, 213, 0, 0, 0, [], [])),
  (205, (.iload 7, 207, 7, 0, 0, 0, [], [])),
  (207, (.istore 4, 209, 4, 0, 0, 0, [], [])),
  (209, (.iload 6, 211, 6, 0, 0, 0, [], [])),
  (211, (.istore 5, 213, 5, 0, 0, 0, [], [])),
  (213, (.iinc 6 1, 216, 6, 0, 1, 0, [], [])),
  (216, (.goto (-119), 219, 97, 0, 0, 0, [], [])),
  (219, (.iload 5, 221, 5, 0, 0, 0, [], [])),
  (221, (.bipush (-4), 223, 0, 0, (-4), 0, [], [])),
  (223, (.if_icmp .ne 8, 226, 231, 0, 0, 0, [], [])),
  (226, (.bipush (-4), 228, 0, 0, (-4), 0, [], [])),
  (228, (.goto 14, 231, 242, 0, 0, 0, [], [])),
  (231, (.iload_n 2, 232, 2, 0, 0, 0, [], [])),
  (232, (.ifCond .ne 8, 235, 240, 0, 0, 0, [], [])),
  (235, (.iload 5, 237, 5, 0, 0, 0, [], [])),
  (237, (.goto 5, 240, 242, 0, 0, 0, [], [])),
  (240, (.iload 4, 242, 4, 0, 0, 0, [], [])),
  (242, (.ireturn, 243, 0, 0, 0, 0, [], []))]
def mX6_ask : hd_I := (RX6, yX6_ask, cX6_ask, 11, (some .int), 7, pX6_ask)
def pX6_drift : List (Nat × hd_O) := [
  (0, (.iload_n 2, 1, 2, 0, 0, 0, [], [])),
  (1, (.i2l, 2, 0, 0, 0, 0, [], [])),
  (2, (.lconst 1, 3, 0, 0, 0, 1, [], [])),
  (3, (.ldc2_w 200, 6, 0, 0, 0, 60, [], [1089])),
  (6, (.invokestatic 65, 9, 114, 3, 0, 0, [], [919, 82, 917, 918])),
  (9, (.ifCond .eq 10, 12, 19, 0, 0, 0, [], [])),
  (12, (.iload_n 3, 13, 3, 0, 0, 0, [], [])),
  (13, (.invokestatic 239, 16, 133, 1, 0, 0, [], [1139, 82, 1137, 1138])),
  (16, (.ifCond .ne 5, 19, 21, 0, 0, 0, [], [])),
  (19, (.iconst (-1), 20, 0, 0, (-1), 0, [], [])),
  (20, (.ireturn, 21, 0, 0, 0, 0, [], [])),
  (21, (.aload_n 0, 22, 0, 0, 0, 0, [], [])),
  (22, (.getfield 7, 25, 6, 0, 0, 0, [], [826])),
  (25, (.bipush 28, 27, 0, 0, 28, 0, [], [])),
  (27, (.iaload, 28, 0, 0, 0, 0, [], [])),
  (28, (.ifCond .ne 6, 31, 34, 0, 0, 0, [], [])),
  (31, (.bipush (-2), 33, 0, 0, (-2), 0, [], [])),
  (33, (.ireturn, 34, 0, 0, 0, 0, [], [])),
  (34, (.iload_n 1, 35, 1, 0, 0, 0, [], [])),
  (35, (.istore 4, 37, 4, 0, 0, 0, [], [])),
  (37, (.aload_n 0, 38, 0, 0, 0, 0, [], [])),
  (38, (.invokevirtual 169, 41, 135, 1, 0, 0, [], [979, 82, 976, 978, 45, 6])),
  (41, (.iconst 0, 42, 0, 0, 0, 0, [], [])),
  (42, (.istore 5, 44, 5, 0, 0, 0, [], [])),
  (44, (.iload 5, 46, 5, 0, 0, 0, [], [])),
  (46, (.iload_n 2, 47, 2, 0, 0, 0, [], [])),
  (47, (.if_icmp .ge 75, 50, 122, 0, 0, 0, [], [])),
  (50, (.iload 4, 52, 4, 0, 0, 0, [], [])),
  (52, (.ldc_w 281, 55, 0, 0, 1103515245, 0, [], [1221])),
  (55, (.imul, 56, 0, 0, 0, 0, [], [])),
  (56, (.sipush 12345, 59, 0, 0, 12345, 0, [], [])),
  (59, (.iadd, 60, 0, 0, 0, 0, [], [])),
  (60, (.istore 4, 62, 4, 0, 0, 0, [], [])),
  (62, (.iload 4, 64, 4, 0, 0, 0, [], [])),
  (64, (.bipush 16, 66, 0, 0, 16, 0, [], [])),
  (66, (.ishr, 67, 0, 0, 0, 0, [], [])),
  (67, (.sipush 32767, 70, 0, 0, 32767, 0, [], [])),
  (70, (.iand, 71, 0, 0, 0, 0, [], [])),
  (71, (.istore 6, 73, 6, 0, 0, 0, [], [])),
  (73, (.aload_n 0, 74, 0, 0, 0, 0, [], [])),
  (74, (.iload 6, 76, 6, 0, 0, 0, [], [])),
  (76, (.aload_n 0, 77, 0, 0, 0, 0, [], [])),
  (77, (.getfield 7, 80, 6, 0, 0, 0, [], [826])),
  (80, (.bipush 28, 82, 0, 0, 28, 0, [], [])),
  (82, (.iaload, 83, 0, 0, 0, 0, [], [])),
  (83, (.irem, 84, 0, 0, 0, 0, [], [])),
  (84, (.iconst 1, 85, 0, 0, 1, 0, [], [])),
  (85, (.iload 6, 87, 6, 0, 0, 0, [], [])),
  (87, (.bipush 8, 89, 0, 0, 8, 0, [], [])),
  (89, (.idiv, 90, 0, 0, 0, 0, [], [])),
  (90, (.bipush 10, 92, 0, 0, 10, 0, [], [])),
  (92, (.irem, 93, 0, 0, 0, 0, [], [])),
  (93, (.invokevirtual 151, 96, 138, 4, 0, 0, [], [1056, 82, 1053, 1055, 56, 6])),
  (96, (.iload 6, 98, 6, 0, 0, 0, [], [])),
  (98, (.sipush 128, 101, 0, 0, 128, 0, [], [])),
  (101, (.idiv, 102, 0, 0, 0, 0, [], [])),
  (102, (.iconst 4, 103, 0, 0, 4, 0, [], [])),
  (103, (.irem, 104, 0, 0, 0, 0, [], [])),
  (104, (.ifCond .ne 7, 107, 111, 0, 0, 0, [], [])),
  (107, (.aload_n 0, 108, 0, 0, 0, 0, [], [])),
  (108, (.invokevirtual 192, 111, 148, 1, 0, 0, [], [1052, 82, 1049, 1051, 55, 6])),
  (111, (.aload_n 0, 112, 0, 0, 0, 0, [], [])),
  (112, (.iconst 0, 113, 0, 0, 0, 0, [], [])),
  (113, (.invokevirtual 158, 116, 144, 2, 0, 0, [], [1077, 82, 1074, 1076, 59, 6])),
  (116, (.iinc 5 1, 119, 5, 0, 1, 0, [], [])),
  (119, (.goto (-75), 122, 44, 0, 0, 0, [], [])),
  (122, (.iload_n 3, 123, 3, 0, 0, 0, [], [])),
  (123, (.ifCond .ne 13, 126, 136, 0, 0, 0, [], [])),
  (126, (.aload_n 0, 127, 0, 0, 0, 0, [], [])),
  (127, (.getfield 13, 130, 6, 1, 0, 0, [], [827])),
  (130, (.bipush 30, 132, 0, 0, 30, 0, [], [])),
  (132, (.iaload, 133, 0, 0, 0, 0, [], [])),
  (133, (.goto 7, 136, 140, 0, 0, 0, [], [])),
  (136, (.aload_n 0, 137, 0, 0, 0, 0, [], [])),
  (137, (.invokevirtual 172, 140, 147, 1, 0, 0, [], [1002, 82, 999, 1001, 50, 6])),
  (140, (.ireturn, 141, 0, 0, 0, 0, [], []))]
def mX6_drift : hd_I := (RX6, yX6_drift, cX6_drift, 7, (some .int), 6, pX6_drift)
def pX6_copies : List (Nat × hd_O) := [
  (0, (.iconst 0, 1, 0, 0, 0, 0, [], [])),
  (1, (.istore_n 3, 2, 3, 0, 0, 0, [], [])),
  (2, (.iload_n 3, 3, 3, 0, 0, 0, [], [])),
  (3, (.bipush 46, 5, 0, 0, 46, 0, [], [])),
  (5, (.if_icmp .ge 25, 8, 30, 0, 0, 0, [], [])),
  (8, (.aload_n 0, 9, 0, 0, 0, 0, [], [])),
  (9, (.getfield 7, 12, 6, 0, 0, 0, [], [826])),
  (12, (.iload_n 1, 13, 1, 0, 0, 0, [], [])),
  (13, (.iload_n 3, 14, 3, 0, 0, 0, [], [])),
  (14, (.iadd, 15, 0, 0, 0, 0, [], [])),
  (15, (.aload_n 0, 16, 0, 0, 0, 0, [], [])),
  (16, (.getfield 7, 19, 6, 0, 0, 0, [], [826])),
  (19, (.iload_n 2, 20, 2, 0, 0, 0, [], [])),
  (20, (.iload_n 3, 21, 3, 0, 0, 0, [], [])),
  (21, (.iadd, 22, 0, 0, 0, 0, [], [])),
  (22, (.iaload, 23, 0, 0, 0, 0, [], [])),
  (23, (.iastore, 24, 0, 0, 0, 0, [], [])),
  (24, (.iinc 3 1, 27, 3, 0, 1, 0, [], [])),
  (27, (.goto (-25), 30, 2, 0, 0, 0, [], [])),
  (30, (.return_, 31, 0, 0, 0, 0, [], []))]
def mX6_copies : hd_I := (RX6, yX6_copies, cX6_copies, 4, none, 1, pX6_copies)
def pX6_keep : List (Nat × hd_O) := [
  (0, (.iload_n 1, 1, 1, 0, 0, 0, [], [])),
  (1, (.i2l, 2, 0, 0, 0, 0, [], [])),
  (2, (.lconst 0, 3, 0, 0, 0, 0, [], [])),
  (3, (.lconst 1, 4, 0, 0, 0, 1, [], [])),
  (4, (.invokestatic 65, 7, 114, 3, 0, 0, [], [919, 82, 917, 918])),
  (7, (.ifCond .ne 5, 10, 12, 0, 0, 0, [], [])),
  (10, (.iconst (-1), 11, 0, 0, (-1), 0, [], [])),
  (11, (.ireturn, 12, 0, 0, 0, 0, [], [])),
  (12, (.aload_n 0, 13, 0, 0, 0, 0, [], [])),
  (13, (.getfield 16, 16, 6, 2, 0, 0, [], [828])),
  (16, (.iload_n 1, 17, 1, 0, 0, 0, [], [])),
  (17, (.baload, 18, 0, 0, 0, 0, [], [])),
  (18, (.invokestatic 165, 21, 115, 1, 0, 0, [], [998, 82, 996, 997])),
  (21, (.istore_n 2, 22, 2, 0, 0, 0, [], [])),
  (22, (.aload_n 0, 23, 0, 0, 0, 0, [], [])),
  (23, (.getfield 16, 26, 6, 2, 0, 0, [], [828])),
  (26, (.iload_n 1, 27, 1, 0, 0, 0, [], [])),
  (27, (.iconst 1, 28, 0, 0, 1, 0, [], [])),
  (28, (.bastore, 29, 0, 0, 0, 0, [], [])),
  (29, (.aload_n 0, 30, 0, 0, 0, 0, [], [])),
  (30, (.bipush 46, 32, 0, 0, 46, 0, [], [])),
  (32, (.iload_n 1, 33, 1, 0, 0, 0, [], [])),
  (33, (.iconst 1, 34, 0, 0, 1, 0, [], [])),
  (34, (.iadd, 35, 0, 0, 0, 0, [], [])),
  (35, (.imul, 36, 0, 0, 0, 0, [], [])),
  (36, (.iconst 0, 37, 0, 0, 0, 0, [], [])),
  (37, (.invokevirtual 282, 40, 191, 3, 0, 0, [], [1229, 82, 1226, 1228, 73, 6])),
  (40, (.iload_n 2, 41, 2, 0, 0, 0, [], [])),
  (41, (.ireturn, 42, 0, 0, 0, 0, [], []))]
def mX6_keep : hd_I := (RX6, yX6_keep, cX6_keep, 3, (some .int), 2, pX6_keep)
def pX6_back : List (Nat × hd_O) := [
  (0, (.iload_n 1, 1, 1, 0, 0, 0, [], [])),
  (1, (.i2l, 2, 0, 0, 0, 0, [], [])),
  (2, (.lconst 0, 3, 0, 0, 0, 0, [], [])),
  (3, (.lconst 1, 4, 0, 0, 0, 1, [], [])),
  (4, (.invokestatic 65, 7, 114, 3, 0, 0, [], [919, 82, 917, 918])),
  (7, (.ifCond .ne 5, 10, 12, 0, 0, 0, [], [])),
  (10, (.iconst (-1), 11, 0, 0, (-1), 0, [], [])),
  (11, (.ireturn, 12, 0, 0, 0, 0, [], [])),
  (12, (.aload_n 0, 13, 0, 0, 0, 0, [], [])),
  (13, (.getfield 16, 16, 6, 2, 0, 0, [], [828])),
  (16, (.iload_n 1, 17, 1, 0, 0, 0, [], [])),
  (17, (.baload, 18, 0, 0, 0, 0, [], [])),
  (18, (.ifCond .ne 6, 21, 24, 0, 0, 0, [], [])),
  (21, (.bipush (-2), 23, 0, 0, (-2), 0, [], [])),
  (23, (.ireturn, 24, 0, 0, 0, 0, [], [])),
  (24, (.aload_n 0, 25, 0, 0, 0, 0, [], [])),
  (25, (.iconst 0, 26, 0, 0, 0, 0, [], [])),
  (26, (.bipush 46, 28, 0, 0, 46, 0, [], [])),
  (28, (.iload_n 1, 29, 1, 0, 0, 0, [], [])),
  (29, (.iconst 1, 30, 0, 0, 1, 0, [], [])),
  (30, (.iadd, 31, 0, 0, 0, 0, [], [])),
  (31, (.imul, 32, 0, 0, 0, 0, [], [])),
  (32, (.invokevirtual 282, 35, 191, 3, 0, 0, [], [1229, 82, 1226, 1228, 73, 6])),
  (35, (.aload_n 0, 36, 0, 0, 0, 0, [], [])),
  (36, (.getfield 7, 39, 6, 0, 0, 0, [], [826])),
  (39, (.bipush 32, 41, 0, 0, 32, 0, [], [])),
  (41, (.iaload, 42, 0, 0, 0, 0, [], [])),
  (42, (.ireturn, 43, 0, 0, 0, 0, [], []))]
def mX6_back : hd_I := (RX6, yX6_back, cX6_back, 2, (some .int), 2, pX6_back)
def pX6_isSheet : List (Nat × hd_O) := [
  (0, (.iload_n 0, 1, 0, 0, 0, 0, [], [])),
  (1, (.i2l, 2, 0, 0, 0, 0, [], [])),
  (2, (.lconst 0, 3, 0, 0, 0, 0, [], [])),
  (3, (.ldc2_w 178, 6, 0, 0, 0, 3, [], [1019])),
  (6, (.invokestatic 65, 9, 114, 3, 0, 0, [], [919, 82, 917, 918])),
  (9, (.ifCond .eq 19, 12, 28, 0, 0, 0, [], [])),
  (12, (.iload_n 1, 13, 1, 0, 0, 0, [], [])),
  (13, (.i2l, 14, 0, 0, 0, 0, [], [])),
  (14, (.lconst 0, 15, 0, 0, 0, 0, [], [])),
  (15, (.ldc2_w 285, 18, 0, 0, 0, 2, [], [1241])),
  (18, (.invokestatic 65, 21, 114, 3, 0, 0, [], [919, 82, 917, 918])),
  (21, (.ifCond .eq 7, 24, 28, 0, 0, 0, [], [])),
  (24, (.iconst 1, 25, 0, 0, 1, 0, [], [])),
  (25, (.goto 4, 28, 29, 0, 0, 0, [], [])),
  (28, (.iconst 0, 29, 0, 0, 0, 0, [], [])),
  (29, (.ireturn, 30, 0, 0, 0, 0, [], []))]
def mX6_isSheet : hd_I := (RX6, yX6_isSheet, cX6_isSheet, 2, (some .boolean), 2, pX6_isSheet)
def pX6_sheet : List (Nat × hd_O) := [
  (0, (.iload_n 1, 1, 1, 0, 0, 0, [], [])),
  (1, (.iload_n 2, 2, 2, 0, 0, 0, [], [])),
  (2, (.invokestatic 287, 5, 194, 2, 0, 0, [], [1240, 82, 1238, 1239])),
  (5, (.ifCond .eq 9, 8, 14, 0, 0, 0, [], [])),
  (8, (.iload_n 3, 9, 3, 0, 0, 0, [], [])),
  (9, (.bipush 40, 11, 0, 0, 40, 0, [], [])),
  (11, (.if_icmp .le 5, 14, 16, 0, 0, 0, [], [])),
  (14, (.iconst (-1), 15, 0, 0, (-1), 0, [], [])),
  (15, (.ireturn, 16, 0, 0, 0, 0, [], [])),
  (16, (.iload_n 3, 17, 3, 0, 0, 0, [], [])),
  (17, (.ifCond .ge 6, 20, 23, 0, 0, 0, [], [])),
  (20, (.bipush (-14), 22, 0, 0, (-14), 0, [], [])),
  (22, (.ireturn, 23, 0, 0, 0, 0, [], [])),
  (23, (.aload_n 0, 24, 0, 0, 0, 0, [], [])),
  (24, (.getfield 38, 27, 6, 23, 0, 0, [], [849])),
  (27, (.iload_n 1, 28, 1, 0, 0, 0, [], [])),
  (28, (.iload_n 2, 29, 2, 0, 0, 0, [], [])),
  (29, (.iastore, 30, 0, 0, 0, 0, [], [])),
  (30, (.aload_n 0, 31, 0, 0, 0, 0, [], [])),
  (31, (.getfield 41, 34, 6, 24, 0, 0, [], [850])),
  (34, (.iload_n 1, 35, 1, 0, 0, 0, [], [])),
  (35, (.iload_n 3, 36, 3, 0, 0, 0, [], [])),
  (36, (.iastore, 37, 0, 0, 0, 0, [], [])),
  (37, (.iconst 0, 38, 0, 0, 0, 0, [], [])),
  (38, (.istore 4, 40, 4, 0, 0, 0, [], [])),
  (40, (.iload 4, 42, 4, 0, 0, 0, [], [])),
  (42, (.bipush 40, 44, 0, 0, 40, 0, [], [])),
  (44, (.if_icmp .ge 22, 47, 66, 0, 0, 0, [], [])),
  (47, (.aload_n 0, 48, 0, 0, 0, 0, [], [])),
  (48, (.getfield 44, 51, 6, 25, 0, 0, [], [851])),
  (51, (.bipush 40, 53, 0, 0, 40, 0, [], [])),
  (53, (.iload_n 1, 54, 1, 0, 0, 0, [], [])),
  (54, (.imul, 55, 0, 0, 0, 0, [], [])),
  (55, (.iload 4, 57, 4, 0, 0, 0, [], [])),
  (57, (.iadd, 58, 0, 0, 0, 0, [], [])),
  (58, (.iconst 0, 59, 0, 0, 0, 0, [], [])),
  (59, (.iastore, 60, 0, 0, 0, 0, [], [])),
  (60, (.iinc 4 1, 63, 4, 0, 1, 0, [], [])),
  (63, (.goto (-23), 66, 40, 0, 0, 0, [], [])),
  (66, (.iconst 1, 67, 0, 0, 1, 0, [], [])),
  (67, (.ireturn, 68, 0, 0, 0, 0, [], []))]
def mX6_sheet : hd_I := (RX6, yX6_sheet, cX6_sheet, 5, (some .int), 3, pX6_sheet)
def pX6_lay : List (Nat × hd_O) := [
  (0, (.iload_n 1, 1, 1, 0, 0, 0, [], [])),
  (1, (.iconst 0, 2, 0, 0, 0, 0, [], [])),
  (2, (.invokestatic 287, 5, 194, 2, 0, 0, [], [1240, 82, 1238, 1239])),
  (5, (.ifCond .ne 5, 8, 10, 0, 0, 0, [], [])),
  (8, (.iconst (-1), 9, 0, 0, (-1), 0, [], [])),
  (9, (.ireturn, 10, 0, 0, 0, 0, [], [])),
  (10, (.aload_n 0, 11, 0, 0, 0, 0, [], [])),
  (11, (.getfield 38, 14, 6, 23, 0, 0, [], [849])),
  (14, (.iload_n 1, 15, 1, 0, 0, 0, [], [])),
  (15, (.iaload, 16, 0, 0, 0, 0, [], [])),
  (16, (.bipush (-4), 18, 0, 0, (-4), 0, [], [])),
  (18, (.if_icmp .ne 6, 21, 24, 0, 0, 0, [], [])),
  (21, (.bipush (-11), 23, 0, 0, (-11), 0, [], [])),
  (23, (.ireturn, 24, 0, 0, 0, 0, [], [])),
  (24, (.iload_n 2, 25, 2, 0, 0, 0, [], [])),
  (25, (.i2l, 26, 0, 0, 0, 0, [], [])),
  (26, (.lconst 0, 27, 0, 0, 0, 0, [], [])),
  (27, (.aload_n 0, 28, 0, 0, 0, 0, [], [])),
  (28, (.getfield 41, 31, 6, 24, 0, 0, [], [850])),
  (31, (.iload_n 1, 32, 1, 0, 0, 0, [], [])),
  (32, (.iaload, 33, 0, 0, 0, 0, [], [])),
  (33, (.iconst 1, 34, 0, 0, 1, 0, [], [])),
  (34, (.isub, 35, 0, 0, 0, 0, [], [])),
  (35, (.i2l, 36, 0, 0, 0, 0, [], [])),
  (36, (.invokestatic 65, 39, 114, 3, 0, 0, [], [919, 82, 917, 918])),
  (39, (.ifCond .ne 6, 42, 45, 0, 0, 0, [], [])),
  (42, (.bipush (-12), 44, 0, 0, (-12), 0, [], [])),
  (44, (.ireturn, 45, 0, 0, 0, 0, [], [])),
  (45, (.aload_n 0, 46, 0, 0, 0, 0, [], [])),
  (46, (.getfield 44, 49, 6, 25, 0, 0, [], [851])),
  (49, (.bipush 40, 51, 0, 0, 40, 0, [], [])),
  (51, (.iload_n 1, 52, 1, 0, 0, 0, [], [])),
  (52, (.imul, 53, 0, 0, 0, 0, [], [])),
  (53, (.iload_n 2, 54, 2, 0, 0, 0, [], [])),
  (54, (.iadd, 55, 0, 0, 0, 0, [], [])),
  (55, (.aload_n 0, 56, 0, 0, 0, 0, [], [])),
  (56, (.getfield 38, 59, 6, 23, 0, 0, [], [849])),
  (59, (.iload_n 1, 60, 1, 0, 0, 0, [], [])),
  (60, (.iaload, 61, 0, 0, 0, 0, [], [])),
  (61, (.ifCond .ne 8, 64, 69, 0, 0, 0, [], [])),
  (64, (.iload_n 3, 65, 3, 0, 0, 0, [], [])),
  (65, (.i2b, 66, 0, 0, 0, 0, [], [])),
  (66, (.goto 19, 69, 85, 0, 0, 0, [], [])),
  (69, (.aload_n 0, 70, 0, 0, 0, 0, [], [])),
  (70, (.getfield 38, 73, 6, 23, 0, 0, [], [849])),
  (73, (.iload_n 1, 74, 1, 0, 0, 0, [], [])),
  (74, (.iaload, 75, 0, 0, 0, 0, [], [])),
  (75, (.iconst 1, 76, 0, 0, 1, 0, [], [])),
  (76, (.if_icmp .ne 8, 79, 84, 0, 0, 0, [], [])),
  (79, (.iload_n 3, 80, 3, 0, 0, 0, [], [])),
  (80, (.i2s, 81, 0, 0, 0, 0, [], [])),
  (81, (.goto 4, 84, 85, 0, 0, 0, [], [])),
  (84, (.iload_n 3, 85, 3, 0, 0, 0, [], [])),
  (85, (.iastore, 86, 0, 0, 0, 0, [], [])),
  (86, (.iconst 1, 87, 0, 0, 1, 0, [], [])),
  (87, (.ireturn, 88, 0, 0, 0, 0, [], []))]
def mX6_lay : hd_I := (RX6, yX6_lay, cX6_lay, 4, (some .int), 3, pX6_lay)
def pX6_read : List (Nat × hd_O) := [
  (0, (.iload_n 1, 1, 1, 0, 0, 0, [], [])),
  (1, (.iload_n 2, 2, 2, 0, 0, 0, [], [])),
  (2, (.invokestatic 287, 5, 194, 2, 0, 0, [], [1240, 82, 1238, 1239])),
  (5, (.ifCond .eq 16, 8, 21, 0, 0, 0, [], [])),
  (8, (.iload 4, 10, 4, 0, 0, 0, [], [])),
  (10, (.i2l, 11, 0, 0, 0, 0, [], [])),
  (11, (.lconst 0, 12, 0, 0, 0, 0, [], [])),
  (12, (.ldc2_w 290, 15, 0, 0, 0, 13, [], [1250])),
  (15, (.invokestatic 65, 18, 114, 3, 0, 0, [], [919, 82, 917, 918])),
  (18, (.ifCond .ne 5, 21, 23, 0, 0, 0, [], [])),
  (21, (.iconst (-1), 22, 0, 0, (-1), 0, [], [])),
  (22, (.ireturn, 23, 0, 0, 0, 0, [], [])),
  (23, (.iconst 0, 24, 0, 0, 0, 0, [], [])),
  (24, (.istore 5, 26, 5, 0, 0, 0, [], [])),
  (26, (.iload 5, 28, 5, 0, 0, 0, [], [])),
  (28, (.bipush 46, 30, 0, 0, 46, 0, [], [])),
  (30, (.if_icmp .ge 23, 33, 53, 0, 0, 0, [], [])),
  (33, (.aload_n 0, 34, 0, 0, 0, 0, [], [])),
  (34, (.getfield 47, 37, 6, 27, 0, 0, [], [853])),
  (37, (.iload 5, 39, 5, 0, 0, 0, [], [])),
  (39, (.aload_n 0, 40, 0, 0, 0, 0, [], [])),
  (40, (.getfield 7, 43, 6, 0, 0, 0, [], [826])),
  (43, (.iload 5, 45, 5, 0, 0, 0, [], [])),
  (45, (.iaload, 46, 0, 0, 0, 0, [], [])),
  (46, (.iastore, 47, 0, 0, 0, 0, [], [])),
  (47, (.iinc 5 1, 50, 5, 0, 1, 0, [], [])),
  (50, (.goto (-24), 53, 26, 0, 0, 0, [], [])),
  (53, (.iconst 0, 54, 0, 0, 0, 0, [], [])),
  (54, (.istore 5, 56, 5, 0, 0, 0, [], [])),
  (56, (.iconst 0, 57, 0, 0, 0, 0, [], [])),
  (57, (.istore 6, 59, 6, 0, 0, 0, [], [])),
  (59, (.iconst 0, 60, 0, 0, 0, 0, [], [])),
  (60, (.istore 7, 62, 7, 0, 0, 0, [], [])),
  (62, (.iload 7, 64, 7, 0, 0, 0, [], [])),
  (64, (.iload 4, 66, 4, 0, 0, 0, [], [])),
  (66, (.if_icmp .ge 193, 69, 259, 0, 0, 0, [], [])),
  (69, (.iload 5, 71, 5, 0, 0, 0, [], [])),
  (71, (.ifCond .ne 188, 74, 259, 0, 0, 0, [], [])),
  (74, (.iconst 0, 75, 0, 0, 0, 0, [], [])),
  (75, (.istore 8, 77, 8, 0, 0, 0, [], [])),
  (77, (.iload 8, 79, 8, 0, 0, 0, [], [])),
  (79, (.iconst 3, 80, 0, 0, 3, 0, [], [])),
  (80, (.if_icmp .ge 84, 83, 164, 0, 0, 0, [], [])),
  (83, (.iload 5, 85, 5, 0, 0, 0, [], [])),
  (85, (.ifCond .ne 79, 88, 164, 0, 0, 0, [], [])),
  (88, (.iload_n 3, 89, 3, 0, 0, 0, [], [])),
  (89, (.i2l, 90, 0, 0, 0, 0, [], [])),
  (90, (.iconst 3, 91, 0, 0, 3, 0, [], [])),
  (91, (.iload 7, 93, 7, 0, 0, 0, [], [])),
  (93, (.imul, 94, 0, 0, 0, 0, [], [])),
  (94, (.i2l, 95, 0, 0, 0, 0, [], [])),
  (95, (.ladd, 96, 0, 0, 0, 0, [], [])),
  (96, (.iload 8, 98, 8, 0, 0, 0, [], [])),
  (98, (.i2l, 99, 0, 0, 0, 0, [], [])),
  (99, (.ladd, 100, 0, 0, 0, 0, [], [])),
  (100, (.lstore 9, 102, 9, 0, 0, 0, [], [])),
  (102, (.aload_n 0, 103, 0, 0, 0, 0, [], [])),
  (103, (.getfield 38, 106, 6, 23, 0, 0, [], [849])),
  (106, (.iload_n 1, 107, 1, 0, 0, 0, [], [])),
  (107, (.iaload, 108, 0, 0, 0, 0, [], [])),
  (108, (.bipush (-4), 110, 0, 0, (-4), 0, [], [])),
  (110, (.if_icmp .ne 7, 113, 117, 0, 0, 0, [], [])),
  (113, (.iconst 1, 114, 0, 0, 1, 0, [], [])),
  (114, (.goto 42, 117, 156, 0, 0, 0, [], [])),
  (117, (.aload_n 0, 118, 0, 0, 0, 0, [], [])),
  (118, (.getfield 38, 121, 6, 23, 0, 0, [], [849])),
  (121, (.iload_n 1, 122, 1, 0, 0, 0, [], [])),
  (122, (.iaload, 123, 0, 0, 0, 0, [], [])),
  (123, (.iload_n 2, 124, 2, 0, 0, 0, [], [])),
  (124, (.if_icmp .eq 7, 127, 131, 0, 0, 0, [], [])),
  (127, (.iconst 3, 128, 0, 0, 3, 0, [], [])),
  (128, (.goto 28, 131, 156, 0, 0, 0, [], [])),
  (131, (.lload 9, 133, 9, 0, 0, 0, [], [])),
  (133, (.lconst 0, 134, 0, 0, 0, 0, [], [])),
  (134, (.lcmp, 135, 0, 0, 0, 0, [], [])),
  (135, (.ifCond .lt 16, 138, 151, 0, 0, 0, [], [])),
  (138, (.lload 9, 140, 9, 0, 0, 0, [], [])),
  (140, (.aload_n 0, 141, 0, 0, 0, 0, [], [])),
  (141, (.getfield 41, 144, 6, 24, 0, 0, [], [850])),
  (144, (.iload_n 1, 145, 1, 0, 0, 0, [], [])),
  (145, (.iaload, 146, 0, 0, 0, 0, [], [])),
  (146, (.i2l, 147, 0, 0, 0, 0, [], [])),
  (147, (.lcmp, 148, 0, 0, 0, 0, [], [])),
  (148, (.ifCond .lt 7, 151, 155, 0, 0, 0, [], [])),
  (151, (.iconst 2, 152, 0, 0, 2, 0, [], [])),
  (152, (.goto 4, 155, 156, 0, 0, 0, [], [])),
  (155, (.iconst 0, 156, 0, 0, 0, 0, [], [])),
  (156, (.istore 5, 158, 5, 0, 0, 0, [], [])),
  (158, (.iinc 8 1, 161, 8, 0, 1, 0, [], [])),
  (161, (.goto (-84), 164, 77, 0, 0, 0, [], [])),
  (164, (.iload 5, 166, 5, 0, 0, 0, [], [])),
  (166, (.ifCond .ne 87, 169, 253, 0, 0, 0, [], [])),
  (169, (.bipush 40, 171, 0, 0, 40, 0, [], [])),
  (171, (.iload_n 1, 172, 1, 0, 0, 0, [], [])),
  (172, (.imul, 173, 0, 0, 0, 0, [], [])),
  (173, (.iload_n 3, 174, 3, 0, 0, 0, [], [])),
  (174, (.iadd, 175, 0, 0, 0, 0, [], [])),
  (175, (.iconst 3, 176, 0, 0, 3, 0, [], [])),
  (176, (.iload 7, 178, 7, 0, 0, 0, [], [])),
  (178, (.imul, 179, 0, 0, 0, 0, [], [])),
  (179, (.iadd, 180, 0, 0, 0, 0, [], [])),
  (180, (.istore 8, 182, 8, 0, 0, 0, [], [])),
  (182, (.aload_n 0, 183, 0, 0, 0, 0, [], [])),
  (183, (.aload_n 0, 184, 0, 0, 0, 0, [], [])),
  (184, (.getfield 44, 187, 6, 25, 0, 0, [], [851])),
  (187, (.iload 8, 189, 8, 0, 0, 0, [], [])),
  (189, (.iaload, 190, 0, 0, 0, 0, [], [])),
  (190, (.aload_n 0, 191, 0, 0, 0, 0, [], [])),
  (191, (.getfield 44, 194, 6, 25, 0, 0, [], [851])),
  (194, (.iload 8, 196, 8, 0, 0, 0, [], [])),
  (196, (.iconst 1, 197, 0, 0, 1, 0, [], [])),
  (197, (.iadd, 198, 0, 0, 0, 0, [], [])),
  (198, (.iaload, 199, 0, 0, 0, 0, [], [])),
  (199, (.aload_n 0, 200, 0, 0, 0, 0, [], [])),
  (200, (.getfield 44, 203, 6, 25, 0, 0, [], [851])),
  (203, (.iload 8, 205, 8, 0, 0, 0, [], [])),
  (205, (.iconst 2, 206, 0, 0, 2, 0, [], [])),
  (206, (.iadd, 207, 0, 0, 0, 0, [], [])),
  (207, (.iaload, 208, 0, 0, 0, 0, [], [])),
  (208, (.invokevirtual 292, 211, 155, 4, 0, 0, [], [1040, 82, 1251, 1038, 1039, 6])),
  (211, (.ifCond .ge 39, 214, 250, 0, 0, 0, [], [])),
  (214, (.iconst 0, 215, 0, 0, 0, 0, [], [])),
  (215, (.istore 9, 217, 9, 0, 0, 0, [], [])),
  (217, (.iload 9, 219, 9, 0, 0, 0, [], [])),
  (219, (.bipush 46, 221, 0, 0, 46, 0, [], [])),
  (221, (.if_icmp .ge 23, 224, 244, 0, 0, 0, [], [])),
  (224, (.aload_n 0, 225, 0, 0, 0, 0, [], [])),
  (225, (.getfield 7, 228, 6, 0, 0, 0, [], [826])),
  (228, (.iload 9, 230, 9, 0, 0, 0, [], [])),
  (230, (.aload_n 0, 231, 0, 0, 0, 0, [], [])),
  (231, (.getfield 47, 234, 6, 27, 0, 0, [], [853])),
  (234, (.iload 9, 236, 9, 0, 0, 0, [], [])),
  (236, (.iaload, 237, 0, 0, 0, 0, [], [])),
  (237, (.iastore, 238, 0, 0, 0, 0, [], [])),
  (238, (.iinc 9 1, 241, 9, 0, 1, 0, [], [])),
  (241, (.goto (-24), 244, 217, 0, 0, 0, [], [])),
  (244, (.bipush (-20), 246, 0, 0, (-20), 0, [], [])),
  (246, (.iload 7, 248, 7, 0, 0, 0, [], [])),
  (248, (.isub, 249, 0, 0, 0, 0, [], [])),
  (249, (.ireturn, 250, 0, 0, 0, 0, [], [])),
  (250, (.iinc 6 1, 253, 6, 0, 1, 0, [], [])),
  (253, (.iinc 7 1, 256, 7, 0, 1, 0, [], [])),
  (256, (.goto (-194), 259, 62, 0, 0, 0, [], [])),
  (259, (.aload_n 0, 260, 0, 0, 0, 0, [], [])),
  (260, (.iload 5, 262, 5, 0, 0, 0, [], [])),
  (262, (.putfield 296, 265, 6, 26, 0, 0, [], [852])),
  (265, (.iload 6, 267, 6, 0, 0, 0, [], [])),
  (267, (.ireturn, 268, 0, 0, 0, 0, [], []))]
def mX6_read : hd_I := (RX6, yX6_read, cX6_read, 11, (some .int), 3, pX6_read)
def pX6_torn : List (Nat × hd_O) := [
  (0, (.aload_n 0, 1, 0, 0, 0, 0, [], [])),
  (1, (.getfield 296, 4, 6, 26, 0, 0, [], [852])),
  (4, (.ireturn, 5, 0, 0, 0, 0, [], []))]
def mX6_torn : hd_I := (RX6, yX6_torn, cX6_torn, 1, (some .int), 1, pX6_torn)
def pX6_sumOf : List (Nat × hd_O) := [
  (0, (.iconst 0, 1, 0, 0, 0, 0, [], [])),
  (1, (.istore_n 2, 2, 2, 0, 0, 0, [], [])),
  (2, (.iconst 0, 3, 0, 0, 0, 0, [], [])),
  (3, (.istore_n 3, 4, 3, 0, 0, 0, [], [])),
  (4, (.iload_n 3, 5, 3, 0, 0, 0, [], [])),
  (5, (.aload_n 0, 6, 0, 0, 0, 0, [], [])),
  (6, (.getfield 7, 9, 6, 0, 0, 0, [], [826])),
  (9, (.bipush 28, 11, 0, 0, 28, 0, [], [])),
  (11, (.iaload, 12, 0, 0, 0, 0, [], [])),
  (12, (.if_icmp .ge 22, 15, 34, 0, 0, 0, [], [])),
  (15, (.iload_n 2, 16, 2, 0, 0, 0, [], [])),
  (16, (.aload_n 0, 17, 0, 0, 0, 0, [], [])),
  (17, (.getfield 7, 20, 6, 0, 0, 0, [], [826])),
  (20, (.iconst 4, 21, 0, 0, 4, 0, [], [])),
  (21, (.iload_n 3, 22, 3, 0, 0, 0, [], [])),
  (22, (.imul, 23, 0, 0, 0, 0, [], [])),
  (23, (.iload_n 1, 24, 1, 0, 0, 0, [], [])),
  (24, (.iadd, 25, 0, 0, 0, 0, [], [])),
  (25, (.iaload, 26, 0, 0, 0, 0, [], [])),
  (26, (.iadd, 27, 0, 0, 0, 0, [], [])),
  (27, (.istore_n 2, 28, 2, 0, 0, 0, [], [])),
  (28, (.iinc 3 1, 31, 3, 0, 1, 0, [], [])),
  (31, (.goto (-27), 34, 4, 0, 0, 0, [], [])),
  (34, (.iload_n 2, 35, 2, 0, 0, 0, [], [])),
  (35, (.ireturn, 36, 0, 0, 0, 0, [], []))]
def mX6_sumOf : hd_I := (RX6, yX6_sumOf, cX6_sumOf, 4, (some .int), 1, pX6_sumOf)
def pX6_count : List (Nat × hd_O) := [
  (0, (.iload_n 1, 1, 1, 0, 0, 0, [], [])),
  (1, (.tableswitch 107 0 5 #[39, 47, 67, 72, 95, 101], 40, 108, 0, 0, 0, [(0, 40), (1, 48), (2, 68), (3, 73), (4, 96), (5, 102)], [])),
  (40, (.aload_n 0, 41, 0, 0, 0, 0, [], [])),
  (41, (.getfield 7, 44, 6, 0, 0, 0, [], [826])),
  (44, (.bipush 33, 46, 0, 0, 33, 0, [], [])),
  (46, (.iaload, 47, 0, 0, 0, 0, [], [])),
  (47, (.ireturn, 48, 0, 0, 0, 0, [], [])),
  (48, (.aload_n 0, 49, 0, 0, 0, 0, [], [])),
  (49, (.getfield 16, 52, 6, 2, 0, 0, [], [828])),
  (52, (.iconst 0, 53, 0, 0, 0, 0, [], [])),
  (53, (.baload, 54, 0, 0, 0, 0, [], [])),
  (54, (.invokestatic 165, 57, 115, 1, 0, 0, [], [998, 82, 996, 997])),
  (57, (.aload_n 0, 58, 0, 0, 0, 0, [], [])),
  (58, (.getfield 16, 61, 6, 2, 0, 0, [], [828])),
  (61, (.iconst 1, 62, 0, 0, 1, 0, [], [])),
  (62, (.baload, 63, 0, 0, 0, 0, [], [])),
  (63, (.invokestatic 165, 66, 115, 1, 0, 0, [], [998, 82, 996, 997])),
  (66, (.iadd, 67, 0, 0, 0, 0, [], [])),
  (67, (.ireturn, 68, 0, 0, 0, 0, [], [])),
  (68, (.aload_n 0, 69, 0, 0, 0, 0, [], [])),
  (69, (.getfield 69, 72, 6, 7, 0, 0, [], [833])),
  (72, (.ireturn, 73, 0, 0, 0, 0, [], [])),
  (73, (.aload_n 0, 74, 0, 0, 0, 0, [], [])),
  (74, (.getfield 38, 77, 6, 23, 0, 0, [], [849])),
  (77, (.iconst 0, 78, 0, 0, 0, 0, [], [])),
  (78, (.iaload, 79, 0, 0, 0, 0, [], [])),
  (79, (.bipush (-4), 81, 0, 0, (-4), 0, [], [])),
  (81, (.if_icmp .ne 8, 84, 89, 0, 0, 0, [], [])),
  (84, (.bipush (-4), 86, 0, 0, (-4), 0, [], [])),
  (86, (.goto 9, 89, 95, 0, 0, 0, [], [])),
  (89, (.aload_n 0, 90, 0, 0, 0, 0, [], [])),
  (90, (.getfield 41, 93, 6, 24, 0, 0, [], [850])),
  (93, (.iconst 0, 94, 0, 0, 0, 0, [], [])),
  (94, (.iaload, 95, 0, 0, 0, 0, [], [])),
  (95, (.ireturn, 96, 0, 0, 0, 0, [], [])),
  (96, (.aload_n 0, 97, 0, 0, 0, 0, [], [])),
  (97, (.iconst 1, 98, 0, 0, 1, 0, [], [])),
  (98, (.invokevirtual 299, 101, 199, 2, 0, 0, [], [1263, 82, 1260, 1262, 74, 6])),
  (101, (.ireturn, 102, 0, 0, 0, 0, [], [])),
  (102, (.aload_n 0, 103, 0, 0, 0, 0, [], [])),
  (103, (.iconst 2, 104, 0, 0, 2, 0, [], [])),
  (104, (.invokevirtual 299, 107, 199, 2, 0, 0, [], [1263, 82, 1260, 1262, 74, 6])),
  (107, (.ireturn, 108, 0, 0, 0, 0, [], [])),
  (108, (.iconst (-1), 109, 0, 0, (-1), 0, [], [])),
  (109, (.ireturn, 110, 0, 0, 0, 0, [], []))]
def mX6_count : hd_I := (RX6, yX6_count, cX6_count, 2, (some .int), 2, pX6_count)
end
section
/-! printed by wip/whole/gen.py: all methods -/
def hd_T : List hd_I := [mX0_clear, mX0_copyFrom, mX0_copyOrdered, mX0_copyDayOf, mX0_copyThing, mX0_isAllIn, mX0_isGone, mX0_add, mX0_change, mX0_bringAllIn, mX0_shrinkTo, mX0_takeAway, mX0_layOnTop, mX0_exchange, mX0_exchangeIn, mX0_bearsOf, mX0_weightBehind, mX0_isCrushed, mX0_cheersOf, mX0_cheersUnder, mX0_lastsOf, mX0_tallyCheers, mX0_pass, mX0_passOne, mX0_blow, mX0_outBits, mX0_crushedBits, mX0_sumOf, mX2_add, mX2_copyFrom, mX3_renew, mX3_faultAt, mX3_faultOfThree, mX3_put, mX4_append, mX4_tell, mX4_refuse, mX4_takeLine, mX4_takeMood, mX4_takeTire, mX4_takeThing, mX4_takeNumber, mX4_takeStop, mX4_takeToken, mX4_tellNumber, mX4_sortAt, mX4_wordTaken, mX4_isWord, mX5_feed, mX5_end, mX5_text, mX5_fault, mX5_rule, mX5_thing, mX5_alter, mX5_mood, mX5_tire, mX5_pack, mX5_strap, mX5_lift, mX5_hours, mX5_runs, mX5_gone, mX5_glad, mX5_order, mX5_leave, mX5_top, mX5_swap, mX5_need, mX5_kind, mX5_bear, mX5_luck, mX5_mean, mX5_see, mX5_forget, mX5_kinds, mX5_goods, mX5_ask, mX5_drift, mX5_keep, mX5_back, mX5_sheet, mX5_lay, mX5_read, mX5_torn, mX5_count, mX5_isWithin, mX5_isMood, mX5_isSpan, mX5_isOdds, mX5_isSheet, mX5_isLane, mX5_isThing, mX5_isTrait, mX5_startTrial, mX5_moodBehind, mX5_moodWith, mX5_outBehind, mX5_utmostMood, mX5_firstAtZero, mX5_bestOfOne, mX5_foundOrBest, mX5_findBestRow, mX5_stepRow, mX5_exchangeInRow, mX5_moodUnderLids, mX5_waysOfLids, mX5_partOfFraction, mX5_traitsAsSeen, mX5_isAsSeen, mX5_fillLooks, mX5_mostAlike, mX5_alikeWith, mX5_imagesMade, mX6_in, mX6_flag, mX6_firstDraft, mX6_keepDraft, mX6_feed, mX6_end, mX6_requires, mX6_byteAt, mX6_is, mX6_endsIn, mX6_lineNow, mX6_reads, mX6_readNumber, mX6_readLineOf, mX6_readLine, mX6_text, mX6_fault, mX6_isThing, mX6_isMood, mX6_isPart, mX6_allAreIn, mX6_starts, mX6_settles, mX6_of, mX6_becomesOf, mX6_bears, mX6_laidOn, mX6_isCrushed, mX6_cheers, mX6_lasts, mX6_hourGoes, mX6_hoursGo, mX6_moodBehind, mX6_outNow, mX6_allGoIn, mX6_rule, mX6_thing, mX6_becomes, mX6_alter, mX6_mood, mX6_tire, mX6_pack, mX6_strap, mX6_lift, mX6_hours, mX6_isFar, mX6_runs, mX6_isGone, mX6_gone, mX6_glad, mX6_startsJudging, mX6_judges, mX6_judged, mX6_lays, mX6_isRow, mX6_findOrder, mX6_order, mX6_closes, mX6_leave, mX6_top, mX6_swap, mX6_need, mX6_kind, mX6_bear, mX6_common, mX6_told, mX6_findOdds, mX6_luck, mX6_mean, mX6_see, mX6_forget, mX6_isSoWith, mX6_which, mX6_kinds, mX6_goods, mX6_ask, mX6_drift, mX6_copies, mX6_keep, mX6_back, mX6_isSheet, mX6_sheet, mX6_lay, mX6_read, mX6_torn, mX6_sumOf, mX6_count, mJ6_bitCount_0f7a4, mJ0_length_8abf5, mJ0_charAt_5068e, mJ0_coder_7d493, mJ0_isLatin1_aae02, mJ0_checkIndex_df160, mJ1_charAt_3b067, mJ3_checkIndex_8e157]
end
section
/-! printed by wip/whole/gen.py: each table is as the bytes and the words are -/
set_option maxRecDepth 100000 in
theorem kX0_clear : hd_okL mX0_clear (hd_pg mX0_clear) = true := by decide +kernel
set_option maxRecDepth 100000 in
theorem kX0_copyFrom : hd_okL mX0_copyFrom (hd_pg mX0_copyFrom) = true := by decide +kernel
set_option maxRecDepth 100000 in
theorem qX0_copyFrom : hd_okC hd_T mX0_copyFrom (hd_pg mX0_copyFrom) = true := by decide +kernel
set_option maxRecDepth 100000 in
theorem kX0_copyOrdered : hd_okL mX0_copyOrdered (hd_pg mX0_copyOrdered) = true := by decide +kernel
set_option maxRecDepth 100000 in
theorem qX0_copyOrdered : hd_okC hd_T mX0_copyOrdered (hd_pg mX0_copyOrdered) = true := by decide +kernel
set_option maxRecDepth 100000 in
theorem kX0_copyDayOf : hd_okL mX0_copyDayOf (hd_pg mX0_copyDayOf) = true := by decide +kernel
set_option maxRecDepth 100000 in
theorem kX0_copyThing : hd_okL mX0_copyThing (hd_pg mX0_copyThing) = true := by decide +kernel
set_option maxRecDepth 100000 in
theorem kX0_isAllIn : hd_okL mX0_isAllIn (hd_pg mX0_isAllIn) = true := by decide +kernel
set_option maxRecDepth 100000 in
theorem kX0_isGone : hd_okL mX0_isGone (hd_pg mX0_isGone) = true := by decide +kernel
set_option maxRecDepth 100000 in
theorem kX0_add : hd_okL mX0_add (hd_pg mX0_add) = true := by decide +kernel
set_option maxRecDepth 100000 in
theorem kX0_change : hd_okL mX0_change (hd_pg mX0_change) = true := by decide +kernel
set_option maxRecDepth 100000 in
theorem kX0_bringAllIn : hd_okL mX0_bringAllIn (hd_pg mX0_bringAllIn) = true := by decide +kernel
set_option maxRecDepth 100000 in
theorem kX0_shrinkTo : hd_okL mX0_shrinkTo (hd_pg mX0_shrinkTo) = true := by decide +kernel
set_option maxRecDepth 100000 in
theorem kX0_takeAway : hd_okL mX0_takeAway (hd_pg mX0_takeAway) = true := by decide +kernel
set_option maxRecDepth 100000 in
theorem qX0_takeAway : hd_okC hd_T mX0_takeAway (hd_pg mX0_takeAway) = true := by decide +kernel
set_option maxRecDepth 100000 in
theorem kX0_layOnTop : hd_okL mX0_layOnTop (hd_pg mX0_layOnTop) = true := by decide +kernel
set_option maxRecDepth 100000 in
theorem qX0_layOnTop : hd_okC hd_T mX0_layOnTop (hd_pg mX0_layOnTop) = true := by decide +kernel
set_option maxRecDepth 100000 in
theorem kX0_exchange : hd_okL mX0_exchange (hd_pg mX0_exchange) = true := by decide +kernel
set_option maxRecDepth 100000 in
theorem qX0_exchange : hd_okC hd_T mX0_exchange (hd_pg mX0_exchange) = true := by decide +kernel
set_option maxRecDepth 100000 in
theorem kX0_exchangeIn : hd_okL mX0_exchangeIn (hd_pg mX0_exchangeIn) = true := by decide +kernel
set_option maxRecDepth 100000 in
theorem kX0_bearsOf : hd_okL mX0_bearsOf (hd_pg mX0_bearsOf) = true := by decide +kernel
set_option maxRecDepth 100000 in
theorem kX0_weightBehind : hd_okL mX0_weightBehind (hd_pg mX0_weightBehind) = true := by decide +kernel
set_option maxRecDepth 100000 in
theorem kX0_isCrushed : hd_okL mX0_isCrushed (hd_pg mX0_isCrushed) = true := by decide +kernel
set_option maxRecDepth 100000 in
theorem qX0_isCrushed : hd_okC hd_T mX0_isCrushed (hd_pg mX0_isCrushed) = true := by decide +kernel
set_option maxRecDepth 100000 in
theorem kX0_cheersOf : hd_okL mX0_cheersOf (hd_pg mX0_cheersOf) = true := by decide +kernel
set_option maxRecDepth 100000 in
theorem qX0_cheersOf : hd_okC hd_T mX0_cheersOf (hd_pg mX0_cheersOf) = true := by decide +kernel
set_option maxRecDepth 100000 in
theorem kX0_cheersUnder : hd_okL mX0_cheersUnder (hd_pg mX0_cheersUnder) = true := by decide +kernel
set_option maxRecDepth 100000 in
theorem qX0_cheersUnder : hd_okC hd_T mX0_cheersUnder (hd_pg mX0_cheersUnder) = true := by decide +kernel
set_option maxRecDepth 100000 in
theorem kX0_lastsOf : hd_okL mX0_lastsOf (hd_pg mX0_lastsOf) = true := by decide +kernel
set_option maxRecDepth 100000 in
theorem kX0_tallyCheers : hd_okL mX0_tallyCheers (hd_pg mX0_tallyCheers) = true := by decide +kernel
set_option maxRecDepth 100000 in
theorem qX0_tallyCheers : hd_okC hd_T mX0_tallyCheers (hd_pg mX0_tallyCheers) = true := by decide +kernel
set_option maxRecDepth 100000 in
theorem kX0_pass : hd_okL mX0_pass (hd_pg mX0_pass) = true := by decide +kernel
set_option maxRecDepth 100000 in
theorem qX0_pass : hd_okC hd_T mX0_pass (hd_pg mX0_pass) = true := by decide +kernel
set_option maxRecDepth 100000 in
theorem kX0_passOne : hd_okL mX0_passOne (hd_pg mX0_passOne) = true := by decide +kernel
set_option maxRecDepth 100000 in
theorem qX0_passOne : hd_okC hd_T mX0_passOne (hd_pg mX0_passOne) = true := by decide +kernel
set_option maxRecDepth 100000 in
theorem kX0_blow : hd_okL mX0_blow (hd_pg mX0_blow) = true := by decide +kernel
set_option maxRecDepth 100000 in
theorem qX0_blow : hd_okC hd_T mX0_blow (hd_pg mX0_blow) = true := by decide +kernel
set_option maxRecDepth 100000 in
theorem kX0_outBits : hd_okL mX0_outBits (hd_pg mX0_outBits) = true := by decide +kernel
set_option maxRecDepth 100000 in
theorem kX0_crushedBits : hd_okL mX0_crushedBits (hd_pg mX0_crushedBits) = true := by decide +kernel
set_option maxRecDepth 100000 in
theorem qX0_crushedBits : hd_okC hd_T mX0_crushedBits (hd_pg mX0_crushedBits) = true := by decide +kernel
set_option maxRecDepth 100000 in
theorem kX0_sumOf : hd_okL mX0_sumOf (hd_pg mX0_sumOf) = true := by decide +kernel
set_option maxRecDepth 100000 in
theorem kX2_add : hd_okL mX2_add (hd_pg mX2_add) = true := by decide +kernel
set_option maxRecDepth 100000 in
theorem kX2_copyFrom : hd_okL mX2_copyFrom (hd_pg mX2_copyFrom) = true := by decide +kernel
set_option maxRecDepth 100000 in
theorem kX3_renew : hd_okL mX3_renew (hd_pg mX3_renew) = true := by decide +kernel
set_option maxRecDepth 100000 in
theorem kX3_faultAt : hd_okL mX3_faultAt (hd_pg mX3_faultAt) = true := by decide +kernel
set_option maxRecDepth 100000 in
theorem kX3_faultOfThree : hd_okL mX3_faultOfThree (hd_pg mX3_faultOfThree) = true := by decide +kernel
set_option maxRecDepth 100000 in
theorem kX3_put : hd_okL mX3_put (hd_pg mX3_put) = true := by decide +kernel
set_option maxRecDepth 100000 in
theorem kX4_append : hd_okL mX4_append (hd_pg mX4_append) = true := by decide +kernel
set_option maxRecDepth 100000 in
theorem kX4_tell : hd_okL mX4_tell (hd_pg mX4_tell) = true := by decide +kernel
set_option maxRecDepth 100000 in
theorem qX4_tell : hd_okC hd_T mX4_tell (hd_pg mX4_tell) = true := by decide +kernel
set_option maxRecDepth 100000 in
theorem kX4_refuse : hd_okL mX4_refuse (hd_pg mX4_refuse) = true := by decide +kernel
set_option maxRecDepth 100000 in
theorem kX4_takeLine : hd_okL mX4_takeLine (hd_pg mX4_takeLine) = true := by decide +kernel
set_option maxRecDepth 100000 in
theorem qX4_takeLine : hd_okC hd_T mX4_takeLine (hd_pg mX4_takeLine) = true := by decide +kernel
set_option maxRecDepth 100000 in
theorem kX4_takeMood : hd_okL mX4_takeMood (hd_pg mX4_takeMood) = true := by decide +kernel
set_option maxRecDepth 100000 in
theorem qX4_takeMood : hd_okC hd_T mX4_takeMood (hd_pg mX4_takeMood) = true := by decide +kernel
set_option maxRecDepth 100000 in
theorem kX4_takeTire : hd_okL mX4_takeTire (hd_pg mX4_takeTire) = true := by decide +kernel
set_option maxRecDepth 100000 in
theorem qX4_takeTire : hd_okC hd_T mX4_takeTire (hd_pg mX4_takeTire) = true := by decide +kernel
set_option maxRecDepth 100000 in
theorem kX4_takeThing : hd_okL mX4_takeThing (hd_pg mX4_takeThing) = true := by decide +kernel
set_option maxRecDepth 100000 in
theorem qX4_takeThing : hd_okC hd_T mX4_takeThing (hd_pg mX4_takeThing) = true := by decide +kernel
set_option maxRecDepth 100000 in
theorem kX4_takeNumber : hd_okL mX4_takeNumber (hd_pg mX4_takeNumber) = true := by decide +kernel
set_option maxRecDepth 100000 in
theorem qX4_takeNumber : hd_okC hd_T mX4_takeNumber (hd_pg mX4_takeNumber) = true := by decide +kernel
set_option maxRecDepth 100000 in
theorem kX4_takeStop : hd_okL mX4_takeStop (hd_pg mX4_takeStop) = true := by decide +kernel
set_option maxRecDepth 100000 in
theorem qX4_takeStop : hd_okC hd_T mX4_takeStop (hd_pg mX4_takeStop) = true := by decide +kernel
set_option maxRecDepth 100000 in
theorem kX4_takeToken : hd_okL mX4_takeToken (hd_pg mX4_takeToken) = true := by decide +kernel
set_option maxRecDepth 100000 in
theorem qX4_takeToken : hd_okC hd_T mX4_takeToken (hd_pg mX4_takeToken) = true := by decide +kernel
set_option maxRecDepth 100000 in
theorem kX4_tellNumber : hd_okL mX4_tellNumber (hd_pg mX4_tellNumber) = true := by decide +kernel
set_option maxRecDepth 100000 in
theorem qX4_tellNumber : hd_okC hd_T mX4_tellNumber (hd_pg mX4_tellNumber) = true := by decide +kernel
set_option maxRecDepth 100000 in
theorem kX4_sortAt : hd_okL mX4_sortAt (hd_pg mX4_sortAt) = true := by decide +kernel
set_option maxRecDepth 100000 in
theorem kX4_wordTaken : hd_okL mX4_wordTaken (hd_pg mX4_wordTaken) = true := by decide +kernel
set_option maxRecDepth 100000 in
theorem qX4_wordTaken : hd_okC hd_T mX4_wordTaken (hd_pg mX4_wordTaken) = true := by decide +kernel
set_option maxRecDepth 100000 in
theorem kX4_isWord : hd_okL mX4_isWord (hd_pg mX4_isWord) = true := by decide +kernel
set_option maxRecDepth 100000 in
theorem kX5_feed : hd_okL mX5_feed (hd_pg mX5_feed) = true := by decide +kernel
set_option maxRecDepth 100000 in
theorem qX5_feed : hd_okC hd_T mX5_feed (hd_pg mX5_feed) = true := by decide +kernel
set_option maxRecDepth 100000 in
theorem kX5_end : hd_okL mX5_end (hd_pg mX5_end) = true := by decide +kernel
set_option maxRecDepth 100000 in
theorem qX5_end : hd_okC hd_T mX5_end (hd_pg mX5_end) = true := by decide +kernel
set_option maxRecDepth 100000 in
theorem kX5_text : hd_okL mX5_text (hd_pg mX5_text) = true := by decide +kernel
set_option maxRecDepth 100000 in
theorem qX5_text : hd_okC hd_T mX5_text (hd_pg mX5_text) = true := by decide +kernel
set_option maxRecDepth 100000 in
theorem kX5_fault : hd_okL mX5_fault (hd_pg mX5_fault) = true := by decide +kernel
set_option maxRecDepth 100000 in
theorem kX5_rule : hd_okL mX5_rule (hd_pg mX5_rule) = true := by decide +kernel
set_option maxRecDepth 100000 in
theorem qX5_rule : hd_okC hd_T mX5_rule (hd_pg mX5_rule) = true := by decide +kernel
set_option maxRecDepth 100000 in
theorem kX5_thing : hd_okL mX5_thing (hd_pg mX5_thing) = true := by decide +kernel
set_option maxRecDepth 100000 in
theorem qX5_thing : hd_okC hd_T mX5_thing (hd_pg mX5_thing) = true := by decide +kernel
set_option maxRecDepth 100000 in
theorem kX5_alter : hd_okL mX5_alter (hd_pg mX5_alter) = true := by decide +kernel
set_option maxRecDepth 100000 in
theorem qX5_alter : hd_okC hd_T mX5_alter (hd_pg mX5_alter) = true := by decide +kernel
set_option maxRecDepth 100000 in
theorem kX5_mood : hd_okL mX5_mood (hd_pg mX5_mood) = true := by decide +kernel
set_option maxRecDepth 100000 in
theorem qX5_mood : hd_okC hd_T mX5_mood (hd_pg mX5_mood) = true := by decide +kernel
set_option maxRecDepth 100000 in
theorem kX5_tire : hd_okL mX5_tire (hd_pg mX5_tire) = true := by decide +kernel
set_option maxRecDepth 100000 in
theorem qX5_tire : hd_okC hd_T mX5_tire (hd_pg mX5_tire) = true := by decide +kernel
set_option maxRecDepth 100000 in
theorem kX5_pack : hd_okL mX5_pack (hd_pg mX5_pack) = true := by decide +kernel
set_option maxRecDepth 100000 in
theorem qX5_pack : hd_okC hd_T mX5_pack (hd_pg mX5_pack) = true := by decide +kernel
set_option maxRecDepth 100000 in
theorem kX5_strap : hd_okL mX5_strap (hd_pg mX5_strap) = true := by decide +kernel
set_option maxRecDepth 100000 in
theorem qX5_strap : hd_okC hd_T mX5_strap (hd_pg mX5_strap) = true := by decide +kernel
set_option maxRecDepth 100000 in
theorem kX5_lift : hd_okL mX5_lift (hd_pg mX5_lift) = true := by decide +kernel
set_option maxRecDepth 100000 in
theorem qX5_lift : hd_okC hd_T mX5_lift (hd_pg mX5_lift) = true := by decide +kernel
set_option maxRecDepth 100000 in
theorem kX5_hours : hd_okL mX5_hours (hd_pg mX5_hours) = true := by decide +kernel
set_option maxRecDepth 100000 in
theorem qX5_hours : hd_okC hd_T mX5_hours (hd_pg mX5_hours) = true := by decide +kernel
set_option maxRecDepth 100000 in
theorem kX5_runs : hd_okL mX5_runs (hd_pg mX5_runs) = true := by decide +kernel
set_option maxRecDepth 100000 in
theorem qX5_runs : hd_okC hd_T mX5_runs (hd_pg mX5_runs) = true := by decide +kernel
end
section
/-! printed by wip/whole/gen.py: each table is as the bytes and the words are -/
set_option maxRecDepth 100000 in
theorem kX5_gone : hd_okL mX5_gone (hd_pg mX5_gone) = true := by decide +kernel
set_option maxRecDepth 100000 in
theorem qX5_gone : hd_okC hd_T mX5_gone (hd_pg mX5_gone) = true := by decide +kernel
set_option maxRecDepth 100000 in
theorem kX5_glad : hd_okL mX5_glad (hd_pg mX5_glad) = true := by decide +kernel
set_option maxRecDepth 100000 in
theorem qX5_glad : hd_okC hd_T mX5_glad (hd_pg mX5_glad) = true := by decide +kernel
set_option maxRecDepth 100000 in
theorem kX5_order : hd_okL mX5_order (hd_pg mX5_order) = true := by decide +kernel
set_option maxRecDepth 100000 in
theorem qX5_order : hd_okC hd_T mX5_order (hd_pg mX5_order) = true := by decide +kernel
set_option maxRecDepth 100000 in
theorem kX5_leave : hd_okL mX5_leave (hd_pg mX5_leave) = true := by decide +kernel
set_option maxRecDepth 100000 in
theorem qX5_leave : hd_okC hd_T mX5_leave (hd_pg mX5_leave) = true := by decide +kernel
set_option maxRecDepth 100000 in
theorem kX5_top : hd_okL mX5_top (hd_pg mX5_top) = true := by decide +kernel
set_option maxRecDepth 100000 in
theorem qX5_top : hd_okC hd_T mX5_top (hd_pg mX5_top) = true := by decide +kernel
set_option maxRecDepth 100000 in
theorem kX5_swap : hd_okL mX5_swap (hd_pg mX5_swap) = true := by decide +kernel
set_option maxRecDepth 100000 in
theorem qX5_swap : hd_okC hd_T mX5_swap (hd_pg mX5_swap) = true := by decide +kernel
set_option maxRecDepth 100000 in
theorem kX5_need : hd_okL mX5_need (hd_pg mX5_need) = true := by decide +kernel
set_option maxRecDepth 100000 in
theorem qX5_need : hd_okC hd_T mX5_need (hd_pg mX5_need) = true := by decide +kernel
set_option maxRecDepth 100000 in
theorem kX5_kind : hd_okL mX5_kind (hd_pg mX5_kind) = true := by decide +kernel
set_option maxRecDepth 100000 in
theorem qX5_kind : hd_okC hd_T mX5_kind (hd_pg mX5_kind) = true := by decide +kernel
set_option maxRecDepth 100000 in
theorem kX5_bear : hd_okL mX5_bear (hd_pg mX5_bear) = true := by decide +kernel
set_option maxRecDepth 100000 in
theorem qX5_bear : hd_okC hd_T mX5_bear (hd_pg mX5_bear) = true := by decide +kernel
set_option maxRecDepth 100000 in
theorem kX5_luck : hd_okL mX5_luck (hd_pg mX5_luck) = true := by decide +kernel
set_option maxRecDepth 100000 in
theorem qX5_luck : hd_okC hd_T mX5_luck (hd_pg mX5_luck) = true := by decide +kernel
set_option maxRecDepth 100000 in
theorem kX5_mean : hd_okL mX5_mean (hd_pg mX5_mean) = true := by decide +kernel
set_option maxRecDepth 100000 in
theorem qX5_mean : hd_okC hd_T mX5_mean (hd_pg mX5_mean) = true := by decide +kernel
set_option maxRecDepth 100000 in
theorem kX5_see : hd_okL mX5_see (hd_pg mX5_see) = true := by decide +kernel
set_option maxRecDepth 100000 in
theorem qX5_see : hd_okC hd_T mX5_see (hd_pg mX5_see) = true := by decide +kernel
set_option maxRecDepth 100000 in
theorem kX5_forget : hd_okL mX5_forget (hd_pg mX5_forget) = true := by decide +kernel
set_option maxRecDepth 100000 in
theorem qX5_forget : hd_okC hd_T mX5_forget (hd_pg mX5_forget) = true := by decide +kernel
set_option maxRecDepth 100000 in
theorem kX5_kinds : hd_okL mX5_kinds (hd_pg mX5_kinds) = true := by decide +kernel
set_option maxRecDepth 100000 in
theorem qX5_kinds : hd_okC hd_T mX5_kinds (hd_pg mX5_kinds) = true := by decide +kernel
set_option maxRecDepth 100000 in
theorem kX5_goods : hd_okL mX5_goods (hd_pg mX5_goods) = true := by decide +kernel
set_option maxRecDepth 100000 in
theorem qX5_goods : hd_okC hd_T mX5_goods (hd_pg mX5_goods) = true := by decide +kernel
set_option maxRecDepth 100000 in
theorem kX5_ask : hd_okL mX5_ask (hd_pg mX5_ask) = true := by decide +kernel
set_option maxRecDepth 100000 in
theorem qX5_ask : hd_okC hd_T mX5_ask (hd_pg mX5_ask) = true := by decide +kernel
set_option maxRecDepth 100000 in
theorem kX5_drift : hd_okL mX5_drift (hd_pg mX5_drift) = true := by decide +kernel
set_option maxRecDepth 100000 in
theorem qX5_drift : hd_okC hd_T mX5_drift (hd_pg mX5_drift) = true := by decide +kernel
set_option maxRecDepth 100000 in
theorem kX5_keep : hd_okL mX5_keep (hd_pg mX5_keep) = true := by decide +kernel
set_option maxRecDepth 100000 in
theorem qX5_keep : hd_okC hd_T mX5_keep (hd_pg mX5_keep) = true := by decide +kernel
set_option maxRecDepth 100000 in
theorem kX5_back : hd_okL mX5_back (hd_pg mX5_back) = true := by decide +kernel
set_option maxRecDepth 100000 in
theorem qX5_back : hd_okC hd_T mX5_back (hd_pg mX5_back) = true := by decide +kernel
set_option maxRecDepth 100000 in
theorem kX5_sheet : hd_okL mX5_sheet (hd_pg mX5_sheet) = true := by decide +kernel
set_option maxRecDepth 100000 in
theorem qX5_sheet : hd_okC hd_T mX5_sheet (hd_pg mX5_sheet) = true := by decide +kernel
set_option maxRecDepth 100000 in
theorem kX5_lay : hd_okL mX5_lay (hd_pg mX5_lay) = true := by decide +kernel
set_option maxRecDepth 100000 in
theorem qX5_lay : hd_okC hd_T mX5_lay (hd_pg mX5_lay) = true := by decide +kernel
set_option maxRecDepth 100000 in
theorem kX5_read : hd_okL mX5_read (hd_pg mX5_read) = true := by decide +kernel
set_option maxRecDepth 100000 in
theorem qX5_read : hd_okC hd_T mX5_read (hd_pg mX5_read) = true := by decide +kernel
set_option maxRecDepth 100000 in
theorem kX5_torn : hd_okL mX5_torn (hd_pg mX5_torn) = true := by decide +kernel
set_option maxRecDepth 100000 in
theorem kX5_count : hd_okL mX5_count (hd_pg mX5_count) = true := by decide +kernel
set_option maxRecDepth 100000 in
theorem qX5_count : hd_okC hd_T mX5_count (hd_pg mX5_count) = true := by decide +kernel
set_option maxRecDepth 100000 in
theorem kX5_isWithin : hd_okL mX5_isWithin (hd_pg mX5_isWithin) = true := by decide +kernel
set_option maxRecDepth 100000 in
theorem kX5_isMood : hd_okL mX5_isMood (hd_pg mX5_isMood) = true := by decide +kernel
set_option maxRecDepth 100000 in
theorem qX5_isMood : hd_okC hd_T mX5_isMood (hd_pg mX5_isMood) = true := by decide +kernel
set_option maxRecDepth 100000 in
theorem kX5_isSpan : hd_okL mX5_isSpan (hd_pg mX5_isSpan) = true := by decide +kernel
set_option maxRecDepth 100000 in
theorem qX5_isSpan : hd_okC hd_T mX5_isSpan (hd_pg mX5_isSpan) = true := by decide +kernel
set_option maxRecDepth 100000 in
theorem kX5_isOdds : hd_okL mX5_isOdds (hd_pg mX5_isOdds) = true := by decide +kernel
set_option maxRecDepth 100000 in
theorem qX5_isOdds : hd_okC hd_T mX5_isOdds (hd_pg mX5_isOdds) = true := by decide +kernel
set_option maxRecDepth 100000 in
theorem kX5_isSheet : hd_okL mX5_isSheet (hd_pg mX5_isSheet) = true := by decide +kernel
set_option maxRecDepth 100000 in
theorem qX5_isSheet : hd_okC hd_T mX5_isSheet (hd_pg mX5_isSheet) = true := by decide +kernel
set_option maxRecDepth 100000 in
theorem kX5_isLane : hd_okL mX5_isLane (hd_pg mX5_isLane) = true := by decide +kernel
set_option maxRecDepth 100000 in
theorem qX5_isLane : hd_okC hd_T mX5_isLane (hd_pg mX5_isLane) = true := by decide +kernel
set_option maxRecDepth 100000 in
theorem kX5_isThing : hd_okL mX5_isThing (hd_pg mX5_isThing) = true := by decide +kernel
set_option maxRecDepth 100000 in
theorem kX5_isTrait : hd_okL mX5_isTrait (hd_pg mX5_isTrait) = true := by decide +kernel
set_option maxRecDepth 100000 in
theorem qX5_isTrait : hd_okC hd_T mX5_isTrait (hd_pg mX5_isTrait) = true := by decide +kernel
set_option maxRecDepth 100000 in
theorem kX5_startTrial : hd_okL mX5_startTrial (hd_pg mX5_startTrial) = true := by decide +kernel
set_option maxRecDepth 100000 in
theorem qX5_startTrial : hd_okC hd_T mX5_startTrial (hd_pg mX5_startTrial) = true := by decide +kernel
set_option maxRecDepth 100000 in
theorem kX5_moodBehind : hd_okL mX5_moodBehind (hd_pg mX5_moodBehind) = true := by decide +kernel
set_option maxRecDepth 100000 in
theorem qX5_moodBehind : hd_okC hd_T mX5_moodBehind (hd_pg mX5_moodBehind) = true := by decide +kernel
set_option maxRecDepth 100000 in
theorem kX5_moodWith : hd_okL mX5_moodWith (hd_pg mX5_moodWith) = true := by decide +kernel
set_option maxRecDepth 100000 in
theorem qX5_moodWith : hd_okC hd_T mX5_moodWith (hd_pg mX5_moodWith) = true := by decide +kernel
set_option maxRecDepth 100000 in
theorem kX5_outBehind : hd_okL mX5_outBehind (hd_pg mX5_outBehind) = true := by decide +kernel
set_option maxRecDepth 100000 in
theorem qX5_outBehind : hd_okC hd_T mX5_outBehind (hd_pg mX5_outBehind) = true := by decide +kernel
set_option maxRecDepth 100000 in
theorem kX5_utmostMood : hd_okL mX5_utmostMood (hd_pg mX5_utmostMood) = true := by decide +kernel
set_option maxRecDepth 100000 in
theorem qX5_utmostMood : hd_okC hd_T mX5_utmostMood (hd_pg mX5_utmostMood) = true := by decide +kernel
set_option maxRecDepth 100000 in
theorem kX5_firstAtZero : hd_okL mX5_firstAtZero (hd_pg mX5_firstAtZero) = true := by decide +kernel
set_option maxRecDepth 100000 in
theorem qX5_firstAtZero : hd_okC hd_T mX5_firstAtZero (hd_pg mX5_firstAtZero) = true := by decide +kernel
set_option maxRecDepth 100000 in
theorem kX5_bestOfOne : hd_okL mX5_bestOfOne (hd_pg mX5_bestOfOne) = true := by decide +kernel
set_option maxRecDepth 100000 in
theorem qX5_bestOfOne : hd_okC hd_T mX5_bestOfOne (hd_pg mX5_bestOfOne) = true := by decide +kernel
set_option maxRecDepth 100000 in
theorem kX5_foundOrBest : hd_okL mX5_foundOrBest (hd_pg mX5_foundOrBest) = true := by decide +kernel
set_option maxRecDepth 100000 in
theorem kX5_findBestRow : hd_okL mX5_findBestRow (hd_pg mX5_findBestRow) = true := by decide +kernel
set_option maxRecDepth 100000 in
theorem qX5_findBestRow : hd_okC hd_T mX5_findBestRow (hd_pg mX5_findBestRow) = true := by decide +kernel
set_option maxRecDepth 100000 in
theorem kX5_stepRow : hd_okL mX5_stepRow (hd_pg mX5_stepRow) = true := by decide +kernel
set_option maxRecDepth 100000 in
theorem qX5_stepRow : hd_okC hd_T mX5_stepRow (hd_pg mX5_stepRow) = true := by decide +kernel
set_option maxRecDepth 100000 in
theorem kX5_exchangeInRow : hd_okL mX5_exchangeInRow (hd_pg mX5_exchangeInRow) = true := by decide +kernel
set_option maxRecDepth 100000 in
theorem kX5_moodUnderLids : hd_okL mX5_moodUnderLids (hd_pg mX5_moodUnderLids) = true := by decide +kernel
set_option maxRecDepth 100000 in
theorem qX5_moodUnderLids : hd_okC hd_T mX5_moodUnderLids (hd_pg mX5_moodUnderLids) = true := by decide +kernel
set_option maxRecDepth 100000 in
theorem kX5_waysOfLids : hd_okL mX5_waysOfLids (hd_pg mX5_waysOfLids) = true := by decide +kernel
set_option maxRecDepth 100000 in
theorem kX5_partOfFraction : hd_okL mX5_partOfFraction (hd_pg mX5_partOfFraction) = true := by decide +kernel
set_option maxRecDepth 100000 in
theorem kX5_traitsAsSeen : hd_okL mX5_traitsAsSeen (hd_pg mX5_traitsAsSeen) = true := by decide +kernel
set_option maxRecDepth 100000 in
theorem qX5_traitsAsSeen : hd_okC hd_T mX5_traitsAsSeen (hd_pg mX5_traitsAsSeen) = true := by decide +kernel
set_option maxRecDepth 100000 in
theorem kX5_isAsSeen : hd_okL mX5_isAsSeen (hd_pg mX5_isAsSeen) = true := by decide +kernel
set_option maxRecDepth 100000 in
theorem qX5_isAsSeen : hd_okC hd_T mX5_isAsSeen (hd_pg mX5_isAsSeen) = true := by decide +kernel
set_option maxRecDepth 100000 in
theorem kX5_fillLooks : hd_okL mX5_fillLooks (hd_pg mX5_fillLooks) = true := by decide +kernel
set_option maxRecDepth 100000 in
theorem qX5_fillLooks : hd_okC hd_T mX5_fillLooks (hd_pg mX5_fillLooks) = true := by decide +kernel
set_option maxRecDepth 100000 in
theorem kX5_mostAlike : hd_okL mX5_mostAlike (hd_pg mX5_mostAlike) = true := by decide +kernel
set_option maxRecDepth 100000 in
theorem qX5_mostAlike : hd_okC hd_T mX5_mostAlike (hd_pg mX5_mostAlike) = true := by decide +kernel
set_option maxRecDepth 100000 in
theorem kX5_alikeWith : hd_okL mX5_alikeWith (hd_pg mX5_alikeWith) = true := by decide +kernel
set_option maxRecDepth 100000 in
theorem kX5_imagesMade : hd_okL mX5_imagesMade (hd_pg mX5_imagesMade) = true := by decide +kernel
end
section
/-! printed by wip/whole/gen.py: each table is as the bytes and the words are -/
set_option maxRecDepth 100000 in
theorem kX6_in : hd_okL mX6_in (hd_pg mX6_in) = true := by decide +kernel
set_option maxRecDepth 100000 in
theorem kX6_flag : hd_okL mX6_flag (hd_pg mX6_flag) = true := by decide +kernel
set_option maxRecDepth 100000 in
theorem kX6_firstDraft : hd_okL mX6_firstDraft (hd_pg mX6_firstDraft) = true := by decide +kernel
set_option maxRecDepth 100000 in
theorem kX6_keepDraft : hd_okL mX6_keepDraft (hd_pg mX6_keepDraft) = true := by decide +kernel
set_option maxRecDepth 100000 in
theorem kX6_feed : hd_okL mX6_feed (hd_pg mX6_feed) = true := by decide +kernel
set_option maxRecDepth 100000 in
theorem qX6_feed : hd_okC hd_T mX6_feed (hd_pg mX6_feed) = true := by decide +kernel
set_option maxRecDepth 100000 in
theorem kX6_end : hd_okL mX6_end (hd_pg mX6_end) = true := by decide +kernel
set_option maxRecDepth 100000 in
theorem qX6_end : hd_okC hd_T mX6_end (hd_pg mX6_end) = true := by decide +kernel
set_option maxRecDepth 100000 in
theorem kX6_requires : hd_okL mX6_requires (hd_pg mX6_requires) = true := by decide +kernel
set_option maxRecDepth 100000 in
theorem kX6_byteAt : hd_okL mX6_byteAt (hd_pg mX6_byteAt) = true := by decide +kernel
set_option maxRecDepth 100000 in
theorem kX6_is : hd_okL mX6_is (hd_pg mX6_is) = true := by decide +kernel
set_option maxRecDepth 100000 in
theorem qX6_is : hd_okC hd_T mX6_is (hd_pg mX6_is) = true := by decide +kernel
set_option maxRecDepth 100000 in
theorem kX6_endsIn : hd_okL mX6_endsIn (hd_pg mX6_endsIn) = true := by decide +kernel
set_option maxRecDepth 100000 in
theorem qX6_endsIn : hd_okC hd_T mX6_endsIn (hd_pg mX6_endsIn) = true := by decide +kernel
set_option maxRecDepth 100000 in
theorem kX6_lineNow : hd_okL mX6_lineNow (hd_pg mX6_lineNow) = true := by decide +kernel
set_option maxRecDepth 100000 in
theorem qX6_lineNow : hd_okC hd_T mX6_lineNow (hd_pg mX6_lineNow) = true := by decide +kernel
set_option maxRecDepth 100000 in
theorem kX6_reads : hd_okL mX6_reads (hd_pg mX6_reads) = true := by decide +kernel
set_option maxRecDepth 100000 in
theorem qX6_reads : hd_okC hd_T mX6_reads (hd_pg mX6_reads) = true := by decide +kernel
set_option maxRecDepth 100000 in
theorem kX6_readNumber : hd_okL mX6_readNumber (hd_pg mX6_readNumber) = true := by decide +kernel
set_option maxRecDepth 100000 in
theorem qX6_readNumber : hd_okC hd_T mX6_readNumber (hd_pg mX6_readNumber) = true := by decide +kernel
set_option maxRecDepth 100000 in
theorem kX6_readLineOf : hd_okL mX6_readLineOf (hd_pg mX6_readLineOf) = true := by decide +kernel
set_option maxRecDepth 100000 in
theorem qX6_readLineOf : hd_okC hd_T mX6_readLineOf (hd_pg mX6_readLineOf) = true := by decide +kernel
set_option maxRecDepth 100000 in
theorem kX6_readLine : hd_okL mX6_readLine (hd_pg mX6_readLine) = true := by decide +kernel
set_option maxRecDepth 100000 in
theorem qX6_readLine : hd_okC hd_T mX6_readLine (hd_pg mX6_readLine) = true := by decide +kernel
set_option maxRecDepth 100000 in
theorem kX6_text : hd_okL mX6_text (hd_pg mX6_text) = true := by decide +kernel
set_option maxRecDepth 100000 in
theorem qX6_text : hd_okC hd_T mX6_text (hd_pg mX6_text) = true := by decide +kernel
set_option maxRecDepth 100000 in
theorem kX6_fault : hd_okL mX6_fault (hd_pg mX6_fault) = true := by decide +kernel
set_option maxRecDepth 100000 in
theorem kX6_isThing : hd_okL mX6_isThing (hd_pg mX6_isThing) = true := by decide +kernel
set_option maxRecDepth 100000 in
theorem qX6_isThing : hd_okC hd_T mX6_isThing (hd_pg mX6_isThing) = true := by decide +kernel
set_option maxRecDepth 100000 in
theorem kX6_isMood : hd_okL mX6_isMood (hd_pg mX6_isMood) = true := by decide +kernel
set_option maxRecDepth 100000 in
theorem qX6_isMood : hd_okC hd_T mX6_isMood (hd_pg mX6_isMood) = true := by decide +kernel
set_option maxRecDepth 100000 in
theorem kX6_isPart : hd_okL mX6_isPart (hd_pg mX6_isPart) = true := by decide +kernel
set_option maxRecDepth 100000 in
theorem qX6_isPart : hd_okC hd_T mX6_isPart (hd_pg mX6_isPart) = true := by decide +kernel
set_option maxRecDepth 100000 in
theorem kX6_allAreIn : hd_okL mX6_allAreIn (hd_pg mX6_allAreIn) = true := by decide +kernel
set_option maxRecDepth 100000 in
theorem kX6_starts : hd_okL mX6_starts (hd_pg mX6_starts) = true := by decide +kernel
set_option maxRecDepth 100000 in
theorem kX6_settles : hd_okL mX6_settles (hd_pg mX6_settles) = true := by decide +kernel
set_option maxRecDepth 100000 in
theorem kX6_of : hd_okL mX6_of (hd_pg mX6_of) = true := by decide +kernel
set_option maxRecDepth 100000 in
theorem kX6_becomesOf : hd_okL mX6_becomesOf (hd_pg mX6_becomesOf) = true := by decide +kernel
set_option maxRecDepth 100000 in
theorem kX6_bears : hd_okL mX6_bears (hd_pg mX6_bears) = true := by decide +kernel
set_option maxRecDepth 100000 in
theorem qX6_bears : hd_okC hd_T mX6_bears (hd_pg mX6_bears) = true := by decide +kernel
set_option maxRecDepth 100000 in
theorem kX6_laidOn : hd_okL mX6_laidOn (hd_pg mX6_laidOn) = true := by decide +kernel
set_option maxRecDepth 100000 in
theorem qX6_laidOn : hd_okC hd_T mX6_laidOn (hd_pg mX6_laidOn) = true := by decide +kernel
set_option maxRecDepth 100000 in
theorem kX6_isCrushed : hd_okL mX6_isCrushed (hd_pg mX6_isCrushed) = true := by decide +kernel
set_option maxRecDepth 100000 in
theorem qX6_isCrushed : hd_okC hd_T mX6_isCrushed (hd_pg mX6_isCrushed) = true := by decide +kernel
set_option maxRecDepth 100000 in
theorem kX6_cheers : hd_okL mX6_cheers (hd_pg mX6_cheers) = true := by decide +kernel
set_option maxRecDepth 100000 in
theorem qX6_cheers : hd_okC hd_T mX6_cheers (hd_pg mX6_cheers) = true := by decide +kernel
set_option maxRecDepth 100000 in
theorem kX6_lasts : hd_okL mX6_lasts (hd_pg mX6_lasts) = true := by decide +kernel
set_option maxRecDepth 100000 in
theorem qX6_lasts : hd_okC hd_T mX6_lasts (hd_pg mX6_lasts) = true := by decide +kernel
set_option maxRecDepth 100000 in
theorem kX6_hourGoes : hd_okL mX6_hourGoes (hd_pg mX6_hourGoes) = true := by decide +kernel
set_option maxRecDepth 100000 in
theorem qX6_hourGoes : hd_okC hd_T mX6_hourGoes (hd_pg mX6_hourGoes) = true := by decide +kernel
set_option maxRecDepth 100000 in
theorem kX6_hoursGo : hd_okL mX6_hoursGo (hd_pg mX6_hoursGo) = true := by decide +kernel
set_option maxRecDepth 100000 in
theorem qX6_hoursGo : hd_okC hd_T mX6_hoursGo (hd_pg mX6_hoursGo) = true := by decide +kernel
set_option maxRecDepth 100000 in
theorem kX6_moodBehind : hd_okL mX6_moodBehind (hd_pg mX6_moodBehind) = true := by decide +kernel
set_option maxRecDepth 100000 in
theorem qX6_moodBehind : hd_okC hd_T mX6_moodBehind (hd_pg mX6_moodBehind) = true := by decide +kernel
set_option maxRecDepth 100000 in
theorem kX6_outNow : hd_okL mX6_outNow (hd_pg mX6_outNow) = true := by decide +kernel
set_option maxRecDepth 100000 in
theorem qX6_outNow : hd_okC hd_T mX6_outNow (hd_pg mX6_outNow) = true := by decide +kernel
set_option maxRecDepth 100000 in
theorem kX6_allGoIn : hd_okL mX6_allGoIn (hd_pg mX6_allGoIn) = true := by decide +kernel
set_option maxRecDepth 100000 in
theorem qX6_allGoIn : hd_okC hd_T mX6_allGoIn (hd_pg mX6_allGoIn) = true := by decide +kernel
set_option maxRecDepth 100000 in
theorem kX6_rule : hd_okL mX6_rule (hd_pg mX6_rule) = true := by decide +kernel
set_option maxRecDepth 100000 in
theorem qX6_rule : hd_okC hd_T mX6_rule (hd_pg mX6_rule) = true := by decide +kernel
set_option maxRecDepth 100000 in
theorem kX6_thing : hd_okL mX6_thing (hd_pg mX6_thing) = true := by decide +kernel
set_option maxRecDepth 100000 in
theorem qX6_thing : hd_okC hd_T mX6_thing (hd_pg mX6_thing) = true := by decide +kernel
set_option maxRecDepth 100000 in
theorem kX6_becomes : hd_okL mX6_becomes (hd_pg mX6_becomes) = true := by decide +kernel
set_option maxRecDepth 100000 in
theorem kX6_alter : hd_okL mX6_alter (hd_pg mX6_alter) = true := by decide +kernel
set_option maxRecDepth 100000 in
theorem qX6_alter : hd_okC hd_T mX6_alter (hd_pg mX6_alter) = true := by decide +kernel
set_option maxRecDepth 100000 in
theorem kX6_mood : hd_okL mX6_mood (hd_pg mX6_mood) = true := by decide +kernel
set_option maxRecDepth 100000 in
theorem qX6_mood : hd_okC hd_T mX6_mood (hd_pg mX6_mood) = true := by decide +kernel
set_option maxRecDepth 100000 in
theorem kX6_tire : hd_okL mX6_tire (hd_pg mX6_tire) = true := by decide +kernel
set_option maxRecDepth 100000 in
theorem qX6_tire : hd_okC hd_T mX6_tire (hd_pg mX6_tire) = true := by decide +kernel
set_option maxRecDepth 100000 in
theorem kX6_pack : hd_okL mX6_pack (hd_pg mX6_pack) = true := by decide +kernel
set_option maxRecDepth 100000 in
theorem qX6_pack : hd_okC hd_T mX6_pack (hd_pg mX6_pack) = true := by decide +kernel
set_option maxRecDepth 100000 in
theorem kX6_strap : hd_okL mX6_strap (hd_pg mX6_strap) = true := by decide +kernel
set_option maxRecDepth 100000 in
theorem qX6_strap : hd_okC hd_T mX6_strap (hd_pg mX6_strap) = true := by decide +kernel
set_option maxRecDepth 100000 in
theorem kX6_lift : hd_okL mX6_lift (hd_pg mX6_lift) = true := by decide +kernel
set_option maxRecDepth 100000 in
theorem qX6_lift : hd_okC hd_T mX6_lift (hd_pg mX6_lift) = true := by decide +kernel
set_option maxRecDepth 100000 in
theorem kX6_hours : hd_okL mX6_hours (hd_pg mX6_hours) = true := by decide +kernel
set_option maxRecDepth 100000 in
theorem qX6_hours : hd_okC hd_T mX6_hours (hd_pg mX6_hours) = true := by decide +kernel
set_option maxRecDepth 100000 in
theorem kX6_isFar : hd_okL mX6_isFar (hd_pg mX6_isFar) = true := by decide +kernel
set_option maxRecDepth 100000 in
theorem qX6_isFar : hd_okC hd_T mX6_isFar (hd_pg mX6_isFar) = true := by decide +kernel
set_option maxRecDepth 100000 in
theorem kX6_runs : hd_okL mX6_runs (hd_pg mX6_runs) = true := by decide +kernel
set_option maxRecDepth 100000 in
theorem qX6_runs : hd_okC hd_T mX6_runs (hd_pg mX6_runs) = true := by decide +kernel
set_option maxRecDepth 100000 in
theorem kX6_isGone : hd_okL mX6_isGone (hd_pg mX6_isGone) = true := by decide +kernel
set_option maxRecDepth 100000 in
theorem qX6_isGone : hd_okC hd_T mX6_isGone (hd_pg mX6_isGone) = true := by decide +kernel
set_option maxRecDepth 100000 in
theorem kX6_gone : hd_okL mX6_gone (hd_pg mX6_gone) = true := by decide +kernel
set_option maxRecDepth 100000 in
theorem qX6_gone : hd_okC hd_T mX6_gone (hd_pg mX6_gone) = true := by decide +kernel
end
section
/-! printed by wip/whole/gen.py: each table is as the bytes and the words are -/
set_option maxRecDepth 100000 in
theorem kX6_glad : hd_okL mX6_glad (hd_pg mX6_glad) = true := by decide +kernel
set_option maxRecDepth 100000 in
theorem qX6_glad : hd_okC hd_T mX6_glad (hd_pg mX6_glad) = true := by decide +kernel
set_option maxRecDepth 100000 in
theorem kX6_startsJudging : hd_okL mX6_startsJudging (hd_pg mX6_startsJudging) = true := by decide +kernel
set_option maxRecDepth 100000 in
theorem kX6_judges : hd_okL mX6_judges (hd_pg mX6_judges) = true := by decide +kernel
set_option maxRecDepth 100000 in
theorem kX6_judged : hd_okL mX6_judged (hd_pg mX6_judged) = true := by decide +kernel
set_option maxRecDepth 100000 in
theorem kX6_lays : hd_okL mX6_lays (hd_pg mX6_lays) = true := by decide +kernel
set_option maxRecDepth 100000 in
theorem kX6_isRow : hd_okL mX6_isRow (hd_pg mX6_isRow) = true := by decide +kernel
set_option maxRecDepth 100000 in
theorem kX6_findOrder : hd_okL mX6_findOrder (hd_pg mX6_findOrder) = true := by decide +kernel
set_option maxRecDepth 100000 in
theorem qX6_findOrder : hd_okC hd_T mX6_findOrder (hd_pg mX6_findOrder) = true := by decide +kernel
set_option maxRecDepth 100000 in
theorem kX6_order : hd_okL mX6_order (hd_pg mX6_order) = true := by decide +kernel
set_option maxRecDepth 100000 in
theorem qX6_order : hd_okC hd_T mX6_order (hd_pg mX6_order) = true := by decide +kernel
set_option maxRecDepth 100000 in
theorem kX6_closes : hd_okL mX6_closes (hd_pg mX6_closes) = true := by decide +kernel
set_option maxRecDepth 100000 in
theorem qX6_closes : hd_okC hd_T mX6_closes (hd_pg mX6_closes) = true := by decide +kernel
set_option maxRecDepth 100000 in
theorem kX6_leave : hd_okL mX6_leave (hd_pg mX6_leave) = true := by decide +kernel
set_option maxRecDepth 100000 in
theorem qX6_leave : hd_okC hd_T mX6_leave (hd_pg mX6_leave) = true := by decide +kernel
set_option maxRecDepth 100000 in
theorem kX6_top : hd_okL mX6_top (hd_pg mX6_top) = true := by decide +kernel
set_option maxRecDepth 100000 in
theorem qX6_top : hd_okC hd_T mX6_top (hd_pg mX6_top) = true := by decide +kernel
set_option maxRecDepth 100000 in
theorem kX6_swap : hd_okL mX6_swap (hd_pg mX6_swap) = true := by decide +kernel
set_option maxRecDepth 100000 in
theorem qX6_swap : hd_okC hd_T mX6_swap (hd_pg mX6_swap) = true := by decide +kernel
set_option maxRecDepth 100000 in
theorem kX6_need : hd_okL mX6_need (hd_pg mX6_need) = true := by decide +kernel
set_option maxRecDepth 100000 in
theorem qX6_need : hd_okC hd_T mX6_need (hd_pg mX6_need) = true := by decide +kernel
set_option maxRecDepth 100000 in
theorem kX6_kind : hd_okL mX6_kind (hd_pg mX6_kind) = true := by decide +kernel
set_option maxRecDepth 100000 in
theorem qX6_kind : hd_okC hd_T mX6_kind (hd_pg mX6_kind) = true := by decide +kernel
set_option maxRecDepth 100000 in
theorem kX6_bear : hd_okL mX6_bear (hd_pg mX6_bear) = true := by decide +kernel
set_option maxRecDepth 100000 in
theorem qX6_bear : hd_okC hd_T mX6_bear (hd_pg mX6_bear) = true := by decide +kernel
set_option maxRecDepth 100000 in
theorem kX6_common : hd_okL mX6_common (hd_pg mX6_common) = true := by decide +kernel
set_option maxRecDepth 100000 in
theorem kX6_told : hd_okL mX6_told (hd_pg mX6_told) = true := by decide +kernel
set_option maxRecDepth 100000 in
theorem qX6_told : hd_okC hd_T mX6_told (hd_pg mX6_told) = true := by decide +kernel
set_option maxRecDepth 100000 in
theorem kX6_findOdds : hd_okL mX6_findOdds (hd_pg mX6_findOdds) = true := by decide +kernel
set_option maxRecDepth 100000 in
theorem qX6_findOdds : hd_okC hd_T mX6_findOdds (hd_pg mX6_findOdds) = true := by decide +kernel
set_option maxRecDepth 100000 in
theorem kX6_luck : hd_okL mX6_luck (hd_pg mX6_luck) = true := by decide +kernel
set_option maxRecDepth 100000 in
theorem qX6_luck : hd_okC hd_T mX6_luck (hd_pg mX6_luck) = true := by decide +kernel
set_option maxRecDepth 100000 in
theorem kX6_mean : hd_okL mX6_mean (hd_pg mX6_mean) = true := by decide +kernel
set_option maxRecDepth 100000 in
theorem qX6_mean : hd_okC hd_T mX6_mean (hd_pg mX6_mean) = true := by decide +kernel
set_option maxRecDepth 100000 in
theorem kX6_see : hd_okL mX6_see (hd_pg mX6_see) = true := by decide +kernel
set_option maxRecDepth 100000 in
theorem qX6_see : hd_okC hd_T mX6_see (hd_pg mX6_see) = true := by decide +kernel
set_option maxRecDepth 100000 in
theorem kX6_forget : hd_okL mX6_forget (hd_pg mX6_forget) = true := by decide +kernel
set_option maxRecDepth 100000 in
theorem qX6_forget : hd_okC hd_T mX6_forget (hd_pg mX6_forget) = true := by decide +kernel
set_option maxRecDepth 100000 in
theorem kX6_isSoWith : hd_okL mX6_isSoWith (hd_pg mX6_isSoWith) = true := by decide +kernel
set_option maxRecDepth 100000 in
theorem qX6_isSoWith : hd_okC hd_T mX6_isSoWith (hd_pg mX6_isSoWith) = true := by decide +kernel
set_option maxRecDepth 100000 in
theorem kX6_which : hd_okL mX6_which (hd_pg mX6_which) = true := by decide +kernel
set_option maxRecDepth 100000 in
theorem qX6_which : hd_okC hd_T mX6_which (hd_pg mX6_which) = true := by decide +kernel
set_option maxRecDepth 100000 in
theorem kX6_kinds : hd_okL mX6_kinds (hd_pg mX6_kinds) = true := by decide +kernel
set_option maxRecDepth 100000 in
theorem qX6_kinds : hd_okC hd_T mX6_kinds (hd_pg mX6_kinds) = true := by decide +kernel
set_option maxRecDepth 100000 in
theorem kX6_goods : hd_okL mX6_goods (hd_pg mX6_goods) = true := by decide +kernel
set_option maxRecDepth 100000 in
theorem qX6_goods : hd_okC hd_T mX6_goods (hd_pg mX6_goods) = true := by decide +kernel
set_option maxRecDepth 100000 in
theorem kX6_ask : hd_okL mX6_ask (hd_pg mX6_ask) = true := by decide +kernel
set_option maxRecDepth 100000 in
theorem qX6_ask : hd_okC hd_T mX6_ask (hd_pg mX6_ask) = true := by decide +kernel
set_option maxRecDepth 100000 in
theorem kX6_drift : hd_okL mX6_drift (hd_pg mX6_drift) = true := by decide +kernel
set_option maxRecDepth 100000 in
theorem qX6_drift : hd_okC hd_T mX6_drift (hd_pg mX6_drift) = true := by decide +kernel
set_option maxRecDepth 100000 in
theorem kX6_copies : hd_okL mX6_copies (hd_pg mX6_copies) = true := by decide +kernel
set_option maxRecDepth 100000 in
theorem kX6_keep : hd_okL mX6_keep (hd_pg mX6_keep) = true := by decide +kernel
set_option maxRecDepth 100000 in
theorem qX6_keep : hd_okC hd_T mX6_keep (hd_pg mX6_keep) = true := by decide +kernel
set_option maxRecDepth 100000 in
theorem kX6_back : hd_okL mX6_back (hd_pg mX6_back) = true := by decide +kernel
set_option maxRecDepth 100000 in
theorem qX6_back : hd_okC hd_T mX6_back (hd_pg mX6_back) = true := by decide +kernel
set_option maxRecDepth 100000 in
theorem kX6_isSheet : hd_okL mX6_isSheet (hd_pg mX6_isSheet) = true := by decide +kernel
set_option maxRecDepth 100000 in
theorem qX6_isSheet : hd_okC hd_T mX6_isSheet (hd_pg mX6_isSheet) = true := by decide +kernel
set_option maxRecDepth 100000 in
theorem kX6_sheet : hd_okL mX6_sheet (hd_pg mX6_sheet) = true := by decide +kernel
set_option maxRecDepth 100000 in
theorem qX6_sheet : hd_okC hd_T mX6_sheet (hd_pg mX6_sheet) = true := by decide +kernel
set_option maxRecDepth 100000 in
theorem kX6_lay : hd_okL mX6_lay (hd_pg mX6_lay) = true := by decide +kernel
set_option maxRecDepth 100000 in
theorem qX6_lay : hd_okC hd_T mX6_lay (hd_pg mX6_lay) = true := by decide +kernel
set_option maxRecDepth 100000 in
theorem kX6_read : hd_okL mX6_read (hd_pg mX6_read) = true := by decide +kernel
set_option maxRecDepth 100000 in
theorem qX6_read : hd_okC hd_T mX6_read (hd_pg mX6_read) = true := by decide +kernel
set_option maxRecDepth 100000 in
theorem kX6_torn : hd_okL mX6_torn (hd_pg mX6_torn) = true := by decide +kernel
set_option maxRecDepth 100000 in
theorem kX6_sumOf : hd_okL mX6_sumOf (hd_pg mX6_sumOf) = true := by decide +kernel
end
section
/-! printed by wip/whole/gen.py: each table is as the bytes and the words are -/
set_option maxRecDepth 100000 in
theorem kX6_count : hd_okL mX6_count (hd_pg mX6_count) = true := by decide +kernel
set_option maxRecDepth 100000 in
theorem qX6_count : hd_okC hd_T mX6_count (hd_pg mX6_count) = true := by decide +kernel
set_option maxRecDepth 100000 in
theorem kJ6_bitCount_0f7a4 : hd_okL mJ6_bitCount_0f7a4 (hd_pg mJ6_bitCount_0f7a4) = true := by decide +kernel
end
section
/-! THE ROWS AS THEY ARE USED: what a stretch comes to is found by reckoning ('fun _ => rfl') -/
section
variable {I : hd_I} {pc : Nat} {lv : hd_L} {st : List Value} {M : hd_M} {N : hd_N} {Q : hd_Q}
theorem hd_go (ok : hd_okL I (hd_pg I) = true) (till : Nat) {C : Prop} {pc' : Nat} {lv' : hd_L} {st' : List Value} {M' : hd_M} {N' : hd_N} (e : ∀ k : hd_K, hd_ev0 till k (hd_from pc (hd_pg I)) lv st M N = k C pc' lv' st' M' N') (hp : Nat.beq pc pc' = false) (hC : C) (h : hd_Go I pc' lv' st' M' N' Q) : hd_Go I pc lv st M N Q :=
  hd_ev ok till (fun k hk => by rw [e]; exact hk _ _ _ _ _ _ hC h)
theorem hd_ju (ok : hd_okL I (hd_pg I) = true) {ct cf : Prop} {t f : Nat} {st' : List Value} (e : ∀ k : Prop → Prop → Nat → Nat → List Value → Prop, hd_brK (hd_from pc (hd_pg I)) st k = k ct cf t f st') (h1 : ct → hd_Go I t lv st' M N Q) (h2 : cf → hd_Go I f lv st' M N Q) : hd_Go I pc lv st M N Q :=
  hd_br ok (fun k hk => by rw [e]; exact hk _ _ _ _ _ h1 h2)
theorem hd_en_ (ok : hd_okL I (hd_pg I) = true) {C : Prop} {r : Option Value} (e : ∀ k : Prop → Option Value → Prop, hd_rtK I.2.2.2.2.1 (hd_from pc (hd_pg I)) st k = k C r) (hC : C) (h : Q r M N) : hd_Go I pc lv st M N Q :=
  hd_rt ok (fun k hk => by rw [e]; exact hk _ _ hC h)
theorem hd_ca {T : List hd_I} (ok : hd_okL I (hd_pg I) = true) (okc : hd_okC T I (hd_pg I) = true) {J : hd_I} {nx : Nat} {as st' : List Value} (e : ∀ k : hd_I → Nat → List Value → List Value → Prop, hd_clK T (hd_from pc (hd_pg I)) st k = k J nx as st') {P : hd_Q} (hR : hd_Ret J as M N P) (h : ∀ r M1 N1, P r M1 N1 → hd_Go I nx lv (r.toList ++ st') M1 N1 Q) : hd_Go I pc lv st M N Q :=
  hd_cll ok okc (fun k hk => by rw [e]; exact hk _ _ _ _ ⟨P, hR, h⟩)
/-- the answer v, and nothing changed -/
abbrev hd_is (v : Value) (M : hd_M) (N : hd_N) : hd_Q := fun r M1 N1 => r = some v ∧ M1 = M ∧ N1 = N
theorem hd_ci {T : List hd_I} (ok : hd_okL I (hd_pg I) = true) (okc : hd_okC T I (hd_pg I) = true) {J : hd_I} {nx : Nat} {as st' : List Value} (e : ∀ k : hd_I → Nat → List Value → List Value → Prop, hd_clK T (hd_from pc (hd_pg I)) st k = k J nx as st') {v : Value} (hR : hd_Ret J as M N (hd_is v M N)) (h : hd_Go I nx lv (v :: st') M N Q) : hd_Go I pc lv st M N Q :=
  hd_ca ok okc e hR (fun r M1 N1 ⟨e1, e2, e3⟩ => by subst e1; subst e2; subst e3; exact h)
theorem hd_sc (ok : hd_okL I (hd_pg I) = true) {x : Int32} {d : Nat} {sw : List (Int32 × Nat)} {st' : List Value} (e : ∀ k : Int32 → Nat → List (Int32 × Nat) → List Value → Prop, hd_swK (hd_from pc (hd_pg I)) st k = k x d sw st') (h : hd_swP I lv st' M N Q x d sw) : hd_Go I pc lv st M N Q :=
  hd_swi ok (fun k hk => by rw [e]; exact hk _ _ _ _ h)
end
end
section
/-! THE MATHEMATICS OF A DAY, over Int32: things by columns (0 kind, 1 good, 2 weight, 3 out) -/
def hd_b (c : Prop) [Decidable c] : Int32 := if c then 1 else 0
abbrev dy_T : Type := Nat × Nat × Int32 × Int32 × Int32 × (Nat → Nat → Int32)
def wsm (w : Nat → Int32) : Nat → Nat → Int32
  | _, 0 => 0
  | a, m + 1 => w a + wsm w (a + 1) m
def dy_brs (kd wt : Int32) : Int32 := if kd = 1 ∨ kd = 3 then wt else 2 * wt
def dy_plg (ld kd gd wt : Int32) : Int32 := if dy_brs kd wt < ld then gd / 2 else gd
def dy_chr (ld kd gd wt : Int32) : Int32 := if kd = 1 then 2 * dy_plg ld kd gd wt else if kd = 2 then -dy_plg ld kd gd wt else if kd = 3 then 2 * dy_plg ld kd gd wt + 1 else dy_plg ld kd gd wt
def dy_lst (kd : Int32) : Int32 := if kd = 2 then 5 else if kd = 3 then 6 else 3
def dy_ld (d : dy_T) (i : Nat) : Int32 := wsm (d.2.2.2.2.2 2) (i + 1) (d.1 - (i + 1))
def dy_ch (d : dy_T) (i : Nat) : Int32 := dy_chr (dy_ld d i) (d.2.2.2.2.2 0 i) (d.2.2.2.2.2 1 i) (d.2.2.2.2.2 2 i)
def dy_tik (ot ch : Nat → Int32) : Nat → Nat → Int32 → Int32
  | _, 0, a => a
  | i, m + 1, a => dy_tik ot ch (i + 1) m (if 0 < ot i then a + ch i else a)
def dy_clm (x : Int32) : Int32 := if x < 0 then 0 else if 99 < x then 99 else x
/-- the top thing comes out, unless the lid is on -/
def dy_op (lid : Bool) (d : dy_T) : dy_T := if lid = false ∧ 0 < d.2.1 then (d.1, d.2.1 - 1, d.2.2.1, d.2.2.2.1, d.2.2.2.2.1, fun c i => if c = 3 ∧ i = d.2.1 - 1 then dy_lst (d.2.2.2.2.2 0 i) else d.2.2.2.2.2 c i) else d
/-- an hour -/
def dy_ho (lid : Bool) (d : dy_T) : dy_T := (d.1, (dy_op lid d).2.1, dy_clm (dy_tik ((dy_op lid d).2.2.2.2.2 3) (dy_ch d) 0 d.1 (d.2.2.1 - d.2.2.2.1)), d.2.2.2.1, d.2.2.2.2.1 + 1, fun c i => if c = 3 ∧ 0 < (dy_op lid d).2.2.2.2.2 3 i then (dy_op lid d).2.2.2.2.2 3 i - 1 else (dy_op lid d).2.2.2.2.2 c i)
def dy_hs : Nat → dy_T → dy_T
  | 0, d => d
  | n + 1, d => dy_hs n (dy_ho false d)
/-- what holds of every day -/
def dy_ok (d : dy_T) : Prop := d.1 ≤ 7 ∧ d.2.1 ≤ d.1 ∧ (∀ i, i < d.2.1 → d.2.2.2.2.2 3 i = 0) ∧ (∀ i, i < d.1 → 0 ≤ d.2.2.2.2.2 3 i ∧ d.2.2.2.2.2 3 i ≤ 6) ∧ 0 ≤ d.2.2.1 ∧ d.2.2.1 ≤ 99
/-- the Hamper at cell k holds the day -/
def hm (M : hd_M) (k : Nat) (d : dy_T) : Prop := M k 5 = nI d.1 ∧ M k 6 = nI d.2.1 ∧ M k 7 = d.2.2.1 ∧ M k 8 = d.2.2.2.1 ∧ M k 9 = d.2.2.2.2.1 ∧ (∀ i, i < d.1 → M (k + 1) i = d.2.2.2.2.2 0 i) ∧ (∀ i, i < d.1 → M (k + 2) i = d.2.2.2.2.2 1 i) ∧ (∀ i, i < d.1 → M (k + 3) i = d.2.2.2.2.2 2 i) ∧ ∀ i, i < d.1 → M (k + 4) i = d.2.2.2.2.2 3 i
/-- the row a of the reference holds the day from off on -/
def rf (M : hd_M) (a off : Nat) (d : dy_T) : Prop := M a (off + 28) = nI d.1 ∧ M a (off + 29) = nI d.2.1 ∧ M a (off + 30) = d.2.2.1 ∧ M a (off + 31) = d.2.2.2.1 ∧ M a (off + 32) = d.2.2.2.2.1 ∧ ∀ i, i < d.1 → M a (off + 4 * i) = d.2.2.2.2.2 0 i ∧ M a (off + (4 * i + 1)) = d.2.2.2.2.2 1 i ∧ M a (off + (4 * i + 2)) = d.2.2.2.2.2 2 i ∧ M a (off + (4 * i + 3)) = d.2.2.2.2.2 3 i
/-- nothing changed but at the places of S -/
def fr (S : Nat → Nat → Prop) (M M1 : hd_M) : Prop := ∀ c j, ¬ S c j → M1 c j = M c j
theorem fr.rf {S : Nat → Nat → Prop} {M : hd_M} : fr S M M := fun _ _ _ => rfl
theorem fr.tr {S : Nat → Nat → Prop} {M M1 M2 : hd_M} (h : fr S M M1) (h2 : fr S M1 M2) : fr S M M2 := fun c j hs => (h2 c j hs).trans (h c j hs)
theorem fr.up {S : Nat → Nat → Prop} {M M1 : hd_M} {k j : Nat} {x : Int32} (h : fr S M M1) (hs : S k j) : fr S M (hd_u M1 k j x) := fun c i hn => by
  unfold hd_u
  split
  · next e => obtain ⟨rfl, rfl⟩ := e; exact absurd hs hn
  · exact h c i hn
theorem fr.mo {S S' : Nat → Nat → Prop} {M M1 : hd_M} (h : fr S M M1) (hs : ∀ c j, S c j → S' c j) : fr S' M M1 := fun c j hn => h c j (fun z => hn (hs c j z))
theorem hd_u_s (M : hd_M) (k j : Nat) (x : Int32) : hd_u M k j x k j = x := by simp [hd_u]
theorem hd_u_n {M : hd_M} {k j c i : Nat} {x : Int32} (h : ¬ (c = k ∧ i = j)) : hd_u M k j x c i = M c i := by
  unfold hd_u
  rw [if_neg h]
theorem vi {i : Int32} {j n : Nat} (e : i = nI j) (h : j < n) (hn : n < 2 ^ 31) : vp_in i n := by rw [e]; exact vp_in_nI h hn
theorem wsm_snoc (w : Nat → Int32) : ∀ (m a : Nat), wsm w a (m + 1) = wsm w a m + w (a + m) := by
  intro m
  induction m with
  | zero => intro a; simp [wsm]
  | succ m ih =>
    intro a
    rw [wsm, ih (a + 1), wsm, Int32.add_assoc, show a + 1 + m = a + (m + 1) by omega]
theorem wsm_cong {w w' : Nat → Int32} : ∀ (m a : Nat), (∀ i, a ≤ i → i < a + m → w i = w' i) → wsm w a m = wsm w' a m := by
  intro m
  induction m with
  | zero => intro a _; rfl
  | succ m ih =>
    intro a h
    rw [wsm, wsm, h a (Nat.le_refl _) (by omega), ih (a + 1) (fun i h1 h2 => h i (by omega) (by omega))]
theorem dy_tik_cong {ot ot' ch ch' : Nat → Int32} : ∀ (m i : Nat) (a : Int32), (∀ x, i ≤ x → x < i + m → ot x = ot' x ∧ (0 < ot' x → ch x = ch' x)) → dy_tik ot ch i m a = dy_tik ot' ch' i m a := by
  intro m
  induction m with
  | zero => intro i a _; rfl
  | succ m ih =>
    intro i a h
    obtain ⟨h1, h2⟩ := h i (Nat.le_refl _) (by omega)
    rw [dy_tik, dy_tik, h1]
    by_cases ho : 0 < ot' i
    · rw [if_pos ho, if_pos ho, h2 ho]
      exact ih _ _ (fun x h3 h4 => h x (by omega) (by omega))
    · rw [if_neg ho, if_neg ho]
      exact ih _ _ (fun x h3 h4 => h x (by omega) (by omega))
/-- those that aren't out add nothing -/
theorem dy_tik_skip {ot ch : Nat → Int32} : ∀ (k m i : Nat) (a : Int32), (∀ x, i ≤ x → x < i + k → ¬ 0 < ot x) → dy_tik ot ch i (k + m) a = dy_tik ot ch (i + k) m a := by
  intro k
  induction k with
  | zero => intro m i a _; rw [Nat.zero_add, Nat.add_zero]
  | succ k ih =>
    intro m i a h
    rw [show k + 1 + m = (k + m) + 1 by omega, dy_tik, if_neg (h i (Nat.le_refl _) (by omega)), ih m (i + 1) a (fun x h1 h2 => h x (by omega) (by omega)), show i + 1 + k = i + (k + 1) by omega]
theorem dy_clm_eq (s : Int32) : (if (0 : Int32) < (if s < 99 then s else 99) then (if s < 99 then s else 99) else 0) = dy_clm s := by
  unfold dy_clm
  have z0 : Int32.toInt 0 = 0 := rfl
  have z9 : Int32.toInt 99 = 99 := rfl
  by_cases h1 : s < 0
  · have g1 := Int32.lt_iff_toInt_lt.mp h1
    have h2 : s < 99 := Int32.lt_iff_toInt_lt.mpr (by omega)
    have h3 : ¬ (0 : Int32) < s := fun z => by have := Int32.lt_iff_toInt_lt.mp z; omega
    rw [if_pos h2, if_neg h3, if_pos h1]
  · have g1 : ¬ s.toInt < Int32.toInt 0 := fun z => h1 (Int32.lt_iff_toInt_lt.mpr z)
    by_cases h2 : s < 99
    · have g2 := Int32.lt_iff_toInt_lt.mp h2
      have h4 : ¬ (99 : Int32) < s := fun z => by have := Int32.lt_iff_toInt_lt.mp z; omega
      rw [if_pos h2, if_neg h1, if_neg h4]
      by_cases h3 : (0 : Int32) < s
      · rw [if_pos h3]
      · have g3 : ¬ Int32.toInt 0 < s.toInt := fun z => h3 (Int32.lt_iff_toInt_lt.mpr z)
        rw [if_neg h3]
        apply Int32.toInt_inj.mp
        omega
    · have g2 : ¬ s.toInt < Int32.toInt 99 := fun z => h2 (Int32.lt_iff_toInt_lt.mpr z)
      rw [if_neg h2, if_pos (by decide), if_neg h1]
      by_cases h3 : (99 : Int32) < s
      · rw [if_pos h3]
      · have g3 : ¬ Int32.toInt 99 < s.toInt := fun z => h3 (Int32.lt_iff_toInt_lt.mpr z)
        rw [if_neg h3]
        apply Int32.toInt_inj.mp
        omega
theorem dy_clm_ok (s : Int32) : 0 ≤ dy_clm s ∧ dy_clm s ≤ 99 := by
  unfold dy_clm
  split
  · decide
  · split
    · decide
    · next h1 h2 => exact ⟨Int32.not_lt.mp h1, Int32.not_lt.mp h2⟩
theorem dy_lst_ok (k : Int32) : 0 ≤ dy_lst k ∧ dy_lst k ≤ 6 ∧ 0 < dy_lst k := by
  unfold dy_lst
  split
  · decide
  · split <;> decide
theorem le_n (a b : Int32) : (a ≤ b) ↔ ¬ b < a := Int32.not_lt.symm
theorem dy_op_c {lid : Bool} {d : dy_T} {c i : Nat} (h : ¬ c = 3) : (dy_op lid d).2.2.2.2.2 c i = d.2.2.2.2.2 c i := by
  unfold dy_op
  split
  · show (if c = 3 ∧ i = d.2.1 - 1 then dy_lst (d.2.2.2.2.2 0 i) else d.2.2.2.2.2 c i) = _
    rw [if_neg (fun z => h z.1)]
  · rfl
theorem dy_ho_c {lid : Bool} {d : dy_T} {c i : Nat} (h : ¬ c = 3) : (dy_ho lid d).2.2.2.2.2 c i = d.2.2.2.2.2 c i := by
  show (if c = 3 ∧ 0 < (dy_op lid d).2.2.2.2.2 3 i then (dy_op lid d).2.2.2.2.2 3 i - 1 else (dy_op lid d).2.2.2.2.2 c i) = _
  rw [if_neg (fun z => h z.1), dy_op_c h]
theorem dy_ho_3 {lid : Bool} {d : dy_T} {i : Nat} : (dy_ho lid d).2.2.2.2.2 3 i = if 0 < (dy_op lid d).2.2.2.2.2 3 i then (dy_op lid d).2.2.2.2.2 3 i - 1 else (dy_op lid d).2.2.2.2.2 3 i := by
  show (if 3 = 3 ∧ 0 < (dy_op lid d).2.2.2.2.2 3 i then (dy_op lid d).2.2.2.2.2 3 i - 1 else (dy_op lid d).2.2.2.2.2 3 i) = _
  by_cases h : 0 < (dy_op lid d).2.2.2.2.2 3 i
  · rw [if_pos ⟨rfl, h⟩, if_pos h]
  · rw [if_neg (fun z => h z.2), if_neg h]
theorem dy_ch_eq {d e : dy_T} {i : Nat} (hn : e.1 = d.1) (h : ∀ c j, ¬ c = 3 → e.2.2.2.2.2 c j = d.2.2.2.2.2 c j) : dy_ch e i = dy_ch d i := by
  unfold dy_ch dy_ld
  have e2 : e.2.2.2.2.2 2 = d.2.2.2.2.2 2 := funext fun j => h 2 j (by decide)
  rw [hn, h 0 i (by decide), h 1 i (by decide), e2]
theorem dy_ch_ho {lid : Bool} {d : dy_T} {i : Nat} : dy_ch (dy_ho lid d) i = dy_ch d i := dy_ch_eq rfl (fun _ _ h => dy_ho_c h)
theorem i32_dec {x : Int32} (h : 0 < x) : 0 ≤ x - 1 ∧ x - 1 < x := by
  have h1 := Int32.lt_iff_toInt_lt.mp h
  have z0 : Int32.toInt 0 = 0 := rfl
  have hu : x.toInt < 2 ^ 31 := Int32.toInt_lt x
  have e : (x - 1).toInt = x.toInt - 1 := by
    rw [Int32.toInt_sub]
    have : Int32.toInt 1 = 1 := rfl
    rw [this]
    exact Int.bmod_eq_of_le (by omega) (by omega)
  exact ⟨Int32.le_iff_toInt_le.mpr (by omega), Int32.lt_iff_toInt_lt.mpr (by omega)⟩
theorem dy_ok_ho {lid : Bool} {d : dy_T} (h : dy_ok d) : dy_ok (dy_ho lid d) := by
  obtain ⟨h1, h2, h3, h4, h5, h6⟩ := h
  have hop : ∀ i, i < d.1 → 0 ≤ (dy_op lid d).2.2.2.2.2 3 i ∧ (dy_op lid d).2.2.2.2.2 3 i ≤ 6 := by
    intro i hi
    unfold dy_op
    split
    · show 0 ≤ (if 3 = 3 ∧ i = d.2.1 - 1 then dy_lst (d.2.2.2.2.2 0 i) else d.2.2.2.2.2 3 i) ∧ (if 3 = 3 ∧ i = d.2.1 - 1 then dy_lst (d.2.2.2.2.2 0 i) else d.2.2.2.2.2 3 i) ≤ 6
      split
      · exact ⟨(dy_lst_ok _).1, (dy_lst_ok _).2.1⟩
      · exact h4 i hi
    · exact h4 i hi
  refine ⟨h1, ?_, ?_, ?_, (dy_clm_ok _).1, (dy_clm_ok _).2⟩
  · show (dy_op lid d).2.1 ≤ d.1
    unfold dy_op
    split
    · show d.2.1 - 1 ≤ d.1; omega
    · exact h2
  · intro i hi
    have hi : i < (dy_op lid d).2.1 := hi
    have hz : (dy_op lid d).2.2.2.2.2 3 i = 0 := by
      unfold dy_op at hi ⊢
      split
      · next hc =>
        rw [if_pos hc] at hi
        have hi : i < d.2.1 - 1 := hi
        show (if 3 = 3 ∧ i = d.2.1 - 1 then dy_lst (d.2.2.2.2.2 0 i) else d.2.2.2.2.2 3 i) = 0
        rw [if_neg (fun z => by omega)]
        exact h3 i (by omega)
      · next hc =>
        rw [if_neg hc] at hi
        exact h3 i hi
    rw [dy_ho_3, hz, if_neg (by decide)]
  · intro i hi
    have hi : i < d.1 := hi
    rw [dy_ho_3]
    obtain ⟨g1, g2⟩ := hop i hi
    split
    · next hp =>
      obtain ⟨g3, g4⟩ := i32_dec hp
      exact ⟨g3, Int32.le_trans (Int32.le_of_lt g4) g2⟩
    · exact ⟨g1, g2⟩
theorem dy_ok_hs : ∀ (n : Nat) (d : dy_T), dy_ok d → dy_ok (dy_hs n d) := by
  intro n
  induction n with
  | zero => intro d h; exact h
  | succ n ih => intro d h; exact ih _ (dy_ok_ho h)
theorem dy_ch_hs {i : Nat} : ∀ (n : Nat) (d : dy_T), dy_ch (dy_hs n d) i = dy_ch d i := by
  intro n
  induction n with
  | zero => intro d; rfl
  | succ n ih => intro d; exact (ih _).trans dy_ch_ho
/-! what else is done to a day -/
def dy_set (c i : Nat) (v : Int32) (d : dy_T) : dy_T := (d.1, d.2.1, d.2.2.1, d.2.2.2.1, d.2.2.2.2.1, fun c' i' => if c' = c ∧ i' = i then v else d.2.2.2.2.2 c' i')
def dy_add (k g w : Int32) (d : dy_T) : dy_T := (d.1 + 1, d.1 + 1, d.2.2.1, d.2.2.2.1, d.2.2.2.2.1, fun c i => if i = d.1 then (if c = 0 then k else if c = 1 then g else if c = 2 then w else 0) else d.2.2.2.2.2 c i)
def dy_in (d : dy_T) : dy_T := (d.1, d.1, d.2.2.1, d.2.2.2.1, d.2.2.2.2.1, fun c i => if c = 3 then 0 else d.2.2.2.2.2 c i)
def dy_shr (m : Nat) (d : dy_T) : dy_T := (m, m, d.2.2.1, d.2.2.2.1, d.2.2.2.2.1, d.2.2.2.2.2)
def dy_exc (i j : Nat) (d : dy_T) : dy_T := (d.1, d.2.1, d.2.2.1, d.2.2.2.1, d.2.2.2.2.1, fun c x => if c = 3 then d.2.2.2.2.2 c x else if x = i then d.2.2.2.2.2 c j else if x = j then d.2.2.2.2.2 c i else d.2.2.2.2.2 c x)
/-- the thing i goes up to place j, those between come down -/
def dy_rot (i j : Nat) (d : dy_T) : dy_T := (d.1, d.2.1, d.2.2.1, d.2.2.2.1, d.2.2.2.2.1, fun c x => if c = 3 then d.2.2.2.2.2 c x else if i ≤ x ∧ x < j then d.2.2.2.2.2 c (x + 1) else if x = j then d.2.2.2.2.2 c i else d.2.2.2.2.2 c x)
def dy_prm (p : Nat → Nat) (d : dy_T) : dy_T := (d.1, d.2.1, d.2.2.1, d.2.2.2.1, d.2.2.2.2.1, fun c x => d.2.2.2.2.2 c (p x))
def dy_mood (v : Int32) (d : dy_T) : dy_T := (d.1, d.2.1, v, d.2.2.2)
def dy_tire (v : Int32) (d : dy_T) : dy_T := (d.1, d.2.1, d.2.2.1, v, d.2.2.2.2)
/-- bits of those i < n with p -/
def dy_bits (p : Nat → Bool) : Nat → Int32
  | 0 => 0
  | n + 1 => if p n then dy_bits p n ||| (1 <<< (nI n &&& 31)) else dy_bits p n
/-- a day that holds at one place holds wherever the cells are the same -/
theorem hm.mv {M M1 : hd_M} {k : Nat} {d : dy_T} (h : hm M k d) (he : ∀ c j, k ≤ c → c ≤ k + 4 → M1 c j = M c j) : hm M1 k d := by
  obtain ⟨a5, a6, a7, a8, a9, b1, b2, b3, b4⟩ := h
  refine ⟨?_, ?_, ?_, ?_, ?_, fun i hi => ?_, fun i hi => ?_, fun i hi => ?_, fun i hi => ?_⟩
  · rw [he _ _ (by omega) (by omega)]; exact a5
  · rw [he _ _ (by omega) (by omega)]; exact a6
  · rw [he _ _ (by omega) (by omega)]; exact a7
  · rw [he _ _ (by omega) (by omega)]; exact a8
  · rw [he _ _ (by omega) (by omega)]; exact a9
  · rw [he _ _ (by omega) (by omega)]; exact b1 i hi
  · rw [he _ _ (by omega) (by omega)]; exact b2 i hi
  · rw [he _ _ (by omega) (by omega)]; exact b3 i hi
  · rw [he _ _ (by omega) (by omega)]; exact b4 i hi
theorem rf.mv {M M1 : hd_M} {a off : Nat} {d : dy_T} (h : rf M a off d) (hn : d.1 ≤ 7) (he : ∀ j, off ≤ j → j < off + 33 → M1 a j = M a j) : rf M1 a off d := by
  obtain ⟨a5, a6, a7, a8, a9, b⟩ := h
  refine ⟨?_, ?_, ?_, ?_, ?_, fun i hi => ?_⟩
  · rw [he _ (by omega) (by omega)]; exact a5
  · rw [he _ (by omega) (by omega)]; exact a6
  · rw [he _ (by omega) (by omega)]; exact a7
  · rw [he _ (by omega) (by omega)]; exact a8
  · rw [he _ (by omega) (by omega)]; exact a9
  · rw [he _ (by omega) (by omega), he _ (by omega) (by omega), he _ (by omega) (by omega), he _ (by omega) (by omega)]; exact b i hi
end
section
/-! THE HAMPER'S METHODS, at the cells 1 (now) and 7 (trial); printed by wip/whole/ham.py -/
set_option maxRecDepth 20000 in
theorem s_bearsOf_1 (M : hd_M) (N : hd_N) (i : Nat) (hi : i < 7) : hd_Ret mX0_bearsOf [.ref 1, .int (nI i)] M N (hd_is (.int (dy_brs (M 2 i) (M 4 i))) M N) := by
  change hd_Go mX0_bearsOf 0 [some (.ref 1), some (.int (nI i)), none] [] M N _
  have ei : (nI i).toNatClampNeg = i := nI_clamp (by omega)
  repeat' first
    | refine hd_ju kX0_bearsOf (fun _ => rfl) (fun c => ?_) (fun c => ?_)
    | refine hd_en_ kX0_bearsOf (fun _ => rfl) ?_ ?_
    | refine hd_go kX0_bearsOf 999 (fun _ => rfl) rfl ?_ ?_
  all_goals first
    | trivial
    | exact ⟨trivial, vp_in_nI hi (by decide)⟩
    | (rw [ei] at *; refine ⟨?_, rfl, rfl⟩; simp_all [-Int32.not_lt, -Int32.not_le, le_n, dy_brs])
    | (refine ⟨?_, rfl, rfl⟩; simp_all [-Int32.not_lt, -Int32.not_le, le_n, dy_brs])
set_option maxRecDepth 20000 in
theorem s_bearsOf_7 (M : hd_M) (N : hd_N) (i : Nat) (hi : i < 7) : hd_Ret mX0_bearsOf [.ref 7, .int (nI i)] M N (hd_is (.int (dy_brs (M 8 i) (M 10 i))) M N) := by
  change hd_Go mX0_bearsOf 0 [some (.ref 7), some (.int (nI i)), none] [] M N _
  have ei : (nI i).toNatClampNeg = i := nI_clamp (by omega)
  repeat' first
    | refine hd_ju kX0_bearsOf (fun _ => rfl) (fun c => ?_) (fun c => ?_)
    | refine hd_en_ kX0_bearsOf (fun _ => rfl) ?_ ?_
    | refine hd_go kX0_bearsOf 999 (fun _ => rfl) rfl ?_ ?_
  all_goals first
    | trivial
    | exact ⟨trivial, vp_in_nI hi (by decide)⟩
    | (rw [ei] at *; refine ⟨?_, rfl, rfl⟩; simp_all [-Int32.not_lt, -Int32.not_le, le_n, dy_brs])
    | (refine ⟨?_, rfl, rfl⟩; simp_all [-Int32.not_lt, -Int32.not_le, le_n, dy_brs])
set_option maxRecDepth 20000 in
theorem s_weightBehind_l_1 (M : hd_M) (N : hd_N) (n : Nat) (hn : n ≤ 7) (h5 : M 1 5 = nI n) (i : Int32) : ∀ (m k : Nat) (s : Int32), k + m = n ∨ (n ≤ k ∧ k ≤ 7 ∧ m = 0) → hd_Go mX0_weightBehind 6 [some (.ref 1), some (.int i), some (.int s), some (.int (nI k))] [] M N (hd_is (.int (s + wsm (M 4) k m)) M N) := by
  intro m
  induction m with
  | zero =>
    intro k s h
    refine hd_go kX0_weightBehind 999 (fun _ => rfl) rfl trivial ?_
    refine hd_ju kX0_weightBehind (fun _ => rfl) (fun c => ?_) (fun c => ?_)
    · refine hd_go kX0_weightBehind 999 (fun _ => rfl) rfl trivial ?_
      refine hd_en_ kX0_weightBehind (fun _ => rfl) trivial ⟨?_, rfl, rfl⟩
      rw [wsm, Int32.add_zero]
    · rw [h5] at c
      exact absurd (nI_le (by omega) (by omega)) c
  | succ m ih =>
    intro k s h
    refine hd_go kX0_weightBehind 999 (fun _ => rfl) rfl trivial ?_
    refine hd_ju kX0_weightBehind (fun _ => rfl) (fun c => ?_) (fun c => ?_)
    · rw [h5] at c
      exact absurd c (nI_ge (by omega) (by omega))
    · refine hd_go kX0_weightBehind 999 (fun _ => rfl) rfl ⟨trivial, vp_in_nI (by omega) (by decide)⟩ ?_
      rw [nI_clamp (by omega), nI_1]
      have := ih (k + 1) (s + M 4 k) (by omega)
      rw [wsm, ← Int32.add_assoc]
      exact this
set_option maxRecDepth 20000 in
theorem s_weightBehind_1 (M : hd_M) (N : hd_N) (n : Nat) (hn : n ≤ 7) (h5 : M 1 5 = nI n) (i : Nat) (hi : i < 7) : hd_Ret mX0_weightBehind [.ref 1, .int (nI i)] M N (hd_is (.int (wsm (M 4) (i + 1) (n - (i + 1)))) M N) := by
  change hd_Go mX0_weightBehind 0 [some (.ref 1), some (.int (nI i)), none, none] [] M N _
  refine hd_go kX0_weightBehind 6 (fun _ => rfl) rfl trivial ?_
  rw [nI_1]
  have := s_weightBehind_l_1 M N n hn h5 (nI i) (n - (i + 1)) (i + 1) 0 (by omega)
  rw [Int32.zero_add] at this
  exact this
set_option maxRecDepth 20000 in
theorem s_weightBehind_l_7 (M : hd_M) (N : hd_N) (n : Nat) (hn : n ≤ 7) (h5 : M 7 5 = nI n) (i : Int32) : ∀ (m k : Nat) (s : Int32), k + m = n ∨ (n ≤ k ∧ k ≤ 7 ∧ m = 0) → hd_Go mX0_weightBehind 6 [some (.ref 7), some (.int i), some (.int s), some (.int (nI k))] [] M N (hd_is (.int (s + wsm (M 10) k m)) M N) := by
  intro m
  induction m with
  | zero =>
    intro k s h
    refine hd_go kX0_weightBehind 999 (fun _ => rfl) rfl trivial ?_
    refine hd_ju kX0_weightBehind (fun _ => rfl) (fun c => ?_) (fun c => ?_)
    · refine hd_go kX0_weightBehind 999 (fun _ => rfl) rfl trivial ?_
      refine hd_en_ kX0_weightBehind (fun _ => rfl) trivial ⟨?_, rfl, rfl⟩
      rw [wsm, Int32.add_zero]
    · rw [h5] at c
      exact absurd (nI_le (by omega) (by omega)) c
  | succ m ih =>
    intro k s h
    refine hd_go kX0_weightBehind 999 (fun _ => rfl) rfl trivial ?_
    refine hd_ju kX0_weightBehind (fun _ => rfl) (fun c => ?_) (fun c => ?_)
    · rw [h5] at c
      exact absurd c (nI_ge (by omega) (by omega))
    · refine hd_go kX0_weightBehind 999 (fun _ => rfl) rfl ⟨trivial, vp_in_nI (by omega) (by decide)⟩ ?_
      rw [nI_clamp (by omega), nI_1]
      have := ih (k + 1) (s + M 10 k) (by omega)
      rw [wsm, ← Int32.add_assoc]
      exact this
set_option maxRecDepth 20000 in
theorem s_weightBehind_7 (M : hd_M) (N : hd_N) (n : Nat) (hn : n ≤ 7) (h5 : M 7 5 = nI n) (i : Nat) (hi : i < 7) : hd_Ret mX0_weightBehind [.ref 7, .int (nI i)] M N (hd_is (.int (wsm (M 10) (i + 1) (n - (i + 1)))) M N) := by
  change hd_Go mX0_weightBehind 0 [some (.ref 7), some (.int (nI i)), none, none] [] M N _
  refine hd_go kX0_weightBehind 6 (fun _ => rfl) rfl trivial ?_
  rw [nI_1]
  have := s_weightBehind_l_7 M N n hn h5 (nI i) (n - (i + 1)) (i + 1) 0 (by omega)
  rw [Int32.zero_add] at this
  exact this
set_option maxRecDepth 20000 in
theorem s_isCrushed_1 (M : hd_M) (N : hd_N) (n : Nat) (hn : n ≤ 7) (h5 : M 1 5 = nI n) (i : Nat) (hi : i < 7) : hd_Ret mX0_isCrushed [.ref 1, .int (nI i)] M N (hd_is (.int (hd_b (dy_brs (M 2 i) (M 4 i) < wsm (M 4) (i + 1) (n - (i + 1))))) M N) := by
  change hd_Go mX0_isCrushed 0 [some (.ref 1), some (.int (nI i))] [] M N _
  repeat' first
    | refine hd_ju kX0_isCrushed (fun _ => rfl) (fun c => ?_) (fun c => ?_)
    | refine hd_en_ kX0_isCrushed (fun _ => rfl) ?_ ?_
    | refine hd_ci kX0_isCrushed qX0_isCrushed (fun _ => rfl) (s_bearsOf_1 M N i hi) ?_
    | refine hd_ci kX0_isCrushed qX0_isCrushed (fun _ => rfl) (s_weightBehind_1 M N n hn h5 i hi) ?_
    | refine hd_go kX0_isCrushed 999 (fun _ => rfl) rfl ?_ ?_
  all_goals first
    | trivial
    | exact Or.inl rfl
    | exact Or.inr rfl
    | (refine ⟨?_, rfl, rfl⟩; simp_all [-Int32.not_lt, -Int32.not_le, le_n, hd_b])
set_option maxRecDepth 20000 in
theorem s_isCrushed_7 (M : hd_M) (N : hd_N) (n : Nat) (hn : n ≤ 7) (h5 : M 7 5 = nI n) (i : Nat) (hi : i < 7) : hd_Ret mX0_isCrushed [.ref 7, .int (nI i)] M N (hd_is (.int (hd_b (dy_brs (M 8 i) (M 10 i) < wsm (M 10) (i + 1) (n - (i + 1))))) M N) := by
  change hd_Go mX0_isCrushed 0 [some (.ref 7), some (.int (nI i))] [] M N _
  repeat' first
    | refine hd_ju kX0_isCrushed (fun _ => rfl) (fun c => ?_) (fun c => ?_)
    | refine hd_en_ kX0_isCrushed (fun _ => rfl) ?_ ?_
    | refine hd_ci kX0_isCrushed qX0_isCrushed (fun _ => rfl) (s_bearsOf_7 M N i hi) ?_
    | refine hd_ci kX0_isCrushed qX0_isCrushed (fun _ => rfl) (s_weightBehind_7 M N n hn h5 i hi) ?_
    | refine hd_go kX0_isCrushed 999 (fun _ => rfl) rfl ?_ ?_
  all_goals first
    | trivial
    | exact Or.inl rfl
    | exact Or.inr rfl
    | (refine ⟨?_, rfl, rfl⟩; simp_all [-Int32.not_lt, -Int32.not_le, le_n, hd_b])
set_option maxRecDepth 20000 in
theorem s_cheersUnder_1 (M : hd_M) (N : hd_N) (i : Nat) (hi : i < 7) (ld : Int32) : hd_Ret mX0_cheersUnder [.ref 1, .int (nI i), .int ld] M N (hd_is (.int (dy_chr ld (M 2 i) (M 3 i) (M 4 i))) M N) := by
  change hd_Go mX0_cheersUnder 0 [some (.ref 1), some (.int (nI i)), some (.int ld), none] [] M N _
  have ei : (nI i).toNatClampNeg = i := nI_clamp (by omega)
  have hv : vp_in (nI i) 7 := vp_in_nI hi (by decide)
  repeat' first
    | refine hd_ju kX0_cheersUnder (fun _ => rfl) (fun c => ?_) (fun c => ?_)
    | refine hd_en_ kX0_cheersUnder (fun _ => rfl) ?_ ?_
    | refine hd_ci kX0_cheersUnder qX0_cheersUnder (fun _ => rfl) (s_bearsOf_1 M N i hi) ?_
    | refine hd_sc kX0_cheersUnder (fun _ => rfl) ⟨fun c => ?_, fun c => ⟨fun c => ?_, fun c => ⟨fun c => ?_, fun c => ?_⟩⟩⟩
    | refine hd_go kX0_cheersUnder 999 (fun _ => rfl) rfl ?_ ?_
  all_goals first
    | trivial
    | exact ⟨trivial, hv⟩
    | exact ⟨⟨trivial, hv⟩, by decide⟩
    | exact ⟨trivial, by decide⟩
    | (refine ⟨?_, rfl, rfl⟩; simp_all [-Int32.not_lt, -Int32.not_le, le_n, dy_chr, dy_plg])
set_option maxRecDepth 20000 in
theorem s_cheersUnder_7 (M : hd_M) (N : hd_N) (i : Nat) (hi : i < 7) (ld : Int32) : hd_Ret mX0_cheersUnder [.ref 7, .int (nI i), .int ld] M N (hd_is (.int (dy_chr ld (M 8 i) (M 9 i) (M 10 i))) M N) := by
  change hd_Go mX0_cheersUnder 0 [some (.ref 7), some (.int (nI i)), some (.int ld), none] [] M N _
  have ei : (nI i).toNatClampNeg = i := nI_clamp (by omega)
  have hv : vp_in (nI i) 7 := vp_in_nI hi (by decide)
  repeat' first
    | refine hd_ju kX0_cheersUnder (fun _ => rfl) (fun c => ?_) (fun c => ?_)
    | refine hd_en_ kX0_cheersUnder (fun _ => rfl) ?_ ?_
    | refine hd_ci kX0_cheersUnder qX0_cheersUnder (fun _ => rfl) (s_bearsOf_7 M N i hi) ?_
    | refine hd_sc kX0_cheersUnder (fun _ => rfl) ⟨fun c => ?_, fun c => ⟨fun c => ?_, fun c => ⟨fun c => ?_, fun c => ?_⟩⟩⟩
    | refine hd_go kX0_cheersUnder 999 (fun _ => rfl) rfl ?_ ?_
  all_goals first
    | trivial
    | exact ⟨trivial, hv⟩
    | exact ⟨⟨trivial, hv⟩, by decide⟩
    | exact ⟨trivial, by decide⟩
    | (refine ⟨?_, rfl, rfl⟩; simp_all [-Int32.not_lt, -Int32.not_le, le_n, dy_chr, dy_plg])
set_option maxRecDepth 20000 in
theorem s_lastsOf_1 (M : hd_M) (N : hd_N) (i : Nat) (hi : i < 7) : hd_Ret mX0_lastsOf [.ref 1, .int (nI i)] M N (hd_is (.int (dy_lst (M 2 i))) M N) := by
  change hd_Go mX0_lastsOf 0 [some (.ref 1), some (.int (nI i))] [] M N _
  have ei : (nI i).toNatClampNeg = i := nI_clamp (by omega)
  have hv : vp_in (nI i) 7 := vp_in_nI hi (by decide)
  repeat' first
    | refine hd_ju kX0_lastsOf (fun _ => rfl) (fun c => ?_) (fun c => ?_)
    | refine hd_en_ kX0_lastsOf (fun _ => rfl) ?_ ?_
    | refine hd_sc kX0_lastsOf (fun _ => rfl) ⟨fun c => ?_, fun c => ⟨fun c => ?_, fun c => ?_⟩⟩
    | refine hd_go kX0_lastsOf 999 (fun _ => rfl) rfl ?_ ?_
  all_goals first
    | trivial
    | exact ⟨trivial, hv⟩
    | (refine ⟨?_, rfl, rfl⟩; simp_all [-Int32.not_lt, -Int32.not_le, le_n, dy_lst])
set_option maxRecDepth 20000 in
theorem s_lastsOf_7 (M : hd_M) (N : hd_N) (i : Nat) (hi : i < 7) : hd_Ret mX0_lastsOf [.ref 7, .int (nI i)] M N (hd_is (.int (dy_lst (M 8 i))) M N) := by
  change hd_Go mX0_lastsOf 0 [some (.ref 7), some (.int (nI i))] [] M N _
  have ei : (nI i).toNatClampNeg = i := nI_clamp (by omega)
  have hv : vp_in (nI i) 7 := vp_in_nI hi (by decide)
  repeat' first
    | refine hd_ju kX0_lastsOf (fun _ => rfl) (fun c => ?_) (fun c => ?_)
    | refine hd_en_ kX0_lastsOf (fun _ => rfl) ?_ ?_
    | refine hd_sc kX0_lastsOf (fun _ => rfl) ⟨fun c => ?_, fun c => ⟨fun c => ?_, fun c => ?_⟩⟩
    | refine hd_go kX0_lastsOf 999 (fun _ => rfl) rfl ?_ ?_
  all_goals first
    | trivial
    | exact ⟨trivial, hv⟩
    | (refine ⟨?_, rfl, rfl⟩; simp_all [-Int32.not_lt, -Int32.not_le, le_n, dy_lst])
set_option maxRecDepth 20000 in
theorem s_cheersOf_1 (M : hd_M) (N : hd_N) (n : Nat) (hn : n ≤ 7) (h5 : M 1 5 = nI n) (i : Nat) (hi : i < 7) : hd_Ret mX0_cheersOf [.ref 1, .int (nI i)] M N (hd_is (.int (dy_chr (wsm (M 4) (i + 1) (n - (i + 1))) (M 2 i) (M 3 i) (M 4 i))) M N) := by
  change hd_Go mX0_cheersOf 0 [some (.ref 1), some (.int (nI i))] [] M N _
  repeat' first
    | refine hd_ju kX0_cheersOf (fun _ => rfl) (fun c => ?_) (fun c => ?_)
    | refine hd_en_ kX0_cheersOf (fun _ => rfl) ?_ ?_
    | refine hd_ci kX0_cheersOf qX0_cheersOf (fun _ => rfl) (s_cheersUnder_1 M N i hi _) ?_
    | refine hd_ci kX0_cheersOf qX0_cheersOf (fun _ => rfl) (s_weightBehind_1 M N n hn h5 i hi) ?_
    | refine hd_go kX0_cheersOf 999 (fun _ => rfl) rfl ?_ ?_
  all_goals first
    | trivial
    | exact ⟨rfl, rfl, rfl⟩
set_option maxRecDepth 20000 in
theorem s_cheersOf_7 (M : hd_M) (N : hd_N) (n : Nat) (hn : n ≤ 7) (h5 : M 7 5 = nI n) (i : Nat) (hi : i < 7) : hd_Ret mX0_cheersOf [.ref 7, .int (nI i)] M N (hd_is (.int (dy_chr (wsm (M 10) (i + 1) (n - (i + 1))) (M 8 i) (M 9 i) (M 10 i))) M N) := by
  change hd_Go mX0_cheersOf 0 [some (.ref 7), some (.int (nI i))] [] M N _
  repeat' first
    | refine hd_ju kX0_cheersOf (fun _ => rfl) (fun c => ?_) (fun c => ?_)
    | refine hd_en_ kX0_cheersOf (fun _ => rfl) ?_ ?_
    | refine hd_ci kX0_cheersOf qX0_cheersOf (fun _ => rfl) (s_cheersUnder_7 M N i hi _) ?_
    | refine hd_ci kX0_cheersOf qX0_cheersOf (fun _ => rfl) (s_weightBehind_7 M N n hn h5 i hi) ?_
    | refine hd_go kX0_cheersOf 999 (fun _ => rfl) rfl ?_ ?_
  all_goals first
    | trivial
    | exact ⟨rfl, rfl, rfl⟩
set_option maxRecDepth 20000 in
theorem s_isAllIn_1 (M : hd_M) (N : hd_N) : hd_Ret mX0_isAllIn [.ref 1] M N (hd_is (.int (hd_b (M 1 6 = M 1 5))) M N) := by
  change hd_Go mX0_isAllIn 0 [some (.ref 1)] [] M N _
  repeat' first
    | refine hd_ju kX0_isAllIn (fun _ => rfl) (fun c => ?_) (fun c => ?_)
    | refine hd_en_ kX0_isAllIn (fun _ => rfl) ?_ ?_
    | refine hd_go kX0_isAllIn 999 (fun _ => rfl) rfl ?_ ?_
  all_goals first
    | trivial
    | exact Or.inl rfl
    | exact Or.inr rfl
    | (refine ⟨?_, rfl, rfl⟩; simp_all [-Int32.not_lt, -Int32.not_le, le_n, hd_b])
set_option maxRecDepth 20000 in
theorem s_isGone_1 (M : hd_M) (N : hd_N) (i : Nat) (hi : i < 7) : hd_Ret mX0_isGone [.ref 1, .int (nI i)] M N (hd_is (.int (hd_b (¬ nI i < M 1 6 ∧ M 5 i = 0))) M N) := by
  change hd_Go mX0_isGone 0 [some (.ref 1), some (.int (nI i))] [] M N _
  have ei : (nI i).toNatClampNeg = i := nI_clamp (by omega)
  have hv : vp_in (nI i) 7 := vp_in_nI hi (by decide)
  repeat' first
    | refine hd_ju kX0_isGone (fun _ => rfl) (fun c => ?_) (fun c => ?_)
    | refine hd_en_ kX0_isGone (fun _ => rfl) ?_ ?_
    | refine hd_go kX0_isGone 999 (fun _ => rfl) rfl ?_ ?_
  all_goals first
    | trivial
    | exact ⟨trivial, hv⟩
    | exact Or.inl rfl
    | exact Or.inr rfl
    | (refine ⟨?_, rfl, rfl⟩; simp_all [-Int32.not_lt, -Int32.not_le, le_n, hd_b])
set_option maxRecDepth 20000 in
theorem s_isAllIn_7 (M : hd_M) (N : hd_N) : hd_Ret mX0_isAllIn [.ref 7] M N (hd_is (.int (hd_b (M 7 6 = M 7 5))) M N) := by
  change hd_Go mX0_isAllIn 0 [some (.ref 7)] [] M N _
  repeat' first
    | refine hd_ju kX0_isAllIn (fun _ => rfl) (fun c => ?_) (fun c => ?_)
    | refine hd_en_ kX0_isAllIn (fun _ => rfl) ?_ ?_
    | refine hd_go kX0_isAllIn 999 (fun _ => rfl) rfl ?_ ?_
  all_goals first
    | trivial
    | exact Or.inl rfl
    | exact Or.inr rfl
    | (refine ⟨?_, rfl, rfl⟩; simp_all [-Int32.not_lt, -Int32.not_le, le_n, hd_b])
set_option maxRecDepth 20000 in
theorem s_isGone_7 (M : hd_M) (N : hd_N) (i : Nat) (hi : i < 7) : hd_Ret mX0_isGone [.ref 7, .int (nI i)] M N (hd_is (.int (hd_b (¬ nI i < M 7 6 ∧ M 11 i = 0))) M N) := by
  change hd_Go mX0_isGone 0 [some (.ref 7), some (.int (nI i))] [] M N _
  have ei : (nI i).toNatClampNeg = i := nI_clamp (by omega)
  have hv : vp_in (nI i) 7 := vp_in_nI hi (by decide)
  repeat' first
    | refine hd_ju kX0_isGone (fun _ => rfl) (fun c => ?_) (fun c => ?_)
    | refine hd_en_ kX0_isGone (fun _ => rfl) ?_ ?_
    | refine hd_go kX0_isGone 999 (fun _ => rfl) rfl ?_ ?_
  all_goals first
    | trivial
    | exact ⟨trivial, hv⟩
    | exact Or.inl rfl
    | exact Or.inr rfl
    | (refine ⟨?_, rfl, rfl⟩; simp_all [-Int32.not_lt, -Int32.not_le, le_n, hd_b])
set_option maxRecDepth 20000 in
theorem s_tally_l_1 (M : hd_M) (N : hd_N) (d : dy_T) (hd : hm M 1 d) (hn : d.1 ≤ 7) : ∀ (j : Nat) (M' : hd_M), j ≤ d.1 → fr (fun c _ => c = 6) M M' → (∀ x, j ≤ x → x < d.1 → M' 6 x = dy_ch d x) → hd_Go mX0_tallyCheers 9 [some (.ref 1), some (.int (wsm (d.2.2.2.2.2 2) j (d.1 - j))), some (.int (nI j - 1))] [] M' N (fun r M1 N1 => r = none ∧ N1 = N ∧ fr (fun c _ => c = 6) M M1 ∧ ∀ i, i < d.1 → M1 6 i = dy_ch d i) := by
  intro j
  induction j with
  | zero =>
    intro M' _ hf hx
    refine hd_go kX0_tallyCheers 999 (fun _ => rfl) rfl trivial ?_
    refine hd_ju kX0_tallyCheers (fun _ => rfl) (fun c => ?_) (fun c => ?_)
    · exact hd_en_ kX0_tallyCheers (fun _ => rfl) trivial ⟨rfl, rfl, hf, fun i hi => hx i (Nat.zero_le _) hi⟩
    · exact absurd (by decide) c
  | succ j ih =>
    intro M' hj hf hx
    rw [nI_pred]
    have ej : (nI j).toNatClampNeg = j := nI_clamp (by omega)
    have hv : vp_in (nI j) 7 := vp_in_nI (by omega) (by decide)
    have r1 : ∀ x, M' 2 x = M 2 x := fun x => hf 2 x (by simp)
    have r2 : ∀ x, M' 3 x = M 3 x := fun x => hf 3 x (by simp)
    have r3 : ∀ x, M' 4 x = M 4 x := fun x => hf 4 x (by simp)
    refine hd_go kX0_tallyCheers 999 (fun _ => rfl) rfl trivial ?_
    refine hd_ju kX0_tallyCheers (fun _ => rfl) (fun c => ?_) (fun c => ?_)
    · exact absurd c (nI_pos (by omega))
    refine hd_go kX0_tallyCheers 999 (fun _ => rfl) rfl trivial ?_
    refine hd_ci kX0_tallyCheers qX0_tallyCheers (fun _ => rfl) (s_cheersUnder_1 M' N j (by omega) _) ?_
    refine hd_go kX0_tallyCheers 999 (fun _ => rfl) rfl ⟨⟨trivial, hv⟩, hv⟩ ?_
    rw [ej, hd_u_n (by omega), r1, r2, r3, hd.2.2.2.2.2.1 j (by omega), hd.2.2.2.2.2.2.1 j (by omega), hd.2.2.2.2.2.2.2.1 j (by omega)]
    have e1 : wsm (d.2.2.2.2.2 2) (j + 1) (d.1 - (j + 1)) + d.2.2.2.2.2 2 j = wsm (d.2.2.2.2.2 2) j (d.1 - j) := by
      rw [show d.1 - j = (d.1 - (j + 1)) + 1 by omega, wsm, Int32.add_comm]
    rw [e1, ← Int32.sub_eq_add_neg]
    refine ih _ (by omega) (hf.up rfl) (fun x h1 h2 => ?_)
    by_cases hxj : x = j
    · subst hxj
      rw [hd_u_s]
      rfl
    · rw [hd_u_n (fun z => hxj z.2)]
      exact hx x (by omega) h2
set_option maxRecDepth 20000 in
theorem s_tally_1 (M : hd_M) (N : hd_N) (d : dy_T) (hd : hm M 1 d) (hn : d.1 ≤ 7) : hd_Ret mX0_tallyCheers [.ref 1] M N (fun r M1 N1 => r = none ∧ N1 = N ∧ fr (fun c _ => c = 6) M M1 ∧ ∀ i, i < d.1 → M1 6 i = dy_ch d i) := by
  change hd_Go mX0_tallyCheers 0 [some (.ref 1), none, none] [] M N _
  refine hd_go kX0_tallyCheers 9 (fun _ => rfl) rfl trivial ?_
  rw [hd.1]
  have := s_tally_l_1 M N d hd hn d.1 M (Nat.le_refl _) fr.rf (fun x h1 h2 => absurd h2 (Nat.not_lt.mpr h1))
  rw [Nat.sub_self, wsm] at this
  exact this
set_option maxRecDepth 20000 in
theorem s_tally_l_7 (M : hd_M) (N : hd_N) (d : dy_T) (hd : hm M 7 d) (hn : d.1 ≤ 7) : ∀ (j : Nat) (M' : hd_M), j ≤ d.1 → fr (fun c _ => c = 12) M M' → (∀ x, j ≤ x → x < d.1 → M' 12 x = dy_ch d x) → hd_Go mX0_tallyCheers 9 [some (.ref 7), some (.int (wsm (d.2.2.2.2.2 2) j (d.1 - j))), some (.int (nI j - 1))] [] M' N (fun r M1 N1 => r = none ∧ N1 = N ∧ fr (fun c _ => c = 12) M M1 ∧ ∀ i, i < d.1 → M1 12 i = dy_ch d i) := by
  intro j
  induction j with
  | zero =>
    intro M' _ hf hx
    refine hd_go kX0_tallyCheers 999 (fun _ => rfl) rfl trivial ?_
    refine hd_ju kX0_tallyCheers (fun _ => rfl) (fun c => ?_) (fun c => ?_)
    · exact hd_en_ kX0_tallyCheers (fun _ => rfl) trivial ⟨rfl, rfl, hf, fun i hi => hx i (Nat.zero_le _) hi⟩
    · exact absurd (by decide) c
  | succ j ih =>
    intro M' hj hf hx
    rw [nI_pred]
    have ej : (nI j).toNatClampNeg = j := nI_clamp (by omega)
    have hv : vp_in (nI j) 7 := vp_in_nI (by omega) (by decide)
    have r1 : ∀ x, M' 8 x = M 8 x := fun x => hf 8 x (by simp)
    have r2 : ∀ x, M' 9 x = M 9 x := fun x => hf 9 x (by simp)
    have r3 : ∀ x, M' 10 x = M 10 x := fun x => hf 10 x (by simp)
    refine hd_go kX0_tallyCheers 999 (fun _ => rfl) rfl trivial ?_
    refine hd_ju kX0_tallyCheers (fun _ => rfl) (fun c => ?_) (fun c => ?_)
    · exact absurd c (nI_pos (by omega))
    refine hd_go kX0_tallyCheers 999 (fun _ => rfl) rfl trivial ?_
    refine hd_ci kX0_tallyCheers qX0_tallyCheers (fun _ => rfl) (s_cheersUnder_7 M' N j (by omega) _) ?_
    refine hd_go kX0_tallyCheers 999 (fun _ => rfl) rfl ⟨⟨trivial, hv⟩, hv⟩ ?_
    rw [ej, hd_u_n (by omega), r1, r2, r3, hd.2.2.2.2.2.1 j (by omega), hd.2.2.2.2.2.2.1 j (by omega), hd.2.2.2.2.2.2.2.1 j (by omega)]
    have e1 : wsm (d.2.2.2.2.2 2) (j + 1) (d.1 - (j + 1)) + d.2.2.2.2.2 2 j = wsm (d.2.2.2.2.2 2) j (d.1 - j) := by
      rw [show d.1 - j = (d.1 - (j + 1)) + 1 by omega, wsm, Int32.add_comm]
    rw [e1, ← Int32.sub_eq_add_neg]
    refine ih _ (by omega) (hf.up rfl) (fun x h1 h2 => ?_)
    by_cases hxj : x = j
    · subst hxj
      rw [hd_u_s]
      rfl
    · rw [hd_u_n (fun z => hxj z.2)]
      exact hx x (by omega) h2
set_option maxRecDepth 20000 in
theorem s_tally_7 (M : hd_M) (N : hd_N) (d : dy_T) (hd : hm M 7 d) (hn : d.1 ≤ 7) : hd_Ret mX0_tallyCheers [.ref 7] M N (fun r M1 N1 => r = none ∧ N1 = N ∧ fr (fun c _ => c = 12) M M1 ∧ ∀ i, i < d.1 → M1 12 i = dy_ch d i) := by
  change hd_Go mX0_tallyCheers 0 [some (.ref 7), none, none] [] M N _
  refine hd_go kX0_tallyCheers 9 (fun _ => rfl) rfl trivial ?_
  rw [hd.1]
  have := s_tally_l_7 M N d hd hn d.1 M (Nat.le_refl _) fr.rf (fun x h1 h2 => absurd h2 (Nat.not_lt.mpr h1))
  rw [Nat.sub_self, wsm] at this
  exact this
set_option maxRecDepth 20000 in
theorem s_passOne_l_1 (N : hd_N) (n : Nat) (hn : n ≤ 7) (ot ch : Nat → Int32) (lv : Int32) (Q : hd_Q) (M : hd_M) (T : Int32) (h5 : M 1 5 = nI n) (hch : ∀ x, x < n → M 6 x = ch x) (hk : ∀ M1, fr (fun c _ => c = 5) M M1 → (∀ x, x < n → M1 5 x = if 0 < ot x then ot x - 1 else ot x) → hd_Go mX0_passOne 95 [some (.ref 1), some (.int lv), some (.int T), some (.int (nI n))] [] M1 N Q) : ∀ (m j : Nat) (s : Int32) (M' : hd_M), j + m = n → fr (fun c _ => c = 5) M M' → (∀ x, x < j → M' 5 x = if 0 < ot x then ot x - 1 else ot x) → (∀ x, j ≤ x → x < n → M' 5 x = ot x) → dy_tik ot ch j m s = T → hd_Go mX0_passOne 53 [some (.ref 1), some (.int lv), some (.int s), some (.int (nI j))] [] M' N Q := by
  intro m
  induction m with
  | zero =>
    intro j s M' hj hf h1 h2 hT
    have e5 : M' 1 5 = nI n := (hf 1 5 (by simp)).trans h5
    refine hd_go kX0_passOne 999 (fun _ => rfl) rfl trivial ?_
    refine hd_ju kX0_passOne (fun _ => rfl) (fun c => ?_) (fun c => ?_)
    · have hjn : j = n := by omega
      subst hjn
      have hs : s = T := hT
      subst hs
      exact hk M' hf h1
    · rw [e5] at c
      exact absurd (nI_le (by omega) (by omega)) c
  | succ m ih =>
    intro j s M' hj hf h1 h2 hT
    have e5 : M' 1 5 = nI n := (hf 1 5 (by simp)).trans h5
    have ej : (nI j).toNatClampNeg = j := nI_clamp (by omega)
    have hv : vp_in (nI j) 7 := vp_in_nI (by omega) (by decide)
    have eo : M' 5 j = ot j := h2 j (Nat.le_refl _) (by omega)
    have ec : M' 6 j = ch j := (hf 6 j (by simp)).trans (hch j (by omega))
    refine hd_go kX0_passOne 999 (fun _ => rfl) rfl trivial ?_
    refine hd_ju kX0_passOne (fun _ => rfl) (fun c => ?_) (fun c => ?_)
    · rw [e5] at c
      exact absurd c (nI_ge (by omega) (by omega))
    refine hd_go kX0_passOne 999 (fun _ => rfl) rfl ⟨trivial, hv⟩ ?_
    rw [ej, eo]
    rw [dy_tik] at hT
    refine hd_ju kX0_passOne (fun _ => rfl) (fun c => ?_) (fun c => ?_)
    · refine hd_go kX0_passOne 999 (fun _ => rfl) rfl trivial ?_
      have c9 : ¬ 0 < ot j := Int32.not_lt.mpr c
      rw [if_neg c9] at hT
      rw [nI_1]
      refine ih (j + 1) s M' (by omega) hf (fun x hx => ?_) (fun x hx => h2 x (by omega)) hT
      by_cases hxj : x = j
      · subst hxj
        rw [eo, if_neg c9]
      · exact h1 x (by omega)
    · have c9 : 0 < ot j := Int32.not_le.mp c
      rw [if_pos c9] at hT
      refine hd_go kX0_passOne 999 (fun _ => rfl) rfl ⟨⟨⟨trivial, hv⟩, hv⟩, hv⟩ ?_
      rw [ej, eo, ec, nI_1]
      refine ih (j + 1) _ _ (by omega) (hf.up rfl) (fun x hx => ?_) (fun x hx hx2 => ?_) hT
      · by_cases hxj : x = j
        · subst hxj
          rw [hd_u_s, if_pos c9]
        · rw [hd_u_n (fun z => hxj z.2)]
          exact h1 x (by omega)
      · rw [hd_u_n (fun z => by omega)]
        exact h2 x (by omega) hx2
set_option maxRecDepth 20000 in
theorem s_passOne_1 (M : hd_M) (N : hd_N) (d : dy_T) (hd : hm M 1 d) (ok : dy_ok d) (hch : ∀ i, i < d.1 → M 6 i = dy_ch d i) (lv : Int32) (lid : Bool) (hl : lv = if lid then 1 else 0) : hd_Ret mX0_passOne [.ref 1, .int lv] M N (fun r M1 N1 => r = none ∧ N1 = N ∧ fr (fun c _ => 1 ≤ c ∧ c ≤ 5) M M1 ∧ hm M1 1 (dy_ho lid d)) := by
  change hd_Go mX0_passOne 0 [some (.ref 1), some (.int lv), none, none] [] M N _
  obtain ⟨hn, hln, hlo, hout, -, -⟩ := ok
  -- behind the opening
  have main : ∀ Ma : hd_M, fr (fun c _ => 1 ≤ c ∧ c ≤ 5) M Ma → hm Ma 1 (dy_op lid d) → (∀ i, i < d.1 → Ma 6 i = dy_ch d i) → (∀ i, i < (dy_op lid d).2.1 → (dy_op lid d).2.2.2.2.2 3 i = 0) → hd_Go mX0_passOne 38 [some (.ref 1), some (.int lv), none, none] [] Ma N (fun r M1 N1 => r = none ∧ N1 = N ∧ fr (fun c _ => 1 ≤ c ∧ c ≤ 5) M M1 ∧ hm M1 1 (dy_ho lid d)) := by
    intro Ma hfa hma hca hlow
    have en : (dy_op lid d).1 = d.1 := by unfold dy_op; split <;> rfl
    have em : (dy_op lid d).2.2.1 = d.2.2.1 := by unfold dy_op; split <;> rfl
    have et : (dy_op lid d).2.2.2.1 = d.2.2.2.1 := by unfold dy_op; split <;> rfl
    have eh : (dy_op lid d).2.2.2.2.1 = d.2.2.2.2.1 := by unfold dy_op; split <;> rfl
    have el : (dy_op lid d).2.1 ≤ d.1 := by unfold dy_op; split <;> first | exact hln | (show d.2.1 - 1 ≤ d.1; omega)
    obtain ⟨a5, a6, a7, a8, a9, b1, b2, b3, b4⟩ := hma
    rw [en] at a5 b1 b2 b3 b4
    refine hd_go kX0_passOne 53 (fun _ => rfl) rfl trivial ?_
    rw [a6, a7, a8, em, et]
    have hsk : dy_tik ((dy_op lid d).2.2.2.2.2 3) (dy_ch d) (dy_op lid d).2.1 (d.1 - (dy_op lid d).2.1) (d.2.2.1 - d.2.2.2.1) = dy_tik ((dy_op lid d).2.2.2.2.2 3) (dy_ch d) 0 d.1 (d.2.2.1 - d.2.2.2.1) := by
      have := dy_tik_skip (ot := (dy_op lid d).2.2.2.2.2 3) (ch := dy_ch d) (dy_op lid d).2.1 (d.1 - (dy_op lid d).2.1) 0 (d.2.2.1 - d.2.2.2.1) (fun x _ h2 => by rw [hlow x (by omega)]; decide)
      rw [show (dy_op lid d).2.1 + (d.1 - (dy_op lid d).2.1) = d.1 by omega, Nat.zero_add] at this
      exact this.symm
    refine s_passOne_l_1 N d.1 hn ((dy_op lid d).2.2.2.2.2 3) (dy_ch d) lv _ Ma _ a5 hca ?_ (d.1 - (dy_op lid d).2.1) (dy_op lid d).2.1 _ Ma (by omega) fr.rf (fun x hx => ?_) (fun x _ hx => b4 x hx) hsk
    · intro M1 hf1 hx1
      refine hd_go kX0_passOne 999 (fun _ => rfl) rfl trivial ?_
      refine hd_en_ kX0_passOne (fun _ => rfl) trivial ?_
      have g : ∀ c j, ¬ c = 5 → M1 c j = Ma c j := hf1
      refine ⟨rfl, rfl, ((hfa.tr (hf1.mo (fun c j h => by have h : c = 5 := h; show 1 ≤ c ∧ c ≤ 5; omega))).up (by simp)).up (by simp), ?_⟩
      refine ⟨?_, ?_, ?_, ?_, ?_, fun i hi => ?_, fun i hi => ?_, fun i hi => ?_, fun i hi => ?_⟩
      · rw [hd_u_n (by omega), hd_u_n (by omega), g _ _ (by decide)]; exact a5
      · rw [hd_u_n (by omega), hd_u_n (by omega), g _ _ (by decide)]; exact a6
      · rw [hd_u_n (by omega), hd_u_s]; exact dy_clm_eq _
      · rw [hd_u_n (by omega), hd_u_n (by omega), g _ _ (by decide), a8]; exact et
      · rw [hd_u_s, hd_u_n (by omega), g _ _ (by decide), a9, eh]; rfl
      · rw [hd_u_n (by omega), hd_u_n (by omega), g _ _ (by decide)]; exact b1 i hi
      · rw [hd_u_n (by omega), hd_u_n (by omega), g _ _ (by decide)]; exact b2 i hi
      · rw [hd_u_n (by omega), hd_u_n (by omega), g _ _ (by decide)]; exact b3 i hi
      · rw [hd_u_n (by omega), hd_u_n (by omega)]
        refine (hx1 i hi).trans ?_
        show _ = if 3 = 3 ∧ 0 < (dy_op lid d).2.2.2.2.2 3 i then (dy_op lid d).2.2.2.2.2 3 i - 1 else (dy_op lid d).2.2.2.2.2 3 i
        by_cases ho : 0 < (dy_op lid d).2.2.2.2.2 3 i
        · rw [if_pos ho, if_pos ⟨rfl, ho⟩]
        · rw [if_neg ho, if_neg (fun z => ho z.2)]
    · rw [b4 x (by omega), hlow x hx, if_neg (by decide)]
  refine hd_go kX0_passOne 999 (fun _ => rfl) rfl trivial ?_
  rw [hd.2.1]
  have hno : ¬ (lid = false ∧ 0 < d.2.1) → hd_Go mX0_passOne 38 [some (.ref 1), some (.int lv), none, none] [] M N (fun r M1 N1 => r = none ∧ N1 = N ∧ fr (fun c _ => 1 ≤ c ∧ c ≤ 5) M M1 ∧ hm M1 1 (dy_ho lid d)) := by
    intro hc
    have e : dy_op lid d = d := by unfold dy_op; rw [if_neg hc]
    exact main M fr.rf (by rw [e]; exact hd) hch (by rw [e]; exact hlo)
  refine hd_ju kX0_passOne (fun _ => rfl) (fun c => ?_) (fun c => ?_)
  · refine hno (fun z => ?_)
    exact nI_nle z.2 (by omega) c
  refine hd_go kX0_passOne 999 (fun _ => rfl) rfl trivial ?_
  refine hd_ju kX0_passOne (fun _ => rfl) (fun c2 => ?_) (fun c2 => ?_)
  · refine hno (fun z => ?_)
    rw [z.1] at hl
    exact c2 hl
  have hlid : lid = false := by
    cases lid with
    | false => rfl
    | true => rw [hl] at c2; exact absurd c2 (by decide)
  have hpos : 0 < d.2.1 := by
    rcases Nat.eq_zero_or_pos d.2.1 with z | z
    · rw [z] at c; exact absurd (by decide) c
    · exact z
  obtain ⟨a5, a6, a7, a8, a9, b1, b2, b3, b4⟩ := hd
  refine hd_go kX0_passOne 999 (fun _ => rfl) rfl trivial ?_
  have e6 : M 1 6 - 1 = nI (d.2.1 - 1) := by
    rw [a6, show d.2.1 = (d.2.1 - 1) + 1 by omega, nI_pred]
    simp
  rw [hd_u_s, e6]
  refine hd_ci kX0_passOne qX0_passOne (fun _ => rfl) (s_lastsOf_1 _ N (d.2.1 - 1) (by omega)) ?_
  refine hd_go kX0_passOne 38 (fun _ => rfl) rfl ⟨trivial, vp_in_nI (by omega) (by decide)⟩ ?_
  rw [nI_clamp (by omega), hd_u_n (by omega), b1 _ (by omega)]
  have e : dy_op lid d = (d.1, d.2.1 - 1, d.2.2.1, d.2.2.2.1, d.2.2.2.2.1, fun c i => if c = 3 ∧ i = d.2.1 - 1 then dy_lst (d.2.2.2.2.2 0 i) else d.2.2.2.2.2 c i) := by
    unfold dy_op
    rw [if_pos ⟨hlid, hpos⟩]
  refine main _ ((fr.rf.up (by simp)).up (by simp)) ?_ ?_ ?_
  · rw [e]
    refine ⟨?_, ?_, ?_, ?_, ?_, fun i hi => ?_, fun i hi => ?_, fun i hi => ?_, fun i hi => ?_⟩
    · rw [hd_u_n (by omega), hd_u_n (by omega)]; exact a5
    · rw [hd_u_n (by omega), hd_u_s]
    · rw [hd_u_n (by omega), hd_u_n (by omega)]; exact a7
    · rw [hd_u_n (by omega), hd_u_n (by omega)]; exact a8
    · rw [hd_u_n (by omega), hd_u_n (by omega)]; exact a9
    · rw [hd_u_n (by omega), hd_u_n (by omega), b1 i hi]; rfl
    · rw [hd_u_n (by omega), hd_u_n (by omega), b2 i hi]; rfl
    · rw [hd_u_n (by omega), hd_u_n (by omega), b3 i hi]; rfl
    · show _ = if 3 = 3 ∧ i = d.2.1 - 1 then dy_lst (d.2.2.2.2.2 0 i) else d.2.2.2.2.2 3 i
      by_cases hi2 : i = d.2.1 - 1
      · rw [if_pos ⟨rfl, hi2⟩, hi2, hd_u_s]
      · rw [if_neg (fun z => hi2 z.2), hd_u_n (fun z => hi2 z.2), hd_u_n (by omega)]
        exact b4 i hi
  · intro i hi
    rw [hd_u_n (by omega), hd_u_n (by omega)]
    exact hch i hi
  · rw [e]
    intro i hi
    have hi : i < d.2.1 - 1 := hi
    show (if 3 = 3 ∧ i = d.2.1 - 1 then dy_lst (d.2.2.2.2.2 0 i) else d.2.2.2.2.2 3 i) = 0
    rw [if_neg (fun z => by omega)]
    exact hlo i (by omega)
set_option maxRecDepth 20000 in
theorem s_passOne_l_7 (N : hd_N) (n : Nat) (hn : n ≤ 7) (ot ch : Nat → Int32) (lv : Int32) (Q : hd_Q) (M : hd_M) (T : Int32) (h5 : M 7 5 = nI n) (hch : ∀ x, x < n → M 12 x = ch x) (hk : ∀ M1, fr (fun c _ => c = 11) M M1 → (∀ x, x < n → M1 11 x = if 0 < ot x then ot x - 1 else ot x) → hd_Go mX0_passOne 95 [some (.ref 7), some (.int lv), some (.int T), some (.int (nI n))] [] M1 N Q) : ∀ (m j : Nat) (s : Int32) (M' : hd_M), j + m = n → fr (fun c _ => c = 11) M M' → (∀ x, x < j → M' 11 x = if 0 < ot x then ot x - 1 else ot x) → (∀ x, j ≤ x → x < n → M' 11 x = ot x) → dy_tik ot ch j m s = T → hd_Go mX0_passOne 53 [some (.ref 7), some (.int lv), some (.int s), some (.int (nI j))] [] M' N Q := by
  intro m
  induction m with
  | zero =>
    intro j s M' hj hf h1 h2 hT
    have e5 : M' 7 5 = nI n := (hf 7 5 (by simp)).trans h5
    refine hd_go kX0_passOne 999 (fun _ => rfl) rfl trivial ?_
    refine hd_ju kX0_passOne (fun _ => rfl) (fun c => ?_) (fun c => ?_)
    · have hjn : j = n := by omega
      subst hjn
      have hs : s = T := hT
      subst hs
      exact hk M' hf h1
    · rw [e5] at c
      exact absurd (nI_le (by omega) (by omega)) c
  | succ m ih =>
    intro j s M' hj hf h1 h2 hT
    have e5 : M' 7 5 = nI n := (hf 7 5 (by simp)).trans h5
    have ej : (nI j).toNatClampNeg = j := nI_clamp (by omega)
    have hv : vp_in (nI j) 7 := vp_in_nI (by omega) (by decide)
    have eo : M' 11 j = ot j := h2 j (Nat.le_refl _) (by omega)
    have ec : M' 12 j = ch j := (hf 12 j (by simp)).trans (hch j (by omega))
    refine hd_go kX0_passOne 999 (fun _ => rfl) rfl trivial ?_
    refine hd_ju kX0_passOne (fun _ => rfl) (fun c => ?_) (fun c => ?_)
    · rw [e5] at c
      exact absurd c (nI_ge (by omega) (by omega))
    refine hd_go kX0_passOne 999 (fun _ => rfl) rfl ⟨trivial, hv⟩ ?_
    rw [ej, eo]
    rw [dy_tik] at hT
    refine hd_ju kX0_passOne (fun _ => rfl) (fun c => ?_) (fun c => ?_)
    · refine hd_go kX0_passOne 999 (fun _ => rfl) rfl trivial ?_
      have c9 : ¬ 0 < ot j := Int32.not_lt.mpr c
      rw [if_neg c9] at hT
      rw [nI_1]
      refine ih (j + 1) s M' (by omega) hf (fun x hx => ?_) (fun x hx => h2 x (by omega)) hT
      by_cases hxj : x = j
      · subst hxj
        rw [eo, if_neg c9]
      · exact h1 x (by omega)
    · have c9 : 0 < ot j := Int32.not_le.mp c
      rw [if_pos c9] at hT
      refine hd_go kX0_passOne 999 (fun _ => rfl) rfl ⟨⟨⟨trivial, hv⟩, hv⟩, hv⟩ ?_
      rw [ej, eo, ec, nI_1]
      refine ih (j + 1) _ _ (by omega) (hf.up rfl) (fun x hx => ?_) (fun x hx hx2 => ?_) hT
      · by_cases hxj : x = j
        · subst hxj
          rw [hd_u_s, if_pos c9]
        · rw [hd_u_n (fun z => hxj z.2)]
          exact h1 x (by omega)
      · rw [hd_u_n (fun z => by omega)]
        exact h2 x (by omega) hx2
set_option maxRecDepth 20000 in
theorem s_passOne_7 (M : hd_M) (N : hd_N) (d : dy_T) (hd : hm M 7 d) (ok : dy_ok d) (hch : ∀ i, i < d.1 → M 12 i = dy_ch d i) (lv : Int32) (lid : Bool) (hl : lv = if lid then 1 else 0) : hd_Ret mX0_passOne [.ref 7, .int lv] M N (fun r M1 N1 => r = none ∧ N1 = N ∧ fr (fun c _ => 7 ≤ c ∧ c ≤ 11) M M1 ∧ hm M1 7 (dy_ho lid d)) := by
  change hd_Go mX0_passOne 0 [some (.ref 7), some (.int lv), none, none] [] M N _
  obtain ⟨hn, hln, hlo, hout, -, -⟩ := ok
  -- behind the opening
  have main : ∀ Ma : hd_M, fr (fun c _ => 7 ≤ c ∧ c ≤ 11) M Ma → hm Ma 7 (dy_op lid d) → (∀ i, i < d.1 → Ma 12 i = dy_ch d i) → (∀ i, i < (dy_op lid d).2.1 → (dy_op lid d).2.2.2.2.2 3 i = 0) → hd_Go mX0_passOne 38 [some (.ref 7), some (.int lv), none, none] [] Ma N (fun r M1 N1 => r = none ∧ N1 = N ∧ fr (fun c _ => 7 ≤ c ∧ c ≤ 11) M M1 ∧ hm M1 7 (dy_ho lid d)) := by
    intro Ma hfa hma hca hlow
    have en : (dy_op lid d).1 = d.1 := by unfold dy_op; split <;> rfl
    have em : (dy_op lid d).2.2.1 = d.2.2.1 := by unfold dy_op; split <;> rfl
    have et : (dy_op lid d).2.2.2.1 = d.2.2.2.1 := by unfold dy_op; split <;> rfl
    have eh : (dy_op lid d).2.2.2.2.1 = d.2.2.2.2.1 := by unfold dy_op; split <;> rfl
    have el : (dy_op lid d).2.1 ≤ d.1 := by unfold dy_op; split <;> first | exact hln | (show d.2.1 - 1 ≤ d.1; omega)
    obtain ⟨a5, a6, a7, a8, a9, b1, b2, b3, b4⟩ := hma
    rw [en] at a5 b1 b2 b3 b4
    refine hd_go kX0_passOne 53 (fun _ => rfl) rfl trivial ?_
    rw [a6, a7, a8, em, et]
    have hsk : dy_tik ((dy_op lid d).2.2.2.2.2 3) (dy_ch d) (dy_op lid d).2.1 (d.1 - (dy_op lid d).2.1) (d.2.2.1 - d.2.2.2.1) = dy_tik ((dy_op lid d).2.2.2.2.2 3) (dy_ch d) 0 d.1 (d.2.2.1 - d.2.2.2.1) := by
      have := dy_tik_skip (ot := (dy_op lid d).2.2.2.2.2 3) (ch := dy_ch d) (dy_op lid d).2.1 (d.1 - (dy_op lid d).2.1) 0 (d.2.2.1 - d.2.2.2.1) (fun x _ h2 => by rw [hlow x (by omega)]; decide)
      rw [show (dy_op lid d).2.1 + (d.1 - (dy_op lid d).2.1) = d.1 by omega, Nat.zero_add] at this
      exact this.symm
    refine s_passOne_l_7 N d.1 hn ((dy_op lid d).2.2.2.2.2 3) (dy_ch d) lv _ Ma _ a5 hca ?_ (d.1 - (dy_op lid d).2.1) (dy_op lid d).2.1 _ Ma (by omega) fr.rf (fun x hx => ?_) (fun x _ hx => b4 x hx) hsk
    · intro M1 hf1 hx1
      refine hd_go kX0_passOne 999 (fun _ => rfl) rfl trivial ?_
      refine hd_en_ kX0_passOne (fun _ => rfl) trivial ?_
      have g : ∀ c j, ¬ c = 11 → M1 c j = Ma c j := hf1
      refine ⟨rfl, rfl, ((hfa.tr (hf1.mo (fun c j h => by have h : c = 11 := h; show 7 ≤ c ∧ c ≤ 11; omega))).up (by simp)).up (by simp), ?_⟩
      refine ⟨?_, ?_, ?_, ?_, ?_, fun i hi => ?_, fun i hi => ?_, fun i hi => ?_, fun i hi => ?_⟩
      · rw [hd_u_n (by omega), hd_u_n (by omega), g _ _ (by decide)]; exact a5
      · rw [hd_u_n (by omega), hd_u_n (by omega), g _ _ (by decide)]; exact a6
      · rw [hd_u_n (by omega), hd_u_s]; exact dy_clm_eq _
      · rw [hd_u_n (by omega), hd_u_n (by omega), g _ _ (by decide), a8]; exact et
      · rw [hd_u_s, hd_u_n (by omega), g _ _ (by decide), a9, eh]; rfl
      · rw [hd_u_n (by omega), hd_u_n (by omega), g _ _ (by decide)]; exact b1 i hi
      · rw [hd_u_n (by omega), hd_u_n (by omega), g _ _ (by decide)]; exact b2 i hi
      · rw [hd_u_n (by omega), hd_u_n (by omega), g _ _ (by decide)]; exact b3 i hi
      · rw [hd_u_n (by omega), hd_u_n (by omega)]
        refine (hx1 i hi).trans ?_
        show _ = if 3 = 3 ∧ 0 < (dy_op lid d).2.2.2.2.2 3 i then (dy_op lid d).2.2.2.2.2 3 i - 1 else (dy_op lid d).2.2.2.2.2 3 i
        by_cases ho : 0 < (dy_op lid d).2.2.2.2.2 3 i
        · rw [if_pos ho, if_pos ⟨rfl, ho⟩]
        · rw [if_neg ho, if_neg (fun z => ho z.2)]
    · rw [b4 x (by omega), hlow x hx, if_neg (by decide)]
  refine hd_go kX0_passOne 999 (fun _ => rfl) rfl trivial ?_
  rw [hd.2.1]
  have hno : ¬ (lid = false ∧ 0 < d.2.1) → hd_Go mX0_passOne 38 [some (.ref 7), some (.int lv), none, none] [] M N (fun r M1 N1 => r = none ∧ N1 = N ∧ fr (fun c _ => 7 ≤ c ∧ c ≤ 11) M M1 ∧ hm M1 7 (dy_ho lid d)) := by
    intro hc
    have e : dy_op lid d = d := by unfold dy_op; rw [if_neg hc]
    exact main M fr.rf (by rw [e]; exact hd) hch (by rw [e]; exact hlo)
  refine hd_ju kX0_passOne (fun _ => rfl) (fun c => ?_) (fun c => ?_)
  · refine hno (fun z => ?_)
    exact nI_nle z.2 (by omega) c
  refine hd_go kX0_passOne 999 (fun _ => rfl) rfl trivial ?_
  refine hd_ju kX0_passOne (fun _ => rfl) (fun c2 => ?_) (fun c2 => ?_)
  · refine hno (fun z => ?_)
    rw [z.1] at hl
    exact c2 hl
  have hlid : lid = false := by
    cases lid with
    | false => rfl
    | true => rw [hl] at c2; exact absurd c2 (by decide)
  have hpos : 0 < d.2.1 := by
    rcases Nat.eq_zero_or_pos d.2.1 with z | z
    · rw [z] at c; exact absurd (by decide) c
    · exact z
  obtain ⟨a5, a6, a7, a8, a9, b1, b2, b3, b4⟩ := hd
  refine hd_go kX0_passOne 999 (fun _ => rfl) rfl trivial ?_
  have e6 : M 7 6 - 1 = nI (d.2.1 - 1) := by
    rw [a6, show d.2.1 = (d.2.1 - 1) + 1 by omega, nI_pred]
    simp
  rw [hd_u_s, e6]
  refine hd_ci kX0_passOne qX0_passOne (fun _ => rfl) (s_lastsOf_7 _ N (d.2.1 - 1) (by omega)) ?_
  refine hd_go kX0_passOne 38 (fun _ => rfl) rfl ⟨trivial, vp_in_nI (by omega) (by decide)⟩ ?_
  rw [nI_clamp (by omega), hd_u_n (by omega), b1 _ (by omega)]
  have e : dy_op lid d = (d.1, d.2.1 - 1, d.2.2.1, d.2.2.2.1, d.2.2.2.2.1, fun c i => if c = 3 ∧ i = d.2.1 - 1 then dy_lst (d.2.2.2.2.2 0 i) else d.2.2.2.2.2 c i) := by
    unfold dy_op
    rw [if_pos ⟨hlid, hpos⟩]
  refine main _ ((fr.rf.up (by simp)).up (by simp)) ?_ ?_ ?_
  · rw [e]
    refine ⟨?_, ?_, ?_, ?_, ?_, fun i hi => ?_, fun i hi => ?_, fun i hi => ?_, fun i hi => ?_⟩
    · rw [hd_u_n (by omega), hd_u_n (by omega)]; exact a5
    · rw [hd_u_n (by omega), hd_u_s]
    · rw [hd_u_n (by omega), hd_u_n (by omega)]; exact a7
    · rw [hd_u_n (by omega), hd_u_n (by omega)]; exact a8
    · rw [hd_u_n (by omega), hd_u_n (by omega)]; exact a9
    · rw [hd_u_n (by omega), hd_u_n (by omega), b1 i hi]; rfl
    · rw [hd_u_n (by omega), hd_u_n (by omega), b2 i hi]; rfl
    · rw [hd_u_n (by omega), hd_u_n (by omega), b3 i hi]; rfl
    · show _ = if 3 = 3 ∧ i = d.2.1 - 1 then dy_lst (d.2.2.2.2.2 0 i) else d.2.2.2.2.2 3 i
      by_cases hi2 : i = d.2.1 - 1
      · rw [if_pos ⟨rfl, hi2⟩, hi2, hd_u_s]
      · rw [if_neg (fun z => hi2 z.2), hd_u_n (fun z => hi2 z.2), hd_u_n (by omega)]
        exact b4 i hi
  · intro i hi
    rw [hd_u_n (by omega), hd_u_n (by omega)]
    exact hch i hi
  · rw [e]
    intro i hi
    have hi : i < d.2.1 - 1 := hi
    show (if 3 = 3 ∧ i = d.2.1 - 1 then dy_lst (d.2.2.2.2.2 0 i) else d.2.2.2.2.2 3 i) = 0
    rw [if_neg (fun z => by omega)]
    exact hlo i (by omega)
end
section
/-! THE HAMPER'S METHODS THAT CHANGE IT; printed by wip/whole/ham2.py -/
theorem dy_bits_0 {p : Nat → Bool} : ∀ n : Nat, (∀ i, i < n → p i = false) → dy_bits p n = 0 := by
  intro n
  induction n with
  | zero => intro _; rfl
  | succ n ih => intro h; rw [dy_bits, h n (Nat.lt_succ_self n)]; exact ih (fun i hi => h i (Nat.lt_succ_of_lt hi))
set_option maxRecDepth 20000 in
theorem s_pass_l_1 (N : hd_N) (n : Nat) (hn : n ≤ 60) (M : hd_M) : ∀ (m j : Nat) (d : dy_T) (M' : hd_M), j + m = n → fr (fun c _ => 1 ≤ c ∧ c ≤ 6) M M' → hm M' 1 d → dy_ok d → (∀ i, i < d.1 → M' 6 i = dy_ch d i) → hd_Go mX0_pass 6 [some (.ref 1), some (.int (nI n)), some (.int (nI j))] [] M' N (fun r M1 N1 => r = some (.int (dy_hs m d).2.2.1) ∧ N1 = N ∧ fr (fun c _ => 1 ≤ c ∧ c ≤ 6) M M1 ∧ hm M1 1 (dy_hs m d)) := by
  intro m
  induction m with
  | zero =>
    intro j d M' hj hf hd ok hch
    refine hd_go kX0_pass 999 (fun _ => rfl) rfl trivial ?_
    refine hd_ju kX0_pass (fun _ => rfl) (fun c => ?_) (fun c => ?_)
    · refine hd_go kX0_pass 999 (fun _ => rfl) rfl trivial ?_
      refine hd_en_ kX0_pass (fun _ => rfl) trivial ⟨?_, rfl, hf, hd⟩
      rw [hd.2.2.1]; rfl
    · exact absurd (nI_le (by omega) (by omega)) c
  | succ m ih =>
    intro j d M' hj hf hd ok hch
    refine hd_go kX0_pass 999 (fun _ => rfl) rfl trivial ?_
    refine hd_ju kX0_pass (fun _ => rfl) (fun c => ?_) (fun c => ?_)
    · exact absurd c (nI_ge (by omega) (by omega))
    refine hd_go kX0_pass 999 (fun _ => rfl) rfl trivial ?_
    refine hd_ca kX0_pass qX0_pass (fun _ => rfl) (s_passOne_1 M' N d hd ok hch 0 false rfl) ?_
    rintro r M1 N1 ⟨rfl, rfl, hf1, hd1⟩
    refine hd_go kX0_pass 999 (fun _ => rfl) rfl trivial ?_
    rw [nI_1]
    refine ih (j + 1) (dy_ho false d) M1 (by omega) (hf.tr (hf1.mo (fun c x h => ⟨h.1, Nat.le_succ_of_le h.2⟩))) hd1 (dy_ok_ho ok) (fun i hi => ?_)
    rw [hf1 6 i (by simp), dy_ch_ho]
    exact hch i hi
set_option maxRecDepth 20000 in
theorem s_pass_1 (M : hd_M) (N : hd_N) (d : dy_T) (hd : hm M 1 d) (ok : dy_ok d) (n : Nat) (hn : n ≤ 60) : hd_Ret mX0_pass [.ref 1, .int (nI n)] M N (fun r M1 N1 => r = some (.int (dy_hs n d).2.2.1) ∧ N1 = N ∧ fr (fun c _ => 1 ≤ c ∧ c ≤ 6) M M1 ∧ hm M1 1 (dy_hs n d)) := by
  change hd_Go mX0_pass 0 [some (.ref 1), some (.int (nI n)), none] [] M N _
  refine hd_go kX0_pass 999 (fun _ => rfl) rfl trivial ?_
  refine hd_ca kX0_pass qX0_pass (fun _ => rfl) (s_tally_1 M N d hd ok.1) ?_
  rintro r M1 N1 ⟨rfl, rfl, hf1, hch⟩
  refine hd_go kX0_pass 6 (fun _ => rfl) rfl trivial ?_
  exact s_pass_l_1 N1 n hn M n 0 d M1 (by omega) (hf1.mo (fun c x h => by have h : c = 6 := h; show 1 ≤ c ∧ c ≤ 6; omega)) (hd.mv (fun c x h1 h2 => hf1 c x (by show ¬ c = 6; omega))) ok hch
set_option maxRecDepth 20000 in
theorem s_pass_l_7 (N : hd_N) (n : Nat) (hn : n ≤ 60) (M : hd_M) : ∀ (m j : Nat) (d : dy_T) (M' : hd_M), j + m = n → fr (fun c _ => 7 ≤ c ∧ c ≤ 12) M M' → hm M' 7 d → dy_ok d → (∀ i, i < d.1 → M' 12 i = dy_ch d i) → hd_Go mX0_pass 6 [some (.ref 7), some (.int (nI n)), some (.int (nI j))] [] M' N (fun r M1 N1 => r = some (.int (dy_hs m d).2.2.1) ∧ N1 = N ∧ fr (fun c _ => 7 ≤ c ∧ c ≤ 12) M M1 ∧ hm M1 7 (dy_hs m d)) := by
  intro m
  induction m with
  | zero =>
    intro j d M' hj hf hd ok hch
    refine hd_go kX0_pass 999 (fun _ => rfl) rfl trivial ?_
    refine hd_ju kX0_pass (fun _ => rfl) (fun c => ?_) (fun c => ?_)
    · refine hd_go kX0_pass 999 (fun _ => rfl) rfl trivial ?_
      refine hd_en_ kX0_pass (fun _ => rfl) trivial ⟨?_, rfl, hf, hd⟩
      rw [hd.2.2.1]; rfl
    · exact absurd (nI_le (by omega) (by omega)) c
  | succ m ih =>
    intro j d M' hj hf hd ok hch
    refine hd_go kX0_pass 999 (fun _ => rfl) rfl trivial ?_
    refine hd_ju kX0_pass (fun _ => rfl) (fun c => ?_) (fun c => ?_)
    · exact absurd c (nI_ge (by omega) (by omega))
    refine hd_go kX0_pass 999 (fun _ => rfl) rfl trivial ?_
    refine hd_ca kX0_pass qX0_pass (fun _ => rfl) (s_passOne_7 M' N d hd ok hch 0 false rfl) ?_
    rintro r M1 N1 ⟨rfl, rfl, hf1, hd1⟩
    refine hd_go kX0_pass 999 (fun _ => rfl) rfl trivial ?_
    rw [nI_1]
    refine ih (j + 1) (dy_ho false d) M1 (by omega) (hf.tr (hf1.mo (fun c x h => ⟨h.1, Nat.le_succ_of_le h.2⟩))) hd1 (dy_ok_ho ok) (fun i hi => ?_)
    rw [hf1 12 i (by simp), dy_ch_ho]
    exact hch i hi
set_option maxRecDepth 20000 in
theorem s_pass_7 (M : hd_M) (N : hd_N) (d : dy_T) (hd : hm M 7 d) (ok : dy_ok d) (n : Nat) (hn : n ≤ 60) : hd_Ret mX0_pass [.ref 7, .int (nI n)] M N (fun r M1 N1 => r = some (.int (dy_hs n d).2.2.1) ∧ N1 = N ∧ fr (fun c _ => 7 ≤ c ∧ c ≤ 12) M M1 ∧ hm M1 7 (dy_hs n d)) := by
  change hd_Go mX0_pass 0 [some (.ref 7), some (.int (nI n)), none] [] M N _
  refine hd_go kX0_pass 999 (fun _ => rfl) rfl trivial ?_
  refine hd_ca kX0_pass qX0_pass (fun _ => rfl) (s_tally_7 M N d hd ok.1) ?_
  rintro r M1 N1 ⟨rfl, rfl, hf1, hch⟩
  refine hd_go kX0_pass 6 (fun _ => rfl) rfl trivial ?_
  exact s_pass_l_7 N1 n hn M n 0 d M1 (by omega) (hf1.mo (fun c x h => by have h : c = 12 := h; show 7 ≤ c ∧ c ≤ 12; omega)) (hd.mv (fun c x h1 h2 => hf1 c x (by show ¬ c = 12; omega))) ok hch
set_option maxRecDepth 20000 in
theorem s_change_1 (M : hd_M) (N : hd_N) (i w : Nat) (hi : i < 7) (hw : w < 3) (v : Int32) : hd_Ret mX0_change [.ref 1, .int (nI i), .int (nI w), .int v] M N (fun r M1 N1 => r = some (.int (M (2 + w) i)) ∧ M1 = hd_u M (2 + w) i v ∧ N1 = N) := by
  change hd_Go mX0_change 0 [some (.ref 1), some (.int (nI i)), some (.int (nI w)), some (.int v), none, none] [] M N _
  have ei : (nI i).toNatClampNeg = i := nI_clamp (by omega)
  have hv : vp_in (nI i) 7 := vp_in_nI hi (by decide)
  rcases (show w = 0 ∨ w = 1 ∨ w = 2 by omega) with rfl | rfl | rfl
  · refine hd_go kX0_change 999 (fun _ => rfl) rfl trivial ?_
    refine hd_ju kX0_change (fun _ => rfl) (fun c => absurd rfl c) (fun c => ?_)
    refine hd_go kX0_change 999 (fun _ => rfl) rfl trivial ?_
    refine hd_go kX0_change 999 (fun _ => rfl) rfl ⟨⟨trivial, hv⟩, hv⟩ ?_
    refine hd_en_ kX0_change (fun _ => rfl) trivial ?_
    rw [ei]
    exact ⟨rfl, rfl, rfl⟩
  · refine hd_go kX0_change 999 (fun _ => rfl) rfl trivial ?_
    refine hd_ju kX0_change (fun _ => rfl) (fun c => ?_) (fun c => absurd c (by decide))
    refine hd_go kX0_change 999 (fun _ => rfl) rfl trivial ?_
    refine hd_ju kX0_change (fun _ => rfl) (fun c => absurd rfl c) (fun c => ?_)
    refine hd_go kX0_change 999 (fun _ => rfl) rfl trivial ?_
    refine hd_go kX0_change 999 (fun _ => rfl) rfl ⟨⟨trivial, hv⟩, hv⟩ ?_
    refine hd_en_ kX0_change (fun _ => rfl) trivial ?_
    rw [ei]
    exact ⟨rfl, rfl, rfl⟩
  · refine hd_go kX0_change 999 (fun _ => rfl) rfl trivial ?_
    refine hd_ju kX0_change (fun _ => rfl) (fun c => ?_) (fun c => absurd c (by decide))
    refine hd_go kX0_change 999 (fun _ => rfl) rfl trivial ?_
    refine hd_ju kX0_change (fun _ => rfl) (fun c => ?_) (fun c => absurd c (by decide))
    refine hd_go kX0_change 999 (fun _ => rfl) rfl ⟨⟨trivial, hv⟩, hv⟩ ?_
    refine hd_en_ kX0_change (fun _ => rfl) trivial ?_
    rw [ei]
    exact ⟨rfl, rfl, rfl⟩
set_option maxRecDepth 20000 in
theorem h_set_1 {M : hd_M} {d : dy_T} (hd : hm M 1 d) (w i : Nat) (hw : w < 3) (v : Int32) : hm (hd_u M (2 + w) i v) 1 (dy_set w i v d) := by
  obtain ⟨a5, a6, a7, a8, a9, b1, b2, b3, b4⟩ := hd
  have col : ∀ (c : Nat) (x : Nat), c < 4 → M (1 + (c + 1)) x = d.2.2.2.2.2 c x → hd_u M (2 + w) i v (1 + (c + 1)) x = if c = w ∧ x = i then v else d.2.2.2.2.2 c x := by
    intro c x hc e
    unfold hd_u
    by_cases h : c = w ∧ x = i
    · rw [if_pos (by omega), if_pos h]
    · rw [if_neg (by omega), if_neg h]; exact e
  refine ⟨?_, ?_, ?_, ?_, ?_, fun x hx => ?_, fun x hx => ?_, fun x hx => ?_, fun x hx => ?_⟩
  · rw [hd_u_n (by omega)]; exact a5
  · rw [hd_u_n (by omega)]; exact a6
  · rw [hd_u_n (by omega)]; exact a7
  · rw [hd_u_n (by omega)]; exact a8
  · rw [hd_u_n (by omega)]; exact a9
  · exact col 0 x (by omega) (b1 x hx)
  · exact col 1 x (by omega) (b2 x hx)
  · exact col 2 x (by omega) (b3 x hx)
  · exact col 3 x (by omega) (b4 x hx)
set_option maxRecDepth 20000 in
theorem s_change_7 (M : hd_M) (N : hd_N) (i w : Nat) (hi : i < 7) (hw : w < 3) (v : Int32) : hd_Ret mX0_change [.ref 7, .int (nI i), .int (nI w), .int v] M N (fun r M1 N1 => r = some (.int (M (8 + w) i)) ∧ M1 = hd_u M (8 + w) i v ∧ N1 = N) := by
  change hd_Go mX0_change 0 [some (.ref 7), some (.int (nI i)), some (.int (nI w)), some (.int v), none, none] [] M N _
  have ei : (nI i).toNatClampNeg = i := nI_clamp (by omega)
  have hv : vp_in (nI i) 7 := vp_in_nI hi (by decide)
  rcases (show w = 0 ∨ w = 1 ∨ w = 2 by omega) with rfl | rfl | rfl
  · refine hd_go kX0_change 999 (fun _ => rfl) rfl trivial ?_
    refine hd_ju kX0_change (fun _ => rfl) (fun c => absurd rfl c) (fun c => ?_)
    refine hd_go kX0_change 999 (fun _ => rfl) rfl trivial ?_
    refine hd_go kX0_change 999 (fun _ => rfl) rfl ⟨⟨trivial, hv⟩, hv⟩ ?_
    refine hd_en_ kX0_change (fun _ => rfl) trivial ?_
    rw [ei]
    exact ⟨rfl, rfl, rfl⟩
  · refine hd_go kX0_change 999 (fun _ => rfl) rfl trivial ?_
    refine hd_ju kX0_change (fun _ => rfl) (fun c => ?_) (fun c => absurd c (by decide))
    refine hd_go kX0_change 999 (fun _ => rfl) rfl trivial ?_
    refine hd_ju kX0_change (fun _ => rfl) (fun c => absurd rfl c) (fun c => ?_)
    refine hd_go kX0_change 999 (fun _ => rfl) rfl trivial ?_
    refine hd_go kX0_change 999 (fun _ => rfl) rfl ⟨⟨trivial, hv⟩, hv⟩ ?_
    refine hd_en_ kX0_change (fun _ => rfl) trivial ?_
    rw [ei]
    exact ⟨rfl, rfl, rfl⟩
  · refine hd_go kX0_change 999 (fun _ => rfl) rfl trivial ?_
    refine hd_ju kX0_change (fun _ => rfl) (fun c => ?_) (fun c => absurd c (by decide))
    refine hd_go kX0_change 999 (fun _ => rfl) rfl trivial ?_
    refine hd_ju kX0_change (fun _ => rfl) (fun c => ?_) (fun c => absurd c (by decide))
    refine hd_go kX0_change 999 (fun _ => rfl) rfl ⟨⟨trivial, hv⟩, hv⟩ ?_
    refine hd_en_ kX0_change (fun _ => rfl) trivial ?_
    rw [ei]
    exact ⟨rfl, rfl, rfl⟩
set_option maxRecDepth 20000 in
theorem h_set_7 {M : hd_M} {d : dy_T} (hd : hm M 7 d) (w i : Nat) (hw : w < 3) (v : Int32) : hm (hd_u M (8 + w) i v) 7 (dy_set w i v d) := by
  obtain ⟨a5, a6, a7, a8, a9, b1, b2, b3, b4⟩ := hd
  have col : ∀ (c : Nat) (x : Nat), c < 4 → M (7 + (c + 1)) x = d.2.2.2.2.2 c x → hd_u M (8 + w) i v (7 + (c + 1)) x = if c = w ∧ x = i then v else d.2.2.2.2.2 c x := by
    intro c x hc e
    unfold hd_u
    by_cases h : c = w ∧ x = i
    · rw [if_pos (by omega), if_pos h]
    · rw [if_neg (by omega), if_neg h]; exact e
  refine ⟨?_, ?_, ?_, ?_, ?_, fun x hx => ?_, fun x hx => ?_, fun x hx => ?_, fun x hx => ?_⟩
  · rw [hd_u_n (by omega)]; exact a5
  · rw [hd_u_n (by omega)]; exact a6
  · rw [hd_u_n (by omega)]; exact a7
  · rw [hd_u_n (by omega)]; exact a8
  · rw [hd_u_n (by omega)]; exact a9
  · exact col 0 x (by omega) (b1 x hx)
  · exact col 1 x (by omega) (b2 x hx)
  · exact col 2 x (by omega) (b3 x hx)
  · exact col 3 x (by omega) (b4 x hx)
set_option maxRecDepth 20000 in
theorem s_add_1 (M : hd_M) (N : hd_N) (d : dy_T) (hd : hm M 1 d) (hn : d.1 ≤ 7) (kd gd wt : Int32) : hd_Ret mX0_add [.ref 1, .int kd, .int gd, .int wt] M N (fun r M1 N1 => N1 = N ∧ ((d.1 = 7 ∧ r = some (.int 0) ∧ M1 = M) ∨ (d.1 < 7 ∧ r = some (.int 1) ∧ fr (fun c _ => 1 ≤ c ∧ c ≤ 5) M M1 ∧ hm M1 1 (dy_add kd gd wt d)))) := by
  change hd_Go mX0_add 0 [some (.ref 1), some (.int kd), some (.int gd), some (.int wt)] [] M N _
  obtain ⟨a5, a6, a7, a8, a9, b1, b2, b3, b4⟩ := hd
  refine hd_go kX0_add 999 (fun _ => rfl) rfl trivial ?_
  rw [a5]
  refine hd_ju kX0_add (fun _ => rfl) (fun c => ?_) (fun c => ?_)
  · have hlt : d.1 < 7 := by
      rcases Nat.lt_or_ge d.1 7 with z | z
      · exact z
      · exact absurd c (nI_nlt (b := 7) z (by omega))
    have ej : (nI d.1).toNatClampNeg = d.1 := nI_clamp (by omega)
    have hv : vp_in (nI d.1) 7 := vp_in_nI hlt (by decide)
    have e5 : ∀ (c j : Nat) (x : Int32), ¬ c = 1 → hd_u M c j x 1 5 = nI d.1 := fun c j x h => by rw [hd_u_n (by omega)]; exact a5
    refine hd_go kX0_add 999 (fun _ => rfl) rfl ?_ ?_
    · rw [a5, ej]
      refine ⟨⟨⟨⟨trivial, hv⟩, ?_⟩, ?_⟩, ?_⟩
      · rw [hd_u_n (by omega), a5]; exact hv
      · rw [hd_u_n (by omega), hd_u_n (by omega), a5]; exact hv
      · rw [hd_u_n (by omega), hd_u_n (by omega), hd_u_n (by omega), a5]; exact hv
    refine hd_en_ kX0_add (fun _ => rfl) (Or.inr rfl) ⟨rfl, Or.inr ⟨hlt, rfl, ?_, ?_⟩⟩
    · exact (((((fr.rf.up (by simp)).up (by simp)).up (by simp)).up (by simp)).up (by simp)).up (by simp)
    · have g : ∀ (M : hd_M) (j : Nat) (x : Int32) (c : Nat), ¬ c = 1 → hd_u M c j x 1 5 = M 1 5 := fun M j x c h => hd_u_n (by omega)
      simp only [g _ _ _ _ (show ¬ 2 = 1 by decide), g _ _ _ _ (show ¬ 3 = 1 by decide), g _ _ _ _ (show ¬ 4 = 1 by decide), g _ _ _ _ (show ¬ 5 = 1 by decide), hd_u_s, a5, ej, nI_1]
      refine ⟨?_, ?_, ?_, ?_, ?_, fun x hx => ?_, fun x hx => ?_, fun x hx => ?_, fun x hx => ?_⟩
      · rw [hd_u_n (by omega), hd_u_s]; rfl
      · rw [hd_u_s]; rfl
      · rw [hd_u_n (by omega), hd_u_n (by omega), hd_u_n (by omega), hd_u_n (by omega), hd_u_n (by omega), hd_u_n (by omega)]; exact a7
      · rw [hd_u_n (by omega), hd_u_n (by omega), hd_u_n (by omega), hd_u_n (by omega), hd_u_n (by omega), hd_u_n (by omega)]; exact a8
      · rw [hd_u_n (by omega), hd_u_n (by omega), hd_u_n (by omega), hd_u_n (by omega), hd_u_n (by omega), hd_u_n (by omega)]; exact a9
      · have hx : x < d.1 + 1 := hx
        show _ = if x = d.1 then kd else d.2.2.2.2.2 0 x
        by_cases e : x = d.1
        · rw [if_pos e, e, hd_u_n (by omega), hd_u_n (by omega), hd_u_n (by omega), hd_u_n (by omega), hd_u_n (by omega), hd_u_s]
        · rw [if_neg e, hd_u_n (by omega), hd_u_n (by omega), hd_u_n (by omega), hd_u_n (by omega), hd_u_n (by omega), hd_u_n (by omega)]; exact b1 x (by omega)
      · have hx : x < d.1 + 1 := hx
        show _ = if x = d.1 then gd else d.2.2.2.2.2 1 x
        by_cases e : x = d.1
        · rw [if_pos e, e, hd_u_n (by omega), hd_u_n (by omega), hd_u_n (by omega), hd_u_n (by omega), hd_u_s]
        · rw [if_neg e, hd_u_n (by omega), hd_u_n (by omega), hd_u_n (by omega), hd_u_n (by omega), hd_u_n (by omega), hd_u_n (by omega)]; exact b2 x (by omega)
      · have hx : x < d.1 + 1 := hx
        show _ = if x = d.1 then wt else d.2.2.2.2.2 2 x
        by_cases e : x = d.1
        · rw [if_pos e, e, hd_u_n (by omega), hd_u_n (by omega), hd_u_n (by omega), hd_u_s]
        · rw [if_neg e, hd_u_n (by omega), hd_u_n (by omega), hd_u_n (by omega), hd_u_n (by omega), hd_u_n (by omega), hd_u_n (by omega)]; exact b3 x (by omega)
      · have hx : x < d.1 + 1 := hx
        show _ = if x = d.1 then 0 else d.2.2.2.2.2 3 x
        by_cases e : x = d.1
        · rw [if_pos e, e, hd_u_n (by omega), hd_u_n (by omega), hd_u_s]
        · rw [if_neg e, hd_u_n (by omega), hd_u_n (by omega), hd_u_n (by omega), hd_u_n (by omega), hd_u_n (by omega), hd_u_n (by omega)]; exact b4 x (by omega)
  · have hge : d.1 = 7 := by
      rcases Nat.lt_or_ge d.1 7 with z | z
      · exact absurd (nI_lt (b := 7) z (by omega)) c
      · omega
    refine hd_go kX0_add 999 (fun _ => rfl) rfl trivial ?_
    exact hd_en_ kX0_add (fun _ => rfl) (Or.inl rfl) ⟨rfl, Or.inl ⟨hge, rfl, rfl⟩⟩
set_option maxRecDepth 20000 in
theorem s_add_7 (M : hd_M) (N : hd_N) (d : dy_T) (hd : hm M 7 d) (hn : d.1 ≤ 7) (kd gd wt : Int32) : hd_Ret mX0_add [.ref 7, .int kd, .int gd, .int wt] M N (fun r M1 N1 => N1 = N ∧ ((d.1 = 7 ∧ r = some (.int 0) ∧ M1 = M) ∨ (d.1 < 7 ∧ r = some (.int 1) ∧ fr (fun c _ => 7 ≤ c ∧ c ≤ 11) M M1 ∧ hm M1 7 (dy_add kd gd wt d)))) := by
  change hd_Go mX0_add 0 [some (.ref 7), some (.int kd), some (.int gd), some (.int wt)] [] M N _
  obtain ⟨a5, a6, a7, a8, a9, b1, b2, b3, b4⟩ := hd
  refine hd_go kX0_add 999 (fun _ => rfl) rfl trivial ?_
  rw [a5]
  refine hd_ju kX0_add (fun _ => rfl) (fun c => ?_) (fun c => ?_)
  · have hlt : d.1 < 7 := by
      rcases Nat.lt_or_ge d.1 7 with z | z
      · exact z
      · exact absurd c (nI_nlt (b := 7) z (by omega))
    have ej : (nI d.1).toNatClampNeg = d.1 := nI_clamp (by omega)
    have hv : vp_in (nI d.1) 7 := vp_in_nI hlt (by decide)
    have e5 : ∀ (c j : Nat) (x : Int32), ¬ c = 7 → hd_u M c j x 7 5 = nI d.1 := fun c j x h => by rw [hd_u_n (by omega)]; exact a5
    refine hd_go kX0_add 999 (fun _ => rfl) rfl ?_ ?_
    · rw [a5, ej]
      refine ⟨⟨⟨⟨trivial, hv⟩, ?_⟩, ?_⟩, ?_⟩
      · rw [hd_u_n (by omega), a5]; exact hv
      · rw [hd_u_n (by omega), hd_u_n (by omega), a5]; exact hv
      · rw [hd_u_n (by omega), hd_u_n (by omega), hd_u_n (by omega), a5]; exact hv
    refine hd_en_ kX0_add (fun _ => rfl) (Or.inr rfl) ⟨rfl, Or.inr ⟨hlt, rfl, ?_, ?_⟩⟩
    · exact (((((fr.rf.up (by simp)).up (by simp)).up (by simp)).up (by simp)).up (by simp)).up (by simp)
    · have g : ∀ (M : hd_M) (j : Nat) (x : Int32) (c : Nat), ¬ c = 7 → hd_u M c j x 7 5 = M 7 5 := fun M j x c h => hd_u_n (by omega)
      simp only [g _ _ _ _ (show ¬ 8 = 7 by decide), g _ _ _ _ (show ¬ 9 = 7 by decide), g _ _ _ _ (show ¬ 10 = 7 by decide), g _ _ _ _ (show ¬ 11 = 7 by decide), hd_u_s, a5, ej, nI_1]
      refine ⟨?_, ?_, ?_, ?_, ?_, fun x hx => ?_, fun x hx => ?_, fun x hx => ?_, fun x hx => ?_⟩
      · rw [hd_u_n (by omega), hd_u_s]; rfl
      · rw [hd_u_s]; rfl
      · rw [hd_u_n (by omega), hd_u_n (by omega), hd_u_n (by omega), hd_u_n (by omega), hd_u_n (by omega), hd_u_n (by omega)]; exact a7
      · rw [hd_u_n (by omega), hd_u_n (by omega), hd_u_n (by omega), hd_u_n (by omega), hd_u_n (by omega), hd_u_n (by omega)]; exact a8
      · rw [hd_u_n (by omega), hd_u_n (by omega), hd_u_n (by omega), hd_u_n (by omega), hd_u_n (by omega), hd_u_n (by omega)]; exact a9
      · have hx : x < d.1 + 1 := hx
        show _ = if x = d.1 then kd else d.2.2.2.2.2 0 x
        by_cases e : x = d.1
        · rw [if_pos e, e, hd_u_n (by omega), hd_u_n (by omega), hd_u_n (by omega), hd_u_n (by omega), hd_u_n (by omega), hd_u_s]
        · rw [if_neg e, hd_u_n (by omega), hd_u_n (by omega), hd_u_n (by omega), hd_u_n (by omega), hd_u_n (by omega), hd_u_n (by omega)]; exact b1 x (by omega)
      · have hx : x < d.1 + 1 := hx
        show _ = if x = d.1 then gd else d.2.2.2.2.2 1 x
        by_cases e : x = d.1
        · rw [if_pos e, e, hd_u_n (by omega), hd_u_n (by omega), hd_u_n (by omega), hd_u_n (by omega), hd_u_s]
        · rw [if_neg e, hd_u_n (by omega), hd_u_n (by omega), hd_u_n (by omega), hd_u_n (by omega), hd_u_n (by omega), hd_u_n (by omega)]; exact b2 x (by omega)
      · have hx : x < d.1 + 1 := hx
        show _ = if x = d.1 then wt else d.2.2.2.2.2 2 x
        by_cases e : x = d.1
        · rw [if_pos e, e, hd_u_n (by omega), hd_u_n (by omega), hd_u_n (by omega), hd_u_s]
        · rw [if_neg e, hd_u_n (by omega), hd_u_n (by omega), hd_u_n (by omega), hd_u_n (by omega), hd_u_n (by omega), hd_u_n (by omega)]; exact b3 x (by omega)
      · have hx : x < d.1 + 1 := hx
        show _ = if x = d.1 then 0 else d.2.2.2.2.2 3 x
        by_cases e : x = d.1
        · rw [if_pos e, e, hd_u_n (by omega), hd_u_n (by omega), hd_u_s]
        · rw [if_neg e, hd_u_n (by omega), hd_u_n (by omega), hd_u_n (by omega), hd_u_n (by omega), hd_u_n (by omega), hd_u_n (by omega)]; exact b4 x (by omega)
  · have hge : d.1 = 7 := by
      rcases Nat.lt_or_ge d.1 7 with z | z
      · exact absurd (nI_lt (b := 7) z (by omega)) c
      · omega
    refine hd_go kX0_add 999 (fun _ => rfl) rfl trivial ?_
    exact hd_en_ kX0_add (fun _ => rfl) (Or.inl rfl) ⟨rfl, Or.inl ⟨hge, rfl, rfl⟩⟩
set_option maxRecDepth 20000 in
theorem s_bring_l_1 (N : hd_N) (n : Nat) (hn : n ≤ 7) (M : hd_M) (h5 : M 1 5 = nI n) : ∀ (m j : Nat) (M' : hd_M), j + m = n → fr (fun c _ => c = 5) M M' → (∀ x, x < j → M' 5 x = 0) → hd_Go mX0_bringAllIn 10 [some (.ref 1), some (.int (nI j))] [] M' N (fun r M1 N1 => r = none ∧ N1 = N ∧ fr (fun c _ => c = 5) M M1 ∧ ∀ x, x < n → M1 5 x = 0) := by
  intro m
  induction m with
  | zero =>
    intro j M' hj hf hx
    have e5 : M' 1 5 = nI n := (hf 1 5 (by simp)).trans h5
    refine hd_go kX0_bringAllIn 999 (fun _ => rfl) rfl trivial ?_
    refine hd_ju kX0_bringAllIn (fun _ => rfl) (fun c => ?_) (fun c => ?_)
    · exact hd_en_ kX0_bringAllIn (fun _ => rfl) trivial ⟨rfl, rfl, hf, fun x h => hx x (by omega)⟩
    · rw [e5] at c
      exact absurd (nI_le (by omega) (by omega)) c
  | succ m ih =>
    intro j M' hj hf hx
    have e5 : M' 1 5 = nI n := (hf 1 5 (by simp)).trans h5
    refine hd_go kX0_bringAllIn 999 (fun _ => rfl) rfl trivial ?_
    refine hd_ju kX0_bringAllIn (fun _ => rfl) (fun c => ?_) (fun c => ?_)
    · rw [e5] at c
      exact absurd c (nI_ge (by omega) (by omega))
    refine hd_go kX0_bringAllIn 999 (fun _ => rfl) rfl ⟨trivial, vp_in_nI (by omega) (by decide)⟩ ?_
    rw [nI_clamp (by omega), nI_1]
    refine ih (j + 1) _ (by omega) (hf.up rfl) (fun x h => ?_)
    by_cases e : x = j
    · rw [e, hd_u_s]
    · rw [hd_u_n (fun z => e z.2)]; exact hx x (by omega)
set_option maxRecDepth 20000 in
theorem s_bring_1 (M : hd_M) (N : hd_N) (d : dy_T) (hd : hm M 1 d) (hn : d.1 ≤ 7) : hd_Ret mX0_bringAllIn [.ref 1] M N (fun r M1 N1 => r = none ∧ N1 = N ∧ fr (fun c _ => 1 ≤ c ∧ c ≤ 5) M M1 ∧ hm M1 1 (dy_in d)) := by
  change hd_Go mX0_bringAllIn 0 [some (.ref 1), none] [] M N _
  obtain ⟨a5, a6, a7, a8, a9, b1, b2, b3, b4⟩ := hd
  refine hd_go kX0_bringAllIn 10 (fun _ => rfl) rfl trivial ?_
  refine hd_Go.post ?_ (s_bring_l_1 N d.1 hn (hd_u M 1 6 (M 1 5)) (by rw [hd_u_n (by omega)]; exact a5) d.1 0 _ (by omega) fr.rf (fun x h => absurd h (Nat.not_lt_zero x)))
  rintro r M1 N1 ⟨rfl, rfl, hf, hx⟩
  have g : ∀ c j, ¬ c = 5 → M1 c j = hd_u M 1 6 (M 1 5) c j := hf
  refine ⟨rfl, rfl, (fr.up fr.rf (by simp)).tr (hf.mo (fun c j h => by have h : c = 5 := h; show 1 ≤ c ∧ c ≤ 5; omega)), ?_⟩
  refine ⟨?_, ?_, ?_, ?_, ?_, fun i hi => ?_, fun i hi => ?_, fun i hi => ?_, fun i hi => ?_⟩
  · rw [g _ _ (by decide), hd_u_n (by omega)]; exact a5
  · rw [g _ _ (by decide), hd_u_s, a5]; rfl
  · rw [g _ _ (by decide), hd_u_n (by omega)]; exact a7
  · rw [g _ _ (by decide), hd_u_n (by omega)]; exact a8
  · rw [g _ _ (by decide), hd_u_n (by omega)]; exact a9
  · rw [g _ _ (by decide), hd_u_n (by omega)]; exact b1 i hi
  · rw [g _ _ (by decide), hd_u_n (by omega)]; exact b2 i hi
  · rw [g _ _ (by decide), hd_u_n (by omega)]; exact b3 i hi
  · exact hx i hi
set_option maxRecDepth 20000 in
theorem s_shrink_1 (M : hd_M) (N : hd_N) (d : dy_T) (hd : hm M 1 d) (hn : d.1 ≤ 7) (m : Nat) (hm7 : m ≤ 7) : hd_Ret mX0_shrinkTo [.ref 1, .int (nI m)] M N (fun r M1 N1 => r = none ∧ N1 = N ∧ fr (fun c _ => c = 1) M M1 ∧ hm M1 1 (if m < d.1 then dy_shr m d else d)) := by
  change hd_Go mX0_shrinkTo 0 [some (.ref 1), some (.int (nI m))] [] M N _
  refine hd_go kX0_shrinkTo 999 (fun _ => rfl) rfl trivial ?_
  rw [hd.1]
  refine hd_ju kX0_shrinkTo (fun _ => rfl) (fun c => ?_) (fun c => ?_)
  · have hge : ¬ m < d.1 := fun z => nI_ge z (by omega) c
    exact hd_en_ kX0_shrinkTo (fun _ => rfl) trivial ⟨rfl, rfl, fr.rf, by rw [if_neg hge]; exact hd⟩
  · have hlt : m < d.1 := by
      rcases Nat.lt_or_ge m d.1 with z | z
      · exact z
      · exact absurd (nI_le z (by omega)) c
    obtain ⟨a5, a6, a7, a8, a9, b1, b2, b3, b4⟩ := hd
    refine hd_go kX0_shrinkTo 999 (fun _ => rfl) rfl trivial ?_
    refine hd_en_ kX0_shrinkTo (fun _ => rfl) trivial ⟨rfl, rfl, (fr.rf.up (by simp)).up (by simp), ?_⟩
    rw [if_pos hlt]
    refine ⟨?_, ?_, ?_, ?_, ?_, fun i hi => ?_, fun i hi => ?_, fun i hi => ?_, fun i hi => ?_⟩
    · rw [hd_u_n (by omega), hd_u_s]; rfl
    · rw [hd_u_s]; rfl
    · rw [hd_u_n (by omega), hd_u_n (by omega)]; exact a7
    · rw [hd_u_n (by omega), hd_u_n (by omega)]; exact a8
    · rw [hd_u_n (by omega), hd_u_n (by omega)]; exact a9
    · rw [hd_u_n (by omega), hd_u_n (by omega)]; exact b1 i (Nat.lt_trans hi hlt)
    · rw [hd_u_n (by omega), hd_u_n (by omega)]; exact b2 i (Nat.lt_trans hi hlt)
    · rw [hd_u_n (by omega), hd_u_n (by omega)]; exact b3 i (Nat.lt_trans hi hlt)
    · rw [hd_u_n (by omega), hd_u_n (by omega)]; exact b4 i (Nat.lt_trans hi hlt)
set_option maxRecDepth 20000 in
theorem s_bring_l_7 (N : hd_N) (n : Nat) (hn : n ≤ 7) (M : hd_M) (h5 : M 7 5 = nI n) : ∀ (m j : Nat) (M' : hd_M), j + m = n → fr (fun c _ => c = 11) M M' → (∀ x, x < j → M' 11 x = 0) → hd_Go mX0_bringAllIn 10 [some (.ref 7), some (.int (nI j))] [] M' N (fun r M1 N1 => r = none ∧ N1 = N ∧ fr (fun c _ => c = 11) M M1 ∧ ∀ x, x < n → M1 11 x = 0) := by
  intro m
  induction m with
  | zero =>
    intro j M' hj hf hx
    have e5 : M' 7 5 = nI n := (hf 7 5 (by simp)).trans h5
    refine hd_go kX0_bringAllIn 999 (fun _ => rfl) rfl trivial ?_
    refine hd_ju kX0_bringAllIn (fun _ => rfl) (fun c => ?_) (fun c => ?_)
    · exact hd_en_ kX0_bringAllIn (fun _ => rfl) trivial ⟨rfl, rfl, hf, fun x h => hx x (by omega)⟩
    · rw [e5] at c
      exact absurd (nI_le (by omega) (by omega)) c
  | succ m ih =>
    intro j M' hj hf hx
    have e5 : M' 7 5 = nI n := (hf 7 5 (by simp)).trans h5
    refine hd_go kX0_bringAllIn 999 (fun _ => rfl) rfl trivial ?_
    refine hd_ju kX0_bringAllIn (fun _ => rfl) (fun c => ?_) (fun c => ?_)
    · rw [e5] at c
      exact absurd c (nI_ge (by omega) (by omega))
    refine hd_go kX0_bringAllIn 999 (fun _ => rfl) rfl ⟨trivial, vp_in_nI (by omega) (by decide)⟩ ?_
    rw [nI_clamp (by omega), nI_1]
    refine ih (j + 1) _ (by omega) (hf.up rfl) (fun x h => ?_)
    by_cases e : x = j
    · rw [e, hd_u_s]
    · rw [hd_u_n (fun z => e z.2)]; exact hx x (by omega)
set_option maxRecDepth 20000 in
theorem s_bring_7 (M : hd_M) (N : hd_N) (d : dy_T) (hd : hm M 7 d) (hn : d.1 ≤ 7) : hd_Ret mX0_bringAllIn [.ref 7] M N (fun r M1 N1 => r = none ∧ N1 = N ∧ fr (fun c _ => 7 ≤ c ∧ c ≤ 11) M M1 ∧ hm M1 7 (dy_in d)) := by
  change hd_Go mX0_bringAllIn 0 [some (.ref 7), none] [] M N _
  obtain ⟨a5, a6, a7, a8, a9, b1, b2, b3, b4⟩ := hd
  refine hd_go kX0_bringAllIn 10 (fun _ => rfl) rfl trivial ?_
  refine hd_Go.post ?_ (s_bring_l_7 N d.1 hn (hd_u M 7 6 (M 7 5)) (by rw [hd_u_n (by omega)]; exact a5) d.1 0 _ (by omega) fr.rf (fun x h => absurd h (Nat.not_lt_zero x)))
  rintro r M1 N1 ⟨rfl, rfl, hf, hx⟩
  have g : ∀ c j, ¬ c = 11 → M1 c j = hd_u M 7 6 (M 7 5) c j := hf
  refine ⟨rfl, rfl, (fr.up fr.rf (by simp)).tr (hf.mo (fun c j h => by have h : c = 11 := h; show 7 ≤ c ∧ c ≤ 11; omega)), ?_⟩
  refine ⟨?_, ?_, ?_, ?_, ?_, fun i hi => ?_, fun i hi => ?_, fun i hi => ?_, fun i hi => ?_⟩
  · rw [g _ _ (by decide), hd_u_n (by omega)]; exact a5
  · rw [g _ _ (by decide), hd_u_s, a5]; rfl
  · rw [g _ _ (by decide), hd_u_n (by omega)]; exact a7
  · rw [g _ _ (by decide), hd_u_n (by omega)]; exact a8
  · rw [g _ _ (by decide), hd_u_n (by omega)]; exact a9
  · rw [g _ _ (by decide), hd_u_n (by omega)]; exact b1 i hi
  · rw [g _ _ (by decide), hd_u_n (by omega)]; exact b2 i hi
  · rw [g _ _ (by decide), hd_u_n (by omega)]; exact b3 i hi
  · exact hx i hi
set_option maxRecDepth 20000 in
theorem s_shrink_7 (M : hd_M) (N : hd_N) (d : dy_T) (hd : hm M 7 d) (hn : d.1 ≤ 7) (m : Nat) (hm7 : m ≤ 7) : hd_Ret mX0_shrinkTo [.ref 7, .int (nI m)] M N (fun r M1 N1 => r = none ∧ N1 = N ∧ fr (fun c _ => c = 7) M M1 ∧ hm M1 7 (if m < d.1 then dy_shr m d else d)) := by
  change hd_Go mX0_shrinkTo 0 [some (.ref 7), some (.int (nI m))] [] M N _
  refine hd_go kX0_shrinkTo 999 (fun _ => rfl) rfl trivial ?_
  rw [hd.1]
  refine hd_ju kX0_shrinkTo (fun _ => rfl) (fun c => ?_) (fun c => ?_)
  · have hge : ¬ m < d.1 := fun z => nI_ge z (by omega) c
    exact hd_en_ kX0_shrinkTo (fun _ => rfl) trivial ⟨rfl, rfl, fr.rf, by rw [if_neg hge]; exact hd⟩
  · have hlt : m < d.1 := by
      rcases Nat.lt_or_ge m d.1 with z | z
      · exact z
      · exact absurd (nI_le z (by omega)) c
    obtain ⟨a5, a6, a7, a8, a9, b1, b2, b3, b4⟩ := hd
    refine hd_go kX0_shrinkTo 999 (fun _ => rfl) rfl trivial ?_
    refine hd_en_ kX0_shrinkTo (fun _ => rfl) trivial ⟨rfl, rfl, (fr.rf.up (by simp)).up (by simp), ?_⟩
    rw [if_pos hlt]
    refine ⟨?_, ?_, ?_, ?_, ?_, fun i hi => ?_, fun i hi => ?_, fun i hi => ?_, fun i hi => ?_⟩
    · rw [hd_u_n (by omega), hd_u_s]; rfl
    · rw [hd_u_s]; rfl
    · rw [hd_u_n (by omega), hd_u_n (by omega)]; exact a7
    · rw [hd_u_n (by omega), hd_u_n (by omega)]; exact a8
    · rw [hd_u_n (by omega), hd_u_n (by omega)]; exact a9
    · rw [hd_u_n (by omega), hd_u_n (by omega)]; exact b1 i (Nat.lt_trans hi hlt)
    · rw [hd_u_n (by omega), hd_u_n (by omega)]; exact b2 i (Nat.lt_trans hi hlt)
    · rw [hd_u_n (by omega), hd_u_n (by omega)]; exact b3 i (Nat.lt_trans hi hlt)
    · rw [hd_u_n (by omega), hd_u_n (by omega)]; exact b4 i (Nat.lt_trans hi hlt)
set_option maxRecDepth 20000 in
theorem s_outBits_l_1 (M : hd_M) (N : hd_N) (d : dy_T) (hd : hm M 1 d) (hn : d.1 ≤ 7) : ∀ (m j : Nat), j + m = d.1 → hd_Go mX0_outBits 7 [some (.ref 1), some (.int (dy_bits (fun i => decide (0 < d.2.2.2.2.2 3 i)) j)), some (.int (nI j))] [] M N (hd_is (.int (dy_bits (fun i => decide (0 < d.2.2.2.2.2 3 i)) d.1)) M N) := by
  intro m
  induction m with
  | zero =>
    intro j hj
    have hj : j = d.1 := by omega
    subst hj
    refine hd_go kX0_outBits 999 (fun _ => rfl) rfl trivial ?_
    rw [hd.1]
    refine hd_ju kX0_outBits (fun _ => rfl) (fun c => ?_) (fun c => ?_)
    · refine hd_go kX0_outBits 999 (fun _ => rfl) rfl trivial ?_
      exact hd_en_ kX0_outBits (fun _ => rfl) trivial ⟨rfl, rfl, rfl⟩
    · exact absurd (nI_le (Nat.le_refl _) (by omega)) c
  | succ m ih =>
    intro j hj
    have ej : (nI j).toNatClampNeg = j := nI_clamp (by omega)
    refine hd_go kX0_outBits 999 (fun _ => rfl) rfl trivial ?_
    rw [hd.1]
    refine hd_ju kX0_outBits (fun _ => rfl) (fun c => ?_) (fun c => ?_)
    · exact absurd c (nI_ge (by omega) (by omega))
    refine hd_go kX0_outBits 999 (fun _ => rfl) rfl ⟨trivial, vp_in_nI (by omega) (by decide)⟩ ?_
    rw [ej, show M 5 j = d.2.2.2.2.2 3 j from hd.2.2.2.2.2.2.2.2 j (by omega)]
    refine hd_ju kX0_outBits (fun _ => rfl) (fun c => ?_) (fun c => ?_)
    · refine hd_go kX0_outBits 999 (fun _ => rfl) rfl trivial ?_
      rw [nI_1]
      have := ih (j + 1) (by omega)
      rw [dy_bits, decide_eq_false (Int32.not_lt.mpr c)] at this
      exact this
    · refine hd_go kX0_outBits 999 (fun _ => rfl) rfl trivial ?_
      rw [nI_1]
      have := ih (j + 1) (by omega)
      rw [dy_bits, decide_eq_true (Int32.not_le.mp c)] at this
      exact this
set_option maxRecDepth 20000 in
theorem s_outBits_1 (M : hd_M) (N : hd_N) (d : dy_T) (hd : hm M 1 d) (ok : dy_ok d) : hd_Ret mX0_outBits [.ref 1] M N (hd_is (.int (dy_bits (fun i => decide (0 < d.2.2.2.2.2 3 i)) d.1)) M N) := by
  change hd_Go mX0_outBits 0 [some (.ref 1), none, none] [] M N _
  refine hd_go kX0_outBits 7 (fun _ => rfl) rfl trivial ?_
  have z : dy_bits (fun i => decide (0 < d.2.2.2.2.2 3 i)) d.2.1 = 0 := dy_bits_0 d.2.1 (fun i hi => by rw [ok.2.2.1 i hi]; decide)
  have := s_outBits_l_1 M N d hd ok.1 (d.1 - d.2.1) d.2.1 (by have := ok.2.1; omega)
  rw [z] at this
  rw [hd.2.1]
  exact this
set_option maxRecDepth 20000 in
theorem s_outBits_l_7 (M : hd_M) (N : hd_N) (d : dy_T) (hd : hm M 7 d) (hn : d.1 ≤ 7) : ∀ (m j : Nat), j + m = d.1 → hd_Go mX0_outBits 7 [some (.ref 7), some (.int (dy_bits (fun i => decide (0 < d.2.2.2.2.2 3 i)) j)), some (.int (nI j))] [] M N (hd_is (.int (dy_bits (fun i => decide (0 < d.2.2.2.2.2 3 i)) d.1)) M N) := by
  intro m
  induction m with
  | zero =>
    intro j hj
    have hj : j = d.1 := by omega
    subst hj
    refine hd_go kX0_outBits 999 (fun _ => rfl) rfl trivial ?_
    rw [hd.1]
    refine hd_ju kX0_outBits (fun _ => rfl) (fun c => ?_) (fun c => ?_)
    · refine hd_go kX0_outBits 999 (fun _ => rfl) rfl trivial ?_
      exact hd_en_ kX0_outBits (fun _ => rfl) trivial ⟨rfl, rfl, rfl⟩
    · exact absurd (nI_le (Nat.le_refl _) (by omega)) c
  | succ m ih =>
    intro j hj
    have ej : (nI j).toNatClampNeg = j := nI_clamp (by omega)
    refine hd_go kX0_outBits 999 (fun _ => rfl) rfl trivial ?_
    rw [hd.1]
    refine hd_ju kX0_outBits (fun _ => rfl) (fun c => ?_) (fun c => ?_)
    · exact absurd c (nI_ge (by omega) (by omega))
    refine hd_go kX0_outBits 999 (fun _ => rfl) rfl ⟨trivial, vp_in_nI (by omega) (by decide)⟩ ?_
    rw [ej, show M 11 j = d.2.2.2.2.2 3 j from hd.2.2.2.2.2.2.2.2 j (by omega)]
    refine hd_ju kX0_outBits (fun _ => rfl) (fun c => ?_) (fun c => ?_)
    · refine hd_go kX0_outBits 999 (fun _ => rfl) rfl trivial ?_
      rw [nI_1]
      have := ih (j + 1) (by omega)
      rw [dy_bits, decide_eq_false (Int32.not_lt.mpr c)] at this
      exact this
    · refine hd_go kX0_outBits 999 (fun _ => rfl) rfl trivial ?_
      rw [nI_1]
      have := ih (j + 1) (by omega)
      rw [dy_bits, decide_eq_true (Int32.not_le.mp c)] at this
      exact this
set_option maxRecDepth 20000 in
theorem s_outBits_7 (M : hd_M) (N : hd_N) (d : dy_T) (hd : hm M 7 d) (ok : dy_ok d) : hd_Ret mX0_outBits [.ref 7] M N (hd_is (.int (dy_bits (fun i => decide (0 < d.2.2.2.2.2 3 i)) d.1)) M N) := by
  change hd_Go mX0_outBits 0 [some (.ref 7), none, none] [] M N _
  refine hd_go kX0_outBits 7 (fun _ => rfl) rfl trivial ?_
  have z : dy_bits (fun i => decide (0 < d.2.2.2.2.2 3 i)) d.2.1 = 0 := dy_bits_0 d.2.1 (fun i hi => by rw [ok.2.2.1 i hi]; decide)
  have := s_outBits_l_7 M N d hd ok.1 (d.1 - d.2.1) d.2.1 (by have := ok.2.1; omega)
  rw [z] at this
  rw [hd.2.1]
  exact this
set_option maxRecDepth 20000 in
theorem s_exIn_1_1 (M : hd_M) (N : hd_N) (a : Nat) (ha : a = 2 ∨ a = 3 ∨ a = 4) (i j : Nat) (hi : i < 7) (hj : j < 7) : hd_Ret mX0_exchangeIn [.ref a, .int (nI i), .int (nI j)] M N (fun r M1 N1 => r = none ∧ N1 = N ∧ ∀ c x, M1 c x = if c = a then (if x = i then M a j else if x = j then M a i else M a x) else M c x) := by
  change hd_Go mX0_exchangeIn 0 [some (.ref a), some (.int (nI i)), some (.int (nI j)), none] [] M N _
  have ei : (nI i).toNatClampNeg = i := nI_clamp (by omega)
  have ej : (nI j).toNatClampNeg = j := nI_clamp (by omega)
  have hv : vp_in (nI i) 7 := vp_in_nI hi (by decide)
  have hw : vp_in (nI j) 7 := vp_in_nI hj (by decide)
  have key : ∀ c x, hd_u (hd_u M a i (M a j)) a j (M a i) c x = if c = a then (if x = i then M a j else if x = j then M a i else M a x) else M c x := by
    intro c x
    unfold hd_u
    by_cases hc : c = a
    · subst hc
      by_cases h1 : x = i
      · subst h1
        by_cases h2 : x = j
        · subst h2; simp
        · simp [h2]
      · by_cases h2 : x = j
        · subst h2; simp [h1]
        · simp [h1, h2]
    · simp [hc]
  rcases ha with rfl | rfl | rfl
  all_goals
    refine hd_go kX0_exchangeIn 999 (fun _ => rfl) rfl ⟨⟨⟨⟨trivial, hv⟩, hw⟩, hv⟩, hw⟩ ?_
    rw [ei, ej]
    exact hd_en_ kX0_exchangeIn (fun _ => rfl) trivial ⟨rfl, rfl, key⟩
set_option maxRecDepth 20000 in
theorem s_exch_1 (M : hd_M) (N : hd_N) (i j : Nat) (hi : i < 7) (hj : j < 7) : hd_Ret mX0_exchange [.ref 1, .int (nI i), .int (nI j)] M N (fun r M1 N1 => r = none ∧ N1 = N ∧ ∀ c x, M1 c x = if 2 ≤ c ∧ c ≤ 4 then (if x = i then M c j else if x = j then M c i else M c x) else M c x) := by
  change hd_Go mX0_exchange 0 [some (.ref 1), some (.int (nI i)), some (.int (nI j))] [] M N _
  refine hd_go kX0_exchange 999 (fun _ => rfl) rfl trivial ?_
  refine hd_ca kX0_exchange qX0_exchange (fun _ => rfl) (s_exIn_1_1 M N 2 (by simp) i j hi hj) ?_
  rintro r M1 N1 ⟨rfl, rfl, h1⟩
  refine hd_go kX0_exchange 999 (fun _ => rfl) rfl trivial ?_
  refine hd_ca kX0_exchange qX0_exchange (fun _ => rfl) (s_exIn_1_1 M1 N1 3 (by simp) i j hi hj) ?_
  rintro r M2 N2 ⟨rfl, rfl, h2⟩
  refine hd_go kX0_exchange 999 (fun _ => rfl) rfl trivial ?_
  refine hd_ca kX0_exchange qX0_exchange (fun _ => rfl) (s_exIn_1_1 M2 N2 4 (by simp) i j hi hj) ?_
  rintro r M3 N3 ⟨rfl, rfl, h3⟩
  refine hd_en_ kX0_exchange (fun _ => rfl) trivial ⟨rfl, rfl, fun c x => ?_⟩
  by_cases c3 : c = 4
  · subst c3
    simp [h3, h2, h1]
  · by_cases c2 : c = 3
    · subst c2
      simp [h3, h2, h1]
    · by_cases c1 : c = 2
      · subst c1
        simp [h3, h2, h1]
      · have : ¬ (2 ≤ c ∧ c ≤ 4) := by omega
        rw [if_neg this, h3, if_neg c3, h2, if_neg c2, h1, if_neg c1]
set_option maxRecDepth 20000 in
theorem h_exc_1 {M M1 : hd_M} {d : dy_T} (hd : hm M 1 d) (i j : Nat) (hi : i < d.1) (hj : j < d.1) (h : ∀ c x, M1 c x = if 2 ≤ c ∧ c ≤ 4 then (if x = i then M c j else if x = j then M c i else M c x) else M c x) : hm M1 1 (dy_exc i j d) := by
  obtain ⟨a5, a6, a7, a8, a9, b1, b2, b3, b4⟩ := hd
  have col : ∀ (c a : Nat), (∀ x, x < d.1 → M a x = d.2.2.2.2.2 c x) → 2 ≤ a → a ≤ 4 → ∀ x, x < d.1 → M1 a x = if x = i then d.2.2.2.2.2 c j else if x = j then d.2.2.2.2.2 c i else d.2.2.2.2.2 c x := by
    intro c a ha h1 h2 x hx
    rw [h, if_pos ⟨h1, h2⟩, ha x hx, ha i hi, ha j hj]
  refine ⟨?_, ?_, ?_, ?_, ?_, fun x hx => ?_, fun x hx => ?_, fun x hx => ?_, fun x hx => ?_⟩
  · rw [h, if_neg (by omega)]; exact a5
  · rw [h, if_neg (by omega)]; exact a6
  · rw [h, if_neg (by omega)]; exact a7
  · rw [h, if_neg (by omega)]; exact a8
  · rw [h, if_neg (by omega)]; exact a9
  · exact col 0 2 b1 (by decide) (by decide) x hx
  · exact col 1 3 b2 (by decide) (by decide) x hx
  · exact col 2 4 b3 (by decide) (by decide) x hx
  · rw [h, if_neg (by omega)]; exact b4 x hx
set_option maxRecDepth 20000 in
theorem s_layTop_l_1 (M : hd_M) (N : hd_N) (i n : Nat) (hn : n ≤ 7) (hi : i < n) (h5 : M 1 5 = nI n) : ∀ (m j : Nat) (M' : hd_M), j + m + 1 = n → i ≤ j → (∀ c x, M' c x = if 2 ≤ c ∧ c ≤ 4 then (if i ≤ x ∧ x < j then M c (x + 1) else if x = j then M c i else M c x) else M c x) → hd_Go mX0_layOnTop 2 [some (.ref 1), some (.int (nI i)), some (.int (nI j))] [] M' N (fun r M1 N1 => r = none ∧ N1 = N ∧ ∀ c x, M1 c x = if 2 ≤ c ∧ c ≤ 4 then (if i ≤ x ∧ x < n - 1 then M c (x + 1) else if x = n - 1 then M c i else M c x) else M c x) := by
  intro m
  induction m with
  | zero =>
    intro j M' hj hij h
    have e5 : M' 1 5 = nI n := by rw [h, if_neg (by omega)]; exact h5
    refine hd_go kX0_layOnTop 999 (fun _ => rfl) rfl trivial ?_
    rw [e5, nI_1]
    refine hd_ju kX0_layOnTop (fun _ => rfl) (fun c => ?_) (fun c => ?_)
    · refine hd_en_ kX0_layOnTop (fun _ => rfl) trivial ⟨rfl, rfl, ?_⟩
      rw [show n - 1 = j by omega]
      exact h
    · exact absurd (nI_le (by omega) (by omega)) c
  | succ m ih =>
    intro j M' hj hij h
    have e5 : M' 1 5 = nI n := by rw [h, if_neg (by omega)]; exact h5
    refine hd_go kX0_layOnTop 999 (fun _ => rfl) rfl trivial ?_
    rw [e5, nI_1]
    refine hd_ju kX0_layOnTop (fun _ => rfl) (fun c => ?_) (fun c => ?_)
    · exact absurd c (nI_ge (by omega) (by omega))
    refine hd_go kX0_layOnTop 999 (fun _ => rfl) rfl trivial ?_
    rw [nI_1]
    refine hd_ca kX0_layOnTop qX0_layOnTop (fun _ => rfl) (s_exch_1 M' N j (j + 1) (by omega) (by omega)) ?_
    rintro r M1 N1 ⟨rfl, rfl, h1⟩
    refine hd_go kX0_layOnTop 999 (fun _ => rfl) rfl trivial ?_
    rw [nI_1]
    refine ih (j + 1) M1 (by omega) (by omega) (fun c x => ?_)
    rw [h1]
    by_cases hc : 2 ≤ c ∧ c ≤ 4
    · rw [if_pos hc, if_pos hc, h, h, h, if_pos hc, if_pos hc, if_pos hc]
      by_cases x1 : x = j
      · subst x1
        rw [if_pos rfl, if_neg (by omega), if_neg (by omega), if_pos (by omega)]
      · rw [if_neg x1]
        by_cases x2 : x = j + 1
        · subst x2
          rw [if_pos rfl, if_neg (by omega), if_pos rfl, if_neg (by omega), if_pos rfl]
        · rw [if_neg x2]
          by_cases x3 : i ≤ x ∧ x < j
          · rw [if_pos x3, if_pos (by omega)]
          · rw [if_neg x3, if_neg x1, if_neg (by omega), if_neg x2]
    · rw [if_neg hc, if_neg hc, h, if_neg hc]
set_option maxRecDepth 20000 in
theorem s_layTop_1 (M : hd_M) (N : hd_N) (i n : Nat) (hn : n ≤ 7) (hi : i < n) (h5 : M 1 5 = nI n) : hd_Ret mX0_layOnTop [.ref 1, .int (nI i)] M N (fun r M1 N1 => r = none ∧ N1 = N ∧ ∀ c x, M1 c x = if 2 ≤ c ∧ c ≤ 4 then (if i ≤ x ∧ x < n - 1 then M c (x + 1) else if x = n - 1 then M c i else M c x) else M c x) := by
  change hd_Go mX0_layOnTop 0 [some (.ref 1), some (.int (nI i)), none] [] M N _
  refine hd_go kX0_layOnTop 2 (fun _ => rfl) rfl trivial ?_
  refine s_layTop_l_1 M N i n hn hi h5 (n - 1 - i) i M (by omega) (Nat.le_refl _) (fun c x => ?_)
  by_cases hc : 2 ≤ c ∧ c ≤ 4
  · rw [if_pos hc, if_neg (by omega)]
    by_cases e : x = i
    · rw [if_pos e, e]
    · rw [if_neg e]
  · rw [if_neg hc]
set_option maxRecDepth 20000 in
theorem h_rot_1 {M M1 : hd_M} {d : dy_T} (hd : hm M 1 d) (i : Nat) (hi : i < d.1) (h : ∀ c x, M1 c x = if 2 ≤ c ∧ c ≤ 4 then (if i ≤ x ∧ x < d.1 - 1 then M c (x + 1) else if x = d.1 - 1 then M c i else M c x) else M c x) : hm M1 1 (dy_rot i (d.1 - 1) d) := by
  obtain ⟨a5, a6, a7, a8, a9, b1, b2, b3, b4⟩ := hd
  have col : ∀ (c a : Nat), (∀ x, x < d.1 → M a x = d.2.2.2.2.2 c x) → 2 ≤ a → a ≤ 4 → ∀ x, x < d.1 → M1 a x = if i ≤ x ∧ x < d.1 - 1 then d.2.2.2.2.2 c (x + 1) else if x = d.1 - 1 then d.2.2.2.2.2 c i else d.2.2.2.2.2 c x := by
    intro c a ha h1 h2 x hx
    rw [h, if_pos ⟨h1, h2⟩]
    by_cases q : i ≤ x ∧ x < d.1 - 1
    · rw [if_pos q, if_pos q]; exact ha _ (by omega)
    · rw [if_neg q, if_neg q, ha i hi, ha x hx]
  refine ⟨?_, ?_, ?_, ?_, ?_, fun x hx => ?_, fun x hx => ?_, fun x hx => ?_, fun x hx => ?_⟩
  · rw [h, if_neg (by omega)]; exact a5
  · rw [h, if_neg (by omega)]; exact a6
  · rw [h, if_neg (by omega)]; exact a7
  · rw [h, if_neg (by omega)]; exact a8
  · rw [h, if_neg (by omega)]; exact a9
  · exact col 0 2 b1 (by decide) (by decide) x hx
  · exact col 1 3 b2 (by decide) (by decide) x hx
  · exact col 2 4 b3 (by decide) (by decide) x hx
  · rw [h, if_neg (by omega)]; exact b4 x hx
set_option maxRecDepth 20000 in
theorem s_takeAway_1 (M : hd_M) (N : hd_N) (d : dy_T) (hd : hm M 1 d) (hn : d.1 ≤ 7) (i : Nat) (hi : i < d.1) : hd_Ret mX0_takeAway [.ref 1, .int (nI i)] M N (fun r M1 N1 => r = none ∧ N1 = N ∧ fr (fun c _ => 1 ≤ c ∧ c ≤ 5) M M1 ∧ hm M1 1 (dy_shr (d.1 - 1) (dy_rot i (d.1 - 1) d))) := by
  change hd_Go mX0_takeAway 0 [some (.ref 1), some (.int (nI i))] [] M N _
  refine hd_go kX0_takeAway 999 (fun _ => rfl) rfl trivial ?_
  refine hd_ca kX0_takeAway qX0_takeAway (fun _ => rfl) (s_layTop_1 M N i d.1 hn hi hd.1) ?_
  rintro r M1 N1 ⟨rfl, rfl, h1⟩
  have hd1 := h_rot_1 hd i hi h1
  refine hd_go kX0_takeAway 999 (fun _ => rfl) rfl trivial ?_
  have e5 : M1 1 5 - 1 = nI (d.1 - 1) := by
    rw [hd1.1, show (dy_rot i (d.1 - 1) d).1 = (d.1 - 1) + 1 by show d.1 = _; omega, nI_pred]
  rw [e5]
  refine hd_ca kX0_takeAway qX0_takeAway (fun _ => rfl) (s_shrink_1 M1 N1 _ hd1 hn (d.1 - 1) (by omega)) ?_
  rintro r M2 N2 ⟨rfl, rfl, hf2, hd2⟩
  refine hd_en_ kX0_takeAway (fun _ => rfl) trivial ⟨rfl, rfl, ?_, ?_⟩
  · intro c x hc
    have hc : ¬ (1 ≤ c ∧ c ≤ 5) := hc
    rw [hf2 c x (by show ¬ c = 1; omega), h1, if_neg (by omega)]
  · rw [if_pos (by show d.1 - 1 < d.1; omega)] at hd2
    exact hd2
set_option maxRecDepth 20000 in
theorem s_crushed_l_1 (M : hd_M) (N : hd_N) (d : dy_T) (hd : hm M 1 d) (hn : d.1 ≤ 7) : ∀ (m j : Nat), j + m = d.1 → hd_Go mX0_crushedBits 4 [some (.ref 1), some (.int (dy_bits (fun i => decide (dy_brs (d.2.2.2.2.2 0 i) (d.2.2.2.2.2 2 i) < dy_ld d i)) j)), some (.int (nI j))] [] M N (hd_is (.int (dy_bits (fun i => decide (dy_brs (d.2.2.2.2.2 0 i) (d.2.2.2.2.2 2 i) < dy_ld d i)) d.1)) M N) := by
  intro m
  induction m with
  | zero =>
    intro j hj
    have hj : j = d.1 := by omega
    subst hj
    refine hd_go kX0_crushedBits 999 (fun _ => rfl) rfl trivial ?_
    rw [hd.1]
    refine hd_ju kX0_crushedBits (fun _ => rfl) (fun c => ?_) (fun c => ?_)
    · refine hd_go kX0_crushedBits 999 (fun _ => rfl) rfl trivial ?_
      exact hd_en_ kX0_crushedBits (fun _ => rfl) trivial ⟨rfl, rfl, rfl⟩
    · exact absurd (nI_le (Nat.le_refl _) (by omega)) c
  | succ m ih =>
    intro j hj
    have e5 : M 1 5 = nI d.1 := hd.1
    refine hd_go kX0_crushedBits 999 (fun _ => rfl) rfl trivial ?_
    rw [e5]
    refine hd_ju kX0_crushedBits (fun _ => rfl) (fun c => ?_) (fun c => ?_)
    · exact absurd c (nI_ge (by omega) (by omega))
    refine hd_go kX0_crushedBits 999 (fun _ => rfl) rfl trivial ?_
    refine hd_ci kX0_crushedBits qX0_crushedBits (fun _ => rfl) (s_isCrushed_1 M N d.1 hn e5 j (by omega)) ?_
    have ew : wsm (M 4) (j + 1) (d.1 - (j + 1)) = dy_ld d j := wsm_cong _ _ (fun i h1 h2 => hd.2.2.2.2.2.2.2.1 i (by omega))
    rw [ew, show M 2 j = d.2.2.2.2.2 0 j from hd.2.2.2.2.2.1 j (by omega), show M 4 j = d.2.2.2.2.2 2 j from hd.2.2.2.2.2.2.2.1 j (by omega)]
    have := ih (j + 1) (by omega)
    rw [dy_bits] at this
    by_cases q : dy_brs (d.2.2.2.2.2 0 j) (d.2.2.2.2.2 2 j) < dy_ld d j
    · rw [decide_eq_true q] at this
      rw [show hd_b (dy_brs (d.2.2.2.2.2 0 j) (d.2.2.2.2.2 2 j) < dy_ld d j) = 1 from if_pos q]
      refine hd_ju kX0_crushedBits (fun _ => rfl) (fun c => absurd c (by decide)) (fun c => ?_)
      refine hd_go kX0_crushedBits 999 (fun _ => rfl) rfl trivial ?_
      rw [nI_1]
      exact this
    · rw [decide_eq_false q] at this
      rw [show hd_b (dy_brs (d.2.2.2.2.2 0 j) (d.2.2.2.2.2 2 j) < dy_ld d j) = 0 from if_neg q]
      refine hd_ju kX0_crushedBits (fun _ => rfl) (fun c => ?_) (fun c => absurd rfl c)
      refine hd_go kX0_crushedBits 999 (fun _ => rfl) rfl trivial ?_
      rw [nI_1]
      exact this
set_option maxRecDepth 20000 in
theorem s_crushed_1 (M : hd_M) (N : hd_N) (d : dy_T) (hd : hm M 1 d) (hn : d.1 ≤ 7) : hd_Ret mX0_crushedBits [.ref 1] M N (hd_is (.int (dy_bits (fun i => decide (dy_brs (d.2.2.2.2.2 0 i) (d.2.2.2.2.2 2 i) < dy_ld d i)) d.1)) M N) := by
  change hd_Go mX0_crushedBits 0 [some (.ref 1), none, none] [] M N _
  refine hd_go kX0_crushedBits 4 (fun _ => rfl) rfl trivial ?_
  exact s_crushed_l_1 M N d hd hn d.1 0 (by omega)
set_option maxRecDepth 20000 in
theorem s_sumOf_l_1 (M : hd_M) (N : hd_N) (a n : Nat) (ha : a = 3 ∨ a = 4) (hn : n ≤ 7) (h5 : M 1 5 = nI n) : ∀ (m j : Nat) (s : Int32), j + m = n → hd_Go mX0_sumOf 4 [some (.ref 1), some (.ref a), some (.int s), some (.int (nI j))] [] M N (hd_is (.int (s + wsm (M a) j m)) M N) := by
  intro m
  induction m with
  | zero =>
    intro j s hj
    refine hd_go kX0_sumOf 999 (fun _ => rfl) rfl trivial ?_
    rw [h5]
    refine hd_ju kX0_sumOf (fun _ => rfl) (fun c => ?_) (fun c => ?_)
    · refine hd_go kX0_sumOf 999 (fun _ => rfl) rfl trivial ?_
      refine hd_en_ kX0_sumOf (fun _ => rfl) trivial ⟨?_, rfl, rfl⟩
      rw [wsm, Int32.add_zero]
    · exact absurd (nI_le (by omega) (by omega)) c
  | succ m ih =>
    intro j s hj
    have := ih (j + 1) (s + M a j) (by omega)
    rw [Int32.add_assoc] at this
    refine hd_go kX0_sumOf 999 (fun _ => rfl) rfl trivial ?_
    rw [h5]
    refine hd_ju kX0_sumOf (fun _ => rfl) (fun c => ?_) (fun c => ?_)
    · exact absurd c (nI_ge (by omega) (by omega))
    rcases ha with rfl | rfl
    all_goals
      refine hd_go kX0_sumOf 999 (fun _ => rfl) rfl ⟨trivial, vp_in_nI (by omega) (by decide)⟩ ?_
      rw [nI_1, nI_clamp (by omega), wsm]
      exact this
set_option maxRecDepth 20000 in
theorem s_sumOf_1 (M : hd_M) (N : hd_N) (a n : Nat) (ha : a = 3 ∨ a = 4) (hn : n ≤ 7) (h5 : M 1 5 = nI n) : hd_Ret mX0_sumOf [.ref 1, .ref a] M N (hd_is (.int (wsm (M a) 0 n)) M N) := by
  change hd_Go mX0_sumOf 0 [some (.ref 1), some (.ref a), none, none] [] M N _
  refine hd_go kX0_sumOf 4 (fun _ => rfl) rfl trivial ?_
  have := s_sumOf_l_1 M N a n ha hn h5 n 0 0 (by omega)
  rw [Int32.zero_add] at this
  exact this
set_option maxRecDepth 20000 in
theorem s_exIn_1_7 (M : hd_M) (N : hd_N) (a : Nat) (ha : a = 8 ∨ a = 9 ∨ a = 10) (i j : Nat) (hi : i < 7) (hj : j < 7) : hd_Ret mX0_exchangeIn [.ref a, .int (nI i), .int (nI j)] M N (fun r M1 N1 => r = none ∧ N1 = N ∧ ∀ c x, M1 c x = if c = a then (if x = i then M a j else if x = j then M a i else M a x) else M c x) := by
  change hd_Go mX0_exchangeIn 0 [some (.ref a), some (.int (nI i)), some (.int (nI j)), none] [] M N _
  have ei : (nI i).toNatClampNeg = i := nI_clamp (by omega)
  have ej : (nI j).toNatClampNeg = j := nI_clamp (by omega)
  have hv : vp_in (nI i) 7 := vp_in_nI hi (by decide)
  have hw : vp_in (nI j) 7 := vp_in_nI hj (by decide)
  have key : ∀ c x, hd_u (hd_u M a i (M a j)) a j (M a i) c x = if c = a then (if x = i then M a j else if x = j then M a i else M a x) else M c x := by
    intro c x
    unfold hd_u
    by_cases hc : c = a
    · subst hc
      by_cases h1 : x = i
      · subst h1
        by_cases h2 : x = j
        · subst h2; simp
        · simp [h2]
      · by_cases h2 : x = j
        · subst h2; simp [h1]
        · simp [h1, h2]
    · simp [hc]
  rcases ha with rfl | rfl | rfl
  all_goals
    refine hd_go kX0_exchangeIn 999 (fun _ => rfl) rfl ⟨⟨⟨⟨trivial, hv⟩, hw⟩, hv⟩, hw⟩ ?_
    rw [ei, ej]
    exact hd_en_ kX0_exchangeIn (fun _ => rfl) trivial ⟨rfl, rfl, key⟩
set_option maxRecDepth 20000 in
theorem s_exch_7 (M : hd_M) (N : hd_N) (i j : Nat) (hi : i < 7) (hj : j < 7) : hd_Ret mX0_exchange [.ref 7, .int (nI i), .int (nI j)] M N (fun r M1 N1 => r = none ∧ N1 = N ∧ ∀ c x, M1 c x = if 8 ≤ c ∧ c ≤ 10 then (if x = i then M c j else if x = j then M c i else M c x) else M c x) := by
  change hd_Go mX0_exchange 0 [some (.ref 7), some (.int (nI i)), some (.int (nI j))] [] M N _
  refine hd_go kX0_exchange 999 (fun _ => rfl) rfl trivial ?_
  refine hd_ca kX0_exchange qX0_exchange (fun _ => rfl) (s_exIn_1_7 M N 8 (by simp) i j hi hj) ?_
  rintro r M1 N1 ⟨rfl, rfl, h1⟩
  refine hd_go kX0_exchange 999 (fun _ => rfl) rfl trivial ?_
  refine hd_ca kX0_exchange qX0_exchange (fun _ => rfl) (s_exIn_1_7 M1 N1 9 (by simp) i j hi hj) ?_
  rintro r M2 N2 ⟨rfl, rfl, h2⟩
  refine hd_go kX0_exchange 999 (fun _ => rfl) rfl trivial ?_
  refine hd_ca kX0_exchange qX0_exchange (fun _ => rfl) (s_exIn_1_7 M2 N2 10 (by simp) i j hi hj) ?_
  rintro r M3 N3 ⟨rfl, rfl, h3⟩
  refine hd_en_ kX0_exchange (fun _ => rfl) trivial ⟨rfl, rfl, fun c x => ?_⟩
  by_cases c3 : c = 10
  · subst c3
    simp [h3, h2, h1]
  · by_cases c2 : c = 9
    · subst c2
      simp [h3, h2, h1]
    · by_cases c1 : c = 8
      · subst c1
        simp [h3, h2, h1]
      · have : ¬ (8 ≤ c ∧ c ≤ 10) := by omega
        rw [if_neg this, h3, if_neg c3, h2, if_neg c2, h1, if_neg c1]
set_option maxRecDepth 20000 in
theorem h_exc_7 {M M1 : hd_M} {d : dy_T} (hd : hm M 7 d) (i j : Nat) (hi : i < d.1) (hj : j < d.1) (h : ∀ c x, M1 c x = if 8 ≤ c ∧ c ≤ 10 then (if x = i then M c j else if x = j then M c i else M c x) else M c x) : hm M1 7 (dy_exc i j d) := by
  obtain ⟨a5, a6, a7, a8, a9, b1, b2, b3, b4⟩ := hd
  have col : ∀ (c a : Nat), (∀ x, x < d.1 → M a x = d.2.2.2.2.2 c x) → 8 ≤ a → a ≤ 10 → ∀ x, x < d.1 → M1 a x = if x = i then d.2.2.2.2.2 c j else if x = j then d.2.2.2.2.2 c i else d.2.2.2.2.2 c x := by
    intro c a ha h1 h2 x hx
    rw [h, if_pos ⟨h1, h2⟩, ha x hx, ha i hi, ha j hj]
  refine ⟨?_, ?_, ?_, ?_, ?_, fun x hx => ?_, fun x hx => ?_, fun x hx => ?_, fun x hx => ?_⟩
  · rw [h, if_neg (by omega)]; exact a5
  · rw [h, if_neg (by omega)]; exact a6
  · rw [h, if_neg (by omega)]; exact a7
  · rw [h, if_neg (by omega)]; exact a8
  · rw [h, if_neg (by omega)]; exact a9
  · exact col 0 8 b1 (by decide) (by decide) x hx
  · exact col 1 9 b2 (by decide) (by decide) x hx
  · exact col 2 10 b3 (by decide) (by decide) x hx
  · rw [h, if_neg (by omega)]; exact b4 x hx
set_option maxRecDepth 20000 in
theorem s_layTop_l_7 (M : hd_M) (N : hd_N) (i n : Nat) (hn : n ≤ 7) (hi : i < n) (h5 : M 7 5 = nI n) : ∀ (m j : Nat) (M' : hd_M), j + m + 1 = n → i ≤ j → (∀ c x, M' c x = if 8 ≤ c ∧ c ≤ 10 then (if i ≤ x ∧ x < j then M c (x + 1) else if x = j then M c i else M c x) else M c x) → hd_Go mX0_layOnTop 2 [some (.ref 7), some (.int (nI i)), some (.int (nI j))] [] M' N (fun r M1 N1 => r = none ∧ N1 = N ∧ ∀ c x, M1 c x = if 8 ≤ c ∧ c ≤ 10 then (if i ≤ x ∧ x < n - 1 then M c (x + 1) else if x = n - 1 then M c i else M c x) else M c x) := by
  intro m
  induction m with
  | zero =>
    intro j M' hj hij h
    have e5 : M' 7 5 = nI n := by rw [h, if_neg (by omega)]; exact h5
    refine hd_go kX0_layOnTop 999 (fun _ => rfl) rfl trivial ?_
    rw [e5, nI_1]
    refine hd_ju kX0_layOnTop (fun _ => rfl) (fun c => ?_) (fun c => ?_)
    · refine hd_en_ kX0_layOnTop (fun _ => rfl) trivial ⟨rfl, rfl, ?_⟩
      rw [show n - 1 = j by omega]
      exact h
    · exact absurd (nI_le (by omega) (by omega)) c
  | succ m ih =>
    intro j M' hj hij h
    have e5 : M' 7 5 = nI n := by rw [h, if_neg (by omega)]; exact h5
    refine hd_go kX0_layOnTop 999 (fun _ => rfl) rfl trivial ?_
    rw [e5, nI_1]
    refine hd_ju kX0_layOnTop (fun _ => rfl) (fun c => ?_) (fun c => ?_)
    · exact absurd c (nI_ge (by omega) (by omega))
    refine hd_go kX0_layOnTop 999 (fun _ => rfl) rfl trivial ?_
    rw [nI_1]
    refine hd_ca kX0_layOnTop qX0_layOnTop (fun _ => rfl) (s_exch_7 M' N j (j + 1) (by omega) (by omega)) ?_
    rintro r M1 N1 ⟨rfl, rfl, h1⟩
    refine hd_go kX0_layOnTop 999 (fun _ => rfl) rfl trivial ?_
    rw [nI_1]
    refine ih (j + 1) M1 (by omega) (by omega) (fun c x => ?_)
    rw [h1]
    by_cases hc : 8 ≤ c ∧ c ≤ 10
    · rw [if_pos hc, if_pos hc, h, h, h, if_pos hc, if_pos hc, if_pos hc]
      by_cases x1 : x = j
      · subst x1
        rw [if_pos rfl, if_neg (by omega), if_neg (by omega), if_pos (by omega)]
      · rw [if_neg x1]
        by_cases x2 : x = j + 1
        · subst x2
          rw [if_pos rfl, if_neg (by omega), if_pos rfl, if_neg (by omega), if_pos rfl]
        · rw [if_neg x2]
          by_cases x3 : i ≤ x ∧ x < j
          · rw [if_pos x3, if_pos (by omega)]
          · rw [if_neg x3, if_neg x1, if_neg (by omega), if_neg x2]
    · rw [if_neg hc, if_neg hc, h, if_neg hc]
set_option maxRecDepth 20000 in
theorem s_layTop_7 (M : hd_M) (N : hd_N) (i n : Nat) (hn : n ≤ 7) (hi : i < n) (h5 : M 7 5 = nI n) : hd_Ret mX0_layOnTop [.ref 7, .int (nI i)] M N (fun r M1 N1 => r = none ∧ N1 = N ∧ ∀ c x, M1 c x = if 8 ≤ c ∧ c ≤ 10 then (if i ≤ x ∧ x < n - 1 then M c (x + 1) else if x = n - 1 then M c i else M c x) else M c x) := by
  change hd_Go mX0_layOnTop 0 [some (.ref 7), some (.int (nI i)), none] [] M N _
  refine hd_go kX0_layOnTop 2 (fun _ => rfl) rfl trivial ?_
  refine s_layTop_l_7 M N i n hn hi h5 (n - 1 - i) i M (by omega) (Nat.le_refl _) (fun c x => ?_)
  by_cases hc : 8 ≤ c ∧ c ≤ 10
  · rw [if_pos hc, if_neg (by omega)]
    by_cases e : x = i
    · rw [if_pos e, e]
    · rw [if_neg e]
  · rw [if_neg hc]
set_option maxRecDepth 20000 in
theorem h_rot_7 {M M1 : hd_M} {d : dy_T} (hd : hm M 7 d) (i : Nat) (hi : i < d.1) (h : ∀ c x, M1 c x = if 8 ≤ c ∧ c ≤ 10 then (if i ≤ x ∧ x < d.1 - 1 then M c (x + 1) else if x = d.1 - 1 then M c i else M c x) else M c x) : hm M1 7 (dy_rot i (d.1 - 1) d) := by
  obtain ⟨a5, a6, a7, a8, a9, b1, b2, b3, b4⟩ := hd
  have col : ∀ (c a : Nat), (∀ x, x < d.1 → M a x = d.2.2.2.2.2 c x) → 8 ≤ a → a ≤ 10 → ∀ x, x < d.1 → M1 a x = if i ≤ x ∧ x < d.1 - 1 then d.2.2.2.2.2 c (x + 1) else if x = d.1 - 1 then d.2.2.2.2.2 c i else d.2.2.2.2.2 c x := by
    intro c a ha h1 h2 x hx
    rw [h, if_pos ⟨h1, h2⟩]
    by_cases q : i ≤ x ∧ x < d.1 - 1
    · rw [if_pos q, if_pos q]; exact ha _ (by omega)
    · rw [if_neg q, if_neg q, ha i hi, ha x hx]
  refine ⟨?_, ?_, ?_, ?_, ?_, fun x hx => ?_, fun x hx => ?_, fun x hx => ?_, fun x hx => ?_⟩
  · rw [h, if_neg (by omega)]; exact a5
  · rw [h, if_neg (by omega)]; exact a6
  · rw [h, if_neg (by omega)]; exact a7
  · rw [h, if_neg (by omega)]; exact a8
  · rw [h, if_neg (by omega)]; exact a9
  · exact col 0 8 b1 (by decide) (by decide) x hx
  · exact col 1 9 b2 (by decide) (by decide) x hx
  · exact col 2 10 b3 (by decide) (by decide) x hx
  · rw [h, if_neg (by omega)]; exact b4 x hx
set_option maxRecDepth 20000 in
theorem s_takeAway_7 (M : hd_M) (N : hd_N) (d : dy_T) (hd : hm M 7 d) (hn : d.1 ≤ 7) (i : Nat) (hi : i < d.1) : hd_Ret mX0_takeAway [.ref 7, .int (nI i)] M N (fun r M1 N1 => r = none ∧ N1 = N ∧ fr (fun c _ => 7 ≤ c ∧ c ≤ 11) M M1 ∧ hm M1 7 (dy_shr (d.1 - 1) (dy_rot i (d.1 - 1) d))) := by
  change hd_Go mX0_takeAway 0 [some (.ref 7), some (.int (nI i))] [] M N _
  refine hd_go kX0_takeAway 999 (fun _ => rfl) rfl trivial ?_
  refine hd_ca kX0_takeAway qX0_takeAway (fun _ => rfl) (s_layTop_7 M N i d.1 hn hi hd.1) ?_
  rintro r M1 N1 ⟨rfl, rfl, h1⟩
  have hd1 := h_rot_7 hd i hi h1
  refine hd_go kX0_takeAway 999 (fun _ => rfl) rfl trivial ?_
  have e5 : M1 7 5 - 1 = nI (d.1 - 1) := by
    rw [hd1.1, show (dy_rot i (d.1 - 1) d).1 = (d.1 - 1) + 1 by show d.1 = _; omega, nI_pred]
  rw [e5]
  refine hd_ca kX0_takeAway qX0_takeAway (fun _ => rfl) (s_shrink_7 M1 N1 _ hd1 hn (d.1 - 1) (by omega)) ?_
  rintro r M2 N2 ⟨rfl, rfl, hf2, hd2⟩
  refine hd_en_ kX0_takeAway (fun _ => rfl) trivial ⟨rfl, rfl, ?_, ?_⟩
  · intro c x hc
    have hc : ¬ (7 ≤ c ∧ c ≤ 11) := hc
    rw [hf2 c x (by show ¬ c = 7; omega), h1, if_neg (by omega)]
  · rw [if_pos (by show d.1 - 1 < d.1; omega)] at hd2
    exact hd2
set_option maxRecDepth 20000 in
theorem s_crushed_l_7 (M : hd_M) (N : hd_N) (d : dy_T) (hd : hm M 7 d) (hn : d.1 ≤ 7) : ∀ (m j : Nat), j + m = d.1 → hd_Go mX0_crushedBits 4 [some (.ref 7), some (.int (dy_bits (fun i => decide (dy_brs (d.2.2.2.2.2 0 i) (d.2.2.2.2.2 2 i) < dy_ld d i)) j)), some (.int (nI j))] [] M N (hd_is (.int (dy_bits (fun i => decide (dy_brs (d.2.2.2.2.2 0 i) (d.2.2.2.2.2 2 i) < dy_ld d i)) d.1)) M N) := by
  intro m
  induction m with
  | zero =>
    intro j hj
    have hj : j = d.1 := by omega
    subst hj
    refine hd_go kX0_crushedBits 999 (fun _ => rfl) rfl trivial ?_
    rw [hd.1]
    refine hd_ju kX0_crushedBits (fun _ => rfl) (fun c => ?_) (fun c => ?_)
    · refine hd_go kX0_crushedBits 999 (fun _ => rfl) rfl trivial ?_
      exact hd_en_ kX0_crushedBits (fun _ => rfl) trivial ⟨rfl, rfl, rfl⟩
    · exact absurd (nI_le (Nat.le_refl _) (by omega)) c
  | succ m ih =>
    intro j hj
    have e5 : M 7 5 = nI d.1 := hd.1
    refine hd_go kX0_crushedBits 999 (fun _ => rfl) rfl trivial ?_
    rw [e5]
    refine hd_ju kX0_crushedBits (fun _ => rfl) (fun c => ?_) (fun c => ?_)
    · exact absurd c (nI_ge (by omega) (by omega))
    refine hd_go kX0_crushedBits 999 (fun _ => rfl) rfl trivial ?_
    refine hd_ci kX0_crushedBits qX0_crushedBits (fun _ => rfl) (s_isCrushed_7 M N d.1 hn e5 j (by omega)) ?_
    have ew : wsm (M 10) (j + 1) (d.1 - (j + 1)) = dy_ld d j := wsm_cong _ _ (fun i h1 h2 => hd.2.2.2.2.2.2.2.1 i (by omega))
    rw [ew, show M 8 j = d.2.2.2.2.2 0 j from hd.2.2.2.2.2.1 j (by omega), show M 10 j = d.2.2.2.2.2 2 j from hd.2.2.2.2.2.2.2.1 j (by omega)]
    have := ih (j + 1) (by omega)
    rw [dy_bits] at this
    by_cases q : dy_brs (d.2.2.2.2.2 0 j) (d.2.2.2.2.2 2 j) < dy_ld d j
    · rw [decide_eq_true q] at this
      rw [show hd_b (dy_brs (d.2.2.2.2.2 0 j) (d.2.2.2.2.2 2 j) < dy_ld d j) = 1 from if_pos q]
      refine hd_ju kX0_crushedBits (fun _ => rfl) (fun c => absurd c (by decide)) (fun c => ?_)
      refine hd_go kX0_crushedBits 999 (fun _ => rfl) rfl trivial ?_
      rw [nI_1]
      exact this
    · rw [decide_eq_false q] at this
      rw [show hd_b (dy_brs (d.2.2.2.2.2 0 j) (d.2.2.2.2.2 2 j) < dy_ld d j) = 0 from if_neg q]
      refine hd_ju kX0_crushedBits (fun _ => rfl) (fun c => ?_) (fun c => absurd rfl c)
      refine hd_go kX0_crushedBits 999 (fun _ => rfl) rfl trivial ?_
      rw [nI_1]
      exact this
set_option maxRecDepth 20000 in
theorem s_crushed_7 (M : hd_M) (N : hd_N) (d : dy_T) (hd : hm M 7 d) (hn : d.1 ≤ 7) : hd_Ret mX0_crushedBits [.ref 7] M N (hd_is (.int (dy_bits (fun i => decide (dy_brs (d.2.2.2.2.2 0 i) (d.2.2.2.2.2 2 i) < dy_ld d i)) d.1)) M N) := by
  change hd_Go mX0_crushedBits 0 [some (.ref 7), none, none] [] M N _
  refine hd_go kX0_crushedBits 4 (fun _ => rfl) rfl trivial ?_
  exact s_crushed_l_7 M N d hd hn d.1 0 (by omega)
set_option maxRecDepth 20000 in
theorem s_sumOf_l_7 (M : hd_M) (N : hd_N) (a n : Nat) (ha : a = 9 ∨ a = 10) (hn : n ≤ 7) (h5 : M 7 5 = nI n) : ∀ (m j : Nat) (s : Int32), j + m = n → hd_Go mX0_sumOf 4 [some (.ref 7), some (.ref a), some (.int s), some (.int (nI j))] [] M N (hd_is (.int (s + wsm (M a) j m)) M N) := by
  intro m
  induction m with
  | zero =>
    intro j s hj
    refine hd_go kX0_sumOf 999 (fun _ => rfl) rfl trivial ?_
    rw [h5]
    refine hd_ju kX0_sumOf (fun _ => rfl) (fun c => ?_) (fun c => ?_)
    · refine hd_go kX0_sumOf 999 (fun _ => rfl) rfl trivial ?_
      refine hd_en_ kX0_sumOf (fun _ => rfl) trivial ⟨?_, rfl, rfl⟩
      rw [wsm, Int32.add_zero]
    · exact absurd (nI_le (by omega) (by omega)) c
  | succ m ih =>
    intro j s hj
    have := ih (j + 1) (s + M a j) (by omega)
    rw [Int32.add_assoc] at this
    refine hd_go kX0_sumOf 999 (fun _ => rfl) rfl trivial ?_
    rw [h5]
    refine hd_ju kX0_sumOf (fun _ => rfl) (fun c => ?_) (fun c => ?_)
    · exact absurd c (nI_ge (by omega) (by omega))
    rcases ha with rfl | rfl
    all_goals
      refine hd_go kX0_sumOf 999 (fun _ => rfl) rfl ⟨trivial, vp_in_nI (by omega) (by decide)⟩ ?_
      rw [nI_1, nI_clamp (by omega), wsm]
      exact this
set_option maxRecDepth 20000 in
theorem s_sumOf_7 (M : hd_M) (N : hd_N) (a n : Nat) (ha : a = 9 ∨ a = 10) (hn : n ≤ 7) (h5 : M 7 5 = nI n) : hd_Ret mX0_sumOf [.ref 7, .ref a] M N (hd_is (.int (wsm (M a) 0 n)) M N) := by
  change hd_Go mX0_sumOf 0 [some (.ref 7), some (.ref a), none, none] [] M N _
  refine hd_go kX0_sumOf 4 (fun _ => rfl) rfl trivial ?_
  have := s_sumOf_l_7 M N a n ha hn h5 n 0 0 (by omega)
  rw [Int32.zero_add] at this
  exact this
end
section
/-! COPIES BETWEEN HAMPERS; what is for the trial alone; printed by wip/whole/ham3.py -/
set_option maxRecDepth 20000 in
theorem s_copyDay_7_1 (M : hd_M) (N : hd_N) : hd_Ret mX0_copyDayOf [.ref 7, .ref 1] M N (fun r M1 N1 => r = none ∧ N1 = N ∧ M1 7 6 = M 1 6 ∧ M1 7 7 = M 1 7 ∧ M1 7 8 = M 1 8 ∧ M1 7 9 = M 1 9 ∧ fr (fun c j => c = 7 ∧ 6 ≤ j) M M1) := by
  change hd_Go mX0_copyDayOf 0 [some (.ref 7), some (.ref 1)] [] M N _
  refine hd_go kX0_copyDayOf 999 (fun _ => rfl) rfl trivial ?_
  refine hd_en_ kX0_copyDayOf (fun _ => rfl) trivial ⟨rfl, rfl, ?_, ?_, ?_, ?_, (((fr.rf.up (by simp)).up (by simp)).up (by simp)).up (by simp)⟩
  · simp [hd_u]
  · simp [hd_u]
  · simp [hd_u]
  · simp [hd_u]
set_option maxRecDepth 20000 in
theorem s_copyThing_7_1 (M : hd_M) (N : hd_N) (t i : Nat) (ht : t < 7) (hi : i < 7) : hd_Ret mX0_copyThing [.ref 7, .int (nI t), .ref 1, .int (nI i)] M N (fun r M1 N1 => r = none ∧ N1 = N ∧ M1 8 t = M 2 i ∧ M1 9 t = M 3 i ∧ M1 10 t = M 4 i ∧ M1 11 t = M 5 i ∧ fr (fun c j => 8 ≤ c ∧ c ≤ 11 ∧ j = t) M M1) := by
  change hd_Go mX0_copyThing 0 [some (.ref 7), some (.int (nI t)), some (.ref 1), some (.int (nI i))] [] M N _
  have ei : (nI i).toNatClampNeg = i := nI_clamp (by omega)
  have et : (nI t).toNatClampNeg = t := nI_clamp (by omega)
  have hv : vp_in (nI i) 7 := vp_in_nI hi (by decide)
  have hw : vp_in (nI t) 7 := vp_in_nI ht (by decide)
  refine hd_go kX0_copyThing 999 (fun _ => rfl) rfl ⟨⟨⟨⟨⟨⟨⟨⟨trivial, hv⟩, hw⟩, hv⟩, hw⟩, hv⟩, hw⟩, hv⟩, hw⟩ ?_
  rw [ei, et]
  refine hd_en_ kX0_copyThing (fun _ => rfl) trivial ⟨rfl, rfl, ?_, ?_, ?_, ?_, (((fr.rf.up (by simp)).up (by simp)).up (by simp)).up (by simp)⟩
  · simp [hd_u]
  · simp [hd_u]
  · simp [hd_u]
  · simp [hd_u]
set_option maxRecDepth 20000 in
theorem s_copyFrom_l_7_1 (M : hd_M) (N : hd_N) (d : dy_T) (hd : hm M 1 d) (hn : d.1 ≤ 7) : ∀ (m j : Nat) (M' : hd_M), j + m = d.1 → fr (fun c _ => 7 ≤ c ∧ c ≤ 11) M M' → M' 7 5 = nI d.1 → M' 7 6 = nI d.2.1 → M' 7 7 = d.2.2.1 → M' 7 8 = d.2.2.2.1 → M' 7 9 = d.2.2.2.2.1 → (∀ x, x < j → M' 8 x = d.2.2.2.2.2 0 x ∧ M' 9 x = d.2.2.2.2.2 1 x ∧ M' 10 x = d.2.2.2.2.2 2 x ∧ M' 11 x = d.2.2.2.2.2 3 x) → hd_Go mX0_copyFrom 15 [some (.ref 7), some (.ref 1), some (.int (nI j))] [] M' N (fun r M1 N1 => r = none ∧ N1 = N ∧ fr (fun c _ => 7 ≤ c ∧ c ≤ 11) M M1 ∧ hm M1 7 d) := by
  intro m
  induction m with
  | zero =>
    intro j M' hj hf e5 e6 e7 e8 e9 hx
    refine hd_go kX0_copyFrom 999 (fun _ => rfl) rfl trivial ?_
    rw [e5]
    refine hd_ju kX0_copyFrom (fun _ => rfl) (fun c => ?_) (fun c => ?_)
    · refine hd_en_ kX0_copyFrom (fun _ => rfl) trivial ⟨rfl, rfl, hf, e5, e6, e7, e8, e9, ?_, ?_, ?_, ?_⟩
      · exact fun i hi => (hx i (by omega)).1
      · exact fun i hi => (hx i (by omega)).2.1
      · exact fun i hi => (hx i (by omega)).2.2.1
      · exact fun i hi => (hx i (by omega)).2.2.2
    · exact absurd (nI_le (by omega) (by omega)) c
  | succ m ih =>
    intro j M' hj hf e5 e6 e7 e8 e9 hx
    refine hd_go kX0_copyFrom 999 (fun _ => rfl) rfl trivial ?_
    rw [e5]
    refine hd_ju kX0_copyFrom (fun _ => rfl) (fun c => ?_) (fun c => ?_)
    · exact absurd c (nI_ge (by omega) (by omega))
    refine hd_go kX0_copyFrom 999 (fun _ => rfl) rfl trivial ?_
    refine hd_ca kX0_copyFrom qX0_copyFrom (fun _ => rfl) (s_copyThing_7_1 M' N j j (by omega) (by omega)) ?_
    rintro r M1 N1 ⟨rfl, rfl, g1, g2, g3, g4, hf1⟩
    refine hd_go kX0_copyFrom 999 (fun _ => rfl) rfl trivial ?_
    rw [nI_1]
    have q : ∀ x, M1 7 x = M' 7 x := fun x => hf1 7 x (by simp)
    refine ih (j + 1) M1 (by omega) (hf.tr (hf1.mo (fun c x h => by have h : 8 ≤ c ∧ c ≤ 11 ∧ x = j := h; show 7 ≤ c ∧ c ≤ 11; omega))) (by rw [q]; exact e5) (by rw [q]; exact e6) (by rw [q]; exact e7) (by rw [q]; exact e8) (by rw [q]; exact e9) (fun x h => ?_)
    by_cases e : x = j
    · subst e
      rw [g1, g2, g3, g4, hf 2 x (by simp), hf 3 x (by simp), hf 4 x (by simp), hf 5 x (by simp)]
      exact ⟨hd.2.2.2.2.2.1 x (by omega), hd.2.2.2.2.2.2.1 x (by omega), hd.2.2.2.2.2.2.2.1 x (by omega), hd.2.2.2.2.2.2.2.2 x (by omega)⟩
    · have q2 : ∀ c, M1 c x = M' c x := fun c => hf1 c x (fun z => e z.2.2)
      rw [q2, q2, q2, q2]
      exact hx x (by omega)
set_option maxRecDepth 20000 in
theorem s_copyFrom_7_1 (M : hd_M) (N : hd_N) (d : dy_T) (hd : hm M 1 d) (hn : d.1 ≤ 7) : hd_Ret mX0_copyFrom [.ref 7, .ref 1] M N (fun r M1 N1 => r = none ∧ N1 = N ∧ fr (fun c _ => 7 ≤ c ∧ c ≤ 11) M M1 ∧ hm M1 7 d) := by
  change hd_Go mX0_copyFrom 0 [some (.ref 7), some (.ref 1), none] [] M N _
  refine hd_go kX0_copyFrom 999 (fun _ => rfl) rfl trivial ?_
  refine hd_ca kX0_copyFrom qX0_copyFrom (fun _ => rfl) (s_copyDay_7_1 _ N) ?_
  rintro r M1 N1 ⟨rfl, rfl, g6, g7, g8, g9, hf1⟩
  refine hd_go kX0_copyFrom 15 (fun _ => rfl) rfl trivial ?_
  obtain ⟨a5, a6, a7, a8, a9, -⟩ := id hd
  refine s_copyFrom_l_7_1 M N1 d hd hn d.1 0 M1 (by omega) ((fr.rf.up (by simp)).tr (hf1.mo (fun c j h => by have h : c = 7 ∧ 6 ≤ j := h; show 7 ≤ c ∧ c ≤ 11; omega))) ?_ ?_ ?_ ?_ ?_ (fun x h => absurd h (Nat.not_lt_zero x))
  · rw [hf1 7 5 (by simp), hd_u_s]; exact a5
  · rw [g6, hd_u_n (by omega)]; exact a6
  · rw [g7, hd_u_n (by omega)]; exact a7
  · rw [g8, hd_u_n (by omega)]; exact a8
  · rw [g9, hd_u_n (by omega)]; exact a9
set_option maxRecDepth 20000 in
theorem s_copyDay_1_7 (M : hd_M) (N : hd_N) : hd_Ret mX0_copyDayOf [.ref 1, .ref 7] M N (fun r M1 N1 => r = none ∧ N1 = N ∧ M1 1 6 = M 7 6 ∧ M1 1 7 = M 7 7 ∧ M1 1 8 = M 7 8 ∧ M1 1 9 = M 7 9 ∧ fr (fun c j => c = 1 ∧ 6 ≤ j) M M1) := by
  change hd_Go mX0_copyDayOf 0 [some (.ref 1), some (.ref 7)] [] M N _
  refine hd_go kX0_copyDayOf 999 (fun _ => rfl) rfl trivial ?_
  refine hd_en_ kX0_copyDayOf (fun _ => rfl) trivial ⟨rfl, rfl, ?_, ?_, ?_, ?_, (((fr.rf.up (by simp)).up (by simp)).up (by simp)).up (by simp)⟩
  · simp [hd_u]
  · simp [hd_u]
  · simp [hd_u]
  · simp [hd_u]
set_option maxRecDepth 20000 in
theorem s_copyThing_1_7 (M : hd_M) (N : hd_N) (t i : Nat) (ht : t < 7) (hi : i < 7) : hd_Ret mX0_copyThing [.ref 1, .int (nI t), .ref 7, .int (nI i)] M N (fun r M1 N1 => r = none ∧ N1 = N ∧ M1 2 t = M 8 i ∧ M1 3 t = M 9 i ∧ M1 4 t = M 10 i ∧ M1 5 t = M 11 i ∧ fr (fun c j => 2 ≤ c ∧ c ≤ 5 ∧ j = t) M M1) := by
  change hd_Go mX0_copyThing 0 [some (.ref 1), some (.int (nI t)), some (.ref 7), some (.int (nI i))] [] M N _
  have ei : (nI i).toNatClampNeg = i := nI_clamp (by omega)
  have et : (nI t).toNatClampNeg = t := nI_clamp (by omega)
  have hv : vp_in (nI i) 7 := vp_in_nI hi (by decide)
  have hw : vp_in (nI t) 7 := vp_in_nI ht (by decide)
  refine hd_go kX0_copyThing 999 (fun _ => rfl) rfl ⟨⟨⟨⟨⟨⟨⟨⟨trivial, hv⟩, hw⟩, hv⟩, hw⟩, hv⟩, hw⟩, hv⟩, hw⟩ ?_
  rw [ei, et]
  refine hd_en_ kX0_copyThing (fun _ => rfl) trivial ⟨rfl, rfl, ?_, ?_, ?_, ?_, (((fr.rf.up (by simp)).up (by simp)).up (by simp)).up (by simp)⟩
  · simp [hd_u]
  · simp [hd_u]
  · simp [hd_u]
  · simp [hd_u]
set_option maxRecDepth 20000 in
theorem s_copyFrom_l_1_7 (M : hd_M) (N : hd_N) (d : dy_T) (hd : hm M 7 d) (hn : d.1 ≤ 7) : ∀ (m j : Nat) (M' : hd_M), j + m = d.1 → fr (fun c _ => 1 ≤ c ∧ c ≤ 5) M M' → M' 1 5 = nI d.1 → M' 1 6 = nI d.2.1 → M' 1 7 = d.2.2.1 → M' 1 8 = d.2.2.2.1 → M' 1 9 = d.2.2.2.2.1 → (∀ x, x < j → M' 2 x = d.2.2.2.2.2 0 x ∧ M' 3 x = d.2.2.2.2.2 1 x ∧ M' 4 x = d.2.2.2.2.2 2 x ∧ M' 5 x = d.2.2.2.2.2 3 x) → hd_Go mX0_copyFrom 15 [some (.ref 1), some (.ref 7), some (.int (nI j))] [] M' N (fun r M1 N1 => r = none ∧ N1 = N ∧ fr (fun c _ => 1 ≤ c ∧ c ≤ 5) M M1 ∧ hm M1 1 d) := by
  intro m
  induction m with
  | zero =>
    intro j M' hj hf e5 e6 e7 e8 e9 hx
    refine hd_go kX0_copyFrom 999 (fun _ => rfl) rfl trivial ?_
    rw [e5]
    refine hd_ju kX0_copyFrom (fun _ => rfl) (fun c => ?_) (fun c => ?_)
    · refine hd_en_ kX0_copyFrom (fun _ => rfl) trivial ⟨rfl, rfl, hf, e5, e6, e7, e8, e9, ?_, ?_, ?_, ?_⟩
      · exact fun i hi => (hx i (by omega)).1
      · exact fun i hi => (hx i (by omega)).2.1
      · exact fun i hi => (hx i (by omega)).2.2.1
      · exact fun i hi => (hx i (by omega)).2.2.2
    · exact absurd (nI_le (by omega) (by omega)) c
  | succ m ih =>
    intro j M' hj hf e5 e6 e7 e8 e9 hx
    refine hd_go kX0_copyFrom 999 (fun _ => rfl) rfl trivial ?_
    rw [e5]
    refine hd_ju kX0_copyFrom (fun _ => rfl) (fun c => ?_) (fun c => ?_)
    · exact absurd c (nI_ge (by omega) (by omega))
    refine hd_go kX0_copyFrom 999 (fun _ => rfl) rfl trivial ?_
    refine hd_ca kX0_copyFrom qX0_copyFrom (fun _ => rfl) (s_copyThing_1_7 M' N j j (by omega) (by omega)) ?_
    rintro r M1 N1 ⟨rfl, rfl, g1, g2, g3, g4, hf1⟩
    refine hd_go kX0_copyFrom 999 (fun _ => rfl) rfl trivial ?_
    rw [nI_1]
    have q : ∀ x, M1 1 x = M' 1 x := fun x => hf1 1 x (by simp)
    refine ih (j + 1) M1 (by omega) (hf.tr (hf1.mo (fun c x h => by have h : 2 ≤ c ∧ c ≤ 5 ∧ x = j := h; show 1 ≤ c ∧ c ≤ 5; omega))) (by rw [q]; exact e5) (by rw [q]; exact e6) (by rw [q]; exact e7) (by rw [q]; exact e8) (by rw [q]; exact e9) (fun x h => ?_)
    by_cases e : x = j
    · subst e
      rw [g1, g2, g3, g4, hf 8 x (by simp), hf 9 x (by simp), hf 10 x (by simp), hf 11 x (by simp)]
      exact ⟨hd.2.2.2.2.2.1 x (by omega), hd.2.2.2.2.2.2.1 x (by omega), hd.2.2.2.2.2.2.2.1 x (by omega), hd.2.2.2.2.2.2.2.2 x (by omega)⟩
    · have q2 : ∀ c, M1 c x = M' c x := fun c => hf1 c x (fun z => e z.2.2)
      rw [q2, q2, q2, q2]
      exact hx x (by omega)
set_option maxRecDepth 20000 in
theorem s_copyFrom_1_7 (M : hd_M) (N : hd_N) (d : dy_T) (hd : hm M 7 d) (hn : d.1 ≤ 7) : hd_Ret mX0_copyFrom [.ref 1, .ref 7] M N (fun r M1 N1 => r = none ∧ N1 = N ∧ fr (fun c _ => 1 ≤ c ∧ c ≤ 5) M M1 ∧ hm M1 1 d) := by
  change hd_Go mX0_copyFrom 0 [some (.ref 1), some (.ref 7), none] [] M N _
  refine hd_go kX0_copyFrom 999 (fun _ => rfl) rfl trivial ?_
  refine hd_ca kX0_copyFrom qX0_copyFrom (fun _ => rfl) (s_copyDay_1_7 _ N) ?_
  rintro r M1 N1 ⟨rfl, rfl, g6, g7, g8, g9, hf1⟩
  refine hd_go kX0_copyFrom 15 (fun _ => rfl) rfl trivial ?_
  obtain ⟨a5, a6, a7, a8, a9, -⟩ := id hd
  refine s_copyFrom_l_1_7 M N1 d hd hn d.1 0 M1 (by omega) ((fr.rf.up (by simp)).tr (hf1.mo (fun c j h => by have h : c = 1 ∧ 6 ≤ j := h; show 1 ≤ c ∧ c ≤ 5; omega))) ?_ ?_ ?_ ?_ ?_ (fun x h => absurd h (Nat.not_lt_zero x))
  · rw [hf1 1 5 (by simp), hd_u_s]; exact a5
  · rw [g6, hd_u_n (by omega)]; exact a6
  · rw [g7, hd_u_n (by omega)]; exact a7
  · rw [g8, hd_u_n (by omega)]; exact a8
  · rw [g9, hd_u_n (by omega)]; exact a9
set_option maxRecDepth 20000 in
theorem s_copyDay_20_1 (M : hd_M) (N : hd_N) : hd_Ret mX0_copyDayOf [.ref 20, .ref 1] M N (fun r M1 N1 => r = none ∧ N1 = N ∧ M1 20 6 = M 1 6 ∧ M1 20 7 = M 1 7 ∧ M1 20 8 = M 1 8 ∧ M1 20 9 = M 1 9 ∧ fr (fun c j => c = 20 ∧ 6 ≤ j) M M1) := by
  change hd_Go mX0_copyDayOf 0 [some (.ref 20), some (.ref 1)] [] M N _
  refine hd_go kX0_copyDayOf 999 (fun _ => rfl) rfl trivial ?_
  refine hd_en_ kX0_copyDayOf (fun _ => rfl) trivial ⟨rfl, rfl, ?_, ?_, ?_, ?_, (((fr.rf.up (by simp)).up (by simp)).up (by simp)).up (by simp)⟩
  · simp [hd_u]
  · simp [hd_u]
  · simp [hd_u]
  · simp [hd_u]
set_option maxRecDepth 20000 in
theorem s_copyThing_20_1 (M : hd_M) (N : hd_N) (t i : Nat) (ht : t < 7) (hi : i < 7) : hd_Ret mX0_copyThing [.ref 20, .int (nI t), .ref 1, .int (nI i)] M N (fun r M1 N1 => r = none ∧ N1 = N ∧ M1 21 t = M 2 i ∧ M1 22 t = M 3 i ∧ M1 23 t = M 4 i ∧ M1 24 t = M 5 i ∧ fr (fun c j => 21 ≤ c ∧ c ≤ 24 ∧ j = t) M M1) := by
  change hd_Go mX0_copyThing 0 [some (.ref 20), some (.int (nI t)), some (.ref 1), some (.int (nI i))] [] M N _
  have ei : (nI i).toNatClampNeg = i := nI_clamp (by omega)
  have et : (nI t).toNatClampNeg = t := nI_clamp (by omega)
  have hv : vp_in (nI i) 7 := vp_in_nI hi (by decide)
  have hw : vp_in (nI t) 7 := vp_in_nI ht (by decide)
  refine hd_go kX0_copyThing 999 (fun _ => rfl) rfl ⟨⟨⟨⟨⟨⟨⟨⟨trivial, hv⟩, hw⟩, hv⟩, hw⟩, hv⟩, hw⟩, hv⟩, hw⟩ ?_
  rw [ei, et]
  refine hd_en_ kX0_copyThing (fun _ => rfl) trivial ⟨rfl, rfl, ?_, ?_, ?_, ?_, (((fr.rf.up (by simp)).up (by simp)).up (by simp)).up (by simp)⟩
  · simp [hd_u]
  · simp [hd_u]
  · simp [hd_u]
  · simp [hd_u]
set_option maxRecDepth 20000 in
theorem s_copyFrom_l_20_1 (M : hd_M) (N : hd_N) (d : dy_T) (hd : hm M 1 d) (hn : d.1 ≤ 7) : ∀ (m j : Nat) (M' : hd_M), j + m = d.1 → fr (fun c _ => 20 ≤ c ∧ c ≤ 24) M M' → M' 20 5 = nI d.1 → M' 20 6 = nI d.2.1 → M' 20 7 = d.2.2.1 → M' 20 8 = d.2.2.2.1 → M' 20 9 = d.2.2.2.2.1 → (∀ x, x < j → M' 21 x = d.2.2.2.2.2 0 x ∧ M' 22 x = d.2.2.2.2.2 1 x ∧ M' 23 x = d.2.2.2.2.2 2 x ∧ M' 24 x = d.2.2.2.2.2 3 x) → hd_Go mX0_copyFrom 15 [some (.ref 20), some (.ref 1), some (.int (nI j))] [] M' N (fun r M1 N1 => r = none ∧ N1 = N ∧ fr (fun c _ => 20 ≤ c ∧ c ≤ 24) M M1 ∧ hm M1 20 d) := by
  intro m
  induction m with
  | zero =>
    intro j M' hj hf e5 e6 e7 e8 e9 hx
    refine hd_go kX0_copyFrom 999 (fun _ => rfl) rfl trivial ?_
    rw [e5]
    refine hd_ju kX0_copyFrom (fun _ => rfl) (fun c => ?_) (fun c => ?_)
    · refine hd_en_ kX0_copyFrom (fun _ => rfl) trivial ⟨rfl, rfl, hf, e5, e6, e7, e8, e9, ?_, ?_, ?_, ?_⟩
      · exact fun i hi => (hx i (by omega)).1
      · exact fun i hi => (hx i (by omega)).2.1
      · exact fun i hi => (hx i (by omega)).2.2.1
      · exact fun i hi => (hx i (by omega)).2.2.2
    · exact absurd (nI_le (by omega) (by omega)) c
  | succ m ih =>
    intro j M' hj hf e5 e6 e7 e8 e9 hx
    refine hd_go kX0_copyFrom 999 (fun _ => rfl) rfl trivial ?_
    rw [e5]
    refine hd_ju kX0_copyFrom (fun _ => rfl) (fun c => ?_) (fun c => ?_)
    · exact absurd c (nI_ge (by omega) (by omega))
    refine hd_go kX0_copyFrom 999 (fun _ => rfl) rfl trivial ?_
    refine hd_ca kX0_copyFrom qX0_copyFrom (fun _ => rfl) (s_copyThing_20_1 M' N j j (by omega) (by omega)) ?_
    rintro r M1 N1 ⟨rfl, rfl, g1, g2, g3, g4, hf1⟩
    refine hd_go kX0_copyFrom 999 (fun _ => rfl) rfl trivial ?_
    rw [nI_1]
    have q : ∀ x, M1 20 x = M' 20 x := fun x => hf1 20 x (by simp)
    refine ih (j + 1) M1 (by omega) (hf.tr (hf1.mo (fun c x h => by have h : 21 ≤ c ∧ c ≤ 24 ∧ x = j := h; show 20 ≤ c ∧ c ≤ 24; omega))) (by rw [q]; exact e5) (by rw [q]; exact e6) (by rw [q]; exact e7) (by rw [q]; exact e8) (by rw [q]; exact e9) (fun x h => ?_)
    by_cases e : x = j
    · subst e
      rw [g1, g2, g3, g4, hf 2 x (by simp), hf 3 x (by simp), hf 4 x (by simp), hf 5 x (by simp)]
      exact ⟨hd.2.2.2.2.2.1 x (by omega), hd.2.2.2.2.2.2.1 x (by omega), hd.2.2.2.2.2.2.2.1 x (by omega), hd.2.2.2.2.2.2.2.2 x (by omega)⟩
    · have q2 : ∀ c, M1 c x = M' c x := fun c => hf1 c x (fun z => e z.2.2)
      rw [q2, q2, q2, q2]
      exact hx x (by omega)
set_option maxRecDepth 20000 in
theorem s_copyFrom_20_1 (M : hd_M) (N : hd_N) (d : dy_T) (hd : hm M 1 d) (hn : d.1 ≤ 7) : hd_Ret mX0_copyFrom [.ref 20, .ref 1] M N (fun r M1 N1 => r = none ∧ N1 = N ∧ fr (fun c _ => 20 ≤ c ∧ c ≤ 24) M M1 ∧ hm M1 20 d) := by
  change hd_Go mX0_copyFrom 0 [some (.ref 20), some (.ref 1), none] [] M N _
  refine hd_go kX0_copyFrom 999 (fun _ => rfl) rfl trivial ?_
  refine hd_ca kX0_copyFrom qX0_copyFrom (fun _ => rfl) (s_copyDay_20_1 _ N) ?_
  rintro r M1 N1 ⟨rfl, rfl, g6, g7, g8, g9, hf1⟩
  refine hd_go kX0_copyFrom 15 (fun _ => rfl) rfl trivial ?_
  obtain ⟨a5, a6, a7, a8, a9, -⟩ := id hd
  refine s_copyFrom_l_20_1 M N1 d hd hn d.1 0 M1 (by omega) ((fr.rf.up (by simp)).tr (hf1.mo (fun c j h => by have h : c = 20 ∧ 6 ≤ j := h; show 20 ≤ c ∧ c ≤ 24; omega))) ?_ ?_ ?_ ?_ ?_ (fun x h => absurd h (Nat.not_lt_zero x))
  · rw [hf1 20 5 (by simp), hd_u_s]; exact a5
  · rw [g6, hd_u_n (by omega)]; exact a6
  · rw [g7, hd_u_n (by omega)]; exact a7
  · rw [g8, hd_u_n (by omega)]; exact a8
  · rw [g9, hd_u_n (by omega)]; exact a9
set_option maxRecDepth 20000 in
theorem s_copyDay_30_1 (M : hd_M) (N : hd_N) : hd_Ret mX0_copyDayOf [.ref 30, .ref 1] M N (fun r M1 N1 => r = none ∧ N1 = N ∧ M1 30 6 = M 1 6 ∧ M1 30 7 = M 1 7 ∧ M1 30 8 = M 1 8 ∧ M1 30 9 = M 1 9 ∧ fr (fun c j => c = 30 ∧ 6 ≤ j) M M1) := by
  change hd_Go mX0_copyDayOf 0 [some (.ref 30), some (.ref 1)] [] M N _
  refine hd_go kX0_copyDayOf 999 (fun _ => rfl) rfl trivial ?_
  refine hd_en_ kX0_copyDayOf (fun _ => rfl) trivial ⟨rfl, rfl, ?_, ?_, ?_, ?_, (((fr.rf.up (by simp)).up (by simp)).up (by simp)).up (by simp)⟩
  · simp [hd_u]
  · simp [hd_u]
  · simp [hd_u]
  · simp [hd_u]
set_option maxRecDepth 20000 in
theorem s_copyThing_30_1 (M : hd_M) (N : hd_N) (t i : Nat) (ht : t < 7) (hi : i < 7) : hd_Ret mX0_copyThing [.ref 30, .int (nI t), .ref 1, .int (nI i)] M N (fun r M1 N1 => r = none ∧ N1 = N ∧ M1 31 t = M 2 i ∧ M1 32 t = M 3 i ∧ M1 33 t = M 4 i ∧ M1 34 t = M 5 i ∧ fr (fun c j => 31 ≤ c ∧ c ≤ 34 ∧ j = t) M M1) := by
  change hd_Go mX0_copyThing 0 [some (.ref 30), some (.int (nI t)), some (.ref 1), some (.int (nI i))] [] M N _
  have ei : (nI i).toNatClampNeg = i := nI_clamp (by omega)
  have et : (nI t).toNatClampNeg = t := nI_clamp (by omega)
  have hv : vp_in (nI i) 7 := vp_in_nI hi (by decide)
  have hw : vp_in (nI t) 7 := vp_in_nI ht (by decide)
  refine hd_go kX0_copyThing 999 (fun _ => rfl) rfl ⟨⟨⟨⟨⟨⟨⟨⟨trivial, hv⟩, hw⟩, hv⟩, hw⟩, hv⟩, hw⟩, hv⟩, hw⟩ ?_
  rw [ei, et]
  refine hd_en_ kX0_copyThing (fun _ => rfl) trivial ⟨rfl, rfl, ?_, ?_, ?_, ?_, (((fr.rf.up (by simp)).up (by simp)).up (by simp)).up (by simp)⟩
  · simp [hd_u]
  · simp [hd_u]
  · simp [hd_u]
  · simp [hd_u]
set_option maxRecDepth 20000 in
theorem s_copyFrom_l_30_1 (M : hd_M) (N : hd_N) (d : dy_T) (hd : hm M 1 d) (hn : d.1 ≤ 7) : ∀ (m j : Nat) (M' : hd_M), j + m = d.1 → fr (fun c _ => 30 ≤ c ∧ c ≤ 34) M M' → M' 30 5 = nI d.1 → M' 30 6 = nI d.2.1 → M' 30 7 = d.2.2.1 → M' 30 8 = d.2.2.2.1 → M' 30 9 = d.2.2.2.2.1 → (∀ x, x < j → M' 31 x = d.2.2.2.2.2 0 x ∧ M' 32 x = d.2.2.2.2.2 1 x ∧ M' 33 x = d.2.2.2.2.2 2 x ∧ M' 34 x = d.2.2.2.2.2 3 x) → hd_Go mX0_copyFrom 15 [some (.ref 30), some (.ref 1), some (.int (nI j))] [] M' N (fun r M1 N1 => r = none ∧ N1 = N ∧ fr (fun c _ => 30 ≤ c ∧ c ≤ 34) M M1 ∧ hm M1 30 d) := by
  intro m
  induction m with
  | zero =>
    intro j M' hj hf e5 e6 e7 e8 e9 hx
    refine hd_go kX0_copyFrom 999 (fun _ => rfl) rfl trivial ?_
    rw [e5]
    refine hd_ju kX0_copyFrom (fun _ => rfl) (fun c => ?_) (fun c => ?_)
    · refine hd_en_ kX0_copyFrom (fun _ => rfl) trivial ⟨rfl, rfl, hf, e5, e6, e7, e8, e9, ?_, ?_, ?_, ?_⟩
      · exact fun i hi => (hx i (by omega)).1
      · exact fun i hi => (hx i (by omega)).2.1
      · exact fun i hi => (hx i (by omega)).2.2.1
      · exact fun i hi => (hx i (by omega)).2.2.2
    · exact absurd (nI_le (by omega) (by omega)) c
  | succ m ih =>
    intro j M' hj hf e5 e6 e7 e8 e9 hx
    refine hd_go kX0_copyFrom 999 (fun _ => rfl) rfl trivial ?_
    rw [e5]
    refine hd_ju kX0_copyFrom (fun _ => rfl) (fun c => ?_) (fun c => ?_)
    · exact absurd c (nI_ge (by omega) (by omega))
    refine hd_go kX0_copyFrom 999 (fun _ => rfl) rfl trivial ?_
    refine hd_ca kX0_copyFrom qX0_copyFrom (fun _ => rfl) (s_copyThing_30_1 M' N j j (by omega) (by omega)) ?_
    rintro r M1 N1 ⟨rfl, rfl, g1, g2, g3, g4, hf1⟩
    refine hd_go kX0_copyFrom 999 (fun _ => rfl) rfl trivial ?_
    rw [nI_1]
    have q : ∀ x, M1 30 x = M' 30 x := fun x => hf1 30 x (by simp)
    refine ih (j + 1) M1 (by omega) (hf.tr (hf1.mo (fun c x h => by have h : 31 ≤ c ∧ c ≤ 34 ∧ x = j := h; show 30 ≤ c ∧ c ≤ 34; omega))) (by rw [q]; exact e5) (by rw [q]; exact e6) (by rw [q]; exact e7) (by rw [q]; exact e8) (by rw [q]; exact e9) (fun x h => ?_)
    by_cases e : x = j
    · subst e
      rw [g1, g2, g3, g4, hf 2 x (by simp), hf 3 x (by simp), hf 4 x (by simp), hf 5 x (by simp)]
      exact ⟨hd.2.2.2.2.2.1 x (by omega), hd.2.2.2.2.2.2.1 x (by omega), hd.2.2.2.2.2.2.2.1 x (by omega), hd.2.2.2.2.2.2.2.2 x (by omega)⟩
    · have q2 : ∀ c, M1 c x = M' c x := fun c => hf1 c x (fun z => e z.2.2)
      rw [q2, q2, q2, q2]
      exact hx x (by omega)
set_option maxRecDepth 20000 in
theorem s_copyFrom_30_1 (M : hd_M) (N : hd_N) (d : dy_T) (hd : hm M 1 d) (hn : d.1 ≤ 7) : hd_Ret mX0_copyFrom [.ref 30, .ref 1] M N (fun r M1 N1 => r = none ∧ N1 = N ∧ fr (fun c _ => 30 ≤ c ∧ c ≤ 34) M M1 ∧ hm M1 30 d) := by
  change hd_Go mX0_copyFrom 0 [some (.ref 30), some (.ref 1), none] [] M N _
  refine hd_go kX0_copyFrom 999 (fun _ => rfl) rfl trivial ?_
  refine hd_ca kX0_copyFrom qX0_copyFrom (fun _ => rfl) (s_copyDay_30_1 _ N) ?_
  rintro r M1 N1 ⟨rfl, rfl, g6, g7, g8, g9, hf1⟩
  refine hd_go kX0_copyFrom 15 (fun _ => rfl) rfl trivial ?_
  obtain ⟨a5, a6, a7, a8, a9, -⟩ := id hd
  refine s_copyFrom_l_30_1 M N1 d hd hn d.1 0 M1 (by omega) ((fr.rf.up (by simp)).tr (hf1.mo (fun c j h => by have h : c = 30 ∧ 6 ≤ j := h; show 30 ≤ c ∧ c ≤ 34; omega))) ?_ ?_ ?_ ?_ ?_ (fun x h => absurd h (Nat.not_lt_zero x))
  · rw [hf1 30 5 (by simp), hd_u_s]; exact a5
  · rw [g6, hd_u_n (by omega)]; exact a6
  · rw [g7, hd_u_n (by omega)]; exact a7
  · rw [g8, hd_u_n (by omega)]; exact a8
  · rw [g9, hd_u_n (by omega)]; exact a9
set_option maxRecDepth 20000 in
theorem s_copyDay_1_20 (M : hd_M) (N : hd_N) : hd_Ret mX0_copyDayOf [.ref 1, .ref 20] M N (fun r M1 N1 => r = none ∧ N1 = N ∧ M1 1 6 = M 20 6 ∧ M1 1 7 = M 20 7 ∧ M1 1 8 = M 20 8 ∧ M1 1 9 = M 20 9 ∧ fr (fun c j => c = 1 ∧ 6 ≤ j) M M1) := by
  change hd_Go mX0_copyDayOf 0 [some (.ref 1), some (.ref 20)] [] M N _
  refine hd_go kX0_copyDayOf 999 (fun _ => rfl) rfl trivial ?_
  refine hd_en_ kX0_copyDayOf (fun _ => rfl) trivial ⟨rfl, rfl, ?_, ?_, ?_, ?_, (((fr.rf.up (by simp)).up (by simp)).up (by simp)).up (by simp)⟩
  · simp [hd_u]
  · simp [hd_u]
  · simp [hd_u]
  · simp [hd_u]
set_option maxRecDepth 20000 in
theorem s_copyThing_1_20 (M : hd_M) (N : hd_N) (t i : Nat) (ht : t < 7) (hi : i < 7) : hd_Ret mX0_copyThing [.ref 1, .int (nI t), .ref 20, .int (nI i)] M N (fun r M1 N1 => r = none ∧ N1 = N ∧ M1 2 t = M 21 i ∧ M1 3 t = M 22 i ∧ M1 4 t = M 23 i ∧ M1 5 t = M 24 i ∧ fr (fun c j => 2 ≤ c ∧ c ≤ 5 ∧ j = t) M M1) := by
  change hd_Go mX0_copyThing 0 [some (.ref 1), some (.int (nI t)), some (.ref 20), some (.int (nI i))] [] M N _
  have ei : (nI i).toNatClampNeg = i := nI_clamp (by omega)
  have et : (nI t).toNatClampNeg = t := nI_clamp (by omega)
  have hv : vp_in (nI i) 7 := vp_in_nI hi (by decide)
  have hw : vp_in (nI t) 7 := vp_in_nI ht (by decide)
  refine hd_go kX0_copyThing 999 (fun _ => rfl) rfl ⟨⟨⟨⟨⟨⟨⟨⟨trivial, hv⟩, hw⟩, hv⟩, hw⟩, hv⟩, hw⟩, hv⟩, hw⟩ ?_
  rw [ei, et]
  refine hd_en_ kX0_copyThing (fun _ => rfl) trivial ⟨rfl, rfl, ?_, ?_, ?_, ?_, (((fr.rf.up (by simp)).up (by simp)).up (by simp)).up (by simp)⟩
  · simp [hd_u]
  · simp [hd_u]
  · simp [hd_u]
  · simp [hd_u]
set_option maxRecDepth 20000 in
theorem s_copyFrom_l_1_20 (M : hd_M) (N : hd_N) (d : dy_T) (hd : hm M 20 d) (hn : d.1 ≤ 7) : ∀ (m j : Nat) (M' : hd_M), j + m = d.1 → fr (fun c _ => 1 ≤ c ∧ c ≤ 5) M M' → M' 1 5 = nI d.1 → M' 1 6 = nI d.2.1 → M' 1 7 = d.2.2.1 → M' 1 8 = d.2.2.2.1 → M' 1 9 = d.2.2.2.2.1 → (∀ x, x < j → M' 2 x = d.2.2.2.2.2 0 x ∧ M' 3 x = d.2.2.2.2.2 1 x ∧ M' 4 x = d.2.2.2.2.2 2 x ∧ M' 5 x = d.2.2.2.2.2 3 x) → hd_Go mX0_copyFrom 15 [some (.ref 1), some (.ref 20), some (.int (nI j))] [] M' N (fun r M1 N1 => r = none ∧ N1 = N ∧ fr (fun c _ => 1 ≤ c ∧ c ≤ 5) M M1 ∧ hm M1 1 d) := by
  intro m
  induction m with
  | zero =>
    intro j M' hj hf e5 e6 e7 e8 e9 hx
    refine hd_go kX0_copyFrom 999 (fun _ => rfl) rfl trivial ?_
    rw [e5]
    refine hd_ju kX0_copyFrom (fun _ => rfl) (fun c => ?_) (fun c => ?_)
    · refine hd_en_ kX0_copyFrom (fun _ => rfl) trivial ⟨rfl, rfl, hf, e5, e6, e7, e8, e9, ?_, ?_, ?_, ?_⟩
      · exact fun i hi => (hx i (by omega)).1
      · exact fun i hi => (hx i (by omega)).2.1
      · exact fun i hi => (hx i (by omega)).2.2.1
      · exact fun i hi => (hx i (by omega)).2.2.2
    · exact absurd (nI_le (by omega) (by omega)) c
  | succ m ih =>
    intro j M' hj hf e5 e6 e7 e8 e9 hx
    refine hd_go kX0_copyFrom 999 (fun _ => rfl) rfl trivial ?_
    rw [e5]
    refine hd_ju kX0_copyFrom (fun _ => rfl) (fun c => ?_) (fun c => ?_)
    · exact absurd c (nI_ge (by omega) (by omega))
    refine hd_go kX0_copyFrom 999 (fun _ => rfl) rfl trivial ?_
    refine hd_ca kX0_copyFrom qX0_copyFrom (fun _ => rfl) (s_copyThing_1_20 M' N j j (by omega) (by omega)) ?_
    rintro r M1 N1 ⟨rfl, rfl, g1, g2, g3, g4, hf1⟩
    refine hd_go kX0_copyFrom 999 (fun _ => rfl) rfl trivial ?_
    rw [nI_1]
    have q : ∀ x, M1 1 x = M' 1 x := fun x => hf1 1 x (by simp)
    refine ih (j + 1) M1 (by omega) (hf.tr (hf1.mo (fun c x h => by have h : 2 ≤ c ∧ c ≤ 5 ∧ x = j := h; show 1 ≤ c ∧ c ≤ 5; omega))) (by rw [q]; exact e5) (by rw [q]; exact e6) (by rw [q]; exact e7) (by rw [q]; exact e8) (by rw [q]; exact e9) (fun x h => ?_)
    by_cases e : x = j
    · subst e
      rw [g1, g2, g3, g4, hf 21 x (by simp), hf 22 x (by simp), hf 23 x (by simp), hf 24 x (by simp)]
      exact ⟨hd.2.2.2.2.2.1 x (by omega), hd.2.2.2.2.2.2.1 x (by omega), hd.2.2.2.2.2.2.2.1 x (by omega), hd.2.2.2.2.2.2.2.2 x (by omega)⟩
    · have q2 : ∀ c, M1 c x = M' c x := fun c => hf1 c x (fun z => e z.2.2)
      rw [q2, q2, q2, q2]
      exact hx x (by omega)
set_option maxRecDepth 20000 in
theorem s_copyFrom_1_20 (M : hd_M) (N : hd_N) (d : dy_T) (hd : hm M 20 d) (hn : d.1 ≤ 7) : hd_Ret mX0_copyFrom [.ref 1, .ref 20] M N (fun r M1 N1 => r = none ∧ N1 = N ∧ fr (fun c _ => 1 ≤ c ∧ c ≤ 5) M M1 ∧ hm M1 1 d) := by
  change hd_Go mX0_copyFrom 0 [some (.ref 1), some (.ref 20), none] [] M N _
  refine hd_go kX0_copyFrom 999 (fun _ => rfl) rfl trivial ?_
  refine hd_ca kX0_copyFrom qX0_copyFrom (fun _ => rfl) (s_copyDay_1_20 _ N) ?_
  rintro r M1 N1 ⟨rfl, rfl, g6, g7, g8, g9, hf1⟩
  refine hd_go kX0_copyFrom 15 (fun _ => rfl) rfl trivial ?_
  obtain ⟨a5, a6, a7, a8, a9, -⟩ := id hd
  refine s_copyFrom_l_1_20 M N1 d hd hn d.1 0 M1 (by omega) ((fr.rf.up (by simp)).tr (hf1.mo (fun c j h => by have h : c = 1 ∧ 6 ≤ j := h; show 1 ≤ c ∧ c ≤ 5; omega))) ?_ ?_ ?_ ?_ ?_ (fun x h => absurd h (Nat.not_lt_zero x))
  · rw [hf1 1 5 (by simp), hd_u_s]; exact a5
  · rw [g6, hd_u_n (by omega)]; exact a6
  · rw [g7, hd_u_n (by omega)]; exact a7
  · rw [g8, hd_u_n (by omega)]; exact a8
  · rw [g9, hd_u_n (by omega)]; exact a9
set_option maxRecDepth 20000 in
theorem s_copyDay_1_30 (M : hd_M) (N : hd_N) : hd_Ret mX0_copyDayOf [.ref 1, .ref 30] M N (fun r M1 N1 => r = none ∧ N1 = N ∧ M1 1 6 = M 30 6 ∧ M1 1 7 = M 30 7 ∧ M1 1 8 = M 30 8 ∧ M1 1 9 = M 30 9 ∧ fr (fun c j => c = 1 ∧ 6 ≤ j) M M1) := by
  change hd_Go mX0_copyDayOf 0 [some (.ref 1), some (.ref 30)] [] M N _
  refine hd_go kX0_copyDayOf 999 (fun _ => rfl) rfl trivial ?_
  refine hd_en_ kX0_copyDayOf (fun _ => rfl) trivial ⟨rfl, rfl, ?_, ?_, ?_, ?_, (((fr.rf.up (by simp)).up (by simp)).up (by simp)).up (by simp)⟩
  · simp [hd_u]
  · simp [hd_u]
  · simp [hd_u]
  · simp [hd_u]
set_option maxRecDepth 20000 in
theorem s_copyThing_1_30 (M : hd_M) (N : hd_N) (t i : Nat) (ht : t < 7) (hi : i < 7) : hd_Ret mX0_copyThing [.ref 1, .int (nI t), .ref 30, .int (nI i)] M N (fun r M1 N1 => r = none ∧ N1 = N ∧ M1 2 t = M 31 i ∧ M1 3 t = M 32 i ∧ M1 4 t = M 33 i ∧ M1 5 t = M 34 i ∧ fr (fun c j => 2 ≤ c ∧ c ≤ 5 ∧ j = t) M M1) := by
  change hd_Go mX0_copyThing 0 [some (.ref 1), some (.int (nI t)), some (.ref 30), some (.int (nI i))] [] M N _
  have ei : (nI i).toNatClampNeg = i := nI_clamp (by omega)
  have et : (nI t).toNatClampNeg = t := nI_clamp (by omega)
  have hv : vp_in (nI i) 7 := vp_in_nI hi (by decide)
  have hw : vp_in (nI t) 7 := vp_in_nI ht (by decide)
  refine hd_go kX0_copyThing 999 (fun _ => rfl) rfl ⟨⟨⟨⟨⟨⟨⟨⟨trivial, hv⟩, hw⟩, hv⟩, hw⟩, hv⟩, hw⟩, hv⟩, hw⟩ ?_
  rw [ei, et]
  refine hd_en_ kX0_copyThing (fun _ => rfl) trivial ⟨rfl, rfl, ?_, ?_, ?_, ?_, (((fr.rf.up (by simp)).up (by simp)).up (by simp)).up (by simp)⟩
  · simp [hd_u]
  · simp [hd_u]
  · simp [hd_u]
  · simp [hd_u]
set_option maxRecDepth 20000 in
theorem s_copyFrom_l_1_30 (M : hd_M) (N : hd_N) (d : dy_T) (hd : hm M 30 d) (hn : d.1 ≤ 7) : ∀ (m j : Nat) (M' : hd_M), j + m = d.1 → fr (fun c _ => 1 ≤ c ∧ c ≤ 5) M M' → M' 1 5 = nI d.1 → M' 1 6 = nI d.2.1 → M' 1 7 = d.2.2.1 → M' 1 8 = d.2.2.2.1 → M' 1 9 = d.2.2.2.2.1 → (∀ x, x < j → M' 2 x = d.2.2.2.2.2 0 x ∧ M' 3 x = d.2.2.2.2.2 1 x ∧ M' 4 x = d.2.2.2.2.2 2 x ∧ M' 5 x = d.2.2.2.2.2 3 x) → hd_Go mX0_copyFrom 15 [some (.ref 1), some (.ref 30), some (.int (nI j))] [] M' N (fun r M1 N1 => r = none ∧ N1 = N ∧ fr (fun c _ => 1 ≤ c ∧ c ≤ 5) M M1 ∧ hm M1 1 d) := by
  intro m
  induction m with
  | zero =>
    intro j M' hj hf e5 e6 e7 e8 e9 hx
    refine hd_go kX0_copyFrom 999 (fun _ => rfl) rfl trivial ?_
    rw [e5]
    refine hd_ju kX0_copyFrom (fun _ => rfl) (fun c => ?_) (fun c => ?_)
    · refine hd_en_ kX0_copyFrom (fun _ => rfl) trivial ⟨rfl, rfl, hf, e5, e6, e7, e8, e9, ?_, ?_, ?_, ?_⟩
      · exact fun i hi => (hx i (by omega)).1
      · exact fun i hi => (hx i (by omega)).2.1
      · exact fun i hi => (hx i (by omega)).2.2.1
      · exact fun i hi => (hx i (by omega)).2.2.2
    · exact absurd (nI_le (by omega) (by omega)) c
  | succ m ih =>
    intro j M' hj hf e5 e6 e7 e8 e9 hx
    refine hd_go kX0_copyFrom 999 (fun _ => rfl) rfl trivial ?_
    rw [e5]
    refine hd_ju kX0_copyFrom (fun _ => rfl) (fun c => ?_) (fun c => ?_)
    · exact absurd c (nI_ge (by omega) (by omega))
    refine hd_go kX0_copyFrom 999 (fun _ => rfl) rfl trivial ?_
    refine hd_ca kX0_copyFrom qX0_copyFrom (fun _ => rfl) (s_copyThing_1_30 M' N j j (by omega) (by omega)) ?_
    rintro r M1 N1 ⟨rfl, rfl, g1, g2, g3, g4, hf1⟩
    refine hd_go kX0_copyFrom 999 (fun _ => rfl) rfl trivial ?_
    rw [nI_1]
    have q : ∀ x, M1 1 x = M' 1 x := fun x => hf1 1 x (by simp)
    refine ih (j + 1) M1 (by omega) (hf.tr (hf1.mo (fun c x h => by have h : 2 ≤ c ∧ c ≤ 5 ∧ x = j := h; show 1 ≤ c ∧ c ≤ 5; omega))) (by rw [q]; exact e5) (by rw [q]; exact e6) (by rw [q]; exact e7) (by rw [q]; exact e8) (by rw [q]; exact e9) (fun x h => ?_)
    by_cases e : x = j
    · subst e
      rw [g1, g2, g3, g4, hf 31 x (by simp), hf 32 x (by simp), hf 33 x (by simp), hf 34 x (by simp)]
      exact ⟨hd.2.2.2.2.2.1 x (by omega), hd.2.2.2.2.2.2.1 x (by omega), hd.2.2.2.2.2.2.2.1 x (by omega), hd.2.2.2.2.2.2.2.2 x (by omega)⟩
    · have q2 : ∀ c, M1 c x = M' c x := fun c => hf1 c x (fun z => e z.2.2)
      rw [q2, q2, q2, q2]
      exact hx x (by omega)
set_option maxRecDepth 20000 in
theorem s_copyFrom_1_30 (M : hd_M) (N : hd_N) (d : dy_T) (hd : hm M 30 d) (hn : d.1 ≤ 7) : hd_Ret mX0_copyFrom [.ref 1, .ref 30] M N (fun r M1 N1 => r = none ∧ N1 = N ∧ fr (fun c _ => 1 ≤ c ∧ c ≤ 5) M M1 ∧ hm M1 1 d) := by
  change hd_Go mX0_copyFrom 0 [some (.ref 1), some (.ref 30), none] [] M N _
  refine hd_go kX0_copyFrom 999 (fun _ => rfl) rfl trivial ?_
  refine hd_ca kX0_copyFrom qX0_copyFrom (fun _ => rfl) (s_copyDay_1_30 _ N) ?_
  rintro r M1 N1 ⟨rfl, rfl, g6, g7, g8, g9, hf1⟩
  refine hd_go kX0_copyFrom 15 (fun _ => rfl) rfl trivial ?_
  obtain ⟨a5, a6, a7, a8, a9, -⟩ := id hd
  refine s_copyFrom_l_1_30 M N1 d hd hn d.1 0 M1 (by omega) ((fr.rf.up (by simp)).tr (hf1.mo (fun c j h => by have h : c = 1 ∧ 6 ≤ j := h; show 1 ≤ c ∧ c ≤ 5; omega))) ?_ ?_ ?_ ?_ ?_ (fun x h => absurd h (Nat.not_lt_zero x))
  · rw [hf1 1 5 (by simp), hd_u_s]; exact a5
  · rw [g6, hd_u_n (by omega)]; exact a6
  · rw [g7, hd_u_n (by omega)]; exact a7
  · rw [g8, hd_u_n (by omega)]; exact a8
  · rw [g9, hd_u_n (by omega)]; exact a9
set_option maxRecDepth 20000 in
theorem s_copyOrd_l (M : hd_M) (N : hd_N) (d : dy_T) (hd : hm M 1 d) (hn : d.1 ≤ 5) (p : Nat → Nat) (hp : ∀ i, i < d.1 → M 48 i = nI (p i) ∧ p i < d.1) : ∀ (m j : Nat) (M' : hd_M), j + m = d.1 → fr (fun c _ => 7 ≤ c ∧ c ≤ 11) M M' → M' 7 5 = nI d.1 → M' 7 6 = nI d.2.1 → M' 7 7 = d.2.2.1 → M' 7 8 = d.2.2.2.1 → M' 7 9 = d.2.2.2.2.1 → (∀ x, x < j → M' 8 x = d.2.2.2.2.2 0 (p x) ∧ M' 9 x = d.2.2.2.2.2 1 (p x) ∧ M' 10 x = d.2.2.2.2.2 2 (p x) ∧ M' 11 x = d.2.2.2.2.2 3 (p x)) → hd_Go mX0_copyOrdered 15 [some (.ref 7), some (.ref 1), some (.ref 48), some (.int (nI j))] [] M' N (fun r M1 N1 => r = none ∧ N1 = N ∧ fr (fun c _ => 7 ≤ c ∧ c ≤ 11) M M1 ∧ hm M1 7 (dy_prm p d)) := by
  intro m
  induction m with
  | zero =>
    intro j M' hj hf e5 e6 e7 e8 e9 hx
    refine hd_go kX0_copyOrdered 999 (fun _ => rfl) rfl trivial ?_
    rw [e5]
    refine hd_ju kX0_copyOrdered (fun _ => rfl) (fun c => ?_) (fun c => ?_)
    · refine hd_en_ kX0_copyOrdered (fun _ => rfl) trivial ⟨rfl, rfl, hf, e5, e6, e7, e8, e9, ?_, ?_, ?_, ?_⟩
      · exact fun i hi => (hx i (Nat.lt_of_lt_of_le hi (by show d.1 ≤ j; omega))).1
      · exact fun i hi => (hx i (Nat.lt_of_lt_of_le hi (by show d.1 ≤ j; omega))).2.1
      · exact fun i hi => (hx i (Nat.lt_of_lt_of_le hi (by show d.1 ≤ j; omega))).2.2.1
      · exact fun i hi => (hx i (Nat.lt_of_lt_of_le hi (by show d.1 ≤ j; omega))).2.2.2
    · exact absurd (nI_le (by omega) (by omega)) c
  | succ m ih =>
    intro j M' hj hf e5 e6 e7 e8 e9 hx
    obtain ⟨p1, p2⟩ := hp j (by omega)
    refine hd_go kX0_copyOrdered 999 (fun _ => rfl) rfl trivial ?_
    rw [e5]
    refine hd_ju kX0_copyOrdered (fun _ => rfl) (fun c => ?_) (fun c => ?_)
    · exact absurd c (nI_ge (by omega) (by omega))
    refine hd_go kX0_copyOrdered 999 (fun _ => rfl) rfl ⟨trivial, by decide⟩ ?_
    refine hd_ju kX0_copyOrdered (fun _ => rfl) (fun c => ?_) (fun c => ?_)
    · exact absurd c (nI_ge (b := 5) (by omega) (by omega))
    refine hd_go kX0_copyOrdered 999 (fun _ => rfl) rfl ⟨trivial, vp_in_nI (by omega) (by decide)⟩ ?_
    rw [nI_clamp (by omega), hf 48 j (by simp), p1]
    refine hd_ca kX0_copyOrdered qX0_copyOrdered (fun _ => rfl) (s_copyThing_7_1 M' N j (p j) (by omega) (by omega)) ?_
    rintro r M1 N1 ⟨rfl, rfl, g1, g2, g3, g4, hf1⟩
    refine hd_go kX0_copyOrdered 999 (fun _ => rfl) rfl trivial ?_
    rw [nI_1]
    have q : ∀ x, M1 7 x = M' 7 x := fun x => hf1 7 x (by simp)
    refine ih (j + 1) M1 (by omega) (hf.tr (hf1.mo (fun c x h => by have h : 8 ≤ c ∧ c ≤ 11 ∧ x = j := h; show 7 ≤ c ∧ c ≤ 11; omega))) (by rw [q]; exact e5) (by rw [q]; exact e6) (by rw [q]; exact e7) (by rw [q]; exact e8) (by rw [q]; exact e9) (fun x h => ?_)
    by_cases e : x = j
    · subst e
      rw [g1, g2, g3, g4, hf 2 _ (by simp), hf 3 _ (by simp), hf 4 _ (by simp), hf 5 _ (by simp)]
      exact ⟨hd.2.2.2.2.2.1 _ p2, hd.2.2.2.2.2.2.1 _ p2, hd.2.2.2.2.2.2.2.1 _ p2, hd.2.2.2.2.2.2.2.2 _ p2⟩
    · have q2 : ∀ c, M1 c x = M' c x := fun c => hf1 c x (fun z => e z.2.2)
      rw [q2, q2, q2, q2]
      exact hx x (by omega)
set_option maxRecDepth 20000 in
theorem s_copyOrd (M : hd_M) (N : hd_N) (d : dy_T) (hd : hm M 1 d) (hn : d.1 ≤ 5) (p : Nat → Nat) (hp : ∀ i, i < d.1 → M 48 i = nI (p i) ∧ p i < d.1) : hd_Ret mX0_copyOrdered [.ref 7, .ref 1, .ref 48] M N (fun r M1 N1 => r = none ∧ N1 = N ∧ fr (fun c _ => 7 ≤ c ∧ c ≤ 11) M M1 ∧ hm M1 7 (dy_prm p d)) := by
  change hd_Go mX0_copyOrdered 0 [some (.ref 7), some (.ref 1), some (.ref 48), none] [] M N _
  refine hd_go kX0_copyOrdered 999 (fun _ => rfl) rfl trivial ?_
  refine hd_ca kX0_copyOrdered qX0_copyOrdered (fun _ => rfl) (s_copyDay_7_1 _ N) ?_
  rintro r M1 N1 ⟨rfl, rfl, g6, g7, g8, g9, hf1⟩
  refine hd_go kX0_copyOrdered 15 (fun _ => rfl) rfl trivial ?_
  obtain ⟨a5, a6, a7, a8, a9, -⟩ := id hd
  refine s_copyOrd_l M N1 d hd hn p hp d.1 0 M1 (by omega) ((fr.rf.up (by simp)).tr (hf1.mo (fun c j h => by have h : c = 7 ∧ 6 ≤ j := h; show 7 ≤ c ∧ c ≤ 11; omega))) ?_ ?_ ?_ ?_ ?_ (fun x h => absurd h (Nat.not_lt_zero x))
  · rw [hf1 7 5 (by simp), hd_u_s]; exact a5
  · rw [g6, hd_u_n (by omega)]; exact a6
  · rw [g7, hd_u_n (by omega)]; exact a7
  · rw [g8, hd_u_n (by omega)]; exact a8
  · rw [g9, hd_u_n (by omega)]; exact a9
set_option maxRecDepth 20000 in
theorem s_clear (M : hd_M) (N : hd_N) (f : Nat → Nat → Int32) : hd_Ret mX0_clear [.ref 7] M N (fun r M1 N1 => r = none ∧ N1 = N ∧ fr (fun c _ => c = 7) M M1 ∧ hm M1 7 (0, 0, 30, 1, 0, f)) := by
  change hd_Go mX0_clear 0 [some (.ref 7)] [] M N _
  refine hd_go kX0_clear 999 (fun _ => rfl) rfl trivial ?_
  refine hd_en_ kX0_clear (fun _ => rfl) trivial ⟨rfl, rfl, ((((fr.rf.up (by simp)).up (by simp)).up (by simp)).up (by simp)).up (by simp), ?_⟩
  refine ⟨?_, ?_, ?_, ?_, ?_, fun i hi => absurd hi (Nat.not_lt_zero i), fun i hi => absurd hi (Nat.not_lt_zero i), fun i hi => absurd hi (Nat.not_lt_zero i), fun i hi => absurd hi (Nat.not_lt_zero i)⟩
  · simp [hd_u]; rfl
  · simp [hd_u]; rfl
  · simp [hd_u]
  · simp [hd_u]
  · simp [hd_u]
/-- a number between 0 and 32767 blows -/
def dy_blow (g : Nat) (d : dy_T) : dy_T := if g / 128 % 4 = 0 then dy_in (dy_set 1 (g % d.1) (nI (g / 8 % 10)) d) else dy_set 1 (g % d.1) (nI (g / 8 % 10)) d
set_option maxRecDepth 20000 in
theorem s_blow (M : hd_M) (N : hd_N) (d : dy_T) (hd : hm M 7 d) (hn : d.1 ≤ 7) (h0 : 0 < d.1) (g : Nat) (hg : g < 32768) : hd_Ret mX0_blow [.ref 7, .int (nI g)] M N (fun r M1 N1 => r = none ∧ N1 = N ∧ fr (fun c _ => 7 ≤ c ∧ c ≤ 11) M M1 ∧ hm M1 7 (dy_blow g d)) := by
  change hd_Go mX0_blow 0 [some (.ref 7), some (.int (nI g))] [] M N _
  have a5 : M 7 5 = nI d.1 := hd.1
  refine hd_go kX0_blow 999 (fun _ => rfl) rfl trivial ?_
  rw [a5]
  refine hd_ju kX0_blow (fun _ => rfl) (fun c => ?_) (fun c => absurd c (nI_ne0 h0 (by omega)))
  have hm7 : g % d.1 < d.1 := Nat.mod_lt _ h0
  have e1 : nI g - nI g / nI d.1 * nI d.1 = nI (g % d.1) := pk_rem (by omega) h0 (by omega)
  have e2 : nI g / 8 = nI (g / 8) := pk_div (d := 8) (by omega) (by decide) (by decide)
  have e3 : nI (g / 8) - nI (g / 8) / 10 * 10 = nI (g / 8 % 10) := pk_rem (d := 10) (by omega) (by decide) (by decide)
  have e4 : nI g / 128 = nI (g / 128) := pk_div (d := 128) (by omega) (by decide) (by decide)
  have e5 : nI (g / 128) - nI (g / 128) / 4 * 4 = nI (g / 128 % 4) := pk_rem (d := 4) (by omega) (by decide) (by decide)
  refine hd_go kX0_blow 999 (fun _ => rfl) rfl ?_ ?_
  · rw [a5, e1]
    exact ⟨⟨⟨⟨⟨⟨trivial, nI_ne0 h0 (by omega)⟩, by decide⟩, by decide⟩, vp_in_nI (by omega) (by decide)⟩, by decide⟩, by decide⟩
  rw [a5, e1, e2, e3, e4, e5, nI_clamp (by omega)]
  have hset := h_set_7 hd 1 (g % d.1) (by decide) (nI (g / 8 % 10))
  have hfr : fr (fun c _ => 7 ≤ c ∧ c ≤ 11) M (hd_u M 9 (g % d.1) (nI (g / 8 % 10))) := fr.rf.up (by simp)
  refine hd_ju kX0_blow (fun _ => rfl) (fun c => ?_) (fun c => ?_)
  · have hne : ¬ g / 128 % 4 = 0 := fun z => c (by rw [z]; rfl)
    refine hd_en_ kX0_blow (fun _ => rfl) trivial ⟨rfl, rfl, hfr, ?_⟩
    unfold dy_blow
    rw [if_neg hne]
    exact hset
  · have he : g / 128 % 4 = 0 := by
      rcases Nat.eq_zero_or_pos (g / 128 % 4) with z | z
      · exact z
      · exact absurd c (nI_ne0 z (by omega))
    refine hd_go kX0_blow 999 (fun _ => rfl) rfl trivial ?_
    refine hd_ca kX0_blow qX0_blow (fun _ => rfl) (s_bring_7 _ N _ hset hn) ?_
    rintro r M1 N1 ⟨rfl, rfl, hf1, hd1⟩
    refine hd_en_ kX0_blow (fun _ => rfl) trivial ⟨rfl, rfl, hfr.tr hf1, ?_⟩
    unfold dy_blow
    rw [if_pos he]
    exact hd1
end
section
/-! WHAT IS ANSWERED: the mathematics of questions -/
abbrev wi (v a b : Int32) : Prop := ¬ v < a ∧ ¬ b < v
theorem hd_b0 {c : Prop} [Decidable c] : hd_b c = 0 ↔ ¬ c := by
  unfold hd_b
  by_cases h : c
  · simp [h]
  · simp [h]
theorem hd_b1 {c : Prop} [Decidable c] : ¬ hd_b c = 0 ↔ c := by
  unfold hd_b
  by_cases h : c
  · simp [h]
  · simp [h]
theorem hd_b01 {c : Prop} [Decidable c] : hd_b c = 0 ∨ hd_b c = 1 := by
  unfold hd_b
  by_cases h : c
  · simp [h]
  · simp [h]
/-- a number within 0 and m is a Nat -/
theorem wi_nat {v m : Int32} {n : Nat} (hm : m.toInt = n) (h : wi v 0 m) : ∃ j : Nat, j ≤ n ∧ v = nI j := nI_of2 hm h.1 (Int32.not_lt.mp h.2)
theorem wi_of {j n : Nat} {m : Int32} (hm : m = nI n) (hn : n < 2 ^ 31) (h : j ≤ n) : wi (nI j) 0 m := by
  subst hm
  exact ⟨nI_pos (by omega), nI_nlt h hn⟩
/-- the first from k on, within n hours more, that has p; else -4 -/
def dy_first (p : dy_T → Bool) : Nat → Nat → dy_T → Int32
  | 0, k, d => if p d then nI k else -4
  | n + 1, k, d => if p d then nI k else dy_first p n (k + 1) (dy_ho false d)
def dy_mx : Nat → Int32 → dy_T → Int32
  | 0, a, _ => a
  | n + 1, a, d => dy_mx n (if a < (dy_ho false d).2.2.1 then (dy_ho false d).2.2.1 else a) (dy_ho false d)
def dy_mn : Nat → Int32 → dy_T → Int32
  | 0, a, _ => a
  | n + 1, a, d => dy_mn n (if (dy_ho false d).2.2.1 < a then (dy_ho false d).2.2.1 else a) (dy_ho false d)
/-- the best of f, and its code; the first of the greatest -/
def dy_best (f g : Nat → Int32) : Nat → Nat → Int32 → Int32 → Int32 × Int32
  | 0, _, b, o => (b, o)
  | m + 1, i, b, o => if b < f i then dy_best f g m (i + 1) (f i) (g i) else dy_best f g m (i + 1) b o
def dy_fob (o b w : Int32) : Int32 := if w = 0 ∨ o = -4 then o else b
/-- the first of m from i on with p -/
def dy_fst (p : Nat → Bool) : Nat → Nat → Int32
  | 0, _ => -4
  | m + 1, i => if p i then nI i else dy_fst p m (i + 1)
/-- the first downward -/
def dy_lstd (p : Nat → Bool) : Nat → Int32
  | 0 => -4
  | m + 1 => if p m then nI m else dy_lstd p m
abbrev se_T : Type := Nat × (Nat → Int32) × (Nat → Int32)
/-- the mood behind n hours -/
def dy_md (n : Nat) (d : dy_T) : Int32 := (dy_hs n d).2.2.1
/-- all is as seen -/
def se_so (se : se_T) (d : dy_T) : Nat → Bool
  | 0 => true
  | m + 1 => se_so se d m && decide (dy_md (se.2.1 m).toNatClampNeg d = se.2.2 m)
def se_bits (se : se_T) (d : dy_T) (c i m : Nat) : Int32 := dy_bits (fun v => se_so se (dy_set c i (nI v) d) se.1) m
/-- what holds of what was seen -/
def se_ok (se : se_T) : Prop := se.1 ≤ 6 ∧ ∀ s, s < se.1 → ∃ j, j ≤ 20 ∧ se.2.1 s = nI j
def seC (M : hd_M) (k : Nat) (se : se_T) : Prop := M k 2 = nI se.1 ∧ (∀ s, s < se.1 → M (k + 1) s = se.2.1 s) ∧ ∀ s, s < se.1 → M (k + 2) s = se.2.2 s
def seR (M : hd_M) (off : Nat) (se : se_T) : Prop := M 52 (off + 33) = nI se.1 ∧ ∀ s, s < se.1 → M 52 (off + (34 + 2 * s)) = se.2.1 s ∧ M 52 (off + (35 + 2 * s)) = se.2.2 s
theorem dy_hs_succ : ∀ (n : Nat) (d : dy_T), dy_hs (n + 1) d = dy_ho false (dy_hs n d) := by
  intro n
  induction n with
  | zero => intro d; rfl
  | succ n ih => intro d; rw [dy_hs, ih, ← dy_hs]
theorem dy_ok_set {d : dy_T} {c i : Nat} {v : Int32} (h : dy_ok d) (hc : ¬ c = 3) : dy_ok (dy_set c i v d) := by
  obtain ⟨h1, h2, h3, h4, h5, h6⟩ := h
  refine ⟨h1, h2, fun x hx => ?_, fun x hx => ?_, h5, h6⟩
  · show (if 3 = c ∧ x = i then v else d.2.2.2.2.2 3 x) = 0
    rw [if_neg (fun z => hc z.1.symm)]; exact h3 x hx
  · show 0 ≤ (if 3 = c ∧ x = i then v else d.2.2.2.2.2 3 x) ∧ (if 3 = c ∧ x = i then v else d.2.2.2.2.2 3 x) ≤ 6
    rw [if_neg (fun z => hc z.1.symm)]; exact h4 x hx
theorem dy_ok_in {d : dy_T} (h : dy_ok d) : dy_ok (dy_in d) := by
  obtain ⟨h1, h2, h3, h4, h5, h6⟩ := h
  refine ⟨h1, Nat.le_refl _, fun x hx => rfl, fun x hx => ?_, h5, h6⟩
  show 0 ≤ (if 3 = 3 then (0 : Int32) else d.2.2.2.2.2 3 x) ∧ (if 3 = 3 then (0 : Int32) else d.2.2.2.2.2 3 x) ≤ 6
  rw [if_pos rfl]; decide
theorem dy_ok_blow {d : dy_T} {g : Nat} (h : dy_ok d) : dy_ok (dy_blow g d) := by
  unfold dy_blow
  split
  · exact dy_ok_in (dy_ok_set h (by decide))
  · exact dy_ok_set h (by decide)
theorem dy_blow_n {g : Nat} {d : dy_T} : (dy_blow g d).1 = d.1 := by
  unfold dy_blow
  split <;> rfl
/-- all are in -/
abbrev dy_all (d : dy_T) : Prop := d.2.1 = d.1
theorem dy_ok_shr {d : dy_T} {m : Nat} (h : dy_ok d) (ha : dy_all d) (hm : m ≤ d.1) : dy_ok (dy_shr m d) := by
  obtain ⟨h1, h2, h3, h4, h5, h6⟩ := h
  have ha : d.2.1 = d.1 := ha
  exact ⟨Nat.le_trans hm h1, Nat.le_refl _, fun x hx => h3 x (by have hx : x < m := hx; omega), fun x hx => h4 x (by have hx : x < m := hx; omega), h5, h6⟩
theorem dy_ok_exc {d : dy_T} {i j : Nat} (h : dy_ok d) : dy_ok (dy_exc i j d) := by
  obtain ⟨h1, h2, h3, h4, h5, h6⟩ := h
  exact ⟨h1, h2, h3, h4, h5, h6⟩
theorem dy_ok_rot {d : dy_T} {i j : Nat} (h : dy_ok d) : dy_ok (dy_rot i j d) := by
  obtain ⟨h1, h2, h3, h4, h5, h6⟩ := h
  exact ⟨h1, h2, h3, h4, h5, h6⟩
theorem dy_ok_prm {d : dy_T} {p : Nat → Nat} (h : dy_ok d) (ha : dy_all d) (hp : ∀ i, i < d.1 → p i < d.1) : dy_ok (dy_prm p d) := by
  obtain ⟨h1, h2, h3, h4, h5, h6⟩ := h
  have ha : d.2.1 = d.1 := ha
  exact ⟨h1, h2, fun x hx => h3 _ (by have hx : x < d.2.1 := hx; have := hp x (by omega); omega), fun x hx => h4 _ (hp x hx), h5, h6⟩
theorem dy_ok_tire {d : dy_T} {v : Int32} (h : dy_ok d) : dy_ok (dy_tire v d) := h
theorem dy_ok_mood {d : dy_T} {v : Int32} (h : dy_ok d) (hv : 0 ≤ v ∧ v ≤ 99) : dy_ok (dy_mood v d) := ⟨h.1, h.2.1, h.2.2.1, h.2.2.2.1, hv.1, hv.2⟩
theorem dy_ok_add {d : dy_T} {k g w : Int32} (h : dy_ok d) (ha : dy_all d) (hn : d.1 < 7) : dy_ok (dy_add k g w d) := by
  obtain ⟨h1, h2, h3, h4, h5, h6⟩ := h
  have ha : d.2.1 = d.1 := ha
  refine ⟨hn, Nat.le_refl _, fun x hx => ?_, fun x hx => ?_, h5, h6⟩
  · have hx : x < d.1 + 1 := hx
    show (if x = d.1 then (0 : Int32) else d.2.2.2.2.2 3 x) = 0
    split
    · rfl
    · exact h3 x (by omega)
  · have hx : x < d.1 + 1 := hx
    show 0 ≤ (if x = d.1 then (0 : Int32) else d.2.2.2.2.2 3 x) ∧ (if x = d.1 then (0 : Int32) else d.2.2.2.2.2 3 x) ≤ 6
    split
    · decide
    · exact h4 x (by omega)
end
section
/-! THE STATE OF A SYSTEM, AS ONE VALUE: day, seen, tape, images, sheets, torn, fault; how the class's cells hold it (CI), how the reference's (RI) -/
abbrev im_T : Type := Bool × dy_T × se_T
abbrev sh_T : Type := Bool × Int32 × Nat × (Nat → Int32)
abbrev ab_T : Type := dy_T × se_T × (Nat × (Nat → Int32)) × (Nat → im_T) × (Nat → sh_T) × Int32 × Int32
def tpC (M : hd_M) (t : Nat × (Nat → Int32)) : Prop := M 16 1 = nI t.1 ∧ ∀ i, i < t.1 → M 17 i = t.2 i
def imC (M : hd_M) (im : Nat → im_T) : Prop := ∀ k, k < 2 → M (19 + 10 * k) 2 = (if (im k).1 then 1 else 0) ∧ ((im k).1 = true → hm M (20 + 10 * k) (im k).2.1 ∧ seC M (26 + 10 * k) (im k).2.2)
def shC (M : hd_M) (sh : Nat → sh_T) : Prop := ∀ k, k < 4 → ((sh k).1 = true → M (40 + 2 * k) 2 = -1) ∧ ((sh k).1 = false → M (40 + 2 * k) 1 = (sh k).2.1 ∧ M (40 + 2 * k) 2 = nI (sh k).2.2.1 ∧ ∀ i, i < (sh k).2.2.1 → M (41 + 2 * k) i = (sh k).2.2.2 i)
def CI (M : hd_M) (st : ab_T) : Prop := hm M 1 st.1 ∧ seC M 13 st.2.1 ∧ tpC M st.2.2.1 ∧ imC M st.2.2.2.1 ∧ shC M st.2.2.2.2.1 ∧ M 0 9 = st.2.2.2.2.2.1 ∧ M 16 2 = st.2.2.2.2.2.2
def tpR (M : hd_M) (t : Nat × (Nat → Int32)) : Prop := M 51 7 = nI t.1 ∧ ∀ i, i < t.1 → M 56 i = t.2 i
def imR (M : hd_M) (im : Nat → im_T) : Prop := ∀ k, k < 2 → M 54 k = (if (im k).1 then 1 else 0) ∧ ((im k).1 = true → rf M 52 (46 * (k + 1)) (im k).2.1 ∧ seR M (46 * (k + 1)) (im k).2.2)
def shR (M : hd_M) (sh : Nat → sh_T) : Prop := ∀ k, k < 4 → ((sh k).1 = true → M 61 k = -4) ∧ ((sh k).1 = false → M 61 k = (sh k).2.1 ∧ M 62 k = nI (sh k).2.2.1 ∧ ∀ i, i < (sh k).2.2.1 → M 63 (40 * k + i) = (sh k).2.2.2 i)
def RI (M : hd_M) (st : ab_T) : Prop := rf M 52 0 st.1 ∧ seR M 0 st.2.1 ∧ tpR M st.2.2.1 ∧ imR M st.2.2.2.1 ∧ shR M st.2.2.2.2.1 ∧ M 51 26 = st.2.2.2.2.2.1 ∧ M 51 12 = st.2.2.2.2.2.2
def OK (st : ab_T) : Prop := dy_ok st.1 ∧ se_ok st.2.1 ∧ (st.2.2.1.1 ≤ 160 ∧ ∀ i, i < st.2.2.1.1 → ∃ b, b ≤ 127 ∧ st.2.2.1.2 i = nI b) ∧ (∀ k, k < 2 → (st.2.2.2.1 k).1 = true → dy_ok (st.2.2.2.1 k).2.1 ∧ se_ok (st.2.2.2.1 k).2.2) ∧ ∀ k, k < 4 → (st.2.2.2.2.1 k).1 = false → (st.2.2.2.2.1 k).2.2.1 ≤ 40 ∧ ((st.2.2.2.2.1 k).2.1 = 0 ∨ (st.2.2.2.2.1 k).2.1 = 1 ∨ (st.2.2.2.2.1 k).2.1 = 2)
abbrev clsF : Nat → Nat → Prop := fun c _ => c ≤ 50
abbrev refF : Nat → Nat → Prop := fun c _ => 51 ≤ c
/-- a method of the class answers f and comes to f -/
def cA (m : hd_I) (as : List Value) (f : ab_T → Value × ab_T) : Prop := ∀ (M : hd_M) (N : hd_N) (st : ab_T), CI M st → OK st → hd_Ret m (.ref 0 :: as) M N (fun r M1 N1 => r = some (f st).1 ∧ N1 = N ∧ fr clsF M M1 ∧ CI M1 (f st).2)
def rA (m : hd_I) (as : List Value) (f : ab_T → Value × ab_T) : Prop := ∀ (M : hd_M) (N : hd_N) (st : ab_T), RI M st → OK st → hd_Ret m (.ref 51 :: as) M N (fun r M1 _ => r = some (f st).1 ∧ fr refF M M1 ∧ RI M1 (f st).2)
theorem seC.mv {M M1 : hd_M} {k : Nat} {se : se_T} (h : seC M k se) (he : ∀ c j, k ≤ c → c ≤ k + 2 → M1 c j = M c j) : seC M1 k se := by
  obtain ⟨h1, h2, h3⟩ := h
  refine ⟨?_, fun s hs => ?_, fun s hs => ?_⟩
  · rw [he _ _ (by omega) (by omega)]; exact h1
  · rw [he _ _ (by omega) (by omega)]; exact h2 s hs
  · rw [he _ _ (by omega) (by omega)]; exact h3 s hs
theorem tpC.mv {M M1 : hd_M} {t : Nat × (Nat → Int32)} (h : tpC M t) (he : ∀ c j, 16 ≤ c → c ≤ 17 → M1 c j = M c j) : tpC M1 t := by
  refine ⟨?_, fun i hi => ?_⟩
  · rw [he _ _ (by omega) (by omega)]; exact h.1
  · rw [he _ _ (by omega) (by omega)]; exact h.2 i hi
theorem imC.mv {M M1 : hd_M} {im : Nat → im_T} (h : imC M im) (he : ∀ c j, 19 ≤ c → c ≤ 38 → M1 c j = M c j) : imC M1 im := by
  intro k hk
  obtain ⟨h1, h2⟩ := h k hk
  refine ⟨?_, fun hm1 => ?_⟩
  · rw [he _ _ (by omega) (by omega)]; exact h1
  · obtain ⟨h3, h4⟩ := h2 hm1
    exact ⟨h3.mv (fun c j q1 q2 => he c j (by omega) (by omega)), h4.mv (fun c j q1 q2 => he c j (by omega) (by omega))⟩
theorem shC.mv {M M1 : hd_M} {sh : Nat → sh_T} (h : shC M sh) (he : ∀ c j, 40 ≤ c → c ≤ 47 → M1 c j = M c j) : shC M1 sh := by
  intro k hk
  obtain ⟨h1, h2⟩ := h k hk
  refine ⟨fun z => ?_, fun z => ?_⟩
  · rw [he _ _ (by omega) (by omega)]; exact h1 z
  · obtain ⟨h3, h4, h5⟩ := h2 z
    refine ⟨?_, ?_, fun i hi => ?_⟩
    · rw [he _ _ (by omega) (by omega)]; exact h3
    · rw [he _ _ (by omega) (by omega)]; exact h4
    · rw [he _ _ (by omega) (by omega)]; exact h5 i hi
/-- cells that hold nothing of the class's state -/
abbrev idl : Nat → Nat → Prop := fun c _ => (6 ≤ c ∧ c ≤ 12) ∨ 48 ≤ c
theorem CI.mv {M M1 : hd_M} {st : ab_T} (h : CI M st) (he : fr idl M M1) : CI M1 st := by
  obtain ⟨h1, h2, h3, h4, h5, h6, h7⟩ := h
  refine ⟨h1.mv fun c j _ _ => he c j ?_, h2.mv fun c j _ _ => he c j ?_, h3.mv fun c j _ _ => he c j ?_, h4.mv fun c j _ _ => he c j ?_, h5.mv fun c j _ _ => he c j ?_, ?_, ?_⟩
  · show ¬ ((6 ≤ c ∧ c ≤ 12) ∨ 48 ≤ c); omega
  · show ¬ ((6 ≤ c ∧ c ≤ 12) ∨ 48 ≤ c); omega
  · show ¬ ((6 ≤ c ∧ c ≤ 12) ∨ 48 ≤ c); omega
  · show ¬ ((6 ≤ c ∧ c ≤ 12) ∨ 48 ≤ c); omega
  · show ¬ ((6 ≤ c ∧ c ≤ 12) ∨ 48 ≤ c); omega
  · rw [he 0 9 (by simp)]; exact h6
  · rw [he 16 2 (by simp)]; exact h7
/-- only the day has changed (and what is idle) -/
theorem CI.day {M M1 : hd_M} {st : ab_T} {d : dy_T} (h : CI M st) (he : fr (fun c _ => (1 ≤ c ∧ c ≤ 12) ∨ 48 ≤ c) M M1) (hd : hm M1 1 d) : CI M1 (d, st.2) := by
  obtain ⟨h1, h2, h3, h4, h5, h6, h7⟩ := h
  refine ⟨hd, h2.mv fun c j _ _ => he c j ?_, h3.mv fun c j _ _ => he c j ?_, h4.mv fun c j _ _ => he c j ?_, h5.mv fun c j _ _ => he c j ?_, ?_, ?_⟩
  · show ¬ ((1 ≤ c ∧ c ≤ 12) ∨ 48 ≤ c); omega
  · show ¬ ((1 ≤ c ∧ c ≤ 12) ∨ 48 ≤ c); omega
  · show ¬ ((1 ≤ c ∧ c ≤ 12) ∨ 48 ≤ c); omega
  · show ¬ ((1 ≤ c ∧ c ≤ 12) ∨ 48 ≤ c); omega
  · rw [he 0 9 (by simp)]; exact h6
  · rw [he 16 2 (by simp)]; exact h7
theorem CI.seen {M M1 : hd_M} {st : ab_T} {se : se_T} (h : CI M st) (he : fr (fun c _ => 13 ≤ c ∧ c ≤ 15) M M1) (hd : seC M1 13 se) : CI M1 (st.1, se, st.2.2) := by
  obtain ⟨h1, h2, h3, h4, h5, h6, h7⟩ := h
  refine ⟨h1.mv fun c j _ _ => he c j ?_, hd, h3.mv fun c j _ _ => he c j ?_, h4.mv fun c j _ _ => he c j ?_, h5.mv fun c j _ _ => he c j ?_, ?_, ?_⟩
  · show ¬ (13 ≤ c ∧ c ≤ 15); omega
  · show ¬ (13 ≤ c ∧ c ≤ 15); omega
  · show ¬ (13 ≤ c ∧ c ≤ 15); omega
  · show ¬ (13 ≤ c ∧ c ≤ 15); omega
  · rw [he 0 9 (by simp)]; exact h6
  · rw [he 16 2 (by simp)]; exact h7
theorem CI.tape {M M1 : hd_M} {st : ab_T} {t : Nat × (Nat → Int32)} {f : Int32} (h : CI M st) (he : fr (fun c _ => 16 ≤ c ∧ c ≤ 17) M M1) (hd : tpC M1 t) (hf : M1 16 2 = f) : CI M1 (st.1, st.2.1, t, st.2.2.2.1, st.2.2.2.2.1, st.2.2.2.2.2.1, f) := by
  obtain ⟨h1, h2, h3, h4, h5, h6, h7⟩ := h
  refine ⟨h1.mv fun c j _ _ => he c j ?_, h2.mv fun c j _ _ => he c j ?_, hd, h4.mv fun c j _ _ => he c j ?_, h5.mv fun c j _ _ => he c j ?_, ?_, hf⟩
  · show ¬ (16 ≤ c ∧ c ≤ 17); omega
  · show ¬ (16 ≤ c ∧ c ≤ 17); omega
  · show ¬ (16 ≤ c ∧ c ≤ 17); omega
  · show ¬ (16 ≤ c ∧ c ≤ 17); omega
  · rw [he 0 9 (by simp)]; exact h6
theorem CI.img {M M1 : hd_M} {st : ab_T} {im : Nat → im_T} (h : CI M st) (he : fr (fun c _ => 19 ≤ c ∧ c ≤ 38) M M1) (hd : imC M1 im) : CI M1 (st.1, st.2.1, st.2.2.1, im, st.2.2.2.2) := by
  obtain ⟨h1, h2, h3, h4, h5, h6, h7⟩ := h
  refine ⟨h1.mv fun c j _ _ => he c j ?_, h2.mv fun c j _ _ => he c j ?_, h3.mv fun c j _ _ => he c j ?_, hd, h5.mv fun c j _ _ => he c j ?_, ?_, ?_⟩
  · show ¬ (19 ≤ c ∧ c ≤ 38); omega
  · show ¬ (19 ≤ c ∧ c ≤ 38); omega
  · show ¬ (19 ≤ c ∧ c ≤ 38); omega
  · show ¬ (19 ≤ c ∧ c ≤ 38); omega
  · rw [he 0 9 (by simp)]; exact h6
  · rw [he 16 2 (by simp)]; exact h7
theorem CI.she {M M1 : hd_M} {st : ab_T} {sh : Nat → sh_T} (h : CI M st) (he : fr (fun c _ => 40 ≤ c ∧ c ≤ 47) M M1) (hd : shC M1 sh) : CI M1 (st.1, st.2.1, st.2.2.1, st.2.2.2.1, sh, st.2.2.2.2.2) := by
  obtain ⟨h1, h2, h3, h4, h5, h6, h7⟩ := h
  refine ⟨h1.mv fun c j _ _ => he c j ?_, h2.mv fun c j _ _ => he c j ?_, h3.mv fun c j _ _ => he c j ?_, h4.mv fun c j _ _ => he c j ?_, hd, ?_, ?_⟩
  · show ¬ (40 ≤ c ∧ c ≤ 47); omega
  · show ¬ (40 ≤ c ∧ c ≤ 47); omega
  · show ¬ (40 ≤ c ∧ c ≤ 47); omega
  · show ¬ (40 ≤ c ∧ c ≤ 47); omega
  · rw [he 0 9 (by simp)]; exact h6
  · rw [he 16 2 (by simp)]; exact h7
theorem CI.torn {M : hd_M} {st : ab_T} {t : Int32} (h : CI M st) : CI (hd_u M 0 9 t) (st.1, st.2.1, st.2.2.1, st.2.2.2.1, st.2.2.2.2.1, t, st.2.2.2.2.2.2) := by
  obtain ⟨h1, h2, h3, h4, h5, h6, h7⟩ := h
  refine ⟨h1.mv fun c j _ _ => hd_u_n (by omega), h2.mv fun c j _ _ => hd_u_n (by omega), h3.mv fun c j _ _ => hd_u_n (by omega), h4.mv fun c j _ _ => hd_u_n (by omega), h5.mv fun c j _ _ => hd_u_n (by omega), hd_u_s _ _ _ _, ?_⟩
  rw [hd_u_n (by omega)]; exact h7
/-! the answers -/
abbrev an_th (i : Int32) (d : dy_T) : Prop := ¬ i < 0 ∧ i < nI d.1
theorem an_th_nat {i : Int32} {d : dy_T} (h : an_th i d) (hn : d.1 ≤ 7) : ∃ j, j < d.1 ∧ i = nI j := by
  obtain ⟨j, hj, rfl⟩ := nI_of h.1
  refine ⟨j, ?_, rfl⟩
  exact (nI_ltI hj (by omega)).mp h.2
def an_feed (c : Int32) (st : ab_T) : Value × ab_T := if wi c 0 127 then (if st.2.2.1.1 = 160 then (.int (-3), st) else (.int (nI (st.2.2.1.1 + 1)), st.1, st.2.1, (st.2.2.1.1 + 1, fun i => if i = st.2.2.1.1 then c else st.2.2.1.2 i), st.2.2.2)) else (.int (-1), st)
def an_end (n : Int32) (st : ab_T) : Value × ab_T := if wi n 0 (nI st.2.2.1.1) then (.int (nI st.2.2.1.1), st.1, st.2.1, (n.toNatClampNeg, st.2.2.1.2), st.2.2.2) else (.int (-1), st)
def an_fault (st : ab_T) : Value × ab_T := (.int st.2.2.2.2.2.2, st)
def an_torn (st : ab_T) : Value × ab_T := (.int st.2.2.2.2.2.1, st)
def dy_out (d : dy_T) : Int32 := dy_bits (fun i => decide (0 < d.2.2.2.2.2 3 i)) d.1
def dy_cru (d : dy_T) : Int32 := dy_bits (fun i => decide (dy_brs (d.2.2.2.2.2 0 i) (d.2.2.2.2.2 2 i) < dy_ld d i)) d.1
def an_rule (w : Int32) (st : ab_T) : Value × ab_T := (.int (if w = 0 then nI st.1.1 else if w = 1 then st.1.2.2.2.2.1 else if w = 2 then st.1.2.2.1 else if w = 3 then st.1.2.2.2.1 else if w = 4 then nI st.1.2.1 else if w = 5 then dy_out st.1 else if w = 6 then dy_cru st.1 else -1), st)
def dy_tell (d : dy_T) (i : Nat) (w : Int32) : Int32 := if w = 0 then d.2.2.2.2.2 0 i else if w = 1 then d.2.2.2.2.2 1 i else if w = 2 then d.2.2.2.2.2 2 i else if w = 3 then dy_brs (d.2.2.2.2.2 0 i) (d.2.2.2.2.2 2 i) else if w = 4 then dy_ld d i else if w = 5 then 20 + dy_ch d i else if w = 6 then d.2.2.2.2.2 3 i else -1
def an_thing (i w : Int32) (st : ab_T) : Value × ab_T := (.int (if an_th i st.1 then dy_tell st.1 i.toNatClampNeg w else -1), st)
abbrev tra (w v : Int32) : Prop := (w = 0 ∧ wi v 0 3) ∨ (w = 1 ∧ wi v 0 9) ∨ (w = 2 ∧ wi v 1 9)
def an_alter (i w v : Int32) (st : ab_T) : Value × ab_T := if an_th i st.1 ∧ tra w v then (.int (st.1.2.2.2.2.2 w.toNatClampNeg i.toNatClampNeg), dy_set w.toNatClampNeg i.toNatClampNeg v st.1, st.2) else (.int (-1), st)
def an_mood (v : Int32) (st : ab_T) : Value × ab_T := if wi v 0 99 then (.int st.1.2.2.1, dy_mood v st.1, st.2) else (.int (-1), st)
def an_tire (v : Int32) (st : ab_T) : Value × ab_T := if wi v 0 9 then (.int st.1.2.2.2.1, dy_tire v st.1, st.2) else (.int (-1), st)
def an_pack (k g w : Int32) (st : ab_T) : Value × ab_T := if wi k 0 3 ∧ wi g 0 9 ∧ wi w 1 9 then (if dy_all st.1 then (if st.1.1 = 7 then (.int (-3), st) else (.int (nI (st.1.1 + 1)), dy_add k g w st.1, st.2)) else (.int (-2), st)) else (.int (-1), st)
def an_strap (st : ab_T) : Value × ab_T := (.int (nI st.1.1 - nI st.1.2.1), dy_in st.1, st.2)
def an_lift (st : ab_T) : Value × ab_T := if st.1.1 = 0 ∨ ¬ dy_all st.1 then (.int (-2), st) else (.int (nI (st.1.1 - 1)), dy_shr (st.1.1 - 1) st.1, st.2)
def an_hours (n : Int32) (st : ab_T) : Value × ab_T := if wi n 0 30 then (if st.1.2.2.2.2.1 + n < 1000 then (.int (dy_md n.toNatClampNeg st.1), dy_hs n.toNatClampNeg st.1, st.2) else (.int (-3), st)) else (.int (-1), st)
/-- a question leaves all as it was -/
abbrev an_q (x : Int32) (st : ab_T) : Value × ab_T := (.int x, st)
def an_runs (n w : Int32) (st : ab_T) : Value × ab_T := an_q (if wi n 0 60 then (if w = 0 then dy_md n.toNatClampNeg st.1 else if w = 1 then dy_mx n.toNatClampNeg st.1.2.2.1 st.1 else if w = 2 then dy_mn n.toNatClampNeg st.1.2.2.1 st.1 else if w = 3 then dy_out (dy_hs n.toNatClampNeg st.1) else if w = 4 then dy_first (fun d => decide (d.2.2.1 = 0)) n.toNatClampNeg 0 st.1 else -1) else -1) st
abbrev dy_gn (i : Nat) (d : dy_T) : Bool := decide (¬ nI i < nI d.2.1 ∧ d.2.2.2.2.2 3 i = 0)
def an_gone (i : Int32) (st : ab_T) : Value × ab_T := an_q (if an_th i st.1 then (if dy_gn i.toNatClampNeg st.1 then -2 else dy_first (dy_gn i.toNatClampNeg) 59 1 (dy_ho false st.1)) else -1) st
def an_glad (v : Int32) (st : ab_T) : Value × ab_T := an_q (if wi v 0 99 then dy_first (fun d => decide (¬ d.2.2.1 < v)) 60 0 st.1 else -1) st
def dy_opt (f g : Nat → Int32) (m : Nat) (b w : Int32) : Int32 := dy_fob (dy_best f g m 0 b (-4)).2 (dy_best f g m 0 b (-4)).1 w
def an_leave (n w : Int32) (st : ab_T) : Value × ab_T := an_q (if wi n 0 60 ∧ wi w 0 1 then (if dy_all st.1 then dy_opt (fun i => dy_md n.toNatClampNeg (dy_shr (st.1.1 - 1) (dy_rot i (st.1.1 - 1) st.1))) nI st.1.1 (dy_md n.toNatClampNeg st.1) w else -2) else -1) st
def an_top (n w : Int32) (st : ab_T) : Value × ab_T := an_q (if wi n 0 60 ∧ wi w 0 1 then (if dy_all st.1 then dy_opt (fun i => dy_md n.toNatClampNeg (dy_rot i (st.1.1 - 1) st.1)) nI st.1.1 (dy_md n.toNatClampNeg st.1) w else -2) else -1) st
/-- the best exchange: i with all above it, for each i -/
def dy_swp (n : Nat) (d : dy_T) : Nat → Nat → Int32 → Int32 → Int32 × Int32
  | 0, _, b, o => (b, o)
  | m + 1, i, b, o => dy_swp n d m (i + 1) (dy_best (fun j => dy_md n (dy_exc i j d)) (fun j => 10 * nI i + nI j) (d.1 - (i + 1)) (i + 1) b o).1 (dy_best (fun j => dy_md n (dy_exc i j d)) (fun j => 10 * nI i + nI j) (d.1 - (i + 1)) (i + 1) b o).2
def an_swap (n w : Int32) (st : ab_T) : Value × ab_T := an_q (if wi n 0 60 ∧ wi w 0 1 then (if dy_all st.1 then dy_fob (dy_swp n.toNatClampNeg st.1 st.1.1 0 (dy_md n.toNatClampNeg st.1) (-4)).2 (dy_swp n.toNatClampNeg st.1 st.1.1 0 (dy_md n.toNatClampNeg st.1) (-4)).1 w else -2) else -1) st
def an_need (i n v : Int32) (st : ab_T) : Value × ab_T := an_q (if an_th i st.1 ∧ wi n 0 60 ∧ wi v 0 99 then dy_fst (fun g => decide (¬ dy_md n.toNatClampNeg (dy_set 1 i.toNatClampNeg (nI g) st.1) < v)) 10 0 else -1) st
def an_kind (i n w : Int32) (st : ab_T) : Value × ab_T := an_q (if an_th i st.1 ∧ wi n 0 60 ∧ wi w 0 1 then dy_opt (fun k => dy_md n.toNatClampNeg (dy_set 0 i.toNatClampNeg (nI k) st.1)) nI 4 (-1) w else -1) st
def an_bear (n v : Int32) (st : ab_T) : Value × ab_T := an_q (if wi n 0 60 ∧ wi v 0 99 then dy_lstd (fun t => decide (¬ dy_md n.toNatClampNeg (dy_tire (nI t) st.1) < v)) 10 else -1) st
def an_see (n v : Int32) (st : ab_T) : Value × ab_T := if wi n 0 20 ∧ wi v 0 99 then (if st.2.1.1 = 6 then (.int (-3), st) else (.int (nI (st.2.1.1 + 1)), st.1, (st.2.1.1 + 1, (fun i => if i = st.2.1.1 then n else st.2.1.2.1 i), fun i => if i = st.2.1.1 then v else st.2.1.2.2 i), st.2.2)) else (.int (-1), st)
def an_forget (n : Int32) (st : ab_T) : Value × ab_T := if wi n 0 (nI st.2.1.1) then (.int (nI st.2.1.1), st.1, (n.toNatClampNeg, st.2.1.2), st.2.2) else (.int (-1), st)
def an_kinds (i : Int32) (st : ab_T) : Value × ab_T := an_q (if an_th i st.1 then se_bits st.2.1 st.1 0 i.toNatClampNeg 4 else -1) st
def an_goods (i : Int32) (st : ab_T) : Value × ab_T := an_q (if an_th i st.1 then se_bits st.2.1 st.1 1 i.toNatClampNeg 10 else -1) st
def dr_s (s : Int32) : Int32 := s * 1103515245 + 12345
def dr_g (s : Int32) : Nat := s.toBitVec.toNat / 65536 % 32768
/-- n hours by a seed, q the next seed, g what it gives -/
def dy_gen (q : Int32 → Int32) (g : Int32 → Nat) : Nat → Int32 → dy_T → dy_T
  | 0, _, d => d
  | n + 1, s, d => dy_gen q g n (q s) (dy_ho false (dy_blow (g (q s)) d))
def dy_dr (n : Nat) (s : Int32) (d : dy_T) : dy_T := dy_gen dr_s dr_g n s d
theorem dy_dr_0 (s : Int32) (d : dy_T) : dy_dr 0 s d = d := by unfold dy_dr; rw [dy_gen]
theorem dy_dr_s (n : Nat) (s : Int32) (d : dy_T) : dy_dr (n + 1) s d = dy_dr n (dr_s s) (dy_ho false (dy_blow (dr_g (dr_s s)) d)) := by unfold dy_dr; rw [dy_gen]
def an_drift (s n w : Int32) (st : ab_T) : Value × ab_T := an_q (if wi n 1 60 ∧ wi w 0 1 then (if st.1.1 = 0 then -2 else if w = 0 then (dy_dr n.toNatClampNeg s st.1).2.2.1 else dy_out (dy_dr n.toNatClampNeg s st.1)) else -1) st
def an_keep (k : Int32) (st : ab_T) : Value × ab_T := if wi k 0 1 then (.int (if (st.2.2.2.1 k.toNatClampNeg).1 then 1 else 0), st.1, st.2.1, st.2.2.1, (fun j => if j = k.toNatClampNeg then (true, st.1, st.2.1) else st.2.2.2.1 j), st.2.2.2.2) else (.int (-1), st)
def an_back (k : Int32) (st : ab_T) : Value × ab_T := if wi k 0 1 then (if (st.2.2.2.1 k.toNatClampNeg).1 then (.int (st.2.2.2.1 k.toNatClampNeg).2.1.2.2.2.2.1, (st.2.2.2.1 k.toNatClampNeg).2.1, (st.2.2.2.1 k.toNatClampNeg).2.2, st.2.2) else (.int (-2), st)) else (.int (-1), st)
def an_sheet (k l n : Int32) (st : ab_T) : Value × ab_T := if wi k 0 3 ∧ wi l 0 2 ∧ ¬ 40 < n then (if n < 0 then (.int (-14), st) else (.int 1, st.1, st.2.1, st.2.2.1, st.2.2.2.1, (fun j => if j = k.toNatClampNeg then (false, l, n.toNatClampNeg, fun _ => 0) else st.2.2.2.2.1 j), st.2.2.2.2.2)) else (.int (-1), st)
def la_v (l v : Int32) : Int32 := if l = 0 then v.toInt8.toInt32 else if l = 1 then v.toInt16.toInt32 else v
def an_lay (k i v : Int32) (st : ab_T) : Value × ab_T := if wi k 0 3 then (if (st.2.2.2.2.1 k.toNatClampNeg).1 then (.int (-11), st) else if ¬ i < 0 ∧ i < nI (st.2.2.2.2.1 k.toNatClampNeg).2.2.1 then (.int 1, st.1, st.2.1, st.2.2.1, st.2.2.2.1, (fun j => if j = k.toNatClampNeg then (false, (st.2.2.2.2.1 k.toNatClampNeg).2.1, (st.2.2.2.2.1 k.toNatClampNeg).2.2.1, fun x => if x = i.toNatClampNeg then la_v (st.2.2.2.2.1 k.toNatClampNeg).2.1 v else (st.2.2.2.2.1 k.toNatClampNeg).2.2.2 x) else st.2.2.2.2.1 j), st.2.2.2.2.2) else (.int (-12), st)) else (.int (-1), st)
def an_count (w : Int32) (st : ab_T) : Value × ab_T := an_q (if w = 0 then nI st.2.1.1 else if w = 1 then (if (st.2.2.2.1 0).1 then 1 else 0) + (if (st.2.2.2.1 1).1 then 1 else 0) else if w = 2 then nI st.2.2.1.1 else if w = 3 then (if (st.2.2.2.2.1 0).1 then -4 else nI (st.2.2.2.2.1 0).2.2.1) else if w = 4 then wsm (st.1.2.2.2.2.2 1) 0 st.1.1 else if w = 5 then wsm (st.1.2.2.2.2.2 2) 0 st.1.1 else -1) st
end
section
/-! THE CLASS'S OWN METHODS; printed by wip/whole/cls.py -/
set_option maxRecDepth 20000 in
theorem s_isWithin (v a b : Int32) (M : hd_M) (N : hd_N) : hd_Ret mX5_isWithin [.int v, .int a, .int b] M N (hd_is (.int (hd_b (wi v a b))) M N) := by
  change hd_Go mX5_isWithin 0 [some (.int v), some (.int a), some (.int b)] [] M N _
  repeat' first
    | refine hd_ju kX5_isWithin (fun _ => rfl) (fun c => ?_) (fun c => ?_)
    | refine hd_en_ kX5_isWithin (fun _ => rfl) ?_ ?_
    | refine hd_go kX5_isWithin 999 (fun _ => rfl) rfl ?_ ?_
  all_goals first
    | trivial
    | exact Or.inl rfl
    | exact Or.inr rfl
    | exact hd_b01
    | (refine ⟨?_, rfl, rfl⟩; simp_all [-Int32.not_lt, -Int32.not_le, le_n, hd_b])
set_option maxRecDepth 20000 in
theorem s_isMood (v : Int32) (M : hd_M) (N : hd_N) : hd_Ret mX5_isMood [.int v] M N (hd_is (.int (hd_b (wi v 0 99))) M N) := by
  change hd_Go mX5_isMood 0 [some (.int v)] [] M N _
  repeat' first
    | refine hd_ju kX5_isMood (fun _ => rfl) (fun c => ?_) (fun c => ?_)
    | refine hd_en_ kX5_isMood (fun _ => rfl) ?_ ?_
    | refine hd_ci kX5_isMood qX5_isMood (fun _ => rfl) (s_isWithin _ _ _ M N) ?_
    | refine hd_go kX5_isMood 999 (fun _ => rfl) rfl ?_ ?_
  all_goals first
    | trivial
    | exact hd_b01
    | exact ⟨rfl, rfl, rfl⟩
set_option maxRecDepth 20000 in
theorem s_isSpan (v : Int32) (M : hd_M) (N : hd_N) : hd_Ret mX5_isSpan [.int v] M N (hd_is (.int (hd_b (wi v 0 60))) M N) := by
  change hd_Go mX5_isSpan 0 [some (.int v)] [] M N _
  repeat' first
    | refine hd_ju kX5_isSpan (fun _ => rfl) (fun c => ?_) (fun c => ?_)
    | refine hd_en_ kX5_isSpan (fun _ => rfl) ?_ ?_
    | refine hd_ci kX5_isSpan qX5_isSpan (fun _ => rfl) (s_isWithin _ _ _ M N) ?_
    | refine hd_go kX5_isSpan 999 (fun _ => rfl) rfl ?_ ?_
  all_goals first
    | trivial
    | exact hd_b01
    | exact ⟨rfl, rfl, rfl⟩
set_option maxRecDepth 20000 in
theorem s_isSheet (v : Int32) (M : hd_M) (N : hd_N) : hd_Ret mX5_isSheet [.int v] M N (hd_is (.int (hd_b (wi v 0 3))) M N) := by
  change hd_Go mX5_isSheet 0 [some (.int v)] [] M N _
  repeat' first
    | refine hd_ju kX5_isSheet (fun _ => rfl) (fun c => ?_) (fun c => ?_)
    | refine hd_en_ kX5_isSheet (fun _ => rfl) ?_ ?_
    | refine hd_ci kX5_isSheet qX5_isSheet (fun _ => rfl) (s_isWithin _ _ _ M N) ?_
    | refine hd_go kX5_isSheet 999 (fun _ => rfl) rfl ?_ ?_
  all_goals first
    | trivial
    | exact hd_b01
    | exact ⟨rfl, rfl, rfl⟩
set_option maxRecDepth 20000 in
theorem s_isLane (v : Int32) (M : hd_M) (N : hd_N) : hd_Ret mX5_isLane [.int v] M N (hd_is (.int (hd_b (wi v 0 2))) M N) := by
  change hd_Go mX5_isLane 0 [some (.int v)] [] M N _
  repeat' first
    | refine hd_ju kX5_isLane (fun _ => rfl) (fun c => ?_) (fun c => ?_)
    | refine hd_en_ kX5_isLane (fun _ => rfl) ?_ ?_
    | refine hd_ci kX5_isLane qX5_isLane (fun _ => rfl) (s_isWithin _ _ _ M N) ?_
    | refine hd_go kX5_isLane 999 (fun _ => rfl) rfl ?_ ?_
  all_goals first
    | trivial
    | exact hd_b01
    | exact ⟨rfl, rfl, rfl⟩
set_option maxRecDepth 20000 in
theorem s_isOdds (v n : Int32) (M : hd_M) (N : hd_N) : hd_Ret mX5_isOdds [.int v, .int n] M N (hd_is (.int (hd_b (wi v 0 10 ∧ wi n 0 8))) M N) := by
  change hd_Go mX5_isOdds 0 [some (.int v), some (.int n)] [] M N _
  repeat' first
    | refine hd_ju kX5_isOdds (fun _ => rfl) (fun c => ?_) (fun c => ?_)
    | refine hd_en_ kX5_isOdds (fun _ => rfl) ?_ ?_
    | refine hd_ci kX5_isOdds qX5_isOdds (fun _ => rfl) (s_isWithin _ _ _ M N) ?_
    | refine hd_go kX5_isOdds 999 (fun _ => rfl) rfl ?_ ?_
  all_goals first
    | trivial
    | exact Or.inl rfl
    | exact Or.inr rfl
    | (refine ⟨?_, rfl, rfl⟩; simp only [hd_b0, hd_b1] at *; simp_all [-Int32.not_lt, -Int32.not_le, le_n, hd_b])
set_option maxRecDepth 20000 in
theorem s_isThing (i : Int32) (M : hd_M) (N : hd_N) : hd_Ret mX5_isThing [.ref 0, .int i] M N (hd_is (.int (hd_b (¬ i < 0 ∧ i < M 1 5))) M N) := by
  change hd_Go mX5_isThing 0 [some (.ref 0), some (.int i)] [] M N _
  repeat' first
    | refine hd_ju kX5_isThing (fun _ => rfl) (fun c => ?_) (fun c => ?_)
    | refine hd_en_ kX5_isThing (fun _ => rfl) ?_ ?_
    | refine hd_go kX5_isThing 999 (fun _ => rfl) rfl ?_ ?_
  all_goals first
    | trivial
    | exact Or.inl rfl
    | exact Or.inr rfl
    | exact hd_b01
    | (refine ⟨?_, rfl, rfl⟩; simp_all [-Int32.not_lt, -Int32.not_le, le_n, hd_b])
set_option maxRecDepth 20000 in
theorem s_isTrait (w v : Int32) (M : hd_M) (N : hd_N) : hd_Ret mX5_isTrait [.int w, .int v] M N (hd_is (.int (hd_b (tra w v))) M N) := by
  change hd_Go mX5_isTrait 0 [some (.int w), some (.int v)] [] M N _
  repeat' first
    | refine hd_ju kX5_isTrait (fun _ => rfl) (fun c => ?_) (fun c => ?_)
    | refine hd_en_ kX5_isTrait (fun _ => rfl) ?_ ?_
    | refine hd_ci kX5_isTrait qX5_isTrait (fun _ => rfl) (s_isWithin _ _ _ M N) ?_
    | refine hd_sc kX5_isTrait (fun _ => rfl) ⟨fun c => ?_, fun c => ⟨fun c => ?_, fun c => ⟨fun c => ?_, fun c => ?_⟩⟩⟩
    | refine hd_go kX5_isTrait 999 (fun _ => rfl) rfl ?_ ?_
  all_goals first
    | trivial
    | exact hd_b01
    | exact Or.inl rfl
    | (refine ⟨?_, rfl, rfl⟩; simp_all [-Int32.not_lt, -Int32.not_le, tra, hd_b])
set_option maxRecDepth 20000 in
theorem s_fob (o b w : Int32) (M : hd_M) (N : hd_N) : hd_Ret mX5_foundOrBest [.int o, .int b, .int w] M N (hd_is (.int (dy_fob o b w)) M N) := by
  change hd_Go mX5_foundOrBest 0 [some (.int o), some (.int b), some (.int w)] [] M N _
  repeat' first
    | refine hd_ju kX5_foundOrBest (fun _ => rfl) (fun c => ?_) (fun c => ?_)
    | refine hd_en_ kX5_foundOrBest (fun _ => rfl) ?_ ?_
    | refine hd_go kX5_foundOrBest 999 (fun _ => rfl) rfl ?_ ?_
  all_goals first
    | trivial
    | (refine ⟨?_, rfl, rfl⟩; simp_all [dy_fob])
set_option maxRecDepth 20000 in
theorem s_startTrial (M : hd_M) (N : hd_N) (d : dy_T) (hd : hm M 1 d) (hn : d.1 ≤ 7) : hd_Ret mX5_startTrial [.ref 0] M N (fun r M1 N1 => r = none ∧ N1 = N ∧ fr (fun c _ => 7 ≤ c ∧ c ≤ 12) M M1 ∧ hm M1 7 d ∧ ∀ i, i < d.1 → M1 12 i = dy_ch d i) := by
  change hd_Go mX5_startTrial 0 [some (.ref 0)] [] M N _
  refine hd_go kX5_startTrial 999 (fun _ => rfl) rfl trivial ?_
  refine hd_ca kX5_startTrial qX5_startTrial (fun _ => rfl) (s_copyFrom_7_1 M N d hd hn) ?_
  rintro r M1 N1 ⟨rfl, rfl, hf1, hd1⟩
  refine hd_go kX5_startTrial 999 (fun _ => rfl) rfl trivial ?_
  refine hd_ca kX5_startTrial qX5_startTrial (fun _ => rfl) (s_tally_7 M1 N1 d hd1 hn) ?_
  rintro r M2 N2 ⟨rfl, rfl, hf2, hc2⟩
  refine hd_en_ kX5_startTrial (fun _ => rfl) trivial ⟨rfl, rfl, ?_, hd1.mv (fun c j h1 h2 => hf2 c j (by show ¬ c = 12; omega)), hc2⟩
  exact (hf1.mo (fun c j h => by have h : 7 ≤ c ∧ c ≤ 11 := h; show 7 ≤ c ∧ c ≤ 12; omega)).tr (hf2.mo (fun c j h => by have h : c = 12 := h; show 7 ≤ c ∧ c ≤ 12; omega))
abbrev tri : Nat → Nat → Prop := fun c _ => 7 ≤ c ∧ c ≤ 12
set_option maxRecDepth 20000 in
theorem s_moodBehind (M : hd_M) (N : hd_N) (d : dy_T) (hd : hm M 1 d) (ok : dy_ok d) (n : Nat) (hn : n ≤ 60) : hd_Ret mX5_moodBehind [.ref 0, .int (nI n)] M N (fun r M1 N1 => r = some (.int (dy_md n d)) ∧ N1 = N ∧ fr tri M M1) := by
  change hd_Go mX5_moodBehind 0 [some (.ref 0), some (.int (nI n))] [] M N _
  refine hd_go kX5_moodBehind 999 (fun _ => rfl) rfl trivial ?_
  refine hd_ca kX5_moodBehind qX5_moodBehind (fun _ => rfl) (s_copyFrom_7_1 M N d hd ok.1) ?_
  rintro r M1 N1 ⟨rfl, rfl, hf1, hd1⟩
  refine hd_go kX5_moodBehind 999 (fun _ => rfl) rfl trivial ?_
  refine hd_ca kX5_moodBehind qX5_moodBehind (fun _ => rfl) (s_pass_7 M1 N1 d hd1 ok n hn) ?_
  rintro r M2 N2 ⟨rfl, rfl, hf2, hd2⟩
  refine hd_en_ kX5_moodBehind (fun _ => rfl) trivial ⟨rfl, rfl, ?_⟩
  exact (hf1.mo (fun c j h => by have h : 7 ≤ c ∧ c ≤ 11 := h; show 7 ≤ c ∧ c ≤ 12; omega)).tr hf2
set_option maxRecDepth 20000 in
theorem s_moodWith (M : hd_M) (N : hd_N) (d : dy_T) (hd : hm M 1 d) (ok : dy_ok d) (i w : Nat) (hi : i < d.1) (hw : w < 3) (v : Int32) (n : Nat) (hn : n ≤ 60) : hd_Ret mX5_moodWith [.ref 0, .int (nI i), .int (nI w), .int v, .int (nI n)] M N (fun r M1 N1 => r = some (.int (dy_md n (dy_set w i v d))) ∧ N1 = N ∧ fr tri M M1) := by
  change hd_Go mX5_moodWith 0 [some (.ref 0), some (.int (nI i)), some (.int (nI w)), some (.int v), some (.int (nI n))] [] M N _
  refine hd_go kX5_moodWith 999 (fun _ => rfl) rfl trivial ?_
  refine hd_ca kX5_moodWith qX5_moodWith (fun _ => rfl) (s_copyFrom_7_1 M N d hd ok.1) ?_
  rintro r M1 N1 ⟨rfl, rfl, hf1, hd1⟩
  refine hd_go kX5_moodWith 999 (fun _ => rfl) rfl trivial ?_
  refine hd_ca kX5_moodWith qX5_moodWith (fun _ => rfl) (s_change_7 M1 N1 i w (Nat.lt_of_lt_of_le hi ok.1) hw v) ?_
  rintro r M2 N2 ⟨rfl, rfl, rfl⟩
  refine hd_go kX5_moodWith 999 (fun _ => rfl) rfl trivial ?_
  refine hd_ca kX5_moodWith qX5_moodWith (fun _ => rfl) (s_pass_7 _ N2 _ (h_set_7 hd1 w i hw v) (dy_ok_set ok (by omega)) n hn) ?_
  rintro r M3 N3 ⟨rfl, rfl, hf3, hd3⟩
  refine hd_en_ kX5_moodWith (fun _ => rfl) trivial ⟨rfl, rfl, ?_⟩
  exact ((hf1.mo (fun c j h => by have h : 7 ≤ c ∧ c ≤ 11 := h; show 7 ≤ c ∧ c ≤ 12; omega)).up (by show 7 ≤ 8 + w ∧ 8 + w ≤ 12; omega)).tr hf3
set_option maxRecDepth 20000 in
theorem s_outBehind (M : hd_M) (N : hd_N) (d : dy_T) (hd : hm M 1 d) (ok : dy_ok d) (n : Nat) (hn : n ≤ 60) : hd_Ret mX5_outBehind [.ref 0, .int (nI n)] M N (fun r M1 N1 => r = some (.int (dy_bits (fun i => decide (0 < (dy_hs n d).2.2.2.2.2 3 i)) (dy_hs n d).1)) ∧ N1 = N ∧ fr tri M M1) := by
  change hd_Go mX5_outBehind 0 [some (.ref 0), some (.int (nI n))] [] M N _
  refine hd_go kX5_outBehind 999 (fun _ => rfl) rfl trivial ?_
  refine hd_ca kX5_outBehind qX5_outBehind (fun _ => rfl) (s_copyFrom_7_1 M N d hd ok.1) ?_
  rintro r M1 N1 ⟨rfl, rfl, hf1, hd1⟩
  refine hd_go kX5_outBehind 999 (fun _ => rfl) rfl trivial ?_
  refine hd_ca kX5_outBehind qX5_outBehind (fun _ => rfl) (s_pass_7 M1 N1 d hd1 ok n hn) ?_
  rintro r M2 N2 ⟨rfl, rfl, hf2, hd2⟩
  refine hd_go kX5_outBehind 999 (fun _ => rfl) rfl trivial ?_
  refine hd_ci kX5_outBehind qX5_outBehind (fun _ => rfl) (s_outBits_7 M2 N2 _ hd2 (dy_ok_hs n d ok)) ?_
  refine hd_en_ kX5_outBehind (fun _ => rfl) trivial ⟨rfl, rfl, ?_⟩
  exact (hf1.mo (fun c j h => by have h : 7 ≤ c ∧ c ≤ 11 := h; show 7 ≤ c ∧ c ≤ 12; omega)).tr hf2
/-- where the trial stands: a day, its cheers told, nothing else changed -/
def trS (M0 M : hd_M) (d : dy_T) : Prop := fr tri M0 M ∧ hm M 7 d ∧ dy_ok d ∧ ∀ i, i < d.1 → M 12 i = dy_ch d i
set_option maxRecDepth 20000 in
theorem s_one (M0 M : hd_M) (N : hd_N) (d : dy_T) (h : trS M0 M d) (lv : Int32) (lid : Bool) (hl : lv = if lid then 1 else 0) : hd_Ret mX0_passOne [.ref 7, .int lv] M N (fun r M1 N1 => r = none ∧ N1 = N ∧ trS M0 M1 (dy_ho lid d)) := by
  obtain ⟨h1, h2, h3, h4⟩ := h
  refine hd_Go.post ?_ (s_passOne_7 M N d h2 h3 h4 lv lid hl)
  rintro r M1 N1 ⟨rfl, rfl, hf, hd⟩
  refine ⟨rfl, rfl, h1.tr (hf.mo (fun c j z => by have z : 7 ≤ c ∧ c ≤ 11 := z; show 7 ≤ c ∧ c ≤ 12; omega)), hd, dy_ok_ho h3, fun i hi => ?_⟩
  rw [hf 12 i (by simp), dy_ch_ho]
  exact h4 i hi
set_option maxRecDepth 20000 in
theorem s_start (M : hd_M) (N : hd_N) (d : dy_T) (hd : hm M 1 d) (ok : dy_ok d) : hd_Ret mX5_startTrial [.ref 0] M N (fun r M1 N1 => r = none ∧ N1 = N ∧ trS M M1 d) := by
  refine hd_Go.post ?_ (s_startTrial M N d hd ok.1)
  rintro r M1 N1 ⟨rfl, rfl, hf, h1, h2⟩
  exact ⟨rfl, rfl, hf, h1, ok, h2⟩
set_option maxRecDepth 20000 in
theorem s_utmost_l (M : hd_M) (N : hd_N) (n : Nat) (hn : n ≤ 60) (g : Int32) : ∀ (m j : Nat) (u : Int32) (d : dy_T) (M' : hd_M), j + m = n → trS M M' d → hd_Go mX5_utmostMood 15 [some (.ref 0), some (.int (nI n)), some (.int g), some (.int u), some (.int (nI j))] [] M' N (fun r M1 N1 => r = some (.int (if g = 0 then dy_mn m u d else dy_mx m u d)) ∧ N1 = N ∧ fr tri M M1) := by
  intro m
  induction m with
  | zero =>
    intro j u d M' hj ht
    refine hd_go kX5_utmostMood 999 (fun _ => rfl) rfl trivial ?_
    refine hd_ju kX5_utmostMood (fun _ => rfl) (fun c => ?_) (fun c => ?_)
    · refine hd_go kX5_utmostMood 999 (fun _ => rfl) rfl trivial ?_
      refine hd_en_ kX5_utmostMood (fun _ => rfl) trivial ⟨?_, rfl, ht.1⟩
      rw [dy_mn, dy_mx, ite_self]
    · exact absurd (nI_le (by omega) (by omega)) c
  | succ m ih =>
    intro j u d M' hj ht
    refine hd_go kX5_utmostMood 999 (fun _ => rfl) rfl trivial ?_
    refine hd_ju kX5_utmostMood (fun _ => rfl) (fun c => ?_) (fun c => ?_)
    · exact absurd c (nI_ge (by omega) (by omega))
    refine hd_go kX5_utmostMood 999 (fun _ => rfl) rfl trivial ?_
    refine hd_ca kX5_utmostMood qX5_utmostMood (fun _ => rfl) (s_one M M' N d ht 0 false rfl) ?_
    rintro r M1 N1 ⟨rfl, rfl, ht1⟩
    refine hd_go kX5_utmostMood 999 (fun _ => rfl) rfl trivial ?_
    refine hd_ju kX5_utmostMood (fun _ => rfl) (fun c => ?_) (fun c => ?_)
    · refine hd_go kX5_utmostMood 999 (fun _ => rfl) rfl trivial ?_
      rw [nI_1, show M1 7 7 = (dy_ho false d).2.2.1 from ht1.2.1.2.2.1]
      have := ih (j + 1) (if (dy_ho false d).2.2.1 < u then (dy_ho false d).2.2.1 else u) _ M1 (by omega) ht1
      rw [if_pos c] at this ⊢
      exact this
    · refine hd_go kX5_utmostMood 999 (fun _ => rfl) rfl trivial ?_
      refine hd_go kX5_utmostMood 999 (fun _ => rfl) rfl trivial ?_
      rw [nI_1, show M1 7 7 = (dy_ho false d).2.2.1 from ht1.2.1.2.2.1]
      have := ih (j + 1) (if u < (dy_ho false d).2.2.1 then (dy_ho false d).2.2.1 else u) _ M1 (by omega) ht1
      rw [if_neg c] at this ⊢
      exact this
set_option maxRecDepth 20000 in
theorem s_utmost (M : hd_M) (N : hd_N) (d : dy_T) (hd : hm M 1 d) (ok : dy_ok d) (n : Nat) (hn : n ≤ 60) (g : Int32) : hd_Ret mX5_utmostMood [.ref 0, .int (nI n), .int g] M N (fun r M1 N1 => r = some (.int (if g = 0 then dy_mn n d.2.2.1 d else dy_mx n d.2.2.1 d)) ∧ N1 = N ∧ fr tri M M1) := by
  change hd_Go mX5_utmostMood 0 [some (.ref 0), some (.int (nI n)), some (.int g), none, none] [] M N _
  refine hd_go kX5_utmostMood 999 (fun _ => rfl) rfl trivial ?_
  refine hd_ca kX5_utmostMood qX5_utmostMood (fun _ => rfl) (s_start M N d hd ok) ?_
  rintro r M1 N1 ⟨rfl, rfl, ht⟩
  refine hd_go kX5_utmostMood 15 (fun _ => rfl) rfl trivial ?_
  rw [show M1 7 7 = d.2.2.1 from ht.2.1.2.2.1]
  exact s_utmost_l M N1 n hn g n 0 _ d M1 (by omega) ht
set_option maxRecDepth 20000 in
theorem s_first_l (M : hd_M) (N : hd_N) (d0 : dy_T) (h1 : hm M 1 d0) (n : Nat) (hn : n ≤ 60) : ∀ (m j : Nat) (d : dy_T) (M' : hd_M), j + m = n → trS M M' d → d.2.2.2.2.1 = d0.2.2.2.2.1 + nI j → hd_Go mX5_firstAtZero 6 [some (.ref 0), some (.int (nI n)), some (.int (nI j))] [] M' N (fun r M1 N1 => r = some (.int (dy_first (fun d => decide (d.2.2.1 = 0)) m j d)) ∧ N1 = N ∧ fr tri M M1) := by
  have tail : ∀ (j : Nat) (d : dy_T) (M' : hd_M), trS M M' d → d.2.2.2.2.1 = d0.2.2.2.2.1 + nI j → hd_Go mX5_firstAtZero 35 [some (.ref 0), some (.int (nI n)), some (.int (nI j))] [] M' N (fun r M1 N1 => r = some (.int (if d.2.2.1 = 0 then nI j else -4)) ∧ N1 = N ∧ fr tri M M1) := by
    intro j d M' ht hh
    refine hd_go kX5_firstAtZero 999 (fun _ => rfl) rfl trivial ?_
    rw [show M' 7 7 = d.2.2.1 from ht.2.1.2.2.1]
    refine hd_ju kX5_firstAtZero (fun _ => rfl) (fun c => ?_) (fun c => ?_)
    · refine hd_go kX5_firstAtZero 999 (fun _ => rfl) rfl trivial ?_
      refine hd_en_ kX5_firstAtZero (fun _ => rfl) trivial ⟨?_, rfl, ht.1⟩
      rw [if_neg c]
    · refine hd_go kX5_firstAtZero 999 (fun _ => rfl) rfl trivial ?_
      refine hd_en_ kX5_firstAtZero (fun _ => rfl) trivial ⟨?_, rfl, ht.1⟩
      rw [if_pos c, show M' 7 9 = d.2.2.2.2.1 from ht.2.1.2.2.2.2.1, ht.1 1 9 (by simp), show M 1 9 = d0.2.2.2.2.1 from h1.2.2.2.2.1, hh, Int32.add_comm, Int32.add_sub_cancel]
  intro m
  induction m with
  | zero =>
    intro j d M' hj ht hh
    refine hd_go kX5_firstAtZero 999 (fun _ => rfl) rfl trivial ?_
    refine hd_ju kX5_firstAtZero (fun _ => rfl) (fun c => ?_) (fun c => ?_)
    · refine hd_Go.post ?_ (tail j d M' ht hh)
      rintro r M1 N1 ⟨rfl, h2⟩
      refine ⟨?_, h2⟩
      by_cases z : d.2.2.1 = 0
      · simp [dy_first, z]
      · simp [dy_first, z]
    · exact absurd (nI_le (by omega) (by omega)) c
  | succ m ih =>
    intro j d M' hj ht hh
    refine hd_go kX5_firstAtZero 999 (fun _ => rfl) rfl trivial ?_
    refine hd_ju kX5_firstAtZero (fun _ => rfl) (fun c => ?_) (fun c => ?_)
    · exact absurd c (nI_ge (by omega) (by omega))
    refine hd_go kX5_firstAtZero 999 (fun _ => rfl) rfl trivial ?_
    rw [show M' 7 7 = d.2.2.1 from ht.2.1.2.2.1]
    refine hd_ju kX5_firstAtZero (fun _ => rfl) (fun c => ?_) (fun c => ?_)
    · have z : d.2.2.1 = 0 := Int32.le_antisymm c ht.2.2.1.2.2.2.2.1
      refine hd_Go.post ?_ (tail j d M' ht hh)
      rintro r M1 N1 ⟨rfl, h2⟩
      refine ⟨?_, h2⟩
      simp [dy_first, z]
    · have z : ¬ d.2.2.1 = 0 := fun z => c (by rw [z]; decide)
      refine hd_go kX5_firstAtZero 999 (fun _ => rfl) rfl trivial ?_
      refine hd_ca kX5_firstAtZero qX5_firstAtZero (fun _ => rfl) (s_one M M' N d ht 0 false rfl) ?_
      rintro r M1 N1 ⟨rfl, rfl, ht1⟩
      refine hd_go kX5_firstAtZero 999 (fun _ => rfl) rfl trivial ?_
      rw [nI_1]
      have := ih (j + 1) (dy_ho false d) M1 (by omega) ht1 (by show d.2.2.2.2.1 + 1 = _; rw [hh, nI_succ, Int32.add_assoc])
      rw [dy_first]
      simp only [z, decide_false, Bool.false_eq_true, if_false]
      exact this
set_option maxRecDepth 20000 in
theorem s_first0 (M : hd_M) (N : hd_N) (d : dy_T) (hd : hm M 1 d) (ok : dy_ok d) (n : Nat) (hn : n ≤ 60) : hd_Ret mX5_firstAtZero [.ref 0, .int (nI n)] M N (fun r M1 N1 => r = some (.int (dy_first (fun d => decide (d.2.2.1 = 0)) n 0 d)) ∧ N1 = N ∧ fr tri M M1) := by
  change hd_Go mX5_firstAtZero 0 [some (.ref 0), some (.int (nI n)), none] [] M N _
  refine hd_go kX5_firstAtZero 999 (fun _ => rfl) rfl trivial ?_
  refine hd_ca kX5_firstAtZero qX5_firstAtZero (fun _ => rfl) (s_start M N d hd ok) ?_
  rintro r M1 N1 ⟨rfl, rfl, ht⟩
  refine hd_go kX5_firstAtZero 6 (fun _ => rfl) rfl trivial ?_
  exact s_first_l M N1 d hd n hn n 0 d M1 (by omega) ht (by rw [nI_0, Int32.add_zero])
end
section
/-! THE CLASS'S PUBLIC METHODS; printed by wip/whole/api.py -/
set_option maxRecDepth 20000 in
theorem hd_byte {b : Nat} (h : b ≤ 127) : (nI b).toInt8.toInt32 = nI b := by
  have : ∀ b : Fin 128, (nI b.val).toInt8.toInt32 = nI b.val := by decide +kernel
  exact this ⟨b, by omega⟩
set_option maxRecDepth 20000 in
theorem CI.q {M M1 : hd_M} {st : ab_T} (h : CI M st) (he : fr tri M M1) : fr clsF M M1 ∧ CI M1 st := by
  refine ⟨he.mo (fun c j z => ?_), h.mv (he.mo (fun c j z => ?_))⟩
  · have z : 7 ≤ c ∧ c ≤ 12 := z
    show c ≤ 50; omega
  · have z : 7 ≤ c ∧ c ≤ 12 := z
    show (6 ≤ c ∧ c ≤ 12) ∨ 48 ≤ c; omega
set_option maxRecDepth 20000 in
theorem c_fault : cA mX5_fault [] an_fault := by
  intro M N st hI hO
  change hd_Go mX5_fault 0 [some (.ref 0)] [] M N _
  refine hd_go kX5_fault 999 (fun _ => rfl) rfl trivial ?_
  exact hd_en_ kX5_fault (fun _ => rfl) trivial ⟨by rw [hI.2.2.2.2.2.2]; rfl, rfl, fr.rf, hI⟩
set_option maxRecDepth 20000 in
theorem c_torn : cA mX5_torn [] an_torn := by
  intro M N st hI hO
  change hd_Go mX5_torn 0 [some (.ref 0)] [] M N _
  refine hd_go kX5_torn 999 (fun _ => rfl) rfl trivial ?_
  exact hd_en_ kX5_torn (fun _ => rfl) trivial ⟨by rw [hI.2.2.2.2.2.1]; rfl, rfl, fr.rf, hI⟩
set_option maxRecDepth 20000 in
theorem s_append (M : hd_M) (N : hd_N) (L : Nat) (hL : L ≤ 160) (h1 : M 16 1 = nI L) (b : Nat) (hb : b ≤ 127) : hd_Ret mX4_append [.ref 16, .int (nI b)] M N (fun r M1 N1 => N1 = N ∧ ((L = 160 ∧ r = some (.int 0) ∧ M1 = M) ∨ (L < 160 ∧ r = some (.int 1) ∧ M1 = hd_u (hd_u M 17 L (nI b)) 16 1 (nI (L + 1))))) := by
  change hd_Go mX4_append 0 [some (.ref 16), some (.int (nI b))] [] M N _
  have eb : (nI b).toInt8.toInt32 = nI b := hd_byte hb
  refine hd_go kX4_append 999 (fun _ => rfl) rfl trivial ?_
  rw [h1]
  refine hd_ju kX4_append (fun _ => rfl) (fun c => ?_) (fun c => ?_)
  · have hlt : L < 160 := by
      rcases Nat.lt_or_ge L 160 with z | z
      · exact z
      · exact absurd c (nI_nlt (b := 160) z (by omega))
    refine hd_go kX4_append 999 (fun _ => rfl) rfl ?_ ?_
    · rw [h1]
      exact ⟨trivial, vp_in_nI hlt (by decide), pk_vb _⟩
    rw [eb, h1, nI_clamp (by omega)]
    refine hd_en_ kX4_append (fun _ => rfl) (Or.inr rfl) ⟨rfl, Or.inr ⟨hlt, rfl, ?_⟩⟩
    rw [hd_u_n (by omega), h1, nI_1]
  · have hge : L = 160 := by
      rcases Nat.lt_or_ge L 160 with z | z
      · exact absurd (nI_lt (b := 160) z (by omega)) c
      · omega
    refine hd_go kX4_append 999 (fun _ => rfl) rfl trivial ?_
    exact hd_en_ kX4_append (fun _ => rfl) (Or.inl rfl) ⟨rfl, Or.inl ⟨hge, rfl, rfl⟩⟩
set_option maxRecDepth 20000 in
theorem c_feed (c : Int32) : cA mX5_feed [.int c] (an_feed c) := by
  intro M N st hI hO
  change hd_Go mX5_feed 0 [some (.ref 0), some (.int c)] [] M N _
  obtain ⟨hL, hb⟩ := hO.2.2.1
  refine hd_go kX5_feed 999 (fun _ => rfl) rfl trivial ?_
  refine hd_ci kX5_feed qX5_feed (fun _ => rfl) (s_isWithin _ _ _ M N) ?_
  refine hd_ju kX5_feed (fun _ => rfl) (fun q => ?_) (fun q => ?_)
  · have q := hd_b1.mp q
    obtain ⟨b, hb1, rfl⟩ := wi_nat (n := 127) rfl q
    refine hd_go kX5_feed 999 (fun _ => rfl) rfl trivial ?_
    refine hd_ca kX5_feed qX5_feed (fun _ => rfl) (s_append M N st.2.2.1.1 hL hI.2.2.1.1 b hb1) ?_
    rintro r M1 N1 ⟨rfl, ⟨h160, rfl, rfl⟩ | ⟨hlt, rfl, rfl⟩⟩
    · refine hd_ju kX5_feed (fun _ => rfl) (fun q2 => ?_) (fun q2 => absurd rfl q2)
      refine hd_go kX5_feed 999 (fun _ => rfl) rfl trivial ?_
      refine hd_en_ kX5_feed (fun _ => rfl) trivial ?_
      unfold an_feed
      rw [if_pos q, if_pos h160]
      exact ⟨rfl, rfl, fr.rf, hI⟩
    · refine hd_ju kX5_feed (fun _ => rfl) (fun q2 => absurd q2 (by decide)) (fun q2 => ?_)
      refine hd_go kX5_feed 999 (fun _ => rfl) rfl trivial ?_
      refine hd_en_ kX5_feed (fun _ => rfl) trivial ?_
      unfold an_feed
      rw [if_pos q, if_neg (by omega)]
      refine ⟨by rw [hd_u_s], rfl, (fr.rf.up (by simp)).up (by simp), ?_⟩
      refine hI.tape ((fr.rf.up (by simp)).up (by simp)) ⟨hd_u_s _ _ _ _, fun i hi => ?_⟩ ?_
      · have hi : i < st.2.2.1.1 + 1 := hi
        show _ = if i = st.2.2.1.1 then nI b else st.2.2.1.2 i
        rw [hd_u_n (by omega)]
        by_cases e : i = st.2.2.1.1
        · rw [if_pos e, e, hd_u_s]
        · rw [if_neg e, hd_u_n (by omega)]; exact hI.2.2.1.2 i (by omega)
      · rw [hd_u_n (by omega), hd_u_n (by omega)]; exact hI.2.2.2.2.2.2
  · have q := hd_b0.mp q
    refine hd_go kX5_feed 999 (fun _ => rfl) rfl trivial ?_
    refine hd_en_ kX5_feed (fun _ => rfl) trivial ?_
    unfold an_feed
    rw [if_neg q]
    exact ⟨rfl, rfl, fr.rf, hI⟩
set_option maxRecDepth 20000 in
theorem c_end (n : Int32) : cA mX5_end [.int n] (an_end n) := by
  intro M N st hI hO
  change hd_Go mX5_end 0 [some (.ref 0), some (.int n), none] [] M N _
  have hL := hO.2.2.1.1
  have e1 : M 16 1 = nI st.2.2.1.1 := hI.2.2.1.1
  refine hd_go kX5_end 999 (fun _ => rfl) rfl trivial ?_
  refine hd_ci kX5_end qX5_end (fun _ => rfl) (s_isWithin _ _ _ M N) ?_
  rw [e1]
  refine hd_ju kX5_end (fun _ => rfl) (fun q => ?_) (fun q => ?_)
  · have q := hd_b1.mp q
    obtain ⟨j, hj, rfl⟩ := nI_of2 (M := nI st.2.2.1.1) (n := st.2.2.1.1) (nI_toInt (by omega)) q.1 (Int32.not_lt.mp q.2)
    refine hd_go kX5_end 999 (fun _ => rfl) rfl trivial ?_
    refine hd_en_ kX5_end (fun _ => rfl) trivial ?_
    unfold an_end
    rw [if_pos q, nI_clamp (by omega)]
    refine ⟨by rw [e1], rfl, fr.rf.up (by simp), ?_⟩
    refine hI.tape (fr.rf.up (by simp)) ⟨hd_u_s _ _ _ _, fun i hi => ?_⟩ ?_
    · rw [hd_u_n (by omega)]; exact hI.2.2.1.2 i (Nat.lt_of_lt_of_le hi hj)
    · rw [hd_u_n (by omega)]; exact hI.2.2.2.2.2.2
  · have q := hd_b0.mp q
    refine hd_go kX5_end 999 (fun _ => rfl) rfl trivial ?_
    refine hd_en_ kX5_end (fun _ => rfl) trivial ?_
    unfold an_end
    rw [if_neg q]
    exact ⟨rfl, rfl, fr.rf, hI⟩
set_option maxRecDepth 20000 in
theorem c_rule (w : Int32) : cA mX5_rule [.int w] (an_rule w) := by
  intro M N st hI hO
  change hd_Go mX5_rule 0 [some (.ref 0), some (.int w)] [] M N _
  obtain ⟨a5, a6, a7, a8, a9, -⟩ := id hI.1
  refine hd_go kX5_rule 999 (fun _ => rfl) rfl trivial ?_
  refine hd_sc kX5_rule (fun _ => rfl) ⟨fun c => ?_, fun c0 => ⟨fun c => ?_, fun c1 => ⟨fun c => ?_, fun c2 => ⟨fun c => ?_, fun c3 => ⟨fun c => ?_, fun c4 => ⟨fun c => ?_, fun c5 => ⟨fun c => ?_, fun c6 => ?_⟩⟩⟩⟩⟩⟩⟩
  · subst c
    refine hd_go kX5_rule 999 (fun _ => rfl) rfl trivial ?_
    exact hd_en_ kX5_rule (fun _ => rfl) trivial ⟨by rw [a5]; rfl, rfl, fr.rf, hI⟩
  · subst c
    refine hd_go kX5_rule 999 (fun _ => rfl) rfl trivial ?_
    exact hd_en_ kX5_rule (fun _ => rfl) trivial ⟨by rw [a9]; rfl, rfl, fr.rf, hI⟩
  · subst c
    refine hd_go kX5_rule 999 (fun _ => rfl) rfl trivial ?_
    exact hd_en_ kX5_rule (fun _ => rfl) trivial ⟨by rw [a7]; rfl, rfl, fr.rf, hI⟩
  · subst c
    refine hd_go kX5_rule 999 (fun _ => rfl) rfl trivial ?_
    exact hd_en_ kX5_rule (fun _ => rfl) trivial ⟨by rw [a8]; rfl, rfl, fr.rf, hI⟩
  · subst c
    refine hd_go kX5_rule 999 (fun _ => rfl) rfl trivial ?_
    exact hd_en_ kX5_rule (fun _ => rfl) trivial ⟨by rw [a6]; rfl, rfl, fr.rf, hI⟩
  · subst c
    refine hd_go kX5_rule 999 (fun _ => rfl) rfl trivial ?_
    refine hd_ci kX5_rule qX5_rule (fun _ => rfl) (s_outBits_1 M N _ hI.1 hO.1) ?_
    exact hd_en_ kX5_rule (fun _ => rfl) trivial ⟨rfl, rfl, fr.rf, hI⟩
  · subst c
    refine hd_go kX5_rule 999 (fun _ => rfl) rfl trivial ?_
    refine hd_ci kX5_rule qX5_rule (fun _ => rfl) (s_crushed_1 M N _ hI.1 hO.1.1) ?_
    exact hd_en_ kX5_rule (fun _ => rfl) trivial ⟨rfl, rfl, fr.rf, hI⟩
  · refine hd_go kX5_rule 999 (fun _ => rfl) rfl trivial ?_
    refine hd_en_ kX5_rule (fun _ => rfl) trivial ⟨?_, rfl, fr.rf, hI⟩
    simp only [an_rule, c0, c1, c2, c3, c4, c5, c6, if_false]
set_option maxRecDepth 20000 in
theorem c_thing (i w : Int32) : cA mX5_thing [.int i, .int w] (an_thing i w) := by
  intro M N st hI hO
  change hd_Go mX5_thing 0 [some (.ref 0), some (.int i), some (.int w)] [] M N _
  obtain ⟨a5, a6, a7, a8, a9, b1, b2, b3, b4⟩ := id hI.1
  refine hd_go kX5_thing 999 (fun _ => rfl) rfl trivial ?_
  refine hd_ci kX5_thing qX5_thing (fun _ => rfl) (s_isThing _ M N) ?_
  rw [a5]
  refine hd_ju kX5_thing (fun _ => rfl) (fun q => ?_) (fun q => ?_)
  · have q := hd_b1.mp q
    obtain ⟨j, hj, rfl⟩ := an_th_nat q hO.1.1
    have h7 : j < 7 := Nat.lt_of_lt_of_le hj hO.1.1
    have ej : (nI j).toNatClampNeg = j := nI_clamp (by omega)
    have hv : vp_in (nI j) 7 := vp_in_nI h7 (by decide)
    have e1 : M 2 j = st.1.2.2.2.2.2 0 j := b1 j hj
    have e2 : M 3 j = st.1.2.2.2.2.2 1 j := b2 j hj
    have e3 : M 4 j = st.1.2.2.2.2.2 2 j := b3 j hj
    have e4 : M 5 j = st.1.2.2.2.2.2 3 j := b4 j hj
    have el : wsm (M 4) (j + 1) (st.1.1 - (j + 1)) = dy_ld st.1 j := wsm_cong _ _ (fun x h1 h2 => b3 x (by omega))
    unfold an_thing
    rw [if_pos q, ej]
    refine hd_go kX5_thing 999 (fun _ => rfl) rfl trivial ?_
    refine hd_sc kX5_thing (fun _ => rfl) ⟨fun c => ?_, fun c0 => ⟨fun c => ?_, fun c1 => ⟨fun c => ?_, fun c2 => ⟨fun c => ?_, fun c3 => ⟨fun c => ?_, fun c4 => ⟨fun c => ?_, fun c5 => ⟨fun c => ?_, fun c6 => ?_⟩⟩⟩⟩⟩⟩⟩
    · subst c
      refine hd_go kX5_thing 999 (fun _ => rfl) rfl ⟨trivial, hv⟩ ?_
      rw [ej]
      exact hd_en_ kX5_thing (fun _ => rfl) trivial ⟨by rw [e1]; rfl, rfl, fr.rf, hI⟩
    · subst c
      refine hd_go kX5_thing 999 (fun _ => rfl) rfl ⟨trivial, hv⟩ ?_
      rw [ej]
      exact hd_en_ kX5_thing (fun _ => rfl) trivial ⟨by rw [e2]; rfl, rfl, fr.rf, hI⟩
    · subst c
      refine hd_go kX5_thing 999 (fun _ => rfl) rfl ⟨trivial, hv⟩ ?_
      rw [ej]
      exact hd_en_ kX5_thing (fun _ => rfl) trivial ⟨by rw [e3]; rfl, rfl, fr.rf, hI⟩
    · subst c
      refine hd_go kX5_thing 999 (fun _ => rfl) rfl trivial ?_
      refine hd_ci kX5_thing qX5_thing (fun _ => rfl) (s_bearsOf_1 M N j h7) ?_
      exact hd_en_ kX5_thing (fun _ => rfl) trivial ⟨by rw [e1, e3]; rfl, rfl, fr.rf, hI⟩
    · subst c
      refine hd_go kX5_thing 999 (fun _ => rfl) rfl trivial ?_
      refine hd_ci kX5_thing qX5_thing (fun _ => rfl) (s_weightBehind_1 M N st.1.1 hO.1.1 a5 j h7) ?_
      exact hd_en_ kX5_thing (fun _ => rfl) trivial ⟨by rw [el]; rfl, rfl, fr.rf, hI⟩
    · subst c
      refine hd_go kX5_thing 999 (fun _ => rfl) rfl trivial ?_
      refine hd_ci kX5_thing qX5_thing (fun _ => rfl) (s_cheersOf_1 M N st.1.1 hO.1.1 a5 j h7) ?_
      refine hd_go kX5_thing 999 (fun _ => rfl) rfl trivial ?_
      exact hd_en_ kX5_thing (fun _ => rfl) trivial ⟨by rw [el, e1, e2, e3]; rfl, rfl, fr.rf, hI⟩
    · subst c
      refine hd_go kX5_thing 999 (fun _ => rfl) rfl ⟨trivial, hv⟩ ?_
      rw [ej]
      exact hd_en_ kX5_thing (fun _ => rfl) trivial ⟨by rw [e4]; rfl, rfl, fr.rf, hI⟩
    · refine hd_go kX5_thing 999 (fun _ => rfl) rfl trivial ?_
      refine hd_en_ kX5_thing (fun _ => rfl) trivial ⟨?_, rfl, fr.rf, hI⟩
      simp only [dy_tell, c0, c1, c2, c3, c4, c5, c6, if_false]
  · have q := hd_b0.mp q
    refine hd_go kX5_thing 999 (fun _ => rfl) rfl trivial ?_
    refine hd_en_ kX5_thing (fun _ => rfl) trivial ⟨?_, rfl, fr.rf, hI⟩
    unfold an_thing
    rw [if_neg q]
set_option maxRecDepth 20000 in
theorem dayF {M M1 : hd_M} (h : fr (fun c _ => 1 ≤ c ∧ c ≤ 6) M M1) : fr clsF M M1 ∧ fr (fun c _ => (1 ≤ c ∧ c ≤ 12) ∨ 48 ≤ c) M M1 := by
  refine ⟨h.mo (fun c j z => ?_), h.mo (fun c j z => ?_)⟩
  · have z : 1 ≤ c ∧ c ≤ 6 := z
    show c ≤ 50; omega
  · have z : 1 ≤ c ∧ c ≤ 6 := z
    show (1 ≤ c ∧ c ≤ 12) ∨ 48 ≤ c; omega
set_option maxRecDepth 20000 in
theorem tra_nat {w v : Int32} (h : tra w v) : ∃ j : Nat, j < 3 ∧ w = nI j := by
  rcases h with h | h | h
  · exact ⟨0, by decide, h.1⟩
  · exact ⟨1, by decide, h.1⟩
  · exact ⟨2, by decide, h.1⟩
set_option maxRecDepth 20000 in
theorem c_alter (i w v : Int32) : cA mX5_alter [.int i, .int w, .int v] (an_alter i w v) := by
  intro M N st hI hO
  change hd_Go mX5_alter 0 [some (.ref 0), some (.int i), some (.int w), some (.int v)] [] M N _
  obtain ⟨a5, a6, a7, a8, a9, b1, b2, b3, b4⟩ := id hI.1
  have bad : ¬ (an_th i st.1 ∧ tra w v) → hd_Go mX5_alter 16 [some (.ref 0), some (.int i), some (.int w), some (.int v)] [] M N (fun r M1 N1 => r = some (an_alter i w v st).1 ∧ N1 = N ∧ fr clsF M M1 ∧ CI M1 (an_alter i w v st).2) := by
    intro q
    refine hd_go kX5_alter 999 (fun _ => rfl) rfl trivial ?_
    refine hd_en_ kX5_alter (fun _ => rfl) trivial ?_
    unfold an_alter
    rw [if_neg q]
    exact ⟨rfl, rfl, fr.rf, hI⟩
  refine hd_go kX5_alter 999 (fun _ => rfl) rfl trivial ?_
  refine hd_ci kX5_alter qX5_alter (fun _ => rfl) (s_isThing _ M N) ?_
  rw [a5]
  refine hd_ju kX5_alter (fun _ => rfl) (fun q => bad (fun z => hd_b0.mp q z.1)) (fun q => ?_)
  have q := hd_b1.mp q
  refine hd_go kX5_alter 999 (fun _ => rfl) rfl trivial ?_
  refine hd_ci kX5_alter qX5_alter (fun _ => rfl) (s_isTrait _ _ M N) ?_
  refine hd_ju kX5_alter (fun _ => rfl) (fun q2 => ?_) (fun q2 => bad (fun z => hd_b0.mp q2 z.2))
  have q2 := hd_b1.mp q2
  have q3 : an_th i st.1 ∧ tra w v := ⟨q, q2⟩
  have h7 : st.1.1 ≤ 7 := hO.1.1
  obtain ⟨j, hj, rfl⟩ := an_th_nat q hO.1.1
  obtain ⟨u, hu, rfl⟩ := tra_nat q2
  refine hd_go kX5_alter 999 (fun _ => rfl) rfl trivial ?_
  refine hd_ca kX5_alter qX5_alter (fun _ => rfl) (s_change_1 M N j u (Nat.lt_of_lt_of_le hj hO.1.1) hu v) ?_
  rintro r M1 N1 ⟨rfl, rfl, rfl⟩
  refine hd_en_ kX5_alter (fun _ => rfl) trivial ?_
  unfold an_alter
  rw [if_pos q3, nI_clamp (by omega), nI_clamp (by omega)]
  have hf : fr (fun c _ => 1 ≤ c ∧ c ≤ 6) M (hd_u M (2 + u) j v) := fr.rf.up (by show 1 ≤ 2 + u ∧ 2 + u ≤ 6; omega)
  refine ⟨?_, rfl, (dayF hf).1, hI.day (dayF hf).2 (h_set_1 hI.1 u j hu v)⟩
  rcases (show u = 0 ∨ u = 1 ∨ u = 2 by omega) with rfl | rfl | rfl
  · rw [show M (2 + 0) j = st.1.2.2.2.2.2 0 j from b1 j hj]
  · rw [show M (2 + 1) j = st.1.2.2.2.2.2 1 j from b2 j hj]
  · rw [show M (2 + 2) j = st.1.2.2.2.2.2 2 j from b3 j hj]
set_option maxRecDepth 20000 in
theorem c_mood (v : Int32) : cA mX5_mood [.int v] (an_mood v) := by
  intro M N st hI hO
  change hd_Go mX5_mood 0 [some (.ref 0), some (.int v), none] [] M N _
  obtain ⟨a5, a6, a7, a8, a9, b1, b2, b3, b4⟩ := id hI.1
  refine hd_go kX5_mood 999 (fun _ => rfl) rfl trivial ?_
  refine hd_ci kX5_mood qX5_mood (fun _ => rfl) (s_isMood _ M N) ?_
  refine hd_ju kX5_mood (fun _ => rfl) (fun q => ?_) (fun q => ?_)
  · have q := hd_b1.mp q
    refine hd_go kX5_mood 999 (fun _ => rfl) rfl trivial ?_
    refine hd_en_ kX5_mood (fun _ => rfl) trivial ?_
    unfold an_mood
    rw [if_pos q]
    have hf : fr (fun c _ => 1 ≤ c ∧ c ≤ 6) M (hd_u M 1 7 v) := fr.rf.up (by simp)
    refine ⟨by rw [a7], rfl, (dayF hf).1, hI.day (dayF hf).2 ?_⟩
    refine ⟨?_, ?_, ?_, ?_, ?_, fun x hx => ?_, fun x hx => ?_, fun x hx => ?_, fun x hx => ?_⟩
    · rw [hd_u_n (by omega)]; exact a5
    · rw [hd_u_n (by omega)]; exact a6
    · exact hd_u_s _ _ _ _
    · rw [hd_u_n (by omega)]; exact a8
    · rw [hd_u_n (by omega)]; exact a9
    · rw [hd_u_n (by omega)]; exact b1 x hx
    · rw [hd_u_n (by omega)]; exact b2 x hx
    · rw [hd_u_n (by omega)]; exact b3 x hx
    · rw [hd_u_n (by omega)]; exact b4 x hx
  · have q := hd_b0.mp q
    refine hd_go kX5_mood 999 (fun _ => rfl) rfl trivial ?_
    refine hd_en_ kX5_mood (fun _ => rfl) trivial ?_
    unfold an_mood
    rw [if_neg q]
    exact ⟨rfl, rfl, fr.rf, hI⟩
set_option maxRecDepth 20000 in
theorem c_tire (v : Int32) : cA mX5_tire [.int v] (an_tire v) := by
  intro M N st hI hO
  change hd_Go mX5_tire 0 [some (.ref 0), some (.int v), none] [] M N _
  obtain ⟨a5, a6, a7, a8, a9, b1, b2, b3, b4⟩ := id hI.1
  refine hd_go kX5_tire 999 (fun _ => rfl) rfl trivial ?_
  refine hd_ci kX5_tire qX5_tire (fun _ => rfl) (s_isWithin _ _ _ M N) ?_
  refine hd_ju kX5_tire (fun _ => rfl) (fun q => ?_) (fun q => ?_)
  · have q := hd_b1.mp q
    refine hd_go kX5_tire 999 (fun _ => rfl) rfl trivial ?_
    refine hd_en_ kX5_tire (fun _ => rfl) trivial ?_
    unfold an_tire
    rw [if_pos q]
    have hf : fr (fun c _ => 1 ≤ c ∧ c ≤ 6) M (hd_u M 1 8 v) := fr.rf.up (by simp)
    refine ⟨by rw [a8], rfl, (dayF hf).1, hI.day (dayF hf).2 ?_⟩
    refine ⟨?_, ?_, ?_, ?_, ?_, fun x hx => ?_, fun x hx => ?_, fun x hx => ?_, fun x hx => ?_⟩
    · rw [hd_u_n (by omega)]; exact a5
    · rw [hd_u_n (by omega)]; exact a6
    · rw [hd_u_n (by omega)]; exact a7
    · exact hd_u_s _ _ _ _
    · rw [hd_u_n (by omega)]; exact a9
    · rw [hd_u_n (by omega)]; exact b1 x hx
    · rw [hd_u_n (by omega)]; exact b2 x hx
    · rw [hd_u_n (by omega)]; exact b3 x hx
    · rw [hd_u_n (by omega)]; exact b4 x hx
  · have q := hd_b0.mp q
    refine hd_go kX5_tire 999 (fun _ => rfl) rfl trivial ?_
    refine hd_en_ kX5_tire (fun _ => rfl) trivial ?_
    unfold an_tire
    rw [if_neg q]
    exact ⟨rfl, rfl, fr.rf, hI⟩
set_option maxRecDepth 20000 in
theorem s_allIn (M : hd_M) (N : hd_N) (d : dy_T) (hd : hm M 1 d) (ok : dy_ok d) : hd_Ret mX0_isAllIn [.ref 1] M N (hd_is (.int (hd_b (dy_all d))) M N) := by
  have h := s_isAllIn_1 M N
  rw [hd.1, hd.2.1] at h
  have hn := ok.1
  have hl := ok.2.1
  have e : hd_b (nI d.2.1 = nI d.1) = hd_b (dy_all d) := by
    unfold hd_b
    simp only [nI_eq (show d.2.1 < 2 ^ 31 by omega) (show d.1 < 2 ^ 31 by omega)]
  rw [e] at h
  exact h
set_option maxRecDepth 20000 in
theorem c_pack (k g w : Int32) : cA mX5_pack [.int k, .int g, .int w] (an_pack k g w) := by
  intro M N st hI hO
  change hd_Go mX5_pack 0 [some (.ref 0), some (.int k), some (.int g), some (.int w)] [] M N _
  have t0 : ∀ v, tra 0 v ↔ wi v 0 3 := fun v => by simp [tra]
  have t1 : ∀ v, tra 1 v ↔ wi v 0 9 := fun v => by simp [tra]
  have t2 : ∀ v, tra 2 v ↔ wi v 1 9 := fun v => by simp [tra]
  have bad : ¬ (wi k 0 3 ∧ wi g 0 9 ∧ wi w 1 9) → hd_Go mX5_pack 24 [some (.ref 0), some (.int k), some (.int g), some (.int w)] [] M N (fun r M1 N1 => r = some (an_pack k g w st).1 ∧ N1 = N ∧ fr clsF M M1 ∧ CI M1 (an_pack k g w st).2) := by
    intro q
    refine hd_go kX5_pack 999 (fun _ => rfl) rfl trivial ?_
    refine hd_en_ kX5_pack (fun _ => rfl) trivial ?_
    unfold an_pack
    rw [if_neg q]
    exact ⟨rfl, rfl, fr.rf, hI⟩
  refine hd_go kX5_pack 999 (fun _ => rfl) rfl trivial ?_
  refine hd_ci kX5_pack qX5_pack (fun _ => rfl) (s_isTrait _ _ M N) ?_
  refine hd_ju kX5_pack (fun _ => rfl) (fun q => bad (fun z => hd_b0.mp q ((t0 _).mpr z.1))) (fun q => ?_)
  have q0 := (t0 _).mp (hd_b1.mp q)
  refine hd_go kX5_pack 999 (fun _ => rfl) rfl trivial ?_
  refine hd_ci kX5_pack qX5_pack (fun _ => rfl) (s_isTrait _ _ M N) ?_
  refine hd_ju kX5_pack (fun _ => rfl) (fun q => bad (fun z => hd_b0.mp q ((t1 _).mpr z.2.1))) (fun q => ?_)
  have q1 := (t1 _).mp (hd_b1.mp q)
  refine hd_go kX5_pack 999 (fun _ => rfl) rfl trivial ?_
  refine hd_ci kX5_pack qX5_pack (fun _ => rfl) (s_isTrait _ _ M N) ?_
  refine hd_ju kX5_pack (fun _ => rfl) (fun q => ?_) (fun q => bad (fun z => hd_b0.mp q ((t2 _).mpr z.2.2)))
  have q2 := (t2 _).mp (hd_b1.mp q)
  refine hd_go kX5_pack 999 (fun _ => rfl) rfl trivial ?_
  refine hd_ci kX5_pack qX5_pack (fun _ => rfl) (s_allIn M N _ hI.1 hO.1) ?_
  unfold an_pack
  rw [if_pos ⟨q0, q1, q2⟩]
  refine hd_ju kX5_pack (fun _ => rfl) (fun q => ?_) (fun q => ?_)
  · have ha := hd_b1.mp q
    rw [if_pos ha]
    refine hd_go kX5_pack 999 (fun _ => rfl) rfl trivial ?_
    refine hd_ca kX5_pack qX5_pack (fun _ => rfl) (s_add_1 M N _ hI.1 hO.1.1 k g w) ?_
    rintro r M1 N1 ⟨rfl, ⟨h7, rfl, rfl⟩ | ⟨h7, rfl, hf, hd⟩⟩
    · refine hd_ju kX5_pack (fun _ => rfl) (fun q => ?_) (fun q => absurd rfl q)
      refine hd_go kX5_pack 999 (fun _ => rfl) rfl trivial ?_
      refine hd_en_ kX5_pack (fun _ => rfl) trivial ?_
      rw [if_pos h7]
      exact ⟨rfl, rfl, fr.rf, hI⟩
    · refine hd_ju kX5_pack (fun _ => rfl) (fun q => absurd q (by decide)) (fun q => ?_)
      refine hd_go kX5_pack 999 (fun _ => rfl) rfl trivial ?_
      refine hd_en_ kX5_pack (fun _ => rfl) trivial ?_
      rw [if_neg (by omega)]
      have hf2 : fr (fun c _ => 1 ≤ c ∧ c ≤ 6) M M1 := hf.mo (fun c j z => by have z : 1 ≤ c ∧ c ≤ 5 := z; show 1 ≤ c ∧ c ≤ 6; omega)
      exact ⟨by rw [hd.1]; rfl, rfl, (dayF hf2).1, hI.day (dayF hf2).2 hd⟩
  · have ha := hd_b0.mp q
    rw [if_neg ha]
    refine hd_go kX5_pack 999 (fun _ => rfl) rfl trivial ?_
    exact hd_en_ kX5_pack (fun _ => rfl) trivial ⟨rfl, rfl, fr.rf, hI⟩
set_option maxRecDepth 20000 in
theorem c_strap : cA mX5_strap [] an_strap := by
  intro M N st hI hO
  change hd_Go mX5_strap 0 [some (.ref 0), none] [] M N _
  refine hd_go kX5_strap 999 (fun _ => rfl) rfl trivial ?_
  refine hd_ca kX5_strap qX5_strap (fun _ => rfl) (s_bring_1 M N _ hI.1 hO.1.1) ?_
  rintro r M1 N1 ⟨rfl, rfl, hf, hd⟩
  refine hd_go kX5_strap 999 (fun _ => rfl) rfl trivial ?_
  have hf2 : fr (fun c _ => 1 ≤ c ∧ c ≤ 6) M M1 := hf.mo (fun c j z => by have z : 1 ≤ c ∧ c ≤ 5 := z; show 1 ≤ c ∧ c ≤ 6; omega)
  refine hd_en_ kX5_strap (fun _ => rfl) trivial ⟨?_, rfl, (dayF hf2).1, hI.day (dayF hf2).2 hd⟩
  rw [hI.1.1, hI.1.2.1]; rfl
set_option maxRecDepth 20000 in
theorem c_lift : cA mX5_lift [] an_lift := by
  intro M N st hI hO
  change hd_Go mX5_lift 0 [some (.ref 0)] [] M N _
  have h7 := hO.1.1
  have bad : (st.1.1 = 0 ∨ ¬ dy_all st.1) → hd_Go mX5_lift 20 [some (.ref 0)] [] M N (fun r M1 N1 => r = some (an_lift st).1 ∧ N1 = N ∧ fr clsF M M1 ∧ CI M1 (an_lift st).2) := by
    intro q
    refine hd_go kX5_lift 999 (fun _ => rfl) rfl trivial ?_
    refine hd_en_ kX5_lift (fun _ => rfl) trivial ?_
    unfold an_lift
    rw [if_pos q]
    exact ⟨rfl, rfl, fr.rf, hI⟩
  refine hd_go kX5_lift 999 (fun _ => rfl) rfl trivial ?_
  rw [hI.1.1]
  refine hd_ju kX5_lift (fun _ => rfl) (fun q => ?_) (fun q => ?_)
  · refine bad (Or.inl ?_)
    rcases Nat.eq_zero_or_pos st.1.1 with z | z
    · exact z
    · exact absurd q (nI_ne0 z (by omega))
  have hne : ¬ st.1.1 = 0 := fun z => q (by rw [z]; rfl)
  refine hd_go kX5_lift 999 (fun _ => rfl) rfl trivial ?_
  refine hd_ci kX5_lift qX5_lift (fun _ => rfl) (s_allIn M N _ hI.1 hO.1) ?_
  refine hd_ju kX5_lift (fun _ => rfl) (fun q => ?_) (fun q => bad (Or.inr (hd_b0.mp q)))
  have ha := hd_b1.mp q
  refine hd_go kX5_lift 999 (fun _ => rfl) rfl trivial ?_
  have e5 : M 1 5 - 1 = nI (st.1.1 - 1) := by
    rw [hI.1.1, show st.1.1 = (st.1.1 - 1) + 1 by omega, nI_pred]
    simp
  rw [e5]
  refine hd_ca kX5_lift qX5_lift (fun _ => rfl) (s_shrink_1 M N _ hI.1 h7 (st.1.1 - 1) (by omega)) ?_
  rintro r M1 N1 ⟨rfl, rfl, hf, hd⟩
  rw [if_pos (by omega)] at hd
  refine hd_go kX5_lift 999 (fun _ => rfl) rfl trivial ?_
  have hf2 : fr (fun c _ => 1 ≤ c ∧ c ≤ 6) M M1 := hf.mo (fun c j z => by have z : c = 1 := z; show 1 ≤ c ∧ c ≤ 6; omega)
  refine hd_en_ kX5_lift (fun _ => rfl) trivial ?_
  unfold an_lift
  rw [if_neg (fun z => z.elim hne (fun z => z ha))]
  exact ⟨by rw [hd.1]; rfl, rfl, (dayF hf2).1, hI.day (dayF hf2).2 hd⟩
set_option maxRecDepth 20000 in
theorem c_hours (n : Int32) : cA mX5_hours [.int n] (an_hours n) := by
  intro M N st hI hO
  change hd_Go mX5_hours 0 [some (.ref 0), some (.int n)] [] M N _
  refine hd_go kX5_hours 999 (fun _ => rfl) rfl trivial ?_
  refine hd_ci kX5_hours qX5_hours (fun _ => rfl) (s_isWithin _ _ _ M N) ?_
  unfold an_hours
  refine hd_ju kX5_hours (fun _ => rfl) (fun q => ?_) (fun q => ?_)
  · have q := hd_b1.mp q
    obtain ⟨j, hj, rfl⟩ := wi_nat (n := 30) rfl q
    rw [if_pos q, nI_clamp (by omega)]
    refine hd_go kX5_hours 999 (fun _ => rfl) rfl trivial ?_
    rw [show M 1 9 = st.1.2.2.2.2.1 from hI.1.2.2.2.2.1]
    refine hd_ju kX5_hours (fun _ => rfl) (fun c => ?_) (fun c => ?_)
    · rw [if_pos c]
      refine hd_go kX5_hours 999 (fun _ => rfl) rfl trivial ?_
      refine hd_ca kX5_hours qX5_hours (fun _ => rfl) (s_pass_1 M N _ hI.1 hO.1 j (by omega)) ?_
      rintro r M1 N1 ⟨rfl, rfl, hf, hd⟩
      exact hd_en_ kX5_hours (fun _ => rfl) trivial ⟨rfl, rfl, (dayF hf).1, hI.day (dayF hf).2 hd⟩
    · rw [if_neg c]
      refine hd_go kX5_hours 999 (fun _ => rfl) rfl trivial ?_
      exact hd_en_ kX5_hours (fun _ => rfl) trivial ⟨rfl, rfl, fr.rf, hI⟩
  · have q := hd_b0.mp q
    rw [if_neg q]
    refine hd_go kX5_hours 999 (fun _ => rfl) rfl trivial ?_
    exact hd_en_ kX5_hours (fun _ => rfl) trivial ⟨rfl, rfl, fr.rf, hI⟩
end
section
/-! THE CLASS'S QUESTIONS; printed by wip/whole/api2.py -/
set_option maxRecDepth 20000 in
theorem c_runs (n w : Int32) : cA mX5_runs [.int n, .int w] (an_runs n w) := by
  intro M N st hI hO
  change hd_Go mX5_runs 0 [some (.ref 0), some (.int n), some (.int w)] [] M N _
  unfold an_runs
  refine hd_go kX5_runs 999 (fun _ => rfl) rfl trivial ?_
  refine hd_ci kX5_runs qX5_runs (fun _ => rfl) (s_isSpan _ M N) ?_
  refine hd_ju kX5_runs (fun _ => rfl) (fun q => ?_) (fun q => ?_)
  · have q := hd_b1.mp q
    obtain ⟨j, hj, rfl⟩ := wi_nat (n := 60) rfl q
    rw [if_pos q, nI_clamp (by omega)]
    refine hd_go kX5_runs 999 (fun _ => rfl) rfl trivial ?_
    refine hd_sc kX5_runs (fun _ => rfl) ⟨fun c => ?_, fun c0 => ⟨fun c => ?_, fun c1 => ⟨fun c => ?_, fun c2 => ⟨fun c => ?_, fun c3 => ⟨fun c => ?_, fun c4 => ?_⟩⟩⟩⟩⟩
    · subst c
      refine hd_go kX5_runs 999 (fun _ => rfl) rfl trivial ?_
      refine hd_ca kX5_runs qX5_runs (fun _ => rfl) (s_moodBehind M N _ hI.1 hO.1 j hj) ?_
      rintro r M1 N1 ⟨rfl, rfl, hf⟩
      refine hd_en_ kX5_runs (fun _ => rfl) trivial ⟨congrArg (fun x => some (Value.int x)) ?_, rfl, hI.q hf⟩
      simp [dy_out]
    · subst c
      refine hd_go kX5_runs 999 (fun _ => rfl) rfl trivial ?_
      refine hd_ca kX5_runs qX5_runs (fun _ => rfl) (s_utmost M N _ hI.1 hO.1 j hj 1) ?_
      rintro r M1 N1 ⟨rfl, rfl, hf⟩
      refine hd_en_ kX5_runs (fun _ => rfl) trivial ⟨congrArg (fun x => some (Value.int x)) ?_, rfl, hI.q hf⟩
      simp [dy_out]
    · subst c
      refine hd_go kX5_runs 999 (fun _ => rfl) rfl trivial ?_
      refine hd_ca kX5_runs qX5_runs (fun _ => rfl) (s_utmost M N _ hI.1 hO.1 j hj 0) ?_
      rintro r M1 N1 ⟨rfl, rfl, hf⟩
      refine hd_en_ kX5_runs (fun _ => rfl) trivial ⟨congrArg (fun x => some (Value.int x)) ?_, rfl, hI.q hf⟩
      simp [dy_out]
    · subst c
      refine hd_go kX5_runs 999 (fun _ => rfl) rfl trivial ?_
      refine hd_ca kX5_runs qX5_runs (fun _ => rfl) (s_outBehind M N _ hI.1 hO.1 j hj) ?_
      rintro r M1 N1 ⟨rfl, rfl, hf⟩
      refine hd_en_ kX5_runs (fun _ => rfl) trivial ⟨congrArg (fun x => some (Value.int x)) ?_, rfl, hI.q hf⟩
      simp [dy_out]
    · subst c
      refine hd_go kX5_runs 999 (fun _ => rfl) rfl trivial ?_
      refine hd_ca kX5_runs qX5_runs (fun _ => rfl) (s_first0 M N _ hI.1 hO.1 j hj) ?_
      rintro r M1 N1 ⟨rfl, rfl, hf⟩
      refine hd_en_ kX5_runs (fun _ => rfl) trivial ⟨congrArg (fun x => some (Value.int x)) ?_, rfl, hI.q hf⟩
      simp [dy_out]
    · refine hd_go kX5_runs 999 (fun _ => rfl) rfl trivial ?_
      refine hd_en_ kX5_runs (fun _ => rfl) trivial ⟨?_, rfl, fr.rf, hI⟩
      simp only [c0, c1, c2, c3, c4, if_false]
  · have q := hd_b0.mp q
    rw [if_neg q]
    refine hd_go kX5_runs 999 (fun _ => rfl) rfl trivial ?_
    exact hd_en_ kX5_runs (fun _ => rfl) trivial ⟨rfl, rfl, fr.rf, hI⟩
set_option maxRecDepth 20000 in
theorem s_isGn7 (M : hd_M) (N : hd_N) (d : dy_T) (hd : hm M 7 d) (i : Nat) (hi : i < d.1) (hn : d.1 ≤ 7) : hd_Ret mX0_isGone [.ref 7, .int (nI i)] M N (hd_is (.int (hd_b (dy_gn i d = true))) M N) := by
  have h := s_isGone_7 M N i (by omega)
  rw [hd.2.1, show M 11 i = d.2.2.2.2.2 3 i from hd.2.2.2.2.2.2.2.2 i hi] at h
  have e : hd_b (¬ nI i < nI d.2.1 ∧ d.2.2.2.2.2 3 i = 0) = hd_b (dy_gn i d = true) := by
    unfold hd_b
    simp only [dy_gn, decide_eq_true_eq]
  rw [e] at h
  exact h
set_option maxRecDepth 20000 in
theorem s_isGn1 (M : hd_M) (N : hd_N) (d : dy_T) (hd : hm M 1 d) (i : Nat) (hi : i < d.1) (hn : d.1 ≤ 7) : hd_Ret mX0_isGone [.ref 1, .int (nI i)] M N (hd_is (.int (hd_b (dy_gn i d = true))) M N) := by
  have h := s_isGone_1 M N i (by omega)
  rw [hd.2.1, show M 5 i = d.2.2.2.2.2 3 i from hd.2.2.2.2.2.2.2.2 i hi] at h
  have e : hd_b (¬ nI i < nI d.2.1 ∧ d.2.2.2.2.2 3 i = 0) = hd_b (dy_gn i d = true) := by
    unfold hd_b
    simp only [dy_gn, decide_eq_true_eq]
  rw [e] at h
  exact h
set_option maxRecDepth 20000 in
theorem c_gone_l (M : hd_M) (N : hd_N) (i n7 : Nat) (hi : i < n7) (h7 : n7 ≤ 7) : ∀ (m j : Nat) (d : dy_T) (M' : hd_M), j + m = 60 → trS M M' d → d.1 = n7 → hd_Go mX5_gone 30 [some (.ref 0), some (.int (nI i)), some (.int (nI j))] [] M' N (fun r M1 N1 => r = some (.int (dy_first (dy_gn i) m j (dy_ho false d))) ∧ N1 = N ∧ fr tri M M1) := by
  intro m
  induction m with
  | zero =>
    intro j d M' hj ht hn
    have hj : j = 60 := by omega
    subst hj
    refine hd_go kX5_gone 999 (fun _ => rfl) rfl trivial ?_
    refine hd_ju kX5_gone (fun _ => rfl) (fun c => absurd c (by decide)) (fun c => ?_)
    refine hd_go kX5_gone 999 (fun _ => rfl) rfl trivial ?_
    refine hd_ca kX5_gone qX5_gone (fun _ => rfl) (s_one M M' N d ht 0 false rfl) ?_
    rintro r M1 N1 ⟨rfl, rfl, ht1⟩
    refine hd_go kX5_gone 999 (fun _ => rfl) rfl trivial ?_
    refine hd_ci kX5_gone qX5_gone (fun _ => rfl) (s_isGn7 M1 N1 _ ht1.2.1 i (by show i < d.1; omega) (by show d.1 ≤ 7; omega)) ?_
    rw [dy_first]
    refine hd_ju kX5_gone (fun _ => rfl) (fun c => ?_) (fun c => ?_)
    · rw [if_neg (hd_b0.mp c)]
      refine hd_go kX5_gone 999 (fun _ => rfl) rfl trivial ?_
      refine hd_go kX5_gone 999 (fun _ => rfl) rfl trivial ?_
      refine hd_ju kX5_gone (fun _ => rfl) (fun c => ?_) (fun c => absurd (by decide) c)
      refine hd_go kX5_gone 999 (fun _ => rfl) rfl trivial ?_
      exact hd_en_ kX5_gone (fun _ => rfl) trivial ⟨rfl, rfl, ht1.1⟩
    · rw [if_pos (hd_b1.mp c)]
      refine hd_go kX5_gone 999 (fun _ => rfl) rfl trivial ?_
      exact hd_en_ kX5_gone (fun _ => rfl) trivial ⟨rfl, rfl, ht1.1⟩
  | succ m ih =>
    intro j d M' hj ht hn
    refine hd_go kX5_gone 999 (fun _ => rfl) rfl trivial ?_
    refine hd_ju kX5_gone (fun _ => rfl) (fun c => absurd c (nI_nlt (b := j) (a := 60) (by omega) (by decide))) (fun c => ?_)
    refine hd_go kX5_gone 999 (fun _ => rfl) rfl trivial ?_
    refine hd_ca kX5_gone qX5_gone (fun _ => rfl) (s_one M M' N d ht 0 false rfl) ?_
    rintro r M1 N1 ⟨rfl, rfl, ht1⟩
    refine hd_go kX5_gone 999 (fun _ => rfl) rfl trivial ?_
    refine hd_ci kX5_gone qX5_gone (fun _ => rfl) (s_isGn7 M1 N1 _ ht1.2.1 i (by show i < d.1; omega) (by show d.1 ≤ 7; omega)) ?_
    rw [dy_first]
    refine hd_ju kX5_gone (fun _ => rfl) (fun c => ?_) (fun c => ?_)
    · rw [if_neg (hd_b0.mp c)]
      refine hd_go kX5_gone 999 (fun _ => rfl) rfl trivial ?_
      rw [nI_1]
      exact ih (j + 1) _ M1 (by omega) ht1 hn
    · rw [if_pos (hd_b1.mp c)]
      refine hd_go kX5_gone 999 (fun _ => rfl) rfl trivial ?_
      exact hd_en_ kX5_gone (fun _ => rfl) trivial ⟨rfl, rfl, ht1.1⟩
set_option maxRecDepth 20000 in
theorem c_gone (i : Int32) : cA mX5_gone [.int i] (an_gone i) := by
  intro M N st hI hO
  change hd_Go mX5_gone 0 [some (.ref 0), some (.int i), none] [] M N _
  unfold an_gone
  refine hd_go kX5_gone 999 (fun _ => rfl) rfl trivial ?_
  refine hd_ci kX5_gone qX5_gone (fun _ => rfl) (s_isThing _ M N) ?_
  rw [hI.1.1]
  refine hd_ju kX5_gone (fun _ => rfl) (fun q => ?_) (fun q => ?_)
  · have q := hd_b1.mp q
    have h7 := hO.1.1
    obtain ⟨j, hj, rfl⟩ := an_th_nat q h7
    rw [if_pos q, nI_clamp (by omega)]
    refine hd_go kX5_gone 999 (fun _ => rfl) rfl trivial ?_
    refine hd_ci kX5_gone qX5_gone (fun _ => rfl) (s_isGn1 M N _ hI.1 j hj h7) ?_
    refine hd_ju kX5_gone (fun _ => rfl) (fun c => ?_) (fun c => ?_)
    · rw [if_neg (hd_b0.mp c)]
      refine hd_go kX5_gone 999 (fun _ => rfl) rfl trivial ?_
      refine hd_ca kX5_gone qX5_gone (fun _ => rfl) (s_start M N _ hI.1 hO.1) ?_
      rintro r M1 N1 ⟨rfl, rfl, ht⟩
      refine hd_go kX5_gone 30 (fun _ => rfl) rfl trivial ?_
      refine hd_Go.post ?_ (c_gone_l M N1 j st.1.1 hj h7 59 1 st.1 M1 (by decide) ht rfl)
      rintro r M2 N2 ⟨rfl, rfl, hf⟩
      exact ⟨rfl, rfl, hI.q hf⟩
    · rw [if_pos (hd_b1.mp c)]
      refine hd_go kX5_gone 999 (fun _ => rfl) rfl trivial ?_
      exact hd_en_ kX5_gone (fun _ => rfl) trivial ⟨rfl, rfl, fr.rf, hI⟩
  · have q := hd_b0.mp q
    rw [if_neg q]
    refine hd_go kX5_gone 999 (fun _ => rfl) rfl trivial ?_
    exact hd_en_ kX5_gone (fun _ => rfl) trivial ⟨rfl, rfl, fr.rf, hI⟩
set_option maxRecDepth 20000 in
theorem c_glad_l (M : hd_M) (N : hd_N) (d0 : dy_T) (h1 : hm M 1 d0) (v : Int32) : ∀ (m j : Nat) (d : dy_T) (M' : hd_M), j + m = 60 → trS M M' d → d.2.2.2.2.1 = d0.2.2.2.2.1 + nI j → hd_Go mX5_glad 15 [some (.ref 0), some (.int v), some (.int (nI j))] [] M' N (fun r M1 N1 => r = some (.int (dy_first (fun d => decide (¬ d.2.2.1 < v)) m j d)) ∧ N1 = N ∧ fr tri M M1) := by
  have tail : ∀ (j : Nat) (d : dy_T) (M' : hd_M), trS M M' d → d.2.2.2.2.1 = d0.2.2.2.2.1 + nI j → hd_Go mX5_glad 46 [some (.ref 0), some (.int v), some (.int (nI j))] [] M' N (fun r M1 N1 => r = some (.int (if ¬ d.2.2.1 < v then nI j else -4)) ∧ N1 = N ∧ fr tri M M1) := by
    intro j d M' ht hh
    refine hd_go kX5_glad 999 (fun _ => rfl) rfl trivial ?_
    rw [show M' 7 7 = d.2.2.1 from ht.2.1.2.2.1]
    refine hd_ju kX5_glad (fun _ => rfl) (fun c => ?_) (fun c => ?_)
    · refine hd_go kX5_glad 999 (fun _ => rfl) rfl trivial ?_
      refine hd_en_ kX5_glad (fun _ => rfl) trivial ⟨?_, rfl, ht.1⟩
      rw [if_neg (fun z => z c)]
    · refine hd_go kX5_glad 999 (fun _ => rfl) rfl trivial ?_
      refine hd_en_ kX5_glad (fun _ => rfl) trivial ⟨?_, rfl, ht.1⟩
      rw [if_pos c, show M' 7 9 = d.2.2.2.2.1 from ht.2.1.2.2.2.2.1, ht.1 1 9 (by simp), show M 1 9 = d0.2.2.2.2.1 from h1.2.2.2.2.1, hh, Int32.add_comm, Int32.add_sub_cancel]
  intro m
  induction m with
  | zero =>
    intro j d M' hj ht hh
    have hj : j = 60 := by omega
    subst hj
    refine hd_go kX5_glad 999 (fun _ => rfl) rfl trivial ?_
    refine hd_ju kX5_glad (fun _ => rfl) (fun c => ?_) (fun c => absurd (by decide) c)
    refine hd_Go.post ?_ (tail 60 d M' ht hh)
    rintro r M1 N1 ⟨rfl, h2⟩
    refine ⟨?_, h2⟩
    by_cases z : d.2.2.1 < v
    · simp [dy_first, z]
    · simp [dy_first, z]
  | succ m ih =>
    intro j d M' hj ht hh
    refine hd_go kX5_glad 999 (fun _ => rfl) rfl trivial ?_
    refine hd_ju kX5_glad (fun _ => rfl) (fun c => absurd c (nI_ge (b := 60) (by omega) (by decide))) (fun c => ?_)
    refine hd_go kX5_glad 999 (fun _ => rfl) rfl trivial ?_
    rw [show M' 7 7 = d.2.2.1 from ht.2.1.2.2.1]
    refine hd_ju kX5_glad (fun _ => rfl) (fun c => ?_) (fun c => ?_)
    · have z : ¬ d.2.2.1 < v := Int32.not_lt.mpr c
      refine hd_Go.post ?_ (tail j d M' ht hh)
      rintro r M1 N1 ⟨rfl, h2⟩
      refine ⟨?_, h2⟩
      simp [dy_first, z]
    · have z : d.2.2.1 < v := Int32.not_le.mp c
      refine hd_go kX5_glad 999 (fun _ => rfl) rfl trivial ?_
      refine hd_ca kX5_glad qX5_glad (fun _ => rfl) (s_one M M' N d ht 0 false rfl) ?_
      rintro r M1 N1 ⟨rfl, rfl, ht1⟩
      refine hd_go kX5_glad 999 (fun _ => rfl) rfl trivial ?_
      rw [nI_1]
      have := ih (j + 1) (dy_ho false d) M1 (by omega) ht1 (by show d.2.2.2.2.1 + 1 = _; rw [hh, nI_succ, Int32.add_assoc])
      rw [dy_first]
      simp only [z, not_true, decide_false, Bool.false_eq_true, if_false]
      exact this
set_option maxRecDepth 20000 in
theorem c_glad (v : Int32) : cA mX5_glad [.int v] (an_glad v) := by
  intro M N st hI hO
  change hd_Go mX5_glad 0 [some (.ref 0), some (.int v), none] [] M N _
  unfold an_glad
  refine hd_go kX5_glad 999 (fun _ => rfl) rfl trivial ?_
  refine hd_ci kX5_glad qX5_glad (fun _ => rfl) (s_isMood _ M N) ?_
  refine hd_ju kX5_glad (fun _ => rfl) (fun q => ?_) (fun q => ?_)
  · have q := hd_b1.mp q
    rw [if_pos q]
    refine hd_go kX5_glad 999 (fun _ => rfl) rfl trivial ?_
    refine hd_ca kX5_glad qX5_glad (fun _ => rfl) (s_start M N _ hI.1 hO.1) ?_
    rintro r M1 N1 ⟨rfl, rfl, ht⟩
    refine hd_go kX5_glad 15 (fun _ => rfl) rfl trivial ?_
    refine hd_Go.post ?_ (c_glad_l M N1 st.1 hI.1 v 60 0 st.1 M1 (by decide) ht (by rw [nI_0, Int32.add_zero]))
    rintro r M2 N2 ⟨rfl, rfl, hf⟩
    exact ⟨rfl, rfl, hI.q hf⟩
  · have q := hd_b0.mp q
    rw [if_neg q]
    refine hd_go kX5_glad 999 (fun _ => rfl) rfl trivial ?_
    exact hd_en_ kX5_glad (fun _ => rfl) trivial ⟨rfl, rfl, fr.rf, hI⟩
set_option maxRecDepth 20000 in
theorem s_best_l (M : hd_M) (N : hd_N) (d : dy_T) (hd : hm M 1 d) (ok : dy_ok d) (ha : dy_all d) (n : Nat) (hn : n ≤ 60) (w t : Int32) (f : Nat → Int32) (hf : f = fun i => if t = 0 then dy_md n (dy_shr (d.1 - 1) (dy_rot i (d.1 - 1) d)) else dy_md n (dy_rot i (d.1 - 1) d)) : ∀ (m i : Nat) (b o x : Int32) (z : Option Value) (M' : hd_M), (z = none ∨ z = some (.int x)) → i + m = d.1 → fr tri M M' → hd_Go mX5_bestOfOne 45 [some (.ref 0), some (.int (nI n)), some (.int w), some (.int t), some (.int b), some (.int o), some (.int (nI i)), z] [] M' N (fun r M1 N1 => r = some (.int (dy_fob (dy_best f nI m i b o).2 (dy_best f nI m i b o).1 w)) ∧ N1 = N ∧ fr tri M M1) := by
  intro m
  induction m with
  | zero =>
    intro i b o x z M' hz hi hfr
    have h5 : M' 1 5 = nI d.1 := (hfr 1 5 (by simp)).trans hd.1
    have h7 := ok.1
    refine hd_Go.less (lv' := [some (.ref 0), some (.int (nI n)), some (.int w), some (.int t), some (.int b), some (.int o), some (.int (nI i)), none]) (by simp) ?_ ?_
    · rcases hz with rfl | rfl
      · exact fun _ _ h => h
      · intro j v h
        match j, h with
        | 0, h => exact h
        | 1, h => exact h
        | 2, h => exact h
        | 3, h => exact h
        | 4, h => exact h
        | 5, h => exact h
        | 6, h => exact h
        | 7, h => cases h
        | j + 8, h => cases h
    refine hd_go kX5_bestOfOne 999 (fun _ => rfl) rfl trivial ?_
    rw [h5]
    refine hd_ju kX5_bestOfOne (fun _ => rfl) (fun c => ?_) (fun c => absurd (nI_le (by omega) (by omega)) c)
    refine hd_go kX5_bestOfOne 999 (fun _ => rfl) rfl trivial ?_
    refine hd_ci kX5_bestOfOne qX5_bestOfOne (fun _ => rfl) (s_fob _ _ _ M' N) ?_
    exact hd_en_ kX5_bestOfOne (fun _ => rfl) trivial ⟨rfl, rfl, hfr⟩
  | succ m ih =>
    intro i b o x z M' hz hi hfr
    have h5 : M' 1 5 = nI d.1 := (hfr 1 5 (by simp)).trans hd.1
    have h7 := ok.1
    have hd' : hm M' 1 d := hd.mv (fun c j h1 h2 => hfr c j (by show ¬ (7 ≤ c ∧ c ≤ 12); omega))
    refine hd_Go.less (lv' := [some (.ref 0), some (.int (nI n)), some (.int w), some (.int t), some (.int b), some (.int o), some (.int (nI i)), none]) (by simp) ?_ ?_
    · rcases hz with rfl | rfl
      · exact fun _ _ h => h
      · intro j v h
        match j, h with
        | 0, h => exact h
        | 1, h => exact h
        | 2, h => exact h
        | 3, h => exact h
        | 4, h => exact h
        | 5, h => exact h
        | 6, h => exact h
        | 7, h => cases h
        | j + 8, h => cases h
    refine hd_go kX5_bestOfOne 999 (fun _ => rfl) rfl trivial ?_
    rw [h5]
    refine hd_ju kX5_bestOfOne (fun _ => rfl) (fun c => absurd c (nI_ge (by omega) (by omega))) (fun c => ?_)
    refine hd_go kX5_bestOfOne 999 (fun _ => rfl) rfl trivial ?_
    refine hd_ca kX5_bestOfOne qX5_bestOfOne (fun _ => rfl) (s_copyFrom_7_1 M' N d hd' h7) ?_
    rintro r M1 N1 ⟨rfl, rfl, hf1, hd1⟩
    have hfr1 : fr tri M M1 := hfr.tr (hf1.mo (fun c j h => by have h : 7 ≤ c ∧ c ≤ 11 := h; show 7 ≤ c ∧ c ≤ 12; omega))
    -- behind the trial
    have tail : ∀ (M2 : hd_M), fr tri M M2 → hd_Go mX5_bestOfOne 103 [some (.ref 0), some (.int (nI n)), some (.int w), some (.int t), some (.int b), some (.int o), some (.int (nI i)), some (.int (f i))] [] M2 N1 (fun r M1 N2 => r = some (.int (dy_fob (dy_best f nI (m + 1) i b o).2 (dy_best f nI (m + 1) i b o).1 w)) ∧ N2 = N1 ∧ fr tri M M1) := by
      intro M2 hfr2
      refine hd_go kX5_bestOfOne 999 (fun _ => rfl) rfl trivial ?_
      rw [dy_best]
      refine hd_ju kX5_bestOfOne (fun _ => rfl) (fun c => ?_) (fun c => ?_)
      · rw [if_neg (Int32.not_lt.mpr c)]
        refine hd_go kX5_bestOfOne 999 (fun _ => rfl) rfl trivial ?_
        rw [nI_1]
        exact ih (i + 1) b o (f i) _ M2 (Or.inr rfl) (by omega) hfr2
      · rw [if_pos (Int32.not_le.mp c)]
        refine hd_go kX5_bestOfOne 999 (fun _ => rfl) rfl trivial ?_
        rw [nI_1]
        exact ih (i + 1) (f i) (nI i) (f i) _ M2 (Or.inr rfl) (by omega) hfr2
    refine hd_go kX5_bestOfOne 999 (fun _ => rfl) rfl trivial ?_
    refine hd_ju kX5_bestOfOne (fun _ => rfl) (fun c => ?_) (fun c => ?_)
    · refine hd_go kX5_bestOfOne 999 (fun _ => rfl) rfl trivial ?_
      refine hd_ca kX5_bestOfOne qX5_bestOfOne (fun _ => rfl) (s_takeAway_7 M1 N1 d hd1 h7 i (by omega)) ?_
      rintro r M2 N2 ⟨rfl, rfl, hf2, hd2⟩
      refine hd_go kX5_bestOfOne 999 (fun _ => rfl) rfl trivial ?_
      refine hd_ca kX5_bestOfOne qX5_bestOfOne (fun _ => rfl) (s_pass_7 M2 N2 _ hd2 (dy_ok_shr (dy_ok_rot ok) ha (Nat.sub_le _ _)) n hn) ?_
      rintro r M3 N3 ⟨rfl, rfl, hf3, hd3⟩
      refine hd_go kX5_bestOfOne 103 (fun _ => rfl) rfl trivial ?_
      have := tail M3 ((hfr1.tr (hf2.mo (fun c j h => by have h : 7 ≤ c ∧ c ≤ 11 := h; show 7 ≤ c ∧ c ≤ 12; omega))).tr hf3)
      have e : f i = dy_md n (dy_shr (d.1 - 1) (dy_rot i (d.1 - 1) d)) := by rw [hf]; exact if_pos c
      rw [e] at this
      exact this
    · refine hd_go kX5_bestOfOne 999 (fun _ => rfl) rfl trivial ?_
      refine hd_ca kX5_bestOfOne qX5_bestOfOne (fun _ => rfl) (s_layTop_7 M1 N1 i d.1 h7 (by omega) hd1.1) ?_
      rintro r M2 N2 ⟨rfl, rfl, h2⟩
      have hd2 := h_rot_7 hd1 i (by omega) h2
      refine hd_go kX5_bestOfOne 999 (fun _ => rfl) rfl trivial ?_
      refine hd_go kX5_bestOfOne 999 (fun _ => rfl) rfl trivial ?_
      refine hd_ca kX5_bestOfOne qX5_bestOfOne (fun _ => rfl) (s_pass_7 M2 N2 _ hd2 (dy_ok_rot ok) n hn) ?_
      rintro r M3 N3 ⟨rfl, rfl, hf3, hd3⟩
      refine hd_go kX5_bestOfOne 103 (fun _ => rfl) rfl trivial ?_
      have hfr2 : fr tri M M2 := hfr1.tr (fun c x hc => by rw [h2, if_neg (by have hc : ¬ (7 ≤ c ∧ c ≤ 12) := hc; omega)])
      have := tail M3 (hfr2.tr hf3)
      have e : f i = dy_md n (dy_rot i (d.1 - 1) d) := by rw [hf]; exact if_neg c
      rw [e] at this
      exact this
set_option maxRecDepth 20000 in
theorem s_bestOfOne (M : hd_M) (N : hd_N) (d : dy_T) (hd : hm M 1 d) (ok : dy_ok d) (n w t : Int32) : hd_Ret mX5_bestOfOne [.ref 0, .int n, .int w, .int t] M N (fun r M1 N1 => r = some (.int (if wi n 0 60 ∧ wi w 0 1 then (if dy_all d then dy_opt (fun i => if t = 0 then dy_md n.toNatClampNeg (dy_shr (d.1 - 1) (dy_rot i (d.1 - 1) d)) else dy_md n.toNatClampNeg (dy_rot i (d.1 - 1) d)) nI d.1 (dy_md n.toNatClampNeg d) w else -2) else -1)) ∧ N1 = N ∧ fr tri M M1) := by
  change hd_Go mX5_bestOfOne 0 [some (.ref 0), some (.int n), some (.int w), some (.int t), none, none, none, none] [] M N _
  have bad : ¬ (wi n 0 60 ∧ wi w 0 1) → hd_Go mX5_bestOfOne 16 [some (.ref 0), some (.int n), some (.int w), some (.int t), none, none, none, none] [] M N (fun r M1 N1 => r = some (.int (if wi n 0 60 ∧ wi w 0 1 then (if dy_all d then dy_opt (fun i => if t = 0 then dy_md n.toNatClampNeg (dy_shr (d.1 - 1) (dy_rot i (d.1 - 1) d)) else dy_md n.toNatClampNeg (dy_rot i (d.1 - 1) d)) nI d.1 (dy_md n.toNatClampNeg d) w else -2) else -1)) ∧ N1 = N ∧ fr tri M M1) := by
    intro q
    refine hd_go kX5_bestOfOne 999 (fun _ => rfl) rfl trivial ?_
    exact hd_en_ kX5_bestOfOne (fun _ => rfl) trivial ⟨by rw [if_neg q], rfl, fr.rf⟩
  refine hd_go kX5_bestOfOne 999 (fun _ => rfl) rfl trivial ?_
  refine hd_ci kX5_bestOfOne qX5_bestOfOne (fun _ => rfl) (s_isSpan _ M N) ?_
  refine hd_ju kX5_bestOfOne (fun _ => rfl) (fun q => bad (fun z => hd_b0.mp q z.1)) (fun q => ?_)
  have q1 := hd_b1.mp q
  refine hd_go kX5_bestOfOne 999 (fun _ => rfl) rfl trivial ?_
  refine hd_ci kX5_bestOfOne qX5_bestOfOne (fun _ => rfl) (s_isWithin _ _ _ M N) ?_
  refine hd_ju kX5_bestOfOne (fun _ => rfl) (fun q => ?_) (fun q => bad (fun z => hd_b0.mp q z.2))
  have q2 := hd_b1.mp q
  rw [if_pos ⟨q1, q2⟩]
  obtain ⟨j, hj, rfl⟩ := wi_nat (n := 60) rfl q1
  rw [nI_clamp (by omega)]
  refine hd_go kX5_bestOfOne 999 (fun _ => rfl) rfl trivial ?_
  refine hd_ci kX5_bestOfOne qX5_bestOfOne (fun _ => rfl) (s_allIn M N _ hd ok) ?_
  refine hd_ju kX5_bestOfOne (fun _ => rfl) (fun q => ?_) (fun q => ?_)
  · have ha := hd_b1.mp q
    rw [if_pos ha]
    refine hd_go kX5_bestOfOne 999 (fun _ => rfl) rfl trivial ?_
    refine hd_ca kX5_bestOfOne qX5_bestOfOne (fun _ => rfl) (s_moodBehind M N d hd ok j hj) ?_
    rintro r M1 N1 ⟨rfl, rfl, hf⟩
    refine hd_go kX5_bestOfOne 45 (fun _ => rfl) rfl trivial ?_
    exact s_best_l M N1 d hd ok ha j hj w t _ rfl d.1 0 _ _ 0 _ M1 (Or.inl rfl) (by omega) hf
  · rw [if_neg (hd_b0.mp q)]
    refine hd_go kX5_bestOfOne 999 (fun _ => rfl) rfl trivial ?_
    exact hd_en_ kX5_bestOfOne (fun _ => rfl) trivial ⟨rfl, rfl, fr.rf⟩
set_option maxRecDepth 20000 in
theorem c_leave (n w : Int32) : cA mX5_leave [.int n, .int w] (an_leave n w) := by
  intro M N st hI hO
  change hd_Go mX5_leave 0 [some (.ref 0), some (.int n), some (.int w)] [] M N _
  refine hd_go kX5_leave 999 (fun _ => rfl) rfl trivial ?_
  refine hd_ca kX5_leave qX5_leave (fun _ => rfl) (s_bestOfOne M N _ hI.1 hO.1 n w 0) ?_
  rintro r M1 N1 ⟨rfl, rfl, hf⟩
  exact hd_en_ kX5_leave (fun _ => rfl) trivial ⟨rfl, rfl, hI.q hf⟩
set_option maxRecDepth 20000 in
theorem c_top (n w : Int32) : cA mX5_top [.int n, .int w] (an_top n w) := by
  intro M N st hI hO
  change hd_Go mX5_top 0 [some (.ref 0), some (.int n), some (.int w)] [] M N _
  refine hd_go kX5_top 999 (fun _ => rfl) rfl trivial ?_
  refine hd_ca kX5_top qX5_top (fun _ => rfl) (s_bestOfOne M N _ hI.1 hO.1 n w 1) ?_
  rintro r M1 N1 ⟨rfl, rfl, hf⟩
  exact hd_en_ kX5_top (fun _ => rfl) trivial ⟨rfl, rfl, hI.q hf⟩
end
section
/-! THE CLASS'S QUESTIONS, GONE ON; printed by wip/whole/api3.py -/
set_option maxRecDepth 20000 in
theorem se_so_false {se : se_T} {d : dy_T} : ∀ (m n : Nat), m ≤ n → se_so se d m = false → se_so se d n = false := by
  intro m n h h0
  induction n with
  | zero => have : m = 0 := by omega
            subst this; exact h0
  | succ n ih =>
    rcases Nat.lt_or_ge n m with z | z
    · have : m = n + 1 := by omega
      subst this; exact h0
    · rw [se_so, ih z, Bool.false_and]
set_option maxRecDepth 20000 in
theorem hd_fg7 {I : hd_I} {pc : Nat} {st : List Value} {M : hd_M} {N : hd_N} {Q : hd_Q} {a0 a1 a2 a3 a4 a5 a6 z : Option Value} (h : hd_Go I pc [a0, a1, a2, a3, a4, a5, a6, none] st M N Q) : hd_Go I pc [a0, a1, a2, a3, a4, a5, a6, z] st M N Q := by
  refine hd_Go.less (lv' := [a0, a1, a2, a3, a4, a5, a6, none]) (by simp) ?_ h
  intro j v h
  match j, h with
  | 0, h => exact h
  | 1, h => exact h
  | 2, h => exact h
  | 3, h => exact h
  | 4, h => exact h
  | 5, h => exact h
  | 6, h => exact h
  | 7, h => cases h
  | j + 8, h => cases h
set_option maxRecDepth 20000 in
theorem hd_fg67 {I : hd_I} {pc : Nat} {st : List Value} {M : hd_M} {N : hd_N} {Q : hd_Q} {a0 a1 a2 a3 a4 a5 y z : Option Value} (h : hd_Go I pc [a0, a1, a2, a3, a4, a5, none, none] st M N Q) : hd_Go I pc [a0, a1, a2, a3, a4, a5, y, z] st M N Q := by
  refine hd_Go.less (lv' := [a0, a1, a2, a3, a4, a5, none, none]) (by simp) ?_ h
  intro j v h
  match j, h with
  | 0, h => exact h
  | 1, h => exact h
  | 2, h => exact h
  | 3, h => exact h
  | 4, h => exact h
  | 5, h => exact h
  | 6, h => cases h
  | 7, h => cases h
  | j + 8, h => cases h
set_option maxRecDepth 20000 in
theorem hm.tr1 {M M' : hd_M} {d : dy_T} (h : hm M 1 d) (hf : fr tri M M') : hm M' 1 d := h.mv (fun c j h1 h2 => hf c j (by show ¬ (7 ≤ c ∧ c ≤ 12); omega))
set_option maxRecDepth 20000 in
theorem tri_of {M M' M1 : hd_M} (h : fr tri M M') (h1 : fr (fun c _ => 7 ≤ c ∧ c ≤ 11) M' M1) : fr tri M M1 := h.tr (h1.mo (fun c j h => by have h : 7 ≤ c ∧ c ≤ 11 := h; show 7 ≤ c ∧ c ≤ 12; omega))
set_option maxRecDepth 20000 in
theorem c_swap_i (M : hd_M) (N : hd_N) (d : dy_T) (hd : hm M 1 d) (ok : dy_ok d) (n : Nat) (hn : n ≤ 60) (w : Int32) (i : Nat) (hi : i < d.1) (Q : hd_Q) : ∀ (m j : Nat) (b o : Int32) (M' : hd_M), j + m = d.1 → i < j → fr tri M M' → (∀ (M1 : hd_M) (y z : Option Value), fr tri M M1 → hd_Go mX5_swap 131 [some (.ref 0), some (.int (nI n)), some (.int w), some (.int (dy_best (fun j => dy_md n (dy_exc i j d)) (fun j => 10 * nI i + nI j) m j b o).1), some (.int (dy_best (fun j => dy_md n (dy_exc i j d)) (fun j => 10 * nI i + nI j) m j b o).2), some (.int (nI i)), y, z] [] M1 N Q) → hd_Go mX5_swap 62 [some (.ref 0), some (.int (nI n)), some (.int w), some (.int b), some (.int o), some (.int (nI i)), some (.int (nI j)), none] [] M' N Q := by
  intro m
  induction m with
  | zero =>
    intro j b o M' hj hij hf hk
    have h5 : M' 1 5 = nI d.1 := (hf 1 5 (by simp)).trans hd.1
    have h7 := ok.1
    refine hd_go kX5_swap 999 (fun _ => rfl) rfl trivial ?_
    rw [h5]
    refine hd_ju kX5_swap (fun _ => rfl) (fun c => ?_) (fun c => absurd (nI_le (by omega) (by omega)) c)
    exact hk M' _ _ hf
  | succ m ih =>
    intro j b o M' hj hij hf hk
    have h5 : M' 1 5 = nI d.1 := (hf 1 5 (by simp)).trans hd.1
    have h7 := ok.1
    refine hd_go kX5_swap 999 (fun _ => rfl) rfl trivial ?_
    rw [h5]
    refine hd_ju kX5_swap (fun _ => rfl) (fun c => absurd c (nI_ge (by omega) (by omega))) (fun c => ?_)
    refine hd_go kX5_swap 999 (fun _ => rfl) rfl trivial ?_
    refine hd_ca kX5_swap qX5_swap (fun _ => rfl) (s_copyFrom_7_1 M' N d (hd.tr1 hf) h7) ?_
    rintro r M1 N1 ⟨rfl, rfl, hf1, hd1⟩
    refine hd_go kX5_swap 999 (fun _ => rfl) rfl trivial ?_
    refine hd_ca kX5_swap qX5_swap (fun _ => rfl) (s_exch_7 M1 N1 i j (by omega) (by omega)) ?_
    rintro r M2 N2 ⟨rfl, rfl, h2⟩
    have hd2 := h_exc_7 hd1 i j hi (by omega) h2
    have hf2 : fr tri M M2 := (tri_of hf hf1).tr (fun c x hc => by rw [h2, if_neg (by have hc : ¬ (7 ≤ c ∧ c ≤ 12) := hc; omega)])
    refine hd_go kX5_swap 999 (fun _ => rfl) rfl trivial ?_
    refine hd_ca kX5_swap qX5_swap (fun _ => rfl) (s_pass_7 M2 N2 _ hd2 (dy_ok_exc ok) n hn) ?_
    rintro r M3 N3 ⟨rfl, rfl, hf3, hd3⟩
    refine hd_go kX5_swap 999 (fun _ => rfl) rfl trivial ?_
    have e9 : (dy_hs n (dy_exc i j d)).2.2.1 = dy_md n (dy_exc i j d) := rfl
    rw [e9]
    rw [dy_best] at hk
    refine hd_ju kX5_swap (fun _ => rfl) (fun c => ?_) (fun c => ?_)
    · rw [if_neg (Int32.not_lt.mpr c)] at hk
      refine hd_go kX5_swap 999 (fun _ => rfl) rfl trivial ?_
      rw [nI_1]
      exact hd_fg7 (ih (j + 1) b o M3 (by omega) (by omega) (hf2.tr hf3) hk)
    · rw [if_pos (Int32.not_le.mp c)] at hk
      refine hd_go kX5_swap 999 (fun _ => rfl) rfl trivial ?_
      rw [nI_1]
      exact hd_fg7 (ih (j + 1) _ _ M3 (by omega) (by omega) (hf2.tr hf3) hk)
set_option maxRecDepth 20000 in
theorem c_swap_o (M : hd_M) (N : hd_N) (d : dy_T) (hd : hm M 1 d) (ok : dy_ok d) (n : Nat) (hn : n ≤ 60) (w : Int32) : ∀ (m i : Nat) (b o : Int32) (M' : hd_M), i + m = d.1 → fr tri M M' → hd_Go mX5_swap 44 [some (.ref 0), some (.int (nI n)), some (.int w), some (.int b), some (.int o), some (.int (nI i)), none, none] [] M' N (fun r M1 N1 => r = some (.int (dy_fob (dy_swp n d m i b o).2 (dy_swp n d m i b o).1 w)) ∧ N1 = N ∧ fr tri M M1) := by
  intro m
  induction m with
  | zero =>
    intro i b o M' hi hf
    have h5 : M' 1 5 = nI d.1 := (hf 1 5 (by simp)).trans hd.1
    have h7 := ok.1
    refine hd_go kX5_swap 999 (fun _ => rfl) rfl trivial ?_
    rw [h5]
    refine hd_ju kX5_swap (fun _ => rfl) (fun c => ?_) (fun c => absurd (nI_le (by omega) (by omega)) c)
    refine hd_go kX5_swap 999 (fun _ => rfl) rfl trivial ?_
    refine hd_ci kX5_swap qX5_swap (fun _ => rfl) (s_fob _ _ _ M' N) ?_
    exact hd_en_ kX5_swap (fun _ => rfl) trivial ⟨rfl, rfl, hf⟩
  | succ m ih =>
    intro i b o M' hi hf
    have h5 : M' 1 5 = nI d.1 := (hf 1 5 (by simp)).trans hd.1
    have h7 := ok.1
    refine hd_go kX5_swap 999 (fun _ => rfl) rfl trivial ?_
    rw [h5]
    refine hd_ju kX5_swap (fun _ => rfl) (fun c => absurd c (nI_ge (by omega) (by omega))) (fun c => ?_)
    refine hd_go kX5_swap 62 (fun _ => rfl) rfl trivial ?_
    rw [nI_1]
    refine c_swap_i M N d hd ok n hn w i (by omega) _ (d.1 - (i + 1)) (i + 1) b o M' (by omega) (by omega) hf (fun M1 y z hf1 => ?_)
    refine hd_go kX5_swap 999 (fun _ => rfl) rfl trivial ?_
    rw [nI_1]
    exact hd_fg67 (ih (i + 1) _ _ M1 (by omega) hf1)
set_option maxRecDepth 20000 in
theorem c_swap (n w : Int32) : cA mX5_swap [.int n, .int w] (an_swap n w) := by
  intro M N st hI hO
  change hd_Go mX5_swap 0 [some (.ref 0), some (.int n), some (.int w), none, none, none, none, none] [] M N _
  unfold an_swap
  have bad : ¬ (wi n 0 60 ∧ wi w 0 1) → hd_Go mX5_swap 16 [some (.ref 0), some (.int n), some (.int w), none, none, none, none, none] [] M N (fun r M1 N1 => r = some (an_swap n w st).1 ∧ N1 = N ∧ fr clsF M M1 ∧ CI M1 (an_swap n w st).2) := by
    intro q
    refine hd_go kX5_swap 999 (fun _ => rfl) rfl trivial ?_
    refine hd_en_ kX5_swap (fun _ => rfl) trivial ⟨?_, rfl, fr.rf, hI⟩
    unfold an_swap
    rw [if_neg q]
  unfold an_swap at bad
  refine hd_go kX5_swap 999 (fun _ => rfl) rfl trivial ?_
  refine hd_ci kX5_swap qX5_swap (fun _ => rfl) (s_isSpan _ M N) ?_
  refine hd_ju kX5_swap (fun _ => rfl) (fun q => bad (fun z => hd_b0.mp q z.1)) (fun q => ?_)
  have q1 := hd_b1.mp q
  refine hd_go kX5_swap 999 (fun _ => rfl) rfl trivial ?_
  refine hd_ci kX5_swap qX5_swap (fun _ => rfl) (s_isWithin _ _ _ M N) ?_
  refine hd_ju kX5_swap (fun _ => rfl) (fun q => ?_) (fun q => bad (fun z => hd_b0.mp q z.2))
  have q2 := hd_b1.mp q
  rw [if_pos ⟨q1, q2⟩]
  obtain ⟨j, hj, rfl⟩ := wi_nat (n := 60) rfl q1
  rw [nI_clamp (by omega)]
  refine hd_go kX5_swap 999 (fun _ => rfl) rfl trivial ?_
  refine hd_ci kX5_swap qX5_swap (fun _ => rfl) (s_allIn M N _ hI.1 hO.1) ?_
  refine hd_ju kX5_swap (fun _ => rfl) (fun q => ?_) (fun q => ?_)
  · have ha := hd_b1.mp q
    rw [if_pos ha]
    refine hd_go kX5_swap 999 (fun _ => rfl) rfl trivial ?_
    refine hd_ca kX5_swap qX5_swap (fun _ => rfl) (s_moodBehind M N _ hI.1 hO.1 j hj) ?_
    rintro r M1 N1 ⟨rfl, rfl, hf⟩
    refine hd_go kX5_swap 44 (fun _ => rfl) rfl trivial ?_
    refine hd_Go.post ?_ (c_swap_o M N1 st.1 hI.1 hO.1 j hj w st.1.1 0 _ _ M1 (by omega) hf)
    rintro r M2 N2 ⟨rfl, rfl, hf2⟩
    exact ⟨rfl, rfl, hI.q hf2⟩
  · rw [if_neg (hd_b0.mp q)]
    refine hd_go kX5_swap 999 (fun _ => rfl) rfl trivial ?_
    exact hd_en_ kX5_swap (fun _ => rfl) trivial ⟨rfl, rfl, fr.rf, hI⟩
set_option maxRecDepth 20000 in
theorem c_need_l (M : hd_M) (N : hd_N) (d : dy_T) (hd : hm M 1 d) (ok : dy_ok d) (i : Nat) (hi : i < d.1) (n : Nat) (hn : n ≤ 60) (v : Int32) : ∀ (m g : Nat) (M' : hd_M), g + m = 10 → fr tri M M' → hd_Go mX5_need 27 [some (.ref 0), some (.int (nI i)), some (.int (nI n)), some (.int v), some (.int (nI g))] [] M' N (fun r M1 N1 => r = some (.int (dy_fst (fun g => decide (¬ dy_md n (dy_set 1 i (nI g) d) < v)) m g)) ∧ N1 = N ∧ fr tri M M1) := by
  intro m
  induction m with
  | zero =>
    intro g M' hg hf
    refine hd_go kX5_need 999 (fun _ => rfl) rfl trivial ?_
    refine hd_ju kX5_need (fun _ => rfl) (fun c => ?_) (fun c => absurd (nI_le (a := 10) (by omega) (by omega)) c)
    refine hd_go kX5_need 999 (fun _ => rfl) rfl trivial ?_
    exact hd_en_ kX5_need (fun _ => rfl) trivial ⟨rfl, rfl, hf⟩
  | succ m ih =>
    intro g M' hg hf
    refine hd_go kX5_need 999 (fun _ => rfl) rfl trivial ?_
    refine hd_ju kX5_need (fun _ => rfl) (fun c => absurd c (nI_ge (b := 10) (by omega) (by decide))) (fun c => ?_)
    refine hd_go kX5_need 999 (fun _ => rfl) rfl trivial ?_
    refine hd_ca kX5_need qX5_need (fun _ => rfl) (s_moodWith M' N d (hd.tr1 hf) ok i 1 hi (by decide) (nI g) n hn) ?_
    rintro r M1 N1 ⟨rfl, rfl, hf1⟩
    refine hd_go kX5_need 999 (fun _ => rfl) rfl trivial ?_
    rw [dy_fst]
    refine hd_ju kX5_need (fun _ => rfl) (fun c => ?_) (fun c => ?_)
    · rw [if_neg (by simp [c])]
      refine hd_go kX5_need 999 (fun _ => rfl) rfl trivial ?_
      rw [nI_1]
      exact ih (g + 1) M1 (by omega) (hf.tr hf1)
    · rw [if_pos (by simp [c])]
      refine hd_go kX5_need 999 (fun _ => rfl) rfl trivial ?_
      exact hd_en_ kX5_need (fun _ => rfl) trivial ⟨rfl, rfl, hf.tr hf1⟩
set_option maxRecDepth 20000 in
theorem c_need (i n v : Int32) : cA mX5_need [.int i, .int n, .int v] (an_need i n v) := by
  intro M N st hI hO
  change hd_Go mX5_need 0 [some (.ref 0), some (.int i), some (.int n), some (.int v), none] [] M N _
  have bad : ¬ (an_th i st.1 ∧ wi n 0 60 ∧ wi v 0 99) → hd_Go mX5_need 22 [some (.ref 0), some (.int i), some (.int n), some (.int v), none] [] M N (fun r M1 N1 => r = some (an_need i n v st).1 ∧ N1 = N ∧ fr clsF M M1 ∧ CI M1 (an_need i n v st).2) := by
    intro q
    refine hd_go kX5_need 999 (fun _ => rfl) rfl trivial ?_
    refine hd_en_ kX5_need (fun _ => rfl) trivial ⟨?_, rfl, fr.rf, hI⟩
    unfold an_need
    rw [if_neg q]
  unfold an_need at bad ⊢
  refine hd_go kX5_need 999 (fun _ => rfl) rfl trivial ?_
  refine hd_ci kX5_need qX5_need (fun _ => rfl) (s_isThing _ M N) ?_
  rw [hI.1.1]
  refine hd_ju kX5_need (fun _ => rfl) (fun q => bad (fun z => hd_b0.mp q z.1)) (fun q => ?_)
  have q1 := hd_b1.mp q
  refine hd_go kX5_need 999 (fun _ => rfl) rfl trivial ?_
  refine hd_ci kX5_need qX5_need (fun _ => rfl) (s_isSpan _ M N) ?_
  refine hd_ju kX5_need (fun _ => rfl) (fun q => bad (fun z => hd_b0.mp q z.2.1)) (fun q => ?_)
  have q2 := hd_b1.mp q
  refine hd_go kX5_need 999 (fun _ => rfl) rfl trivial ?_
  refine hd_ci kX5_need qX5_need (fun _ => rfl) (s_isMood _ M N) ?_
  refine hd_ju kX5_need (fun _ => rfl) (fun q => ?_) (fun q => bad (fun z => hd_b0.mp q z.2.2))
  have q3 := hd_b1.mp q
  rw [if_pos ⟨q1, q2, q3⟩]
  have h7 := hO.1.1
  obtain ⟨x, hx, rfl⟩ := an_th_nat q1 h7
  obtain ⟨j, hj, rfl⟩ := wi_nat (n := 60) rfl q2
  rw [nI_clamp (show x < 2 ^ 31 by omega), nI_clamp (show j < 2 ^ 31 by omega)]
  refine hd_go kX5_need 27 (fun _ => rfl) rfl trivial ?_
  refine hd_Go.post ?_ (c_need_l M N st.1 hI.1 hO.1 x hx j hj v 10 0 M (by decide) fr.rf)
  rintro r M2 N2 ⟨rfl, rfl, hf2⟩
  exact ⟨rfl, rfl, hI.q hf2⟩
set_option maxRecDepth 20000 in
theorem c_kind_l (M : hd_M) (N : hd_N) (d : dy_T) (hd : hm M 1 d) (ok : dy_ok d) (i : Nat) (hi : i < d.1) (n : Nat) (hn : n ≤ 60) (w : Int32) (f : Nat → Int32) (hfe : f = fun k => dy_md n (dy_set 0 i (nI k) d)) : ∀ (m k : Nat) (b o : Int32) (M' : hd_M), k + m = 4 → fr tri M M' → hd_Go mX5_kind 36 [some (.ref 0), some (.int (nI i)), some (.int (nI n)), some (.int w), some (.int b), some (.int o), some (.int (nI k)), none] [] M' N (fun r M1 N1 => r = some (.int (dy_fob (dy_best f nI m k b o).2 (dy_best f nI m k b o).1 w)) ∧ N1 = N ∧ fr tri M M1) := by
  intro m
  induction m with
  | zero =>
    intro k b o M' hk hf
    refine hd_go kX5_kind 999 (fun _ => rfl) rfl trivial ?_
    refine hd_ju kX5_kind (fun _ => rfl) (fun c => ?_) (fun c => absurd (nI_lt (a := 3) (by omega) (by omega)) c)
    refine hd_go kX5_kind 999 (fun _ => rfl) rfl trivial ?_
    refine hd_ci kX5_kind qX5_kind (fun _ => rfl) (s_fob _ _ _ M' N) ?_
    exact hd_en_ kX5_kind (fun _ => rfl) trivial ⟨rfl, rfl, hf⟩
  | succ m ih =>
    intro k b o M' hk hf
    refine hd_go kX5_kind 999 (fun _ => rfl) rfl trivial ?_
    refine hd_ju kX5_kind (fun _ => rfl) (fun c => absurd c (nI_nlt (a := 3) (by omega) (by decide))) (fun c => ?_)
    refine hd_go kX5_kind 999 (fun _ => rfl) rfl trivial ?_
    refine hd_ca kX5_kind qX5_kind (fun _ => rfl) (s_moodWith M' N d (hd.tr1 hf) ok i 0 hi (by decide) (nI k) n hn) ?_
    rintro r M1 N1 ⟨rfl, rfl, hf1⟩
    refine hd_go kX5_kind 999 (fun _ => rfl) rfl trivial ?_
    have e9 : dy_md n (dy_set 0 i (nI k) d) = f k := by rw [hfe]
    rw [dy_best, e9]
    refine hd_ju kX5_kind (fun _ => rfl) (fun c => ?_) (fun c => ?_)
    · rw [if_neg (Int32.not_lt.mpr c)]
      refine hd_go kX5_kind 999 (fun _ => rfl) rfl trivial ?_
      rw [nI_1]
      exact hd_fg7 (ih (k + 1) b o M1 (by omega) (hf.tr hf1))
    · rw [if_pos (Int32.not_le.mp c)]
      refine hd_go kX5_kind 999 (fun _ => rfl) rfl trivial ?_
      rw [nI_1]
      exact hd_fg7 (ih (k + 1) _ _ M1 (by omega) (hf.tr hf1))
set_option maxRecDepth 20000 in
theorem c_kind (i n w : Int32) : cA mX5_kind [.int i, .int n, .int w] (an_kind i n w) := by
  intro M N st hI hO
  change hd_Go mX5_kind 0 [some (.ref 0), some (.int i), some (.int n), some (.int w), none, none, none, none] [] M N _
  have bad : ¬ (an_th i st.1 ∧ wi n 0 60 ∧ wi w 0 1) → hd_Go mX5_kind 24 [some (.ref 0), some (.int i), some (.int n), some (.int w), none, none, none, none] [] M N (fun r M1 N1 => r = some (an_kind i n w st).1 ∧ N1 = N ∧ fr clsF M M1 ∧ CI M1 (an_kind i n w st).2) := by
    intro q
    refine hd_go kX5_kind 999 (fun _ => rfl) rfl trivial ?_
    refine hd_en_ kX5_kind (fun _ => rfl) trivial ⟨?_, rfl, fr.rf, hI⟩
    unfold an_kind
    rw [if_neg q]
  unfold an_kind at bad ⊢
  refine hd_go kX5_kind 999 (fun _ => rfl) rfl trivial ?_
  refine hd_ci kX5_kind qX5_kind (fun _ => rfl) (s_isThing _ M N) ?_
  rw [hI.1.1]
  refine hd_ju kX5_kind (fun _ => rfl) (fun q => bad (fun z => hd_b0.mp q z.1)) (fun q => ?_)
  have q1 := hd_b1.mp q
  refine hd_go kX5_kind 999 (fun _ => rfl) rfl trivial ?_
  refine hd_ci kX5_kind qX5_kind (fun _ => rfl) (s_isSpan _ M N) ?_
  refine hd_ju kX5_kind (fun _ => rfl) (fun q => bad (fun z => hd_b0.mp q z.2.1)) (fun q => ?_)
  have q2 := hd_b1.mp q
  refine hd_go kX5_kind 999 (fun _ => rfl) rfl trivial ?_
  refine hd_ci kX5_kind qX5_kind (fun _ => rfl) (s_isWithin _ _ _ M N) ?_
  refine hd_ju kX5_kind (fun _ => rfl) (fun q => ?_) (fun q => bad (fun z => hd_b0.mp q z.2.2))
  have q3 := hd_b1.mp q
  rw [if_pos ⟨q1, q2, q3⟩]
  have h7 := hO.1.1
  obtain ⟨x, hx, rfl⟩ := an_th_nat q1 h7
  obtain ⟨j, hj, rfl⟩ := wi_nat (n := 60) rfl q2
  rw [nI_clamp (show x < 2 ^ 31 by omega), nI_clamp (show j < 2 ^ 31 by omega)]
  refine hd_go kX5_kind 36 (fun _ => rfl) rfl trivial ?_
  refine hd_Go.post ?_ (c_kind_l M N st.1 hI.1 hO.1 x hx j hj w _ rfl 4 0 _ _ M (by decide) fr.rf)
  rintro r M2 N2 ⟨rfl, rfl, hf2⟩
  exact ⟨rfl, rfl, hI.q hf2⟩
set_option maxRecDepth 20000 in
theorem h_tire7 {M : hd_M} {d : dy_T} (hd : hm M 7 d) (v : Int32) : hm (hd_u M 7 8 v) 7 (dy_tire v d) := by
  obtain ⟨a5, a6, a7, a8, a9, b1, b2, b3, b4⟩ := hd
  refine ⟨?_, ?_, ?_, ?_, ?_, fun x hx => ?_, fun x hx => ?_, fun x hx => ?_, fun x hx => ?_⟩
  · rw [hd_u_n (by omega)]; exact a5
  · rw [hd_u_n (by omega)]; exact a6
  · rw [hd_u_n (by omega)]; exact a7
  · exact hd_u_s _ _ _ _
  · rw [hd_u_n (by omega)]; exact a9
  · rw [hd_u_n (by omega)]; exact b1 x hx
  · rw [hd_u_n (by omega)]; exact b2 x hx
  · rw [hd_u_n (by omega)]; exact b3 x hx
  · rw [hd_u_n (by omega)]; exact b4 x hx
set_option maxRecDepth 20000 in
theorem c_bear_l (M : hd_M) (N : hd_N) (d : dy_T) (hd : hm M 1 d) (ok : dy_ok d) (n : Nat) (hn : n ≤ 60) (v : Int32) : ∀ (m : Nat) (M' : hd_M), m ≤ 10 → fr tri M M' → hd_Go mX5_bear 19 [some (.ref 0), some (.int (nI n)), some (.int v), some (.int (nI m - 1))] [] M' N (fun r M1 N1 => r = some (.int (dy_lstd (fun t => decide (¬ dy_md n (dy_tire (nI t) d) < v)) m)) ∧ N1 = N ∧ fr tri M M1) := by
  intro m
  induction m with
  | zero =>
    intro M' hm0 hf
    refine hd_go kX5_bear 999 (fun _ => rfl) rfl trivial ?_
    refine hd_ju kX5_bear (fun _ => rfl) (fun c => ?_) (fun c => absurd (by decide) c)
    refine hd_go kX5_bear 999 (fun _ => rfl) rfl trivial ?_
    exact hd_en_ kX5_bear (fun _ => rfl) trivial ⟨rfl, rfl, hf⟩
  | succ m ih =>
    intro M' hm0 hf
    rw [nI_pred]
    refine hd_go kX5_bear 999 (fun _ => rfl) rfl trivial ?_
    refine hd_ju kX5_bear (fun _ => rfl) (fun c => absurd c (nI_pos (by omega))) (fun c => ?_)
    refine hd_go kX5_bear 999 (fun _ => rfl) rfl trivial ?_
    refine hd_ca kX5_bear qX5_bear (fun _ => rfl) (s_copyFrom_7_1 M' N d (hd.tr1 hf) ok.1) ?_
    rintro r M1 N1 ⟨rfl, rfl, hf1, hd1⟩
    refine hd_go kX5_bear 999 (fun _ => rfl) rfl trivial ?_
    refine hd_ca kX5_bear qX5_bear (fun _ => rfl) (s_pass_7 _ N1 _ (h_tire7 hd1 (nI m)) (dy_ok_tire ok) n hn) ?_
    rintro r M2 N2 ⟨rfl, rfl, hf2, hd2⟩
    have hf9 : fr tri M M2 := ((tri_of hf hf1).up (show tri 7 8 from ⟨by decide, by decide⟩)).tr hf2
    refine hd_go kX5_bear 999 (fun _ => rfl) rfl trivial ?_
    have e9 : (dy_hs n (dy_tire (nI m) d)).2.2.1 = dy_md n (dy_tire (nI m) d) := rfl
    rw [dy_lstd, e9]
    refine hd_ju kX5_bear (fun _ => rfl) (fun c => ?_) (fun c => ?_)
    · rw [if_neg (by simp [c])]
      refine hd_go kX5_bear 999 (fun _ => rfl) rfl trivial ?_
      rw [← Int32.sub_eq_add_neg]
      exact ih M2 (by omega) hf9
    · rw [if_pos (by simp [c])]
      refine hd_go kX5_bear 999 (fun _ => rfl) rfl trivial ?_
      exact hd_en_ kX5_bear (fun _ => rfl) trivial ⟨rfl, rfl, hf9⟩
set_option maxRecDepth 20000 in
theorem c_bear (n v : Int32) : cA mX5_bear [.int n, .int v] (an_bear n v) := by
  intro M N st hI hO
  change hd_Go mX5_bear 0 [some (.ref 0), some (.int n), some (.int v), none] [] M N _
  have bad : ¬ (wi n 0 60 ∧ wi v 0 99) → hd_Go mX5_bear 14 [some (.ref 0), some (.int n), some (.int v), none] [] M N (fun r M1 N1 => r = some (an_bear n v st).1 ∧ N1 = N ∧ fr clsF M M1 ∧ CI M1 (an_bear n v st).2) := by
    intro q
    refine hd_go kX5_bear 999 (fun _ => rfl) rfl trivial ?_
    refine hd_en_ kX5_bear (fun _ => rfl) trivial ⟨?_, rfl, fr.rf, hI⟩
    unfold an_bear
    rw [if_neg q]
  unfold an_bear at bad ⊢
  refine hd_go kX5_bear 999 (fun _ => rfl) rfl trivial ?_
  refine hd_ci kX5_bear qX5_bear (fun _ => rfl) (s_isSpan _ M N) ?_
  refine hd_ju kX5_bear (fun _ => rfl) (fun q => bad (fun z => hd_b0.mp q z.1)) (fun q => ?_)
  have q1 := hd_b1.mp q
  refine hd_go kX5_bear 999 (fun _ => rfl) rfl trivial ?_
  refine hd_ci kX5_bear qX5_bear (fun _ => rfl) (s_isMood _ M N) ?_
  refine hd_ju kX5_bear (fun _ => rfl) (fun q => ?_) (fun q => bad (fun z => hd_b0.mp q z.2))
  have q2 := hd_b1.mp q
  rw [if_pos ⟨q1, q2⟩]
  obtain ⟨j, hj, rfl⟩ := wi_nat (n := 60) rfl q1
  rw [nI_clamp (by omega)]
  refine hd_go kX5_bear 19 (fun _ => rfl) rfl trivial ?_
  refine hd_Go.post ?_ (c_bear_l M N st.1 hI.1 hO.1 j hj v 10 M (by decide) fr.rf)
  rintro r M2 N2 ⟨rfl, rfl, hf2⟩
  exact ⟨rfl, rfl, hI.q hf2⟩
set_option maxRecDepth 20000 in
theorem seC.tri {M M' : hd_M} {se : se_T} (h : seC M 13 se) (hf : fr tri M M') : seC M' 13 se := h.mv (fun c j h1 h2 => hf c j (by show ¬ (7 ≤ c ∧ c ≤ 12); omega))
set_option maxRecDepth 20000 in
theorem s_isSeen_l (M : hd_M) (N : hd_N) (d : dy_T) (hd : hm M 1 d) (ok : dy_ok d) (se : se_T) (hs : seC M 13 se) (sok : se_ok se) (i w : Nat) (hi : i < d.1) (hw : w < 3) (v : Int32) : ∀ (m s : Nat) (M' : hd_M), s + m = se.1 → fr tri M M' → se_so se (dy_set w i v d) s = true → hd_Go mX5_isAsSeen 3 [some (.ref 0), some (.int (nI i)), some (.int (nI w)), some (.int v), some (.int (nI s))] [] M' N (fun r M1 N1 => r = some (.int (hd_b (se_so se (dy_set w i v d) se.1 = true))) ∧ N1 = N ∧ fr tri M M1) := by
  intro m
  induction m with
  | zero =>
    intro s M' hsm hf hso
    have h6 := sok.1
    have hs' := hs.tri hf
    refine hd_go kX5_isAsSeen 999 (fun _ => rfl) rfl trivial ?_
    rw [hs'.1]
    refine hd_ju kX5_isAsSeen (fun _ => rfl) (fun c => ?_) (fun c => absurd (nI_le (by omega) (by omega)) c)
    refine hd_go kX5_isAsSeen 999 (fun _ => rfl) rfl trivial ?_
    refine hd_en_ kX5_isAsSeen (fun _ => rfl) (Or.inr rfl) ⟨?_, rfl, hf⟩
    have e : s = se.1 := by omega
    rw [← e, hso]; rfl
  | succ m ih =>
    intro s M' hsm hf hso
    have h6 := sok.1
    have hs' := hs.tri hf
    obtain ⟨j, hj, ej⟩ := sok.2 s (by omega)
    have hv : vp_in (nI s) 6 := vp_in_nI (by omega) (by decide)
    refine hd_go kX5_isAsSeen 999 (fun _ => rfl) rfl trivial ?_
    rw [hs'.1]
    refine hd_ju kX5_isAsSeen (fun _ => rfl) (fun c => absurd c (nI_ge (by omega) (by omega))) (fun c => ?_)
    refine hd_go kX5_isAsSeen 999 (fun _ => rfl) rfl ⟨trivial, hv⟩ ?_
    rw [nI_clamp (by omega), show M' 14 s = se.2.1 s from hs'.2.1 s (by omega), ej]
    refine hd_ca kX5_isAsSeen qX5_isAsSeen (fun _ => rfl) (s_moodWith M' N d (hd.tr1 hf) ok i w hi hw v j (by omega)) ?_
    rintro r M1 N1 ⟨rfl, rfl, hf1⟩
    have hs1 := hs'.tri hf1
    refine hd_go kX5_isAsSeen 999 (fun _ => rfl) rfl ⟨trivial, hv⟩ ?_
    rw [nI_clamp (by omega), show M1 15 s = se.2.2 s from hs1.2.2 s (by omega)]
    have es : se_so se (dy_set w i v d) (s + 1) = decide (dy_md j (dy_set w i v d) = se.2.2 s) := by
      rw [se_so, hso, ej, nI_clamp (by omega), Bool.true_and]
    refine hd_ju kX5_isAsSeen (fun _ => rfl) (fun c => ?_) (fun c => ?_)
    · refine hd_go kX5_isAsSeen 999 (fun _ => rfl) rfl trivial ?_
      rw [nI_1]
      exact ih (s + 1) M1 (by omega) (hf.tr hf1) (by rw [es]; exact decide_eq_true c)
    · refine hd_go kX5_isAsSeen 999 (fun _ => rfl) rfl trivial ?_
      refine hd_en_ kX5_isAsSeen (fun _ => rfl) (Or.inl rfl) ⟨?_, rfl, hf.tr hf1⟩
      have e0 : se_so se (dy_set w i v d) (s + 1) = false := by rw [es]; exact decide_eq_false c
      have : se_so se (dy_set w i v d) se.1 = false := se_so_false (s + 1) se.1 (by omega) e0
      rw [this]; rfl
set_option maxRecDepth 20000 in
theorem s_isSeen (M : hd_M) (N : hd_N) (d : dy_T) (hd : hm M 1 d) (ok : dy_ok d) (se : se_T) (hs : seC M 13 se) (sok : se_ok se) (i w : Nat) (hi : i < d.1) (hw : w < 3) (v : Int32) : hd_Ret mX5_isAsSeen [.ref 0, .int (nI i), .int (nI w), .int v] M N (fun r M1 N1 => r = some (.int (hd_b (se_so se (dy_set w i v d) se.1 = true))) ∧ N1 = N ∧ fr tri M M1) := by
  change hd_Go mX5_isAsSeen 0 [some (.ref 0), some (.int (nI i)), some (.int (nI w)), some (.int v), none] [] M N _
  refine hd_go kX5_isAsSeen 3 (fun _ => rfl) rfl trivial ?_
  exact s_isSeen_l M N d hd ok se hs sok i w hi hw v se.1 0 M (by omega) fr.rf rfl
set_option maxRecDepth 20000 in
theorem s_traits_l (M : hd_M) (N : hd_N) (d : dy_T) (hd : hm M 1 d) (ok : dy_ok d) (se : se_T) (hs : seC M 13 se) (sok : se_ok se) (i w : Nat) (hi : i < d.1) (hw : w < 3) (t : Nat) (ht : t ≤ 9) : ∀ (m v : Nat) (M' : hd_M), v + m = t + 1 → fr tri M M' → hd_Go mX5_traitsAsSeen 6 [some (.ref 0), some (.int (nI i)), some (.int (nI w)), some (.int (nI t)), some (.int (se_bits se d w i v)), some (.int (nI v))] [] M' N (fun r M1 N1 => r = some (.int (se_bits se d w i (t + 1))) ∧ N1 = N ∧ fr tri M M1) := by
  intro m
  induction m with
  | zero =>
    intro v M' hv hf
    have hv : v = t + 1 := by omega
    subst hv
    refine hd_go kX5_traitsAsSeen 999 (fun _ => rfl) rfl trivial ?_
    refine hd_ju kX5_traitsAsSeen (fun _ => rfl) (fun c => ?_) (fun c => absurd (nI_lt (by omega) (by omega)) c)
    refine hd_go kX5_traitsAsSeen 999 (fun _ => rfl) rfl trivial ?_
    exact hd_en_ kX5_traitsAsSeen (fun _ => rfl) trivial ⟨rfl, rfl, hf⟩
  | succ m ih =>
    intro v M' hv hf
    refine hd_go kX5_traitsAsSeen 999 (fun _ => rfl) rfl trivial ?_
    refine hd_ju kX5_traitsAsSeen (fun _ => rfl) (fun c => absurd c (nI_nlt (by omega) (by omega))) (fun c => ?_)
    refine hd_go kX5_traitsAsSeen 999 (fun _ => rfl) rfl trivial ?_
    refine hd_ca kX5_traitsAsSeen qX5_traitsAsSeen (fun _ => rfl) (s_isSeen M' N d (hd.tr1 hf) ok se (hs.tri hf) sok i w hi hw (nI v)) ?_
    rintro r M1 N1 ⟨rfl, rfl, hf1⟩
    have := ih (v + 1) M1 (by omega) (hf.tr hf1)
    unfold se_bits at this ⊢
    rw [dy_bits] at this
    refine hd_ju kX5_traitsAsSeen (fun _ => rfl) (fun c => ?_) (fun c => ?_)
    · rw [if_neg (hd_b0.mp c)] at this
      refine hd_go kX5_traitsAsSeen 999 (fun _ => rfl) rfl trivial ?_
      rw [nI_1]
      exact this
    · rw [if_pos (hd_b1.mp c)] at this
      refine hd_go kX5_traitsAsSeen 999 (fun _ => rfl) rfl trivial ?_
      rw [nI_1]
      exact this
set_option maxRecDepth 20000 in
theorem s_traits (M : hd_M) (N : hd_N) (d : dy_T) (hd : hm M 1 d) (ok : dy_ok d) (se : se_T) (hs : seC M 13 se) (sok : se_ok se) (i w : Nat) (hi : i < d.1) (hw : w < 3) (t : Nat) (ht : t ≤ 9) : hd_Ret mX5_traitsAsSeen [.ref 0, .int (nI i), .int (nI w), .int (nI t)] M N (fun r M1 N1 => r = some (.int (se_bits se d w i (t + 1))) ∧ N1 = N ∧ fr tri M M1) := by
  change hd_Go mX5_traitsAsSeen 0 [some (.ref 0), some (.int (nI i)), some (.int (nI w)), some (.int (nI t)), none, none] [] M N _
  refine hd_go kX5_traitsAsSeen 6 (fun _ => rfl) rfl trivial ?_
  exact s_traits_l M N d hd ok se hs sok i w hi hw t ht (t + 1) 0 M (by omega) fr.rf
set_option maxRecDepth 20000 in
theorem c_kinds (i : Int32) : cA mX5_kinds [.int i] (an_kinds i) := by
  intro M N st hI hO
  change hd_Go mX5_kinds 0 [some (.ref 0), some (.int i)] [] M N _
  unfold an_kinds
  refine hd_go kX5_kinds 999 (fun _ => rfl) rfl trivial ?_
  refine hd_ci kX5_kinds qX5_kinds (fun _ => rfl) (s_isThing _ M N) ?_
  rw [hI.1.1]
  refine hd_ju kX5_kinds (fun _ => rfl) (fun q => ?_) (fun q => ?_)
  · have q := hd_b0.mp q
    rw [if_neg q]
    refine hd_go kX5_kinds 999 (fun _ => rfl) rfl trivial ?_
    exact hd_en_ kX5_kinds (fun _ => rfl) trivial ⟨rfl, rfl, fr.rf, hI⟩
  · have q := hd_b1.mp q
    have h7 := hO.1.1
    obtain ⟨j, hj, rfl⟩ := an_th_nat q h7
    rw [if_pos q, nI_clamp (by omega)]
    refine hd_go kX5_kinds 999 (fun _ => rfl) rfl trivial ?_
    refine hd_ca kX5_kinds qX5_kinds (fun _ => rfl) (s_traits M N _ hI.1 hO.1 _ hI.2.1 hO.2.1 j 0 hj (by decide) 3 (by decide)) ?_
    rintro r M1 N1 ⟨rfl, rfl, hf⟩
    refine hd_go kX5_kinds 999 (fun _ => rfl) rfl trivial ?_
    exact hd_en_ kX5_kinds (fun _ => rfl) trivial ⟨rfl, rfl, hI.q hf⟩
set_option maxRecDepth 20000 in
theorem c_goods (i : Int32) : cA mX5_goods [.int i] (an_goods i) := by
  intro M N st hI hO
  change hd_Go mX5_goods 0 [some (.ref 0), some (.int i)] [] M N _
  unfold an_goods
  refine hd_go kX5_goods 999 (fun _ => rfl) rfl trivial ?_
  refine hd_ci kX5_goods qX5_goods (fun _ => rfl) (s_isThing _ M N) ?_
  rw [hI.1.1]
  refine hd_ju kX5_goods (fun _ => rfl) (fun q => ?_) (fun q => ?_)
  · have q := hd_b0.mp q
    rw [if_neg q]
    refine hd_go kX5_goods 999 (fun _ => rfl) rfl trivial ?_
    exact hd_en_ kX5_goods (fun _ => rfl) trivial ⟨rfl, rfl, fr.rf, hI⟩
  · have q := hd_b1.mp q
    have h7 := hO.1.1
    obtain ⟨j, hj, rfl⟩ := an_th_nat q h7
    rw [if_pos q, nI_clamp (by omega)]
    refine hd_go kX5_goods 999 (fun _ => rfl) rfl trivial ?_
    refine hd_ca kX5_goods qX5_goods (fun _ => rfl) (s_traits M N _ hI.1 hO.1 _ hI.2.1 hO.2.1 j 1 hj (by decide) 9 (by decide)) ?_
    rintro r M1 N1 ⟨rfl, rfl, hf⟩
    refine hd_go kX5_goods 999 (fun _ => rfl) rfl trivial ?_
    exact hd_en_ kX5_goods (fun _ => rfl) trivial ⟨rfl, rfl, hI.q hf⟩
end
section
/-! DRIFT, WHAT WAS SEEN, IMAGES; printed by wip/whole/api4.py -/
set_option maxRecDepth 20000 in
theorem dr_cls (s : Int32) : (s.toUInt32 >>> ((16 : Int32).toUInt32 &&& Int32.toUInt32 31)).toInt32 &&& 32767 = nI (dr_g s) := by
  rw [pk_and _ 15 rfl, pk_ushr s 16 16 (by decide)]
  rfl
set_option maxRecDepth 20000 in
theorem dr_s_eq (s : Int32) : s * 1103515245 + 12345 = dr_s s := by unfold dr_s; exact Eq.refl _
set_option maxRecDepth 20000 in
theorem dr_lt (s : Int32) : dr_g s < 32768 := Nat.mod_lt _ (by decide)
set_option maxRecDepth 20000 in
theorem c_drift_l (M : hd_M) (N : hd_N) (n : Nat) (hn : n ≤ 60) (sd w : Int32) (Q : hd_Q) : ∀ (m j : Nat) (s : Int32) (d : dy_T) (M' : hd_M), j + m = n → fr tri M M' → hm M' 7 d → dy_ok d → 0 < d.1 → (∀ (M1 : hd_M) (s1 : Int32), fr tri M M1 → hm M1 7 (dy_dr m s d) → dy_ok (dy_dr m s d) → hd_Go mX5_drift 99 [some (.ref 0), some (.int sd), some (.int (nI n)), some (.int w), some (.int s1), some (.int (nI n))] [] M1 N Q) → hd_Go mX5_drift 51 [some (.ref 0), some (.int sd), some (.int (nI n)), some (.int w), some (.int s), some (.int (nI j))] [] M' N Q := by
  intro m
  induction m with
  | zero =>
    intro j s d M' hj hf hd ok h0 hk
    have hj : j = n := by omega
    subst hj
    refine hd_go kX5_drift 999 (fun _ => rfl) rfl trivial ?_
    refine hd_ju kX5_drift (fun _ => rfl) (fun c => ?_) (fun c => absurd (nI_le (by omega) (by omega)) c)
    rw [dy_dr_0] at hk
    exact hk M' s hf hd ok
  | succ m ih =>
    intro j s d M' hj hf hd ok h0 hk
    refine hd_go kX5_drift 999 (fun _ => rfl) rfl trivial ?_
    refine hd_ju kX5_drift (fun _ => rfl) (fun c => absurd c (nI_ge (by omega) (by omega))) (fun c => ?_)
    refine hd_go kX5_drift 999 (fun _ => rfl) rfl trivial ?_
    have es : s * 1103515245 + 12345 = dr_s s := dr_s_eq s
    rw [es]
    rw [dy_dr_s] at hk
    obtain ⟨s1, hs1⟩ : ∃ s1, s1 = dr_s s := ⟨_, rfl⟩
    rw [← hs1] at hk ⊢
    rw [dr_cls]
    obtain ⟨g1, hg1⟩ : ∃ g1, g1 = dr_g s1 := ⟨_, rfl⟩
    have hglt : g1 < 32768 := by rw [hg1]; exact dr_lt s1
    rw [← hg1] at hk ⊢
    refine hd_ca kX5_drift qX5_drift (fun _ => rfl) (s_blow M' N d hd ok.1 h0 g1 hglt) ?_
    have okb : dy_ok (dy_blow g1 d) := dy_ok_blow ok
    have nb : (dy_blow g1 d).1 = d.1 := dy_blow_n
    obtain ⟨X, hX⟩ : ∃ X, X = dy_blow g1 d := ⟨_, rfl⟩
    rw [← hX] at hk okb nb ⊢
    rintro r M1 N1 ⟨rfl, rfl, hf1, hd1⟩
    refine hd_go kX5_drift 999 (fun _ => rfl) rfl trivial ?_
    refine hd_ca kX5_drift qX5_drift (fun _ => rfl) (s_pass_7 M1 N1 X hd1 okb 1 (by decide)) ?_
    rintro r M2 N2 ⟨rfl, rfl, hf2, hd2⟩
    refine hd_go kX5_drift 999 (fun _ => rfl) rfl trivial ?_
    rw [nI_1]
    refine ih (j + 1) s1 (dy_ho false X) M2 (by omega) ((tri_of hf hf1).tr hf2) hd2 (dy_ok_ho okb) ?_ hk
    show 0 < X.1
    rw [nb]; exact h0
set_option maxRecDepth 20000 in
theorem c_drift (s n w : Int32) : cA mX5_drift [.int s, .int n, .int w] (an_drift s n w) := by
  intro M N st hI hO
  change hd_Go mX5_drift 0 [some (.ref 0), some (.int s), some (.int n), some (.int w), none, none] [] M N _
  have bad : ¬ (wi n 1 60 ∧ wi w 0 1) → hd_Go mX5_drift 19 [some (.ref 0), some (.int s), some (.int n), some (.int w), none, none] [] M N (fun r M1 N1 => r = some (an_drift s n w st).1 ∧ N1 = N ∧ fr clsF M M1 ∧ CI M1 (an_drift s n w st).2) := by
    intro q
    refine hd_go kX5_drift 999 (fun _ => rfl) rfl trivial ?_
    refine hd_en_ kX5_drift (fun _ => rfl) trivial ⟨?_, rfl, fr.rf, hI⟩
    unfold an_drift
    rw [if_neg q]
  unfold an_drift at bad ⊢
  refine hd_go kX5_drift 999 (fun _ => rfl) rfl trivial ?_
  refine hd_ci kX5_drift qX5_drift (fun _ => rfl) (s_isWithin _ _ _ M N) ?_
  refine hd_ju kX5_drift (fun _ => rfl) (fun q => bad (fun z => hd_b0.mp q z.1)) (fun q => ?_)
  have q1 := hd_b1.mp q
  refine hd_go kX5_drift 999 (fun _ => rfl) rfl trivial ?_
  refine hd_ci kX5_drift qX5_drift (fun _ => rfl) (s_isWithin _ _ _ M N) ?_
  refine hd_ju kX5_drift (fun _ => rfl) (fun q => ?_) (fun q => bad (fun z => hd_b0.mp q z.2))
  have q2 := hd_b1.mp q
  rw [if_pos ⟨q1, q2⟩]
  have h7 := hO.1.1
  refine hd_go kX5_drift 999 (fun _ => rfl) rfl trivial ?_
  rw [hI.1.1]
  refine hd_ju kX5_drift (fun _ => rfl) (fun q => ?_) (fun q => ?_)
  · have h0 : 0 < st.1.1 := by
      rcases Nat.eq_zero_or_pos st.1.1 with z | z
      · rw [z] at q; exact absurd rfl q
      · exact z
    rw [if_neg (by omega)]
    have q0 : wi n 0 60 := ⟨fun z => q1.1 (Int32.lt_trans z (by decide)), q1.2⟩
    obtain ⟨j, hj, rfl⟩ := wi_nat (n := 60) rfl q0
    rw [nI_clamp (by omega)]
    refine hd_go kX5_drift 999 (fun _ => rfl) rfl trivial ?_
    refine hd_ca kX5_drift qX5_drift (fun _ => rfl) (s_copyFrom_7_1 M N _ hI.1 h7) ?_
    rintro r M1 N1 ⟨rfl, rfl, hf1, hd1⟩
    refine hd_go kX5_drift 51 (fun _ => rfl) rfl trivial ?_
    refine c_drift_l M N1 j hj s w _ j 0 s st.1 M1 (by omega) (tri_of fr.rf hf1) hd1 hO.1 h0 (fun M2 s2 hf2 hd2 ok2 => ?_)
    refine hd_go kX5_drift 999 (fun _ => rfl) rfl trivial ?_
    refine hd_ju kX5_drift (fun _ => rfl) (fun c => ?_) (fun c => ?_)
    · rw [if_neg c]
      refine hd_go kX5_drift 999 (fun _ => rfl) rfl trivial ?_
      refine hd_ci kX5_drift qX5_drift (fun _ => rfl) (s_outBits_7 M2 N1 _ hd2 ok2) ?_
      exact hd_en_ kX5_drift (fun _ => rfl) trivial ⟨rfl, rfl, hI.q hf2⟩
    · rw [if_pos c]
      refine hd_go kX5_drift 999 (fun _ => rfl) rfl trivial ?_
      refine hd_en_ kX5_drift (fun _ => rfl) trivial ⟨?_, rfl, hI.q hf2⟩
      rw [hd2.2.2.1]
  · have h0 : st.1.1 = 0 := by
      rcases Nat.eq_zero_or_pos st.1.1 with z | z
      · exact z
      · exact absurd q (nI_ne0 z (by omega))
    rw [if_pos h0]
    refine hd_go kX5_drift 999 (fun _ => rfl) rfl trivial ?_
    exact hd_en_ kX5_drift (fun _ => rfl) trivial ⟨rfl, rfl, fr.rf, hI⟩
set_option maxRecDepth 20000 in
theorem s_seAdd (M : hd_M) (N : hd_N) (se : se_T) (hs : seC M 13 se) (h6 : se.1 ≤ 6) (n v : Int32) : hd_Ret mX2_add [.ref 13, .int n, .int v] M N (fun r M1 N1 => N1 = N ∧ ((se.1 = 6 ∧ r = some (.int 0) ∧ M1 = M) ∨ (se.1 < 6 ∧ r = some (.int 1) ∧ fr (fun c _ => 13 ≤ c ∧ c ≤ 15) M M1 ∧ seC M1 13 (se.1 + 1, (fun i => if i = se.1 then n else se.2.1 i), fun i => if i = se.1 then v else se.2.2 i)))) := by
  change hd_Go mX2_add 0 [some (.ref 13), some (.int n), some (.int v)] [] M N _
  obtain ⟨a, b1, b2⟩ := hs
  refine hd_go kX2_add 999 (fun _ => rfl) rfl trivial ?_
  rw [a]
  refine hd_ju kX2_add (fun _ => rfl) (fun c => ?_) (fun c => ?_)
  · have hlt : se.1 < 6 := by
      rcases Nat.lt_or_ge se.1 6 with z | z
      · exact z
      · exact absurd c (nI_nlt (b := 6) z (by omega))
    have ej : (nI se.1).toNatClampNeg = se.1 := nI_clamp (by omega)
    have hv : vp_in (nI se.1) 6 := vp_in_nI hlt (by decide)
    refine hd_go kX2_add 999 (fun _ => rfl) rfl ?_ ?_
    · rw [hd_u_n (by omega), a]
      exact ⟨⟨trivial, hv⟩, hv⟩
    have g1 : ∀ (j : Nat) (x : Int32), hd_u M 14 j x 13 2 = nI se.1 := fun j x => by rw [hd_u_n (by omega)]; exact a
    have g2 : ∀ (j j' : Nat) (x x' : Int32), hd_u (hd_u M 14 j x) 15 j' x' 13 2 = nI se.1 := fun j j' x x' => by rw [hd_u_n (by omega), hd_u_n (by omega)]; exact a
    rw [g2, g1, a, ej, nI_1]
    refine hd_en_ kX2_add (fun _ => rfl) (Or.inr rfl) ⟨rfl, Or.inr ⟨hlt, rfl, ((fr.rf.up (by simp)).up (by simp)).up (by simp), ?_, fun s hs => ?_, fun s hs => ?_⟩⟩
    · exact hd_u_s _ _ _ _
    · have hs : s < se.1 + 1 := hs
      show _ = if s = se.1 then n else se.2.1 s
      rw [hd_u_n (by omega), hd_u_n (by omega)]
      by_cases e : s = se.1
      · rw [if_pos e, e, hd_u_s]
      · rw [if_neg e, hd_u_n (by omega)]; exact b1 s (by omega)
    · have hs : s < se.1 + 1 := hs
      show _ = if s = se.1 then v else se.2.2 s
      rw [hd_u_n (by omega)]
      by_cases e : s = se.1
      · rw [if_pos e, e, hd_u_s]
      · rw [if_neg e, hd_u_n (by omega), hd_u_n (by omega)]; exact b2 s (by omega)
  · have hge : se.1 = 6 := by
      rcases Nat.lt_or_ge se.1 6 with z | z
      · exact absurd (nI_lt (b := 6) z (by omega)) c
      · omega
    refine hd_go kX2_add 999 (fun _ => rfl) rfl trivial ?_
    exact hd_en_ kX2_add (fun _ => rfl) (Or.inl rfl) ⟨rfl, Or.inl ⟨hge, rfl, rfl⟩⟩
set_option maxRecDepth 20000 in
theorem c_see (n v : Int32) : cA mX5_see [.int n, .int v] (an_see n v) := by
  intro M N st hI hO
  change hd_Go mX5_see 0 [some (.ref 0), some (.int n), some (.int v)] [] M N _
  have bad : ¬ (wi n 0 20 ∧ wi v 0 99) → hd_Go mX5_see 17 [some (.ref 0), some (.int n), some (.int v)] [] M N (fun r M1 N1 => r = some (an_see n v st).1 ∧ N1 = N ∧ fr clsF M M1 ∧ CI M1 (an_see n v st).2) := by
    intro q
    refine hd_go kX5_see 999 (fun _ => rfl) rfl trivial ?_
    refine hd_en_ kX5_see (fun _ => rfl) trivial ?_
    unfold an_see
    rw [if_neg q]
    exact ⟨rfl, rfl, fr.rf, hI⟩
  unfold an_see at bad ⊢
  refine hd_go kX5_see 999 (fun _ => rfl) rfl trivial ?_
  refine hd_ci kX5_see qX5_see (fun _ => rfl) (s_isWithin _ _ _ M N) ?_
  refine hd_ju kX5_see (fun _ => rfl) (fun q => bad (fun z => hd_b0.mp q z.1)) (fun q => ?_)
  have q1 := hd_b1.mp q
  refine hd_go kX5_see 999 (fun _ => rfl) rfl trivial ?_
  refine hd_ci kX5_see qX5_see (fun _ => rfl) (s_isMood _ M N) ?_
  refine hd_ju kX5_see (fun _ => rfl) (fun q => ?_) (fun q => bad (fun z => hd_b0.mp q z.2))
  have q2 := hd_b1.mp q
  rw [if_pos ⟨q1, q2⟩]
  refine hd_go kX5_see 999 (fun _ => rfl) rfl trivial ?_
  refine hd_ca kX5_see qX5_see (fun _ => rfl) (s_seAdd M N _ hI.2.1 hO.2.1.1 n v) ?_
  rintro r M1 N1 ⟨rfl, ⟨h6, rfl, rfl⟩ | ⟨h6, rfl, hf, hs⟩⟩
  · rw [if_pos h6]
    refine hd_ju kX5_see (fun _ => rfl) (fun q => ?_) (fun q => absurd rfl q)
    refine hd_go kX5_see 999 (fun _ => rfl) rfl trivial ?_
    exact hd_en_ kX5_see (fun _ => rfl) trivial ⟨rfl, rfl, fr.rf, hI⟩
  · rw [if_neg (by omega)]
    refine hd_ju kX5_see (fun _ => rfl) (fun q => absurd q (by decide)) (fun q => ?_)
    refine hd_go kX5_see 999 (fun _ => rfl) rfl trivial ?_
    refine hd_en_ kX5_see (fun _ => rfl) trivial ⟨by rw [hs.1], rfl, hf.mo (fun c j z => ?_), hI.seen hf hs⟩
    have z : 13 ≤ c ∧ c ≤ 15 := z
    show c ≤ 50; omega
set_option maxRecDepth 20000 in
theorem c_forget (n : Int32) : cA mX5_forget [.int n] (an_forget n) := by
  intro M N st hI hO
  change hd_Go mX5_forget 0 [some (.ref 0), some (.int n), none] [] M N _
  have h6 := hO.2.1.1
  have e1 : M 13 2 = nI st.2.1.1 := hI.2.1.1
  refine hd_go kX5_forget 999 (fun _ => rfl) rfl trivial ?_
  refine hd_ci kX5_forget qX5_forget (fun _ => rfl) (s_isWithin _ _ _ M N) ?_
  rw [e1]
  unfold an_forget
  refine hd_ju kX5_forget (fun _ => rfl) (fun q => ?_) (fun q => ?_)
  · have q := hd_b1.mp q
    obtain ⟨j, hj, rfl⟩ := nI_of2 (M := nI st.2.1.1) (n := st.2.1.1) (nI_toInt (by omega)) q.1 (Int32.not_lt.mp q.2)
    refine hd_go kX5_forget 999 (fun _ => rfl) rfl trivial ?_
    refine hd_en_ kX5_forget (fun _ => rfl) trivial ?_
    rw [if_pos q, nI_clamp (by omega)]
    refine ⟨by rw [e1], rfl, fr.rf.up (by simp), ?_⟩
    refine hI.seen (fr.rf.up (by simp)) ⟨hd_u_s _ _ _ _, fun i hi => ?_, fun i hi => ?_⟩
    · rw [hd_u_n (by omega)]; exact hI.2.1.2.1 i (Nat.lt_of_lt_of_le hi hj)
    · rw [hd_u_n (by omega)]; exact hI.2.1.2.2 i (Nat.lt_of_lt_of_le hi hj)
  · have q := hd_b0.mp q
    refine hd_go kX5_forget 999 (fun _ => rfl) rfl trivial ?_
    refine hd_en_ kX5_forget (fun _ => rfl) trivial ?_
    rw [if_neg q]
    exact ⟨rfl, rfl, fr.rf, hI⟩
set_option maxRecDepth 20000 in
theorem s_seCopy_26_13 (M : hd_M) (N : hd_N) (se : se_T) (hs : seC M 13 se) (h6 : se.1 ≤ 6) : hd_Ret mX2_copyFrom [.ref 26, .ref 13] M N (fun r M1 N1 => r = none ∧ N1 = N ∧ fr (fun c _ => 26 ≤ c ∧ c ≤ 28) M M1 ∧ seC M1 26 se) := by
  change hd_Go mX2_copyFrom 0 [some (.ref 26), some (.ref 13)] [] M N _
  obtain ⟨a, b1, b2⟩ := hs
  have ej : (nI se.1).toNatClampNeg = se.1 := nI_clamp (by omega)
  have hp : ¬ nI se.1 < 0 := nI_pos (by omega)
  refine hd_go kX2_copyFrom 999 (fun _ => rfl) rfl ?_ ?_
  · simp only [hd_u_s, hd_cp, a, ej]
    refine ⟨⟨trivial, by decide, by decide, hp, ?_, ?_⟩, by decide, by decide, ?_⟩
    · show 0 + se.1 ≤ 6; omega
    · show 0 + se.1 ≤ 6; omega
    · simp [hd_u, a, ej, hp, h6]
  refine hd_en_ kX2_copyFrom (fun _ => rfl) trivial ⟨rfl, rfl, ?_, ?_, fun s hs => ?_, fun s hs => ?_⟩
  · intro c j hc
    have hc : ¬ (26 ≤ c ∧ c ≤ 28) := hc
    simp [hd_cp, hd_u, show ¬ c = 26 by omega, show ¬ c = 27 by omega, show ¬ c = 28 by omega]
  · simp [hd_cp, hd_u, a]
  · simp [hd_cp, hd_u, a, ej, va_cpy, hs, b1 s hs]
  · simp [hd_cp, hd_u, a, ej, va_cpy, hs, b2 s hs]
set_option maxRecDepth 20000 in
theorem s_seCopy_36_13 (M : hd_M) (N : hd_N) (se : se_T) (hs : seC M 13 se) (h6 : se.1 ≤ 6) : hd_Ret mX2_copyFrom [.ref 36, .ref 13] M N (fun r M1 N1 => r = none ∧ N1 = N ∧ fr (fun c _ => 36 ≤ c ∧ c ≤ 38) M M1 ∧ seC M1 36 se) := by
  change hd_Go mX2_copyFrom 0 [some (.ref 36), some (.ref 13)] [] M N _
  obtain ⟨a, b1, b2⟩ := hs
  have ej : (nI se.1).toNatClampNeg = se.1 := nI_clamp (by omega)
  have hp : ¬ nI se.1 < 0 := nI_pos (by omega)
  refine hd_go kX2_copyFrom 999 (fun _ => rfl) rfl ?_ ?_
  · simp only [hd_u_s, hd_cp, a, ej]
    refine ⟨⟨trivial, by decide, by decide, hp, ?_, ?_⟩, by decide, by decide, ?_⟩
    · show 0 + se.1 ≤ 6; omega
    · show 0 + se.1 ≤ 6; omega
    · simp [hd_u, a, ej, hp, h6]
  refine hd_en_ kX2_copyFrom (fun _ => rfl) trivial ⟨rfl, rfl, ?_, ?_, fun s hs => ?_, fun s hs => ?_⟩
  · intro c j hc
    have hc : ¬ (36 ≤ c ∧ c ≤ 38) := hc
    simp [hd_cp, hd_u, show ¬ c = 36 by omega, show ¬ c = 37 by omega, show ¬ c = 38 by omega]
  · simp [hd_cp, hd_u, a]
  · simp [hd_cp, hd_u, a, ej, va_cpy, hs, b1 s hs]
  · simp [hd_cp, hd_u, a, ej, va_cpy, hs, b2 s hs]
set_option maxRecDepth 20000 in
theorem s_seCopy_13_26 (M : hd_M) (N : hd_N) (se : se_T) (hs : seC M 26 se) (h6 : se.1 ≤ 6) : hd_Ret mX2_copyFrom [.ref 13, .ref 26] M N (fun r M1 N1 => r = none ∧ N1 = N ∧ fr (fun c _ => 13 ≤ c ∧ c ≤ 15) M M1 ∧ seC M1 13 se) := by
  change hd_Go mX2_copyFrom 0 [some (.ref 13), some (.ref 26)] [] M N _
  obtain ⟨a, b1, b2⟩ := hs
  have ej : (nI se.1).toNatClampNeg = se.1 := nI_clamp (by omega)
  have hp : ¬ nI se.1 < 0 := nI_pos (by omega)
  refine hd_go kX2_copyFrom 999 (fun _ => rfl) rfl ?_ ?_
  · simp only [hd_u_s, hd_cp, a, ej]
    refine ⟨⟨trivial, by decide, by decide, hp, ?_, ?_⟩, by decide, by decide, ?_⟩
    · show 0 + se.1 ≤ 6; omega
    · show 0 + se.1 ≤ 6; omega
    · simp [hd_u, a, ej, hp, h6]
  refine hd_en_ kX2_copyFrom (fun _ => rfl) trivial ⟨rfl, rfl, ?_, ?_, fun s hs => ?_, fun s hs => ?_⟩
  · intro c j hc
    have hc : ¬ (13 ≤ c ∧ c ≤ 15) := hc
    simp [hd_cp, hd_u, show ¬ c = 13 by omega, show ¬ c = 14 by omega, show ¬ c = 15 by omega]
  · simp [hd_cp, hd_u, a]
  · simp [hd_cp, hd_u, a, ej, va_cpy, hs, b1 s hs]
  · simp [hd_cp, hd_u, a, ej, va_cpy, hs, b2 s hs]
set_option maxRecDepth 20000 in
theorem s_seCopy_13_36 (M : hd_M) (N : hd_N) (se : se_T) (hs : seC M 36 se) (h6 : se.1 ≤ 6) : hd_Ret mX2_copyFrom [.ref 13, .ref 36] M N (fun r M1 N1 => r = none ∧ N1 = N ∧ fr (fun c _ => 13 ≤ c ∧ c ≤ 15) M M1 ∧ seC M1 13 se) := by
  change hd_Go mX2_copyFrom 0 [some (.ref 13), some (.ref 36)] [] M N _
  obtain ⟨a, b1, b2⟩ := hs
  have ej : (nI se.1).toNatClampNeg = se.1 := nI_clamp (by omega)
  have hp : ¬ nI se.1 < 0 := nI_pos (by omega)
  refine hd_go kX2_copyFrom 999 (fun _ => rfl) rfl ?_ ?_
  · simp only [hd_u_s, hd_cp, a, ej]
    refine ⟨⟨trivial, by decide, by decide, hp, ?_, ?_⟩, by decide, by decide, ?_⟩
    · show 0 + se.1 ≤ 6; omega
    · show 0 + se.1 ≤ 6; omega
    · simp [hd_u, a, ej, hp, h6]
  refine hd_en_ kX2_copyFrom (fun _ => rfl) trivial ⟨rfl, rfl, ?_, ?_, fun s hs => ?_, fun s hs => ?_⟩
  · intro c j hc
    have hc : ¬ (13 ≤ c ∧ c ≤ 15) := hc
    simp [hd_cp, hd_u, show ¬ c = 13 by omega, show ¬ c = 14 by omega, show ¬ c = 15 by omega]
  · simp [hd_cp, hd_u, a]
  · simp [hd_cp, hd_u, a, ej, va_cpy, hs, b1 s hs]
  · simp [hd_cp, hd_u, a, ej, va_cpy, hs, b2 s hs]
set_option maxRecDepth 20000 in
theorem wi01 {k : Int32} (h : wi k 0 1) : k = 0 ∨ k = 1 := by
  obtain ⟨j, hj, rfl⟩ := wi_nat (n := 1) rfl h
  rcases (show j = 0 ∨ j = 1 by omega) with rfl | rfl
  · exact Or.inl rfl
  · exact Or.inr rfl
set_option maxRecDepth 20000 in
theorem c_keep (k : Int32) : cA mX5_keep [.int k] (an_keep k) := by
  intro M N st hI hO
  change hd_Go mX5_keep 0 [some (.ref 0), some (.int k), none, none] [] M N _
  refine hd_go kX5_keep 999 (fun _ => rfl) rfl trivial ?_
  refine hd_ci kX5_keep qX5_keep (fun _ => rfl) (s_isWithin _ _ _ M N) ?_
  unfold an_keep
  refine hd_ju kX5_keep (fun _ => rfl) (fun q => ?_) (fun q => ?_)
  rotate_left
  · have q := hd_b0.mp q
    refine hd_go kX5_keep 999 (fun _ => rfl) rfl trivial ?_
    refine hd_en_ kX5_keep (fun _ => rfl) trivial ?_
    rw [if_neg q]
    exact ⟨rfl, rfl, fr.rf, hI⟩
  have q := hd_b1.mp q
  rw [if_pos q]
  rcases wi01 q with rfl | rfl
  ·
    refine hd_go kX5_keep 999 (fun _ => rfl) rfl ⟨trivial, by decide, by decide⟩ ?_
    obtain ⟨e0, e1⟩ := hI.2.2.2.1 0 (by decide)
    have e0 : M 19 2 = if (st.2.2.2.1 0).1 then 1 else 0 := e0
    have core : ∀ z : Int32, z = (if (st.2.2.2.1 0).1 then 1 else 0) → hd_Go mX5_keep 31 [some (.ref 0), some (.int 0), some (.ref 19), some (.int z)] [] M N (fun r M1 N1 => r = some (.int (if (st.2.2.2.1 0).1 then 1 else 0)) ∧ N1 = N ∧ fr clsF M M1 ∧ CI M1 (st.1, st.2.1, st.2.2.1, (fun j => if j = 0 then (true, st.1, st.2.1) else st.2.2.2.1 j), st.2.2.2.2)) := by
      intro z hz
      refine hd_go kX5_keep 999 (fun _ => rfl) rfl trivial ?_
      refine hd_ca kX5_keep qX5_keep (fun _ => rfl) (s_copyFrom_20_1 M N _ hI.1 hO.1.1) ?_
      rintro r M1 N1 ⟨rfl, rfl, hf1, hd1⟩
      refine hd_go kX5_keep 999 (fun _ => rfl) rfl trivial ?_
      have hs1 : seC M1 13 st.2.1 := hI.2.1.mv (fun c j h1 h2 => hf1 c j (by show ¬ (20 ≤ c ∧ c ≤ 24); omega))
      refine hd_ca kX5_keep qX5_keep (fun _ => rfl) (s_seCopy_26_13 M1 N1 _ hs1 hO.2.1.1) ?_
      rintro r M2 N2 ⟨rfl, rfl, hf2, hs2⟩
      refine hd_go kX5_keep 999 (fun _ => rfl) rfl ⟨trivial, Or.inr rfl⟩ ?_
      have g : fr (fun c _ => 19 ≤ c ∧ c ≤ 28) M (hd_u M2 19 2 1) := ((hf1.mo (fun c j z => by have z : 20 ≤ c ∧ c ≤ 24 := z; show 19 ≤ c ∧ c ≤ 28; omega)).tr (hf2.mo (fun c j z => by have z : 26 ≤ c ∧ c ≤ 28 := z; show 19 ≤ c ∧ c ≤ 28; omega))).up (by simp)
      refine hd_en_ kX5_keep (fun _ => rfl) trivial ⟨by rw [hz], rfl, g.mo (fun c j z => by have z : 19 ≤ c ∧ c ≤ 28 := z; show c ≤ 50; omega), ?_⟩
      refine hI.img (g.mo (fun c j z => by have z : 19 ≤ c ∧ c ≤ 28 := z; show 19 ≤ c ∧ c ≤ 38; omega)) (fun j hj => ?_)
      by_cases ej : j = 0
      · subst ej
        refine ⟨hd_u_s _ _ _ _, fun _ => ⟨?_, ?_⟩⟩
        · exact hd1.mv (fun c j h1 h2 => by rw [hd_u_n (by omega)]; exact hf2 c j (by show ¬ (26 ≤ c ∧ c ≤ 28); omega))
        · exact hs2.mv (fun c j h1 h2 => hd_u_n (by omega))
      · have ej2 : j = 1 := by omega
        subst ej2
        obtain ⟨w0, w1⟩ := hI.2.2.2.1 1 (by decide)
        refine ⟨?_, fun hmd => ?_⟩
        · rw [g _ _ (by simp)]; exact w0
        · obtain ⟨w2, w3⟩ := w1 hmd
          exact ⟨w2.mv (fun c j h1 h2 => g c j (by show ¬ (19 ≤ c ∧ c ≤ 28); omega)), w3.mv (fun c j h1 h2 => g c j (by show ¬ (19 ≤ c ∧ c ≤ 28); omega))⟩
    show hd_Go mX5_keep 22 [some (.ref 0), some (.int 0), some (.ref 19), none] [.int (M 19 2)] M N (fun r M1 N1 => r = some (.int (if (st.2.2.2.1 0).1 then 1 else 0)) ∧ N1 = N ∧ fr clsF M M1 ∧ CI M1 (st.1, st.2.1, st.2.2.1, (fun j => if j = 0 then (true, st.1, st.2.1) else st.2.2.2.1 j), st.2.2.2.2))
    refine hd_ju kX5_keep (fun _ => rfl) (fun c => ?_) (fun c => ?_)
    · refine hd_go kX5_keep 31 (fun _ => rfl) rfl trivial ?_
      exact core 0 (by rw [← e0]; exact c.symm)
    · refine hd_go kX5_keep 31 (fun _ => rfl) rfl trivial ?_
      refine hd_go kX5_keep 31 (fun _ => rfl) rfl trivial ?_
      refine core 1 ?_
      cases hb : (st.2.2.2.1 0).1 with
      | true => rfl
      | false => rw [hb] at e0; exact absurd e0 c
  ·
    refine hd_go kX5_keep 999 (fun _ => rfl) rfl ⟨trivial, by decide, by decide⟩ ?_
    obtain ⟨e0, e1⟩ := hI.2.2.2.1 1 (by decide)
    have e0 : M 29 2 = if (st.2.2.2.1 1).1 then 1 else 0 := e0
    have core : ∀ z : Int32, z = (if (st.2.2.2.1 1).1 then 1 else 0) → hd_Go mX5_keep 31 [some (.ref 0), some (.int 1), some (.ref 29), some (.int z)] [] M N (fun r M1 N1 => r = some (.int (if (st.2.2.2.1 1).1 then 1 else 0)) ∧ N1 = N ∧ fr clsF M M1 ∧ CI M1 (st.1, st.2.1, st.2.2.1, (fun j => if j = 1 then (true, st.1, st.2.1) else st.2.2.2.1 j), st.2.2.2.2)) := by
      intro z hz
      refine hd_go kX5_keep 999 (fun _ => rfl) rfl trivial ?_
      refine hd_ca kX5_keep qX5_keep (fun _ => rfl) (s_copyFrom_30_1 M N _ hI.1 hO.1.1) ?_
      rintro r M1 N1 ⟨rfl, rfl, hf1, hd1⟩
      refine hd_go kX5_keep 999 (fun _ => rfl) rfl trivial ?_
      have hs1 : seC M1 13 st.2.1 := hI.2.1.mv (fun c j h1 h2 => hf1 c j (by show ¬ (30 ≤ c ∧ c ≤ 34); omega))
      refine hd_ca kX5_keep qX5_keep (fun _ => rfl) (s_seCopy_36_13 M1 N1 _ hs1 hO.2.1.1) ?_
      rintro r M2 N2 ⟨rfl, rfl, hf2, hs2⟩
      refine hd_go kX5_keep 999 (fun _ => rfl) rfl ⟨trivial, Or.inr rfl⟩ ?_
      have g : fr (fun c _ => 29 ≤ c ∧ c ≤ 38) M (hd_u M2 29 2 1) := ((hf1.mo (fun c j z => by have z : 30 ≤ c ∧ c ≤ 34 := z; show 29 ≤ c ∧ c ≤ 38; omega)).tr (hf2.mo (fun c j z => by have z : 36 ≤ c ∧ c ≤ 38 := z; show 29 ≤ c ∧ c ≤ 38; omega))).up (by simp)
      refine hd_en_ kX5_keep (fun _ => rfl) trivial ⟨by rw [hz], rfl, g.mo (fun c j z => by have z : 29 ≤ c ∧ c ≤ 38 := z; show c ≤ 50; omega), ?_⟩
      refine hI.img (g.mo (fun c j z => by have z : 29 ≤ c ∧ c ≤ 38 := z; show 19 ≤ c ∧ c ≤ 38; omega)) (fun j hj => ?_)
      by_cases ej : j = 1
      · subst ej
        refine ⟨hd_u_s _ _ _ _, fun _ => ⟨?_, ?_⟩⟩
        · exact hd1.mv (fun c j h1 h2 => by rw [hd_u_n (by omega)]; exact hf2 c j (by show ¬ (36 ≤ c ∧ c ≤ 38); omega))
        · exact hs2.mv (fun c j h1 h2 => hd_u_n (by omega))
      · have ej2 : j = 0 := by omega
        subst ej2
        obtain ⟨w0, w1⟩ := hI.2.2.2.1 0 (by decide)
        refine ⟨?_, fun hmd => ?_⟩
        · rw [g _ _ (by simp)]; exact w0
        · obtain ⟨w2, w3⟩ := w1 hmd
          exact ⟨w2.mv (fun c j h1 h2 => g c j (by show ¬ (29 ≤ c ∧ c ≤ 38); omega)), w3.mv (fun c j h1 h2 => g c j (by show ¬ (29 ≤ c ∧ c ≤ 38); omega))⟩
    show hd_Go mX5_keep 22 [some (.ref 0), some (.int 1), some (.ref 29), none] [.int (M 29 2)] M N (fun r M1 N1 => r = some (.int (if (st.2.2.2.1 1).1 then 1 else 0)) ∧ N1 = N ∧ fr clsF M M1 ∧ CI M1 (st.1, st.2.1, st.2.2.1, (fun j => if j = 1 then (true, st.1, st.2.1) else st.2.2.2.1 j), st.2.2.2.2))
    refine hd_ju kX5_keep (fun _ => rfl) (fun c => ?_) (fun c => ?_)
    · refine hd_go kX5_keep 31 (fun _ => rfl) rfl trivial ?_
      exact core 0 (by rw [← e0]; exact c.symm)
    · refine hd_go kX5_keep 31 (fun _ => rfl) rfl trivial ?_
      refine hd_go kX5_keep 31 (fun _ => rfl) rfl trivial ?_
      refine core 1 ?_
      cases hb : (st.2.2.2.1 1).1 with
      | true => rfl
      | false => rw [hb] at e0; exact absurd e0 c
set_option maxRecDepth 20000 in
theorem c_back (k : Int32) : cA mX5_back [.int k] (an_back k) := by
  intro M N st hI hO
  change hd_Go mX5_back 0 [some (.ref 0), some (.int k), none] [] M N _
  refine hd_go kX5_back 999 (fun _ => rfl) rfl trivial ?_
  refine hd_ci kX5_back qX5_back (fun _ => rfl) (s_isWithin _ _ _ M N) ?_
  unfold an_back
  refine hd_ju kX5_back (fun _ => rfl) (fun q => ?_) (fun q => ?_)
  rotate_left
  · have q := hd_b0.mp q
    refine hd_go kX5_back 999 (fun _ => rfl) rfl trivial ?_
    refine hd_en_ kX5_back (fun _ => rfl) trivial ?_
    rw [if_neg q]
    exact ⟨rfl, rfl, fr.rf, hI⟩
  have q := hd_b1.mp q
  rw [if_pos q]
  rcases wi01 q with rfl | rfl
  ·
    refine hd_go kX5_back 999 (fun _ => rfl) rfl ⟨trivial, by decide, by decide⟩ ?_
    obtain ⟨e0, e1⟩ := hI.2.2.2.1 0 (by decide)
    have e0 : M 19 2 = if (st.2.2.2.1 0).1 then 1 else 0 := e0
    have ek : (Int32.toNatClampNeg 0) = 0 := rfl
    rw [ek]
    show hd_Go mX5_back 22 [some (.ref 0), some (.int 0), some (.ref 19)] [.int (M 19 2)] M N _
    refine hd_ju kX5_back (fun _ => rfl) (fun c => ?_) (fun c => ?_)
    · have hb : (st.2.2.2.1 0).1 = true := by
        cases hb : (st.2.2.2.1 0).1 with
        | true => rfl
        | false => rw [hb] at e0; exact absurd e0 c
      rw [if_pos hb]
      obtain ⟨e2, e3⟩ := e1 hb
      obtain ⟨o1, o2⟩ := hO.2.2.2.1 0 (by decide) hb
      refine hd_go kX5_back 999 (fun _ => rfl) rfl trivial ?_
      refine hd_ca kX5_back qX5_back (fun _ => rfl) (s_copyFrom_1_20 M N _ e2 o1.1) ?_
      rintro r M1 N1 ⟨rfl, rfl, hf1, hd1⟩
      refine hd_go kX5_back 999 (fun _ => rfl) rfl trivial ?_
      have hs1 : seC M1 26 (st.2.2.2.1 0).2.2 := seC.mv e3 (fun c j h1 h2 => hf1 c j (by show ¬ (1 ≤ c ∧ c ≤ 5); omega))
      refine hd_ca kX5_back qX5_back (fun _ => rfl) (s_seCopy_13_26 M1 N1 _ hs1 o2.1) ?_
      rintro r M2 N2 ⟨rfl, rfl, hf2, hs2⟩
      refine hd_go kX5_back 999 (fun _ => rfl) rfl trivial ?_
      have hd2 : hm M2 1 (st.2.2.2.1 0).2.1 := hd1.mv (fun c j h1 h2 => hf2 c j (by show ¬ (13 ≤ c ∧ c ≤ 15); omega))
      refine hd_en_ kX5_back (fun _ => rfl) trivial ⟨by rw [hd2.2.2.2.2.1], rfl, (hf1.mo (fun c j z => by have z : 1 ≤ c ∧ c ≤ 5 := z; show c ≤ 50; omega)).tr (hf2.mo (fun c j z => by have z : 13 ≤ c ∧ c ≤ 15 := z; show c ≤ 50; omega)), ?_⟩
      have c1 : CI M1 ((st.2.2.2.1 0).2.1, st.2) := hI.day (hf1.mo (fun c j z => by have z : 1 ≤ c ∧ c ≤ 5 := z; show (1 ≤ c ∧ c ≤ 12) ∨ 48 ≤ c; omega)) hd1
      exact c1.seen hf2 hs2
    · have hb : (st.2.2.2.1 0).1 = false := by
        cases hb : (st.2.2.2.1 0).1 with
        | false => rfl
        | true => rw [hb] at e0; exact absurd (e0.symm.trans c) (by decide)
      rw [if_neg (by rw [hb]; decide)]
      refine hd_go kX5_back 999 (fun _ => rfl) rfl trivial ?_
      exact hd_en_ kX5_back (fun _ => rfl) trivial ⟨rfl, rfl, fr.rf, hI⟩
  ·
    refine hd_go kX5_back 999 (fun _ => rfl) rfl ⟨trivial, by decide, by decide⟩ ?_
    obtain ⟨e0, e1⟩ := hI.2.2.2.1 1 (by decide)
    have e0 : M 29 2 = if (st.2.2.2.1 1).1 then 1 else 0 := e0
    have ek : (Int32.toNatClampNeg 1) = 1 := rfl
    rw [ek]
    show hd_Go mX5_back 22 [some (.ref 0), some (.int 1), some (.ref 29)] [.int (M 29 2)] M N _
    refine hd_ju kX5_back (fun _ => rfl) (fun c => ?_) (fun c => ?_)
    · have hb : (st.2.2.2.1 1).1 = true := by
        cases hb : (st.2.2.2.1 1).1 with
        | true => rfl
        | false => rw [hb] at e0; exact absurd e0 c
      rw [if_pos hb]
      obtain ⟨e2, e3⟩ := e1 hb
      obtain ⟨o1, o2⟩ := hO.2.2.2.1 1 (by decide) hb
      refine hd_go kX5_back 999 (fun _ => rfl) rfl trivial ?_
      refine hd_ca kX5_back qX5_back (fun _ => rfl) (s_copyFrom_1_30 M N _ e2 o1.1) ?_
      rintro r M1 N1 ⟨rfl, rfl, hf1, hd1⟩
      refine hd_go kX5_back 999 (fun _ => rfl) rfl trivial ?_
      have hs1 : seC M1 36 (st.2.2.2.1 1).2.2 := seC.mv e3 (fun c j h1 h2 => hf1 c j (by show ¬ (1 ≤ c ∧ c ≤ 5); omega))
      refine hd_ca kX5_back qX5_back (fun _ => rfl) (s_seCopy_13_36 M1 N1 _ hs1 o2.1) ?_
      rintro r M2 N2 ⟨rfl, rfl, hf2, hs2⟩
      refine hd_go kX5_back 999 (fun _ => rfl) rfl trivial ?_
      have hd2 : hm M2 1 (st.2.2.2.1 1).2.1 := hd1.mv (fun c j h1 h2 => hf2 c j (by show ¬ (13 ≤ c ∧ c ≤ 15); omega))
      refine hd_en_ kX5_back (fun _ => rfl) trivial ⟨by rw [hd2.2.2.2.2.1], rfl, (hf1.mo (fun c j z => by have z : 1 ≤ c ∧ c ≤ 5 := z; show c ≤ 50; omega)).tr (hf2.mo (fun c j z => by have z : 13 ≤ c ∧ c ≤ 15 := z; show c ≤ 50; omega)), ?_⟩
      have c1 : CI M1 ((st.2.2.2.1 1).2.1, st.2) := hI.day (hf1.mo (fun c j z => by have z : 1 ≤ c ∧ c ≤ 5 := z; show (1 ≤ c ∧ c ≤ 12) ∨ 48 ≤ c; omega)) hd1
      exact c1.seen hf2 hs2
    · have hb : (st.2.2.2.1 1).1 = false := by
        cases hb : (st.2.2.2.1 1).1 with
        | false => rfl
        | true => rw [hb] at e0; exact absurd (e0.symm.trans c) (by decide)
      rw [if_neg (by rw [hb]; decide)]
      refine hd_go kX5_back 999 (fun _ => rfl) rfl trivial ?_
      exact hd_en_ kX5_back (fun _ => rfl) trivial ⟨rfl, rfl, fr.rf, hI⟩
end
section
/-! SHEETS, COUNT; printed by wip/whole/api5.py -/
set_option maxRecDepth 20000 in
theorem s_renew_l (k : Nat) (hk : k = 40 ∨ k = 42 ∨ k = 44 ∨ k = 46) (N : hd_N) (l : Int32) (n : Nat) (hn : n ≤ 40) (M : hd_M) : ∀ (m j : Nat) (M' : hd_M), j + m = n → fr (fun c _ => c = k + 1) M M' → (∀ x, x < j → M' (k + 1) x = 0) → hd_Go mX3_renew 12 [some (.ref k), some (.int l), some (.int (nI n)), some (.int (nI j))] [] M' N (fun r M1 N1 => r = none ∧ N1 = N ∧ fr (fun c _ => c = k + 1) M M1 ∧ ∀ x, x < n → M1 (k + 1) x = 0) := by
  intro m
  induction m with
  | zero =>
    intro j M' hj hf hx
    refine hd_go kX3_renew 999 (fun _ => rfl) rfl trivial ?_
    refine hd_ju kX3_renew (fun _ => rfl) (fun c => ?_) (fun c => absurd (nI_le (by omega) (by omega)) c)
    exact hd_en_ kX3_renew (fun _ => rfl) trivial ⟨rfl, rfl, hf, fun x h => hx x (by omega)⟩
  | succ m ih =>
    intro j M' hj hf hx
    refine hd_go kX3_renew 999 (fun _ => rfl) rfl trivial ?_
    refine hd_ju kX3_renew (fun _ => rfl) (fun c => absurd c (nI_ge (by omega) (by omega))) (fun c => ?_)
    refine hd_go kX3_renew 999 (fun _ => rfl) rfl trivial ?_
    refine hd_ju kX3_renew (fun _ => rfl) (fun c => absurd c (nI_ge (b := 40) (by omega) (by decide))) (fun c => ?_)
    have hv : vp_in (nI j) 40 := vp_in_nI (by omega) (by decide)
    have ej : (nI j).toNatClampNeg = j := nI_clamp (by omega)
    have key := ih (j + 1) (hd_u M' (k + 1) j 0) (by omega) (hf.up rfl) (fun x h => by
      by_cases e : x = j
      · rw [e, hd_u_s]
      · rw [hd_u_n (fun z => e z.2)]; exact hx x (by omega))
    rcases hk with rfl | rfl | rfl | rfl
    all_goals
      refine hd_go kX3_renew 999 (fun _ => rfl) rfl ⟨trivial, hv⟩ ?_
      rw [ej, nI_1]
      exact key
set_option maxRecDepth 20000 in
theorem s_renew (k : Nat) (hk : k = 40 ∨ k = 42 ∨ k = 44 ∨ k = 46) (M : hd_M) (N : hd_N) (l : Int32) (n : Nat) (hn : n ≤ 40) : hd_Ret mX3_renew [.ref k, .int l, .int (nI n)] M N (fun r M1 N1 => r = none ∧ N1 = N ∧ fr (fun c _ => c = k ∨ c = k + 1) M M1 ∧ M1 k 1 = l ∧ M1 k 2 = nI n ∧ ∀ x, x < n → M1 (k + 1) x = 0) := by
  change hd_Go mX3_renew 0 [some (.ref k), some (.int l), some (.int (nI n)), none] [] M N _
  have fin : ∀ (r : Option Value) (M1 : hd_M) (N1 : hd_N), (r = none ∧ N1 = N ∧ fr (fun c _ => c = k + 1) (hd_u (hd_u M k 1 l) k 2 (nI n)) M1 ∧ ∀ x, x < n → M1 (k + 1) x = 0) → (r = none ∧ N1 = N ∧ fr (fun c _ => c = k ∨ c = k + 1) M M1 ∧ M1 k 1 = l ∧ M1 k 2 = nI n ∧ ∀ x, x < n → M1 (k + 1) x = 0) := by
    rintro r M1 N1 ⟨h1, h2, h3, h4⟩
    refine ⟨h1, h2, ((fr.rf.up (Or.inl rfl)).up (Or.inl rfl)).tr (h3.mo (fun c j z => Or.inr z)), ?_, ?_, h4⟩
    · rw [h3 k 1 (by show ¬ k = k + 1; omega), hd_u_n (by omega), hd_u_s]
    · rw [h3 k 2 (by show ¬ k = k + 1; omega), hd_u_s]
  refine hd_Go.post fin ?_
  have key := s_renew_l k hk N l n hn (hd_u (hd_u M k 1 l) k 2 (nI n)) n 0 _ (by omega) fr.rf (fun x h => absurd h (Nat.not_lt_zero x))
  rcases hk with rfl | rfl | rfl | rfl
  all_goals
    refine hd_go kX3_renew 12 (fun _ => rfl) rfl trivial ?_
    exact key
set_option maxRecDepth 20000 in
theorem s_faultAt (k : Nat) (hk : k = 40 ∨ k = 42 ∨ k = 44 ∨ k = 46) (M : hd_M) (N : hd_N) (i : Int32) : hd_Ret mX3_faultAt [.ref k, .int i] M N (hd_is (.int (if M k 2 < 0 then 1 else if ¬ i < 0 ∧ i < M k 2 then 0 else 2)) M N) := by
  change hd_Go mX3_faultAt 0 [some (.ref k), some (.int i)] [] M N _
  rcases hk with rfl | rfl | rfl | rfl
  all_goals
    repeat' first
      | refine hd_ju kX3_faultAt (fun _ => rfl) (fun c => ?_) (fun c => ?_)
      | refine hd_en_ kX3_faultAt (fun _ => rfl) ?_ ?_
      | refine hd_go kX3_faultAt 999 (fun _ => rfl) rfl ?_ ?_
    all_goals first
      | trivial
      | (refine ⟨?_, rfl, rfl⟩; simp_all [-Int32.not_lt, -Int32.not_le, le_n])
set_option maxRecDepth 20000 in
theorem s_fault3 (k : Nat) (hk : k = 40 ∨ k = 42 ∨ k = 44 ∨ k = 46) (M : hd_M) (N : hd_N) (l f t : Int32) : hd_Ret mX3_faultOfThree [.ref k, .int l, .int f, .int t] M N (hd_is (.int (if M k 2 < 0 then 1 else if ¬ M k 1 = l then 3 else if ¬ f < 0 ∧ f < M k 2 ∧ f + 3 * t + 2 < M k 2 then 0 else 2)) M N) := by
  change hd_Go mX3_faultOfThree 0 [some (.ref k), some (.int l), some (.int f), some (.int t), none] [] M N _
  rcases hk with rfl | rfl | rfl | rfl
  all_goals
    repeat' first
      | refine hd_ju kX3_faultOfThree (fun _ => rfl) (fun c => ?_) (fun c => ?_)
      | refine hd_en_ kX3_faultOfThree (fun _ => rfl) ?_ ?_
      | refine hd_go kX3_faultOfThree 999 (fun _ => rfl) rfl ?_ ?_
    all_goals first
      | trivial
      | (refine ⟨?_, rfl, rfl⟩; simp_all [-Int32.not_lt, -Int32.not_le, le_n])
set_option maxRecDepth 20000 in
theorem s_put (k : Nat) (hk : k = 40 ∨ k = 42 ∨ k = 44 ∨ k = 46) (M : hd_M) (N : hd_N) (i : Nat) (hi : i < 40) (v : Int32) : hd_Ret mX3_put [.ref k, .int (nI i), .int v] M N (fun r M1 N1 => r = none ∧ N1 = N ∧ M1 = hd_u M (k + 1) i (la_v (M k 1) v)) := by
  change hd_Go mX3_put 0 [some (.ref k), some (.int (nI i)), some (.int v)] [] M N _
  have ei : (nI i).toNatClampNeg = i := nI_clamp (by omega)
  have hv : vp_in (nI i) 40 := vp_in_nI hi (by decide)
  rcases hk with rfl | rfl | rfl | rfl
  all_goals
    repeat' first
      | refine hd_ju kX3_put (fun _ => rfl) (fun c => ?_) (fun c => ?_)
      | refine hd_en_ kX3_put (fun _ => rfl) ?_ ?_
      | refine hd_go kX3_put 999 (fun _ => rfl) rfl ?_ ?_
    all_goals first
      | trivial
      | exact ⟨trivial, hv⟩
      | (refine ⟨rfl, rfl, ?_⟩; simp_all [la_v])
set_option maxRecDepth 20000 in
theorem wi03 {k : Int32} (h : wi k 0 3) : ∃ j : Nat, j < 4 ∧ k = nI j ∧ k.toNatClampNeg = j := by
  obtain ⟨j, hj, rfl⟩ := wi_nat (n := 3) rfl h
  exact ⟨j, by omega, rfl, nI_clamp (by omega)⟩
set_option maxRecDepth 20000 in
theorem shI {M M1 : hd_M} {st : ab_T} (hI : CI M st) (k : Nat) (hk : k < 4) (x : sh_T) (hf : fr (fun c _ => c = 40 + 2 * k ∨ c = 41 + 2 * k) M M1) (hx : (x.1 = true → M1 (40 + 2 * k) 2 = -1) ∧ (x.1 = false → M1 (40 + 2 * k) 1 = x.2.1 ∧ M1 (40 + 2 * k) 2 = nI x.2.2.1 ∧ ∀ i, i < x.2.2.1 → M1 (41 + 2 * k) i = x.2.2.2 i)) : fr clsF M M1 ∧ CI M1 (st.1, st.2.1, st.2.2.1, st.2.2.2.1, (fun j => if j = k then x else st.2.2.2.2.1 j), st.2.2.2.2.2) := by
  refine ⟨hf.mo (fun c j z => by have z : c = 40 + 2 * k ∨ c = 41 + 2 * k := z; show c ≤ 50; omega), hI.she (hf.mo (fun c j z => by have z : c = 40 + 2 * k ∨ c = 41 + 2 * k := z; show 40 ≤ c ∧ c ≤ 47; omega)) (fun j hj => ?_)⟩
  by_cases e : j = k
  · subst e
    show ((if j = j then x else st.2.2.2.2.1 j).1 = true → _) ∧ ((if j = j then x else st.2.2.2.2.1 j).1 = false → _)
    rw [if_pos rfl]
    exact hx
  · show ((if j = k then x else st.2.2.2.2.1 j).1 = true → _) ∧ ((if j = k then x else st.2.2.2.2.1 j).1 = false → _)
    rw [if_neg e]
    obtain ⟨h1, h2⟩ := hI.2.2.2.2.1 j hj
    have g1 : ∀ x, M1 (40 + 2 * j) x = M (40 + 2 * j) x := fun x => hf _ x (by show ¬ (40 + 2 * j = 40 + 2 * k ∨ 40 + 2 * j = 41 + 2 * k); omega)
    have g2 : ∀ x, M1 (41 + 2 * j) x = M (41 + 2 * j) x := fun x => hf _ x (by show ¬ (41 + 2 * j = 40 + 2 * k ∨ 41 + 2 * j = 41 + 2 * k); omega)
    refine ⟨fun z => by rw [g1]; exact h1 z, fun z => ?_⟩
    obtain ⟨h3, h4, h5⟩ := h2 z
    exact ⟨by rw [g1]; exact h3, by rw [g1]; exact h4, fun i hi => by rw [g2]; exact h5 i hi⟩
set_option maxRecDepth 20000 in
theorem c_sheet (k l n : Int32) : cA mX5_sheet [.int k, .int l, .int n] (an_sheet k l n) := by
  intro M N st hI hO
  change hd_Go mX5_sheet 0 [some (.ref 0), some (.int k), some (.int l), some (.int n)] [] M N _
  have bad : ¬ (wi k 0 3 ∧ wi l 0 2 ∧ ¬ 40 < n) → hd_Go mX5_sheet 20 [some (.ref 0), some (.int k), some (.int l), some (.int n)] [] M N (fun r M1 N1 => r = some (an_sheet k l n st).1 ∧ N1 = N ∧ fr clsF M M1 ∧ CI M1 (an_sheet k l n st).2) := by
    intro q
    refine hd_go kX5_sheet 999 (fun _ => rfl) rfl trivial ?_
    refine hd_en_ kX5_sheet (fun _ => rfl) trivial ?_
    unfold an_sheet
    rw [if_neg q]
    exact ⟨rfl, rfl, fr.rf, hI⟩
  unfold an_sheet at bad ⊢
  refine hd_go kX5_sheet 999 (fun _ => rfl) rfl trivial ?_
  refine hd_ci kX5_sheet qX5_sheet (fun _ => rfl) (s_isSheet _ M N) ?_
  refine hd_ju kX5_sheet (fun _ => rfl) (fun q => bad (fun z => hd_b0.mp q z.1)) (fun q => ?_)
  have q1 := hd_b1.mp q
  refine hd_go kX5_sheet 999 (fun _ => rfl) rfl trivial ?_
  refine hd_ci kX5_sheet qX5_sheet (fun _ => rfl) (s_isLane _ M N) ?_
  refine hd_ju kX5_sheet (fun _ => rfl) (fun q => bad (fun z => hd_b0.mp q z.2.1)) (fun q => ?_)
  have q2 := hd_b1.mp q
  refine hd_go kX5_sheet 999 (fun _ => rfl) rfl trivial ?_
  refine hd_ju kX5_sheet (fun _ => rfl) (fun q => ?_) (fun q => bad (fun z => q (Int32.not_lt.mp z.2.2)))
  have q3 := Int32.not_lt.mpr q
  rw [if_pos ⟨q1, q2, q3⟩]
  refine hd_go kX5_sheet 999 (fun _ => rfl) rfl trivial ?_
  refine hd_ju kX5_sheet (fun _ => rfl) (fun c => ?_) (fun c => ?_)
  · have c9 := Int32.not_lt.mpr c
    rw [if_neg c9]
    obtain ⟨x, hx, rfl⟩ := nI_of2 (M := 40) (n := 40) rfl c9 q
    obtain ⟨j, hj, rfl, ek⟩ := wi03 q1
    rw [ek, nI_clamp (show x < 2 ^ 31 by omega)]
    have fin : ∀ M1 N1, (N1 = N ∧ fr (fun c _ => c = 40 + 2 * j ∨ c = 40 + 2 * j + 1) M M1 ∧ M1 (40 + 2 * j) 1 = l ∧ M1 (40 + 2 * j) 2 = nI x ∧ ∀ y, y < x → M1 (40 + 2 * j + 1) y = 0) → (N1 = N ∧ fr clsF M M1 ∧ CI M1 (st.1, st.2.1, st.2.2.1, st.2.2.2.1, (fun i => if i = j then ((false, l, x, fun _ => 0) : sh_T) else st.2.2.2.2.1 i), st.2.2.2.2.2)) := by
      rintro M1 N1 ⟨h1, h2, h3, h4, h5⟩
      refine ⟨h1, shI hI j hj (false, l, x, fun _ => 0) (h2.mo (fun c i z => by have z : c = 40 + 2 * j ∨ c = 40 + 2 * j + 1 := z; show c = 40 + 2 * j ∨ c = 41 + 2 * j; omega)) ⟨fun z => (by cases z), fun _ => ⟨h3, h4, fun i hi => ?_⟩⟩⟩
      have := h5 i hi
      rw [show 40 + 2 * j + 1 = 41 + 2 * j by omega] at this
      exact this
    rcases (show j = 0 ∨ j = 1 ∨ j = 2 ∨ j = 3 by omega) with rfl | rfl | rfl | rfl
    all_goals
      refine hd_go kX5_sheet 999 (fun _ => rfl) rfl ⟨trivial, by decide, by decide⟩ ?_
      refine hd_ca kX5_sheet qX5_sheet (fun _ => rfl) (s_renew _ (by simp) M N l x hx) ?_
      rintro r M1 N1 ⟨rfl, h2⟩
      refine hd_go kX5_sheet 999 (fun _ => rfl) rfl trivial ?_
      exact hd_en_ kX5_sheet (fun _ => rfl) trivial ⟨rfl, fin M1 N1 h2⟩
  · rw [if_pos (Int32.not_le.mp c)]
    refine hd_go kX5_sheet 999 (fun _ => rfl) rfl trivial ?_
    exact hd_en_ kX5_sheet (fun _ => rfl) trivial ⟨rfl, rfl, fr.rf, hI⟩
set_option maxRecDepth 20000 in
theorem s_faultS (M : hd_M) (N : hd_N) (st : ab_T) (hI : CI M st) (hO : OK st) (j : Nat) (hj : j < 4) (i : Int32) : (if M (40 + 2 * j) 2 < 0 then (1 : Int32) else if ¬ i < 0 ∧ i < M (40 + 2 * j) 2 then 0 else 2) = if (st.2.2.2.2.1 j).1 then 1 else if ¬ i < 0 ∧ i < nI (st.2.2.2.2.1 j).2.2.1 then 0 else 2 := by
  obtain ⟨h1, h2⟩ := hI.2.2.2.2.1 j hj
  cases hb : (st.2.2.2.2.1 j).1 with
  | true => rw [h1 hb]; rfl
  | false =>
    obtain ⟨h3, h4, h5⟩ := h2 hb
    have h40 := (hO.2.2.2.2 j hj hb).1
    rw [h4, if_neg (nI_pos (by omega))]
    rfl
set_option maxRecDepth 20000 in
theorem c_lay (k i v : Int32) : cA mX5_lay [.int k, .int i, .int v] (an_lay k i v) := by
  intro M N st hI hO
  change hd_Go mX5_lay 0 [some (.ref 0), some (.int k), some (.int i), some (.int v), none] [] M N _
  unfold an_lay
  refine hd_go kX5_lay 999 (fun _ => rfl) rfl trivial ?_
  refine hd_ci kX5_lay qX5_lay (fun _ => rfl) (s_isSheet _ M N) ?_
  refine hd_ju kX5_lay (fun _ => rfl) (fun q => ?_) (fun q => ?_)
  · have q1 := hd_b1.mp q
    rw [if_pos q1]
    obtain ⟨j, hj, rfl, ek⟩ := wi03 q1
    rw [ek]
    have e9 := s_faultS M N st hI hO j hj i
    obtain ⟨h1, h2⟩ := hI.2.2.2.2.1 j hj
    have key : ∀ x : Int32, x = (if (st.2.2.2.2.1 j).1 then 1 else if ¬ i < 0 ∧ i < nI (st.2.2.2.2.1 j).2.2.1 then 0 else 2) → hd_Go mX5_lay 19 [some (.ref 0), some (.int (nI j)), some (.int i), some (.int v), none] [.int x] M N (fun r M1 N1 => r = some (if (st.2.2.2.2.1 j).1 = true then (Value.int (-11), st) else if ¬ i < 0 ∧ i < nI (st.2.2.2.2.1 j).2.2.1 then (Value.int 1, st.1, st.2.1, st.2.2.1, st.2.2.2.1, (fun j' => if j' = j then (false, (st.2.2.2.2.1 j).2.1, (st.2.2.2.2.1 j).2.2.1, fun x => if x = i.toNatClampNeg then la_v (st.2.2.2.2.1 j).2.1 v else (st.2.2.2.2.1 j).2.2.2 x) else st.2.2.2.2.1 j'), st.2.2.2.2.2) else (Value.int (-12), st)).1 ∧ N1 = N ∧ fr clsF M M1 ∧ CI M1 (if (st.2.2.2.2.1 j).1 = true then (Value.int (-11), st) else if ¬ i < 0 ∧ i < nI (st.2.2.2.2.1 j).2.2.1 then (Value.int 1, st.1, st.2.1, st.2.2.1, st.2.2.2.1, (fun j' => if j' = j then (false, (st.2.2.2.2.1 j).2.1, (st.2.2.2.2.1 j).2.2.1, fun x => if x = i.toNatClampNeg then la_v (st.2.2.2.2.1 j).2.1 v else (st.2.2.2.2.1 j).2.2.2 x) else st.2.2.2.2.1 j'), st.2.2.2.2.2) else (Value.int (-12), st)).2) := by
      intro x hx
      refine hd_go kX5_lay 999 (fun _ => rfl) rfl trivial ?_
      cases hb : (st.2.2.2.2.1 j).1 with
      | true =>
        rw [hb, if_pos rfl] at hx
        subst hx
        refine hd_ju kX5_lay (fun _ => rfl) (fun c => absurd c (by decide)) (fun c => ?_)
        refine hd_go kX5_lay 999 (fun _ => rfl) rfl trivial ?_
        exact hd_en_ kX5_lay (fun _ => rfl) trivial ⟨rfl, rfl, fr.rf, hI⟩
      | false =>
        obtain ⟨h3, h4, h5⟩ := h2 hb
        have h40 := (hO.2.2.2.2 j hj hb).1
        rw [hb] at hx
        rw [if_neg (show ¬ (false = true) by decide)] at hx
        simp only [Bool.false_eq_true, if_false]
        by_cases hi : ¬ i < 0 ∧ i < nI (st.2.2.2.2.1 j).2.2.1
        · rw [if_pos hi] at hx
          rw [if_pos hi]
          subst hx
          refine hd_ju kX5_lay (fun _ => rfl) (fun c => ?_) (fun c => absurd rfl c)
          obtain ⟨y, hy, rfl⟩ := nI_of hi.1
          have hy2 : y < (st.2.2.2.2.1 j).2.2.1 := (nI_ltI hy (by omega)).mp hi.2
          rw [nI_clamp hy]
          have fin : ∀ M1, M1 = hd_u M (40 + 2 * j + 1) y (la_v (M (40 + 2 * j) 1) v) → (fr clsF M M1 ∧ CI M1 (st.1, st.2.1, st.2.2.1, st.2.2.2.1, (fun j' => if j' = j then ((false, (st.2.2.2.2.1 j).2.1, (st.2.2.2.2.1 j).2.2.1, fun x => if x = y then la_v (st.2.2.2.2.1 j).2.1 v else (st.2.2.2.2.1 j).2.2.2 x) : sh_T) else st.2.2.2.2.1 j'), st.2.2.2.2.2)) := by
            rintro M1 rfl
            refine shI hI j hj (false, (st.2.2.2.2.1 j).2.1, (st.2.2.2.2.1 j).2.2.1, fun x => if x = y then la_v (st.2.2.2.2.1 j).2.1 v else (st.2.2.2.2.1 j).2.2.2 x) (fr.rf.up (by show 40 + 2 * j + 1 = 40 + 2 * j ∨ 40 + 2 * j + 1 = 41 + 2 * j; omega)) ⟨fun z => (by cases z), fun _ => ⟨?_, ?_, fun a ha => ?_⟩⟩
            · rw [hd_u_n (by omega)]; exact h3
            · rw [hd_u_n (by omega)]; exact h4
            · show _ = if a = y then la_v (st.2.2.2.2.1 j).2.1 v else (st.2.2.2.2.1 j).2.2.2 a
              by_cases e : a = y
              · rw [if_pos e, e, show 41 + 2 * j = 40 + 2 * j + 1 by omega, hd_u_s, h3]
              · rw [if_neg e, hd_u_n (by omega)]; exact h5 a ha
          rcases (show j = 0 ∨ j = 1 ∨ j = 2 ∨ j = 3 by omega) with rfl | rfl | rfl | rfl
          all_goals
            refine hd_go kX5_lay 999 (fun _ => rfl) rfl ⟨trivial, by decide, by decide⟩ ?_
            refine hd_ca kX5_lay qX5_lay (fun _ => rfl) (s_put _ (by simp) M N y (by omega) v) ?_
            rintro r M1 N1 ⟨rfl, rfl, h9⟩
            refine hd_go kX5_lay 999 (fun _ => rfl) rfl trivial ?_
            exact hd_en_ kX5_lay (fun _ => rfl) trivial ⟨rfl, rfl, fin M1 h9⟩
        · rw [if_neg hi] at hx
          rw [if_neg hi]
          subst hx
          refine hd_ju kX5_lay (fun _ => rfl) (fun c => absurd c (by decide)) (fun c => ?_)
          refine hd_go kX5_lay 999 (fun _ => rfl) rfl trivial ?_
          exact hd_en_ kX5_lay (fun _ => rfl) trivial ⟨rfl, rfl, fr.rf, hI⟩
    rcases (show j = 0 ∨ j = 1 ∨ j = 2 ∨ j = 3 by omega) with rfl | rfl | rfl | rfl
    all_goals
      refine hd_go kX5_lay 999 (fun _ => rfl) rfl ⟨trivial, by decide, by decide⟩ ?_
      refine hd_ci kX5_lay qX5_lay (fun _ => rfl) (s_faultAt _ (by simp) M N i) ?_
      exact key _ e9
  · have q := hd_b0.mp q
    rw [if_neg q]
    refine hd_go kX5_lay 999 (fun _ => rfl) rfl trivial ?_
    exact hd_en_ kX5_lay (fun _ => rfl) trivial ⟨rfl, rfl, fr.rf, hI⟩
set_option maxRecDepth 20000 in
theorem s_made (M : hd_M) (N : hd_N) (st : ab_T) (hI : CI M st) : hd_Ret mX5_imagesMade [.ref 0] M N (hd_is (.int ((if (st.2.2.2.1 0).1 then 1 else 0) + (if (st.2.2.2.1 1).1 then 1 else 0))) M N) := by
  change hd_Go mX5_imagesMade 0 [some (.ref 0), none, none] [] M N _
  have e0 : M 19 2 = if (st.2.2.2.1 0).1 then 1 else 0 := (hI.2.2.2.1 0 (by decide)).1
  have e1 : M 29 2 = if (st.2.2.2.1 1).1 then 1 else 0 := (hI.2.2.2.1 1 (by decide)).1
  have one : ∀ (x : Int32) (Q : hd_Q) (lv : hd_L) (y : Int32) (b : Bool), x = (if b then 1 else 0) → hd_Go mX5_imagesMade 27 lv [.int (if b then 1 else 0), .int y] M N Q → hd_Go mX5_imagesMade 19 lv [.int x, .int y] M N Q := by
    intro x Q lv y b hx h
    subst hx
    cases b with
    | true =>
      refine hd_ju kX5_imagesMade (fun _ => rfl) (fun c => absurd c (by decide)) (fun c => ?_)
      refine hd_go kX5_imagesMade 999 (fun _ => rfl) rfl trivial ?_
      exact h
    | false =>
      refine hd_ju kX5_imagesMade (fun _ => rfl) (fun c => ?_) (fun c => absurd rfl c)
      refine hd_go kX5_imagesMade 27 (fun _ => rfl) rfl trivial ?_
      exact h
  refine hd_go kX5_imagesMade 999 (fun _ => rfl) rfl trivial ?_
  refine hd_ju kX5_imagesMade (fun _ => rfl) (fun c => absurd c (by decide)) (fun c => ?_)
  refine hd_go kX5_imagesMade 999 (fun _ => rfl) rfl ⟨trivial, by decide, by decide⟩ ?_
  refine one _ _ _ _ _ e0 ?_
  refine hd_go kX5_imagesMade 999 (fun _ => rfl) rfl trivial ?_
  refine hd_go kX5_imagesMade 999 (fun _ => rfl) rfl trivial ?_
  refine hd_ju kX5_imagesMade (fun _ => rfl) (fun c => absurd c (by decide)) (fun c => ?_)
  refine hd_go kX5_imagesMade 999 (fun _ => rfl) rfl ⟨trivial, by decide, by decide⟩ ?_
  refine one _ _ _ _ _ e1 ?_
  refine hd_go kX5_imagesMade 999 (fun _ => rfl) rfl trivial ?_
  refine hd_go kX5_imagesMade 999 (fun _ => rfl) rfl trivial ?_
  refine hd_ju kX5_imagesMade (fun _ => rfl) (fun c => ?_) (fun c => absurd (by decide) c)
  refine hd_go kX5_imagesMade 999 (fun _ => rfl) rfl trivial ?_
  refine hd_en_ kX5_imagesMade (fun _ => rfl) trivial ⟨?_, rfl, rfl⟩
  rw [Int32.zero_add]
set_option maxRecDepth 20000 in
theorem c_count (w : Int32) : cA mX5_count [.int w] (an_count w) := by
  intro M N st hI hO
  change hd_Go mX5_count 0 [some (.ref 0), some (.int w)] [] M N _
  have e3 : (if M 40 2 < 0 then (-4 : Int32) else M 40 2) = if (st.2.2.2.2.1 0).1 then -4 else nI (st.2.2.2.2.1 0).2.2.1 := by
    obtain ⟨h1, h2⟩ := hI.2.2.2.2.1 0 (by decide)
    cases hb : (st.2.2.2.2.1 0).1 with
    | true => rw [show M 40 2 = -1 from h1 hb]; rfl
    | false =>
      obtain ⟨h3, h4, h5⟩ := h2 hb
      have h40 := (hO.2.2.2.2 0 (by decide) hb).1
      rw [show M 40 2 = nI (st.2.2.2.2.1 0).2.2.1 from h4, if_neg (nI_pos (by omega))]
      rfl
  have s1 : wsm (M 3) 0 st.1.1 = wsm (st.1.2.2.2.2.2 1) 0 st.1.1 := wsm_cong _ _ (fun i _ h => hI.1.2.2.2.2.2.2.1 i (by omega))
  have s2 : wsm (M 4) 0 st.1.1 = wsm (st.1.2.2.2.2.2 2) 0 st.1.1 := wsm_cong _ _ (fun i _ h => hI.1.2.2.2.2.2.2.2.1 i (by omega))
  refine hd_go kX5_count 999 (fun _ => rfl) rfl trivial ?_
  refine hd_sc kX5_count (fun _ => rfl) ⟨fun c => ?_, fun c0 => ⟨fun c => ?_, fun c1 => ⟨fun c => ?_, fun c2 => ⟨fun c => ?_, fun c3 => ⟨fun c => ?_, fun c4 => ⟨fun c => ?_, fun c5 => ?_⟩⟩⟩⟩⟩⟩
  · subst c
    refine hd_go kX5_count 999 (fun _ => rfl) rfl trivial ?_
    exact hd_en_ kX5_count (fun _ => rfl) trivial ⟨by rw [hI.2.1.1]; rfl, rfl, fr.rf, hI⟩
  · subst c
    refine hd_go kX5_count 999 (fun _ => rfl) rfl trivial ?_
    refine hd_ci kX5_count qX5_count (fun _ => rfl) (s_made M N st hI) ?_
    exact hd_en_ kX5_count (fun _ => rfl) trivial ⟨rfl, rfl, fr.rf, hI⟩
  · subst c
    refine hd_go kX5_count 999 (fun _ => rfl) rfl trivial ?_
    exact hd_en_ kX5_count (fun _ => rfl) trivial ⟨by rw [hI.2.2.1.1]; rfl, rfl, fr.rf, hI⟩
  · subst c
    refine hd_go kX5_count 999 (fun _ => rfl) rfl ⟨trivial, by decide, by decide⟩ ?_
    refine hd_ju kX5_count (fun _ => rfl) (fun c => ?_) (fun c => ?_)
    · refine hd_go kX5_count 999 (fun _ => rfl) rfl ⟨trivial, by decide, by decide⟩ ?_
      refine hd_en_ kX5_count (fun _ => rfl) trivial ⟨?_, rfl, fr.rf, hI⟩
      rw [if_neg (Int32.not_lt.mpr c)] at e3
      exact congrArg (fun x => some (Value.int x)) e3
    · refine hd_go kX5_count 999 (fun _ => rfl) rfl trivial ?_
      refine hd_en_ kX5_count (fun _ => rfl) trivial ⟨?_, rfl, fr.rf, hI⟩
      rw [if_pos (Int32.not_le.mp c)] at e3
      exact congrArg (fun x => some (Value.int x)) e3
  · subst c
    refine hd_go kX5_count 999 (fun _ => rfl) rfl trivial ?_
    refine hd_ci kX5_count qX5_count (fun _ => rfl) (s_sumOf_1 M N 3 st.1.1 (by simp) hO.1.1 hI.1.1) ?_
    exact hd_en_ kX5_count (fun _ => rfl) trivial ⟨by rw [s1]; rfl, rfl, fr.rf, hI⟩
  · subst c
    refine hd_go kX5_count 999 (fun _ => rfl) rfl trivial ?_
    refine hd_ci kX5_count qX5_count (fun _ => rfl) (s_sumOf_1 M N 4 st.1.1 (by simp) hO.1.1 hI.1.1) ?_
    exact hd_en_ kX5_count (fun _ => rfl) trivial ⟨by rw [s2]; rfl, rfl, fr.rf, hI⟩
  · refine hd_go kX5_count 999 (fun _ => rfl) rfl trivial ?_
    refine hd_en_ kX5_count (fun _ => rfl) trivial ⟨?_, rfl, fr.rf, hI⟩
    simp only [an_count, c0, c1, c2, c3, c4, c5, if_false]
end
section
/-! THE REFERENCE'S METHODS; printed by wip/whole/ref1.py -/
set_option maxRecDepth 20000 in
theorem lg_lt (x y : Int64) : lg_cmp x y < 0 ↔ x < y := by
  unfold lg_cmp
  by_cases h1 : x > y
  · rw [if_pos h1]
    exact ⟨fun z => absurd z (by decide), fun z => absurd (Int64.lt_trans z h1) Int64.lt_irrefl⟩
  · rw [if_neg h1]
    by_cases h2 : x = y
    · rw [if_pos h2, h2]
      exact ⟨fun z => absurd z (by decide), fun z => absurd z Int64.lt_irrefl⟩
    · rw [if_neg h2]
      refine ⟨fun _ => ?_, fun _ => by decide⟩
      rcases Int64.lt_or_lt_of_ne h2 with z | z
      · exact z
      · exact absurd z h1
set_option maxRecDepth 20000 in
theorem lg_gt (x y : Int64) : 0 < lg_cmp x y ↔ y < x := by
  unfold lg_cmp
  by_cases h1 : x > y
  · rw [if_pos h1]
    exact ⟨fun _ => h1, fun _ => by decide⟩
  · rw [if_neg h1]
    refine ⟨fun z => ?_, fun z => absurd z h1⟩
    by_cases h2 : x = y
    · rw [if_pos h2] at z; exact absurd z (by decide)
    · rw [if_neg h2] at z; exact absurd z (by decide)
set_option maxRecDepth 20000 in
theorem lg_eq (x y : Int64) : lg_cmp x y = 0 ↔ x = y := by
  unfold lg_cmp
  by_cases h1 : x > y
  · rw [if_pos h1]
    exact ⟨fun z => absurd z (by decide), fun z => by rw [z] at h1; exact absurd h1 Int64.lt_irrefl⟩
  · rw [if_neg h1]
    by_cases h2 : x = y
    · rw [if_pos h2]; exact ⟨fun _ => h2, fun _ => rfl⟩
    · rw [if_neg h2]; exact ⟨fun z => absurd z (by decide), fun z => absurd z h2⟩
set_option maxRecDepth 20000 in
theorem wide_lt (a b : Int32) : a.toInt64 < b.toInt64 ↔ a < b := by
  rw [Int64.lt_iff_toInt_lt, Int32.lt_iff_toInt_lt, Int32.toInt_toInt64, Int32.toInt_toInt64]
set_option maxRecDepth 20000 in
theorem r_in (v lo hi : Int32) (l h : Int64) (hl : l = lo.toInt64) (hh : h = hi.toInt64) (M : hd_M) (N : hd_N) : hd_Ret mX6_in [.long v.toInt64, .long l, .long h] M N (hd_is (.int (hd_b (wi v lo hi))) M N) := by
  change hd_Go mX6_in 0 [some (.long v.toInt64), none, some (.long l), none, some (.long h), none] [] M N _
  subst hl
  subst hh
  refine hd_go kX6_in 999 (fun _ => rfl) rfl trivial ?_
  refine hd_ju kX6_in (fun _ => rfl) (fun c => ?_) (fun c => ?_)
  · rw [lg_lt, wide_lt] at c
    refine hd_go kX6_in 999 (fun _ => rfl) rfl trivial ?_
    refine hd_en_ kX6_in (fun _ => rfl) (Or.inl rfl) ⟨?_, rfl, rfl⟩
    rw [show hd_b (wi v lo hi) = 0 from if_neg (fun z => z.1 c)]
  · rw [lg_lt, wide_lt] at c
    refine hd_go kX6_in 999 (fun _ => rfl) rfl trivial ?_
    refine hd_ju kX6_in (fun _ => rfl) (fun c2 => ?_) (fun c2 => ?_)
    · rw [lg_gt, wide_lt] at c2
      refine hd_go kX6_in 999 (fun _ => rfl) rfl trivial ?_
      refine hd_en_ kX6_in (fun _ => rfl) (Or.inl rfl) ⟨?_, rfl, rfl⟩
      rw [show hd_b (wi v lo hi) = 0 from if_neg (fun z => z.2 c2)]
    · rw [lg_gt, wide_lt] at c2
      refine hd_go kX6_in 999 (fun _ => rfl) rfl trivial ?_
      refine hd_en_ kX6_in (fun _ => rfl) (Or.inr rfl) ⟨?_, rfl, rfl⟩
      rw [show hd_b (wi v lo hi) = 1 from if_pos ⟨c, c2⟩]
set_option maxRecDepth 20000 in
theorem r_flag (x : Int32) (M : hd_M) (N : hd_N) : hd_Ret mX6_flag [.int x] M N (hd_is (.int (hd_b (¬ x = 0))) M N) := by
  change hd_Go mX6_flag 0 [some (.int x)] [] M N _
  refine hd_go kX6_flag 999 (fun _ => rfl) rfl trivial ?_
  refine hd_ju kX6_flag (fun _ => rfl) (fun c => ?_) (fun c => ?_)
  · refine hd_go kX6_flag 999 (fun _ => rfl) rfl trivial ?_
    refine hd_en_ kX6_flag (fun _ => rfl) trivial ⟨?_, rfl, rfl⟩
    rw [show hd_b (¬ x = 0) = 0 from if_neg (fun z => z c)]
  · refine hd_go kX6_flag 999 (fun _ => rfl) rfl trivial ?_
    refine hd_en_ kX6_flag (fun _ => rfl) trivial ⟨?_, rfl, rfl⟩
    rw [show hd_b (¬ x = 0) = 1 from if_pos c]
set_option maxRecDepth 20000 in
theorem ix4 (i c : Nat) : (4 : Int32) * nI i + nI c = nI (4 * i + c) := by
  rw [show (4 : Int32) = nI 4 from rfl, pk_mul, nI_add]
abbrev nowF : Nat → Nat → Prop := fun c _ => c = 53
set_option maxRecDepth 20000 in
theorem r_starts_l (M : hd_M) (N : hd_N) : ∀ (m j : Nat) (M' : hd_M), j + m = 46 → fr (fun c _ => c = 53) M M' → (∀ x, x < j → M' 53 x = M 52 x) → (∀ x, 46 ≤ x → M' 53 x = M 53 x) → hd_Go mX6_starts 2 [some (.ref 51), some (.int (nI j))] [] M' N (fun r M1 N1 => r = none ∧ N1 = N ∧ fr (fun c j => c = 53 ∧ j < 46) M M1 ∧ ∀ x, x < 46 → M1 53 x = M 52 x) := by
  intro m
  induction m with
  | zero =>
    intro j M' hj hf hx hy
    refine hd_go kX6_starts 999 (fun _ => rfl) rfl trivial ?_
    refine hd_ju kX6_starts (fun _ => rfl) (fun c => ?_) (fun c => absurd (nI_le (a := 46) (by omega) (by omega)) c)
    refine hd_en_ kX6_starts (fun _ => rfl) trivial ⟨rfl, rfl, fun c x hc => ?_, fun x h => hx x (by omega)⟩
    by_cases e : c = 53
    · subst e
      exact hy x (by have hc : ¬ (53 = 53 ∧ x < 46) := hc; omega)
    · exact hf c x e
  | succ m ih =>
    intro j M' hj hf hx hy
    refine hd_go kX6_starts 999 (fun _ => rfl) rfl trivial ?_
    refine hd_ju kX6_starts (fun _ => rfl) (fun c => absurd c (nI_ge (b := 46) (by omega) (by decide))) (fun c => ?_)
    refine hd_go kX6_starts 999 (fun _ => rfl) rfl ⟨⟨trivial, vp_in_nI (by omega) (by decide)⟩, vp_in_nI (by omega) (by decide)⟩ ?_
    rw [nI_clamp (by omega), nI_1, hf 52 j (by simp)]
    refine ih (j + 1) _ (by omega) (hf.up rfl) (fun x h => ?_) (fun x h => ?_)
    · by_cases e : x = j
      · rw [e, hd_u_s]
      · rw [hd_u_n (by omega)]; exact hx x (by omega)
    · rw [hd_u_n (by omega)]; exact hy x h
set_option maxRecDepth 20000 in
theorem r_starts (M : hd_M) (N : hd_N) : hd_Ret mX6_starts [.ref 51] M N (fun r M1 N1 => r = none ∧ N1 = N ∧ fr (fun c j => c = 53 ∧ j < 46) M M1 ∧ ∀ x, x < 46 → M1 53 x = M 52 x) := by
  change hd_Go mX6_starts 0 [some (.ref 51), none] [] M N _
  refine hd_go kX6_starts 2 (fun _ => rfl) rfl trivial ?_
  exact r_starts_l M N 46 0 M (by decide) fr.rf (fun x h => absurd h (Nat.not_lt_zero x)) (fun _ _ => rfl)
set_option maxRecDepth 20000 in
theorem r_settles_l (M : hd_M) (N : hd_N) : ∀ (m j : Nat) (M' : hd_M), j + m = 46 → fr (fun c _ => c = 52) M M' → (∀ x, x < j → M' 52 x = M 53 x) → (∀ x, 46 ≤ x → M' 52 x = M 52 x) → hd_Go mX6_settles 2 [some (.ref 51), some (.int (nI j))] [] M' N (fun r M1 N1 => r = none ∧ N1 = N ∧ fr (fun c j => c = 52 ∧ j < 46) M M1 ∧ ∀ x, x < 46 → M1 52 x = M 53 x) := by
  intro m
  induction m with
  | zero =>
    intro j M' hj hf hx hy
    refine hd_go kX6_settles 999 (fun _ => rfl) rfl trivial ?_
    refine hd_ju kX6_settles (fun _ => rfl) (fun c => ?_) (fun c => absurd (nI_le (a := 46) (by omega) (by omega)) c)
    refine hd_en_ kX6_settles (fun _ => rfl) trivial ⟨rfl, rfl, fun c x hc => ?_, fun x h => hx x (by omega)⟩
    by_cases e : c = 52
    · subst e
      exact hy x (by have hc : ¬ (52 = 52 ∧ x < 46) := hc; omega)
    · exact hf c x e
  | succ m ih =>
    intro j M' hj hf hx hy
    refine hd_go kX6_settles 999 (fun _ => rfl) rfl trivial ?_
    refine hd_ju kX6_settles (fun _ => rfl) (fun c => absurd c (nI_ge (b := 46) (by omega) (by decide))) (fun c => ?_)
    refine hd_go kX6_settles 999 (fun _ => rfl) rfl ⟨⟨trivial, vp_in_nI (by omega) (by decide)⟩, vp_in_nI (by omega) (by decide)⟩ ?_
    rw [nI_clamp (by omega), nI_1, hf 53 j (by simp)]
    refine ih (j + 1) _ (by omega) (hf.up rfl) (fun x h => ?_) (fun x h => ?_)
    · by_cases e : x = j
      · rw [e, hd_u_s]
      · rw [hd_u_n (by omega)]; exact hx x (by omega)
    · rw [hd_u_n (by omega)]; exact hy x h
set_option maxRecDepth 20000 in
theorem r_settles (M : hd_M) (N : hd_N) : hd_Ret mX6_settles [.ref 51] M N (fun r M1 N1 => r = none ∧ N1 = N ∧ fr (fun c j => c = 52 ∧ j < 46) M M1 ∧ ∀ x, x < 46 → M1 52 x = M 53 x) := by
  change hd_Go mX6_settles 0 [some (.ref 51), none] [] M N _
  refine hd_go kX6_settles 2 (fun _ => rfl) rfl trivial ?_
  exact r_settles_l M N 46 0 M (by decide) fr.rf (fun x h => absurd h (Nat.not_lt_zero x)) (fun _ _ => rfl)
set_option maxRecDepth 20000 in
theorem r_of (i c : Nat) (h : 4 * i + c < 46) (M : hd_M) (N : hd_N) : hd_Ret mX6_of [.ref 51, .int (nI i), .int (nI c)] M N (hd_is (.int (M 53 (4 * i + c))) M N) := by
  change hd_Go mX6_of 0 [some (.ref 51), some (.int (nI i)), some (.int (nI c))] [] M N _
  refine hd_go kX6_of 999 (fun _ => rfl) rfl ?_ ?_
  · rw [ix4]; exact ⟨trivial, vp_in_nI h (by decide)⟩
  rw [ix4, nI_clamp (by omega)]
  exact hd_en_ kX6_of (fun _ => rfl) trivial ⟨rfl, rfl, rfl⟩
set_option maxRecDepth 20000 in
theorem r_bo (i c : Nat) (h : 4 * i + c < 46) (v : Int32) (M : hd_M) (N : hd_N) : hd_Ret mX6_becomesOf [.ref 51, .int (nI i), .int (nI c), .int v] M N (fun r M1 N1 => r = none ∧ N1 = N ∧ M1 = hd_u M 53 (4 * i + c) v) := by
  change hd_Go mX6_becomesOf 0 [some (.ref 51), some (.int (nI i)), some (.int (nI c)), some (.int v)] [] M N _
  refine hd_go kX6_becomesOf 999 (fun _ => rfl) rfl ?_ ?_
  · rw [ix4]; exact ⟨trivial, vp_in_nI h (by decide)⟩
  rw [ix4, nI_clamp (by omega)]
  exact hd_en_ kX6_becomesOf (fun _ => rfl) trivial ⟨rfl, rfl, rfl⟩
set_option maxRecDepth 20000 in
theorem r_bears (i : Nat) (h : i < 7) (M : hd_M) (N : hd_N) : hd_Ret mX6_bears [.ref 51, .int (nI i)] M N (hd_is (.int (dy_brs (M 53 (4 * i)) (M 53 (4 * i + 2)))) M N) := by
  change hd_Go mX6_bears 0 [some (.ref 51), some (.int (nI i)), none] [] M N _
  refine hd_go kX6_bears 999 (fun _ => rfl) rfl trivial ?_
  refine hd_ci kX6_bears qX6_bears (fun _ => rfl) (r_of i 0 (by omega) M N) ?_
  rw [Nat.add_zero]
  have fr2 : ∀ (x : Int32), (x = 1 ∨ x = 3) → M 53 (4 * i) = x → hd_Go mX6_bears 17 [some (.ref 51), some (.int (nI i)), some (.int (M 53 (4 * i)))] [] M N (hd_is (.int (dy_brs (M 53 (4 * i)) (M 53 (4 * i + 2)))) M N) := by
    intro x hx e
    refine hd_go kX6_bears 999 (fun _ => rfl) rfl trivial ?_
    refine hd_ci kX6_bears qX6_bears (fun _ => rfl) (r_of i 2 (by omega) M N) ?_
    refine hd_go kX6_bears 999 (fun _ => rfl) rfl trivial ?_
    refine hd_en_ kX6_bears (fun _ => rfl) trivial ⟨?_, rfl, rfl⟩
    unfold dy_brs
    rw [if_pos (by rw [e]; exact hx)]
  refine hd_go kX6_bears 999 (fun _ => rfl) rfl trivial ?_
  refine hd_ju kX6_bears (fun _ => rfl) (fun c => fr2 1 (Or.inl rfl) c) (fun c1 => ?_)
  refine hd_go kX6_bears 999 (fun _ => rfl) rfl trivial ?_
  refine hd_ju kX6_bears (fun _ => rfl) (fun c3 => ?_) (fun c3 => fr2 3 (Or.inr rfl) c3)
  refine hd_go kX6_bears 999 (fun _ => rfl) rfl trivial ?_
  refine hd_ci kX6_bears qX6_bears (fun _ => rfl) (r_of i 2 (by omega) M N) ?_
  refine hd_go kX6_bears 999 (fun _ => rfl) rfl trivial ?_
  refine hd_en_ kX6_bears (fun _ => rfl) trivial ⟨?_, rfl, rfl⟩
  unfold dy_brs
  rw [if_neg (fun z => z.elim c1 c3)]
set_option maxRecDepth 20000 in
theorem r_laid_l (M : hd_M) (N : hd_N) (n : Nat) (hn : n ≤ 7) (h28 : M 53 28 = nI n) (i : Int32) : ∀ (m k : Nat) (s : Int32), k + m = n ∨ (n ≤ k ∧ k ≤ 7 ∧ m = 0) → hd_Go mX6_laidOn 6 [some (.ref 51), some (.int i), some (.int s), some (.int (nI k))] [] M N (hd_is (.int (s + wsm (fun k => M 53 (4 * k + 2)) k m)) M N) := by
  intro m
  induction m with
  | zero =>
    intro k s h
    refine hd_go kX6_laidOn 999 (fun _ => rfl) rfl ⟨trivial, vp_in_nI (n := 28) (by decide) (by decide)⟩ ?_
    refine hd_ju kX6_laidOn (fun _ => rfl) (fun c => ?_) (fun c => ?_)
    · refine hd_go kX6_laidOn 999 (fun _ => rfl) rfl trivial ?_
      refine hd_en_ kX6_laidOn (fun _ => rfl) trivial ⟨?_, rfl, rfl⟩
      rw [wsm, Int32.add_zero]
    · have c : ¬ M 53 28 ≤ nI k := c
      rw [h28] at c
      exact absurd (nI_le (by omega) (by omega)) c
  | succ m ih =>
    intro k s h
    refine hd_go kX6_laidOn 999 (fun _ => rfl) rfl ⟨trivial, vp_in_nI (n := 28) (by decide) (by decide)⟩ ?_
    refine hd_ju kX6_laidOn (fun _ => rfl) (fun c => ?_) (fun c => ?_)
    · have c : M 53 28 ≤ nI k := c
      rw [h28] at c
      exact absurd c (nI_ge (by omega) (by omega))
    refine hd_go kX6_laidOn 999 (fun _ => rfl) rfl trivial ?_
    refine hd_ci kX6_laidOn qX6_laidOn (fun _ => rfl) (r_of k 2 (by omega) M N) ?_
    refine hd_go kX6_laidOn 999 (fun _ => rfl) rfl trivial ?_
    rw [nI_1]
    have := ih (k + 1) (s + M 53 (4 * k + 2)) (by omega)
    rw [wsm, ← Int32.add_assoc]
    exact this
set_option maxRecDepth 20000 in
theorem r_laid (M : hd_M) (N : hd_N) (n : Nat) (hn : n ≤ 7) (h28 : M 53 28 = nI n) (i : Nat) (hi : i < 7) : hd_Ret mX6_laidOn [.ref 51, .int (nI i)] M N (hd_is (.int (wsm (fun k => M 53 (4 * k + 2)) (i + 1) (n - (i + 1)))) M N) := by
  change hd_Go mX6_laidOn 0 [some (.ref 51), some (.int (nI i)), none, none] [] M N _
  refine hd_go kX6_laidOn 6 (fun _ => rfl) rfl trivial ?_
  rw [nI_1]
  have := r_laid_l M N n hn h28 (nI i) (n - (i + 1)) (i + 1) 0 (by omega)
  rw [Int32.zero_add] at this
  exact this
set_option maxRecDepth 20000 in
theorem r_isCr (M : hd_M) (N : hd_N) (n : Nat) (hn : n ≤ 7) (h28 : M 53 28 = nI n) (i : Nat) (hi : i < 7) : hd_Ret mX6_isCrushed [.ref 51, .int (nI i)] M N (hd_is (.int (hd_b (dy_brs (M 53 (4 * i)) (M 53 (4 * i + 2)) < wsm (fun k => M 53 (4 * k + 2)) (i + 1) (n - (i + 1))))) M N) := by
  change hd_Go mX6_isCrushed 0 [some (.ref 51), some (.int (nI i))] [] M N _
  refine hd_go kX6_isCrushed 999 (fun _ => rfl) rfl trivial ?_
  refine hd_ci kX6_isCrushed qX6_isCrushed (fun _ => rfl) (r_laid M N n hn h28 i hi) ?_
  refine hd_go kX6_isCrushed 999 (fun _ => rfl) rfl trivial ?_
  refine hd_ci kX6_isCrushed qX6_isCrushed (fun _ => rfl) (r_bears i hi M N) ?_
  refine hd_ju kX6_isCrushed (fun _ => rfl) (fun c => ?_) (fun c => ?_)
  · refine hd_go kX6_isCrushed 999 (fun _ => rfl) rfl trivial ?_
    refine hd_en_ kX6_isCrushed (fun _ => rfl) (Or.inl rfl) ⟨?_, rfl, rfl⟩
    rw [show hd_b _ = 0 from if_neg (Int32.not_lt.mpr c)]
  · refine hd_go kX6_isCrushed 999 (fun _ => rfl) rfl trivial ?_
    refine hd_en_ kX6_isCrushed (fun _ => rfl) (Or.inr rfl) ⟨?_, rfl, rfl⟩
    rw [show hd_b _ = 1 from if_pos (Int32.not_le.mp c)]
set_option maxRecDepth 20000 in
theorem r_cheers (M : hd_M) (N : hd_N) (n : Nat) (hn : n ≤ 7) (h28 : M 53 28 = nI n) (i : Nat) (hi : i < 7) : hd_Ret mX6_cheers [.ref 51, .int (nI i)] M N (hd_is (.int (dy_chr (wsm (fun k => M 53 (4 * k + 2)) (i + 1) (n - (i + 1))) (M 53 (4 * i)) (M 53 (4 * i + 1)) (M 53 (4 * i + 2)))) M N) := by
  change hd_Go mX6_cheers 0 [some (.ref 51), some (.int (nI i)), none] [] M N _
  generalize hld : wsm (fun k => M 53 (4 * k + 2)) (i + 1) (n - (i + 1)) = ld
  have tail : ∀ p : Int32, p = dy_plg ld (M 53 (4 * i)) (M 53 (4 * i + 1)) (M 53 (4 * i + 2)) → hd_Go mX6_cheers 25 [some (.ref 51), some (.int (nI i)), none] [.int p] M N (hd_is (.int (dy_chr ld (M 53 (4 * i)) (M 53 (4 * i + 1)) (M 53 (4 * i + 2)))) M N) := by
    intro p hp
    refine hd_go kX6_cheers 999 (fun _ => rfl) rfl trivial ?_
    refine hd_ci kX6_cheers qX6_cheers (fun _ => rfl) (r_of i 0 (by omega) M N) ?_
    rw [Nat.add_zero]
    unfold dy_chr
    rw [← hp]
    refine hd_sc kX6_cheers (fun _ => rfl) ⟨fun c => ?_, fun c1 => ⟨fun c => ?_, fun c2 => ⟨fun c => ?_, fun c3 => ?_⟩⟩⟩
    · refine hd_go kX6_cheers 999 (fun _ => rfl) rfl trivial ?_
      refine hd_en_ kX6_cheers (fun _ => rfl) trivial ⟨?_, rfl, rfl⟩
      rw [if_pos c]
    · refine hd_go kX6_cheers 999 (fun _ => rfl) rfl trivial ?_
      refine hd_en_ kX6_cheers (fun _ => rfl) trivial ⟨?_, rfl, rfl⟩
      rw [if_neg c1, if_pos c]
    · refine hd_go kX6_cheers 999 (fun _ => rfl) rfl trivial ?_
      refine hd_en_ kX6_cheers (fun _ => rfl) trivial ⟨?_, rfl, rfl⟩
      rw [if_neg c1, if_neg c2, if_pos c]
    · refine hd_go kX6_cheers 999 (fun _ => rfl) rfl trivial ?_
      refine hd_en_ kX6_cheers (fun _ => rfl) trivial ⟨?_, rfl, rfl⟩
      rw [if_neg c1, if_neg c2, if_neg c3]
  refine hd_go kX6_cheers 999 (fun _ => rfl) rfl trivial ?_
  refine hd_ci kX6_cheers qX6_cheers (fun _ => rfl) (r_isCr M N n hn h28 i hi) ?_
  rw [hld]
  refine hd_ju kX6_cheers (fun _ => rfl) (fun c => ?_) (fun c => ?_)
  · refine hd_go kX6_cheers 999 (fun _ => rfl) rfl trivial ?_
    refine hd_ci kX6_cheers qX6_cheers (fun _ => rfl) (r_of i 1 (by omega) M N) ?_
    refine tail _ ?_
    unfold dy_plg
    rw [if_neg (hd_b0.mp c)]
  · refine hd_go kX6_cheers 999 (fun _ => rfl) rfl trivial ?_
    refine hd_ci kX6_cheers qX6_cheers (fun _ => rfl) (r_of i 1 (by omega) M N) ?_
    refine hd_go kX6_cheers 999 (fun _ => rfl) rfl ⟨trivial, by decide⟩ ?_
    refine tail _ ?_
    unfold dy_plg
    rw [if_pos (hd_b1.mp c)]
set_option maxRecDepth 20000 in
theorem r_lasts (i : Nat) (h : i < 7) (M : hd_M) (N : hd_N) : hd_Ret mX6_lasts [.ref 51, .int (nI i)] M N (hd_is (.int (dy_lst (M 53 (4 * i)))) M N) := by
  change hd_Go mX6_lasts 0 [some (.ref 51), some (.int (nI i)), none] [] M N _
  refine hd_go kX6_lasts 999 (fun _ => rfl) rfl trivial ?_
  refine hd_ci kX6_lasts qX6_lasts (fun _ => rfl) (r_of i 0 (by omega) M N) ?_
  rw [Nat.add_zero]
  refine hd_go kX6_lasts 999 (fun _ => rfl) rfl trivial ?_
  unfold dy_lst
  refine hd_ju kX6_lasts (fun _ => rfl) (fun c => ?_) (fun c => ?_)
  · refine hd_go kX6_lasts 999 (fun _ => rfl) rfl trivial ?_
    refine hd_ju kX6_lasts (fun _ => rfl) (fun c2 => ?_) (fun c2 => ?_)
    · refine hd_go kX6_lasts 999 (fun _ => rfl) rfl trivial ?_
      refine hd_en_ kX6_lasts (fun _ => rfl) trivial ⟨?_, rfl, rfl⟩
      rw [if_neg c, if_neg c2]
    · refine hd_go kX6_lasts 999 (fun _ => rfl) rfl trivial ?_
      refine hd_en_ kX6_lasts (fun _ => rfl) trivial ⟨?_, rfl, rfl⟩
      rw [if_neg c, if_pos c2]
  · refine hd_go kX6_lasts 999 (fun _ => rfl) rfl trivial ?_
    refine hd_en_ kX6_lasts (fun _ => rfl) trivial ⟨?_, rfl, rfl⟩
    rw [if_pos c]
set_option maxRecDepth 20000 in
/-- what a thing cheers, read off the reference's row -/
theorem rf_ch {M : hd_M} {d : dy_T} (h : rf M 53 0 d) {i : Nat} (hi : i < d.1) : dy_chr (wsm (fun k => M 53 (4 * k + 2)) (i + 1) (d.1 - (i + 1))) (M 53 (4 * i)) (M 53 (4 * i + 1)) (M 53 (4 * i + 2)) = dy_ch d i := by
  obtain ⟨-, -, -, -, -, hb⟩ := h
  have e2 : wsm (fun k => M 53 (4 * k + 2)) (i + 1) (d.1 - (i + 1)) = dy_ld d i := wsm_cong _ _ (fun x h1 h2 => by have := (hb x (by omega)).2.2.1; rw [Nat.zero_add] at this; exact this)
  have e := hb i hi
  rw [Nat.zero_add, Nat.zero_add, Nat.zero_add] at e
  rw [e2, e.1, e.2.1, e.2.2.1]
  rfl
end
section
/-! THE REFERENCE'S HOURS; printed by wip/whole/ref2.py -/
set_option maxRecDepth 20000 in
theorem v46 {n : Nat} (h : n < 46) : vp_in (nI n) 46 := vp_in_nI h (by decide)
/-- cells of the reference's row of now, one for one -/
abbrev n33 : Nat → Nat → Prop := fun c j => c = 53 ∧ j < 33
set_option maxRecDepth 20000 in
theorem r_hour_l (N : hd_N) (n : Nat) (hn : n ≤ 7) (ot ch : Nat → Int32) (lv : Int32) (Q : hd_Q) (M : hd_M) (T : Int32) (h28 : M 53 28 = nI n) (hch : ∀ x, x < n → dy_chr (wsm (fun k => M 53 (4 * k + 2)) (x + 1) (n - (x + 1))) (M 53 (4 * x)) (M 53 (4 * x + 1)) (M 53 (4 * x + 2)) = ch x) (hk : ∀ M1, fr (fun c j => c = 53 ∧ j < 28 ∧ j % 4 = 3) M M1 → (∀ x, x < n → M1 53 (4 * x + 3) = if 0 < ot x then ot x - 1 else ot x) → hd_Go mX6_hourGoes 114 [some (.ref 51), some (.int lv), some (.int T), some (.int (nI n))] [] M1 N Q) : ∀ (m j : Nat) (s : Int32) (M' : hd_M), j + m = n → fr (fun c j => c = 53 ∧ j < 28 ∧ j % 4 = 3) M M' → (∀ x, x < j → M' 53 (4 * x + 3) = if 0 < ot x then ot x - 1 else ot x) → (∀ x, j ≤ x → x < n → M' 53 (4 * x + 3) = ot x) → dy_tik ot ch j m s = T → hd_Go mX6_hourGoes 66 [some (.ref 51), some (.int lv), some (.int s), some (.int (nI j))] [] M' N Q := by
  intro m
  induction m with
  | zero =>
    intro j s M' hj hf h1 h2 hT
    have e28 : M' 53 28 = nI n := (hf 53 28 (by simp)).trans h28
    refine hd_go kX6_hourGoes 999 (fun _ => rfl) rfl ⟨trivial, v46 (n := 28) (by decide)⟩ ?_
    refine hd_ju kX6_hourGoes (fun _ => rfl) (fun c => ?_) (fun c => ?_)
    · have hjn : j = n := by omega
      subst hjn
      have hs : s = T := hT
      subst hs
      exact hk M' hf h1
    · have c : ¬ M' 53 28 ≤ nI j := c
      rw [e28] at c
      exact absurd (nI_le (by omega) (by omega)) c
  | succ m ih =>
    intro j s M' hj hf h1 h2 hT
    have e28 : M' 53 28 = nI n := (hf 53 28 (by simp)).trans h28
    have eo : M' 53 (4 * j + 3) = ot j := h2 j (Nat.le_refl _) (by omega)
    have g0 : ∀ x, x < 7 → M' 53 (4 * x) = M 53 (4 * x) := fun x hx => hf _ _ (by show ¬ (53 = 53 ∧ 4 * x < 28 ∧ 4 * x % 4 = 3); omega)
    have g1 : ∀ x, x < 7 → M' 53 (4 * x + 1) = M 53 (4 * x + 1) := fun x hx => hf _ _ (by show ¬ (53 = 53 ∧ 4 * x + 1 < 28 ∧ (4 * x + 1) % 4 = 3); omega)
    have g2 : ∀ x, M' 53 (4 * x + 2) = M 53 (4 * x + 2) := fun x => hf _ _ (by show ¬ (53 = 53 ∧ 4 * x + 2 < 28 ∧ (4 * x + 2) % 4 = 3); omega)
    have eg : (fun k => M' 53 (4 * k + 2)) = fun k => M 53 (4 * k + 2) := funext g2
    refine hd_go kX6_hourGoes 999 (fun _ => rfl) rfl ⟨trivial, v46 (n := 28) (by decide)⟩ ?_
    refine hd_ju kX6_hourGoes (fun _ => rfl) (fun c => ?_) (fun c => ?_)
    · have c : M' 53 28 ≤ nI j := c
      rw [e28] at c
      exact absurd c (nI_ge (by omega) (by omega))
    refine hd_go kX6_hourGoes 999 (fun _ => rfl) rfl trivial ?_
    refine hd_ci kX6_hourGoes qX6_hourGoes (fun _ => rfl) (r_of j 3 (by omega) M' N) ?_
    rw [eo]
    rw [dy_tik] at hT
    refine hd_ju kX6_hourGoes (fun _ => rfl) (fun c => ?_) (fun c => ?_)
    · refine hd_go kX6_hourGoes 999 (fun _ => rfl) rfl trivial ?_
      have c9 : ¬ 0 < ot j := Int32.not_lt.mpr c
      rw [if_neg c9] at hT
      rw [nI_1]
      refine ih (j + 1) s M' (by omega) hf (fun x hx => ?_) (fun x hx => h2 x (by omega)) hT
      by_cases hxj : x = j
      · subst hxj
        rw [eo, if_neg c9]
      · exact h1 x (by omega)
    · have c9 : 0 < ot j := Int32.not_le.mp c
      rw [if_pos c9] at hT
      refine hd_go kX6_hourGoes 999 (fun _ => rfl) rfl trivial ?_
      refine hd_ci kX6_hourGoes qX6_hourGoes (fun _ => rfl) (r_cheers M' N n hn e28 j (by omega)) ?_
      rw [eg, g0 j (by omega), g1 j (by omega), g2, hch j (by omega)]
      refine hd_go kX6_hourGoes 999 (fun _ => rfl) rfl trivial ?_
      refine hd_ci kX6_hourGoes qX6_hourGoes (fun _ => rfl) (r_of j 3 (by omega) M' N) ?_
      rw [eo]
      refine hd_go kX6_hourGoes 999 (fun _ => rfl) rfl trivial ?_
      refine hd_ca kX6_hourGoes qX6_hourGoes (fun _ => rfl) (r_bo j 3 (by omega) _ M' N) ?_
      rintro r M1 N1 ⟨rfl, rfl, rfl⟩
      refine hd_go kX6_hourGoes 999 (fun _ => rfl) rfl trivial ?_
      rw [nI_1]
      refine ih (j + 1) _ _ (by omega) (hf.up (by show 53 = 53 ∧ 4 * j + 3 < 28 ∧ (4 * j + 3) % 4 = 3; omega)) (fun x hx => ?_) (fun x hx hx2 => ?_) hT
      · by_cases hxj : x = j
        · subst hxj
          rw [hd_u_s, if_pos c9]
        · rw [hd_u_n (by omega)]
          exact h1 x (by omega)
      · rw [hd_u_n (by omega)]
        exact h2 x (by omega) hx2
set_option maxRecDepth 20000 in
theorem r_hour (M : hd_M) (N : hd_N) (d : dy_T) (hd : rf M 53 0 d) (ok : dy_ok d) (lv : Int32) (lid : Bool) (hl : lv = if lid then 1 else 0) : hd_Ret mX6_hourGoes [.ref 51, .int lv] M N (fun r M1 N1 => r = none ∧ N1 = N ∧ fr n33 M M1 ∧ rf M1 53 0 (dy_ho lid d)) := by
  change hd_Go mX6_hourGoes 0 [some (.ref 51), some (.int lv), none, none] [] M N _
  obtain ⟨hn, hln, hlo, hout, -, -⟩ := ok
  have main : ∀ Ma : hd_M, fr n33 M Ma → rf Ma 53 0 (dy_op lid d) → hd_Go mX6_hourGoes 48 [some (.ref 51), some (.int lv), none, none] [] Ma N (fun r M1 N1 => r = none ∧ N1 = N ∧ fr n33 M M1 ∧ rf M1 53 0 (dy_ho lid d)) := by
    intro Ma hfa hma
    have en : (dy_op lid d).1 = d.1 := by unfold dy_op; split <;> rfl
    have em : (dy_op lid d).2.2.1 = d.2.2.1 := by unfold dy_op; split <;> rfl
    have et : (dy_op lid d).2.2.2.1 = d.2.2.2.1 := by unfold dy_op; split <;> rfl
    have eh : (dy_op lid d).2.2.2.2.1 = d.2.2.2.2.1 := by unfold dy_op; split <;> rfl
    have hch : ∀ x, x < d.1 → dy_chr (wsm (fun k => Ma 53 (4 * k + 2)) (x + 1) (d.1 - (x + 1))) (Ma 53 (4 * x)) (Ma 53 (4 * x + 1)) (Ma 53 (4 * x + 2)) = dy_ch d x := by
      intro x hx
      have := rf_ch hma (i := x) (by rw [en]; exact hx)
      rw [en] at this
      rw [this]
      exact dy_ch_eq en (fun c j h => dy_op_c h)
    obtain ⟨a5, a6, a7, a8, a9, b⟩ := hma
    rw [en] at a5 b
    have a5 : Ma 53 28 = nI d.1 := a5
    have a6 : Ma 53 29 = nI (dy_op lid d).2.1 := a6
    have a7 : Ma 53 30 = (dy_op lid d).2.2.1 := a7
    have a8 : Ma 53 31 = (dy_op lid d).2.2.2.1 := a8
    have a9 : Ma 53 32 = (dy_op lid d).2.2.2.2.1 := a9
    have b : ∀ i, i < d.1 → Ma 53 (4 * i) = (dy_op lid d).2.2.2.2.2 0 i ∧ Ma 53 (4 * i + 1) = (dy_op lid d).2.2.2.2.2 1 i ∧ Ma 53 (4 * i + 2) = (dy_op lid d).2.2.2.2.2 2 i ∧ Ma 53 (4 * i + 3) = (dy_op lid d).2.2.2.2.2 3 i := by
      intro i hi
      have := b i hi
      simp only [Nat.zero_add] at this
      exact this
    refine hd_go kX6_hourGoes 66 (fun _ => rfl) rfl ⟨⟨trivial, v46 (n := 30) (by decide)⟩, v46 (n := 31) (by decide)⟩ ?_
    show hd_Go mX6_hourGoes 66 [some (.ref 51), some (.int lv), some (.int (Ma 53 30 - Ma 53 31)), some (.int 0)] [] Ma N _
    rw [a7, a8, em, et]
    refine r_hour_l N d.1 hn ((dy_op lid d).2.2.2.2.2 3) (dy_ch d) lv _ Ma _ a5 hch ?_ d.1 0 _ Ma (by omega) fr.rf (fun x hx => absurd hx (Nat.not_lt_zero x)) (fun x _ hx => (b x hx).2.2.2) rfl
    intro M1 hf1 hx1
    generalize hT : dy_tik ((dy_op lid d).2.2.2.2.2 3) (dy_ch d) 0 d.1 (d.2.2.1 - d.2.2.2.1) = T
    have g : ∀ j, 28 ≤ j → M1 53 j = Ma 53 j := fun j hj => hf1 53 j (by show ¬ (53 = 53 ∧ j < 28 ∧ j % 4 = 3); omega)
    have fin : ∀ x : Int32, x = dy_clm T → hd_Go mX6_hourGoes 140 [some (.ref 51), some (.int lv), some (.int T), some (.int (nI d.1))] [.int x, .int 30, .ref 53] M1 N (fun r M1 N1 => r = none ∧ N1 = N ∧ fr n33 M M1 ∧ rf M1 53 0 (dy_ho lid d)) := by
      intro x hx
      refine hd_go kX6_hourGoes 999 (fun _ => rfl) rfl ⟨⟨⟨trivial, v46 (n := 30) (by decide)⟩, v46 (n := 32) (by decide)⟩, v46 (n := 32) (by decide)⟩ ?_
      show hd_Go mX6_hourGoes 152 [some (.ref 51), some (.int lv), some (.int T), some (.int (nI d.1))] [] (hd_u (hd_u M1 53 30 x) 53 32 (hd_u M1 53 30 x 53 32 + 1)) N _
      have hfr : fr n33 M (hd_u (hd_u M1 53 30 x) 53 32 (hd_u M1 53 30 x 53 32 + 1)) := ((hfa.tr (hf1.mo (fun c j h => by have h : c = 53 ∧ j < 28 ∧ j % 4 = 3 := h; show c = 53 ∧ j < 33; omega))).up (by decide)).up (by decide)
      refine hd_en_ kX6_hourGoes (fun _ => rfl) trivial ⟨rfl, rfl, hfr, ?_⟩
      refine ⟨?_, ?_, ?_, ?_, ?_, fun i hi => ?_⟩
      · rw [hd_u_n (by omega), hd_u_n (by omega), g _ (by omega)]; exact a5
      · rw [hd_u_n (by omega), hd_u_n (by omega), g _ (by omega)]; exact a6
      · rw [hd_u_n (by omega), show 0 + 30 = 30 from rfl, hd_u_s, hx, ← hT]; rfl
      · rw [hd_u_n (by omega), hd_u_n (by omega), g _ (by omega)]; exact a8.trans et
      · rw [show 0 + 32 = 32 from rfl, hd_u_s, hd_u_n (by omega), g _ (by omega), a9, eh]; rfl
      · have hi : i < d.1 := hi
        obtain ⟨b0, b1, b2, b3⟩ := b i hi
        have k0 : ∀ c, c < 4 → hd_u (hd_u M1 53 30 x) 53 32 (hd_u M1 53 30 x 53 32 + 1) 53 (0 + (4 * i + c)) = M1 53 (4 * i + c) := fun c hc => by rw [Nat.zero_add, hd_u_n (by omega), hd_u_n (by omega)]
        have k1 : ∀ c, c < 3 → M1 53 (4 * i + c) = Ma 53 (4 * i + c) := fun c hc => hf1 53 _ (by show ¬ (53 = 53 ∧ 4 * i + c < 28 ∧ (4 * i + c) % 4 = 3); omega)
        refine ⟨?_, ?_, ?_, ?_⟩
        · have := k0 0 (by decide)
          rw [Nat.add_zero] at this
          rw [this]
          have := k1 0 (by decide)
          rw [Nat.add_zero] at this
          rw [this, b0]; rfl
        · rw [k0 1 (by decide), k1 1 (by decide), b1]; rfl
        · rw [k0 2 (by decide), k1 2 (by decide), b2]; rfl
        · rw [k0 3 (by decide), hx1 i hi, dy_ho_3]
    refine hd_go kX6_hourGoes 999 (fun _ => rfl) rfl trivial ?_
    refine hd_ju kX6_hourGoes (fun _ => rfl) (fun c => ?_) (fun c => ?_)
    · refine hd_go kX6_hourGoes 999 (fun _ => rfl) rfl trivial ?_
      refine hd_ju kX6_hourGoes (fun _ => rfl) (fun c2 => ?_) (fun c2 => ?_)
      · refine hd_go kX6_hourGoes 140 (fun _ => rfl) rfl trivial ?_
        refine fin _ ?_
        unfold dy_clm
        rw [if_neg (Int32.not_lt.mpr c), if_neg (Int32.not_lt.mpr c2)]
      · refine hd_go kX6_hourGoes 140 (fun _ => rfl) rfl trivial ?_
        refine fin _ ?_
        unfold dy_clm
        rw [if_neg (Int32.not_lt.mpr c), if_pos (Int32.not_le.mp c2)]
    · refine hd_go kX6_hourGoes 140 (fun _ => rfl) rfl trivial ?_
      refine fin _ ?_
      unfold dy_clm
      rw [if_pos (Int32.not_le.mp c)]
  have hno : ¬ (lid = false ∧ 0 < d.2.1) → hd_Go mX6_hourGoes 48 [some (.ref 51), some (.int lv), none, none] [] M N (fun r M1 N1 => r = none ∧ N1 = N ∧ fr n33 M M1 ∧ rf M1 53 0 (dy_ho lid d)) := by
    intro hc
    have e : dy_op lid d = d := by unfold dy_op; rw [if_neg hc]
    exact main M fr.rf (by rw [e]; exact hd)
  obtain ⟨a5, a6, a7, a8, a9, b⟩ := hd
  have a6 : M 53 29 = nI d.2.1 := a6
  refine hd_go kX6_hourGoes 999 (fun _ => rfl) rfl trivial ?_
  refine hd_ju kX6_hourGoes (fun _ => rfl) (fun c => ?_) (fun c => ?_)
  · refine hno (fun z => ?_)
    rw [z.1] at hl
    exact c hl
  have hlid : lid = false := by
    cases lid with
    | false => rfl
    | true => rw [hl] at c; exact absurd c (by decide)
  refine hd_go kX6_hourGoes 999 (fun _ => rfl) rfl ⟨trivial, v46 (n := 29) (by decide)⟩ ?_
  show hd_Go mX6_hourGoes 11 [some (.ref 51), some (.int lv), none, none] [.int (M 53 29)] M N _
  rw [a6]
  refine hd_ju kX6_hourGoes (fun _ => rfl) (fun c => ?_) (fun c => ?_)
  · refine hno (fun z => ?_)
    exact nI_nle z.2 (by omega) c
  have hpos : 0 < d.2.1 := by
    rcases Nat.eq_zero_or_pos d.2.1 with z | z
    · rw [z] at c; exact absurd (by decide) c
    · exact z
  have e6 : M 53 29 - 1 = nI (d.2.1 - 1) := by
    rw [a6, show d.2.1 = (d.2.1 - 1) + 1 by omega, nI_pred]
    simp
  refine hd_go kX6_hourGoes 999 (fun _ => rfl) rfl ⟨⟨⟨⟨trivial, v46 (n := 29) (by decide)⟩, v46 (n := 29) (by decide)⟩, v46 (n := 29) (by decide)⟩, v46 (n := 29) (by decide)⟩ ?_
  show hd_Go mX6_hourGoes 42 [some (.ref 51), some (.int lv), none, none] [.int (hd_u M 53 29 (M 53 29 - 1) 53 29), .ref 51, .int 3, .int (hd_u M 53 29 (M 53 29 - 1) 53 29), .ref 51] (hd_u M 53 29 (M 53 29 - 1)) N _
  rw [hd_u_s, e6]
  refine hd_ci kX6_hourGoes qX6_hourGoes (fun _ => rfl) (r_lasts (d.2.1 - 1) (by omega) _ N) ?_
  rw [hd_u_n (by omega)]
  refine hd_ca kX6_hourGoes qX6_hourGoes (fun _ => rfl) (r_bo (d.2.1 - 1) 3 (by omega) _ _ N) ?_
  rintro r M1 N1 ⟨rfl, rfl, rfl⟩
  have e : dy_op lid d = (d.1, d.2.1 - 1, d.2.2.1, d.2.2.2.1, d.2.2.2.2.1, fun c i => if c = 3 ∧ i = d.2.1 - 1 then dy_lst (d.2.2.2.2.2 0 i) else d.2.2.2.2.2 c i) := by
    unfold dy_op
    rw [if_pos ⟨hlid, hpos⟩]
  have eb : ∀ i, i < d.1 → M 53 (4 * i) = d.2.2.2.2.2 0 i ∧ M 53 (4 * i + 1) = d.2.2.2.2.2 1 i ∧ M 53 (4 * i + 2) = d.2.2.2.2.2 2 i ∧ M 53 (4 * i + 3) = d.2.2.2.2.2 3 i := by
    intro i hi
    have := b i hi
    simp only [Nat.zero_add] at this
    exact this
  refine main _ ((fr.rf.up (by decide)).up (by show 53 = 53 ∧ 4 * (d.2.1 - 1) + 3 < 33; omega)) ?_
  rw [e, (eb (d.2.1 - 1) (by omega)).1]
  refine ⟨?_, ?_, ?_, ?_, ?_, fun i hi => ?_⟩
  · rw [hd_u_n (by omega), hd_u_n (by omega)]; exact a5
  · rw [hd_u_n (by omega), show 0 + 29 = 29 from rfl, hd_u_s]
  · rw [hd_u_n (by omega), hd_u_n (by omega)]; exact a7
  · rw [hd_u_n (by omega), hd_u_n (by omega)]; exact a8
  · rw [hd_u_n (by omega), hd_u_n (by omega)]; exact a9
  · have hi : i < d.1 := hi
    obtain ⟨b0, b1, b2, b3⟩ := eb i hi
    refine ⟨?_, ?_, ?_, ?_⟩
    · rw [hd_u_n (by omega), hd_u_n (by omega), Nat.zero_add, b0]; rfl
    · rw [hd_u_n (by omega), hd_u_n (by omega), Nat.zero_add, b1]; rfl
    · rw [hd_u_n (by omega), hd_u_n (by omega), Nat.zero_add, b2]; rfl
    · show _ = if 3 = 3 ∧ i = d.2.1 - 1 then dy_lst (d.2.2.2.2.2 0 i) else d.2.2.2.2.2 3 i
      by_cases hi2 : i = d.2.1 - 1
      · rw [if_pos ⟨rfl, hi2⟩, ← hi2, Nat.zero_add, hd_u_s]
      · rw [if_neg (fun z => hi2 z.2), hd_u_n (by omega), hd_u_n (by omega), Nat.zero_add]
        exact b3
set_option maxRecDepth 20000 in
theorem r_hours_l (N : hd_N) (n : Nat) (hn : n ≤ 60) (M : hd_M) : ∀ (m j : Nat) (d : dy_T) (M' : hd_M), j + m = n → fr n33 M M' → rf M' 53 0 d → dy_ok d → hd_Go mX6_hoursGo 2 [some (.ref 51), some (.int (nI n)), some (.int (nI j))] [] M' N (fun r M1 N1 => r = none ∧ N1 = N ∧ fr n33 M M1 ∧ rf M1 53 0 (dy_hs m d)) := by
  intro m
  induction m with
  | zero =>
    intro j d M' hj hf hd ok
    refine hd_go kX6_hoursGo 999 (fun _ => rfl) rfl trivial ?_
    refine hd_ju kX6_hoursGo (fun _ => rfl) (fun c => ?_) (fun c => absurd (nI_le (by omega) (by omega)) c)
    exact hd_en_ kX6_hoursGo (fun _ => rfl) trivial ⟨rfl, rfl, hf, hd⟩
  | succ m ih =>
    intro j d M' hj hf hd ok
    refine hd_go kX6_hoursGo 999 (fun _ => rfl) rfl trivial ?_
    refine hd_ju kX6_hoursGo (fun _ => rfl) (fun c => absurd c (nI_ge (by omega) (by omega))) (fun c => ?_)
    refine hd_go kX6_hoursGo 999 (fun _ => rfl) rfl trivial ?_
    refine hd_ca kX6_hoursGo qX6_hoursGo (fun _ => rfl) (r_hour M' N d hd ok 0 false rfl) ?_
    rintro r M1 N1 ⟨rfl, rfl, hf1, hd1⟩
    refine hd_go kX6_hoursGo 999 (fun _ => rfl) rfl trivial ?_
    rw [nI_1]
    exact ih (j + 1) (dy_ho false d) M1 (by omega) (hf.tr hf1) hd1 (dy_ok_ho ok)
set_option maxRecDepth 20000 in
theorem r_hours0 (M : hd_M) (N : hd_N) (d : dy_T) (hd : rf M 53 0 d) (ok : dy_ok d) (n : Nat) (hn : n ≤ 60) : hd_Ret mX6_hoursGo [.ref 51, .int (nI n)] M N (fun r M1 N1 => r = none ∧ N1 = N ∧ fr n33 M M1 ∧ rf M1 53 0 (dy_hs n d)) := by
  change hd_Go mX6_hoursGo 0 [some (.ref 51), some (.int (nI n)), none] [] M N _
  refine hd_go kX6_hoursGo 2 (fun _ => rfl) rfl trivial ?_
  exact r_hours_l N n hn M n 0 d M (by omega) fr.rf hd ok
set_option maxRecDepth 20000 in
theorem r_mb (M : hd_M) (N : hd_N) (d : dy_T) (hd : rf M 53 0 d) (ok : dy_ok d) (n : Nat) (hn : n ≤ 60) : hd_Ret mX6_moodBehind [.ref 51, .int (nI n)] M N (fun r M1 N1 => r = some (.int (dy_md n d)) ∧ N1 = N ∧ fr n33 M M1) := by
  change hd_Go mX6_moodBehind 0 [some (.ref 51), some (.int (nI n))] [] M N _
  refine hd_go kX6_moodBehind 999 (fun _ => rfl) rfl trivial ?_
  refine hd_ca kX6_moodBehind qX6_moodBehind (fun _ => rfl) (r_hours0 M N d hd ok n hn) ?_
  rintro r M1 N1 ⟨rfl, rfl, hf1, hd1⟩
  refine hd_go kX6_moodBehind 999 (fun _ => rfl) rfl ⟨trivial, v46 (n := 30) (by decide)⟩ ?_
  refine hd_en_ kX6_moodBehind (fun _ => rfl) trivial ⟨?_, rfl, hf1⟩
  rw [show M1 53 (Int32.toNatClampNeg 30) = (dy_hs n d).2.2.1 from hd1.2.2.1]
  rfl
set_option maxRecDepth 20000 in
theorem or_fl (x : Int32) (b : Bool) (s : Int32) : x ||| ((hd_b (b = true)) <<< s) = if b then x ||| (1 <<< s) else x := by
  cases b with
  | true => rfl
  | false =>
    show x ||| ((0 : Int32) <<< s) = x
    rw [Int32.zero_shiftLeft, Int32.or_zero]
set_option maxRecDepth 20000 in
theorem r_out_l (M : hd_M) (N : hd_N) (d : dy_T) (hd : rf M 53 0 d) (hn : d.1 ≤ 7) : ∀ (m j : Nat), j + m = d.1 → hd_Go mX6_outNow 4 [some (.ref 51), some (.int (dy_bits (fun i => decide (0 < d.2.2.2.2.2 3 i)) j)), some (.int (nI j))] [] M N (hd_is (.int (dy_out d)) M N) := by
  have e28 : M 53 28 = nI d.1 := hd.1
  intro m
  induction m with
  | zero =>
    intro j hj
    have hj : j = d.1 := by omega
    subst hj
    refine hd_go kX6_outNow 999 (fun _ => rfl) rfl ⟨trivial, v46 (n := 28) (by decide)⟩ ?_
    refine hd_ju kX6_outNow (fun _ => rfl) (fun c => ?_) (fun c => ?_)
    · refine hd_go kX6_outNow 999 (fun _ => rfl) rfl trivial ?_
      exact hd_en_ kX6_outNow (fun _ => rfl) trivial ⟨rfl, rfl, rfl⟩
    · have c : ¬ M 53 28 ≤ nI d.1 := c
      rw [e28] at c
      exact absurd (nI_le (Nat.le_refl _) (by omega)) c
  | succ m ih =>
    intro j hj
    have e3 : M 53 (4 * j + 3) = d.2.2.2.2.2 3 j := by
      have := (hd.2.2.2.2.2 j (by omega)).2.2.2
      rw [Nat.zero_add] at this
      exact this
    refine hd_go kX6_outNow 999 (fun _ => rfl) rfl ⟨trivial, v46 (n := 28) (by decide)⟩ ?_
    refine hd_ju kX6_outNow (fun _ => rfl) (fun c => ?_) (fun c => ?_)
    · have c : M 53 28 ≤ nI j := c
      rw [e28] at c
      exact absurd c (nI_ge (by omega) (by omega))
    refine hd_go kX6_outNow 999 (fun _ => rfl) rfl trivial ?_
    refine hd_ci kX6_outNow qX6_outNow (fun _ => rfl) (r_of j 3 (by omega) M N) ?_
    rw [e3]
    have := ih (j + 1) (by omega)
    rw [dy_bits] at this
    refine hd_ju kX6_outNow (fun _ => rfl) (fun c => ?_) (fun c => ?_)
    · rw [decide_eq_false (Int32.not_lt.mpr c)] at this
      refine hd_go kX6_outNow 999 (fun _ => rfl) rfl trivial ?_
      refine hd_ci kX6_outNow qX6_outNow (fun _ => rfl) (r_flag _ M N) ?_
      refine hd_go kX6_outNow 999 (fun _ => rfl) rfl trivial ?_
      rw [nI_1, show hd_b (¬ (0 : Int32) = 0) = hd_b (false = true) from rfl, or_fl]
      exact this
    · rw [decide_eq_true (Int32.not_le.mp c)] at this
      refine hd_go kX6_outNow 999 (fun _ => rfl) rfl trivial ?_
      refine hd_ci kX6_outNow qX6_outNow (fun _ => rfl) (r_flag _ M N) ?_
      refine hd_go kX6_outNow 999 (fun _ => rfl) rfl trivial ?_
      rw [nI_1, show hd_b (¬ (1 : Int32) = 0) = hd_b (true = true) from rfl, or_fl]
      exact this
set_option maxRecDepth 20000 in
theorem r_out (M : hd_M) (N : hd_N) (d : dy_T) (hd : rf M 53 0 d) (hn : d.1 ≤ 7) : hd_Ret mX6_outNow [.ref 51] M N (hd_is (.int (dy_out d)) M N) := by
  change hd_Go mX6_outNow 0 [some (.ref 51), none, none] [] M N _
  refine hd_go kX6_outNow 4 (fun _ => rfl) rfl trivial ?_
  exact r_out_l M N d hd hn d.1 0 (by omega)
set_option maxRecDepth 20000 in
theorem r_all_l (N : hd_N) (n : Nat) (hn : n ≤ 7) (M : hd_M) (h28 : M 53 28 = nI n) : ∀ (m j : Nat) (M' : hd_M), j + m = n → fr (fun c j => c = 53 ∧ j < 28 ∧ j % 4 = 3) M M' → (∀ x, x < j → M' 53 (4 * x + 3) = 0) → hd_Go mX6_allGoIn 16 [some (.ref 51), some (.int (nI j))] [] M' N (fun r M1 N1 => r = none ∧ N1 = N ∧ fr (fun c j => c = 53 ∧ j < 28 ∧ j % 4 = 3) M M1 ∧ ∀ x, x < n → M1 53 (4 * x + 3) = 0) := by
  intro m
  induction m with
  | zero =>
    intro j M' hj hf hx
    have e28 : M' 53 28 = nI n := (hf 53 28 (by simp)).trans h28
    refine hd_go kX6_allGoIn 999 (fun _ => rfl) rfl ⟨trivial, v46 (n := 28) (by decide)⟩ ?_
    refine hd_ju kX6_allGoIn (fun _ => rfl) (fun c => ?_) (fun c => ?_)
    · exact hd_en_ kX6_allGoIn (fun _ => rfl) trivial ⟨rfl, rfl, hf, fun x h => hx x (by omega)⟩
    · have c : ¬ M' 53 28 ≤ nI j := c
      rw [e28] at c
      exact absurd (nI_le (by omega) (by omega)) c
  | succ m ih =>
    intro j M' hj hf hx
    have e28 : M' 53 28 = nI n := (hf 53 28 (by simp)).trans h28
    refine hd_go kX6_allGoIn 999 (fun _ => rfl) rfl ⟨trivial, v46 (n := 28) (by decide)⟩ ?_
    refine hd_ju kX6_allGoIn (fun _ => rfl) (fun c => ?_) (fun c => ?_)
    · have c : M' 53 28 ≤ nI j := c
      rw [e28] at c
      exact absurd c (nI_ge (by omega) (by omega))
    refine hd_go kX6_allGoIn 999 (fun _ => rfl) rfl trivial ?_
    refine hd_ca kX6_allGoIn qX6_allGoIn (fun _ => rfl) (r_bo j 3 (by omega) 0 M' N) ?_
    rintro r M1 N1 ⟨rfl, rfl, rfl⟩
    refine hd_go kX6_allGoIn 999 (fun _ => rfl) rfl trivial ?_
    rw [nI_1]
    refine ih (j + 1) _ (by omega) (hf.up (by show 53 = 53 ∧ 4 * j + 3 < 28 ∧ (4 * j + 3) % 4 = 3; omega)) (fun x h => ?_)
    by_cases e : x = j
    · rw [e, hd_u_s]
    · rw [hd_u_n (by omega)]; exact hx x (by omega)
set_option maxRecDepth 20000 in
theorem r_all (M : hd_M) (N : hd_N) (d : dy_T) (hd : rf M 53 0 d) (hn : d.1 ≤ 7) : hd_Ret mX6_allGoIn [.ref 51] M N (fun r M1 N1 => r = none ∧ N1 = N ∧ fr n33 M M1 ∧ rf M1 53 0 (dy_in d)) := by
  change hd_Go mX6_allGoIn 0 [some (.ref 51), none] [] M N _
  obtain ⟨a5, a6, a7, a8, a9, b⟩ := hd
  have a5 : M 53 28 = nI d.1 := a5
  refine hd_go kX6_allGoIn 16 (fun _ => rfl) rfl ⟨⟨trivial, v46 (n := 28) (by decide)⟩, v46 (n := 29) (by decide)⟩ ?_
  refine hd_Go.post ?_ (r_all_l N d.1 hn (hd_u M 53 29 (M 53 28)) (by rw [hd_u_n (by omega)]; exact a5) d.1 0 _ (by omega) fr.rf (fun x h => absurd h (Nat.not_lt_zero x)))
  rintro r M1 N1 ⟨rfl, rfl, hf, hx⟩
  have g : ∀ j, ¬ (j < 28 ∧ j % 4 = 3) → M1 53 j = hd_u M 53 29 (M 53 28) 53 j := fun j hj => hf 53 j (by show ¬ (53 = 53 ∧ j < 28 ∧ j % 4 = 3); omega)
  refine ⟨rfl, rfl, (fr.rf.up (by decide)).tr (hf.mo (fun c j h => by have h : c = 53 ∧ j < 28 ∧ j % 4 = 3 := h; show c = 53 ∧ j < 33; omega)), ?_⟩
  refine ⟨?_, ?_, ?_, ?_, ?_, fun i hi => ?_⟩
  · rw [g _ (by omega), hd_u_n (by omega)]; exact a5
  · rw [g _ (by omega), show 0 + 29 = 29 from rfl, hd_u_s]; exact a5
  · rw [g _ (by omega), hd_u_n (by omega)]; exact a7
  · rw [g _ (by omega), hd_u_n (by omega)]; exact a8
  · rw [g _ (by omega), hd_u_n (by omega)]; exact a9
  · have hi : i < d.1 := hi
    obtain ⟨b0, b1, b2, b3⟩ := b i hi
    refine ⟨?_, ?_, ?_, ?_⟩
    · rw [g _ (by omega), hd_u_n (by omega)]; exact b0
    · rw [g _ (by omega), hd_u_n (by omega)]; exact b1
    · rw [g _ (by omega), hd_u_n (by omega)]; exact b2
    · rw [Nat.zero_add]; exact hx i hi
end
section
/-! THE REFERENCE'S PUBLIC METHODS; printed by wip/whole/ref3.py -/
/-- places that hold nothing of the reference's state -/
abbrev idR : Nat → Nat → Prop := fun c j => c = 53 ∨ c = 55 ∨ (57 ≤ c ∧ c ≤ 60) ∨ c = 64 ∨ (c = 51 ∧ ¬ j = 7 ∧ ¬ j = 12 ∧ ¬ j = 26)
set_option maxRecDepth 20000 in
theorem seR.mv {M M1 : hd_M} {off : Nat} {se : se_T} (h : seR M off se) (h6 : se.1 ≤ 6) (he : ∀ j, off + 33 ≤ j → j < off + 46 → M1 52 j = M 52 j) : seR M1 off se := by
  refine ⟨?_, fun s hs => ⟨?_, ?_⟩⟩
  · rw [he _ (by omega) (by omega)]; exact h.1
  · rw [he _ (by omega) (by omega)]; exact (h.2 s hs).1
  · rw [he _ (by omega) (by omega)]; exact (h.2 s hs).2
set_option maxRecDepth 20000 in
theorem tpR.mv {M M1 : hd_M} {t : Nat × (Nat → Int32)} (h : tpR M t) (h1 : M1 51 7 = M 51 7) (h2 : ∀ j, M1 56 j = M 56 j) : tpR M1 t := ⟨by rw [h1]; exact h.1, fun i hi => by rw [h2]; exact h.2 i hi⟩
set_option maxRecDepth 20000 in
theorem imR.mv {M M1 : hd_M} {im : Nat → im_T} (h : imR M im) (ho : ∀ k, k < 2 → (im k).1 = true → dy_ok (im k).2.1 ∧ se_ok (im k).2.2) (h1 : ∀ k, k < 2 → M1 54 k = M 54 k) (h2 : ∀ j, 46 ≤ j → M1 52 j = M 52 j) : imR M1 im := by
  intro k hk
  obtain ⟨a, b⟩ := h k hk
  refine ⟨by rw [h1 k hk]; exact a, fun z => ?_⟩
  obtain ⟨b1, b2⟩ := b z
  obtain ⟨o1, o2⟩ := ho k hk z
  exact ⟨b1.mv o1.1 (fun j q1 q2 => h2 j (by omega)), b2.mv o2.1 (fun j q1 q2 => h2 j (by omega))⟩
set_option maxRecDepth 20000 in
theorem shR.mv {M M1 : hd_M} {sh : Nat → sh_T} (h : shR M sh) (he : ∀ c j, 61 ≤ c → c ≤ 63 → M1 c j = M c j) : shR M1 sh := by
  intro k hk
  obtain ⟨a, b⟩ := h k hk
  refine ⟨fun z => by rw [he _ _ (by omega) (by omega)]; exact a z, fun z => ?_⟩
  obtain ⟨b1, b2, b3⟩ := b z
  exact ⟨by rw [he _ _ (by omega) (by omega)]; exact b1, by rw [he _ _ (by omega) (by omega)]; exact b2, fun i hi => by rw [he _ _ (by omega) (by omega)]; exact b3 i hi⟩
set_option maxRecDepth 20000 in
theorem RI.mv {M M1 : hd_M} {st : ab_T} (h : RI M st) (o : OK st) (he : fr idR M M1) : RI M1 st := by
  obtain ⟨h1, h2, h3, h4, h5, h6, h7⟩ := h
  have g : ∀ c j, c ∈ [52, 54, 56, 61, 62, 63] → M1 c j = M c j := fun c j hc => he c j (by
    simp only [List.mem_cons, List.not_mem_nil, or_false] at hc
    show ¬ (c = 53 ∨ c = 55 ∨ (57 ≤ c ∧ c ≤ 60) ∨ c = 64 ∨ (c = 51 ∧ _))
    omega)
  refine ⟨h1.mv o.1.1 (fun j _ _ => g _ _ (by simp)), h2.mv o.2.1.1 (fun j _ _ => g _ _ (by simp)), h3.mv (he 51 7 (by simp)) (fun j => g _ _ (by simp)), h4.mv o.2.2.2.1 (fun k _ => g _ _ (by simp)) (fun j _ => g _ _ (by simp)), h5.mv (fun c j q1 q2 => ?_), by rw [he 51 26 (by simp)]; exact h6, by rw [he 51 12 (by simp)]; exact h7⟩
  rcases (show c = 61 ∨ c = 62 ∨ c = 63 by omega) with rfl | rfl | rfl
  · exact g _ _ (by simp)
  · exact g _ _ (by simp)
  · exact g _ _ (by simp)
set_option maxRecDepth 20000 in
theorem RI.day {M M1 : hd_M} {st : ab_T} {d : dy_T} (h : RI M st) (o : OK st) (he : fr (fun c j => (c = 52 ∧ j < 33) ∨ idR c j) M M1) (hd : rf M1 52 0 d) : RI M1 (d, st.2) := by
  obtain ⟨h1, h2, h3, h4, h5, h6, h7⟩ := h
  have g : ∀ c j, c ∈ [54, 56, 61, 62, 63] → M1 c j = M c j := fun c j hc => he c j (by
    simp only [List.mem_cons, List.not_mem_nil, or_false] at hc
    show ¬ ((c = 52 ∧ j < 33) ∨ c = 53 ∨ c = 55 ∨ (57 ≤ c ∧ c ≤ 60) ∨ c = 64 ∨ (c = 51 ∧ _))
    omega)
  have g2 : ∀ j, 33 ≤ j → M1 52 j = M 52 j := fun j hj => he 52 j (by
    show ¬ ((52 = 52 ∧ j < 33) ∨ 52 = 53 ∨ 52 = 55 ∨ (57 ≤ 52 ∧ 52 ≤ 60) ∨ 52 = 64 ∨ (52 = 51 ∧ _))
    omega)
  refine ⟨hd, h2.mv o.2.1.1 (fun j _ _ => g2 _ (by omega)), h3.mv (he 51 7 (by simp)) (fun j => g _ _ (by simp)), h4.mv o.2.2.2.1 (fun k _ => g _ _ (by simp)) (fun j _ => g2 _ (by omega)), h5.mv (fun c j q1 q2 => ?_), by rw [he 51 26 (by simp)]; exact h6, by rw [he 51 12 (by simp)]; exact h7⟩
  rcases (show c = 61 ∨ c = 62 ∨ c = 63 by omega) with rfl | rfl | rfl
  · exact g _ _ (by simp)
  · exact g _ _ (by simp)
  · exact g _ _ (by simp)
set_option maxRecDepth 20000 in
theorem RI.seen {M M1 : hd_M} {st : ab_T} {se : se_T} (h : RI M st) (o : OK st) (he : fr (fun c j => c = 52 ∧ 33 ≤ j ∧ j < 46) M M1) (hd : seR M1 0 se) : RI M1 (st.1, se, st.2.2) := by
  obtain ⟨h1, h2, h3, h4, h5, h6, h7⟩ := h
  have g : ∀ c j, ¬ c = 52 → M1 c j = M c j := fun c j hc => he c j (fun z => hc z.1)
  exact ⟨h1.mv o.1.1 (fun j _ _ => he _ _ (by show ¬ (52 = 52 ∧ 33 ≤ j ∧ j < 46); omega)), hd, h3.mv (g _ _ (by decide)) (fun j => g _ _ (by decide)), h4.mv o.2.2.2.1 (fun k _ => g _ _ (by decide)) (fun j _ => he _ _ (by show ¬ (52 = 52 ∧ 33 ≤ j ∧ j < 46); omega)), h5.mv (fun c j q1 q2 => g c j (by omega)), by rw [g _ _ (by decide)]; exact h6, by rw [g _ _ (by decide)]; exact h7⟩
set_option maxRecDepth 20000 in
theorem RI.tape {M M1 : hd_M} {st : ab_T} {t : Nat × (Nat → Int32)} (h : RI M st) (o : OK st) (he : fr (fun c j => (c = 51 ∧ j = 7) ∨ c = 56) M M1) (hd : tpR M1 t) : RI M1 (st.1, st.2.1, t, st.2.2.2) := by
  obtain ⟨h1, h2, h3, h4, h5, h6, h7⟩ := h
  have g : ∀ c j, ¬ c = 56 → ¬ c = 51 → M1 c j = M c j := fun c j h1 h2 => he c j (by show ¬ ((c = 51 ∧ j = 7) ∨ c = 56); omega)
  exact ⟨h1.mv o.1.1 (fun j _ _ => g _ _ (by decide) (by decide)), h2.mv o.2.1.1 (fun j _ _ => g _ _ (by decide) (by decide)), hd, h4.mv o.2.2.2.1 (fun k _ => g _ _ (by decide) (by decide)) (fun j _ => g _ _ (by decide) (by decide)), h5.mv (fun c j q1 q2 => g c j (by omega) (by omega)), by rw [he 51 26 (by simp)]; exact h6, by rw [he 51 12 (by simp)]; exact h7⟩
set_option maxRecDepth 20000 in
theorem RI.she {M M1 : hd_M} {st : ab_T} {sh : Nat → sh_T} (h : RI M st) (o : OK st) (he : fr (fun c _ => 61 ≤ c ∧ c ≤ 63) M M1) (hd : shR M1 sh) : RI M1 (st.1, st.2.1, st.2.2.1, st.2.2.2.1, sh, st.2.2.2.2.2) := by
  obtain ⟨h1, h2, h3, h4, h5, h6, h7⟩ := h
  have g : ∀ c j, c < 61 → M1 c j = M c j := fun c j hc => he c j (by show ¬ (61 ≤ c ∧ c ≤ 63); omega)
  exact ⟨h1.mv o.1.1 (fun j _ _ => g _ _ (by decide)), h2.mv o.2.1.1 (fun j _ _ => g _ _ (by decide)), h3.mv (g _ _ (by decide)) (fun j => g _ _ (by decide)), h4.mv o.2.2.2.1 (fun k _ => g _ _ (by decide)) (fun j _ => g _ _ (by decide)), hd, by rw [g _ _ (by decide)]; exact h6, by rw [g _ _ (by decide)]; exact h7⟩
set_option maxRecDepth 20000 in
theorem RI.torn {M : hd_M} {st : ab_T} {t : Int32} (h : RI M st) (o : OK st) : RI (hd_u M 51 26 t) (st.1, st.2.1, st.2.2.1, st.2.2.2.1, st.2.2.2.2.1, t, st.2.2.2.2.2.2) := by
  obtain ⟨h1, h2, h3, h4, h5, h6, h7⟩ := h
  exact ⟨h1.mv o.1.1 (fun j _ _ => hd_u_n (by omega)), h2.mv o.2.1.1 (fun j _ _ => hd_u_n (by omega)), h3.mv (hd_u_n (by omega)) (fun j => hd_u_n (by omega)), h4.mv o.2.2.2.1 (fun k _ => hd_u_n (by omega)) (fun j _ => hd_u_n (by omega)), h5.mv (fun c j q1 q2 => hd_u_n (by omega)), hd_u_s _ _ _ _, by rw [hd_u_n (by omega)]; exact h7⟩
set_option maxRecDepth 20000 in
/-- a question's end -/
theorem RI.q {M M1 : hd_M} {st : ab_T} (h : RI M st) (o : OK st) (he : fr idR M M1) : fr refF M M1 ∧ RI M1 st := by
  refine ⟨he.mo (fun c j z => ?_), h.mv o he⟩
  have z : c = 53 ∨ c = 55 ∨ (57 ≤ c ∧ c ≤ 60) ∨ c = 64 ∨ (c = 51 ∧ _) := z
  show 51 ≤ c
  omega
set_option maxRecDepth 20000 in
theorem n33R {M M1 : hd_M} (h : fr n33 M M1) : fr idR M M1 := h.mo (fun c j z => Or.inl z.1)
set_option maxRecDepth 20000 in
theorem v138 {n : Nat} (h : n < 138) : vp_in (nI n) 138 := vp_in_nI h (by decide)
set_option maxRecDepth 20000 in
theorem rf.cp {M M1 : hd_M} {d : dy_T} (h : rf M 52 0 d) (hn : d.1 ≤ 7) (he : ∀ x, x < 46 → M1 53 x = M 52 x) : rf M1 53 0 d := by
  obtain ⟨a5, a6, a7, a8, a9, b⟩ := h
  refine ⟨?_, ?_, ?_, ?_, ?_, fun i hi => ⟨?_, ?_, ?_, ?_⟩⟩
  · rw [he _ (by omega)]; exact a5
  · rw [he _ (by omega)]; exact a6
  · rw [he _ (by omega)]; exact a7
  · rw [he _ (by omega)]; exact a8
  · rw [he _ (by omega)]; exact a9
  · rw [he _ (by omega)]; exact (b i hi).1
  · rw [he _ (by omega)]; exact (b i hi).2.1
  · rw [he _ (by omega)]; exact (b i hi).2.2.1
  · rw [he _ (by omega)]; exact (b i hi).2.2.2
set_option maxRecDepth 20000 in
theorem rf.pc {M M1 : hd_M} {d : dy_T} (h : rf M 53 0 d) (hn : d.1 ≤ 7) (he : ∀ x, x < 46 → M1 52 x = M 53 x) : rf M1 52 0 d := by
  obtain ⟨a5, a6, a7, a8, a9, b⟩ := h
  refine ⟨?_, ?_, ?_, ?_, ?_, fun i hi => ⟨?_, ?_, ?_, ?_⟩⟩
  · rw [he _ (by omega)]; exact a5
  · rw [he _ (by omega)]; exact a6
  · rw [he _ (by omega)]; exact a7
  · rw [he _ (by omega)]; exact a8
  · rw [he _ (by omega)]; exact a9
  · rw [he _ (by omega)]; exact (b i hi).1
  · rw [he _ (by omega)]; exact (b i hi).2.1
  · rw [he _ (by omega)]; exact (b i hi).2.2.1
  · rw [he _ (by omega)]; exact (b i hi).2.2.2
set_option maxRecDepth 20000 in
/-- the row of now holds the day again -/
theorem r_st (M : hd_M) (N : hd_N) (d : dy_T) (hd : rf M 52 0 d) (hn : d.1 ≤ 7) : hd_Ret mX6_starts [.ref 51] M N (fun r M1 N1 => r = none ∧ N1 = N ∧ fr nowF M M1 ∧ rf M1 53 0 d ∧ ∀ x, x < 46 → M1 53 x = M 52 x) := by
  refine hd_Go.post ?_ (r_starts M N)
  rintro r M1 N1 ⟨rfl, rfl, hf, hx⟩
  exact ⟨rfl, rfl, hf.mo (fun c j z => z.1), hd.cp hn hx, hx⟩
set_option maxRecDepth 20000 in
theorem nowR {M M1 : hd_M} (h : fr nowF M M1) : fr idR M M1 := h.mo (fun c j z => Or.inl z)
set_option maxRecDepth 20000 in
theorem r_bec (k : Nat) (hk : k < 138) (v : Int32) (M : hd_M) (N : hd_N) : hd_Ret mX6_becomes [.ref 51, .int (nI k), .int v] M N (fun r M1 N1 => r = some (.int (M 52 k)) ∧ N1 = N ∧ M1 = hd_u M 52 k v) := by
  change hd_Go mX6_becomes 0 [some (.ref 51), some (.int (nI k)), some (.int v), none] [] M N _
  refine hd_go kX6_becomes 999 (fun _ => rfl) rfl ⟨⟨trivial, v138 hk⟩, v138 hk⟩ ?_
  rw [nI_clamp (by omega)]
  exact hd_en_ kX6_becomes (fun _ => rfl) trivial ⟨rfl, rfl, rfl⟩
set_option maxRecDepth 20000 in
theorem th_iff {i : Int32} {n : Nat} (hn : n ≤ 7) : wi i 0 (nI n - 1) ↔ ¬ i < 0 ∧ i < nI n := by
  have e1 : (nI n - 1).toInt = (n : Int) - 1 := pk_sub_toInt (a := n) (b := 1) (by omega) (by decide)
  have e2 : (nI n).toInt = (n : Int) := nI_toInt (by omega)
  refine and_congr_right (fun _ => ?_)
  rw [Int32.lt_iff_toInt_lt, Int32.lt_iff_toInt_lt, e1, e2]
  omega
set_option maxRecDepth 20000 in
theorem hd_bc {c d : Prop} [Decidable c] [Decidable d] (h : c ↔ d) : hd_b c = hd_b d := by
  unfold hd_b
  by_cases hc : c
  · rw [if_pos hc, if_pos (h.mp hc)]
  · rw [if_neg hc, if_neg (fun z => hc (h.mpr z))]
set_option maxRecDepth 20000 in
theorem r_isTh (i : Int32) (M : hd_M) (N : hd_N) (d : dy_T) (h28 : M 52 28 = nI d.1) (hn : d.1 ≤ 7) : hd_Ret mX6_isThing [.ref 51, .int i] M N (hd_is (.int (hd_b (an_th i d))) M N) := by
  change hd_Go mX6_isThing 0 [some (.ref 51), some (.int i)] [] M N _
  refine hd_go kX6_isThing 999 (fun _ => rfl) rfl ⟨trivial, v138 (n := 28) (by decide)⟩ ?_
  show hd_Go mX6_isThing 13 [some (.ref 51), some (.int i)] [.long (M 52 28 - 1).toInt64, .long 0, .long i.toInt64] M N _
  rw [h28]
  refine hd_ci kX6_isThing qX6_isThing (fun _ => rfl) (r_in i 0 (nI d.1 - 1) _ _ rfl rfl M N) ?_
  rw [hd_bc (th_iff hn)]
  exact hd_en_ kX6_isThing (fun _ => rfl) hd_b01 ⟨rfl, rfl, rfl⟩
set_option maxRecDepth 20000 in
theorem r_isMood (v : Int32) (M : hd_M) (N : hd_N) : hd_Ret mX6_isMood [.int v] M N (hd_is (.int (hd_b (wi v 0 99))) M N) := by
  change hd_Go mX6_isMood 0 [some (.int v)] [] M N _
  refine hd_go kX6_isMood 999 (fun _ => rfl) rfl trivial ?_
  refine hd_ci kX6_isMood qX6_isMood (fun _ => rfl) (r_in v 0 99 _ _ rfl rfl M N) ?_
  exact hd_en_ kX6_isMood (fun _ => rfl) hd_b01 ⟨rfl, rfl, rfl⟩
set_option maxRecDepth 20000 in
theorem r_isPart (v : Int32) (M : hd_M) (N : hd_N) : hd_Ret mX6_isPart [.int v] M N (hd_is (.int (hd_b (wi v 0 1))) M N) := by
  change hd_Go mX6_isPart 0 [some (.int v)] [] M N _
  refine hd_go kX6_isPart 999 (fun _ => rfl) rfl trivial ?_
  refine hd_ci kX6_isPart qX6_isPart (fun _ => rfl) (r_in v 0 1 _ _ rfl rfl M N) ?_
  exact hd_en_ kX6_isPart (fun _ => rfl) hd_b01 ⟨rfl, rfl, rfl⟩
set_option maxRecDepth 20000 in
theorem r_isFar (v : Int32) (M : hd_M) (N : hd_N) : hd_Ret mX6_isFar [.int v] M N (hd_is (.int (hd_b (wi v 0 60))) M N) := by
  change hd_Go mX6_isFar 0 [some (.int v)] [] M N _
  refine hd_go kX6_isFar 999 (fun _ => rfl) rfl trivial ?_
  refine hd_ci kX6_isFar qX6_isFar (fun _ => rfl) (r_in v 0 60 _ _ rfl rfl M N) ?_
  exact hd_en_ kX6_isFar (fun _ => rfl) hd_b01 ⟨rfl, rfl, rfl⟩
set_option maxRecDepth 20000 in
theorem r_allIn (M : hd_M) (N : hd_N) (d : dy_T) (hd : rf M 52 0 d) (ok : dy_ok d) : hd_Ret mX6_allAreIn [.ref 51] M N (hd_is (.int (hd_b (dy_all d))) M N) := by
  change hd_Go mX6_allAreIn 0 [some (.ref 51)] [] M N _
  have hn := ok.1
  have hl := ok.2.1
  have e28 : M 52 28 = nI d.1 := hd.1
  have e29 : M 52 29 = nI d.2.1 := hd.2.1
  refine hd_go kX6_allAreIn 999 (fun _ => rfl) rfl ⟨⟨trivial, v138 (n := 29) (by decide)⟩, v138 (n := 28) (by decide)⟩ ?_
  show hd_Go mX6_allAreIn 14 [some (.ref 51)] [.int (M 52 28), .int (M 52 29)] M N _
  rw [e28, e29]
  have ei : nI d.2.1 = nI d.1 ↔ dy_all d := nI_eq (by omega) (by omega)
  refine hd_ju kX6_allAreIn (fun _ => rfl) (fun c => ?_) (fun c => ?_)
  · refine hd_go kX6_allAreIn 999 (fun _ => rfl) rfl trivial ?_
    refine hd_en_ kX6_allAreIn (fun _ => rfl) (Or.inl rfl) ⟨?_, rfl, rfl⟩
    rw [show hd_b (dy_all d) = 0 from if_neg (fun z => c (ei.mpr z))]
  · refine hd_go kX6_allAreIn 999 (fun _ => rfl) rfl trivial ?_
    refine hd_en_ kX6_allAreIn (fun _ => rfl) (Or.inr rfl) ⟨?_, rfl, rfl⟩
    rw [show hd_b (dy_all d) = 1 from if_pos (ei.mp c)]
set_option maxRecDepth 20000 in
theorem d_fault : rA mX6_fault [] an_fault := by
  intro M N st hI hO
  change hd_Go mX6_fault 0 [some (.ref 51)] [] M N _
  refine hd_go kX6_fault 999 (fun _ => rfl) rfl trivial ?_
  exact hd_en_ kX6_fault (fun _ => rfl) trivial ⟨by rw [hI.2.2.2.2.2.2]; rfl, fr.rf, hI⟩
set_option maxRecDepth 20000 in
theorem d_torn : rA mX6_torn [] an_torn := by
  intro M N st hI hO
  change hd_Go mX6_torn 0 [some (.ref 51)] [] M N _
  refine hd_go kX6_torn 999 (fun _ => rfl) rfl trivial ?_
  exact hd_en_ kX6_torn (fun _ => rfl) trivial ⟨by rw [hI.2.2.2.2.2.1]; rfl, fr.rf, hI⟩
set_option maxRecDepth 20000 in
theorem d_feed (c : Int32) : rA mX6_feed [.int c] (an_feed c) := by
  intro M N st hI hO
  change hd_Go mX6_feed 0 [some (.ref 51), some (.int c)] [] M N _
  obtain ⟨hL, hb⟩ := hO.2.2.1
  have e7 : M 51 7 = nI st.2.2.1.1 := hI.2.2.1.1
  refine hd_go kX6_feed 999 (fun _ => rfl) rfl trivial ?_
  refine hd_ci kX6_feed qX6_feed (fun _ => rfl) (r_in c 0 127 _ _ rfl rfl M N) ?_
  unfold an_feed
  refine hd_ju kX6_feed (fun _ => rfl) (fun q => ?_) (fun q => ?_)
  · have q := hd_b1.mp q
    rw [if_pos q]
    refine hd_go kX6_feed 999 (fun _ => rfl) rfl trivial ?_
    rw [e7]
    refine hd_ju kX6_feed (fun _ => rfl) (fun c2 => ?_) (fun c2 => ?_)
    · have hne : ¬ st.2.2.1.1 = 160 := fun z => c2 (by rw [z]; rfl)
      have hv : vp_in (nI st.2.2.1.1) 160 := vp_in_nI (by omega) (by decide)
      rw [if_neg hne]
      refine hd_go kX6_feed 999 (fun _ => rfl) rfl ?_ ?_
      · rw [e7]; exact ⟨trivial, hv⟩
      rw [e7, nI_clamp (by omega), hd_u_s, hd_u_n (show ¬ (51 = 56 ∧ 7 = st.2.2.1.1) by omega), e7, nI_1]
      refine hd_en_ kX6_feed (fun _ => rfl) trivial ⟨rfl, (fr.rf.up (by simp)).up (by simp), ?_⟩
      refine hI.tape hO ((fr.rf.up (by simp)).up (by simp)) ⟨hd_u_s _ _ _ _, fun i hi => ?_⟩
      have hi : i < st.2.2.1.1 + 1 := hi
      show _ = if i = st.2.2.1.1 then c else st.2.2.1.2 i
      rw [hd_u_n (by omega)]
      by_cases e : i = st.2.2.1.1
      · rw [if_pos e, e, hd_u_s]
      · rw [if_neg e, hd_u_n (by omega)]; exact hI.2.2.1.2 i (by omega)
    · have he : st.2.2.1.1 = 160 := (nI_eq (by omega) (by decide)).mp c2
      rw [if_pos he]
      refine hd_go kX6_feed 999 (fun _ => rfl) rfl trivial ?_
      exact hd_en_ kX6_feed (fun _ => rfl) trivial ⟨rfl, fr.rf, hI⟩
  · rw [if_neg (hd_b0.mp q)]
    refine hd_go kX6_feed 999 (fun _ => rfl) rfl trivial ?_
    exact hd_en_ kX6_feed (fun _ => rfl) trivial ⟨rfl, fr.rf, hI⟩
set_option maxRecDepth 20000 in
theorem d_end (n : Int32) : rA mX6_end [.int n] (an_end n) := by
  intro M N st hI hO
  change hd_Go mX6_end 0 [some (.ref 51), some (.int n), none] [] M N _
  have hL := hO.2.2.1.1
  have e7 : M 51 7 = nI st.2.2.1.1 := hI.2.2.1.1
  refine hd_go kX6_end 999 (fun _ => rfl) rfl trivial ?_
  rw [e7]
  refine hd_ci kX6_end qX6_end (fun _ => rfl) (r_in n 0 (nI st.2.2.1.1) _ _ rfl rfl M N) ?_
  unfold an_end
  refine hd_ju kX6_end (fun _ => rfl) (fun q => ?_) (fun q => ?_)
  · have q := hd_b1.mp q
    obtain ⟨j, hj, rfl⟩ := nI_of2 (M := nI st.2.2.1.1) (n := st.2.2.1.1) (nI_toInt (by omega)) q.1 (Int32.not_lt.mp q.2)
    rw [if_pos q, nI_clamp (by omega)]
    refine hd_go kX6_end 999 (fun _ => rfl) rfl trivial ?_
    refine hd_en_ kX6_end (fun _ => rfl) trivial ⟨by rw [e7], fr.rf.up (by simp), ?_⟩
    refine hI.tape hO (fr.rf.up (by simp)) ⟨hd_u_s _ _ _ _, fun i hi => ?_⟩
    rw [hd_u_n (by omega)]; exact hI.2.2.1.2 i (Nat.lt_of_lt_of_le hi hj)
  · rw [if_neg (hd_b0.mp q)]
    refine hd_go kX6_end 999 (fun _ => rfl) rfl trivial ?_
    exact hd_en_ kX6_end (fun _ => rfl) trivial ⟨rfl, fr.rf, hI⟩
set_option maxRecDepth 20000 in
theorem d_rule_l (M : hd_M) (N : hd_N) (st : ab_T) (hI : RI M st) (hO : OK st) (w : Int32) (hd : rf M 53 0 st.1) (Q : hd_Q) (hk : hd_Go mX6_rule 38 [some (.ref 51), some (.int w), some (.int (dy_cru st.1)), some (.int (nI st.1.1))] [] M N Q) : ∀ (m j : Nat), j + m = st.1.1 → hd_Go mX6_rule 8 [some (.ref 51), some (.int w), some (.int (dy_bits (fun i => decide (dy_brs (st.1.2.2.2.2.2 0 i) (st.1.2.2.2.2.2 2 i) < dy_ld st.1 i)) j)), some (.int (nI j))] [] M N Q := by
  have e28 : M 52 28 = nI st.1.1 := hI.1.1
  have e28n : M 53 28 = nI st.1.1 := hd.1
  have h7 := hO.1.1
  intro m
  induction m with
  | zero =>
    intro j hj
    have hj : j = st.1.1 := by omega
    subst hj
    refine hd_go kX6_rule 999 (fun _ => rfl) rfl ⟨trivial, v138 (n := 28) (by decide)⟩ ?_
    refine hd_ju kX6_rule (fun _ => rfl) (fun c => hk) (fun c => ?_)
    have c : ¬ M 52 28 ≤ nI st.1.1 := c
    rw [e28] at c
    exact absurd (nI_le (Nat.le_refl _) (by omega)) c
  | succ m ih =>
    intro j hj
    refine hd_go kX6_rule 999 (fun _ => rfl) rfl ⟨trivial, v138 (n := 28) (by decide)⟩ ?_
    refine hd_ju kX6_rule (fun _ => rfl) (fun c => ?_) (fun c => ?_)
    · have c : M 52 28 ≤ nI j := c
      rw [e28] at c
      exact absurd c (nI_ge (by omega) (by omega))
    have e := hd.2.2.2.2.2 j (by omega)
    rw [Nat.zero_add, Nat.zero_add, Nat.zero_add] at e
    have el : wsm (fun k => M 53 (4 * k + 2)) (j + 1) (st.1.1 - (j + 1)) = dy_ld st.1 j := wsm_cong _ _ (fun x h1 h2 => by have := (hd.2.2.2.2.2 x (by omega)).2.2.1; rw [Nat.zero_add] at this; exact this)
    refine hd_go kX6_rule 999 (fun _ => rfl) rfl trivial ?_
    refine hd_ci kX6_rule qX6_rule (fun _ => rfl) (r_isCr M N st.1.1 h7 e28n j (by omega)) ?_
    refine hd_ci kX6_rule qX6_rule (fun _ => rfl) (r_flag _ M N) ?_
    refine hd_go kX6_rule 999 (fun _ => rfl) rfl trivial ?_
    rw [nI_1, el, e.1, e.2.2.1]
    have ef : hd_b (¬ hd_b (dy_brs (st.1.2.2.2.2.2 0 j) (st.1.2.2.2.2.2 2 j) < dy_ld st.1 j) = 0) = hd_b (decide (dy_brs (st.1.2.2.2.2.2 0 j) (st.1.2.2.2.2.2 2 j) < dy_ld st.1 j) = true) := hd_bc (by rw [hd_b1, decide_eq_true_eq])
    rw [ef, or_fl]
    have := ih (j + 1) (by omega)
    rw [dy_bits] at this
    exact this
set_option maxRecDepth 20000 in
theorem d_rule (w : Int32) : rA mX6_rule [.int w] (an_rule w) := by
  intro M N st hI hO
  change hd_Go mX6_rule 0 [some (.ref 51), some (.int w), none, none] [] M N _
  refine hd_go kX6_rule 999 (fun _ => rfl) rfl trivial ?_
  refine hd_ca kX6_rule qX6_rule (fun _ => rfl) (r_st M N _ hI.1 hO.1.1) ?_
  rintro r M1 N1 ⟨rfl, rfl, hf, hd1, -⟩
  obtain ⟨hf2, hI1⟩ := hI.q hO (nowR hf)
  refine hd_go kX6_rule 8 (fun _ => rfl) rfl trivial ?_
  refine d_rule_l M1 N1 st hI1 hO w hd1 _ ?_ st.1.1 0 (by omega)
  obtain ⟨a5, a6, a7, a8, a9, -⟩ := id hI1.1
  refine hd_go kX6_rule 999 (fun _ => rfl) rfl trivial ?_
  refine hd_sc kX6_rule (fun _ => rfl) ⟨fun c => ?_, fun c0 => ⟨fun c => ?_, fun c1 => ⟨fun c => ?_, fun c2 => ⟨fun c => ?_, fun c3 => ⟨fun c => ?_, fun c4 => ⟨fun c => ?_, fun c5 => ⟨fun c => ?_, fun c6 => ?_⟩⟩⟩⟩⟩⟩⟩
  · subst c
    refine hd_go kX6_rule 999 (fun _ => rfl) rfl ⟨trivial, v138 (n := 28) (by decide)⟩ ?_
    exact hd_en_ kX6_rule (fun _ => rfl) trivial ⟨congrArg (fun x => some (Value.int x)) a5, hf2, hI1⟩
  · subst c
    refine hd_go kX6_rule 999 (fun _ => rfl) rfl ⟨trivial, v138 (n := 32) (by decide)⟩ ?_
    exact hd_en_ kX6_rule (fun _ => rfl) trivial ⟨congrArg (fun x => some (Value.int x)) a9, hf2, hI1⟩
  · subst c
    refine hd_go kX6_rule 999 (fun _ => rfl) rfl ⟨trivial, v138 (n := 30) (by decide)⟩ ?_
    exact hd_en_ kX6_rule (fun _ => rfl) trivial ⟨congrArg (fun x => some (Value.int x)) a7, hf2, hI1⟩
  · subst c
    refine hd_go kX6_rule 999 (fun _ => rfl) rfl ⟨trivial, v138 (n := 31) (by decide)⟩ ?_
    exact hd_en_ kX6_rule (fun _ => rfl) trivial ⟨congrArg (fun x => some (Value.int x)) a8, hf2, hI1⟩
  · subst c
    refine hd_go kX6_rule 999 (fun _ => rfl) rfl ⟨trivial, v138 (n := 29) (by decide)⟩ ?_
    exact hd_en_ kX6_rule (fun _ => rfl) trivial ⟨congrArg (fun x => some (Value.int x)) a6, hf2, hI1⟩
  · subst c
    refine hd_go kX6_rule 999 (fun _ => rfl) rfl trivial ?_
    refine hd_ci kX6_rule qX6_rule (fun _ => rfl) (r_out M1 N1 _ hd1 hO.1.1) ?_
    exact hd_en_ kX6_rule (fun _ => rfl) trivial ⟨rfl, hf2, hI1⟩
  · subst c
    refine hd_go kX6_rule 999 (fun _ => rfl) rfl trivial ?_
    exact hd_en_ kX6_rule (fun _ => rfl) trivial ⟨rfl, hf2, hI1⟩
  · refine hd_go kX6_rule 999 (fun _ => rfl) rfl trivial ?_
    refine hd_en_ kX6_rule (fun _ => rfl) trivial ⟨?_, hf2, hI1⟩
    simp only [an_rule, c0, c1, c2, c3, c4, c5, c6, if_false]
set_option maxRecDepth 20000 in
theorem d_thing (i w : Int32) : rA mX6_thing [.int i, .int w] (an_thing i w) := by
  intro M N st hI hO
  change hd_Go mX6_thing 0 [some (.ref 51), some (.int i), some (.int w)] [] M N _
  have h7 := hO.1.1
  refine hd_go kX6_thing 999 (fun _ => rfl) rfl trivial ?_
  refine hd_ci kX6_thing qX6_thing (fun _ => rfl) (r_isTh _ M N st.1 hI.1.1 h7) ?_
  unfold an_thing
  refine hd_ju kX6_thing (fun _ => rfl) (fun q => ?_) (fun q => ?_)
  · have q := hd_b1.mp q
    obtain ⟨j, hj, rfl⟩ := an_th_nat q h7
    rw [if_pos q, nI_clamp (by omega)]
    refine hd_go kX6_thing 999 (fun _ => rfl) rfl trivial ?_
    refine hd_ca kX6_thing qX6_thing (fun _ => rfl) (r_st M N _ hI.1 h7) ?_
    rintro r M1 N1 ⟨rfl, rfl, hf, hd1, -⟩
    obtain ⟨hf2, hI1⟩ := hI.q hO (nowR hf)
    have e28 : M1 53 28 = nI st.1.1 := hd1.1
    have e := hd1.2.2.2.2.2 j hj
    rw [Nat.zero_add, Nat.zero_add, Nat.zero_add, Nat.zero_add] at e
    obtain ⟨e0, e1, e2, e3⟩ := e
    have el : wsm (fun k => M1 53 (4 * k + 2)) (j + 1) (st.1.1 - (j + 1)) = dy_ld st.1 j := wsm_cong _ _ (fun x h1 h2 => by have := (hd1.2.2.2.2.2 x (by omega)).2.2.1; rw [Nat.zero_add] at this; exact this)
    refine hd_go kX6_thing 999 (fun _ => rfl) rfl trivial ?_
    refine hd_sc kX6_thing (fun _ => rfl) ⟨fun c => ?_, fun c0 => ⟨fun c => ?_, fun c1 => ⟨fun c => ?_, fun c2 => ⟨fun c => ?_, fun c3 => ⟨fun c => ?_, fun c4 => ⟨fun c => ?_, fun c5 => ⟨fun c => ?_, fun c6 => ?_⟩⟩⟩⟩⟩⟩⟩
    · subst c
      refine hd_go kX6_thing 999 (fun _ => rfl) rfl trivial ?_
      refine hd_ci kX6_thing qX6_thing (fun _ => rfl) (r_of j 0 (by omega) M1 N1) ?_
      exact hd_en_ kX6_thing (fun _ => rfl) trivial ⟨congrArg (fun x => some (Value.int x)) e0, hf2, hI1⟩
    · subst c
      refine hd_go kX6_thing 999 (fun _ => rfl) rfl trivial ?_
      refine hd_ci kX6_thing qX6_thing (fun _ => rfl) (r_of j 1 (by omega) M1 N1) ?_
      exact hd_en_ kX6_thing (fun _ => rfl) trivial ⟨congrArg (fun x => some (Value.int x)) e1, hf2, hI1⟩
    · subst c
      refine hd_go kX6_thing 999 (fun _ => rfl) rfl trivial ?_
      refine hd_ci kX6_thing qX6_thing (fun _ => rfl) (r_of j 2 (by omega) M1 N1) ?_
      exact hd_en_ kX6_thing (fun _ => rfl) trivial ⟨congrArg (fun x => some (Value.int x)) e2, hf2, hI1⟩
    · subst c
      refine hd_go kX6_thing 999 (fun _ => rfl) rfl trivial ?_
      refine hd_ci kX6_thing qX6_thing (fun _ => rfl) (r_bears j (by omega) M1 N1) ?_
      exact hd_en_ kX6_thing (fun _ => rfl) trivial ⟨by rw [e0, e2]; rfl, hf2, hI1⟩
    · subst c
      refine hd_go kX6_thing 999 (fun _ => rfl) rfl trivial ?_
      refine hd_ci kX6_thing qX6_thing (fun _ => rfl) (r_laid M1 N1 st.1.1 h7 e28 j (by omega)) ?_
      exact hd_en_ kX6_thing (fun _ => rfl) trivial ⟨by rw [el]; rfl, hf2, hI1⟩
    · subst c
      refine hd_go kX6_thing 999 (fun _ => rfl) rfl trivial ?_
      refine hd_ci kX6_thing qX6_thing (fun _ => rfl) (r_cheers M1 N1 st.1.1 h7 e28 j (by omega)) ?_
      refine hd_go kX6_thing 999 (fun _ => rfl) rfl trivial ?_
      exact hd_en_ kX6_thing (fun _ => rfl) trivial ⟨by rw [rf_ch hd1 hj]; rfl, hf2, hI1⟩
    · subst c
      refine hd_go kX6_thing 999 (fun _ => rfl) rfl trivial ?_
      refine hd_ci kX6_thing qX6_thing (fun _ => rfl) (r_of j 3 (by omega) M1 N1) ?_
      exact hd_en_ kX6_thing (fun _ => rfl) trivial ⟨congrArg (fun x => some (Value.int x)) e3, hf2, hI1⟩
    · refine hd_go kX6_thing 999 (fun _ => rfl) rfl trivial ?_
      refine hd_en_ kX6_thing (fun _ => rfl) trivial ⟨?_, hf2, hI1⟩
      simp only [dy_tell, c0, c1, c2, c3, c4, c5, c6, if_false]
  · rw [if_neg (hd_b0.mp q)]
    refine hd_go kX6_thing 999 (fun _ => rfl) rfl trivial ?_
    exact hd_en_ kX6_thing (fun _ => rfl) trivial ⟨rfl, fr.rf, hI⟩
set_option maxRecDepth 20000 in
theorem rf_set {M : hd_M} {d : dy_T} {a : Nat} (hd : rf M a 0 d) (w i : Nat) (hw : w < 4) (hi : i < d.1) (hn : d.1 ≤ 7) (v : Int32) : rf (hd_u M a (4 * i + w) v) a 0 (dy_set w i v d) := by
  obtain ⟨a5, a6, a7, a8, a9, b⟩ := hd
  have col : ∀ (c x : Nat), c < 4 → M a (0 + (4 * x + c)) = d.2.2.2.2.2 c x → hd_u M a (4 * i + w) v a (0 + (4 * x + c)) = if c = w ∧ x = i then v else d.2.2.2.2.2 c x := by
    intro c x hc e
    unfold hd_u
    by_cases h : c = w ∧ x = i
    · rw [if_pos (by omega), if_pos h]
    · rw [if_neg (by omega), if_neg h]; exact e
  refine ⟨?_, ?_, ?_, ?_, ?_, fun x hx => ⟨?_, ?_, ?_, ?_⟩⟩
  · rw [hd_u_n (by omega)]; exact a5
  · rw [hd_u_n (by omega)]; exact a6
  · rw [hd_u_n (by omega)]; exact a7
  · rw [hd_u_n (by omega)]; exact a8
  · rw [hd_u_n (by omega)]; exact a9
  · exact col 0 x (by decide) (b x hx).1
  · exact col 1 x (by decide) (b x hx).2.1
  · exact col 2 x (by decide) (b x hx).2.2.1
  · exact col 3 x (by decide) (b x hx).2.2.2
set_option maxRecDepth 20000 in
theorem dayR {M M1 : hd_M} (h : fr (fun c j => c = 52 ∧ j < 33) M M1) : fr refF M M1 ∧ fr (fun c j => (c = 52 ∧ j < 33) ∨ idR c j) M M1 := ⟨h.mo (fun c j z => by have z : c = 52 ∧ j < 33 := z; show 51 ≤ c; omega), h.mo (fun c j z => Or.inl z)⟩
set_option maxRecDepth 20000 in
theorem d_alter (i w v : Int32) : rA mX6_alter [.int i, .int w, .int v] (an_alter i w v) := by
  intro M N st hI hO
  change hd_Go mX6_alter 0 [some (.ref 51), some (.int i), some (.int w), some (.int v), none] [] M N _
  have h7 := hO.1.1
  have tail : ∀ z : Int32, (¬ z = 0 ↔ tra w v) → hd_Go mX6_alter 55 [some (.ref 51), some (.int i), some (.int w), some (.int v), none] [.int z] M N (fun r M1 _ => r = some (an_alter i w v st).1 ∧ fr refF M M1 ∧ RI M1 (an_alter i w v st).2) := by
    intro z hz
    have bad : ¬ (an_th i st.1 ∧ tra w v) → hd_Go mX6_alter 83 [some (.ref 51), some (.int i), some (.int w), some (.int v), some (.int z)] [] M N (fun r M1 _ => r = some (an_alter i w v st).1 ∧ fr refF M M1 ∧ RI M1 (an_alter i w v st).2) := by
      intro q
      refine hd_go kX6_alter 999 (fun _ => rfl) rfl trivial ?_
      refine hd_en_ kX6_alter (fun _ => rfl) trivial ?_
      unfold an_alter
      rw [if_neg q]
      exact ⟨rfl, fr.rf, hI⟩
    refine hd_go kX6_alter 999 (fun _ => rfl) rfl trivial ?_
    refine hd_ci kX6_alter qX6_alter (fun _ => rfl) (r_isTh _ M N st.1 hI.1.1 h7) ?_
    refine hd_ju kX6_alter (fun _ => rfl) (fun q => bad (fun y => hd_b0.mp q y.1)) (fun q => ?_)
    have q1 := hd_b1.mp q
    refine hd_go kX6_alter 999 (fun _ => rfl) rfl trivial ?_
    refine hd_ju kX6_alter (fun _ => rfl) (fun q => bad (fun y => (hz.mpr y.2) q)) (fun q => ?_)
    have q2 := hz.mp q
    have q3 : an_th i st.1 ∧ tra w v := ⟨q1, q2⟩
    obtain ⟨j, hj, rfl⟩ := an_th_nat q1 h7
    obtain ⟨u, hu, rfl⟩ := tra_nat q2
    refine hd_go kX6_alter 999 (fun _ => rfl) rfl trivial ?_
    rw [ix4]
    refine hd_ca kX6_alter qX6_alter (fun _ => rfl) (r_bec (4 * j + u) (by omega) v M N) ?_
    rintro r M1 N1 ⟨rfl, rfl, rfl⟩
    refine hd_go kX6_alter 999 (fun _ => rfl) rfl trivial ?_
    refine hd_en_ kX6_alter (fun _ => rfl) trivial ?_
    unfold an_alter
    rw [if_pos q3, nI_clamp (show u < 2 ^ 31 by omega), nI_clamp (show j < 2 ^ 31 by omega)]
    have hf : fr (fun c j => c = 52 ∧ j < 33) M (hd_u M 52 (4 * j + u) v) := fr.rf.up (by show 52 = 52 ∧ 4 * j + u < 33; omega)
    refine ⟨?_, (dayR hf).1, hI.day hO (dayR hf).2 (rf_set hI.1 u j (by omega) hj h7 v)⟩
    have e := hI.1.2.2.2.2.2 j hj
    rw [Nat.zero_add, Nat.zero_add, Nat.zero_add] at e
    rcases (show u = 0 ∨ u = 1 ∨ u = 2 by omega) with rfl | rfl | rfl
    · rw [Nat.add_zero, e.1]
    · rw [e.2.1]
    · rw [e.2.2.1]
  refine hd_go kX6_alter 999 (fun _ => rfl) rfl trivial ?_
  refine hd_ju kX6_alter (fun _ => rfl) (fun c0 => ?_) (fun c0 => ?_)
  · refine hd_go kX6_alter 999 (fun _ => rfl) rfl trivial ?_
    refine hd_ju kX6_alter (fun _ => rfl) (fun c1 => ?_) (fun c1 => ?_)
    · refine hd_go kX6_alter 999 (fun _ => rfl) rfl trivial ?_
      refine hd_ju kX6_alter (fun _ => rfl) (fun c2 => ?_) (fun c2 => ?_)
      · refine hd_go kX6_alter 55 (fun _ => rfl) rfl trivial ?_
        exact tail 0 ⟨fun z => absurd rfl z, fun z => absurd z (by simp [tra, c0, c1, c2])⟩
      · refine hd_go kX6_alter 999 (fun _ => rfl) rfl trivial ?_
        refine hd_ci kX6_alter qX6_alter (fun _ => rfl) (r_in v 1 9 _ _ rfl rfl M N) ?_
        refine hd_ju kX6_alter (fun _ => rfl) (fun c3 => ?_) (fun c3 => ?_)
        · refine hd_go kX6_alter 55 (fun _ => rfl) rfl trivial ?_
          refine tail 0 ⟨fun z => absurd rfl z, fun z => ?_⟩
          rcases z with z | z | z
          · exact absurd z.1 c0
          · exact absurd z.1 c1
          · exact absurd z.2 (hd_b0.mp c3)
        · refine hd_go kX6_alter 55 (fun _ => rfl) rfl trivial ?_
          exact tail 1 ⟨fun _ => Or.inr (Or.inr ⟨c2, hd_b1.mp c3⟩), fun _ => by decide⟩
    · refine hd_go kX6_alter 999 (fun _ => rfl) rfl trivial ?_
      refine hd_ci kX6_alter qX6_alter (fun _ => rfl) (r_in v 0 9 _ _ rfl rfl M N) ?_
      refine hd_go kX6_alter 55 (fun _ => rfl) rfl trivial ?_
      refine tail _ ⟨fun z => Or.inr (Or.inl ⟨c1, hd_b1.mp z⟩), fun z => hd_b1.mpr ?_⟩
      rcases z with z | z | z
      · exact absurd z.1 c0
      · exact z.2
      · rw [c1] at z; exact absurd z.1 (by decide)
  · refine hd_go kX6_alter 999 (fun _ => rfl) rfl trivial ?_
    refine hd_ci kX6_alter qX6_alter (fun _ => rfl) (r_in v 0 3 _ _ rfl rfl M N) ?_
    refine hd_go kX6_alter 55 (fun _ => rfl) rfl trivial ?_
    refine tail _ ⟨fun z => Or.inl ⟨c0, hd_b1.mp z⟩, fun z => hd_b1.mpr ?_⟩
    rcases z with z | z | z
    · exact z.2
    · rw [c0] at z; exact absurd z.1 (by decide)
    · rw [c0] at z; exact absurd z.1 (by decide)
end
section
/-! THE REFERENCE'S PUBLIC METHODS, SECOND LOT; printed by wip/whole/ref4.py -/
set_option maxRecDepth 20000 in
theorem d_mood (v : Int32) : rA mX6_mood [.int v] (an_mood v) := by
  intro M N st hI hO
  change hd_Go mX6_mood 0 [some (.ref 51), some (.int v)] [] M N _
  have h7 := hO.1.1
  obtain ⟨a5, a6, a7, a8, a9, b⟩ := id hI.1
  refine hd_go kX6_mood 999 (fun _ => rfl) rfl trivial ?_
  refine hd_ci kX6_mood qX6_mood (fun _ => rfl) (r_isMood _ M N) ?_
  unfold an_mood
  refine hd_ju kX6_mood (fun _ => rfl) (fun q => ?_) (fun q => ?_)
  · rw [if_neg (hd_b0.mp q)]
    refine hd_go kX6_mood 999 (fun _ => rfl) rfl trivial ?_
    exact hd_en_ kX6_mood (fun _ => rfl) trivial ⟨rfl, fr.rf, hI⟩
  · rw [if_pos (hd_b1.mp q)]
    refine hd_go kX6_mood 999 (fun _ => rfl) rfl trivial ?_
    refine hd_ca kX6_mood qX6_mood (fun _ => rfl) (r_bec 30 (by decide) v M N) ?_
    rintro r M1 N1 ⟨rfl, rfl, rfl⟩
    refine hd_go kX6_mood 999 (fun _ => rfl) rfl trivial ?_
    have hf : fr (fun c j => c = 52 ∧ j < 33) M (hd_u M 52 30 v) := fr.rf.up (by decide)
    refine hd_en_ kX6_mood (fun _ => rfl) trivial ⟨congrArg (fun x => some (Value.int x)) a7, (dayR hf).1, hI.day hO (dayR hf).2 ?_⟩
    refine ⟨?_, ?_, ?_, ?_, ?_, fun x hx => ?_⟩
    · rw [hd_u_n (by omega)]; exact a5
    · rw [hd_u_n (by omega)]; exact a6
    · rw [show 0 + 30 = 30 from rfl]; exact hd_u_s _ _ _ _
    · rw [hd_u_n (by omega)]; exact a8
    · rw [hd_u_n (by omega)]; exact a9
    · have hx : x < st.1.1 := hx
      rw [hd_u_n (by omega), hd_u_n (by omega), hd_u_n (by omega), hd_u_n (by omega)]
      exact b x hx
set_option maxRecDepth 20000 in
theorem d_tire (v : Int32) : rA mX6_tire [.int v] (an_tire v) := by
  intro M N st hI hO
  change hd_Go mX6_tire 0 [some (.ref 51), some (.int v)] [] M N _
  have h7 := hO.1.1
  obtain ⟨a5, a6, a7, a8, a9, b⟩ := id hI.1
  refine hd_go kX6_tire 999 (fun _ => rfl) rfl trivial ?_
  refine hd_ci kX6_tire qX6_tire (fun _ => rfl) (r_in v 0 9 _ _ rfl rfl M N) ?_
  unfold an_tire
  refine hd_ju kX6_tire (fun _ => rfl) (fun q => ?_) (fun q => ?_)
  · rw [if_neg (hd_b0.mp q)]
    refine hd_go kX6_tire 999 (fun _ => rfl) rfl trivial ?_
    exact hd_en_ kX6_tire (fun _ => rfl) trivial ⟨rfl, fr.rf, hI⟩
  · rw [if_pos (hd_b1.mp q)]
    refine hd_go kX6_tire 999 (fun _ => rfl) rfl trivial ?_
    refine hd_ca kX6_tire qX6_tire (fun _ => rfl) (r_bec 31 (by decide) v M N) ?_
    rintro r M1 N1 ⟨rfl, rfl, rfl⟩
    refine hd_go kX6_tire 999 (fun _ => rfl) rfl trivial ?_
    have hf : fr (fun c j => c = 52 ∧ j < 33) M (hd_u M 52 31 v) := fr.rf.up (by decide)
    refine hd_en_ kX6_tire (fun _ => rfl) trivial ⟨congrArg (fun x => some (Value.int x)) a8, (dayR hf).1, hI.day hO (dayR hf).2 ?_⟩
    refine ⟨?_, ?_, ?_, ?_, ?_, fun x hx => ?_⟩
    · rw [hd_u_n (by omega)]; exact a5
    · rw [hd_u_n (by omega)]; exact a6
    · rw [hd_u_n (by omega)]; exact a7
    · rw [show 0 + 31 = 31 from rfl]; exact hd_u_s _ _ _ _
    · rw [hd_u_n (by omega)]; exact a9
    · have hx : x < st.1.1 := hx
      rw [hd_u_n (by omega), hd_u_n (by omega), hd_u_n (by omega), hd_u_n (by omega)]
      exact b x hx
set_option maxRecDepth 20000 in
theorem ix4' (i c : Nat) : nI (4 * i) + nI c = nI (4 * i + c) := nI_add _ _
set_option maxRecDepth 20000 in
theorem d_pack (k g w : Int32) : rA mX6_pack [.int k, .int g, .int w] (an_pack k g w) := by
  intro M N st hI hO
  change hd_Go mX6_pack 0 [some (.ref 51), some (.int k), some (.int g), some (.int w), none] [] M N _
  have h7 := hO.1.1
  obtain ⟨a5, a6, a7, a8, a9, b⟩ := id hI.1
  have a5 : M 52 28 = nI st.1.1 := a5
  have a6 : M 52 29 = nI st.1.2.1 := a6
  have bad : ¬ (wi k 0 3 ∧ wi g 0 9 ∧ wi w 1 9) → hd_Go mX6_pack 36 [some (.ref 51), some (.int k), some (.int g), some (.int w), none] [] M N (fun r M1 _ => r = some (an_pack k g w st).1 ∧ fr refF M M1 ∧ RI M1 (an_pack k g w st).2) := by
    intro q
    refine hd_go kX6_pack 999 (fun _ => rfl) rfl trivial ?_
    refine hd_en_ kX6_pack (fun _ => rfl) trivial ?_
    unfold an_pack
    rw [if_neg q]
    exact ⟨rfl, fr.rf, hI⟩
  refine hd_go kX6_pack 999 (fun _ => rfl) rfl trivial ?_
  refine hd_ci kX6_pack qX6_pack (fun _ => rfl) (r_in k 0 3 _ _ rfl rfl M N) ?_
  refine hd_ju kX6_pack (fun _ => rfl) (fun q => bad (fun z => hd_b0.mp q z.1)) (fun q => ?_)
  have q0 := hd_b1.mp q
  refine hd_go kX6_pack 999 (fun _ => rfl) rfl trivial ?_
  refine hd_ci kX6_pack qX6_pack (fun _ => rfl) (r_in g 0 9 _ _ rfl rfl M N) ?_
  refine hd_ju kX6_pack (fun _ => rfl) (fun q => bad (fun z => hd_b0.mp q z.2.1)) (fun q => ?_)
  have q1 := hd_b1.mp q
  refine hd_go kX6_pack 999 (fun _ => rfl) rfl trivial ?_
  refine hd_ci kX6_pack qX6_pack (fun _ => rfl) (r_in w 1 9 _ _ rfl rfl M N) ?_
  refine hd_ju kX6_pack (fun _ => rfl) (fun q => ?_) (fun q => bad (fun z => hd_b0.mp q z.2.2))
  have q2 := hd_b1.mp q
  unfold an_pack
  rw [if_pos ⟨q0, q1, q2⟩]
  refine hd_go kX6_pack 999 (fun _ => rfl) rfl trivial ?_
  refine hd_ci kX6_pack qX6_pack (fun _ => rfl) (r_allIn M N st.1 hI.1 hO.1) ?_
  refine hd_ju kX6_pack (fun _ => rfl) (fun q => ?_) (fun q => ?_)
  · have ha : st.1.2.1 = st.1.1 := hd_b1.mp q
    rw [if_pos ha]
    refine hd_go kX6_pack 999 (fun _ => rfl) rfl ⟨trivial, v138 (n := 28) (by decide)⟩ ?_
    show hd_Go mX6_pack 57 [some (.ref 51), some (.int k), some (.int g), some (.int w), none] [.int 7, .int (M 52 28)] M N _
    rw [a5]
    refine hd_ju kX6_pack (fun _ => rfl) (fun c => ?_) (fun c => ?_)
    · have hne : ¬ st.1.1 = 7 := fun z => c (by rw [z]; rfl)
      rw [if_neg hne]
      have hlt : st.1.1 < 7 := by omega
      obtain ⟨n, hn⟩ : ∃ n, n = st.1.1 := ⟨_, rfl⟩
      rw [← hn] at a5 hlt hne
      have e4 : (4 : Int32) * M 52 28 = nI (4 * n) := by rw [a5, show (4 : Int32) = nI 4 from rfl, pk_mul]
      refine hd_go kX6_pack 74 (fun _ => rfl) rfl ⟨trivial, v138 (n := 28) (by decide)⟩ ?_
      show hd_Go mX6_pack 74 [some (.ref 51), some (.int k), some (.int g), some (.int w), some (.int (4 * M 52 28))] [] M N _
      rw [e4]
      refine hd_go kX6_pack 999 (fun _ => rfl) rfl ?_ ?_
      · refine ⟨⟨⟨⟨⟨⟨⟨⟨⟨trivial, ?_⟩, ?_⟩, ?_⟩, ?_⟩, v138 (n := 28) (by decide)⟩, v138 (n := 28) (by decide)⟩, v138 (n := 29) (by decide)⟩, v138 (n := 29) (by decide)⟩, v138 (n := 28) (by decide)⟩
        · rw [show nI (4 * n) + 0 = nI (4 * n + 0) from ix4' n 0]; exact v138 (by omega)
        · rw [show nI (4 * n) + 1 = nI (4 * n + 1) from ix4' n 1]; exact v138 (by omega)
        · rw [show nI (4 * n) + 2 = nI (4 * n + 2) from ix4' n 2]; exact v138 (by omega)
        · rw [show nI (4 * n) + 3 = nI (4 * n + 3) from ix4' n 3]; exact v138 (by omega)
      rw [show nI (4 * n) + 0 = nI (4 * n + 0) from ix4' n 0, show nI (4 * n) + 1 = nI (4 * n + 1) from ix4' n 1, show nI (4 * n) + 2 = nI (4 * n + 2) from ix4' n 2, show nI (4 * n) + 3 = nI (4 * n + 3) from ix4' n 3, nI_clamp (show 4 * n + 0 < 2 ^ 31 by omega), nI_clamp (show 4 * n + 1 < 2 ^ 31 by omega), nI_clamp (show 4 * n + 2 < 2 ^ 31 by omega), nI_clamp (show 4 * n + 3 < 2 ^ 31 by omega), show Int32.toNatClampNeg 28 = 28 from rfl, show Int32.toNatClampNeg 29 = 29 from rfl]
      obtain ⟨M4, hM4⟩ : ∃ M4, M4 = hd_u (hd_u (hd_u (hd_u M 52 (4 * n + 0) k) 52 (4 * n + 1) g) 52 (4 * n + 2) w) 52 (4 * n + 3) 0 := ⟨_, rfl⟩
      rw [← hM4]
      have u28 : M4 52 28 = nI n := by rw [hM4, hd_u_n (by omega), hd_u_n (by omega), hd_u_n (by omega), hd_u_n (by omega)]; exact a5
      have u29 : M4 52 29 = nI n := by rw [hM4, hd_u_n (by omega), hd_u_n (by omega), hd_u_n (by omega), hd_u_n (by omega), a6, ha, hn]
      have ux : ∀ j, 28 ≤ j → M4 52 j = M 52 j := fun j hj => by rw [hM4, hd_u_n (by omega), hd_u_n (by omega), hd_u_n (by omega), hd_u_n (by omega)]
      have ul : ∀ j, j < 4 * n → M4 52 j = M 52 j := fun j hj => by rw [hM4, hd_u_n (by omega), hd_u_n (by omega), hd_u_n (by omega), hd_u_n (by omega)]
      have uf : fr (fun c j => c = 52 ∧ j < 33) M M4 := by
        rw [hM4]
        exact (((fr.rf.up (by show 52 = 52 ∧ 4 * n + 0 < 33; omega)).up (by show 52 = 52 ∧ 4 * n + 1 < 33; omega)).up (by show 52 = 52 ∧ 4 * n + 2 < 33; omega)).up (by show 52 = 52 ∧ 4 * n + 3 < 33; omega)
      rw [u28, nI_1, hd_u_n (show ¬ (52 = 52 ∧ 29 = 28) by decide), u29, nI_1, hd_u_n (show ¬ (52 = 52 ∧ 28 = 29) by decide), hd_u_s]
      have hf : fr (fun c j => c = 52 ∧ j < 33) M (hd_u (hd_u M4 52 28 (nI (n + 1))) 52 29 (nI (n + 1))) := (uf.up (by decide)).up (by decide)
      refine hd_en_ kX6_pack (fun _ => rfl) trivial ⟨by rw [hn], (dayR hf).1, hI.day hO (dayR hf).2 ?_⟩
      refine ⟨?_, ?_, ?_, ?_, ?_, fun x hx => ?_⟩
      · rw [hd_u_n (by omega), show 0 + 28 = 28 from rfl, hd_u_s, hn]; rfl
      · rw [show 0 + 29 = 29 from rfl, hd_u_s, hn]; rfl
      · rw [hd_u_n (by omega), hd_u_n (by omega), ux _ (by omega)]; exact a7
      · rw [hd_u_n (by omega), hd_u_n (by omega), ux _ (by omega)]; exact a8
      · rw [hd_u_n (by omega), hd_u_n (by omega), ux _ (by omega)]; exact a9
      · have hx : x < st.1.1 + 1 := hx
        rw [← hn] at hx
        have g9 : ∀ c, c < 4 → hd_u (hd_u M4 52 28 (nI (n + 1))) 52 29 (nI (n + 1)) 52 (0 + (4 * x + c)) = M4 52 (4 * x + c) := fun c hc => by rw [Nat.zero_add, hd_u_n (by omega), hd_u_n (by omega)]
        have g0 : hd_u (hd_u M4 52 28 (nI (n + 1))) 52 29 (nI (n + 1)) 52 (0 + 4 * x) = M4 52 (4 * x) := by rw [Nat.zero_add, hd_u_n (by omega), hd_u_n (by omega)]
        by_cases e : x = n
        · subst e
          refine ⟨?_, ?_, ?_, ?_⟩
          · show _ = if x = st.1.1 then k else _
            rw [if_pos hn, g0, hM4, hd_u_n (by omega), hd_u_n (by omega), hd_u_n (by omega)]; exact hd_u_s _ _ _ _
          · show _ = if x = st.1.1 then g else _
            rw [if_pos hn, g9 1 (by decide), hM4, hd_u_n (by omega), hd_u_n (by omega), hd_u_s]
          · show _ = if x = st.1.1 then w else _
            rw [if_pos hn, g9 2 (by decide), hM4, hd_u_n (by omega), hd_u_s]
          · show _ = if x = st.1.1 then 0 else _
            rw [if_pos hn, g9 3 (by decide), hM4, hd_u_s]
        · have hx2 : x < n := by omega
          obtain ⟨b0, b1, b2, b3⟩ := b x (by omega)
          have nn : ¬ x = st.1.1 := by omega
          refine ⟨?_, ?_, ?_, ?_⟩
          · show _ = if x = st.1.1 then k else st.1.2.2.2.2.2 0 x
            rw [if_neg nn, g0, ul _ (by omega)]; rw [Nat.zero_add] at b0; exact b0
          · show _ = if x = st.1.1 then g else st.1.2.2.2.2.2 1 x
            rw [if_neg nn, g9 1 (by decide), ul _ (by omega)]; rw [Nat.zero_add] at b1; exact b1
          · show _ = if x = st.1.1 then w else st.1.2.2.2.2.2 2 x
            rw [if_neg nn, g9 2 (by decide), ul _ (by omega)]; rw [Nat.zero_add] at b2; exact b2
          · show _ = if x = st.1.1 then 0 else st.1.2.2.2.2.2 3 x
            rw [if_neg nn, g9 3 (by decide), ul _ (by omega)]; rw [Nat.zero_add] at b3; exact b3
    · have he : st.1.1 = 7 := (nI_eq (by omega) (by decide)).mp c
      rw [if_pos he]
      refine hd_go kX6_pack 999 (fun _ => rfl) rfl trivial ?_
      exact hd_en_ kX6_pack (fun _ => rfl) trivial ⟨rfl, fr.rf, hI⟩
  · rw [if_neg (hd_b0.mp q)]
    refine hd_go kX6_pack 999 (fun _ => rfl) rfl trivial ?_
    exact hd_en_ kX6_pack (fun _ => rfl) trivial ⟨rfl, fr.rf, hI⟩
set_option maxRecDepth 20000 in
/-- the row of now becomes the state -/
theorem r_se (M0 M : hd_M) (N : hd_N) (st : ab_T) (hI : RI M0 st) (hO : OK st) (hx : ∀ x, 33 ≤ x → x < 46 → M 53 x = M0 52 x) (h0 : fr nowF M0 M) (d : dy_T) (hd : rf M 53 0 d) (hn : d.1 ≤ 7) : hd_Ret mX6_settles [.ref 51] M N (fun r M1 N1 => r = none ∧ N1 = N ∧ fr refF M0 M1 ∧ RI M1 (d, st.2) ∧ rf M1 52 0 d) := by
  refine hd_Go.post ?_ (r_settles M N)
  rintro r M1 N1 ⟨rfl, rfl, hf, hy⟩
  have hf2 : fr (fun c j => (c = 52 ∧ j < 33) ∨ idR c j) M0 M1 := by
    intro c j hc
    have hc1 : ¬ (c = 52 ∧ j < 33) := fun z => hc (Or.inl z)
    have hc2 : ¬ c = 53 := fun z => hc (Or.inr (Or.inl z))
    by_cases e : c = 52 ∧ j < 46
    · obtain ⟨rfl, h46⟩ := e
      rw [hy j h46]
      exact hx j (by omega) h46
    · rw [hf c j e]
      exact h0 c j hc2
  have hd1 : rf M1 52 0 d := hd.pc hn hy
  refine ⟨rfl, rfl, hf2.mo (fun c j z => ?_), hI.day hO hf2 hd1, hd1⟩
  have z : (c = 52 ∧ j < 33) ∨ c = 53 ∨ c = 55 ∨ (57 ≤ c ∧ c ≤ 60) ∨ c = 64 ∨ (c = 51 ∧ _) := z
  show 51 ≤ c
  omega
set_option maxRecDepth 20000 in
theorem d_strap : rA mX6_strap [] an_strap := by
  intro M N st hI hO
  change hd_Go mX6_strap 0 [some (.ref 51), none] [] M N _
  have h7 := hO.1.1
  refine hd_go kX6_strap 999 (fun _ => rfl) rfl ⟨⟨trivial, v138 (n := 28) (by decide)⟩, v138 (n := 29) (by decide)⟩ ?_
  show hd_Go mX6_strap 17 [some (.ref 51), some (.int (M 52 28 - M 52 29))] [.ref 51] M N _
  rw [show M 52 28 = nI st.1.1 from hI.1.1, show M 52 29 = nI st.1.2.1 from hI.1.2.1]
  refine hd_ca kX6_strap qX6_strap (fun _ => rfl) (r_st M N _ hI.1 h7) ?_
  rintro r M1 N1 ⟨rfl, rfl, hf1, hd1, hx1⟩
  refine hd_go kX6_strap 999 (fun _ => rfl) rfl trivial ?_
  refine hd_ca kX6_strap qX6_strap (fun _ => rfl) (r_all M1 N1 _ hd1 h7) ?_
  rintro r M2 N2 ⟨rfl, rfl, hf2, hd2⟩
  refine hd_go kX6_strap 999 (fun _ => rfl) rfl trivial ?_
  refine hd_ca kX6_strap qX6_strap (fun _ => rfl) (r_se M M2 N2 st hI hO (fun x q1 q2 => ?_) (hf1.tr (hf2.mo (fun c j z => z.1))) _ hd2 h7) ?_
  · rw [hf2 53 x (by show ¬ (53 = 53 ∧ x < 33); omega)]; exact hx1 x q2
  rintro r M3 N3 ⟨rfl, rfl, hf3, hI3, -⟩
  refine hd_go kX6_strap 999 (fun _ => rfl) rfl trivial ?_
  exact hd_en_ kX6_strap (fun _ => rfl) trivial ⟨rfl, hf3, hI3⟩
set_option maxRecDepth 20000 in
theorem d_lift : rA mX6_lift [] an_lift := by
  intro M N st hI hO
  change hd_Go mX6_lift 0 [some (.ref 51)] [] M N _
  have h7 := hO.1.1
  obtain ⟨a5, a6, a7, a8, a9, b⟩ := id hI.1
  have a5 : M 52 28 = nI st.1.1 := a5
  have a6 : M 52 29 = nI st.1.2.1 := a6
  have bad : (st.1.1 = 0 ∨ ¬ dy_all st.1) → hd_Go mX6_lift 17 [some (.ref 51)] [] M N (fun r M1 _ => r = some (an_lift st).1 ∧ fr refF M M1 ∧ RI M1 (an_lift st).2) := by
    intro q
    refine hd_go kX6_lift 999 (fun _ => rfl) rfl trivial ?_
    refine hd_en_ kX6_lift (fun _ => rfl) trivial ?_
    unfold an_lift
    rw [if_pos q]
    exact ⟨rfl, fr.rf, hI⟩
  refine hd_go kX6_lift 999 (fun _ => rfl) rfl ⟨trivial, v138 (n := 28) (by decide)⟩ ?_
  show hd_Go mX6_lift 7 [some (.ref 51)] [.int (M 52 28)] M N _
  rw [a5]
  refine hd_ju kX6_lift (fun _ => rfl) (fun q => ?_) (fun q => ?_)
  · refine bad (Or.inl ?_)
    rcases Nat.eq_zero_or_pos st.1.1 with z | z
    · exact z
    · exact absurd q (nI_ne0 z (by omega))
  have hne : ¬ st.1.1 = 0 := fun z => q (by rw [z]; rfl)
  refine hd_go kX6_lift 999 (fun _ => rfl) rfl trivial ?_
  refine hd_ci kX6_lift qX6_lift (fun _ => rfl) (r_allIn M N st.1 hI.1 hO.1) ?_
  refine hd_ju kX6_lift (fun _ => rfl) (fun q => ?_) (fun q => bad (Or.inr (hd_b0.mp q)))
  have ha : st.1.2.1 = st.1.1 := hd_b1.mp q
  refine hd_go kX6_lift 999 (fun _ => rfl) rfl ⟨⟨⟨⟨⟨trivial, v138 (n := 28) (by decide)⟩, v138 (n := 28) (by decide)⟩, v138 (n := 29) (by decide)⟩, v138 (n := 29) (by decide)⟩, v138 (n := 28) (by decide)⟩ ?_
  rw [show Int32.toNatClampNeg 28 = 28 from rfl, show Int32.toNatClampNeg 29 = 29 from rfl]
  have e5 : M 52 28 - 1 = nI (st.1.1 - 1) := by
    rw [a5, show st.1.1 = (st.1.1 - 1) + 1 by omega, nI_pred]
    simp
  have e6 : M 52 29 - 1 = nI (st.1.1 - 1) := by
    rw [a6, ha, ← a5]; exact e5
  rw [hd_u_n (show ¬ (52 = 52 ∧ 29 = 28) by decide), e5, e6, hd_u_n (show ¬ (52 = 52 ∧ 28 = 29) by decide), hd_u_s]
  have hf : fr (fun c j => c = 52 ∧ j < 33) M (hd_u (hd_u M 52 28 (nI (st.1.1 - 1))) 52 29 (nI (st.1.1 - 1))) := (fr.rf.up (by decide)).up (by decide)
  refine hd_en_ kX6_lift (fun _ => rfl) trivial ?_
  unfold an_lift
  rw [if_neg (fun z => z.elim hne (fun z => z ha))]
  refine ⟨rfl, (dayR hf).1, hI.day hO (dayR hf).2 ?_⟩
  refine ⟨?_, ?_, ?_, ?_, ?_, fun x hx => ?_⟩
  · rw [hd_u_n (by omega), show 0 + 28 = 28 from rfl, hd_u_s]; rfl
  · rw [show 0 + 29 = 29 from rfl, hd_u_s]; rfl
  · rw [hd_u_n (by omega), hd_u_n (by omega)]; exact a7
  · rw [hd_u_n (by omega), hd_u_n (by omega)]; exact a8
  · rw [hd_u_n (by omega), hd_u_n (by omega)]; exact a9
  · have hx : x < st.1.1 - 1 := hx
    have q : ∀ j, j < 28 → hd_u (hd_u M 52 28 (nI (st.1.1 - 1))) 52 29 (nI (st.1.1 - 1)) 52 (0 + j) = M 52 (0 + j) := fun j hj => by rw [hd_u_n (by omega), hd_u_n (by omega)]
    rw [q _ (by omega), q _ (by omega), q _ (by omega), q _ (by omega)]
    exact b x (by omega)
set_option maxRecDepth 20000 in
theorem h999 (x : Int32) : ¬ 999 < x ↔ x < 1000 := by
  rw [Int32.lt_iff_toInt_lt, Int32.lt_iff_toInt_lt]
  have e1 : Int32.toInt 999 = 999 := rfl
  have e2 : Int32.toInt 1000 = 1000 := rfl
  omega
set_option maxRecDepth 20000 in
theorem d_hours (n : Int32) : rA mX6_hours [.int n] (an_hours n) := by
  intro M N st hI hO
  change hd_Go mX6_hours 0 [some (.ref 51), some (.int n)] [] M N _
  have h7 := hO.1.1
  refine hd_go kX6_hours 999 (fun _ => rfl) rfl trivial ?_
  refine hd_ci kX6_hours qX6_hours (fun _ => rfl) (r_in n 0 30 _ _ rfl rfl M N) ?_
  unfold an_hours
  refine hd_ju kX6_hours (fun _ => rfl) (fun q => ?_) (fun q => ?_)
  · have q := hd_b1.mp q
    obtain ⟨j, hj, rfl⟩ := wi_nat (n := 30) rfl q
    rw [if_pos q, nI_clamp (by omega)]
    refine hd_go kX6_hours 999 (fun _ => rfl) rfl ⟨trivial, v138 (n := 32) (by decide)⟩ ?_
    show hd_Go mX6_hours 26 [some (.ref 51), some (.int (nI j))] [.int 999, .int (M 52 32 + nI j)] M N _
    rw [show M 52 32 = st.1.2.2.2.2.1 from hI.1.2.2.2.2.1]
    refine hd_ju kX6_hours (fun _ => rfl) (fun c => ?_) (fun c => ?_)
    · rw [if_pos ((h999 _).mp (Int32.not_lt.mpr c))]
      refine hd_go kX6_hours 999 (fun _ => rfl) rfl trivial ?_
      refine hd_ca kX6_hours qX6_hours (fun _ => rfl) (r_st M N _ hI.1 h7) ?_
      rintro r M1 N1 ⟨rfl, rfl, hf1, hd1, hx1⟩
      refine hd_go kX6_hours 999 (fun _ => rfl) rfl trivial ?_
      refine hd_ca kX6_hours qX6_hours (fun _ => rfl) (r_hours0 M1 N1 _ hd1 hO.1 j (by omega)) ?_
      rintro r M2 N2 ⟨rfl, rfl, hf2, hd2⟩
      refine hd_go kX6_hours 999 (fun _ => rfl) rfl trivial ?_
      refine hd_ca kX6_hours qX6_hours (fun _ => rfl) (r_se M M2 N2 st hI hO (fun x q1 q2 => ?_) (hf1.tr (hf2.mo (fun c j z => z.1))) _ hd2 (dy_ok_hs j _ hO.1).1) ?_
      · rw [hf2 53 x (by show ¬ (53 = 53 ∧ x < 33); omega)]; exact hx1 x q2
      rintro r M3 N3 ⟨rfl, rfl, hf3, hI3, hd3⟩
      refine hd_go kX6_hours 999 (fun _ => rfl) rfl ⟨trivial, v138 (n := 30) (by decide)⟩ ?_
      exact hd_en_ kX6_hours (fun _ => rfl) trivial ⟨congrArg (fun x => some (Value.int x)) hd3.2.2.1, hf3, hI3⟩
    · rw [if_neg (fun z => (h999 _).mpr z (Int32.not_le.mp c))]
      refine hd_go kX6_hours 999 (fun _ => rfl) rfl trivial ?_
      exact hd_en_ kX6_hours (fun _ => rfl) trivial ⟨rfl, fr.rf, hI⟩
  · rw [if_neg (hd_b0.mp q)]
    refine hd_go kX6_hours 999 (fun _ => rfl) rfl trivial ?_
    exact hd_en_ kX6_hours (fun _ => rfl) trivial ⟨rfl, fr.rf, hI⟩
end
