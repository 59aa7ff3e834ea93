section
-- ===== PART A: goes FIRST, ahead of the names: the tables' words, and 'selects' of the private methods out of them =====
/-- a private method of a class that the tables say can be made, by its rows of tables_1 -/
def lw_okq (q : MethodName × Nat) : Prop := (q.1.cls ≠ "java/lang/invoke/MethodHandle" ∧ q.1.cls ≠ "java/lang/invoke/VarHandle") ∧ Cond.instantiable q.1.cls q.2 ∈ tables_1 ∧ Cond.privateMethod q.1 ∈ tables_1 ∧ Cond.instanceMethod q.1 ∈ tables_1
theorem lw_p0 : lw_okq (⟨"HamperDays$Tape", "takeToken", "()Z"⟩, 10) := ⟨⟨by decide +kernel, by decide +kernel⟩, List.mem_of_getElem? (i := 93) (by decide +kernel), List.mem_of_getElem? (i := 235) (by decide +kernel), List.mem_of_getElem? (i := 236) (by decide +kernel)⟩
theorem lw_p1 : lw_okq (⟨"HamperDays$Tape", "sortAt", "(I)I"⟩, 10) := ⟨⟨by decide +kernel, by decide +kernel⟩, List.mem_of_getElem? (i := 93) (by decide +kernel), List.mem_of_getElem? (i := 239) (by decide +kernel), List.mem_of_getElem? (i := 240) (by decide +kernel)⟩
theorem lw_p2 : lw_okq (⟨"HamperDays$Tape", "refuse", "(I)Z"⟩, 10) := ⟨⟨by decide +kernel, by decide +kernel⟩, List.mem_of_getElem? (i := 93) (by decide +kernel), List.mem_of_getElem? (i := 243) (by decide +kernel), List.mem_of_getElem? (i := 244) (by decide +kernel)⟩
theorem lw_p3 : lw_okq (⟨"HamperDays$Tape", "tellNumber", "()Z"⟩, 10) := ⟨⟨by decide +kernel, by decide +kernel⟩, List.mem_of_getElem? (i := 93) (by decide +kernel), List.mem_of_getElem? (i := 247) (by decide +kernel), List.mem_of_getElem? (i := 248) (by decide +kernel)⟩
theorem lw_p4 : lw_okq (⟨"HamperDays$Tape", "takeLine", "(LHamperDays$Hamper;)Z"⟩, 10) := ⟨⟨by decide +kernel, by decide +kernel⟩, List.mem_of_getElem? (i := 93) (by decide +kernel), List.mem_of_getElem? (i := 251) (by decide +kernel), List.mem_of_getElem? (i := 252) (by decide +kernel)⟩
theorem lw_p5 : lw_okq (⟨"HamperDays$Tape", "wordTaken", "()I"⟩, 10) := ⟨⟨by decide +kernel, by decide +kernel⟩, List.mem_of_getElem? (i := 93) (by decide +kernel), List.mem_of_getElem? (i := 255) (by decide +kernel), List.mem_of_getElem? (i := 256) (by decide +kernel)⟩
theorem lw_p6 : lw_okq (⟨"HamperDays$Tape", "isWord", "(Ljava/lang/String;)Z"⟩, 10) := ⟨⟨by decide +kernel, by decide +kernel⟩, List.mem_of_getElem? (i := 93) (by decide +kernel), List.mem_of_getElem? (i := 260) (by decide +kernel), List.mem_of_getElem? (i := 261) (by decide +kernel)⟩
theorem lw_p7 : lw_okq (⟨"HamperDays$Tape", "takeMood", "(LHamperDays$Hamper;)Z"⟩, 10) := ⟨⟨by decide +kernel, by decide +kernel⟩, List.mem_of_getElem? (i := 93) (by decide +kernel), List.mem_of_getElem? (i := 317) (by decide +kernel), List.mem_of_getElem? (i := 318) (by decide +kernel)⟩
theorem lw_p8 : lw_okq (⟨"HamperDays$Tape", "takeNumber", "(II)Z"⟩, 10) := ⟨⟨by decide +kernel, by decide +kernel⟩, List.mem_of_getElem? (i := 93) (by decide +kernel), List.mem_of_getElem? (i := 321) (by decide +kernel), List.mem_of_getElem? (i := 322) (by decide +kernel)⟩
theorem lw_p9 : lw_okq (⟨"HamperDays$Tape", "takeStop", "()Z"⟩, 10) := ⟨⟨by decide +kernel, by decide +kernel⟩, List.mem_of_getElem? (i := 93) (by decide +kernel), List.mem_of_getElem? (i := 326) (by decide +kernel), List.mem_of_getElem? (i := 327) (by decide +kernel)⟩
theorem lw_p10 : lw_okq (⟨"HamperDays$Tape", "takeTire", "(LHamperDays$Hamper;)Z"⟩, 10) := ⟨⟨by decide +kernel, by decide +kernel⟩, List.mem_of_getElem? (i := 93) (by decide +kernel), List.mem_of_getElem? (i := 330) (by decide +kernel), List.mem_of_getElem? (i := 331) (by decide +kernel)⟩
theorem lw_p11 : lw_okq (⟨"HamperDays$Tape", "takeThing", "(LHamperDays$Hamper;I)Z"⟩, 10) := ⟨⟨by decide +kernel, by decide +kernel⟩, List.mem_of_getElem? (i := 93) (by decide +kernel), List.mem_of_getElem? (i := 334) (by decide +kernel), List.mem_of_getElem? (i := 335) (by decide +kernel)⟩
theorem lw_p12 : lw_okq (⟨"HamperDays$Hamper", "copyDayOf", "(LHamperDays$Hamper;)V"⟩, 10) := ⟨⟨by decide +kernel, by decide +kernel⟩, List.mem_of_getElem? (i := 24) (by decide +kernel), List.mem_of_getElem? (i := 346) (by decide +kernel), List.mem_of_getElem? (i := 347) (by decide +kernel)⟩
theorem lw_p13 : lw_okq (⟨"HamperDays$Hamper", "copyThing", "(ILHamperDays$Hamper;I)V"⟩, 10) := ⟨⟨by decide +kernel, by decide +kernel⟩, List.mem_of_getElem? (i := 24) (by decide +kernel), List.mem_of_getElem? (i := 350) (by decide +kernel), List.mem_of_getElem? (i := 351) (by decide +kernel)⟩
theorem lw_p14 : lw_okq (⟨"HamperDays", "isThing", "(I)Z"⟩, 10) := ⟨⟨by decide +kernel, by decide +kernel⟩, List.mem_of_getElem? (i := 16) (by decide +kernel), List.mem_of_getElem? (i := 386) (by decide +kernel), List.mem_of_getElem? (i := 387) (by decide +kernel)⟩
theorem lw_p15 : lw_okq (⟨"HamperDays$Hamper", "cheersUnder", "(II)I"⟩, 10) := ⟨⟨by decide +kernel, by decide +kernel⟩, List.mem_of_getElem? (i := 24) (by decide +kernel), List.mem_of_getElem? (i := 396) (by decide +kernel), List.mem_of_getElem? (i := 397) (by decide +kernel)⟩
def lw_privs_1 : List (MethodName × Nat) := [(⟨"HamperDays$Tape", "takeToken", "()Z"⟩, 10), (⟨"HamperDays$Tape", "sortAt", "(I)I"⟩, 10), (⟨"HamperDays$Tape", "refuse", "(I)Z"⟩, 10), (⟨"HamperDays$Tape", "tellNumber", "()Z"⟩, 10), (⟨"HamperDays$Tape", "takeLine", "(LHamperDays$Hamper;)Z"⟩, 10), (⟨"HamperDays$Tape", "wordTaken", "()I"⟩, 10), (⟨"HamperDays$Tape", "isWord", "(Ljava/lang/String;)Z"⟩, 10), (⟨"HamperDays$Tape", "takeMood", "(LHamperDays$Hamper;)Z"⟩, 10), (⟨"HamperDays$Tape", "takeNumber", "(II)Z"⟩, 10), (⟨"HamperDays$Tape", "takeStop", "()Z"⟩, 10), (⟨"HamperDays$Tape", "takeTire", "(LHamperDays$Hamper;)Z"⟩, 10), (⟨"HamperDays$Tape", "takeThing", "(LHamperDays$Hamper;I)Z"⟩, 10), (⟨"HamperDays$Hamper", "copyDayOf", "(LHamperDays$Hamper;)V"⟩, 10), (⟨"HamperDays$Hamper", "copyThing", "(ILHamperDays$Hamper;I)V"⟩, 10), (⟨"HamperDays", "isThing", "(I)Z"⟩, 10), (⟨"HamperDays$Hamper", "cheersUnder", "(II)I"⟩, 10)]
theorem lw_r1 : ∀ q ∈ lw_privs_1, lw_okq q := List.forall_mem_cons.mpr ⟨lw_p0, List.forall_mem_cons.mpr ⟨lw_p1, List.forall_mem_cons.mpr ⟨lw_p2, List.forall_mem_cons.mpr ⟨lw_p3, List.forall_mem_cons.mpr ⟨lw_p4, List.forall_mem_cons.mpr ⟨lw_p5, List.forall_mem_cons.mpr ⟨lw_p6, List.forall_mem_cons.mpr ⟨lw_p7, List.forall_mem_cons.mpr ⟨lw_p8, List.forall_mem_cons.mpr ⟨lw_p9, List.forall_mem_cons.mpr ⟨lw_p10, List.forall_mem_cons.mpr ⟨lw_p11, List.forall_mem_cons.mpr ⟨lw_p12, List.forall_mem_cons.mpr ⟨lw_p13, List.forall_mem_cons.mpr ⟨lw_p14, List.forall_mem_cons.mpr ⟨lw_p15, fun _ h => absurd h List.not_mem_nil⟩⟩⟩⟩⟩⟩⟩⟩⟩⟩⟩⟩⟩⟩⟩⟩
theorem lw_p16 : lw_okq (⟨"HamperDays$Hamper", "lastsOf", "(I)I"⟩, 10) := ⟨⟨by decide +kernel, by decide +kernel⟩, List.mem_of_getElem? (i := 24) (by decide +kernel), List.mem_of_getElem? (i := 463) (by decide +kernel), List.mem_of_getElem? (i := 464) (by decide +kernel)⟩
theorem lw_p17 : lw_okq (⟨"HamperDays", "moodBehind", "(I)I"⟩, 10) := ⟨⟨by decide +kernel, by decide +kernel⟩, List.mem_of_getElem? (i := 16) (by decide +kernel), List.mem_of_getElem? (i := 480) (by decide +kernel), List.mem_of_getElem? (i := 481) (by decide +kernel)⟩
theorem lw_p18 : lw_okq (⟨"HamperDays", "utmostMood", "(IZ)I"⟩, 10) := ⟨⟨by decide +kernel, by decide +kernel⟩, List.mem_of_getElem? (i := 16) (by decide +kernel), List.mem_of_getElem? (i := 484) (by decide +kernel), List.mem_of_getElem? (i := 485) (by decide +kernel)⟩
theorem lw_p19 : lw_okq (⟨"HamperDays", "startTrial", "()V"⟩, 10) := ⟨⟨by decide +kernel, by decide +kernel⟩, List.mem_of_getElem? (i := 16) (by decide +kernel), List.mem_of_getElem? (i := 488) (by decide +kernel), List.mem_of_getElem? (i := 489) (by decide +kernel)⟩
theorem lw_p20 : lw_okq (⟨"HamperDays", "outBehind", "(I)I"⟩, 10) := ⟨⟨by decide +kernel, by decide +kernel⟩, List.mem_of_getElem? (i := 16) (by decide +kernel), List.mem_of_getElem? (i := 496) (by decide +kernel), List.mem_of_getElem? (i := 497) (by decide +kernel)⟩
theorem lw_p21 : lw_okq (⟨"HamperDays", "firstAtZero", "(I)I"⟩, 10) := ⟨⟨by decide +kernel, by decide +kernel⟩, List.mem_of_getElem? (i := 16) (by decide +kernel), List.mem_of_getElem? (i := 500) (by decide +kernel), List.mem_of_getElem? (i := 501) (by decide +kernel)⟩
theorem lw_p22 : lw_okq (⟨"HamperDays", "findBestRow", "()I"⟩, 10) := ⟨⟨by decide +kernel, by decide +kernel⟩, List.mem_of_getElem? (i := 16) (by decide +kernel), List.mem_of_getElem? (i := 520) (by decide +kernel), List.mem_of_getElem? (i := 521) (by decide +kernel)⟩
theorem lw_p23 : lw_okq (⟨"HamperDays", "stepRow", "(I)Z"⟩, 10) := ⟨⟨by decide +kernel, by decide +kernel⟩, List.mem_of_getElem? (i := 16) (by decide +kernel), List.mem_of_getElem? (i := 531) (by decide +kernel), List.mem_of_getElem? (i := 532) (by decide +kernel)⟩
theorem lw_p24 : lw_okq (⟨"HamperDays", "exchangeInRow", "(II)V"⟩, 10) := ⟨⟨by decide +kernel, by decide +kernel⟩, List.mem_of_getElem? (i := 16) (by decide +kernel), List.mem_of_getElem? (i := 535) (by decide +kernel), List.mem_of_getElem? (i := 536) (by decide +kernel)⟩
theorem lw_p25 : lw_okq (⟨"HamperDays", "bestOfOne", "(IIZ)I"⟩, 10) := ⟨⟨by decide +kernel, by decide +kernel⟩, List.mem_of_getElem? (i := 16) (by decide +kernel), List.mem_of_getElem? (i := 543) (by decide +kernel), List.mem_of_getElem? (i := 544) (by decide +kernel)⟩
theorem lw_p26 : lw_okq (⟨"HamperDays", "moodWith", "(IIII)I"⟩, 10) := ⟨⟨by decide +kernel, by decide +kernel⟩, List.mem_of_getElem? (i := 16) (by decide +kernel), List.mem_of_getElem? (i := 580) (by decide +kernel), List.mem_of_getElem? (i := 581) (by decide +kernel)⟩
theorem lw_p27 : lw_okq (⟨"HamperDays", "moodUnderLids", "(II)I"⟩, 10) := ⟨⟨by decide +kernel, by decide +kernel⟩, List.mem_of_getElem? (i := 16) (by decide +kernel), List.mem_of_getElem? (i := 600) (by decide +kernel), List.mem_of_getElem? (i := 601) (by decide +kernel)⟩
theorem lw_p28 : lw_okq (⟨"HamperDays", "traitsAsSeen", "(III)I"⟩, 10) := ⟨⟨by decide +kernel, by decide +kernel⟩, List.mem_of_getElem? (i := 16) (by decide +kernel), List.mem_of_getElem? (i := 630) (by decide +kernel), List.mem_of_getElem? (i := 631) (by decide +kernel)⟩
theorem lw_p29 : lw_okq (⟨"HamperDays", "isAsSeen", "(III)Z"⟩, 10) := ⟨⟨by decide +kernel, by decide +kernel⟩, List.mem_of_getElem? (i := 16) (by decide +kernel), List.mem_of_getElem? (i := 634) (by decide +kernel), List.mem_of_getElem? (i := 635) (by decide +kernel)⟩
theorem lw_p30 : lw_okq (⟨"HamperDays", "fillLooks", "(II)V"⟩, 10) := ⟨⟨by decide +kernel, by decide +kernel⟩, List.mem_of_getElem? (i := 16) (by decide +kernel), List.mem_of_getElem? (i := 646) (by decide +kernel), List.mem_of_getElem? (i := 647) (by decide +kernel)⟩
theorem lw_p31 : lw_okq (⟨"HamperDays", "mostAlike", "(II)I"⟩, 10) := ⟨⟨by decide +kernel, by decide +kernel⟩, List.mem_of_getElem? (i := 16) (by decide +kernel), List.mem_of_getElem? (i := 656) (by decide +kernel), List.mem_of_getElem? (i := 657) (by decide +kernel)⟩
def lw_privs_2 : List (MethodName × Nat) := [(⟨"HamperDays$Hamper", "lastsOf", "(I)I"⟩, 10), (⟨"HamperDays", "moodBehind", "(I)I"⟩, 10), (⟨"HamperDays", "utmostMood", "(IZ)I"⟩, 10), (⟨"HamperDays", "startTrial", "()V"⟩, 10), (⟨"HamperDays", "outBehind", "(I)I"⟩, 10), (⟨"HamperDays", "firstAtZero", "(I)I"⟩, 10), (⟨"HamperDays", "findBestRow", "()I"⟩, 10), (⟨"HamperDays", "stepRow", "(I)Z"⟩, 10), (⟨"HamperDays", "exchangeInRow", "(II)V"⟩, 10), (⟨"HamperDays", "bestOfOne", "(IIZ)I"⟩, 10), (⟨"HamperDays", "moodWith", "(IIII)I"⟩, 10), (⟨"HamperDays", "moodUnderLids", "(II)I"⟩, 10), (⟨"HamperDays", "traitsAsSeen", "(III)I"⟩, 10), (⟨"HamperDays", "isAsSeen", "(III)Z"⟩, 10), (⟨"HamperDays", "fillLooks", "(II)V"⟩, 10), (⟨"HamperDays", "mostAlike", "(II)I"⟩, 10)]
theorem lw_r2 : ∀ q ∈ lw_privs_2, lw_okq q := List.forall_mem_cons.mpr ⟨lw_p16, List.forall_mem_cons.mpr ⟨lw_p17, List.forall_mem_cons.mpr ⟨lw_p18, List.forall_mem_cons.mpr ⟨lw_p19, List.forall_mem_cons.mpr ⟨lw_p20, List.forall_mem_cons.mpr ⟨lw_p21, List.forall_mem_cons.mpr ⟨lw_p22, List.forall_mem_cons.mpr ⟨lw_p23, List.forall_mem_cons.mpr ⟨lw_p24, List.forall_mem_cons.mpr ⟨lw_p25, List.forall_mem_cons.mpr ⟨lw_p26, List.forall_mem_cons.mpr ⟨lw_p27, List.forall_mem_cons.mpr ⟨lw_p28, List.forall_mem_cons.mpr ⟨lw_p29, List.forall_mem_cons.mpr ⟨lw_p30, List.forall_mem_cons.mpr ⟨lw_p31, fun _ h => absurd h List.not_mem_nil⟩⟩⟩⟩⟩⟩⟩⟩⟩⟩⟩⟩⟩⟩⟩⟩
theorem lw_p32 : lw_okq (⟨"HamperDays", "alikeWith", "(III)I"⟩, 10) := ⟨⟨by decide +kernel, by decide +kernel⟩, List.mem_of_getElem? (i := 16) (by decide +kernel), List.mem_of_getElem? (i := 660) (by decide +kernel), List.mem_of_getElem? (i := 661) (by decide +kernel)⟩
theorem lw_p33 : lw_okq (⟨"HamperDays", "imagesMade", "()I"⟩, 10) := ⟨⟨by decide +kernel, by decide +kernel⟩, List.mem_of_getElem? (i := 16) (by decide +kernel), List.mem_of_getElem? (i := 730) (by decide +kernel), List.mem_of_getElem? (i := 731) (by decide +kernel)⟩
theorem lw_p34 : lw_okq (⟨"HamperDaysModel", "firstDraft", "()V"⟩, 28) := ⟨⟨by decide +kernel, by decide +kernel⟩, List.mem_of_getElem? (i := 738) (by decide +kernel), List.mem_of_getElem? (i := 744) (by decide +kernel), List.mem_of_getElem? (i := 745) (by decide +kernel)⟩
theorem lw_p35 : lw_okq (⟨"HamperDaysModel", "keepDraft", "()V"⟩, 28) := ⟨⟨by decide +kernel, by decide +kernel⟩, List.mem_of_getElem? (i := 738) (by decide +kernel), List.mem_of_getElem? (i := 748) (by decide +kernel), List.mem_of_getElem? (i := 749) (by decide +kernel)⟩
theorem lw_p36 : lw_okq (⟨"HamperDaysModel", "reads", "()V"⟩, 28) := ⟨⟨by decide +kernel, by decide +kernel⟩, List.mem_of_getElem? (i := 738) (by decide +kernel), List.mem_of_getElem? (i := 854) (by decide +kernel), List.mem_of_getElem? (i := 855) (by decide +kernel)⟩
theorem lw_p37 : lw_okq (⟨"HamperDaysModel", "byteAt", "(I)I"⟩, 28) := ⟨⟨by decide +kernel, by decide +kernel⟩, List.mem_of_getElem? (i := 738) (by decide +kernel), List.mem_of_getElem? (i := 858) (by decide +kernel), List.mem_of_getElem? (i := 859) (by decide +kernel)⟩
theorem lw_p38 : lw_okq (⟨"HamperDaysModel", "requires", "(ZI)V"⟩, 28) := ⟨⟨by decide +kernel, by decide +kernel⟩, List.mem_of_getElem? (i := 738) (by decide +kernel), List.mem_of_getElem? (i := 866) (by decide +kernel), List.mem_of_getElem? (i := 867) (by decide +kernel)⟩
theorem lw_p39 : lw_okq (⟨"HamperDaysModel", "readLine", "()V"⟩, 28) := ⟨⟨by decide +kernel, by decide +kernel⟩, List.mem_of_getElem? (i := 738) (by decide +kernel), List.mem_of_getElem? (i := 870) (by decide +kernel), List.mem_of_getElem? (i := 871) (by decide +kernel)⟩
theorem lw_p40 : lw_okq (⟨"HamperDaysModel", "lineNow", "()I"⟩, 28) := ⟨⟨by decide +kernel, by decide +kernel⟩, List.mem_of_getElem? (i := 738) (by decide +kernel), List.mem_of_getElem? (i := 874) (by decide +kernel), List.mem_of_getElem? (i := 875) (by decide +kernel)⟩
theorem lw_p41 : lw_okq (⟨"HamperDaysModel", "is", "(IIIII)Z"⟩, 28) := ⟨⟨by decide +kernel, by decide +kernel⟩, List.mem_of_getElem? (i := 738) (by decide +kernel), List.mem_of_getElem? (i := 878) (by decide +kernel), List.mem_of_getElem? (i := 879) (by decide +kernel)⟩
theorem lw_p42 : lw_okq (⟨"HamperDaysModel", "endsIn", "(II)Z"⟩, 28) := ⟨⟨by decide +kernel, by decide +kernel⟩, List.mem_of_getElem? (i := 738) (by decide +kernel), List.mem_of_getElem? (i := 882) (by decide +kernel), List.mem_of_getElem? (i := 883) (by decide +kernel)⟩
theorem lw_p43 : lw_okq (⟨"HamperDaysModel", "readLineOf", "(I)V"⟩, 28) := ⟨⟨by decide +kernel, by decide +kernel⟩, List.mem_of_getElem? (i := 738) (by decide +kernel), List.mem_of_getElem? (i := 886) (by decide +kernel), List.mem_of_getElem? (i := 887) (by decide +kernel)⟩
theorem lw_p44 : lw_okq (⟨"HamperDaysModel", "readNumber", "(II)I"⟩, 28) := ⟨⟨by decide +kernel, by decide +kernel⟩, List.mem_of_getElem? (i := 738) (by decide +kernel), List.mem_of_getElem? (i := 890) (by decide +kernel), List.mem_of_getElem? (i := 891) (by decide +kernel)⟩
theorem lw_p45 : lw_okq (⟨"HamperDaysModel", "starts", "()V"⟩, 28) := ⟨⟨by decide +kernel, by decide +kernel⟩, List.mem_of_getElem? (i := 738) (by decide +kernel), List.mem_of_getElem? (i := 902) (by decide +kernel), List.mem_of_getElem? (i := 903) (by decide +kernel)⟩
theorem lw_p46 : lw_okq (⟨"HamperDaysModel", "isCrushed", "(I)Z"⟩, 28) := ⟨⟨by decide +kernel, by decide +kernel⟩, List.mem_of_getElem? (i := 738) (by decide +kernel), List.mem_of_getElem? (i := 906) (by decide +kernel), List.mem_of_getElem? (i := 907) (by decide +kernel)⟩
theorem lw_p47 : lw_okq (⟨"HamperDaysModel", "laidOn", "(I)I"⟩, 28) := ⟨⟨by decide +kernel, by decide +kernel⟩, List.mem_of_getElem? (i := 738) (by decide +kernel), List.mem_of_getElem? (i := 910) (by decide +kernel), List.mem_of_getElem? (i := 911) (by decide +kernel)⟩
def lw_privs_3 : List (MethodName × Nat) := [(⟨"HamperDays", "alikeWith", "(III)I"⟩, 10), (⟨"HamperDays", "imagesMade", "()I"⟩, 10), (⟨"HamperDaysModel", "firstDraft", "()V"⟩, 28), (⟨"HamperDaysModel", "keepDraft", "()V"⟩, 28), (⟨"HamperDaysModel", "reads", "()V"⟩, 28), (⟨"HamperDaysModel", "byteAt", "(I)I"⟩, 28), (⟨"HamperDaysModel", "requires", "(ZI)V"⟩, 28), (⟨"HamperDaysModel", "readLine", "()V"⟩, 28), (⟨"HamperDaysModel", "lineNow", "()I"⟩, 28), (⟨"HamperDaysModel", "is", "(IIIII)Z"⟩, 28), (⟨"HamperDaysModel", "endsIn", "(II)Z"⟩, 28), (⟨"HamperDaysModel", "readLineOf", "(I)V"⟩, 28), (⟨"HamperDaysModel", "readNumber", "(II)I"⟩, 28), (⟨"HamperDaysModel", "starts", "()V"⟩, 28), (⟨"HamperDaysModel", "isCrushed", "(I)Z"⟩, 28), (⟨"HamperDaysModel", "laidOn", "(I)I"⟩, 28)]
theorem lw_r3 : ∀ q ∈ lw_privs_3, lw_okq q := List.forall_mem_cons.mpr ⟨lw_p32, List.forall_mem_cons.mpr ⟨lw_p33, List.forall_mem_cons.mpr ⟨lw_p34, List.forall_mem_cons.mpr ⟨lw_p35, List.forall_mem_cons.mpr ⟨lw_p36, List.forall_mem_cons.mpr ⟨lw_p37, List.forall_mem_cons.mpr ⟨lw_p38, List.forall_mem_cons.mpr ⟨lw_p39, List.forall_mem_cons.mpr ⟨lw_p40, List.forall_mem_cons.mpr ⟨lw_p41, List.forall_mem_cons.mpr ⟨lw_p42, List.forall_mem_cons.mpr ⟨lw_p43, List.forall_mem_cons.mpr ⟨lw_p44, List.forall_mem_cons.mpr ⟨lw_p45, List.forall_mem_cons.mpr ⟨lw_p46, List.forall_mem_cons.mpr ⟨lw_p47, fun _ h => absurd h List.not_mem_nil⟩⟩⟩⟩⟩⟩⟩⟩⟩⟩⟩⟩⟩⟩⟩⟩
theorem lw_p48 : lw_okq (⟨"HamperDaysModel", "of", "(II)I"⟩, 28) := ⟨⟨by decide +kernel, by decide +kernel⟩, List.mem_of_getElem? (i := 738) (by decide +kernel), List.mem_of_getElem? (i := 914) (by decide +kernel), List.mem_of_getElem? (i := 915) (by decide +kernel)⟩
theorem lw_p49 : lw_okq (⟨"HamperDaysModel", "bears", "(I)I"⟩, 28) := ⟨⟨by decide +kernel, by decide +kernel⟩, List.mem_of_getElem? (i := 738) (by decide +kernel), List.mem_of_getElem? (i := 918) (by decide +kernel), List.mem_of_getElem? (i := 919) (by decide +kernel)⟩
theorem lw_p50 : lw_okq (⟨"HamperDaysModel", "outNow", "()I"⟩, 28) := ⟨⟨by decide +kernel, by decide +kernel⟩, List.mem_of_getElem? (i := 738) (by decide +kernel), List.mem_of_getElem? (i := 925) (by decide +kernel), List.mem_of_getElem? (i := 926) (by decide +kernel)⟩
theorem lw_p51 : lw_okq (⟨"HamperDaysModel", "isThing", "(I)Z"⟩, 28) := ⟨⟨by decide +kernel, by decide +kernel⟩, List.mem_of_getElem? (i := 738) (by decide +kernel), List.mem_of_getElem? (i := 933) (by decide +kernel), List.mem_of_getElem? (i := 934) (by decide +kernel)⟩
theorem lw_p52 : lw_okq (⟨"HamperDaysModel", "cheers", "(I)I"⟩, 28) := ⟨⟨by decide +kernel, by decide +kernel⟩, List.mem_of_getElem? (i := 738) (by decide +kernel), List.mem_of_getElem? (i := 937) (by decide +kernel), List.mem_of_getElem? (i := 938) (by decide +kernel)⟩
theorem lw_p53 : lw_okq (⟨"HamperDaysModel", "becomes", "(II)I"⟩, 28) := ⟨⟨by decide +kernel, by decide +kernel⟩, List.mem_of_getElem? (i := 738) (by decide +kernel), List.mem_of_getElem? (i := 947) (by decide +kernel), List.mem_of_getElem? (i := 948) (by decide +kernel)⟩
theorem lw_p54 : lw_okq (⟨"HamperDaysModel", "allAreIn", "()Z"⟩, 28) := ⟨⟨by decide +kernel, by decide +kernel⟩, List.mem_of_getElem? (i := 738) (by decide +kernel), List.mem_of_getElem? (i := 967) (by decide +kernel), List.mem_of_getElem? (i := 968) (by decide +kernel)⟩
theorem lw_p55 : lw_okq (⟨"HamperDaysModel", "allGoIn", "()V"⟩, 28) := ⟨⟨by decide +kernel, by decide +kernel⟩, List.mem_of_getElem? (i := 738) (by decide +kernel), List.mem_of_getElem? (i := 975) (by decide +kernel), List.mem_of_getElem? (i := 976) (by decide +kernel)⟩
theorem lw_p56 : lw_okq (⟨"HamperDaysModel", "becomesOf", "(III)V"⟩, 28) := ⟨⟨by decide +kernel, by decide +kernel⟩, List.mem_of_getElem? (i := 738) (by decide +kernel), List.mem_of_getElem? (i := 979) (by decide +kernel), List.mem_of_getElem? (i := 980) (by decide +kernel)⟩
theorem lw_p57 : lw_okq (⟨"HamperDaysModel", "settles", "()V"⟩, 28) := ⟨⟨by decide +kernel, by decide +kernel⟩, List.mem_of_getElem? (i := 738) (by decide +kernel), List.mem_of_getElem? (i := 983) (by decide +kernel), List.mem_of_getElem? (i := 984) (by decide +kernel)⟩
theorem lw_p58 : lw_okq (⟨"HamperDaysModel", "hoursGo", "(I)V"⟩, 28) := ⟨⟨by decide +kernel, by decide +kernel⟩, List.mem_of_getElem? (i := 738) (by decide +kernel), List.mem_of_getElem? (i := 996) (by decide +kernel), List.mem_of_getElem? (i := 997) (by decide +kernel)⟩
theorem lw_p59 : lw_okq (⟨"HamperDaysModel", "hourGoes", "(Z)V"⟩, 28) := ⟨⟨by decide +kernel, by decide +kernel⟩, List.mem_of_getElem? (i := 738) (by decide +kernel), List.mem_of_getElem? (i := 1000) (by decide +kernel), List.mem_of_getElem? (i := 1001) (by decide +kernel)⟩
theorem lw_p60 : lw_okq (⟨"HamperDaysModel", "lasts", "(I)I"⟩, 28) := ⟨⟨by decide +kernel, by decide +kernel⟩, List.mem_of_getElem? (i := 738) (by decide +kernel), List.mem_of_getElem? (i := 1004) (by decide +kernel), List.mem_of_getElem? (i := 1005) (by decide +kernel)⟩
theorem lw_p61 : lw_okq (⟨"HamperDaysModel", "isGone", "(I)Z"⟩, 28) := ⟨⟨by decide +kernel, by decide +kernel⟩, List.mem_of_getElem? (i := 738) (by decide +kernel), List.mem_of_getElem? (i := 1021) (by decide +kernel), List.mem_of_getElem? (i := 1022) (by decide +kernel)⟩
theorem lw_p62 : lw_okq (⟨"HamperDaysModel", "findOrder", "()I"⟩, 28) := ⟨⟨by decide +kernel, by decide +kernel⟩, List.mem_of_getElem? (i := 738) (by decide +kernel), List.mem_of_getElem? (i := 1035) (by decide +kernel), List.mem_of_getElem? (i := 1036) (by decide +kernel)⟩
theorem lw_p63 : lw_okq (⟨"HamperDaysModel", "startsJudging", "(I)V"⟩, 28) := ⟨⟨by decide +kernel, by decide +kernel⟩, List.mem_of_getElem? (i := 738) (by decide +kernel), List.mem_of_getElem? (i := 1039) (by decide +kernel), List.mem_of_getElem? (i := 1040) (by decide +kernel)⟩
def lw_privs_4 : List (MethodName × Nat) := [(⟨"HamperDaysModel", "of", "(II)I"⟩, 28), (⟨"HamperDaysModel", "bears", "(I)I"⟩, 28), (⟨"HamperDaysModel", "outNow", "()I"⟩, 28), (⟨"HamperDaysModel", "isThing", "(I)Z"⟩, 28), (⟨"HamperDaysModel", "cheers", "(I)I"⟩, 28), (⟨"HamperDaysModel", "becomes", "(II)I"⟩, 28), (⟨"HamperDaysModel", "allAreIn", "()Z"⟩, 28), (⟨"HamperDaysModel", "allGoIn", "()V"⟩, 28), (⟨"HamperDaysModel", "becomesOf", "(III)V"⟩, 28), (⟨"HamperDaysModel", "settles", "()V"⟩, 28), (⟨"HamperDaysModel", "hoursGo", "(I)V"⟩, 28), (⟨"HamperDaysModel", "hourGoes", "(Z)V"⟩, 28), (⟨"HamperDaysModel", "lasts", "(I)I"⟩, 28), (⟨"HamperDaysModel", "isGone", "(I)Z"⟩, 28), (⟨"HamperDaysModel", "findOrder", "()I"⟩, 28), (⟨"HamperDaysModel", "startsJudging", "(I)V"⟩, 28)]
theorem lw_r4 : ∀ q ∈ lw_privs_4, lw_okq q := List.forall_mem_cons.mpr ⟨lw_p48, List.forall_mem_cons.mpr ⟨lw_p49, List.forall_mem_cons.mpr ⟨lw_p50, List.forall_mem_cons.mpr ⟨lw_p51, List.forall_mem_cons.mpr ⟨lw_p52, List.forall_mem_cons.mpr ⟨lw_p53, List.forall_mem_cons.mpr ⟨lw_p54, List.forall_mem_cons.mpr ⟨lw_p55, List.forall_mem_cons.mpr ⟨lw_p56, List.forall_mem_cons.mpr ⟨lw_p57, List.forall_mem_cons.mpr ⟨lw_p58, List.forall_mem_cons.mpr ⟨lw_p59, List.forall_mem_cons.mpr ⟨lw_p60, List.forall_mem_cons.mpr ⟨lw_p61, List.forall_mem_cons.mpr ⟨lw_p62, List.forall_mem_cons.mpr ⟨lw_p63, fun _ h => absurd h List.not_mem_nil⟩⟩⟩⟩⟩⟩⟩⟩⟩⟩⟩⟩⟩⟩⟩⟩
theorem lw_p64 : lw_okq (⟨"HamperDaysModel", "isRow", "(I)Z"⟩, 28) := ⟨⟨by decide +kernel, by decide +kernel⟩, List.mem_of_getElem? (i := 738) (by decide +kernel), List.mem_of_getElem? (i := 1043) (by decide +kernel), List.mem_of_getElem? (i := 1044) (by decide +kernel)⟩
theorem lw_p65 : lw_okq (⟨"HamperDaysModel", "lays", "(II)V"⟩, 28) := ⟨⟨by decide +kernel, by decide +kernel⟩, List.mem_of_getElem? (i := 738) (by decide +kernel), List.mem_of_getElem? (i := 1047) (by decide +kernel), List.mem_of_getElem? (i := 1048) (by decide +kernel)⟩
theorem lw_p66 : lw_okq (⟨"HamperDaysModel", "moodBehind", "(I)I"⟩, 28) := ⟨⟨by decide +kernel, by decide +kernel⟩, List.mem_of_getElem? (i := 738) (by decide +kernel), List.mem_of_getElem? (i := 1051) (by decide +kernel), List.mem_of_getElem? (i := 1052) (by decide +kernel)⟩
theorem lw_p67 : lw_okq (⟨"HamperDaysModel", "judges", "(II)V"⟩, 28) := ⟨⟨by decide +kernel, by decide +kernel⟩, List.mem_of_getElem? (i := 738) (by decide +kernel), List.mem_of_getElem? (i := 1055) (by decide +kernel), List.mem_of_getElem? (i := 1056) (by decide +kernel)⟩
theorem lw_p68 : lw_okq (⟨"HamperDaysModel", "closes", "(I)V"⟩, 28) := ⟨⟨by decide +kernel, by decide +kernel⟩, List.mem_of_getElem? (i := 738) (by decide +kernel), List.mem_of_getElem? (i := 1066) (by decide +kernel), List.mem_of_getElem? (i := 1067) (by decide +kernel)⟩
theorem lw_p69 : lw_okq (⟨"HamperDaysModel", "judged", "(I)I"⟩, 28) := ⟨⟨by decide +kernel, by decide +kernel⟩, List.mem_of_getElem? (i := 738) (by decide +kernel), List.mem_of_getElem? (i := 1070) (by decide +kernel), List.mem_of_getElem? (i := 1071) (by decide +kernel)⟩
theorem lw_p70 : lw_okq (⟨"HamperDaysModel", "findOdds", "(III)V"⟩, 28) := ⟨⟨by decide +kernel, by decide +kernel⟩, List.mem_of_getElem? (i := 738) (by decide +kernel), List.mem_of_getElem? (i := 1100) (by decide +kernel), List.mem_of_getElem? (i := 1101) (by decide +kernel)⟩
theorem lw_p71 : lw_okq (⟨"HamperDaysModel", "which", "(II)I"⟩, 28) := ⟨⟨by decide +kernel, by decide +kernel⟩, List.mem_of_getElem? (i := 738) (by decide +kernel), List.mem_of_getElem? (i := 1127) (by decide +kernel), List.mem_of_getElem? (i := 1128) (by decide +kernel)⟩
theorem lw_p72 : lw_okq (⟨"HamperDaysModel", "isSoWith", "(II)Z"⟩, 28) := ⟨⟨by decide +kernel, by decide +kernel⟩, List.mem_of_getElem? (i := 738) (by decide +kernel), List.mem_of_getElem? (i := 1131) (by decide +kernel), List.mem_of_getElem? (i := 1132) (by decide +kernel)⟩
theorem lw_p73 : lw_okq (⟨"HamperDaysModel", "copies", "(II)V"⟩, 28) := ⟨⟨by decide +kernel, by decide +kernel⟩, List.mem_of_getElem? (i := 738) (by decide +kernel), List.mem_of_getElem? (i := 1152) (by decide +kernel), List.mem_of_getElem? (i := 1153) (by decide +kernel)⟩
theorem lw_p74 : lw_okq (⟨"HamperDaysModel", "sumOf", "(I)I"⟩, 28) := ⟨⟨by decide +kernel, by decide +kernel⟩, List.mem_of_getElem? (i := 738) (by decide +kernel), List.mem_of_getElem? (i := 1186) (by decide +kernel), List.mem_of_getElem? (i := 1187) (by decide +kernel)⟩
def lw_privs_5 : List (MethodName × Nat) := [(⟨"HamperDaysModel", "isRow", "(I)Z"⟩, 28), (⟨"HamperDaysModel", "lays", "(II)V"⟩, 28), (⟨"HamperDaysModel", "moodBehind", "(I)I"⟩, 28), (⟨"HamperDaysModel", "judges", "(II)V"⟩, 28), (⟨"HamperDaysModel", "closes", "(I)V"⟩, 28), (⟨"HamperDaysModel", "judged", "(I)I"⟩, 28), (⟨"HamperDaysModel", "findOdds", "(III)V"⟩, 28), (⟨"HamperDaysModel", "which", "(II)I"⟩, 28), (⟨"HamperDaysModel", "isSoWith", "(II)Z"⟩, 28), (⟨"HamperDaysModel", "copies", "(II)V"⟩, 28), (⟨"HamperDaysModel", "sumOf", "(I)I"⟩, 28)]
theorem lw_r5 : ∀ q ∈ lw_privs_5, lw_okq q := List.forall_mem_cons.mpr ⟨lw_p64, List.forall_mem_cons.mpr ⟨lw_p65, List.forall_mem_cons.mpr ⟨lw_p66, List.forall_mem_cons.mpr ⟨lw_p67, List.forall_mem_cons.mpr ⟨lw_p68, List.forall_mem_cons.mpr ⟨lw_p69, List.forall_mem_cons.mpr ⟨lw_p70, List.forall_mem_cons.mpr ⟨lw_p71, List.forall_mem_cons.mpr ⟨lw_p72, List.forall_mem_cons.mpr ⟨lw_p73, List.forall_mem_cons.mpr ⟨lw_p74, fun _ h => absurd h List.not_mem_nil⟩⟩⟩⟩⟩⟩⟩⟩⟩⟩⟩
def lw_privs : List (MethodName × Nat) := lw_privs_1 ++ (lw_privs_2 ++ (lw_privs_3 ++ (lw_privs_4 ++ (lw_privs_5))))
def lw_tbl : List Cond := k2_sels lw_privs ++ tables_1
theorem lw_privs_ok : ∀ q ∈ lw_privs, lw_okq q := by
  show ∀ q ∈ lw_privs_1 ++ (lw_privs_2 ++ (lw_privs_3 ++ (lw_privs_4 ++ (lw_privs_5)))), lw_okq q
  exact List.forall_mem_append.mpr ⟨lw_r1, List.forall_mem_append.mpr ⟨lw_r2, List.forall_mem_append.mpr ⟨lw_r3, List.forall_mem_append.mpr ⟨lw_r4, lw_r5⟩⟩⟩⟩
-- ===== end of PART A; then your names; then what follows =====
end
section
/-! ===== BEGIN printed: names, fields, word lists, decode rows ===== -/
def RX0 : String := "HamperDays$Hamper"
def TX0 : u_T := fun k => match k with
  | 0 => ("HamperDays$Hamper", "kinds", "[I", true)
  | 1 => ("HamperDays$Hamper", "goods", "[I", true)
  | 2 => ("HamperDays$Hamper", "weights", "[I", true)
  | 3 => ("HamperDays$Hamper", "outFor", "[I", true)
  | 4 => ("HamperDays$Hamper", "cheers", "[I", true)
  | 5 => ("HamperDays$Hamper", "size", "I", false)
  | 6 => ("HamperDays$Hamper", "left", "I", false)
  | 7 => ("HamperDays$Hamper", "mood", "I", false)
  | 8 => ("HamperDays$Hamper", "tire", "I", false)
  | _ => ("HamperDays$Hamper", "hour", "I", false)
def tyX0 : Nat → FieldType := fun k => match k with
  | 0 => .array .int
  | 1 => .array .int
  | 2 => .array .int
  | 3 => .array .int
  | 4 => .array .int
  | 5 => .int
  | 6 => .int
  | 7 => .int
  | 8 => .int
  | _ => .int
abbrev wsX00 : List Cond := u_ws RX0 TX0 10
theorem nmX0 : ∀ a, a < 10 → ∀ b, b < 10 → a ≠ b → (TX0 a).2.1 ≠ (TX0 b).2.1 := by decide +kernel
theorem tyX0_ok : ∀ k, k < 10 → parseFieldDescriptor (TX0 k).2.2.1 = some (tyX0 k) := by decide +kernel
abbrev cX0_init : ByteArray := prog_2_method_1_code
def yX0_init : MethodName := ⟨RX0, "<init>", "()V"⟩
abbrev cX0_clear : ByteArray := prog_2_method_2_code
def yX0_clear : MethodName := ⟨RX0, "clear", "()V"⟩
abbrev cX0_copyFrom : ByteArray := prog_2_method_3_code
def yX0_copyFrom : MethodName := ⟨RX0, "copyFrom", "(LHamperDays$Hamper;)V"⟩
abbrev cX0_copyOrdered : ByteArray := prog_2_method_4_code
def yX0_copyOrdered : MethodName := ⟨RX0, "copyOrdered", "(LHamperDays$Hamper;[I)V"⟩
abbrev cX0_copyDayOf : ByteArray := prog_2_method_5_code
def yX0_copyDayOf : MethodName := ⟨RX0, "copyDayOf", "(LHamperDays$Hamper;)V"⟩
abbrev cX0_copyThing : ByteArray := prog_2_method_6_code
def yX0_copyThing : MethodName := ⟨RX0, "copyThing", "(ILHamperDays$Hamper;I)V"⟩
abbrev cX0_isAllIn : ByteArray := prog_2_method_7_code
def yX0_isAllIn : MethodName := ⟨RX0, "isAllIn", "()Z"⟩
abbrev cX0_isGone : ByteArray := prog_2_method_8_code
def yX0_isGone : MethodName := ⟨RX0, "isGone", "(I)Z"⟩
abbrev cX0_add : ByteArray := prog_2_method_9_code
def yX0_add : MethodName := ⟨RX0, "add", "(III)Z"⟩
abbrev cX0_change : ByteArray := prog_2_method_10_code
def yX0_change : MethodName := ⟨RX0, "change", "(III)I"⟩
abbrev cX0_bringAllIn : ByteArray := prog_2_method_11_code
def yX0_bringAllIn : MethodName := ⟨RX0, "bringAllIn", "()V"⟩
abbrev cX0_shrinkTo : ByteArray := prog_2_method_12_code
def yX0_shrinkTo : MethodName := ⟨RX0, "shrinkTo", "(I)V"⟩
abbrev cX0_takeAway : ByteArray := prog_2_method_13_code
def yX0_takeAway : MethodName := ⟨RX0, "takeAway", "(I)V"⟩
abbrev cX0_layOnTop : ByteArray := prog_2_method_14_code
def yX0_layOnTop : MethodName := ⟨RX0, "layOnTop", "(I)V"⟩
abbrev cX0_exchange : ByteArray := prog_2_method_15_code
def yX0_exchange : MethodName := ⟨RX0, "exchange", "(II)V"⟩
abbrev cX0_exchangeIn : ByteArray := prog_2_method_16_code
def yX0_exchangeIn : MethodName := ⟨RX0, "exchangeIn", "([III)V"⟩
abbrev cX0_bearsOf : ByteArray := prog_2_method_17_code
def yX0_bearsOf : MethodName := ⟨RX0, "bearsOf", "(I)I"⟩
abbrev cX0_weightBehind : ByteArray := prog_2_method_18_code
def yX0_weightBehind : MethodName := ⟨RX0, "weightBehind", "(I)I"⟩
abbrev cX0_isCrushed : ByteArray := prog_2_method_19_code
def yX0_isCrushed : MethodName := ⟨RX0, "isCrushed", "(I)Z"⟩
abbrev cX0_cheersOf : ByteArray := prog_2_method_20_code
def yX0_cheersOf : MethodName := ⟨RX0, "cheersOf", "(I)I"⟩
abbrev cX0_cheersUnder : ByteArray := prog_2_method_21_code
def yX0_cheersUnder : MethodName := ⟨RX0, "cheersUnder", "(II)I"⟩
abbrev cX0_lastsOf : ByteArray := prog_2_method_22_code
def yX0_lastsOf : MethodName := ⟨RX0, "lastsOf", "(I)I"⟩
abbrev cX0_tallyCheers : ByteArray := prog_2_method_23_code
def yX0_tallyCheers : MethodName := ⟨RX0, "tallyCheers", "()V"⟩
abbrev cX0_pass : ByteArray := prog_2_method_24_code
def yX0_pass : MethodName := ⟨RX0, "pass", "(I)I"⟩
abbrev cX0_passOne : ByteArray := prog_2_method_25_code
def yX0_passOne : MethodName := ⟨RX0, "passOne", "(Z)V"⟩
abbrev cX0_blow : ByteArray := prog_2_method_26_code
def yX0_blow : MethodName := ⟨RX0, "blow", "(I)V"⟩
abbrev cX0_outBits : ByteArray := prog_2_method_27_code
def yX0_outBits : MethodName := ⟨RX0, "outBits", "()I"⟩
abbrev cX0_crushedBits : ByteArray := prog_2_method_28_code
def yX0_crushedBits : MethodName := ⟨RX0, "crushedBits", "()I"⟩
abbrev cX0_sumOf : ByteArray := prog_2_method_29_code
def yX0_sumOf : MethodName := ⟨RX0, "sumOf", "([I)I"⟩
def RX1 : String := "HamperDays$Image"
def TX1 : u_T := fun k => match k with
  | 0 => ("HamperDays$Image", "things", "LHamperDays$Hamper;", true)
  | 1 => ("HamperDays$Image", "seen", "LHamperDays$Seen;", true)
  | _ => ("HamperDays$Image", "made", "Z", false)
def tyX1 : Nat → FieldType := fun k => match k with
  | 0 => .object "HamperDays$Hamper"
  | 1 => .object "HamperDays$Seen"
  | _ => .boolean
abbrev wsX10 : List Cond := u_ws RX1 TX1 3
theorem nmX1 : ∀ a, a < 3 → ∀ b, b < 3 → a ≠ b → (TX1 a).2.1 ≠ (TX1 b).2.1 := by decide +kernel
theorem tyX1_ok : ∀ k, k < 3 → parseFieldDescriptor (TX1 k).2.2.1 = some (tyX1 k) := by decide +kernel
abbrev cX1_init : ByteArray := prog_3_method_1_code
def yX1_init : MethodName := ⟨RX1, "<init>", "()V"⟩
def RX2 : String := "HamperDays$Seen"
def TX2 : u_T := fun k => match k with
  | 0 => ("HamperDays$Seen", "behind", "[I", true)
  | 1 => ("HamperDays$Seen", "moods", "[I", true)
  | _ => ("HamperDays$Seen", "size", "I", false)
def tyX2 : Nat → FieldType := fun k => match k with
  | 0 => .array .int
  | 1 => .array .int
  | _ => .int
abbrev wsX20 : List Cond := u_ws RX2 TX2 3
theorem nmX2 : ∀ a, a < 3 → ∀ b, b < 3 → a ≠ b → (TX2 a).2.1 ≠ (TX2 b).2.1 := by decide +kernel
theorem tyX2_ok : ∀ k, k < 3 → parseFieldDescriptor (TX2 k).2.2.1 = some (tyX2 k) := by decide +kernel
abbrev cX2_init : ByteArray := prog_4_method_1_code
def yX2_init : MethodName := ⟨RX2, "<init>", "()V"⟩
abbrev cX2_add : ByteArray := prog_4_method_2_code
def yX2_add : MethodName := ⟨RX2, "add", "(II)Z"⟩
abbrev cX2_copyFrom : ByteArray := prog_4_method_3_code
def yX2_copyFrom : MethodName := ⟨RX2, "copyFrom", "(LHamperDays$Seen;)V"⟩
def RX3 : String := "HamperDays$Sheet"
def TX3 : u_T := fun k => match k with
  | 0 => ("HamperDays$Sheet", "cells", "[I", true)
  | 1 => ("HamperDays$Sheet", "lane", "I", false)
  | _ => ("HamperDays$Sheet", "size", "I", false)
def tyX3 : Nat → FieldType := fun k => match k with
  | 0 => .array .int
  | 1 => .int
  | _ => .int
abbrev wsX30 : List Cond := u_ws RX3 TX3 3
theorem nmX3 : ∀ a, a < 3 → ∀ b, b < 3 → a ≠ b → (TX3 a).2.1 ≠ (TX3 b).2.1 := by decide +kernel
theorem tyX3_ok : ∀ k, k < 3 → parseFieldDescriptor (TX3 k).2.2.1 = some (tyX3 k) := by decide +kernel
abbrev cX3_init : ByteArray := prog_5_method_1_code
def yX3_init : MethodName := ⟨RX3, "<init>", "()V"⟩
abbrev cX3_renew : ByteArray := prog_5_method_2_code
def yX3_renew : MethodName := ⟨RX3, "renew", "(II)V"⟩
abbrev cX3_faultAt : ByteArray := prog_5_method_3_code
def yX3_faultAt : MethodName := ⟨RX3, "faultAt", "(I)I"⟩
abbrev cX3_faultOfThree : ByteArray := prog_5_method_4_code
def yX3_faultOfThree : MethodName := ⟨RX3, "faultOfThree", "(III)I"⟩
abbrev cX3_put : ByteArray := prog_5_method_5_code
def yX3_put : MethodName := ⟨RX3, "put", "(II)V"⟩
def RX4 : String := "HamperDays$Tape"
def TX4 : u_T := fun k => match k with
  | 0 => ("HamperDays$Tape", "bytes", "[B", true)
  | 1 => ("HamperDays$Tape", "length", "I", false)
  | 2 => ("HamperDays$Tape", "faultFound", "I", false)
  | 3 => ("HamperDays$Tape", "faultPlace", "I", false)
  | 4 => ("HamperDays$Tape", "place", "I", false)
  | 5 => ("HamperDays$Tape", "start", "I", false)
  | 6 => ("HamperDays$Tape", "token", "I", false)
  | 7 => ("HamperDays$Tape", "number", "I", false)
  | 8 => ("HamperDays$Tape", "moodTold", "Z", false)
  | _ => ("HamperDays$Tape", "tireTold", "Z", false)
def tyX4 : Nat → FieldType := fun k => match k with
  | 0 => .array .byte
  | 1 => .int
  | 2 => .int
  | 3 => .int
  | 4 => .int
  | 5 => .int
  | 6 => .int
  | 7 => .int
  | 8 => .boolean
  | _ => .boolean
abbrev wsX40 : List Cond := u_ws RX4 TX4 10
theorem nmX4 : ∀ a, a < 10 → ∀ b, b < 10 → a ≠ b → (TX4 a).2.1 ≠ (TX4 b).2.1 := by decide +kernel
theorem tyX4_ok : ∀ k, k < 10 → parseFieldDescriptor (TX4 k).2.2.1 = some (tyX4 k) := by decide +kernel
abbrev cX4_init : ByteArray := prog_6_method_1_code
def yX4_init : MethodName := ⟨RX4, "<init>", "()V"⟩
abbrev cX4_append : ByteArray := prog_6_method_2_code
def yX4_append : MethodName := ⟨RX4, "append", "(I)Z"⟩
abbrev cX4_tell : ByteArray := prog_6_method_3_code
def yX4_tell : MethodName := ⟨RX4, "tell", "(LHamperDays$Hamper;)I"⟩
abbrev cX4_refuse : ByteArray := prog_6_method_4_code
def yX4_refuse : MethodName := ⟨RX4, "refuse", "(I)Z"⟩
abbrev cX4_takeLine : ByteArray := prog_6_method_5_code
def yX4_takeLine : MethodName := ⟨RX4, "takeLine", "(LHamperDays$Hamper;)Z"⟩
abbrev cX4_takeMood : ByteArray := prog_6_method_6_code
def yX4_takeMood : MethodName := ⟨RX4, "takeMood", "(LHamperDays$Hamper;)Z"⟩
abbrev cX4_takeTire : ByteArray := prog_6_method_7_code
def yX4_takeTire : MethodName := ⟨RX4, "takeTire", "(LHamperDays$Hamper;)Z"⟩
abbrev cX4_takeThing : ByteArray := prog_6_method_8_code
def yX4_takeThing : MethodName := ⟨RX4, "takeThing", "(LHamperDays$Hamper;I)Z"⟩
abbrev cX4_takeNumber : ByteArray := prog_6_method_9_code
def yX4_takeNumber : MethodName := ⟨RX4, "takeNumber", "(II)Z"⟩
abbrev cX4_takeStop : ByteArray := prog_6_method_10_code
def yX4_takeStop : MethodName := ⟨RX4, "takeStop", "()Z"⟩
abbrev cX4_takeToken : ByteArray := prog_6_method_11_code
def yX4_takeToken : MethodName := ⟨RX4, "takeToken", "()Z"⟩
abbrev cX4_tellNumber : ByteArray := prog_6_method_12_code
def yX4_tellNumber : MethodName := ⟨RX4, "tellNumber", "()Z"⟩
abbrev cX4_sortAt : ByteArray := prog_6_method_13_code
def yX4_sortAt : MethodName := ⟨RX4, "sortAt", "(I)I"⟩
abbrev cX4_wordTaken : ByteArray := prog_6_method_14_code
def yX4_wordTaken : MethodName := ⟨RX4, "wordTaken", "()I"⟩
abbrev cX4_isWord : ByteArray := prog_6_method_15_code
def yX4_isWord : MethodName := ⟨RX4, "isWord", "(Ljava/lang/String;)Z"⟩
def RX5 : String := "HamperDays"
def TX5 : u_T := fun k => match k with
  | 0 => ("HamperDays", "now", "LHamperDays$Hamper;", true)
  | 1 => ("HamperDays", "trial", "LHamperDays$Hamper;", true)
  | 2 => ("HamperDays", "seen", "LHamperDays$Seen;", true)
  | 3 => ("HamperDays", "tape", "LHamperDays$Tape;", true)
  | 4 => ("HamperDays", "images", "[LHamperDays$Image;", true)
  | 5 => ("HamperDays", "sheets", "[LHamperDays$Sheet;", true)
  | 6 => ("HamperDays", "row", "[I", true)
  | 7 => ("HamperDays", "bestRow", "[I", true)
  | 8 => ("HamperDays", "looks", "[I", true)
  | _ => ("HamperDays", "tornBy", "I", false)
def tyX5 : Nat → FieldType := fun k => match k with
  | 0 => .object "HamperDays$Hamper"
  | 1 => .object "HamperDays$Hamper"
  | 2 => .object "HamperDays$Seen"
  | 3 => .object "HamperDays$Tape"
  | 4 => .array (.object "HamperDays$Image")
  | 5 => .array (.object "HamperDays$Sheet")
  | 6 => .array .int
  | 7 => .array .int
  | 8 => .array .int
  | _ => .int
abbrev wsX50 : List Cond := u_ws RX5 TX5 10
theorem nmX5 : ∀ a, a < 10 → ∀ b, b < 10 → a ≠ b → (TX5 a).2.1 ≠ (TX5 b).2.1 := by decide +kernel
theorem tyX5_ok : ∀ k, k < 10 → parseFieldDescriptor (TX5 k).2.2.1 = some (tyX5 k) := by decide +kernel
abbrev cX5_init : ByteArray := prog_1_method_1_code
def yX5_init : MethodName := ⟨RX5, "<init>", "()V"⟩
abbrev cX5_feed : ByteArray := prog_1_method_2_code
def yX5_feed : MethodName := ⟨RX5, "feed", "(I)I"⟩
abbrev cX5_end : ByteArray := prog_1_method_3_code
def yX5_end : MethodName := ⟨RX5, "end", "(I)I"⟩
abbrev cX5_text : ByteArray := prog_1_method_4_code
def yX5_text : MethodName := ⟨RX5, "text", "()I"⟩
abbrev cX5_fault : ByteArray := prog_1_method_5_code
def yX5_fault : MethodName := ⟨RX5, "fault", "()I"⟩
abbrev cX5_rule : ByteArray := prog_1_method_6_code
def yX5_rule : MethodName := ⟨RX5, "rule", "(I)I"⟩
abbrev cX5_thing : ByteArray := prog_1_method_7_code
def yX5_thing : MethodName := ⟨RX5, "thing", "(II)I"⟩
abbrev cX5_alter : ByteArray := prog_1_method_8_code
def yX5_alter : MethodName := ⟨RX5, "alter", "(III)I"⟩
abbrev cX5_mood : ByteArray := prog_1_method_9_code
def yX5_mood : MethodName := ⟨RX5, "mood", "(I)I"⟩
abbrev cX5_tire : ByteArray := prog_1_method_10_code
def yX5_tire : MethodName := ⟨RX5, "tire", "(I)I"⟩
abbrev cX5_pack : ByteArray := prog_1_method_11_code
def yX5_pack : MethodName := ⟨RX5, "pack", "(III)I"⟩
abbrev cX5_strap : ByteArray := prog_1_method_12_code
def yX5_strap : MethodName := ⟨RX5, "strap", "()I"⟩
abbrev cX5_lift : ByteArray := prog_1_method_13_code
def yX5_lift : MethodName := ⟨RX5, "lift", "()I"⟩
abbrev cX5_hours : ByteArray := prog_1_method_14_code
def yX5_hours : MethodName := ⟨RX5, "hours", "(I)I"⟩
abbrev cX5_runs : ByteArray := prog_1_method_15_code
def yX5_runs : MethodName := ⟨RX5, "runs", "(II)I"⟩
abbrev cX5_gone : ByteArray := prog_1_method_16_code
def yX5_gone : MethodName := ⟨RX5, "gone", "(I)I"⟩
abbrev cX5_glad : ByteArray := prog_1_method_17_code
def yX5_glad : MethodName := ⟨RX5, "glad", "(I)I"⟩
abbrev cX5_order : ByteArray := prog_1_method_18_code
def yX5_order : MethodName := ⟨RX5, "order", "(I)I"⟩
abbrev cX5_leave : ByteArray := prog_1_method_19_code
def yX5_leave : MethodName := ⟨RX5, "leave", "(II)I"⟩
abbrev cX5_top : ByteArray := prog_1_method_20_code
def yX5_top : MethodName := ⟨RX5, "top", "(II)I"⟩
abbrev cX5_swap : ByteArray := prog_1_method_21_code
def yX5_swap : MethodName := ⟨RX5, "swap", "(II)I"⟩
abbrev cX5_need : ByteArray := prog_1_method_22_code
def yX5_need : MethodName := ⟨RX5, "need", "(III)I"⟩
abbrev cX5_kind : ByteArray := prog_1_method_23_code
def yX5_kind : MethodName := ⟨RX5, "kind", "(III)I"⟩
abbrev cX5_bear : ByteArray := prog_1_method_24_code
def yX5_bear : MethodName := ⟨RX5, "bear", "(II)I"⟩
abbrev cX5_luck : ByteArray := prog_1_method_25_code
def yX5_luck : MethodName := ⟨RX5, "luck", "(IIII)J"⟩
abbrev cX5_mean : ByteArray := prog_1_method_26_code
def yX5_mean : MethodName := ⟨RX5, "mean", "(III)J"⟩
abbrev cX5_see : ByteArray := prog_1_method_27_code
def yX5_see : MethodName := ⟨RX5, "see", "(II)I"⟩
abbrev cX5_forget : ByteArray := prog_1_method_28_code
def yX5_forget : MethodName := ⟨RX5, "forget", "(I)I"⟩
abbrev cX5_kinds : ByteArray := prog_1_method_29_code
def yX5_kinds : MethodName := ⟨RX5, "kinds", "(I)I"⟩
abbrev cX5_goods : ByteArray := prog_1_method_30_code
def yX5_goods : MethodName := ⟨RX5, "goods", "(I)I"⟩
abbrev cX5_ask : ByteArray := prog_1_method_31_code
def yX5_ask : MethodName := ⟨RX5, "ask", "(II)I"⟩
abbrev cX5_drift : ByteArray := prog_1_method_32_code
def yX5_drift : MethodName := ⟨RX5, "drift", "(III)I"⟩
abbrev cX5_keep : ByteArray := prog_1_method_33_code
def yX5_keep : MethodName := ⟨RX5, "keep", "(I)I"⟩
abbrev cX5_back : ByteArray := prog_1_method_34_code
def yX5_back : MethodName := ⟨RX5, "back", "(I)I"⟩
abbrev cX5_sheet : ByteArray := prog_1_method_35_code
def yX5_sheet : MethodName := ⟨RX5, "sheet", "(III)I"⟩
abbrev cX5_lay : ByteArray := prog_1_method_36_code
def yX5_lay : MethodName := ⟨RX5, "lay", "(III)I"⟩
abbrev cX5_read : ByteArray := prog_1_method_37_code
def yX5_read : MethodName := ⟨RX5, "read", "(IIII)I"⟩
abbrev cX5_torn : ByteArray := prog_1_method_38_code
def yX5_torn : MethodName := ⟨RX5, "torn", "()I"⟩
abbrev cX5_count : ByteArray := prog_1_method_39_code
def yX5_count : MethodName := ⟨RX5, "count", "(I)I"⟩
abbrev cX5_isWithin : ByteArray := prog_1_method_40_code
def yX5_isWithin : MethodName := ⟨RX5, "isWithin", "(III)Z"⟩
abbrev cX5_isMood : ByteArray := prog_1_method_41_code
def yX5_isMood : MethodName := ⟨RX5, "isMood", "(I)Z"⟩
abbrev cX5_isSpan : ByteArray := prog_1_method_42_code
def yX5_isSpan : MethodName := ⟨RX5, "isSpan", "(I)Z"⟩
abbrev cX5_isOdds : ByteArray := prog_1_method_43_code
def yX5_isOdds : MethodName := ⟨RX5, "isOdds", "(II)Z"⟩
abbrev cX5_isSheet : ByteArray := prog_1_method_44_code
def yX5_isSheet : MethodName := ⟨RX5, "isSheet", "(I)Z"⟩
abbrev cX5_isLane : ByteArray := prog_1_method_45_code
def yX5_isLane : MethodName := ⟨RX5, "isLane", "(I)Z"⟩
abbrev cX5_isThing : ByteArray := prog_1_method_46_code
def yX5_isThing : MethodName := ⟨RX5, "isThing", "(I)Z"⟩
abbrev cX5_isTrait : ByteArray := prog_1_method_47_code
def yX5_isTrait : MethodName := ⟨RX5, "isTrait", "(II)Z"⟩
abbrev cX5_startTrial : ByteArray := prog_1_method_48_code
def yX5_startTrial : MethodName := ⟨RX5, "startTrial", "()V"⟩
abbrev cX5_moodBehind : ByteArray := prog_1_method_49_code
def yX5_moodBehind : MethodName := ⟨RX5, "moodBehind", "(I)I"⟩
abbrev cX5_moodWith : ByteArray := prog_1_method_50_code
def yX5_moodWith : MethodName := ⟨RX5, "moodWith", "(IIII)I"⟩
abbrev cX5_outBehind : ByteArray := prog_1_method_51_code
def yX5_outBehind : MethodName := ⟨RX5, "outBehind", "(I)I"⟩
abbrev cX5_utmostMood : ByteArray := prog_1_method_52_code
def yX5_utmostMood : MethodName := ⟨RX5, "utmostMood", "(IZ)I"⟩
abbrev cX5_firstAtZero : ByteArray := prog_1_method_53_code
def yX5_firstAtZero : MethodName := ⟨RX5, "firstAtZero", "(I)I"⟩
abbrev cX5_bestOfOne : ByteArray := prog_1_method_54_code
def yX5_bestOfOne : MethodName := ⟨RX5, "bestOfOne", "(IIZ)I"⟩
abbrev cX5_foundOrBest : ByteArray := prog_1_method_55_code
def yX5_foundOrBest : MethodName := ⟨RX5, "foundOrBest", "(III)I"⟩
abbrev cX5_findBestRow : ByteArray := prog_1_method_56_code
def yX5_findBestRow : MethodName := ⟨RX5, "findBestRow", "()I"⟩
abbrev cX5_stepRow : ByteArray := prog_1_method_57_code
def yX5_stepRow : MethodName := ⟨RX5, "stepRow", "(I)Z"⟩
abbrev cX5_exchangeInRow : ByteArray := prog_1_method_58_code
def yX5_exchangeInRow : MethodName := ⟨RX5, "exchangeInRow", "(II)V"⟩
abbrev cX5_moodUnderLids : ByteArray := prog_1_method_59_code
def yX5_moodUnderLids : MethodName := ⟨RX5, "moodUnderLids", "(II)I"⟩
abbrev cX5_waysOfLids : ByteArray := prog_1_method_60_code
def yX5_waysOfLids : MethodName := ⟨RX5, "waysOfLids", "(III)J"⟩
abbrev cX5_partOfFraction : ByteArray := prog_1_method_61_code
def yX5_partOfFraction : MethodName := ⟨RX5, "partOfFraction", "(JJI)J"⟩
abbrev cX5_traitsAsSeen : ByteArray := prog_1_method_62_code
def yX5_traitsAsSeen : MethodName := ⟨RX5, "traitsAsSeen", "(III)I"⟩
abbrev cX5_isAsSeen : ByteArray := prog_1_method_63_code
def yX5_isAsSeen : MethodName := ⟨RX5, "isAsSeen", "(III)Z"⟩
abbrev cX5_fillLooks : ByteArray := prog_1_method_64_code
def yX5_fillLooks : MethodName := ⟨RX5, "fillLooks", "(II)V"⟩
abbrev cX5_mostAlike : ByteArray := prog_1_method_65_code
def yX5_mostAlike : MethodName := ⟨RX5, "mostAlike", "(II)I"⟩
abbrev cX5_alikeWith : ByteArray := prog_1_method_66_code
def yX5_alikeWith : MethodName := ⟨RX5, "alikeWith", "(III)I"⟩
abbrev cX5_imagesMade : ByteArray := prog_1_method_67_code
def yX5_imagesMade : MethodName := ⟨RX5, "imagesMade", "()I"⟩
def RX6 : String := "HamperDaysModel"
def TX6 : u_T := fun k => match k with
  | 0 => ("HamperDaysModel", "st", "[I", true)
  | 1 => ("HamperDaysModel", "now", "[I", true)
  | 2 => ("HamperDaysModel", "isKept", "[Z", true)
  | 3 => ("HamperDaysModel", "draft", "[I", true)
  | 4 => ("HamperDaysModel", "hasMood", "Z", false)
  | 5 => ("HamperDaysModel", "hasTire", "Z", false)
  | 6 => ("HamperDaysModel", "tape", "[I", true)
  | 7 => ("HamperDaysModel", "taped", "I", false)
  | 8 => ("HamperDaysModel", "pos", "I", false)
  | 9 => ("HamperDaysModel", "begun", "I", false)
  | 10 => ("HamperDaysModel", "sort", "I", false)
  | 11 => ("HamperDaysModel", "value", "I", false)
  | 12 => ("HamperDaysModel", "fault", "I", false)
  | 13 => ("HamperDaysModel", "wrongAt", "I", false)
  | 14 => ("HamperDaysModel", "bestCode", "I", false)
  | 15 => ("HamperDaysModel", "bestMuch", "I", false)
  | 16 => ("HamperDaysModel", "row", "[I", true)
  | 17 => ("HamperDaysModel", "bestRow", "[I", true)
  | 18 => ("HamperDaysModel", "gladSum", "J", false)
  | 19 => ("HamperDaysModel", "moodSum", "J", false)
  | 20 => ("HamperDaysModel", "allWays", "J", false)
  | 21 => ("HamperDaysModel", "moods", "[I", true)
  | 22 => ("HamperDaysModel", "byGood", "[I", true)
  | 23 => ("HamperDaysModel", "lanes", "[I", true)
  | 24 => ("HamperDaysModel", "sizes", "[I", true)
  | 25 => ("HamperDaysModel", "cells", "[I", true)
  | 26 => ("HamperDaysModel", "torn", "I", false)
  | _ => ("HamperDaysModel", "before", "[I", true)
def tyX6 : Nat → FieldType := fun k => match k with
  | 0 => .array .int
  | 1 => .array .int
  | 2 => .array .boolean
  | 3 => .array .int
  | 4 => .boolean
  | 5 => .boolean
  | 6 => .array .int
  | 7 => .int
  | 8 => .int
  | 9 => .int
  | 10 => .int
  | 11 => .int
  | 12 => .int
  | 13 => .int
  | 14 => .int
  | 15 => .int
  | 16 => .array .int
  | 17 => .array .int
  | 18 => .long
  | 19 => .long
  | 20 => .long
  | 21 => .array .int
  | 22 => .array .int
  | 23 => .array .int
  | 24 => .array .int
  | 25 => .array .int
  | 26 => .int
  | _ => .array .int
abbrev wsX60 : List Cond := u_ws RX6 TX6 28
theorem nmX6 : ∀ a, a < 28 → ∀ b, b < 28 → a ≠ b → (TX6 a).2.1 ≠ (TX6 b).2.1 := by decide +kernel
theorem tyX6_ok : ∀ k, k < 28 → parseFieldDescriptor (TX6 k).2.2.1 = some (tyX6 k) := by decide +kernel
abbrev cX6_init : ByteArray := prog_8_method_1_code
def yX6_init : MethodName := ⟨RX6, "<init>", "()V"⟩
abbrev cX6_in : ByteArray := prog_8_method_3_code
def yX6_in : MethodName := ⟨RX6, "in", "(JJJ)Z"⟩
abbrev cX6_flag : ByteArray := prog_8_method_4_code
def yX6_flag : MethodName := ⟨RX6, "flag", "(Z)I"⟩
abbrev cX6_firstDraft : ByteArray := prog_8_method_5_code
def yX6_firstDraft : MethodName := ⟨RX6, "firstDraft", "()V"⟩
abbrev cX6_keepDraft : ByteArray := prog_8_method_6_code
def yX6_keepDraft : MethodName := ⟨RX6, "keepDraft", "()V"⟩
abbrev cX6_feed : ByteArray := prog_8_method_7_code
def yX6_feed : MethodName := ⟨RX6, "feed", "(I)I"⟩
abbrev cX6_end : ByteArray := prog_8_method_8_code
def yX6_end : MethodName := ⟨RX6, "end", "(I)I"⟩
abbrev cX6_requires : ByteArray := prog_8_method_9_code
def yX6_requires : MethodName := ⟨RX6, "requires", "(ZI)V"⟩
abbrev cX6_byteAt : ByteArray := prog_8_method_10_code
def yX6_byteAt : MethodName := ⟨RX6, "byteAt", "(I)I"⟩
abbrev cX6_is : ByteArray := prog_8_method_11_code
def yX6_is : MethodName := ⟨RX6, "is", "(IIIII)Z"⟩
abbrev cX6_endsIn : ByteArray := prog_8_method_12_code
def yX6_endsIn : MethodName := ⟨RX6, "endsIn", "(II)Z"⟩
abbrev cX6_lineNow : ByteArray := prog_8_method_13_code
def yX6_lineNow : MethodName := ⟨RX6, "lineNow", "()I"⟩
abbrev cX6_reads : ByteArray := prog_8_method_14_code
def yX6_reads : MethodName := ⟨RX6, "reads", "()V"⟩
abbrev cX6_readNumber : ByteArray := prog_8_method_15_code
def yX6_readNumber : MethodName := ⟨RX6, "readNumber", "(II)I"⟩
abbrev cX6_readLineOf : ByteArray := prog_8_method_16_code
def yX6_readLineOf : MethodName := ⟨RX6, "readLineOf", "(I)V"⟩
abbrev cX6_readLine : ByteArray := prog_8_method_17_code
def yX6_readLine : MethodName := ⟨RX6, "readLine", "()V"⟩
abbrev cX6_text : ByteArray := prog_8_method_18_code
def yX6_text : MethodName := ⟨RX6, "text", "()I"⟩
abbrev cX6_fault : ByteArray := prog_8_method_19_code
def yX6_fault : MethodName := ⟨RX6, "fault", "()I"⟩
abbrev cX6_isThing : ByteArray := prog_8_method_20_code
def yX6_isThing : MethodName := ⟨RX6, "isThing", "(I)Z"⟩
abbrev cX6_isMood : ByteArray := prog_8_method_21_code
def yX6_isMood : MethodName := ⟨RX6, "isMood", "(I)Z"⟩
abbrev cX6_isPart : ByteArray := prog_8_method_22_code
def yX6_isPart : MethodName := ⟨RX6, "isPart", "(I)Z"⟩
abbrev cX6_allAreIn : ByteArray := prog_8_method_23_code
def yX6_allAreIn : MethodName := ⟨RX6, "allAreIn", "()Z"⟩
abbrev cX6_starts : ByteArray := prog_8_method_24_code
def yX6_starts : MethodName := ⟨RX6, "starts", "()V"⟩
abbrev cX6_settles : ByteArray := prog_8_method_25_code
def yX6_settles : MethodName := ⟨RX6, "settles", "()V"⟩
abbrev cX6_of : ByteArray := prog_8_method_26_code
def yX6_of : MethodName := ⟨RX6, "of", "(II)I"⟩
abbrev cX6_becomesOf : ByteArray := prog_8_method_27_code
def yX6_becomesOf : MethodName := ⟨RX6, "becomesOf", "(III)V"⟩
abbrev cX6_bears : ByteArray := prog_8_method_28_code
def yX6_bears : MethodName := ⟨RX6, "bears", "(I)I"⟩
abbrev cX6_laidOn : ByteArray := prog_8_method_29_code
def yX6_laidOn : MethodName := ⟨RX6, "laidOn", "(I)I"⟩
abbrev cX6_isCrushed : ByteArray := prog_8_method_30_code
def yX6_isCrushed : MethodName := ⟨RX6, "isCrushed", "(I)Z"⟩
abbrev cX6_cheers : ByteArray := prog_8_method_31_code
def yX6_cheers : MethodName := ⟨RX6, "cheers", "(I)I"⟩
abbrev cX6_lasts : ByteArray := prog_8_method_32_code
def yX6_lasts : MethodName := ⟨RX6, "lasts", "(I)I"⟩
abbrev cX6_hourGoes : ByteArray := prog_8_method_33_code
def yX6_hourGoes : MethodName := ⟨RX6, "hourGoes", "(Z)V"⟩
abbrev cX6_hoursGo : ByteArray := prog_8_method_34_code
def yX6_hoursGo : MethodName := ⟨RX6, "hoursGo", "(I)V"⟩
abbrev cX6_moodBehind : ByteArray := prog_8_method_35_code
def yX6_moodBehind : MethodName := ⟨RX6, "moodBehind", "(I)I"⟩
abbrev cX6_outNow : ByteArray := prog_8_method_36_code
def yX6_outNow : MethodName := ⟨RX6, "outNow", "()I"⟩
abbrev cX6_allGoIn : ByteArray := prog_8_method_37_code
def yX6_allGoIn : MethodName := ⟨RX6, "allGoIn", "()V"⟩
abbrev cX6_rule : ByteArray := prog_8_method_38_code
def yX6_rule : MethodName := ⟨RX6, "rule", "(I)I"⟩
abbrev cX6_thing : ByteArray := prog_8_method_39_code
def yX6_thing : MethodName := ⟨RX6, "thing", "(II)I"⟩
abbrev cX6_becomes : ByteArray := prog_8_method_40_code
def yX6_becomes : MethodName := ⟨RX6, "becomes", "(II)I"⟩
abbrev cX6_alter : ByteArray := prog_8_method_41_code
def yX6_alter : MethodName := ⟨RX6, "alter", "(III)I"⟩
abbrev cX6_mood : ByteArray := prog_8_method_42_code
def yX6_mood : MethodName := ⟨RX6, "mood", "(I)I"⟩
abbrev cX6_tire : ByteArray := prog_8_method_43_code
def yX6_tire : MethodName := ⟨RX6, "tire", "(I)I"⟩
abbrev cX6_pack : ByteArray := prog_8_method_44_code
def yX6_pack : MethodName := ⟨RX6, "pack", "(III)I"⟩
abbrev cX6_strap : ByteArray := prog_8_method_45_code
def yX6_strap : MethodName := ⟨RX6, "strap", "()I"⟩
abbrev cX6_lift : ByteArray := prog_8_method_46_code
def yX6_lift : MethodName := ⟨RX6, "lift", "()I"⟩
abbrev cX6_hours : ByteArray := prog_8_method_47_code
def yX6_hours : MethodName := ⟨RX6, "hours", "(I)I"⟩
abbrev cX6_isFar : ByteArray := prog_8_method_48_code
def yX6_isFar : MethodName := ⟨RX6, "isFar", "(I)Z"⟩
abbrev cX6_runs : ByteArray := prog_8_method_49_code
def yX6_runs : MethodName := ⟨RX6, "runs", "(II)I"⟩
abbrev cX6_isGone : ByteArray := prog_8_method_50_code
def yX6_isGone : MethodName := ⟨RX6, "isGone", "(I)Z"⟩
abbrev cX6_gone : ByteArray := prog_8_method_51_code
def yX6_gone : MethodName := ⟨RX6, "gone", "(I)I"⟩
abbrev cX6_glad : ByteArray := prog_8_method_52_code
def yX6_glad : MethodName := ⟨RX6, "glad", "(I)I"⟩
abbrev cX6_startsJudging : ByteArray := prog_8_method_53_code
def yX6_startsJudging : MethodName := ⟨RX6, "startsJudging", "(I)V"⟩
abbrev cX6_judges : ByteArray := prog_8_method_54_code
def yX6_judges : MethodName := ⟨RX6, "judges", "(II)V"⟩
abbrev cX6_judged : ByteArray := prog_8_method_55_code
def yX6_judged : MethodName := ⟨RX6, "judged", "(I)I"⟩
abbrev cX6_lays : ByteArray := prog_8_method_56_code
def yX6_lays : MethodName := ⟨RX6, "lays", "(II)V"⟩
abbrev cX6_isRow : ByteArray := prog_8_method_57_code
def yX6_isRow : MethodName := ⟨RX6, "isRow", "(I)Z"⟩
abbrev cX6_findOrder : ByteArray := prog_8_method_58_code
def yX6_findOrder : MethodName := ⟨RX6, "findOrder", "()I"⟩
abbrev cX6_order : ByteArray := prog_8_method_59_code
def yX6_order : MethodName := ⟨RX6, "order", "(I)I"⟩
abbrev cX6_closes : ByteArray := prog_8_method_60_code
def yX6_closes : MethodName := ⟨RX6, "closes", "(I)V"⟩
abbrev cX6_leave : ByteArray := prog_8_method_61_code
def yX6_leave : MethodName := ⟨RX6, "leave", "(II)I"⟩
abbrev cX6_top : ByteArray := prog_8_method_62_code
def yX6_top : MethodName := ⟨RX6, "top", "(II)I"⟩
abbrev cX6_swap : ByteArray := prog_8_method_63_code
def yX6_swap : MethodName := ⟨RX6, "swap", "(II)I"⟩
abbrev cX6_need : ByteArray := prog_8_method_64_code
def yX6_need : MethodName := ⟨RX6, "need", "(III)I"⟩
abbrev cX6_kind : ByteArray := prog_8_method_65_code
def yX6_kind : MethodName := ⟨RX6, "kind", "(III)I"⟩
abbrev cX6_bear : ByteArray := prog_8_method_66_code
def yX6_bear : MethodName := ⟨RX6, "bear", "(II)I"⟩
abbrev cX6_common : ByteArray := prog_8_method_67_code
def yX6_common : MethodName := ⟨RX6, "common", "(JJ)J"⟩
abbrev cX6_told : ByteArray := prog_8_method_68_code
def yX6_told : MethodName := ⟨RX6, "told", "(JJI)J"⟩
abbrev cX6_findOdds : ByteArray := prog_8_method_69_code
def yX6_findOdds : MethodName := ⟨RX6, "findOdds", "(III)V"⟩
abbrev cX6_luck : ByteArray := prog_8_method_70_code
def yX6_luck : MethodName := ⟨RX6, "luck", "(IIII)J"⟩
abbrev cX6_mean : ByteArray := prog_8_method_71_code
def yX6_mean : MethodName := ⟨RX6, "mean", "(III)J"⟩
abbrev cX6_see : ByteArray := prog_8_method_72_code
def yX6_see : MethodName := ⟨RX6, "see", "(II)I"⟩
abbrev cX6_forget : ByteArray := prog_8_method_73_code
def yX6_forget : MethodName := ⟨RX6, "forget", "(I)I"⟩
abbrev cX6_isSoWith : ByteArray := prog_8_method_74_code
def yX6_isSoWith : MethodName := ⟨RX6, "isSoWith", "(II)Z"⟩
abbrev cX6_which : ByteArray := prog_8_method_75_code
def yX6_which : MethodName := ⟨RX6, "which", "(II)I"⟩
abbrev cX6_kinds : ByteArray := prog_8_method_76_code
def yX6_kinds : MethodName := ⟨RX6, "kinds", "(I)I"⟩
abbrev cX6_goods : ByteArray := prog_8_method_77_code
def yX6_goods : MethodName := ⟨RX6, "goods", "(I)I"⟩
abbrev cX6_ask : ByteArray := prog_8_method_78_code
def yX6_ask : MethodName := ⟨RX6, "ask", "(II)I"⟩
abbrev cX6_drift : ByteArray := prog_8_method_79_code
def yX6_drift : MethodName := ⟨RX6, "drift", "(III)I"⟩
abbrev cX6_copies : ByteArray := prog_8_method_80_code
def yX6_copies : MethodName := ⟨RX6, "copies", "(II)V"⟩
abbrev cX6_keep : ByteArray := prog_8_method_81_code
def yX6_keep : MethodName := ⟨RX6, "keep", "(I)I"⟩
abbrev cX6_back : ByteArray := prog_8_method_82_code
def yX6_back : MethodName := ⟨RX6, "back", "(I)I"⟩
abbrev cX6_isSheet : ByteArray := prog_8_method_83_code
def yX6_isSheet : MethodName := ⟨RX6, "isSheet", "(II)Z"⟩
abbrev cX6_sheet : ByteArray := prog_8_method_84_code
def yX6_sheet : MethodName := ⟨RX6, "sheet", "(III)I"⟩
abbrev cX6_lay : ByteArray := prog_8_method_85_code
def yX6_lay : MethodName := ⟨RX6, "lay", "(III)I"⟩
abbrev cX6_read : ByteArray := prog_8_method_86_code
def yX6_read : MethodName := ⟨RX6, "read", "(IIII)I"⟩
abbrev cX6_torn : ByteArray := prog_8_method_87_code
def yX6_torn : MethodName := ⟨RX6, "torn", "()I"⟩
abbrev cX6_sumOf : ByteArray := prog_8_method_88_code
def yX6_sumOf : MethodName := ⟨RX6, "sumOf", "(I)I"⟩
abbrev cX6_count : ByteArray := prog_8_method_89_code
def yX6_count : MethodName := ⟨RX6, "count", "(I)I"⟩
def RJ6 : String := "java/lang/Integer"
def TJ6 : u_T := fun k => match k with
  | _ => ("", "", "", false)
def tyJ6 : Nat → FieldType := fun k => match k with
  | _ => .int
abbrev wsJ60 : List Cond := u_ws RJ6 TJ6 0
theorem nmJ6 : ∀ a, a < 0 → ∀ b, b < 0 → a ≠ b → (TJ6 a).2.1 ≠ (TJ6 b).2.1 := by decide +kernel
theorem tyJ6_ok : ∀ k, k < 0 → parseFieldDescriptor (TJ6 k).2.2.1 = some (tyJ6 k) := by decide +kernel
abbrev cJ6_bitCount_0f7a4 : ByteArray := prog_9_method_49_code
def yJ6_bitCount_0f7a4 : MethodName := ⟨RJ6, "bitCount", "(I)I"⟩
def RJ9 : String := "java/lang/Math"
def TJ9 : u_T := fun k => match k with
  | _ => ("", "", "", false)
def tyJ9 : Nat → FieldType := fun k => match k with
  | _ => .int
abbrev wsJ90 : List Cond := u_ws RJ9 TJ9 0
theorem nmJ9 : ∀ a, a < 0 → ∀ b, b < 0 → a ≠ b → (TJ9 a).2.1 ≠ (TJ9 b).2.1 := by decide +kernel
theorem tyJ9_ok : ∀ k, k < 0 → parseFieldDescriptor (TJ9 k).2.2.1 = some (tyJ9 k) := by decide +kernel
abbrev cJ9_max_7cf53 : ByteArray := prog_10_method_65_code
def yJ9_max_7cf53 : MethodName := ⟨RJ9, "max", "(II)I"⟩
abbrev cJ9_min_7cf53 : ByteArray := prog_10_method_69_code
def yJ9_min_7cf53 : MethodName := ⟨RJ9, "min", "(II)I"⟩
def RJ0 : String := "java/lang/String"
def TJ0 : u_T := fun k => match k with
  | _ => ("", "", "", false)
def tyJ0 : Nat → FieldType := fun k => match k with
  | _ => .int
abbrev wsJ00 : List Cond := u_ws RJ0 TJ0 0
theorem nmJ0 : ∀ a, a < 0 → ∀ b, b < 0 → a ≠ b → (TJ0 a).2.1 ≠ (TJ0 b).2.1 := by decide +kernel
theorem tyJ0_ok : ∀ k, k < 0 → parseFieldDescriptor (TJ0 k).2.2.1 = some (tyJ0 k) := by decide +kernel
abbrev cJ0_length_8abf5 : ByteArray := prog_11_method_54_code
def yJ0_length_8abf5 : MethodName := ⟨RJ0, "length", "()I"⟩
abbrev cJ0_charAt_5068e : ByteArray := prog_11_method_56_code
def yJ0_charAt_5068e : MethodName := ⟨RJ0, "charAt", "(I)C"⟩
abbrev cJ0_coder_7d493 : ByteArray := prog_11_method_152_code
def yJ0_coder_7d493 : MethodName := ⟨RJ0, "coder", "()B"⟩
abbrev cJ0_isLatin1_aae02 : ByteArray := prog_11_method_154_code
def yJ0_isLatin1_aae02 : MethodName := ⟨RJ0, "isLatin1", "()Z"⟩
abbrev cJ0_checkIndex_df160 : ByteArray := prog_11_method_155_code
def yJ0_checkIndex_df160 : MethodName := ⟨RJ0, "checkIndex", "(II)V"⟩
def RJ1 : String := "java/lang/StringLatin1"
def TJ1 : u_T := fun k => match k with
  | _ => ("", "", "", false)
def tyJ1 : Nat → FieldType := fun k => match k with
  | _ => .int
abbrev wsJ10 : List Cond := u_ws RJ1 TJ1 0
theorem nmJ1 : ∀ a, a < 0 → ∀ b, b < 0 → a ≠ b → (TJ1 a).2.1 ≠ (TJ1 b).2.1 := by decide +kernel
theorem tyJ1_ok : ∀ k, k < 0 → parseFieldDescriptor (TJ1 k).2.2.1 = some (tyJ1 k) := by decide +kernel
abbrev cJ1_charAt_3b067 : ByteArray := prog_12_method_2_code
def yJ1_charAt_3b067 : MethodName := ⟨RJ1, "charAt", "([BI)C"⟩
def RJ2 : String := "java/lang/StringUTF16"
def TJ2 : u_T := fun k => match k with
  | _ => ("", "", "", false)
def tyJ2 : Nat → FieldType := fun k => match k with
  | _ => .int
abbrev wsJ20 : List Cond := u_ws RJ2 TJ2 0
theorem nmJ2 : ∀ a, a < 0 → ∀ b, b < 0 → a ≠ b → (TJ2 a).2.1 ≠ (TJ2 b).2.1 := by decide +kernel
theorem tyJ2_ok : ∀ k, k < 0 → parseFieldDescriptor (TJ2 k).2.2.1 = some (tyJ2 k) := by decide +kernel
abbrev cJ2_getChar_3b067 : ByteArray := prog_13_method_5_code
def yJ2_getChar_3b067 : MethodName := ⟨RJ2, "getChar", "([BI)C"⟩
abbrev cJ2_length_9d52b : ByteArray := prog_13_method_6_code
def yJ2_length_9d52b : MethodName := ⟨RJ2, "length", "([B)I"⟩
abbrev cJ2_charAt_3b067 : ByteArray := prog_13_method_83_code
def yJ2_charAt_3b067 : MethodName := ⟨RJ2, "charAt", "([BI)C"⟩
abbrev cJ2_checkIndex_2214a : ByteArray := prog_13_method_91_code
def yJ2_checkIndex_2214a : MethodName := ⟨RJ2, "checkIndex", "(I[B)V"⟩
def RJ10 : String := "java/lang/System"
def TJ10 : u_T := fun k => match k with
  | _ => ("", "", "", false)
def tyJ10 : Nat → FieldType := fun k => match k with
  | _ => .int
abbrev wsJ100 : List Cond := u_ws RJ10 TJ10 0
theorem nmJ10 : ∀ a, a < 0 → ∀ b, b < 0 → a ≠ b → (TJ10 a).2.1 ≠ (TJ10 b).2.1 := by decide +kernel
theorem tyJ10_ok : ∀ k, k < 0 → parseFieldDescriptor (TJ10 k).2.2.1 = some (tyJ10 k) := by decide +kernel
def RJ3 : String := "jdk/internal/util/Preconditions"
def TJ3 : u_T := fun k => match k with
  | _ => ("", "", "", false)
def tyJ3 : Nat → FieldType := fun k => match k with
  | _ => .int
abbrev wsJ30 : List Cond := u_ws RJ3 TJ3 0
theorem nmJ3 : ∀ a, a < 0 → ∀ b, b < 0 → a ≠ b → (TJ3 a).2.1 ≠ (TJ3 b).2.1 := by decide +kernel
theorem tyJ3_ok : ∀ k, k < 0 → parseFieldDescriptor (TJ3 k).2.2.1 = some (tyJ3 k) := by decide +kernel
abbrev cJ3_checkIndex_8e157 : ByteArray := prog_15_method_11_code
def yJ3_checkIndex_8e157 : MethodName := ⟨RJ3, "checkIndex", "(IILjava/util/function/BiFunction;)I"⟩
def RL : String := "HamperDaysLaw"
abbrev cL_law : ByteArray := code
def yL_law : MethodName := ⟨RL, "law", "([I)Z"⟩
end
section
/-! THE PURE MACHINE: a memory of ints and longs over a fixed shape of cells; 'hd_Go' says of a frame of a method that it returns, with a post over answer and memory. -/
/-- the words that last -/
def hd_tbl : List Cond := lw_tbl.filter goodWord
theorem hd_good : ∀ w ∈ hd_tbl, goodWord w = true := fun w h => (List.mem_filter.mp h).2
theorem hd_in {w : Cond} (i : Nat) (h : lw_tbl[i]? = some w) (hg : goodWord w = true) : w ∈ hd_tbl := List.mem_filter.mpr ⟨List.mem_of_getElem? h, hg⟩
abbrev hd_M : Type := Nat → Nat → Int32
abbrev hd_N : Type := Nat → Nat → Int64
abbrev hd_L : Type := List (Option Value)
abbrev hd_S : Type := (Nat × Nat) ⊕ ((Nat × List Nat) ⊕ (Nat × List (Nat × Nat)))
abbrev hd_G : Type := va_G × (Nat → Nat) × (Nat → ClassId)
/-- an instruction, where the next one lies, two numbers, its constants, its cases, the places of its words -/
abbrev hd_O : Type := Instr × Nat × Nat × Nat × Int32 × Int64 × List (Int32 × Nat) × List Nat
abbrev hd_Q : Type := Option Value → hd_M → hd_N → Prop
abbrev hd_cl : List vw_C := [(RX0, TX0, 10), (RX1, TX1, 3), (RX2, TX2, 3), (RX3, TX3, 3), (RX4, TX4, 10), (RX5, TX5, 10), (RX6, TX6, 28)]
abbrev hd_tf : List FieldType := [.int, .byte, .boolean, .object "HamperDays$Image", .object "HamperDays$Sheet"]
def hd_tys (dA : Nat → ClassId) : List (ClassId × FieldType) := [(dA 0, .int), (dA 1, .byte), (dA 2, .boolean), (dA 3, .object "HamperDays$Image"), (dA 4, .object "HamperDays$Sheet")]
/-- every cell of the two systems; a field is 0 (an int), 1 (a long), or 2 with the number of the cell that it holds -/
def hd_shp : List hd_S :=
  [.inr (.inr (5, [(2, 1), (2, 7), (2, 13), (2, 16), (2, 18), (2, 39), (2, 48), (2, 49), (2, 50), (0, 0)])),
   .inr (.inr (0, [(2, 2), (2, 3), (2, 4), (2, 5), (2, 6), (0, 0), (0, 0), (0, 0), (0, 0), (0, 0)])), .inl (0, 7), .inl (0, 7), .inl (0, 7), .inl (0, 7), .inl (0, 7),
   .inr (.inr (0, [(2, 8), (2, 9), (2, 10), (2, 11), (2, 12), (0, 0), (0, 0), (0, 0), (0, 0), (0, 0)])), .inl (0, 7), .inl (0, 7), .inl (0, 7), .inl (0, 7), .inl (0, 7),
   .inr (.inr (2, [(2, 14), (2, 15), (0, 0)])), .inl (0, 6), .inl (0, 6),
   .inr (.inr (4, [(2, 17), (0, 0), (0, 0), (0, 0), (0, 0), (0, 0), (0, 0), (0, 0), (0, 0), (0, 0)])), .inl (1, 160),
   .inr (.inl (3, [19, 29])),
   .inr (.inr (1, [(2, 20), (2, 26), (0, 0)])),
   .inr (.inr (0, [(2, 21), (2, 22), (2, 23), (2, 24), (2, 25), (0, 0), (0, 0), (0, 0), (0, 0), (0, 0)])), .inl (0, 7), .inl (0, 7), .inl (0, 7), .inl (0, 7), .inl (0, 7),
   .inr (.inr (2, [(2, 27), (2, 28), (0, 0)])), .inl (0, 6), .inl (0, 6),
   .inr (.inr (1, [(2, 30), (2, 36), (0, 0)])),
   .inr (.inr (0, [(2, 31), (2, 32), (2, 33), (2, 34), (2, 35), (0, 0), (0, 0), (0, 0), (0, 0), (0, 0)])), .inl (0, 7), .inl (0, 7), .inl (0, 7), .inl (0, 7), .inl (0, 7),
   .inr (.inr (2, [(2, 37), (2, 38), (0, 0)])), .inl (0, 6), .inl (0, 6),
   .inr (.inl (4, [40, 42, 44, 46])),
   .inr (.inr (3, [(2, 41), (0, 0), (0, 0)])), .inl (0, 40), .inr (.inr (3, [(2, 43), (0, 0), (0, 0)])), .inl (0, 40), .inr (.inr (3, [(2, 45), (0, 0), (0, 0)])), .inl (0, 40), .inr (.inr (3, [(2, 47), (0, 0), (0, 0)])), .inl (0, 40),
   .inl (0, 5), .inl (0, 5), .inl (0, 210),
   .inr (.inr (6, [(2, 52), (2, 53), (2, 54), (2, 55), (0, 0), (0, 0), (2, 56), (0, 0), (0, 0), (0, 0), (0, 0), (0, 0), (0, 0), (0, 0), (0, 0), (0, 0), (2, 57), (2, 58), (1, 0), (1, 0), (1, 0), (2, 59), (2, 60), (2, 61), (2, 62), (2, 63), (2, 64), (0, 0)])),
   .inl (0, 138), .inl (0, 46), .inl (2, 2), .inl (0, 46), .inl (0, 160), .inl (0, 5), .inl (0, 5), .inl (0, 21), .inl (0, 210), .inl (0, 4), .inl (0, 4), .inl (0, 160), .inl (0, 46)]
def hd_v (ad : Nat → Nat) : Value → Value
  | .ref k => .ref (ad k)
  | v => v
def hd_f (ad : Nat → Nat) (M : hd_M) (N : hd_N) (k j : Nat) (r : Nat × Nat) : Value := match r.1 with
  | 0 => .int (M k j)
  | 1 => .long (N k j)
  | _ => .ref (ad r.2)
def hd_e (G : hd_G) (M : hd_M) (N : hd_N) (k : Nat) : hd_S → Nat × va_E
  | .inl (t, n) => (G.2.1 k, .inl (G.2.2 t, n, .inl (M k)))
  | .inr (.inl (t, rs)) => (G.2.1 k, .inl (G.2.2 t, rs.length, .inr (.inr (.inr (.inr (fun i => rs[i]?.map G.2.1))))))
  | .inr (.inr (ci, fs)) => (G.2.1 k, .inr (ci, fs.mapIdx (hd_f G.2.1 M N k)))
def hd_w (G : hd_G) (M : hd_M) (N : hd_N) : va_W := hd_shp.mapIdx (hd_e G M N)
def hd_u (M : hd_M) (k j : Nat) (x : Int32) : hd_M := fun a b => if a = k ∧ b = j then x else M a b
def hd_uN (N : hd_N) (k j : Nat) (x : Int64) : hd_N := fun a b => if a = k ∧ b = j then x else N a b
theorem hd_v_cat (ad : Nat → Nat) (v : Value) : (hd_v ad v).category = v.category := by cases v <;> rfl
theorem hd_w_at {G : hd_G} {M : hd_M} {N : hd_N} {k : Nat} {sh : hd_S} (h : hd_shp[k]? = some sh) : (hd_w G M N)[k]? = some (hd_e G M N k sh) := by
  unfold hd_w
  rw [List.getElem?_mapIdx, h]
  rfl
theorem hd_e_ad (G : hd_G) (M : hd_M) (N : hd_N) (k : Nat) (sh : hd_S) : (hd_e G M N k sh).1 = G.2.1 k := by
  rcases sh with ⟨t, n⟩ | ⟨t, rs⟩ | ⟨ci, fs⟩ <;> rfl
/-- the world's cells apart and of a kind, whatever they hold -/
theorem hd_D_any {G : hd_G} {A : Nat → Prop} {M M' : hd_M} {N N' : hd_N} (h : va_D A (hd_w G M N)) : va_D A (hd_w G M' N') := by
  have key : ∀ (i : Nat) (p : Nat × va_E), (hd_w G M' N')[i]? = some p → ∃ q : Nat × va_E, (hd_w G M N)[i]? = some q ∧ q.1 = p.1 := by
    intro i p hp
    unfold hd_w at hp ⊢
    rw [List.getElem?_mapIdx] at hp ⊢
    cases hs : hd_shp[i]? with
    | none => rw [hs] at hp; cases hp
    | some sh =>
      rw [hs] at hp
      cases hp
      exact ⟨_, rfl, by rw [hd_e_ad, hd_e_ad]⟩
  refine ⟨fun i j p q hp hq e => ?_, fun k q hq => ?_⟩
  · obtain ⟨p', h1, e1⟩ := key i p hp
    obtain ⟨q', h2, e2⟩ := key j q hq
    exact h.1 i j p' q' h1 h2 (by rw [e1, e2, e])
  · obtain ⟨q', h1, e1⟩ := key k q hq
    rw [← e1]
    exact h.2 k q' h1
theorem hd_w_set {G : hd_G} {M M' : hd_M} {N N' : hd_N} {k : Nat} {sh : hd_S} (h : hd_shp[k]? = some sh) (ho : ∀ a b, a ≠ k → M' a b = M a b) (hoN : ∀ a b, a ≠ k → N' a b = N a b) : (hd_w G M N).set k (hd_e G M' N' k sh) = hd_w G M' N' := by
  apply List.ext_getElem?
  intro i
  rw [List.getElem?_set]
  unfold hd_w
  rw [List.length_mapIdx, List.getElem?_mapIdx, List.getElem?_mapIdx]
  by_cases hi : k = i
  · subst hi
    rw [if_pos rfl, h]
    have hl : k < hd_shp.length := by
      rcases Nat.lt_or_ge k hd_shp.length with q | q
      · exact q
      · rw [List.getElem?_eq_none q] at h; cases h
    rw [if_pos hl]
    rfl
  · rw [if_neg hi]
    cases hs : hd_shp[i]? with
    | none => rfl
    | some s2 =>
      have hne : i ≠ k := fun e => hi e.symm
      have e1 : M' i = M i := funext fun b => ho i b hne
      rcases s2 with ⟨t, n⟩ | ⟨t, rs⟩ | ⟨ci, fs⟩
      · show some (hd_e G M N i _) = some (hd_e G M' N' i _)
        simp only [hd_e, e1]
      · rfl
      · show some (hd_e G M N i _) = some (hd_e G M' N' i _)
        simp only [hd_e]
        have e2 : hd_f G.2.1 M N i = hd_f G.2.1 M' N' i := by
          funext j r
          obtain ⟨z, r⟩ := r
          match z with
          | 0 => simp only [hd_f, e1]
          | 1 => simp only [hd_f, hoN i j hne]
          | z + 2 => rfl
        rw [e2]
theorem hd_fs_set {ad : Nat → Nat} {M : hd_M} {N : hd_N} {k j : Nat} {fs : List (Nat × Nat)} {r0 : Nat} {x : Int32} (h : fs[j]? = some (0, r0)) : (fs.mapIdx (hd_f ad M N k)).set j (.int x) = fs.mapIdx (hd_f ad (hd_u M k j x) N k) := by
  apply List.ext_getElem?
  intro i
  rw [List.getElem?_set, List.length_mapIdx, List.getElem?_mapIdx, List.getElem?_mapIdx]
  by_cases hi : j = i
  · subst hi
    have hl : j < fs.length := by
      rcases Nat.lt_or_ge j fs.length with q | q
      · exact q
      · rw [List.getElem?_eq_none q] at h; cases h
    rw [if_pos rfl, if_pos hl, h]
    simp [hd_f, hd_u]
  · rw [if_neg hi]
    cases hs : fs[i]? with
    | none => rfl
    | some r =>
      obtain ⟨z, r⟩ := r
      match z with
      | 0 => simp [hd_f, hd_u, show ¬ i = j from fun e => hi e.symm]
      | 1 => rfl
      | z + 2 => rfl
theorem hd_fs_setN {ad : Nat → Nat} {M : hd_M} {N : hd_N} {k j : Nat} {fs : List (Nat × Nat)} {r0 : Nat} {x : Int64} (h : fs[j]? = some (1, r0)) : (fs.mapIdx (hd_f ad M N k)).set j (.long x) = fs.mapIdx (hd_f ad M (hd_uN N k j x) k) := by
  apply List.ext_getElem?
  intro i
  rw [List.getElem?_set, List.length_mapIdx, List.getElem?_mapIdx, List.getElem?_mapIdx]
  by_cases hi : j = i
  · subst hi
    have hl : j < fs.length := by
      rcases Nat.lt_or_ge j fs.length with q | q
      · exact q
      · rw [List.getElem?_eq_none q] at h; cases h
    rw [if_pos rfl, if_pos hl, h]
    simp [hd_f, hd_uN]
  · rw [if_neg hi]
    cases hs : fs[i]? with
    | none => rfl
    | some r =>
      obtain ⟨z, r⟩ := r
      match z with
      | 0 => rfl
      | 1 => simp [hd_f, hd_uN, show ¬ i = j from fun e => hi e.symm]
      | z + 2 => rfl
theorem hd_u_row (M : hd_M) (k j : Nat) (x : Int32) : hd_u M k j x k = upd (M k) j x := by
  funext b
  simp [hd_u, upd]
/-! locals, by place -/
def hd_as (ad : Nat → Nat) (L : hd_L) : List (Nat × Value) := (List.range L.length).filterMap (fun i => match L[i]? with | some (some v) => some (i, hd_v ad v) | _ => none)
theorem hd_as_mem {ad : Nat → Nat} {L : hd_L} {q : Nat × Value} : q ∈ hd_as ad L ↔ ∃ v, L[q.1]? = some (some v) ∧ q.2 = hd_v ad v := by
  unfold hd_as
  rw [List.mem_filterMap]
  constructor
  · rintro ⟨i, -, h⟩
    split at h
    · next v hv => cases h; exact ⟨v, hv, rfl⟩
    · cases h
  · rintro ⟨v, hv, e⟩
    refine ⟨q.1, ?_, ?_⟩
    · rw [List.mem_range]
      rcases Nat.lt_or_ge q.1 L.length with h | h
      · exact h
      · rw [List.getElem?_eq_none h] at hv; cases hv
    · rw [hv]
      simp only [← e]
def hd_lo (ls : Array Slot) (nL : Nat) (ad : Nat → Nat) (L : hd_L) : Prop := L.length ≤ nL ∧ lv_has ls nL (hd_as ad L)
theorem hd_lo.at {ls : Array Slot} {nL : Nat} {ad : Nat → Nat} {L : hd_L} (h : hd_lo ls nL ad L) {i : Nat} {v : Value} (hi : L[i]? = some (some v)) : ls[i]? = some (.val (hd_v ad v)) := h.2.2.2 (i, hd_v ad v) (hd_as_mem.mpr ⟨v, hi, rfl⟩)
theorem hd_lo.of {ls : Array Slot} {nL : Nat} {ad : Nat → Nat} {L : hd_L} {lv : List (Nat × Value)} (hL : L.length ≤ nL) (h : lv_has ls nL lv) (hs : ∀ (i : Nat) (v : Value), L[i]? = some (some v) → (i, hd_v ad v) ∈ lv) : hd_lo ls nL ad L := by
  refine ⟨hL, h.1, h.2.1, fun q hq => ?_⟩
  obtain ⟨v, hv, e⟩ := hd_as_mem.mp hq
  have := h.2.2 _ (hs q.1 v hv)
  rw [e]
  exact this
/-- a frame may know less of its locals -/
theorem hd_lo.less {ls : Array Slot} {nL : Nat} {ad : Nat → Nat} {L L' : hd_L} (h : hd_lo ls nL ad L) (hl : L'.length ≤ L.length) (hs : ∀ (i : Nat) (v : Value), L'[i]? = some (some v) → L[i]? = some (some v)) : hd_lo ls nL ad L' :=
  hd_lo.of (Nat.le_trans hl h.1) h.2 (fun i v hv => hd_as_mem.mpr ⟨v, hs i v hv, rfl⟩)
theorem hd_w_set2 {G : hd_G} {M M' : hd_M} {N N' : hd_N} {k : Nat} {sh : hd_S} {x : Nat × va_E} (hx : x = hd_e G M' N' k sh) (h : hd_shp[k]? = some sh) (ho : ∀ a b, a ≠ k → M' a b = M a b) (hoN : ∀ a b, a ≠ k → N' a b = N a b) : (hd_w G M N).set k x = hd_w G M' N' := by
  rw [hx]
  exact hd_w_set h ho hoN
end
section
/-! WHAT A FRAME COMES TO: the judgement, and a row for each instruction -/
/-- the literals of the system: at place i of java/lang/String's, at 1000 + i in the addresses; their bytes at 1100 + i -/
def hd_tx : List (Nat × String) := [(105, "plain"), (111, "glass"), (113, "shower"), (115, "view"), (117, "mood"), (118, "tire")]
/-- a method: its own class, its name, its bytes, locals, answer, height above the leaves, instructions -/
abbrev hd_I : Type := String × MethodName × ByteArray × Nat × Option FieldType × Nat × List (Nat × hd_O)
def hd_rm (d : Nat) : Room := { frames := d, cells := 0, slots := 0, locals := 36 * d }
/-- the surroundings of a run: strings and statics that no one writes -/
def hd_X (G : hd_G) (A : Nat → Prop) (s : State) : Prop := va_Z "java/lang/String" "COMPACT_STRINGS" "Z" (.int 1) A s s.heap ∧ vk_S 6 [5, 5, 6, 4, 4, 4] [[112, 108, 97, 105, 110], [103, 108, 97, 115, 115], [115, 104, 111, 119, 101, 114], [118, 105, 101, 119], [109, 111, 111, 100], [116, 105, 114, 101]] (fun i => G.2.1 (1000 + i)) (fun i => G.2.1 (1100 + i)) A s s.heap ∧ ∀ i : Nat, ∀ q : Nat × String, hd_tx[i]? = some q → vk_R RX4 q.1 q.2 (G.2.1 (1000 + i)) s
/-- the machine, the method's own facts, the words, the classes -/
def hd_C (I : hd_I) (p : Program) (s : State) (m : MethodId) (args : Array Value) (meth : Method) (c : Code) (G : hd_G) (A : Nat → Prop) : Prop :=
  p.tables.exec = Jvm.exec ∧ c.code = I.2.2.1 ∧ c.maxLocals = I.2.2.2.1 ∧ meth.sig.returnType = I.2.2.2.2.1 ∧ s.vm.findClass I.1 = some m.cls ∧ (∀ w ∈ hd_tbl, w.before args s = true) ∧ meth.locks = false ∧ va_K G.1 hd_cl (hd_tys G.2.2) s ∧ hd_X G A s
/-- the heap -/
def hd_H (G : hd_G) (A : Nat → Prop) (M : hd_M) (N : hd_N) (s : State) (H : Heap) (locs : List Loc) : Prop :=
  va_P G.1 hd_cl (hd_w G M N) H ∧ va_D A (hd_w G M N) ∧ va_S A s.heap H locs
/-- a method's end -/
def hd_E (G : hd_G) (A : Nat → Prop) (Q : hd_Q) : Array Value → State → Outcome → State → Prop := fun _ st oc t =>
  (∃ (r : Option Value) (M : hd_M) (N : hd_N), oc = .returned (r.map (hd_v G.2.1)) ∧ Q r M N ∧ va_P G.1 hd_cl (hd_w G M N) t.heap) ∧ va_F A st t
def hd_Go (I : hd_I) (pc : Nat) (lv : hd_L) (st : List Value) (M : hd_M) (N : hd_N) (Q : hd_Q) : Prop :=
  ∀ (p : Program) (l : Launch) (e : Env) (s : State) (m : MethodId) (args : Array Value) (below : List Frame) (meth : Method) (c : Code) (H : Heap) (locs : List Loc) (G : hd_G) (A : Nat → Prop) (ls : Array Slot),
    hd_C I p s m args meth c G A → hd_H G A M N s H locs → hd_lo ls I.2.2.2.1 G.2.1 lv →
    W p l e (hd_rm I.2.2.2.2.2.1) s m args below meth c H locs 0 0 (MQ below (hd_E G A Q) args s 0 0 A) (F0 m pc ls (st.map (hd_v G.2.1)))
section
variable {I : hd_I} {pc : Nat} {lv : hd_L} {st : List Value} {M : hd_M} {N : hd_N} {Q : hd_Q}
/-- a frame may know less -/
theorem hd_Go.less {lv' : hd_L} (hl : lv'.length ≤ lv.length) (hs : ∀ (i : Nat) (v : Value), lv'[i]? = some (some v) → lv[i]? = some (some v)) (h : hd_Go I pc lv' st M N Q) : hd_Go I pc lv st M N Q :=
  fun p l e s m args below meth c H locs G A ls C hH hL => h p l e s m args below meth c H locs G A ls C hH (hL.less hl hs)
theorem hd_Go.post {Q' : hd_Q} (hq : ∀ r M N, Q' r M N → Q r M N) (h : hd_Go I pc lv st M N Q') : hd_Go I pc lv st M N Q := by
  intro p l e s m args below meth c H locs G A ls C hH hL T hT X
  obtain ⟨t, a, o, h1, h2, ⟨⟨r, M1, N1, h3, h4, h5⟩, h6⟩, h7⟩ := h p l e s m args below meth c H locs G A ls C hH hL T hT X
  exact ⟨t, a, o, h1, h2, ⟨⟨r, M1, N1, h3, hq _ _ _ h4, h5⟩, h6⟩, h7⟩
theorem hd_iconst {n : Int} {v : Int32} (hd : decode I.2.2.1 pc = .ok (.iconst n, 1)) (hv : Int32.ofInt n = v) (h : hd_Go I (pc + 1) lv (.int v :: st) M N Q) : hd_Go I pc lv st M N Q :=
  fun p l e s m args below meth c H locs G A ls C hH hL => lv_iconst C.1 C.2.1 hd hv (h p l e s m args below meth c H locs G A ls C hH hL)
theorem hd_bipush {n : Int} {v : Int32} (hd : decode I.2.2.1 pc = .ok (.bipush n, 2)) (hv : (Int8.ofInt n).toInt32 = v) (h : hd_Go I (pc + 2) lv (.int v :: st) M N Q) : hd_Go I pc lv st M N Q :=
  fun p l e s m args below meth c H locs G A ls C hH hL => lv_bipush C.1 C.2.1 hd hv (h p l e s m args below meth c H locs G A ls C hH hL)
theorem hd_sipush {n : Int} {v : Int32} (hd : decode I.2.2.1 pc = .ok (.sipush n, 3)) (hv : (Int16.ofInt n).toInt32 = v) (h : hd_Go I (pc + 3) lv (.int v :: st) M N Q) : hd_Go I pc lv st M N Q :=
  fun p l e s m args below meth c H locs G A ls C hH hL => lv_sipush C.1 C.2.1 hd hv (h p l e s m args below meth c H locs G A ls C hH hL)
theorem hd_lconst {n : Fin 2} {v : Int64} (hd : decode I.2.2.1 pc = .ok (.lconst n, 1)) (hv : Int64.ofNat (n : Nat) = v) (h : hd_Go I (pc + 1) lv (.long v :: st) M N Q) : hd_Go I pc lv st M N Q :=
  fun p l e s m args below meth c H locs G A ls C hH hL => lv_lconst C.1 C.2.1 hd hv (h p l e s m args below meth c H locs G A ls C hH hL)
theorem hd_ldc {index : Nat} {v : Int32} (hd : decode I.2.2.1 pc = .ok (.ldc index, 2)) (hc : Cond.constant I.1 index v ∈ hd_tbl) (h : hd_Go I (pc + 2) lv (.int v :: st) M N Q) : hd_Go I pc lv st M N Q :=
  fun p l e s m args below meth c H locs G A ls C hH hL => lv_ldc C.1 C.2.1 C.2.2.2.2.1 (C.2.2.2.2.2.1 _ hc) hd (h p l e s m args below meth c H locs G A ls C hH hL)
theorem hd_ldcw {index : Nat} {v : Int32} (hd : decode I.2.2.1 pc = .ok (.ldc_w index, 3)) (hc : Cond.constant I.1 index v ∈ hd_tbl) (h : hd_Go I (pc + 3) lv (.int v :: st) M N Q) : hd_Go I pc lv st M N Q :=
  fun p l e s m args below meth c H locs G A ls C hH hL => lv_ldcw C.1 C.2.1 C.2.2.2.2.1 (C.2.2.2.2.2.1 _ hc) hd (h p l e s m args below meth c H locs G A ls C hH hL)
theorem hd_ldc2 {index : Nat} {v : Int64} (hd : decode I.2.2.1 pc = .ok (.ldc2_w index, 3)) (hc : Cond.constantLong I.1 index v ∈ hd_tbl) (h : hd_Go I (pc + 3) lv (.long v :: st) M N Q) : hd_Go I pc lv st M N Q :=
  fun p l e s m args below meth c H locs G A ls C hH hL => lv_ldc2 C.1 C.2.1 C.2.2.2.2.1 (C.2.2.2.2.2.1 _ hc) hd (h p l e s m args below meth c H locs G A ls C hH hL)
theorem hd_iload_n {k : Fin 4} {i : Nat} {x : Int32} (hd : decode I.2.2.1 pc = .ok (.iload_n k, 1)) (hi : (k : Nat) = i) (hx : lv[i]? = some (some (.int x))) (h : hd_Go I (pc + 1) lv (.int x :: st) M N Q) : hd_Go I pc lv st M N Q :=
  fun p l e s m args below meth c H locs G A ls C hH hL => lv_iload_n C.1 C.2.1 hd hi (hL.at hx) (h p l e s m args below meth c H locs G A ls C hH hL)
theorem hd_iload {i : Nat} {x : Int32} (hd : decode I.2.2.1 pc = .ok (.iload i, 2)) (hx : lv[i]? = some (some (.int x))) (h : hd_Go I (pc + 2) lv (.int x :: st) M N Q) : hd_Go I pc lv st M N Q :=
  fun p l e s m args below meth c H locs G A ls C hH hL => lv_iload C.1 C.2.1 hd (hL.at hx) (h p l e s m args below meth c H locs G A ls C hH hL)
theorem hd_lload_n {k : Fin 4} {i : Nat} {x : Int64} (hd : decode I.2.2.1 pc = .ok (.lload_n k, 1)) (hi : (k : Nat) = i) (hx : lv[i]? = some (some (.long x))) (h : hd_Go I (pc + 1) lv (.long x :: st) M N Q) : hd_Go I pc lv st M N Q :=
  fun p l e s m args below meth c H locs G A ls C hH hL => lv_lload_n C.1 C.2.1 hd hi (hL.at hx) (h p l e s m args below meth c H locs G A ls C hH hL)
theorem hd_lload {i : Nat} {x : Int64} (hd : decode I.2.2.1 pc = .ok (.lload i, 2)) (hx : lv[i]? = some (some (.long x))) (h : hd_Go I (pc + 2) lv (.long x :: st) M N Q) : hd_Go I pc lv st M N Q :=
  fun p l e s m args below meth c H locs G A ls C hH hL => lv_lload C.1 C.2.1 hd (hL.at hx) (h p l e s m args below meth c H locs G A ls C hH hL)
theorem hd_aload_n {k : Fin 4} {i : Nat} {x : Nat} (hd : decode I.2.2.1 pc = .ok (.aload_n k, 1)) (hi : (k : Nat) = i) (hx : lv[i]? = some (some (.ref x))) (h : hd_Go I (pc + 1) lv (.ref x :: st) M N Q) : hd_Go I pc lv st M N Q :=
  fun p l e s m args below meth c H locs G A ls C hH hL => lv_aload_n C.1 C.2.1 hd hi (hL.at hx) (h p l e s m args below meth c H locs G A ls C hH hL)
theorem hd_aload {i : Nat} {x : Nat} (hd : decode I.2.2.1 pc = .ok (.aload i, 2)) (hx : lv[i]? = some (some (.ref x))) (h : hd_Go I (pc + 2) lv (.ref x :: st) M N Q) : hd_Go I pc lv st M N Q :=
  fun p l e s m args below meth c H locs G A ls C hH hL => lv_aload C.1 C.2.1 hd (hL.at hx) (h p l e s m args below meth c H locs G A ls C hH hL)
/-- a local is set: what is known behind it -/
theorem hd_lo.set {ls : Array Slot} {nL : Nat} {ad : Nat → Nat} {lv : hd_L} {i : Nat} {v : Value} (hL : hd_lo ls nL ad lv) (hp : ∀ u : Value, lv[i - 1]? = some (some u) → 0 < i → u.category ≠ 2) {ls' : Array Slot} (h : lv_has ls' nL ((i, hd_v ad v) :: (hd_as ad lv).filter (fun q => !(q.1 == i) && !(q.1 + 1 == i && q.2.category == 2)))) : hd_lo ls' nL ad (lv.set i (some v)) := by
  refine hd_lo.of (by rw [List.length_set]; exact hL.1) h (fun j u hu => ?_)
  rw [List.getElem?_set] at hu
  by_cases hj : i = j
  · subst hj
    rw [if_pos rfl] at hu
    split at hu
    · cases hu; exact List.mem_cons_self
    · cases hu
  · rw [if_neg hj] at hu
    refine List.mem_cons_of_mem _ (List.mem_filter.mpr ⟨hd_as_mem.mpr ⟨u, hu, rfl⟩, ?_⟩)
    have h1 : (j == i) = false := beq_eq_false_iff_ne.mpr (fun e => hj e.symm)
    have h2 : ((j + 1 == i) && ((hd_v ad u).category == 2)) = false := by
      by_cases hji : j + 1 = i
      · have hc := hp u (by rw [show i - 1 = j by omega]; exact hu) (by omega)
        rw [hd_v_cat]
        simp [hc]
      · simp [hji]
    simp [h1, h2]
theorem hd_lo.set2 {ls : Array Slot} {nL : Nat} {ad : Nat → Nat} {lv : hd_L} {i : Nat} {v : Value} (hL : hd_lo ls nL ad lv) (hp : ∀ u : Value, lv[i - 1]? = some (some u) → 0 < i → u.category ≠ 2) {ls' : Array Slot} (h : lv_has ls' nL ((i, hd_v ad v) :: (hd_as ad lv).filter (fun q => !(q.1 == i) && (!(q.1 == i + 1) && !(q.1 + 1 == i && q.2.category == 2))))) : hd_lo ls' nL ad ((lv.set i (some v)).set (i + 1) none) := by
  refine hd_lo.of (by rw [List.length_set, List.length_set]; exact hL.1) h (fun j u hu => ?_)
  rw [List.getElem?_set] at hu
  by_cases hk : i + 1 = j
  · rw [if_pos hk] at hu
    split at hu <;> cases hu
  rw [if_neg hk, List.getElem?_set] at hu
  by_cases hj : i = j
  · subst hj
    rw [if_pos rfl] at hu
    split at hu
    · cases hu; exact List.mem_cons_self
    · cases hu
  · rw [if_neg hj] at hu
    refine List.mem_cons_of_mem _ (List.mem_filter.mpr ⟨hd_as_mem.mpr ⟨u, hu, rfl⟩, ?_⟩)
    have h1 : (j == i) = false := beq_eq_false_iff_ne.mpr (fun e => hj e.symm)
    have h3 : (j == i + 1) = false := beq_eq_false_iff_ne.mpr (fun e => hk e.symm)
    have h2 : ((j + 1 == i) && ((hd_v ad u).category == 2)) = false := by
      by_cases hji : j + 1 = i
      · have hc := hp u (by rw [show i - 1 = j by omega]; exact hu) (by omega)
        rw [hd_v_cat]
        simp [hc]
      · simp [hji]
    simp [h1, h2, h3]
theorem hd_istore_n {k : Fin 4} {i : Nat} {x : Int32} (hd : decode I.2.2.1 pc = .ok (.istore_n k, 1)) (hi : (k : Nat) = i) (hn : i < lv.length) (hp : ∀ u : Value, lv[i - 1]? = some (some u) → 0 < i → u.category ≠ 2) (h : hd_Go I (pc + 1) (lv.set i (some (.int x))) st M N Q) : hd_Go I pc lv (.int x :: st) M N Q :=
  fun p l e s m args below meth c H locs G A ls C hH hL => lv_istore_n C.1 C.2.1 hd hi hL.2 (Nat.lt_of_lt_of_le hn hL.1) rfl (fun ls' h' => h p l e s m args below meth c H locs G A ls' C hH (hL.set hp h'))
theorem hd_istore {i : Nat} {x : Int32} (hd : decode I.2.2.1 pc = .ok (.istore i, 2)) (hn : i < lv.length) (hp : ∀ u : Value, lv[i - 1]? = some (some u) → 0 < i → u.category ≠ 2) (h : hd_Go I (pc + 2) (lv.set i (some (.int x))) st M N Q) : hd_Go I pc lv (.int x :: st) M N Q :=
  fun p l e s m args below meth c H locs G A ls C hH hL => lv_istore C.1 C.2.1 hd hL.2 (Nat.lt_of_lt_of_le hn hL.1) rfl (fun ls' h' => h p l e s m args below meth c H locs G A ls' C hH (hL.set hp h'))
theorem hd_astore_n {k : Fin 4} {i : Nat} {x : Nat} (hd : decode I.2.2.1 pc = .ok (.astore_n k, 1)) (hi : (k : Nat) = i) (hn : i < lv.length) (hp : ∀ u : Value, lv[i - 1]? = some (some u) → 0 < i → u.category ≠ 2) (h : hd_Go I (pc + 1) (lv.set i (some (.ref x))) st M N Q) : hd_Go I pc lv (.ref x :: st) M N Q :=
  fun p l e s m args below meth c H locs G A ls C hH hL => lv_astore_n C.1 C.2.1 hd hi hL.2 (Nat.lt_of_lt_of_le hn hL.1) rfl (fun ls' h' => h p l e s m args below meth c H locs G A ls' C hH (hL.set (v := .ref x) hp h'))
theorem hd_astore {i : Nat} {x : Nat} (hd : decode I.2.2.1 pc = .ok (.astore i, 2)) (hn : i < lv.length) (hp : ∀ u : Value, lv[i - 1]? = some (some u) → 0 < i → u.category ≠ 2) (h : hd_Go I (pc + 2) (lv.set i (some (.ref x))) st M N Q) : hd_Go I pc lv (.ref x :: st) M N Q :=
  fun p l e s m args below meth c H locs G A ls C hH hL => lv_astore C.1 C.2.1 hd hL.2 (Nat.lt_of_lt_of_le hn hL.1) rfl (fun ls' h' => h p l e s m args below meth c H locs G A ls' C hH (hL.set (v := .ref x) hp h'))
theorem hd_lstore_n {k : Fin 4} {i : Nat} {x : Int64} (hd : decode I.2.2.1 pc = .ok (.lstore_n k, 1)) (hi : (k : Nat) = i) (hn : i + 1 < lv.length) (hp : ∀ u : Value, lv[i - 1]? = some (some u) → 0 < i → u.category ≠ 2) (h : hd_Go I (pc + 1) ((lv.set i (some (.long x))).set (i + 1) none) st M N Q) : hd_Go I pc lv (.long x :: st) M N Q :=
  fun p l e s m args below meth c H locs G A ls C hH hL => lv_lstore_n C.1 C.2.1 hd hi hL.2 (Nat.lt_of_lt_of_le hn hL.1) rfl (fun ls' h' => h p l e s m args below meth c H locs G A ls' C hH (hL.set2 (v := .long x) hp h'))
theorem hd_lstore {i : Nat} {x : Int64} (hd : decode I.2.2.1 pc = .ok (.lstore i, 2)) (hn : i + 1 < lv.length) (hp : ∀ u : Value, lv[i - 1]? = some (some u) → 0 < i → u.category ≠ 2) (h : hd_Go I (pc + 2) ((lv.set i (some (.long x))).set (i + 1) none) st M N Q) : hd_Go I pc lv (.long x :: st) M N Q :=
  fun p l e s m args below meth c H locs G A ls C hH hL => lv_lstore C.1 C.2.1 hd hL.2 (Nat.lt_of_lt_of_le hn hL.1) rfl (fun ls' h' => h p l e s m args below meth c H locs G A ls' C hH (hL.set2 (v := .long x) hp h'))
theorem hd_iinc {i : Nat} {n : Int} {x v : Int32} (hd : decode I.2.2.1 pc = .ok (.iinc i n, 3)) (hx : lv[i]? = some (some (.int x))) (hv : Int32.ofInt n = v) (hp : ∀ u : Value, lv[i - 1]? = some (some u) → 0 < i → u.category ≠ 2) (h : hd_Go I (pc + 3) (lv.set i (some (.int (x + v)))) st M N Q) : hd_Go I pc lv st M N Q := by
  intro p l e s m args below meth c H locs G A ls C hH hL
  have hm : (i, hd_v G.2.1 (.int x)) ∈ hd_as G.2.1 lv := hd_as_mem.mpr ⟨_, hx, rfl⟩
  obtain ⟨k, hk⟩ := List.mem_iff_getElem?.mp hm
  have hn : i < lv.length := by
    rcases Nat.lt_or_ge i lv.length with q | q
    · exact q
    · rw [List.getElem?_eq_none q] at hx; cases hx
  exact lv_iinc C.1 C.2.1 hd hL.2 (k := k) hk (by rw [hv]) (Nat.lt_of_lt_of_le hn hL.1) rfl (fun ls' h' => h p l e s m args below meth c H locs G A ls' C hH (hL.set (v := .int (x + v)) hp h'))
end
end
section
/-! THE JUDGEMENT'S ROWS, GONE ON: numbers, the stack, jumps, fields, rows of cells, ends -/
section
variable {I : hd_I} {pc : Nat} {lv : hd_L} {st : List Value} {M : hd_M} {N : hd_N} {Q : hd_Q}
theorem hd_iadd {x y : Int32} (hd : decode I.2.2.1 pc = .ok (.iadd, 1)) (h : hd_Go I (pc + 1) lv (.int (x + y) :: st) M N Q) : hd_Go I pc lv (.int y :: .int x :: st) M N Q :=
  fun p l e s m args below meth c H locs G A ls C hH hL => lv_iadd C.1 C.2.1 hd (h p l e s m args below meth c H locs G A ls C hH hL)
theorem hd_isub {x y : Int32} (hd : decode I.2.2.1 pc = .ok (.isub, 1)) (h : hd_Go I (pc + 1) lv (.int (x - y) :: st) M N Q) : hd_Go I pc lv (.int y :: .int x :: st) M N Q :=
  fun p l e s m args below meth c H locs G A ls C hH hL => lv_isub C.1 C.2.1 hd (h p l e s m args below meth c H locs G A ls C hH hL)
theorem hd_imul {x y : Int32} (hd : decode I.2.2.1 pc = .ok (.imul, 1)) (h : hd_Go I (pc + 1) lv (.int (x * y) :: st) M N Q) : hd_Go I pc lv (.int y :: .int x :: st) M N Q :=
  fun p l e s m args below meth c H locs G A ls C hH hL => lv_imul C.1 C.2.1 hd (h p l e s m args below meth c H locs G A ls C hH hL)
theorem hd_ishl {x y : Int32} (hd : decode I.2.2.1 pc = .ok (.ishl, 1)) (h : hd_Go I (pc + 1) lv (.int (x <<< (y &&& 31)) :: st) M N Q) : hd_Go I pc lv (.int y :: .int x :: st) M N Q :=
  fun p l e s m args below meth c H locs G A ls C hH hL => lv_ishl C.1 C.2.1 hd (h p l e s m args below meth c H locs G A ls C hH hL)
theorem hd_ishr {x y : Int32} (hd : decode I.2.2.1 pc = .ok (.ishr, 1)) (h : hd_Go I (pc + 1) lv (.int (x >>> (y &&& 31)) :: st) M N Q) : hd_Go I pc lv (.int y :: .int x :: st) M N Q :=
  fun p l e s m args below meth c H locs G A ls C hH hL => lv_ishr C.1 C.2.1 hd (h p l e s m args below meth c H locs G A ls C hH hL)
theorem hd_iand {x y : Int32} (hd : decode I.2.2.1 pc = .ok (.iand, 1)) (h : hd_Go I (pc + 1) lv (.int (x &&& y) :: st) M N Q) : hd_Go I pc lv (.int y :: .int x :: st) M N Q :=
  fun p l e s m args below meth c H locs G A ls C hH hL => lv_iand C.1 C.2.1 hd (h p l e s m args below meth c H locs G A ls C hH hL)
theorem hd_ior {x y : Int32} (hd : decode I.2.2.1 pc = .ok (.ior, 1)) (h : hd_Go I (pc + 1) lv (.int (x ||| y) :: st) M N Q) : hd_Go I pc lv (.int y :: .int x :: st) M N Q :=
  fun p l e s m args below meth c H locs G A ls C hH hL => lv_ior C.1 C.2.1 hd (h p l e s m args below meth c H locs G A ls C hH hL)
theorem hd_idiv {x y : Int32} (hd : decode I.2.2.1 pc = .ok (.idiv, 1)) (hn : ¬ y = 0) (h : hd_Go I (pc + 1) lv (.int (x / y) :: st) M N Q) : hd_Go I pc lv (.int y :: .int x :: st) M N Q :=
  fun p l e s m args below meth c H locs G A ls C hH hL => lv_idiv C.1 C.2.1 hd hn (h p l e s m args below meth c H locs G A ls C hH hL)
theorem hd_irem {x y : Int32} (hd : decode I.2.2.1 pc = .ok (.irem, 1)) (hn : ¬ y = 0) (h : hd_Go I (pc + 1) lv (.int (x - x / y * y) :: st) M N Q) : hd_Go I pc lv (.int y :: .int x :: st) M N Q :=
  fun p l e s m args below meth c H locs G A ls C hH hL => lv_irem C.1 C.2.1 hd hn (h p l e s m args below meth c H locs G A ls C hH hL)
theorem hd_iushr {x y : Int32} (hd : decode I.2.2.1 pc = .ok (.iushr, 1)) (h : hd_Go I (pc + 1) lv (.int (x.toUInt32 >>> (y.toUInt32 &&& Int32.toUInt32 31)).toInt32 :: st) M N Q) : hd_Go I pc lv (.int y :: .int x :: st) M N Q :=
  fun p l e s m args below meth c H locs G A ls C hH hL => lv_iushr C.1 C.2.1 hd rfl (h p l e s m args below meth c H locs G A ls C hH hL)
theorem hd_ineg {x : Int32} (hd : decode I.2.2.1 pc = .ok (.ineg, 1)) (h : hd_Go I (pc + 1) lv (.int (-x) :: st) M N Q) : hd_Go I pc lv (.int x :: st) M N Q :=
  fun p l e s m args below meth c H locs G A ls C hH hL => lv_ineg C.1 C.2.1 hd (h p l e s m args below meth c H locs G A ls C hH hL)
theorem hd_i2l {x : Int32} (hd : decode I.2.2.1 pc = .ok (.i2l, 1)) (h : hd_Go I (pc + 1) lv (.long x.toInt64 :: st) M N Q) : hd_Go I pc lv (.int x :: st) M N Q :=
  fun p l e s m args below meth c H locs G A ls C hH hL => lv_i2l C.1 C.2.1 hd rfl (h p l e s m args below meth c H locs G A ls C hH hL)
theorem hd_i2b {x : Int32} (hd : decode I.2.2.1 pc = .ok (.i2b, 1)) (h : hd_Go I (pc + 1) lv (.int x.toInt8.toInt32 :: st) M N Q) : hd_Go I pc lv (.int x :: st) M N Q :=
  fun p l e s m args below meth c H locs G A ls C hH hL => lv_i2b C.1 C.2.1 hd rfl (h p l e s m args below meth c H locs G A ls C hH hL)
theorem hd_i2s {x : Int32} (hd : decode I.2.2.1 pc = .ok (.i2s, 1)) (h : hd_Go I (pc + 1) lv (.int x.toInt16.toInt32 :: st) M N Q) : hd_Go I pc lv (.int x :: st) M N Q :=
  fun p l e s m args below meth c H locs G A ls C hH hL => lv_i2s C.1 C.2.1 hd rfl (h p l e s m args below meth c H locs G A ls C hH hL)
theorem hd_ladd {x y : Int64} (hd : decode I.2.2.1 pc = .ok (.ladd, 1)) (h : hd_Go I (pc + 1) lv (.long (x + y) :: st) M N Q) : hd_Go I pc lv (.long y :: .long x :: st) M N Q :=
  fun p l e s m args below meth c H locs G A ls C hH hL => lv_ladd C.1 C.2.1 hd (h p l e s m args below meth c H locs G A ls C hH hL)
theorem hd_lmul {x y : Int64} (hd : decode I.2.2.1 pc = .ok (.lmul, 1)) (h : hd_Go I (pc + 1) lv (.long (x * y) :: st) M N Q) : hd_Go I pc lv (.long y :: .long x :: st) M N Q :=
  fun p l e s m args below meth c H locs G A ls C hH hL => lv_lmul C.1 C.2.1 hd (h p l e s m args below meth c H locs G A ls C hH hL)
theorem hd_ldiv {x y : Int64} (hd : decode I.2.2.1 pc = .ok (.ldiv, 1)) (hn : ¬ y = 0) (h : hd_Go I (pc + 1) lv (.long (x / y) :: st) M N Q) : hd_Go I pc lv (.long y :: .long x :: st) M N Q :=
  fun p l e s m args below meth c H locs G A ls C hH hL => lv_ldiv C.1 C.2.1 hd hn (h p l e s m args below meth c H locs G A ls C hH hL)
theorem hd_lrem {x y : Int64} (hd : decode I.2.2.1 pc = .ok (.lrem, 1)) (hn : ¬ y = 0) (h : hd_Go I (pc + 1) lv (.long (x - x / y * y) :: st) M N Q) : hd_Go I pc lv (.long y :: .long x :: st) M N Q :=
  fun p l e s m args below meth c H locs G A ls C hH hL => lv_lrem C.1 C.2.1 hd hn (h p l e s m args below meth c H locs G A ls C hH hL)
theorem hd_lcmp {x y : Int64} (hd : decode I.2.2.1 pc = .ok (.lcmp, 1)) (h : hd_Go I (pc + 1) lv (.int (lg_cmp x y) :: st) M N Q) : hd_Go I pc lv (.long y :: .long x :: st) M N Q :=
  fun p l e s m args below meth c H locs G A ls C hH hL => W.lcmp C.1 C.2.1 hd (h p l e s m args below meth c H locs G A ls C hH hL)
theorem hd_dup {v : Value} (hd : decode I.2.2.1 pc = .ok (.dup, 1)) (hc : v.category = 1) (h : hd_Go I (pc + 1) lv (v :: v :: st) M N Q) : hd_Go I pc lv (v :: st) M N Q :=
  fun p l e s m args below meth c H locs G A ls C hH hL => lv_dup C.1 C.2.1 hd (by rw [hd_v_cat]; exact hc) (h p l e s m args below meth c H locs G A ls C hH hL)
theorem hd_pop {v : Value} (hd : decode I.2.2.1 pc = .ok (.pop, 1)) (hc : v.category = 1) (h : hd_Go I (pc + 1) lv st M N Q) : hd_Go I pc lv (v :: st) M N Q :=
  fun p l e s m args below meth c H locs G A ls C hH hL => lv_pop C.1 C.2.1 hd (by rw [hd_v_cat]; exact hc) (h p l e s m args below meth c H locs G A ls C hH hL)
theorem hd_dup2 {v u : Value} (hd : decode I.2.2.1 pc = .ok (.dup2, 1)) (hv : v.category = 1) (hu : u.category = 1) (h : hd_Go I (pc + 1) lv (v :: u :: v :: u :: st) M N Q) : hd_Go I pc lv (v :: u :: st) M N Q :=
  fun p l e s m args below meth c H locs G A ls C hH hL => lv_dup2_11 C.1 C.2.1 hd (by rw [hd_v_cat]; exact hv) (by rw [hd_v_cat]; exact hu) (h p l e s m args below meth c H locs G A ls C hH hL)
theorem hd_goto {off : Int} {tgt : Nat} (hd : decode I.2.2.1 pc = .ok (.goto off, 3)) (ht : (pc : Int) + off = (tgt : Int)) (h : hd_Go I tgt lv st M N Q) : hd_Go I pc lv st M N Q :=
  fun p l e s m args below meth c H locs G A ls C hH hL => lv_goto C.1 C.2.1 hd ht (h p l e s m args below meth c H locs G A ls C hH hL)
def hd_ct : ClassFile.Cond → Int32 → Int32 → Prop
  | .eq, x, y => x = y
  | .ne, x, y => ¬ x = y
  | .lt, x, y => x < y
  | .ge, x, y => y ≤ x
  | .gt, x, y => y < x
  | .le, x, y => x ≤ y
def hd_cf : ClassFile.Cond → Int32 → Int32 → Prop
  | .eq, x, y => ¬ x = y
  | .ne, x, y => x = y
  | .lt, x, y => ¬ x < y
  | .ge, x, y => ¬ y ≤ x
  | .gt, x, y => ¬ y < x
  | .le, x, y => ¬ x ≤ y
theorem hd_icmp {op : ClassFile.Cond} {x y : Int32} {off : Int} {tgt : Nat} (hd : decode I.2.2.1 pc = .ok (.if_icmp op off, 3)) (ht : (pc : Int) + off = (tgt : Int)) (ha : hd_ct op x y → hd_Go I tgt lv st M N Q) (hb : hd_cf op x y → hd_Go I (pc + 3) lv st M N Q) : hd_Go I pc lv (.int y :: .int x :: st) M N Q := by
  intro p l e s m args below meth c H locs G A ls C hH hL
  cases op
  · exact lv_icmp_eq C.1 C.2.1 hd ht (fun q => ha q p l e s m args below meth c H locs G A ls C hH hL) (fun q => hb q p l e s m args below meth c H locs G A ls C hH hL)
  · exact lv_icmp_ne C.1 C.2.1 hd ht (fun q => ha q p l e s m args below meth c H locs G A ls C hH hL) (fun q => hb q p l e s m args below meth c H locs G A ls C hH hL)
  · exact lv_icmp_lt C.1 C.2.1 hd ht (fun q => ha q p l e s m args below meth c H locs G A ls C hH hL) (fun q => hb q p l e s m args below meth c H locs G A ls C hH hL)
  · exact lv_icmp_ge C.1 C.2.1 hd ht (fun q => ha q p l e s m args below meth c H locs G A ls C hH hL) (fun q => hb q p l e s m args below meth c H locs G A ls C hH hL)
  · exact lv_icmp_gt C.1 C.2.1 hd ht (fun q => ha q p l e s m args below meth c H locs G A ls C hH hL) (fun q => hb q p l e s m args below meth c H locs G A ls C hH hL)
  · exact lv_icmp_le C.1 C.2.1 hd ht (fun q => ha q p l e s m args below meth c H locs G A ls C hH hL) (fun q => hb q p l e s m args below meth c H locs G A ls C hH hL)
theorem hd_if {op : ClassFile.Cond} {x : Int32} {off : Int} {tgt : Nat} (hd : decode I.2.2.1 pc = .ok (.ifCond op off, 3)) (ht : (pc : Int) + off = (tgt : Int)) (ha : hd_ct op x 0 → hd_Go I tgt lv st M N Q) (hb : hd_cf op x 0 → hd_Go I (pc + 3) lv st M N Q) : hd_Go I pc lv (.int x :: st) M N Q := by
  intro p l e s m args below meth c H locs G A ls C hH hL
  cases op
  · exact lv_if_eq C.1 C.2.1 hd ht (fun q => ha q p l e s m args below meth c H locs G A ls C hH hL) (fun q => hb q p l e s m args below meth c H locs G A ls C hH hL)
  · exact lv_if_ne C.1 C.2.1 hd ht (fun q => ha q p l e s m args below meth c H locs G A ls C hH hL) (fun q => hb q p l e s m args below meth c H locs G A ls C hH hL)
  · exact lv_if_lt C.1 C.2.1 hd ht (fun q => ha q p l e s m args below meth c H locs G A ls C hH hL) (fun q => hb q p l e s m args below meth c H locs G A ls C hH hL)
  · exact lv_if_ge C.1 C.2.1 hd ht (fun q => ha q p l e s m args below meth c H locs G A ls C hH hL) (fun q => hb q p l e s m args below meth c H locs G A ls C hH hL)
  · exact lv_if_gt C.1 C.2.1 hd ht (fun q => ha q p l e s m args below meth c H locs G A ls C hH hL) (fun q => hb q p l e s m args below meth c H locs G A ls C hH hL)
  · exact lv_if_le C.1 C.2.1 hd ht (fun q => ha q p l e s m args below meth c H locs G A ls C hH hL) (fun q => hb q p l e s m args below meth c H locs G A ls C hH hL)
theorem hd_v_f (ad : Nat → Nat) (M : hd_M) (N : hd_N) (k j : Nat) (r : Nat × Nat) : hd_v ad (hd_f id M N k j r) = hd_f ad M N k j r := by
  obtain ⟨z, r⟩ := r
  match z with
  | 0 => rfl
  | 1 => rfl
  | z + 2 => rfl
theorem hd_uws : ∀ (ci : Nat) (q : vw_C), hd_cl[ci]? = some q → ∀ w ∈ u_ws q.1 q.2.1 q.2.2, w ∈ hd_tbl := by
  intro ci q h
  match ci, h with
  | 0, h => cases h; decide +kernel
  | 1, h => cases h; decide +kernel
  | 2, h => cases h; decide +kernel
  | 3, h => cases h; decide +kernel
  | 4, h => cases h; decide +kernel
  | 5, h => cases h; decide +kernel
  | 6, h => cases h; decide +kernel
  | n + 7, h => simp [hd_cl] at h
def hd_ty (ci k : Nat) : FieldType := match ci with
  | 0 => tyX0 k
  | 1 => tyX1 k
  | 2 => tyX2 k
  | 3 => tyX3 k
  | 4 => tyX4 k
  | 5 => tyX5 k
  | _ => tyX6 k
theorem hd_tyok : ∀ (ci : Nat) (q : vw_C), hd_cl[ci]? = some q → (∀ k, k < q.2.2 → parseFieldDescriptor (q.2.1 k).2.2.1 = some (hd_ty ci k)) ∧ ∀ a, a < q.2.2 → ∀ b, b < q.2.2 → a ≠ b → (q.2.1 a).2.1 ≠ (q.2.1 b).2.1 := by
  intro ci q h
  match ci, h with
  | 0, h => cases h; exact ⟨tyX0_ok, nmX0⟩
  | 1, h => cases h; exact ⟨tyX1_ok, nmX1⟩
  | 2, h => cases h; exact ⟨tyX2_ok, nmX2⟩
  | 3, h => cases h; exact ⟨tyX3_ok, nmX3⟩
  | 4, h => cases h; exact ⟨tyX4_ok, nmX4⟩
  | 5, h => cases h; exact ⟨tyX5_ok, nmX5⟩
  | 6, h => cases h; exact ⟨tyX6_ok, nmX6⟩
  | n + 7, h => simp [hd_cl] at h
theorem hd_getf {index ci k a : Nat} {r : Nat × Nat} {fs : List (Nat × Nat)} {q : vw_C} (hd : decode I.2.2.1 pc = .ok (.getfield index, 3)) (hs : hd_shp[a]? = some (.inr (.inr (ci, fs)))) (hq : hd_cl[ci]? = some q) (hk : k < q.2.2) (hl : Cond.fieldLink I.1 index (q.2.1 k).1 (q.2.1 k).2.1 (q.2.1 k).2.2.1 ∈ hd_tbl) (hr : fs[k]? = some r) (h : hd_Go I (pc + 3) lv (hd_f id M N a k r :: st) M N Q) : hd_Go I pc lv (.ref a :: st) M N Q := by
  intro p l e s m args below meth c H locs G A ls C hH hL
  have hT := C.2.2.2.2.2.1
  refine va_get (D := G.1) (cl := hd_cl) (tys := hd_tys G.2.2) (ws := hd_w G M N) (C := q.1) (T := q.2.1) (N := q.2.2) (ci := ci) C.1 C.2.1 hT (hd_uws ci q hq) C.2.2.2.2.1 C.2.2.2.2.2.2.2.1 hH.1 a (hd_w_at hs) hq k hk (hT _ hl) (fun _ h9 => h9) (v := hd_f G.2.1 M N a k r) ?_ hd ?_
  · rw [List.getElem?_mapIdx, hr]; rfl
  · have := h p l e s m args below meth c H locs G A ls C hH hL
    rw [List.map_cons, hd_v_f] at this
    exact this
theorem hd_putf {index ci k a r0 : Nat} {fs : List (Nat × Nat)} {q : vw_C} {x : Int32} (hd : decode I.2.2.1 pc = .ok (.putfield index, 3)) (hs : hd_shp[a]? = some (.inr (.inr (ci, fs)))) (hq : hd_cl[ci]? = some q) (hk : k < q.2.2) (hl : Cond.fieldLink I.1 index (q.2.1 k).1 (q.2.1 k).2.1 (q.2.1 k).2.2.1 ∈ hd_tbl) (hr : fs[k]? = some (0, r0)) (hfin : (q.2.1 k).2.2.2 = false) (hn : narrow (hd_ty ci k) (.int x) = .int x) (hfit : fits (hd_ty ci k) (.int x) = true) (h : hd_Go I (pc + 3) lv st (hd_u M a k x) N Q) : hd_Go I pc lv (.int x :: .ref a :: st) M N Q := by
  intro p l e s m args below meth c H locs G A ls C hH hL
  have hT := C.2.2.2.2.2.1
  have hlen : k < (fs.mapIdx (hd_f G.2.1 M N a)).length := by
    rw [List.length_mapIdx]
    rcases Nat.lt_or_ge k fs.length with z | z
    · exact z
    · rw [List.getElem?_eq_none z] at hr; cases hr
  refine va_put (D := G.1) (cl := hd_cl) (tys := hd_tys G.2.2) (ws := hd_w G M N) (C := q.1) (T := q.2.1) (N := q.2.2) (ci := ci) (v := .int x) C.1 C.2.1 hT (hd_uws ci q hq) (hd_ty ci) (hd_tyok ci q hq).1 (hd_tyok ci q hq).2 C.2.2.2.2.1 C.2.2.2.2.2.2.2.1 hH.1 hH.2.1 hH.2.2 a (hd_w_at hs) hq k hk (hT _ hl) (fun _ h9 => h9) hfin ((hd_tyok ci q hq).1 k hk) hn hfit hlen hd ?_
  intro H1 locs1 hP hD hS
  rw [hd_fs_set hr] at hP hD
  have e9 : (hd_w G M N).set a (G.2.1 a, .inr (ci, fs.mapIdx (hd_f G.2.1 (hd_u M a k x) N a))) = hd_w G (hd_u M a k x) N := hd_w_set2 (M' := hd_u M a k x) (N' := N) rfl hs (fun b d hb => by simp [hd_u, hb]) (fun _ _ _ => rfl)
  rw [e9] at hP hD
  exact h p l e s m args below meth c H1 locs1 G A ls C ⟨hP, hD, hS⟩ hL
theorem hd_putl {index ci k a r0 : Nat} {fs : List (Nat × Nat)} {q : vw_C} {x : Int64} (hd : decode I.2.2.1 pc = .ok (.putfield index, 3)) (hs : hd_shp[a]? = some (.inr (.inr (ci, fs)))) (hq : hd_cl[ci]? = some q) (hk : k < q.2.2) (hl : Cond.fieldLink I.1 index (q.2.1 k).1 (q.2.1 k).2.1 (q.2.1 k).2.2.1 ∈ hd_tbl) (hr : fs[k]? = some (1, r0)) (hfin : (q.2.1 k).2.2.2 = false) (hn : narrow (hd_ty ci k) (.long x) = .long x) (hfit : fits (hd_ty ci k) (.long x) = true) (h : hd_Go I (pc + 3) lv st M (hd_uN N a k x) Q) : hd_Go I pc lv (.long x :: .ref a :: st) M N Q := by
  intro p l e s m args below meth c H locs G A ls C hH hL
  have hT := C.2.2.2.2.2.1
  have hlen : k < (fs.mapIdx (hd_f G.2.1 M N a)).length := by
    rw [List.length_mapIdx]
    rcases Nat.lt_or_ge k fs.length with z | z
    · exact z
    · rw [List.getElem?_eq_none z] at hr; cases hr
  refine va_put (D := G.1) (cl := hd_cl) (tys := hd_tys G.2.2) (ws := hd_w G M N) (C := q.1) (T := q.2.1) (N := q.2.2) (ci := ci) (v := .long x) C.1 C.2.1 hT (hd_uws ci q hq) (hd_ty ci) (hd_tyok ci q hq).1 (hd_tyok ci q hq).2 C.2.2.2.2.1 C.2.2.2.2.2.2.2.1 hH.1 hH.2.1 hH.2.2 a (hd_w_at hs) hq k hk (hT _ hl) (fun _ h9 => h9) hfin ((hd_tyok ci q hq).1 k hk) hn hfit hlen hd ?_
  intro H1 locs1 hP hD hS
  rw [hd_fs_setN hr] at hP hD
  have e9 : (hd_w G M N).set a (G.2.1 a, .inr (ci, fs.mapIdx (hd_f G.2.1 M (hd_uN N a k x) a))) = hd_w G M (hd_uN N a k x) := hd_w_set2 (M' := M) (N' := hd_uN N a k x) rfl hs (fun _ _ _ => rfl) (fun b d hb => by simp [hd_uN, hb])
  rw [e9] at hP hD
  exact h p l e s m args below meth c H1 locs1 G A ls C ⟨hP, hD, hS⟩ hL
theorem hd_iaload {a n : Nat} {i : Int32} (hd : decode I.2.2.1 pc = .ok (.iaload, 1)) (hs : hd_shp[a]? = some (.inl (0, n))) (hin : vp_in i n) (h : hd_Go I (pc + 1) lv (.int (M a i.toNatClampNeg) :: st) M N Q) : hd_Go I pc lv (.int i :: .ref a :: st) M N Q :=
  fun p l e s m args below meth c H locs G A ls C hH hL => va_iald (ws := hd_w G M N) C.1 C.2.1 C.2.2.2.2.2.2.2.1 hH.1 a 0 (hd_w_at hs) rfl hin hd (h p l e s m args below meth c H locs G A ls C hH hL)
theorem hd_baload {a n : Nat} {i : Int32} (hd : decode I.2.2.1 pc = .ok (.baload, 1)) (hs : hd_shp[a]? = some (.inl (1, n)) ∨ hd_shp[a]? = some (.inl (2, n))) (hin : vp_in i n) (h : hd_Go I (pc + 1) lv (.int (M a i.toNatClampNeg) :: st) M N Q) : hd_Go I pc lv (.int i :: .ref a :: st) M N Q := by
  intro p l e s m args below meth c H locs G A ls C hH hL
  rcases hs with hs | hs
  · exact va_bald (ws := hd_w G M N) C.1 C.2.1 C.2.2.2.2.2.2.2.1 hH.1 a 1 (hd_w_at hs) rfl hin hd (h p l e s m args below meth c H locs G A ls C hH hL)
  · exact va_zald (ws := hd_w G M N) C.1 C.2.1 C.2.2.2.2.2.2.2.1 hH.1 a 2 (hd_w_at hs) rfl hin hd (h p l e s m args below meth c H locs G A ls C hH hL)
theorem hd_w_put {G : hd_G} {t a n : Nat} (hs : hd_shp[a]? = some (.inl (t, n))) (j : Nat) (x : Int32) : (hd_w G M N).set a (G.2.1 a, .inl (G.2.2 t, n, .inl (upd (M a) j x))) = hd_w G (hd_u M a j x) N := by
  rw [← hd_u_row]
  exact hd_w_set2 (M' := hd_u M a j x) (N' := N) rfl hs (fun b d hb => by simp [hd_u, hb]) (fun _ _ _ => rfl)
theorem hd_iastore {a n : Nat} {i x : Int32} (hd : decode I.2.2.1 pc = .ok (.iastore, 1)) (hs : hd_shp[a]? = some (.inl (0, n))) (hin : vp_in i n) (h : hd_Go I (pc + 1) lv st (hd_u M a i.toNatClampNeg x) N Q) : hd_Go I pc lv (.int x :: .int i :: .ref a :: st) M N Q := by
  intro p l e s m args below meth c H locs G A ls C hH hL
  refine va_iast (ws := hd_w G M N) C.1 C.2.1 C.2.2.2.2.2.2.2.1 hH.1 hH.2.1 hH.2.2 a 0 (hd_w_at hs) rfl hin hd ?_
  intro H1 locs1 hP hD hS
  rw [hd_w_put hs] at hP hD
  exact h p l e s m args below meth c H1 locs1 G A ls C ⟨hP, hD, hS⟩ hL
theorem hd_bastore {a n : Nat} {i x : Int32} (hd : decode I.2.2.1 pc = .ok (.bastore, 1)) (hs : hd_shp[a]? = some (.inl (1, n)) ∧ vp_nar .byte x = x ∨ hd_shp[a]? = some (.inl (2, n)) ∧ vp_nar .boolean x = x) (hin : vp_in i n) (h : hd_Go I (pc + 1) lv st (hd_u M a i.toNatClampNeg x) N Q) : hd_Go I pc lv (.int x :: .int i :: .ref a :: st) M N Q := by
  intro p l e s m args below meth c H locs G A ls C hH hL
  rcases hs with ⟨hs, hx⟩ | ⟨hs, hx⟩
  · refine va_bast (ws := hd_w G M N) C.1 C.2.1 C.2.2.2.2.2.2.2.1 hH.1 hH.2.1 hH.2.2 a 1 (hd_w_at hs) rfl hin hd ?_
    intro H1 locs1 hP hD hS
    rw [hx, hd_w_put hs] at hP hD
    exact h p l e s m args below meth c H1 locs1 G A ls C ⟨hP, hD, hS⟩ hL
  · refine va_zast (ws := hd_w G M N) C.1 C.2.1 C.2.2.2.2.2.2.2.1 hH.1 hH.2.1 hH.2.2 a 2 (hd_w_at hs) rfl hin hd ?_
    intro H1 locs1 hP hD hS
    rw [hx, hd_w_put hs] at hP hD
    exact h p l e s m args below meth c H1 locs1 G A ls C ⟨hP, hD, hS⟩ hL
theorem hd_aaload {a t k : Nat} {rs : List Nat} {i : Int32} (hd : decode I.2.2.1 pc = .ok (.aaload, 1)) (ht : t = 3 ∨ t = 4) (hs : hd_shp[a]? = some (.inr (.inl (t, rs)))) (hi : ¬ i < 0) (hk : rs[i.toNatClampNeg]? = some k) (h : hd_Go I (pc + 1) lv (.ref k :: st) M N Q) : hd_Go I pc lv (.int i :: .ref a :: st) M N Q := by
  intro p l e s m args below meth c H locs G A ls C hH hL
  have hlt : i.toNatClampNeg < rs.length := by
    rcases Nat.lt_or_ge i.toNatClampNeg rs.length with z | z
    · exact z
    · rw [List.getElem?_eq_none z] at hk; cases hk
  have hin : vp_in i rs.length := fun z => z.elim hi (fun z => absurd hlt (Nat.not_lt.mpr z))
  have e9 : va_rf ((fun j : Nat => rs[j]?.map G.2.1) i.toNatClampNeg) = .ref (G.2.1 k) := by show va_rf (rs[i.toNatClampNeg]?.map G.2.1) = _; rw [hk]; rfl
  have h2 := h p l e s m args below meth c H locs G A ls C hH hL
  rcases ht with rfl | rfl
  · refine va_aldq (ws := hd_w G M N) C.1 C.2.1 C.2.2.2.2.2.2.2.1 hH.1 a 3 (hd_w_at hs) rfl hin hd ?_
    rw [e9]
    exact h2
  · refine va_aldq (ws := hd_w G M N) C.1 C.2.1 C.2.2.2.2.2.2.2.1 hH.1 a 4 (hd_w_at hs) rfl hin hd ?_
    rw [e9]
    exact h2
theorem hd_alen {a t n : Nat} {v : Int32} (hd : decode I.2.2.1 pc = .ok (.arraylength, 1)) (ht : t < 3) (hs : hd_shp[a]? = some (.inl (t, n))) (hv : Int32.ofNat n = v) (h : hd_Go I (pc + 1) lv (.int v :: st) M N Q) : hd_Go I pc lv (.ref a :: st) M N Q := by
  intro p l e s m args below meth c H locs G A ls C hH hL
  rcases (show t = 0 ∨ t = 1 ∨ t = 2 by omega) with rfl | rfl | rfl
  · exact va_alen (ws := hd_w G M N) C.1 C.2.1 C.2.2.2.2.2.2.2.1 hH.1 a 0 (hd_w_at hs) (ty := .int) rfl hv hd (h p l e s m args below meth c H locs G A ls C hH hL)
  · exact va_alen (ws := hd_w G M N) C.1 C.2.1 C.2.2.2.2.2.2.2.1 hH.1 a 1 (hd_w_at hs) (ty := .byte) rfl hv hd (h p l e s m args below meth c H locs G A ls C hH hL)
  · exact va_alen (ws := hd_w G M N) C.1 C.2.1 C.2.2.2.2.2.2.2.1 hH.1 a 2 (hd_w_at hs) (ty := .boolean) rfl hv hd (h p l e s m args below meth c H locs G A ls C hH hL)
theorem hd_S_F {A : Nat → Prop} {s t : State} {H : Heap} {locs : List Loc} (h : va_S A s.heap H locs) (ht : t.heap = H) : va_F A s t := by
  refine ⟨by rw [ht]; exact h.1, fun q h1 h2 => by rw [ht]; exact h.2.1 q h1 h2⟩
theorem hd_ireturn {v : Int32} {ty : FieldType} (hd : decode I.2.2.1 pc = .ok (.ireturn, 1)) (hr : I.2.2.2.2.1 = some ty) (hn : narrow ty (.int v) = .int v) (h : Q (some (.int v)) M N) : hd_Go I pc lv [.int v] M N Q := by
  intro p l e s m args below meth c H locs G A ls C hH hL
  have hlocks := C.2.2.2.2.2.2.1
  exact W.zret (v := v) C.1 C.2.1 (C.2.2.2.1.trans hr) hn (fun t ht _ => ⟨⟨some (.int v), M, N, rfl, h, by rw [ht]; exact hH.1⟩, hd_S_F hH.2.2 ht⟩) hH.2.2.2.2 hd
theorem hd_lreturn {v : Int64} (hd : decode I.2.2.1 pc = .ok (.lreturn, 1)) (hr : I.2.2.2.2.1 = some .long) (h : Q (some (.long v)) M N) : hd_Go I pc lv [.long v] M N Q := by
  intro p l e s m args below meth c H locs G A ls C hH hL
  have hlocks := C.2.2.2.2.2.2.1
  exact W.lret (v := v) C.1 C.2.1 (C.2.2.2.1.trans hr) (fun t ht _ => ⟨⟨some (.long v), M, N, rfl, h, by rw [ht]; exact hH.1⟩, hd_S_F hH.2.2 ht⟩) hH.2.2.2.2 hd
theorem hd_vreturn (hd : decode I.2.2.1 pc = .ok (.return_, 1)) (hr : I.2.2.2.2.1 = none) (h : Q none M N) : hd_Go I pc lv [] M N Q := by
  intro p l e s m args below meth c H locs G A ls C hH hL
  have hlocks := C.2.2.2.2.2.2.1
  exact W.vret C.1 C.2.1 (C.2.2.2.1.trans hr) (fun t ht _ => ⟨⟨none, M, N, rfl, h, by rw [ht]; exact hH.1⟩, hd_S_F hH.2.2 ht⟩) hH.2.2.2.2 hd
end
end
section
/-! CALLS: a method's contract out of its judgement, and a row for each kind of call -/
def hd_en1 : List Value → hd_L
  | [] => []
  | .long x :: vs => some (.long x) :: none :: hd_en1 vs
  | .double x :: vs => some (.double x) :: none :: hd_en1 vs
  | v :: vs => some v :: hd_en1 vs
/-- the locals at a method's entry -/
def hd_en (n : Nat) (vs : List Value) : hd_L := hd_en1 vs ++ List.replicate (n - (hd_en1 vs).length) none
/-- the method I, called with these values on this memory, returns, and its end is as told -/
def hd_Ret (I : hd_I) (vs : List Value) (M : hd_M) (N : hd_N) (Q : hd_Q) : Prop := hd_Go I 0 (hd_en I.2.2.2.1 vs) [] M N Q
theorem hd_en1_cons (v : Value) (vs : List Value) : hd_en1 (v :: vs) = if v.category = 2 then some v :: none :: hd_en1 vs else some v :: hd_en1 vs := by
  cases v <;> rfl
theorem hd_en1_len (ad : Nat → Nat) : ∀ vs : List Value, (hd_en1 vs).length = (lg_sl (vs.map (hd_v ad))).length := by
  intro vs
  induction vs with
  | nil => rfl
  | cons v vs ih =>
    rw [hd_en1_cons, List.map_cons, lg_sl, List.flatMap_cons, List.length_append, hd_v_cat]
    rw [lg_sl] at ih
    by_cases h : v.category = 2
    · rw [if_pos h, if_pos h]
      simp only [List.length_cons, List.length_nil, ih]
      omega
    · rw [if_neg h, if_neg h]
      simp only [List.length_cons, List.length_nil, ih]
      omega
theorem hd_en1_at (ad : Nat → Nat) : ∀ (vs : List Value) (b i : Nat) (v : Value), (hd_en1 vs)[i]? = some (some v) → (b + i, hd_v ad v) ∈ lv_args b (vs.map (hd_v ad)) := by
  intro vs
  induction vs with
  | nil => intro b i v h; simp [hd_en1] at h
  | cons w vs ih =>
    intro b i v h
    rw [hd_en1_cons] at h
    rw [List.map_cons, lv_args, hd_v_cat]
    by_cases hc : w.category = 2
    · rw [if_pos hc] at h ⊢
      match i, h with
      | 0, h => cases h; exact List.mem_cons_self
      | 1, h => cases h
      | i + 2, h =>
        refine List.mem_cons_of_mem _ ?_
        have := ih (b + 2) i v h
        rw [show b + (i + 2) = b + 2 + i by omega]
        exact this
    · rw [if_neg hc] at h ⊢
      match i, h with
      | 0, h => cases h; exact List.mem_cons_self
      | i + 1, h =>
        refine List.mem_cons_of_mem _ ?_
        have := ih (b + 1) i v h
        rw [show b + (i + 1) = b + 1 + i by omega]
        exact this
/-- what a caller must show of the state at the callee's entry -/
def hd_B (G : hd_G) (A : Nat → Prop) (M : hd_M) (N : hd_N) (U : State) : Prop := va_P G.1 hd_cl (hd_w G M N) U.heap ∧ va_D A (hd_w G M N) ∧ va_K G.1 hd_cl (hd_tys G.2.2) U ∧ hd_X G A U
abbrev hd_ws (I : hd_I) : List Cond := Cond.code I.2.1 I.2.2.1 I.2.2.2.1 I.2.2.2.2.1 :: hd_tbl
theorem hd_met {I : hd_I} {vs : List Value} {M : hd_M} {N : hd_N} {Q : hd_Q} (h : hd_Ret I vs M N Q) (hy : plainName I.2.1.cls = true) (ho : I.1 = I.2.1.cls) (hn : (hd_en1 vs).length ≤ I.2.2.2.1) (l : Launch) (G : hd_G) (A : Nat → Prop) :
    Met l I.2.1 (hd_ws I) (hd_rm I.2.2.2.2.2.1) (va_Pc (vs.map (hd_v G.2.1)) (hd_B G A M N)) (hd_E G A Q) 0 0 A := by
  refine Met.ofW (cc := I.2.2.1) (maxL := I.2.2.2.1) (ret := I.2.2.2.2.1) hy rfl ?_
  intro p e s m args below meth c s₁ B hml hv
  obtain ⟨rfl, hP, hD, hK, hX⟩ := hv
  have hts := atoms_spec (ws := hd_ws I) B.pre
  have hown : s.vm.findClass I.1 = some m.cls := by rw [ho]; exact findClass_of_methodNamed B.named
  have hC : hd_C I p s m (vs.map (hd_v G.2.1)).toArray meth c G A := ⟨B.exec, B.bytes, hml, B.returns, hown, fun w hw => hts w (List.mem_cons_of_mem _ hw), B.notSynchronized, hK, hX⟩
  have hlen := hd_en1_len G.2.1 vs
  have hl := lv_entry (vs.map (hd_v G.2.1)) (n := I.2.2.2.1) (by rw [← hlen]; exact hn)
  rw [lg_entry_eq]
  have hlo : hd_lo ((lg_sl (vs.map (hd_v G.2.1)) ++ List.replicate (I.2.2.2.1 - (lg_sl (vs.map (hd_v G.2.1))).length) Slot.unset).toArray) I.2.2.2.1 G.2.1 (hd_en I.2.2.2.1 vs) := by
    refine hd_lo.of ?_ hl ?_
    · unfold hd_en
      rw [List.length_append, List.length_replicate]
      omega
    · intro i v hv
      unfold hd_en at hv
      rw [List.getElem?_append] at hv
      split at hv
      · have := hd_en1_at G.2.1 vs 0 i v hv
        rw [Nat.zero_add] at this
        exact this
      · rw [List.getElem?_replicate] at hv
        split at hv <;> cases hv
  exact h p l e s m _ below meth c s.heap [] G A _ hC ⟨hP, hD, va_S.rf⟩ hlo
theorem hd_X.go {G : hd_G} {A : Nat → Prop} {s U : State} {H : Heap} {locs : List Loc} (hX : hd_X G A s) (hS : va_S A s.heap H locs) (hU : U.heap = H) (hW : s.WarmedH U.vm) : hd_X G A U := by
  subst hU
  exact ⟨(hX.1.moved hW.alike).kept hS.2.1, (hX.2.1.moved hW.alike).kept hS.2.1, fun i q hq => (hX.2.2 i q hq).warm hW⟩
theorem hd_blind {G : hd_G} {A : Nat → Prop} {M : hd_M} {N : hd_N} {vs : List Value} : FrameBlind (va_Pc vs (hd_B G A M N)) := by
  intro a U g mk ⟨h0, hP, hD, hK, hX⟩
  refine ⟨h0, hP, hD, va_K.moved (u := U) (U := U.calling g mk a) (Vm.Alike.refl U.vm) hK, ?_⟩
  exact ⟨hX.1.moved (u := U) (U := U.calling g mk a) (Vm.Alike.refl U.vm), hX.2.1.moved (u := U) (U := U.calling g mk a) (Vm.Alike.refl U.vm), fun i q hq => vk_R.same (u := U) (U := U.calling g mk a) rfl (hX.2.2 i q hq)⟩
theorem hd_enter {G : hd_G} {A : Nat → Prop} {M : hd_M} {N : hd_N} {s : State} {H : Heap} {locs : List Loc} (hK : va_K G.1 hd_cl (hd_tys G.2.2) s) (hX : hd_X G A s) (hH : hd_H G A M N s H locs) : ∀ U : State, U.heap = H → s.WarmedH U.vm → hd_B G A M N U := by
  intro U hU hW
  exact ⟨by rw [hU]; exact hH.1, hH.2.1, va_K.moved hW.alike hK, hX.go hH.2.2 hU hW⟩
theorem hd_goodws {I : hd_I} (h : Cond.code I.2.1 I.2.2.1 I.2.2.2.1 I.2.2.2.2.1 ∈ hd_tbl) : GoodIn hd_tbl (hd_ws I) := by
  intro w hw
  rcases List.mem_cons.mp hw with e | hw
  · rw [e]; exact ⟨h, good_of_word (hd_good _ h)⟩
  · exact ⟨hw, good_of_word (hd_good _ hw)⟩
section
variable {I : hd_I} {pc : Nat} {lv : hd_L} {st : List Value} {M : hd_M} {N : hd_N} {Q : hd_Q}
/-- a call, however it is found: what comes behind it -/
theorem hd_after {P : hd_Q} {p : Program} {l : Launch} {e : Env} {R : Room} {s : State} {m : MethodId} {args : Array Value} {below : List Frame} {meth : Method} {c : Code} {H : Heap} {locs : List Loc} {G : hd_G} {A : Nat → Prop} {ls : Array Slot} {st0 : List Value} {Z : State → Prop} {a : Array Value} {cells slots : Nat}
    (hr : va_Run p l e R s m args below meth c H locs cells slots 0 0 (F0 m pc ls st0) (st.map (hd_v G.2.1)) (hd_E G A P a) A) (hH : hd_H G A M N s H locs)
    (k : ∀ r M1 N1, P r M1 N1 → ∀ H1 locs1, hd_H G A M1 N1 s H1 locs1 → W p l e R s m args below meth c H1 locs1 cells slots Z (F0 m (pc + 3) ls ((r.toList ++ st).map (hd_v G.2.1)))) : W p l e R s m args below meth c H locs cells slots Z (F0 m pc ls st0) := by
  intro T hT X
  obtain ⟨v, st₀, t, T', L, h0, X', hL, e1, e2, ⟨⟨r, M1, N1, hv, hp, hP⟩, hz, hk⟩, go⟩ := hr T hT X
  rw [h0] at hz hk
  have hv : v = r.map (hd_v G.2.1) := by
    have := hv
    injection this
  have hS := hH.2.2
  obtain ⟨t2, a1, b1⟩ := k r M1 N1 hp T'.heap (locs ++ L) ⟨by rw [e1]; exact hP, hd_D_any hH.2.1, ⟨Nat.le_trans hS.1 (by rw [e1]; exact hz), fun q h1 h2 => by rw [e1, hk q (Nat.lt_of_lt_of_le h1 hS.1) h2]; exact hS.2.1 q h1 h2, fun q hq => by
      rcases List.mem_append.mp hq with h | h
      · exact hS.2.2 q h
      · exact hL q h⟩⟩ T' rfl X'
  refine ⟨t2, go t2 ?_, b1⟩
  rw [hv]
  rw [List.map_append] at a1
  have e9 : (r.toList).map (hd_v G.2.1) = (r.map (hd_v G.2.1)).toList := by cases r <;> rfl
  rw [e9] at a1
  exact a1
/-- what is static at a call of J by its link -/
def hd_cal (I J : hd_I) (index n : Nat) : Prop := Cond.code J.2.1 J.2.2.1 J.2.2.2.1 J.2.2.2.2.1 ∈ hd_tbl ∧ Cond.initialized J.2.1.cls ∈ hd_tbl ∧ plainName J.2.1.cls = true ∧ J.1 = J.2.1.cls ∧ (J.2.1.cls ≠ "java/lang/invoke/MethodHandle" ∧ J.2.1.cls ≠ "java/lang/invoke/VarHandle" ∧ (parseMethodDescriptor J.2.1.desc).map (fun d => d.parameters.length) = some n) ∧ J.2.2.2.2.2.1 < I.2.2.2.2.2.1 ∧ J.2.2.2.1 ≤ 17
theorem hd_room {d d' x : Nat} (h : d' < d) (hx : x ≤ 17) : (hd_rm d').frames + 1 ≤ (hd_rm d).frames ∧ 8 + (x + 11) + (hd_rm d').locals ≤ (hd_rm d).locals := by
  show d' + 1 ≤ d ∧ 8 + (x + 11) + 36 * d' ≤ 36 * d
  omega
theorem hd_cats {ad : Nat → Nat} {st : List Value} : ((st.map (hd_v ad)).map fun v => v.category).sum = (st.map fun v => v.category).sum := by
  rw [List.map_map]
  congr 1
  apply List.map_congr_left
  intro v _
  exact hd_v_cat ad v
theorem hd_callS {J : hd_I} {index : Nat} {as st0 : List Value} {P : hd_Q} (hd : decode I.2.2.1 pc = .ok (.invokestatic index, 3)) (hc : hd_cal I J index as.length) (hl : Cond.methodLink I.1 index J.2.1 ∈ hd_tbl) (hst : Cond.static J.2.1 ∈ hd_tbl) (hst0 : st0 = as.reverse ++ st) (hlen : (hd_en1 as).length ≤ J.2.2.2.1) (hcat : (st.map fun v => v.category).sum ≤ 8)
    (h : hd_Ret J as M N P) (k : ∀ r M1 N1, P r M1 N1 → hd_Go I (pc + 3) lv (r.toList ++ st) M1 N1 Q) : hd_Go I pc lv st0 M N Q := by
  intro p l e s m args below meth c H locs G A ls C hH hL
  have hT := C.2.2.2.2.2.1
  obtain ⟨q1, q2, q3, q4, q5, q6, q7⟩ := hc
  refine hd_after (P := P) (a := (as.map (hd_v G.2.1)).toArray) (va_runS (As := as.map (hd_v G.2.1)) (rest := st.map (hd_v G.2.1)) ⟨C.1, C.2.1, C.2.2.1, C.2.2.2.2.1, hT⟩ (hd_met h q3 q4 hlen l G A) ⟨callB_of as.length hT (hd_goodws q1) rfl rfl rfl (hT _ q2) (hT _ hl) q5 (hd_room q6 q7), hT _ hst⟩ ⟨hd_blind, fun U hU hW => ⟨rfl, hd_enter C.2.2.2.2.2.2.2.1 C.2.2.2.2.2.2.2.2 hH U hU hW⟩⟩ rfl (List.length_map _) hL.2.1 ?_ ?_ hd ⟨Nat.le_refl _, Nat.le_refl _⟩) hH ?_
  · show st0.map (hd_v G.2.1) = _
    rw [hst0, List.map_append, List.map_reverse]
  · rw [hd_cats]
    show 2 * 0 + _ ≤ 8
    omega
  · intro r M1 N1 hp H1 locs1 hH1
    exact k r M1 N1 hp p l e s m args below meth c H1 locs1 G A ls C hH1 hL
theorem hd_callSN {J : hd_I} {index : Nat} {host : String} {as st0 : List Value} {P : hd_Q} (hd : decode I.2.2.1 pc = .ok (.invokestatic index, 3)) (hc : hd_cal I J index as.length) (hl : Cond.methodLinkNest I.1 index J.2.1 host ∈ hd_tbl) (hst : Cond.static J.2.1 ∈ hd_tbl) (hst0 : st0 = as.reverse ++ st) (hlen : (hd_en1 as).length ≤ J.2.2.2.1) (hcat : (st.map fun v => v.category).sum ≤ 8)
    (h : hd_Ret J as M N P) (k : ∀ r M1 N1, P r M1 N1 → hd_Go I (pc + 3) lv (r.toList ++ st) M1 N1 Q) : hd_Go I pc lv st0 M N Q := by
  intro p l e s m args below meth c H locs G A ls C hH hL
  have hT := C.2.2.2.2.2.1
  obtain ⟨q1, q2, q3, q4, q5, q6, q7⟩ := hc
  have hN : va_Nw (.methodLinkNest I.1 index J.2.1 host) s := hT _ hl
  refine hd_after (P := P) (a := (as.map (hd_v G.2.1)).toArray) (va_runSN (As := as.map (hd_v G.2.1)) (rest := st.map (hd_v G.2.1)) ⟨C.1, C.2.1, C.2.2.1, C.2.2.2.2.1, hT⟩ (hd_met h q3 q4 hlen l G A) ⟨va_cnB as.length hT (hd_goodws q1) rfl rfl rfl hN (hT _ q2) q5 (hd_room q6 q7), hT _ hst, trivial⟩ ⟨hd_blind, fun U hU hW => ⟨rfl, hd_enter C.2.2.2.2.2.2.2.1 C.2.2.2.2.2.2.2.2 hH U hU hW⟩⟩ rfl (List.length_map _) hL.2.1 ?_ ?_ hd ⟨Nat.le_refl _, Nat.le_refl _⟩) hH ?_
  · show st0.map (hd_v G.2.1) = _
    rw [hst0, List.map_append, List.map_reverse]
  · rw [hd_cats]
    show 2 * 0 + _ ≤ 8
    omega
  · intro r M1 N1 hp H1 locs1 hH1
    exact k r M1 N1 hp p l e s m args below meth c H1 locs1 G A ls C hH1 hL
theorem hd_callV {J : hd_I} {index ci b : Nat} {fs : List (Nat × Nat)} {q : vw_C} {as st0 : List Value} {P : hd_Q} (hd : decode I.2.2.1 pc = .ok (.invokevirtual index, 3)) (hc : hd_cal I J index as.length) (hl : Cond.methodLink I.1 index J.2.1 ∈ hd_tbl) (hin : Cond.instanceMethod J.2.1 ∈ hd_tbl) (hsel : Cond.selects J.2.1.cls J.2.1 J.2.1 ∈ hd_tbl) (hs : hd_shp[b]? = some (.inr (.inr (ci, fs)))) (hq : hd_cl[ci]? = some q) (hqc : q.1 = J.2.1.cls) (hst0 : st0 = as.reverse ++ .ref b :: st) (hlen : (hd_en1 (.ref b :: as)).length ≤ J.2.2.2.1) (hcat : (st.map fun v => v.category).sum ≤ 8)
    (h : hd_Ret J (.ref b :: as) M N P) (k : ∀ r M1 N1, P r M1 N1 → hd_Go I (pc + 3) lv (r.toList ++ st) M1 N1 Q) : hd_Go I pc lv st0 M N Q := by
  intro p l e s m args below meth c H locs G A ls C hH hL
  have hT := C.2.2.2.2.2.1
  obtain ⟨q1, q2, q3, q4, q5, q6, q7⟩ := hc
  have hrecv := va_recv (ws := hd_w G M N) (a := G.2.1 b) C.2.2.2.2.2.2.2.1 hH.1 hq (q0 := b) (hd_w_at hs)
  rw [hqc] at hrecv
  refine hd_after (P := P) (a := ((.ref b :: as).map (hd_v G.2.1)).toArray) (va_runV (C := J.2.1.cls) (b := G.2.1 b) (As := as.map (hd_v G.2.1)) (rest := st.map (hd_v G.2.1)) ⟨C.1, C.2.1, C.2.2.1, C.2.2.2.2.1, hT⟩ (hd_met h q3 q4 hlen l G A) ⟨callB_of as.length hT (hd_goodws q1) rfl rfl rfl (hT _ q2) (hT _ hl) q5 (hd_room q6 q7), hT _ hin, hT _ hsel⟩ ⟨hd_blind, hrecv, fun U hU hW => ⟨rfl, hd_enter C.2.2.2.2.2.2.2.1 C.2.2.2.2.2.2.2.2 hH U hU hW⟩⟩ rfl (List.length_map _) hL.2.1 ?_ ?_ hd ⟨Nat.le_refl _, Nat.le_refl _⟩) hH ?_
  · show st0.map (hd_v G.2.1) = _
    rw [hst0, List.map_append, List.map_reverse]
    rfl
  · rw [hd_cats]
    show 2 * 0 + _ ≤ 8
    omega
  · intro r M1 N1 hp H1 locs1 hH1
    exact k r M1 N1 hp p l e s m args below meth c H1 locs1 G A ls C hH1 hL
theorem hd_ldcs {index i : Nat} {tx : String} (hd : decode I.2.2.1 pc = .ok (.ldc index, 2)) (ho : I.1 = RX4) (hx : hd_tx[i]? = some (index, tx)) (h : hd_Go I (pc + 2) lv (.ref (1000 + i) :: st) M N Q) : hd_Go I pc lv st M N Q :=
  fun p l e s m args below meth c H locs G A ls C hH hL => va_ldcS C.1 C.2.1 (own := RX4) (by rw [← ho]; exact C.2.2.2.2.1) (C.2.2.2.2.2.2.2.2.2.2 i (index, tx) hx) hd (h p l e s m args below meth c H locs G A ls C hH hL)
/-! switches -/
def hd_sw (dflt : Nat) (x : Int32) : List (Int32 × Nat) → Nat
  | [] => dflt
  | (v, t) :: r => if x = v then t else hd_sw dflt x r
end
end
section
/-! THE EVALUATOR: straight stretches of a method, by reckoning alone -/
abbrev hd_K : Type := Prop → Nat → hd_L → List Value → hd_M → hd_N → Prop
def hd_nth {α : Type} : List α → Nat → Option α
  | [], _ => none
  | x :: _, 0 => some x
  | _ :: xs, n + 1 => hd_nth xs n
theorem hd_nth_eq {α : Type} : ∀ (l : List α) (n : Nat), hd_nth l n = l[n]? := by
  intro l
  induction l with
  | nil => intro n; rfl
  | cons x xs ih =>
    intro n
    match n with
    | 0 => rfl
    | n + 1 => rw [hd_nth, List.getElem?_cons_succ]; exact ih n
def hd_ld : hd_L → Nat → (Value → Prop) → Prop
  | [], _, _ => False
  | x :: _, 0, k => (match x with | some v => k v | none => False)
  | _ :: xs, n + 1, k => hd_ld xs n k
theorem hd_ld_ok : ∀ (l : hd_L) (n : Nat) (k : Value → Prop), hd_ld l n k → ∃ v, l[n]? = some (some v) ∧ k v := by
  intro l
  induction l with
  | nil => intro n k h; exact h.elim
  | cons x xs ih =>
    intro n k h
    match n, h with
    | 0, h =>
      cases x with
      | none => exact h.elim
      | some v => exact ⟨v, rfl, h⟩
    | n + 1, h =>
      obtain ⟨v, h1, h2⟩ := ih n k h
      exact ⟨v, by rw [List.getElem?_cons_succ]; exact h1, h2⟩
def hd_no2 : Option Value → Prop → Prop
  | some (.long _), _ => False
  | some (.double _), _ => False
  | _, k => k
theorem hd_no2_ok {x : Option Value} {k : Prop} (h : hd_no2 x k) : k ∧ ∀ u : Value, x = some u → u.category ≠ 2 := by
  cases x with
  | none => exact ⟨h, fun _ e => by cases e⟩
  | some v => cases v <;> first | exact h.elim | exact ⟨h, fun u e => by cases e; decide⟩ | exact ⟨h, fun u e => by cases e; intro z; cases z⟩
def hd_sv : hd_L → Nat → Option Value → (hd_L → Prop) → Prop
  | [], _, _, _ => False
  | _ :: xs, 0, v, k => k (v :: xs)
  | x :: xs, 1, v, k => (match xs with | [] => False | _ :: ys => hd_no2 x (k (x :: v :: ys)))
  | x :: xs, n + 2, v, k => hd_sv xs (n + 1) v (fun ys => k (x :: ys))
theorem hd_sv_ok : ∀ (l : hd_L) (n : Nat) (v : Option Value) (k : hd_L → Prop), hd_sv l n v k → k (l.set n v) ∧ n < l.length ∧ ∀ u : Value, l[n - 1]? = some (some u) → 0 < n → u.category ≠ 2 := by
  intro l
  induction l with
  | nil => intro n v k h; unfold hd_sv at h; exact h.elim
  | cons x xs ih =>
    intro n v k h
    match n, h with
    | 0, h => exact ⟨h, Nat.zero_lt_succ _, fun u _ z => absurd z (Nat.lt_irrefl 0)⟩
    | 1, h =>
      cases xs with
      | nil => exact h.elim
      | cons y ys =>
        obtain ⟨h1, h2⟩ := hd_no2_ok h
        exact ⟨h1, by simp, fun u hu _ => h2 u (by simpa using hu)⟩
    | n + 2, h =>
      obtain ⟨h1, h2, h3⟩ := ih (n + 1) v _ h
      refine ⟨h1, by simp only [List.length_cons]; omega, fun u hu _ => h3 u ?_ (by omega)⟩
      simpa using hu
def hd_bq (a b : Nat) (P : Prop) : Prop := match Nat.beq a b with
  | true => P
  | false => False
theorem hd_bq_ok {a b : Nat} {P : Prop} (h : hd_bq a b P) : a = b ∧ P := by
  unfold hd_bq at h
  split at h
  · next e => exact ⟨Nat.eq_of_beq_eq_true e, h⟩
  · exact h.elim
def hd_i1 (st : List Value) (k : Int32 → List Value → Prop) : Prop := match st with
  | .int x :: st => k x st
  | _ => False
def hd_i2 (st : List Value) (k : Int32 → Int32 → List Value → Prop) : Prop := match st with
  | .int y :: .int x :: st => k x y st
  | _ => False
def hd_l2 (st : List Value) (k : Int64 → Int64 → List Value → Prop) : Prop := match st with
  | .long y :: .long x :: st => k x y st
  | _ => False
def hd_l1 (st : List Value) (k : Int64 → List Value → Prop) : Prop := match st with
  | .long x :: st => k x st
  | _ => False
def hd_r1 (st : List Value) (k : Nat → List Value → Prop) : Prop := match st with
  | .ref x :: st => k x st
  | _ => False
def hd_isI (v : Value) (k : Int32 → Prop) : Prop := match v with
  | .int x => k x
  | _ => False
def hd_isL (v : Value) (k : Int64 → Prop) : Prop := match v with
  | .long x => k x
  | _ => False
def hd_isR (v : Value) (k : Nat → Prop) : Prop := match v with
  | .ref x => k x
  | _ => False
def hd_obj (c : Nat) (k : Nat → List (Nat × Nat) → Prop) : Prop := match hd_nth hd_shp c with
  | some (.inr (.inr (ci, fs))) => k ci fs
  | _ => False
def hd_arr (c : Nat) (k : Nat → Nat → Prop) : Prop := match hd_nth hd_shp c with
  | some (.inl (t, n)) => k t n
  | _ => False
def hd_rar (c : Nat) (k : Nat → List Nat → Prop) : Prop := match hd_nth hd_shp c with
  | some (.inr (.inl (t, rs))) => k t rs
  | _ => False
theorem hd_obj_ok {c : Nat} {k : Nat → List (Nat × Nat) → Prop} (h : hd_obj c k) : ∃ ci fs, hd_shp[c]? = some (.inr (.inr (ci, fs))) ∧ k ci fs := by
  unfold hd_obj at h
  rw [hd_nth_eq] at h
  split at h
  · next ci fs e => exact ⟨ci, fs, e, h⟩
  · exact h.elim
theorem hd_arr_ok {c : Nat} {k : Nat → Nat → Prop} (h : hd_arr c k) : ∃ t n, hd_shp[c]? = some (.inl (t, n)) ∧ k t n := by
  unfold hd_arr at h
  rw [hd_nth_eq] at h
  split at h
  · next ci fs e => exact ⟨ci, fs, e, h⟩
  · exact h.elim
theorem hd_rar_ok {c : Nat} {k : Nat → List Nat → Prop} (h : hd_rar c k) : ∃ t rs, hd_shp[c]? = some (.inr (.inl (t, rs))) ∧ k t rs := by
  unfold hd_rar at h
  rw [hd_nth_eq] at h
  split at h
  · next ci fs e => exact ⟨ci, fs, e, h⟩
  · exact h.elim
theorem hd_i1_ok {st : List Value} {k : Int32 → List Value → Prop} (h : hd_i1 st k) : ∃ x r, st = .int x :: r ∧ k x r := by
  unfold hd_i1 at h
  split at h
  · exact ⟨_, _, rfl, h⟩
  · exact h.elim
theorem hd_i2_ok {st : List Value} {k : Int32 → Int32 → List Value → Prop} (h : hd_i2 st k) : ∃ x y r, st = .int y :: .int x :: r ∧ k x y r := by
  unfold hd_i2 at h
  split at h
  · exact ⟨_, _, _, rfl, h⟩
  · exact h.elim
theorem hd_l1_ok {st : List Value} {k : Int64 → List Value → Prop} (h : hd_l1 st k) : ∃ x r, st = .long x :: r ∧ k x r := by
  unfold hd_l1 at h
  split at h
  · exact ⟨_, _, rfl, h⟩
  · exact h.elim
theorem hd_l2_ok {st : List Value} {k : Int64 → Int64 → List Value → Prop} (h : hd_l2 st k) : ∃ x y r, st = .long y :: .long x :: r ∧ k x y r := by
  unfold hd_l2 at h
  split at h
  · exact ⟨_, _, _, rfl, h⟩
  · exact h.elim
theorem hd_r1_ok {st : List Value} {k : Nat → List Value → Prop} (h : hd_r1 st k) : ∃ x r, st = .ref x :: r ∧ k x r := by
  unfold hd_r1 at h
  split at h
  · exact ⟨_, _, rfl, h⟩
  · exact h.elim
theorem hd_isI_ok {v : Value} {k : Int32 → Prop} (h : hd_isI v k) : ∃ x, v = .int x ∧ k x := by
  unfold hd_isI at h
  split at h
  · exact ⟨_, rfl, h⟩
  · exact h.elim
theorem hd_isL_ok {v : Value} {k : Int64 → Prop} (h : hd_isL v k) : ∃ x, v = .long x ∧ k x := by
  unfold hd_isL at h
  split at h
  · exact ⟨_, rfl, h⟩
  · exact h.elim
theorem hd_isR_ok {v : Value} {k : Nat → Prop} (h : hd_isR v k) : ∃ x, v = .ref x ∧ k x := by
  unfold hd_isR at h
  split at h
  · exact ⟨_, rfl, h⟩
  · exact h.elim
/-- an instruction's length in bytes -/
def hd_len : Instr → Nat
  | .bipush _ => 2
  | .ldc _ => 2
  | .iload _ => 2
  | .lload _ => 2
  | .aload _ => 2
  | .istore _ => 2
  | .lstore _ => 2
  | .astore _ => 2
  | .sipush _ => 3
  | .ldc_w _ => 3
  | .ldc2_w _ => 3
  | .iinc _ _ => 3
  | .goto _ => 3
  | .if_icmp _ _ => 3
  | .ifCond _ _ => 3
  | .getfield _ => 3
  | .putfield _ => 3
  | .invokevirtual _ => 3
  | .invokestatic _ => 3
  | _ => 1
/-- the word w stands at place i of the tables, and lasts -/
def hd_wd (i : Nat) (w : Cond) : Bool := decide (lw_tbl[i]? = some w) && goodWord w
theorem hd_wd_ok {i : Nat} {w : Cond} (h : hd_wd i w = true) : w ∈ hd_tbl := by
  unfold hd_wd at h
  rw [Bool.and_eq_true, decide_eq_true_eq] at h
  exact hd_in i h.1 h.2
def hd_fld (I : hd_I) (index ci k i : Nat) : Bool := match hd_nth hd_cl ci with
  | some q => decide (k < q.2.2) && hd_wd i (Cond.fieldLink I.1 index (q.2.1 k).1 (q.2.1 k).2.1 (q.2.1 k).2.2.1)
  | none => false
theorem hd_fld_ok {I : hd_I} {index ci k i : Nat} (h : hd_fld I index ci k i = true) : ∃ q : vw_C, hd_cl[ci]? = some q ∧ k < q.2.2 ∧ Cond.fieldLink I.1 index (q.2.1 k).1 (q.2.1 k).2.1 (q.2.1 k).2.2.1 ∈ hd_tbl := by
  unfold hd_fld at h
  rw [hd_nth_eq] at h
  split at h
  · next q e =>
    rw [Bool.and_eq_true, decide_eq_true_eq] at h
    exact ⟨q, e, h.1, hd_wd_ok h.2⟩
  · cases h
def hd_fin (ci k : Nat) : Bool := match hd_nth hd_cl ci with
  | some q => !(q.2.1 k).2.2.2
  | none => false
/-- 0: an int; 1: a boolean; 2: a long -/
def hd_kd (ci k : Nat) (v : Int32) : Bool := match hd_ty ci k with
  | .int => decide (v = 0)
  | .boolean => decide (v = 1)
  | .long => decide (v = 2)
  | _ => false
def hd_al (pc : Nat) : List (Int32 × Nat) → List (Int × Int) → Bool
  | [], [] => true
  | (v, t) :: r, (k, o) :: r' => decide (v.toInt = k) && decide ((pc : Int) + o = (t : Int)) && hd_al pc r r'
  | _, _ => false
def hd_tps : Int → List Int → List (Int × Int)
  | _, [] => []
  | lo, o :: r => (lo, o) :: hd_tps (lo + 1) r
/-- what is static of an instruction -/
def hd_ok1 (I : hd_I) (pc : Nat) (o : hd_O) : Bool := match o with
  | (i, nx, a, b, v, v64, sw, ws) => (match i with
    | .tableswitch dflt lo hi offs => decide (decode I.2.2.1 pc = .ok (i, nx - pc)) && decide ((pc : Int) + dflt = (a : Int)) && hd_al pc sw (hd_tps lo offs.toList) && decide (lo + offs.toList.length = hi + 1)
    | .lookupswitch dflt ps => decide (decode I.2.2.1 pc = .ok (i, nx - pc)) && decide ((pc : Int) + dflt = (a : Int)) && hd_al pc sw ps.toList && (ps.toList.zip (ps.toList.drop 1)).all (fun (a, next) => a.1 < next.1)
    | i => decide (decode I.2.2.1 pc = .ok (i, hd_len i)) && decide (nx = pc + hd_len i) && (match i with
      | .iconst n => decide (Int32.ofInt n = v)
      | .bipush n => decide ((Int8.ofInt n).toInt32 = v)
      | .sipush n => decide ((Int16.ofInt n).toInt32 = v)
      | .lconst n => decide (Int64.ofNat (n : Nat) = v64)
      | .ldc k => (match b with
        | 0 => hd_wd (ws.getD 0 0) (Cond.constant I.1 k v)
        | j + 1 => decide (I.1 = RX4) && decide (a = 1000 + j) && decide ((hd_tx[j]?).map Prod.fst = some k))
      | .ldc_w k => hd_wd (ws.getD 0 0) (Cond.constant I.1 k v)
      | .ldc2_w k => hd_wd (ws.getD 0 0) (Cond.constantLong I.1 k v64)
      | .iload_n k => decide ((k : Nat) = a)
      | .lload_n k => decide ((k : Nat) = a)
      | .aload_n k => decide ((k : Nat) = a)
      | .istore_n k => decide ((k : Nat) = a)
      | .lstore_n k => decide ((k : Nat) = a)
      | .astore_n k => decide ((k : Nat) = a)
      | .iload k => decide (k = a)
      | .lload k => decide (k = a)
      | .aload k => decide (k = a)
      | .istore k => decide (k = a)
      | .lstore k => decide (k = a)
      | .astore k => decide (k = a)
      | .iinc k n => decide (k = a) && decide (Int32.ofInt n = v)
      | .goto off => decide ((pc : Int) + off = (a : Int))
      | .if_icmp _ off => decide ((pc : Int) + off = (a : Int))
      | .ifCond _ off => decide ((pc : Int) + off = (a : Int))
      | .getfield k => hd_fld I k a b (ws.getD 0 0)
      | .putfield k => hd_fld I k a b (ws.getD 0 0) && hd_fin a b && hd_kd a b v
      | _ => true))
/-- one instruction of a straight stretch; else the stretch stops -/
def hd_st1 (o : hd_O) (pc : Nat) (lv : hd_L) (st : List Value) (M : hd_M) (N : hd_N) (C : Prop) (k : hd_L → List Value → hd_M → hd_N → Prop → Prop) (stop : Nat → Prop) : Prop := match o with
  | (i, _, a, b, v, v64, _, _) => (match i with
    | .iconst _ => k lv (.int v :: st) M N C
    | .bipush _ => k lv (.int v :: st) M N C
    | .sipush _ => k lv (.int v :: st) M N C
    | .lconst _ => k lv (.long v64 :: st) M N C
    | .ldc _ => (match b with
      | 0 => k lv (.int v :: st) M N C
      | _ => k lv (.ref a :: st) M N C)
    | .ldc_w _ => k lv (.int v :: st) M N C
    | .ldc2_w _ => k lv (.long v64 :: st) M N C
    | .iload_n _ => hd_ld lv a (fun z => hd_isI z (fun x => k lv (.int x :: st) M N C))
    | .iload _ => hd_ld lv a (fun z => hd_isI z (fun x => k lv (.int x :: st) M N C))
    | .lload_n _ => hd_ld lv a (fun z => hd_isL z (fun x => k lv (.long x :: st) M N C))
    | .lload _ => hd_ld lv a (fun z => hd_isL z (fun x => k lv (.long x :: st) M N C))
    | .aload_n _ => hd_ld lv a (fun z => hd_isR z (fun x => k lv (.ref x :: st) M N C))
    | .aload _ => hd_ld lv a (fun z => hd_isR z (fun x => k lv (.ref x :: st) M N C))
    | .istore_n _ => hd_i1 st (fun x st => hd_sv lv a (some (.int x)) (fun lv => k lv st M N C))
    | .istore _ => hd_i1 st (fun x st => hd_sv lv a (some (.int x)) (fun lv => k lv st M N C))
    | .astore_n _ => hd_r1 st (fun x st => hd_sv lv a (some (.ref x)) (fun lv => k lv st M N C))
    | .astore _ => hd_r1 st (fun x st => hd_sv lv a (some (.ref x)) (fun lv => k lv st M N C))
    | .lstore_n _ => hd_l1 st (fun x st => hd_sv lv (a + 1) none (fun lv => hd_sv lv a (some (.long x)) (fun lv => k lv st M N C)))
    | .lstore _ => hd_l1 st (fun x st => hd_sv lv (a + 1) none (fun lv => hd_sv lv a (some (.long x)) (fun lv => k lv st M N C)))
    | .iinc _ _ => hd_ld lv a (fun z => hd_isI z (fun x => hd_sv lv a (some (.int (x + v))) (fun lv => k lv st M N C)))
    | .iadd => hd_i2 st (fun x y st => k lv (.int (x + y) :: st) M N C)
    | .isub => hd_i2 st (fun x y st => k lv (.int (x - y) :: st) M N C)
    | .imul => hd_i2 st (fun x y st => k lv (.int (x * y) :: st) M N C)
    | .ishl => hd_i2 st (fun x y st => k lv (.int (x <<< (y &&& 31)) :: st) M N C)
    | .ishr => hd_i2 st (fun x y st => k lv (.int (x >>> (y &&& 31)) :: st) M N C)
    | .iand => hd_i2 st (fun x y st => k lv (.int (x &&& y) :: st) M N C)
    | .ior => hd_i2 st (fun x y st => k lv (.int (x ||| y) :: st) M N C)
    | .idiv => hd_i2 st (fun x y st => k lv (.int (x / y) :: st) M N (C ∧ ¬ y = 0))
    | .irem => hd_i2 st (fun x y st => k lv (.int (x - x / y * y) :: st) M N (C ∧ ¬ y = 0))
    | .iushr => hd_i2 st (fun x y st => k lv (.int (x.toUInt32 >>> (y.toUInt32 &&& Int32.toUInt32 31)).toInt32 :: st) M N C)
    | .ineg => hd_i1 st (fun x st => k lv (.int (-x) :: st) M N C)
    | .i2l => hd_i1 st (fun x st => k lv (.long x.toInt64 :: st) M N C)
    | .i2b => hd_i1 st (fun x st => k lv (.int x.toInt8.toInt32 :: st) M N C)
    | .i2s => hd_i1 st (fun x st => k lv (.int x.toInt16.toInt32 :: st) M N C)
    | .ladd => hd_l2 st (fun x y st => k lv (.long (x + y) :: st) M N C)
    | .lmul => hd_l2 st (fun x y st => k lv (.long (x * y) :: st) M N C)
    | .ldiv => hd_l2 st (fun x y st => k lv (.long (x / y) :: st) M N (C ∧ ¬ y = 0))
    | .lrem => hd_l2 st (fun x y st => k lv (.long (x - x / y * y) :: st) M N (C ∧ ¬ y = 0))
    | .lcmp => hd_l2 st (fun x y st => k lv (.int (lg_cmp x y) :: st) M N C)
    | .dup => (match st with
      | .int x :: st => k lv (.int x :: .int x :: st) M N C
      | .ref x :: st => k lv (.ref x :: .ref x :: st) M N C
      | _ => False)
    | .pop => (match st with
      | .int _ :: st => k lv st M N C
      | .ref _ :: st => k lv st M N C
      | _ => False)
    | .dup2 => (match st with
      | .int x :: .ref y :: st => k lv (.int x :: .ref y :: .int x :: .ref y :: st) M N C
      | .int x :: .int y :: st => k lv (.int x :: .int y :: .int x :: .int y :: st) M N C
      | _ => False)
    | .getfield _ => hd_r1 st (fun c st => hd_obj c (fun ci fs => hd_bq ci a (match hd_nth fs b with
      | some r => (match r.1 with
        | 0 => k lv (.int (M c b) :: st) M N C
        | 1 => k lv (.long (N c b) :: st) M N C
        | _ => k lv (.ref r.2 :: st) M N C)
      | none => False)))
    | .putfield _ => (match st with
      | .int x :: .ref c :: st => hd_obj c (fun ci fs => hd_bq ci a (match hd_nth fs b with
        | some r => hd_bq r.1 0 (if v = 0 then k lv st (hd_u M c b x) N C else if v = 1 then k lv st (hd_u M c b x) N (C ∧ (x = 0 ∨ x = 1)) else False)
        | none => False))
      | .long x :: .ref c :: st => hd_obj c (fun ci fs => hd_bq ci a (match hd_nth fs b with
        | some r => hd_bq r.1 1 (if v = 2 then k lv st M (hd_uN N c b x) C else False)
        | none => False))
      | _ => False)
    | .iaload => hd_i1 st (fun i st => hd_r1 st (fun c st => hd_arr c (fun t n => hd_bq t 0 (k lv (.int (M c i.toNatClampNeg) :: st) M N (C ∧ vp_in i n)))))
    | .iastore => hd_i2 st (fun i x st => hd_r1 st (fun c st => hd_arr c (fun t n => hd_bq t 0 (k lv st (hd_u M c i.toNatClampNeg x) N (C ∧ vp_in i n)))))
    | .baload => hd_i1 st (fun i st => hd_r1 st (fun c st => hd_arr c (fun t n => (match t with
      | 1 => k lv (.int (M c i.toNatClampNeg) :: st) M N (C ∧ vp_in i n)
      | 2 => k lv (.int (M c i.toNatClampNeg) :: st) M N (C ∧ vp_in i n)
      | _ => False))))
    | .bastore => hd_i2 st (fun i x st => hd_r1 st (fun c st => hd_arr c (fun t n => (match t with
      | 1 => k lv st (hd_u M c i.toNatClampNeg x) N (C ∧ vp_in i n ∧ vp_nar .byte x = x)
      | 2 => k lv st (hd_u M c i.toNatClampNeg x) N (C ∧ vp_in i n ∧ (x = 0 ∨ x = 1))
      | _ => False))))
    | .aaload => hd_i1 st (fun i st => hd_r1 st (fun c st => hd_rar c (fun t rs => (match hd_nth rs i.toNatClampNeg with
      | some r => k lv (.ref r :: st) M N (C ∧ (t = 3 ∨ t = 4) ∧ ¬ i < 0)
      | none => False))))
    | .arraylength => hd_r1 st (fun c st => hd_arr c (fun t n => k lv (.int (Int32.ofNat n) :: st) M N (C ∧ t < 3)))
    | .goto _ => stop a
    | _ => stop pc)
/-- a stretch of instructions, up to the first that isn't straight, or to the place 'till' -/
def hd_ev1 (till : Nat) (k : hd_K) : List (Nat × hd_O) → hd_L → List Value → hd_M → hd_N → Prop → Prop
  | [], _, _, _, _, _ => False
  | (pc, o) :: r, lv, st, M, N, C => (match Nat.beq pc till with
    | true => k C pc lv st M N
    | false => hd_st1 o pc lv st M N C (fun lv st M N C => hd_ev1 till k r lv st M N C) (fun pc => k C pc lv st M N))
def hd_from (pc : Nat) : List (Nat × hd_O) → List (Nat × hd_O)
  | [] => []
  | (q, o) :: r => (match Nat.beq q pc with
    | true => (q, o) :: r
    | false => hd_from pc r)
/-- the first instruction, whatever 'till' says; then the stretch -/
def hd_ev0 (till : Nat) (k : hd_K) : List (Nat × hd_O) → hd_L → List Value → hd_M → hd_N → Prop
  | [], _, _, _, _ => False
  | (pc, o) :: r, lv, st, M, N => hd_st1 o pc lv st M N True (fun lv st M N C => hd_ev1 till k r lv st M N C) (fun pc => k True pc lv st M N)
end
section
/-! THE EVALUATOR IS RIGHT -/
section
variable {I : hd_I} {pc : Nat} {lv : hd_L} {st : List Value} {M : hd_M} {N : hd_N} {Q : hd_Q}
theorem hd_lget {lv : hd_L} {a : Nat} {x : Value} (h : lv[a]? = some (some x)) {y : Value} (e : x = y) : lv[a]? = some (some y) := e ▸ h
theorem hd_sv2_ok {lv : hd_L} {a : Nat} {v : Value} {k : hd_L → Prop} (h : hd_sv lv (a + 1) none (fun lv => hd_sv lv a (some v) k)) : k ((lv.set a (some v)).set (a + 1) none) ∧ a + 1 < lv.length ∧ ∀ u : Value, lv[a - 1]? = some (some u) → 0 < a → u.category ≠ 2 := by
  obtain ⟨h1, h2, h3⟩ := hd_sv_ok _ _ _ _ h
  obtain ⟨h4, h5, h6⟩ := hd_sv_ok _ _ _ _ h1
  refine ⟨?_, h2, fun u hu ha => h6 u ?_ ha⟩
  · rw [List.set_comm _ _ (by omega)]
    exact h4
  · rw [List.getElem?_set_ne (by omega)]
    exact hu
set_option maxHeartbeats 4000000 in
theorem hd_st1_ok {o : hd_O} {C : Prop} {k : hd_L → List Value → hd_M → hd_N → Prop → Prop} {stop : Nat → Prop} (hok : hd_ok1 I pc o = true) (h : hd_st1 o pc lv st M N C k stop) (hk : ∀ lv st M N C', k lv st M N C' → C' ∧ hd_Go I o.2.1 lv st M N Q) (hs : ∀ pc', stop pc' → C ∧ hd_Go I pc' lv st M N Q) : C ∧ hd_Go I pc lv st M N Q := by
  obtain ⟨i, nx, a, b, v, v64, sw, ws⟩ := o
  cases i
  case iconst z0 =>
    simp only [hd_ok1, Bool.and_eq_true, decide_eq_true_eq] at hok
    obtain ⟨⟨hd, rfl⟩, hv⟩ := hok
    obtain ⟨hC, hg⟩ := hk _ _ _ _ _ h
    exact ⟨hC, hd_iconst hd hv hg⟩
  case bipush z0 =>
    simp only [hd_ok1, Bool.and_eq_true, decide_eq_true_eq] at hok
    obtain ⟨⟨hd, rfl⟩, hv⟩ := hok
    obtain ⟨hC, hg⟩ := hk _ _ _ _ _ h
    exact ⟨hC, hd_bipush hd hv hg⟩
  case sipush z0 =>
    simp only [hd_ok1, Bool.and_eq_true, decide_eq_true_eq] at hok
    obtain ⟨⟨hd, rfl⟩, hv⟩ := hok
    obtain ⟨hC, hg⟩ := hk _ _ _ _ _ h
    exact ⟨hC, hd_sipush hd hv hg⟩
  case lconst z0 =>
    simp only [hd_ok1, Bool.and_eq_true, decide_eq_true_eq] at hok
    obtain ⟨⟨hd, rfl⟩, hv⟩ := hok
    obtain ⟨hC, hg⟩ := hk _ _ _ _ _ h
    exact ⟨hC, hd_lconst hd hv hg⟩
  case ldc z0 =>
    match b, h, hok with
    | 0, h, hok =>
      simp only [hd_ok1, Bool.and_eq_true, decide_eq_true_eq] at hok
      obtain ⟨⟨hd, rfl⟩, hv⟩ := hok
      obtain ⟨hC, hg⟩ := hk _ _ _ _ _ h
      exact ⟨hC, hd_ldc hd (hd_wd_ok hv) hg⟩
    | j + 1, h, hok =>
      simp only [hd_ok1, Bool.and_eq_true, decide_eq_true_eq] at hok
      obtain ⟨⟨hd, rfl⟩, ⟨ho, ha⟩, hx⟩ := hok
      obtain ⟨hC, hg⟩ := hk _ _ _ _ _ h
      subst ha
      cases hj : hd_tx[j]? with
      | none => rw [hj] at hx; cases hx
      | some q =>
        obtain ⟨q1, q2⟩ := q
        rw [hj] at hx
        cases hx
        exact ⟨hC, hd_ldcs hd ho hj hg⟩
  case ldc_w z0 =>
    simp only [hd_ok1, Bool.and_eq_true, decide_eq_true_eq] at hok
    obtain ⟨⟨hd, rfl⟩, hv⟩ := hok
    obtain ⟨hC, hg⟩ := hk _ _ _ _ _ h
    exact ⟨hC, hd_ldcw hd (hd_wd_ok hv) hg⟩
  case ldc2_w z0 =>
    simp only [hd_ok1, Bool.and_eq_true, decide_eq_true_eq] at hok
    obtain ⟨⟨hd, rfl⟩, hv⟩ := hok
    obtain ⟨hC, hg⟩ := hk _ _ _ _ _ h
    exact ⟨hC, hd_ldc2 hd (hd_wd_ok hv) hg⟩
  case iload_n z0 =>
    simp only [hd_ok1, Bool.and_eq_true, decide_eq_true_eq] at hok
    obtain ⟨⟨hd, rfl⟩, hv⟩ := hok
    obtain ⟨z, h1, h2⟩ := hd_ld_ok _ _ _ h
    obtain ⟨x, rfl, h3⟩ := hd_isI_ok h2
    obtain ⟨hC, hg⟩ := hk _ _ _ _ _ h3
    exact ⟨hC, hd_iload_n hd hv h1 hg⟩
  case iload z0 =>
    simp only [hd_ok1, Bool.and_eq_true, decide_eq_true_eq] at hok
    obtain ⟨⟨hd, rfl⟩, rfl⟩ := hok
    obtain ⟨z, h1, h2⟩ := hd_ld_ok _ _ _ h
    obtain ⟨x, rfl, h3⟩ := hd_isI_ok h2
    obtain ⟨hC, hg⟩ := hk _ _ _ _ _ h3
    exact ⟨hC, hd_iload hd h1 hg⟩
  case lload_n z0 =>
    simp only [hd_ok1, Bool.and_eq_true, decide_eq_true_eq] at hok
    obtain ⟨⟨hd, rfl⟩, hv⟩ := hok
    obtain ⟨z, h1, h2⟩ := hd_ld_ok _ _ _ h
    obtain ⟨x, rfl, h3⟩ := hd_isL_ok h2
    obtain ⟨hC, hg⟩ := hk _ _ _ _ _ h3
    exact ⟨hC, hd_lload_n hd hv h1 hg⟩
  case lload z0 =>
    simp only [hd_ok1, Bool.and_eq_true, decide_eq_true_eq] at hok
    obtain ⟨⟨hd, rfl⟩, rfl⟩ := hok
    obtain ⟨z, h1, h2⟩ := hd_ld_ok _ _ _ h
    obtain ⟨x, rfl, h3⟩ := hd_isL_ok h2
    obtain ⟨hC, hg⟩ := hk _ _ _ _ _ h3
    exact ⟨hC, hd_lload hd h1 hg⟩
  case aload_n z0 =>
    simp only [hd_ok1, Bool.and_eq_true, decide_eq_true_eq] at hok
    obtain ⟨⟨hd, rfl⟩, hv⟩ := hok
    obtain ⟨z, h1, h2⟩ := hd_ld_ok _ _ _ h
    obtain ⟨x, rfl, h3⟩ := hd_isR_ok h2
    obtain ⟨hC, hg⟩ := hk _ _ _ _ _ h3
    exact ⟨hC, hd_aload_n hd hv h1 hg⟩
  case aload z0 =>
    simp only [hd_ok1, Bool.and_eq_true, decide_eq_true_eq] at hok
    obtain ⟨⟨hd, rfl⟩, rfl⟩ := hok
    obtain ⟨z, h1, h2⟩ := hd_ld_ok _ _ _ h
    obtain ⟨x, rfl, h3⟩ := hd_isR_ok h2
    obtain ⟨hC, hg⟩ := hk _ _ _ _ _ h3
    exact ⟨hC, hd_aload hd h1 hg⟩
  case istore_n z0 =>
    simp only [hd_ok1, Bool.and_eq_true, decide_eq_true_eq] at hok
    obtain ⟨⟨hd, rfl⟩, hv⟩ := hok
    obtain ⟨x, r, rfl, h2⟩ := hd_i1_ok h
    obtain ⟨h3, h4, h5⟩ := hd_sv_ok _ _ _ _ h2
    obtain ⟨hC, hg⟩ := hk _ _ _ _ _ h3
    exact ⟨hC, hd_istore_n hd hv h4 h5 hg⟩
  case istore z0 =>
    simp only [hd_ok1, Bool.and_eq_true, decide_eq_true_eq] at hok
    obtain ⟨⟨hd, rfl⟩, rfl⟩ := hok
    obtain ⟨x, r, rfl, h2⟩ := hd_i1_ok h
    obtain ⟨h3, h4, h5⟩ := hd_sv_ok _ _ _ _ h2
    obtain ⟨hC, hg⟩ := hk _ _ _ _ _ h3
    exact ⟨hC, hd_istore hd h4 h5 hg⟩
  case astore_n z0 =>
    simp only [hd_ok1, Bool.and_eq_true, decide_eq_true_eq] at hok
    obtain ⟨⟨hd, rfl⟩, hv⟩ := hok
    obtain ⟨x, r, rfl, h2⟩ := hd_r1_ok h
    obtain ⟨h3, h4, h5⟩ := hd_sv_ok _ _ _ _ h2
    obtain ⟨hC, hg⟩ := hk _ _ _ _ _ h3
    exact ⟨hC, hd_astore_n hd hv h4 h5 hg⟩
  case astore z0 =>
    simp only [hd_ok1, Bool.and_eq_true, decide_eq_true_eq] at hok
    obtain ⟨⟨hd, rfl⟩, rfl⟩ := hok
    obtain ⟨x, r, rfl, h2⟩ := hd_r1_ok h
    obtain ⟨h3, h4, h5⟩ := hd_sv_ok _ _ _ _ h2
    obtain ⟨hC, hg⟩ := hk _ _ _ _ _ h3
    exact ⟨hC, hd_astore hd h4 h5 hg⟩
  case lstore_n z0 =>
    simp only [hd_ok1, Bool.and_eq_true, decide_eq_true_eq] at hok
    obtain ⟨⟨hd, rfl⟩, hv⟩ := hok
    obtain ⟨x, r, rfl, h2⟩ := hd_l1_ok h
    obtain ⟨h3, h4, h5⟩ := hd_sv2_ok h2
    obtain ⟨hC, hg⟩ := hk _ _ _ _ _ h3
    exact ⟨hC, hd_lstore_n hd hv h4 h5 hg⟩
  case lstore z0 =>
    simp only [hd_ok1, Bool.and_eq_true, decide_eq_true_eq] at hok
    obtain ⟨⟨hd, rfl⟩, rfl⟩ := hok
    obtain ⟨x, r, rfl, h2⟩ := hd_l1_ok h
    obtain ⟨h3, h4, h5⟩ := hd_sv2_ok h2
    obtain ⟨hC, hg⟩ := hk _ _ _ _ _ h3
    exact ⟨hC, hd_lstore hd h4 h5 hg⟩
  case iinc z0 z1 =>
    simp only [hd_ok1, Bool.and_eq_true, decide_eq_true_eq] at hok
    obtain ⟨⟨hd, rfl⟩, rfl, hv⟩ := hok
    obtain ⟨z, h1, h2⟩ := hd_ld_ok _ _ _ h
    obtain ⟨x, rfl, h3⟩ := hd_isI_ok h2
    obtain ⟨h4, h5, h6⟩ := hd_sv_ok _ _ _ _ h3
    obtain ⟨hC, hg⟩ := hk _ _ _ _ _ h4
    exact ⟨hC, hd_iinc hd h1 hv h6 hg⟩
  case iadd =>
    simp only [hd_ok1, Bool.and_eq_true, decide_eq_true_eq] at hok
    obtain ⟨⟨hd, rfl⟩, -⟩ := hok
    obtain ⟨x, y, r, rfl, h2⟩ := hd_i2_ok h
    obtain ⟨hC, hg⟩ := hk _ _ _ _ _ h2
    exact ⟨hC, hd_iadd hd hg⟩
  case isub =>
    simp only [hd_ok1, Bool.and_eq_true, decide_eq_true_eq] at hok
    obtain ⟨⟨hd, rfl⟩, -⟩ := hok
    obtain ⟨x, y, r, rfl, h2⟩ := hd_i2_ok h
    obtain ⟨hC, hg⟩ := hk _ _ _ _ _ h2
    exact ⟨hC, hd_isub hd hg⟩
  case imul =>
    simp only [hd_ok1, Bool.and_eq_true, decide_eq_true_eq] at hok
    obtain ⟨⟨hd, rfl⟩, -⟩ := hok
    obtain ⟨x, y, r, rfl, h2⟩ := hd_i2_ok h
    obtain ⟨hC, hg⟩ := hk _ _ _ _ _ h2
    exact ⟨hC, hd_imul hd hg⟩
  case ishl =>
    simp only [hd_ok1, Bool.and_eq_true, decide_eq_true_eq] at hok
    obtain ⟨⟨hd, rfl⟩, -⟩ := hok
    obtain ⟨x, y, r, rfl, h2⟩ := hd_i2_ok h
    obtain ⟨hC, hg⟩ := hk _ _ _ _ _ h2
    exact ⟨hC, hd_ishl hd hg⟩
  case ishr =>
    simp only [hd_ok1, Bool.and_eq_true, decide_eq_true_eq] at hok
    obtain ⟨⟨hd, rfl⟩, -⟩ := hok
    obtain ⟨x, y, r, rfl, h2⟩ := hd_i2_ok h
    obtain ⟨hC, hg⟩ := hk _ _ _ _ _ h2
    exact ⟨hC, hd_ishr hd hg⟩
  case iand =>
    simp only [hd_ok1, Bool.and_eq_true, decide_eq_true_eq] at hok
    obtain ⟨⟨hd, rfl⟩, -⟩ := hok
    obtain ⟨x, y, r, rfl, h2⟩ := hd_i2_ok h
    obtain ⟨hC, hg⟩ := hk _ _ _ _ _ h2
    exact ⟨hC, hd_iand hd hg⟩
  case ior =>
    simp only [hd_ok1, Bool.and_eq_true, decide_eq_true_eq] at hok
    obtain ⟨⟨hd, rfl⟩, -⟩ := hok
    obtain ⟨x, y, r, rfl, h2⟩ := hd_i2_ok h
    obtain ⟨hC, hg⟩ := hk _ _ _ _ _ h2
    exact ⟨hC, hd_ior hd hg⟩
  case iushr =>
    simp only [hd_ok1, Bool.and_eq_true, decide_eq_true_eq] at hok
    obtain ⟨⟨hd, rfl⟩, -⟩ := hok
    obtain ⟨x, y, r, rfl, h2⟩ := hd_i2_ok h
    obtain ⟨hC, hg⟩ := hk _ _ _ _ _ h2
    exact ⟨hC, hd_iushr hd hg⟩
  case idiv =>
    simp only [hd_ok1, Bool.and_eq_true, decide_eq_true_eq] at hok
    obtain ⟨⟨hd, rfl⟩, -⟩ := hok
    obtain ⟨x, y, r, rfl, h2⟩ := hd_i2_ok h
    obtain ⟨⟨hC, hn⟩, hg⟩ := hk _ _ _ _ _ h2
    exact ⟨hC, hd_idiv hd hn hg⟩
  case irem =>
    simp only [hd_ok1, Bool.and_eq_true, decide_eq_true_eq] at hok
    obtain ⟨⟨hd, rfl⟩, -⟩ := hok
    obtain ⟨x, y, r, rfl, h2⟩ := hd_i2_ok h
    obtain ⟨⟨hC, hn⟩, hg⟩ := hk _ _ _ _ _ h2
    exact ⟨hC, hd_irem hd hn hg⟩
  case ineg =>
    simp only [hd_ok1, Bool.and_eq_true, decide_eq_true_eq] at hok
    obtain ⟨⟨hd, rfl⟩, -⟩ := hok
    obtain ⟨x, r, rfl, h2⟩ := hd_i1_ok h
    obtain ⟨hC, hg⟩ := hk _ _ _ _ _ h2
    exact ⟨hC, hd_ineg hd hg⟩
  case i2l =>
    simp only [hd_ok1, Bool.and_eq_true, decide_eq_true_eq] at hok
    obtain ⟨⟨hd, rfl⟩, -⟩ := hok
    obtain ⟨x, r, rfl, h2⟩ := hd_i1_ok h
    obtain ⟨hC, hg⟩ := hk _ _ _ _ _ h2
    exact ⟨hC, hd_i2l hd hg⟩
  case i2b =>
    simp only [hd_ok1, Bool.and_eq_true, decide_eq_true_eq] at hok
    obtain ⟨⟨hd, rfl⟩, -⟩ := hok
    obtain ⟨x, r, rfl, h2⟩ := hd_i1_ok h
    obtain ⟨hC, hg⟩ := hk _ _ _ _ _ h2
    exact ⟨hC, hd_i2b hd hg⟩
  case i2s =>
    simp only [hd_ok1, Bool.and_eq_true, decide_eq_true_eq] at hok
    obtain ⟨⟨hd, rfl⟩, -⟩ := hok
    obtain ⟨x, r, rfl, h2⟩ := hd_i1_ok h
    obtain ⟨hC, hg⟩ := hk _ _ _ _ _ h2
    exact ⟨hC, hd_i2s hd hg⟩
  case ladd =>
    simp only [hd_ok1, Bool.and_eq_true, decide_eq_true_eq] at hok
    obtain ⟨⟨hd, rfl⟩, -⟩ := hok
    obtain ⟨x, y, r, rfl, h2⟩ := hd_l2_ok h
    obtain ⟨hC, hg⟩ := hk _ _ _ _ _ h2
    exact ⟨hC, hd_ladd hd hg⟩
  case lmul =>
    simp only [hd_ok1, Bool.and_eq_true, decide_eq_true_eq] at hok
    obtain ⟨⟨hd, rfl⟩, -⟩ := hok
    obtain ⟨x, y, r, rfl, h2⟩ := hd_l2_ok h
    obtain ⟨hC, hg⟩ := hk _ _ _ _ _ h2
    exact ⟨hC, hd_lmul hd hg⟩
  case lcmp =>
    simp only [hd_ok1, Bool.and_eq_true, decide_eq_true_eq] at hok
    obtain ⟨⟨hd, rfl⟩, -⟩ := hok
    obtain ⟨x, y, r, rfl, h2⟩ := hd_l2_ok h
    obtain ⟨hC, hg⟩ := hk _ _ _ _ _ h2
    exact ⟨hC, hd_lcmp hd hg⟩
  case ldiv =>
    simp only [hd_ok1, Bool.and_eq_true, decide_eq_true_eq] at hok
    obtain ⟨⟨hd, rfl⟩, -⟩ := hok
    obtain ⟨x, y, r, rfl, h2⟩ := hd_l2_ok h
    obtain ⟨⟨hC, hn⟩, hg⟩ := hk _ _ _ _ _ h2
    exact ⟨hC, hd_ldiv hd hn hg⟩
  case lrem =>
    simp only [hd_ok1, Bool.and_eq_true, decide_eq_true_eq] at hok
    obtain ⟨⟨hd, rfl⟩, -⟩ := hok
    obtain ⟨x, y, r, rfl, h2⟩ := hd_l2_ok h
    obtain ⟨⟨hC, hn⟩, hg⟩ := hk _ _ _ _ _ h2
    exact ⟨hC, hd_lrem hd hn hg⟩
  case dup =>
    simp only [hd_ok1, Bool.and_eq_true, decide_eq_true_eq] at hok
    obtain ⟨⟨hd, rfl⟩, -⟩ := hok
    simp only [hd_st1] at h
    split at h
    · obtain ⟨hC, hg⟩ := hk _ _ _ _ _ h
      exact ⟨hC, hd_dup hd rfl hg⟩
    · obtain ⟨hC, hg⟩ := hk _ _ _ _ _ h
      exact ⟨hC, hd_dup hd rfl hg⟩
    · exact h.elim
  case pop =>
    simp only [hd_ok1, Bool.and_eq_true, decide_eq_true_eq] at hok
    obtain ⟨⟨hd, rfl⟩, -⟩ := hok
    simp only [hd_st1] at h
    split at h
    · obtain ⟨hC, hg⟩ := hk _ _ _ _ _ h
      exact ⟨hC, hd_pop hd rfl hg⟩
    · obtain ⟨hC, hg⟩ := hk _ _ _ _ _ h
      exact ⟨hC, hd_pop hd rfl hg⟩
    · exact h.elim
  case dup2 =>
    simp only [hd_ok1, Bool.and_eq_true, decide_eq_true_eq] at hok
    obtain ⟨⟨hd, rfl⟩, -⟩ := hok
    simp only [hd_st1] at h
    split at h
    · obtain ⟨hC, hg⟩ := hk _ _ _ _ _ h
      exact ⟨hC, hd_dup2 hd rfl rfl hg⟩
    · obtain ⟨hC, hg⟩ := hk _ _ _ _ _ h
      exact ⟨hC, hd_dup2 hd rfl rfl hg⟩
    · exact h.elim
  case getfield z0 =>
    simp only [hd_ok1, Bool.and_eq_true, decide_eq_true_eq] at hok
    obtain ⟨⟨hd, rfl⟩, hv⟩ := hok
    obtain ⟨q, hq, hlt, hl⟩ := hd_fld_ok hv
    obtain ⟨c, r, rfl, h2⟩ := hd_r1_ok h
    obtain ⟨ci, fs, hsh, h3⟩ := hd_obj_ok h2
    obtain ⟨rfl, h4⟩ := hd_bq_ok h3
    rw [hd_nth_eq] at h4
    cases hr : fs[b]? with
    | none => rw [hr] at h4; exact h4.elim
    | some r =>
      rw [hr] at h4
      obtain ⟨r1, r2⟩ := r
      match r1, h4, hr with
      | 0, h4, hr =>
        obtain ⟨hC, hg⟩ := hk _ _ _ _ _ h4
        exact ⟨hC, hd_getf hd hsh hq hlt hl hr hg⟩
      | 1, h4, hr =>
        obtain ⟨hC, hg⟩ := hk _ _ _ _ _ h4
        exact ⟨hC, hd_getf hd hsh hq hlt hl hr hg⟩
      | j + 2, h4, hr =>
        obtain ⟨hC, hg⟩ := hk _ _ _ _ _ h4
        exact ⟨hC, hd_getf hd hsh hq hlt hl hr hg⟩
  case putfield z0 =>
    simp only [hd_ok1, Bool.and_eq_true, decide_eq_true_eq] at hok
    obtain ⟨⟨hd, rfl⟩, ⟨hv, hf⟩, hkd⟩ := hok
    obtain ⟨q, hq, hlt, hl⟩ := hd_fld_ok hv
    have hfin : (q.2.1 b).2.2.2 = false := by
      unfold hd_fin at hf
      rw [hd_nth_eq, hq] at hf
      simpa using hf
    simp only [hd_st1] at h
    split at h
    · next x c r =>
      obtain ⟨ci, fs, hsh, h3⟩ := hd_obj_ok h
      obtain ⟨rfl, h4⟩ := hd_bq_ok h3
      rw [hd_nth_eq] at h4
      cases hr : fs[b]? with
      | none => rw [hr] at h4; exact h4.elim
      | some r =>
        rw [hr] at h4
        obtain ⟨r1, r2⟩ := r
        obtain ⟨e1, h5⟩ := hd_bq_ok h4
        have e1 : r1 = 0 := e1
        subst e1
        by_cases hv0 : v = 0
        · rw [if_pos hv0] at h5
          obtain ⟨hC, hg⟩ := hk _ _ _ _ _ h5
          have ht : hd_ty ci b = .int := by
            unfold hd_kd at hkd
            split at hkd
            · assumption
            · rw [hv0] at hkd; exact absurd hkd (by decide)
            · rw [hv0] at hkd; exact absurd hkd (by decide)
            · cases hkd
          exact ⟨hC, hd_putf hd hsh hq hlt hl hr hfin (by rw [ht]; rfl) (by rw [ht]; rfl) hg⟩
        · rw [if_neg hv0] at h5
          by_cases hv1 : v = 1
          · rw [if_pos hv1] at h5
            obtain ⟨⟨hC, hx⟩, hg⟩ := hk _ _ _ _ _ h5
            have ht : hd_ty ci b = .boolean := by
              unfold hd_kd at hkd
              split at hkd
              · rw [hv1] at hkd; exact absurd hkd (by decide)
              · assumption
              · rw [hv1] at hkd; exact absurd hkd (by decide)
              · cases hkd
            refine ⟨hC, hd_putf hd hsh hq hlt hl hr hfin ?_ ?_ hg⟩
            · rw [ht]; rcases hx with rfl | rfl <;> rfl
            · rw [ht]; rcases hx with rfl | rfl <;> rfl
          · rw [if_neg hv1] at h5; exact h5.elim
    · next x c r =>
      obtain ⟨ci, fs, hsh, h3⟩ := hd_obj_ok h
      obtain ⟨rfl, h4⟩ := hd_bq_ok h3
      rw [hd_nth_eq] at h4
      cases hr : fs[b]? with
      | none => rw [hr] at h4; exact h4.elim
      | some r =>
        rw [hr] at h4
        obtain ⟨r1, r2⟩ := r
        obtain ⟨e1, h5⟩ := hd_bq_ok h4
        have e1 : r1 = 1 := e1
        subst e1
        by_cases hv2 : v = 2
        · rw [if_pos hv2] at h5
          obtain ⟨hC, hg⟩ := hk _ _ _ _ _ h5
          have ht : hd_ty ci b = .long := by
            unfold hd_kd at hkd
            split at hkd
            · rw [hv2] at hkd; exact absurd hkd (by decide)
            · rw [hv2] at hkd; exact absurd hkd (by decide)
            · assumption
            · cases hkd
          exact ⟨hC, hd_putl hd hsh hq hlt hl hr hfin (by rw [ht]; rfl) (by rw [ht]; rfl) hg⟩
        · rw [if_neg hv2] at h5; exact h5.elim
    · exact h.elim
  case iaload =>
    simp only [hd_ok1, Bool.and_eq_true, decide_eq_true_eq] at hok
    obtain ⟨⟨hd, rfl⟩, -⟩ := hok
    obtain ⟨x, r, rfl, h2⟩ := hd_i1_ok h
    obtain ⟨c, r2, rfl, h3⟩ := hd_r1_ok h2
    obtain ⟨t, n, hsh, h4⟩ := hd_arr_ok h3
    obtain ⟨rfl, h5⟩ := hd_bq_ok h4
    obtain ⟨⟨hC, hn⟩, hg⟩ := hk _ _ _ _ _ h5
    exact ⟨hC, hd_iaload hd hsh hn hg⟩
  case iastore =>
    simp only [hd_ok1, Bool.and_eq_true, decide_eq_true_eq] at hok
    obtain ⟨⟨hd, rfl⟩, -⟩ := hok
    obtain ⟨x, y, r, rfl, h2⟩ := hd_i2_ok h
    obtain ⟨c, r2, rfl, h3⟩ := hd_r1_ok h2
    obtain ⟨t, n, hsh, h4⟩ := hd_arr_ok h3
    obtain ⟨rfl, h5⟩ := hd_bq_ok h4
    obtain ⟨⟨hC, hn⟩, hg⟩ := hk _ _ _ _ _ h5
    exact ⟨hC, hd_iastore hd hsh hn hg⟩
  case baload =>
    simp only [hd_ok1, Bool.and_eq_true, decide_eq_true_eq] at hok
    obtain ⟨⟨hd, rfl⟩, -⟩ := hok
    obtain ⟨x, r, rfl, h2⟩ := hd_i1_ok h
    obtain ⟨c, r2, rfl, h3⟩ := hd_r1_ok h2
    obtain ⟨t, n, hsh, h4⟩ := hd_arr_ok h3
    split at h4
    · obtain ⟨⟨hC, hn⟩, hg⟩ := hk _ _ _ _ _ h4
      exact ⟨hC, hd_baload hd (Or.inl hsh) hn hg⟩
    · obtain ⟨⟨hC, hn⟩, hg⟩ := hk _ _ _ _ _ h4
      exact ⟨hC, hd_baload hd (Or.inr hsh) hn hg⟩
    · exact h4.elim
  case bastore =>
    simp only [hd_ok1, Bool.and_eq_true, decide_eq_true_eq] at hok
    obtain ⟨⟨hd, rfl⟩, -⟩ := hok
    obtain ⟨x, y, r, rfl, h2⟩ := hd_i2_ok h
    obtain ⟨c, r2, rfl, h3⟩ := hd_r1_ok h2
    obtain ⟨t, n, hsh, h4⟩ := hd_arr_ok h3
    split at h4
    · obtain ⟨⟨hC, hn, hx⟩, hg⟩ := hk _ _ _ _ _ h4
      exact ⟨hC, hd_bastore hd (Or.inl ⟨hsh, hx⟩) hn hg⟩
    · obtain ⟨⟨hC, hn, hx⟩, hg⟩ := hk _ _ _ _ _ h4
      exact ⟨hC, hd_bastore hd (Or.inr ⟨hsh, by rcases hx with rfl | rfl <;> rfl⟩) hn hg⟩
    · exact h4.elim
  case aaload =>
    simp only [hd_ok1, Bool.and_eq_true, decide_eq_true_eq] at hok
    obtain ⟨⟨hd, rfl⟩, -⟩ := hok
    obtain ⟨x, r, rfl, h2⟩ := hd_i1_ok h
    obtain ⟨c, r2, rfl, h3⟩ := hd_r1_ok h2
    obtain ⟨t, rs, hsh, h4⟩ := hd_rar_ok h3
    rw [hd_nth_eq] at h4
    split at h4
    · next j hj =>
      obtain ⟨⟨hC, ht, hn⟩, hg⟩ := hk _ _ _ _ _ h4
      exact ⟨hC, hd_aaload hd ht hsh hn hj hg⟩
    · exact h4.elim
  case arraylength =>
    simp only [hd_ok1, Bool.and_eq_true, decide_eq_true_eq] at hok
    obtain ⟨⟨hd, rfl⟩, -⟩ := hok
    obtain ⟨c, r2, rfl, h3⟩ := hd_r1_ok h
    obtain ⟨t, n, hsh, h4⟩ := hd_arr_ok h3
    obtain ⟨⟨hC, hn⟩, hg⟩ := hk _ _ _ _ _ h4
    exact ⟨hC, hd_alen hd hn hsh rfl hg⟩
  case goto z0 =>
    simp only [hd_ok1, Bool.and_eq_true, decide_eq_true_eq] at hok
    obtain ⟨⟨hd, -⟩, ht⟩ := hok
    obtain ⟨hC, hg⟩ := hs _ h
    exact ⟨hC, hd_goto hd ht hg⟩
  all_goals exact hs _ h
/-- a list of instructions, each as it stands in the bytes, one behind another -/
def hd_okL (I : hd_I) : List (Nat × hd_O) → Bool
  | [] => true
  | (pc, o) :: r => hd_ok1 I pc o && (match r with
    | [] => true
    | (q, _) :: _ => Nat.beq o.2.1 q) && hd_okL I r
theorem hd_ev1_ok (till : Nat) {k : hd_K} (hk : ∀ C pc lv st M N, k C pc lv st M N → C ∧ hd_Go I pc lv st M N Q) : ∀ (l : List (Nat × hd_O)) (lv : hd_L) (st : List Value) (M : hd_M) (N : hd_N) (C : Prop), hd_okL I l = true → hd_ev1 till k l lv st M N C → ∃ q o r, l = (q, o) :: r ∧ C ∧ hd_Go I q lv st M N Q := by
  intro l
  induction l with
  | nil => intro lv st M N C _ h; exact h.elim
  | cons x r ih =>
    obtain ⟨pc, o⟩ := x
    intro lv st M N C hok h
    refine ⟨pc, o, r, rfl, ?_⟩
    unfold hd_ev1 at h
    split at h
    · exact hk _ _ _ _ _ _ h
    · unfold hd_okL at hok
      rw [Bool.and_eq_true, Bool.and_eq_true] at hok
      refine hd_st1_ok hok.1.1 h ?_ (fun pc' h' => hk _ _ _ _ _ _ h')
      intro lv1 st1 M1 N1 C1 h1
      obtain ⟨q, o1, r1, rfl, h2, h3⟩ := ih lv1 st1 M1 N1 C1 hok.2 h1
      refine ⟨h2, ?_⟩
      have e : o.2.1 = q := Nat.eq_of_beq_eq_true hok.1.2
      rw [e]
      exact h3
theorem hd_from_ok : ∀ (l : List (Nat × hd_O)) (pc : Nat), hd_okL I l = true → hd_okL I (hd_from pc l) = true ∧ ∀ q o r, hd_from pc l = (q, o) :: r → q = pc := by
  intro l
  induction l with
  | nil => intro pc h; exact ⟨h, fun q o r e => by cases e⟩
  | cons x r ih =>
    obtain ⟨p, o⟩ := x
    intro pc h
    unfold hd_from
    split
    · next e => exact ⟨h, fun q o r e' => by cases e'; exact Nat.eq_of_beq_eq_true e⟩
    · unfold hd_okL at h
      rw [Bool.and_eq_true] at h
      exact ih pc h.2
abbrev hd_pg (I : hd_I) : List (Nat × hd_O) := I.2.2.2.2.2.2
/-- a straight stretch from pc on, to its end, or to the place 'till' -/
theorem hd_ev (ok : hd_okL I (hd_pg I) = true) (till : Nat) (h : ∀ k : hd_K, (∀ C pc lv st M N, C → hd_Go I pc lv st M N Q → k C pc lv st M N) → hd_ev0 till k (hd_from pc (hd_pg I)) lv st M N) : hd_Go I pc lv st M N Q := by
  have h0 := h (fun C pc lv st M N => C ∧ hd_Go I pc lv st M N Q) (fun C pc lv st M N a b => ⟨a, b⟩)
  obtain ⟨h1, h2⟩ := hd_from_ok (hd_pg I) pc ok
  generalize hd_from pc (hd_pg I) = l at h0 h1 h2
  cases l with
  | nil => exact h0.elim
  | cons x r =>
    obtain ⟨q, o⟩ := x
    have e := h2 q o r rfl
    subst e
    unfold hd_okL at h1
    rw [Bool.and_eq_true, Bool.and_eq_true] at h1
    unfold hd_ev0 at h0
    refine (hd_st1_ok h1.1.1 h0 ?_ (fun pc' h' => h')).2
    intro lv1 st1 M1 N1 C1 h3
    obtain ⟨q2, o1, r1, rfl, h4, h5⟩ := hd_ev1_ok till (fun C pc lv st M N h' => h') r lv1 st1 M1 N1 C1 h1.2 h3
    refine ⟨h4, ?_⟩
    have e : o.2.1 = q2 := Nat.eq_of_beq_eq_true h1.1.2
    rw [e]
    exact h5
end
end
