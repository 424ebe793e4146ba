-- ===== PART A: goes FIRST, ahead of the names: the tables' words, and 'selects' of the private methods out of them =====
/-- a private method of a class that the tables say can be made, by its rows of tables_1 -/
def lw_okq (q : MethodName × Nat) : Prop := (q.1.cls ≠ "java/lang/invoke/MethodHandle" ∧ q.1.cls ≠ "java/lang/invoke/VarHandle") ∧ Cond.instantiable q.1.cls q.2 ∈ tables_1 ∧ Cond.privateMethod q.1 ∈ tables_1 ∧ Cond.instanceMethod q.1 ∈ tables_1
theorem lw_p0 : lw_okq (⟨"WearingBench$Tape", "advance", "()V"⟩, 7) := ⟨⟨by decide +kernel, by decide +kernel⟩, List.mem_of_getElem? (i := 29) (by decide +kernel), List.mem_of_getElem? (i := 426) (by decide +kernel), List.mem_of_getElem? (i := 427) (by decide +kernel)⟩
theorem lw_p1 : lw_okq (⟨"WearingBench$Tape", "growsOn", "()Z"⟩, 7) := ⟨⟨by decide +kernel, by decide +kernel⟩, List.mem_of_getElem? (i := 29) (by decide +kernel), List.mem_of_getElem? (i := 436) (by decide +kernel), List.mem_of_getElem? (i := 437) (by decide +kernel)⟩
theorem lw_p2 : lw_okq (⟨"WearingBench$Tape", "readFirst", "(LWearingBench$Bench;)V"⟩, 7) := ⟨⟨by decide +kernel, by decide +kernel⟩, List.mem_of_getElem? (i := 29) (by decide +kernel), List.mem_of_getElem? (i := 440) (by decide +kernel), List.mem_of_getElem? (i := 441) (by decide +kernel)⟩
theorem lw_p3 : lw_okq (⟨"WearingBench$Tape", "takeWord", "(Ljava/lang/String;)V"⟩, 7) := ⟨⟨by decide +kernel, by decide +kernel⟩, List.mem_of_getElem? (i := 29) (by decide +kernel), List.mem_of_getElem? (i := 445) (by decide +kernel), List.mem_of_getElem? (i := 446) (by decide +kernel)⟩
theorem lw_p4 : lw_okq (⟨"WearingBench$Tape", "isWord", "(Ljava/lang/String;)Z"⟩, 7) := ⟨⟨by decide +kernel, by decide +kernel⟩, List.mem_of_getElem? (i := 29) (by decide +kernel), List.mem_of_getElem? (i := 449) (by decide +kernel), List.mem_of_getElem? (i := 450) (by decide +kernel)⟩
theorem lw_p5 : lw_okq (⟨"WearingBench$Tape", "refuse", "(I)V"⟩, 7) := ⟨⟨by decide +kernel, by decide +kernel⟩, List.mem_of_getElem? (i := 29) (by decide +kernel), List.mem_of_getElem? (i := 501) (by decide +kernel), List.mem_of_getElem? (i := 502) (by decide +kernel)⟩
theorem lw_p6 : lw_okq (⟨"WearingBench$Tape", "takeAfter", "(Ljava/lang/String;II)I"⟩, 7) := ⟨⟨by decide +kernel, by decide +kernel⟩, List.mem_of_getElem? (i := 29) (by decide +kernel), List.mem_of_getElem? (i := 506) (by decide +kernel), List.mem_of_getElem? (i := 507) (by decide +kernel)⟩
theorem lw_p7 : lw_okq (⟨"WearingBench$Tape", "valueHere", "()I"⟩, 7) := ⟨⟨by decide +kernel, by decide +kernel⟩, List.mem_of_getElem? (i := 29) (by decide +kernel), List.mem_of_getElem? (i := 510) (by decide +kernel), List.mem_of_getElem? (i := 511) (by decide +kernel)⟩
theorem lw_p8 : lw_okq (⟨"WearingBench$Tape", "readSeat", "(LWearingBench$Bench;)V"⟩, 7) := ⟨⟨by decide +kernel, by decide +kernel⟩, List.mem_of_getElem? (i := 29) (by decide +kernel), List.mem_of_getElem? (i := 521) (by decide +kernel), List.mem_of_getElem? (i := 522) (by decide +kernel)⟩
theorem lw_p9 : lw_okq (⟨"WearingBench$Tape", "readCaller", "(LWearingBench$Bench;)V"⟩, 7) := ⟨⟨by decide +kernel, by decide +kernel⟩, List.mem_of_getElem? (i := 29) (by decide +kernel), List.mem_of_getElem? (i := 528) (by decide +kernel), List.mem_of_getElem? (i := 529) (by decide +kernel)⟩
theorem lw_p10 : lw_okq (⟨"WearingBench$Tape", "takeSign", "()V"⟩, 7) := ⟨⟨by decide +kernel, by decide +kernel⟩, List.mem_of_getElem? (i := 29) (by decide +kernel), List.mem_of_getElem? (i := 536) (by decide +kernel), List.mem_of_getElem? (i := 537) (by decide +kernel)⟩
theorem lw_p11 : lw_okq (⟨"WearingBench", "forgetAnswers", "()V"⟩, 13) := ⟨⟨by decide +kernel, by decide +kernel⟩, List.mem_of_getElem? (i := 21) (by decide +kernel), List.mem_of_getElem? (i := 544) (by decide +kernel), List.mem_of_getElem? (i := 545) (by decide +kernel)⟩
theorem lw_p12 : lw_okq (⟨"WearingBench", "livedToday", "()LWearingBench$Diary;"⟩, 13) := ⟨⟨by decide +kernel, by decide +kernel⟩, List.mem_of_getElem? (i := 21) (by decide +kernel), List.mem_of_getElem? (i := 576) (by decide +kernel), List.mem_of_getElem? (i := 577) (by decide +kernel)⟩
theorem lw_p13 : lw_okq (⟨"WearingBench$Day", "moveAll", "(LWearingBench$Bench;I)V"⟩, 10) := ⟨⟨by decide +kernel, by decide +kernel⟩, List.mem_of_getElem? (i := 179) (by decide +kernel), List.mem_of_getElem? (i := 595) (by decide +kernel), List.mem_of_getElem? (i := 596) (by decide +kernel)⟩
theorem lw_p14 : lw_okq (⟨"WearingBench$Day", "leaveSeat", "(I)V"⟩, 10) := ⟨⟨by decide +kernel, by decide +kernel⟩, List.mem_of_getElem? (i := 179) (by decide +kernel), List.mem_of_getElem? (i := 599) (by decide +kernel), List.mem_of_getElem? (i := 600) (by decide +kernel)⟩
theorem lw_p15 : lw_okq (⟨"WearingBench$Day", "sitDown", "(LWearingBench$Bench;I)V"⟩, 10) := ⟨⟨by decide +kernel, by decide +kernel⟩, List.mem_of_getElem? (i := 179) (by decide +kernel), List.mem_of_getElem? (i := 603) (by decide +kernel), List.mem_of_getElem? (i := 604) (by decide +kernel)⟩
def lw_privs_1 : List (MethodName × Nat) := [(⟨"WearingBench$Tape", "advance", "()V"⟩, 7), (⟨"WearingBench$Tape", "growsOn", "()Z"⟩, 7), (⟨"WearingBench$Tape", "readFirst", "(LWearingBench$Bench;)V"⟩, 7), (⟨"WearingBench$Tape", "takeWord", "(Ljava/lang/String;)V"⟩, 7), (⟨"WearingBench$Tape", "isWord", "(Ljava/lang/String;)Z"⟩, 7), (⟨"WearingBench$Tape", "refuse", "(I)V"⟩, 7), (⟨"WearingBench$Tape", "takeAfter", "(Ljava/lang/String;II)I"⟩, 7), (⟨"WearingBench$Tape", "valueHere", "()I"⟩, 7), (⟨"WearingBench$Tape", "readSeat", "(LWearingBench$Bench;)V"⟩, 7), (⟨"WearingBench$Tape", "readCaller", "(LWearingBench$Bench;)V"⟩, 7), (⟨"WearingBench$Tape", "takeSign", "()V"⟩, 7), (⟨"WearingBench", "forgetAnswers", "()V"⟩, 13), (⟨"WearingBench", "livedToday", "()LWearingBench$Diary;"⟩, 13), (⟨"WearingBench$Day", "moveAll", "(LWearingBench$Bench;I)V"⟩, 10), (⟨"WearingBench$Day", "leaveSeat", "(I)V"⟩, 10), (⟨"WearingBench$Day", "sitDown", "(LWearingBench$Bench;I)V"⟩, 10)]
theorem lw_r1 : ∀ q ∈ lw_privs_1, lw_okq q := List.forall_mem_cons.mpr ⟨lw_p0, List.forall_mem_cons.mpr ⟨lw_p1, List.forall_mem_cons.mpr ⟨lw_p2, List.forall_mem_cons.mpr ⟨lw_p3, List.forall_mem_cons.mpr ⟨lw_p4, List.forall_mem_cons.mpr ⟨lw_p5, List.forall_mem_cons.mpr ⟨lw_p6, List.forall_mem_cons.mpr ⟨lw_p7, List.forall_mem_cons.mpr ⟨lw_p8, List.forall_mem_cons.mpr ⟨lw_p9, List.forall_mem_cons.mpr ⟨lw_p10, List.forall_mem_cons.mpr ⟨lw_p11, List.forall_mem_cons.mpr ⟨lw_p12, List.forall_mem_cons.mpr ⟨lw_p13, List.forall_mem_cons.mpr ⟨lw_p14, List.forall_mem_cons.mpr ⟨lw_p15, fun _ h => absurd h List.not_mem_nil⟩⟩⟩⟩⟩⟩⟩⟩⟩⟩⟩⟩⟩⟩⟩⟩
theorem lw_p16 : lw_okq (⟨"WearingBench$Diary", "note", "(LWearingBench$Bench;I)V"⟩, 4) := ⟨⟨by decide +kernel, by decide +kernel⟩, List.mem_of_getElem? (i := 173) (by decide +kernel), List.mem_of_getElem? (i := 607) (by decide +kernel), List.mem_of_getElem? (i := 608) (by decide +kernel)⟩
theorem lw_p17 : lw_okq (⟨"WearingBench$Day", "ageBehind", "(LWearingBench$Bench;II)I"⟩, 10) := ⟨⟨by decide +kernel, by decide +kernel⟩, List.mem_of_getElem? (i := 179) (by decide +kernel), List.mem_of_getElem? (i := 631) (by decide +kernel), List.mem_of_getElem? (i := 632) (by decide +kernel)⟩
theorem lw_p18 : lw_okq (⟨"WearingBench$Day", "neighbours", "(LWearingBench$Bench;I)I"⟩, 10) := ⟨⟨by decide +kernel, by decide +kernel⟩, List.mem_of_getElem? (i := 179) (by decide +kernel), List.mem_of_getElem? (i := 642) (by decide +kernel), List.mem_of_getElem? (i := 643) (by decide +kernel)⟩
theorem lw_p19 : lw_okq (⟨"WearingBench", "hasBench", "()Z"⟩, 13) := ⟨⟨by decide +kernel, by decide +kernel⟩, List.mem_of_getElem? (i := 21) (by decide +kernel), List.mem_of_getElem? (i := 662) (by decide +kernel), List.mem_of_getElem? (i := 663) (by decide +kernel)⟩
theorem lw_p20 : lw_okq (⟨"WearingBench", "wearOf", "(LWearingBench$Diary;I)I"⟩, 13) := ⟨⟨by decide +kernel, by decide +kernel⟩, List.mem_of_getElem? (i := 21) (by decide +kernel), List.mem_of_getElem? (i := 729) (by decide +kernel), List.mem_of_getElem? (i := 730) (by decide +kernel)⟩
theorem lw_p21 : lw_okq (⟨"WearingBench", "foremost", "(LWearingBench$Diary;II)I"⟩, 13) := ⟨⟨by decide +kernel, by decide +kernel⟩, List.mem_of_getElem? (i := 21) (by decide +kernel), List.mem_of_getElem? (i := 741) (by decide +kernel), List.mem_of_getElem? (i := 742) (by decide +kernel)⟩
theorem lw_p22 : lw_okq (⟨"WearingBench", "isRipeAt", "(LWearingBench$Diary;II)Z"⟩, 13) := ⟨⟨by decide +kernel, by decide +kernel⟩, List.mem_of_getElem? (i := 21) (by decide +kernel), List.mem_of_getElem? (i := 762) (by decide +kernel), List.mem_of_getElem? (i := 763) (by decide +kernel)⟩
theorem lw_p23 : lw_okq (⟨"WearingBench", "toldOnTrial", "()I"⟩, 13) := ⟨⟨by decide +kernel, by decide +kernel⟩, List.mem_of_getElem? (i := 21) (by decide +kernel), List.mem_of_getElem? (i := 816) (by decide +kernel), List.mem_of_getElem? (i := 817) (by decide +kernel)⟩
theorem lw_p24 : lw_okq (⟨"WearingBench", "isToldOnTrial", "(I)Z"⟩, 13) := ⟨⟨by decide +kernel, by decide +kernel⟩, List.mem_of_getElem? (i := 21) (by decide +kernel), List.mem_of_getElem? (i := 855) (by decide +kernel), List.mem_of_getElem? (i := 856) (by decide +kernel)⟩
theorem lw_p25 : lw_okq (⟨"WearingBench$Planner", "sortByComing", "(LWearingBench$Bench;)V"⟩, 7) := ⟨⟨by decide +kernel, by decide +kernel⟩, List.mem_of_getElem? (i := 243) (by decide +kernel), List.mem_of_getElem? (i := 880) (by decide +kernel), List.mem_of_getElem? (i := 881) (by decide +kernel)⟩
theorem lw_p26 : lw_okq (⟨"WearingBench$Planner", "liveAsTold", "(LWearingBench$Bench;LWearingBench$Day;)I"⟩, 7) := ⟨⟨by decide +kernel, by decide +kernel⟩, List.mem_of_getElem? (i := 243) (by decide +kernel), List.mem_of_getElem? (i := 884) (by decide +kernel), List.mem_of_getElem? (i := 885) (by decide +kernel)⟩
theorem lw_p27 : lw_okq (⟨"WearingBench$Planner", "getsTold", "(LWearingBench$Bench;LWearingBench$Day;I)Z"⟩, 7) := ⟨⟨by decide +kernel, by decide +kernel⟩, List.mem_of_getElem? (i := 243) (by decide +kernel), List.mem_of_getElem? (i := 890) (by decide +kernel), List.mem_of_getElem? (i := 891) (by decide +kernel)⟩
theorem lw_p28 : lw_okq (⟨"WearingBench$Planner", "weighRow", "(LWearingBench$Bench;I)V"⟩, 7) := ⟨⟨by decide +kernel, by decide +kernel⟩, List.mem_of_getElem? (i := 243) (by decide +kernel), List.mem_of_getElem? (i := 902) (by decide +kernel), List.mem_of_getElem? (i := 903) (by decide +kernel)⟩
theorem lw_p29 : lw_okq (⟨"WearingBench$Planner", "keepRow", "(LWearingBench$Bench;)V"⟩, 7) := ⟨⟨by decide +kernel, by decide +kernel⟩, List.mem_of_getElem? (i := 243) (by decide +kernel), List.mem_of_getElem? (i := 906) (by decide +kernel), List.mem_of_getElem? (i := 907) (by decide +kernel)⟩
theorem lw_p30 : lw_okq (⟨"WearingBench$Planner", "isLesser", "(LWearingBench$Bench;)Z"⟩, 7) := ⟨⟨by decide +kernel, by decide +kernel⟩, List.mem_of_getElem? (i := 243) (by decide +kernel), List.mem_of_getElem? (i := 910) (by decide +kernel), List.mem_of_getElem? (i := 911) (by decide +kernel)⟩
theorem lw_p31 : lw_okq (⟨"WearingBench$Planner", "turn", "(LWearingBench$Bench;I)Z"⟩, 7) := ⟨⟨by decide +kernel, by decide +kernel⟩, List.mem_of_getElem? (i := 243) (by decide +kernel), List.mem_of_getElem? (i := 914) (by decide +kernel), List.mem_of_getElem? (i := 915) (by decide +kernel)⟩
def lw_privs_2 : List (MethodName × Nat) := [(⟨"WearingBench$Diary", "note", "(LWearingBench$Bench;I)V"⟩, 4), (⟨"WearingBench$Day", "ageBehind", "(LWearingBench$Bench;II)I"⟩, 10), (⟨"WearingBench$Day", "neighbours", "(LWearingBench$Bench;I)I"⟩, 10), (⟨"WearingBench", "hasBench", "()Z"⟩, 13), (⟨"WearingBench", "wearOf", "(LWearingBench$Diary;I)I"⟩, 13), (⟨"WearingBench", "foremost", "(LWearingBench$Diary;II)I"⟩, 13), (⟨"WearingBench", "isRipeAt", "(LWearingBench$Diary;II)Z"⟩, 13), (⟨"WearingBench", "toldOnTrial", "()I"⟩, 13), (⟨"WearingBench", "isToldOnTrial", "(I)Z"⟩, 13), (⟨"WearingBench$Planner", "sortByComing", "(LWearingBench$Bench;)V"⟩, 7), (⟨"WearingBench$Planner", "liveAsTold", "(LWearingBench$Bench;LWearingBench$Day;)I"⟩, 7), (⟨"WearingBench$Planner", "getsTold", "(LWearingBench$Bench;LWearingBench$Day;I)Z"⟩, 7), (⟨"WearingBench$Planner", "weighRow", "(LWearingBench$Bench;I)V"⟩, 7), (⟨"WearingBench$Planner", "keepRow", "(LWearingBench$Bench;)V"⟩, 7), (⟨"WearingBench$Planner", "isLesser", "(LWearingBench$Bench;)Z"⟩, 7), (⟨"WearingBench$Planner", "turn", "(LWearingBench$Bench;I)Z"⟩, 7)]
theorem lw_r2 : ∀ q ∈ lw_privs_2, lw_okq q := List.forall_mem_cons.mpr ⟨lw_p16, List.forall_mem_cons.mpr ⟨lw_p17, List.forall_mem_cons.mpr ⟨lw_p18, List.forall_mem_cons.mpr ⟨lw_p19, List.forall_mem_cons.mpr ⟨lw_p20, List.forall_mem_cons.mpr ⟨lw_p21, List.forall_mem_cons.mpr ⟨lw_p22, List.forall_mem_cons.mpr ⟨lw_p23, List.forall_mem_cons.mpr ⟨lw_p24, List.forall_mem_cons.mpr ⟨lw_p25, List.forall_mem_cons.mpr ⟨lw_p26, List.forall_mem_cons.mpr ⟨lw_p27, List.forall_mem_cons.mpr ⟨lw_p28, List.forall_mem_cons.mpr ⟨lw_p29, List.forall_mem_cons.mpr ⟨lw_p30, List.forall_mem_cons.mpr ⟨lw_p31, fun _ h => absurd h List.not_mem_nil⟩⟩⟩⟩⟩⟩⟩⟩⟩⟩⟩⟩⟩⟩⟩⟩
theorem lw_p32 : lw_okq (⟨"WearingBench", "rowAt", "(I)LWearingBench$Row;"⟩, 13) := ⟨⟨by decide +kernel, by decide +kernel⟩, List.mem_of_getElem? (i := 21) (by decide +kernel), List.mem_of_getElem? (i := 951) (by decide +kernel), List.mem_of_getElem? (i := 952) (by decide +kernel)⟩
theorem lw_p33 : lw_okq (⟨"WearingBench", "refusalOfSights", "(LWearingBench$Row;)I"⟩, 13) := ⟨⟨by decide +kernel, by decide +kernel⟩, List.mem_of_getElem? (i := 21) (by decide +kernel), List.mem_of_getElem? (i := 955) (by decide +kernel), List.mem_of_getElem? (i := 956) (by decide +kernel)⟩
theorem lw_p34 : lw_okq (⟨"WearingBench", "isAsSeen", "(LWearingBench$Row;)Z"⟩, 13) := ⟨⟨by decide +kernel, by decide +kernel⟩, List.mem_of_getElem? (i := 21) (by decide +kernel), List.mem_of_getElem? (i := 967) (by decide +kernel), List.mem_of_getElem? (i := 968) (by decide +kernel)⟩
theorem lw_p35 : lw_okq (⟨"WearingBench", "seatsAsSeen", "(LWearingBench$Row;I)I"⟩, 13) := ⟨⟨by decide +kernel, by decide +kernel⟩, List.mem_of_getElem? (i := 21) (by decide +kernel), List.mem_of_getElem? (i := 979) (by decide +kernel), List.mem_of_getElem? (i := 980) (by decide +kernel)⟩
theorem lw_p36 : lw_okq (⟨"WearingBench", "mostAlikeAt", "(II)I"⟩, 13) := ⟨⟨by decide +kernel, by decide +kernel⟩, List.mem_of_getElem? (i := 21) (by decide +kernel), List.mem_of_getElem? (i := 987) (by decide +kernel), List.mem_of_getElem? (i := 988) (by decide +kernel)⟩
theorem lw_p37 : lw_okq (⟨"WearingBench", "pileUp", "(I)I"⟩, 13) := ⟨⟨by decide +kernel, by decide +kernel⟩, List.mem_of_getElem? (i := 21) (by decide +kernel), List.mem_of_getElem? (i := 995) (by decide +kernel), List.mem_of_getElem? (i := 996) (by decide +kernel)⟩
theorem lw_p38 : lw_okq (⟨"WearingBench$Pile", "leastToCut", "(I)I"⟩, 3) := ⟨⟨by decide +kernel, by decide +kernel⟩, List.mem_of_getElem? (i := 304) (by decide +kernel), List.mem_of_getElem? (i := 1005) (by decide +kernel), List.mem_of_getElem? (i := 1006) (by decide +kernel)⟩
theorem lw_p39 : lw_okq (⟨"WearingBench", "arePair", "(II)Z"⟩, 13) := ⟨⟨by decide +kernel, by decide +kernel⟩, List.mem_of_getElem? (i := 21) (by decide +kernel), List.mem_of_getElem? (i := 1025) (by decide +kernel), List.mem_of_getElem? (i := 1026) (by decide +kernel)⟩
theorem lw_p40 : lw_okq (⟨"WearingBench$Game", "isAtRest", "(LWearingBench$Bench;IIII)Z"⟩, 3) := ⟨⟨by decide +kernel, by decide +kernel⟩, List.mem_of_getElem? (i := 322) (by decide +kernel), List.mem_of_getElem? (i := 1035) (by decide +kernel), List.mem_of_getElem? (i := 1036) (by decide +kernel)⟩
theorem lw_p41 : lw_okq (⟨"WearingBench", "isMendedBySwap", "(III)Z"⟩, 13) := ⟨⟨by decide +kernel, by decide +kernel⟩, List.mem_of_getElem? (i := 21) (by decide +kernel), List.mem_of_getElem? (i := 1047) (by decide +kernel), List.mem_of_getElem? (i := 1048) (by decide +kernel)⟩
theorem lw_p42 : lw_okq (⟨"WearingBench$Chances", "note", "(LWearingBench$Bench;IIIJ)V"⟩, 5) := ⟨⟨by decide +kernel, by decide +kernel⟩, List.mem_of_getElem? (i := 275) (by decide +kernel), List.mem_of_getElem? (i := 1088) (by decide +kernel), List.mem_of_getElem? (i := 1089) (by decide +kernel)⟩
theorem lw_p43 : lw_okq (⟨"WearingBench", "drawMissed", "(J)J"⟩, 13) := ⟨⟨by decide +kernel, by decide +kernel⟩, List.mem_of_getElem? (i := 21) (by decide +kernel), List.mem_of_getElem? (i := 1132) (by decide +kernel), List.mem_of_getElem? (i := 1133) (by decide +kernel)⟩
theorem lw_p44 : lw_okq (⟨"WearingBench", "countRows", "()I"⟩, 13) := ⟨⟨by decide +kernel, by decide +kernel⟩, List.mem_of_getElem? (i := 21) (by decide +kernel), List.mem_of_getElem? (i := 1160) (by decide +kernel), List.mem_of_getElem? (i := 1161) (by decide +kernel)⟩
theorem lw_p45 : lw_okq (⟨"WearingBenchModel", "four", "(I)V"⟩, 53) := ⟨⟨by decide +kernel, by decide +kernel⟩, List.mem_of_getElem? (i := 1201) (by decide +kernel), List.mem_of_getElem? (i := 1394) (by decide +kernel), List.mem_of_getElem? (i := 1395) (by decide +kernel)⟩
theorem lw_p46 : lw_okq (⟨"WearingBenchModel", "clears", "()V"⟩, 53) := ⟨⟨by decide +kernel, by decide +kernel⟩, List.mem_of_getElem? (i := 1201) (by decide +kernel), List.mem_of_getElem? (i := 1410) (by decide +kernel), List.mem_of_getElem? (i := 1411) (by decide +kernel)⟩
theorem lw_p47 : lw_okq (⟨"WearingBenchModel", "tells", "(II)V"⟩, 53) := ⟨⟨by decide +kernel, by decide +kernel⟩, List.mem_of_getElem? (i := 1201) (by decide +kernel), List.mem_of_getElem? (i := 1414) (by decide +kernel), List.mem_of_getElem? (i := 1415) (by decide +kernel)⟩
def lw_privs_3 : List (MethodName × Nat) := [(⟨"WearingBench", "rowAt", "(I)LWearingBench$Row;"⟩, 13), (⟨"WearingBench", "refusalOfSights", "(LWearingBench$Row;)I"⟩, 13), (⟨"WearingBench", "isAsSeen", "(LWearingBench$Row;)Z"⟩, 13), (⟨"WearingBench", "seatsAsSeen", "(LWearingBench$Row;I)I"⟩, 13), (⟨"WearingBench", "mostAlikeAt", "(II)I"⟩, 13), (⟨"WearingBench", "pileUp", "(I)I"⟩, 13), (⟨"WearingBench$Pile", "leastToCut", "(I)I"⟩, 3), (⟨"WearingBench", "arePair", "(II)Z"⟩, 13), (⟨"WearingBench$Game", "isAtRest", "(LWearingBench$Bench;IIII)Z"⟩, 3), (⟨"WearingBench", "isMendedBySwap", "(III)Z"⟩, 13), (⟨"WearingBench$Chances", "note", "(LWearingBench$Bench;IIIJ)V"⟩, 5), (⟨"WearingBench", "drawMissed", "(J)J"⟩, 13), (⟨"WearingBench", "countRows", "()I"⟩, 13), (⟨"WearingBenchModel", "four", "(I)V"⟩, 53), (⟨"WearingBenchModel", "clears", "()V"⟩, 53), (⟨"WearingBenchModel", "tells", "(II)V"⟩, 53)]
theorem lw_r3 : ∀ q ∈ lw_privs_3, lw_okq q := List.forall_mem_cons.mpr ⟨lw_p32, List.forall_mem_cons.mpr ⟨lw_p33, List.forall_mem_cons.mpr ⟨lw_p34, List.forall_mem_cons.mpr ⟨lw_p35, List.forall_mem_cons.mpr ⟨lw_p36, List.forall_mem_cons.mpr ⟨lw_p37, List.forall_mem_cons.mpr ⟨lw_p38, List.forall_mem_cons.mpr ⟨lw_p39, List.forall_mem_cons.mpr ⟨lw_p40, List.forall_mem_cons.mpr ⟨lw_p41, List.forall_mem_cons.mpr ⟨lw_p42, List.forall_mem_cons.mpr ⟨lw_p43, List.forall_mem_cons.mpr ⟨lw_p44, List.forall_mem_cons.mpr ⟨lw_p45, List.forall_mem_cons.mpr ⟨lw_p46, List.forall_mem_cons.mpr ⟨lw_p47, fun _ h => absurd h List.not_mem_nil⟩⟩⟩⟩⟩⟩⟩⟩⟩⟩⟩⟩⟩⟩⟩⟩
theorem lw_p48 : lw_okq (⟨"WearingBenchModel", "begins", "()V"⟩, 53) := ⟨⟨by decide +kernel, by decide +kernel⟩, List.mem_of_getElem? (i := 1201) (by decide +kernel), List.mem_of_getElem? (i := 1418) (by decide +kernel), List.mem_of_getElem? (i := 1419) (by decide +kernel)⟩
theorem lw_p49 : lw_okq (⟨"WearingBenchModel", "next", "()V"⟩, 53) := ⟨⟨by decide +kernel, by decide +kernel⟩, List.mem_of_getElem? (i := 1201) (by decide +kernel), List.mem_of_getElem? (i := 1422) (by decide +kernel), List.mem_of_getElem? (i := 1423) (by decide +kernel)⟩
theorem lw_p50 : lw_okq (⟨"WearingBenchModel", "isByte", "(III)Z"⟩, 53) := ⟨⟨by decide +kernel, by decide +kernel⟩, List.mem_of_getElem? (i := 1201) (by decide +kernel), List.mem_of_getElem? (i := 1426) (by decide +kernel), List.mem_of_getElem? (i := 1427) (by decide +kernel)⟩
theorem lw_p51 : lw_okq (⟨"WearingBenchModel", "isGood", "()Z"⟩, 53) := ⟨⟨by decide +kernel, by decide +kernel⟩, List.mem_of_getElem? (i := 1201) (by decide +kernel), List.mem_of_getElem? (i := 1435) (by decide +kernel), List.mem_of_getElem? (i := 1436) (by decide +kernel)⟩
theorem lw_p52 : lw_okq (⟨"WearingBenchModel", "asks", "(J)V"⟩, 53) := ⟨⟨by decide +kernel, by decide +kernel⟩, List.mem_of_getElem? (i := 1201) (by decide +kernel), List.mem_of_getElem? (i := 1440) (by decide +kernel), List.mem_of_getElem? (i := 1441) (by decide +kernel)⟩
theorem lw_p53 : lw_okq (⟨"WearingBenchModel", "takes", "(J)Z"⟩, 53) := ⟨⟨by decide +kernel, by decide +kernel⟩, List.mem_of_getElem? (i := 1201) (by decide +kernel), List.mem_of_getElem? (i := 1444) (by decide +kernel), List.mem_of_getElem? (i := 1445) (by decide +kernel)⟩
theorem lw_p54 : lw_okq (⟨"WearingBenchModel", "is", "(J)Z"⟩, 53) := ⟨⟨by decide +kernel, by decide +kernel⟩, List.mem_of_getElem? (i := 1201) (by decide +kernel), List.mem_of_getElem? (i := 1448) (by decide +kernel), List.mem_of_getElem? (i := 1449) (by decide +kernel)⟩
theorem lw_p55 : lw_okq (⟨"WearingBenchModel", "fails", "(I)V"⟩, 53) := ⟨⟨by decide +kernel, by decide +kernel⟩, List.mem_of_getElem? (i := 1201) (by decide +kernel), List.mem_of_getElem? (i := 1452) (by decide +kernel), List.mem_of_getElem? (i := 1453) (by decide +kernel)⟩
theorem lw_p56 : lw_okq (⟨"WearingBenchModel", "number", "(JII)I"⟩, 53) := ⟨⟨by decide +kernel, by decide +kernel⟩, List.mem_of_getElem? (i := 1201) (by decide +kernel), List.mem_of_getElem? (i := 1457) (by decide +kernel), List.mem_of_getElem? (i := 1458) (by decide +kernel)⟩
theorem lw_p57 : lw_okq (⟨"WearingBenchModel", "number", "(II)I"⟩, 53) := ⟨⟨by decide +kernel, by decide +kernel⟩, List.mem_of_getElem? (i := 1201) (by decide +kernel), List.mem_of_getElem? (i := 1461) (by decide +kernel), List.mem_of_getElem? (i := 1462) (by decide +kernel)⟩
theorem lw_p58 : lw_okq (⟨"WearingBenchModel", "lineHere", "()V"⟩, 53) := ⟨⟨by decide +kernel, by decide +kernel⟩, List.mem_of_getElem? (i := 1201) (by decide +kernel), List.mem_of_getElem? (i := 1468) (by decide +kernel), List.mem_of_getElem? (i := 1469) (by decide +kernel)⟩
theorem lw_p59 : lw_okq (⟨"WearingBenchModel", "isRoom", "(ZII)Z"⟩, 53) := ⟨⟨by decide +kernel, by decide +kernel⟩, List.mem_of_getElem? (i := 1201) (by decide +kernel), List.mem_of_getElem? (i := 1473) (by decide +kernel), List.mem_of_getElem? (i := 1474) (by decide +kernel)⟩
theorem lw_p60 : lw_okq (⟨"WearingBenchModel", "hasRead", "(I)I"⟩, 53) := ⟨⟨by decide +kernel, by decide +kernel⟩, List.mem_of_getElem? (i := 1201) (by decide +kernel), List.mem_of_getElem? (i := 1477) (by decide +kernel), List.mem_of_getElem? (i := 1478) (by decide +kernel)⟩
theorem lw_p61 : lw_okq (⟨"WearingBenchModel", "seatLine", "()V"⟩, 53) := ⟨⟨by decide +kernel, by decide +kernel⟩, List.mem_of_getElem? (i := 1201) (by decide +kernel), List.mem_of_getElem? (i := 1481) (by decide +kernel), List.mem_of_getElem? (i := 1482) (by decide +kernel)⟩
theorem lw_p62 : lw_okq (⟨"WearingBenchModel", "callerLine", "()V"⟩, 53) := ⟨⟨by decide +kernel, by decide +kernel⟩, List.mem_of_getElem? (i := 1201) (by decide +kernel), List.mem_of_getElem? (i := 1488) (by decide +kernel), List.mem_of_getElem? (i := 1489) (by decide +kernel)⟩
theorem lw_p63 : lw_okq (⟨"WearingBenchModel", "ends", "()V"⟩, 53) := ⟨⟨by decide +kernel, by decide +kernel⟩, List.mem_of_getElem? (i := 1201) (by decide +kernel), List.mem_of_getElem? (i := 1496) (by decide +kernel), List.mem_of_getElem? (i := 1497) (by decide +kernel)⟩
def lw_privs_4 : List (MethodName × Nat) := [(⟨"WearingBenchModel", "begins", "()V"⟩, 53), (⟨"WearingBenchModel", "next", "()V"⟩, 53), (⟨"WearingBenchModel", "isByte", "(III)Z"⟩, 53), (⟨"WearingBenchModel", "isGood", "()Z"⟩, 53), (⟨"WearingBenchModel", "asks", "(J)V"⟩, 53), (⟨"WearingBenchModel", "takes", "(J)Z"⟩, 53), (⟨"WearingBenchModel", "is", "(J)Z"⟩, 53), (⟨"WearingBenchModel", "fails", "(I)V"⟩, 53), (⟨"WearingBenchModel", "number", "(JII)I"⟩, 53), (⟨"WearingBenchModel", "number", "(II)I"⟩, 53), (⟨"WearingBenchModel", "lineHere", "()V"⟩, 53), (⟨"WearingBenchModel", "isRoom", "(ZII)Z"⟩, 53), (⟨"WearingBenchModel", "hasRead", "(I)I"⟩, 53), (⟨"WearingBenchModel", "seatLine", "()V"⟩, 53), (⟨"WearingBenchModel", "callerLine", "()V"⟩, 53), (⟨"WearingBenchModel", "ends", "()V"⟩, 53)]
theorem lw_r4 : ∀ q ∈ lw_privs_4, lw_okq q := List.forall_mem_cons.mpr ⟨lw_p48, List.forall_mem_cons.mpr ⟨lw_p49, List.forall_mem_cons.mpr ⟨lw_p50, List.forall_mem_cons.mpr ⟨lw_p51, List.forall_mem_cons.mpr ⟨lw_p52, List.forall_mem_cons.mpr ⟨lw_p53, List.forall_mem_cons.mpr ⟨lw_p54, List.forall_mem_cons.mpr ⟨lw_p55, List.forall_mem_cons.mpr ⟨lw_p56, List.forall_mem_cons.mpr ⟨lw_p57, List.forall_mem_cons.mpr ⟨lw_p58, List.forall_mem_cons.mpr ⟨lw_p59, List.forall_mem_cons.mpr ⟨lw_p60, List.forall_mem_cons.mpr ⟨lw_p61, List.forall_mem_cons.mpr ⟨lw_p62, List.forall_mem_cons.mpr ⟨lw_p63, fun _ h => absurd h List.not_mem_nil⟩⟩⟩⟩⟩⟩⟩⟩⟩⟩⟩⟩⟩⟩⟩⟩
theorem lw_p64 : lw_okq (⟨"WearingBenchModel", "isOver", "()V"⟩, 53) := ⟨⟨by decide +kernel, by decide +kernel⟩, List.mem_of_getElem? (i := 1201) (by decide +kernel), List.mem_of_getElem? (i := 1500) (by decide +kernel), List.mem_of_getElem? (i := 1501) (by decide +kernel)⟩
theorem lw_p65 : lw_okq (⟨"WearingBenchModel", "copyBench", "(II)V"⟩, 53) := ⟨⟨by decide +kernel, by decide +kernel⟩, List.mem_of_getElem? (i := 1201) (by decide +kernel), List.mem_of_getElem? (i := 1504) (by decide +kernel), List.mem_of_getElem? (i := 1505) (by decide +kernel)⟩
theorem lw_p66 : lw_okq (⟨"WearingBenchModel", "isSeat", "(J)Z"⟩, 53) := ⟨⟨by decide +kernel, by decide +kernel⟩, List.mem_of_getElem? (i := 1201) (by decide +kernel), List.mem_of_getElem? (i := 1515) (by decide +kernel), List.mem_of_getElem? (i := 1516) (by decide +kernel)⟩
theorem lw_p67 : lw_okq (⟨"WearingBenchModel", "seats", "()I"⟩, 53) := ⟨⟨by decide +kernel, by decide +kernel⟩, List.mem_of_getElem? (i := 1201) (by decide +kernel), List.mem_of_getElem? (i := 1519) (by decide +kernel), List.mem_of_getElem? (i := 1520) (by decide +kernel)⟩
theorem lw_p68 : lw_okq (⟨"WearingBenchModel", "isCaller", "(J)Z"⟩, 53) := ⟨⟨by decide +kernel, by decide +kernel⟩, List.mem_of_getElem? (i := 1201) (by decide +kernel), List.mem_of_getElem? (i := 1527) (by decide +kernel), List.mem_of_getElem? (i := 1528) (by decide +kernel)⟩
theorem lw_p69 : lw_okq (⟨"WearingBenchModel", "callers", "()I"⟩, 53) := ⟨⟨by decide +kernel, by decide +kernel⟩, List.mem_of_getElem? (i := 1201) (by decide +kernel), List.mem_of_getElem? (i := 1531) (by decide +kernel), List.mem_of_getElem? (i := 1532) (by decide +kernel)⟩
theorem lw_p70 : lw_okq (⟨"WearingBenchModel", "laysNow", "()V"⟩, 53) := ⟨⟨by decide +kernel, by decide +kernel⟩, List.mem_of_getElem? (i := 1201) (by decide +kernel), List.mem_of_getElem? (i := 1544) (by decide +kernel), List.mem_of_getElem? (i := 1545) (by decide +kernel)⟩
theorem lw_p71 : lw_okq (⟨"WearingBenchModel", "lays", "()V"⟩, 53) := ⟨⟨by decide +kernel, by decide +kernel⟩, List.mem_of_getElem? (i := 1201) (by decide +kernel), List.mem_of_getElem? (i := 1548) (by decide +kernel), List.mem_of_getElem? (i := 1549) (by decide +kernel)⟩
theorem lw_p72 : lw_okq (⟨"WearingBenchModel", "runs", "()V"⟩, 53) := ⟨⟨by decide +kernel, by decide +kernel⟩, List.mem_of_getElem? (i := 1201) (by decide +kernel), List.mem_of_getElem? (i := 1552) (by decide +kernel), List.mem_of_getElem? (i := 1553) (by decide +kernel)⟩
theorem lw_p73 : lw_okq (⟨"WearingBenchModel", "runs", "(I)V"⟩, 53) := ⟨⟨by decide +kernel, by decide +kernel⟩, List.mem_of_getElem? (i := 1201) (by decide +kernel), List.mem_of_getElem? (i := 1556) (by decide +kernel), List.mem_of_getElem? (i := 1557) (by decide +kernel)⟩
theorem lw_p74 : lw_okq (⟨"WearingBenchModel", "minute", "(I)V"⟩, 53) := ⟨⟨by decide +kernel, by decide +kernel⟩, List.mem_of_getElem? (i := 1201) (by decide +kernel), List.mem_of_getElem? (i := 1560) (by decide +kernel), List.mem_of_getElem? (i := 1561) (by decide +kernel)⟩
theorem lw_p75 : lw_okq (⟨"WearingBenchModel", "moves", "(II)Z"⟩, 53) := ⟨⟨by decide +kernel, by decide +kernel⟩, List.mem_of_getElem? (i := 1201) (by decide +kernel), List.mem_of_getElem? (i := 1564) (by decide +kernel), List.mem_of_getElem? (i := 1565) (by decide +kernel)⟩
theorem lw_p76 : lw_okq (⟨"WearingBenchModel", "isFree", "(I)Z"⟩, 53) := ⟨⟨by decide +kernel, by decide +kernel⟩, List.mem_of_getElem? (i := 1201) (by decide +kernel), List.mem_of_getElem? (i := 1568) (by decide +kernel), List.mem_of_getElem? (i := 1569) (by decide +kernel)⟩
theorem lw_p77 : lw_okq (⟨"WearingBenchModel", "takesSeat", "(II)V"⟩, 53) := ⟨⟨by decide +kernel, by decide +kernel⟩, List.mem_of_getElem? (i := 1201) (by decide +kernel), List.mem_of_getElem? (i := 1572) (by decide +kernel), List.mem_of_getElem? (i := 1573) (by decide +kernel)⟩
theorem lw_p78 : lw_okq (⟨"WearingBenchModel", "sitsDown", "(I)V"⟩, 53) := ⟨⟨by decide +kernel, by decide +kernel⟩, List.mem_of_getElem? (i := 1201) (by decide +kernel), List.mem_of_getElem? (i := 1576) (by decide +kernel), List.mem_of_getElem? (i := 1577) (by decide +kernel)⟩
theorem lw_p79 : lw_okq (⟨"WearingBenchModel", "firstThere", "()I"⟩, 53) := ⟨⟨by decide +kernel, by decide +kernel⟩, List.mem_of_getElem? (i := 1201) (by decide +kernel), List.mem_of_getElem? (i := 1583) (by decide +kernel), List.mem_of_getElem? (i := 1584) (by decide +kernel)⟩
def lw_privs_5 : List (MethodName × Nat) := [(⟨"WearingBenchModel", "isOver", "()V"⟩, 53), (⟨"WearingBenchModel", "copyBench", "(II)V"⟩, 53), (⟨"WearingBenchModel", "isSeat", "(J)Z"⟩, 53), (⟨"WearingBenchModel", "seats", "()I"⟩, 53), (⟨"WearingBenchModel", "isCaller", "(J)Z"⟩, 53), (⟨"WearingBenchModel", "callers", "()I"⟩, 53), (⟨"WearingBenchModel", "laysNow", "()V"⟩, 53), (⟨"WearingBenchModel", "lays", "()V"⟩, 53), (⟨"WearingBenchModel", "runs", "()V"⟩, 53), (⟨"WearingBenchModel", "runs", "(I)V"⟩, 53), (⟨"WearingBenchModel", "minute", "(I)V"⟩, 53), (⟨"WearingBenchModel", "moves", "(II)Z"⟩, 53), (⟨"WearingBenchModel", "isFree", "(I)Z"⟩, 53), (⟨"WearingBenchModel", "takesSeat", "(II)V"⟩, 53), (⟨"WearingBenchModel", "sitsDown", "(I)V"⟩, 53), (⟨"WearingBenchModel", "firstThere", "()I"⟩, 53)]
theorem lw_r5 : ∀ q ∈ lw_privs_5, lw_okq q := List.forall_mem_cons.mpr ⟨lw_p64, List.forall_mem_cons.mpr ⟨lw_p65, List.forall_mem_cons.mpr ⟨lw_p66, List.forall_mem_cons.mpr ⟨lw_p67, List.forall_mem_cons.mpr ⟨lw_p68, List.forall_mem_cons.mpr ⟨lw_p69, List.forall_mem_cons.mpr ⟨lw_p70, List.forall_mem_cons.mpr ⟨lw_p71, List.forall_mem_cons.mpr ⟨lw_p72, List.forall_mem_cons.mpr ⟨lw_p73, List.forall_mem_cons.mpr ⟨lw_p74, List.forall_mem_cons.mpr ⟨lw_p75, List.forall_mem_cons.mpr ⟨lw_p76, List.forall_mem_cons.mpr ⟨lw_p77, List.forall_mem_cons.mpr ⟨lw_p78, List.forall_mem_cons.mpr ⟨lw_p79, fun _ h => absurd h List.not_mem_nil⟩⟩⟩⟩⟩⟩⟩⟩⟩⟩⟩⟩⟩⟩⟩⟩
theorem lw_p80 : lw_okq (⟨"WearingBenchModel", "older", "(I)I"⟩, 53) := ⟨⟨by decide +kernel, by decide +kernel⟩, List.mem_of_getElem? (i := 1201) (by decide +kernel), List.mem_of_getElem? (i := 1587) (by decide +kernel), List.mem_of_getElem? (i := 1588) (by decide +kernel)⟩
theorem lw_p81 : lw_okq (⟨"WearingBenchModel", "isSitting", "(I)Z"⟩, 53) := ⟨⟨by decide +kernel, by decide +kernel⟩, List.mem_of_getElem? (i := 1201) (by decide +kernel), List.mem_of_getElem? (i := 1591) (by decide +kernel), List.mem_of_getElem? (i := 1592) (by decide +kernel)⟩
theorem lw_p82 : lw_okq (⟨"WearingBenchModel", "isTime", "(I)Z"⟩, 53) := ⟨⟨by decide +kernel, by decide +kernel⟩, List.mem_of_getElem? (i := 1201) (by decide +kernel), List.mem_of_getElem? (i := 1603) (by decide +kernel), List.mem_of_getElem? (i := 1604) (by decide +kernel)⟩
theorem lw_p83 : lw_okq (⟨"WearingBenchModel", "isBench", "()Z"⟩, 53) := ⟨⟨by decide +kernel, by decide +kernel⟩, List.mem_of_getElem? (i := 1201) (by decide +kernel), List.mem_of_getElem? (i := 1607) (by decide +kernel), List.mem_of_getElem? (i := 1608) (by decide +kernel)⟩
theorem lw_p84 : lw_okq (⟨"WearingBenchModel", "endOf", "(I)I"⟩, 53) := ⟨⟨by decide +kernel, by decide +kernel⟩, List.mem_of_getElem? (i := 1201) (by decide +kernel), List.mem_of_getElem? (i := 1627) (by decide +kernel), List.mem_of_getElem? (i := 1628) (by decide +kernel)⟩
theorem lw_p85 : lw_okq (⟨"WearingBenchModel", "toldNow", "()I"⟩, 53) := ⟨⟨by decide +kernel, by decide +kernel⟩, List.mem_of_getElem? (i := 1201) (by decide +kernel), List.mem_of_getElem? (i := 1635) (by decide +kernel), List.mem_of_getElem? (i := 1636) (by decide +kernel)⟩
theorem lw_p86 : lw_okq (⟨"WearingBenchModel", "endedSo", "(I)I"⟩, 53) := ⟨⟨by decide +kernel, by decide +kernel⟩, List.mem_of_getElem? (i := 1201) (by decide +kernel), List.mem_of_getElem? (i := 1639) (by decide +kernel), List.mem_of_getElem? (i := 1640) (by decide +kernel)⟩
theorem lw_p87 : lw_okq (⟨"WearingBenchModel", "dipOf", "(I)I"⟩, 53) := ⟨⟨by decide +kernel, by decide +kernel⟩, List.mem_of_getElem? (i := 1201) (by decide +kernel), List.mem_of_getElem? (i := 1663) (by decide +kernel), List.mem_of_getElem? (i := 1664) (by decide +kernel)⟩
theorem lw_p88 : lw_okq (⟨"WearingBenchModel", "byAge", "(II)I"⟩, 53) := ⟨⟨by decide +kernel, by decide +kernel⟩, List.mem_of_getElem? (i := 1201) (by decide +kernel), List.mem_of_getElem? (i := 1675) (by decide +kernel), List.mem_of_getElem? (i := 1676) (by decide +kernel)⟩
theorem lw_p89 : lw_okq (⟨"WearingBenchModel", "isRipe", "(II)Z"⟩, 53) := ⟨⟨by decide +kernel, by decide +kernel⟩, List.mem_of_getElem? (i := 1201) (by decide +kernel), List.mem_of_getElem? (i := 1691) (by decide +kernel), List.mem_of_getElem? (i := 1692) (by decide +kernel)⟩
theorem lw_p90 : lw_okq (⟨"WearingBenchModel", "thereAt", "(I)I"⟩, 53) := ⟨⟨by decide +kernel, by decide +kernel⟩, List.mem_of_getElem? (i := 1201) (by decide +kernel), List.mem_of_getElem? (i := 1715) (by decide +kernel), List.mem_of_getElem? (i := 1716) (by decide +kernel)⟩
theorem lw_p91 : lw_okq (⟨"WearingBenchModel", "toldWithout", "(I)I"⟩, 53) := ⟨⟨by decide +kernel, by decide +kernel⟩, List.mem_of_getElem? (i := 1201) (by decide +kernel), List.mem_of_getElem? (i := 1743) (by decide +kernel), List.mem_of_getElem? (i := 1744) (by decide +kernel)⟩
theorem lw_p92 : lw_okq (⟨"WearingBenchModel", "toldGiving", "(II)I"⟩, 53) := ⟨⟨by decide +kernel, by decide +kernel⟩, List.mem_of_getElem? (i := 1201) (by decide +kernel), List.mem_of_getElem? (i := 1755) (by decide +kernel), List.mem_of_getElem? (i := 1756) (by decide +kernel)⟩
theorem lw_p93 : lw_okq (⟨"WearingBenchModel", "laysBest", "()V"⟩, 53) := ⟨⟨by decide +kernel, by decide +kernel⟩, List.mem_of_getElem? (i := 1201) (by decide +kernel), List.mem_of_getElem? (i := 1786) (by decide +kernel), List.mem_of_getElem? (i := 1787) (by decide +kernel)⟩
theorem lw_p94 : lw_okq (⟨"WearingBenchModel", "seatsFrom", "(I)V"⟩, 53) := ⟨⟨by decide +kernel, by decide +kernel⟩, List.mem_of_getElem? (i := 1201) (by decide +kernel), List.mem_of_getElem? (i := 1790) (by decide +kernel), List.mem_of_getElem? (i := 1791) (by decide +kernel)⟩
theorem lw_p95 : lw_okq (⟨"WearingBenchModel", "everyOf", "()I"⟩, 53) := ⟨⟨by decide +kernel, by decide +kernel⟩, List.mem_of_getElem? (i := 1201) (by decide +kernel), List.mem_of_getElem? (i := 1806) (by decide +kernel), List.mem_of_getElem? (i := 1807) (by decide +kernel)⟩
def lw_privs_6 : List (MethodName × Nat) := [(⟨"WearingBenchModel", "older", "(I)I"⟩, 53), (⟨"WearingBenchModel", "isSitting", "(I)Z"⟩, 53), (⟨"WearingBenchModel", "isTime", "(I)Z"⟩, 53), (⟨"WearingBenchModel", "isBench", "()Z"⟩, 53), (⟨"WearingBenchModel", "endOf", "(I)I"⟩, 53), (⟨"WearingBenchModel", "toldNow", "()I"⟩, 53), (⟨"WearingBenchModel", "endedSo", "(I)I"⟩, 53), (⟨"WearingBenchModel", "dipOf", "(I)I"⟩, 53), (⟨"WearingBenchModel", "byAge", "(II)I"⟩, 53), (⟨"WearingBenchModel", "isRipe", "(II)Z"⟩, 53), (⟨"WearingBenchModel", "thereAt", "(I)I"⟩, 53), (⟨"WearingBenchModel", "toldWithout", "(I)I"⟩, 53), (⟨"WearingBenchModel", "toldGiving", "(II)I"⟩, 53), (⟨"WearingBenchModel", "laysBest", "()V"⟩, 53), (⟨"WearingBenchModel", "seatsFrom", "(I)V"⟩, 53), (⟨"WearingBenchModel", "everyOf", "()I"⟩, 53)]
theorem lw_r6 : ∀ q ∈ lw_privs_6, lw_okq q := List.forall_mem_cons.mpr ⟨lw_p80, List.forall_mem_cons.mpr ⟨lw_p81, List.forall_mem_cons.mpr ⟨lw_p82, List.forall_mem_cons.mpr ⟨lw_p83, List.forall_mem_cons.mpr ⟨lw_p84, List.forall_mem_cons.mpr ⟨lw_p85, List.forall_mem_cons.mpr ⟨lw_p86, List.forall_mem_cons.mpr ⟨lw_p87, List.forall_mem_cons.mpr ⟨lw_p88, List.forall_mem_cons.mpr ⟨lw_p89, List.forall_mem_cons.mpr ⟨lw_p90, List.forall_mem_cons.mpr ⟨lw_p91, List.forall_mem_cons.mpr ⟨lw_p92, List.forall_mem_cons.mpr ⟨lw_p93, List.forall_mem_cons.mpr ⟨lw_p94, List.forall_mem_cons.mpr ⟨lw_p95, fun _ h => absurd h List.not_mem_nil⟩⟩⟩⟩⟩⟩⟩⟩⟩⟩⟩⟩⟩⟩⟩⟩
theorem lw_p96 : lw_okq (⟨"WearingBenchModel", "isLaw", "(I)Z"⟩, 53) := ⟨⟨by decide +kernel, by decide +kernel⟩, List.mem_of_getElem? (i := 1201) (by decide +kernel), List.mem_of_getElem? (i := 1822) (by decide +kernel), List.mem_of_getElem? (i := 1823) (by decide +kernel)⟩
theorem lw_p97 : lw_okq (⟨"WearingBenchModel", "toldBy", "(I)I"⟩, 53) := ⟨⟨by decide +kernel, by decide +kernel⟩, List.mem_of_getElem? (i := 1201) (by decide +kernel), List.mem_of_getElem? (i := 1826) (by decide +kernel), List.mem_of_getElem? (i := 1827) (by decide +kernel)⟩
theorem lw_p98 : lw_okq (⟨"WearingBenchModel", "whyNotSeen", "(I)I"⟩, 53) := ⟨⟨by decide +kernel, by decide +kernel⟩, List.mem_of_getElem? (i := 1201) (by decide +kernel), List.mem_of_getElem? (i := 1838) (by decide +kernel), List.mem_of_getElem? (i := 1839) (by decide +kernel)⟩
theorem lw_p99 : lw_okq (⟨"WearingBenchModel", "isSeen", "(I)Z"⟩, 53) := ⟨⟨by decide +kernel, by decide +kernel⟩, List.mem_of_getElem? (i := 1201) (by decide +kernel), List.mem_of_getElem? (i := 1843) (by decide +kernel), List.mem_of_getElem? (i := 1844) (by decide +kernel)⟩
theorem lw_p100 : lw_okq (⟨"WearingBenchModel", "whyNotSat", "(II)I"⟩, 53) := ⟨⟨by decide +kernel, by decide +kernel⟩, List.mem_of_getElem? (i := 1201) (by decide +kernel), List.mem_of_getElem? (i := 1851) (by decide +kernel), List.mem_of_getElem? (i := 1852) (by decide +kernel)⟩
theorem lw_p101 : lw_okq (⟨"WearingBenchModel", "satOf", "(II)I"⟩, 53) := ⟨⟨by decide +kernel, by decide +kernel⟩, List.mem_of_getElem? (i := 1201) (by decide +kernel), List.mem_of_getElem? (i := 1855) (by decide +kernel), List.mem_of_getElem? (i := 1856) (by decide +kernel)⟩
theorem lw_p102 : lw_okq (⟨"WearingBenchModel", "whyNotMarks", "(I)I"⟩, 53) := ⟨⟨by decide +kernel, by decide +kernel⟩, List.mem_of_getElem? (i := 1201) (by decide +kernel), List.mem_of_getElem? (i := 1867) (by decide +kernel), List.mem_of_getElem? (i := 1868) (by decide +kernel)⟩
theorem lw_p103 : lw_okq (⟨"WearingBenchModel", "laysMarks", "(I)V"⟩, 53) := ⟨⟨by decide +kernel, by decide +kernel⟩, List.mem_of_getElem? (i := 1201) (by decide +kernel), List.mem_of_getElem? (i := 1872) (by decide +kernel), List.mem_of_getElem? (i := 1873) (by decide +kernel)⟩
theorem lw_p104 : lw_okq (⟨"WearingBenchModel", "areTwo", "(II)Z"⟩, 53) := ⟨⟨by decide +kernel, by decide +kernel⟩, List.mem_of_getElem? (i := 1201) (by decide +kernel), List.mem_of_getElem? (i := 1888) (by decide +kernel), List.mem_of_getElem? (i := 1889) (by decide +kernel)⟩
theorem lw_p105 : lw_okq (⟨"WearingBenchModel", "laysGame", "(II)V"⟩, 53) := ⟨⟨by decide +kernel, by decide +kernel⟩, List.mem_of_getElem? (i := 1201) (by decide +kernel), List.mem_of_getElem? (i := 1892) (by decide +kernel), List.mem_of_getElem? (i := 1893) (by decide +kernel)⟩
theorem lw_p106 : lw_okq (⟨"WearingBenchModel", "isRest", "(II)Z"⟩, 53) := ⟨⟨by decide +kernel, by decide +kernel⟩, List.mem_of_getElem? (i := 1201) (by decide +kernel), List.mem_of_getElem? (i := 1896) (by decide +kernel), List.mem_of_getElem? (i := 1897) (by decide +kernel)⟩
theorem lw_p107 : lw_okq (⟨"WearingBenchModel", "swapsOf", "()I"⟩, 53) := ⟨⟨by decide +kernel, by decide +kernel⟩, List.mem_of_getElem? (i := 1201) (by decide +kernel), List.mem_of_getElem? (i := 1908) (by decide +kernel), List.mem_of_getElem? (i := 1909) (by decide +kernel)⟩
theorem lw_p108 : lw_okq (⟨"WearingBenchModel", "isChance", "(III)Z"⟩, 53) := ⟨⟨by decide +kernel, by decide +kernel⟩, List.mem_of_getElem? (i := 1201) (by decide +kernel), List.mem_of_getElem? (i := 1920) (by decide +kernel), List.mem_of_getElem? (i := 1921) (by decide +kernel)⟩
theorem lw_p109 : lw_okq (⟨"WearingBenchModel", "weightOf", "(III)J"⟩, 53) := ⟨⟨by decide +kernel, by decide +kernel⟩, List.mem_of_getElem? (i := 1201) (by decide +kernel), List.mem_of_getElem? (i := 1928) (by decide +kernel), List.mem_of_getElem? (i := 1929) (by decide +kernel)⟩
theorem lw_p110 : lw_okq (⟨"WearingBenchModel", "draws", "(J)I"⟩, 53) := ⟨⟨by decide +kernel, by decide +kernel⟩, List.mem_of_getElem? (i := 1201) (by decide +kernel), List.mem_of_getElem? (i := 1958) (by decide +kernel), List.mem_of_getElem? (i := 1959) (by decide +kernel)⟩
def lw_privs_7 : List (MethodName × Nat) := [(⟨"WearingBenchModel", "isLaw", "(I)Z"⟩, 53), (⟨"WearingBenchModel", "toldBy", "(I)I"⟩, 53), (⟨"WearingBenchModel", "whyNotSeen", "(I)I"⟩, 53), (⟨"WearingBenchModel", "isSeen", "(I)Z"⟩, 53), (⟨"WearingBenchModel", "whyNotSat", "(II)I"⟩, 53), (⟨"WearingBenchModel", "satOf", "(II)I"⟩, 53), (⟨"WearingBenchModel", "whyNotMarks", "(I)I"⟩, 53), (⟨"WearingBenchModel", "laysMarks", "(I)V"⟩, 53), (⟨"WearingBenchModel", "areTwo", "(II)Z"⟩, 53), (⟨"WearingBenchModel", "laysGame", "(II)V"⟩, 53), (⟨"WearingBenchModel", "isRest", "(II)Z"⟩, 53), (⟨"WearingBenchModel", "swapsOf", "()I"⟩, 53), (⟨"WearingBenchModel", "isChance", "(III)Z"⟩, 53), (⟨"WearingBenchModel", "weightOf", "(III)J"⟩, 53), (⟨"WearingBenchModel", "draws", "(J)I"⟩, 53)]
theorem lw_r7 : ∀ q ∈ lw_privs_7, lw_okq q := List.forall_mem_cons.mpr ⟨lw_p96, List.forall_mem_cons.mpr ⟨lw_p97, List.forall_mem_cons.mpr ⟨lw_p98, List.forall_mem_cons.mpr ⟨lw_p99, List.forall_mem_cons.mpr ⟨lw_p100, List.forall_mem_cons.mpr ⟨lw_p101, List.forall_mem_cons.mpr ⟨lw_p102, List.forall_mem_cons.mpr ⟨lw_p103, List.forall_mem_cons.mpr ⟨lw_p104, List.forall_mem_cons.mpr ⟨lw_p105, List.forall_mem_cons.mpr ⟨lw_p106, List.forall_mem_cons.mpr ⟨lw_p107, List.forall_mem_cons.mpr ⟨lw_p108, List.forall_mem_cons.mpr ⟨lw_p109, List.forall_mem_cons.mpr ⟨lw_p110, fun _ h => absurd h List.not_mem_nil⟩⟩⟩⟩⟩⟩⟩⟩⟩⟩⟩⟩⟩⟩⟩
def lw_privs : List (MethodName × Nat) := lw_privs_1 ++ (lw_privs_2 ++ (lw_privs_3 ++ (lw_privs_4 ++ (lw_privs_5 ++ (lw_privs_6 ++ (lw_privs_7))))))
def lw_tbl : List Cond := k2_sels lw_privs ++ tables_1
theorem lw_privs_ok : ∀ q ∈ lw_privs, lw_okq q := by
  show ∀ q ∈ lw_privs_1 ++ (lw_privs_2 ++ (lw_privs_3 ++ (lw_privs_4 ++ (lw_privs_5 ++ (lw_privs_6 ++ (lw_privs_7)))))), lw_okq q
  exact List.forall_mem_append.mpr ⟨lw_r1, List.forall_mem_append.mpr ⟨lw_r2, List.forall_mem_append.mpr ⟨lw_r3, List.forall_mem_append.mpr ⟨lw_r4, List.forall_mem_append.mpr ⟨lw_r5, List.forall_mem_append.mpr ⟨lw_r6, lw_r7⟩⟩⟩⟩⟩⟩
-- ===== end of PART A; then your names; then what follows =====
def RX0 : String := "WearingBench$Bench"
def TX0 : u_T := fun k => match k with
  | 0 => ("WearingBench$Bench", "lines", "I", false)
  | 1 => ("WearingBench$Bench", "law", "I", false)
  | 2 => ("WearingBench$Bench", "wear", "I", false)
  | 3 => ("WearingBench$Bench", "every", "I", false)
  | 4 => ("WearingBench$Bench", "odds", "I", false)
  | 5 => ("WearingBench$Bench", "seats", "I", false)
  | 6 => ("WearingBench$Bench", "callers", "I", false)
  | 7 => ("WearingBench$Bench", "acts", "I", false)
  | 8 => ("WearingBench$Bench", "gives", "[I", true)
  | 9 => ("WearingBench$Bench", "age", "[I", true)
  | 10 => ("WearingBench$Bench", "comes", "[I", true)
  | 11 => ("WearingBench$Bench", "seat", "[I", true)
  | 12 => ("WearingBench$Bench", "least", "[I", true)
  | 13 => ("WearingBench$Bench", "most", "[I", true)
  | 14 => ("WearingBench$Bench", "actCaller", "[I", true)
  | 15 => ("WearingBench$Bench", "actSeat", "[I", true)
  | _ => ("WearingBench$Bench", "actMinute", "[I", true)
def tyX0 : Nat → FieldType := fun k => match k with
  | 0 => .int
  | 1 => .int
  | 2 => .int
  | 3 => .int
  | 4 => .int
  | 5 => .int
  | 6 => .int
  | 7 => .int
  | 8 => .array .int
  | 9 => .array .int
  | 10 => .array .int
  | 11 => .array .int
  | 12 => .array .int
  | 13 => .array .int
  | 14 => .array .int
  | 15 => .array .int
  | _ => .array .int
abbrev wsX00 : List Cond := u_ws RX0 TX0 17
theorem nmX0 : ∀ a, a < 17 → ∀ b, b < 17 → a ≠ b → (TX0 a).2.1 ≠ (TX0 b).2.1 := by decide +kernel
theorem tyX0_ok : ∀ k, k < 17 → parseFieldDescriptor (TX0 k).2.2.1 = some (tyX0 k) := by decide +kernel
abbrev cX0_init : ByteArray := prog_2_method_1_code
def yX0_init : MethodName := ⟨RX0, "<init>", "()V"⟩
abbrev cX0_clear : ByteArray := prog_2_method_2_code
def yX0_clear : MethodName := ⟨RX0, "clear", "()V"⟩
abbrev cX0_copyFrom : ByteArray := prog_2_method_3_code
def yX0_copyFrom : MethodName := ⟨RX0, "copyFrom", "(LWearingBench$Bench;)V"⟩
abbrev cX0_addAct : ByteArray := prog_2_method_4_code
def yX0_addAct : MethodName := ⟨RX0, "addAct", "(III)V"⟩
abbrev cX0_hasSeat : ByteArray := prog_2_method_5_code
def yX0_hasSeat : MethodName := ⟨RX0, "hasSeat", "(I)Z"⟩
abbrev cX0_hasCaller : ByteArray := prog_2_method_6_code
def yX0_hasCaller : MethodName := ⟨RX0, "hasCaller", "(I)Z"⟩
abbrev cX0_isToldAt : ByteArray := prog_2_method_7_code
def yX0_isToldAt : MethodName := ⟨RX0, "isToldAt", "(II)Z"⟩
abbrev cX0_callsTill : ByteArray := prog_2_method_8_code
def yX0_callsTill : MethodName := ⟨RX0, "callsTill", "(I)I"⟩
def RX1 : String := "WearingBench$Chances"
def TX1 : u_T := fun k => match k with
  | 0 => ("WearingBench$Chances", "known", "Z", false)
  | 1 => ("WearingBench$Chances", "going", "[J", true)
  | 2 => ("WearingBench$Chances", "telling", "[J", true)
  | 3 => ("WearingBench$Chances", "days", "[LWearingBench$Day;", true)
  | _ => ("WearingBench$Chances", "calls", "I", false)
def tyX1 : Nat → FieldType := fun k => match k with
  | 0 => .boolean
  | 1 => .array .long
  | 2 => .array .long
  | 3 => .array (.object "WearingBench$Day")
  | _ => .int
abbrev wsX10 : List Cond := u_ws RX1 TX1 5
theorem nmX1 : ∀ a, a < 5 → ∀ b, b < 5 → a ≠ b → (TX1 a).2.1 ≠ (TX1 b).2.1 := by decide +kernel
theorem tyX1_ok : ∀ k, k < 5 → parseFieldDescriptor (TX1 k).2.2.1 = some (tyX1 k) := by decide +kernel
abbrev cX1_init : ByteArray := prog_3_method_1_code
def yX1_init : MethodName := ⟨RX1, "<init>", "()V"⟩
abbrev cX1_weigh : ByteArray := prog_3_method_2_code
def yX1_weigh : MethodName := ⟨RX1, "weigh", "(LWearingBench$Bench;)V"⟩
abbrev cX1_passToCall : ByteArray := prog_3_method_3_code
def yX1_passToCall : MethodName := ⟨RX1, "passToCall", "(LWearingBench$Day;LWearingBench$Bench;I)V"⟩
abbrev cX1_branch : ByteArray := prog_3_method_4_code
def yX1_branch : MethodName := ⟨RX1, "branch", "(LWearingBench$Chances;LWearingBench$Bench;IJ)V"⟩
abbrev cX1_note : ByteArray := prog_3_method_5_code
def yX1_note : MethodName := ⟨RX1, "note", "(LWearingBench$Bench;IIIJ)V"⟩
abbrev cX1_gained : ByteArray := prog_3_method_6_code
def yX1_gained : MethodName := ⟨RX1, "gained", "([JII)J"⟩
abbrev cX1_part : ByteArray := prog_3_method_7_code
def yX1_part : MethodName := ⟨RX1, "part", "(JII)J"⟩
abbrev cX1_commonDivisor : ByteArray := prog_3_method_8_code
def yX1_commonDivisor : MethodName := ⟨RX1, "commonDivisor", "(JJ)J"⟩
def RX2 : String := "WearingBench$Day"
def TX2 : u_T := fun k => match k with
  | 0 => ("WearingBench$Day", "place", "[I", true)
  | 1 => ("WearingBench$Day", "years", "[I", true)
  | 2 => ("WearingBench$Day", "seatBefore", "[I", true)
  | 3 => ("WearingBench$Day", "minutesKept", "[I", true)
  | 4 => ("WearingBench$Day", "wentAt", "[I", true)
  | 5 => ("WearingBench$Day", "wentAge", "[I", true)
  | 6 => ("WearingBench$Day", "sitter", "[I", true)
  | 7 => ("WearingBench$Day", "gone", "I", false)
  | 8 => ("WearingBench$Day", "busy", "J", false)
  | _ => ("WearingBench$Day", "done", "J", false)
def tyX2 : Nat → FieldType := fun k => match k with
  | 0 => .array .int
  | 1 => .array .int
  | 2 => .array .int
  | 3 => .array .int
  | 4 => .array .int
  | 5 => .array .int
  | 6 => .array .int
  | 7 => .int
  | 8 => .long
  | _ => .long
abbrev wsX20 : List Cond := u_ws RX2 TX2 10
theorem nmX2 : ∀ a, a < 10 → ∀ b, b < 10 → a ≠ b → (TX2 a).2.1 ≠ (TX2 b).2.1 := by decide +kernel
theorem tyX2_ok : ∀ k, k < 10 → parseFieldDescriptor (TX2 k).2.2.1 = some (tyX2 k) := by decide +kernel
abbrev cX2_init : ByteArray := prog_4_method_1_code
def yX2_init : MethodName := ⟨RX2, "<init>", "()V"⟩
abbrev cX2_dawn : ByteArray := prog_4_method_2_code
def yX2_dawn : MethodName := ⟨RX2, "dawn", "(LWearingBench$Bench;)V"⟩
abbrev cX2_copyFrom : ByteArray := prog_4_method_3_code
def yX2_copyFrom : MethodName := ⟨RX2, "copyFrom", "(LWearingBench$Day;)V"⟩
abbrev cX2_live : ByteArray := prog_4_method_4_code
def yX2_live : MethodName := ⟨RX2, "live", "(LWearingBench$Bench;J)V"⟩
abbrev cX2_settle : ByteArray := prog_4_method_5_code
def yX2_settle : MethodName := ⟨RX2, "settle", "(LWearingBench$Bench;I)V"⟩
abbrev cX2_finish : ByteArray := prog_4_method_6_code
def yX2_finish : MethodName := ⟨RX2, "finish", "(LWearingBench$Bench;IJ)V"⟩
abbrev cX2_moveAll : ByteArray := prog_4_method_7_code
def yX2_moveAll : MethodName := ⟨RX2, "moveAll", "(LWearingBench$Bench;I)V"⟩
abbrev cX2_leaveSeat : ByteArray := prog_4_method_8_code
def yX2_leaveSeat : MethodName := ⟨RX2, "leaveSeat", "(I)V"⟩
abbrev cX2_sitDown : ByteArray := prog_4_method_9_code
def yX2_sitDown : MethodName := ⟨RX2, "sitDown", "(LWearingBench$Bench;I)V"⟩
abbrev cX2_firstThere : ByteArray := prog_4_method_10_code
def yX2_firstThere : MethodName := ⟨RX2, "firstThere", "(LWearingBench$Bench;)I"⟩
abbrev cX2_admit : ByteArray := prog_4_method_11_code
def yX2_nm : String := (match (tables_1_3[143]? : Option Jvm.Cond) with | some (Jvm.Cond.instanceMethod n) => n.name | _ => "")
def yX2_admit : MethodName := ⟨RX2, yX2_nm, "(II)V"⟩
abbrev cX2_growAll : ByteArray := prog_4_method_12_code
def yX2_growAll : MethodName := ⟨RX2, "growAll", "(LWearingBench$Bench;)V"⟩
abbrev cX2_ageBehind : ByteArray := prog_4_method_13_code
def yX2_ageBehind : MethodName := ⟨RX2, "ageBehind", "(LWearingBench$Bench;II)I"⟩
abbrev cX2_neighbours : ByteArray := prog_4_method_14_code
def yX2_neighbours : MethodName := ⟨RX2, "neighbours", "(LWearingBench$Bench;I)I"⟩
abbrev cX2_endOf : ByteArray := prog_4_method_15_code
def yX2_endOf : MethodName := ⟨RX2, "endOf", "(LWearingBench$Bench;I)I"⟩
abbrev cX2_toldBits : ByteArray := prog_4_method_16_code
def yX2_toldBits : MethodName := ⟨RX2, "toldBits", "(LWearingBench$Bench;)I"⟩
abbrev cX2_forgottenBits : ByteArray := prog_4_method_17_code
def yX2_forgottenBits : MethodName := ⟨RX2, "forgottenBits", "(LWearingBench$Bench;)I"⟩
def RX3 : String := "WearingBench$Diary"
def TX3 : u_T := fun k => match k with
  | 0 => ("WearingBench$Diary", "day", "LWearingBench$Day;", true)
  | 1 => ("WearingBench$Diary", "known", "Z", false)
  | 2 => ("WearingBench$Diary", "ages", "[I", true)
  | _ => ("WearingBench$Diary", "seats", "[I", true)
def tyX3 : Nat → FieldType := fun k => match k with
  | 0 => .object "WearingBench$Day"
  | 1 => .boolean
  | 2 => .array .int
  | _ => .array .int
abbrev wsX30 : List Cond := u_ws RX3 TX3 4
theorem nmX3 : ∀ a, a < 4 → ∀ b, b < 4 → a ≠ b → (TX3 a).2.1 ≠ (TX3 b).2.1 := by decide +kernel
theorem tyX3_ok : ∀ k, k < 4 → parseFieldDescriptor (TX3 k).2.2.1 = some (tyX3 k) := by decide +kernel
abbrev cX3_init : ByteArray := prog_5_method_1_code
def yX3_init : MethodName := ⟨RX3, "<init>", "()V"⟩
abbrev cX3_keep : ByteArray := prog_5_method_2_code
def yX3_keep : MethodName := ⟨RX3, "keep", "(LWearingBench$Bench;)V"⟩
abbrev cX3_note : ByteArray := prog_5_method_3_code
def yX3_note : MethodName := ⟨RX3, "note", "(LWearingBench$Bench;I)V"⟩
abbrev cX3_ageAt : ByteArray := prog_5_method_4_code
def yX3_ageAt : MethodName := ⟨RX3, "ageAt", "(II)I"⟩
abbrev cX3_seatAt : ByteArray := prog_5_method_5_code
def yX3_seatAt : MethodName := ⟨RX3, "seatAt", "(II)I"⟩
abbrev cX3_isThere : ByteArray := prog_5_method_6_code
def yX3_isThere : MethodName := ⟨RX3, "isThere", "(II)Z"⟩
abbrev cX3_areOfOneAge : ByteArray := prog_5_method_7_code
def yX3_areOfOneAge : MethodName := ⟨RX3, "areOfOneAge", "(III)Z"⟩
abbrev cX3_minutesOn : ByteArray := prog_5_method_8_code
def yX3_minutesOn : MethodName := ⟨RX3, "minutesOn", "(II)I"⟩
def RX4 : String := "WearingBench$Game"
def TX4 : u_T := fun k => match k with
  | 0 => ("WearingBench$Game", "rests", "I", false)
  | 1 => ("WearingBench$Game", "first", "I", false)
  | _ => ("WearingBench$Game", "toldBits", "[I", true)
def tyX4 : Nat → FieldType := fun k => match k with
  | 0 => .int
  | 1 => .int
  | _ => .array .int
abbrev wsX40 : List Cond := u_ws RX4 TX4 3
theorem nmX4 : ∀ a, a < 3 → ∀ b, b < 3 → a ≠ b → (TX4 a).2.1 ≠ (TX4 b).2.1 := by decide +kernel
theorem tyX4_ok : ∀ k, k < 3 → parseFieldDescriptor (TX4 k).2.2.1 = some (tyX4 k) := by decide +kernel
abbrev cX4_init : ByteArray := prog_6_method_1_code
def yX4_init : MethodName := ⟨RX4, "<init>", "()V"⟩
abbrev cX4_play : ByteArray := prog_6_method_2_code
def yX4_play : MethodName := ⟨RX4, "play", "(LWearingBench$Bench;LWearingBench$Day;II)V"⟩
abbrev cX4_isAtRest : ByteArray := prog_6_method_3_code
def yX4_isAtRest : MethodName := ⟨RX4, "isAtRest", "(LWearingBench$Bench;IIII)Z"⟩
def RX5 : String := "WearingBench$Pile"
def TX5 : u_T := fun k => match k with
  | 0 => ("WearingBench$Pile", "sorted", "Z", false)
  | 1 => ("WearingBench$Pile", "order", "[I", true)
  | _ => ("WearingBench$Pile", "beneath", "[I", true)
def tyX5 : Nat → FieldType := fun k => match k with
  | 0 => .boolean
  | 1 => .array .int
  | _ => .array .int
abbrev wsX50 : List Cond := u_ws RX5 TX5 3
theorem nmX5 : ∀ a, a < 3 → ∀ b, b < 3 → a ≠ b → (TX5 a).2.1 ≠ (TX5 b).2.1 := by decide +kernel
theorem tyX5_ok : ∀ k, k < 3 → parseFieldDescriptor (TX5 k).2.2.1 = some (tyX5 k) := by decide +kernel
abbrev cX5_init : ByteArray := prog_7_method_1_code
def yX5_init : MethodName := ⟨RX5, "<init>", "()V"⟩
abbrev cX5_sort : ByteArray := prog_7_method_2_code
def yX5_sort : MethodName := ⟨RX5, "sort", "(LWearingBench$Row;)V"⟩
abbrev cX5_leastToCut : ByteArray := prog_7_method_3_code
def yX5_leastToCut : MethodName := ⟨RX5, "leastToCut", "(I)I"⟩
abbrev cX5_allBeneath : ByteArray := prog_7_method_4_code
def yX5_allBeneath : MethodName := ⟨RX5, "allBeneath", "(I)I"⟩
def RX6 : String := "WearingBench$Planner"
def TX6 : u_T := fun k => match k with
  | 0 => ("WearingBench$Planner", "known", "Z", false)
  | 1 => ("WearingBench$Planner", "most", "I", false)
  | 2 => ("WearingBench$Planner", "ways", "I", false)
  | 3 => ("WearingBench$Planner", "row", "[I", true)
  | 4 => ("WearingBench$Planner", "order", "[I", true)
  | 5 => ("WearingBench$Planner", "leastTold", "[I", true)
  | _ => ("WearingBench$Planner", "rowsAlike", "I", false)
def tyX6 : Nat → FieldType := fun k => match k with
  | 0 => .boolean
  | 1 => .int
  | 2 => .int
  | 3 => .array .int
  | 4 => .array .int
  | 5 => .array .int
  | _ => .int
abbrev wsX60 : List Cond := u_ws RX6 TX6 7
theorem nmX6 : ∀ a, a < 7 → ∀ b, b < 7 → a ≠ b → (TX6 a).2.1 ≠ (TX6 b).2.1 := by decide +kernel
theorem tyX6_ok : ∀ k, k < 7 → parseFieldDescriptor (TX6 k).2.2.1 = some (tyX6 k) := by decide +kernel
abbrev cX6_init : ByteArray := prog_8_method_1_code
def yX6_init : MethodName := ⟨RX6, "<init>", "()V"⟩
abbrev cX6_search : ByteArray := prog_8_method_2_code
def yX6_search : MethodName := ⟨RX6, "search", "(LWearingBench$Bench;LWearingBench$Bench;LWearingBench$Day;)V"⟩
abbrev cX6_sortByComing : ByteArray := prog_8_method_3_code
def yX6_sortByComing : MethodName := ⟨RX6, "sortByComing", "(LWearingBench$Bench;)V"⟩
abbrev cX6_liveAsTold : ByteArray := prog_8_method_4_code
def yX6_liveAsTold : MethodName := ⟨RX6, "liveAsTold", "(LWearingBench$Bench;LWearingBench$Day;)I"⟩
abbrev cX6_getsTold : ByteArray := prog_8_method_5_code
def yX6_getsTold : MethodName := ⟨RX6, "getsTold", "(LWearingBench$Bench;LWearingBench$Day;I)Z"⟩
abbrev cX6_wasTaken : ByteArray := prog_8_method_6_code
def yX6_wasTaken : MethodName := ⟨RX6, "wasTaken", "(LWearingBench$Bench;LWearingBench$Day;II)Z"⟩
abbrev cX6_weighRow : ByteArray := prog_8_method_7_code
def yX6_weighRow : MethodName := ⟨RX6, "weighRow", "(LWearingBench$Bench;I)V"⟩
abbrev cX6_keepRow : ByteArray := prog_8_method_8_code
def yX6_keepRow : MethodName := ⟨RX6, "keepRow", "(LWearingBench$Bench;)V"⟩
abbrev cX6_isLesser : ByteArray := prog_8_method_9_code
def yX6_isLesser : MethodName := ⟨RX6, "isLesser", "(LWearingBench$Bench;)Z"⟩
abbrev cX6_turn : ByteArray := prog_8_method_10_code
def yX6_turn : MethodName := ⟨RX6, "turn", "(LWearingBench$Bench;I)Z"⟩
def RX7 : String := "WearingBench$Row"
def TX7 : u_T := fun k => match k with
  | 0 => ("WearingBench$Row", "width", "I", false)
  | 1 => ("WearingBench$Row", "size", "I", false)
  | _ => ("WearingBench$Row", "numbers", "[J", true)
def tyX7 : Nat → FieldType := fun k => match k with
  | 0 => .int
  | 1 => .int
  | _ => .array .long
abbrev wsX70 : List Cond := u_ws RX7 TX7 3
theorem nmX7 : ∀ a, a < 3 → ∀ b, b < 3 → a ≠ b → (TX7 a).2.1 ≠ (TX7 b).2.1 := by decide +kernel
theorem tyX7_ok : ∀ k, k < 3 → parseFieldDescriptor (TX7 k).2.2.1 = some (tyX7 k) := by decide +kernel
abbrev cX7_init : ByteArray := prog_9_method_1_code
def yX7_init : MethodName := ⟨RX7, "<init>", "()V"⟩
abbrev cX7_isMade : ByteArray := prog_9_method_2_code
def yX7_isMade : MethodName := ⟨RX7, "isMade", "()Z"⟩
abbrev cX7_start : ByteArray := prog_9_method_3_code
def yX7_start : MethodName := ⟨RX7, "start", "(II)V"⟩
abbrev cX7_put : ByteArray := prog_9_method_4_code
def yX7_put : MethodName := ⟨RX7, "put", "(IJ)V"⟩
abbrev cX7_isWithin : ByteArray := prog_9_method_5_code
def yX7_isWithin : MethodName := ⟨RX7, "isWithin", "(III)Z"⟩
abbrev cX7_intAt : ByteArray := prog_9_method_6_code
def yX7_intAt : MethodName := ⟨RX7, "intAt", "(I)I"⟩
abbrev cX7_hasStretch : ByteArray := prog_9_method_7_code
def yX7_hasStretch : MethodName := ⟨RX7, "hasStretch", "(II)Z"⟩
abbrev cX7_copyStretch : ByteArray := prog_9_method_8_code
def yX7_copyStretch : MethodName := ⟨RX7, "copyStretch", "(LWearingBench$Row;III)V"⟩
def RX8 : String := "WearingBench$Tape"
def TX8 : u_T := fun k => match k with
  | 0 => ("WearingBench$Tape", "bytes", "[I", true)
  | 1 => ("WearingBench$Tape", "size", "I", false)
  | 2 => ("WearingBench$Tape", "fault", "I", false)
  | 3 => ("WearingBench$Tape", "place", "I", false)
  | 4 => ("WearingBench$Tape", "kind", "I", false)
  | 5 => ("WearingBench$Tape", "start", "I", false)
  | _ => ("WearingBench$Tape", "stop", "I", false)
def tyX8 : Nat → FieldType := fun k => match k with
  | 0 => .array .int
  | 1 => .int
  | 2 => .int
  | 3 => .int
  | 4 => .int
  | 5 => .int
  | _ => .int
abbrev wsX80 : List Cond := u_ws RX8 TX8 7
theorem nmX8 : ∀ a, a < 7 → ∀ b, b < 7 → a ≠ b → (TX8 a).2.1 ≠ (TX8 b).2.1 := by decide +kernel
theorem tyX8_ok : ∀ k, k < 7 → parseFieldDescriptor (TX8 k).2.2.1 = some (tyX8 k) := by decide +kernel
abbrev cX8_init : ByteArray := prog_10_method_1_code
def yX8_init : MethodName := ⟨RX8, "<init>", "()V"⟩
abbrev cX8_hasRoom : ByteArray := prog_10_method_2_code
def yX8_hasRoom : MethodName := ⟨RX8, "hasRoom", "(I)Z"⟩
abbrev cX8_put : ByteArray := prog_10_method_3_code
def yX8_put : MethodName := ⟨RX8, "put", "(I)V"⟩
abbrev cX8_read : ByteArray := prog_10_method_4_code
def yX8_read : MethodName := ⟨RX8, "read", "(LWearingBench$Bench;)Z"⟩
abbrev cX8_readFirst : ByteArray := prog_10_method_5_code
def yX8_readFirst : MethodName := ⟨RX8, "readFirst", "(LWearingBench$Bench;)V"⟩
abbrev cX8_readSeat : ByteArray := prog_10_method_6_code
def yX8_readSeat : MethodName := ⟨RX8, "readSeat", "(LWearingBench$Bench;)V"⟩
abbrev cX8_readCaller : ByteArray := prog_10_method_7_code
def yX8_readCaller : MethodName := ⟨RX8, "readCaller", "(LWearingBench$Bench;)V"⟩
abbrev cX8_refuse : ByteArray := prog_10_method_8_code
def yX8_refuse : MethodName := ⟨RX8, "refuse", "(I)V"⟩
abbrev cX8_takeWord : ByteArray := prog_10_method_9_code
def yX8_takeWord : MethodName := ⟨RX8, "takeWord", "(Ljava/lang/String;)V"⟩
abbrev cX8_takeSign : ByteArray := prog_10_method_10_code
def yX8_takeSign : MethodName := ⟨RX8, "takeSign", "()V"⟩
abbrev cX8_takeAfter : ByteArray := prog_10_method_11_code
def yX8_takeAfter : MethodName := ⟨RX8, "takeAfter", "(Ljava/lang/String;II)I"⟩
abbrev cX8_isWord : ByteArray := prog_10_method_12_code
def yX8_isWord : MethodName := ⟨RX8, "isWord", "(Ljava/lang/String;)Z"⟩
abbrev cX8_valueHere : ByteArray := prog_10_method_13_code
def yX8_valueHere : MethodName := ⟨RX8, "valueHere", "()I"⟩
abbrev cX8_advance : ByteArray := prog_10_method_14_code
def yX8_advance : MethodName := ⟨RX8, "advance", "()V"⟩
abbrev cX8_growsOn : ByteArray := prog_10_method_15_code
def yX8_growsOn : MethodName := ⟨RX8, "growsOn", "()Z"⟩
abbrev cX8_isBlank : ByteArray := prog_10_method_16_code
def yX8_isBlank : MethodName := ⟨RX8, "isBlank", "(I)Z"⟩
abbrev cX8_kindOf : ByteArray := prog_10_method_17_code
def yX8_kindOf : MethodName := ⟨RX8, "kindOf", "(I)I"⟩
def RX9 : String := "WearingBench"
def TX9 : u_T := fun k => match k with
  | 0 => ("WearingBench", "tape", "LWearingBench$Tape;", true)
  | 1 => ("WearingBench", "now", "LWearingBench$Bench;", true)
  | 2 => ("WearingBench", "trial", "LWearingBench$Bench;", true)
  | 3 => ("WearingBench", "images", "[LWearingBench$Bench;", true)
  | 4 => ("WearingBench", "rows", "[LWearingBench$Row;", true)
  | 5 => ("WearingBench", "today", "LWearingBench$Diary;", true)
  | 6 => ("WearingBench", "otherDay", "LWearingBench$Diary;", true)
  | 7 => ("WearingBench", "probe", "LWearingBench$Day;", true)
  | 8 => ("WearingBench", "planner", "LWearingBench$Planner;", true)
  | 9 => ("WearingBench", "chances", "LWearingBench$Chances;", true)
  | 10 => ("WearingBench", "pile", "LWearingBench$Pile;", true)
  | 11 => ("WearingBench", "game", "LWearingBench$Game;", true)
  | _ => ("WearingBench", "seen", "[I", true)
def tyX9 : Nat → FieldType := fun k => match k with
  | 0 => .object "WearingBench$Tape"
  | 1 => .object "WearingBench$Bench"
  | 2 => .object "WearingBench$Bench"
  | 3 => .array (.object "WearingBench$Bench")
  | 4 => .array (.object "WearingBench$Row")
  | 5 => .object "WearingBench$Diary"
  | 6 => .object "WearingBench$Diary"
  | 7 => .object "WearingBench$Day"
  | 8 => .object "WearingBench$Planner"
  | 9 => .object "WearingBench$Chances"
  | 10 => .object "WearingBench$Pile"
  | 11 => .object "WearingBench$Game"
  | _ => .array .int
abbrev wsX90 : List Cond := u_ws RX9 TX9 13
theorem nmX9 : ∀ a, a < 13 → ∀ b, b < 13 → a ≠ b → (TX9 a).2.1 ≠ (TX9 b).2.1 := by decide +kernel
theorem tyX9_ok : ∀ k, k < 13 → parseFieldDescriptor (TX9 k).2.2.1 = some (tyX9 k) := by decide +kernel
abbrev cX9_init : ByteArray := prog_1_method_1_code
def yX9_init : MethodName := ⟨RX9, "<init>", "()V"⟩
abbrev cX9_feed : ByteArray := prog_1_method_2_code
def yX9_feed : MethodName := ⟨RX9, "feed", "(IIIII)I"⟩
abbrev cX9_end : ByteArray := prog_1_method_3_code
def yX9_end : MethodName := ⟨RX9, "end", "(I)I"⟩
abbrev cX9_bench : ByteArray := prog_1_method_4_code
def yX9_bench : MethodName := ⟨RX9, "bench", "()I"⟩
abbrev cX9_fault : ByteArray := prog_1_method_5_code
def yX9_fault : MethodName := ⟨RX9, "fault", "(I)I"⟩
abbrev cX9_seat : ByteArray := prog_1_method_6_code
def yX9_seat : MethodName := ⟨RX9, "seat", "(I)I"⟩
abbrev cX9_caller : ByteArray := prog_1_method_7_code
def yX9_caller : MethodName := ⟨RX9, "caller", "(II)I"⟩
abbrev cX9_age : ByteArray := prog_1_method_8_code
def yX9_age : MethodName := ⟨RX9, "age", "(II)I"⟩
abbrev cX9_sits : ByteArray := prog_1_method_9_code
def yX9_sits : MethodName := ⟨RX9, "sits", "(II)I"⟩
abbrev cX9_stands : ByteArray := prog_1_method_10_code
def yX9_stands : MethodName := ⟨RX9, "stands", "(I)I"⟩
abbrev cX9_free : ByteArray := prog_1_method_11_code
def yX9_free : MethodName := ⟨RX9, "free", "(I)I"⟩
abbrev cX9_goes : ByteArray := prog_1_method_12_code
def yX9_goes : MethodName := ⟨RX9, "goes", "(I)I"⟩
abbrev cX9_called : ByteArray := prog_1_method_13_code
def yX9_called : MethodName := ⟨RX9, "called", "(I)I"⟩
abbrev cX9_ends : ByteArray := prog_1_method_14_code
def yX9_ends : MethodName := ⟨RX9, "ends", "(I)I"⟩
abbrev cX9_told : ByteArray := prog_1_method_15_code
def yX9_told : MethodName := ⟨RX9, "told", "()I"⟩
abbrev cX9_forgotten : ByteArray := prog_1_method_16_code
def yX9_forgotten : MethodName := ⟨RX9, "forgotten", "()I"⟩
abbrev cX9_gun : ByteArray := prog_1_method_17_code
def yX9_gun : MethodName := ⟨RX9, "gun", "()I"⟩
abbrev cX9_waits : ByteArray := prog_1_method_18_code
def yX9_waits : MethodName := ⟨RX9, "waits", "(I)I"⟩
abbrev cX9_worn : ByteArray := prog_1_method_19_code
def yX9_worn : MethodName := ⟨RX9, "worn", "(II)I"⟩
abbrev cX9_dip : ByteArray := prog_1_method_20_code
def yX9_dip : MethodName := ⟨RX9, "dip", "(I)I"⟩
abbrev cX9_deepest : ByteArray := prog_1_method_21_code
def yX9_deepest : MethodName := ⟨RX9, "deepest", "()I"⟩
abbrev cX9_youngest : ByteArray := prog_1_method_22_code
def yX9_youngest : MethodName := ⟨RX9, "youngest", "(I)I"⟩
abbrev cX9_oldest : ByteArray := prog_1_method_23_code
def yX9_oldest : MethodName := ⟨RX9, "oldest", "(I)I"⟩
abbrev cX9_meets : ByteArray := prog_1_method_24_code
def yX9_meets : MethodName := ⟨RX9, "meets", "(II)I"⟩
abbrev cX9_ripe : ByteArray := prog_1_method_25_code
def yX9_ripe : MethodName := ⟨RX9, "ripe", "(I)I"⟩
abbrev cX9_window : ByteArray := prog_1_method_26_code
def yX9_window : MethodName := ⟨RX9, "window", "(I)I"⟩
abbrev cX9_misses : ByteArray := prog_1_method_27_code
def yX9_misses : MethodName := ⟨RX9, "misses", "(I)I"⟩
abbrev cX9_grown : ByteArray := prog_1_method_28_code
def yX9_grown : MethodName := ⟨RX9, "grown", "(I)I"⟩
abbrev cX9_beside : ByteArray := prog_1_method_29_code
def yX9_beside : MethodName := ⟨RX9, "beside", "(II)I"⟩
abbrev cX9_crowd : ByteArray := prog_1_method_30_code
def yX9_crowd : MethodName := ⟨RX9, "crowd", "()I"⟩
abbrev cX9_next : ByteArray := prog_1_method_31_code
def yX9_next : MethodName := ⟨RX9, "next", "(I)I"⟩
abbrev cX9_years : ByteArray := prog_1_method_32_code
def yX9_years : MethodName := ⟨RX9, "years", "(I)I"⟩
abbrev cX9_last : ByteArray := prog_1_method_33_code
def yX9_last : MethodName := ⟨RX9, "last", "()I"⟩
abbrev cX9_twins : ByteArray := prog_1_method_34_code
def yX9_twins : MethodName := ⟨RX9, "twins", "(I)I"⟩
abbrev cX9_opens : ByteArray := prog_1_method_35_code
def yX9_opens : MethodName := ⟨RX9, "opens", "(I)I"⟩
abbrev cX9_without : ByteArray := prog_1_method_36_code
def yX9_without : MethodName := ⟨RX9, "without", "(I)I"⟩
abbrev cX9_helps : ByteArray := prog_1_method_37_code
def yX9_helps : MethodName := ⟨RX9, "helps", "(I)I"⟩
abbrev cX9_less : ByteArray := prog_1_method_38_code
def yX9_less : MethodName := ⟨RX9, "less", "(I)I"⟩
abbrev cX9_tuned : ByteArray := prog_1_method_39_code
def yX9_tuned : MethodName := ⟨RX9, "tuned", "(I)I"⟩
abbrev cX9_moved : ByteArray := prog_1_method_40_code
def yX9_moved : MethodName := ⟨RX9, "moved", "(II)I"⟩
abbrev cX9_suits : ByteArray := prog_1_method_41_code
def yX9_suits : MethodName := ⟨RX9, "suits", "(I)I"⟩
abbrev cX9_hour : ByteArray := prog_1_method_42_code
def yX9_hour : MethodName := ⟨RX9, "hour", "(I)I"⟩
abbrev cX9_youth : ByteArray := prog_1_method_43_code
def yX9_youth : MethodName := ⟨RX9, "youth", "(I)I"⟩
abbrev cX9_best : ByteArray := prog_1_method_44_code
def yX9_best : MethodName := ⟨RX9, "best", "()I"⟩
abbrev cX9_plan : ByteArray := prog_1_method_45_code
def yX9_plan : MethodName := ⟨RX9, "plan", "(I)I"⟩
abbrev cX9_ways : ByteArray := prog_1_method_46_code
def yX9_ways : MethodName := ⟨RX9, "ways", "()I"⟩
abbrev cX9_every : ByteArray := prog_1_method_47_code
def yX9_every : MethodName := ⟨RX9, "every", "()I"⟩
abbrev cX9_calls : ByteArray := prog_1_method_48_code
def yX9_calls : MethodName := ⟨RX9, "calls", "()I"⟩
abbrev cX9_none : ByteArray := prog_1_method_49_code
def yX9_none : MethodName := ⟨RX9, "none", "()I"⟩
abbrev cX9_by : ByteArray := prog_1_method_50_code
def yX9_by : MethodName := ⟨RX9, "by", "(I)I"⟩
abbrev cX9_law : ByteArray := prog_1_method_51_code
def yX9_law : MethodName := ⟨RX9, "law", "()I"⟩
abbrev cX9_laws : ByteArray := prog_1_method_52_code
def yX9_laws : MethodName := ⟨RX9, "laws", "(I)I"⟩
abbrev cX9_sat : ByteArray := prog_1_method_53_code
def yX9_sat : MethodName := ⟨RX9, "sat", "(II)I"⟩
abbrev cX9_ask : ByteArray := prog_1_method_54_code
def yX9_ask : MethodName := ⟨RX9, "ask", "(II)I"⟩
abbrev cX9_marks : ByteArray := prog_1_method_55_code
def yX9_marks : MethodName := ⟨RX9, "marks", "(I)I"⟩
abbrev cX9_mark : ByteArray := prog_1_method_56_code
def yX9_mark : MethodName := ⟨RX9, "mark", "(II)I"⟩
abbrev cX9_under : ByteArray := prog_1_method_57_code
def yX9_under : MethodName := ⟨RX9, "under", "(II)I"⟩
abbrev cX9_rests : ByteArray := prog_1_method_58_code
def yX9_rests : MethodName := ⟨RX9, "rests", "(II)I"⟩
abbrev cX9_rest : ByteArray := prog_1_method_59_code
def yX9_rest : MethodName := ⟨RX9, "rest", "(II)I"⟩
abbrev cX9_swaps : ByteArray := prog_1_method_60_code
def yX9_swaps : MethodName := ⟨RX9, "swaps", "()I"⟩
abbrev cX9_swap : ByteArray := prog_1_method_61_code
def yX9_swap : MethodName := ⟨RX9, "swap", "()I"⟩
abbrev cX9_chance : ByteArray := prog_1_method_62_code
def yX9_chance : MethodName := ⟨RX9, "chance", "(III)J"⟩
abbrev cX9_luckily : ByteArray := prog_1_method_63_code
def yX9_luckily : MethodName := ⟨RX9, "luckily", "(III)J"⟩
abbrev cX9_mean : ByteArray := prog_1_method_64_code
def yX9_mean : MethodName := ⟨RX9, "mean", "(II)J"⟩
abbrev cX9_move : ByteArray := prog_1_method_65_code
def yX9_move : MethodName := ⟨RX9, "move", "(III)I"⟩
abbrev cX9_undo : ByteArray := prog_1_method_66_code
def yX9_undo : MethodName := ⟨RX9, "undo", "()I"⟩
abbrev cX9_anew : ByteArray := prog_1_method_67_code
def yX9_anew : MethodName := ⟨RX9, "anew", "()I"⟩
abbrev cX9_drawn : ByteArray := prog_1_method_68_code
def yX9_drawn : MethodName := ⟨RX9, "drawn", "(II)I"⟩
abbrev cX9_luck : ByteArray := prog_1_method_69_code
def yX9_luck : MethodName := ⟨RX9, "luck", "(III)I"⟩
abbrev cX9_rate : ByteArray := prog_1_method_70_code
def yX9_rate : MethodName := ⟨RX9, "rate", "(I)I"⟩
abbrev cX9_count : ByteArray := prog_1_method_71_code
def yX9_count : MethodName := ⟨RX9, "count", "(I)I"⟩
abbrev cX9_image : ByteArray := prog_1_method_72_code
def yX9_image : MethodName := ⟨RX9, "image", "(I)I"⟩
abbrev cX9_back : ByteArray := prog_1_method_73_code
def yX9_back : MethodName := ⟨RX9, "back", "(I)I"⟩
abbrev cX9_row : ByteArray := prog_1_method_74_code
def yX9_row : MethodName := ⟨RX9, "row", "(III)I"⟩
abbrev cX9_write : ByteArray := prog_1_method_75_code
def yX9_write : MethodName := ⟨RX9, "write", "(IIJ)I"⟩
abbrev cX9_paste : ByteArray := prog_1_method_76_code
def yX9_paste : MethodName := ⟨RX9, "paste", "(IIIII)I"⟩
abbrev cX9_hasBench : ByteArray := prog_1_method_77_code
def yX9_hasBench : MethodName := ⟨RX9, "hasBench", "()Z"⟩
abbrev cX9_isMinute : ByteArray := prog_1_method_78_code
def yX9_isMinute : MethodName := ⟨RX9, "isMinute", "(I)Z"⟩
abbrev cX9_isSeed : ByteArray := prog_1_method_79_code
def yX9_isSeed : MethodName := ⟨RX9, "isSeed", "(I)Z"⟩
abbrev cX9_isChance : ByteArray := prog_1_method_80_code
def yX9_isChance : MethodName := ⟨RX9, "isChance", "(II)Z"⟩
abbrev cX9_arePair : ByteArray := prog_1_method_81_code
def yX9_arePair : MethodName := ⟨RX9, "arePair", "(II)Z"⟩
abbrev cX9_forgetAnswers : ByteArray := prog_1_method_82_code
def yX9_forgetAnswers : MethodName := ⟨RX9, "forgetAnswers", "()V"⟩
abbrev cX9_livedToday : ByteArray := prog_1_method_83_code
def yX9_livedToday : MethodName := ⟨RX9, "livedToday", "()LWearingBench$Diary;"⟩
abbrev cX9_foremost : ByteArray := prog_1_method_84_code
def yX9_foremost : MethodName := ⟨RX9, "foremost", "(LWearingBench$Diary;II)I"⟩
abbrev cX9_wearOf : ByteArray := prog_1_method_85_code
def yX9_wearOf : MethodName := ⟨RX9, "wearOf", "(LWearingBench$Diary;I)I"⟩
abbrev cX9_isRipeAt : ByteArray := prog_1_method_86_code
def yX9_isRipeAt : MethodName := ⟨RX9, "isRipeAt", "(LWearingBench$Diary;II)Z"⟩
abbrev cX9_toldOnTrial : ByteArray := prog_1_method_87_code
def yX9_toldOnTrial : MethodName := ⟨RX9, "toldOnTrial", "()I"⟩
abbrev cX9_isToldOnTrial : ByteArray := prog_1_method_88_code
def yX9_isToldOnTrial : MethodName := ⟨RX9, "isToldOnTrial", "(I)Z"⟩
abbrev cX9_rowAt : ByteArray := prog_1_method_89_code
def yX9_rowAt : MethodName := ⟨RX9, "rowAt", "(I)LWearingBench$Row;"⟩
abbrev cX9_countRows : ByteArray := prog_1_method_90_code
def yX9_countRows : MethodName := ⟨RX9, "countRows", "()I"⟩
abbrev cX9_refusalOfSights : ByteArray := prog_1_method_91_code
def yX9_refusalOfSights : MethodName := ⟨RX9, "refusalOfSights", "(LWearingBench$Row;)I"⟩
abbrev cX9_isAsSeen : ByteArray := prog_1_method_92_code
def yX9_isAsSeen : MethodName := ⟨RX9, "isAsSeen", "(LWearingBench$Row;)Z"⟩
abbrev cX9_seatsAsSeen : ByteArray := prog_1_method_93_code
def yX9_seatsAsSeen : MethodName := ⟨RX9, "seatsAsSeen", "(LWearingBench$Row;I)I"⟩
abbrev cX9_mostAlikeAt : ByteArray := prog_1_method_94_code
def yX9_mostAlikeAt : MethodName := ⟨RX9, "mostAlikeAt", "(II)I"⟩
abbrev cX9_pileUp : ByteArray := prog_1_method_95_code
def yX9_pileUp : MethodName := ⟨RX9, "pileUp", "(I)I"⟩
abbrev cX9_isMendedBySwap : ByteArray := prog_1_method_96_code
def yX9_isMendedBySwap : MethodName := ⟨RX9, "isMendedBySwap", "(III)Z"⟩
abbrev cX9_drawMissed : ByteArray := prog_1_method_97_code
def yX9_drawMissed : MethodName := ⟨RX9, "drawMissed", "(J)J"⟩
def RX10 : String := "WearingBenchModel"
def TX10 : u_T := fun k => match k with
  | 0 => ("WearingBenchModel", "thrown", "I", false)
  | 1 => ("WearingBenchModel", "width", "[I", true)
  | 2 => ("WearingBenchModel", "many", "[I", true)
  | 3 => ("WearingBenchModel", "cells", "[J", true)
  | 4 => ("WearingBenchModel", "moved", "[J", true)
  | 5 => ("WearingBenchModel", "tape", "[B", true)
  | 6 => ("WearingBenchModel", "taped", "I", false)
  | 7 => ("WearingBenchModel", "at", "I", false)
  | 8 => ("WearingBenchModel", "token", "I", false)
  | 9 => ("WearingBenchModel", "place", "I", false)
  | 10 => ("WearingBenchModel", "value", "I", false)
  | 11 => ("WearingBenchModel", "word", "J", false)
  | 12 => ("WearingBenchModel", "bad", "I", false)
  | 13 => ("WearingBenchModel", "badPlace", "I", false)
  | 14 => ("WearingBenchModel", "fault", "I", false)
  | 15 => ("WearingBenchModel", "faultPlace", "I", false)
  | 16 => ("WearingBenchModel", "lines", "[I", true)
  | 17 => ("WearingBenchModel", "has", "[I", true)
  | 18 => ("WearingBenchModel", "seat", "[I", true)
  | 19 => ("WearingBenchModel", "caller", "[I", true)
  | 20 => ("WearingBenchModel", "act", "[I", true)
  | 21 => ("WearingBenchModel", "isKept", "[Z", true)
  | 22 => ("WearingBenchModel", "law", "I", false)
  | 23 => ("WearingBenchModel", "every", "I", false)
  | 24 => ("WearingBenchModel", "away", "I", false)
  | 25 => ("WearingBenchModel", "moreWho", "I", false)
  | 26 => ("WearingBenchModel", "moreSeat", "I", false)
  | 27 => ("WearingBenchModel", "moreMinute", "I", false)
  | 28 => ("WearingBenchModel", "missed", "J", false)
  | 29 => ("WearingBenchModel", "gives", "[I", true)
  | 30 => ("WearingBenchModel", "age0", "[I", true)
  | 31 => ("WearingBenchModel", "comes", "[I", true)
  | 32 => ("WearingBenchModel", "seat0", "[I", true)
  | 33 => ("WearingBenchModel", "ageAt", "[I", true)
  | 34 => ("WearingBenchModel", "seatAt", "[I", true)
  | 35 => ("WearingBenchModel", "goneAt", "[I", true)
  | 36 => ("WearingBenchModel", "goneAge", "[I", true)
  | 37 => ("WearingBenchModel", "hasMoved", "[Z", true)
  | 38 => ("WearingBenchModel", "ageNow", "[I", true)
  | 39 => ("WearingBenchModel", "seatNow", "[I", true)
  | 40 => ("WearingBenchModel", "satNow", "[I", true)
  | 41 => ("WearingBenchModel", "isThere", "[Z", true)
  | 42 => ("WearingBenchModel", "ageThen", "[I", true)
  | 43 => ("WearingBenchModel", "bestMany", "I", false)
  | 44 => ("WearingBenchModel", "bestWays", "I", false)
  | 45 => ("WearingBenchModel", "bestSeat", "[I", true)
  | 46 => ("WearingBenchModel", "everyMost", "I", false)
  | 47 => ("WearingBenchModel", "often", "[I", true)
  | 48 => ("WearingBenchModel", "ahead", "[I", true)
  | 49 => ("WearingBenchModel", "cut", "[I", true)
  | 50 => ("WearingBenchModel", "cutMany", "I", false)
  | 51 => ("WearingBenchModel", "toldBySeats", "[I", true)
  | _ => ("WearingBenchModel", "swapFirst", "I", false)
def tyX10 : Nat → FieldType := fun k => match k with
  | 0 => .int
  | 1 => .array .int
  | 2 => .array .int
  | 3 => .array .long
  | 4 => .array .long
  | 5 => .array .byte
  | 6 => .int
  | 7 => .int
  | 8 => .int
  | 9 => .int
  | 10 => .int
  | 11 => .long
  | 12 => .int
  | 13 => .int
  | 14 => .int
  | 15 => .int
  | 16 => .array .int
  | 17 => .array .int
  | 18 => .array .int
  | 19 => .array .int
  | 20 => .array .int
  | 21 => .array .boolean
  | 22 => .int
  | 23 => .int
  | 24 => .int
  | 25 => .int
  | 26 => .int
  | 27 => .int
  | 28 => .long
  | 29 => .array .int
  | 30 => .array .int
  | 31 => .array .int
  | 32 => .array .int
  | 33 => .array .int
  | 34 => .array .int
  | 35 => .array .int
  | 36 => .array .int
  | 37 => .array .boolean
  | 38 => .array .int
  | 39 => .array .int
  | 40 => .array .int
  | 41 => .array .boolean
  | 42 => .array .int
  | 43 => .int
  | 44 => .int
  | 45 => .array .int
  | 46 => .int
  | 47 => .array .int
  | 48 => .array .int
  | 49 => .array .int
  | 50 => .int
  | 51 => .array .int
  | _ => .int
abbrev wsX100 : List Cond := u_ws RX10 TX10 53
theorem nmX10 : ∀ a, a < 53 → ∀ b, b < 53 → a ≠ b → (TX10 a).2.1 ≠ (TX10 b).2.1 := by decide +kernel
theorem tyX10_ok : ∀ k, k < 53 → parseFieldDescriptor (TX10 k).2.2.1 = some (tyX10 k) := by decide +kernel
abbrev cX10_init : ByteArray := prog_12_method_1_code
def yX10_init : MethodName := ⟨RX10, "<init>", "()V"⟩
abbrev cX10_in : ByteArray := prog_12_method_3_code
def yX10_in : MethodName := ⟨RX10, "in", "(JJJ)Z"⟩
abbrev cX10_isSlot : ByteArray := prog_12_method_4_code
def yX10_isSlot : MethodName := ⟨RX10, "isSlot", "(I)Z"⟩
abbrev cX10_row : ByteArray := prog_12_method_5_code
def yX10_row : MethodName := ⟨RX10, "row", "(III)I"⟩
abbrev cX10_cut : ByteArray := prog_12_method_6_code
def yX10_cut : MethodName := ⟨RX10, "cut", "(JI)J"⟩
abbrev cX10_write : ByteArray := prog_12_method_7_code
def yX10_write : MethodName := ⟨RX10, "write", "(IIJ)I"⟩
abbrev cX10_paste : ByteArray := prog_12_method_8_code
def yX10_paste : MethodName := ⟨RX10, "paste", "(IIIII)I"⟩
abbrev cX10_feed : ByteArray := prog_12_method_9_code
def yX10_feed : MethodName := ⟨RX10, "feed", "(IIIII)I"⟩
abbrev cX10_four : ByteArray := prog_12_method_10_code
def yX10_four : MethodName := ⟨RX10, "four", "(I)V"⟩
abbrev cX10_end : ByteArray := prog_12_method_11_code
def yX10_end : MethodName := ⟨RX10, "end", "(I)I"⟩
abbrev cX10_isByte : ByteArray := prog_12_method_12_code
def yX10_isByte : MethodName := ⟨RX10, "isByte", "(III)Z"⟩
abbrev cX10_next : ByteArray := prog_12_method_13_code
def yX10_next : MethodName := ⟨RX10, "next", "()V"⟩
abbrev cX10_isGood : ByteArray := prog_12_method_14_code
def yX10_isGood : MethodName := ⟨RX10, "isGood", "()Z"⟩
abbrev cX10_fails : ByteArray := prog_12_method_15_code
def yX10_fails : MethodName := ⟨RX10, "fails", "(I)V"⟩
abbrev cX10_is : ByteArray := prog_12_method_16_code
def yX10_is : MethodName := ⟨RX10, "is", "(J)Z"⟩
abbrev cX10_takes : ByteArray := prog_12_method_17_code
def yX10_takes : MethodName := ⟨RX10, "takes", "(J)Z"⟩
abbrev cX10_asks : ByteArray := prog_12_method_18_code
def yX10_asks : MethodName := ⟨RX10, "asks", "(J)V"⟩
abbrev cX10_number : ByteArray := prog_12_method_19_code
def yX10_number : MethodName := ⟨RX10, "number", "(II)I"⟩
abbrev cX10_number_ : ByteArray := prog_12_method_20_code
def yX10_number_ : MethodName := ⟨RX10, "number", "(JII)I"⟩
abbrev cX10_ends : ByteArray := prog_12_method_21_code
def yX10_ends : MethodName := ⟨RX10, "ends", "()V"⟩
abbrev cX10_begins : ByteArray := prog_12_method_22_code
def yX10_begins : MethodName := ⟨RX10, "begins", "()V"⟩
abbrev cX10_isOver : ByteArray := prog_12_method_23_code
def yX10_isOver : MethodName := ⟨RX10, "isOver", "()V"⟩
abbrev cX10_fault : ByteArray := prog_12_method_24_code
def yX10_fault : MethodName := ⟨RX10, "fault", "(I)I"⟩
abbrev cX10_hasRead : ByteArray := prog_12_method_25_code
def yX10_hasRead : MethodName := ⟨RX10, "hasRead", "(I)I"⟩
abbrev cX10_tells : ByteArray := prog_12_method_26_code
def yX10_tells : MethodName := ⟨RX10, "tells", "(II)V"⟩
abbrev cX10_seatLine : ByteArray := prog_12_method_27_code
def yX10_seatLine : MethodName := ⟨RX10, "seatLine", "()V"⟩
abbrev cX10_callerLine : ByteArray := prog_12_method_28_code
def yX10_callerLine : MethodName := ⟨RX10, "callerLine", "()V"⟩
abbrev cX10_isRoom : ByteArray := prog_12_method_29_code
def yX10_isRoom : MethodName := ⟨RX10, "isRoom", "(ZII)Z"⟩
abbrev cX10_lineHere : ByteArray := prog_12_method_30_code
def yX10_lineHere : MethodName := ⟨RX10, "lineHere", "()V"⟩
abbrev cX10_clears : ByteArray := prog_12_method_31_code
def yX10_clears : MethodName := ⟨RX10, "clears", "()V"⟩
abbrev cX10_bench : ByteArray := prog_12_method_32_code
def yX10_bench : MethodName := ⟨RX10, "bench", "()I"⟩
abbrev cX10_copyRow : ByteArray := prog_12_method_33_code
def yX10_copyRow : MethodName := ⟨RX10, "copyRow", "([IIII)V"⟩
abbrev cX10_copyBench : ByteArray := prog_12_method_34_code
def yX10_copyBench : MethodName := ⟨RX10, "copyBench", "(II)V"⟩
abbrev cX10_isBench : ByteArray := prog_12_method_35_code
def yX10_isBench : MethodName := ⟨RX10, "isBench", "()Z"⟩
abbrev cX10_seats : ByteArray := prog_12_method_36_code
def yX10_seats : MethodName := ⟨RX10, "seats", "()I"⟩
abbrev cX10_callers : ByteArray := prog_12_method_37_code
def yX10_callers : MethodName := ⟨RX10, "callers", "()I"⟩
abbrev cX10_isSeat : ByteArray := prog_12_method_38_code
def yX10_isSeat : MethodName := ⟨RX10, "isSeat", "(J)Z"⟩
abbrev cX10_isCaller : ByteArray := prog_12_method_39_code
def yX10_isCaller : MethodName := ⟨RX10, "isCaller", "(J)Z"⟩
abbrev cX10_areTwo : ByteArray := prog_12_method_40_code
def yX10_areTwo : MethodName := ⟨RX10, "areTwo", "(II)Z"⟩
abbrev cX10_isMinute : ByteArray := prog_12_method_41_code
def yX10_isMinute : MethodName := ⟨RX10, "isMinute", "(I)Z"⟩
abbrev cX10_isTime : ByteArray := prog_12_method_42_code
def yX10_isTime : MethodName := ⟨RX10, "isTime", "(I)Z"⟩
abbrev cX10_isLaw : ByteArray := prog_12_method_43_code
def yX10_isLaw : MethodName := ⟨RX10, "isLaw", "(I)Z"⟩
abbrev cX10_isHalf : ByteArray := prog_12_method_44_code
def yX10_isHalf : MethodName := ⟨RX10, "isHalf", "(I)Z"⟩
abbrev cX10_isBit : ByteArray := prog_12_method_45_code
def yX10_isBit : MethodName := ⟨RX10, "isBit", "(II)Z"⟩
abbrev cX10_sizeOf : ByteArray := prog_12_method_46_code
def yX10_sizeOf : MethodName := ⟨RX10, "sizeOf", "(I)I"⟩
abbrev cX10_lays : ByteArray := prog_12_method_47_code
def yX10_lays : MethodName := ⟨RX10, "lays", "()V"⟩
abbrev cX10_isFree : ByteArray := prog_12_method_48_code
def yX10_isFree : MethodName := ⟨RX10, "isFree", "(I)Z"⟩
abbrev cX10_takesSeat : ByteArray := prog_12_method_49_code
def yX10_takesSeat : MethodName := ⟨RX10, "takesSeat", "(II)V"⟩
abbrev cX10_moves : ByteArray := prog_12_method_50_code
def yX10_moves : MethodName := ⟨RX10, "moves", "(II)Z"⟩
abbrev cX10_sitsDown : ByteArray := prog_12_method_51_code
def yX10_sitsDown : MethodName := ⟨RX10, "sitsDown", "(I)V"⟩
abbrev cX10_firstThere : ByteArray := prog_12_method_52_code
def yX10_firstThere : MethodName := ⟨RX10, "firstThere", "()I"⟩
abbrev cX10_isSitting : ByteArray := prog_12_method_53_code
def yX10_isSitting : MethodName := ⟨RX10, "isSitting", "(I)Z"⟩
abbrev cX10_older : ByteArray := prog_12_method_54_code
def yX10_older : MethodName := ⟨RX10, "older", "(I)I"⟩
abbrev cX10_minute : ByteArray := prog_12_method_55_code
def yX10_minute : MethodName := ⟨RX10, "minute", "(I)V"⟩
abbrev cX10_runs : ByteArray := prog_12_method_56_code
def yX10_runs : MethodName := ⟨RX10, "runs", "(I)V"⟩
abbrev cX10_runs_ : ByteArray := prog_12_method_57_code
def yX10_runs_ : MethodName := ⟨RX10, "runs", "()V"⟩
abbrev cX10_laysNow : ByteArray := prog_12_method_58_code
def yX10_laysNow : MethodName := ⟨RX10, "laysNow", "()V"⟩
abbrev cX10_endOf : ByteArray := prog_12_method_59_code
def yX10_endOf : MethodName := ⟨RX10, "endOf", "(I)I"⟩
abbrev cX10_endedSo : ByteArray := prog_12_method_60_code
def yX10_endedSo : MethodName := ⟨RX10, "endedSo", "(I)I"⟩
abbrev cX10_toldNow : ByteArray := prog_12_method_61_code
def yX10_toldNow : MethodName := ⟨RX10, "toldNow", "()I"⟩
abbrev cX10_seat : ByteArray := prog_12_method_62_code
def yX10_seat : MethodName := ⟨RX10, "seat", "(I)I"⟩
abbrev cX10_caller : ByteArray := prog_12_method_63_code
def yX10_caller : MethodName := ⟨RX10, "caller", "(II)I"⟩
abbrev cX10_age : ByteArray := prog_12_method_64_code
def yX10_age : MethodName := ⟨RX10, "age", "(II)I"⟩
abbrev cX10_sits : ByteArray := prog_12_method_65_code
def yX10_sits : MethodName := ⟨RX10, "sits", "(II)I"⟩
abbrev cX10_stands : ByteArray := prog_12_method_66_code
def yX10_stands : MethodName := ⟨RX10, "stands", "(I)I"⟩
abbrev cX10_free : ByteArray := prog_12_method_67_code
def yX10_free : MethodName := ⟨RX10, "free", "(I)I"⟩
abbrev cX10_goes : ByteArray := prog_12_method_68_code
def yX10_goes : MethodName := ⟨RX10, "goes", "(I)I"⟩
abbrev cX10_called : ByteArray := prog_12_method_69_code
def yX10_called : MethodName := ⟨RX10, "called", "(I)I"⟩
abbrev cX10_ends_ : ByteArray := prog_12_method_70_code
def yX10_ends_ : MethodName := ⟨RX10, "ends", "(I)I"⟩
abbrev cX10_told : ByteArray := prog_12_method_71_code
def yX10_told : MethodName := ⟨RX10, "told", "()I"⟩
abbrev cX10_forgotten : ByteArray := prog_12_method_72_code
def yX10_forgotten : MethodName := ⟨RX10, "forgotten", "()I"⟩
abbrev cX10_gun : ByteArray := prog_12_method_73_code
def yX10_gun : MethodName := ⟨RX10, "gun", "()I"⟩
abbrev cX10_waits : ByteArray := prog_12_method_74_code
def yX10_waits : MethodName := ⟨RX10, "waits", "(I)I"⟩
abbrev cX10_worn : ByteArray := prog_12_method_75_code
def yX10_worn : MethodName := ⟨RX10, "worn", "(II)I"⟩
abbrev cX10_dipOf : ByteArray := prog_12_method_76_code
def yX10_dipOf : MethodName := ⟨RX10, "dipOf", "(I)I"⟩
abbrev cX10_dip : ByteArray := prog_12_method_77_code
def yX10_dip : MethodName := ⟨RX10, "dip", "(I)I"⟩
abbrev cX10_deepest : ByteArray := prog_12_method_78_code
def yX10_deepest : MethodName := ⟨RX10, "deepest", "()I"⟩
abbrev cX10_byAge : ByteArray := prog_12_method_79_code
def yX10_byAge : MethodName := ⟨RX10, "byAge", "(II)I"⟩
abbrev cX10_youngest : ByteArray := prog_12_method_80_code
def yX10_youngest : MethodName := ⟨RX10, "youngest", "(I)I"⟩
abbrev cX10_oldest : ByteArray := prog_12_method_81_code
def yX10_oldest : MethodName := ⟨RX10, "oldest", "(I)I"⟩
abbrev cX10_meets : ByteArray := prog_12_method_82_code
def yX10_meets : MethodName := ⟨RX10, "meets", "(II)I"⟩
abbrev cX10_isRipe : ByteArray := prog_12_method_83_code
def yX10_isRipe : MethodName := ⟨RX10, "isRipe", "(II)Z"⟩
abbrev cX10_ripe : ByteArray := prog_12_method_84_code
def yX10_ripe : MethodName := ⟨RX10, "ripe", "(I)I"⟩
abbrev cX10_window : ByteArray := prog_12_method_85_code
def yX10_window : MethodName := ⟨RX10, "window", "(I)I"⟩
abbrev cX10_misses : ByteArray := prog_12_method_86_code
def yX10_misses : MethodName := ⟨RX10, "misses", "(I)I"⟩
abbrev cX10_grown : ByteArray := prog_12_method_87_code
def yX10_grown : MethodName := ⟨RX10, "grown", "(I)I"⟩
abbrev cX10_beside : ByteArray := prog_12_method_88_code
def yX10_beside : MethodName := ⟨RX10, "beside", "(II)I"⟩
abbrev cX10_thereAt : ByteArray := prog_12_method_89_code
def yX10_thereAt : MethodName := ⟨RX10, "thereAt", "(I)I"⟩
abbrev cX10_crowd : ByteArray := prog_12_method_90_code
def yX10_crowd : MethodName := ⟨RX10, "crowd", "()I"⟩
abbrev cX10_next_ : ByteArray := prog_12_method_91_code
def yX10_next_ : MethodName := ⟨RX10, "next", "(I)I"⟩
abbrev cX10_years : ByteArray := prog_12_method_92_code
def yX10_years : MethodName := ⟨RX10, "years", "(I)I"⟩
abbrev cX10_last : ByteArray := prog_12_method_93_code
def yX10_last : MethodName := ⟨RX10, "last", "()I"⟩
abbrev cX10_twins : ByteArray := prog_12_method_94_code
def yX10_twins : MethodName := ⟨RX10, "twins", "(I)I"⟩
abbrev cX10_opens : ByteArray := prog_12_method_95_code
def yX10_opens : MethodName := ⟨RX10, "opens", "(I)I"⟩
abbrev cX10_toldWithout : ByteArray := prog_12_method_96_code
def yX10_toldWithout : MethodName := ⟨RX10, "toldWithout", "(I)I"⟩
abbrev cX10_without : ByteArray := prog_12_method_97_code
def yX10_without : MethodName := ⟨RX10, "without", "(I)I"⟩
abbrev cX10_helps : ByteArray := prog_12_method_98_code
def yX10_helps : MethodName := ⟨RX10, "helps", "(I)I"⟩
abbrev cX10_toldGiving : ByteArray := prog_12_method_99_code
def yX10_toldGiving : MethodName := ⟨RX10, "toldGiving", "(II)I"⟩
abbrev cX10_less : ByteArray := prog_12_method_100_code
def yX10_less : MethodName := ⟨RX10, "less", "(I)I"⟩
abbrev cX10_tuned : ByteArray := prog_12_method_101_code
def yX10_tuned : MethodName := ⟨RX10, "tuned", "(I)I"⟩
abbrev cX10_moved : ByteArray := prog_12_method_102_code
def yX10_moved : MethodName := ⟨RX10, "moved", "(II)I"⟩
abbrev cX10_suits : ByteArray := prog_12_method_103_code
def yX10_suits : MethodName := ⟨RX10, "suits", "(I)I"⟩
abbrev cX10_hour : ByteArray := prog_12_method_104_code
def yX10_hour : MethodName := ⟨RX10, "hour", "(I)I"⟩
abbrev cX10_youth : ByteArray := prog_12_method_105_code
def yX10_youth : MethodName := ⟨RX10, "youth", "(I)I"⟩
abbrev cX10_seatsFrom : ByteArray := prog_12_method_106_code
def yX10_seatsFrom : MethodName := ⟨RX10, "seatsFrom", "(I)V"⟩
abbrev cX10_laysBest : ByteArray := prog_12_method_107_code
def yX10_laysBest : MethodName := ⟨RX10, "laysBest", "()V"⟩
abbrev cX10_best : ByteArray := prog_12_method_108_code
def yX10_best : MethodName := ⟨RX10, "best", "()I"⟩
abbrev cX10_plan : ByteArray := prog_12_method_109_code
def yX10_plan : MethodName := ⟨RX10, "plan", "(I)I"⟩
abbrev cX10_ways : ByteArray := prog_12_method_110_code
def yX10_ways : MethodName := ⟨RX10, "ways", "()I"⟩
abbrev cX10_everyOf : ByteArray := prog_12_method_111_code
def yX10_everyOf : MethodName := ⟨RX10, "everyOf", "()I"⟩
abbrev cX10_every : ByteArray := prog_12_method_112_code
def yX10_every : MethodName := ⟨RX10, "every", "()I"⟩
abbrev cX10_calls : ByteArray := prog_12_method_113_code
def yX10_calls : MethodName := ⟨RX10, "calls", "()I"⟩
abbrev cX10_none : ByteArray := prog_12_method_114_code
def yX10_none : MethodName := ⟨RX10, "none", "()I"⟩
abbrev cX10_toldBy : ByteArray := prog_12_method_115_code
def yX10_toldBy : MethodName := ⟨RX10, "toldBy", "(I)I"⟩
abbrev cX10_by : ByteArray := prog_12_method_116_code
def yX10_by : MethodName := ⟨RX10, "by", "(I)I"⟩
abbrev cX10_law : ByteArray := prog_12_method_117_code
def yX10_law : MethodName := ⟨RX10, "law", "()I"⟩
abbrev cX10_whyNotSeen : ByteArray := prog_12_method_118_code
def yX10_whyNotSeen : MethodName := ⟨RX10, "whyNotSeen", "(I)I"⟩
abbrev cX10_isSeen : ByteArray := prog_12_method_119_code
def yX10_isSeen : MethodName := ⟨RX10, "isSeen", "(I)Z"⟩
abbrev cX10_laws : ByteArray := prog_12_method_120_code
def yX10_laws : MethodName := ⟨RX10, "laws", "(I)I"⟩
abbrev cX10_satOf : ByteArray := prog_12_method_121_code
def yX10_satOf : MethodName := ⟨RX10, "satOf", "(II)I"⟩
abbrev cX10_whyNotSat : ByteArray := prog_12_method_122_code
def yX10_whyNotSat : MethodName := ⟨RX10, "whyNotSat", "(II)I"⟩
abbrev cX10_sat : ByteArray := prog_12_method_123_code
def yX10_sat : MethodName := ⟨RX10, "sat", "(II)I"⟩
abbrev cX10_ask : ByteArray := prog_12_method_124_code
def yX10_ask : MethodName := ⟨RX10, "ask", "(II)I"⟩
abbrev cX10_whyNotMarks : ByteArray := prog_12_method_125_code
def yX10_whyNotMarks : MethodName := ⟨RX10, "whyNotMarks", "(I)I"⟩
abbrev cX10_laysMarks : ByteArray := prog_12_method_126_code
def yX10_laysMarks : MethodName := ⟨RX10, "laysMarks", "(I)V"⟩
abbrev cX10_marks : ByteArray := prog_12_method_127_code
def yX10_marks : MethodName := ⟨RX10, "marks", "(I)I"⟩
abbrev cX10_mark : ByteArray := prog_12_method_128_code
def yX10_mark : MethodName := ⟨RX10, "mark", "(II)I"⟩
abbrev cX10_under : ByteArray := prog_12_method_129_code
def yX10_under : MethodName := ⟨RX10, "under", "(II)I"⟩
abbrev cX10_laysGame : ByteArray := prog_12_method_130_code
def yX10_laysGame : MethodName := ⟨RX10, "laysGame", "(II)V"⟩
abbrev cX10_isRest : ByteArray := prog_12_method_131_code
def yX10_isRest : MethodName := ⟨RX10, "isRest", "(II)Z"⟩
abbrev cX10_rests : ByteArray := prog_12_method_132_code
def yX10_rests : MethodName := ⟨RX10, "rests", "(II)I"⟩
abbrev cX10_rest : ByteArray := prog_12_method_133_code
def yX10_rest : MethodName := ⟨RX10, "rest", "(II)I"⟩
abbrev cX10_swapsOf : ByteArray := prog_12_method_134_code
def yX10_swapsOf : MethodName := ⟨RX10, "swapsOf", "()I"⟩
abbrev cX10_swaps : ByteArray := prog_12_method_135_code
def yX10_swaps : MethodName := ⟨RX10, "swaps", "()I"⟩
abbrev cX10_swap : ByteArray := prog_12_method_136_code
def yX10_swap : MethodName := ⟨RX10, "swap", "()I"⟩
abbrev cX10_common : ByteArray := prog_12_method_137_code
def yX10_common : MethodName := ⟨RX10, "common", "(JJ)J"⟩
abbrev cX10_part : ByteArray := prog_12_method_138_code
def yX10_part : MethodName := ⟨RX10, "part", "(JJI)J"⟩
abbrev cX10_tens : ByteArray := prog_12_method_139_code
def yX10_tens : MethodName := ⟨RX10, "tens", "(I)J"⟩
abbrev cX10_weightOf : ByteArray := prog_12_method_140_code
def yX10_weightOf : MethodName := ⟨RX10, "weightOf", "(III)J"⟩
abbrev cX10_isChance : ByteArray := prog_12_method_141_code
def yX10_isChance : MethodName := ⟨RX10, "isChance", "(III)Z"⟩
abbrev cX10_chance : ByteArray := prog_12_method_142_code
def yX10_chance : MethodName := ⟨RX10, "chance", "(III)J"⟩
abbrev cX10_luckily : ByteArray := prog_12_method_143_code
def yX10_luckily : MethodName := ⟨RX10, "luckily", "(III)J"⟩
abbrev cX10_mean : ByteArray := prog_12_method_144_code
def yX10_mean : MethodName := ⟨RX10, "mean", "(II)J"⟩
abbrev cX10_draws : ByteArray := prog_12_method_145_code
def yX10_draws : MethodName := ⟨RX10, "draws", "(J)I"⟩
abbrev cX10_isSeed : ByteArray := prog_12_method_146_code
def yX10_isSeed : MethodName := ⟨RX10, "isSeed", "(I)Z"⟩
abbrev cX10_drawn : ByteArray := prog_12_method_147_code
def yX10_drawn : MethodName := ⟨RX10, "drawn", "(II)I"⟩
abbrev cX10_luck : ByteArray := prog_12_method_148_code
def yX10_luck : MethodName := ⟨RX10, "luck", "(III)I"⟩
abbrev cX10_move : ByteArray := prog_12_method_149_code
def yX10_move : MethodName := ⟨RX10, "move", "(III)I"⟩
abbrev cX10_undo : ByteArray := prog_12_method_150_code
def yX10_undo : MethodName := ⟨RX10, "undo", "()I"⟩
abbrev cX10_anew : ByteArray := prog_12_method_151_code
def yX10_anew : MethodName := ⟨RX10, "anew", "()I"⟩
abbrev cX10_rate : ByteArray := prog_12_method_152_code
def yX10_rate : MethodName := ⟨RX10, "rate", "(I)I"⟩
abbrev cX10_count : ByteArray := prog_12_method_153_code
def yX10_count : MethodName := ⟨RX10, "count", "(I)I"⟩
abbrev cX10_image : ByteArray := prog_12_method_154_code
def yX10_image : MethodName := ⟨RX10, "image", "(I)I"⟩
abbrev cX10_back : ByteArray := prog_12_method_155_code
def yX10_back : MethodName := ⟨RX10, "back", "(I)I"⟩
def RJx145de : String := "java/io/Serializable"
def RJx9f9b0 : String := "java/lang/CharSequence"
def RJxb160c : String := "java/lang/Comparable"
def RJ6 : String := "java/lang/Integer"
abbrev cJ6_bitCount_0f7a4 : ByteArray := prog_13_method_49_code
def yJ6_bitCount_0f7a4 : MethodName := ⟨RJ6, "bitCount", "(I)I"⟩
def RJ13 : String := "java/lang/Long"
abbrev cJ13_bitCount_95d88 : ByteArray := prog_14_method_50_code
def yJ13_bitCount_95d88 : MethodName := ⟨RJ13, "bitCount", "(J)I"⟩
def RJ9 : String := "java/lang/Math"
abbrev cJ9_abs_0f7a4 : ByteArray := prog_15_method_59_code
def yJ9_abs_0f7a4 : MethodName := ⟨RJ9, "abs", "(I)I"⟩
abbrev cJ9_max_7cf53 : ByteArray := prog_15_method_65_code
def yJ9_max_7cf53 : MethodName := ⟨RJ9, "max", "(II)I"⟩
abbrev cJ9_min_7cf53 : ByteArray := prog_15_method_69_code
def yJ9_min_7cf53 : MethodName := ⟨RJ9, "min", "(II)I"⟩
def RJ0 : String := "java/lang/String"
abbrev cJ0_length_8abf5 : ByteArray := prog_16_method_54_code
def yJ0_length_8abf5 : MethodName := ⟨RJ0, "length", "()I"⟩
abbrev cJ0_charAt_5068e : ByteArray := prog_16_method_56_code
def yJ0_charAt_5068e : MethodName := ⟨RJ0, "charAt", "(I)C"⟩
abbrev cJ0_coder_7d493 : ByteArray := prog_16_method_152_code
def yJ0_coder_7d493 : MethodName := ⟨RJ0, "coder", "()B"⟩
abbrev cJ0_isLatin1_aae02 : ByteArray := prog_16_method_154_code
def yJ0_isLatin1_aae02 : MethodName := ⟨RJ0, "isLatin1", "()Z"⟩
abbrev cJ0_checkIndex_df160 : ByteArray := prog_16_method_155_code
def yJ0_checkIndex_df160 : MethodName := ⟨RJ0, "checkIndex", "(II)V"⟩
def RJ1 : String := "java/lang/StringLatin1"
abbrev cJ1_charAt_3b067 : ByteArray := prog_17_method_2_code
def yJ1_charAt_3b067 : MethodName := ⟨RJ1, "charAt", "([BI)C"⟩
def RJ2 : String := "java/lang/StringUTF16"
abbrev cJ2_getChar_3b067 : ByteArray := prog_18_method_5_code
def yJ2_getChar_3b067 : MethodName := ⟨RJ2, "getChar", "([BI)C"⟩
abbrev cJ2_length_9d52b : ByteArray := prog_18_method_6_code
def yJ2_length_9d52b : MethodName := ⟨RJ2, "length", "([B)I"⟩
abbrev cJ2_charAt_3b067 : ByteArray := prog_18_method_83_code
def yJ2_charAt_3b067 : MethodName := ⟨RJ2, "charAt", "([BI)C"⟩
abbrev cJ2_checkIndex_2214a : ByteArray := prog_18_method_91_code
def yJ2_checkIndex_2214a : MethodName := ⟨RJ2, "checkIndex", "(I[B)V"⟩
def RJxfd54e : String := "java/lang/constant/Constable"
def RJx3cf43 : String := "java/lang/constant/ConstantDesc"
def RJ7 : String := "java/util/Arrays"
abbrev cJ7_fill_d0a16 : ByteArray := prog_19_method_101_code
def yJ7_fill_d0a16 : MethodName := ⟨RJ7, "fill", "([JJ)V"⟩
abbrev cJ7_fill_53178 : ByteArray := prog_19_method_103_code
def yJ7_fill_53178 : MethodName := ⟨RJ7, "fill", "([II)V"⟩
def RJ3 : String := "jdk/internal/util/Preconditions"
abbrev cJ3_checkIndex_8e157 : ByteArray := prog_20_method_11_code
def yJ3_checkIndex_8e157 : MethodName := ⟨RJ3, "checkIndex", "(IILjava/util/function/BiFunction;)I"⟩
