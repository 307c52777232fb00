section
-- ===== PART A: goes FIRST, ahead of the names: the tables' words, and 'selects' of the private methods out of them =====
/-- a private method of a class that the tables say can be made, by its rows of tables_1 -/
def lw_okq (q : MethodName × Nat) : Prop := (q.1.cls ≠ "java/lang/invoke/MethodHandle" ∧ q.1.cls ≠ "java/lang/invoke/VarHandle") ∧ Cond.instantiable q.1.cls q.2 ∈ tables_1 ∧ Cond.privateMethod q.1 ∈ tables_1 ∧ Cond.instanceMethod q.1 ∈ tables_1
theorem lw_p0 : lw_okq (⟨"WagerQuiz", "doAddPlayer", "()I"⟩, 8) := ⟨⟨by decide +kernel, by decide +kernel⟩, List.mem_of_getElem? (i := 22) (by decide +kernel), List.mem_of_getElem? (i := 335) (by decide +kernel), List.mem_of_getElem? (i := 336) (by decide +kernel)⟩
theorem lw_p1 : lw_okq (⟨"WagerQuiz", "isBeforeFirstPick", "()Z"⟩, 8) := ⟨⟨by decide +kernel, by decide +kernel⟩, List.mem_of_getElem? (i := 22) (by decide +kernel), List.mem_of_getElem? (i := 339) (by decide +kernel), List.mem_of_getElem? (i := 340) (by decide +kernel)⟩
theorem lw_p2 : lw_okq (⟨"WagerQuiz", "refused", "(I)I"⟩, 8) := ⟨⟨by decide +kernel, by decide +kernel⟩, List.mem_of_getElem? (i := 22) (by decide +kernel), List.mem_of_getElem? (i := 343) (by decide +kernel), List.mem_of_getElem? (i := 344) (by decide +kernel)⟩
theorem lw_p3 : lw_okq (⟨"WagerQuiz", "recorded", "(I)I"⟩, 8) := ⟨⟨by decide +kernel, by decide +kernel⟩, List.mem_of_getElem? (i := 22) (by decide +kernel), List.mem_of_getElem? (i := 349) (by decide +kernel), List.mem_of_getElem? (i := 350) (by decide +kernel)⟩
theorem lw_p4 : lw_okq (⟨"WagerQuiz", "doSetWagerClue", "(IZ)I"⟩, 8) := ⟨⟨by decide +kernel, by decide +kernel⟩, List.mem_of_getElem? (i := 22) (by decide +kernel), List.mem_of_getElem? (i := 367) (by decide +kernel), List.mem_of_getElem? (i := 368) (by decide +kernel)⟩
theorem lw_p5 : lw_okq (⟨"WagerQuiz", "doSet", "(II)I"⟩, 8) := ⟨⟨by decide +kernel, by decide +kernel⟩, List.mem_of_getElem? (i := 22) (by decide +kernel), List.mem_of_getElem? (i := 387) (by decide +kernel), List.mem_of_getElem? (i := 388) (by decide +kernel)⟩
theorem lw_p6 : lw_okq (⟨"WagerQuiz", "doPick", "(II)I"⟩, 8) := ⟨⟨by decide +kernel, by decide +kernel⟩, List.mem_of_getElem? (i := 22) (by decide +kernel), List.mem_of_getElem? (i := 396) (by decide +kernel), List.mem_of_getElem? (i := 397) (by decide +kernel)⟩
theorem lw_p7 : lw_okq (⟨"WagerQuiz", "isPlayer", "(I)Z"⟩, 8) := ⟨⟨by decide +kernel, by decide +kernel⟩, List.mem_of_getElem? (i := 22) (by decide +kernel), List.mem_of_getElem? (i := 400) (by decide +kernel), List.mem_of_getElem? (i := 401) (by decide +kernel)⟩
theorem lw_p8 : lw_okq (⟨"WagerQuiz", "controller", "()I"⟩, 8) := ⟨⟨by decide +kernel, by decide +kernel⟩, List.mem_of_getElem? (i := 22) (by decide +kernel), List.mem_of_getElem? (i := 404) (by decide +kernel), List.mem_of_getElem? (i := 405) (by decide +kernel)⟩
theorem lw_p9 : lw_okq (⟨"WagerQuiz", "doBuzz", "(II)I"⟩, 8) := ⟨⟨by decide +kernel, by decide +kernel⟩, List.mem_of_getElem? (i := 22) (by decide +kernel), List.mem_of_getElem? (i := 420) (by decide +kernel), List.mem_of_getElem? (i := 421) (by decide +kernel)⟩
theorem lw_p10 : lw_okq (⟨"WagerQuiz$PickedClue", "leastCountingTick", "(I)I"⟩, 8) := ⟨⟨by decide +kernel, by decide +kernel⟩, List.mem_of_getElem? (i := 36) (by decide +kernel), List.mem_of_getElem? (i := 432) (by decide +kernel), List.mem_of_getElem? (i := 433) (by decide +kernel)⟩
theorem lw_p11 : lw_okq (⟨"WagerQuiz$PickedClue", "endOfLock", "(I)I"⟩, 8) := ⟨⟨by decide +kernel, by decide +kernel⟩, List.mem_of_getElem? (i := 36) (by decide +kernel), List.mem_of_getElem? (i := 436) (by decide +kernel), List.mem_of_getElem? (i := 437) (by decide +kernel)⟩
theorem lw_p12 : lw_okq (⟨"WagerQuiz", "queueLength", "()I"⟩, 8) := ⟨⟨by decide +kernel, by decide +kernel⟩, List.mem_of_getElem? (i := 22) (by decide +kernel), List.mem_of_getElem? (i := 444) (by decide +kernel), List.mem_of_getElem? (i := 445) (by decide +kernel)⟩
theorem lw_p13 : lw_okq (⟨"WagerQuiz", "isQueued", "(I)Z"⟩, 8) := ⟨⟨by decide +kernel, by decide +kernel⟩, List.mem_of_getElem? (i := 22) (by decide +kernel), List.mem_of_getElem? (i := 448) (by decide +kernel), List.mem_of_getElem? (i := 449) (by decide +kernel)⟩
theorem lw_p14 : lw_okq (⟨"WagerQuiz", "doAnswer", "(Z)I"⟩, 8) := ⟨⟨by decide +kernel, by decide +kernel⟩, List.mem_of_getElem? (i := 22) (by decide +kernel), List.mem_of_getElem? (i := 456) (by decide +kernel), List.mem_of_getElem? (i := 457) (by decide +kernel)⟩
theorem lw_p15 : lw_okq (⟨"WagerQuiz", "answerOpenClue", "(Z)I"⟩, 8) := ⟨⟨by decide +kernel, by decide +kernel⟩, List.mem_of_getElem? (i := 22) (by decide +kernel), List.mem_of_getElem? (i := 460) (by decide +kernel), List.mem_of_getElem? (i := 461) (by decide +kernel)⟩
def lw_privs_1 : List (MethodName × Nat) := [(⟨"WagerQuiz", "doAddPlayer", "()I"⟩, 8), (⟨"WagerQuiz", "isBeforeFirstPick", "()Z"⟩, 8), (⟨"WagerQuiz", "refused", "(I)I"⟩, 8), (⟨"WagerQuiz", "recorded", "(I)I"⟩, 8), (⟨"WagerQuiz", "doSetWagerClue", "(IZ)I"⟩, 8), (⟨"WagerQuiz", "doSet", "(II)I"⟩, 8), (⟨"WagerQuiz", "doPick", "(II)I"⟩, 8), (⟨"WagerQuiz", "isPlayer", "(I)Z"⟩, 8), (⟨"WagerQuiz", "controller", "()I"⟩, 8), (⟨"WagerQuiz", "doBuzz", "(II)I"⟩, 8), (⟨"WagerQuiz$PickedClue", "leastCountingTick", "(I)I"⟩, 8), (⟨"WagerQuiz$PickedClue", "endOfLock", "(I)I"⟩, 8), (⟨"WagerQuiz", "queueLength", "()I"⟩, 8), (⟨"WagerQuiz", "isQueued", "(I)Z"⟩, 8), (⟨"WagerQuiz", "doAnswer", "(Z)I"⟩, 8), (⟨"WagerQuiz", "answerOpenClue", "(Z)I"⟩, 8)]
theorem lw_r1 : ∀ q ∈ lw_privs_1, lw_okq q := List.forall_mem_cons.mpr ⟨lw_p0, List.forall_mem_cons.mpr ⟨lw_p1, List.forall_mem_cons.mpr ⟨lw_p2, List.forall_mem_cons.mpr ⟨lw_p3, List.forall_mem_cons.mpr ⟨lw_p4, List.forall_mem_cons.mpr ⟨lw_p5, List.forall_mem_cons.mpr ⟨lw_p6, List.forall_mem_cons.mpr ⟨lw_p7, List.forall_mem_cons.mpr ⟨lw_p8, List.forall_mem_cons.mpr ⟨lw_p9, List.forall_mem_cons.mpr ⟨lw_p10, List.forall_mem_cons.mpr ⟨lw_p11, List.forall_mem_cons.mpr ⟨lw_p12, List.forall_mem_cons.mpr ⟨lw_p13, List.forall_mem_cons.mpr ⟨lw_p14, List.forall_mem_cons.mpr ⟨lw_p15, fun _ h => absurd h List.not_mem_nil⟩⟩⟩⟩⟩⟩⟩⟩⟩⟩⟩⟩⟩⟩⟩⟩
theorem lw_p16 : lw_okq (⟨"WagerQuiz", "playerInQueue", "(I)I"⟩, 8) := ⟨⟨by decide +kernel, by decide +kernel⟩, List.mem_of_getElem? (i := 22) (by decide +kernel), List.mem_of_getElem? (i := 464) (by decide +kernel), List.mem_of_getElem? (i := 465) (by decide +kernel)⟩
theorem lw_p17 : lw_okq (⟨"WagerQuiz", "queuePlaceOf", "(I)I"⟩, 8) := ⟨⟨by decide +kernel, by decide +kernel⟩, List.mem_of_getElem? (i := 22) (by decide +kernel), List.mem_of_getElem? (i := 468) (by decide +kernel), List.mem_of_getElem? (i := 469) (by decide +kernel)⟩
theorem lw_p18 : lw_okq (⟨"WagerQuiz", "isQueuedAhead", "(II)Z"⟩, 8) := ⟨⟨by decide +kernel, by decide +kernel⟩, List.mem_of_getElem? (i := 22) (by decide +kernel), List.mem_of_getElem? (i := 472) (by decide +kernel), List.mem_of_getElem? (i := 473) (by decide +kernel)⟩
theorem lw_p19 : lw_okq (⟨"WagerQuiz", "replayedScore", "(I)I"⟩, 8) := ⟨⟨by decide +kernel, by decide +kernel⟩, List.mem_of_getElem? (i := 22) (by decide +kernel), List.mem_of_getElem? (i := 485) (by decide +kernel), List.mem_of_getElem? (i := 486) (by decide +kernel)⟩
theorem lw_p20 : lw_okq (⟨"WagerQuiz$Replay", "replayEntry", "(LWagerQuiz$Log;I)V"⟩, 10) := ⟨⟨by decide +kernel, by decide +kernel⟩, List.mem_of_getElem? (i := 163) (by decide +kernel), List.mem_of_getElem? (i := 493) (by decide +kernel), List.mem_of_getElem? (i := 494) (by decide +kernel)⟩
theorem lw_p21 : lw_okq (⟨"WagerQuiz$Replay", "solverOf", "(I)I"⟩, 10) := ⟨⟨by decide +kernel, by decide +kernel⟩, List.mem_of_getElem? (i := 163) (by decide +kernel), List.mem_of_getElem? (i := 497) (by decide +kernel), List.mem_of_getElem? (i := 498) (by decide +kernel)⟩
theorem lw_p22 : lw_okq (⟨"WagerQuiz$Replay", "noteRight", "(II)V"⟩, 10) := ⟨⟨by decide +kernel, by decide +kernel⟩, List.mem_of_getElem? (i := 163) (by decide +kernel), List.mem_of_getElem? (i := 509) (by decide +kernel), List.mem_of_getElem? (i := 510) (by decide +kernel)⟩
theorem lw_p23 : lw_okq (⟨"WagerQuiz", "answerWagerClue", "(Z)I"⟩, 8) := ⟨⟨by decide +kernel, by decide +kernel⟩, List.mem_of_getElem? (i := 22) (by decide +kernel), List.mem_of_getElem? (i := 513) (by decide +kernel), List.mem_of_getElem? (i := 514) (by decide +kernel)⟩
theorem lw_p24 : lw_okq (⟨"WagerQuiz", "answerFinal", "(Z)I"⟩, 8) := ⟨⟨by decide +kernel, by decide +kernel⟩, List.mem_of_getElem? (i := 22) (by decide +kernel), List.mem_of_getElem? (i := 517) (by decide +kernel), List.mem_of_getElem? (i := 518) (by decide +kernel)⟩
theorem lw_p25 : lw_okq (⟨"WagerQuiz$FinalRound", "turnOf", "(I)I"⟩, 3) := ⟨⟨by decide +kernel, by decide +kernel⟩, List.mem_of_getElem? (i := 73) (by decide +kernel), List.mem_of_getElem? (i := 525) (by decide +kernel), List.mem_of_getElem? (i := 526) (by decide +kernel)⟩
theorem lw_p26 : lw_okq (⟨"WagerQuiz$FinalRound", "isEarlier", "(II)Z"⟩, 3) := ⟨⟨by decide +kernel, by decide +kernel⟩, List.mem_of_getElem? (i := 73) (by decide +kernel), List.mem_of_getElem? (i := 529) (by decide +kernel), List.mem_of_getElem? (i := 530) (by decide +kernel)⟩
theorem lw_p27 : lw_okq (⟨"WagerQuiz", "doClose", "()I"⟩, 8) := ⟨⟨by decide +kernel, by decide +kernel⟩, List.mem_of_getElem? (i := 22) (by decide +kernel), List.mem_of_getElem? (i := 541) (by decide +kernel), List.mem_of_getElem? (i := 542) (by decide +kernel)⟩
theorem lw_p28 : lw_okq (⟨"WagerQuiz", "doWager", "(I)I"⟩, 8) := ⟨⟨by decide +kernel, by decide +kernel⟩, List.mem_of_getElem? (i := 22) (by decide +kernel), List.mem_of_getElem? (i := 549) (by decide +kernel), List.mem_of_getElem? (i := 550) (by decide +kernel)⟩
theorem lw_p29 : lw_okq (⟨"WagerQuiz", "doBeginFinal", "()I"⟩, 8) := ⟨⟨by decide +kernel, by decide +kernel⟩, List.mem_of_getElem? (i := 22) (by decide +kernel), List.mem_of_getElem? (i := 559) (by decide +kernel), List.mem_of_getElem? (i := 560) (by decide +kernel)⟩
theorem lw_p30 : lw_okq (⟨"WagerQuiz", "doWagerFinal", "(II)I"⟩, 8) := ⟨⟨by decide +kernel, by decide +kernel⟩, List.mem_of_getElem? (i := 22) (by decide +kernel), List.mem_of_getElem? (i := 572) (by decide +kernel), List.mem_of_getElem? (i := 573) (by decide +kernel)⟩
theorem lw_p31 : lw_okq (⟨"WagerQuiz", "doCorrect", "(II)I"⟩, 8) := ⟨⟨by decide +kernel, by decide +kernel⟩, List.mem_of_getElem? (i := 22) (by decide +kernel), List.mem_of_getElem? (i := 596) (by decide +kernel), List.mem_of_getElem? (i := 597) (by decide +kernel)⟩
def lw_privs_2 : List (MethodName × Nat) := [(⟨"WagerQuiz", "playerInQueue", "(I)I"⟩, 8), (⟨"WagerQuiz", "queuePlaceOf", "(I)I"⟩, 8), (⟨"WagerQuiz", "isQueuedAhead", "(II)Z"⟩, 8), (⟨"WagerQuiz", "replayedScore", "(I)I"⟩, 8), (⟨"WagerQuiz$Replay", "replayEntry", "(LWagerQuiz$Log;I)V"⟩, 10), (⟨"WagerQuiz$Replay", "solverOf", "(I)I"⟩, 10), (⟨"WagerQuiz$Replay", "noteRight", "(II)V"⟩, 10), (⟨"WagerQuiz", "answerWagerClue", "(Z)I"⟩, 8), (⟨"WagerQuiz", "answerFinal", "(Z)I"⟩, 8), (⟨"WagerQuiz$FinalRound", "turnOf", "(I)I"⟩, 3), (⟨"WagerQuiz$FinalRound", "isEarlier", "(II)Z"⟩, 3), (⟨"WagerQuiz", "doClose", "()I"⟩, 8), (⟨"WagerQuiz", "doWager", "(I)I"⟩, 8), (⟨"WagerQuiz", "doBeginFinal", "()I"⟩, 8), (⟨"WagerQuiz", "doWagerFinal", "(II)I"⟩, 8), (⟨"WagerQuiz", "doCorrect", "(II)I"⟩, 8)]
theorem lw_r2 : ∀ q ∈ lw_privs_2, lw_okq q := List.forall_mem_cons.mpr ⟨lw_p16, List.forall_mem_cons.mpr ⟨lw_p17, List.forall_mem_cons.mpr ⟨lw_p18, List.forall_mem_cons.mpr ⟨lw_p19, List.forall_mem_cons.mpr ⟨lw_p20, List.forall_mem_cons.mpr ⟨lw_p21, List.forall_mem_cons.mpr ⟨lw_p22, List.forall_mem_cons.mpr ⟨lw_p23, List.forall_mem_cons.mpr ⟨lw_p24, List.forall_mem_cons.mpr ⟨lw_p25, List.forall_mem_cons.mpr ⟨lw_p26, List.forall_mem_cons.mpr ⟨lw_p27, List.forall_mem_cons.mpr ⟨lw_p28, List.forall_mem_cons.mpr ⟨lw_p29, List.forall_mem_cons.mpr ⟨lw_p30, List.forall_mem_cons.mpr ⟨lw_p31, fun _ h => absurd h List.not_mem_nil⟩⟩⟩⟩⟩⟩⟩⟩⟩⟩⟩⟩⟩⟩⟩⟩
theorem lw_p32 : lw_okq (⟨"WagerQuiz", "doRejudge", "(I)I"⟩, 8) := ⟨⟨by decide +kernel, by decide +kernel⟩, List.mem_of_getElem? (i := 22) (by decide +kernel), List.mem_of_getElem? (i := 604) (by decide +kernel), List.mem_of_getElem? (i := 605) (by decide +kernel)⟩
theorem lw_p33 : lw_okq (⟨"WagerQuiz", "isEntry", "(I)Z"⟩, 8) := ⟨⟨by decide +kernel, by decide +kernel⟩, List.mem_of_getElem? (i := 22) (by decide +kernel), List.mem_of_getElem? (i := 608) (by decide +kernel), List.mem_of_getElem? (i := 609) (by decide +kernel)⟩
theorem lw_p34 : lw_okq (⟨"WagerQuiz$Script", "isAllowed", "(II)Z"⟩, 2) := ⟨⟨by decide +kernel, by decide +kernel⟩, List.mem_of_getElem? (i := 231) (by decide +kernel), List.mem_of_getElem? (i := 641) (by decide +kernel), List.mem_of_getElem? (i := 642) (by decide +kernel)⟩
theorem lw_p35 : lw_okq (⟨"WagerQuiz$Script", "greatestDigit", "(II)C"⟩, 2) := ⟨⟨by decide +kernel, by decide +kernel⟩, List.mem_of_getElem? (i := 231) (by decide +kernel), List.mem_of_getElem? (i := 653) (by decide +kernel), List.mem_of_getElem? (i := 654) (by decide +kernel)⟩
theorem lw_p36 : lw_okq (⟨"WagerQuiz", "carryOutMoves", "()I"⟩, 8) := ⟨⟨by decide +kernel, by decide +kernel⟩, List.mem_of_getElem? (i := 22) (by decide +kernel), List.mem_of_getElem? (i := 657) (by decide +kernel), List.mem_of_getElem? (i := 658) (by decide +kernel)⟩
theorem lw_p37 : lw_okq (⟨"WagerQuiz", "doMove", "(I)I"⟩, 8) := ⟨⟨by decide +kernel, by decide +kernel⟩, List.mem_of_getElem? (i := 22) (by decide +kernel), List.mem_of_getElem? (i := 661) (by decide +kernel), List.mem_of_getElem? (i := 662) (by decide +kernel)⟩
theorem lw_p38 : lw_okq (⟨"WagerQuiz", "load", "(LWagerQuiz$State;)V"⟩, 8) := ⟨⟨by decide +kernel, by decide +kernel⟩, List.mem_of_getElem? (i := 22) (by decide +kernel), List.mem_of_getElem? (i := 679) (by decide +kernel), List.mem_of_getElem? (i := 680) (by decide +kernel)⟩
theorem lw_p39 : lw_okq (⟨"WagerQuiz", "playersAbove", "(I)I"⟩, 8) := ⟨⟨by decide +kernel, by decide +kernel⟩, List.mem_of_getElem? (i := 22) (by decide +kernel), List.mem_of_getElem? (i := 699) (by decide +kernel), List.mem_of_getElem? (i := 700) (by decide +kernel)⟩
theorem lw_p40 : lw_okq (⟨"WagerQuiz", "placeOf", "(I)I"⟩, 8) := ⟨⟨by decide +kernel, by decide +kernel⟩, List.mem_of_getElem? (i := 22) (by decide +kernel), List.mem_of_getElem? (i := 703) (by decide +kernel), List.mem_of_getElem? (i := 704) (by decide +kernel)⟩
theorem lw_p41 : lw_okq (⟨"WagerQuiz", "playerAtPlace", "(I)I"⟩, 8) := ⟨⟨by decide +kernel, by decide +kernel⟩, List.mem_of_getElem? (i := 22) (by decide +kernel), List.mem_of_getElem? (i := 715) (by decide +kernel), List.mem_of_getElem? (i := 716) (by decide +kernel)⟩
theorem lw_p42 : lw_okq (⟨"WagerQuiz", "isClueUnderWay", "()Z"⟩, 8) := ⟨⟨by decide +kernel, by decide +kernel⟩, List.mem_of_getElem? (i := 22) (by decide +kernel), List.mem_of_getElem? (i := 739) (by decide +kernel), List.mem_of_getElem? (i := 740) (by decide +kernel)⟩
theorem lw_p43 : lw_okq (⟨"WagerQuiz", "leaders", "()I"⟩, 8) := ⟨⟨by decide +kernel, by decide +kernel⟩, List.mem_of_getElem? (i := 22) (by decide +kernel), List.mem_of_getElem? (i := 743) (by decide +kernel), List.mem_of_getElem? (i := 744) (by decide +kernel)⟩
theorem lw_p44 : lw_okq (⟨"WagerQuiz", "sumOfScores", "()I"⟩, 8) := ⟨⟨by decide +kernel, by decide +kernel⟩, List.mem_of_getElem? (i := 22) (by decide +kernel), List.mem_of_getElem? (i := 747) (by decide +kernel), List.mem_of_getElem? (i := 748) (by decide +kernel)⟩
theorem lw_p45 : lw_okq (⟨"WagerQuiz", "writeMessage", "()V"⟩, 8) := ⟨⟨by decide +kernel, by decide +kernel⟩, List.mem_of_getElem? (i := 22) (by decide +kernel), List.mem_of_getElem? (i := 755) (by decide +kernel), List.mem_of_getElem? (i := 756) (by decide +kernel)⟩
theorem lw_p46 : lw_okq (⟨"WagerQuizModel", "record", "()V"⟩, 22) := ⟨⟨by decide +kernel, by decide +kernel⟩, List.mem_of_getElem? (i := 961) (by decide +kernel), List.mem_of_getElem? (i := 1051) (by decide +kernel), List.mem_of_getElem? (i := 1052) (by decide +kernel)⟩
theorem lw_p47 : lw_okq (⟨"WagerQuizModel", "hasBegun", "()Z"⟩, 22) := ⟨⟨by decide +kernel, by decide +kernel⟩, List.mem_of_getElem? (i := 961) (by decide +kernel), List.mem_of_getElem? (i := 1059) (by decide +kernel), List.mem_of_getElem? (i := 1060) (by decide +kernel)⟩
def lw_privs_3 : List (MethodName × Nat) := [(⟨"WagerQuiz", "doRejudge", "(I)I"⟩, 8), (⟨"WagerQuiz", "isEntry", "(I)Z"⟩, 8), (⟨"WagerQuiz$Script", "isAllowed", "(II)Z"⟩, 2), (⟨"WagerQuiz$Script", "greatestDigit", "(II)C"⟩, 2), (⟨"WagerQuiz", "carryOutMoves", "()I"⟩, 8), (⟨"WagerQuiz", "doMove", "(I)I"⟩, 8), (⟨"WagerQuiz", "load", "(LWagerQuiz$State;)V"⟩, 8), (⟨"WagerQuiz", "playersAbove", "(I)I"⟩, 8), (⟨"WagerQuiz", "placeOf", "(I)I"⟩, 8), (⟨"WagerQuiz", "playerAtPlace", "(I)I"⟩, 8), (⟨"WagerQuiz", "isClueUnderWay", "()Z"⟩, 8), (⟨"WagerQuiz", "leaders", "()I"⟩, 8), (⟨"WagerQuiz", "sumOfScores", "()I"⟩, 8), (⟨"WagerQuiz", "writeMessage", "()V"⟩, 8), (⟨"WagerQuizModel", "record", "()V"⟩, 22), (⟨"WagerQuizModel", "hasBegun", "()Z"⟩, 22)]
theorem lw_r3 : ∀ q ∈ lw_privs_3, lw_okq q := List.forall_mem_cons.mpr ⟨lw_p32, List.forall_mem_cons.mpr ⟨lw_p33, List.forall_mem_cons.mpr ⟨lw_p34, List.forall_mem_cons.mpr ⟨lw_p35, List.forall_mem_cons.mpr ⟨lw_p36, List.forall_mem_cons.mpr ⟨lw_p37, List.forall_mem_cons.mpr ⟨lw_p38, List.forall_mem_cons.mpr ⟨lw_p39, List.forall_mem_cons.mpr ⟨lw_p40, List.forall_mem_cons.mpr ⟨lw_p41, List.forall_mem_cons.mpr ⟨lw_p42, List.forall_mem_cons.mpr ⟨lw_p43, List.forall_mem_cons.mpr ⟨lw_p44, List.forall_mem_cons.mpr ⟨lw_p45, List.forall_mem_cons.mpr ⟨lw_p46, List.forall_mem_cons.mpr ⟨lw_p47, fun _ h => absurd h List.not_mem_nil⟩⟩⟩⟩⟩⟩⟩⟩⟩⟩⟩⟩⟩⟩⟩⟩
theorem lw_p48 : lw_okq (⟨"WagerQuizModel", "refuse", "(I)I"⟩, 22) := ⟨⟨by decide +kernel, by decide +kernel⟩, List.mem_of_getElem? (i := 961) (by decide +kernel), List.mem_of_getElem? (i := 1063) (by decide +kernel), List.mem_of_getElem? (i := 1064) (by decide +kernel)⟩
theorem lw_p49 : lw_okq (⟨"WagerQuizModel", "checkPick", "(II)I"⟩, 22) := ⟨⟨by decide +kernel, by decide +kernel⟩, List.mem_of_getElem? (i := 961) (by decide +kernel), List.mem_of_getElem? (i := 1085) (by decide +kernel), List.mem_of_getElem? (i := 1086) (by decide +kernel)⟩
theorem lw_p50 : lw_okq (⟨"WagerQuizModel", "noPlayer", "(I)Z"⟩, 22) := ⟨⟨by decide +kernel, by decide +kernel⟩, List.mem_of_getElem? (i := 961) (by decide +kernel), List.mem_of_getElem? (i := 1089) (by decide +kernel), List.mem_of_getElem? (i := 1090) (by decide +kernel)⟩
theorem lw_p51 : lw_okq (⟨"WagerQuizModel", "replay", "()V"⟩, 22) := ⟨⟨by decide +kernel, by decide +kernel⟩, List.mem_of_getElem? (i := 961) (by decide +kernel), List.mem_of_getElem? (i := 1093) (by decide +kernel), List.mem_of_getElem? (i := 1094) (by decide +kernel)⟩
theorem lw_p52 : lw_okq (⟨"WagerQuizModel", "isStealVoid", "(I)Z"⟩, 22) := ⟨⟨by decide +kernel, by decide +kernel⟩, List.mem_of_getElem? (i := 961) (by decide +kernel), List.mem_of_getElem? (i := 1100) (by decide +kernel), List.mem_of_getElem? (i := 1101) (by decide +kernel)⟩
theorem lw_p53 : lw_okq (⟨"WagerQuizModel", "picks", "(I)I"⟩, 22) := ⟨⟨by decide +kernel, by decide +kernel⟩, List.mem_of_getElem? (i := 961) (by decide +kernel), List.mem_of_getElem? (i := 1104) (by decide +kernel), List.mem_of_getElem? (i := 1105) (by decide +kernel)⟩
theorem lw_p54 : lw_okq (⟨"WagerQuizModel", "checkBuzz", "(II)I"⟩, 22) := ⟨⟨by decide +kernel, by decide +kernel⟩, List.mem_of_getElem? (i := 961) (by decide +kernel), List.mem_of_getElem? (i := 1115) (by decide +kernel), List.mem_of_getElem? (i := 1116) (by decide +kernel)⟩
theorem lw_p55 : lw_okq (⟨"WagerQuizModel", "hasBuzzed", "(II)Z"⟩, 22) := ⟨⟨by decide +kernel, by decide +kernel⟩, List.mem_of_getElem? (i := 961) (by decide +kernel), List.mem_of_getElem? (i := 1119) (by decide +kernel), List.mem_of_getElem? (i := 1120) (by decide +kernel)⟩
theorem lw_p56 : lw_okq (⟨"WagerQuizModel", "buzzes", "(II)I"⟩, 22) := ⟨⟨by decide +kernel, by decide +kernel⟩, List.mem_of_getElem? (i := 961) (by decide +kernel), List.mem_of_getElem? (i := 1123) (by decide +kernel), List.mem_of_getElem? (i := 1124) (by decide +kernel)⟩
theorem lw_p57 : lw_okq (⟨"WagerQuizModel", "queue", "()I"⟩, 22) := ⟨⟨by decide +kernel, by decide +kernel⟩, List.mem_of_getElem? (i := 961) (by decide +kernel), List.mem_of_getElem? (i := 1127) (by decide +kernel), List.mem_of_getElem? (i := 1128) (by decide +kernel)⟩
theorem lw_p58 : lw_okq (⟨"WagerQuizModel", "counting", "(I)I"⟩, 22) := ⟨⟨by decide +kernel, by decide +kernel⟩, List.mem_of_getElem? (i := 961) (by decide +kernel), List.mem_of_getElem? (i := 1131) (by decide +kernel), List.mem_of_getElem? (i := 1132) (by decide +kernel)⟩
theorem lw_p59 : lw_okq (⟨"WagerQuizModel", "isAhead", "(III)Z"⟩, 22) := ⟨⟨by decide +kernel, by decide +kernel⟩, List.mem_of_getElem? (i := 961) (by decide +kernel), List.mem_of_getElem? (i := 1135) (by decide +kernel), List.mem_of_getElem? (i := 1136) (by decide +kernel)⟩
theorem lw_p60 : lw_okq (⟨"WagerQuizModel", "checkAnswer", "()I"⟩, 22) := ⟨⟨by decide +kernel, by decide +kernel⟩, List.mem_of_getElem? (i := 961) (by decide +kernel), List.mem_of_getElem? (i := 1143) (by decide +kernel), List.mem_of_getElem? (i := 1144) (by decide +kernel)⟩
theorem lw_p61 : lw_okq (⟨"WagerQuizModel", "answers", "(I)I"⟩, 22) := ⟨⟨by decide +kernel, by decide +kernel⟩, List.mem_of_getElem? (i := 961) (by decide +kernel), List.mem_of_getElem? (i := 1147) (by decide +kernel), List.mem_of_getElem? (i := 1148) (by decide +kernel)⟩
theorem lw_p62 : lw_okq (⟨"WagerQuizModel", "nextFinal", "()I"⟩, 22) := ⟨⟨by decide +kernel, by decide +kernel⟩, List.mem_of_getElem? (i := 961) (by decide +kernel), List.mem_of_getElem? (i := 1151) (by decide +kernel), List.mem_of_getElem? (i := 1152) (by decide +kernel)⟩
theorem lw_p63 : lw_okq (⟨"WagerQuizModel", "enter", "(IIIII)V"⟩, 22) := ⟨⟨by decide +kernel, by decide +kernel⟩, List.mem_of_getElem? (i := 961) (by decide +kernel), List.mem_of_getElem? (i := 1155) (by decide +kernel), List.mem_of_getElem? (i := 1156) (by decide +kernel)⟩
def lw_privs_4 : List (MethodName × Nat) := [(⟨"WagerQuizModel", "refuse", "(I)I"⟩, 22), (⟨"WagerQuizModel", "checkPick", "(II)I"⟩, 22), (⟨"WagerQuizModel", "noPlayer", "(I)Z"⟩, 22), (⟨"WagerQuizModel", "replay", "()V"⟩, 22), (⟨"WagerQuizModel", "isStealVoid", "(I)Z"⟩, 22), (⟨"WagerQuizModel", "picks", "(I)I"⟩, 22), (⟨"WagerQuizModel", "checkBuzz", "(II)I"⟩, 22), (⟨"WagerQuizModel", "hasBuzzed", "(II)Z"⟩, 22), (⟨"WagerQuizModel", "buzzes", "(II)I"⟩, 22), (⟨"WagerQuizModel", "queue", "()I"⟩, 22), (⟨"WagerQuizModel", "counting", "(I)I"⟩, 22), (⟨"WagerQuizModel", "isAhead", "(III)Z"⟩, 22), (⟨"WagerQuizModel", "checkAnswer", "()I"⟩, 22), (⟨"WagerQuizModel", "answers", "(I)I"⟩, 22), (⟨"WagerQuizModel", "nextFinal", "()I"⟩, 22), (⟨"WagerQuizModel", "enter", "(IIIII)V"⟩, 22)]
theorem lw_r4 : ∀ q ∈ lw_privs_4, lw_okq q := List.forall_mem_cons.mpr ⟨lw_p48, List.forall_mem_cons.mpr ⟨lw_p49, List.forall_mem_cons.mpr ⟨lw_p50, List.forall_mem_cons.mpr ⟨lw_p51, List.forall_mem_cons.mpr ⟨lw_p52, List.forall_mem_cons.mpr ⟨lw_p53, List.forall_mem_cons.mpr ⟨lw_p54, List.forall_mem_cons.mpr ⟨lw_p55, List.forall_mem_cons.mpr ⟨lw_p56, List.forall_mem_cons.mpr ⟨lw_p57, List.forall_mem_cons.mpr ⟨lw_p58, List.forall_mem_cons.mpr ⟨lw_p59, List.forall_mem_cons.mpr ⟨lw_p60, List.forall_mem_cons.mpr ⟨lw_p61, List.forall_mem_cons.mpr ⟨lw_p62, List.forall_mem_cons.mpr ⟨lw_p63, fun _ h => absurd h List.not_mem_nil⟩⟩⟩⟩⟩⟩⟩⟩⟩⟩⟩⟩⟩⟩⟩⟩
theorem lw_p64 : lw_okq (⟨"WagerQuizModel", "checkClose", "()I"⟩, 22) := ⟨⟨by decide +kernel, by decide +kernel⟩, List.mem_of_getElem? (i := 961) (by decide +kernel), List.mem_of_getElem? (i := 1163) (by decide +kernel), List.mem_of_getElem? (i := 1164) (by decide +kernel)⟩
theorem lw_p65 : lw_okq (⟨"WagerQuizModel", "closes", "()I"⟩, 22) := ⟨⟨by decide +kernel, by decide +kernel⟩, List.mem_of_getElem? (i := 961) (by decide +kernel), List.mem_of_getElem? (i := 1167) (by decide +kernel), List.mem_of_getElem? (i := 1168) (by decide +kernel)⟩
theorem lw_p66 : lw_okq (⟨"WagerQuizModel", "checkWager", "(I)I"⟩, 22) := ⟨⟨by decide +kernel, by decide +kernel⟩, List.mem_of_getElem? (i := 961) (by decide +kernel), List.mem_of_getElem? (i := 1175) (by decide +kernel), List.mem_of_getElem? (i := 1176) (by decide +kernel)⟩
theorem lw_p67 : lw_okq (⟨"WagerQuizModel", "limit", "()I"⟩, 22) := ⟨⟨by decide +kernel, by decide +kernel⟩, List.mem_of_getElem? (i := 961) (by decide +kernel), List.mem_of_getElem? (i := 1180) (by decide +kernel), List.mem_of_getElem? (i := 1181) (by decide +kernel)⟩
theorem lw_p68 : lw_okq (⟨"WagerQuizModel", "tellsWager", "(I)I"⟩, 22) := ⟨⟨by decide +kernel, by decide +kernel⟩, List.mem_of_getElem? (i := 961) (by decide +kernel), List.mem_of_getElem? (i := 1184) (by decide +kernel), List.mem_of_getElem? (i := 1185) (by decide +kernel)⟩
theorem lw_p69 : lw_okq (⟨"WagerQuizModel", "noEntry", "(I)Z"⟩, 22) := ⟨⟨by decide +kernel, by decide +kernel⟩, List.mem_of_getElem? (i := 961) (by decide +kernel), List.mem_of_getElem? (i := 1209) (by decide +kernel), List.mem_of_getElem? (i := 1210) (by decide +kernel)⟩
theorem lw_p70 : lw_okq (⟨"WagerQuizModel", "readAll", "()I"⟩, 22) := ⟨⟨by decide +kernel, by decide +kernel⟩, List.mem_of_getElem? (i := 961) (by decide +kernel), List.mem_of_getElem? (i := 1225) (by decide +kernel), List.mem_of_getElem? (i := 1226) (by decide +kernel)⟩
theorem lw_p71 : lw_okq (⟨"WagerQuizModel", "digit", "(I)I"⟩, 22) := ⟨⟨by decide +kernel, by decide +kernel⟩, List.mem_of_getElem? (i := 961) (by decide +kernel), List.mem_of_getElem? (i := 1229) (by decide +kernel), List.mem_of_getElem? (i := 1230) (by decide +kernel)⟩
theorem lw_p72 : lw_okq (⟨"WagerQuizModel", "check", "(I)I"⟩, 22) := ⟨⟨by decide +kernel, by decide +kernel⟩, List.mem_of_getElem? (i := 961) (by decide +kernel), List.mem_of_getElem? (i := 1233) (by decide +kernel), List.mem_of_getElem? (i := 1234) (by decide +kernel)⟩
theorem lw_p73 : lw_okq (⟨"WagerQuizModel", "does", "(I)V"⟩, 22) := ⟨⟨by decide +kernel, by decide +kernel⟩, List.mem_of_getElem? (i := 961) (by decide +kernel), List.mem_of_getElem? (i := 1237) (by decide +kernel), List.mem_of_getElem? (i := 1238) (by decide +kernel)⟩
theorem lw_p74 : lw_okq (⟨"WagerQuizModel", "rank", "(I)I"⟩, 22) := ⟨⟨by decide +kernel, by decide +kernel⟩, List.mem_of_getElem? (i := 961) (by decide +kernel), List.mem_of_getElem? (i := 1245) (by decide +kernel), List.mem_of_getElem? (i := 1246) (by decide +kernel)⟩
theorem lw_p75 : lw_okq (⟨"WagerQuizModel", "placeOf", "(I)I"⟩, 22) := ⟨⟨by decide +kernel, by decide +kernel⟩, List.mem_of_getElem? (i := 961) (by decide +kernel), List.mem_of_getElem? (i := 1249) (by decide +kernel), List.mem_of_getElem? (i := 1250) (by decide +kernel)⟩
theorem lw_p76 : lw_okq (⟨"WagerQuizModel", "isBefore", "(II)Z"⟩, 22) := ⟨⟨by decide +kernel, by decide +kernel⟩, List.mem_of_getElem? (i := 961) (by decide +kernel), List.mem_of_getElem? (i := 1253) (by decide +kernel), List.mem_of_getElem? (i := 1254) (by decide +kernel)⟩
theorem lw_p77 : lw_okq (⟨"WagerQuizModel", "atPlace", "(I)I"⟩, 22) := ⟨⟨by decide +kernel, by decide +kernel⟩, List.mem_of_getElem? (i := 961) (by decide +kernel), List.mem_of_getElem? (i := 1264) (by decide +kernel), List.mem_of_getElem? (i := 1265) (by decide +kernel)⟩
theorem lw_p78 : lw_okq (⟨"WagerQuizModel", "isAnswer", "(II)Z"⟩, 22) := ⟨⟨by decide +kernel, by decide +kernel⟩, List.mem_of_getElem? (i := 961) (by decide +kernel), List.mem_of_getElem? (i := 1276) (by decide +kernel), List.mem_of_getElem? (i := 1277) (by decide +kernel)⟩
theorem lw_p79 : lw_okq (⟨"WagerQuizModel", "leaders", "()I"⟩, 22) := ⟨⟨by decide +kernel, by decide +kernel⟩, List.mem_of_getElem? (i := 961) (by decide +kernel), List.mem_of_getElem? (i := 1288) (by decide +kernel), List.mem_of_getElem? (i := 1289) (by decide +kernel)⟩
def lw_privs_5 : List (MethodName × Nat) := [(⟨"WagerQuizModel", "checkClose", "()I"⟩, 22), (⟨"WagerQuizModel", "closes", "()I"⟩, 22), (⟨"WagerQuizModel", "checkWager", "(I)I"⟩, 22), (⟨"WagerQuizModel", "limit", "()I"⟩, 22), (⟨"WagerQuizModel", "tellsWager", "(I)I"⟩, 22), (⟨"WagerQuizModel", "noEntry", "(I)Z"⟩, 22), (⟨"WagerQuizModel", "readAll", "()I"⟩, 22), (⟨"WagerQuizModel", "digit", "(I)I"⟩, 22), (⟨"WagerQuizModel", "check", "(I)I"⟩, 22), (⟨"WagerQuizModel", "does", "(I)V"⟩, 22), (⟨"WagerQuizModel", "rank", "(I)I"⟩, 22), (⟨"WagerQuizModel", "placeOf", "(I)I"⟩, 22), (⟨"WagerQuizModel", "isBefore", "(II)Z"⟩, 22), (⟨"WagerQuizModel", "atPlace", "(I)I"⟩, 22), (⟨"WagerQuizModel", "isAnswer", "(II)Z"⟩, 22), (⟨"WagerQuizModel", "leaders", "()I"⟩, 22)]
theorem lw_r5 : ∀ q ∈ lw_privs_5, lw_okq q := List.forall_mem_cons.mpr ⟨lw_p64, List.forall_mem_cons.mpr ⟨lw_p65, List.forall_mem_cons.mpr ⟨lw_p66, List.forall_mem_cons.mpr ⟨lw_p67, List.forall_mem_cons.mpr ⟨lw_p68, List.forall_mem_cons.mpr ⟨lw_p69, List.forall_mem_cons.mpr ⟨lw_p70, List.forall_mem_cons.mpr ⟨lw_p71, List.forall_mem_cons.mpr ⟨lw_p72, List.forall_mem_cons.mpr ⟨lw_p73, List.forall_mem_cons.mpr ⟨lw_p74, List.forall_mem_cons.mpr ⟨lw_p75, List.forall_mem_cons.mpr ⟨lw_p76, List.forall_mem_cons.mpr ⟨lw_p77, List.forall_mem_cons.mpr ⟨lw_p78, List.forall_mem_cons.mpr ⟨lw_p79, fun _ h => absurd h List.not_mem_nil⟩⟩⟩⟩⟩⟩⟩⟩⟩⟩⟩⟩⟩⟩⟩⟩
theorem lw_p80 : lw_okq (⟨"WagerQuizModel", "write", "(I)V"⟩, 22) := ⟨⟨by decide +kernel, by decide +kernel⟩, List.mem_of_getElem? (i := 961) (by decide +kernel), List.mem_of_getElem? (i := 1296) (by decide +kernel), List.mem_of_getElem? (i := 1297) (by decide +kernel)⟩
theorem lw_p81 : lw_okq (⟨"WagerQuizModel", "writeNumber", "(I)V"⟩, 22) := ⟨⟨by decide +kernel, by decide +kernel⟩, List.mem_of_getElem? (i := 961) (by decide +kernel), List.mem_of_getElem? (i := 1300) (by decide +kernel), List.mem_of_getElem? (i := 1301) (by decide +kernel)⟩
def lw_privs_6 : List (MethodName × Nat) := [(⟨"WagerQuizModel", "write", "(I)V"⟩, 22), (⟨"WagerQuizModel", "writeNumber", "(I)V"⟩, 22)]
theorem lw_r6 : ∀ q ∈ lw_privs_6, lw_okq q := List.forall_mem_cons.mpr ⟨lw_p80, List.forall_mem_cons.mpr ⟨lw_p81, fun _ h => absurd h List.not_mem_nil⟩⟩
def lw_privs : List (MethodName × Nat) := lw_privs_1 ++ (lw_privs_2 ++ (lw_privs_3 ++ (lw_privs_4 ++ (lw_privs_5 ++ (lw_privs_6)))))
def lw_tbl : List Cond := k2_sels lw_privs ++ tables_1
theorem lw_privs_ok : ∀ q ∈ lw_privs, lw_okq q := by
  show ∀ q ∈ lw_privs_1 ++ (lw_privs_2 ++ (lw_privs_3 ++ (lw_privs_4 ++ (lw_privs_5 ++ (lw_privs_6))))), lw_okq q
  exact List.forall_mem_append.mpr ⟨lw_r1, List.forall_mem_append.mpr ⟨lw_r2, List.forall_mem_append.mpr ⟨lw_r3, List.forall_mem_append.mpr ⟨lw_r4, List.forall_mem_append.mpr ⟨lw_r5, lw_r6⟩⟩⟩⟩⟩
end
section
/-! names of the claim: classes, fields, methods in use (by program out of the printed texts) -/
def zeNd {α : Type} (k : Nat) (a b : Nat → α) : Nat → α := fun x => cond (Nat.ble k x) (b x) (a x)
def zeLf {α : Type} (k : Nat) (v d : α) : Nat → α := fun x => cond (Nat.beq x k) v d
def zeT0 : u_T := fun k => match k with
  | 0 => ("WagerQuiz$FinalRound", "answers", "I", false)
  | 1 => ("WagerQuiz$FinalRound", "startScores", "[I", true)
  | _ => ("WagerQuiz$FinalRound", "wagers", "[I", true)
def zeY0 : Nat → FieldType := fun k => match k with
  | 0 => .int
  | 1 => (.array .int)
  | _ => (.array .int)
theorem zeYok0 : ∀ k, k < 3 → parseFieldDescriptor (zeT0 k).2.2.1 = some (zeY0 k) := by decide +kernel
theorem zeNm0 : ∀ a, a < 3 → ∀ b, b < 3 → a ≠ b → (zeT0 a).2.1 ≠ (zeT0 b).2.1 := by decide +kernel
def zeT1 : u_T := fun k => match k with
  | 0 => ("WagerQuiz$History", "size", "I", false)
  | 1 => ("WagerQuiz$History", "trial", "I", false)
  | _ => ("WagerQuiz$History", "ring", "[LWagerQuiz$State;", true)
def zeY1 : Nat → FieldType := fun k => match k with
  | 0 => .int
  | 1 => .int
  | _ => (.array (.object "WagerQuiz$State"))
theorem zeYok1 : ∀ k, k < 3 → parseFieldDescriptor (zeT1 k).2.2.1 = some (zeY1 k) := by decide +kernel
theorem zeNm1 : ∀ a, a < 3 → ∀ b, b < 3 → a ≠ b → (zeT1 a).2.1 ≠ (zeT1 b).2.1 := by decide +kernel
def zeT2 : u_T := fun k => match k with
  | 0 => ("WagerQuiz$Log", "size", "I", false)
  | 1 => ("WagerQuiz$Log", "players", "[I", true)
  | 2 => ("WagerQuiz$Log", "sorts", "[I", true)
  | 3 => ("WagerQuiz$Log", "clues", "[I", true)
  | 4 => ("WagerQuiz$Log", "amounts", "[I", true)
  | _ => ("WagerQuiz$Log", "judgements", "[I", true)
def zeY2 : Nat → FieldType := fun k => match k with
  | 0 => .int
  | 1 => (.array .int)
  | 2 => (.array .int)
  | 3 => (.array .int)
  | 4 => (.array .int)
  | _ => (.array .int)
theorem zeYok2 : ∀ k, k < 6 → parseFieldDescriptor (zeT2 k).2.2.1 = some (zeY2 k) := by decide +kernel
theorem zeNm2 : ∀ a, a < 6 → ∀ b, b < 6 → a ≠ b → (zeT2 a).2.1 ≠ (zeT2 b).2.1 := by decide +kernel
def zeT3 : u_T := fun k => match k with
  | 0 => ("WagerQuiz$PickedClue", "clue", "I", false)
  | 1 => ("WagerQuiz$PickedClue", "reading", "I", false)
  | 2 => ("WagerQuiz$PickedClue", "lock", "I", false)
  | 3 => ("WagerQuiz$PickedClue", "wager", "I", false)
  | 4 => ("WagerQuiz$PickedClue", "answered", "I", false)
  | 5 => ("WagerQuiz$PickedClue", "countingTicks", "[I", true)
  | 6 => ("WagerQuiz$PickedClue", "ticksBelow64", "[J", true)
  | _ => ("WagerQuiz$PickedClue", "ticksFrom64", "[J", true)
def zeY3 : Nat → FieldType := fun k => match k with
  | 0 => .int
  | 1 => .int
  | 2 => .int
  | 3 => .int
  | 4 => .int
  | 5 => (.array .int)
  | 6 => (.array .long)
  | _ => (.array .long)
theorem zeYok3 : ∀ k, k < 8 → parseFieldDescriptor (zeT3 k).2.2.1 = some (zeY3 k) := by decide +kernel
theorem zeNm3 : ∀ a, a < 8 → ∀ b, b < 8 → a ≠ b → (zeT3 a).2.1 ≠ (zeT3 b).2.1 := by decide +kernel
def zeT4 : u_T := fun k => match k with
  | 0 => ("WagerQuiz$Replay", "control", "I", false)
  | 1 => ("WagerQuiz$Replay", "scores", "[I", true)
  | 2 => ("WagerQuiz$Replay", "rights", "[I", true)
  | 3 => ("WagerQuiz$Replay", "wrongs", "[I", true)
  | 4 => ("WagerQuiz$Replay", "corrections", "[I", true)
  | 5 => ("WagerQuiz$Replay", "solvers", "[I", true)
  | 6 => ("WagerQuiz$Replay", "amounts", "[I", true)
  | 7 => ("WagerQuiz$Replay", "scoresBehind", "[I", true)
  | 8 => ("WagerQuiz$Replay", "voids", "[Z", true)
  | _ => ("WagerQuiz$Replay", "formerScores", "[I", true)
def zeY4 : Nat → FieldType := fun k => match k with
  | 0 => .int
  | 1 => (.array .int)
  | 2 => (.array .int)
  | 3 => (.array .int)
  | 4 => (.array .int)
  | 5 => (.array .int)
  | 6 => (.array .int)
  | 7 => (.array .int)
  | 8 => (.array .boolean)
  | _ => (.array .int)
theorem zeYok4 : ∀ k, k < 10 → parseFieldDescriptor (zeT4 k).2.2.1 = some (zeY4 k) := by decide +kernel
theorem zeNm4 : ∀ a, a < 10 → ∀ b, b < 10 → a ≠ b → (zeT4 a).2.1 ≠ (zeT4 b).2.1 := by decide +kernel
def zeT5 : u_T := fun k => match k with
  | 0 => ("WagerQuiz$Script", "length", "I", false)
  | _ => ("WagerQuiz$Script", "signs", "[C", true)
def zeY5 : Nat → FieldType := fun k => match k with
  | 0 => .int
  | _ => (.array .char)
theorem zeYok5 : ∀ k, k < 2 → parseFieldDescriptor (zeT5 k).2.2.1 = some (zeY5 k) := by decide +kernel
theorem zeNm5 : ∀ a, a < 2 → ∀ b, b < 2 → a ≠ b → (zeT5 a).2.1 ≠ (zeT5 b).2.1 := by decide +kernel
def zeT6 : u_T := fun k => match k with
  | 0 => ("WagerQuiz$State", "phase", "I", false)
  | 1 => ("WagerQuiz$State", "players", "I", false)
  | 2 => ("WagerQuiz$State", "wagerClues", "I", false)
  | 3 => ("WagerQuiz$State", "goneClues", "I", false)
  | 4 => ("WagerQuiz$State", "settings", "[I", true)
  | 5 => ("WagerQuiz$State", "open", "LWagerQuiz$PickedClue;", true)
  | 6 => ("WagerQuiz$State", "finale", "LWagerQuiz$FinalRound;", true)
  | _ => ("WagerQuiz$State", "log", "LWagerQuiz$Log;", true)
def zeY6 : Nat → FieldType := fun k => match k with
  | 0 => .int
  | 1 => .int
  | 2 => .int
  | 3 => .int
  | 4 => (.array .int)
  | 5 => (.object "WagerQuiz$PickedClue")
  | 6 => (.object "WagerQuiz$FinalRound")
  | _ => (.object "WagerQuiz$Log")
theorem zeYok6 : ∀ k, k < 8 → parseFieldDescriptor (zeT6 k).2.2.1 = some (zeY6 k) := by decide +kernel
theorem zeNm6 : ∀ a, a < 8 → ∀ b, b < 8 → a ≠ b → (zeT6 a).2.1 ≠ (zeT6 b).2.1 := by decide +kernel
def zeT7 : u_T := fun k => match k with
  | 0 => ("WagerQuiz", "now", "LWagerQuiz$State;", true)
  | 1 => ("WagerQuiz", "replay", "LWagerQuiz$Replay;", true)
  | 2 => ("WagerQuiz", "history", "LWagerQuiz$History;", true)
  | 3 => ("WagerQuiz", "slots", "[LWagerQuiz$State;", true)
  | 4 => ("WagerQuiz", "slotTaken", "[Z", true)
  | 5 => ("WagerQuiz", "script", "LWagerQuiz$Script;", true)
  | 6 => ("WagerQuiz", "message", "Ljava/lang/StringBuilder;", true)
  | _ => ("WagerQuiz", "reason", "I", false)
def zeY7 : Nat → FieldType := fun k => match k with
  | 0 => (.object "WagerQuiz$State")
  | 1 => (.object "WagerQuiz$Replay")
  | 2 => (.object "WagerQuiz$History")
  | 3 => (.array (.object "WagerQuiz$State"))
  | 4 => (.array .boolean)
  | 5 => (.object "WagerQuiz$Script")
  | 6 => (.object "java/lang/StringBuilder")
  | _ => .int
theorem zeYok7 : ∀ k, k < 8 → parseFieldDescriptor (zeT7 k).2.2.1 = some (zeY7 k) := by decide +kernel
theorem zeNm7 : ∀ a, a < 8 → ∀ b, b < 8 → a ≠ b → (zeT7 a).2.1 ≠ (zeT7 b).2.1 := by decide +kernel
def zeT8 : u_T := fun k => match k with
  | 0 => ("WagerQuizModel", "now", "[I", true)
  | 1 => ("WagerQuizModel", "history", "[I", true)
  | 2 => ("WagerQuizModel", "kept", "I", false)
  | 3 => ("WagerQuizModel", "slots", "[I", true)
  | 4 => ("WagerQuizModel", "isFilled", "[Z", true)
  | 5 => ("WagerQuizModel", "reason", "I", false)
  | 6 => ("WagerQuizModel", "score", "[I", true)
  | 7 => ("WagerQuizModel", "amount", "[I", true)
  | 8 => ("WagerQuizModel", "isVoid", "[Z", true)
  | 9 => ("WagerQuizModel", "after", "[I", true)
  | 10 => ("WagerQuizModel", "rights", "[I", true)
  | 11 => ("WagerQuizModel", "wrongs", "[I", true)
  | 12 => ("WagerQuizModel", "corrections", "[I", true)
  | 13 => ("WagerQuizModel", "control", "I", false)
  | 14 => ("WagerQuizModel", "waits", "[I", true)
  | 15 => ("WagerQuizModel", "before", "[I", true)
  | 16 => ("WagerQuizModel", "typed", "I", false)
  | 17 => ("WagerQuizModel", "text", "[C", true)
  | 18 => ("WagerQuizModel", "moves", "I", false)
  | 19 => ("WagerQuizModel", "moveOf", "[I", true)
  | 20 => ("WagerQuizModel", "written", "I", false)
  | _ => ("WagerQuizModel", "message", "[I", true)
def zeY8 : Nat → FieldType := fun k => match k with
  | 0 => (.array .int)
  | 1 => (.array .int)
  | 2 => .int
  | 3 => (.array .int)
  | 4 => (.array .boolean)
  | 5 => .int
  | 6 => (.array .int)
  | 7 => (.array .int)
  | 8 => (.array .boolean)
  | 9 => (.array .int)
  | 10 => (.array .int)
  | 11 => (.array .int)
  | 12 => (.array .int)
  | 13 => .int
  | 14 => (.array .int)
  | 15 => (.array .int)
  | 16 => .int
  | 17 => (.array .char)
  | 18 => .int
  | 19 => (.array .int)
  | 20 => .int
  | _ => (.array .int)
theorem zeYok8 : ∀ k, k < 22 → parseFieldDescriptor (zeT8 k).2.2.1 = some (zeY8 k) := by decide +kernel
theorem zeNm8 : ∀ a, a < 22 → ∀ b, b < 22 → a ≠ b → (zeT8 a).2.1 ≠ (zeT8 b).2.1 := by decide +kernel
def zeT9 : u_T := fun k => match k with
  | 0 => ("java/lang/AbstractStringBuilder", "value", "[B", false)
  | 1 => ("java/lang/AbstractStringBuilder", "coder", "B", false)
  | 2 => ("java/lang/AbstractStringBuilder", "maybeLatin1", "Z", false)
  | _ => ("java/lang/AbstractStringBuilder", "count", "I", false)
def zeY9 : Nat → FieldType := fun k => match k with
  | 0 => (.array .byte)
  | 1 => .byte
  | 2 => .boolean
  | _ => .int
theorem zeYok9 : ∀ k, k < 4 → parseFieldDescriptor (zeT9 k).2.2.1 = some (zeY9 k) := by decide +kernel
theorem zeNm9 : ∀ a, a < 4 → ∀ b, b < 4 → a ≠ b → (zeT9 a).2.1 ≠ (zeT9 b).2.1 := by decide +kernel
abbrev zeCl : List vw_C := [("WagerQuiz$FinalRound", zeT0, 3), ("WagerQuiz$History", zeT1, 3), ("WagerQuiz$Log", zeT2, 6), ("WagerQuiz$PickedClue", zeT3, 8), ("WagerQuiz$Replay", zeT4, 10), ("WagerQuiz$Script", zeT5, 2), ("WagerQuiz$State", zeT6, 8), ("WagerQuiz", zeT7, 8), ("WagerQuizModel", zeT8, 22), ("java/lang/StringBuilder", zeT9, 4)]
/-- the fields of a class: true where a reference stands -/
def zeFL : Nat → List Bool := fun k => match k with
  | 0 => [false, true, true]
  | 1 => [false, false, true]
  | 2 => [false, true, true, true, true, true]
  | 3 => [false, false, false, false, false, true, true, true]
  | 4 => [false, true, true, true, true, true, true, true, true, true]
  | 5 => [false, true]
  | 6 => [false, false, false, false, true, true, true, true]
  | 7 => [true, true, true, true, true, true, true, false]
  | 8 => [true, true, false, true, true, false, true, true, true, true, true, true, true, false, true, true, false, true, false, true, false, true]
  | _ => [true, false, false, false]
/-- private methods of the superclass, on a StringBuilder (shown at the start) -/
def zeXm : List MethodName := [⟨"java/lang/AbstractStringBuilder", "newCapacity", "(I)I"⟩, ⟨"java/lang/AbstractStringBuilder", "ensureCapacityInternal", "(I)V"⟩, ⟨"java/lang/AbstractStringBuilder", "putStringAt", "(ILjava/lang/String;)V"⟩, ⟨"java/lang/AbstractStringBuilder", "inflateIfNeededFor", "(Ljava/lang/String;)V"⟩]
def zeXs : List Cond := zeXm.map fun y => Cond.selects "java/lang/StringBuilder" y y
def zeBT : List Cond := (zeXs ++ lw_tbl).filter goodWord
theorem zeBT_of {w : Cond} {k : Nat} (h : tables_1[k]? = some w) (hg : goodWord w = true) : w ∈ zeBT := List.mem_filter.mpr ⟨List.mem_append_right _ (by unfold lw_tbl; exact List.mem_append_right _ (List.mem_of_getElem? h)), hg⟩
theorem zeBT_p {w : Cond} {k : Nat} (h : (k2_sels lw_privs)[k]? = some w) (hg : goodWord w = true) : w ∈ zeBT := List.mem_filter.mpr ⟨List.mem_append_right _ (by unfold lw_tbl; exact List.mem_append_left _ (List.mem_of_getElem? h)), hg⟩
theorem zeBT_x {w : Cond} {k : Nat} (h : zeXs[k]? = some w) (hg : goodWord w = true) : w ∈ zeBT := List.mem_filter.mpr ⟨List.mem_append_left _ (List.mem_of_getElem? h), hg⟩
theorem zeBT_good : ∀ w ∈ zeBT, goodWord w = true := fun w h => (List.mem_filter.mp h).2
def zeCod : Nat → ByteArray := (zeNd 106 (zeNd 53 (zeNd 26 (zeNd 13 (zeNd 6 (zeNd 3 (zeNd 1 (fun _ => prog_5_method_1_code) (zeNd 2 (fun _ => prog_2_method_1_code) (fun _ => prog_4_method_1_code))) (zeNd 4 (fun _ => prog_8_method_1_code) (zeNd 5 (fun _ => prog_6_method_1_code) (fun _ => prog_3_method_1_code)))) (zeNd 9 (zeNd 7 (fun _ => prog_7_method_1_code) (zeNd 8 (fun _ => prog_11_method_2_code) (fun _ => prog_16_method_1_code))) (zeNd 11 (zeNd 10 (fun _ => prog_1_method_1_code) (fun _ => prog_10_method_1_code)) (zeNd 12 (fun _ => prog_5_method_7_code) (fun _ => prog_2_method_9_code))))) (zeNd 19 (zeNd 16 (zeNd 14 (fun _ => prog_4_method_5_code) (zeNd 15 (fun _ => prog_8_method_2_code) (fun _ => prog_3_method_2_code))) (zeNd 17 (fun _ => prog_1_method_56_code) (zeNd 18 (fun _ => prog_1_method_47_code) (fun _ => prog_1_method_28_code)))) (zeNd 22 (zeNd 20 (fun _ => prog_1_method_46_code) (zeNd 21 (fun _ => prog_3_method_3_code) (fun _ => prog_1_method_45_code))) (zeNd 24 (zeNd 23 (fun _ => prog_1_method_2_code) (fun _ => prog_10_method_14_code)) (zeNd 25 (fun _ => prog_10_method_7_code) (fun _ => prog_10_method_3_code)))))) (zeNd 39 (zeNd 32 (zeNd 29 (zeNd 27 (fun _ => prog_10_method_15_code) (zeNd 28 (fun _ => prog_1_method_51_code) (fun _ => prog_1_method_55_code))) (zeNd 30 (fun _ => prog_13_method_49_code) (zeNd 31 (fun _ => prog_1_method_29_code) (fun _ => prog_1_method_3_code)))) (zeNd 35 (zeNd 33 (fun _ => prog_10_method_2_code) (zeNd 34 (fun _ => prog_10_method_16_code) (fun _ => prog_10_method_17_code))) (zeNd 37 (zeNd 36 (fun _ => prog_1_method_30_code) (fun _ => prog_1_method_4_code)) (zeNd 38 (fun _ => prog_10_method_18_code) (fun _ => prog_1_method_50_code))))) (zeNd 46 (zeNd 42 (zeNd 40 (fun _ => prog_1_method_58_code) (zeNd 41 (fun _ => prog_5_method_2_code) (fun _ => prog_1_method_54_code))) (zeNd 44 (zeNd 43 (fun _ => prog_1_method_31_code) (fun _ => prog_1_method_5_code)) (zeNd 45 (fun _ => prog_10_method_13_code) (fun _ => prog_10_method_8_code)))) (zeNd 49 (zeNd 47 (fun _ => prog_10_method_10_code) (zeNd 48 (fun _ => prog_10_method_11_code) (fun _ => prog_10_method_19_code))) (zeNd 51 (zeNd 50 (fun _ => prog_10_method_9_code) (fun _ => prog_10_method_20_code)) (zeNd 52 (fun _ => prog_10_method_21_code) (fun _ => prog_5_method_3_code))))))) (zeNd 79 (zeNd 66 (zeNd 59 (zeNd 56 (zeNd 54 (fun _ => prog_5_method_6_code) (zeNd 55 (fun _ => prog_5_method_5_code) (fun _ => prog_5_method_4_code))) (zeNd 57 (fun _ => prog_1_method_66_code) (zeNd 58 (fun _ => prog_1_method_67_code) (fun _ => prog_1_method_32_code)))) (zeNd 62 (zeNd 60 (fun _ => prog_1_method_6_code) (zeNd 61 (fun _ => prog_10_method_22_code) (fun _ => prog_10_method_23_code))) (zeNd 64 (zeNd 63 (fun _ => prog_10_method_26_code) (fun _ => prog_10_method_28_code)) (zeNd 65 (fun _ => prog_10_method_27_code) (fun _ => prog_10_method_24_code))))) (zeNd 72 (zeNd 69 (zeNd 67 (fun _ => prog_10_method_25_code) (zeNd 68 (fun _ => prog_1_method_68_code) (fun _ => prog_1_method_69_code))) (zeNd 70 (fun _ => prog_1_method_70_code) (zeNd 71 (fun _ => prog_4_method_2_code) (fun _ => prog_4_method_3_code)))) (zeNd 75 (zeNd 73 (fun _ => prog_6_method_5_code) (zeNd 74 (fun _ => prog_6_method_6_code) (fun _ => prog_6_method_4_code))) (zeNd 77 (zeNd 76 (fun _ => prog_6_method_3_code) (fun _ => prog_6_method_2_code)) (zeNd 78 (fun _ => prog_1_method_48_code) (fun _ => prog_1_method_34_code)))))) (zeNd 92 (zeNd 85 (zeNd 82 (zeNd 80 (fun _ => prog_1_method_35_code) (zeNd 81 (fun _ => prog_2_method_8_code) (fun _ => prog_2_method_7_code))) (zeNd 83 (fun _ => prog_2_method_6_code) (zeNd 84 (fun _ => prog_2_method_3_code) (fun _ => prog_1_method_36_code)))) (zeNd 88 (zeNd 86 (fun _ => prog_1_method_33_code) (zeNd 87 (fun _ => prog_1_method_7_code) (fun _ => prog_10_method_30_code))) (zeNd 90 (zeNd 89 (fun _ => prog_10_method_29_code) (fun _ => prog_10_method_12_code)) (zeNd 91 (fun _ => prog_10_method_31_code) (fun _ => prog_10_method_32_code))))) (zeNd 99 (zeNd 95 (zeNd 93 (fun _ => prog_1_method_37_code) (zeNd 94 (fun _ => prog_1_method_8_code) (fun _ => prog_10_method_33_code))) (zeNd 97 (zeNd 96 (fun _ => prog_10_method_34_code) (fun _ => prog_10_method_35_code)) (zeNd 98 (fun _ => prog_1_method_38_code) (fun _ => prog_1_method_9_code)))) (zeNd 102 (zeNd 100 (fun _ => prog_10_method_36_code) (zeNd 101 (fun _ => prog_10_method_37_code) (fun _ => prog_10_method_38_code))) (zeNd 104 (zeNd 103 (fun _ => prog_10_method_39_code) (fun _ => prog_2_method_2_code)) (zeNd 105 (fun _ => prog_1_method_39_code) (fun _ => prog_1_method_10_code)))))))) (zeNd 159 (zeNd 132 (zeNd 119 (zeNd 112 (zeNd 109 (zeNd 107 (fun _ => prog_10_method_40_code) (zeNd 108 (fun _ => prog_2_method_4_code) (fun _ => prog_2_method_5_code))) (zeNd 110 (fun _ => prog_1_method_40_code) (zeNd 111 (fun _ => prog_1_method_11_code) (fun _ => prog_10_method_41_code)))) (zeNd 115 (zeNd 113 (fun _ => prog_1_method_59_code) (zeNd 114 (fun _ => prog_1_method_12_code) (fun _ => prog_10_method_42_code))) (zeNd 117 (zeNd 116 (fun _ => prog_1_method_41_code) (fun _ => prog_1_method_13_code)) (zeNd 118 (fun _ => prog_10_method_43_code) (fun _ => prog_1_method_52_code))))) (zeNd 125 (zeNd 122 (zeNd 120 (fun _ => prog_6_method_8_code) (zeNd 121 (fun _ => prog_6_method_9_code) (fun _ => prog_1_method_42_code))) (zeNd 123 (fun _ => prog_1_method_14_code) (zeNd 124 (fun _ => prog_10_method_44_code) (fun _ => prog_10_method_45_code)))) (zeNd 128 (zeNd 126 (fun _ => prog_7_method_2_code) (zeNd 127 (fun _ => prog_1_method_15_code) (fun _ => prog_10_method_46_code))) (zeNd 130 (zeNd 129 (fun _ => prog_1_method_16_code) (fun _ => prog_10_method_47_code)) (zeNd 131 (fun _ => prog_7_method_3_code) (fun _ => prog_7_method_4_code)))))) (zeNd 145 (zeNd 138 (zeNd 135 (zeNd 133 (fun _ => prog_7_method_7_code) (zeNd 134 (fun _ => prog_7_method_6_code) (fun _ => prog_7_method_5_code))) (zeNd 136 (fun _ => prog_7_method_8_code) (zeNd 137 (fun _ => prog_1_method_44_code) (fun _ => prog_1_method_43_code)))) (zeNd 141 (zeNd 139 (fun _ => prog_1_method_17_code) (zeNd 140 (fun _ => prog_10_method_48_code) (fun _ => prog_10_method_49_code))) (zeNd 143 (zeNd 142 (fun _ => prog_10_method_50_code) (fun _ => prog_10_method_51_code)) (zeNd 144 (fun _ => prog_10_method_52_code) (fun _ => prog_3_method_4_code))))) (zeNd 152 (zeNd 148 (zeNd 146 (fun _ => prog_1_method_49_code) (zeNd 147 (fun _ => prog_1_method_18_code) (fun _ => prog_10_method_4_code))) (zeNd 150 (zeNd 149 (fun _ => prog_1_method_53_code) (fun _ => prog_1_method_19_code)) (zeNd 151 (fun _ => prog_10_method_5_code) (fun _ => prog_1_method_20_code)))) (zeNd 155 (zeNd 153 (fun _ => prog_10_method_6_code) (zeNd 154 (fun _ => prog_1_method_60_code) (fun _ => prog_6_method_7_code))) (zeNd 157 (zeNd 156 (fun _ => prog_1_method_63_code) (fun _ => prog_1_method_21_code)) (zeNd 158 (fun _ => prog_10_method_55_code) (fun _ => prog_10_method_53_code))))))) (zeNd 186 (zeNd 172 (zeNd 165 (zeNd 162 (zeNd 160 (fun _ => prog_10_method_54_code) (zeNd 161 (fun _ => prog_10_method_56_code) (fun _ => prog_10_method_57_code))) (zeNd 163 (fun _ => prog_1_method_64_code) (zeNd 164 (fun _ => prog_1_method_22_code) (fun _ => prog_10_method_58_code)))) (zeNd 168 (zeNd 166 (fun _ => prog_10_method_59_code) (zeNd 167 (fun _ => prog_1_method_23_code) (fun _ => prog_10_method_60_code))) (zeNd 170 (zeNd 169 (fun _ => prog_4_method_4_code) (fun _ => prog_1_method_24_code)) (zeNd 171 (fun _ => prog_10_method_61_code) (fun _ => prog_10_method_62_code))))) (zeNd 179 (zeNd 175 (zeNd 173 (fun _ => prog_1_method_25_code) (zeNd 174 (fun _ => prog_10_method_63_code) (fun _ => prog_1_method_57_code))) (zeNd 177 (zeNd 176 (fun _ => prog_1_method_61_code) (fun _ => prog_1_method_62_code)) (zeNd 178 (fun _ => prog_1_method_26_code) (fun _ => prog_10_method_64_code)))) (zeNd 182 (zeNd 180 (fun _ => prog_10_method_65_code) (zeNd 181 (fun _ => prog_21_method_27_code) (fun _ => prog_11_method_10_code))) (zeNd 184 (zeNd 183 (fun _ => prog_20_method_121_code) (fun _ => prog_11_method_9_code)) (zeNd 185 (fun _ => prog_11_method_68_code) (fun _ => prog_11_method_13_code)))))) (zeNd 199 (zeNd 192 (zeNd 189 (zeNd 187 (fun _ => prog_16_method_89_code) (zeNd 188 (fun _ => prog_15_method_152_code) (fun _ => prog_15_method_54_code))) (zeNd 190 (fun _ => prog_11_method_71_code) (zeNd 191 (fun _ => prog_15_method_147_code) (fun _ => prog_11_method_73_code)))) (zeNd 195 (zeNd 193 (fun _ => prog_11_method_22_code) (zeNd 194 (fun _ => prog_16_method_7_code) (fun _ => prog_13_method_13_code))) (zeNd 197 (zeNd 196 (fun _ => prog_13_method_12_code) (fun _ => prog_11_method_32_code)) (zeNd 198 (fun _ => prog_16_method_15_code) (fun _ => prog_17_method_3_code))))) (zeNd 206 (zeNd 202 (zeNd 200 (fun _ => prog_11_method_31_code) (zeNd 201 (fun _ => prog_16_method_14_code) (fun _ => prog_1_method_65_code))) (zeNd 204 (zeNd 203 (fun _ => prog_11_method_6_code) (fun _ => prog_16_method_93_code)) (zeNd 205 (fun _ => prog_22_method_11_code) (fun _ => prog_15_method_155_code)))) (zeNd 209 (zeNd 207 (fun _ => prog_11_method_14_code) (zeNd 208 (fun _ => prog_16_method_88_code) (fun _ => prog_1_method_27_code))) (zeNd 211 (zeNd 210 (fun _ => prog_10_method_66_code) (fun _ => prog_10_method_67_code)) (zeNd 212 (fun _ => prog_10_method_68_code) (fun _ => code)))))))))
def zeNam : Nat → MethodName := (zeNd 106 (zeNd 53 (zeNd 26 (zeNd 13 (zeNd 6 (zeNd 3 (zeNd 1 (fun _ => ⟨"WagerQuiz$PickedClue", "<init>", "()V"⟩) (zeNd 2 (fun _ => ⟨"WagerQuiz$FinalRound", "<init>", "()V"⟩) (fun _ => ⟨"WagerQuiz$Log", "<init>", "()V"⟩))) (zeNd 4 (fun _ => ⟨"WagerQuiz$State", "<init>", "()V"⟩) (zeNd 5 (fun _ => ⟨"WagerQuiz$Replay", "<init>", "()V"⟩) (fun _ => ⟨"WagerQuiz$History", "<init>", "()V"⟩)))) (zeNd 9 (zeNd 7 (fun _ => ⟨"WagerQuiz$Script", "<init>", "()V"⟩) (zeNd 8 (fun _ => ⟨"java/lang/AbstractStringBuilder", "<init>", "(I)V"⟩) (fun _ => ⟨"java/lang/StringBuilder", "<init>", "()V"⟩))) (zeNd 11 (zeNd 10 (fun _ => ⟨"WagerQuiz", "<init>", "()V"⟩) (fun _ => ⟨"WagerQuizModel", "<init>", "()V"⟩)) (zeNd 12 (fun _ => ⟨"WagerQuiz$PickedClue", "copyFrom", "(LWagerQuiz$PickedClue;)V"⟩) (fun _ => ⟨"WagerQuiz$FinalRound", "copyFrom", "(LWagerQuiz$FinalRound;)V"⟩))))) (zeNd 19 (zeNd 16 (zeNd 14 (fun _ => ⟨"WagerQuiz$Log", "copyFrom", "(LWagerQuiz$Log;)V"⟩) (zeNd 15 (fun _ => ⟨"WagerQuiz$State", "copyFrom", "(LWagerQuiz$State;)V"⟩) (fun _ => ⟨"WagerQuiz$History", "prepare", "(LWagerQuiz$State;)V"⟩))) (zeNd 17 (fun _ => ⟨"WagerQuiz", "isBeforeFirstPick", "()Z"⟩) (zeNd 18 (fun _ => ⟨"WagerQuiz", "refused", "(I)I"⟩) (fun _ => ⟨"WagerQuiz", "doAddPlayer", "()I"⟩)))) (zeNd 22 (zeNd 20 (fun _ => ⟨"WagerQuiz", "isError", "(I)Z"⟩) (zeNd 21 (fun _ => ⟨"WagerQuiz$History", "commit", "()V"⟩) (fun _ => ⟨"WagerQuiz", "recorded", "(I)I"⟩))) (zeNd 24 (zeNd 23 (fun _ => ⟨"WagerQuiz", "addPlayer", "()I"⟩) (fun _ => ⟨"WagerQuizModel", "hasBegun", "()Z"⟩)) (zeNd 25 (fun _ => ⟨"WagerQuizModel", "refuse", "(I)I"⟩) (fun _ => ⟨"WagerQuizModel", "record", "()V"⟩)))))) (zeNd 39 (zeNd 32 (zeNd 29 (zeNd 27 (fun _ => ⟨"WagerQuizModel", "addPlayer", "()I"⟩) (zeNd 28 (fun _ => ⟨"WagerQuiz", "isClue", "(I)Z"⟩) (fun _ => ⟨"WagerQuiz", "bitOf", "(II)I"⟩))) (zeNd 30 (fun _ => ⟨"java/lang/Integer", "bitCount", "(I)I"⟩) (zeNd 31 (fun _ => ⟨"WagerQuiz", "doSetWagerClue", "(IZ)I"⟩) (fun _ => ⟨"WagerQuiz", "setWagerClue", "(IZ)I"⟩)))) (zeNd 35 (zeNd 33 (fun _ => ⟨"WagerQuizModel", "in", "(III)Z"⟩) (zeNd 34 (fun _ => ⟨"WagerQuizModel", "bits", "(I)I"⟩) (fun _ => ⟨"WagerQuizModel", "setWagerClue", "(IZ)I"⟩))) (zeNd 37 (zeNd 36 (fun _ => ⟨"WagerQuiz", "doSet", "(II)I"⟩) (fun _ => ⟨"WagerQuiz", "set", "(II)I"⟩)) (zeNd 38 (fun _ => ⟨"WagerQuizModel", "set", "(II)I"⟩) (fun _ => ⟨"WagerQuiz", "isPlayer", "(I)Z"⟩))))) (zeNd 46 (zeNd 42 (zeNd 40 (fun _ => ⟨"WagerQuiz", "controller", "()I"⟩) (zeNd 41 (fun _ => ⟨"WagerQuiz$PickedClue", "begin", "(III)V"⟩) (fun _ => ⟨"WagerQuiz", "valueOf", "(I)I"⟩))) (zeNd 44 (zeNd 43 (fun _ => ⟨"WagerQuiz", "doPick", "(II)I"⟩) (fun _ => ⟨"WagerQuiz", "pick", "(II)I"⟩)) (zeNd 45 (fun _ => ⟨"WagerQuizModel", "noPlayer", "(I)Z"⟩) (fun _ => ⟨"WagerQuizModel", "at", "(I)I"⟩)))) (zeNd 49 (zeNd 47 (fun _ => ⟨"WagerQuizModel", "isStealVoid", "(I)Z"⟩) (zeNd 48 (fun _ => ⟨"WagerQuizModel", "replay", "()V"⟩) (fun _ => ⟨"WagerQuizModel", "checkPick", "(II)I"⟩))) (zeNd 51 (zeNd 50 (fun _ => ⟨"WagerQuizModel", "value", "(I)I"⟩) (fun _ => ⟨"WagerQuizModel", "picks", "(I)I"⟩)) (zeNd 52 (fun _ => ⟨"WagerQuizModel", "pick", "(II)I"⟩) (fun _ => ⟨"WagerQuiz$PickedClue", "isTold", "(II)Z"⟩))))))) (zeNd 79 (zeNd 66 (zeNd 59 (zeNd 56 (zeNd 54 (fun _ => ⟨"WagerQuiz$PickedClue", "endOfLock", "(I)I"⟩) (zeNd 55 (fun _ => ⟨"WagerQuiz$PickedClue", "leastCountingTick", "(I)I"⟩) (fun _ => ⟨"WagerQuiz$PickedClue", "tell", "(II)V"⟩))) (zeNd 57 (fun _ => ⟨"WagerQuiz", "isQueued", "(I)Z"⟩) (zeNd 58 (fun _ => ⟨"WagerQuiz", "queueLength", "()I"⟩) (fun _ => ⟨"WagerQuiz", "doBuzz", "(II)I"⟩)))) (zeNd 62 (zeNd 60 (fun _ => ⟨"WagerQuiz", "buzz", "(II)I"⟩) (zeNd 61 (fun _ => ⟨"WagerQuizModel", "hasBuzzed", "(II)Z"⟩) (fun _ => ⟨"WagerQuizModel", "checkBuzz", "(II)I"⟩))) (zeNd 64 (zeNd 63 (fun _ => ⟨"WagerQuizModel", "counting", "(I)I"⟩) (fun _ => ⟨"WagerQuizModel", "isAhead", "(III)Z"⟩)) (zeNd 65 (fun _ => ⟨"WagerQuizModel", "queue", "()I"⟩) (fun _ => ⟨"WagerQuizModel", "buzzes", "(II)I"⟩))))) (zeNd 72 (zeNd 69 (zeNd 67 (fun _ => ⟨"WagerQuizModel", "buzz", "(II)I"⟩) (zeNd 68 (fun _ => ⟨"WagerQuiz", "isQueuedAhead", "(II)Z"⟩) (fun _ => ⟨"WagerQuiz", "queuePlaceOf", "(I)I"⟩))) (zeNd 70 (fun _ => ⟨"WagerQuiz", "playerInQueue", "(I)I"⟩) (zeNd 71 (fun _ => ⟨"WagerQuiz$Log", "isFull", "()Z"⟩) (fun _ => ⟨"WagerQuiz$Log", "append", "(IIIII)V"⟩)))) (zeNd 75 (zeNd 73 (fun _ => ⟨"WagerQuiz$Replay", "solverOf", "(I)I"⟩) (zeNd 74 (fun _ => ⟨"WagerQuiz$Replay", "limited", "(III)I"⟩) (fun _ => ⟨"WagerQuiz$Replay", "noteRight", "(II)V"⟩))) (zeNd 77 (zeNd 76 (fun _ => ⟨"WagerQuiz$Replay", "replayEntry", "(LWagerQuiz$Log;I)V"⟩) (fun _ => ⟨"WagerQuiz$Replay", "run", "(LWagerQuiz$Log;)V"⟩)) (zeNd 78 (fun _ => ⟨"WagerQuiz", "replayedScore", "(I)I"⟩) (fun _ => ⟨"WagerQuiz", "answerOpenClue", "(Z)I"⟩)))))) (zeNd 92 (zeNd 85 (zeNd 82 (zeNd 80 (fun _ => ⟨"WagerQuiz", "answerWagerClue", "(Z)I"⟩) (zeNd 81 (fun _ => ⟨"WagerQuiz$FinalRound", "isEarlier", "(II)Z"⟩) (fun _ => ⟨"WagerQuiz$FinalRound", "turnOf", "(I)I"⟩))) (zeNd 83 (fun _ => ⟨"WagerQuiz$FinalRound", "nextToAnswer", "()I"⟩) (zeNd 84 (fun _ => ⟨"WagerQuiz$FinalRound", "members", "()I"⟩) (fun _ => ⟨"WagerQuiz", "answerFinal", "(Z)I"⟩)))) (zeNd 88 (zeNd 86 (fun _ => ⟨"WagerQuiz", "doAnswer", "(Z)I"⟩) (zeNd 87 (fun _ => ⟨"WagerQuiz", "answer", "(Z)I"⟩) (fun _ => ⟨"WagerQuizModel", "checkAnswer", "()I"⟩))) (zeNd 90 (zeNd 89 (fun _ => ⟨"WagerQuizModel", "nextFinal", "()I"⟩) (fun _ => ⟨"WagerQuizModel", "enter", "(IIIII)V"⟩)) (zeNd 91 (fun _ => ⟨"WagerQuizModel", "answers", "(I)I"⟩) (fun _ => ⟨"WagerQuizModel", "answer", "(Z)I"⟩))))) (zeNd 99 (zeNd 95 (zeNd 93 (fun _ => ⟨"WagerQuiz", "doClose", "()I"⟩) (zeNd 94 (fun _ => ⟨"WagerQuiz", "close", "()I"⟩) (fun _ => ⟨"WagerQuizModel", "checkClose", "()I"⟩))) (zeNd 97 (zeNd 96 (fun _ => ⟨"WagerQuizModel", "closes", "()I"⟩) (fun _ => ⟨"WagerQuizModel", "close", "()I"⟩)) (zeNd 98 (fun _ => ⟨"WagerQuiz", "doWager", "(I)I"⟩) (fun _ => ⟨"WagerQuiz", "wager", "(I)I"⟩)))) (zeNd 102 (zeNd 100 (fun _ => ⟨"WagerQuizModel", "limit", "()I"⟩) (zeNd 101 (fun _ => ⟨"WagerQuizModel", "checkWager", "(I)I"⟩) (fun _ => ⟨"WagerQuizModel", "tellsWager", "(I)I"⟩))) (zeNd 104 (zeNd 103 (fun _ => ⟨"WagerQuizModel", "wager", "(I)I"⟩) (fun _ => ⟨"WagerQuiz$FinalRound", "begin", "([I)V"⟩)) (zeNd 105 (fun _ => ⟨"WagerQuiz", "doBeginFinal", "()I"⟩) (fun _ => ⟨"WagerQuiz", "beginFinal", "()I"⟩)))))))) (zeNd 159 (zeNd 132 (zeNd 119 (zeNd 112 (zeNd 109 (zeNd 107 (fun _ => ⟨"WagerQuizModel", "beginFinal", "()I"⟩) (zeNd 108 (fun _ => ⟨"WagerQuiz$FinalRound", "isWagerWanting", "(I)Z"⟩) (fun _ => ⟨"WagerQuiz$FinalRound", "wagersWanting", "()I"⟩))) (zeNd 110 (fun _ => ⟨"WagerQuiz", "doWagerFinal", "(II)I"⟩) (zeNd 111 (fun _ => ⟨"WagerQuiz", "wagerFinal", "(II)I"⟩) (fun _ => ⟨"WagerQuizModel", "wagerFinal", "(II)I"⟩)))) (zeNd 115 (zeNd 113 (fun _ => ⟨"WagerQuiz", "doubled", "(I)I"⟩) (zeNd 114 (fun _ => ⟨"WagerQuiz", "safeWager", "(I)I"⟩) (fun _ => ⟨"WagerQuizModel", "safeWager", "(I)I"⟩))) (zeNd 117 (zeNd 116 (fun _ => ⟨"WagerQuiz", "doCorrect", "(II)I"⟩) (fun _ => ⟨"WagerQuiz", "correct", "(II)I"⟩)) (zeNd 118 (fun _ => ⟨"WagerQuizModel", "correct", "(II)I"⟩) (fun _ => ⟨"WagerQuiz", "isEntry", "(I)Z"⟩))))) (zeNd 125 (zeNd 122 (zeNd 120 (fun _ => ⟨"WagerQuiz$Replay", "rememberScores", "()V"⟩) (zeNd 121 (fun _ => ⟨"WagerQuiz$Replay", "changedScores", "()I"⟩) (fun _ => ⟨"WagerQuiz", "doRejudge", "(I)I"⟩))) (zeNd 123 (fun _ => ⟨"WagerQuiz", "rejudge", "(I)I"⟩) (zeNd 124 (fun _ => ⟨"WagerQuizModel", "noEntry", "(I)Z"⟩) (fun _ => ⟨"WagerQuizModel", "rejudge", "(I)I"⟩)))) (zeNd 128 (zeNd 126 (fun _ => ⟨"WagerQuiz$Script", "append", "(C)Z"⟩) (zeNd 127 (fun _ => ⟨"WagerQuiz", "type", "(C)I"⟩) (fun _ => ⟨"WagerQuizModel", "type", "(C)I"⟩))) (zeNd 130 (zeNd 129 (fun _ => ⟨"WagerQuiz", "clearText", "()I"⟩) (fun _ => ⟨"WagerQuizModel", "clearText", "()I"⟩)) (zeNd 131 (fun _ => ⟨"WagerQuiz$Script", "signAt", "(I)C"⟩) (fun _ => ⟨"WagerQuiz$Script", "moveLength", "(I)I"⟩)))))) (zeNd 145 (zeNd 138 (zeNd 135 (zeNd 133 (fun _ => ⟨"WagerQuiz$Script", "greatestDigit", "(II)C"⟩) (zeNd 134 (fun _ => ⟨"WagerQuiz$Script", "isAllowed", "(II)Z"⟩) (fun _ => ⟨"WagerQuiz$Script", "fault", "()I"⟩))) (zeNd 136 (fun _ => ⟨"WagerQuiz$Script", "number", "(II)I"⟩) (zeNd 137 (fun _ => ⟨"WagerQuiz", "doMove", "(I)I"⟩) (fun _ => ⟨"WagerQuiz", "carryOutMoves", "()I"⟩)))) (zeNd 141 (zeNd 139 (fun _ => ⟨"WagerQuiz", "runScript", "()I"⟩) (zeNd 140 (fun _ => ⟨"WagerQuizModel", "digit", "(I)I"⟩) (fun _ => ⟨"WagerQuizModel", "readAll", "()I"⟩))) (zeNd 143 (zeNd 142 (fun _ => ⟨"WagerQuizModel", "check", "(I)I"⟩) (fun _ => ⟨"WagerQuizModel", "does", "(I)V"⟩)) (zeNd 144 (fun _ => ⟨"WagerQuizModel", "runScript", "()I"⟩) (fun _ => ⟨"WagerQuiz$History", "takeLatest", "()LWagerQuiz$State;"⟩))))) (zeNd 152 (zeNd 148 (zeNd 146 (fun _ => ⟨"WagerQuiz", "load", "(LWagerQuiz$State;)V"⟩) (zeNd 147 (fun _ => ⟨"WagerQuiz", "undo", "()I"⟩) (fun _ => ⟨"WagerQuizModel", "undo", "()I"⟩))) (zeNd 150 (zeNd 149 (fun _ => ⟨"WagerQuiz", "isSlot", "(I)Z"⟩) (fun _ => ⟨"WagerQuiz", "keep", "(I)I"⟩)) (zeNd 151 (fun _ => ⟨"WagerQuizModel", "keep", "(I)I"⟩) (fun _ => ⟨"WagerQuiz", "restore", "(I)I"⟩)))) (zeNd 155 (zeNd 153 (fun _ => ⟨"WagerQuizModel", "restore", "(I)I"⟩) (zeNd 154 (fun _ => ⟨"WagerQuiz", "playersAbove", "(I)I"⟩) (fun _ => ⟨"WagerQuiz$Replay", "isAhead", "(II)Z"⟩))) (zeNd 157 (zeNd 156 (fun _ => ⟨"WagerQuiz", "placeOf", "(I)I"⟩) (fun _ => ⟨"WagerQuiz", "player", "(II)I"⟩)) (zeNd 158 (fun _ => ⟨"WagerQuizModel", "rank", "(I)I"⟩) (fun _ => ⟨"WagerQuizModel", "isBefore", "(II)Z"⟩))))))) (zeNd 186 (zeNd 172 (zeNd 165 (zeNd 162 (zeNd 160 (fun _ => ⟨"WagerQuizModel", "placeOf", "(I)I"⟩) (zeNd 161 (fun _ => ⟨"WagerQuizModel", "orNone", "(I)I"⟩) (fun _ => ⟨"WagerQuizModel", "player", "(II)I"⟩))) (zeNd 163 (fun _ => ⟨"WagerQuiz", "playerAtPlace", "(I)I"⟩) (zeNd 164 (fun _ => ⟨"WagerQuiz", "ordered", "(I)I"⟩) (fun _ => ⟨"WagerQuizModel", "atPlace", "(I)I"⟩)))) (zeNd 168 (zeNd 166 (fun _ => ⟨"WagerQuizModel", "ordered", "(I)I"⟩) (zeNd 167 (fun _ => ⟨"WagerQuiz", "queued", "(I)I"⟩) (fun _ => ⟨"WagerQuizModel", "queued", "(I)I"⟩))) (zeNd 170 (zeNd 169 (fun _ => ⟨"WagerQuiz$Log", "answersTo", "(I)I"⟩) (fun _ => ⟨"WagerQuiz", "clue", "(II)I"⟩)) (zeNd 171 (fun _ => ⟨"WagerQuizModel", "isAnswer", "(II)Z"⟩) (fun _ => ⟨"WagerQuizModel", "clue", "(II)I"⟩))))) (zeNd 179 (zeNd 175 (zeNd 173 (fun _ => ⟨"WagerQuiz", "entry", "(II)I"⟩) (zeNd 174 (fun _ => ⟨"WagerQuizModel", "entry", "(II)I"⟩) (fun _ => ⟨"WagerQuiz", "isClueUnderWay", "()Z"⟩))) (zeNd 177 (zeNd 176 (fun _ => ⟨"WagerQuiz", "leaders", "()I"⟩) (fun _ => ⟨"WagerQuiz", "sumOfScores", "()I"⟩)) (zeNd 178 (fun _ => ⟨"WagerQuiz", "count", "(I)I"⟩) (fun _ => ⟨"WagerQuizModel", "leaders", "()I"⟩)))) (zeNd 182 (zeNd 180 (fun _ => ⟨"WagerQuizModel", "count", "(I)I"⟩) (zeNd 181 (fun _ => ⟨"jdk/internal/util/ArraysSupport", "newLength", "(III)I"⟩) (fun _ => ⟨"java/lang/AbstractStringBuilder", "newCapacity", "(I)I"⟩))) (zeNd 184 (zeNd 183 (fun _ => ⟨"java/util/Arrays", "copyOf", "([BI)[B"⟩) (fun _ => ⟨"java/lang/AbstractStringBuilder", "ensureCapacityInternal", "(I)V"⟩)) (zeNd 185 (fun _ => ⟨"java/lang/AbstractStringBuilder", "isLatin1", "()Z"⟩) (fun _ => ⟨"java/lang/AbstractStringBuilder", "setLength", "(I)V"⟩)))))) (zeNd 199 (zeNd 192 (zeNd 189 (zeNd 187 (fun _ => ⟨"java/lang/StringBuilder", "setLength", "(I)V"⟩) (zeNd 188 (fun _ => ⟨"java/lang/String", "coder", "()B"⟩) (fun _ => ⟨"java/lang/String", "length", "()I"⟩))) (zeNd 190 (fun _ => ⟨"java/lang/AbstractStringBuilder", "inflateIfNeededFor", "(Ljava/lang/String;)V"⟩) (zeNd 191 (fun _ => ⟨"java/lang/String", "getBytes", "([BIB)V"⟩) (fun _ => ⟨"java/lang/AbstractStringBuilder", "putStringAt", "(ILjava/lang/String;)V"⟩)))) (zeNd 195 (zeNd 193 (fun _ => ⟨"java/lang/AbstractStringBuilder", "append", "(Ljava/lang/String;)Ljava/lang/AbstractStringBuilder;"⟩) (zeNd 194 (fun _ => ⟨"java/lang/StringBuilder", "append", "(Ljava/lang/String;)Ljava/lang/StringBuilder;"⟩) (fun _ => ⟨"java/lang/Integer", "stringSize", "(I)I"⟩))) (zeNd 197 (zeNd 196 (fun _ => ⟨"java/lang/Integer", "getChars", "(II[B)I"⟩) (fun _ => ⟨"java/lang/AbstractStringBuilder", "append", "(I)Ljava/lang/AbstractStringBuilder;"⟩)) (zeNd 198 (fun _ => ⟨"java/lang/StringBuilder", "append", "(I)Ljava/lang/StringBuilder;"⟩) (fun _ => ⟨"java/lang/StringLatin1", "canEncode", "(C)Z"⟩))))) (zeNd 206 (zeNd 202 (zeNd 200 (fun _ => ⟨"java/lang/AbstractStringBuilder", "append", "(C)Ljava/lang/AbstractStringBuilder;"⟩) (zeNd 201 (fun _ => ⟨"java/lang/StringBuilder", "append", "(C)Ljava/lang/StringBuilder;"⟩) (fun _ => ⟨"WagerQuiz", "writeMessage", "()V"⟩))) (zeNd 204 (zeNd 203 (fun _ => ⟨"java/lang/AbstractStringBuilder", "length", "()I"⟩) (fun _ => ⟨"java/lang/StringBuilder", "length", "()I"⟩)) (zeNd 205 (fun _ => ⟨"jdk/internal/util/Preconditions", "checkIndex", "(IILjava/util/function/BiFunction;)I"⟩) (fun _ => ⟨"java/lang/String", "checkIndex", "(II)V"⟩)))) (zeNd 209 (zeNd 207 (fun _ => ⟨"java/lang/AbstractStringBuilder", "charAt", "(I)C"⟩) (zeNd 208 (fun _ => ⟨"java/lang/StringBuilder", "charAt", "(I)C"⟩) (fun _ => ⟨"WagerQuiz", "messageAt", "(I)I"⟩))) (zeNd 211 (zeNd 210 (fun _ => ⟨"WagerQuizModel", "write", "(I)V"⟩) (fun _ => ⟨"WagerQuizModel", "writeNumber", "(I)V"⟩)) (zeNd 212 (fun _ => ⟨"WagerQuizModel", "messageAt", "(I)I"⟩) (fun _ => ⟨"WagerQuizLaw", "law", "([I)Z"⟩)))))))))
def zeNl : Nat → Nat := (zeNd 106 (zeNd 53 (zeNd 26 (zeNd 13 (zeNd 6 (zeNd 3 (zeNd 1 (fun _ => 1) (zeNd 2 (fun _ => 2) (fun _ => 1))) (zeNd 4 (fun _ => 1) (zeNd 5 (fun _ => 2) (fun _ => 2)))) (zeNd 9 (zeNd 7 (fun _ => 1) (zeNd 8 (fun _ => 2) (fun _ => 1))) (zeNd 11 (zeNd 10 (fun _ => 2) (fun _ => 2)) (zeNd 12 (fun _ => 2) (fun _ => 2))))) (zeNd 19 (zeNd 16 (zeNd 14 (fun _ => 2) (zeNd 15 (fun _ => 2) (fun _ => 2))) (zeNd 17 (fun _ => 1) (zeNd 18 (fun _ => 2) (fun _ => 1)))) (zeNd 22 (zeNd 20 (fun _ => 1) (zeNd 21 (fun _ => 1) (fun _ => 2))) (zeNd 24 (zeNd 23 (fun _ => 1) (fun _ => 1)) (zeNd 25 (fun _ => 2) (fun _ => 2)))))) (zeNd 39 (zeNd 32 (zeNd 29 (zeNd 27 (fun _ => 1) (zeNd 28 (fun _ => 1) (fun _ => 2))) (zeNd 30 (fun _ => 1) (zeNd 31 (fun _ => 3) (fun _ => 3)))) (zeNd 35 (zeNd 33 (fun _ => 3) (zeNd 34 (fun _ => 3) (fun _ => 3))) (zeNd 37 (zeNd 36 (fun _ => 4) (fun _ => 3)) (zeNd 38 (fun _ => 4) (fun _ => 2))))) (zeNd 46 (zeNd 42 (zeNd 40 (fun _ => 1) (zeNd 41 (fun _ => 5) (fun _ => 1))) (zeNd 44 (zeNd 43 (fun _ => 3) (fun _ => 3)) (zeNd 45 (fun _ => 2) (fun _ => 1)))) (zeNd 49 (zeNd 47 (fun _ => 4) (zeNd 48 (fun _ => 7) (fun _ => 4))) (zeNd 51 (zeNd 50 (fun _ => 1) (fun _ => 3)) (zeNd 52 (fun _ => 4) (fun _ => 5))))))) (zeNd 79 (zeNd 66 (zeNd 59 (zeNd 56 (zeNd 54 (fun _ => 4) (zeNd 55 (fun _ => 3) (fun _ => 3))) (zeNd 57 (fun _ => 2) (zeNd 58 (fun _ => 3) (fun _ => 3)))) (zeNd 62 (zeNd 60 (fun _ => 3) (zeNd 61 (fun _ => 3) (fun _ => 3))) (zeNd 64 (zeNd 63 (fun _ => 4) (fun _ => 5)) (zeNd 65 (fun _ => 5) (fun _ => 3))))) (zeNd 72 (zeNd 69 (zeNd 67 (fun _ => 4) (zeNd 68 (fun _ => 5) (fun _ => 4))) (zeNd 70 (fun _ => 3) (zeNd 71 (fun _ => 1) (fun _ => 6)))) (zeNd 75 (zeNd 73 (fun _ => 2) (zeNd 74 (fun _ => 3) (fun _ => 3))) (zeNd 77 (zeNd 76 (fun _ => 5) (fun _ => 3)) (zeNd 78 (fun _ => 2) (fun _ => 5)))))) (zeNd 92 (zeNd 85 (zeNd 82 (zeNd 80 (fun _ => 3) (zeNd 81 (fun _ => 3) (fun _ => 4))) (zeNd 83 (fun _ => 2) (zeNd 84 (fun _ => 6) (fun _ => 3)))) (zeNd 88 (zeNd 86 (fun _ => 2) (zeNd 87 (fun _ => 2) (fun _ => 2))) (zeNd 90 (zeNd 89 (fun _ => 4) (fun _ => 7)) (zeNd 91 (fun _ => 7) (fun _ => 3))))) (zeNd 99 (zeNd 95 (zeNd 93 (fun _ => 1) (zeNd 94 (fun _ => 1) (fun _ => 1))) (zeNd 97 (zeNd 96 (fun _ => 1) (fun _ => 2)) (zeNd 98 (fun _ => 3) (fun _ => 2)))) (zeNd 102 (zeNd 100 (fun _ => 1) (zeNd 101 (fun _ => 2) (fun _ => 2))) (zeNd 104 (zeNd 103 (fun _ => 3) (fun _ => 3)) (zeNd 105 (fun _ => 2) (fun _ => 1)))))))) (zeNd 159 (zeNd 132 (zeNd 119 (zeNd 112 (zeNd 109 (zeNd 107 (fun _ => 3) (zeNd 108 (fun _ => 2) (fun _ => 3))) (zeNd 110 (fun _ => 4) (zeNd 111 (fun _ => 3) (fun _ => 6)))) (zeNd 115 (zeNd 113 (fun _ => 1) (zeNd 114 (fun _ => 5) (fun _ => 5))) (zeNd 117 (zeNd 116 (fun _ => 3) (fun _ => 3)) (zeNd 118 (fun _ => 3) (fun _ => 2))))) (zeNd 125 (zeNd 122 (zeNd 120 (fun _ => 1) (zeNd 121 (fun _ => 3) (fun _ => 2))) (zeNd 123 (fun _ => 2) (zeNd 124 (fun _ => 2) (fun _ => 5)))) (zeNd 128 (zeNd 126 (fun _ => 2) (zeNd 127 (fun _ => 2) (fun _ => 2))) (zeNd 130 (zeNd 129 (fun _ => 2) (fun _ => 2)) (zeNd 131 (fun _ => 2) (fun _ => 2)))))) (zeNd 145 (zeNd 138 (zeNd 135 (zeNd 133 (fun _ => 4) (zeNd 134 (fun _ => 4) (fun _ => 3))) (zeNd 136 (fun _ => 5) (zeNd 137 (fun _ => 2) (fun _ => 3)))) (zeNd 141 (zeNd 139 (fun _ => 3) (zeNd 140 (fun _ => 2) (fun _ => 9))) (zeNd 143 (zeNd 142 (fun _ => 3) (fun _ => 4)) (zeNd 144 (fun _ => 4) (fun _ => 1))))) (zeNd 152 (zeNd 148 (zeNd 146 (fun _ => 2) (zeNd 147 (fun _ => 1) (fun _ => 2))) (zeNd 150 (zeNd 149 (fun _ => 1) (fun _ => 2)) (zeNd 151 (fun _ => 3) (fun _ => 2)))) (zeNd 155 (zeNd 153 (fun _ => 3) (zeNd 154 (fun _ => 4) (fun _ => 3))) (zeNd 157 (zeNd 156 (fun _ => 4) (fun _ => 3)) (zeNd 158 (fun _ => 4) (fun _ => 3))))))) (zeNd 186 (zeNd 172 (zeNd 165 (zeNd 162 (zeNd 160 (fun _ => 4) (zeNd 161 (fun _ => 1) (fun _ => 3))) (zeNd 163 (fun _ => 3) (zeNd 164 (fun _ => 2) (fun _ => 4)))) (zeNd 168 (zeNd 166 (fun _ => 2) (zeNd 167 (fun _ => 2) (fun _ => 2))) (zeNd 170 (zeNd 169 (fun _ => 4) (fun _ => 3)) (zeNd 171 (fun _ => 3) (fun _ => 6))))) (zeNd 179 (zeNd 175 (zeNd 173 (fun _ => 3) (zeNd 174 (fun _ => 3) (fun _ => 1))) (zeNd 177 (zeNd 176 (fun _ => 3) (fun _ => 3)) (zeNd 178 (fun _ => 2) (fun _ => 3)))) (zeNd 182 (zeNd 180 (fun _ => 2) (zeNd 181 (fun _ => 4) (fun _ => 6))) (zeNd 184 (zeNd 183 (fun _ => 3) (fun _ => 3)) (zeNd 185 (fun _ => 1) (fun _ => 2)))))) (zeNd 199 (zeNd 192 (zeNd 189 (zeNd 187 (fun _ => 2) (zeNd 188 (fun _ => 1) (fun _ => 1))) (zeNd 190 (fun _ => 2) (zeNd 191 (fun _ => 4) (fun _ => 3)))) (zeNd 195 (zeNd 193 (fun _ => 3) (zeNd 194 (fun _ => 2) (fun _ => 4))) (zeNd 197 (zeNd 196 (fun _ => 7) (fun _ => 4)) (zeNd 198 (fun _ => 2) (fun _ => 1))))) (zeNd 206 (zeNd 202 (zeNd 200 (fun _ => 2) (zeNd 201 (fun _ => 2) (fun _ => 3))) (zeNd 204 (zeNd 203 (fun _ => 1) (fun _ => 1)) (zeNd 205 (fun _ => 3) (fun _ => 2)))) (zeNd 209 (zeNd 207 (fun _ => 5) (zeNd 208 (fun _ => 2) (fun _ => 2))) (zeNd 211 (zeNd 210 (fun _ => 2) (fun _ => 4)) (zeNd 212 (fun _ => 4) (fun _ => 4)))))))))
def zeRt : Nat → Option FieldType := (zeNd 106 (zeNd 53 (zeNd 26 (zeNd 13 (zeNd 6 (zeNd 3 (zeNd 1 (fun _ => none) (zeNd 2 (fun _ => none) (fun _ => none))) (zeNd 4 (fun _ => none) (zeNd 5 (fun _ => none) (fun _ => none)))) (zeNd 9 (zeNd 7 (fun _ => none) (zeNd 8 (fun _ => none) (fun _ => none))) (zeNd 11 (zeNd 10 (fun _ => none) (fun _ => none)) (zeNd 12 (fun _ => none) (fun _ => none))))) (zeNd 19 (zeNd 16 (zeNd 14 (fun _ => none) (zeNd 15 (fun _ => none) (fun _ => none))) (zeNd 17 (fun _ => (some .boolean)) (zeNd 18 (fun _ => (some .int)) (fun _ => (some .int))))) (zeNd 22 (zeNd 20 (fun _ => (some .boolean)) (zeNd 21 (fun _ => none) (fun _ => (some .int)))) (zeNd 24 (zeNd 23 (fun _ => (some .int)) (fun _ => (some .boolean))) (zeNd 25 (fun _ => (some .int)) (fun _ => none)))))) (zeNd 39 (zeNd 32 (zeNd 29 (zeNd 27 (fun _ => (some .int)) (zeNd 28 (fun _ => (some .boolean)) (fun _ => (some .int)))) (zeNd 30 (fun _ => (some .int)) (zeNd 31 (fun _ => (some .int)) (fun _ => (some .int))))) (zeNd 35 (zeNd 33 (fun _ => (some .boolean)) (zeNd 34 (fun _ => (some .int)) (fun _ => (some .int)))) (zeNd 37 (zeNd 36 (fun _ => (some .int)) (fun _ => (some .int))) (zeNd 38 (fun _ => (some .int)) (fun _ => (some .boolean)))))) (zeNd 46 (zeNd 42 (zeNd 40 (fun _ => (some .int)) (zeNd 41 (fun _ => none) (fun _ => (some .int)))) (zeNd 44 (zeNd 43 (fun _ => (some .int)) (fun _ => (some .int))) (zeNd 45 (fun _ => (some .boolean)) (fun _ => (some .int))))) (zeNd 49 (zeNd 47 (fun _ => (some .boolean)) (zeNd 48 (fun _ => none) (fun _ => (some .int)))) (zeNd 51 (zeNd 50 (fun _ => (some .int)) (fun _ => (some .int))) (zeNd 52 (fun _ => (some .int)) (fun _ => (some .boolean)))))))) (zeNd 79 (zeNd 66 (zeNd 59 (zeNd 56 (zeNd 54 (fun _ => (some .int)) (zeNd 55 (fun _ => (some .int)) (fun _ => none))) (zeNd 57 (fun _ => (some .boolean)) (zeNd 58 (fun _ => (some .int)) (fun _ => (some .int))))) (zeNd 62 (zeNd 60 (fun _ => (some .int)) (zeNd 61 (fun _ => (some .boolean)) (fun _ => (some .int)))) (zeNd 64 (zeNd 63 (fun _ => (some .int)) (fun _ => (some .boolean))) (zeNd 65 (fun _ => (some .int)) (fun _ => (some .int)))))) (zeNd 72 (zeNd 69 (zeNd 67 (fun _ => (some .int)) (zeNd 68 (fun _ => (some .boolean)) (fun _ => (some .int)))) (zeNd 70 (fun _ => (some .int)) (zeNd 71 (fun _ => (some .boolean)) (fun _ => none)))) (zeNd 75 (zeNd 73 (fun _ => (some .int)) (zeNd 74 (fun _ => (some .int)) (fun _ => none))) (zeNd 77 (zeNd 76 (fun _ => none) (fun _ => none)) (zeNd 78 (fun _ => (some .int)) (fun _ => (some .int))))))) (zeNd 92 (zeNd 85 (zeNd 82 (zeNd 80 (fun _ => (some .int)) (zeNd 81 (fun _ => (some .boolean)) (fun _ => (some .int)))) (zeNd 83 (fun _ => (some .int)) (zeNd 84 (fun _ => (some .int)) (fun _ => (some .int))))) (zeNd 88 (zeNd 86 (fun _ => (some .int)) (zeNd 87 (fun _ => (some .int)) (fun _ => (some .int)))) (zeNd 90 (zeNd 89 (fun _ => (some .int)) (fun _ => none)) (zeNd 91 (fun _ => (some .int)) (fun _ => (some .int)))))) (zeNd 99 (zeNd 95 (zeNd 93 (fun _ => (some .int)) (zeNd 94 (fun _ => (some .int)) (fun _ => (some .int)))) (zeNd 97 (zeNd 96 (fun _ => (some .int)) (fun _ => (some .int))) (zeNd 98 (fun _ => (some .int)) (fun _ => (some .int))))) (zeNd 102 (zeNd 100 (fun _ => (some .int)) (zeNd 101 (fun _ => (some .int)) (fun _ => (some .int)))) (zeNd 104 (zeNd 103 (fun _ => (some .int)) (fun _ => none)) (zeNd 105 (fun _ => (some .int)) (fun _ => (some .int))))))))) (zeNd 159 (zeNd 132 (zeNd 119 (zeNd 112 (zeNd 109 (zeNd 107 (fun _ => (some .int)) (zeNd 108 (fun _ => (some .boolean)) (fun _ => (some .int)))) (zeNd 110 (fun _ => (some .int)) (zeNd 111 (fun _ => (some .int)) (fun _ => (some .int))))) (zeNd 115 (zeNd 113 (fun _ => (some .int)) (zeNd 114 (fun _ => (some .int)) (fun _ => (some .int)))) (zeNd 117 (zeNd 116 (fun _ => (some .int)) (fun _ => (some .int))) (zeNd 118 (fun _ => (some .int)) (fun _ => (some .boolean)))))) (zeNd 125 (zeNd 122 (zeNd 120 (fun _ => none) (zeNd 121 (fun _ => (some .int)) (fun _ => (some .int)))) (zeNd 123 (fun _ => (some .int)) (zeNd 124 (fun _ => (some .boolean)) (fun _ => (some .int))))) (zeNd 128 (zeNd 126 (fun _ => (some .boolean)) (zeNd 127 (fun _ => (some .int)) (fun _ => (some .int)))) (zeNd 130 (zeNd 129 (fun _ => (some .int)) (fun _ => (some .int))) (zeNd 131 (fun _ => (some .char)) (fun _ => (some .int))))))) (zeNd 145 (zeNd 138 (zeNd 135 (zeNd 133 (fun _ => (some .char)) (zeNd 134 (fun _ => (some .boolean)) (fun _ => (some .int)))) (zeNd 136 (fun _ => (some .int)) (zeNd 137 (fun _ => (some .int)) (fun _ => (some .int))))) (zeNd 141 (zeNd 139 (fun _ => (some .int)) (zeNd 140 (fun _ => (some .int)) (fun _ => (some .int)))) (zeNd 143 (zeNd 142 (fun _ => (some .int)) (fun _ => none)) (zeNd 144 (fun _ => (some .int)) (fun _ => (some (.object "WagerQuiz$State"))))))) (zeNd 152 (zeNd 148 (zeNd 146 (fun _ => none) (zeNd 147 (fun _ => (some .int)) (fun _ => (some .int)))) (zeNd 150 (zeNd 149 (fun _ => (some .boolean)) (fun _ => (some .int))) (zeNd 151 (fun _ => (some .int)) (fun _ => (some .int))))) (zeNd 155 (zeNd 153 (fun _ => (some .int)) (zeNd 154 (fun _ => (some .int)) (fun _ => (some .boolean)))) (zeNd 157 (zeNd 156 (fun _ => (some .int)) (fun _ => (some .int))) (zeNd 158 (fun _ => (some .int)) (fun _ => (some .boolean)))))))) (zeNd 186 (zeNd 172 (zeNd 165 (zeNd 162 (zeNd 160 (fun _ => (some .int)) (zeNd 161 (fun _ => (some .int)) (fun _ => (some .int)))) (zeNd 163 (fun _ => (some .int)) (zeNd 164 (fun _ => (some .int)) (fun _ => (some .int))))) (zeNd 168 (zeNd 166 (fun _ => (some .int)) (zeNd 167 (fun _ => (some .int)) (fun _ => (some .int)))) (zeNd 170 (zeNd 169 (fun _ => (some .int)) (fun _ => (some .int))) (zeNd 171 (fun _ => (some .boolean)) (fun _ => (some .int)))))) (zeNd 179 (zeNd 175 (zeNd 173 (fun _ => (some .int)) (zeNd 174 (fun _ => (some .int)) (fun _ => (some .boolean)))) (zeNd 177 (zeNd 176 (fun _ => (some .int)) (fun _ => (some .int))) (zeNd 178 (fun _ => (some .int)) (fun _ => (some .int))))) (zeNd 182 (zeNd 180 (fun _ => (some .int)) (zeNd 181 (fun _ => (some .int)) (fun _ => (some .int)))) (zeNd 184 (zeNd 183 (fun _ => (some (.array .byte))) (fun _ => none)) (zeNd 185 (fun _ => (some .boolean)) (fun _ => none)))))) (zeNd 199 (zeNd 192 (zeNd 189 (zeNd 187 (fun _ => none) (zeNd 188 (fun _ => (some .byte)) (fun _ => (some .int)))) (zeNd 190 (fun _ => none) (zeNd 191 (fun _ => none) (fun _ => none)))) (zeNd 195 (zeNd 193 (fun _ => (some (.object "java/lang/AbstractStringBuilder"))) (zeNd 194 (fun _ => (some (.object "java/lang/StringBuilder"))) (fun _ => (some .int)))) (zeNd 197 (zeNd 196 (fun _ => (some .int)) (fun _ => (some (.object "java/lang/AbstractStringBuilder")))) (zeNd 198 (fun _ => (some (.object "java/lang/StringBuilder"))) (fun _ => (some .boolean)))))) (zeNd 206 (zeNd 202 (zeNd 200 (fun _ => (some (.object "java/lang/AbstractStringBuilder"))) (zeNd 201 (fun _ => (some (.object "java/lang/StringBuilder"))) (fun _ => none))) (zeNd 204 (zeNd 203 (fun _ => (some .int)) (fun _ => (some .int))) (zeNd 205 (fun _ => (some .int)) (fun _ => none)))) (zeNd 209 (zeNd 207 (fun _ => (some .char)) (zeNd 208 (fun _ => (some .char)) (fun _ => (some .int)))) (zeNd 211 (zeNd 210 (fun _ => none) (fun _ => none)) (zeNd 212 (fun _ => (some .int)) (fun _ => (some .boolean))))))))))
def zeRk : Nat → Instr := (zeNd 106 (zeNd 53 (zeNd 26 (zeNd 13 (zeNd 6 (zeNd 3 (zeNd 1 (fun _ => .return_) (zeNd 2 (fun _ => .return_) (fun _ => .return_))) (zeNd 4 (fun _ => .return_) (zeNd 5 (fun _ => .return_) (fun _ => .return_)))) (zeNd 9 (zeNd 7 (fun _ => .return_) (zeNd 8 (fun _ => .return_) (fun _ => .return_))) (zeNd 11 (zeNd 10 (fun _ => .return_) (fun _ => .return_)) (zeNd 12 (fun _ => .return_) (fun _ => .return_))))) (zeNd 19 (zeNd 16 (zeNd 14 (fun _ => .return_) (zeNd 15 (fun _ => .return_) (fun _ => .return_))) (zeNd 17 (fun _ => .ireturn) (zeNd 18 (fun _ => .ireturn) (fun _ => .ireturn)))) (zeNd 22 (zeNd 20 (fun _ => .ireturn) (zeNd 21 (fun _ => .return_) (fun _ => .ireturn))) (zeNd 24 (zeNd 23 (fun _ => .ireturn) (fun _ => .ireturn)) (zeNd 25 (fun _ => .ireturn) (fun _ => .return_)))))) (zeNd 39 (zeNd 32 (zeNd 29 (zeNd 27 (fun _ => .ireturn) (zeNd 28 (fun _ => .ireturn) (fun _ => .ireturn))) (zeNd 30 (fun _ => .ireturn) (zeNd 31 (fun _ => .ireturn) (fun _ => .ireturn)))) (zeNd 35 (zeNd 33 (fun _ => .ireturn) (zeNd 34 (fun _ => .ireturn) (fun _ => .ireturn))) (zeNd 37 (zeNd 36 (fun _ => .ireturn) (fun _ => .ireturn)) (zeNd 38 (fun _ => .ireturn) (fun _ => .ireturn))))) (zeNd 46 (zeNd 42 (zeNd 40 (fun _ => .ireturn) (zeNd 41 (fun _ => .return_) (fun _ => .ireturn))) (zeNd 44 (zeNd 43 (fun _ => .ireturn) (fun _ => .ireturn)) (zeNd 45 (fun _ => .ireturn) (fun _ => .ireturn)))) (zeNd 49 (zeNd 47 (fun _ => .ireturn) (zeNd 48 (fun _ => .return_) (fun _ => .ireturn))) (zeNd 51 (zeNd 50 (fun _ => .ireturn) (fun _ => .ireturn)) (zeNd 52 (fun _ => .ireturn) (fun _ => .ireturn))))))) (zeNd 79 (zeNd 66 (zeNd 59 (zeNd 56 (zeNd 54 (fun _ => .ireturn) (zeNd 55 (fun _ => .ireturn) (fun _ => .return_))) (zeNd 57 (fun _ => .ireturn) (zeNd 58 (fun _ => .ireturn) (fun _ => .ireturn)))) (zeNd 62 (zeNd 60 (fun _ => .ireturn) (zeNd 61 (fun _ => .ireturn) (fun _ => .ireturn))) (zeNd 64 (zeNd 63 (fun _ => .ireturn) (fun _ => .ireturn)) (zeNd 65 (fun _ => .ireturn) (fun _ => .ireturn))))) (zeNd 72 (zeNd 69 (zeNd 67 (fun _ => .ireturn) (zeNd 68 (fun _ => .ireturn) (fun _ => .ireturn))) (zeNd 70 (fun _ => .ireturn) (zeNd 71 (fun _ => .ireturn) (fun _ => .return_)))) (zeNd 75 (zeNd 73 (fun _ => .ireturn) (zeNd 74 (fun _ => .ireturn) (fun _ => .return_))) (zeNd 77 (zeNd 76 (fun _ => .return_) (fun _ => .return_)) (zeNd 78 (fun _ => .ireturn) (fun _ => .ireturn)))))) (zeNd 92 (zeNd 85 (zeNd 82 (zeNd 80 (fun _ => .ireturn) (zeNd 81 (fun _ => .ireturn) (fun _ => .ireturn))) (zeNd 83 (fun _ => .ireturn) (zeNd 84 (fun _ => .ireturn) (fun _ => .ireturn)))) (zeNd 88 (zeNd 86 (fun _ => .ireturn) (zeNd 87 (fun _ => .ireturn) (fun _ => .ireturn))) (zeNd 90 (zeNd 89 (fun _ => .ireturn) (fun _ => .return_)) (zeNd 91 (fun _ => .ireturn) (fun _ => .ireturn))))) (zeNd 99 (zeNd 95 (zeNd 93 (fun _ => .ireturn) (zeNd 94 (fun _ => .ireturn) (fun _ => .ireturn))) (zeNd 97 (zeNd 96 (fun _ => .ireturn) (fun _ => .ireturn)) (zeNd 98 (fun _ => .ireturn) (fun _ => .ireturn)))) (zeNd 102 (zeNd 100 (fun _ => .ireturn) (zeNd 101 (fun _ => .ireturn) (fun _ => .ireturn))) (zeNd 104 (zeNd 103 (fun _ => .ireturn) (fun _ => .return_)) (zeNd 105 (fun _ => .ireturn) (fun _ => .ireturn)))))))) (zeNd 159 (zeNd 132 (zeNd 119 (zeNd 112 (zeNd 109 (zeNd 107 (fun _ => .ireturn) (zeNd 108 (fun _ => .ireturn) (fun _ => .ireturn))) (zeNd 110 (fun _ => .ireturn) (zeNd 111 (fun _ => .ireturn) (fun _ => .ireturn)))) (zeNd 115 (zeNd 113 (fun _ => .ireturn) (zeNd 114 (fun _ => .ireturn) (fun _ => .ireturn))) (zeNd 117 (zeNd 116 (fun _ => .ireturn) (fun _ => .ireturn)) (zeNd 118 (fun _ => .ireturn) (fun _ => .ireturn))))) (zeNd 125 (zeNd 122 (zeNd 120 (fun _ => .return_) (zeNd 121 (fun _ => .ireturn) (fun _ => .ireturn))) (zeNd 123 (fun _ => .ireturn) (zeNd 124 (fun _ => .ireturn) (fun _ => .ireturn)))) (zeNd 128 (zeNd 126 (fun _ => .ireturn) (zeNd 127 (fun _ => .ireturn) (fun _ => .ireturn))) (zeNd 130 (zeNd 129 (fun _ => .ireturn) (fun _ => .ireturn)) (zeNd 131 (fun _ => .ireturn) (fun _ => .ireturn)))))) (zeNd 145 (zeNd 138 (zeNd 135 (zeNd 133 (fun _ => .ireturn) (zeNd 134 (fun _ => .ireturn) (fun _ => .ireturn))) (zeNd 136 (fun _ => .ireturn) (zeNd 137 (fun _ => .ireturn) (fun _ => .ireturn)))) (zeNd 141 (zeNd 139 (fun _ => .ireturn) (zeNd 140 (fun _ => .ireturn) (fun _ => .ireturn))) (zeNd 143 (zeNd 142 (fun _ => .ireturn) (fun _ => .return_)) (zeNd 144 (fun _ => .ireturn) (fun _ => .areturn))))) (zeNd 152 (zeNd 148 (zeNd 146 (fun _ => .return_) (zeNd 147 (fun _ => .ireturn) (fun _ => .ireturn))) (zeNd 150 (zeNd 149 (fun _ => .ireturn) (fun _ => .ireturn)) (zeNd 151 (fun _ => .ireturn) (fun _ => .ireturn)))) (zeNd 155 (zeNd 153 (fun _ => .ireturn) (zeNd 154 (fun _ => .ireturn) (fun _ => .ireturn))) (zeNd 157 (zeNd 156 (fun _ => .ireturn) (fun _ => .ireturn)) (zeNd 158 (fun _ => .ireturn) (fun _ => .ireturn))))))) (zeNd 186 (zeNd 172 (zeNd 165 (zeNd 162 (zeNd 160 (fun _ => .ireturn) (zeNd 161 (fun _ => .ireturn) (fun _ => .ireturn))) (zeNd 163 (fun _ => .ireturn) (zeNd 164 (fun _ => .ireturn) (fun _ => .ireturn)))) (zeNd 168 (zeNd 166 (fun _ => .ireturn) (zeNd 167 (fun _ => .ireturn) (fun _ => .ireturn))) (zeNd 170 (zeNd 169 (fun _ => .ireturn) (fun _ => .ireturn)) (zeNd 171 (fun _ => .ireturn) (fun _ => .ireturn))))) (zeNd 179 (zeNd 175 (zeNd 173 (fun _ => .ireturn) (zeNd 174 (fun _ => .ireturn) (fun _ => .ireturn))) (zeNd 177 (zeNd 176 (fun _ => .ireturn) (fun _ => .ireturn)) (zeNd 178 (fun _ => .ireturn) (fun _ => .ireturn)))) (zeNd 182 (zeNd 180 (fun _ => .ireturn) (zeNd 181 (fun _ => .ireturn) (fun _ => .ireturn))) (zeNd 184 (zeNd 183 (fun _ => .areturn) (fun _ => .return_)) (zeNd 185 (fun _ => .ireturn) (fun _ => .return_)))))) (zeNd 199 (zeNd 192 (zeNd 189 (zeNd 187 (fun _ => .return_) (zeNd 188 (fun _ => .ireturn) (fun _ => .ireturn))) (zeNd 190 (fun _ => .return_) (zeNd 191 (fun _ => .return_) (fun _ => .return_)))) (zeNd 195 (zeNd 193 (fun _ => .areturn) (zeNd 194 (fun _ => .areturn) (fun _ => .ireturn))) (zeNd 197 (zeNd 196 (fun _ => .ireturn) (fun _ => .areturn)) (zeNd 198 (fun _ => .areturn) (fun _ => .ireturn))))) (zeNd 206 (zeNd 202 (zeNd 200 (fun _ => .areturn) (zeNd 201 (fun _ => .areturn) (fun _ => .return_))) (zeNd 204 (zeNd 203 (fun _ => .ireturn) (fun _ => .ireturn)) (zeNd 205 (fun _ => .ireturn) (fun _ => .return_)))) (zeNd 209 (zeNd 207 (fun _ => .ireturn) (zeNd 208 (fun _ => .ireturn) (fun _ => .ireturn))) (zeNd 211 (zeNd 210 (fun _ => .return_) (fun _ => .return_)) (zeNd 212 (fun _ => .ireturn) (fun _ => .ireturn)))))))))
def zeDp : Nat → Nat := (zeNd 106 (zeNd 53 (zeNd 26 (zeNd 13 (zeNd 6 (zeNd 3 (zeNd 1 (fun _ => 1) (zeNd 2 (fun _ => 1) (fun _ => 1))) (zeNd 4 (fun _ => 2) (zeNd 5 (fun _ => 1) (fun _ => 3)))) (zeNd 9 (zeNd 7 (fun _ => 1) (zeNd 8 (fun _ => 1) (fun _ => 2))) (zeNd 11 (zeNd 10 (fun _ => 4) (fun _ => 1)) (zeNd 12 (fun _ => 1) (fun _ => 1))))) (zeNd 19 (zeNd 16 (zeNd 14 (fun _ => 1) (zeNd 15 (fun _ => 2) (fun _ => 3))) (zeNd 17 (fun _ => 0) (zeNd 18 (fun _ => 0) (fun _ => 1)))) (zeNd 22 (zeNd 20 (fun _ => 0) (zeNd 21 (fun _ => 0) (fun _ => 1))) (zeNd 24 (zeNd 23 (fun _ => 4) (fun _ => 0)) (zeNd 25 (fun _ => 0) (fun _ => 0)))))) (zeNd 39 (zeNd 32 (zeNd 29 (zeNd 27 (fun _ => 1) (zeNd 28 (fun _ => 0) (fun _ => 0))) (zeNd 30 (fun _ => 0) (zeNd 31 (fun _ => 1) (fun _ => 4)))) (zeNd 35 (zeNd 33 (fun _ => 0) (zeNd 34 (fun _ => 0) (fun _ => 1))) (zeNd 37 (zeNd 36 (fun _ => 0) (fun _ => 4)) (zeNd 38 (fun _ => 1) (fun _ => 0))))) (zeNd 46 (zeNd 42 (zeNd 40 (fun _ => 0) (zeNd 41 (fun _ => 0) (fun _ => 0))) (zeNd 44 (zeNd 43 (fun _ => 1) (fun _ => 4)) (zeNd 45 (fun _ => 1) (fun _ => 0)))) (zeNd 49 (zeNd 47 (fun _ => 1) (zeNd 48 (fun _ => 2) (fun _ => 3))) (zeNd 51 (zeNd 50 (fun _ => 0) (fun _ => 1)) (zeNd 52 (fun _ => 4) (fun _ => 0))))))) (zeNd 79 (zeNd 66 (zeNd 59 (zeNd 56 (zeNd 54 (fun _ => 1) (zeNd 55 (fun _ => 2) (fun _ => 3))) (zeNd 57 (fun _ => 1) (zeNd 58 (fun _ => 2) (fun _ => 4)))) (zeNd 62 (zeNd 60 (fun _ => 5) (zeNd 61 (fun _ => 0) (fun _ => 2))) (zeNd 64 (zeNd 63 (fun _ => 1) (fun _ => 2)) (zeNd 65 (fun _ => 3) (fun _ => 4))))) (zeNd 72 (zeNd 69 (zeNd 67 (fun _ => 5) (zeNd 68 (fun _ => 0) (fun _ => 2))) (zeNd 70 (fun _ => 3) (zeNd 71 (fun _ => 0) (fun _ => 1)))) (zeNd 75 (zeNd 73 (fun _ => 1) (zeNd 74 (fun _ => 1) (fun _ => 1))) (zeNd 77 (zeNd 76 (fun _ => 2) (fun _ => 3)) (zeNd 78 (fun _ => 4) (fun _ => 5)))))) (zeNd 92 (zeNd 85 (zeNd 82 (zeNd 80 (fun _ => 5) (zeNd 81 (fun _ => 0) (fun _ => 1))) (zeNd 83 (fun _ => 2) (zeNd 84 (fun _ => 0) (fun _ => 5)))) (zeNd 88 (zeNd 86 (fun _ => 6) (zeNd 87 (fun _ => 7) (fun _ => 4))) (zeNd 90 (zeNd 89 (fun _ => 0) (fun _ => 1)) (zeNd 91 (fun _ => 4) (fun _ => 5))))) (zeNd 99 (zeNd 95 (zeNd 93 (fun _ => 1) (zeNd 94 (fun _ => 4) (fun _ => 1))) (zeNd 97 (zeNd 96 (fun _ => 1) (fun _ => 2)) (zeNd 98 (fun _ => 1) (fun _ => 4)))) (zeNd 102 (zeNd 100 (fun _ => 3) (zeNd 101 (fun _ => 4) (fun _ => 4))) (zeNd 104 (zeNd 103 (fun _ => 5) (fun _ => 1)) (zeNd 105 (fun _ => 2) (fun _ => 4)))))))) (zeNd 159 (zeNd 132 (zeNd 119 (zeNd 112 (zeNd 109 (zeNd 107 (fun _ => 3) (zeNd 108 (fun _ => 0) (fun _ => 1))) (zeNd 110 (fun _ => 2) (zeNd 111 (fun _ => 4) (fun _ => 2)))) (zeNd 115 (zeNd 113 (fun _ => 0) (zeNd 114 (fun _ => 1) (fun _ => 3))) (zeNd 117 (zeNd 116 (fun _ => 5) (fun _ => 6)) (zeNd 118 (fun _ => 3) (fun _ => 0))))) (zeNd 125 (zeNd 122 (zeNd 120 (fun _ => 1) (zeNd 121 (fun _ => 0) (fun _ => 4))) (zeNd 123 (fun _ => 5) (zeNd 124 (fun _ => 1) (fun _ => 3)))) (zeNd 128 (zeNd 126 (fun _ => 0) (zeNd 127 (fun _ => 1) (fun _ => 0))) (zeNd 130 (zeNd 129 (fun _ => 0) (fun _ => 0)) (zeNd 131 (fun _ => 0) (fun _ => 1)))))) (zeNd 145 (zeNd 138 (zeNd 135 (zeNd 133 (fun _ => 1) (zeNd 134 (fun _ => 2) (fun _ => 3))) (zeNd 136 (fun _ => 1) (zeNd 137 (fun _ => 7) (fun _ => 8)))) (zeNd 141 (zeNd 139 (fun _ => 9) (zeNd 140 (fun _ => 1) (fun _ => 2))) (zeNd 143 (zeNd 142 (fun _ => 5) (fun _ => 5)) (zeNd 144 (fun _ => 6) (fun _ => 0))))) (zeNd 152 (zeNd 148 (zeNd 146 (fun _ => 4) (zeNd 147 (fun _ => 5) (fun _ => 0))) (zeNd 150 (zeNd 149 (fun _ => 0) (fun _ => 3)) (zeNd 151 (fun _ => 1) (fun _ => 5)))) (zeNd 155 (zeNd 153 (fun _ => 1) (zeNd 154 (fun _ => 0) (fun _ => 0))) (zeNd 157 (zeNd 156 (fun _ => 1) (fun _ => 2)) (zeNd 158 (fun _ => 0) (fun _ => 0))))))) (zeNd 186 (zeNd 172 (zeNd 165 (zeNd 162 (zeNd 160 (fun _ => 1) (zeNd 161 (fun _ => 0) (fun _ => 3))) (zeNd 163 (fun _ => 2) (zeNd 164 (fun _ => 3) (fun _ => 2)))) (zeNd 168 (zeNd 166 (fun _ => 3) (zeNd 167 (fun _ => 4) (fun _ => 4))) (zeNd 170 (zeNd 169 (fun _ => 0) (fun _ => 1)) (zeNd 171 (fun _ => 1) (fun _ => 3))))) (zeNd 179 (zeNd 175 (zeNd 173 (fun _ => 1) (zeNd 174 (fun _ => 3) (fun _ => 0))) (zeNd 177 (zeNd 176 (fun _ => 1) (fun _ => 0)) (zeNd 178 (fun _ => 3) (fun _ => 1)))) (zeNd 182 (zeNd 180 (fun _ => 3) (zeNd 181 (fun _ => 1) (fun _ => 2))) (zeNd 184 (zeNd 183 (fun _ => 1) (fun _ => 3)) (zeNd 185 (fun _ => 0) (fun _ => 4)))))) (zeNd 199 (zeNd 192 (zeNd 189 (zeNd 187 (fun _ => 5) (zeNd 188 (fun _ => 0) (fun _ => 1))) (zeNd 190 (fun _ => 1) (zeNd 191 (fun _ => 1) (fun _ => 2)))) (zeNd 195 (zeNd 193 (fun _ => 4) (zeNd 194 (fun _ => 5) (fun _ => 0))) (zeNd 197 (zeNd 196 (fun _ => 0) (fun _ => 4)) (zeNd 198 (fun _ => 5) (fun _ => 0))))) (zeNd 206 (zeNd 202 (zeNd 200 (fun _ => 4) (zeNd 201 (fun _ => 5) (fun _ => 6))) (zeNd 204 (zeNd 203 (fun _ => 0) (fun _ => 1)) (zeNd 205 (fun _ => 0) (fun _ => 1)))) (zeNd 209 (zeNd 207 (fun _ => 2) (zeNd 208 (fun _ => 3) (fun _ => 7))) (zeNd 211 (zeNd 210 (fun _ => 0) (fun _ => 1)) (zeNd 212 (fun _ => 3) (fun _ => 10)))))))))
def zeLc : Nat → Nat := (zeNd 106 (zeNd 53 (zeNd 26 (zeNd 13 (zeNd 6 (zeNd 3 (zeNd 1 (fun _ => 30) (zeNd 2 (fun _ => 30) (fun _ => 30))) (zeNd 4 (fun _ => 51) (zeNd 5 (fun _ => 30) (fun _ => 71)))) (zeNd 9 (zeNd 7 (fun _ => 30) (zeNd 8 (fun _ => 30) (fun _ => 51))) (zeNd 11 (zeNd 10 (fun _ => 92) (fun _ => 30)) (zeNd 12 (fun _ => 30) (fun _ => 30))))) (zeNd 19 (zeNd 16 (zeNd 14 (fun _ => 30) (zeNd 15 (fun _ => 51) (fun _ => 72))) (zeNd 17 (fun _ => 0) (zeNd 18 (fun _ => 0) (fun _ => 21)))) (zeNd 22 (zeNd 20 (fun _ => 0) (zeNd 21 (fun _ => 0) (fun _ => 20))) (zeNd 24 (zeNd 23 (fun _ => 93) (fun _ => 0)) (zeNd 25 (fun _ => 0) (fun _ => 0)))))) (zeNd 39 (zeNd 32 (zeNd 29 (zeNd 27 (fun _ => 21) (zeNd 28 (fun _ => 0) (fun _ => 0))) (zeNd 30 (fun _ => 0) (zeNd 31 (fun _ => 21) (fun _ => 93)))) (zeNd 35 (zeNd 33 (fun _ => 0) (zeNd 34 (fun _ => 0) (fun _ => 22))) (zeNd 37 (zeNd 36 (fun _ => 0) (fun _ => 93)) (zeNd 38 (fun _ => 22) (fun _ => 0))))) (zeNd 46 (zeNd 42 (zeNd 40 (fun _ => 0) (zeNd 41 (fun _ => 0) (fun _ => 0))) (zeNd 44 (zeNd 43 (fun _ => 24) (fun _ => 93)) (zeNd 45 (fun _ => 22) (fun _ => 0)))) (zeNd 49 (zeNd 47 (fun _ => 20) (zeNd 48 (fun _ => 43) (fun _ => 69))) (zeNd 51 (zeNd 50 (fun _ => 0) (fun _ => 20)) (zeNd 52 (fun _ => 92) (fun _ => 0))))))) (zeNd 79 (zeNd 66 (zeNd 59 (zeNd 56 (zeNd 54 (fun _ => 30) (zeNd 55 (fun _ => 53) (fun _ => 75))) (zeNd 57 (fun _ => 21) (zeNd 58 (fun _ => 42) (fun _ => 97)))) (zeNd 62 (zeNd 60 (fun _ => 119) (zeNd 61 (fun _ => 0) (fun _ => 43))) (zeNd 64 (zeNd 63 (fun _ => 22) (fun _ => 45)) (zeNd 65 (fun _ => 69) (fun _ => 93))))) (zeNd 72 (zeNd 69 (zeNd 67 (fun _ => 115) (zeNd 68 (fun _ => 0) (fun _ => 42))) (zeNd 70 (fun _ => 65) (zeNd 71 (fun _ => 0) (fun _ => 20)))) (zeNd 75 (zeNd 73 (fun _ => 20) (zeNd 74 (fun _ => 30) (fun _ => 20))) (zeNd 77 (zeNd 76 (fun _ => 52) (fun _ => 76)) (zeNd 78 (fun _ => 98) (fun _ => 119)))))) (zeNd 92 (zeNd 85 (zeNd 82 (zeNd 80 (fun _ => 119) (zeNd 81 (fun _ => 0) (fun _ => 22))) (zeNd 83 (fun _ => 45) (zeNd 84 (fun _ => 0) (fun _ => 119)))) (zeNd 88 (zeNd 86 (fun _ => 143) (zeNd 87 (fun _ => 164) (fun _ => 93))) (zeNd 90 (zeNd 89 (fun _ => 0) (fun _ => 20)) (zeNd 91 (fun _ => 93) (fun _ => 119))))) (zeNd 99 (zeNd 95 (zeNd 93 (fun _ => 21) (zeNd 94 (fun _ => 93) (fun _ => 21))) (zeNd 97 (zeNd 96 (fun _ => 22) (fun _ => 42)) (zeNd 98 (fun _ => 30) (fun _ => 93)))) (zeNd 102 (zeNd 100 (fun _ => 69) (zeNd 101 (fun _ => 89) (fun _ => 89))) (zeNd 104 (zeNd 103 (fun _ => 110) (fun _ => 30)) (zeNd 105 (fun _ => 52) (fun _ => 93)))))))) (zeNd 159 (zeNd 132 (zeNd 119 (zeNd 112 (zeNd 109 (zeNd 107 (fun _ => 69) (zeNd 108 (fun _ => 0) (fun _ => 21))) (zeNd 110 (fun _ => 43) (zeNd 111 (fun _ => 93) (fun _ => 43)))) (zeNd 115 (zeNd 113 (fun _ => 0) (zeNd 114 (fun _ => 30) (fun _ => 69))) (zeNd 117 (zeNd 116 (fun _ => 119) (fun _ => 141)) (zeNd 118 (fun _ => 69) (fun _ => 0))))) (zeNd 125 (zeNd 122 (zeNd 120 (fun _ => 30) (zeNd 121 (fun _ => 0) (fun _ => 98))) (zeNd 123 (fun _ => 119) (zeNd 124 (fun _ => 22) (fun _ => 69)))) (zeNd 128 (zeNd 126 (fun _ => 0) (zeNd 127 (fun _ => 21) (fun _ => 0))) (zeNd 130 (zeNd 129 (fun _ => 0) (fun _ => 0)) (zeNd 131 (fun _ => 0) (fun _ => 21)))))) (zeNd 145 (zeNd 138 (zeNd 135 (zeNd 133 (fun _ => 21) (zeNd 134 (fun _ => 44) (fun _ => 67))) (zeNd 136 (fun _ => 21) (zeNd 137 (fun _ => 164) (fun _ => 185)))) (zeNd 141 (zeNd 139 (fun _ => 207) (zeNd 140 (fun _ => 22) (fun _ => 43))) (zeNd 143 (zeNd 142 (fun _ => 114) (fun _ => 119)) (zeNd 144 (fun _ => 142) (fun _ => 0))))) (zeNd 152 (zeNd 148 (zeNd 146 (fun _ => 98) (zeNd 147 (fun _ => 119) (fun _ => 0))) (zeNd 150 (zeNd 149 (fun _ => 0) (fun _ => 72)) (zeNd 151 (fun _ => 22) (fun _ => 119)))) (zeNd 155 (zeNd 153 (fun _ => 22) (zeNd 154 (fun _ => 0) (fun _ => 0))) (zeNd 157 (zeNd 156 (fun _ => 22) (fun _ => 45)) (zeNd 158 (fun _ => 0) (fun _ => 0))))))) (zeNd 186 (zeNd 172 (zeNd 165 (zeNd 162 (zeNd 160 (fun _ => 22) (zeNd 161 (fun _ => 0) (fun _ => 69))) (zeNd 163 (fun _ => 45) (zeNd 164 (fun _ => 67) (fun _ => 45)))) (zeNd 168 (zeNd 166 (fun _ => 69) (zeNd 167 (fun _ => 87) (fun _ => 93))) (zeNd 170 (zeNd 169 (fun _ => 0) (fun _ => 23)) (zeNd 171 (fun _ => 20) (fun _ => 69))))) (zeNd 179 (zeNd 175 (zeNd 173 (fun _ => 21) (zeNd 174 (fun _ => 69) (fun _ => 0))) (zeNd 177 (zeNd 176 (fun _ => 23) (fun _ => 0)) (zeNd 178 (fun _ => 66) (fun _ => 23)))) (zeNd 182 (zeNd 180 (fun _ => 69) (zeNd 181 (fun _ => 30) (fun _ => 53))) (zeNd 184 (zeNd 183 (fun _ => 30) (fun _ => 78)) (zeNd 185 (fun _ => 0) (fun _ => 100)))))) (zeNd 199 (zeNd 192 (zeNd 189 (zeNd 187 (fun _ => 121) (zeNd 188 (fun _ => 0) (fun _ => 20))) (zeNd 190 (fun _ => 20) (zeNd 191 (fun _ => 30) (fun _ => 53)))) (zeNd 195 (zeNd 193 (fun _ => 100) (zeNd 194 (fun _ => 122) (fun _ => 0))) (zeNd 197 (zeNd 196 (fun _ => 0) (fun _ => 100)) (zeNd 198 (fun _ => 123) (fun _ => 0))))) (zeNd 206 (zeNd 202 (zeNd 200 (fun _ => 100) (zeNd 201 (fun _ => 121) (fun _ => 144))) (zeNd 204 (zeNd 203 (fun _ => 0) (fun _ => 20)) (zeNd 205 (fun _ => 0) (fun _ => 22)))) (zeNd 209 (zeNd 207 (fun _ => 43) (zeNd 208 (fun _ => 67) (fun _ => 166))) (zeNd 211 (zeNd 210 (fun _ => 0) (fun _ => 21)) (zeNd 212 (fun _ => 69) (fun _ => 229)))))))))
def zeLg : Nat → Bool := (zeNd 106 (zeNd 53 (zeNd 26 (zeNd 13 (zeNd 6 (zeNd 3 (zeNd 1 (fun _ => false) (zeNd 2 (fun _ => false) (fun _ => false))) (zeNd 4 (fun _ => false) (zeNd 5 (fun _ => false) (fun _ => false)))) (zeNd 9 (zeNd 7 (fun _ => false) (zeNd 8 (fun _ => false) (fun _ => false))) (zeNd 11 (zeNd 10 (fun _ => false) (fun _ => false)) (zeNd 12 (fun _ => false) (fun _ => false))))) (zeNd 19 (zeNd 16 (zeNd 14 (fun _ => false) (zeNd 15 (fun _ => false) (fun _ => false))) (zeNd 17 (fun _ => false) (zeNd 18 (fun _ => false) (fun _ => false)))) (zeNd 22 (zeNd 20 (fun _ => false) (zeNd 21 (fun _ => false) (fun _ => false))) (zeNd 24 (zeNd 23 (fun _ => false) (fun _ => false)) (zeNd 25 (fun _ => false) (fun _ => false)))))) (zeNd 39 (zeNd 32 (zeNd 29 (zeNd 27 (fun _ => false) (zeNd 28 (fun _ => false) (fun _ => false))) (zeNd 30 (fun _ => false) (zeNd 31 (fun _ => false) (fun _ => false)))) (zeNd 35 (zeNd 33 (fun _ => false) (zeNd 34 (fun _ => false) (fun _ => false))) (zeNd 37 (zeNd 36 (fun _ => false) (fun _ => false)) (zeNd 38 (fun _ => false) (fun _ => false))))) (zeNd 46 (zeNd 42 (zeNd 40 (fun _ => false) (zeNd 41 (fun _ => false) (fun _ => false))) (zeNd 44 (zeNd 43 (fun _ => false) (fun _ => false)) (zeNd 45 (fun _ => false) (fun _ => false)))) (zeNd 49 (zeNd 47 (fun _ => false) (zeNd 48 (fun _ => false) (fun _ => false))) (zeNd 51 (zeNd 50 (fun _ => false) (fun _ => false)) (zeNd 52 (fun _ => false) (fun _ => true))))))) (zeNd 79 (zeNd 66 (zeNd 59 (zeNd 56 (zeNd 54 (fun _ => false) (zeNd 55 (fun _ => false) (fun _ => false))) (zeNd 57 (fun _ => false) (zeNd 58 (fun _ => false) (fun _ => false)))) (zeNd 62 (zeNd 60 (fun _ => false) (zeNd 61 (fun _ => false) (fun _ => false))) (zeNd 64 (zeNd 63 (fun _ => false) (fun _ => false)) (zeNd 65 (fun _ => false) (fun _ => false))))) (zeNd 72 (zeNd 69 (zeNd 67 (fun _ => false) (zeNd 68 (fun _ => false) (fun _ => false))) (zeNd 70 (fun _ => false) (zeNd 71 (fun _ => false) (fun _ => false)))) (zeNd 75 (zeNd 73 (fun _ => false) (zeNd 74 (fun _ => false) (fun _ => false))) (zeNd 77 (zeNd 76 (fun _ => false) (fun _ => false)) (zeNd 78 (fun _ => false) (fun _ => false)))))) (zeNd 92 (zeNd 85 (zeNd 82 (zeNd 80 (fun _ => false) (zeNd 81 (fun _ => false) (fun _ => false))) (zeNd 83 (fun _ => false) (zeNd 84 (fun _ => false) (fun _ => false)))) (zeNd 88 (zeNd 86 (fun _ => false) (zeNd 87 (fun _ => false) (fun _ => false))) (zeNd 90 (zeNd 89 (fun _ => false) (fun _ => false)) (zeNd 91 (fun _ => false) (fun _ => false))))) (zeNd 99 (zeNd 95 (zeNd 93 (fun _ => false) (zeNd 94 (fun _ => false) (fun _ => false))) (zeNd 97 (zeNd 96 (fun _ => false) (fun _ => false)) (zeNd 98 (fun _ => false) (fun _ => false)))) (zeNd 102 (zeNd 100 (fun _ => false) (zeNd 101 (fun _ => false) (fun _ => false))) (zeNd 104 (zeNd 103 (fun _ => false) (fun _ => false)) (zeNd 105 (fun _ => false) (fun _ => false)))))))) (zeNd 159 (zeNd 132 (zeNd 119 (zeNd 112 (zeNd 109 (zeNd 107 (fun _ => false) (zeNd 108 (fun _ => false) (fun _ => false))) (zeNd 110 (fun _ => false) (zeNd 111 (fun _ => false) (fun _ => false)))) (zeNd 115 (zeNd 113 (fun _ => false) (zeNd 114 (fun _ => false) (fun _ => false))) (zeNd 117 (zeNd 116 (fun _ => false) (fun _ => false)) (zeNd 118 (fun _ => false) (fun _ => false))))) (zeNd 125 (zeNd 122 (zeNd 120 (fun _ => false) (zeNd 121 (fun _ => false) (fun _ => false))) (zeNd 123 (fun _ => false) (zeNd 124 (fun _ => false) (fun _ => false)))) (zeNd 128 (zeNd 126 (fun _ => false) (zeNd 127 (fun _ => false) (fun _ => false))) (zeNd 130 (zeNd 129 (fun _ => false) (fun _ => false)) (zeNd 131 (fun _ => false) (fun _ => false)))))) (zeNd 145 (zeNd 138 (zeNd 135 (zeNd 133 (fun _ => false) (zeNd 134 (fun _ => false) (fun _ => false))) (zeNd 136 (fun _ => false) (zeNd 137 (fun _ => false) (fun _ => false)))) (zeNd 141 (zeNd 139 (fun _ => false) (zeNd 140 (fun _ => false) (fun _ => false))) (zeNd 143 (zeNd 142 (fun _ => false) (fun _ => false)) (zeNd 144 (fun _ => false) (fun _ => false))))) (zeNd 152 (zeNd 148 (zeNd 146 (fun _ => false) (zeNd 147 (fun _ => false) (fun _ => false))) (zeNd 150 (zeNd 149 (fun _ => false) (fun _ => false)) (zeNd 151 (fun _ => false) (fun _ => false)))) (zeNd 155 (zeNd 153 (fun _ => false) (zeNd 154 (fun _ => false) (fun _ => false))) (zeNd 157 (zeNd 156 (fun _ => false) (fun _ => false)) (zeNd 158 (fun _ => false) (fun _ => false))))))) (zeNd 186 (zeNd 172 (zeNd 165 (zeNd 162 (zeNd 160 (fun _ => false) (zeNd 161 (fun _ => false) (fun _ => false))) (zeNd 163 (fun _ => false) (zeNd 164 (fun _ => false) (fun _ => false)))) (zeNd 168 (zeNd 166 (fun _ => false) (zeNd 167 (fun _ => false) (fun _ => false))) (zeNd 170 (zeNd 169 (fun _ => false) (fun _ => false)) (zeNd 171 (fun _ => false) (fun _ => false))))) (zeNd 179 (zeNd 175 (zeNd 173 (fun _ => false) (zeNd 174 (fun _ => false) (fun _ => false))) (zeNd 177 (zeNd 176 (fun _ => false) (fun _ => false)) (zeNd 178 (fun _ => false) (fun _ => false)))) (zeNd 182 (zeNd 180 (fun _ => false) (zeNd 181 (fun _ => false) (fun _ => false))) (zeNd 184 (zeNd 183 (fun _ => false) (fun _ => false)) (zeNd 185 (fun _ => false) (fun _ => false)))))) (zeNd 199 (zeNd 192 (zeNd 189 (zeNd 187 (fun _ => false) (zeNd 188 (fun _ => false) (fun _ => false))) (zeNd 190 (fun _ => false) (zeNd 191 (fun _ => false) (fun _ => false)))) (zeNd 195 (zeNd 193 (fun _ => false) (zeNd 194 (fun _ => false) (fun _ => false))) (zeNd 197 (zeNd 196 (fun _ => false) (fun _ => false)) (zeNd 198 (fun _ => false) (fun _ => false))))) (zeNd 206 (zeNd 202 (zeNd 200 (fun _ => false) (zeNd 201 (fun _ => false) (fun _ => false))) (zeNd 204 (zeNd 203 (fun _ => false) (fun _ => false)) (zeNd 205 (fun _ => false) (fun _ => false)))) (zeNd 209 (zeNd 207 (fun _ => false) (zeNd 208 (fun _ => false) (fun _ => false))) (zeNd 211 (zeNd 210 (fun _ => false) (fun _ => false)) (zeNd 212 (fun _ => false) (fun _ => false)))))))))
end
section
/-! THE VIRTUAL MACHINE: numbered cells (below 16 the ones that stood at the start), int, long and reference contents as functions of cell and place; ops are functions; zeRun runs a method's table of ops. Sound: what zeRun answers, the machine answers (part 04, 06). -/
abbrev zeM : Type := Bool × Nat × Nat × (Nat → Nat) × (Nat → Nat) × (Nat → Nat → Option Nat) × (Nat → Nat → Int32) × (Nat → Nat → Int64)
abbrev zeLo : Type := List (Option Value)
abbrev zeSt : Type := Nat × zeLo × List Value × zeM
abbrev zeOut : Type := zeSt ⊕ ((Option Value × zeM) ⊕ (Nat × List Value × zeSt))
abbrev zeOp : Type := zeLo → List Value → zeM → Option zeOut
abbrev zeN (μ : zeM) : Nat := μ.2.1
abbrev zeSl (μ : zeM) : Nat := μ.2.2.1
abbrev zeKd (μ : zeM) : Nat → Nat := μ.2.2.2.1
abbrev zeLn (μ : zeM) : Nat → Nat := μ.2.2.2.2.1
abbrev zeRm (μ : zeM) : Nat → Nat → Option Nat := μ.2.2.2.2.2.1
abbrev zeIm (μ : zeM) : Nat → Nat → Int32 := μ.2.2.2.2.2.2.1
abbrev zeLm (μ : zeM) : Nat → Nat → Int64 := μ.2.2.2.2.2.2.2
/-- a check: the flag stays true only if it holds -/
def zeCk (b : Bool) (μ : zeM) : zeM := (b && μ.1, μ.2)
def zeSIm (f : Nat → Nat → Int32) (μ : zeM) : zeM := (μ.1, zeN μ, zeSl μ, zeKd μ, zeLn μ, zeRm μ, f, zeLm μ)
def zeSLm (f : Nat → Nat → Int64) (μ : zeM) : zeM := (μ.1, zeN μ, zeSl μ, zeKd μ, zeLn μ, zeRm μ, zeIm μ, f)
def zeSRm (f : Nat → Nat → Option Nat) (μ : zeM) : zeM := (μ.1, zeN μ, zeSl μ, zeKd μ, zeLn μ, f, zeIm μ, zeLm μ)
def zeU2 {α : Type} (f : Nat → Nat → α) (a j : Nat) (x : α) : Nat → Nat → α := fun a' j' => if a' = a then (if j' = j then x else f a' j') else f a' j'
def zeU1 {α : Type} (f : Nat → α) (a : Nat) (x : α) : Nat → α := fun a' => if a' = a then x else f a'
/-- n elements copied from row a0, place sp, to row a, place dp -/
def zeCpy {α : Type} (f : Nat → Nat → α) (a0 sp a dp n : Nat) : Nat → Nat → α := fun a' j' => if a' = a then (if dp ≤ j' ∧ j' < dp + n then f a0 (sp + (j' - dp)) else f a' j') else f a' j'
def zeGet : zeLo → Nat → Option Value
  | [], _ => none
  | v :: _, 0 => v
  | _ :: l, k + 1 => zeGet l k
def zeSet : zeLo → Nat → Option Value → zeLo
  | [], _, _ => []
  | _ :: l, 0, x => x :: l
  | v :: l, k + 1, x => v :: zeSet l k x
def zeInb (i : Int32) (n : Nat) : Bool := !(decide (i < 0)) && Nat.blt i.toNatClampNeg n
def zeCat1 : Value → Bool
  | .long _ => false
  | .double _ => false
  | _ => true
def zeRf : Option Nat → Value
  | none => .null
  | some a => .ref a
def zeNx (n : Nat) (L : zeLo) (st : List Value) (μ : zeM) : Option zeOut := some (.inl (n, L, st, μ))
/-! ops: constants, locals, stack -/
def zoIc (v : Int32) (n : Nat) : zeOp := fun L st μ => zeNx n L (.int v :: st) μ
def zoLc (v : Int64) (n : Nat) : zeOp := fun L st μ => zeNx n L (.long v :: st) μ
def zoIl (k n : Nat) : zeOp := fun L st μ => match zeGet L k with
  | some (.int x) => zeNx n L (.int x :: st) μ
  | _ => none
def zoLl (k n : Nat) : zeOp := fun L st μ => match zeGet L k with
  | some (.long x) => zeNx n L (.long x :: st) μ
  | _ => none
def zoAl (k n : Nat) : zeOp := fun L st μ => match zeGet L k with
  | some (.ref x) => zeNx n L (.ref x :: st) μ
  | _ => none
def zoIs (k n : Nat) : zeOp := fun L st μ => match st with
  | .int x :: st' => zeNx n (zeSet L k (some (.int x))) st' μ
  | _ => none
/-- no long stands just below place k -/
def zeNoL (L : zeLo) : Nat → Bool
  | 0 => true
  | k + 1 => match zeGet L k with
    | some v => zeCat1 v
    | none => true
def zoLs (k n : Nat) : zeOp := fun L st μ => match st with
  | .long x :: st' => cond (zeNoL L k) (zeNx n (zeSet (zeSet L k (some (.long x))) (k + 1) none) st' μ) none
  | _ => none
def zoAs (k n : Nat) : zeOp := fun L st μ => match st with
  | .ref x :: st' => zeNx n (zeSet L k (some (.ref x))) st' μ
  | _ => none
def zoInc (k : Nat) (c : Int32) (n : Nat) : zeOp := fun L st μ => match zeGet L k with
  | some (.int x) => zeNx n (zeSet L k (some (.int (x + c)))) st μ
  | _ => none
def zoI2 (f : Int32 → Int32 → Int32) (n : Nat) : zeOp := fun L st μ => match st with
  | .int y :: .int x :: st' => zeNx n L (.int (f x y) :: st') μ
  | _ => none
/-- a division or remainder: the divisor isn't 0 -/
def zoD2 (f : Int32 → Int32 → Int32) (n : Nat) : zeOp := fun L st μ => match st with
  | .int y :: .int x :: st' => zeNx n L (.int (f x y) :: st') (zeCk (!(decide (y = 0))) μ)
  | _ => none
def zoI1 (f : Int32 → Int32) (n : Nat) : zeOp := fun L st μ => match st with
  | .int x :: st' => zeNx n L (.int (f x) :: st') μ
  | _ => none
def zoL2 (f : Int64 → Int64 → Int64) (n : Nat) : zeOp := fun L st μ => match st with
  | .long y :: .long x :: st' => zeNx n L (.long (f x y) :: st') μ
  | _ => none
def zoLsh (f : Int64 → Int32 → Int64) (n : Nat) : zeOp := fun L st μ => match st with
  | .int y :: .long x :: st' => zeNx n L (.long (f x y) :: st') μ
  | _ => none
def zoLcmp (n : Nat) : zeOp := fun L st μ => match st with
  | .long y :: .long x :: st' => zeNx n L (.int (lg_cmp x y) :: st') μ
  | _ => none
def zoDup (n : Nat) : zeOp := fun L st μ => match st with
  | v :: st' => cond (zeCat1 v) (zeNx n L (v :: v :: st') μ) none
  | _ => none
def zoDup2 (n : Nat) : zeOp := fun L st μ => match st with
  | v :: w :: st' => cond (zeCat1 v && zeCat1 w) (zeNx n L (v :: w :: v :: w :: st') μ) none
  | _ => none
def zoDupX1 (n : Nat) : zeOp := fun L st μ => match st with
  | v :: w :: st' => cond (zeCat1 v && zeCat1 w) (zeNx n L (v :: w :: v :: st') μ) none
  | _ => none
def zoPop (n : Nat) : zeOp := fun L st μ => match st with
  | v :: st' => cond (zeCat1 v) (zeNx n L st' μ) none
  | _ => none
/-! branches -/
def zoGo (t : Nat) : zeOp := fun L st μ => zeNx t L st μ
def zoZeq (t n : Nat) : zeOp := fun L st μ => match st with
  | .int x :: st' => zeNx (if x = 0 then t else n) L st' μ
  | _ => none
def zoZlt (t n : Nat) : zeOp := fun L st μ => match st with
  | .int x :: st' => zeNx (if x < 0 then t else n) L st' μ
  | _ => none
def zoZle (t n : Nat) : zeOp := fun L st μ => match st with
  | .int x :: st' => zeNx (if x ≤ 0 then t else n) L st' μ
  | _ => none
def zoZge (t n : Nat) : zeOp := fun L st μ => match st with
  | .int x :: st' => zeNx (if 0 ≤ x then t else n) L st' μ
  | _ => none
def zoZgt (t n : Nat) : zeOp := fun L st μ => match st with
  | .int x :: st' => zeNx (if 0 < x then t else n) L st' μ
  | _ => none
def zoCeq (t n : Nat) : zeOp := fun L st μ => match st with
  | .int y :: .int x :: st' => zeNx (if x = y then t else n) L st' μ
  | _ => none
def zoClt (t n : Nat) : zeOp := fun L st μ => match st with
  | .int y :: .int x :: st' => zeNx (if x < y then t else n) L st' μ
  | _ => none
def zoCle (t n : Nat) : zeOp := fun L st μ => match st with
  | .int y :: .int x :: st' => zeNx (if x ≤ y then t else n) L st' μ
  | _ => none
def zoCge (t n : Nat) : zeOp := fun L st μ => match st with
  | .int y :: .int x :: st' => zeNx (if y ≤ x then t else n) L st' μ
  | _ => none
def zoCgt (t n : Nat) : zeOp := fun L st μ => match st with
  | .int y :: .int x :: st' => zeNx (if y < x then t else n) L st' μ
  | _ => none
/-- a switch: the targets of the values, and the other's -/
def zeSw (x : Int32) (d : Nat) : List (Int32 × Nat) → Nat
  | [] => d
  | (k, t) :: l => if x = k then t else zeSw x d l
def zoSw (l : List (Int32 × Nat)) (d : Nat) : zeOp := fun L st μ => match st with
  | .int x :: st' => zeNx (zeSw x d l) L st' μ
  | _ => none
/-- a known cell isn't null -/
def zoNn (t : Nat) : zeOp := fun L st μ => match st with
  | .ref a :: st' => cond (Nat.blt 0 (zeKd μ a)) (zeNx t L st' μ) none
  | _ => none
/-! fields -/
def zoGf (ci j n : Nat) : zeOp := fun L st μ => match st with
  | .ref a :: st' => cond (Nat.beq (zeKd μ a) (ci + 1)) (zeNx n L (.int (zeIm μ a j) :: st') μ) none
  | _ => none
def zoGr (ci j n : Nat) : zeOp := fun L st μ => match st with
  | .ref a :: st' => cond (Nat.beq (zeKd μ a) (ci + 1)) (zeNx n L (zeRf (zeRm μ a j) :: st') μ) none
  | _ => none
def zoPf (ci j n : Nat) : zeOp := fun L st μ => match st with
  | .int x :: .ref a :: st' => cond (Nat.beq (zeKd μ a) (ci + 1)) (zeNx n L st' (zeSIm (zeU2 (zeIm μ) a j x) μ)) none
  | _ => none
/-- an int put into a field of a small type: it is of that type -/
def zoPs (ty : FieldType) (ci j n : Nat) : zeOp := fun L st μ => match st with
  | .int x :: .ref a :: st' => cond (Nat.beq (zeKd μ a) (ci + 1)) (zeNx n L st' (zeCk (decide (narrow ty (.int x) = .int x) && fits ty (.int x)) (zeSIm (zeU2 (zeIm μ) a j x) μ))) none
  | _ => none
def zoPr (ci j n : Nat) : zeOp := fun L st μ => match st with
  | .ref b :: .ref a :: st' => cond (Nat.beq (zeKd μ a) (ci + 1) && Nat.ble 16 b) (zeNx n L st' (zeSRm (zeU2 (zeRm μ) a j (some b)) μ)) none
  | _ => none
/-- fields of the text constants -/
def zoGfO (j n : Nat) : zeOp := fun L st μ => match st with
  | .ref a :: st' => cond (Nat.beq (zeKd μ a) 110) (zeNx n L (.int (zeIm μ a j) :: st') μ) none
  | _ => none
def zoGrO (j n : Nat) : zeOp := fun L st μ => match st with
  | .ref a :: st' => cond (Nat.beq (zeKd μ a) 110) (zeNx n L (zeRf (zeRm μ a j) :: st') μ) none
  | _ => none
/-- a static, or a text constant, that nobody writes -/
def zoK (v : Value) (n : Nat) : zeOp := fun L st μ => zeNx n L (v :: st) μ
/-! arrays; t: 40 int, 41 long, 42 byte, 43 char, 44 boolean, 45 references; 100 and 102: int and byte arrays that stood at the start -/
def zoLd (t n : Nat) : zeOp := fun L st μ => match st with
  | .int i :: .ref a :: st' => cond (Nat.beq (zeKd μ a) t) (zeNx n L (.int (zeIm μ a i.toNatClampNeg) :: st') (zeCk (zeInb i (zeLn μ a)) μ)) none
  | _ => none
def zoLld (n : Nat) : zeOp := fun L st μ => match st with
  | .int i :: .ref a :: st' => cond (Nat.beq (zeKd μ a) 41) (zeNx n L (.long (zeLm μ a i.toNatClampNeg) :: st') (zeCk (zeInb i (zeLn μ a)) μ)) none
  | _ => none
def zoAld (n : Nat) : zeOp := fun L st μ => match st with
  | .int i :: .ref a :: st' => cond (Nat.beq (zeKd μ a) 45) (zeNx n L (zeRf (zeRm μ a i.toNatClampNeg) :: st') (zeCk (zeInb i (zeLn μ a)) μ)) none
  | _ => none
def zeNar (t : Nat) (x : Int32) : Int32 := match t with
  | 42 => vp_nar .byte x
  | 43 => vp_nar .char x
  | 44 => vp_nar .boolean x
  | _ => x
def zoSt (t n : Nat) : zeOp := fun L st μ => match st with
  | .int x :: .int i :: .ref a :: st' => cond (Nat.beq (zeKd μ a) t) (zeNx n L st' (zeCk (zeInb i (zeLn μ a)) (zeSIm (zeU2 (zeIm μ) a i.toNatClampNeg (zeNar t x)) μ))) none
  | _ => none
def zoLst (n : Nat) : zeOp := fun L st μ => match st with
  | .long x :: .int i :: .ref a :: st' => cond (Nat.beq (zeKd μ a) 41) (zeNx n L st' (zeCk (zeInb i (zeLn μ a)) (zeSLm (zeU2 (zeLm μ) a i.toNatClampNeg x) μ))) none
  | _ => none
def zoAst (ci n : Nat) : zeOp := fun L st μ => match st with
  | .ref b :: .int i :: .ref a :: st' => cond (Nat.beq (zeKd μ a) 45 && (Nat.beq (zeKd μ b) (ci + 1) && Nat.ble 16 b)) (zeNx n L st' (zeCk (zeInb i (zeLn μ a)) (zeSRm (zeU2 (zeRm μ) a i.toNatClampNeg (some b)) μ))) none
  | _ => none
def zoLen (n : Nat) : zeOp := fun L st μ => match st with
  | .ref a :: st' => cond (Nat.ble 40 (zeKd μ a) && Nat.ble (zeKd μ a) 45) (zeNx n L (.int (Int32.ofNat (zeLn μ a)) :: st') μ) none
  | _ => none
def zoLenO (n : Nat) : zeOp := fun L st μ => match st with
  | .ref a :: st' => cond (Nat.beq (zeKd μ a) 100 || Nat.beq (zeKd μ a) 102) (zeNx n L (.int (Int32.ofNat (zeLn μ a)) :: st') μ) none
  | _ => none
/-! new cells -/
def zeNew (kd ln sl : Nat) (μ : zeM) : zeM := (μ.1, zeN μ + 1, zeSl μ + sl, zeU1 (zeKd μ) (16 + zeN μ) kd, zeU1 (zeLn μ) (16 + zeN μ) ln, zeU1 (zeRm μ) (16 + zeN μ) (fun _ => none), zeU1 (zeIm μ) (16 + zeN μ) (fun _ => 0), zeU1 (zeLm μ) (16 + zeN μ) (fun _ => 0))
def zoNew (ci nf n : Nat) : zeOp := fun L st μ => zeNx n L (.ref (16 + zeN μ) :: st) (zeNew (ci + 1) 0 nf μ)
def zoNewa (t n : Nat) : zeOp := fun L st μ => match st with
  | .int x :: st' => zeNx n L (.ref (16 + zeN μ) :: st') (zeCk (!(decide (x < 0)) && Nat.ble x.toNatClampNeg 1000000) (zeNew t x.toNatClampNeg x.toNatClampNeg μ))
  | _ => none
/-! Math.max, Math.min, arraycopy -/
def zoMax (n : Nat) : zeOp := fun L st μ => match st with
  | .int y :: .int x :: st' => cond (Nat.ble st'.length 4) (zeNx n L (.int (if x < y then y else x) :: st') μ) none
  | _ => none
def zoMin (n : Nat) : zeOp := fun L st μ => match st with
  | .int y :: .int x :: st' => cond (Nat.ble st'.length 4) (zeNx n L (.int (if y < x then y else x) :: st') μ) none
  | _ => none
def zeCpOk (sp dp n : Int32) (l0 l1 : Nat) : Bool := !(decide (sp < 0)) && (!(decide (dp < 0)) && (!(decide (n < 0)) && (Nat.ble (sp.toNatClampNeg + n.toNatClampNeg) l0 && Nat.ble (dp.toNatClampNeg + n.toNatClampNeg) l1)))
def zoCp (t n : Nat) : zeOp := fun L st μ => match st with
  | .int k :: .int dp :: .ref a :: .int sp :: .ref a0 :: st' => cond (Nat.beq (zeKd μ a) t && (Nat.beq (zeKd μ a0) t && Nat.ble st'.length 4)) (zeNx n L st' (zeCk (zeCpOk sp dp k (zeLn μ a0) (zeLn μ a)) (zeSIm (zeCpy (zeIm μ) a0 sp.toNatClampNeg a dp.toNatClampNeg k.toNatClampNeg) μ))) none
  | _ => none
def zoCpL (n : Nat) : zeOp := fun L st μ => match st with
  | .int k :: .int dp :: .ref a :: .int sp :: .ref a0 :: st' => cond (Nat.beq (zeKd μ a) 41 && (Nat.beq (zeKd μ a0) 41 && Nat.ble st'.length 4)) (zeNx n L st' (zeCk (zeCpOk sp dp k (zeLn μ a0) (zeLn μ a)) (zeSLm (zeCpy (zeLm μ) a0 sp.toNatClampNeg a dp.toNatClampNeg k.toNatClampNeg) μ))) none
  | _ => none
/-- out of a byte array that stood at the start -/
def zoCpO (n : Nat) : zeOp := fun L st μ => match st with
  | .int k :: .int dp :: .ref a :: .int sp :: .ref a0 :: st' => cond (Nat.beq (zeKd μ a) 42 && (Nat.beq (zeKd μ a0) 102 && Nat.ble st'.length 4)) (zeNx n L st' (zeCk (zeCpOk sp dp k (zeLn μ a0) (zeLn μ a)) (zeSIm (zeCpy (zeIm μ) a0 sp.toNatClampNeg a dp.toNatClampNeg k.toNatClampNeg) μ))) none
  | _ => none
/-! calls and ends; Object.<init> -/
def zoObj (n : Nat) : zeOp := fun L st μ => match st with
  | .ref a :: st' => cond (Nat.blt 0 (zeKd μ a) && Nat.ble st'.length 4) (zeNx n L st' μ) none
  | _ => none
def zeAr : Nat → List Value → List Value → Option (List Value × List Value)
  | 0, as, st => some (as, st)
  | k + 1, as, v :: st => zeAr k (v :: as) st
  | _ + 1, _, [] => none
/-- a static method: its number, its arguments -/
def zoCs (f k n : Nat) : zeOp := fun L st μ => match zeAr k [] st with
  | some (as, st') => cond (Nat.ble st'.length 4 && as.all zeCat1) (some (.inr (.inr (f, as, n, L, st', μ)))) none
  | none => none
/-- an object's method: kd: what the receiver is -/
def zoCv (kd f k n : Nat) : zeOp := fun L st μ => match zeAr k [] st with
  | some (as, .ref b :: st') => cond (Nat.beq (zeKd μ b) kd && (Nat.ble st'.length 4 && as.all zeCat1)) (some (.inr (.inr (f, .ref b :: as, n, L, st', μ)))) none
  | _ => none
/-- an int that is of the small type ty -/
def zeNok (ty : FieldType) (x : Int32) : Bool := decide (vp_nar ty x = x)
def zoRetI : zeOp := fun _ st μ => match st with
  | [.int x] => some (.inr (.inl (some (.int x), μ)))
  | _ => none
def zoRetS (ty : FieldType) : zeOp := fun _ st μ => match st with
  | [.int x] => some (.inr (.inl (some (.int x), zeCk (zeNok ty x) μ)))
  | _ => none
def zoRetA : zeOp := fun _ st μ => match st with
  | [.ref a] => cond (Nat.ble 16 a) (some (.inr (.inl (some (.ref a), μ)))) none
  | _ => none
def zoRetV : zeOp := fun _ st μ => match st with
  | [] => some (.inr (.inl (none, μ)))
  | _ => none
/-- the locals at a method's start (its arguments take one place each) -/
def zeEnt (nl : Nat) (as : List Value) : zeLo := as.map some ++ List.replicate (nl - as.length) none
end
section
/-! WHAT THE VIRTUAL CELLS ARE IN THE MACHINE. G: the first new address; the values of the old cells; the array classes; the classes and slots; the old cells' kinds, lengths, ints, references. -/
abbrev zeG : Type := Nat × (Nat → Value) × (Nat → ClassId) × va_G × (Nat → Nat) × (Nat → Nat) × (Nat → Nat → Int32) × (Nat → Nat → Option Nat)
abbrev zeN0 (G : zeG) : Nat := G.1
abbrev zeOv (G : zeG) : Nat → Value := G.2.1
abbrev zeCA (G : zeG) : Nat → ClassId := G.2.2.1
abbrev zeD (G : zeG) : va_G := G.2.2.2.1
abbrev zeOk (G : zeG) : Nat → Nat := G.2.2.2.2.1
abbrev zeOl (G : zeG) : Nat → Nat := G.2.2.2.2.2.1
abbrev zeOi (G : zeG) : Nat → Nat → Int32 := G.2.2.2.2.2.2.1
abbrev zeOr (G : zeG) : Nat → Nat → Option Nat := G.2.2.2.2.2.2.2
def zeA (G : zeG) : Nat → Prop := fun q => zeN0 G ≤ q
def zeAd (G : zeG) (a : Nat) : Nat := zeN0 G + (a - 16)
def zeTr (G : zeG) : Value → Value
  | .ref a => if a < 16 then zeOv G a else .ref (zeAd G a)
  | v => v
theorem zeTr_i (G : zeG) (x : Int32) : zeTr G (.int x) = .int x := rfl
theorem zeTr_l (G : zeG) (x : Int64) : zeTr G (.long x) = .long x := rfl
theorem zeTr_n (G : zeG) : zeTr G .null = .null := rfl
theorem zeTr_r (G : zeG) {a : Nat} (h : 16 ≤ a) : zeTr G (.ref a) = .ref (zeAd G a) := by
  show (if a < 16 then zeOv G a else .ref (zeAd G a)) = _
  rw [if_neg (Nat.not_lt.mpr h)]
theorem zeTr_o (G : zeG) {a : Nat} (h : a < 16) : zeTr G (.ref a) = zeOv G a := by
  show (if a < 16 then zeOv G a else .ref (zeAd G a)) = _
  rw [if_pos h]
/-- an object's fields, by its class's list of which are references -/
def zeFs (G : zeG) (r : Nat → Option Nat) (f : Nat → Int32) : Nat → List Bool → List Value
  | _, [] => []
  | j, b :: l => (if b = true then va_rf ((r j).map (zeAd G)) else .int (f j)) :: zeFs G r f (j + 1) l
theorem zeFs_get (G : zeG) (r : Nat → Option Nat) (f : Nat → Int32) : ∀ (l : List Bool) (j i : Nat) (b : Bool), l[i]? = some b → (zeFs G r f j l)[i]? = some (if b = true then va_rf ((r (j + i)).map (zeAd G)) else .int (f (j + i)))
  | [], j, i, b, h => by simp at h
  | c :: l, j, 0, b, h => by
    simp at h
    subst h
    simp [zeFs]
  | c :: l, j, i + 1, b, h => by
    rw [List.getElem?_cons_succ] at h
    have := zeFs_get G r f l (j + 1) i b h
    simp only [zeFs, List.getElem?_cons_succ]
    rw [this, show j + 1 + i = j + (i + 1) by omega]
theorem zeFs_len (G : zeG) (r : Nat → Option Nat) (f : Nat → Int32) : ∀ (l : List Bool) (j : Nat), (zeFs G r f j l).length = l.length
  | [], _ => rfl
  | _ :: l, j => by simp [zeFs, zeFs_len G r f l (j + 1)]
/-- the element type's place among the array types: 0 int, 1 long, 2 byte, 3 char, 4 boolean, 5 references -/
def zeArrR (G : zeG) (t ln : Nat) (r : Nat → Option Nat) (f : Nat → Int32) (g : Nat → Int64) : vp_A := if t = 5 then (ln, .inr (.inr (.inr (.inr (fun j => (r j).map (zeAd G)))))) else if t = 1 then (ln, .inr (.inl g)) else (ln, .inl f)
def zeCellR (G : zeG) (kd ln : Nat) (r : Nat → Option Nat) (f : Nat → Int32) (g : Nat → Int64) : va_E := if kd < 40 then .inr (kd - 1, zeFs G r f 0 (zeFL (kd - 1))) else .inl (zeCA G (kd - 40), zeArrR G (kd - 40) ln r f g)
def zeCell (G : zeG) (μ : zeM) (k : Nat) : va_E := zeCellR G (zeKd μ k) (zeLn μ k) (zeRm μ k) (zeIm μ k) (zeLm μ k)
def zeW (G : zeG) (μ : zeM) : va_W := (List.range (zeN μ)).map fun i => (zeN0 G + i, zeCell G μ (16 + i))
def zeTY (G : zeG) : List (ClassId × FieldType) := [(zeCA G 0, .int), (zeCA G 1, .long), (zeCA G 2, .byte), (zeCA G 3, .char), (zeCA G 4, .boolean), (zeCA G 5, .object "WagerQuiz$State")]
theorem zeW_get {G : zeG} {μ : zeM} {k : Nat} (h1 : 16 ≤ k) (h2 : k < 16 + zeN μ) : (zeW G μ)[k - 16]? = some (zeAd G k, zeCell G μ k) := by
  have h3 : k - 16 < zeN μ := by omega
  simp [zeW, h3, zeAd, show 16 + (k - 16) = k by omega]
theorem zeW_at {G : zeG} {μ : zeM} {i : Nat} {q : Nat × va_E} (h : (zeW G μ)[i]? = some q) : i < zeN μ ∧ q = (zeN0 G + i, zeCell G μ (16 + i)) := by
  unfold zeW at h
  rw [List.getElem?_map] at h
  by_cases hi : i < zeN μ
  · rw [List.getElem?_range hi] at h
    exact ⟨hi, (Option.some.inj h).symm⟩
  · rw [List.getElem?_eq_none (by simpa using hi)] at h
    cases h
theorem zeW_D (G : zeG) (μ : zeM) : va_D (zeA G) (zeW G μ) := by
  refine ⟨fun i j p q hp hq h => ?_, fun i q hq => ?_⟩
  · obtain ⟨-, rfl⟩ := zeW_at hp
    obtain ⟨-, rfl⟩ := zeW_at hq
    simp at h
    exact h
  · obtain ⟨-, rfl⟩ := zeW_at hq
    show zeN0 G ≤ zeN0 G + i
    omega
/-- one cell has changed -/
theorem zeW_set {G : zeG} {μ μ' : zeM} {k : Nat} (h1 : 16 ≤ k) (h2 : k < 16 + zeN μ) (hn : zeN μ' = zeN μ) (ho : ∀ a, a ≠ k → zeCell G μ' a = zeCell G μ a) : zeW G μ' = (zeW G μ).set (k - 16) (zeAd G k, zeCell G μ' k) := by
  apply List.ext_getElem?
  intro i
  by_cases hi : i = k - 16
  · subst hi
    rw [zeW_get h1 (by rw [hn]; exact h2), List.getElem?_set_self]
    simpa [zeW] using show k - 16 < zeN μ by omega
  · rw [List.getElem?_set_ne (Ne.symm hi)]
    unfold zeW
    rw [hn, List.getElem?_map, List.getElem?_map]
    by_cases hl : i < zeN μ
    · rw [List.getElem?_range hl]
      simp only [Option.map_some]
      rw [ho (16 + i) (by omega)]
    · rw [List.getElem?_eq_none (by simpa using hl)]
      rfl
/-- one cell is new -/
theorem zeW_push {G : zeG} {μ μ' : zeM} (hn : zeN μ' = zeN μ + 1) (ho : ∀ a, a ≠ 16 + zeN μ → zeCell G μ' a = zeCell G μ a) : zeW G μ' = zeW G μ ++ [(zeN0 G + zeN μ, zeCell G μ' (16 + zeN μ))] := by
  unfold zeW
  rw [hn, List.range_succ, List.map_append]
  congr 1
  apply List.map_congr_left
  intro i hi
  rw [ho (16 + i) (by have := List.mem_range.mp hi; omega)]
/-- the heap holds the virtual cells -/
def zePic (G : zeG) (μ : zeM) (H : Heap) : Prop := va_P (zeD G) zeCl (zeW G μ) H ∧ H.size = zeN0 G + zeN μ
/-- what holds of the virtual cells themselves: the old ones as they were; bytes are bytes; no cell beyond the last -/
def zeWf (G : zeG) (μ : zeM) : Prop := (∀ k, k < 16 → zeKd μ k = zeOk G k ∧ zeLn μ k = zeOl G k ∧ (∀ j, zeIm μ k j = zeOi G k j) ∧ ∀ j, zeRm μ k j = zeOr G k j) ∧ (∀ k, zeKd μ k = 42 ∨ zeKd μ k = 102 → ∀ j, fits .byte (.int (zeIm μ k j)) = true) ∧ (∀ k, 0 < zeKd μ k → k < 16 + zeN μ ∧ (zeKd μ k < 100 ∨ k < 16)) ∧ (∀ k j a, zeRm μ k j = some a → 16 ≤ k → 16 ≤ a) ∧ ∀ k, k < 16 → zeKd μ k = 0 ∨ 100 ≤ zeKd μ k
def zeMon (μ μ' : zeM) : Prop := (μ'.1 = true → μ.1 = true) ∧ zeN μ ≤ zeN μ' ∧ zeSl μ ≤ zeSl μ'
theorem zeMon.rf (μ : zeM) : zeMon μ μ := ⟨fun h => h, Nat.le_refl _, Nat.le_refl _⟩
theorem zeMon.tr {a b c : zeM} (h1 : zeMon a b) (h2 : zeMon b c) : zeMon a c := ⟨fun h => h1.1 (h2.1 h), Nat.le_trans h1.2.1 h2.2.1, Nat.le_trans h1.2.2 h2.2.2⟩
theorem zeMon.ck (b : Bool) (μ : zeM) : zeMon μ (zeCk b μ) := ⟨fun h => (Bool.and_eq_true _ _ ▸ h : b = true ∧ μ.1 = true).2, Nat.le_refl _, Nat.le_refl _⟩
theorem zeCk_b {b : Bool} {μ : zeM} (h : (zeCk b μ).1 = true) : b = true := (Bool.and_eq_true _ _ ▸ h : b = true ∧ μ.1 = true).1
/-- what the Statement gives of the tables, at a method's start -/
def zeNW : List Cond := [.methodLinkNest "WagerQuiz" 9 ⟨"WagerQuiz$State", "<init>", "()V"⟩ "WagerQuiz", .methodLinkNest "WagerQuiz$State" 15 ⟨"WagerQuiz$PickedClue", "<init>", "()V"⟩ "WagerQuiz"]
def zeOldA (G : zeG) (U : State) (H : Heap) : Prop := ∀ k, k < 16 → (zeOk G k = 100 → ∃ t, zeOv G k = .ref t ∧ va_T .int t (zeOl G k) (fun j => .int (zeOi G k j)) (zeA G) U H) ∧ (zeOk G k = 102 → ∃ t, zeOv G k = .ref t ∧ va_T .byte t (zeOl G k) (fun j => .int (zeOi G k j)) (zeA G) U H ∧ ∀ j, fits .byte (.int (zeOi G k j)) = true) ∧ (zeOk G k = 110 → ∃ t r, zeOv G k = .ref t ∧ zeOr G k 0 = some r ∧ r < 16 ∧ va_O "java/lang/String" t (zeA G) U H ∧ va_OF "java/lang/String" "value" "[B" (zeOv G r) t (zeA G) U H ∧ va_OF "java/lang/String" "coder" "B" (.int (zeOi G k 1)) t (zeA G) U H) ∧ (zeOk G k = 0 ∨ zeOk G k = 100 ∨ zeOk G k = 102 ∨ zeOk G k = 110)
theorem zeOldA.to {G : zeG} {u U : State} {H H1 : Heap} (hvm : u.vm.Alike U.vm) (hq : ∀ a : Nat, a < H.size → ¬ zeA G a → H1[a]? = H[a]?) (h : zeOldA G u H) : zeOldA G U H1 := by
  intro k hk
  obtain ⟨h1, h2, h3, h4⟩ := h k hk
  refine ⟨fun e => ?_, fun e => ?_, fun e => ?_, h4⟩
  · obtain ⟨t, e1, e2⟩ := h1 e
    exact ⟨t, e1, (e2.moved hvm).kept hq⟩
  · obtain ⟨t, e1, e2, e3⟩ := h2 e
    exact ⟨t, e1, (e2.moved hvm).kept hq, e3⟩
  · obtain ⟨t, r, e1, e2, e3, e4, e5, e6⟩ := h3 e
    exact ⟨t, r, e1, e2, e3, (e4.moved hvm).kept hq, (e5.moved hvm).kept hq, (e6.moved hvm).kept hq⟩
end
section
/-! LOCALS, THE CONTEXT OF A METHOD, AND WHAT SOUND MEANS -/
def zeLl (G : zeG) : Nat → zeLo → List (Nat × Value)
  | _, [] => []
  | j, none :: l => zeLl G (j + 1) l
  | j, some v :: l => (j, zeTr G v) :: zeLl G (j + 1) l
theorem zeLl_mem (G : zeG) : ∀ (L : zeLo) (j k : Nat) (x : Value), (k, x) ∈ zeLl G j L ↔ ∃ (i : Nat) (v : Value), k = j + i ∧ zeGet L i = some v ∧ x = zeTr G v
  | [], j, k, x => by simp [zeLl, zeGet]
  | none :: l, j, k, x => by
    rw [show zeLl G j (none :: l) = zeLl G (j + 1) l from rfl, zeLl_mem G l (j + 1) k x]
    constructor
    · rintro ⟨i, v, h1, h2, h3⟩
      exact ⟨i + 1, v, by omega, h2, h3⟩
    · rintro ⟨i, v, h1, h2, h3⟩
      cases i with
      | zero => simp [zeGet] at h2
      | succ i => exact ⟨i, v, by omega, h2, h3⟩
  | some w :: l, j, k, x => by
    rw [show zeLl G j (some w :: l) = (j, zeTr G w) :: zeLl G (j + 1) l from rfl, List.mem_cons, zeLl_mem G l (j + 1) k x]
    constructor
    · rintro (h | ⟨i, v, h1, h2, h3⟩)
      · cases h
        exact ⟨0, w, rfl, rfl, rfl⟩
      · exact ⟨i + 1, v, by omega, h2, h3⟩
    · rintro ⟨i, v, h1, h2, h3⟩
      cases i with
      | zero =>
        left
        simp [zeGet] at h2
        subst h2
        simp [h1, h3]
      | succ i => exact Or.inr ⟨i, v, by omega, h2, h3⟩
theorem zeGet_set : ∀ (L : zeLo) (i : Nat) (x : Option Value) (k : Nat), zeGet (zeSet L i x) k = if k = i ∧ i < L.length then x else zeGet L k
  | [], i, x, k => by simp [zeSet]
  | v :: l, 0, x, 0 => by simp [zeSet, zeGet]
  | v :: l, 0, x, k + 1 => by simp [zeSet, zeGet]
  | v :: l, i + 1, x, 0 => by simp [zeSet, zeGet]
  | v :: l, i + 1, x, k + 1 => by
    have := zeGet_set l i x k
    simp [zeSet, zeGet, this]
def zeLH (G : zeG) (ls : Array Slot) (n : Nat) (L : zeLo) : Prop := lv_has ls n (zeLl G 0 L)
theorem zeLH.at {G : zeG} {ls : Array Slot} {n : Nat} {L : zeLo} (h : zeLH G ls n L) {k : Nat} {v : Value} (hk : zeGet L k = some v) : ls[k]? = some (.val (zeTr G v)) := h.2.2 (k, zeTr G v) ((zeLl_mem G L 0 k _).mpr ⟨k, v, by omega, hk, rfl⟩)
def zeNL (i : Nat) (L : zeLo) : Prop := zeLg i = false → ∀ k v, zeGet L k = some v → zeCat1 v = true
theorem zeNL.set {i : Nat} {L : zeLo} (h : zeNL i L) {k : Nat} {v : Value} (hv : zeCat1 v = true) : zeNL i (zeSet L k (some v)) := by
  intro hg j w hj
  rw [zeGet_set] at hj
  split at hj
  · cases hj
    exact hv
  · exact h hg j w hj
def zeGv (G : zeG) : Prop := ∀ a, ∃ r : Option Nat, zeOv G a = va_rf r
theorem zeTr_rf {G : zeG} (hG : zeGv G) (a : Nat) : ∃ r : Option Nat, zeTr G (.ref a) = va_rf r := by
  by_cases h : a < 16
  · rw [zeTr_o G h]
    exact hG a
  · exact ⟨some (zeAd G a), zeTr_r G (by omega)⟩
theorem zeTr_cat {G : zeG} (hG : zeGv G) {v : Value} (hv : zeCat1 v = true) : (zeTr G v).category = 1 := by
  cases v with
  | ref a =>
    obtain ⟨r, h⟩ := zeTr_rf hG a
    rw [h]
    cases r <;> rfl
  | long x => cases hv
  | double x => cases hv
  | _ => rfl
theorem zeLH.set {G : zeG} (hG : zeGv G) {ls' : Array Slot} {n i k : Nat} {L : zeLo} {v : Value} (hN : zeNL i L) (hg : zeLg i = false) (h : lv_has ls' n ((k, zeTr G v) :: (zeLl G 0 L).filter (fun q => !(q.1 == k) && !(q.1 + 1 == k && q.2.category == 2)))) : zeLH G ls' n (zeSet L k (some v)) := by
  refine ⟨h.1, h.2.1, fun q hq => ?_⟩
  obtain ⟨j, w, e1, e2, e3⟩ := (zeLl_mem G _ 0 q.1 q.2).mp hq
  rw [zeGet_set] at e2
  apply h.2.2
  by_cases hj : j = k ∧ k < L.length
  · rw [if_pos hj] at e2
    cases e2
    obtain ⟨q1, q2⟩ := q
    dsimp only at e1 e3
    subst e3
    rw [show q1 = k by omega]
    exact List.mem_cons_self
  · rw [if_neg hj] at e2
    have hjl : j ≠ k := by
      intro e
      apply hj
      refine ⟨e, ?_⟩
      have : ∀ (L : zeLo) (j : Nat) (w : Value), zeGet L j = some w → j < L.length := by
        intro L
        induction L with
        | nil => intro j w h; simp [zeGet] at h
        | cons a l ih =>
          intro j w h
          cases j with
          | zero => simp
          | succ j => have := ih j w h; simp; omega
      have := this L j w e2
      omega
    refine List.mem_cons_of_mem _ (List.mem_filter.mpr ⟨(zeLl_mem G L 0 q.1 q.2).mpr ⟨j, w, e1, e2, e3⟩, ?_⟩)
    have hc : q.2.category = 1 := by rw [e3]; exact zeTr_cat hG (hN hg j w e2)
    have h1 : ¬ q.1 = k := by omega
    simp [h1, hc]
/-- what the Statement gives of statics, text constants and tables (of this claim) -/
def zeSta (G : zeG) (U : State) (H : Heap) : Prop :=
  va_Z "WagerQuiz" "SETTING_TOPS" "[I" (zeOv G 1) (zeA G) U H ∧ va_Z "java/lang/String" "COMPACT_STRINGS" "Z" (.int 1) (zeA G) U H ∧ va_Z "java/lang/Integer" "DigitTens" "[B" (zeOv G 2) (zeA G) U H ∧ va_Z "java/lang/Integer" "DigitOnes" "[B" (zeOv G 3) (zeA G) U H ∧ va_Z "jdk/internal/util/Preconditions" "SIOOBE_FORMATTER" "Ljava/util/function/BiFunction;" (zeOv G 8) (zeA G) U H ∧
  (∃ t, zeOv G 4 = .ref t ∧ vk_R "WagerQuiz" 392 "phase " t U) ∧ (∃ t, zeOv G 6 = .ref t ∧ vk_R "WagerQuiz" 400 "; p" t U) ∧ va_AO "WagerQuiz$State" U ∧
  va_Nw (.methodLinkNest "WagerQuiz" 9 ⟨"WagerQuiz$State", "<init>", "()V"⟩ "WagerQuiz") U ∧ va_Nw (.methodLinkNest "WagerQuiz$State" 15 ⟨"WagerQuiz$PickedClue", "<init>", "()V"⟩ "WagerQuiz") U ∧ va_Nw (.methodLinkNest "WagerQuiz$State" 29 ⟨"WagerQuiz$Log", "<init>", "()V"⟩ "WagerQuiz") U ∧ va_Nw (.methodLinkNest "WagerQuiz$History" 17 ⟨"WagerQuiz$State", "<init>", "()V"⟩ "WagerQuiz") U ∧ va_Nw (.methodLinkNest "WagerQuiz" 40 ⟨"WagerQuiz$Script", "<init>", "()V"⟩ "WagerQuiz") U ∧ va_Nw (.methodLinkNest "WagerQuiz$Replay" 79 ⟨"WagerQuiz", "isClue", "(I)Z"⟩ "WagerQuiz") U ∧ va_Nw (.fieldLinkNest "WagerQuiz$State" 47 "WagerQuiz" "SETTING_TOPS" "[I" "WagerQuiz") U
theorem zeSta.to {G : zeG} {u U : State} {H H1 : Heap} (hW : u.WarmedH U.vm) (hq : ∀ a : Nat, a < H.size → ¬ zeA G a → H1[a]? = H[a]?) (h : zeSta G u H) : zeSta G U H1 := by
  obtain ⟨h1, h2, h3, h4, h5, ⟨t, h6, h6'⟩, ⟨t2, h7, h7'⟩, h8, h9, h10, h11, h12, h13, h14, h15⟩ := h
  have hvm := hW.alike
  exact ⟨(h1.moved hvm).kept hq, (h2.moved hvm).kept hq, (h3.moved hvm).kept hq, (h4.moved hvm).kept hq, (h5.moved hvm).kept hq, ⟨t, h6, h6'.warm hW⟩, ⟨t2, h7, h7'.warm hW⟩, h8.moved hvm, h9.warmM hW, h10.warmM hW, h11.warmM hW, h12.warmM hW, h13.warmM hW, h14.warmM hW, h15.warmF hW⟩
/-- the context of a walk of method i -/
def zeCx (G : zeG) (i : Nat) (p : Program) (s : State) (m : MethodId) (args : Array Value) (meth : Method) (c : Code) : Prop :=
  p.tables.exec = Jvm.exec ∧ c.code = zeCod i ∧ c.maxLocals = zeNl i ∧ s.vm.findClass (zeNam i).cls = some m.cls ∧ (∀ w ∈ zeBT, w.before args s = true) ∧ va_K (zeD G) zeCl (zeTY G) s ∧ zeOldA G s s.heap ∧ zeSta G s s.heap ∧ meth.name = (zeNam i).name ∧ (∀ q : Nat, s.heap.size ≤ q → zeA G q) ∧ zeGv G
section CX
variable {G : zeG} {i : Nat} {p : Program} {s : State} {m : MethodId} {args : Array Value} {meth : Method} {c : Code}
theorem zeCx.ml (h : zeCx G i p s m args meth c) : c.maxLocals = zeNl i := h.2.2.1
theorem zeCx.own (h : zeCx G i p s m args meth c) : s.vm.findClass (zeNam i).cls = some m.cls := h.2.2.2.1
theorem zeCx.ws (h : zeCx G i p s m args meth c) : ∀ w ∈ zeBT, w.before args s = true := h.2.2.2.2.1
theorem zeCx.K (h : zeCx G i p s m args meth c) : va_K (zeD G) zeCl (zeTY G) s := h.2.2.2.2.2.1
theorem zeCx.old (h : zeCx G i p s m args meth c) : zeOldA G s s.heap := h.2.2.2.2.2.2.1
theorem zeCx.sta (h : zeCx G i p s m args meth c) : zeSta G s s.heap := h.2.2.2.2.2.2.2.1
theorem zeCx.nm (h : zeCx G i p s m args meth c) : meth.name = (zeNam i).name := h.2.2.2.2.2.2.2.2.1
theorem zeCx.new (h : zeCx G i p s m args meth c) : ∀ q : Nat, s.heap.size ≤ q → zeA G q := h.2.2.2.2.2.2.2.2.2.1
theorem zeCx.gv (h : zeCx G i p s m args meth c) : zeGv G := h.2.2.2.2.2.2.2.2.2.2
end CX
/-- an answer is of the method's type -/
def zeRok (i : Nat) (v : Option Value) : Prop := match zeRt i with
  | none => v = none
  | some .int => ∃ x, v = some (.int x)
  | some (.object _) => ∃ a, v = some (.ref a) ∧ 16 ≤ a
  | some (.array _) => ∃ a, v = some (.ref a) ∧ 16 ≤ a
  | some ty => ∃ x, v = some (.int x) ∧ narrow ty (.int x) = .int x
/-- from here the machine comes to what the virtual machine says: the answer v, the cells μ' -/
def zeGO (G : zeG) (i : Nat) (v : Option Value) (μ' : zeM) (pc : Nat) (L : zeLo) (st : List Value) (μ : zeM) : Prop :=
  ∀ (p : Program) (l : Launch) (e : Env) (R : Room) (s : State) (m : MethodId) (args : Array Value) (below : List Frame) (meth : Method) (c : Code) (Q : State → Prop) (n0 s0 : Nat),
    zeCx G i p s m args meth c → zeDp i ≤ R.frames → zeLc i ≤ R.locals → n0 ≤ zeN μ → s0 ≤ zeSl μ →
    (∀ (H : Heap) (locs : List Loc) (ls : Array Slot) (pcr : Nat), zeRok i v → decode (zeCod i) pcr = .ok (zeRk i, 1) → zePic G μ' H → va_S (zeA G) s.heap H locs → W p l e R s m args below meth c H locs (zeN μ' - n0) (zeSl μ' - s0) Q (F0 m pcr ls ((v.map (zeTr G)).toList))) →
    zeN μ' - n0 ≤ R.cells → zeSl μ' - s0 ≤ R.slots →
    ∀ (H : Heap) (locs : List Loc) (ls : Array Slot), zePic G μ H → va_S (zeA G) s.heap H locs → zeLH G ls (zeNl i) L → zeNL i L →
      W p l e R s m args below meth c H locs (zeN μ - n0) (zeSl μ - s0) Q (F0 m pc ls (st.map (zeTr G)))
def zeSnd (G : zeG) (i pc : Nat) (op : zeOp) : Prop := ∀ (L : zeLo) (st : List Value) (μ : zeM),
  (∀ pc' L' st' μ', op L st μ = some (.inl (pc', L', st', μ')) → zeMon μ μ' ∧ (μ'.1 = true → zeWf G μ → zeWf G μ' ∧ ∀ v μ'', zeMon μ' μ'' → zeGO G i v μ'' pc' L' st' μ' → zeGO G i v μ'' pc L st μ)) ∧
  (∀ v μ', op L st μ = some (.inr (.inl (v, μ'))) → zeMon μ μ' ∧ (μ'.1 = true → zeWf G μ → zeWf G μ' ∧ zeGO G i v μ' pc L st μ)) ∧
  (∀ j as pc' L' st' μ', op L st μ = some (.inr (.inr (j, as, pc', L', st', μ'))) → μ' = μ ∧ ∀ v1 μ1 v μ'', zeMon μ μ1 → zeMon μ1 μ'' → zeWf G μ → zeGO G j v1 μ1 0 (zeEnt (zeNl j) as) [] μ → zeGO G i v μ'' pc' L' (v1.toList ++ st') μ1 → zeGO G i v μ'' pc L st μ)
/-- an op that leaves the cells as they are, but for a check: its walk, one machine step -/
theorem zeSnd_of {G : zeG} {i pc : Nat} {op : zeOp} (hn : ∀ L st μ x, op L st μ ≠ some (.inr x))
    (hs : ∀ L st μ pc' L' st' μ', op L st μ = some (.inl (pc', L', st', μ')) → ∃ b, μ' = zeCk b μ ∧ (b = true → zeWf G μ → ∀ (p : Program) (l : Launch) (e : Env) (R : Room) (s : State) (m : MethodId) (args : Array Value) (below : List Frame) (meth : Method) (c : Code) (Q : State → Prop) (H : Heap) (locs : List Loc) (ls : Array Slot) (cells slots : Nat),
      zeCx G i p s m args meth c → zeDp i ≤ R.frames → zeLc i ≤ R.locals → cells ≤ R.cells → slots ≤ R.slots → zePic G μ H → va_S (zeA G) s.heap H locs → zeLH G ls (zeNl i) L → zeNL i L →
      (∀ ls', zeLH G ls' (zeNl i) L' → zeNL i L' → W p l e R s m args below meth c H locs cells slots Q (F0 m pc' ls' (st'.map (zeTr G)))) → W p l e R s m args below meth c H locs cells slots Q (F0 m pc ls (st.map (zeTr G))))) : zeSnd G i pc op := by
  intro L st μ
  refine ⟨fun pc' L' st' μ' h => ?_, fun v μ' h => absurd h (hn _ _ _ _), fun j as pc' L' st' μ' h => absurd h (hn _ _ _ _)⟩
  obtain ⟨b, rfl, hb⟩ := hs L st μ pc' L' st' μ' h
  refine ⟨zeMon.ck b μ, fun h1 hw => ⟨hw, fun v μ'' hm hgo => ?_⟩⟩
  intro p l e R s m args below meth c Q n0 s0 hcx hd hl hn0 hs0 hret hc hs H locs ls hP hS hL hN
  have hm' : zeMon μ μ'' := (zeMon.ck b μ).tr hm
  refine hb (zeCk_b h1) hw p l e R s m args below meth c Q H locs ls _ _ hcx hd hl (by have := hm'.2.1; omega) (by have := hm'.2.2; omega) hP hS hL hN fun ls' hL' hN' => ?_
  exact hgo p l e R s m args below meth c Q n0 s0 hcx hd hl hn0 hs0 hret hc hs H locs ls' hP hS hL' hN'
end
section
/-! SOUND OPS: stack, locals, branches, reads -/
def zeTo (G : zeG) (i : Nat) (μ : zeM) (pc pc' : Nat) (a b : List Value) : Prop := ∀ (p : Program) (l : Launch) (e : Env) (R : Room) (s : State) (m : MethodId) (args : Array Value) (below : List Frame) (meth : Method) (c : Code) (Q : State → Prop) (H : Heap) (locs : List Loc) (ls : Array Slot) (cells slots : Nat),
  zeCx G i p s m args meth c → zeDp i ≤ R.frames → zeLc i ≤ R.locals → cells ≤ R.cells → slots ≤ R.slots → zePic G μ H → va_S (zeA G) s.heap H locs → ls.size = zeNl i →
  W p l e R s m args below meth c H locs cells slots Q (F0 m pc' ls b) → W p l e R s m args below meth c H locs cells slots Q (F0 m pc ls a)
theorem zs_st {G : zeG} {i pc : Nat} {op : zeOp} (hn : ∀ L st μ x, op L st μ ≠ some (.inr x))
    (hs : ∀ L st μ pc' L' st' μ', op L st μ = some (.inl (pc', L', st', μ')) → L' = L ∧ ∃ b, μ' = zeCk b μ ∧ (b = true → zeWf G μ → zeTo G i μ pc pc' (st.map (zeTr G)) (st'.map (zeTr G)))) : zeSnd G i pc op := by
  refine zeSnd_of hn fun L st μ pc' L' st' μ' h => ?_
  obtain ⟨rfl, b, e, hb⟩ := hs L st μ pc' L' st' μ' h
  refine ⟨b, e, fun h1 hw p l e R s m args below meth c Q H locs ls cells slots hcx hd hl hc hs hP hS hL hN K => ?_⟩
  exact hb h1 hw p l e R s m args below meth c Q H locs ls cells slots hcx hd hl hc hs hP hS hL.1 (K ls hL hN)
theorem zeNx_i {n : Nat} {L : zeLo} {st : List Value} {μ : zeM} {r : zeOut} (h : zeNx n L st μ = some r) : r = .inl (n, L, st, μ) := (Option.some.inj h).symm
theorem zeCk_t (μ : zeM) : μ = zeCk true μ := rfl
section ZS
variable {G : zeG} {i pc n : Nat}
theorem zs_Ic {v : Int32} (h : ∀ μ rest, zeTo G i μ pc n rest (.int v :: rest)) : zeSnd G i pc (zoIc v n) := by
  refine zs_st (fun L st μ x e => by cases zeNx_i e) fun L st μ pc' L' st' μ' e => ?_
  cases zeNx_i e
  exact ⟨rfl, true, rfl, fun _ _ => h _ _⟩
theorem zs_K {v : Value} (h : ∀ μ rest, zeTo G i μ pc n rest (zeTr G v :: rest)) : zeSnd G i pc (zoK v n) := by
  refine zs_st (fun L st μ x e => by cases zeNx_i e) fun L st μ pc' L' st' μ' e => ?_
  cases zeNx_i e
  exact ⟨rfl, true, rfl, fun _ _ => h _ _⟩
theorem zs_Lc {v : Int64} (h : ∀ μ rest, zeTo G i μ pc n rest (.long v :: rest)) : zeSnd G i pc (zoLc v n) := by
  refine zs_st (fun L st μ x e => by cases zeNx_i e) fun L st μ pc' L' st' μ' e => ?_
  cases zeNx_i e
  exact ⟨rfl, true, rfl, fun _ _ => h _ _⟩
theorem zs_I2 {f : Int32 → Int32 → Int32} (h : ∀ μ rest x y, zeTo G i μ pc n (.int y :: .int x :: rest) (.int (f x y) :: rest)) : zeSnd G i pc (zoI2 f n) := by
  refine zs_st (fun L st μ x e => ?_) fun L st μ pc' L' st' μ' e => ?_
  · unfold zoI2 at e
    split at e
    · cases zeNx_i e
    · cases e
  · unfold zoI2 at e
    split at e
    · cases zeNx_i e
      exact ⟨rfl, true, rfl, fun _ _ => h _ _ _ _⟩
    · cases e
theorem zs_D2 {f : Int32 → Int32 → Int32} (h : ∀ μ rest x y, ¬ y = 0 → zeTo G i μ pc n (.int y :: .int x :: rest) (.int (f x y) :: rest)) : zeSnd G i pc (zoD2 f n) := by
  refine zs_st (fun L st μ x e => ?_) fun L st μ pc' L' st' μ' e => ?_
  · unfold zoD2 at e
    split at e
    · cases zeNx_i e
    · cases e
  · unfold zoD2 at e
    split at e
    · cases zeNx_i e
      exact ⟨rfl, _, rfl, fun hb _ => h _ _ _ _ (by simpa using hb)⟩
    · cases e
theorem zs_I1 {f : Int32 → Int32} (h : ∀ μ rest x, zeTo G i μ pc n (.int x :: rest) (.int (f x) :: rest)) : zeSnd G i pc (zoI1 f n) := by
  refine zs_st (fun L st μ x e => ?_) fun L st μ pc' L' st' μ' e => ?_
  · unfold zoI1 at e
    split at e
    · cases zeNx_i e
    · cases e
  · unfold zoI1 at e
    split at e
    · cases zeNx_i e
      exact ⟨rfl, true, rfl, fun _ _ => h _ _ _⟩
    · cases e
theorem zs_L2 {f : Int64 → Int64 → Int64} (h : ∀ μ rest x y, zeTo G i μ pc n (.long y :: .long x :: rest) (.long (f x y) :: rest)) : zeSnd G i pc (zoL2 f n) := by
  refine zs_st (fun L st μ x e => ?_) fun L st μ pc' L' st' μ' e => ?_
  · unfold zoL2 at e
    split at e
    · cases zeNx_i e
    · cases e
  · unfold zoL2 at e
    split at e
    · cases zeNx_i e
      exact ⟨rfl, true, rfl, fun _ _ => h _ _ _ _⟩
    · cases e
theorem zs_Lsh {f : Int64 → Int32 → Int64} (h : ∀ μ rest x y, zeTo G i μ pc n (.int y :: .long x :: rest) (.long (f x y) :: rest)) : zeSnd G i pc (zoLsh f n) := by
  refine zs_st (fun L st μ x e => ?_) fun L st μ pc' L' st' μ' e => ?_
  · unfold zoLsh at e
    split at e
    · cases zeNx_i e
    · cases e
  · unfold zoLsh at e
    split at e
    · cases zeNx_i e
      exact ⟨rfl, true, rfl, fun _ _ => h _ _ _ _⟩
    · cases e
theorem zs_lcmp (hd : decode (zeCod i) pc = .ok (.lcmp, 1)) (hn : pc + 1 = n) : zeSnd G i pc (zoLcmp n) := by
  subst hn
  refine zs_st (fun L st μ x e => ?_) fun L st μ pc' L' st' μ' e => ?_
  · unfold zoLcmp at e
    split at e
    · cases zeNx_i e
    · cases e
  · unfold zoLcmp at e
    split at e
    · cases zeNx_i e
      exact ⟨rfl, true, rfl, fun _ _ p l e R s m args below meth c Q H locs ls cells slots hcx _ _ _ _ _ _ _ K => W.lcmp hcx.1 hcx.2.1 hd K⟩
    · cases e
theorem zs_dup (hd : decode (zeCod i) pc = .ok (.dup, 1)) (hn : pc + 1 = n) : zeSnd G i pc (zoDup n) := by
  subst hn
  refine zs_st (fun L st μ x e => ?_) fun L st μ pc' L' st' μ' e => ?_
  · unfold zoDup at e
    split at e
    · rename_i v st'
      cases hv : zeCat1 v <;> rw [hv] at e
      · cases e
      · cases zeNx_i e
    · cases e
  · unfold zoDup at e
    split at e
    · rename_i v st'
      cases hv : zeCat1 v <;> rw [hv] at e
      · cases e
      · cases zeNx_i e
        exact ⟨rfl, true, rfl, fun _ _ p l e R s m args below meth c Q H locs ls cells slots hcx _ _ _ _ _ _ _ K => lv_dup hcx.1 hcx.2.1 hd (zeTr_cat hcx.gv hv) K⟩
    · cases e
theorem zs_pop (hd : decode (zeCod i) pc = .ok (.pop, 1)) (hn : pc + 1 = n) : zeSnd G i pc (zoPop n) := by
  subst hn
  refine zs_st (fun L st μ x e => ?_) fun L st μ pc' L' st' μ' e => ?_
  · unfold zoPop at e
    split at e
    · rename_i v st'
      cases hv : zeCat1 v <;> rw [hv] at e
      · cases e
      · cases zeNx_i e
    · cases e
  · unfold zoPop at e
    split at e
    · rename_i v st'
      cases hv : zeCat1 v <;> rw [hv] at e
      · cases e
      · cases zeNx_i e
        exact ⟨rfl, true, rfl, fun _ _ p l e R s m args below meth c Q H locs ls cells slots hcx _ _ _ _ _ _ _ K => lv_pop hcx.1 hcx.2.1 hd (zeTr_cat hcx.gv hv) K⟩
    · cases e
theorem zs_dup2 (hd : decode (zeCod i) pc = .ok (.dup2, 1)) (hn : pc + 1 = n) : zeSnd G i pc (zoDup2 n) := by
  subst hn
  refine zs_st (fun L st μ x e => ?_) fun L st μ pc' L' st' μ' e => ?_
  · unfold zoDup2 at e
    split at e
    · rename_i v w st'
      cases hv : (zeCat1 v && zeCat1 w) <;> rw [hv] at e
      · cases e
      · cases zeNx_i e
    · cases e
  · unfold zoDup2 at e
    split at e
    · rename_i v w st'
      cases hv : (zeCat1 v && zeCat1 w) <;> rw [hv] at e
      · cases e
      · cases zeNx_i e
        rw [Bool.and_eq_true] at hv
        exact ⟨rfl, true, rfl, fun _ _ p l e R s m args below meth c Q H locs ls cells slots hcx _ _ _ _ _ _ _ K => lv_dup2_11 hcx.1 hcx.2.1 hd (zeTr_cat hcx.gv hv.1) (zeTr_cat hcx.gv hv.2) K⟩
    · cases e
theorem zs_dup_x1 (hd : decode (zeCod i) pc = .ok (.dup_x1, 1)) (hn : pc + 1 = n) : zeSnd G i pc (zoDupX1 n) := by
  subst hn
  refine zs_st (fun L st μ x e => ?_) fun L st μ pc' L' st' μ' e => ?_
  · unfold zoDupX1 at e
    split at e
    · rename_i v w st'
      cases hv : (zeCat1 v && zeCat1 w) <;> rw [hv] at e
      · cases e
      · cases zeNx_i e
    · cases e
  · unfold zoDupX1 at e
    split at e
    · rename_i v w st'
      cases hv : (zeCat1 v && zeCat1 w) <;> rw [hv] at e
      · cases e
      · cases zeNx_i e
        rw [Bool.and_eq_true] at hv
        exact ⟨rfl, true, rfl, fun _ _ p l e R s m args below meth c Q H locs ls cells slots hcx _ _ _ _ _ _ _ K => lv_dup_x1 hcx.1 hcx.2.1 hd (zeTr_cat hcx.gv hv.1) (zeTr_cat hcx.gv hv.2) K⟩
    · cases e
end ZS
end
section
/-! SOUND OPS: locals, branches -/
section ZL
variable {G : zeG} {i pc n t k : Nat}
/-- an op on the locals alone -/
theorem zs_iload (hd : decode (zeCod i) pc = .ok (.iload k, 2)) (hn : pc + 2 = n) : zeSnd G i pc (zoIl k n) := by
  subst hn
  refine zeSnd_of (fun L st μ x e => ?_) fun L st μ pc' L' st' μ' e => ?_
  · unfold zoIl at e
    split at e
    · cases zeNx_i e
    · cases e
  · unfold zoIl at e
    split at e
    · rename_i x hx
      cases zeNx_i e
      exact ⟨true, rfl, fun _ _ p l e R s m args below meth c Q H locs ls cells slots hcx _ _ _ _ _ _ hL hN K => lv_iload hcx.1 hcx.2.1 hd (hL.at hx) (K ls hL hN)⟩
    · cases e
theorem zs_iload_n {f : Fin 4} (hd : decode (zeCod i) pc = .ok (.iload_n f, 1)) (hf : (f : Nat) = k) (hn : pc + 1 = n) : zeSnd G i pc (zoIl k n) := by
  subst hn
  refine zeSnd_of (fun L st μ x e => ?_) fun L st μ pc' L' st' μ' e => ?_
  · unfold zoIl at e
    split at e
    · cases zeNx_i e
    · cases e
  · unfold zoIl at e
    split at e
    · rename_i x hx
      cases zeNx_i e
      exact ⟨true, rfl, fun _ _ p l e R s m args below meth c Q H locs ls cells slots hcx _ _ _ _ _ _ hL hN K => lv_iload_n hcx.1 hcx.2.1 hd hf (hL.at hx) (K ls hL hN)⟩
    · cases e
theorem zs_lload_n {f : Fin 4} (hd : decode (zeCod i) pc = .ok (.lload_n f, 1)) (hf : (f : Nat) = k) (hn : pc + 1 = n) : zeSnd G i pc (zoLl k n) := by
  subst hn
  refine zeSnd_of (fun L st μ x e => ?_) fun L st μ pc' L' st' μ' e => ?_
  · unfold zoLl at e
    split at e
    · cases zeNx_i e
    · cases e
  · unfold zoLl at e
    split at e
    · rename_i x hx
      cases zeNx_i e
      exact ⟨true, rfl, fun _ _ p l e R s m args below meth c Q H locs ls cells slots hcx _ _ _ _ _ _ hL hN K => lv_lload_n hcx.1 hcx.2.1 hd hf (hL.at hx) (K ls hL hN)⟩
    · cases e
theorem zs_aload_n {f : Fin 4} (hd : decode (zeCod i) pc = .ok (.aload_n f, 1)) (hf : (f : Nat) = k) (hn : pc + 1 = n) : zeSnd G i pc (zoAl k n) := by
  subst hn
  refine zeSnd_of (fun L st μ x e => ?_) fun L st μ pc' L' st' μ' e => ?_
  · unfold zoAl at e
    split at e
    · cases zeNx_i e
    · cases e
  · unfold zoAl at e
    split at e
    · rename_i x hx
      cases zeNx_i e
      refine ⟨true, rfl, fun _ _ p l e R s m args below meth c Q H locs ls cells slots hcx _ _ _ _ _ _ hL hN K => ?_⟩
      have h1 := hL.at hx
      have h2 := K ls hL hN
      obtain ⟨r, hr⟩ := zeTr_rf hcx.gv x
      rw [List.map_cons] at h2
      rw [hr] at h1 h2
      cases r with
      | none => exact lv_aload_nN hcx.1 hcx.2.1 hd hf h1 h2
      | some a => exact lv_aload_n hcx.1 hcx.2.1 hd hf h1 h2
    · cases e
theorem zs_aload (hd : decode (zeCod i) pc = .ok (.aload k, 2)) (hn : pc + 2 = n) : zeSnd G i pc (zoAl k n) := by
  subst hn
  refine zeSnd_of (fun L st μ x e => ?_) fun L st μ pc' L' st' μ' e => ?_
  · unfold zoAl at e
    split at e
    · cases zeNx_i e
    · cases e
  · unfold zoAl at e
    split at e
    · rename_i x hx
      cases zeNx_i e
      refine ⟨true, rfl, fun _ _ p l e R s m args below meth c Q H locs ls cells slots hcx _ _ _ _ _ _ hL hN K => ?_⟩
      have h1 := hL.at hx
      have h2 := K ls hL hN
      obtain ⟨r, hr⟩ := zeTr_rf hcx.gv x
      rw [List.map_cons] at h2
      rw [hr] at h1 h2
      cases r with
      | none => exact lv_aloadN hcx.1 hcx.2.1 hd h1 h2
      | some a => exact lv_aload hcx.1 hcx.2.1 hd h1 h2
    · cases e
theorem zs_istore (hg : zeLg i = false) (hk : k < zeNl i) (hd : decode (zeCod i) pc = .ok (.istore k, 2)) (hn : pc + 2 = n) : zeSnd G i pc (zoIs k n) := by
  subst hn
  refine zeSnd_of (fun L st μ x e => ?_) fun L st μ pc' L' st' μ' e => ?_
  · unfold zoIs at e
    split at e
    · cases zeNx_i e
    · cases e
  · unfold zoIs at e
    split at e
    · rename_i x st'
      cases zeNx_i e
      exact ⟨true, rfl, fun _ _ p l e R s m args below meth c Q H locs ls cells slots hcx _ _ _ _ _ _ hL hN K => lv_istore hcx.1 hcx.2.1 hd hL hk rfl fun ls' h' => K ls' (zeLH.set (v := .int x) hcx.gv hN hg h') (hN.set rfl)⟩
    · cases e
theorem zs_istore_n {f : Fin 4} (hg : zeLg i = false) (hk : k < zeNl i) (hd : decode (zeCod i) pc = .ok (.istore_n f, 1)) (hf : (f : Nat) = k) (hn : pc + 1 = n) : zeSnd G i pc (zoIs k n) := by
  subst hn
  refine zeSnd_of (fun L st μ x e => ?_) fun L st μ pc' L' st' μ' e => ?_
  · unfold zoIs at e
    split at e
    · cases zeNx_i e
    · cases e
  · unfold zoIs at e
    split at e
    · rename_i x st'
      cases zeNx_i e
      exact ⟨true, rfl, fun _ _ p l e R s m args below meth c Q H locs ls cells slots hcx _ _ _ _ _ _ hL hN K => lv_istore_n hcx.1 hcx.2.1 hd hf hL hk rfl fun ls' h' => K ls' (zeLH.set (v := .int x) hcx.gv hN hg h') (hN.set rfl)⟩
    · cases e
theorem zs_astore_n {f : Fin 4} (hg : zeLg i = false) (hk : k < zeNl i) (hd : decode (zeCod i) pc = .ok (.astore_n f, 1)) (hf : (f : Nat) = k) (hn : pc + 1 = n) : zeSnd G i pc (zoAs k n) := by
  subst hn
  refine zeSnd_of (fun L st μ x e => ?_) fun L st μ pc' L' st' μ' e => ?_
  · unfold zoAs at e
    split at e
    · cases zeNx_i e
    · cases e
  · unfold zoAs at e
    split at e
    · rename_i x st'
      cases zeNx_i e
      refine ⟨true, rfl, fun _ _ p l e R s m args below meth c Q H locs ls cells slots hcx _ _ _ _ _ _ hL hN K => ?_⟩
      have h3 : ∀ ls', lv_has ls' (zeNl i) ((k, zeTr G (.ref x)) :: (zeLl G 0 L).filter (fun q => !(q.1 == k) && !(q.1 + 1 == k && q.2.category == 2))) → _ := fun ls' h' => K ls' (zeLH.set (v := .ref x) hcx.gv hN hg h') (hN.set rfl)
      obtain ⟨r, hr⟩ := zeTr_rf hcx.gv x
      rw [List.map_cons]
      rw [hr] at h3 ⊢
      cases r with
      | none => exact lv_astore_nN hcx.1 hcx.2.1 hd hf hL hk rfl h3
      | some a => exact lv_astore_n hcx.1 hcx.2.1 hd hf hL hk rfl h3
    · cases e
theorem zs_iinc {c : Int} {v : Int32} (hg : zeLg i = false) (hk : k < zeNl i) (hd : decode (zeCod i) pc = .ok (.iinc k c, 3)) (hv : Int32.ofInt c = v) (hn : pc + 3 = n) : zeSnd G i pc (zoInc k v n) := by
  subst hn
  subst hv
  refine zeSnd_of (fun L st μ x e => ?_) fun L st μ pc' L' st' μ' e => ?_
  · unfold zoInc at e
    split at e
    · cases zeNx_i e
    · cases e
  · unfold zoInc at e
    split at e
    · rename_i x hx
      cases zeNx_i e
      refine ⟨true, rfl, fun _ _ p l e R s m args below meth c Q H locs ls cells slots hcx _ _ _ _ _ _ hL hN K => ?_⟩
      obtain ⟨j, hj⟩ := List.getElem?_of_mem ((zeLl_mem G L 0 k _).mpr ⟨k, _, (Nat.zero_add k).symm, hx, rfl⟩)
      exact lv_iinc (x := x) hcx.1 hcx.2.1 hd hL hj rfl hk rfl fun ls' h' => K ls' (zeLH.set (v := .int _) hcx.gv hN hg h') (hN.set rfl)
    · cases e
theorem zs_goto {off : Int} (hd : decode (zeCod i) pc = .ok (.goto off, 3)) (ht : (pc : Int) + off = (t : Int)) : zeSnd G i pc (zoGo t) := by
  refine zs_st (fun L st μ x e => by cases zeNx_i e) fun L st μ pc' L' st' μ' e => ?_
  cases zeNx_i e
  exact ⟨rfl, true, rfl, fun _ _ p l e R s m args below meth c Q H locs ls cells slots hcx _ _ _ _ _ _ _ K => lv_goto hcx.1 hcx.2.1 hd ht K⟩
/-- a branch: both ways -/
theorem zeTo_if {μ : zeM} {P : Prop} [Decidable P] {a b : List Value} (h : ∀ (p : Program) (l : Launch) (e : Env) (R : Room) (s : State) (m : MethodId) (args : Array Value) (below : List Frame) (meth : Method) (c : Code) (Q : State → Prop) (H : Heap) (locs : List Loc) (ls : Array Slot) (cells slots : Nat), zeCx G i p s m args meth c → (P → W p l e R s m args below meth c H locs cells slots Q (F0 m t ls b)) → (¬ P → W p l e R s m args below meth c H locs cells slots Q (F0 m n ls b)) → W p l e R s m args below meth c H locs cells slots Q (F0 m pc ls a)) : zeTo G i μ pc (if P then t else n) a b := by
  intro p l e R s m args below meth c Q H locs ls cells slots hcx _ _ _ _ _ _ _ K
  refine h p l e R s m args below meth c Q H locs ls cells slots hcx (fun hP => ?_) (fun hP => ?_)
  · rwa [if_pos hP] at K
  · rwa [if_neg hP] at K
theorem zs_if_eq {off : Int} (hd : decode (zeCod i) pc = .ok (.ifCond .eq off, 3)) (ht : (pc : Int) + off = (t : Int)) (hn : pc + 3 = n) : zeSnd G i pc (zoZeq t n) := by
  subst hn
  refine zs_st (fun L st μ x e => ?_) fun L st μ pc' L' st' μ' e => ?_
  · unfold zoZeq at e
    split at e
    · cases zeNx_i e
    · cases e
  · unfold zoZeq at e
    split at e
    · cases zeNx_i e
      exact ⟨rfl, true, rfl, fun _ _ => zeTo_if fun p l e R s m args below meth c Q H locs ls cells slots hcx kt kf => lv_if_eq hcx.1 hcx.2.1 hd ht kt kf⟩
    · cases e
theorem zs_if_lt {off : Int} (hd : decode (zeCod i) pc = .ok (.ifCond .lt off, 3)) (ht : (pc : Int) + off = (t : Int)) (hn : pc + 3 = n) : zeSnd G i pc (zoZlt t n) := by
  subst hn
  refine zs_st (fun L st μ x e => ?_) fun L st μ pc' L' st' μ' e => ?_
  · unfold zoZlt at e
    split at e
    · cases zeNx_i e
    · cases e
  · unfold zoZlt at e
    split at e
    · cases zeNx_i e
      exact ⟨rfl, true, rfl, fun _ _ => zeTo_if fun p l e R s m args below meth c Q H locs ls cells slots hcx kt kf => lv_if_lt hcx.1 hcx.2.1 hd ht kt kf⟩
    · cases e
theorem zs_if_le {off : Int} (hd : decode (zeCod i) pc = .ok (.ifCond .le off, 3)) (ht : (pc : Int) + off = (t : Int)) (hn : pc + 3 = n) : zeSnd G i pc (zoZle t n) := by
  subst hn
  refine zs_st (fun L st μ x e => ?_) fun L st μ pc' L' st' μ' e => ?_
  · unfold zoZle at e
    split at e
    · cases zeNx_i e
    · cases e
  · unfold zoZle at e
    split at e
    · cases zeNx_i e
      exact ⟨rfl, true, rfl, fun _ _ => zeTo_if fun p l e R s m args below meth c Q H locs ls cells slots hcx kt kf => lv_if_le hcx.1 hcx.2.1 hd ht kt kf⟩
    · cases e
theorem zs_if_ge {off : Int} (hd : decode (zeCod i) pc = .ok (.ifCond .ge off, 3)) (ht : (pc : Int) + off = (t : Int)) (hn : pc + 3 = n) : zeSnd G i pc (zoZge t n) := by
  subst hn
  refine zs_st (fun L st μ x e => ?_) fun L st μ pc' L' st' μ' e => ?_
  · unfold zoZge at e
    split at e
    · cases zeNx_i e
    · cases e
  · unfold zoZge at e
    split at e
    · cases zeNx_i e
      exact ⟨rfl, true, rfl, fun _ _ => zeTo_if fun p l e R s m args below meth c Q H locs ls cells slots hcx kt kf => lv_if_ge hcx.1 hcx.2.1 hd ht kt kf⟩
    · cases e
theorem zs_if_gt {off : Int} (hd : decode (zeCod i) pc = .ok (.ifCond .gt off, 3)) (ht : (pc : Int) + off = (t : Int)) (hn : pc + 3 = n) : zeSnd G i pc (zoZgt t n) := by
  subst hn
  refine zs_st (fun L st μ x e => ?_) fun L st μ pc' L' st' μ' e => ?_
  · unfold zoZgt at e
    split at e
    · cases zeNx_i e
    · cases e
  · unfold zoZgt at e
    split at e
    · cases zeNx_i e
      exact ⟨rfl, true, rfl, fun _ _ => zeTo_if fun p l e R s m args below meth c Q H locs ls cells slots hcx kt kf => lv_if_gt hcx.1 hcx.2.1 hd ht kt kf⟩
    · cases e
theorem zs_if_ne {off : Int} (hd : decode (zeCod i) pc = .ok (.ifCond .ne off, 3)) (ht : (pc : Int) + off = (t : Int)) (hn : pc + 3 = n) : zeSnd G i pc (zoZeq n t) := by
  subst hn
  refine zs_st (fun L st μ x e => ?_) fun L st μ pc' L' st' μ' e => ?_
  · unfold zoZeq at e
    split at e
    · cases zeNx_i e
    · cases e
  · unfold zoZeq at e
    split at e
    · cases zeNx_i e
      exact ⟨rfl, true, rfl, fun _ _ => zeTo_if fun p l e R s m args below meth c Q H locs ls cells slots hcx kt kf => lv_if_ne hcx.1 hcx.2.1 hd ht kf kt⟩
    · cases e
theorem zs_icmp_eq {off : Int} (hd : decode (zeCod i) pc = .ok (.if_icmp .eq off, 3)) (ht : (pc : Int) + off = (t : Int)) (hn : pc + 3 = n) : zeSnd G i pc (zoCeq t n) := by
  subst hn
  refine zs_st (fun L st μ x e => ?_) fun L st μ pc' L' st' μ' e => ?_
  · unfold zoCeq at e
    split at e
    · cases zeNx_i e
    · cases e
  · unfold zoCeq at e
    split at e
    · cases zeNx_i e
      exact ⟨rfl, true, rfl, fun _ _ => zeTo_if fun p l e R s m args below meth c Q H locs ls cells slots hcx kt kf => lv_icmp_eq hcx.1 hcx.2.1 hd ht kt kf⟩
    · cases e
theorem zs_icmp_lt {off : Int} (hd : decode (zeCod i) pc = .ok (.if_icmp .lt off, 3)) (ht : (pc : Int) + off = (t : Int)) (hn : pc + 3 = n) : zeSnd G i pc (zoClt t n) := by
  subst hn
  refine zs_st (fun L st μ x e => ?_) fun L st μ pc' L' st' μ' e => ?_
  · unfold zoClt at e
    split at e
    · cases zeNx_i e
    · cases e
  · unfold zoClt at e
    split at e
    · cases zeNx_i e
      exact ⟨rfl, true, rfl, fun _ _ => zeTo_if fun p l e R s m args below meth c Q H locs ls cells slots hcx kt kf => lv_icmp_lt hcx.1 hcx.2.1 hd ht kt kf⟩
    · cases e
theorem zs_icmp_le {off : Int} (hd : decode (zeCod i) pc = .ok (.if_icmp .le off, 3)) (ht : (pc : Int) + off = (t : Int)) (hn : pc + 3 = n) : zeSnd G i pc (zoCle t n) := by
  subst hn
  refine zs_st (fun L st μ x e => ?_) fun L st μ pc' L' st' μ' e => ?_
  · unfold zoCle at e
    split at e
    · cases zeNx_i e
    · cases e
  · unfold zoCle at e
    split at e
    · cases zeNx_i e
      exact ⟨rfl, true, rfl, fun _ _ => zeTo_if fun p l e R s m args below meth c Q H locs ls cells slots hcx kt kf => lv_icmp_le hcx.1 hcx.2.1 hd ht kt kf⟩
    · cases e
theorem zs_icmp_ge {off : Int} (hd : decode (zeCod i) pc = .ok (.if_icmp .ge off, 3)) (ht : (pc : Int) + off = (t : Int)) (hn : pc + 3 = n) : zeSnd G i pc (zoCge t n) := by
  subst hn
  refine zs_st (fun L st μ x e => ?_) fun L st μ pc' L' st' μ' e => ?_
  · unfold zoCge at e
    split at e
    · cases zeNx_i e
    · cases e
  · unfold zoCge at e
    split at e
    · cases zeNx_i e
      exact ⟨rfl, true, rfl, fun _ _ => zeTo_if fun p l e R s m args below meth c Q H locs ls cells slots hcx kt kf => lv_icmp_ge hcx.1 hcx.2.1 hd ht kt kf⟩
    · cases e
theorem zs_icmp_gt {off : Int} (hd : decode (zeCod i) pc = .ok (.if_icmp .gt off, 3)) (ht : (pc : Int) + off = (t : Int)) (hn : pc + 3 = n) : zeSnd G i pc (zoCgt t n) := by
  subst hn
  refine zs_st (fun L st μ x e => ?_) fun L st μ pc' L' st' μ' e => ?_
  · unfold zoCgt at e
    split at e
    · cases zeNx_i e
    · cases e
  · unfold zoCgt at e
    split at e
    · cases zeNx_i e
      exact ⟨rfl, true, rfl, fun _ _ => zeTo_if fun p l e R s m args below meth c Q H locs ls cells slots hcx kt kf => lv_icmp_gt hcx.1 hcx.2.1 hd ht kt kf⟩
    · cases e
theorem zs_icmp_ne {off : Int} (hd : decode (zeCod i) pc = .ok (.if_icmp .ne off, 3)) (ht : (pc : Int) + off = (t : Int)) (hn : pc + 3 = n) : zeSnd G i pc (zoCeq n t) := by
  subst hn
  refine zs_st (fun L st μ x e => ?_) fun L st μ pc' L' st' μ' e => ?_
  · unfold zoCeq at e
    split at e
    · cases zeNx_i e
    · cases e
  · unfold zoCeq at e
    split at e
    · cases zeNx_i e
      exact ⟨rfl, true, rfl, fun _ _ => zeTo_if fun p l e R s m args below meth c Q H locs ls cells slots hcx kt kf => lv_icmp_ne hcx.1 hcx.2.1 hd ht kf kt⟩
    · cases e
end ZL
end
section
/-! SOUND OPS: a long's local, switches, reads of fields and arrays -/
section ZR
variable {G : zeG} {i pc n t k : Nat}
theorem zeGet_lt : ∀ {L : zeLo} {j : Nat} {w : Value}, zeGet L j = some w → j < L.length
  | [], j, w, h => by simp [zeGet] at h
  | a :: l, 0, w, h => by simp
  | a :: l, j + 1, w, h => by
    have := zeGet_lt (L := l) (j := j) (w := w) h
    simp
    omega
theorem zeSet_len : ∀ (L : zeLo) (k : Nat) (x : Option Value), (zeSet L k x).length = L.length
  | [], _, _ => rfl
  | _ :: l, 0, _ => rfl
  | _ :: l, k + 1, x => by simp [zeSet, zeSet_len l k x]
theorem zs_lstore_n {f : Fin 4} (hg : zeLg i = true) (hk : k + 1 < zeNl i) (hd : decode (zeCod i) pc = .ok (.lstore_n f, 1)) (hf : (f : Nat) = k) (hn : pc + 1 = n) : zeSnd G i pc (zoLs k n) := by
  subst hn
  refine zeSnd_of (fun L st μ x e => ?_) fun L st μ pc' L' st' μ' e => ?_
  · unfold zoLs at e
    split at e
    · cases hv : zeNoL L k <;> rw [hv] at e
      · cases e
      · cases zeNx_i e
    · cases e
  · unfold zoLs at e
    split at e
    · rename_i x st'
      cases hv : zeNoL L k <;> rw [hv] at e
      · cases e
      · cases zeNx_i e
        refine ⟨true, rfl, fun _ _ p l e R s m args below meth c Q H locs ls cells slots hcx _ _ _ _ _ _ hL hN K => ?_⟩
        refine lv_lstore_n hcx.1 hcx.2.1 hd hf hL hk rfl fun ls' h' => K ls' ⟨h'.1, h'.2.1, fun q hq => ?_⟩ (fun h => by rw [hg] at h; cases h)
        obtain ⟨j, w, e1, e2, e3⟩ := (zeLl_mem G _ 0 q.1 q.2).mp hq
        rw [zeGet_set] at e2
        split at e2
        · cases e2
        · rename_i hj
          have hl := zeGet_lt e2
          rw [zeGet_set] at e2
          rw [zeSet_len] at hj hl
          apply h'.2.2
          split at e2
          · cases e2
            obtain ⟨q1, q2⟩ := q
            dsimp only at e1 e3
            subst e3
            rename_i hjk
            rw [show q1 = k by omega]
            exact List.mem_cons_self
          · rename_i hjk
            have n1 : j ≠ k := fun e => hjk ⟨e, by omega⟩
            have n2 : j ≠ k + 1 := fun e => hj ⟨e, by omega⟩
            refine List.mem_cons_of_mem _ (List.mem_filter.mpr ⟨(zeLl_mem G L 0 q.1 q.2).mpr ⟨j, w, e1, e2, e3⟩, ?_⟩)
            have h1 : ¬ q.1 = k := by omega
            have h2 : ¬ q.1 = k + 1 := by omega
            by_cases h3 : q.1 + 1 = k
            · have : zeCat1 w = true := by
                subst h3
                rw [show q.1 = j by omega] at hv
                simp only [zeNoL, e2] at hv
                exact hv
              have hc : q.2.category = 1 := by rw [e3]; exact zeTr_cat hcx.gv this
              simp [h1, h2, hc]
            · simp [h1, h2, h3]
    · cases e
/-- a switch -/
theorem zeSw_at {x : Int32} {d : Nat} : ∀ {l : List (Int32 × Nat)} {t : Nat}, (∀ q ∈ l, x ≠ q.1) ∧ t = d ∨ (∃ (j : Nat) (k : Int32), l[j]? = some (k, t) ∧ x = k ∧ ∀ j' : Nat, j' < j → ∀ q : Int32 × Nat, l[j']? = some q → x ≠ q.1) → zeSw x d l = t
  | [], t, h => by
    rcases h with ⟨-, rfl⟩ | ⟨j, k, h, -⟩
    · rfl
    · simp at h
  | (k0, t0) :: l, t, h => by
    unfold zeSw
    rcases h with ⟨h1, rfl⟩ | ⟨j, k, h1, h2, h3⟩
    · rw [if_neg (h1 _ List.mem_cons_self)]
      exact zeSw_at (Or.inl ⟨fun q hq => h1 q (List.mem_cons_of_mem _ hq), rfl⟩)
    · cases j with
      | zero =>
        simp at h1
        rw [if_pos (by rw [h2, h1.1]), h1.2]
      | succ j =>
        rw [if_neg (h3 0 (by omega) _ rfl)]
        exact zeSw_at (Or.inr ⟨j, k, by simpa using h1, h2, fun j' hj' q hq => h3 (j' + 1) (by omega) q (by simpa using hq)⟩)
theorem zs_Sw {l : List (Int32 × Nat)} {d : Nat} (h : ∀ μ rest x, zeTo G i μ pc (zeSw x d l) (.int x :: rest) rest) : zeSnd G i pc (zoSw l d) := by
  refine zs_st (fun L st μ x e => ?_) fun L st μ pc' L' st' μ' e => ?_
  · unfold zoSw at e
    split at e
    · cases zeNx_i e
    · cases e
  · unfold zoSw at e
    split at e
    · cases zeNx_i e
      exact ⟨rfl, true, rfl, fun _ _ => h _ _ _⟩
    · cases e
theorem zs_tswitch {lo hi df : Int} {offs : Array Int} {len d : Nat} {l : List (Int32 × Nat)} (hd : decode (zeCod i) pc = .ok (.tableswitch df lo hi offs, len)) (hdf : (pc : Int) + df = (d : Int)) (hlen : l.length = offs.size ∧ (offs.size : Int) = hi - lo + 1)
    (hl : ∀ j, j < offs.size → ∃ k t off, l[j]? = some (k, t) ∧ k.toInt = lo + j ∧ offs[j]? = some off ∧ (pc : Int) + off = (t : Int)) : zeSnd G i pc (zoSw l d) := by
  refine zs_Sw fun μ rest x p l' e R s m args below meth c Q H locs ls cells slots hcx _ _ _ _ _ _ _ K => ?_
  by_cases h : x.toInt < lo ∨ hi < x.toInt
  · rw [zeSw_at (t := d) (Or.inl ⟨fun q hq e => ?_, rfl⟩)] at K
    · exact lv_tableOut hcx.1 hcx.2.1 hd h hdf K
    · obtain ⟨j, hj⟩ := List.getElem?_of_mem hq
      have hjl : j < offs.size := by rw [← hlen.1]; exact (List.getElem?_eq_some_iff.mp hj).1
      obtain ⟨k, t, off, g1, g2, g3, g4⟩ := hl j hjl
      rw [hj] at g1
      cases g1
      rw [e] at h
      dsimp only at h
      omega
  · have h1 : ¬ x.toInt < lo := fun q => h (Or.inl q)
    have h2 : ¬ hi < x.toInt := fun q => h (Or.inr q)
    have hjl : (x.toInt - lo).toNat < offs.size := by omega
    obtain ⟨k, t, off, g1, g2, g3, g4⟩ := hl _ hjl
    rw [zeSw_at (t := t) (Or.inr ⟨_, k, g1, ?_, fun j' hj' q hq e => ?_⟩)] at K
    · exact lv_tableIn hcx.1 hcx.2.1 hd h1 h2 g3 g4 K
    · apply Int32.toInt_inj.mp
      omega
    · obtain ⟨k', t', off', f1, f2, f3, f4⟩ := hl j' (by omega)
      rw [hq] at f1
      cases f1
      rw [e] at hj' h1
      dsimp only at hj' h1
      omega
/-- a lookupswitch of two keys -/
theorem zs_lswitch2 {df : Int} {a1 o1 a2 o2 : Int} {len d t1 t2 : Nat} {k1 k2 : Int32} (hd : decode (zeCod i) pc = .ok (.lookupswitch df #[(a1, o1), (a2, o2)], len)) (hk : k1.toInt = a1 ∧ k2.toInt = a2 ∧ a1 < a2) (h0 : (pc : Int) + df = (d : Int)) (h1 : (pc : Int) + o1 = (t1 : Int)) (h2 : (pc : Int) + o2 = (t2 : Int)) : zeSnd G i pc (zoSw [(k1, t1), (k2, t2)] d) := by
  refine zs_Sw fun μ rest x p l' e R s m args below meth c Q H locs ls cells slots hcx _ _ _ _ _ _ _ K => ?_
  simp only [zeSw] at K
  have hp : ((#[(a1, o1), (a2, o2)] : Array (Int × Int)).toList.zip ((#[(a1, o1), (a2, o2)] : Array (Int × Int)).toList.drop 1)).all (fun (a, next) => a.1 < next.1) = true := by
    simp [hk.2.2]
  by_cases c1 : x = k1
  · rw [if_pos c1] at K
    exact lv_lookup hcx.1 hcx.2.1 hd hp (by rw [c1, hk.1]; simp [Op.lookupswitch.offset]) h1 K
  · rw [if_neg c1] at K
    by_cases c2 : x = k2
    · rw [if_pos c2] at K
      exact lv_lookup hcx.1 hcx.2.1 hd hp (by rw [show (#[(a1, o1), (a2, o2)] : Array (Int × Int)).toList = [(a1, o1), (a2, o2)] from rfl, lv_osw c1 hk.1, c2, hk.2.1]; simp [Op.lookupswitch.offset]) h2 K
    · rw [if_neg c2] at K
      exact lv_lookup hcx.1 hcx.2.1 hd hp (by rw [show (#[(a1, o1), (a2, o2)] : Array (Int × Int)).toList = [(a1, o1), (a2, o2)] from rfl, lv_osw c1 hk.1, lv_osw c2 hk.2.1]; simp [Op.lookupswitch.offset]) h0 K
end ZR
end
section
/-! SOUND OPS: fields and arrays, read -/
theorem zeWf.new {G : zeG} {μ : zeM} (hw : zeWf G μ) {a : Nat} (h0 : 0 < zeKd μ a) (h : zeKd μ a < 100) : 16 ≤ a ∧ a < 16 + zeN μ := by
  refine ⟨?_, (hw.2.2.1 a h0).1⟩
  rcases Nat.lt_or_ge a 16 with h1 | h1
  · rcases hw.2.2.2.2 a h1 with h3 | h3 <;> omega
  · exact h1
theorem zeCellR_obj (G : zeG) {kd ln : Nat} {r : Nat → Option Nat} {f : Nat → Int32} {g : Nat → Int64} {ci : Nat} (h : kd = ci + 1) (hc : ci < 39) : zeCellR G kd ln r f g = .inr (ci, zeFs G r f 0 (zeFL ci)) := by
  unfold zeCellR
  rw [h, if_pos (by omega)]
  rfl
theorem zeCellR_i (G : zeG) {kd ln : Nat} {r : Nat → Option Nat} {f : Nat → Int32} {g : Nat → Int64} {t : Nat} (h : kd = 40 + t) (h5 : t ≠ 5) (h1 : t ≠ 1) : zeCellR G kd ln r f g = .inl (zeCA G t, ln, .inl f) := by
  unfold zeCellR zeArrR
  rw [h, if_neg (by omega), show 40 + t - 40 = t by omega, if_neg h5, if_neg h1]
theorem zeCellR_l (G : zeG) {kd ln : Nat} {r : Nat → Option Nat} {f : Nat → Int32} {g : Nat → Int64} (h : kd = 41) : zeCellR G kd ln r f g = .inl (zeCA G 1, ln, .inr (.inl g)) := by
  subst h
  rfl
theorem zeCellR_q (G : zeG) {kd ln : Nat} {r : Nat → Option Nat} {f : Nat → Int32} {g : Nat → Int64} (h : kd = 45) : zeCellR G kd ln r f g = .inl (zeCA G 5, ln, .inr (.inr (.inr (.inr (fun j => (r j).map (zeAd G)))))) := by
  subst h
  rfl
theorem zeCell_obj (G : zeG) {μ : zeM} {a ci : Nat} (h : zeKd μ a = ci + 1) (hc : ci < 39) : zeCell G μ a = .inr (ci, zeFs G (zeRm μ a) (zeIm μ a) 0 (zeFL ci)) := zeCellR_obj G h hc
theorem zeCell_i (G : zeG) {μ : zeM} {a t : Nat} (h : zeKd μ a = 40 + t) (h5 : t ≠ 5) (h1 : t ≠ 1) : zeCell G μ a = .inl (zeCA G t, zeLn μ a, .inl (zeIm μ a)) := zeCellR_i G h h5 h1
theorem zeCell_l (G : zeG) {μ : zeM} {a : Nat} (h : zeKd μ a = 41) : zeCell G μ a = .inl (zeCA G 1, zeLn μ a, .inr (.inl (zeLm μ a))) := zeCellR_l G h
theorem zeCell_q (G : zeG) {μ : zeM} {a : Nat} (h : zeKd μ a = 45) : zeCell G μ a = .inl (zeCA G 5, zeLn μ a, .inr (.inr (.inr (.inr (fun j => (zeRm μ a j).map (zeAd G)))))) := zeCellR_q G h
theorem zeCell_a (G : zeG) {μ : zeM} {a t : Nat} (h : zeKd μ a = 40 + t) : ∃ x : vp_A, zeCell G μ a = .inl (zeCA G t, x) ∧ x.1 = zeLn μ a := by
  unfold zeCell zeCellR
  rw [h, if_neg (by omega), show 40 + t - 40 = t by omega]
  refine ⟨_, rfl, ?_⟩
  unfold zeArrR
  split
  · rfl
  · split <;> rfl
theorem zeCl_lt {ci : Nat} {q : vw_C} (h : zeCl[ci]? = some q) : ci < 39 := by
  have := (List.getElem?_eq_some_iff.mp h).1
  simp [zeCl] at this
  omega
theorem zeInb_in {i : Int32} {n : Nat} (h : zeInb i n = true) : vp_in i n := by
  unfold zeInb at h
  rw [Bool.and_eq_true] at h
  intro q
  rcases q with q | q
  · simp [q] at h
  · have := h.2
    simp [Nat.blt] at this
    omega
section ZG
variable {G : zeG} {i pc n : Nat}
theorem zs_gf {own C ref : String} {T : u_T} {N ci j index : Nat} (ho : (zeNam i).cls = own) (hc : zeCl[ci]? = some (C, T, N)) (hin : ∀ w ∈ u_ws C T N, w ∈ zeBT) (hj : j < N) (hb : (zeFL ci)[j]? = some false) (hlink : Cond.fieldLink own index ref (T j).2.1 (T j).2.2.1 ∈ zeBT) (href : (T j).1 = ref) (hd : decode (zeCod i) pc = .ok (.getfield index, 3)) (hn : pc + 3 = n) : zeSnd G i pc (zoGf ci j n) := by
  subst hn
  subst href
  refine zs_st (fun L st μ x e => ?_) fun L st μ pc' L' st' μ' e => ?_
  · unfold zoGf at e
    split at e
    · rename_i a st'
      cases hk : Nat.beq (zeKd μ a) (ci + 1) <;> rw [hk] at e
      · cases e
      · cases zeNx_i e
    · cases e
  · unfold zoGf at e
    split at e
    · rename_i a st'
      cases hk : Nat.beq (zeKd μ a) (ci + 1) <;> rw [hk] at e
      · cases e
      · cases zeNx_i e
        refine ⟨rfl, true, rfl, fun _ hw p l e R s m args below meth c Q H locs ls cells slots hcx _ _ _ _ hP hS _ K => ?_⟩
        have hk := Nat.eq_of_beq_eq_true hk
        have hlt := zeCl_lt hc
        obtain ⟨h1, h2⟩ := hw.new (a := a) (by omega) (by omega)
        have he := zeW_get (G := G) h1 h2
        rw [zeCell_obj G hk hlt] at he
        have hv := zeFs_get G (zeRm μ a) (zeIm μ a) _ 0 j _ hb
        rw [if_neg (by decide), Nat.zero_add] at hv
        rw [List.map_cons, zeTr_r G h1]
        exact va_get hcx.1 hcx.2.1 hcx.ws hin (ho ▸ hcx.own) hcx.K hP.1 (a - 16) he hc j hj (hcx.ws _ hlink) (fun _ h => h) hv hd K
    · cases e
theorem zs_gr {own C ref : String} {T : u_T} {N ci j index : Nat} (ho : (zeNam i).cls = own) (hc : zeCl[ci]? = some (C, T, N)) (hin : ∀ w ∈ u_ws C T N, w ∈ zeBT) (hj : j < N) (hb : (zeFL ci)[j]? = some true) (hlink : Cond.fieldLink own index ref (T j).2.1 (T j).2.2.1 ∈ zeBT) (href : (T j).1 = ref) (hd : decode (zeCod i) pc = .ok (.getfield index, 3)) (hn : pc + 3 = n) : zeSnd G i pc (zoGr ci j n) := by
  subst hn
  subst href
  refine zs_st (fun L st μ x e => ?_) fun L st μ pc' L' st' μ' e => ?_
  · unfold zoGr at e
    split at e
    · rename_i a st'
      cases hk : Nat.beq (zeKd μ a) (ci + 1) <;> rw [hk] at e
      · cases e
      · cases zeNx_i e
    · cases e
  · unfold zoGr at e
    split at e
    · rename_i a st'
      cases hk : Nat.beq (zeKd μ a) (ci + 1) <;> rw [hk] at e
      · cases e
      · cases zeNx_i e
        refine ⟨rfl, true, rfl, fun _ hw p l e R s m args below meth c Q H locs ls cells slots hcx _ _ _ _ hP hS _ K => ?_⟩
        have hk := Nat.eq_of_beq_eq_true hk
        have hlt := zeCl_lt hc
        obtain ⟨h1, h2⟩ := hw.new (a := a) (by omega) (by omega)
        have he := zeW_get (G := G) h1 h2
        rw [zeCell_obj G hk hlt] at he
        have hv := zeFs_get G (zeRm μ a) (zeIm μ a) _ 0 j _ hb
        rw [if_pos rfl, Nat.zero_add] at hv
        rw [List.map_cons, zeTr_r G h1]
        have hvr : va_rf ((zeRm μ a j).map (zeAd G)) = zeTr G (zeRf (zeRm μ a j)) := by
          cases hr : zeRm μ a j with
          | none => rfl
          | some r => exact (zeTr_r G (hw.2.2.2.1 a j r hr h1)).symm
        rw [hvr] at hv
        exact va_get hcx.1 hcx.2.1 hcx.ws hin (ho ▸ hcx.own) hcx.K hP.1 (a - 16) he hc j hj (hcx.ws _ hlink) (fun _ h => h) hv hd K
    · cases e
/-- fields of the text constants: value at place 0, coder at place 1 -/
theorem zs_gfO {own : String} {index : Nat} (ho : (zeNam i).cls = own) (hlink : Cond.fieldLink own index "java/lang/String" "coder" "B" ∈ zeBT) (hd : decode (zeCod i) pc = .ok (.getfield index, 3)) (hn : pc + 3 = n) : zeSnd G i pc (zoGfO 1 n) := by
  subst hn
  refine zs_st (fun L st μ x e => ?_) fun L st μ pc' L' st' μ' e => ?_
  · unfold zoGfO at e
    split at e
    · rename_i a st'
      cases hk : Nat.beq (zeKd μ a) 110 <;> rw [hk] at e
      · cases e
      · cases zeNx_i e
    · cases e
  · unfold zoGfO at e
    split at e
    · rename_i a st'
      cases hk : Nat.beq (zeKd μ a) 110 <;> rw [hk] at e
      · cases e
      · cases zeNx_i e
        refine ⟨rfl, true, rfl, fun _ hw p l e R s m args below meth c Q H locs ls cells slots hcx _ _ _ _ hP hS _ K => ?_⟩
        have hk := Nat.eq_of_beq_eq_true hk
        have h1 : a < 16 := by
          rcases (hw.2.2.1 a (by omega)).2 with h | h <;> omega
        obtain ⟨g1, g2, g3, g4⟩ := hw.1 a h1
        obtain ⟨t, r, e1, e2, e3, e4, e5, e6⟩ := (hcx.old a h1).2.2.1 (by omega)
        rw [List.map_cons, zeTr_o G h1, e1]
        rw [List.map_cons, zeTr_i, g3] at K
        exact vk_getf hcx.1 hcx.2.1 e6 hS (ho ▸ hcx.own) (hcx.ws _ hlink) (fun _ h => h) hd K
    · cases e
theorem zs_grO {own : String} {index : Nat} (ho : (zeNam i).cls = own) (hlink : Cond.fieldLink own index "java/lang/String" "value" "[B" ∈ zeBT) (hd : decode (zeCod i) pc = .ok (.getfield index, 3)) (hn : pc + 3 = n) : zeSnd G i pc (zoGrO 0 n) := by
  subst hn
  refine zs_st (fun L st μ x e => ?_) fun L st μ pc' L' st' μ' e => ?_
  · unfold zoGrO at e
    split at e
    · rename_i a st'
      cases hk : Nat.beq (zeKd μ a) 110 <;> rw [hk] at e
      · cases e
      · cases zeNx_i e
    · cases e
  · unfold zoGrO at e
    split at e
    · rename_i a st'
      cases hk : Nat.beq (zeKd μ a) 110 <;> rw [hk] at e
      · cases e
      · cases zeNx_i e
        refine ⟨rfl, true, rfl, fun _ hw p l e R s m args below meth c Q H locs ls cells slots hcx _ _ _ _ hP hS _ K => ?_⟩
        have hk := Nat.eq_of_beq_eq_true hk
        have h1 : a < 16 := by
          rcases (hw.2.2.1 a (by omega)).2 with h | h <;> omega
        obtain ⟨g1, g2, g3, g4⟩ := hw.1 a h1
        obtain ⟨t, r, e1, e2, e3, e4, e5, e6⟩ := (hcx.old a h1).2.2.1 (by omega)
        rw [List.map_cons, zeTr_o G h1, e1]
        rw [List.map_cons, g4, e2, show zeTr G (zeRf (some r)) = zeOv G r from zeTr_o G e3] at K
        exact vk_getf hcx.1 hcx.2.1 e5 hS (ho ▸ hcx.own) (hcx.ws _ hlink) (fun _ h => h) hd K
    · cases e
/-- int, byte, char and boolean arrays -/
theorem zs_Ld {t : Nat} (t0 : Nat) (ht : t = 40 + t0) (h5 : t0 ≠ 5) (h1' : t0 ≠ 1) (h6 : t0 < 6) (hrow : ∀ (p : Program) (l : Launch) (e : Env) (R : Room) (s : State) (m : MethodId) (args : Array Value) (below : List Frame) (meth : Method) (c : Code) (Q : State → Prop) (H : Heap) (locs : List Loc) (ls : Array Slot) (cells slots : Nat) (ws : va_W) (q0 a nn : Nat) (f : Nat → Int32) (j : Int32) (rest : List Value),
      zeCx G i p s m args meth c → va_P (zeD G) zeCl ws H → ws[q0]? = some (a, .inl (zeCA G t0, nn, .inl f)) → vp_in j nn → W p l e R s m args below meth c H locs cells slots Q (F0 m n ls (.int (f j.toNatClampNeg) :: rest)) → W p l e R s m args below meth c H locs cells slots Q (F0 m pc ls (.int j :: .ref a :: rest))) : zeSnd G i pc (zoLd t n) := by
  refine zs_st (fun L st μ x e => ?_) fun L st μ pc' L' st' μ' e => ?_
  · unfold zoLd at e
    split at e
    · rename_i j a st'
      cases hk : Nat.beq (zeKd μ a) t <;> rw [hk] at e
      · cases e
      · cases zeNx_i e
    · cases e
  · unfold zoLd at e
    split at e
    · rename_i j a st'
      cases hk : Nat.beq (zeKd μ a) t <;> rw [hk] at e
      · cases e
      · cases zeNx_i e
        refine ⟨rfl, _, rfl, fun hb hw p l e R s m args below meth c Q H locs ls cells slots hcx _ _ _ _ hP hS _ K => ?_⟩
        have hk := Nat.eq_of_beq_eq_true hk
        obtain ⟨h1, h2⟩ := hw.new (a := a) (by omega) (by omega)
        have he := zeW_get (G := G) h1 h2
        rw [zeCell_i G (hk.trans ht) h5 h1'] at he
        rw [List.map_cons, List.map_cons, zeTr_r G h1]
        exact hrow p l e R s m args below meth c Q H locs ls cells slots _ _ _ _ _ j _ hcx hP.1 he (zeInb_in hb) K
    · cases e
theorem zs_iaload (hd : decode (zeCod i) pc = .ok (.iaload, 1)) (hn : pc + 1 = n) : zeSnd G i pc (zoLd 40 n) := by
  subst hn
  exact zs_Ld 0 rfl (by decide) (by decide) (by decide) fun p l e R s m args below meth c Q H locs ls cells slots ws q0 a nn f j rest hcx hP he hin K => va_iald hcx.1 hcx.2.1 hcx.K hP q0 0 he rfl hin hd K
theorem zs_baloadB (hd : decode (zeCod i) pc = .ok (.baload, 1)) (hn : pc + 1 = n) : zeSnd G i pc (zoLd 42 n) := by
  subst hn
  exact zs_Ld 2 rfl (by decide) (by decide) (by decide) fun p l e R s m args below meth c Q H locs ls cells slots ws q0 a nn f j rest hcx hP he hin K => va_bald hcx.1 hcx.2.1 hcx.K hP q0 2 he rfl hin hd K
theorem zs_caload (hd : decode (zeCod i) pc = .ok (.caload, 1)) (hn : pc + 1 = n) : zeSnd G i pc (zoLd 43 n) := by
  subst hn
  exact zs_Ld 3 rfl (by decide) (by decide) (by decide) fun p l e R s m args below meth c Q H locs ls cells slots ws q0 a nn f j rest hcx hP he hin K => va_cald hcx.1 hcx.2.1 hcx.K hP q0 3 he rfl hin hd K
theorem zs_baloadZ (hd : decode (zeCod i) pc = .ok (.baload, 1)) (hn : pc + 1 = n) : zeSnd G i pc (zoLd 44 n) := by
  subst hn
  exact zs_Ld 4 rfl (by decide) (by decide) (by decide) fun p l e R s m args below meth c Q H locs ls cells slots ws q0 a nn f j rest hcx hP he hin K => va_zald hcx.1 hcx.2.1 hcx.K hP q0 4 he rfl hin hd K
theorem zs_laload (hd : decode (zeCod i) pc = .ok (.laload, 1)) (hn : pc + 1 = n) : zeSnd G i pc (zoLld n) := by
  subst hn
  refine zs_st (fun L st μ x e => ?_) fun L st μ pc' L' st' μ' e => ?_
  · unfold zoLld at e
    split at e
    · rename_i j a st'
      cases hk : Nat.beq (zeKd μ a) 41 <;> rw [hk] at e
      · cases e
      · cases zeNx_i e
    · cases e
  · unfold zoLld at e
    split at e
    · rename_i j a st'
      cases hk : Nat.beq (zeKd μ a) 41 <;> rw [hk] at e
      · cases e
      · cases zeNx_i e
        refine ⟨rfl, _, rfl, fun hb hw p l e R s m args below meth c Q H locs ls cells slots hcx _ _ _ _ hP hS _ K => ?_⟩
        have hk := Nat.eq_of_beq_eq_true hk
        obtain ⟨h1, h2⟩ := hw.new (a := a) (by omega) (by omega)
        have he := zeW_get (G := G) h1 h2
        rw [zeCell_l G hk] at he
        rw [List.map_cons, List.map_cons, zeTr_r G h1]
        exact va_lald hcx.1 hcx.2.1 hcx.K hP.1 (a - 16) 1 he rfl (zeInb_in hb) hd K
    · cases e
theorem zs_aaload (hd : decode (zeCod i) pc = .ok (.aaload, 1)) (hn : pc + 1 = n) : zeSnd G i pc (zoAld n) := by
  subst hn
  refine zs_st (fun L st μ x e => ?_) fun L st μ pc' L' st' μ' e => ?_
  · unfold zoAld at e
    split at e
    · rename_i j a st'
      cases hk : Nat.beq (zeKd μ a) 45 <;> rw [hk] at e
      · cases e
      · cases zeNx_i e
    · cases e
  · unfold zoAld at e
    split at e
    · rename_i j a st'
      cases hk : Nat.beq (zeKd μ a) 45 <;> rw [hk] at e
      · cases e
      · cases zeNx_i e
        refine ⟨rfl, _, rfl, fun hb hw p l e R s m args below meth c Q H locs ls cells slots hcx _ _ _ _ hP hS _ K => ?_⟩
        have hk := Nat.eq_of_beq_eq_true hk
        obtain ⟨h1, h2⟩ := hw.new (a := a) (by omega) (by omega)
        have he := zeW_get (G := G) h1 h2
        rw [zeCell_q G hk] at he
        have hvr : va_rf ((zeRm μ a j.toNatClampNeg).map (zeAd G)) = zeTr G (zeRf (zeRm μ a j.toNatClampNeg)) := by
          cases hr : zeRm μ a j.toNatClampNeg with
          | none => rfl
          | some r => exact (zeTr_r G (hw.2.2.2.1 a _ r hr h1)).symm
        rw [List.map_cons, List.map_cons, zeTr_r G h1]
        rw [List.map_cons, ← hvr] at K
        exact va_aldq hcx.1 hcx.2.1 hcx.K hP.1 (a - 16) 5 he rfl (zeInb_in hb) hd K
    · cases e
theorem zs_alen (hd : decode (zeCod i) pc = .ok (.arraylength, 1)) (hn : pc + 1 = n) : zeSnd G i pc (zoLen n) := by
  subst hn
  refine zs_st (fun L st μ x e => ?_) fun L st μ pc' L' st' μ' e => ?_
  · unfold zoLen at e
    split at e
    · rename_i a st'
      cases hk : (Nat.ble 40 (zeKd μ a) && Nat.ble (zeKd μ a) 45) <;> rw [hk] at e
      · cases e
      · cases zeNx_i e
    · cases e
  · unfold zoLen at e
    split at e
    · rename_i a st'
      cases hk : (Nat.ble 40 (zeKd μ a) && Nat.ble (zeKd μ a) 45) <;> rw [hk] at e
      · cases e
      · cases zeNx_i e
        refine ⟨rfl, true, rfl, fun hb hw p l e R s m args below meth c Q H locs ls cells slots hcx _ _ _ _ hP hS _ K => ?_⟩
        rw [Bool.and_eq_true] at hk
        have k1 := Nat.le_of_ble_eq_true hk.1
        have k2 := Nat.le_of_ble_eq_true hk.2
        obtain ⟨h1, h2⟩ := hw.new (a := a) (by omega) (by omega)
        have he := zeW_get (G := G) h1 h2
        obtain ⟨x9, hx9, hlen⟩ := zeCell_a G (μ := μ) (a := a) (t := zeKd μ a - 40) (by omega)
        rw [hx9] at he
        rw [List.map_cons, zeTr_r G h1]
        have hty : ∃ ty, (zeTY G)[zeKd μ a - 40]? = some (zeCA G (zeKd μ a - 40), ty) := by
          generalize hk9 : zeKd μ a - 40 = k9
          have : k9 ≤ 5 := by omega
          match k9, this with
          | 0, _ => exact ⟨_, rfl⟩
          | 1, _ => exact ⟨_, rfl⟩
          | 2, _ => exact ⟨_, rfl⟩
          | 3, _ => exact ⟨_, rfl⟩
          | 4, _ => exact ⟨_, rfl⟩
          | 5, _ => exact ⟨_, rfl⟩
          | k + 6, h => exact absurd h (by omega)
        obtain ⟨ty, hty⟩ := hty
        exact va_alen hcx.1 hcx.2.1 hcx.K hP.1 (a - 16) _ he hty (by rw [hlen]) hd K
    · cases e
/-! arrays that stood at the start -/
theorem zs_LdO {t : Nat} (hold : 100 ≤ t) (hrow : ∀ (p : Program) (l : Launch) (e : Env) (R : Room) (s : State) (m : MethodId) (args : Array Value) (below : List Frame) (meth : Method) (c : Code) (Q : State → Prop) (H : Heap) (locs : List Loc) (ls : Array Slot) (cells slots : Nat) (a : Nat) (j : Int32) (rest : List Value),
      zeCx G i p s m args meth c → va_S (zeA G) s.heap H locs → a < 16 → zeOk G a = t → vp_in j (zeOl G a) → W p l e R s m args below meth c H locs cells slots Q (F0 m n ls (.int (zeOi G a j.toNatClampNeg) :: rest)) → W p l e R s m args below meth c H locs cells slots Q (F0 m pc ls (.int j :: zeOv G a :: rest))) : zeSnd G i pc (zoLd t n) := by
  refine zs_st (fun L st μ x e => ?_) fun L st μ pc' L' st' μ' e => ?_
  · unfold zoLd at e
    split at e
    · rename_i j a st'
      cases hk : Nat.beq (zeKd μ a) t <;> rw [hk] at e
      · cases e
      · cases zeNx_i e
    · cases e
  · unfold zoLd at e
    split at e
    · rename_i j a st'
      cases hk : Nat.beq (zeKd μ a) t <;> rw [hk] at e
      · cases e
      · cases zeNx_i e
        refine ⟨rfl, _, rfl, fun hb hw p l e R s m args below meth c Q H locs ls cells slots hcx _ _ _ _ hP hS _ K => ?_⟩
        have hk := Nat.eq_of_beq_eq_true hk
        have h1 : a < 16 := by
          rcases (hw.2.2.1 a (by omega)).2 with h | h <;> omega
        obtain ⟨g1, g2, g3, g4⟩ := hw.1 a h1
        rw [List.map_cons, List.map_cons, zeTr_o G h1]
        rw [g3] at K
        exact hrow p l e R s m args below meth c Q H locs ls cells slots a j _ hcx hS h1 (by omega) (by rw [← g2]; exact zeInb_in hb) K
    · cases e
theorem zs_ialoadO (hd : decode (zeCod i) pc = .ok (.iaload, 1)) (hn : pc + 1 = n) : zeSnd G i pc (zoLd 100 n) := by
  subst hn
  refine zs_LdO (by decide) fun p l e R s m args below meth c Q H locs ls cells slots a j rest hcx hS h1 hk hin K => ?_
  obtain ⟨t, e1, e2⟩ := (hcx.old a h1).1 hk
  rw [e1]
  exact va_ti hcx.1 hcx.2.1 e2 hS hin rfl hd K
theorem zs_baloadO (hd : decode (zeCod i) pc = .ok (.baload, 1)) (hn : pc + 1 = n) : zeSnd G i pc (zoLd 102 n) := by
  subst hn
  refine zs_LdO (by decide) fun p l e R s m args below meth c Q H locs ls cells slots a j rest hcx hS h1 hk hin K => ?_
  obtain ⟨t, e1, e2, -⟩ := (hcx.old a h1).2.1 hk
  rw [e1]
  exact va_tb hcx.1 hcx.2.1 e2 hS hin rfl hd K
theorem zs_alenO (hd : decode (zeCod i) pc = .ok (.arraylength, 1)) (hn : pc + 1 = n) : zeSnd G i pc (zoLenO n) := by
  subst hn
  refine zs_st (fun L st μ x e => ?_) fun L st μ pc' L' st' μ' e => ?_
  · unfold zoLenO at e
    split at e
    · rename_i a st'
      cases hk : (Nat.beq (zeKd μ a) 100 || Nat.beq (zeKd μ a) 102) <;> rw [hk] at e
      · cases e
      · cases zeNx_i e
    · cases e
  · unfold zoLenO at e
    split at e
    · rename_i a st'
      cases hk : (Nat.beq (zeKd μ a) 100 || Nat.beq (zeKd μ a) 102) <;> rw [hk] at e
      · cases e
      · cases zeNx_i e
        refine ⟨rfl, true, rfl, fun hb hw p l e R s m args below meth c Q H locs ls cells slots hcx _ _ _ _ hP hS _ K => ?_⟩
        have hk : zeKd μ a = 100 ∨ zeKd μ a = 102 := by
          rcases Bool.or_eq_true _ _ ▸ hk with h | h
          · exact Or.inl (Nat.eq_of_beq_eq_true h)
          · exact Or.inr (Nat.eq_of_beq_eq_true h)
        have h1 : a < 16 := by
          rcases (hw.2.2.1 a (by omega)).2 with h | h <;> omega
        obtain ⟨g1, g2, g3, g4⟩ := hw.1 a h1
        rw [List.map_cons, zeTr_o G h1]
        rw [List.map_cons, zeTr_i, g2] at K
        rcases hk with hk | hk
        · obtain ⟨t, e1, e2⟩ := (hcx.old a h1).1 (by omega)
          rw [e1]
          exact va_tlen hcx.1 hcx.2.1 e2 hS rfl hd K
        · obtain ⟨t, e1, e2, -⟩ := (hcx.old a h1).2.1 (by omega)
          rw [e1]
          exact va_tlen hcx.1 hcx.2.1 e2 hS rfl hd K
    · cases e
end ZG
end
section
/-! SOUND OPS: fields and arrays, written; new cells; copies -/
theorem zePic.put {G : zeG} {μ μ' : zeM} {H H1 : Heap} {k : Nat} (h : zePic G μ H) (h1 : 16 ≤ k) (h2 : k < 16 + zeN μ) (hn : zeN μ' = zeN μ) (ho : ∀ a, a ≠ k → zeCell G μ' a = zeCell G μ a) (hc : va_at (zeD G) zeCl (zeAd G k, zeCell G μ' k) H1) (hz : H1.size = H.size) (hq : ∀ q : Nat, q ≠ zeAd G k → H1[q]? = H[q]?) : zePic G μ' H1 := by
  refine ⟨?_, by rw [hz, h.2, hn]⟩
  rw [zeW_set h1 h2 hn ho]
  exact h.1.set (zeW_D G μ) (zeW_get h1 h2) hc hq
theorem zeA_ad (G : zeG) (a : Nat) : zeA G (zeAd G a) := by
  show zeN0 G ≤ zeN0 G + _
  omega
/-- an op that writes: its walk, one machine step -/
theorem zs_wr {G : zeG} {i pc : Nat} {op : zeOp} (hn : ∀ L st μ x, op L st μ ≠ some (.inr x))
    (hs : ∀ L st μ pc' L' st' μ', op L st μ = some (.inl (pc', L', st', μ')) → L' = L ∧ zeMon μ μ' ∧ (μ'.1 = true → zeWf G μ → zeWf G μ' ∧ ∀ (p : Program) (l : Launch) (e : Env) (R : Room) (s : State) (m : MethodId) (args : Array Value) (below : List Frame) (meth : Method) (c : Code) (Q : State → Prop) (H : Heap) (locs : List Loc) (ls : Array Slot) (n0 s0 : Nat),
      zeCx G i p s m args meth c → zeDp i ≤ R.frames → zeLc i ≤ R.locals → zeN μ' - n0 ≤ R.cells → zeSl μ' - s0 ≤ R.slots → n0 ≤ zeN μ → s0 ≤ zeSl μ → zePic G μ H → va_S (zeA G) s.heap H locs → ls.size = zeNl i →
      (∀ (H1 : Heap) (locs1 : List Loc), zePic G μ' H1 → va_S (zeA G) s.heap H1 locs1 → W p l e R s m args below meth c H1 locs1 (zeN μ' - n0) (zeSl μ' - s0) Q (F0 m pc' ls (st'.map (zeTr G)))) → W p l e R s m args below meth c H locs (zeN μ - n0) (zeSl μ - s0) Q (F0 m pc ls (st.map (zeTr G))))) : zeSnd G i pc op := by
  intro L st μ
  refine ⟨fun pc' L' st' μ' h => ?_, fun v μ' h => absurd h (hn _ _ _ _), fun j as pc' L' st' μ' h => absurd h (hn _ _ _ _)⟩
  obtain ⟨rfl, hm0, hb⟩ := hs L st μ pc' L' st' μ' h
  refine ⟨hm0, fun h1 hwf => ⟨(hb h1 hwf).1, fun v μ'' hm hgo => ?_⟩⟩
  intro p l e R s m args below meth c Q n0 s0 hcx hd hl hn0 hs0 hret hc hs H locs ls hP hS hL hN
  refine (hb h1 hwf).2 p l e R s m args below meth c Q H locs ls n0 s0 hcx hd hl (by have := hm.2.1; omega) (by have := hm.2.2; omega) hn0 hs0 hP hS hL.1 fun H1 locs1 hP1 hS1 => ?_
  exact hgo p l e R s m args below meth c Q n0 s0 hcx hd hl (Nat.le_trans hn0 hm0.2.1) (Nat.le_trans hs0 hm0.2.2) hret hc hs H1 locs1 ls hP1 hS1 hL hN
/-! the virtual cells behind a write -/
theorem zeWf.im {G : zeG} {μ : zeM} (h : zeWf G μ) {f : Nat → Nat → Int32} {a : Nat} (h1 : 16 ≤ a) (hf : ∀ a', a' ≠ a → f a' = zeIm μ a') (hb : zeKd μ a = 42 → ∀ j, fits .byte (.int (f a j)) = true) : zeWf G (zeSIm f μ) := by
  refine ⟨fun k hk => ?_, fun k hk j => ?_, h.2.2.1, h.2.2.2.1, h.2.2.2.2⟩
  · obtain ⟨e1, e2, e3, e4⟩ := h.1 k hk
    exact ⟨e1, e2, fun j => by show f k j = _; rw [hf k (by omega)]; exact e3 j, e4⟩
  · show fits .byte (.int (f k j)) = true
    by_cases hka : k = a
    · subst hka
      rcases hk with hk | hk
      · exact hb hk j
      · have hk : zeKd μ k = 102 := hk
        rcases (h.2.2.1 k (by omega)).2 with g | g <;> omega
    · rw [hf k hka]
      exact h.2.1 k hk j
theorem zeWf.lm {G : zeG} {μ : zeM} (h : zeWf G μ) (f : Nat → Nat → Int64) : zeWf G (zeSLm f μ) := h
theorem zeWf.rm {G : zeG} {μ : zeM} (h : zeWf G μ) {f : Nat → Nat → Option Nat} {a : Nat} (h1 : 16 ≤ a) (hf : ∀ a', a' ≠ a → f a' = zeRm μ a') (hb : ∀ j b, f a j = some b → 16 ≤ b) : zeWf G (zeSRm f μ) := by
  refine ⟨fun k hk => ?_, h.2.1, h.2.2.1, fun k j b hk h16 => ?_, h.2.2.2.2⟩
  · obtain ⟨e1, e2, e3, e4⟩ := h.1 k hk
    exact ⟨e1, e2, e3, fun j => by show f k j = _; rw [hf k (by omega)]; exact e4 j⟩
  · by_cases hka : k = a
    · subst hka
      exact hb j b hk
    · have : zeRm μ k j = some b := by
        rw [← hf k hka]
        exact hk
      exact h.2.2.2.1 k j b this h16
theorem zeU2_ne {α : Type} {f : Nat → Nat → α} {a j : Nat} {x : α} {a' : Nat} (h : a' ≠ a) : zeU2 f a j x a' = f a' := by
  funext j'
  simp [zeU2, h]
theorem zeU2_eq {α : Type} (f : Nat → Nat → α) (a j : Nat) (x : α) : zeU2 f a j x a = fun j' => if j' = j then x else f a j' := by
  funext j'
  simp [zeU2]
theorem zeFs_seti (G : zeG) (r : Nat → Option Nat) (f : Nat → Int32) (x : Int32) {l : List Bool} {j : Nat} (hb : l[j]? = some false) : zeFs G r (fun j' => if j' = j then x else f j') 0 l = (zeFs G r f 0 l).set j (.int x) := by
  apply List.ext_getElem?
  intro k
  have hj := (List.getElem?_eq_some_iff.mp hb).1
  by_cases hk : k = j
  · subst hk
    rw [List.getElem?_set_self (by rw [zeFs_len]; exact hj), zeFs_get G _ _ _ _ _ _ hb]
    simp
  · rw [List.getElem?_set_ne (Ne.symm hk)]
    cases hl : l[k]? with
    | none =>
      have := List.getElem?_eq_none_iff.mp hl
      rw [List.getElem?_eq_none (by rw [zeFs_len]; exact this), List.getElem?_eq_none (by rw [zeFs_len]; exact this)]
    | some b =>
      rw [zeFs_get G _ _ _ _ _ _ hl, zeFs_get G _ _ _ _ _ _ hl]
      simp [hk]
theorem zeFs_setr (G : zeG) (r : Nat → Option Nat) (f : Nat → Int32) (x : Option Nat) {l : List Bool} {j : Nat} (hb : l[j]? = some true) : zeFs G (fun j' => if j' = j then x else r j') f 0 l = (zeFs G r f 0 l).set j (va_rf (x.map (zeAd G))) := by
  apply List.ext_getElem?
  intro k
  have hj := (List.getElem?_eq_some_iff.mp hb).1
  by_cases hk : k = j
  · subst hk
    rw [List.getElem?_set_self (by rw [zeFs_len]; exact hj), zeFs_get G _ _ _ _ _ _ hb]
    simp
  · rw [List.getElem?_set_ne (Ne.symm hk)]
    cases hl : l[k]? with
    | none =>
      have := List.getElem?_eq_none_iff.mp hl
      rw [List.getElem?_eq_none (by rw [zeFs_len]; exact this), List.getElem?_eq_none (by rw [zeFs_len]; exact this)]
    | some b =>
      rw [zeFs_get G _ _ _ _ _ _ hl, zeFs_get G _ _ _ _ _ _ hl]
      simp [hk]
/-! fields -/
section ZP
variable {p : Program} {l : Launch} {e : Env} {R : Room} {s : State} {m : MethodId} {args : Array Value} {below : List Frame} {meth : Method} {c : Code} {H : Heap} {locs : List Loc} {cells slots : Nat} {Q : State → Prop}
variable {cc : ByteArray} {pc : Nat} {ls : Array Slot} {rest : List Value} {D : va_G} {cl : List vw_C} {A : Nat → Prop} {a : Nat} {tys : List (ClassId × FieldType)} {ws : va_W} {H0 : Heap}
/-- putfield, with all that is known of the heap behind it -/
theorem zw_put (hexec : p.tables.exec = Jvm.exec) (hb : c.code = cc) {own ref C : String} {T : u_T} {N ci index : Nat} {Ts : List Cond} (hts : ∀ w ∈ Ts, w.before args s = true) (hin : ∀ w ∈ u_ws C T N, w ∈ Ts) (ty0 : Nat → FieldType) (hty : ∀ k, k < N → parseFieldDescriptor (T k).2.2.1 = some (ty0 k)) (hnm : ∀ a, a < N → ∀ b, b < N → a ≠ b → (T a).2.1 ≠ (T b).2.1) (hown : s.vm.findClass own = some m.cls) (hK : va_K D cl tys s) (hP : va_P D cl ws H) (q0 : Nat) {fs : List Value} (he : ws[q0]? = some (a, .inr (ci, fs))) (hc : cl[ci]? = some (C, T, N)) (k : Nat) (hk : k < N) (hlink : (Cond.fieldLink own index ref (T k).2.1 (T k).2.2.1).before args s = true) (href : (T k).1 = ref) (hfin : (T k).2.2.2 = false ∨ ((T k).2.2.2 = true ∧ meth.name = "<init>" ∧ (T k).1 = own)) {v : Value} (hn : narrow (ty0 k) v = v) (hfit : fits (ty0 k) v = true) (hl : k < fs.length)
    (hdg : decode cc pc = .ok (.putfield index, 3)) (kk : ∀ (H1 : Heap), va_at D cl (a, .inr (ci, fs.set k v)) H1 → H1.size = H.size → (∀ q : Nat, q ≠ a → H1[q]? = H[q]?) → W p l e R s m args below meth c H1 (locs ++ [⟨a, D.2 ci k⟩]) cells slots Q (F0 m (pc + 3) ls rest)) : W p l e R s m args below meth c H locs cells slots Q (F0 m pc ls (v :: .ref a :: rest)) := by
  subst href
  have hap := va_apart (own := own) hts hin ty0 hty hnm hK hc
  obtain ⟨r, h1, cell, q1, q2, q3, q4⟩ := hP q0 _ he
  have hr : r = (C, T, N) := Option.some.inj (h1.symm.trans hc)
  subst hr
  obtain ⟨hS, hfc, kC, hkC, hkind⟩ := hK.1 ci _ hc
  obtain ⟨cf, kf, fi, f, hi, hsl⟩ := hS k hk
  have hlay := hts _ (hin _ (u_in_lay hk))
  unfold u_lay at hlay
  have hst := (u_facts hfc hkC (u_lays hts hin hk) hi).1
  rcases hfin with hfin | ⟨hfin, hin2, hdecl⟩
  · rw [if_neg (by rw [hfin]; decide)] at hlay
    have h6 := u_store hfc hkC hkind hlay hi (hty k hk) hn hfit
    refine W.putK hexec hb (f := f) ⟨hown, hlink, ⟨_, _, _, hi⟩, hst⟩ (by rw [q2]; exact h6) q1 q3 (by rw [hsl]; exact k2_hasslot (q4 k hk)) rfl rfl hdg fun H' e1 e2 e3 => ?_
    rw [hsl] at e1 ⊢
    exact kk H' ⟨_, hc, t_OB.to (V := updV (vp_V fs) k v) ⟨_, e1, q2, q3, t_set q4 hap hk v⟩ (fun j _ => vp_updV_set hl v j)⟩ e2 e3
  · rw [if_pos hfin] at hlay
    have hcf : m.cls = cf := by
      obtain ⟨_, _, c', _, _, _, -, -, hf', -, -, -, hown2, -⟩ := Cond.laysFinal_spec hlay
      have e1 : c' = cf := by have := hi.symm.trans hf'; simp at this; exact this.1.symm
      rw [hdecl] at hown2
      rw [← e1]; exact Option.some.inj (hown.symm.trans hown2)
    have h6 := u_fits hfc hkC hkind (Or.inr hlay) hi (hty k hk) hn hfit
    refine W.putFinK hexec hb hown hlink hi hst hcf hin2 (by rw [q2]; exact h6) q1 q3 (by rw [hsl]; exact k2_hasslot (q4 k hk)) rfl rfl hdg fun H' e1 e2 e3 => ?_
    rw [hsl] at e1 ⊢
    exact kk H' ⟨_, hc, t_OB.to (V := updV (vp_V fs) k v) ⟨_, e1, q2, q3, t_set q4 hap hk v⟩ (fun j _ => vp_updV_set hl v j)⟩ e2 e3
end ZP
end
section
/-! SOUND OPS: putfield, array stores -/
section ZW
variable {G : zeG} {i pc n : Nat}
theorem zeMon.sim (f : Nat → Nat → Int32) (μ : zeM) : zeMon μ (zeSIm f μ) := ⟨fun h => h, Nat.le_refl _, Nat.le_refl _⟩
theorem zeMon.srm (f : Nat → Nat → Option Nat) (μ : zeM) : zeMon μ (zeSRm f μ) := ⟨fun h => h, Nat.le_refl _, Nat.le_refl _⟩
theorem zeMon.slm (f : Nat → Nat → Int64) (μ : zeM) : zeMon μ (zeSLm f μ) := ⟨fun h => h, Nat.le_refl _, Nat.le_refl _⟩
theorem zeCell_im {μ : zeM} {f : Nat → Nat → Int32} {a' : Nat} (h : f a' = zeIm μ a') : zeCell G (zeSIm f μ) a' = zeCell G μ a' := by
  show zeCellR G (zeKd μ a') (zeLn μ a') (zeRm μ a') (f a') (zeLm μ a') = _
  rw [h]
  rfl
theorem zeCell_rm {μ : zeM} {f : Nat → Nat → Option Nat} {a' : Nat} (h : f a' = zeRm μ a') : zeCell G (zeSRm f μ) a' = zeCell G μ a' := by
  show zeCellR G (zeKd μ a') (zeLn μ a') (f a') (zeIm μ a') (zeLm μ a') = _
  rw [h]
  rfl
theorem zeCell_lm {μ : zeM} {f : Nat → Nat → Int64} {a' : Nat} (h : f a' = zeLm μ a') : zeCell G (zeSLm f μ) a' = zeCell G μ a' := by
  show zeCellR G (zeKd μ a') (zeLn μ a') (zeRm μ a') (zeIm μ a') (f a') = _
  rw [h]
  rfl
/-- what the class's table says of its field j -/
def zeFd (i : Nat) (own C ref : String) (T : u_T) (ty0 : Nat → FieldType) (N ci j index : Nat) : Prop := (zeNam i).cls = own ∧ zeCl[ci]? = some (C, T, N) ∧ (∀ w ∈ u_ws C T N, w ∈ zeBT) ∧ (∀ k, k < N → parseFieldDescriptor (T k).2.2.1 = some (ty0 k)) ∧ (∀ a, a < N → ∀ b, b < N → a ≠ b → (T a).2.1 ≠ (T b).2.1) ∧ j < N ∧ Cond.fieldLink own index ref (T j).2.1 (T j).2.2.1 ∈ zeBT ∧ (T j).1 = ref ∧ ((T j).2.2.2 = false ∨ ((T j).2.2.2 = true ∧ (zeNam i).name = "<init>" ∧ (T j).1 = own)) ∧ (zeFL ci).length = N
theorem zw_pf {own C ref : String} {T : u_T} {ty0 : Nat → FieldType} {N ci j index : Nat} (hF : zeFd i own C ref T ty0 N ci j index) (hb : (zeFL ci)[j]? = some false) (hd : decode (zeCod i) pc = .ok (.putfield index, 3)) {μ : zeM} {a : Nat} {x : Int32} (hk : zeKd μ a = ci + 1) (hw : zeWf G μ) (hn : narrow (ty0 j) (.int x) = .int x) (hfit : fits (ty0 j) (.int x) = true)
    {p : Program} {l : Launch} {e : Env} {R : Room} {s : State} {m : MethodId} {args : Array Value} {below : List Frame} {meth : Method} {c : Code} {Q : State → Prop} {H : Heap} {locs : List Loc} {ls : Array Slot} {cells slots : Nat} {rest : List Value}
    (hcx : zeCx G i p s m args meth c) (hP : zePic G μ H) (hS : va_S (zeA G) s.heap H locs)
    (K : ∀ (H1 : Heap) (locs1 : List Loc), zePic G (zeSIm (zeU2 (zeIm μ) a j x) μ) H1 → va_S (zeA G) s.heap H1 locs1 → W p l e R s m args below meth c H1 locs1 cells slots Q (F0 m (pc + 3) ls rest)) : W p l e R s m args below meth c H locs cells slots Q (F0 m pc ls (.int x :: .ref (zeAd G a) :: rest)) := by
  obtain ⟨ho, hc, hin, hty, hnm, hj, hlink, href, hfin, hlen⟩ := hF
  have hlt := zeCl_lt hc
  obtain ⟨h1, h2⟩ := hw.new (a := a) (by omega) (by omega)
  have he := zeW_get (G := G) h1 h2
  rw [zeCell_obj G hk hlt] at he
  refine zw_put hcx.1 hcx.2.1 hcx.ws hin ty0 hty hnm (ho ▸ hcx.own) hcx.K hP.1 (a - 16) he hc j hj (hcx.ws _ hlink) href (hcx.nm ▸ hfin) hn hfit (by rw [zeFs_len, hlen]; exact hj) hd fun H1 g1 g2 g3 => ?_
  refine K H1 _ (hP.put h1 h2 rfl (fun a' ha' => zeCell_im (zeU2_ne ha')) ?_ g2 g3) (hS.put g2 g3 (zeA_ad G a))
  have e1 : zeCell G (zeSIm (zeU2 (zeIm μ) a j x) μ) a = .inr (ci, zeFs G (zeRm μ a) (zeU2 (zeIm μ) a j x a) 0 (zeFL ci)) := zeCellR_obj G hk hlt
  rw [e1, zeU2_eq, zeFs_seti G _ _ _ hb]
  exact g1
theorem zs_pf {own C ref : String} {T : u_T} {ty0 : Nat → FieldType} {N ci j index : Nat} (hF : zeFd i own C ref T ty0 N ci j index) (hb : (zeFL ci)[j]? = some false) (hty : ty0 j = .int) (hd : decode (zeCod i) pc = .ok (.putfield index, 3)) (hn : pc + 3 = n) : zeSnd G i pc (zoPf ci j n) := by
  subst hn
  refine zs_wr (fun L st μ x e => ?_) fun L st μ pc' L' st' μ' e => ?_
  · unfold zoPf at e
    split at e
    · rename_i x a st'
      cases hk : Nat.beq (zeKd μ a) (ci + 1) <;> rw [hk] at e
      · cases e
      · cases zeNx_i e
    · cases e
  · unfold zoPf at e
    split at e
    · rename_i x a st'
      cases hk : Nat.beq (zeKd μ a) (ci + 1) <;> rw [hk] at e
      · cases e
      · cases zeNx_i e
        have hk := Nat.eq_of_beq_eq_true hk
        refine ⟨rfl, zeMon.sim _ _, fun _ hw => ?_⟩
        have hlt := zeCl_lt hF.2.1
        obtain ⟨h1, h2⟩ := hw.new (a := a) (by omega) (by omega)
        refine ⟨hw.im h1 (fun a' ha' => zeU2_ne ha') (fun h => by omega), fun p l e R s m args below meth c Q H locs ls n0 s0 hcx _ _ _ _ _ _ hP hS _ K => ?_⟩
        rw [List.map_cons, List.map_cons, zeTr_r G h1]
        exact zw_pf hF hb hd hk hw (by rw [hty]; rfl) (by rw [hty]; rfl) hcx hP hS K
    · cases e
theorem zs_ps {own C ref : String} {T : u_T} {ty0 : Nat → FieldType} {N ci j index : Nat} {ty : FieldType} (hF : zeFd i own C ref T ty0 N ci j index) (hb : (zeFL ci)[j]? = some false) (hty : ty0 j = ty) (hd : decode (zeCod i) pc = .ok (.putfield index, 3)) (hn : pc + 3 = n) : zeSnd G i pc (zoPs ty ci j n) := by
  subst hn
  refine zs_wr (fun L st μ x e => ?_) fun L st μ pc' L' st' μ' e => ?_
  · unfold zoPs at e
    split at e
    · rename_i x a st'
      cases hk : Nat.beq (zeKd μ a) (ci + 1) <;> rw [hk] at e
      · cases e
      · cases zeNx_i e
    · cases e
  · unfold zoPs at e
    split at e
    · rename_i x a st'
      cases hk : Nat.beq (zeKd μ a) (ci + 1) <;> rw [hk] at e
      · cases e
      · cases zeNx_i e
        have hk := Nat.eq_of_beq_eq_true hk
        refine ⟨rfl, (zeMon.sim _ _).tr (zeMon.ck _ _), fun hck hw => ?_⟩
        have hlt := zeCl_lt hF.2.1
        obtain ⟨h1, h2⟩ := hw.new (a := a) (by omega) (by omega)
        have hnf := zeCk_b hck
        rw [Bool.and_eq_true, decide_eq_true_eq] at hnf
        refine ⟨hw.im h1 (fun a' ha' => zeU2_ne ha') (fun h => by omega), fun p l e R s m args below meth c Q H locs ls n0 s0 hcx _ _ _ _ _ _ hP hS _ K => ?_⟩
        rw [List.map_cons, List.map_cons, zeTr_r G h1]
        exact zw_pf hF hb hd hk hw (by rw [hty]; exact hnf.1) (by rw [hty]; exact hnf.2) hcx hP hS K
    · cases e
theorem zs_pr {own C ref : String} {T : u_T} {ty0 : Nat → FieldType} {N ci j index : Nat} (hF : zeFd i own C ref T ty0 N ci j index) (hb : (zeFL ci)[j]? = some true) (hty : ∀ a, narrow (ty0 j) (.ref a) = .ref a ∧ fits (ty0 j) (.ref a) = true) (hd : decode (zeCod i) pc = .ok (.putfield index, 3)) (hn : pc + 3 = n) : zeSnd G i pc (zoPr ci j n) := by
  subst hn
  refine zs_wr (fun L st μ x e => ?_) fun L st μ pc' L' st' μ' e => ?_
  · unfold zoPr at e
    split at e
    · rename_i b a st'
      cases hk : (Nat.beq (zeKd μ a) (ci + 1) && Nat.ble 16 b) <;> rw [hk] at e
      · cases e
      · cases zeNx_i e
    · cases e
  · unfold zoPr at e
    split at e
    · rename_i b a st'
      cases hk : (Nat.beq (zeKd μ a) (ci + 1) && Nat.ble 16 b) <;> rw [hk] at e
      · cases e
      · cases zeNx_i e
        rw [Bool.and_eq_true] at hk
        have hb16 := Nat.le_of_ble_eq_true hk.2
        have hk := Nat.eq_of_beq_eq_true hk.1
        refine ⟨rfl, zeMon.srm _ _, fun _ hw => ?_⟩
        obtain ⟨ho, hc, hin, hty0, hnm, hj, hlink, href, hfin, hlen⟩ := hF
        have hlt := zeCl_lt hc
        obtain ⟨h1, h2⟩ := hw.new (a := a) (by omega) (by omega)
        refine ⟨hw.rm h1 (fun a' ha' => zeU2_ne ha') (fun j' b' hb' => ?_), fun p l e R s m args below meth c Q H locs ls n0 s0 hcx _ _ _ _ _ _ hP hS _ K => ?_⟩
        · rw [zeU2_eq] at hb'
          dsimp only at hb'
          split at hb'
          · cases hb'
            exact hb16
          · exact hw.2.2.2.1 a j' b' hb' h1
        · rw [List.map_cons, List.map_cons, zeTr_r G h1, zeTr_r G hb16]
          have he := zeW_get (G := G) h1 h2
          rw [zeCell_obj G hk hlt] at he
          refine zw_put hcx.1 hcx.2.1 hcx.ws hin ty0 hty0 hnm (ho ▸ hcx.own) hcx.K hP.1 (a - 16) he hc j hj (hcx.ws _ hlink) href (hcx.nm ▸ hfin) (hty _).1 (hty _).2 (by rw [zeFs_len, hlen]; exact hj) hd fun H1 g1 g2 g3 => ?_
          refine K H1 _ (hP.put h1 h2 rfl (fun a' ha' => zeCell_rm (zeU2_ne ha')) ?_ g2 g3) (hS.put g2 g3 (zeA_ad G a))
          have e1 : zeCell G (zeSRm (zeU2 (zeRm μ) a j (some b)) μ) a = .inr (ci, zeFs G (zeU2 (zeRm μ) a j (some b) a) (zeIm μ a) 0 (zeFL ci)) := zeCellR_obj G hk hlt
          rw [e1, zeU2_eq, zeFs_setr G _ _ _ hb]
          exact g1
    · cases e
/-- a store into an int, byte, char or boolean array -/
theorem zs_Sti {t t0 : Nat} (ht : t = 40 + t0) (h5 : t0 ≠ 5) (h1' : t0 ≠ 1) (h6 : t0 < 6) (hfit : t = 42 → ∀ x, fits .byte (.int (zeNar t x)) = true) (hrow : ∀ (p : Program) (l : Launch) (e : Env) (R : Room) (s : State) (m : MethodId) (args : Array Value) (below : List Frame) (meth : Method) (c : Code) (Q : State → Prop) (H : Heap) (locs : List Loc) (ls : Array Slot) (cells slots : Nat) (a nn : Nat) (f : Nat → Int32) (j x : Int32) (rest : List Value),
      zeCx G i p s m args meth c → H[a]? = some (vp_cell (zeCA G t0) (nn, .inl f)) → vp_in j nn → (∀ H1 : Heap, H1[a]? = some ((vp_cell (zeCA G t0) (nn, .inl f)).setSlot j.toNatClampNeg (.int (zeNar t x))) → H1.size = H.size → (∀ q : Nat, q ≠ a → H1[q]? = H[q]?) → W p l e R s m args below meth c H1 (locs ++ [⟨a, j.toNatClampNeg⟩]) cells slots Q (F0 m n ls rest)) → W p l e R s m args below meth c H locs cells slots Q (F0 m pc ls (.int x :: .int j :: .ref a :: rest))) : zeSnd G i pc (zoSt t n) := by
  refine zs_wr (fun L st μ x e => ?_) fun L st μ pc' L' st' μ' e => ?_
  · unfold zoSt at e
    split at e
    · rename_i x j a st'
      cases hk : Nat.beq (zeKd μ a) t <;> rw [hk] at e
      · cases e
      · cases zeNx_i e
    · cases e
  · unfold zoSt at e
    split at e
    · rename_i x j a st'
      cases hk : Nat.beq (zeKd μ a) t <;> rw [hk] at e
      · cases e
      · cases zeNx_i e
        have hk := Nat.eq_of_beq_eq_true hk
        refine ⟨rfl, (zeMon.sim _ _).tr (zeMon.ck _ _), fun hck hw => ?_⟩
        obtain ⟨h1, h2⟩ := hw.new (a := a) (by omega) (by omega)
        refine ⟨hw.im h1 (fun a' ha' => zeU2_ne ha') (fun h j' => ?_), fun p l e R s m args below meth c Q H locs ls n0 s0 hcx _ _ _ _ _ _ hP hS _ K => ?_⟩
        · rw [zeU2_eq]
          dsimp only
          split
          · exact hfit (by omega) x
          · exact hw.2.1 a (Or.inl h) j'
        · rw [List.map_cons, List.map_cons, List.map_cons, zeTr_r G h1]
          have he := hP.1 (a - 16) _ (zeW_get (G := G) h1 h2)
          rw [zeCell_i G (hk.trans ht) h5 h1'] at he
          refine hrow p l e R s m args below meth c Q H locs ls _ _ (zeAd G a) (zeLn μ a) (zeIm μ a) j x _ hcx he (zeInb_in (zeCk_b hck)) fun H1 g1 g2 g3 => ?_
          refine K H1 _ (hP.put h1 h2 rfl (fun a' ha' => zeCell_im (zeU2_ne ha')) ?_ g2 g3) (hS.put g2 g3 (zeA_ad G a))
          have e1 : zeCell G (zeCk (zeInb j (zeLn μ a)) (zeSIm (zeU2 (zeIm μ) a j.toNatClampNeg (zeNar t x)) μ)) a = .inl (zeCA G t0, zeLn μ a, .inl (zeU2 (zeIm μ) a j.toNatClampNeg (zeNar t x) a)) := zeCellR_i G (hk.trans ht) h5 h1'
          rw [e1]
          show H1[_]? = some (vp_cell _ _)
          rw [g1, zeU2_eq, vp_cell_i, vp_cell_i, arrV_store]
          congr 2
          funext q
          by_cases hq : q = j.toNatClampNeg
          · subst hq
            simp [updV]
          · simp [updV, hq]
    · cases e
theorem zs_iastore (hd : decode (zeCod i) pc = .ok (.iastore, 1)) (hn : pc + 1 = n) : zeSnd G i pc (zoSt 40 n) := by
  subst hn
  refine zs_Sti (t0 := 0) rfl (by decide) (by decide) (by decide) (fun h => by cases h) fun p l e R s m args below meth c Q H locs ls cells slots a nn f j x rest hcx he hin K => ?_
  exact W.iast hcx.1 hcx.2.1 he ((hcx.K.2 0 _ rfl).1 nn (fun j => .int (f j))) (fun q => by cases q) (by show ¬ (j < 0 ∨ (arrV _ _ _).slots.size ≤ _); rw [arrV_size]; exact hin) rfl rfl hd K
theorem zs_bastoreB (hd : decode (zeCod i) pc = .ok (.bastore, 1)) (hn : pc + 1 = n) : zeSnd G i pc (zoSt 42 n) := by
  subst hn
  refine zs_Sti (t0 := 2) rfl (by decide) (by decide) (by decide) (fun _ x => ?_) fun p l e R s m args below meth c Q H locs ls cells slots a nn f j x rest hcx he hin K => ?_
  · show fits .byte (.int (vp_nar .byte x)) = true
    rw [vp_nar_byte]
    exact pk_fb x
  · exact W.bast hcx.1 hcx.2.1 he ((hcx.K.2 2 _ rfl).1 nn (fun j => .int (f j))) (fun q => by cases q) (by show ¬ (j < 0 ∨ (arrV _ _ _).slots.size ≤ _); rw [arrV_size]; exact hin) rfl rfl hd K
theorem zs_castore (hd : decode (zeCod i) pc = .ok (.castore, 1)) (hn : pc + 1 = n) : zeSnd G i pc (zoSt 43 n) := by
  subst hn
  refine zs_Sti (t0 := 3) rfl (by decide) (by decide) (by decide) (fun h => by cases h) fun p l e R s m args below meth c Q H locs ls cells slots a nn f j x rest hcx he hin K => ?_
  exact W.cast hcx.1 hcx.2.1 he ((hcx.K.2 3 _ rfl).1 nn (fun j => .int (f j))) (fun q => by cases q) (by show ¬ (j < 0 ∨ (arrV _ _ _).slots.size ≤ _); rw [arrV_size]; exact hin) rfl rfl hd K
theorem zs_bastoreZ (hd : decode (zeCod i) pc = .ok (.bastore, 1)) (hn : pc + 1 = n) : zeSnd G i pc (zoSt 44 n) := by
  subst hn
  refine zs_Sti (t0 := 4) rfl (by decide) (by decide) (by decide) (fun h => by cases h) fun p l e R s m args below meth c Q H locs ls cells slots a nn f j x rest hcx he hin K => ?_
  exact W.zast hcx.1 hcx.2.1 he ((hcx.K.2 4 _ rfl).1 nn (fun j => .int (f j))) (fun q => by cases q) (by show ¬ (j < 0 ∨ (arrV _ _ _).slots.size ≤ _); rw [arrV_size]; exact hin) rfl rfl hd K
theorem zs_lastore (hd : decode (zeCod i) pc = .ok (.lastore, 1)) (hn : pc + 1 = n) : zeSnd G i pc (zoLst n) := by
  subst hn
  refine zs_wr (fun L st μ x e => ?_) fun L st μ pc' L' st' μ' e => ?_
  · unfold zoLst at e
    split at e
    · rename_i x j a st'
      cases hk : Nat.beq (zeKd μ a) 41 <;> rw [hk] at e
      · cases e
      · cases zeNx_i e
    · cases e
  · unfold zoLst at e
    split at e
    · rename_i x j a st'
      cases hk : Nat.beq (zeKd μ a) 41 <;> rw [hk] at e
      · cases e
      · cases zeNx_i e
        have hk := Nat.eq_of_beq_eq_true hk
        refine ⟨rfl, (zeMon.slm _ _).tr (zeMon.ck _ _), fun hck hw => ?_⟩
        obtain ⟨h1, h2⟩ := hw.new (a := a) (by omega) (by omega)
        refine ⟨hw, fun p l e R s m args below meth c Q H locs ls n0 s0 hcx _ _ _ _ _ _ hP hS _ K => ?_⟩
        rw [List.map_cons, List.map_cons, List.map_cons, zeTr_r G h1]
        have he := hP.1 (a - 16) _ (zeW_get (G := G) h1 h2)
        rw [zeCell_l G hk] at he
        refine W.last hcx.1 hcx.2.1 he ((hcx.K.2 1 _ rfl).1 (zeLn μ a) (fun j => .long (zeLm μ a j))) (fun q => by cases q) (by show ¬ (j < 0 ∨ (arrV _ _ _).slots.size ≤ _); rw [arrV_size]; exact zeInb_in (zeCk_b hck)) rfl rfl hd fun H1 g1 g2 g3 => ?_
        refine K H1 _ (hP.put h1 h2 rfl (fun a' ha' => zeCell_lm (zeU2_ne ha')) ?_ g2 g3) (hS.put g2 g3 (zeA_ad G a))
        have e1 : zeCell G (zeCk (zeInb j (zeLn μ a)) (zeSLm (zeU2 (zeLm μ) a j.toNatClampNeg x) μ)) a = .inl (zeCA G 1, zeLn μ a, .inr (.inl (zeU2 (zeLm μ) a j.toNatClampNeg x a))) := zeCellR_l G hk
        rw [e1]
        show H1[_]? = some (vp_cell _ _)
        rw [g1, zeU2_eq, vp_cell_l, vp_cell_l, arrV_store]
        congr 2
        funext q
        by_cases hq : q = j.toNatClampNeg
        · subst hq
          simp [updV]
        · simp [updV, hq]
    · cases e
theorem zs_aastore {T : u_T} {N ci : Nat} (hc : zeCl[ci]? = some ("WagerQuiz$State", T, N)) (hd : decode (zeCod i) pc = .ok (.aastore, 1)) (hn : pc + 1 = n) : zeSnd G i pc (zoAst ci n) := by
  subst hn
  refine zs_wr (fun L st μ x e => ?_) fun L st μ pc' L' st' μ' e => ?_
  · unfold zoAst at e
    split at e
    · rename_i b j a st'
      cases hk : (Nat.beq (zeKd μ a) 45 && (Nat.beq (zeKd μ b) (ci + 1) && Nat.ble 16 b)) <;> rw [hk] at e
      · cases e
      · cases zeNx_i e
    · cases e
  · unfold zoAst at e
    split at e
    · rename_i b j a st'
      cases hk : (Nat.beq (zeKd μ a) 45 && (Nat.beq (zeKd μ b) (ci + 1) && Nat.ble 16 b)) <;> rw [hk] at e
      · cases e
      · cases zeNx_i e
        rw [Bool.and_eq_true, Bool.and_eq_true] at hk
        have hb16 := Nat.le_of_ble_eq_true hk.2.2
        have hkb := Nat.eq_of_beq_eq_true hk.2.1
        have hk := Nat.eq_of_beq_eq_true hk.1
        have hlt := zeCl_lt hc
        refine ⟨rfl, (zeMon.srm _ _).tr (zeMon.ck _ _), fun hck hw => ?_⟩
        obtain ⟨h1, h2⟩ := hw.new (a := a) (by omega) (by omega)
        obtain ⟨b1, b2⟩ := hw.new (a := b) (by omega) (by omega)
        refine ⟨hw.rm h1 (fun a' ha' => zeU2_ne ha') (fun j' b' hb' => ?_), fun p l e R s m args below meth c Q H locs ls n0 s0 hcx _ _ _ _ _ _ hP hS _ K => ?_⟩
        · rw [zeU2_eq] at hb'
          dsimp only at hb'
          split at hb'
          · cases hb'
            exact hb16
          · exact hw.2.2.2.1 a j' b' hb' h1
        · rw [List.map_cons, List.map_cons, List.map_cons, zeTr_r G h1, zeTr_r G hb16]
          have he := hP.1 (a - 16) _ (zeW_get (G := G) h1 h2)
          rw [zeCell_q G hk] at he
          have hbe := hP.1 (b - 16) _ (zeW_get (G := G) b1 b2)
          rw [zeCell_obj G hkb hlt] at hbe
          obtain ⟨r', hr', cellV, g1, g2, g3, -⟩ := hbe
          have hcls := (hcx.K.1 ci _ hc).2
          obtain ⟨kA, comp, k1, k2, k3, -⟩ := (hcx.K.2 5 _ rfl).2
          have hcomp : comp = (zeD G).1 ci := Option.some.inj (k3.symm.trans hcls.1)
          subst hcomp
          obtain ⟨kC, hkC, -⟩ := hcls.2
          have hin := zeInb_in (zeCk_b hck)
          refine W.aast hcx.1 hcx.2.1 he (fun q h => by cases h) (fun h => by cases h) k1 k2 rfl hkC ⟨fun q => hin (Or.inl q), by show _ < (arrV _ _ _).slots.size; rw [arrV_size]; exact Nat.not_le.mp fun q => hin (Or.inr q)⟩ g1 (fun q h => by rw [g3] at h; cases h) (by rw [g2]; exact hkC) (by rw [g2]; exact va_assign hcls) rfl rfl hd fun H1 e1 z oq => ?_
          refine K H1 _ (hP.put h1 h2 rfl (fun a' ha' => zeCell_rm (zeU2_ne ha')) ?_ z oq) (hS.put z oq (zeA_ad G a))
          have e2 : zeCell G (zeCk (zeInb j (zeLn μ a)) (zeSRm (zeU2 (zeRm μ) a j.toNatClampNeg (some b)) μ)) a = .inl (zeCA G 5, zeLn μ a, .inr (.inr (.inr (.inr (fun j' => (zeU2 (zeRm μ) a j.toNatClampNeg (some b) a j').map (zeAd G)))))) := zeCellR_q G hk
          rw [e2]
          show H1[_]? = some (vp_cell _ _)
          rw [e1, zeU2_eq, vp_cell_q, vp_cell_q, arrV_store]
          congr 2
          funext q
          by_cases hq : q = j.toNatClampNeg
          · subst hq
            simp [updV, va_rf]
          · simp [updV, hq]
    · cases e
end ZW
end
section
/-! SOUND OPS: new cells, arraycopy, Math, statics, constants -/
section ZN
variable {G : zeG} {i pc n : Nat}
theorem zeMon.new (kd ln sl : Nat) (μ : zeM) : zeMon μ (zeNew kd ln sl μ) := ⟨fun h => h, Nat.le_succ _, Nat.le_add_right _ _⟩
theorem zeU1_ne {α : Type} {f : Nat → α} {a : Nat} {x : α} {a' : Nat} (h : a' ≠ a) : zeU1 f a x a' = f a' := by
  simp [zeU1, h]
theorem zeU1_eq {α : Type} (f : Nat → α) (a : Nat) (x : α) : zeU1 f a x a = x := by
  simp [zeU1]
theorem zeWf.nw {μ : zeM} (h : zeWf G μ) {kd ln sl : Nat} (hk : kd < 100) : zeWf G (zeNew kd ln sl μ) := by
  refine ⟨fun k hk' => ?_, fun k hk' j => ?_, fun k hk' => ?_, fun k j b hb h16 => ?_, fun k hk' => ?_⟩
  · obtain ⟨e1, e2, e3, e4⟩ := h.1 k hk'
    have hne : k ≠ 16 + zeN μ := by omega
    exact ⟨(zeU1_ne hne).trans e1, (zeU1_ne hne).trans e2, fun j => (congrFun (zeU1_ne hne) j).trans (e3 j), fun j => (congrFun (zeU1_ne hne) j).trans (e4 j)⟩
  · by_cases hne : k = 16 + zeN μ
    · subst hne
      have : zeIm (zeNew kd ln sl μ) (16 + zeN μ) j = 0 := congrFun (zeU1_eq (zeIm μ) (16 + zeN μ) (fun _ => 0)) j
      rw [this]
      rfl
    · have e1 : zeIm (zeNew kd ln sl μ) k j = zeIm μ k j := congrFun (zeU1_ne hne) j
      have e2 : zeKd (zeNew kd ln sl μ) k = zeKd μ k := zeU1_ne hne
      rw [e1]
      rw [e2] at hk'
      exact h.2.1 k hk' j
  · by_cases hne : k = 16 + zeN μ
    · have e2 : zeKd (zeNew kd ln sl μ) k = kd := by rw [hne]; exact zeU1_eq _ _ _
      rw [e2]
      refine ⟨?_, Or.inl hk⟩
      show k < 16 + (zeN μ + 1)
      omega
    · have e2 : zeKd (zeNew kd ln sl μ) k = zeKd μ k := zeU1_ne hne
      rw [e2] at hk' ⊢
      obtain ⟨g1, g2⟩ := h.2.2.1 k hk'
      refine ⟨?_, g2⟩
      show k < 16 + (zeN μ + 1)
      omega
  · by_cases hne : k = 16 + zeN μ
    · have e2 : zeRm (zeNew kd ln sl μ) k j = none := by rw [hne]; exact congrFun (zeU1_eq (zeRm μ) (16 + zeN μ) (fun _ => none)) j
      rw [e2] at hb
      cases hb
    · have e2 : zeRm (zeNew kd ln sl μ) k j = zeRm μ k j := congrFun (zeU1_ne hne) j
      rw [e2] at hb
      exact h.2.2.2.1 k j b hb h16
  · have hne : k ≠ 16 + zeN μ := by omega
    have e2 : zeKd (zeNew kd ln sl μ) k = zeKd μ k := zeU1_ne hne
    rw [e2]
    exact h.2.2.2.2 k hk'
theorem zeCell_nw {μ : zeM} {kd ln sl a : Nat} (h : a ≠ 16 + zeN μ) : zeCell G (zeNew kd ln sl μ) a = zeCell G μ a := by
  show zeCellR G (zeU1 (zeKd μ) (16 + zeN μ) kd a) (zeU1 (zeLn μ) (16 + zeN μ) ln a) (zeU1 (zeRm μ) (16 + zeN μ) _ a) (zeU1 (zeIm μ) (16 + zeN μ) _ a) (zeU1 (zeLm μ) (16 + zeN μ) _ a) = _
  rw [zeU1_ne h, zeU1_ne h, zeU1_ne h, zeU1_ne h, zeU1_ne h]
  rfl
theorem zeCell_nwE (G : zeG) (μ : zeM) (kd ln sl : Nat) : zeCell G (zeNew kd ln sl μ) (16 + zeN μ) = zeCellR G kd ln (fun _ => none) (fun _ => 0) (fun _ => 0) := by
  show zeCellR G (zeU1 (zeKd μ) (16 + zeN μ) kd (16 + zeN μ)) (zeU1 (zeLn μ) (16 + zeN μ) ln (16 + zeN μ)) (zeU1 (zeRm μ) (16 + zeN μ) _ (16 + zeN μ)) (zeU1 (zeIm μ) (16 + zeN μ) _ (16 + zeN μ)) (zeU1 (zeLm μ) (16 + zeN μ) _ (16 + zeN μ)) = _
  rw [zeU1_eq, zeU1_eq, zeU1_eq, zeU1_eq, zeU1_eq]
theorem zePic.nw {μ : zeM} {kd ln sl : Nat} {H H1 : Heap} (h : zePic G μ H) (hc : va_at (zeD G) zeCl (zeN0 G + zeN μ, zeCellR G kd ln (fun _ => none) (fun _ => 0) (fun _ => 0)) H1) (hz : H1.size = H.size + 1) (hq : ∀ q : Nat, q < H.size → H1[q]? = H[q]?) : zePic G (zeNew kd ln sl μ) H1 := by
  refine ⟨?_, by rw [hz, h.2]; rfl⟩
  rw [zeW_push (μ := μ) rfl (fun a ha => zeCell_nw ha), zeCell_nwE]
  refine (h.1.kept fun k q hk => ?_).app fun k q hk => ?_
  · obtain ⟨h1, rfl⟩ := zeW_at hk
    exact hq _ (by rw [h.2]; show zeN0 G + k < _; omega)
  · have hz : k < 1 := (List.getElem?_eq_some_iff.mp hk).1
    rw [show k = 0 by omega] at hk
    cases hk
    exact hc
theorem va_S.nw {A : Nat → Prop} {H0 H H1 : Heap} {locs : List Loc} (h : va_S A H0 H locs) (z : H1.size = H.size + 1) (oq : ∀ q : Nat, q < H.size → H1[q]? = H[q]?) : va_S A H0 H1 locs :=
  ⟨by rw [z]; exact Nat.le_succ_of_le h.1, fun q h1 h2 => (oq q (Nat.lt_of_lt_of_le h1 h.1)).trans (h.2.1 q h1 h2), h.2.2⟩
theorem zs_new {own C : String} {T : u_T} {ty0 : Nat → FieldType} {N ci index : Nat} (ho : (zeNam i).cls = own) (hc : zeCl[ci]? = some (C, T, N)) (hin : ∀ w ∈ u_ws C T N, w ∈ zeBT) (hty : ∀ k, k < N → parseFieldDescriptor (T k).2.2.1 = some (ty0 k)) (hcl : Cond.classLink own index C ∈ zeBT) (hins : Cond.instantiable C N ∈ zeBT) (hini : Cond.initialized C ∈ zeBT) (hdf : ∀ j, j < N → vp_V (zeFs G (fun _ => none) (fun _ => 0) 0 (zeFL ci)) j = defaultValue (ty0 j)) (hd : decode (zeCod i) pc = .ok (.new index, 3)) (hn : pc + 3 = n) : zeSnd G i pc (zoNew ci N n) := by
  subst hn
  refine zs_wr (fun L st μ x e => by cases zeNx_i e) fun L st μ pc' L' st' μ' e => ?_
  cases zeNx_i e
  have hlt := zeCl_lt hc
  refine ⟨rfl, zeMon.new _ _ _ _, fun _ hw => ⟨hw.nw (by omega), fun p l e R s m args below meth c Q H locs ls n0 s0 hcx _ _ hcells hslots hn0 hs0 hP hS _ K => ?_⟩⟩
  have hKn := hcx.K.1 ci _ hc
  have e1 : zeN (zeNew (ci + 1) 0 N μ) - n0 = (zeN μ - n0) + 1 := by show zeN μ + 1 - n0 = _; omega
  have e2 : zeSl (zeNew (ci + 1) 0 N μ) - s0 = (zeSl μ - s0) + N := by show zeSl μ + N - s0 = _; omega
  rw [e1] at hcells
  rw [e2] at hslots
  refine W.newcK hcx.1 hcx.2.1 (ho ▸ hcx.own) (hcx.ws _ hcl) (hcx.ws _ hins) (hcx.ws _ hini) rfl hd hcells hslots hKn.2.1 hP.2 fun H1 kC hkC g1 z1 o1 => ?_
  have z1' : H1.size = H.size + 1 := by rw [z1, hP.2]
  have o1' : ∀ q : Nat, q < H.size → H1[q]? = H[q]? := fun q hq => o1 q (by rw [← hP.2]; exact hq)
  have K1 := K H1 locs (hP.nw (kd := ci + 1) (ln := 0) (sl := N) ?_ z1' o1') (hS.nw z1' o1')
  · rw [e1, e2, List.map_cons, zeTr_r G (Nat.le_add_right _ _), show zeAd G (16 + zeN μ) = zeN0 G + zeN μ by unfold zeAd; omega] at K1
    exact K1
  · rw [zeCellR_obj G rfl hlt]
    exact ⟨_, hc, (u_born ty0 hcx.ws hin hKn hkC g1 hty).to fun j hj => (hdf j hj).symm⟩
/-- a new array of ints, longs, bytes, chars or booleans -/
theorem zs_newarray {at_ : ArrayType} {t t0 : Nat} {ty : FieldType} (hat : newarray.typeOf at_ = ty) (ht : t = 40 + t0) (hty : ∀ G : zeG, (zeTY G)[t0]? = some (zeCA G t0, ty)) (hw1 : Cond.arrayClass ty ∈ zeBT) (hdef : ∀ (G : zeG) (cA : ClassId) (N : Nat), zeCellR G t N (fun _ => none) (fun _ => 0) (fun _ => 0) = .inl (zeCA G t0, zeArrR G t0 N (fun _ => none) (fun _ => 0) (fun _ => 0)) ∧ vp_cell cA (zeArrR G t0 N (fun _ => none) (fun _ => 0) (fun _ => 0)) = arrV cA N (fun _ => defaultValue ty)) (hcb : componentBytes ty ≤ 8) (hRA : ∀ (s : State) (cA : ClassId), va_RA s cA ty → s.vm.findClass ("[" ++ ty.toString) = some cA) (ht5 : t < 46) (hd : decode (zeCod i) pc = .ok (.newarray at_, 2)) (hn : pc + 2 = n) : zeSnd G i pc (zoNewa t n) := by
  subst hn
  subst hat
  refine zs_wr (fun L st μ x e => ?_) fun L st μ pc' L' st' μ' e => ?_
  · unfold zoNewa at e
    split at e
    · cases zeNx_i e
    · cases e
  · unfold zoNewa at e
    split at e
    · rename_i x st'
      cases zeNx_i e
      refine ⟨rfl, (zeMon.new _ _ _ _).tr (zeMon.ck _ _), fun hck hw => ⟨hw.nw (by omega), fun p l e R s m args below meth c Q H locs ls n0 s0 hcx _ _ hcells hslots hn0 hs0 hP hS _ K => ?_⟩⟩
      have hb := zeCk_b hck
      rw [Bool.and_eq_true] at hb
      have hx0 : ¬ x < 0 := fun q => by simp [q] at hb
      have hx1 := Nat.le_of_ble_eq_true hb.2
      have e1 : zeN (zeCk (!decide (x < 0) && Nat.ble x.toNatClampNeg 1000000) (zeNew t x.toNatClampNeg x.toNatClampNeg μ)) - n0 = (zeN μ - n0) + 1 := by show zeN μ + 1 - n0 = _; omega
      have e2 : zeSl (zeCk (!decide (x < 0) && Nat.ble x.toNatClampNeg 1000000) (zeNew t x.toNatClampNeg x.toNatClampNeg μ)) - s0 = (zeSl μ - s0) + x.toNatClampNeg := by show zeSl μ + _ - s0 = _; omega
      rw [e1] at hcells
      rw [e2] at hslots
      refine va_newaK hcx.1 hcx.2.1 (hcx.ws _ hw1) rfl hd rfl hx0 rfl (Nat.le_trans (Nat.mul_le_mul hx1 hcb) (by decide)) hcells hslots hP.2 fun H1 cA g1 z1 o1 hAr hNm => ?_
      have z1' : H1.size = H.size + 1 := by rw [z1, hP.2]
      have o1' : ∀ q : Nat, q < H.size → H1[q]? = H[q]? := fun q hq => o1 q (by rw [← hP.2]; exact hq)
      have hcA : cA = zeCA G t0 := Option.some.inj (hNm.symm.trans (hRA s _ (hcx.K.2 t0 _ (hty G)).2))
      have K1 := K H1 locs (hP.nw (kd := t) (ln := x.toNatClampNeg) (sl := x.toNatClampNeg) ?_ z1' o1') (hS.nw z1' o1')
      · rw [e1, e2, List.map_cons, zeTr_r G (Nat.le_add_right _ _), show zeAd G (16 + zeN μ) = zeN0 G + zeN μ by unfold zeAd; omega] at K1
        exact K1
      · rw [(hdef G cA _).1]
        show H1[_]? = some (vp_cell (zeCA G t0) _)
        rw [← hcA, (hdef G cA _).2]
        exact g1
    · cases e
/-- a new array of references to states -/
theorem zs_anewarray {own : String} {index : Nat} (ho : (zeNam i).cls = own) (hcl : Cond.classLink own index "WagerQuiz$State" ∈ zeBT) (hd : decode (zeCod i) pc = .ok (.anewarray index, 3)) (hn : pc + 3 = n) : zeSnd G i pc (zoNewa 45 n) := by
  subst hn
  refine zs_wr (fun L st μ x e => ?_) fun L st μ pc' L' st' μ' e => ?_
  · unfold zoNewa at e
    split at e
    · cases zeNx_i e
    · cases e
  · unfold zoNewa at e
    split at e
    · rename_i x st'
      cases zeNx_i e
      refine ⟨rfl, (zeMon.new _ _ _ _).tr (zeMon.ck _ _), fun hck hw => ⟨hw.nw (by decide), fun p l e R s m args below meth c Q H locs ls n0 s0 hcx _ _ hcells hslots hn0 hs0 hP hS _ K => ?_⟩⟩
      have hb := zeCk_b hck
      rw [Bool.and_eq_true] at hb
      have hx0 : ¬ x < 0 := fun q => by simp [q] at hb
      have hx1 := Nat.le_of_ble_eq_true hb.2
      have e1 : zeN (zeCk (!decide (x < 0) && Nat.ble x.toNatClampNeg 1000000) (zeNew 45 x.toNatClampNeg x.toNatClampNeg μ)) - n0 = (zeN μ - n0) + 1 := by show zeN μ + 1 - n0 = _; omega
      have e2 : zeSl (zeCk (!decide (x < 0) && Nat.ble x.toNatClampNeg 1000000) (zeNew 45 x.toNatClampNeg x.toNatClampNeg μ)) - s0 = (zeSl μ - s0) + x.toNatClampNeg := by show zeSl μ + _ - s0 = _; omega
      rw [e1] at hcells
      rw [e2] at hslots
      refine W.anew hcx.1 hcx.2.1 (ho ▸ hcx.own) (hcx.ws _ hcl) (va_AO.use hcx.sta.2.2.2.2.2.2.2.1) rfl hd rfl hx0 (Nat.le_trans (Nat.mul_le_mul hx1 (Nat.le_refl 4)) (by decide)) hcells hslots fun cA kA comp f1 f2 f3 f4 => ?_
      have hcA : cA = zeCA G 5 := by
        obtain ⟨kA', comp', k1, k2, k3, k4⟩ := (hcx.K.2 5 _ rfl).2
        first
          | exact Option.some.inj (f1.symm.trans k4)
          | exact Option.some.inj (f2.symm.trans k4)
          | exact Option.some.inj (f3.symm.trans k4)
          | exact Option.some.inj (f4.symm.trans k4)
      subst hcA
      have z1' : (H.push ({ cls := zeCA G 5, slots := Array.replicate x.toNatClampNeg .null, vm := .none } : Cell)).size = H.size + 1 := by simp
      have o1' : ∀ q : Nat, q < H.size → (H.push ({ cls := zeCA G 5, slots := Array.replicate x.toNatClampNeg .null, vm := .none } : Cell))[q]? = H[q]? := fun q hq => by rw [Array.getElem?_push, if_neg (Nat.ne_of_lt hq)]
      have K1 := K _ locs (hP.nw (kd := 45) (ln := x.toNatClampNeg) (sl := x.toNatClampNeg) ?_ z1' o1') (hS.nw z1' o1')
      · rw [e1, e2, List.map_cons, zeTr_r G (Nat.le_add_right _ _), show zeAd G (16 + zeN μ) = zeN0 G + zeN μ by unfold zeAd; omega, ← hP.2] at K1
        exact K1
      · rw [zeCellR_q G rfl, ← hP.2]
        show _ = some (vp_cell (zeCA G 5) _)
        rw [Array.getElem?_push_size, vp_cell_q, ← arrV_new]
        rfl
    · cases e
end ZN
end
section
/-! SOUND OPS: Math, statics, constants, Object.<init>, arraycopy -/
section ZX
variable {G : zeG} {i pc n : Nat}
theorem zeCats {G : zeG} (hG : zeGv G) : ∀ (st : List Value), ((st.map (zeTr G)).map fun v => v.category).sum ≤ 2 * st.length
  | [] => Nat.le_refl 0
  | v :: l => by
    have h1 := zeCats hG l
    have h2 : (zeTr G v).category ≤ 2 := by rcases lv_cat (zeTr G v) with h | h <;> omega
    simp only [List.map_cons, List.sum_cons, List.length_cons]
    omega
theorem zs_max {own : String} {index : Nat} (ho : (zeNam i).cls = own) (hlink : Cond.methodLink own index Lib.Math.max.name ∈ zeBT) (hstat : Cond.static Lib.Math.max.name ∈ zeBT) (hini : Cond.initialized "java/lang/Math" ∈ zeBT) (hcode : Cond.code Lib.Math.max.name Lib.Math.max.code 2 (some .int) ∈ zeBT) (hdp : 1 ≤ zeDp i) (hlc : 21 ≤ zeLc i) (hd : decode (zeCod i) pc = .ok (.invokestatic index, 3)) (hn : pc + 3 = n) : zeSnd G i pc (zoMax n) := by
  subst hn
  refine zs_st (fun L st μ x e => ?_) fun L st μ pc' L' st' μ' e => ?_
  · unfold zoMax at e
    split at e
    · rename_i y x st'
      cases hk : Nat.ble st'.length 4 <;> rw [hk] at e
      · cases e
      · cases zeNx_i e
    · cases e
  · unfold zoMax at e
    split at e
    · rename_i y x st'
      cases hk : Nat.ble st'.length 4 <;> rw [hk] at e
      · cases e
      · cases zeNx_i e
        have hk := Nat.le_of_ble_eq_true hk
        refine ⟨rfl, true, rfl, fun _ _ p l e R s m args below meth c Q H locs ls cells slots hcx hD hL hc hs _ _ hsz K => ?_⟩
        exact va_mmax hcx.1 hcx.2.1 (hcx.ml.trans hsz.symm) (ho ▸ hcx.own) (hcx.ws _ hlink) (hcx.ws _ hstat) (hcx.ws _ hini) (hcx.ws _ hcode) (by omega) (by have := zeCats hcx.gv st'; omega) hc hs hd K
    · cases e
theorem zs_min {own : String} {index : Nat} (ho : (zeNam i).cls = own) (hlink : Cond.methodLink own index Lib.Math.min.name ∈ zeBT) (hstat : Cond.static Lib.Math.min.name ∈ zeBT) (hini : Cond.initialized "java/lang/Math" ∈ zeBT) (hcode : Cond.code Lib.Math.min.name Lib.Math.min.code 2 (some .int) ∈ zeBT) (hdp : 1 ≤ zeDp i) (hlc : 21 ≤ zeLc i) (hd : decode (zeCod i) pc = .ok (.invokestatic index, 3)) (hn : pc + 3 = n) : zeSnd G i pc (zoMin n) := by
  subst hn
  refine zs_st (fun L st μ x e => ?_) fun L st μ pc' L' st' μ' e => ?_
  · unfold zoMin at e
    split at e
    · rename_i y x st'
      cases hk : Nat.ble st'.length 4 <;> rw [hk] at e
      · cases e
      · cases zeNx_i e
    · cases e
  · unfold zoMin at e
    split at e
    · rename_i y x st'
      cases hk : Nat.ble st'.length 4 <;> rw [hk] at e
      · cases e
      · cases zeNx_i e
        have hk := Nat.le_of_ble_eq_true hk
        refine ⟨rfl, true, rfl, fun _ _ p l e R s m args below meth c Q H locs ls cells slots hcx hD hL hc hs _ _ hsz K => ?_⟩
        exact va_mmin hcx.1 hcx.2.1 (hcx.ml.trans hsz.symm) (ho ▸ hcx.own) (hcx.ws _ hlink) (hcx.ws _ hstat) (hcx.ws _ hini) (hcx.ws _ hcode) (by omega) (by have := zeCats hcx.gv st'; omega) hc hs hd K
    · cases e
theorem zs_nn {off : Int} {t : Nat} (hd : decode (zeCod i) pc = .ok (.ifnonnull off, 3)) (ht : (pc : Int) + off = (t : Int)) : zeSnd G i pc (zoNn t) := by
  refine zs_st (fun L st μ x e => ?_) fun L st μ pc' L' st' μ' e => ?_
  · unfold zoNn at e
    split at e
    · rename_i a st'
      cases hk : Nat.blt 0 (zeKd μ a) <;> rw [hk] at e
      · cases e
      · cases zeNx_i e
    · cases e
  · unfold zoNn at e
    split at e
    · rename_i a st'
      cases hk : Nat.blt 0 (zeKd μ a) <;> rw [hk] at e
      · cases e
      · cases zeNx_i e
        refine ⟨rfl, true, rfl, fun _ hw p l e R s m args below meth c Q H locs ls cells slots hcx hD hL hc hs _ _ hsz K => ?_⟩
        have hk : 0 < zeKd μ a := Nat.le_of_ble_eq_true hk
        have : ∃ t, zeTr G (.ref a) = .ref t := by
          rcases Nat.lt_or_ge a 16 with h | h
          · rw [zeTr_o G h]
            have h1 := (hw.1 a h).1
            rcases (hcx.old a h).2.2.2 with h3 | h3 | h3 | h3
            · omega
            · obtain ⟨t, e1, -⟩ := (hcx.old a h).1 h3
              exact ⟨t, e1⟩
            · obtain ⟨t, e1, -⟩ := (hcx.old a h).2.1 h3
              exact ⟨t, e1⟩
            · obtain ⟨t, r, e1, -⟩ := (hcx.old a h).2.2.1 h3
              exact ⟨t, e1⟩
          · exact ⟨_, zeTr_r G h⟩
        obtain ⟨t0, ht0⟩ := this
        rw [List.map_cons, ht0]
        exact lv_ifnonnull hcx.1 hcx.2.1 hd ht K
    · cases e
theorem zs_obj {own : String} {index : Nat} (ho : (zeNam i).cls = own) (hlink : Cond.methodLink own index Lib.objectInit ∈ zeBT) (hinst : Cond.instanceMethod Lib.objectInit ∈ zeBT) (hcode : Cond.code Lib.objectInit ⟨#[0xb1]⟩ 1 none ∈ zeBT) (hdp : 1 ≤ zeDp i) (hlc : 20 ≤ zeLc i) (hd : decode (zeCod i) pc = .ok (.invokespecial index, 3)) (hn : pc + 3 = n) : zeSnd G i pc (zoObj n) := by
  subst hn
  refine zs_st (fun L st μ x e => ?_) fun L st μ pc' L' st' μ' e => ?_
  · unfold zoObj at e
    split at e
    · rename_i a st'
      cases hk : (Nat.blt 0 (zeKd μ a) && Nat.ble st'.length 4) <;> rw [hk] at e
      · cases e
      · cases zeNx_i e
    · cases e
  · unfold zoObj at e
    split at e
    · rename_i a st'
      cases hk : (Nat.blt 0 (zeKd μ a) && Nat.ble st'.length 4) <;> rw [hk] at e
      · cases e
      · cases zeNx_i e
        refine ⟨rfl, true, rfl, fun _ hw p l e R s m args below meth c Q H locs ls cells slots hcx hD hL hc hs _ _ hsz K => ?_⟩
        rw [Bool.and_eq_true] at hk
        have hk2 := Nat.le_of_ble_eq_true hk.2
        have hk : 0 < zeKd μ a := Nat.le_of_ble_eq_true hk.1
        have : ∃ t, zeTr G (.ref a) = .ref t := by
          rcases Nat.lt_or_ge a 16 with h | h
          · rw [zeTr_o G h]
            have h1 := (hw.1 a h).1
            rcases (hcx.old a h).2.2.2 with h3 | h3 | h3 | h3
            · omega
            · obtain ⟨t, e1, -⟩ := (hcx.old a h).1 h3
              exact ⟨t, e1⟩
            · obtain ⟨t, e1, -⟩ := (hcx.old a h).2.1 h3
              exact ⟨t, e1⟩
            · obtain ⟨t, r, e1, -⟩ := (hcx.old a h).2.2.1 h3
              exact ⟨t, e1⟩
          · exact ⟨_, zeTr_r G h⟩
        obtain ⟨t0, ht0⟩ := this
        rw [List.map_cons, ht0]
        refine W.objInit hcx.1 hcx.2.1 (ho ▸ hcx.own) (hcx.ws _ hlink) (hcx.ws _ hinst) (hcx.ws _ hcode) rfl (by rw [hcx.ml]; exact hsz) rfl hd (by omega) ?_ K
        have := zeCats hcx.gv st'
        show 2 * 0 + _ + 12 ≤ _
        omega
    · cases e
/-! statics and constants -/
theorem zs_gets {C nm d own : String} {v : Value} {index : Nat} (ho : (zeNam i).cls = own) (hZ : ∀ (s : State), zeSta G s s.heap → va_Z C nm d (zeTr G v) (zeA G) s s.heap) (hlink : Cond.fieldLink own index C nm d ∈ zeBT) (hd : decode (zeCod i) pc = .ok (.getstatic index, 3)) (hn : pc + 3 = n) : zeSnd G i pc (zoK v n) := by
  subst hn
  exact zs_K fun μ rest p l e R s m args below meth c Q H locs ls cells slots hcx _ _ _ _ _ hS _ K => va_gets hcx.1 hcx.2.1 (hZ s hcx.sta) hS (ho ▸ hcx.own) (hcx.ws _ hlink) (fun _ h => h) hd K
theorem zs_getsN {C nm d own host : String} {v : Value} {index : Nat} (ho : (zeNam i).cls = own) (hZ : ∀ (s : State), zeSta G s s.heap → va_Z C nm d (zeTr G v) (zeA G) s s.heap ∧ va_Nw (.fieldLinkNest own index C nm d host) s) (hd : decode (zeCod i) pc = .ok (.getstatic index, 3)) (hn : pc + 3 = n) : zeSnd G i pc (zoK v n) := by
  subst hn
  exact zs_K fun μ rest p l e R s m args below meth c Q H locs ls cells slots hcx _ _ _ _ _ hS _ K => va_getsN hcx.1 hcx.2.1 (hZ s hcx.sta).1 hS (ho ▸ hcx.own) ((hZ s hcx.sta).2.use rfl) (fun _ h => h) hd K
theorem zs_ldcS {own tx : String} {a index : Nat} (ho : (zeNam i).cls = own) (hZ : ∀ (s : State), zeSta G s s.heap → ∃ t, zeTr G (.ref a) = .ref t ∧ vk_R own index tx t s) (hd : decode (zeCod i) pc = .ok (.ldc index, 2)) (hn : pc + 2 = n) : zeSnd G i pc (zoK (.ref a) n) := by
  subst hn
  refine zs_K fun μ rest p l e R s m args below meth c Q H locs ls cells slots hcx _ _ _ _ _ hS _ K => ?_
  obtain ⟨t, e1, e2⟩ := hZ s hcx.sta
  rw [e1] at K
  exact va_ldcS hcx.1 hcx.2.1 (ho ▸ hcx.own) e2 hd K
/-! arraycopy of ints, of longs, of bytes out of an old array -/
theorem zeCpOk_of {sp dp k : Int32} {l0 l1 : Nat} (h : zeCpOk sp dp k l0 l1 = true) : ¬ sp < 0 ∧ ¬ dp < 0 ∧ ¬ k < 0 ∧ sp.toNatClampNeg + k.toNatClampNeg ≤ l0 ∧ dp.toNatClampNeg + k.toNatClampNeg ≤ l1 := by
  unfold zeCpOk at h
  rw [Bool.and_eq_true, Bool.and_eq_true, Bool.and_eq_true, Bool.and_eq_true] at h
  obtain ⟨h1, h2, h3, h4, h5⟩ := h
  exact ⟨fun q => by simp [q] at h1, fun q => by simp [q] at h2, fun q => by simp [q] at h3, Nat.le_of_ble_eq_true h4, Nat.le_of_ble_eq_true h5⟩
theorem zeNn {z : Int32} (hz : ¬ z < 0) : z.toInt = (z.toNatClampNeg : Int) := by
  have hz0 : (0 : Int) ≤ z.toInt := by
    have := Int32.not_lt.mp hz
    simpa using Int32.le_iff_toInt_le.mp this
  show z.toInt = ((z.toInt.toNat : Nat) : Int)
  omega
/-- what an arraycopy leaves: the target's cell is another, all else stays -/
theorem zw_copy {p : Program} {l : Launch} {e : Env} {R : Room} {s : State} {m : MethodId} {args : Array Value} {below : List Frame} {meth : Method} {c : Code} {H : Heap} {locs : List Loc} {cells slots : Nat} {Q : State → Prop} {cc : ByteArray} {ls : Array Slot} {rest : List Value}
    (hexec : p.tables.exec = Jvm.exec) (hb : c.code = cc) (hml : c.maxLocals = ls.size) {own : String} {index : Nat} (hown : s.vm.findClass own = some m.cls) (hlink : (Cond.methodLink own index arraycopyName).before args s = true) (hnat : (Cond.native arraycopyName).before args s = true) (hstat : (Cond.static arraycopyName).before args s = true) (hini : (Cond.initialized "java/lang/System").before args s = true)
    {a0 a : Nat} {cs cd cr : Cell} {ty : FieldType} (hc0 : H[a0]? = some cs) (hc1 : H[a]? = some cd) (h0 : s.isArrayOf cs ty) (h1 : s.isArrayOf cd ty) (hk0 : cs.vm ≠ .unknown) (hk1 : cd.vm ≠ .unknown) (hprim : refKind ty = false)
    {sp dp k : Int32} (g1 : ¬ sp < 0) (g2 : ¬ dp < 0) (g3 : ¬ k < 0) (g4 : sp.toNatClampNeg + k.toNatClampNeg ≤ cs.slots.size) (g5 : dp.toNatClampNeg + k.toNatClampNeg ≤ cd.slots.size) (hfit : ∀ j, j < k.toNatClampNeg → fits ty (cs.slots.getD (sp.toNatClampNeg + j) .null) = true ∧ ∀ b, cs.slots.getD (sp.toNatClampNeg + j) .null ≠ .ref b) (hcr : copied cs cd sp dp k = cr)
    (hframes : 1 ≤ R.frames) (hlocals : (rest.map fun v => v.category).sum + (nativeFrameWords "java/lang/System" "arraycopy" 5 + 11) ≤ R.locals) (hdg : decode cc pc = .ok (.invokestatic index, 3))
    (kk : ∀ (H1 : Heap) (locs1 : List Loc), H1[a]? = some cr → H1.size = H.size → (∀ q : Nat, q ≠ a → H1[q]? = H[q]?) → (∀ q ∈ locs1, q ∈ locs ∨ q.base = a) → W p l e R s m args below meth c H1 locs1 cells slots Q (F0 m (pc + 3) ls rest)) : W p l e R s m args below meth c H locs cells slots Q (F0 m pc ls (.int k :: .int dp :: .ref a :: .int sp :: .ref a0 :: rest)) := by
  subst hcr
  intro T hT X
  obtain ⟨u0, k0, hkk0, cm0, hkd0⟩ := h0
  obtain ⟨u1, k1, hkk1, cm1, hkd1⟩ := h1
  obtain ⟨vm', X', step⟩ := X.arraycopy hexec hown hlink hnat hstat hini (src := a0) (dst := a) (cs := cs) (cd := cd) (srcPos := sp) (destPos := dp) (n := k) (by rw [hT]; exact hc0) (by rw [hT]; exact hc1)
    u0 u1 hk0 hk1 hkk0 hkk1 hkd0 hkd1 (by simp [hprim]) g1 g2 g3
    (by rw [zeNn g1, zeNn g3]; omega)
    (by rw [zeNn g2, zeNn g3]; omega)
    (fun vm₁ _ j hj => ⟨(hfit j hj).1, by
      have := (hfit j hj).2
      cases hv : cs.slots.getD (sp.toNatClampNeg + j) .null <;> first | trivial | (rw [hv] at this; exact absurd rfl (this _))⟩)
    (g := F0 m pc ls (.int k :: .int dp :: .ref a :: .int sp :: .ref a0 :: rest)) rfl (by rw [hml]) (rest := rest) rfl (by rw [hb]; exact hdg) hframes (by show 2 * 0 + _ + _ ≤ _; omega)
  have hl : a < H.size := (Array.getElem?_eq_some_iff.mp hc1).1
  have hheap : ((T.setVm vm').setCell a (copied cs cd sp dp k)).heap = H.setIfInBounds a (copied cs cd sp dp k) := by rw [← hT]; rfl
  obtain ⟨t, a1, b1⟩ := kk _ _ (show (H.setIfInBounds a _)[a]? = some _ by simp [Array.getElem?_setIfInBounds, hl]) (by simp) (fun q hq => by simp [Array.getElem?_setIfInBounds, Ne.symm hq]) (fun q hq => by
      rcases List.mem_append.mp hq with h | h
      · exact Or.inl h
      · obtain ⟨z, -, hz⟩ := List.mem_map.mp h
        rw [← hz]
        exact Or.inr rfl) _ hheap X'
  exact ⟨t, step t a1, b1⟩
theorem va_S.put' {A : Nat → Prop} {H0 H H1 : Heap} {locs locs1 : List Loc} {a : Nat} (h : va_S A H0 H locs) (z : H1.size = H.size) (oq : ∀ q : Nat, q ≠ a → H1[q]? = H[q]?) (ha : A a) (hl : ∀ q ∈ locs1, q ∈ locs ∨ q.base = a) : va_S A H0 H1 locs1 := by
  refine ⟨by rw [z]; exact h.1, fun q h1 h2 => ?_, fun q hq => ?_⟩
  · rw [oq q (fun e => h2 (by rw [e]; exact ha))]
    exact h.2.1 q h1 h2
  · rcases hl q hq with h1 | h1
    · exact h.2.2 q h1
    · rw [h1]
      exact ha
theorem zeCpy_ne {α : Type} {f : Nat → Nat → α} {a0 sp a dp k a' : Nat} (h : a' ≠ a) : zeCpy f a0 sp a dp k a' = f a' := by
  funext j
  simp [zeCpy, h]
theorem zeCpy_eq {α : Type} (f : Nat → Nat → α) (a0 sp a dp k : Nat) : zeCpy f a0 sp a dp k a = va_cpy (f a0) (f a) sp dp k := by
  funext j
  simp [zeCpy, va_cpy]
theorem zs_copyI {own : String} {index t t0 : Nat} {ty : FieldType} (ht : t = 40 + t0) (h5 : t0 ≠ 5) (h1' : t0 ≠ 1) (h6 : t0 < 6) (hty : ∀ G : zeG, (zeTY G)[t0]? = some (zeCA G t0, ty)) (hprim : refKind ty = false) (hft : ∀ (μ : zeM), zeWf G μ → ∀ a, zeKd μ a = t → ∀ j, fits ty (.int (zeIm μ a j)) = true)
    (ho : (zeNam i).cls = own) (hlink : Cond.methodLink own index arraycopyName ∈ zeBT) (hnat : Cond.native arraycopyName ∈ zeBT) (hstat : Cond.static arraycopyName ∈ zeBT) (hini : Cond.initialized "java/lang/System" ∈ zeBT) (hdp : 1 ≤ zeDp i) (hlc : 30 ≤ zeLc i) (hd : decode (zeCod i) pc = .ok (.invokestatic index, 3)) (hn : pc + 3 = n) : zeSnd G i pc (zoCp t n) := by
  subst hn
  refine zs_wr (fun L st μ x e => ?_) fun L st μ pc' L' st' μ' e => ?_
  · unfold zoCp at e
    split at e
    · rename_i k dp a sp a0 st'
      cases hk : (Nat.beq (zeKd μ a) t && (Nat.beq (zeKd μ a0) t && Nat.ble st'.length 4)) <;> rw [hk] at e
      · cases e
      · cases zeNx_i e
    · cases e
  · unfold zoCp at e
    split at e
    · rename_i k dp a sp a0 st'
      cases hk : (Nat.beq (zeKd μ a) t && (Nat.beq (zeKd μ a0) t && Nat.ble st'.length 4)) <;> rw [hk] at e
      · cases e
      · cases zeNx_i e
        rw [Bool.and_eq_true, Bool.and_eq_true] at hk
        have hk4 := Nat.le_of_ble_eq_true hk.2.2
        have hk0 := Nat.eq_of_beq_eq_true hk.2.1
        have hk := Nat.eq_of_beq_eq_true hk.1
        refine ⟨rfl, (zeMon.sim _ _).tr (zeMon.ck _ _), fun hck hw => ?_⟩
        obtain ⟨h1, h2⟩ := hw.new (a := a) (by omega) (by omega)
        obtain ⟨b1, b2⟩ := hw.new (a := a0) (by omega) (by omega)
        obtain ⟨g1, g2, g3, g4, g5⟩ := zeCpOk_of (zeCk_b hck)
        refine ⟨hw.im h1 (fun a' ha' => zeCpy_ne ha') (fun h j => ?_), fun p l e R s m args below meth c Q H locs ls n0 s0 hcx hD hL _ _ _ _ hP hS hsz K => ?_⟩
        · have hw2 := hw.2.1
          rw [zeCpy_eq]
          unfold va_cpy
          split
          · exact hw2 a0 (Or.inl (by omega)) _
          · exact hw2 a (Or.inl h) j
        · simp only [List.map_cons, zeTr_i]
          rw [zeTr_r G h1, zeTr_r G b1]
          have he := hP.1 (a - 16) _ (zeW_get (G := G) h1 h2)
          have he0 := hP.1 (a0 - 16) _ (zeW_get (G := G) b1 b2)
          rw [zeCell_i G (hk.trans ht) h5 h1'] at he
          rw [zeCell_i G (hk0.trans ht) h5 h1'] at he0
          have hA := (hcx.K.2 t0 _ (hty G)).1
          refine zw_copy (cr := vp_cell (zeCA G t0) (zeLn μ a, .inl (va_cpy (zeIm μ a0) (zeIm μ a) sp.toNatClampNeg dp.toNatClampNeg k.toNatClampNeg))) hcx.1 hcx.2.1 (hcx.ml.trans hsz.symm) (ho ▸ hcx.own) (hcx.ws _ hlink) (hcx.ws _ hnat) (hcx.ws _ hstat) (hcx.ws _ hini) he0 he (hA _ (fun j => .int (zeIm μ a0 j))) (hA _ (fun j => .int (zeIm μ a j))) (fun h => by cases h) (fun h => by cases h) hprim g1 g2 g3 (by show _ ≤ (arrV _ _ _).slots.size; rw [arrV_size]; exact g4) (by show _ ≤ (arrV _ _ _).slots.size; rw [arrV_size]; exact g5) (fun j hj => ?_) (va_copied (fun z => .int z) _ _ (zeIm μ a0) (zeIm μ a) g4) (by omega) (by have := zeCats hcx.gv st'; show _ + (5 + 2 + 11) ≤ _; omega) hd fun H1 locs1 e1 z oq hl => ?_
          · have e : (vp_cell (zeCA G t0) (zeLn μ a0, .inl (zeIm μ a0))).slots.getD (sp.toNatClampNeg + j) .null = .int (zeIm μ a0 (sp.toNatClampNeg + j)) := by
              show (arrV _ _ (fun j => .int (zeIm μ a0 j))).slots.getD _ _ = _
              rw [Array.getD_eq_getD_getElem?, arrV_read _ _ (by omega)]
              rfl
            rw [e]
            exact ⟨hft μ hw a0 hk0 _, fun b h => by cases h⟩
          · refine K H1 _ (hP.put h1 h2 rfl (fun a' ha' => zeCell_im (zeCpy_ne ha')) ?_ z oq) (hS.put' z oq (zeA_ad G a) hl)
            have e2 : zeCell G (zeCk (zeCpOk sp dp k (zeLn μ a0) (zeLn μ a)) (zeSIm (zeCpy (zeIm μ) a0 sp.toNatClampNeg a dp.toNatClampNeg k.toNatClampNeg) μ)) a = .inl (zeCA G t0, zeLn μ a, .inl (zeCpy (zeIm μ) a0 sp.toNatClampNeg a dp.toNatClampNeg k.toNatClampNeg a)) := zeCellR_i G (hk.trans ht) h5 h1'
            rw [e2, zeCpy_eq]
            exact e1
    · cases e
theorem zs_copyL {own : String} {index : Nat} (ho : (zeNam i).cls = own) (hlink : Cond.methodLink own index arraycopyName ∈ zeBT) (hnat : Cond.native arraycopyName ∈ zeBT) (hstat : Cond.static arraycopyName ∈ zeBT) (hini : Cond.initialized "java/lang/System" ∈ zeBT) (hdp : 1 ≤ zeDp i) (hlc : 30 ≤ zeLc i) (hd : decode (zeCod i) pc = .ok (.invokestatic index, 3)) (hn : pc + 3 = n) : zeSnd G i pc (zoCpL n) := by
  subst hn
  refine zs_wr (fun L st μ x e => ?_) fun L st μ pc' L' st' μ' e => ?_
  · unfold zoCpL at e
    split at e
    · rename_i k dp a sp a0 st'
      cases hk : (Nat.beq (zeKd μ a) 41 && (Nat.beq (zeKd μ a0) 41 && Nat.ble st'.length 4)) <;> rw [hk] at e
      · cases e
      · cases zeNx_i e
    · cases e
  · unfold zoCpL at e
    split at e
    · rename_i k dp a sp a0 st'
      cases hk : (Nat.beq (zeKd μ a) 41 && (Nat.beq (zeKd μ a0) 41 && Nat.ble st'.length 4)) <;> rw [hk] at e
      · cases e
      · cases zeNx_i e
        rw [Bool.and_eq_true, Bool.and_eq_true] at hk
        have hk4 := Nat.le_of_ble_eq_true hk.2.2
        have hk0 := Nat.eq_of_beq_eq_true hk.2.1
        have hk := Nat.eq_of_beq_eq_true hk.1
        refine ⟨rfl, (zeMon.slm _ _).tr (zeMon.ck _ _), fun hck hw => ?_⟩
        obtain ⟨h1, h2⟩ := hw.new (a := a) (by omega) (by omega)
        obtain ⟨b1, b2⟩ := hw.new (a := a0) (by omega) (by omega)
        obtain ⟨g1, g2, g3, g4, g5⟩ := zeCpOk_of (zeCk_b hck)
        refine ⟨hw, fun p l e R s m args below meth c Q H locs ls n0 s0 hcx hD hL _ _ _ _ hP hS hsz K => ?_⟩
        · simp only [List.map_cons, zeTr_i]
          rw [zeTr_r G h1, zeTr_r G b1]
          have he := hP.1 (a - 16) _ (zeW_get (G := G) h1 h2)
          have he0 := hP.1 (a0 - 16) _ (zeW_get (G := G) b1 b2)
          rw [zeCell_l G hk] at he
          rw [zeCell_l G hk0] at he0
          have hA := (hcx.K.2 1 _ rfl).1
          refine zw_copy (cr := vp_cell (zeCA G 1) (zeLn μ a, .inr (.inl (va_cpy (zeLm μ a0) (zeLm μ a) sp.toNatClampNeg dp.toNatClampNeg k.toNatClampNeg)))) hcx.1 hcx.2.1 (hcx.ml.trans hsz.symm) (ho ▸ hcx.own) (hcx.ws _ hlink) (hcx.ws _ hnat) (hcx.ws _ hstat) (hcx.ws _ hini) he0 he (hA _ (fun j => .long (zeLm μ a0 j))) (hA _ (fun j => .long (zeLm μ a j))) (fun h => by cases h) (fun h => by cases h) rfl g1 g2 g3 (by show _ ≤ (arrV _ _ _).slots.size; rw [arrV_size]; exact g4) (by show _ ≤ (arrV _ _ _).slots.size; rw [arrV_size]; exact g5) (fun j hj => ?_) (va_copied (fun z => .long z) _ _ (zeLm μ a0) (zeLm μ a) g4) (by omega) (by have := zeCats hcx.gv st'; show _ + (5 + 2 + 11) ≤ _; omega) hd fun H1 locs1 e1 z oq hl => ?_
          · have e : (vp_cell (zeCA G 1) (zeLn μ a0, .inr (.inl (zeLm μ a0)))).slots.getD (sp.toNatClampNeg + j) .null = .long (zeLm μ a0 (sp.toNatClampNeg + j)) := by
              show (arrV _ _ (fun j => .long (zeLm μ a0 j))).slots.getD _ _ = _
              rw [Array.getD_eq_getD_getElem?, arrV_read _ _ (by omega)]
              rfl
            rw [e]
            exact ⟨rfl, fun b h => by cases h⟩
          · refine K H1 _ (hP.put h1 h2 rfl (fun a' ha' => zeCell_lm (zeCpy_ne ha')) ?_ z oq) (hS.put' z oq (zeA_ad G a) hl)
            have e2 : zeCell G (zeCk (zeCpOk sp dp k (zeLn μ a0) (zeLn μ a)) (zeSLm (zeCpy (zeLm μ) a0 sp.toNatClampNeg a dp.toNatClampNeg k.toNatClampNeg) μ)) a = .inl (zeCA G 1, zeLn μ a, .inr (.inl (zeCpy (zeLm μ) a0 sp.toNatClampNeg a dp.toNatClampNeg k.toNatClampNeg a))) := zeCellR_l G hk
            rw [e2, zeCpy_eq]
            exact e1
    · cases e
theorem zs_copyO {own : String} {index : Nat} (ho : (zeNam i).cls = own) (hlink : Cond.methodLink own index arraycopyName ∈ zeBT) (hnat : Cond.native arraycopyName ∈ zeBT) (hstat : Cond.static arraycopyName ∈ zeBT) (hini : Cond.initialized "java/lang/System" ∈ zeBT) (hdp : 1 ≤ zeDp i) (hlc : 30 ≤ zeLc i) (hd : decode (zeCod i) pc = .ok (.invokestatic index, 3)) (hn : pc + 3 = n) : zeSnd G i pc (zoCpO n) := by
  subst hn
  refine zs_wr (fun L st μ x e => ?_) fun L st μ pc' L' st' μ' e => ?_
  · unfold zoCpO at e
    split at e
    · rename_i k dp a sp a0 st'
      cases hk : (Nat.beq (zeKd μ a) 42 && (Nat.beq (zeKd μ a0) 102 && Nat.ble st'.length 4)) <;> rw [hk] at e
      · cases e
      · cases zeNx_i e
    · cases e
  · unfold zoCpO at e
    split at e
    · rename_i k dp a sp a0 st'
      cases hk : (Nat.beq (zeKd μ a) 42 && (Nat.beq (zeKd μ a0) 102 && Nat.ble st'.length 4)) <;> rw [hk] at e
      · cases e
      · cases zeNx_i e
        rw [Bool.and_eq_true, Bool.and_eq_true] at hk
        have hk4 := Nat.le_of_ble_eq_true hk.2.2
        have hk0 := Nat.eq_of_beq_eq_true hk.2.1
        have hk := Nat.eq_of_beq_eq_true hk.1
        refine ⟨rfl, (zeMon.sim _ _).tr (zeMon.ck _ _), fun hck hw => ?_⟩
        obtain ⟨h1, h2⟩ := hw.new (a := a) (by omega) (by omega)
        have b1 : a0 < 16 := by
          rcases (hw.2.2.1 a0 (by omega)).2 with h | h <;> omega
        obtain ⟨w1, w2, w3, w4⟩ := hw.1 a0 b1
        obtain ⟨g1, g2, g3, g4, g5⟩ := zeCpOk_of (zeCk_b hck)
        refine ⟨hw.im h1 (fun a' ha' => zeCpy_ne ha') (fun h j => ?_), fun p l e R s m args below meth c Q H locs ls n0 s0 hcx hD hL _ _ _ _ hP hS hsz K => ?_⟩
        · rw [zeCpy_eq]
          unfold va_cpy
          split
          · exact hw.2.1 a0 (Or.inr hk0) _
          · exact hw.2.1 a (Or.inl h) j
        · simp only [List.map_cons, zeTr_i]
          obtain ⟨t0, e0, hT, -⟩ := (hcx.old a0 b1).2.1 (by omega)
          rw [zeTr_r G h1, zeTr_o G b1, e0]
          have he := hP.1 (a - 16) _ (zeW_get (G := G) h1 h2)
          rw [zeCell_i G (t := 2) hk (by decide) (by decide)] at he
          have hA := (hcx.K.2 2 _ rfl).1
          have hf0 : zeIm μ a0 = zeOi G a0 := funext w3
          obtain ⟨scr, q1, q2, q3, q4, q5, q6, q7⟩ := hT
          have q1' : H[t0]? = some scr := by rw [hS.2.1 t0 (Array.getElem?_eq_some_iff.mp q1).1 q7]; exact q1
          rw [w2] at g4
          refine zw_copy (cr := vp_cell (zeCA G 2) (zeLn μ a, .inl (va_cpy (zeOi G a0) (zeIm μ a) sp.toNatClampNeg dp.toNatClampNeg k.toNatClampNeg))) hcx.1 hcx.2.1 (hcx.ml.trans hsz.symm) (ho ▸ hcx.own) (hcx.ws _ hlink) (hcx.ws _ hnat) (hcx.ws _ hstat) (hcx.ws _ hini) q1' he q2 (hA _ (fun j => .int (zeIm μ a j))) q3 (fun h => by cases h) rfl g1 g2 g3 (Nat.le_trans g4 q4) (by show _ ≤ (arrV _ _ _).slots.size; rw [arrV_size]; exact g5) (fun j hj => ?_) (va_copiedX (fun z => .int z) scr _ (zeOi G a0) (zeIm μ a) q6 g4) (by omega) (by have := zeCats hcx.gv st'; show _ + (5 + 2 + 11) ≤ _; omega) hd fun H1 locs1 e1 z oq hl => ?_
          · have e : scr.slots.getD (sp.toNatClampNeg + j) .null = .int (zeOi G a0 (sp.toNatClampNeg + j)) := by
              rw [Array.getD_eq_getD_getElem?, q6 _ (by omega)]
              rfl
            rw [e, ← w3]
            exact ⟨hw.2.1 a0 (Or.inr hk0) _, fun b h => by cases h⟩
          · refine K H1 _ (hP.put h1 h2 rfl (fun a' ha' => zeCell_im (zeCpy_ne ha')) ?_ z oq) (hS.put' z oq (zeA_ad G a) hl)
            have e2 : zeCell G (zeCk (zeCpOk sp dp k (zeLn μ a0) (zeLn μ a)) (zeSIm (zeCpy (zeIm μ) a0 sp.toNatClampNeg a dp.toNatClampNeg k.toNatClampNeg) μ)) a = .inl (zeCA G 2, zeLn μ a, .inl (zeCpy (zeIm μ) a0 sp.toNatClampNeg a dp.toNatClampNeg k.toNatClampNeg a)) := zeCellR_i G (t := 2) hk (by decide) (by decide)
            rw [e2, zeCpy_eq, hf0]
            exact e1
    · cases e
end ZX
end
section
/-! ENDS AND CALLS -/
section ZE
variable {G : zeG} {i pc n : Nat}
/-- an end: the frame before the return, the answer on the stack -/
theorem zs_end {op : zeOp} (hk : decode (zeCod i) pc = .ok (zeRk i, 1)) (h1 : ∀ L st μ x, op L st μ ≠ some (.inl x)) (h2 : ∀ L st μ x, op L st μ ≠ some (.inr (.inr x)))
    (h3 : ∀ L st μ v μ', op L st μ = some (.inr (.inl (v, μ'))) → (v.map (zeTr G)).toList = st.map (zeTr G) ∧ ∃ b, μ' = zeCk b μ ∧ (b = true → zeRok i v)) : zeSnd G i pc op := by
  intro L st μ
  refine ⟨fun pc' L' st' μ' h => absurd h (h1 _ _ _ _), fun v μ' h => ?_, fun j as pc' L' st' μ' h => absurd h (h2 _ _ _ _)⟩
  obtain ⟨e1, b, rfl, e2⟩ := h3 L st μ v μ' h
  refine ⟨zeMon.ck b μ, fun hb hw => ⟨hw, ?_⟩⟩
  intro p l e R s m args below meth c Q n0 s0 hcx hd hl hn0 hs0 hret hc hs H locs ls hP hS hL hN
  rw [← e1]
  exact hret H locs ls pc (e2 (zeCk_b hb)) hk hP hS
theorem zs_ireturn (hr : zeRt i = some .int) (hk : decode (zeCod i) pc = .ok (zeRk i, 1)) : zeSnd G i pc zoRetI := by
  refine zs_end hk (fun L st μ x e => ?_) (fun L st μ x e => ?_) fun L st μ v μ' e => ?_
  · unfold zoRetI at e
    split at e <;> cases e
  · unfold zoRetI at e
    split at e <;> cases e
  · unfold zoRetI at e
    split at e
    · rename_i x
      cases e
      refine ⟨rfl, true, rfl, fun _ => ?_⟩
      unfold zeRok
      rw [hr]
      exact ⟨x, rfl⟩
    · cases e
theorem zs_zreturn {ty : FieldType} (hr : zeRt i = some ty) (hty : ty = .boolean ∨ ty = .char ∨ ty = .byte) (hk : decode (zeCod i) pc = .ok (zeRk i, 1)) : zeSnd G i pc (zoRetS ty) := by
  refine zs_end hk (fun L st μ x e => ?_) (fun L st μ x e => ?_) fun L st μ v μ' e => ?_
  · unfold zoRetS at e
    split at e <;> cases e
  · unfold zoRetS at e
    split at e <;> cases e
  · unfold zoRetS at e
    split at e
    · rename_i x
      cases e
      refine ⟨rfl, _, rfl, fun hb => ?_⟩
      have hb : vp_nar ty x = x := by simpa [zeNok] using hb
      unfold zeRok
      rw [hr]
      rcases hty with rfl | rfl | rfl
      · exact ⟨x, rfl, congrArg Value.int hb⟩
      · exact ⟨x, rfl, congrArg Value.int hb⟩
      · exact ⟨x, rfl, congrArg Value.int hb⟩
    · cases e
theorem zs_areturn {ty : FieldType} (hr : zeRt i = some ty) (hty : (∃ nm, ty = .object nm) ∨ ∃ t, ty = .array t) (hk : decode (zeCod i) pc = .ok (zeRk i, 1)) : zeSnd G i pc zoRetA := by
  refine zs_end hk (fun L st μ x e => ?_) (fun L st μ x e => ?_) fun L st μ v μ' e => ?_
  · unfold zoRetA at e
    split at e
    · rename_i a
      cases hk : Nat.ble 16 a <;> rw [hk] at e <;> cases e
    · cases e
  · unfold zoRetA at e
    split at e
    · rename_i a
      cases hk : Nat.ble 16 a <;> rw [hk] at e <;> cases e
    · cases e
  · unfold zoRetA at e
    split at e
    · rename_i a
      cases hk : Nat.ble 16 a <;> rw [hk] at e
      · cases e
      · cases e
        refine ⟨rfl, true, rfl, fun _ => ?_⟩
        unfold zeRok
        rw [hr]
        rcases hty with ⟨nm, rfl⟩ | ⟨t, rfl⟩
        · exact ⟨a, rfl, Nat.le_of_ble_eq_true hk⟩
        · exact ⟨a, rfl, Nat.le_of_ble_eq_true hk⟩
    · cases e
theorem zs_return (hr : zeRt i = none) (hk : decode (zeCod i) pc = .ok (zeRk i, 1)) : zeSnd G i pc zoRetV := by
  refine zs_end hk (fun L st μ x e => ?_) (fun L st μ x e => ?_) fun L st μ v μ' e => ?_
  · unfold zoRetV at e
    split at e <;> cases e
  · unfold zoRetV at e
    split at e <;> cases e
  · unfold zoRetV at e
    split at e
    · cases e
      refine ⟨rfl, true, rfl, fun _ => ?_⟩
      unfold zeRok
      rw [hr]
    · cases e
/-! a method's contract for one run -/
theorem zeEnt_ll (G : zeG) : ∀ (as : List Value) (k r : Nat), (∀ v ∈ as, zeCat1 v = true) → zeGv G → zeLl G k (as.map some ++ List.replicate r none) = lv_args k (as.map (zeTr G))
  | [], k, r, _, _ => by
    have : ∀ (r k : Nat), zeLl G k (List.replicate r none) = [] := by
      intro r
      induction r with
      | zero => intro k; rfl
      | succ r ih => intro k; exact ih (k + 1)
    exact this r k
  | v :: l, k, r, h, hG => by
    have h1 := zeTr_cat hG (h v List.mem_cons_self)
    show (k, zeTr G v) :: zeLl G (k + 1) _ = (k, zeTr G v) :: lv_args (if (zeTr G v).category = 2 then k + 2 else k + 1) _
    rw [if_neg (by omega)]
    exact congrArg (fun z => (k, zeTr G v) :: z) (zeEnt_ll G l (k + 1) r (fun w hw => h w (List.mem_cons_of_mem _ hw)) hG)
theorem zeSl_len (G : zeG) (hG : zeGv G) : ∀ (as : List Value), (∀ v ∈ as, zeCat1 v = true) → (lg_sl (as.map (zeTr G))).length = as.length
  | [], _ => rfl
  | v :: l, h => by
    have h1 := zeTr_cat hG (h v List.mem_cons_self)
    have h2 := zeSl_len G hG l (fun w hw => h w (List.mem_cons_of_mem _ hw))
    unfold lg_sl at h2 ⊢
    rw [List.map_cons, List.flatMap_cons, List.length_append, h2, if_neg (by omega)]
    simp
    omega
theorem zeGet_ent : ∀ (as : List Value) (r k : Nat) (v : Value), zeGet (as.map some ++ List.replicate r none) k = some v → v ∈ as
  | [], r, k, v, h => by
    exfalso
    have : ∀ (r k : Nat), zeGet (List.replicate r none) k = none := by
      intro r
      induction r with
      | zero => intro k; cases k <;> rfl
      | succ r ih =>
        intro k
        cases k with
        | zero => rfl
        | succ k => exact ih k
    rw [List.map_nil, List.nil_append, this r k] at h
    cases h
  | a :: l, r, 0, v, h => by
    cases h
    exact List.mem_cons_self
  | a :: l, r, k + 1, v, h => List.mem_cons_of_mem _ (zeGet_ent l r k v h)
/-- what a method of ours needs of the tables (all of it decided once a method) -/
def zeMok (j : Nat) : Prop := plainName (zeNam j).cls = true ∧ ((zeRt j = none ∧ zeRk j = .return_) ∨ (zeRt j = some .int ∧ zeRk j = .ireturn) ∨ ((zeRt j = some .boolean ∨ zeRt j = some .char ∨ zeRt j = some .byte) ∧ zeRk j = .ireturn) ∨ (((∃ nm, zeRt j = some (.object nm)) ∨ ∃ t, zeRt j = some (.array t)) ∧ zeRk j = .areturn))
def zeRoom (j : Nat) (μ μ1 : zeM) : Room := { frames := zeDp j, cells := zeN μ1 - zeN μ, slots := zeSl μ1 - zeSl μ, locals := zeLc j }
def zeWs (j : Nat) : List Cond := .code (zeNam j) (zeCod j) (zeNl j) (zeRt j) :: zeBT
def zePc (G : zeG) (as : List Value) (μ : zeM) : Array Value → State → Prop := fun a U => a = (as.map (zeTr G)).toArray ∧ zePic G μ U.heap ∧ va_K (zeD G) zeCl (zeTY G) U ∧ zeOldA G U U.heap ∧ zeSta G U U.heap
def zeQc (G : zeG) (v : Option Value) (μ1 : zeM) : Array Value → State → Outcome → State → Prop := fun _ st o t => o = .returned (v.map (zeTr G)) ∧ zePic G μ1 t.heap ∧ va_F (zeA G) st t
theorem zeMet {j : Nat} {as : List Value} {v : Option Value} {μ μ1 : zeM} (l : Launch) (hG : zeGv G) (hok : zeMok j) (hcat : ∀ v ∈ as, zeCat1 v = true) (hlen : as.length ≤ zeNl j) (hgo : zeGO G j v μ1 0 (zeEnt (zeNl j) as) [] μ) : Met l (zeNam j) (zeWs j) (zeRoom j μ μ1) (zePc G as μ) (zeQc G v μ1) (zeN μ1 - zeN μ) (zeSl μ1 - zeSl μ) (zeA G) := by
  refine Met.ofW (cc := zeCod j) (maxL := zeNl j) (ret := zeRt j) hok.1 rfl ?_
  intro p e s m args below meth c s₁ B hml hv
  obtain ⟨rfl, hP, hK, hO, hZ⟩ := hv
  have hts : ∀ w ∈ zeWs j, w.before _ s = true := atoms_spec (ws := zeWs j) B.pre
  have hcx : zeCx G j p s m (as.map (zeTr G)).toArray meth c := ⟨B.exec, B.bytes, hml, findClass_of_methodNamed B.named, fun w hw => hts w (List.mem_cons_of_mem _ hw), hK, hO, hZ, (name_of_methodNamed B.named B.method).1, fun q hq => by show zeN0 G ≤ q; have := hP.2; omega, hG⟩
  have hl := lv_entry (as.map (zeTr G)) (n := zeNl j) (by rw [zeSl_len G hG as hcat]; exact hlen)
  rw [lg_entry_eq]
  generalize (lg_sl (as.map (zeTr G)) ++ List.replicate (zeNl j - (lg_sl (as.map (zeTr G))).length) Slot.unset).toArray = ls at hl ⊢
  have hL : zeLH G ls (zeNl j) (zeEnt (zeNl j) as) := by
    show lv_has ls (zeNl j) (zeLl G 0 (as.map some ++ _))
    rw [zeEnt_ll G as 0 _ hcat hG]
    exact hl
  have hN : zeNL j (zeEnt (zeNl j) as) := fun _ k w hw => hcat w (zeGet_ent as _ k w hw)
  have key := hgo p l e (headSpec (zeWs j) (zeRoom j μ μ1)).room s m (as.map (zeTr G)).toArray below meth c (MQ below (zeQc G v μ1) (as.map (zeTr G)).toArray s (zeN μ1 - zeN μ) (zeSl μ1 - zeSl μ) (zeA G)) (zeN μ) (zeSl μ) hcx (Nat.le_refl _) (Nat.le_refl _) (Nat.le_refl _) (Nat.le_refl _) ?_ (Nat.le_refl _) (Nat.le_refl _) s.heap [] ls hP va_S.rf hL hN
  · rw [Nat.sub_self, Nat.sub_self] at key
    exact key
  · intro H locs ls' pcr hrk hdec hP1 hS1
    have hlocks := B.notSynchronized
    have hr := B.returns
    have hq : ∀ t : State, t.heap = H → zePic G μ1 t.heap ∧ va_F (zeA G) s t := fun t ht => ⟨by rw [ht]; exact hP1, hS1.F ht⟩
    unfold zeRok at hrk
    rcases hok.2 with ⟨h1, h2⟩ | ⟨h1, h2⟩ | ⟨h1, h2⟩ | ⟨h1, h2⟩
    · rw [h1] at hrk hr
      rw [h2] at hdec
      subst hrk
      exact W.vret B.exec B.bytes hr (fun t ht _ => ⟨rfl, hq t ht⟩) hS1.2.2 hdec hlocks
    · rw [h1] at hrk hr
      rw [h2] at hdec
      obtain ⟨x, rfl⟩ := hrk
      exact W.iret B.exec B.bytes hr (fun t ht _ => ⟨rfl, hq t ht⟩) hS1.2.2 hdec hlocks
    · rw [h2] at hdec
      rcases h1 with h1 | h1 | h1 <;> rw [h1] at hrk hr <;> obtain ⟨x, rfl, hx⟩ := hrk
      · exact W.zret B.exec B.bytes hr hx (fun t ht _ => ⟨rfl, hq t ht⟩) hS1.2.2 hdec hlocks
      · exact W.zret B.exec B.bytes hr hx (fun t ht _ => ⟨rfl, hq t ht⟩) hS1.2.2 hdec hlocks
      · exact W.zret B.exec B.bytes hr hx (fun t ht _ => ⟨rfl, hq t ht⟩) hS1.2.2 hdec hlocks
    · rw [h2] at hdec
      rcases h1 with ⟨nm, h1⟩ | ⟨t, h1⟩ <;> rw [h1] at hrk hr <;> obtain ⟨a, rfl, ha⟩ := hrk
      · have e1 : ((some (Value.ref a)).map (zeTr G)).toList = [Value.ref (zeAd G a)] := congrArg (fun z => [z]) (zeTr_r G ha)
        rw [e1]
        exact W.aret B.exec B.bytes hr (Or.inl ⟨_, rfl⟩) (Or.inr ⟨_, rfl⟩) (fun t ht _ => ⟨congrArg (fun z => Outcome.returned (some z)) (zeTr_r G ha).symm, hq t ht⟩) hS1.2.2 hdec hlocks
      · have e1 : ((some (Value.ref a)).map (zeTr G)).toList = [Value.ref (zeAd G a)] := congrArg (fun z => [z]) (zeTr_r G ha)
        rw [e1]
        exact W.aret B.exec B.bytes hr (Or.inr ⟨_, rfl⟩) (Or.inr ⟨_, rfl⟩) (fun t ht _ => ⟨congrArg (fun z => Outcome.returned (some z)) (zeTr_r G ha).symm, hq t ht⟩) hS1.2.2 hdec hlocks
end ZE
end
section
/-! CALLS -/
theorem zeWs_good {j : Nat} (h : Cond.code (zeNam j) (zeCod j) (zeNl j) (zeRt j) ∈ zeBT) : GoodIn zeBT (zeWs j) := by
  intro w hw
  have hm : w ∈ zeBT := by
    rcases List.mem_cons.mp hw with rfl | hw
    · exact h
    · exact hw
  exact ⟨hm, good_of_word (zeBT_good w hm)⟩
theorem zeGood {w : Cond} (h : w ∈ zeBT) : w ∈ zeBT ∧ ((w.onTables && w.keeps) = true ∨ ∃ ty, w = .arrayClass ty) := ⟨h, good_of_word (zeBT_good w h)⟩
theorem zeGoods {ws : List Cond} (h : ∀ w ∈ ws, w ∈ zeBT) : GoodIn zeBT ws := fun w hw => zeGood (h w hw)
/-- behind a call of ours -/
theorem zw_call {G : zeG} {v1 : Option Value} {μ1 : zeM} {p : Program} {l : Launch} {e : Env} {R : Room} {s : State} {m : MethodId} {args : Array Value} {below : List Frame} {meth : Method} {c : Code} {H : Heap} {locs : List Loc} {cells slots mc ms : Nat} {Q : State → Prop} {pc : Nat} {ls : Array Slot} {rest st0 : List Value} {a : Array Value}
    (hr : va_Run p l e R s m args below meth c H locs cells slots mc ms (F0 m pc ls st0) rest (zeQc G v1 μ1 a) (zeA G)) (hS : va_S (zeA G) s.heap H locs)
    (kk : ∀ (H1 : Heap) (locs1 : List Loc), zePic G μ1 H1 → va_S (zeA G) s.heap H1 locs1 → W p l e R s m args below meth c H1 locs1 (cells + mc) (slots + ms) Q (F0 m (pc + 3) ls ((v1.map (zeTr G)).toList ++ rest))) : W p l e R s m args below meth c H locs cells slots Q (F0 m pc ls st0) := by
  intro T hT X
  obtain ⟨v, st₀, t, T', L, h0, X', hL, e1, e2, ⟨hv, hP, hz, hk⟩, st⟩ := hr T hT X
  cases hv
  rw [h0] at hz hk
  obtain ⟨t2, a1, b1⟩ := kk T'.heap (locs ++ L) (by rw [e1]; exact hP) ⟨Nat.le_trans hS.1 (by rw [e1]; exact hz), fun q h1 h2 => by rw [e1, hk q (Nat.lt_of_lt_of_le h1 hS.1) h2]; exact hS.2.1 q h1 h2, fun q hq => by
      rcases List.mem_append.mp hq with h | h
      · exact hS.2.2 q h
      · exact hL q h⟩ T' rfl X'
  exact ⟨t2, st t2 a1, b1⟩
theorem zePc_blind {G : zeG} {as : List Value} {μ : zeM} : FrameBlind (zePc G as μ) := by
  intro a U g mk h
  obtain ⟨h1, h2, h3, h4, h5⟩ := h
  exact ⟨h1, h2, va_K.moved (u := U) (U := U.calling g mk a) (Vm.Alike.refl U.vm) h3, zeOldA.to (u := U) (U := U.calling g mk a) (Vm.Alike.refl U.vm) (fun _ _ _ => rfl) h4, by
    obtain ⟨g1, g2, g3, g4, g5, ⟨t, g6, g6'⟩, ⟨t2, g7, g7'⟩, g8, g9, g10, g11, g12, g13, g14, g15⟩ := h5
    have hvm : U.vm.Alike (U.calling g mk a).vm := Vm.Alike.refl U.vm
    exact ⟨g1.moved hvm, g2.moved hvm, g3.moved hvm, g4.moved hvm, g5.moved hvm, ⟨t, g6, g6'.same rfl⟩, ⟨t2, g7, g7'.same rfl⟩, g8.moved hvm, g9.same rfl rfl, g10.same rfl rfl, g11.same rfl rfl, g12.same rfl rfl, g13.same rfl rfl, g14.same rfl rfl, g15.same rfl rfl⟩⟩
theorem zePc_at {G : zeG} {i : Nat} {as : List Value} {μ : zeM} {p : Program} {s : State} {m : MethodId} {args : Array Value} {meth : Method} {c : Code} {H : Heap} {locs : List Loc} (hcx : zeCx G i p s m args meth c) (hP : zePic G μ H) (hS : va_S (zeA G) s.heap H locs) (U : State) (hU : U.heap = H) (hW : s.WarmedH U.vm) : zePc G as μ (as.map (zeTr G)).toArray U :=
  ⟨rfl, by rw [hU]; exact hP, va_K.moved hW.alike hcx.K, by rw [hU]; exact zeOldA.to hW.alike (fun a h1 h2 => hS.2.1 a h1 h2) hcx.old, by rw [hU]; exact zeSta.to hW (fun a h1 h2 => hS.2.1 a h1 h2) hcx.sta⟩
theorem zeAr_st : ∀ (k : Nat) (as st as' st' : List Value), zeAr k as st = some (as', st') → ∃ bs, as' = bs ++ as ∧ st = bs.reverse ++ st' ∧ bs.length = k
  | 0, as, st, as', st', h => by
    cases h
    exact ⟨[], rfl, rfl, rfl⟩
  | k + 1, as, v :: st, as', st', h => by
    obtain ⟨bs, h1, h2, h3⟩ := zeAr_st k (v :: as) st as' st' h
    exact ⟨bs ++ [v], by simp [h1], by simp [h2], by simp [h3]⟩
  | k + 1, as, [], as', st', h => by cases h
/-- what the callee's tables say for a call -/
def zeCw (i f k : Nat) : Prop := zeMok f ∧ Cond.code (zeNam f) (zeCod f) (zeNl f) (zeRt f) ∈ zeBT ∧ Cond.initialized (zeNam f).cls ∈ zeBT ∧ ((zeNam f).cls ≠ "java/lang/invoke/MethodHandle" ∧ (zeNam f).cls ≠ "java/lang/invoke/VarHandle" ∧ (parseMethodDescriptor (zeNam f).desc).map (fun d => d.parameters.length) = some k) ∧ zeDp f + 1 ≤ zeDp i ∧ 8 + (zeNl f + 11) + zeLc f ≤ zeLc i
section ZC
variable {G : zeG} {i pc n f k : Nat}
/-- a call: what the kit's row of its kind gives -/
theorem zs_callS (hlen : k ≤ zeNl f) (hok : zeMok f) (hrun : ∀ (p : Program) (l : Launch) (e : Env) (R : Room) (s : State) (m : MethodId) (args : Array Value) (below : List Frame) (meth : Method) (c : Code) (H : Heap) (locs : List Loc) (ls : Array Slot) (cells slots mc ms : Nat) (as : List Value) (μ : zeM) (rest : List Value) (v1 : Option Value) (μ1 : zeM),
      zeCx G i p s m args meth c → zeDp i ≤ R.frames → zeLc i ≤ R.locals → ls.size = zeNl i → as.length = k → Met l (zeNam f) (zeWs f) (zeRoom f μ μ1) (zePc G as μ) (zeQc G v1 μ1) (zeN μ1 - zeN μ) (zeSl μ1 - zeSl μ) (zeA G) → zePic G μ H → va_S (zeA G) s.heap H locs → (rest.map fun v => v.category).sum ≤ 8 → cells + (zeN μ1 - zeN μ) ≤ R.cells ∧ slots + (zeSl μ1 - zeSl μ) ≤ R.slots →
      va_Run p l e R s m args below meth c H locs cells slots (zeN μ1 - zeN μ) (zeSl μ1 - zeSl μ) (F0 m pc ls ((as.map (zeTr G)).reverse ++ rest)) rest (zeQc G v1 μ1 (as.map (zeTr G)).toArray) (zeA G)) : zeSnd G i pc (zoCs f k (pc + 3)) := by
  intro L st μ
  refine ⟨fun pc' L' st' μ' h => ?_, fun v μ' h => ?_, fun j as pc' L' st' μ' h => ?_⟩
  · unfold zoCs at h
    split at h
    · rename_i as st9 hz
      cases hb : (Nat.ble st9.length 4 && as.all zeCat1) <;> rw [hb] at h <;> cases h
    · cases h
  · unfold zoCs at h
    split at h
    · rename_i as st9 hz
      cases hb : (Nat.ble st9.length 4 && as.all zeCat1) <;> rw [hb] at h <;> cases h
    · cases h
  · unfold zoCs at h
    split at h
    · rename_i as9 st9 hz
      cases hb : (Nat.ble st9.length 4 && as9.all zeCat1) <;> rw [hb] at h
      · cases h
      · cases h
        rw [Bool.and_eq_true, List.all_eq_true] at hb
        have hst := Nat.le_of_ble_eq_true hb.1
        obtain ⟨bs, h1, h2, h3⟩ := zeAr_st k [] st _ _ hz
        rw [List.append_nil] at h1
        subst h1
        subst h2
        refine ⟨rfl, fun v1 μ1 v μ'' hm1 hm2 hw hgo1 hgo2 => ?_⟩
        intro p l e R s m args below meth c Q n0 s0 hcx hd hl hn0 hs0 hret hc hs H locs ls hP hS hL hN
        have hM := zeMet l hcx.gv hok hb.2 (by omega) hgo1
        have e1 : zeN μ1 - n0 = (zeN μ - n0) + (zeN μ1 - zeN μ) := by have := hm1.2.1; omega
        have e2 : zeSl μ1 - s0 = (zeSl μ - s0) + (zeSl μ1 - zeSl μ) := by have := hm1.2.2; omega
        have hcat := zeCats hcx.gv st'
        have hr := hrun p l e R s m args below meth c H locs ls (zeN μ - n0) (zeSl μ - s0) (zeN μ1 - zeN μ) (zeSl μ1 - zeSl μ) as μ (st'.map (zeTr G)) v1 μ1 hcx hd hl hL.1 h3 hM hP hS (by omega) ⟨by rw [← e1]; have := hm2.2.1; omega, by rw [← e2]; have := hm2.2.2; omega⟩
        rw [List.map_append, List.map_reverse]
        refine zw_call hr hS fun H1 locs1 hP1 hS1 => ?_
        have K := hgo2 p l e R s m args below meth c Q n0 s0 hcx hd hl (Nat.le_trans hn0 hm1.2.1) (Nat.le_trans hs0 hm1.2.2) hret hc hs H1 locs1 ls hP1 hS1 hL hN
        rw [e1, e2, List.map_append] at K
        have e3 : (v1.map (zeTr G)).toList = v1.toList.map (zeTr G) := by cases v1 <;> rfl
        rw [e3]
        exact K
    · cases h
theorem zs_callV {kd : Nat} (hlen : k + 1 ≤ zeNl f) (hok : zeMok f) (hrun : ∀ (p : Program) (l : Launch) (e : Env) (R : Room) (s : State) (m : MethodId) (args : Array Value) (below : List Frame) (meth : Method) (c : Code) (H : Heap) (locs : List Loc) (ls : Array Slot) (cells slots mc ms : Nat) (b : Nat) (as : List Value) (μ : zeM) (rest : List Value) (v1 : Option Value) (μ1 : zeM),
      zeCx G i p s m args meth c → zeDp i ≤ R.frames → zeLc i ≤ R.locals → ls.size = zeNl i → zeWf G μ → zeKd μ b = kd → as.length = k → Met l (zeNam f) (zeWs f) (zeRoom f μ μ1) (zePc G (.ref b :: as) μ) (zeQc G v1 μ1) (zeN μ1 - zeN μ) (zeSl μ1 - zeSl μ) (zeA G) → zePic G μ H → va_S (zeA G) s.heap H locs → (rest.map fun v => v.category).sum ≤ 8 → cells + (zeN μ1 - zeN μ) ≤ R.cells ∧ slots + (zeSl μ1 - zeSl μ) ≤ R.slots →
      va_Run p l e R s m args below meth c H locs cells slots (zeN μ1 - zeN μ) (zeSl μ1 - zeSl μ) (F0 m pc ls ((as.map (zeTr G)).reverse ++ zeTr G (.ref b) :: rest)) rest (zeQc G v1 μ1 (zeTr G (.ref b) :: as.map (zeTr G)).toArray) (zeA G)) : zeSnd G i pc (zoCv kd f k (pc + 3)) := by
  intro L st μ
  refine ⟨fun pc' L' st' μ' h => ?_, fun v μ' h => ?_, fun j as pc' L' st' μ' h => ?_⟩
  · unfold zoCv at h
    split at h
    · rename_i as b st9 hz
      cases hb : (Nat.beq (zeKd μ b) kd && (Nat.ble st9.length 4 && as.all zeCat1)) <;> rw [hb] at h <;> cases h
    · cases h
  · unfold zoCv at h
    split at h
    · rename_i as b st9 hz
      cases hb : (Nat.beq (zeKd μ b) kd && (Nat.ble st9.length 4 && as.all zeCat1)) <;> rw [hb] at h <;> cases h
    · cases h
  · unfold zoCv at h
    split at h
    · rename_i as9 b st9 hz
      cases hb : (Nat.beq (zeKd μ b) kd && (Nat.ble st9.length 4 && as9.all zeCat1)) <;> rw [hb] at h
      · cases h
      · cases h
        rw [Bool.and_eq_true, Bool.and_eq_true, List.all_eq_true] at hb
        have hkb := Nat.eq_of_beq_eq_true hb.1
        have hst := Nat.le_of_ble_eq_true hb.2.1
        obtain ⟨bs, h1, h2, h3⟩ := zeAr_st k [] st _ _ hz
        rw [List.append_nil] at h1
        subst h1
        subst h2
        refine ⟨rfl, fun v1 μ1 v μ'' hm1 hm2 hw hgo1 hgo2 => ?_⟩
        intro p l e R s m args below meth c Q n0 s0 hcx hd hl hn0 hs0 hret hc hs H locs ls hP hS hL hN
        have hcats : ∀ v ∈ Value.ref b :: as9, zeCat1 v = true := fun v hv => by
          rcases List.mem_cons.mp hv with rfl | hv
          · rfl
          · exact hb.2.2 v hv
        have hM := zeMet l hcx.gv hok hcats (by simp; omega) hgo1
        have e1 : zeN μ1 - n0 = (zeN μ - n0) + (zeN μ1 - zeN μ) := by have := hm1.2.1; omega
        have e2 : zeSl μ1 - s0 = (zeSl μ - s0) + (zeSl μ1 - zeSl μ) := by have := hm1.2.2; omega
        have hcat := zeCats hcx.gv st'
        have hr := hrun p l e R s m args below meth c H locs ls (zeN μ - n0) (zeSl μ - s0) (zeN μ1 - zeN μ) (zeSl μ1 - zeSl μ) b as9 μ (st'.map (zeTr G)) v1 μ1 hcx hd hl hL.1 hw hkb h3 hM hP hS (by omega) ⟨by rw [← e1]; have := hm2.2.1; omega, by rw [← e2]; have := hm2.2.2; omega⟩
        rw [List.map_append, List.map_reverse, List.map_cons]
        refine zw_call hr hS fun H1 locs1 hP1 hS1 => ?_
        have K := hgo2 p l e R s m args below meth c Q n0 s0 hcx hd hl (Nat.le_trans hn0 hm1.2.1) (Nat.le_trans hs0 hm1.2.2) hret hc hs H1 locs1 ls hP1 hS1 hL hN
        rw [e1, e2, List.map_append] at K
        have e3 : (v1.map (zeTr G)).toList = v1.toList.map (zeTr G) := by cases v1 <;> rfl
        rw [e3]
        exact K
    · cases h
end ZC
end
section
/-! CALLS, KIND BY KIND; the run -/
section ZK
variable {G : zeG} {i pc n f k : Nat}
theorem zeFix {p : Program} {s : State} {m : MethodId} {args : Array Value} {meth : Method} {c : Code} {own : String} (ho : (zeNam i).cls = own) (hcx : zeCx G i p s m args meth c) : CallFix p m c (zeCod i) (zeNl i) s args zeBT own := ⟨hcx.1, hcx.2.1, hcx.ml, ho ▸ hcx.own, hcx.ws⟩
theorem zeRecv {s : State} {H : Heap} {μ : zeM} {b ci N : Nat} {C : String} {T : u_T} (hw : zeWf G μ) (hK : va_K (zeD G) zeCl (zeTY G) s) (hP : zePic G μ H) (hc : zeCl[ci]? = some (C, T, N)) (hk : zeKd μ b = ci + 1) : zeTr G (.ref b) = .ref (zeAd G b) ∧ ∃ cell : Cell, H[zeAd G b]? = some cell ∧ cell.vm.isStatics = false ∧ s.vm.findClass C = some cell.cls := by
  have hlt := zeCl_lt hc
  obtain ⟨h1, h2⟩ := hw.new (a := b) (by omega) (by omega)
  have he := zeW_get (G := G) h1 h2
  rw [zeCell_obj G hk hlt] at he
  exact ⟨zeTr_r G h1, va_recv hK hP.1 hc he⟩
/-- a static method -/
theorem zs_cs {own : String} {index : Nat} (ho : (zeNam i).cls = own) (hcw : zeCw i f k) (hlen : k ≤ zeNl f) (hlink : Cond.methodLink own index (zeNam f) ∈ zeBT) (hst : Cond.static (zeNam f) ∈ zeBT) (hd : decode (zeCod i) pc = .ok (.invokestatic index, 3)) (hn : pc + 3 = n) : zeSnd G i pc (zoCs f k n) := by
  subst hn
  obtain ⟨hok, hcode, hini, hy, hdp, hlc⟩ := hcw
  refine zs_callS hlen hok fun p l e R s m args below meth c H locs ls cells slots mc ms as μ rest v1 μ1 hcx hD hL hsz hk hM hP hS hrest hroom => ?_
  refine va_runS (zeFix ho hcx) hM (va_cwS k hcx.ws (zeGoods fun w hw => ?_) rfl rfl rfl hy ⟨Nat.le_trans hdp hD, Nat.le_trans hlc hL⟩) ⟨zePc_blind, zePc_at hcx hP hS⟩ rfl (by simp [hk]) hsz rfl (by show 2 * 0 + _ ≤ 8; omega) hd hroom
  simp only [va_wsS, List.cons_append, List.nil_append, List.mem_cons] at hw
  rcases hw with rfl | rfl | rfl | hw
  · exact hlink
  · exact hst
  · exact hini
  · exact (zeWs_good hcode w hw).1
/-- a private static method of a nest mate -/
theorem zs_csN {own host : String} {index : Nat} (ho : (zeNam i).cls = own) (hcw : zeCw i f k) (hlen : k ≤ zeNl f) (hlink : ∀ s : State, zeSta G s s.heap → va_Nw (.methodLinkNest own index (zeNam f) host) s) (hst : Cond.static (zeNam f) ∈ zeBT) (hd : decode (zeCod i) pc = .ok (.invokestatic index, 3)) (hn : pc + 3 = n) : zeSnd G i pc (zoCs f k n) := by
  subst hn
  obtain ⟨hok, hcode, hini, hy, hdp, hlc⟩ := hcw
  refine zs_callS hlen hok fun p l e R s m args below meth c H locs ls cells slots mc ms as μ rest v1 μ1 hcx hD hL hsz hk hM hP hS hrest hroom => ?_
  exact va_runSN (zeFix ho hcx) hM ⟨va_cnB k hcx.ws (zeWs_good hcode) rfl rfl rfl (hlink s hcx.sta) (hcx.ws _ hini) hy ⟨Nat.le_trans hdp hD, Nat.le_trans hlc hL⟩, hcx.ws _ hst, trivial⟩ ⟨zePc_blind, zePc_at hcx hP hS⟩ rfl (by simp [hk]) hsz rfl (by show 2 * 0 + _ ≤ 8; omega) hd hroom
/-- an object's method, of its own class -/
theorem zs_cv {own C : String} {T : u_T} {N ci index : Nat} (ho : (zeNam i).cls = own) (hc : zeCl[ci]? = some (C, T, N)) (hC : (zeNam f).cls = C) (hcw : zeCw i f k) (hlen : k + 1 ≤ zeNl f) (hlink : Cond.methodLink own index (zeNam f) ∈ zeBT) (hin : Cond.instanceMethod (zeNam f) ∈ zeBT) (hsel : Cond.selects C (zeNam f) (zeNam f) ∈ zeBT) (hd : decode (zeCod i) pc = .ok (.invokevirtual index, 3)) (hn : pc + 3 = n) : zeSnd G i pc (zoCv (ci + 1) f k n) := by
  subst hn
  obtain ⟨hok, hcode, hini, hy, hdp, hlc⟩ := hcw
  refine zs_callV hlen hok fun p l e R s m args below meth c H locs ls cells slots mc ms b as μ rest v1 μ1 hcx hD hL hsz hw hkb hk hM hP hS hrest hroom => ?_
  obtain ⟨e1, hrec⟩ := zeRecv hw hcx.K hP hc hkb
  have hat := zePc_at (as := .ref b :: as) (μ := μ) hcx hP hS
  rw [List.map_cons] at hat
  rw [e1] at hat ⊢
  refine va_runV (zeFix ho hcx) hM (cwV k hcx.ws (zeGoods fun w hw => ?_) rfl rfl rfl ⟨hC, hy⟩ ⟨Nat.le_trans hdp hD, Nat.le_trans hlc hL⟩) ⟨zePc_blind, hrec, hat⟩ rfl (by simp [hk]) hsz rfl (by show 2 * 0 + _ ≤ 8; omega) hd hroom
  simp only [wsV, List.cons_append, List.nil_append, List.mem_cons] at hw
  rcases hw with rfl | rfl | rfl | rfl | hw
  · exact hlink
  · exact hin
  · exact hsel
  · exact hC ▸ hini
  · exact (zeWs_good hcode w hw).1
/-- a method of a text constant -/
theorem zs_cvO {own : String} {index : Nat} (ho : (zeNam i).cls = own) (hC : (zeNam f).cls = "java/lang/String") (hcw : zeCw i f k) (hlen : k + 1 ≤ zeNl f) (hlink : Cond.methodLink own index (zeNam f) ∈ zeBT) (hin : Cond.instanceMethod (zeNam f) ∈ zeBT) (hsel : Cond.selects "java/lang/String" (zeNam f) (zeNam f) ∈ zeBT) (hd : decode (zeCod i) pc = .ok (.invokevirtual index, 3)) (hn : pc + 3 = n) : zeSnd G i pc (zoCv 110 f k n) := by
  subst hn
  obtain ⟨hok, hcode, hini, hy, hdp, hlc⟩ := hcw
  refine zs_callV hlen hok fun p l e R s m args below meth c H locs ls cells slots mc ms b as μ rest v1 μ1 hcx hD hL hsz hw hkb hk hM hP hS hrest hroom => ?_
  have b1 : b < 16 := by
    rcases (hw.2.2.1 b (by omega)).2 with h | h <;> omega
  have hk110 := (hw.1 b b1).1
  obtain ⟨t, r, e0, -, -, ⟨cell, q1, q2, q3, q4⟩, -⟩ := (hcx.old b b1).2.2.1 (by omega)
  have e1 : zeTr G (.ref b) = .ref t := (zeTr_o G b1).trans e0
  have hat := zePc_at (as := .ref b :: as) (μ := μ) hcx hP hS
  rw [List.map_cons] at hat
  rw [e1] at hat ⊢
  refine va_runV (zeFix ho hcx) hM (cwV k hcx.ws (zeGoods fun w hw => ?_) rfl rfl rfl ⟨hC, hy⟩ ⟨Nat.le_trans hdp hD, Nat.le_trans hlc hL⟩) ⟨zePc_blind, ⟨cell, by rw [hS.2.1 t (Array.getElem?_eq_some_iff.mp q1).1 q4]; exact q1, q2, q3⟩, hat⟩ rfl (by simp [hk]) hsz rfl (by show 2 * 0 + _ ≤ 8; omega) hd hroom
  simp only [wsV, List.cons_append, List.nil_append, List.mem_cons] at hw
  rcases hw with rfl | rfl | rfl | rfl | hw
  · exact hlink
  · exact hin
  · exact hsel
  · exact hC ▸ hini
  · exact (zeWs_good hcode w hw).1
/-- an inherited method -/
theorem zs_cu {own C : String} {T : u_T} {N ci index : Nat} (ho : (zeNam i).cls = own) (hc : zeCl[ci]? = some (C, T, N)) (hcw : zeCw i f k) (hlen : k + 1 ≤ zeNl f) (hlink : Cond.methodLink own index (zeNam f) ∈ zeBT) (hsame : Cond.sameMethod (zeNam f).cls (zeNam f).cls (zeNam f).name (zeNam f).desc ∈ zeBT) (hin : Cond.instanceMethod (zeNam f) ∈ zeBT) (hsel : Cond.selects C (zeNam f) (zeNam f) ∈ zeBT) (hd : decode (zeCod i) pc = .ok (.invokevirtual index, 3)) (hn : pc + 3 = n) : zeSnd G i pc (zoCv (ci + 1) f k n) := by
  subst hn
  obtain ⟨hok, hcode, hini, hy, hdp, hlc⟩ := hcw
  refine zs_callV hlen hok fun p l e R s m args below meth c H locs ls cells slots mc ms b as μ rest v1 μ1 hcx hD hL hsz hw hkb hk hM hP hS hrest hroom => ?_
  obtain ⟨e1, hrec⟩ := zeRecv hw hcx.K hP hc hkb
  have hat := zePc_at (as := .ref b :: as) (μ := μ) hcx hP hS
  rw [List.map_cons] at hat
  rw [e1] at hat ⊢
  refine va_runU (zeFix ho hcx) hM (va_cwU (owner := (zeNam f).cls) (x := zeNam f) k hcx.ws (zeGoods fun w hw => ?_) rfl rfl rfl rfl hy ⟨Nat.le_trans hdp hD, Nat.le_trans hlc hL⟩) ⟨zePc_blind, hrec, hat⟩ rfl (by simp [hk]) hsz rfl (by show 2 * 0 + _ ≤ 8; omega) hd hroom
  simp only [va_wsU, List.cons_append, List.nil_append, List.mem_cons] at hw
  rcases hw with rfl | rfl | rfl | rfl | rfl | hw
  · exact hlink
  · exact hsame
  · exact hsel
  · exact hin
  · exact hini
  · exact (zeWs_good hcode w hw).1
/-- super.m(..) -/
theorem zs_csu {own C : String} {T : u_T} {N ci index : Nat} (ho : (zeNam i).cls = own) (hc : zeCl[ci]? = some (C, T, N)) (hcw : zeCw i f k) (hlen : k + 1 ≤ zeNl f) (hno : (zeNam f).name ≠ "<init>") (hlink : Cond.methodLink own index (zeNam f) ∈ zeBT) (hsame : Cond.sameMethod (zeNam f).cls (zeNam f).cls (zeNam f).name (zeNam f).desc ∈ zeBT) (hsup : Cond.superclass own (zeNam f).cls ∈ zeBT) (hin : Cond.instanceMethod (zeNam f) ∈ zeBT) (hd : decode (zeCod i) pc = .ok (.invokespecial index, 3)) (hn : pc + 3 = n) : zeSnd G i pc (zoCv (ci + 1) f k n) := by
  subst hn
  obtain ⟨hok, hcode, hini, hy, hdp, hlc⟩ := hcw
  refine zs_callV hlen hok fun p l e R s m args below meth c H locs ls cells slots mc ms b as μ rest v1 μ1 hcx hD hL hsz hw hkb hk hM hP hS hrest hroom => ?_
  obtain ⟨e1, hrec⟩ := zeRecv hw hcx.K hP hc hkb
  have hat := zePc_at (as := .ref b :: as) (μ := μ) hcx hP hS
  rw [List.map_cons] at hat
  rw [e1] at hat ⊢
  refine va_runSU (hcx.K.1 ci _ hc).2 (zeFix ho hcx) hM (va_cwSU k hcx.ws (zeGoods fun w hw => ?_) rfl rfl rfl ⟨hno, hy.2.2⟩ ⟨Nat.le_trans hdp hD, Nat.le_trans hlc hL⟩) ⟨zePc_blind, hrec, hat⟩ rfl (by simp [hk]) hsz rfl (by show 2 * 0 + _ ≤ 8; omega) hd hroom
  simp only [va_wsSU, List.cons_append, List.nil_append, List.mem_cons] at hw
  rcases hw with rfl | rfl | rfl | rfl | rfl | hw
  · exact hlink
  · exact hsame
  · exact hsup
  · exact hin
  · exact hini
  · exact (zeWs_good hcode w hw).1
/-- a constructor -/
theorem zs_ci {own C : String} {T : u_T} {N ci index : Nat} (ho : (zeNam i).cls = own) (hc : zeCl[ci]? = some (C, T, N)) (hcw : zeCw i f k) (hlen : k + 1 ≤ zeNl f) (hnm : (zeNam f).name = "<init>") (hrt : zeRt f = none) (hlink : Cond.methodLink own index (zeNam f) ∈ zeBT) (hin : Cond.instanceMethod (zeNam f) ∈ zeBT) (hd : decode (zeCod i) pc = .ok (.invokespecial index, 3)) (hn : pc + 3 = n) : zeSnd G i pc (zoCv (ci + 1) f k n) := by
  subst hn
  obtain ⟨hok, hcode, hini, hy, hdp, hlc⟩ := hcw
  refine zs_callV hlen hok fun p l e R s m args below meth c H locs ls cells slots mc ms b as μ rest v1 μ1 hcx hD hL hsz hw hkb hk hM hP hS hrest hroom => ?_
  obtain ⟨e1, hrec⟩ := zeRecv hw hcx.K hP hc hkb
  have hat := zePc_at (as := .ref b :: as) (μ := μ) hcx hP hS
  rw [List.map_cons] at hat
  rw [e1] at hat ⊢
  have hws : zeWs f = Cond.code (zeNam f) (zeCod f) (zeNl f) none :: zeBT := by unfold zeWs; rw [hrt]
  exact va_runI (zeFix ho hcx) hM (cwI k hcx.ws (zeWs_good hcode) hws rfl rfl (hcx.ws _ hini) (hcx.ws _ hlink) (hcx.ws _ hin) hnm hy ⟨Nat.le_trans hdp hD, Nat.le_trans hlc hL⟩) ⟨zePc_blind, hat⟩ rfl (by simp [hk]) hsz rfl (by show 2 * 0 + _ ≤ 8; omega) hd hroom
/-- a private constructor of a nest mate -/
theorem zs_ciN {own host C : String} {T : u_T} {N ci index : Nat} (ho : (zeNam i).cls = own) (hc : zeCl[ci]? = some (C, T, N)) (hcw : zeCw i f k) (hlen : k + 1 ≤ zeNl f) (hnm : (zeNam f).name = "<init>") (hrt : zeRt f = none) (hlink : ∀ s : State, zeSta G s s.heap → va_Nw (.methodLinkNest own index (zeNam f) host) s) (hin : Cond.instanceMethod (zeNam f) ∈ zeBT) (hd : decode (zeCod i) pc = .ok (.invokespecial index, 3)) (hn : pc + 3 = n) : zeSnd G i pc (zoCv (ci + 1) f k n) := by
  subst hn
  obtain ⟨hok, hcode, hini, hy, hdp, hlc⟩ := hcw
  refine zs_callV hlen hok fun p l e R s m args below meth c H locs ls cells slots mc ms b as μ rest v1 μ1 hcx hD hL hsz hw hkb hk hM hP hS hrest hroom => ?_
  obtain ⟨e1, hrec⟩ := zeRecv hw hcx.K hP hc hkb
  have hat := zePc_at (as := .ref b :: as) (μ := μ) hcx hP hS
  rw [List.map_cons] at hat
  rw [e1] at hat ⊢
  have hws : zeWs f = Cond.code (zeNam f) (zeCod f) (zeNl f) none :: zeBT := by unfold zeWs; rw [hrt]
  exact va_runIN (zeFix ho hcx) hM ⟨va_cnB k hcx.ws (zeWs_good hcode) hws rfl rfl (hlink s hcx.sta) (hcx.ws _ hini) hy ⟨Nat.le_trans hdp hD, Nat.le_trans hlc hL⟩, hnm, hcx.ws _ hin⟩ ⟨zePc_blind, hat⟩ rfl (by simp [hk]) hsz rfl (by show 2 * 0 + _ ≤ 8; omega) hd hroom
end ZK
theorem zeNd_ok {P : Nat → zeOp → Prop} {k : Nat} {a b : Nat → Option zeOp} (ha : ∀ x op, a x = some op → P x op) (hb : ∀ x op, b x = some op → P x op) : ∀ x op, zeNd k a b x = some op → P x op := by
  intro x op h
  unfold zeNd at h
  cases hk : Nat.ble k x <;> rw [hk] at h
  · exact ha x op h
  · exact hb x op h
theorem zeLf_ok {P : Nat → zeOp → Prop} {k : Nat} {o : zeOp} (h : P k o) : ∀ x op, zeLf k (some o) none x = some op → P x op := by
  intro x op h1
  unfold zeLf at h1
  cases hk : Nat.beq x k <;> rw [hk] at h1
  · cases h1
  · have := Nat.eq_of_beq_eq_true hk
    subst this
    cases h1
    exact h
theorem zeCw_of {i f k : Nat} (h : zeMok f ∧ Cond.code (zeNam f) (zeCod f) (zeNl f) (zeRt f) ∈ zeBT ∧ Cond.initialized (zeNam f).cls ∈ zeBT ∧ ((zeNam f).cls ≠ "java/lang/invoke/MethodHandle" ∧ (zeNam f).cls ≠ "java/lang/invoke/VarHandle" ∧ (parseMethodDescriptor (zeNam f).desc).map (fun d => d.parameters.length) = some k)) (h2 : (Nat.ble (zeDp f + 1) (zeDp i) && Nat.ble (8 + (zeNl f + 11) + zeLc f) (zeLc i)) = true) : zeCw i f k := by
  rw [Bool.and_eq_true] at h2
  exact ⟨h.1, h.2.1, h.2.2.1, h.2.2.2, Nat.le_of_ble_eq_true h2.1, Nat.le_of_ble_eq_true h2.2⟩
end
section
/-! the ops by the names of their instructions -/
abbrev zfiadd : Int32 → Int32 → Int32 := fun x y => x + y
abbrev zfisub : Int32 → Int32 → Int32 := fun x y => x - y
abbrev zfimul : Int32 → Int32 → Int32 := fun x y => x * y
abbrev zfiand : Int32 → Int32 → Int32 := fun x y => x &&& y
abbrev zfior : Int32 → Int32 → Int32 := fun x y => x ||| y
abbrev zfixor : Int32 → Int32 → Int32 := fun x y => x ^^^ y
abbrev zfishl : Int32 → Int32 → Int32 := fun x y => x <<< (y &&& 31)
abbrev zfishr : Int32 → Int32 → Int32 := fun x y => x >>> (y &&& 31)
abbrev zfiushr : Int32 → Int32 → Int32 := fun x y => (x.toUInt32 >>> (y.toUInt32 &&& Int32.toUInt32 31)).toInt32
abbrev zfidiv : Int32 → Int32 → Int32 := fun x y => x / y
abbrev zfirem : Int32 → Int32 → Int32 := fun x y => x - x / y * y
abbrev zfineg : Int32 → Int32 := fun x => -x
abbrev zfi2c : Int32 → Int32 := fun x => (x.toUInt32 % 65536).toInt32
abbrev zfi2b : Int32 → Int32 := fun x => x.toInt8.toInt32
abbrev zfland : Int64 → Int64 → Int64 := fun x y => x &&& y
abbrev zflor : Int64 → Int64 → Int64 := fun x y => x ||| y
abbrev zflshl : Int64 → Int32 → Int64 := fun x y => x <<< (y.toInt64 &&& 63)
abbrev zflshr : Int64 → Int32 → Int64 := fun x y => x >>> (y.toInt64 &&& 63)
section ZI
variable {G : zeG} {i pc n : Nat}
theorem zs_iconst {c : Int} {v : Int32} (hd : decode (zeCod i) pc = .ok (.iconst c, 1)) (hv : Int32.ofInt c = v) (hn : pc + 1 = n) : zeSnd G i pc (zoIc v n) := by
  subst hn
  exact zs_Ic fun μ rest p l e R s m args below meth c Q H locs ls cells slots hcx _ _ _ _ _ _ _ K => lv_iconst hcx.1 hcx.2.1 hd hv K
theorem zs_bipush {c : Int} {v : Int32} (hd : decode (zeCod i) pc = .ok (.bipush c, 2)) (hv : (Int8.ofInt c).toInt32 = v) (hn : pc + 2 = n) : zeSnd G i pc (zoIc v n) := by
  subst hn
  exact zs_Ic fun μ rest p l e R s m args below meth c Q H locs ls cells slots hcx _ _ _ _ _ _ _ K => lv_bipush hcx.1 hcx.2.1 hd hv K
theorem zs_sipush {c : Int} {v : Int32} (hd : decode (zeCod i) pc = .ok (.sipush c, 3)) (hv : (Int16.ofInt c).toInt32 = v) (hn : pc + 3 = n) : zeSnd G i pc (zoIc v n) := by
  subst hn
  exact zs_Ic fun μ rest p l e R s m args below meth c Q H locs ls cells slots hcx _ _ _ _ _ _ _ K => lv_sipush hcx.1 hcx.2.1 hd hv K
theorem zs_lconst {c : Fin 2} {v : Int64} (hd : decode (zeCod i) pc = .ok (.lconst c, 1)) (hv : Int64.ofNat (c : Nat) = v) (hn : pc + 1 = n) : zeSnd G i pc (zoLc v n) := by
  subst hn
  exact zs_Lc fun μ rest p l e R s m args below meth c Q H locs ls cells slots hcx _ _ _ _ _ _ _ K => lv_lconst hcx.1 hcx.2.1 hd hv K
theorem zs_ldc {own : String} {index : Nat} {v : Int32} (ho : (zeNam i).cls = own) (hw : Cond.constant own index v ∈ zeBT) (hd : decode (zeCod i) pc = .ok (.ldc index, 2)) (hn : pc + 2 = n) : zeSnd G i pc (zoIc v n) := by
  subst hn
  exact zs_Ic fun μ rest p l e R s m args below meth c Q H locs ls cells slots hcx _ _ _ _ _ _ _ K => lv_ldc hcx.1 hcx.2.1 (ho ▸ hcx.own) (hcx.ws _ hw) hd K
theorem zs_ldcw {own : String} {index : Nat} {v : Int32} (ho : (zeNam i).cls = own) (hw : Cond.constant own index v ∈ zeBT) (hd : decode (zeCod i) pc = .ok (.ldc_w index, 3)) (hn : pc + 3 = n) : zeSnd G i pc (zoIc v n) := by
  subst hn
  exact zs_Ic fun μ rest p l e R s m args below meth c Q H locs ls cells slots hcx _ _ _ _ _ _ _ K => lv_ldcw hcx.1 hcx.2.1 (ho ▸ hcx.own) (hcx.ws _ hw) hd K
theorem zs_iadd (hd : decode (zeCod i) pc = .ok (.iadd, 1)) (hn : pc + 1 = n) : zeSnd G i pc (zoI2 zfiadd n) := by
  subst hn
  exact zs_I2 fun μ rest x y p l e R s m args below meth c Q H locs ls cells slots hcx _ _ _ _ _ _ _ K => lv_iadd hcx.1 hcx.2.1 hd K
theorem zs_isub (hd : decode (zeCod i) pc = .ok (.isub, 1)) (hn : pc + 1 = n) : zeSnd G i pc (zoI2 zfisub n) := by
  subst hn
  exact zs_I2 fun μ rest x y p l e R s m args below meth c Q H locs ls cells slots hcx _ _ _ _ _ _ _ K => lv_isub hcx.1 hcx.2.1 hd K
theorem zs_imul (hd : decode (zeCod i) pc = .ok (.imul, 1)) (hn : pc + 1 = n) : zeSnd G i pc (zoI2 zfimul n) := by
  subst hn
  exact zs_I2 fun μ rest x y p l e R s m args below meth c Q H locs ls cells slots hcx _ _ _ _ _ _ _ K => lv_imul hcx.1 hcx.2.1 hd K
theorem zs_iand (hd : decode (zeCod i) pc = .ok (.iand, 1)) (hn : pc + 1 = n) : zeSnd G i pc (zoI2 zfiand n) := by
  subst hn
  exact zs_I2 fun μ rest x y p l e R s m args below meth c Q H locs ls cells slots hcx _ _ _ _ _ _ _ K => lv_iand hcx.1 hcx.2.1 hd K
theorem zs_ior (hd : decode (zeCod i) pc = .ok (.ior, 1)) (hn : pc + 1 = n) : zeSnd G i pc (zoI2 zfior n) := by
  subst hn
  exact zs_I2 fun μ rest x y p l e R s m args below meth c Q H locs ls cells slots hcx _ _ _ _ _ _ _ K => lv_ior hcx.1 hcx.2.1 hd K
theorem zs_ixor (hd : decode (zeCod i) pc = .ok (.ixor, 1)) (hn : pc + 1 = n) : zeSnd G i pc (zoI2 zfixor n) := by
  subst hn
  exact zs_I2 fun μ rest x y p l e R s m args below meth c Q H locs ls cells slots hcx _ _ _ _ _ _ _ K => lv_ixor hcx.1 hcx.2.1 hd K
theorem zs_ishl (hd : decode (zeCod i) pc = .ok (.ishl, 1)) (hn : pc + 1 = n) : zeSnd G i pc (zoI2 zfishl n) := by
  subst hn
  exact zs_I2 fun μ rest x y p l e R s m args below meth c Q H locs ls cells slots hcx _ _ _ _ _ _ _ K => lv_ishl hcx.1 hcx.2.1 hd K
theorem zs_ishr (hd : decode (zeCod i) pc = .ok (.ishr, 1)) (hn : pc + 1 = n) : zeSnd G i pc (zoI2 zfishr n) := by
  subst hn
  exact zs_I2 fun μ rest x y p l e R s m args below meth c Q H locs ls cells slots hcx _ _ _ _ _ _ _ K => lv_ishr hcx.1 hcx.2.1 hd K
theorem zs_iushr (hd : decode (zeCod i) pc = .ok (.iushr, 1)) (hn : pc + 1 = n) : zeSnd G i pc (zoI2 zfiushr n) := by
  subst hn
  exact zs_I2 fun μ rest x y p l e R s m args below meth c Q H locs ls cells slots hcx _ _ _ _ _ _ _ K => lv_iushr hcx.1 hcx.2.1 hd rfl K
theorem zs_idiv (hd : decode (zeCod i) pc = .ok (.idiv, 1)) (hn : pc + 1 = n) : zeSnd G i pc (zoD2 zfidiv n) := by
  subst hn
  exact zs_D2 fun μ rest x y hy p l e R s m args below meth c Q H locs ls cells slots hcx _ _ _ _ _ _ _ K => lv_idiv hcx.1 hcx.2.1 hd hy K
theorem zs_irem (hd : decode (zeCod i) pc = .ok (.irem, 1)) (hn : pc + 1 = n) : zeSnd G i pc (zoD2 zfirem n) := by
  subst hn
  exact zs_D2 fun μ rest x y hy p l e R s m args below meth c Q H locs ls cells slots hcx _ _ _ _ _ _ _ K => lv_irem hcx.1 hcx.2.1 hd hy K
theorem zs_ineg (hd : decode (zeCod i) pc = .ok (.ineg, 1)) (hn : pc + 1 = n) : zeSnd G i pc (zoI1 zfineg n) := by
  subst hn
  exact zs_I1 fun μ rest x p l e R s m args below meth c Q H locs ls cells slots hcx _ _ _ _ _ _ _ K => lv_ineg hcx.1 hcx.2.1 hd K
theorem zs_i2c (hd : decode (zeCod i) pc = .ok (.i2c, 1)) (hn : pc + 1 = n) : zeSnd G i pc (zoI1 zfi2c n) := by
  subst hn
  exact zs_I1 fun μ rest x p l e R s m args below meth c Q H locs ls cells slots hcx _ _ _ _ _ _ _ K => lv_i2c hcx.1 hcx.2.1 hd rfl K
theorem zs_i2b (hd : decode (zeCod i) pc = .ok (.i2b, 1)) (hn : pc + 1 = n) : zeSnd G i pc (zoI1 zfi2b n) := by
  subst hn
  exact zs_I1 fun μ rest x p l e R s m args below meth c Q H locs ls cells slots hcx _ _ _ _ _ _ _ K => lv_i2b hcx.1 hcx.2.1 hd rfl K
theorem zs_land (hd : decode (zeCod i) pc = .ok (.land, 1)) (hn : pc + 1 = n) : zeSnd G i pc (zoL2 zfland n) := by
  subst hn
  exact zs_L2 fun μ rest x y p l e R s m args below meth c Q H locs ls cells slots hcx _ _ _ _ _ _ _ K => lv_land hcx.1 hcx.2.1 hd K
theorem zs_lor (hd : decode (zeCod i) pc = .ok (.lor, 1)) (hn : pc + 1 = n) : zeSnd G i pc (zoL2 zflor n) := by
  subst hn
  exact zs_L2 fun μ rest x y p l e R s m args below meth c Q H locs ls cells slots hcx _ _ _ _ _ _ _ K => lv_lor hcx.1 hcx.2.1 hd K
theorem zs_lshl (hd : decode (zeCod i) pc = .ok (.lshl, 1)) (hn : pc + 1 = n) : zeSnd G i pc (zoLsh zflshl n) := by
  subst hn
  exact zs_Lsh fun μ rest x y p l e R s m args below meth c Q H locs ls cells slots hcx _ _ _ _ _ _ _ K => lv_lshl hcx.1 hcx.2.1 hd rfl K
theorem zs_lshr (hd : decode (zeCod i) pc = .ok (.lshr, 1)) (hn : pc + 1 = n) : zeSnd G i pc (zoLsh zflshr n) := by
  subst hn
  exact zs_Lsh fun μ rest x y p l e R s m args below meth c Q H locs ls cells slots hcx _ _ _ _ _ _ _ K => lv_lshr hcx.1 hcx.2.1 hd rfl K
theorem zs_na_int (hw : Cond.arrayClass .int ∈ zeBT) (hd : decode (zeCod i) pc = .ok (.newarray .int, 2)) (hn : pc + 2 = n) : zeSnd G i pc (zoNewa 40 n) :=
  zs_newarray (at_ := .int) (t0 := 0) (ty := .int) rfl rfl (fun _ => rfl) hw (fun _ _ _ => ⟨rfl, rfl⟩) (by decide) (fun s cA h => h) (by decide) hd hn
theorem zs_na_long (hw : Cond.arrayClass .long ∈ zeBT) (hd : decode (zeCod i) pc = .ok (.newarray .long, 2)) (hn : pc + 2 = n) : zeSnd G i pc (zoNewa 41 n) :=
  zs_newarray (at_ := .long) (t0 := 1) (ty := .long) rfl rfl (fun _ => rfl) hw (fun _ _ _ => ⟨rfl, rfl⟩) (by decide) (fun s cA h => h) (by decide) hd hn
theorem zs_na_byte (hw : Cond.arrayClass .byte ∈ zeBT) (hd : decode (zeCod i) pc = .ok (.newarray .byte, 2)) (hn : pc + 2 = n) : zeSnd G i pc (zoNewa 42 n) :=
  zs_newarray (at_ := .byte) (t0 := 2) (ty := .byte) rfl rfl (fun _ => rfl) hw (fun _ _ _ => ⟨rfl, rfl⟩) (by decide) (fun s cA h => h) (by decide) hd hn
theorem zs_na_char (hw : Cond.arrayClass .char ∈ zeBT) (hd : decode (zeCod i) pc = .ok (.newarray .char, 2)) (hn : pc + 2 = n) : zeSnd G i pc (zoNewa 43 n) :=
  zs_newarray (at_ := .char) (t0 := 3) (ty := .char) rfl rfl (fun _ => rfl) hw (fun _ _ _ => ⟨rfl, rfl⟩) (by decide) (fun s cA h => h) (by decide) hd hn
theorem zs_na_boolean (hw : Cond.arrayClass .boolean ∈ zeBT) (hd : decode (zeCod i) pc = .ok (.newarray .boolean, 2)) (hn : pc + 2 = n) : zeSnd G i pc (zoNewa 44 n) :=
  zs_newarray (at_ := .boolean) (t0 := 4) (ty := .boolean) rfl rfl (fun _ => rfl) hw (fun _ _ _ => ⟨rfl, rfl⟩) (by decide) (fun s cA h => h) (by decide) hd hn
theorem zs_cpI {own : String} {index : Nat} (ho : (zeNam i).cls = own) (hlink : Cond.methodLink own index arraycopyName ∈ zeBT) (hnat : Cond.native arraycopyName ∈ zeBT) (hstat : Cond.static arraycopyName ∈ zeBT) (hini : Cond.initialized "java/lang/System" ∈ zeBT) (hdp : 1 ≤ zeDp i) (hlc : 30 ≤ zeLc i) (hd : decode (zeCod i) pc = .ok (.invokestatic index, 3)) (hn : pc + 3 = n) : zeSnd G i pc (zoCp 40 n) :=
  zs_copyI (t0 := 0) (ty := .int) rfl (by decide) (by decide) (by decide) (fun _ => rfl) rfl (fun _ _ _ _ _ => rfl) ho hlink hnat hstat hini hdp hlc hd hn
theorem zs_cpB {own : String} {index : Nat} (ho : (zeNam i).cls = own) (hlink : Cond.methodLink own index arraycopyName ∈ zeBT) (hnat : Cond.native arraycopyName ∈ zeBT) (hstat : Cond.static arraycopyName ∈ zeBT) (hini : Cond.initialized "java/lang/System" ∈ zeBT) (hdp : 1 ≤ zeDp i) (hlc : 30 ≤ zeLc i) (hd : decode (zeCod i) pc = .ok (.invokestatic index, 3)) (hn : pc + 3 = n) : zeSnd G i pc (zoCp 42 n) :=
  zs_copyI (t0 := 2) (ty := .byte) rfl (by decide) (by decide) (by decide) (fun _ => rfl) rfl (fun μ hw a h j => hw.2.1 a (Or.inl h) j) ho hlink hnat hstat hini hdp hlc hd hn
theorem zeFd_of {own C ref : String} {T : u_T} {ty0 : Nat → FieldType} {N ci j index : Nat} (ho : (zeNam i).cls = own) (hk : zeCl[ci]? = some (C, T, N) ∧ (∀ w ∈ u_ws C T N, w ∈ zeBT) ∧ (∀ k, k < N → parseFieldDescriptor (T k).2.2.1 = some (ty0 k)) ∧ (∀ a, a < N → ∀ b, b < N → a ≠ b → (T a).2.1 ≠ (T b).2.1) ∧ (zeFL ci).length = N) (hj : j < N) (hlink : Cond.fieldLink own index ref (T j).2.1 (T j).2.2.1 ∈ zeBT) (href : (T j).1 = ref) (hfin : (T j).2.2.2 = false ∨ ((T j).2.2.2 = true ∧ (zeNam i).name = "<init>" ∧ (T j).1 = own)) : zeFd i own C ref T ty0 N ci j index :=
  ⟨ho, hk.1, hk.2.1, hk.2.2.1, hk.2.2.2.1, hj, hlink, href, hfin, hk.2.2.2.2⟩
/-- a table of a switch, decided -/
def zeTswB (pc lo : Int) (offs : Array Int) (l : List (Int32 × Nat)) : Bool := (List.range offs.size).all fun j => match l[j]?, offs[j]? with
  | some (k, t), some off => decide (k.toInt = lo + j) && decide (pc + off = (t : Int))
  | _, _ => false
theorem zeTsw {lo : Int} {offs : Array Int} {l : List (Int32 × Nat)} (h : zeTswB pc lo offs l = true) : ∀ j, j < offs.size → ∃ k t off, l[j]? = some (k, t) ∧ k.toInt = lo + j ∧ offs[j]? = some off ∧ (pc : Int) + off = (t : Int) := by
  intro j hj
  have h1 := List.all_eq_true.mp h j (List.mem_range.mpr hj)
  split at h1
  · rename_i k t off e1 e2
    rw [Bool.and_eq_true, decide_eq_true_eq, decide_eq_true_eq] at h1
    exact ⟨k, t, off, e1, h1.1, e2, h1.2⟩
  · cases h1
def zeLswB (pc : Int) : List (Int32 × Nat) → List (Int × Int) → Bool
  | [], [] => true
  | (k, t) :: l, (a, o) :: r => decide (k.toInt = a) && (decide (pc + o = (t : Int)) && zeLswB pc l r)
  | _, _ => false
theorem zeLsw {df : Int} {d : Nat} {x : Int32} (h0 : (pc : Int) + df = (d : Int)) : ∀ (l : List (Int32 × Nat)) (ps : List (Int × Int)), zeLswB pc l ps = true → (pc : Int) + Op.lookupswitch.offset ps df x.toInt = (zeSw x d l : Int)
  | [], [], _ => by simpa [Op.lookupswitch.offset, zeSw] using h0
  | (k, t) :: l, (a, o) :: r, h => by
    simp only [zeLswB, Bool.and_eq_true, decide_eq_true_eq] at h
    unfold zeSw
    by_cases hx : x = k
    · rw [if_pos hx]
      subst hx
      rw [← h.2.1]
      simp [Op.lookupswitch.offset, h.1]
    · rw [if_neg hx, lv_osw hx h.1]
      exact zeLsw h0 l r h.2.2
  | [], _ :: _, h => by cases h
  | _ :: _, [], h => by cases h
theorem zs_lswitch {df : Int} {ps : List (Int × Int)} {len d : Nat} {l : List (Int32 × Nat)} (hd : decode (zeCod i) pc = .ok (.lookupswitch df ps.toArray, len)) (h0 : (pc : Int) + df = (d : Int)) (hp : (ps.zip (ps.drop 1)).all (fun (a, next) => a.1 < next.1) = true) (hl : zeLswB pc l ps = true) : zeSnd G i pc (zoSw l d) := by
  refine zs_Sw fun μ rest x p l' e R s m args below meth c Q H locs ls cells slots hcx _ _ _ _ _ _ _ K => ?_
  exact lv_lookup hcx.1 hcx.2.1 hd hp rfl (zeLsw h0 l ps hl) K
end ZI
end
section
/-! words of the tables in use; what callees need (by program) -/
theorem zm_40 : (.methodLink "WagerQuiz$PickedClue" 3 ⟨"java/lang/Object", "<init>", "()V"⟩ : Cond) ∈ zeBT := zeBT_of (k := 40) (by decide +kernel) rfl
theorem zm_27 : (.instanceMethod ⟨"java/lang/Object", "<init>", "()V"⟩ : Cond) ∈ zeBT := zeBT_of (k := 27) (by decide +kernel) rfl
theorem zm_70 : (.arrayClass .int : Cond) ∈ zeBT := zeBT_of (k := 70) (by decide +kernel) rfl
theorem zm_49 : (.fieldLink "WagerQuiz$PickedClue" 9 "WagerQuiz$PickedClue" "countingTicks" "[I" : Cond) ∈ zeBT := zeBT_of (k := 49) (by decide +kernel) rfl
theorem zm_71 : (.arrayClass .long : Cond) ∈ zeBT := zeBT_of (k := 71) (by decide +kernel) rfl
theorem zm_51 : (.fieldLink "WagerQuiz$PickedClue" 15 "WagerQuiz$PickedClue" "ticksBelow64" "[J" : Cond) ∈ zeBT := zeBT_of (k := 51) (by decide +kernel) rfl
theorem zm_52 : (.fieldLink "WagerQuiz$PickedClue" 19 "WagerQuiz$PickedClue" "ticksFrom64" "[J" : Cond) ∈ zeBT := zeBT_of (k := 52) (by decide +kernel) rfl
theorem zm_77 : (.methodLink "WagerQuiz$FinalRound" 3 ⟨"java/lang/Object", "<init>", "()V"⟩ : Cond) ∈ zeBT := zeBT_of (k := 77) (by decide +kernel) rfl
theorem zm_81 : (.fieldLink "WagerQuiz$FinalRound" 9 "WagerQuiz$FinalRound" "startScores" "[I" : Cond) ∈ zeBT := zeBT_of (k := 81) (by decide +kernel) rfl
theorem zm_83 : (.fieldLink "WagerQuiz$FinalRound" 15 "WagerQuiz$FinalRound" "wagers" "[I" : Cond) ∈ zeBT := zeBT_of (k := 83) (by decide +kernel) rfl
theorem zm_78 : (.constant "WagerQuiz$FinalRound" 18 (-10000005) : Cond) ∈ zeBT := zeBT_of (k := 78) (by decide +kernel) rfl
theorem zm_97 : (.methodLink "WagerQuiz$Log" 3 ⟨"java/lang/Object", "<init>", "()V"⟩ : Cond) ∈ zeBT := zeBT_of (k := 97) (by decide +kernel) rfl
theorem zm_101 : (.fieldLink "WagerQuiz$Log" 9 "WagerQuiz$Log" "players" "[I" : Cond) ∈ zeBT := zeBT_of (k := 101) (by decide +kernel) rfl
theorem zm_104 : (.fieldLink "WagerQuiz$Log" 15 "WagerQuiz$Log" "sorts" "[I" : Cond) ∈ zeBT := zeBT_of (k := 104) (by decide +kernel) rfl
theorem zm_107 : (.fieldLink "WagerQuiz$Log" 18 "WagerQuiz$Log" "clues" "[I" : Cond) ∈ zeBT := zeBT_of (k := 107) (by decide +kernel) rfl
theorem zm_110 : (.fieldLink "WagerQuiz$Log" 21 "WagerQuiz$Log" "amounts" "[I" : Cond) ∈ zeBT := zeBT_of (k := 110) (by decide +kernel) rfl
theorem zm_113 : (.fieldLink "WagerQuiz$Log" 24 "WagerQuiz$Log" "judgements" "[I" : Cond) ∈ zeBT := zeBT_of (k := 113) (by decide +kernel) rfl
theorem zm_34 : (.methodLink "WagerQuiz$State" 1 ⟨"java/lang/Object", "<init>", "()V"⟩ : Cond) ∈ zeBT := zeBT_of (k := 34) (by decide +kernel) rfl
theorem zm_137 : (.fieldLink "WagerQuiz$State" 7 "WagerQuiz$State" "settings" "[I" : Cond) ∈ zeBT := zeBT_of (k := 137) (by decide +kernel) rfl
theorem zm_35 : (.classLink "WagerQuiz$State" 13 "WagerQuiz$PickedClue" : Cond) ∈ zeBT := zeBT_of (k := 35) (by decide +kernel) rfl
theorem zm_36 : (.instantiable "WagerQuiz$PickedClue" 8 : Cond) ∈ zeBT := zeBT_of (k := 36) (by decide +kernel) rfl
theorem zm_3 : (.initialized "WagerQuiz$PickedClue" : Cond) ∈ zeBT := zeBT_of (k := 3) (by decide +kernel) rfl
theorem zm_38 : (.instanceMethod ⟨"WagerQuiz$PickedClue", "<init>", "()V"⟩ : Cond) ∈ zeBT := zeBT_of (k := 38) (by decide +kernel) rfl
theorem zm_139 : (.fieldLink "WagerQuiz$State" 16 "WagerQuiz$State" "open" "LWagerQuiz$PickedClue;" : Cond) ∈ zeBT := zeBT_of (k := 139) (by decide +kernel) rfl
theorem zm_72 : (.classLink "WagerQuiz$State" 20 "WagerQuiz$FinalRound" : Cond) ∈ zeBT := zeBT_of (k := 72) (by decide +kernel) rfl
theorem zm_73 : (.instantiable "WagerQuiz$FinalRound" 3 : Cond) ∈ zeBT := zeBT_of (k := 73) (by decide +kernel) rfl
theorem zm_4 : (.initialized "WagerQuiz$FinalRound" : Cond) ∈ zeBT := zeBT_of (k := 4) (by decide +kernel) rfl
theorem zm_75 : (.instanceMethod ⟨"WagerQuiz$FinalRound", "<init>", "()V"⟩ : Cond) ∈ zeBT := zeBT_of (k := 75) (by decide +kernel) rfl
theorem zm_74 : (.methodLink "WagerQuiz$State" 22 ⟨"WagerQuiz$FinalRound", "<init>", "()V"⟩ : Cond) ∈ zeBT := zeBT_of (k := 74) (by decide +kernel) rfl
theorem zm_141 : (.fieldLink "WagerQuiz$State" 23 "WagerQuiz$State" "finale" "LWagerQuiz$FinalRound;" : Cond) ∈ zeBT := zeBT_of (k := 141) (by decide +kernel) rfl
theorem zm_92 : (.classLink "WagerQuiz$State" 27 "WagerQuiz$Log" : Cond) ∈ zeBT := zeBT_of (k := 92) (by decide +kernel) rfl
theorem zm_93 : (.instantiable "WagerQuiz$Log" 6 : Cond) ∈ zeBT := zeBT_of (k := 93) (by decide +kernel) rfl
theorem zm_5 : (.initialized "WagerQuiz$Log" : Cond) ∈ zeBT := zeBT_of (k := 5) (by decide +kernel) rfl
theorem zm_95 : (.instanceMethod ⟨"WagerQuiz$Log", "<init>", "()V"⟩ : Cond) ∈ zeBT := zeBT_of (k := 95) (by decide +kernel) rfl
theorem zm_143 : (.fieldLink "WagerQuiz$State" 30 "WagerQuiz$State" "log" "LWagerQuiz$Log;" : Cond) ∈ zeBT := zeBT_of (k := 143) (by decide +kernel) rfl
theorem zm_167 : (.methodLink "WagerQuiz$Replay" 3 ⟨"java/lang/Object", "<init>", "()V"⟩ : Cond) ∈ zeBT := zeBT_of (k := 167) (by decide +kernel) rfl
theorem zm_171 : (.fieldLink "WagerQuiz$Replay" 9 "WagerQuiz$Replay" "scores" "[I" : Cond) ∈ zeBT := zeBT_of (k := 171) (by decide +kernel) rfl
theorem zm_173 : (.fieldLink "WagerQuiz$Replay" 15 "WagerQuiz$Replay" "rights" "[I" : Cond) ∈ zeBT := zeBT_of (k := 173) (by decide +kernel) rfl
theorem zm_175 : (.fieldLink "WagerQuiz$Replay" 18 "WagerQuiz$Replay" "wrongs" "[I" : Cond) ∈ zeBT := zeBT_of (k := 175) (by decide +kernel) rfl
theorem zm_177 : (.fieldLink "WagerQuiz$Replay" 21 "WagerQuiz$Replay" "corrections" "[I" : Cond) ∈ zeBT := zeBT_of (k := 177) (by decide +kernel) rfl
theorem zm_179 : (.fieldLink "WagerQuiz$Replay" 24 "WagerQuiz$Replay" "solvers" "[I" : Cond) ∈ zeBT := zeBT_of (k := 179) (by decide +kernel) rfl
theorem zm_181 : (.fieldLink "WagerQuiz$Replay" 27 "WagerQuiz$Replay" "amounts" "[I" : Cond) ∈ zeBT := zeBT_of (k := 181) (by decide +kernel) rfl
theorem zm_183 : (.fieldLink "WagerQuiz$Replay" 30 "WagerQuiz$Replay" "scoresBehind" "[I" : Cond) ∈ zeBT := zeBT_of (k := 183) (by decide +kernel) rfl
theorem zm_209 : (.arrayClass .boolean : Cond) ∈ zeBT := zeBT_of (k := 209) (by decide +kernel) rfl
theorem zm_185 : (.fieldLink "WagerQuiz$Replay" 33 "WagerQuiz$Replay" "voids" "[Z" : Cond) ∈ zeBT := zeBT_of (k := 185) (by decide +kernel) rfl
theorem zm_187 : (.fieldLink "WagerQuiz$Replay" 37 "WagerQuiz$Replay" "formerScores" "[I" : Cond) ∈ zeBT := zeBT_of (k := 187) (by decide +kernel) rfl
theorem zm_168 : (.constant "WagerQuiz$Replay" 40 (-10000005) : Cond) ∈ zeBT := zeBT_of (k := 168) (by decide +kernel) rfl
theorem zm_215 : (.methodLink "WagerQuiz$History" 3 ⟨"java/lang/Object", "<init>", "()V"⟩ : Cond) ∈ zeBT := zeBT_of (k := 215) (by decide +kernel) rfl
theorem zm_216 : (.classLink "WagerQuiz$History" 11 "WagerQuiz$State" : Cond) ∈ zeBT := zeBT_of (k := 216) (by decide +kernel) rfl
theorem zm_222 : (.fieldLink "WagerQuiz$History" 13 "WagerQuiz$History" "ring" "[LWagerQuiz$State;" : Cond) ∈ zeBT := zeBT_of (k := 222) (by decide +kernel) rfl
theorem zm_30 : (.instantiable "WagerQuiz$State" 8 : Cond) ∈ zeBT := zeBT_of (k := 30) (by decide +kernel) rfl
theorem zm_2 : (.initialized "WagerQuiz$State" : Cond) ∈ zeBT := zeBT_of (k := 2) (by decide +kernel) rfl
theorem zm_32 : (.instanceMethod ⟨"WagerQuiz$State", "<init>", "()V"⟩ : Cond) ∈ zeBT := zeBT_of (k := 32) (by decide +kernel) rfl
theorem zm_235 : (.methodLink "WagerQuiz$Script" 3 ⟨"java/lang/Object", "<init>", "()V"⟩ : Cond) ∈ zeBT := zeBT_of (k := 235) (by decide +kernel) rfl
theorem zm_244 : (.arrayClass .char : Cond) ∈ zeBT := zeBT_of (k := 244) (by decide +kernel) rfl
theorem zm_238 : (.fieldLink "WagerQuiz$Script" 9 "WagerQuiz$Script" "signs" "[C" : Cond) ∈ zeBT := zeBT_of (k := 238) (by decide +kernel) rfl
theorem zm_253 : (.methodLink "java/lang/AbstractStringBuilder" 3 ⟨"java/lang/Object", "<init>", "()V"⟩ : Cond) ∈ zeBT := zeBT_of (k := 253) (by decide +kernel) rfl
theorem zm_254 : (.fieldLink "java/lang/AbstractStringBuilder" 18 "java/lang/String" "COMPACT_STRINGS" "Z" : Cond) ∈ zeBT := zeBT_of (k := 254) (by decide +kernel) rfl
theorem zm_276 : (.arrayClass .byte : Cond) ∈ zeBT := zeBT_of (k := 276) (by decide +kernel) rfl
theorem zm_263 : (.fieldLink "java/lang/AbstractStringBuilder" 15 "java/lang/AbstractStringBuilder" "value" "[B" : Cond) ∈ zeBT := zeBT_of (k := 263) (by decide +kernel) rfl
theorem zm_264 : (.fieldLink "java/lang/AbstractStringBuilder" 22 "java/lang/AbstractStringBuilder" "coder" "B" : Cond) ∈ zeBT := zeBT_of (k := 264) (by decide +kernel) rfl
theorem zm_251 : (.instanceMethod ⟨"java/lang/AbstractStringBuilder", "<init>", "(I)V"⟩ : Cond) ∈ zeBT := zeBT_of (k := 251) (by decide +kernel) rfl
theorem zm_250 : (.methodLink "java/lang/StringBuilder" 1 ⟨"java/lang/AbstractStringBuilder", "<init>", "(I)V"⟩ : Cond) ∈ zeBT := zeBT_of (k := 250) (by decide +kernel) rfl
theorem zm_26 : (.methodLink "WagerQuiz" 1 ⟨"java/lang/Object", "<init>", "()V"⟩ : Cond) ∈ zeBT := zeBT_of (k := 26) (by decide +kernel) rfl
theorem zm_29 : (.classLink "WagerQuiz" 7 "WagerQuiz$State" : Cond) ∈ zeBT := zeBT_of (k := 29) (by decide +kernel) rfl
theorem zm_277 : (.fieldLink "WagerQuiz" 10 "WagerQuiz" "now" "LWagerQuiz$State;" : Cond) ∈ zeBT := zeBT_of (k := 277) (by decide +kernel) rfl
theorem zm_162 : (.classLink "WagerQuiz" 16 "WagerQuiz$Replay" : Cond) ∈ zeBT := zeBT_of (k := 162) (by decide +kernel) rfl
theorem zm_163 : (.instantiable "WagerQuiz$Replay" 10 : Cond) ∈ zeBT := zeBT_of (k := 163) (by decide +kernel) rfl
theorem zm_6 : (.initialized "WagerQuiz$Replay" : Cond) ∈ zeBT := zeBT_of (k := 6) (by decide +kernel) rfl
theorem zm_165 : (.instanceMethod ⟨"WagerQuiz$Replay", "<init>", "()V"⟩ : Cond) ∈ zeBT := zeBT_of (k := 165) (by decide +kernel) rfl
theorem zm_164 : (.methodLink "WagerQuiz" 18 ⟨"WagerQuiz$Replay", "<init>", "()V"⟩ : Cond) ∈ zeBT := zeBT_of (k := 164) (by decide +kernel) rfl
theorem zm_278 : (.fieldLink "WagerQuiz" 19 "WagerQuiz" "replay" "LWagerQuiz$Replay;" : Cond) ∈ zeBT := zeBT_of (k := 278) (by decide +kernel) rfl
theorem zm_210 : (.classLink "WagerQuiz" 23 "WagerQuiz$History" : Cond) ∈ zeBT := zeBT_of (k := 210) (by decide +kernel) rfl
theorem zm_211 : (.instantiable "WagerQuiz$History" 3 : Cond) ∈ zeBT := zeBT_of (k := 211) (by decide +kernel) rfl
theorem zm_7 : (.initialized "WagerQuiz$History" : Cond) ∈ zeBT := zeBT_of (k := 7) (by decide +kernel) rfl
theorem zm_213 : (.instanceMethod ⟨"WagerQuiz$History", "<init>", "()V"⟩ : Cond) ∈ zeBT := zeBT_of (k := 213) (by decide +kernel) rfl
theorem zm_212 : (.methodLink "WagerQuiz" 25 ⟨"WagerQuiz$History", "<init>", "()V"⟩ : Cond) ∈ zeBT := zeBT_of (k := 212) (by decide +kernel) rfl
theorem zm_279 : (.fieldLink "WagerQuiz" 26 "WagerQuiz" "history" "LWagerQuiz$History;" : Cond) ∈ zeBT := zeBT_of (k := 279) (by decide +kernel) rfl
theorem zm_280 : (.fieldLink "WagerQuiz" 30 "WagerQuiz" "slots" "[LWagerQuiz$State;" : Cond) ∈ zeBT := zeBT_of (k := 280) (by decide +kernel) rfl
theorem zm_281 : (.fieldLink "WagerQuiz" 34 "WagerQuiz" "slotTaken" "[Z" : Cond) ∈ zeBT := zeBT_of (k := 281) (by decide +kernel) rfl
theorem zm_230 : (.classLink "WagerQuiz" 38 "WagerQuiz$Script" : Cond) ∈ zeBT := zeBT_of (k := 230) (by decide +kernel) rfl
theorem zm_231 : (.instantiable "WagerQuiz$Script" 2 : Cond) ∈ zeBT := zeBT_of (k := 231) (by decide +kernel) rfl
theorem zm_8 : (.initialized "WagerQuiz$Script" : Cond) ∈ zeBT := zeBT_of (k := 8) (by decide +kernel) rfl
theorem zm_233 : (.instanceMethod ⟨"WagerQuiz$Script", "<init>", "()V"⟩ : Cond) ∈ zeBT := zeBT_of (k := 233) (by decide +kernel) rfl
theorem zm_282 : (.fieldLink "WagerQuiz" 41 "WagerQuiz" "script" "LWagerQuiz$Script;" : Cond) ∈ zeBT := zeBT_of (k := 282) (by decide +kernel) rfl
theorem zm_245 : (.classLink "WagerQuiz" 45 "java/lang/StringBuilder" : Cond) ∈ zeBT := zeBT_of (k := 245) (by decide +kernel) rfl
theorem zm_246 : (.instantiable "java/lang/StringBuilder" 4 : Cond) ∈ zeBT := zeBT_of (k := 246) (by decide +kernel) rfl
theorem zm_10 : (.initialized "java/lang/StringBuilder" : Cond) ∈ zeBT := zeBT_of (k := 10) (by decide +kernel) rfl
theorem zm_248 : (.instanceMethod ⟨"java/lang/StringBuilder", "<init>", "()V"⟩ : Cond) ∈ zeBT := zeBT_of (k := 248) (by decide +kernel) rfl
theorem zm_247 : (.methodLink "WagerQuiz" 47 ⟨"java/lang/StringBuilder", "<init>", "()V"⟩ : Cond) ∈ zeBT := zeBT_of (k := 247) (by decide +kernel) rfl
theorem zm_283 : (.fieldLink "WagerQuiz" 48 "WagerQuiz" "message" "Ljava/lang/StringBuilder;" : Cond) ∈ zeBT := zeBT_of (k := 283) (by decide +kernel) rfl
theorem zm_284 : (.fieldLink "WagerQuiz" 52 "WagerQuiz" "reason" "I" : Cond) ∈ zeBT := zeBT_of (k := 284) (by decide +kernel) rfl
theorem zm_965 : (.methodLink "WagerQuizModel" 1 ⟨"java/lang/Object", "<init>", "()V"⟩ : Cond) ∈ zeBT := zeBT_of (k := 965) (by decide +kernel) rfl
theorem zm_966 : (.fieldLink "WagerQuizModel" 7 "WagerQuizModel" "now" "[I" : Cond) ∈ zeBT := zeBT_of (k := 966) (by decide +kernel) rfl
theorem zm_967 : (.fieldLink "WagerQuizModel" 13 "WagerQuizModel" "history" "[I" : Cond) ∈ zeBT := zeBT_of (k := 967) (by decide +kernel) rfl
theorem zm_969 : (.fieldLink "WagerQuizModel" 16 "WagerQuizModel" "slots" "[I" : Cond) ∈ zeBT := zeBT_of (k := 969) (by decide +kernel) rfl
theorem zm_970 : (.fieldLink "WagerQuizModel" 19 "WagerQuizModel" "isFilled" "[Z" : Cond) ∈ zeBT := zeBT_of (k := 970) (by decide +kernel) rfl
theorem zm_972 : (.fieldLink "WagerQuizModel" 23 "WagerQuizModel" "score" "[I" : Cond) ∈ zeBT := zeBT_of (k := 972) (by decide +kernel) rfl
theorem zm_973 : (.fieldLink "WagerQuizModel" 26 "WagerQuizModel" "amount" "[I" : Cond) ∈ zeBT := zeBT_of (k := 973) (by decide +kernel) rfl
theorem zm_974 : (.fieldLink "WagerQuizModel" 29 "WagerQuizModel" "isVoid" "[Z" : Cond) ∈ zeBT := zeBT_of (k := 974) (by decide +kernel) rfl
theorem zm_975 : (.fieldLink "WagerQuizModel" 32 "WagerQuizModel" "after" "[I" : Cond) ∈ zeBT := zeBT_of (k := 975) (by decide +kernel) rfl
theorem zm_976 : (.fieldLink "WagerQuizModel" 35 "WagerQuizModel" "rights" "[I" : Cond) ∈ zeBT := zeBT_of (k := 976) (by decide +kernel) rfl
theorem zm_977 : (.fieldLink "WagerQuizModel" 38 "WagerQuizModel" "wrongs" "[I" : Cond) ∈ zeBT := zeBT_of (k := 977) (by decide +kernel) rfl
theorem zm_978 : (.fieldLink "WagerQuizModel" 41 "WagerQuizModel" "corrections" "[I" : Cond) ∈ zeBT := zeBT_of (k := 978) (by decide +kernel) rfl
theorem zm_980 : (.fieldLink "WagerQuizModel" 44 "WagerQuizModel" "waits" "[I" : Cond) ∈ zeBT := zeBT_of (k := 980) (by decide +kernel) rfl
theorem zm_981 : (.fieldLink "WagerQuizModel" 47 "WagerQuizModel" "before" "[I" : Cond) ∈ zeBT := zeBT_of (k := 981) (by decide +kernel) rfl
theorem zm_983 : (.fieldLink "WagerQuizModel" 50 "WagerQuizModel" "text" "[C" : Cond) ∈ zeBT := zeBT_of (k := 983) (by decide +kernel) rfl
theorem zm_985 : (.fieldLink "WagerQuizModel" 54 "WagerQuizModel" "moveOf" "[I" : Cond) ∈ zeBT := zeBT_of (k := 985) (by decide +kernel) rfl
theorem zm_987 : (.fieldLink "WagerQuizModel" 57 "WagerQuizModel" "message" "[I" : Cond) ∈ zeBT := zeBT_of (k := 987) (by decide +kernel) rfl
theorem zm_41 : (.fieldLink "WagerQuiz$PickedClue" 22 "WagerQuiz$PickedClue" "clue" "I" : Cond) ∈ zeBT := zeBT_of (k := 41) (by decide +kernel) rfl
theorem zm_43 : (.fieldLink "WagerQuiz$PickedClue" 26 "WagerQuiz$PickedClue" "reading" "I" : Cond) ∈ zeBT := zeBT_of (k := 43) (by decide +kernel) rfl
theorem zm_44 : (.fieldLink "WagerQuiz$PickedClue" 29 "WagerQuiz$PickedClue" "lock" "I" : Cond) ∈ zeBT := zeBT_of (k := 44) (by decide +kernel) rfl
theorem zm_45 : (.fieldLink "WagerQuiz$PickedClue" 32 "WagerQuiz$PickedClue" "wager" "I" : Cond) ∈ zeBT := zeBT_of (k := 45) (by decide +kernel) rfl
theorem zm_47 : (.fieldLink "WagerQuiz$PickedClue" 35 "WagerQuiz$PickedClue" "answered" "I" : Cond) ∈ zeBT := zeBT_of (k := 47) (by decide +kernel) rfl
theorem zm_323 : (.methodLink "WagerQuiz$PickedClue" 56 ⟨"java/lang/System", "arraycopy", "(Ljava/lang/Object;ILjava/lang/Object;II)V"⟩ : Cond) ∈ zeBT := zeBT_of (k := 323) (by decide +kernel) rfl
theorem zm_318 : (.native ⟨"java/lang/System", "arraycopy", "(Ljava/lang/Object;ILjava/lang/Object;II)V"⟩ : Cond) ∈ zeBT := zeBT_of (k := 318) (by decide +kernel) rfl
theorem zm_317 : (.static ⟨"java/lang/System", "arraycopy", "(Ljava/lang/Object;ILjava/lang/Object;II)V"⟩ : Cond) ∈ zeBT := zeBT_of (k := 317) (by decide +kernel) rfl
theorem zm_14 : (.initialized "java/lang/System" : Cond) ∈ zeBT := zeBT_of (k := 14) (by decide +kernel) rfl
theorem zm_79 : (.fieldLink "WagerQuiz$FinalRound" 33 "WagerQuiz$FinalRound" "answers" "I" : Cond) ∈ zeBT := zeBT_of (k := 79) (by decide +kernel) rfl
theorem zm_328 : (.methodLink "WagerQuiz$FinalRound" 41 ⟨"java/lang/System", "arraycopy", "(Ljava/lang/Object;ILjava/lang/Object;II)V"⟩ : Cond) ∈ zeBT := zeBT_of (k := 328) (by decide +kernel) rfl
theorem zm_98 : (.fieldLink "WagerQuiz$Log" 27 "WagerQuiz$Log" "size" "I" : Cond) ∈ zeBT := zeBT_of (k := 98) (by decide +kernel) rfl
theorem zm_333 : (.methodLink "WagerQuiz$Log" 35 ⟨"java/lang/System", "arraycopy", "(Ljava/lang/Object;ILjava/lang/Object;II)V"⟩ : Cond) ∈ zeBT := zeBT_of (k := 333) (by decide +kernel) rfl
theorem zm_129 : (.fieldLink "WagerQuiz$State" 34 "WagerQuiz$State" "phase" "I" : Cond) ∈ zeBT := zeBT_of (k := 129) (by decide +kernel) rfl
theorem zm_131 : (.fieldLink "WagerQuiz$State" 38 "WagerQuiz$State" "players" "I" : Cond) ∈ zeBT := zeBT_of (k := 131) (by decide +kernel) rfl
theorem zm_133 : (.fieldLink "WagerQuiz$State" 41 "WagerQuiz$State" "wagerClues" "I" : Cond) ∈ zeBT := zeBT_of (k := 133) (by decide +kernel) rfl
theorem zm_135 : (.fieldLink "WagerQuiz$State" 44 "WagerQuiz$State" "goneClues" "I" : Cond) ∈ zeBT := zeBT_of (k := 135) (by decide +kernel) rfl
theorem zm_316 : (.methodLink "WagerQuiz$State" 52 ⟨"java/lang/System", "arraycopy", "(Ljava/lang/Object;ILjava/lang/Object;II)V"⟩ : Cond) ∈ zeBT := zeBT_of (k := 316) (by decide +kernel) rfl
theorem zm_320 : (.instanceMethod ⟨"WagerQuiz$PickedClue", "copyFrom", "(LWagerQuiz$PickedClue;)V"⟩ : Cond) ∈ zeBT := zeBT_of (k := 320) (by decide +kernel) rfl
theorem zm_319 : (.methodLink "WagerQuiz$State" 58 ⟨"WagerQuiz$PickedClue", "copyFrom", "(LWagerQuiz$PickedClue;)V"⟩ : Cond) ∈ zeBT := zeBT_of (k := 319) (by decide +kernel) rfl
theorem zm_321 : (.selects "WagerQuiz$PickedClue" ⟨"WagerQuiz$PickedClue", "copyFrom", "(LWagerQuiz$PickedClue;)V"⟩ ⟨"WagerQuiz$PickedClue", "copyFrom", "(LWagerQuiz$PickedClue;)V"⟩ : Cond) ∈ zeBT := zeBT_of (k := 321) (by decide +kernel) rfl
theorem zm_325 : (.instanceMethod ⟨"WagerQuiz$FinalRound", "copyFrom", "(LWagerQuiz$FinalRound;)V"⟩ : Cond) ∈ zeBT := zeBT_of (k := 325) (by decide +kernel) rfl
theorem zm_324 : (.methodLink "WagerQuiz$State" 62 ⟨"WagerQuiz$FinalRound", "copyFrom", "(LWagerQuiz$FinalRound;)V"⟩ : Cond) ∈ zeBT := zeBT_of (k := 324) (by decide +kernel) rfl
theorem zm_326 : (.selects "WagerQuiz$FinalRound" ⟨"WagerQuiz$FinalRound", "copyFrom", "(LWagerQuiz$FinalRound;)V"⟩ ⟨"WagerQuiz$FinalRound", "copyFrom", "(LWagerQuiz$FinalRound;)V"⟩ : Cond) ∈ zeBT := zeBT_of (k := 326) (by decide +kernel) rfl
theorem zm_330 : (.instanceMethod ⟨"WagerQuiz$Log", "copyFrom", "(LWagerQuiz$Log;)V"⟩ : Cond) ∈ zeBT := zeBT_of (k := 330) (by decide +kernel) rfl
theorem zm_329 : (.methodLink "WagerQuiz$State" 65 ⟨"WagerQuiz$Log", "copyFrom", "(LWagerQuiz$Log;)V"⟩ : Cond) ∈ zeBT := zeBT_of (k := 329) (by decide +kernel) rfl
theorem zm_331 : (.selects "WagerQuiz$Log" ⟨"WagerQuiz$Log", "copyFrom", "(LWagerQuiz$Log;)V"⟩ ⟨"WagerQuiz$Log", "copyFrom", "(LWagerQuiz$Log;)V"⟩ : Cond) ∈ zeBT := zeBT_of (k := 331) (by decide +kernel) rfl
theorem zm_221 : (.fieldLink "WagerQuiz$History" 18 "WagerQuiz$History" "trial" "I" : Cond) ∈ zeBT := zeBT_of (k := 221) (by decide +kernel) rfl
theorem zm_311 : (.instanceMethod ⟨"WagerQuiz$State", "copyFrom", "(LWagerQuiz$State;)V"⟩ : Cond) ∈ zeBT := zeBT_of (k := 311) (by decide +kernel) rfl
theorem zm_310 : (.methodLink "WagerQuiz$History" 22 ⟨"WagerQuiz$State", "copyFrom", "(LWagerQuiz$State;)V"⟩ : Cond) ∈ zeBT := zeBT_of (k := 310) (by decide +kernel) rfl
theorem zm_312 : (.selects "WagerQuiz$State" ⟨"WagerQuiz$State", "copyFrom", "(LWagerQuiz$State;)V"⟩ ⟨"WagerQuiz$State", "copyFrom", "(LWagerQuiz$State;)V"⟩ : Cond) ∈ zeBT := zeBT_of (k := 312) (by decide +kernel) rfl
theorem zm_130 : (.fieldLink "WagerQuiz" 177 "WagerQuiz$State" "phase" "I" : Cond) ∈ zeBT := zeBT_of (k := 130) (by decide +kernel) rfl
theorem zm_136 : (.fieldLink "WagerQuiz" 220 "WagerQuiz$State" "goneClues" "I" : Cond) ∈ zeBT := zeBT_of (k := 136) (by decide +kernel) rfl
theorem zm_346 : (.constant "WagerQuiz" 384 (-10000003) : Cond) ∈ zeBT := zeBT_of (k := 346) (by decide +kernel) rfl
theorem zm_340 : (.instanceMethod ⟨"WagerQuiz", "isBeforeFirstPick", "()Z"⟩ : Cond) ∈ zeBT := zeBT_of (k := 340) (by decide +kernel) rfl
theorem zm_338 : (.methodLink "WagerQuiz" 289 ⟨"WagerQuiz", "isBeforeFirstPick", "()Z"⟩ : Cond) ∈ zeBT := zeBT_of (k := 338) (by decide +kernel) rfl
theorem zmp_1 : (.selects "WagerQuiz" ⟨"WagerQuiz", "isBeforeFirstPick", "()Z"⟩ ⟨"WagerQuiz", "isBeforeFirstPick", "()Z"⟩ : Cond) ∈ zeBT := zeBT_p (k := 1) (by decide +kernel) rfl
theorem zm_344 : (.instanceMethod ⟨"WagerQuiz", "refused", "(I)I"⟩ : Cond) ∈ zeBT := zeBT_of (k := 344) (by decide +kernel) rfl
theorem zm_342 : (.methodLink "WagerQuiz" 292 ⟨"WagerQuiz", "refused", "(I)I"⟩ : Cond) ∈ zeBT := zeBT_of (k := 342) (by decide +kernel) rfl
theorem zmp_2 : (.selects "WagerQuiz" ⟨"WagerQuiz", "refused", "(I)I"⟩ ⟨"WagerQuiz", "refused", "(I)I"⟩ : Cond) ∈ zeBT := zeBT_p (k := 2) (by decide +kernel) rfl
theorem zm_132 : (.fieldLink "WagerQuiz" 108 "WagerQuiz$State" "players" "I" : Cond) ∈ zeBT := zeBT_of (k := 132) (by decide +kernel) rfl
theorem zm_347 : (.constant "WagerQuiz" 132 (-10000004) : Cond) ∈ zeBT := zeBT_of (k := 347) (by decide +kernel) rfl
theorem zm_355 : (.constant "WagerQuiz" 102 (-10000001) : Cond) ∈ zeBT := zeBT_of (k := 355) (by decide +kernel) rfl
theorem zm_356 : (.constant "WagerQuiz" 201 (-10000002) : Cond) ∈ zeBT := zeBT_of (k := 356) (by decide +kernel) rfl
theorem zm_219 : (.fieldLink "WagerQuiz$History" 26 "WagerQuiz$History" "size" "I" : Cond) ∈ zeBT := zeBT_of (k := 219) (by decide +kernel) rfl
theorem zm_352 : (.methodLink "WagerQuiz" 372 ⟨"WagerQuiz", "isError", "(I)Z"⟩ : Cond) ∈ zeBT := zeBT_of (k := 352) (by decide +kernel) rfl
theorem zm_353 : (.static ⟨"WagerQuiz", "isError", "(I)Z"⟩ : Cond) ∈ zeBT := zeBT_of (k := 353) (by decide +kernel) rfl
theorem zm_357 : (.constant "WagerQuiz" 107 (-10000005) : Cond) ∈ zeBT := zeBT_of (k := 357) (by decide +kernel) rfl
theorem zm_359 : (.instanceMethod ⟨"WagerQuiz$History", "commit", "()V"⟩ : Cond) ∈ zeBT := zeBT_of (k := 359) (by decide +kernel) rfl
theorem zm_358 : (.methodLink "WagerQuiz" 139 ⟨"WagerQuiz$History", "commit", "()V"⟩ : Cond) ∈ zeBT := zeBT_of (k := 358) (by decide +kernel) rfl
theorem zm_360 : (.selects "WagerQuiz$History" ⟨"WagerQuiz$History", "commit", "()V"⟩ ⟨"WagerQuiz$History", "commit", "()V"⟩ : Cond) ∈ zeBT := zeBT_of (k := 360) (by decide +kernel) rfl
theorem zm_307 : (.instanceMethod ⟨"WagerQuiz$History", "prepare", "(LWagerQuiz$State;)V"⟩ : Cond) ∈ zeBT := zeBT_of (k := 307) (by decide +kernel) rfl
theorem zm_306 : (.methodLink "WagerQuiz" 56 ⟨"WagerQuiz$History", "prepare", "(LWagerQuiz$State;)V"⟩ : Cond) ∈ zeBT := zeBT_of (k := 306) (by decide +kernel) rfl
theorem zm_308 : (.selects "WagerQuiz$History" ⟨"WagerQuiz$History", "prepare", "(LWagerQuiz$State;)V"⟩ ⟨"WagerQuiz$History", "prepare", "(LWagerQuiz$State;)V"⟩ : Cond) ∈ zeBT := zeBT_of (k := 308) (by decide +kernel) rfl
theorem zm_336 : (.instanceMethod ⟨"WagerQuiz", "doAddPlayer", "()I"⟩ : Cond) ∈ zeBT := zeBT_of (k := 336) (by decide +kernel) rfl
theorem zm_334 : (.methodLink "WagerQuiz" 60 ⟨"WagerQuiz", "doAddPlayer", "()I"⟩ : Cond) ∈ zeBT := zeBT_of (k := 334) (by decide +kernel) rfl
theorem zmp_0 : (.selects "WagerQuiz" ⟨"WagerQuiz", "doAddPlayer", "()I"⟩ ⟨"WagerQuiz", "doAddPlayer", "()I"⟩ : Cond) ∈ zeBT := zeBT_p (k := 0) (by decide +kernel) rfl
theorem zm_350 : (.instanceMethod ⟨"WagerQuiz", "recorded", "(I)I"⟩ : Cond) ∈ zeBT := zeBT_of (k := 350) (by decide +kernel) rfl
theorem zm_348 : (.methodLink "WagerQuiz" 64 ⟨"WagerQuiz", "recorded", "(I)I"⟩ : Cond) ∈ zeBT := zeBT_of (k := 348) (by decide +kernel) rfl
theorem zmp_3 : (.selects "WagerQuiz" ⟨"WagerQuiz", "recorded", "(I)I"⟩ ⟨"WagerQuiz", "recorded", "(I)I"⟩ : Cond) ∈ zeBT := zeBT_p (k := 3) (by decide +kernel) rfl
theorem zm_971 : (.fieldLink "WagerQuizModel" 73 "WagerQuizModel" "reason" "I" : Cond) ∈ zeBT := zeBT_of (k := 971) (by decide +kernel) rfl
theorem zm_1066 : (.constant "WagerQuizModel" 76 (-10000003) : Cond) ∈ zeBT := zeBT_of (k := 1066) (by decide +kernel) rfl
theorem zm_968 : (.fieldLink "WagerQuizModel" 60 "WagerQuizModel" "kept" "I" : Cond) ∈ zeBT := zeBT_of (k := 968) (by decide +kernel) rfl
theorem zm_1060 : (.instanceMethod ⟨"WagerQuizModel", "hasBegun", "()Z"⟩ : Cond) ∈ zeBT := zeBT_of (k := 1060) (by decide +kernel) rfl
theorem zm_1058 : (.methodLink "WagerQuizModel" 88 ⟨"WagerQuizModel", "hasBegun", "()Z"⟩ : Cond) ∈ zeBT := zeBT_of (k := 1058) (by decide +kernel) rfl
theorem zmp_47 : (.selects "WagerQuizModel" ⟨"WagerQuizModel", "hasBegun", "()Z"⟩ ⟨"WagerQuizModel", "hasBegun", "()Z"⟩ : Cond) ∈ zeBT := zeBT_p (k := 47) (by decide +kernel) rfl
theorem zm_1064 : (.instanceMethod ⟨"WagerQuizModel", "refuse", "(I)I"⟩ : Cond) ∈ zeBT := zeBT_of (k := 1064) (by decide +kernel) rfl
theorem zm_1062 : (.methodLink "WagerQuizModel" 92 ⟨"WagerQuizModel", "refuse", "(I)I"⟩ : Cond) ∈ zeBT := zeBT_of (k := 1062) (by decide +kernel) rfl
theorem zmp_48 : (.selects "WagerQuizModel" ⟨"WagerQuizModel", "refuse", "(I)I"⟩ ⟨"WagerQuizModel", "refuse", "(I)I"⟩ : Cond) ∈ zeBT := zeBT_p (k := 48) (by decide +kernel) rfl
theorem zm_1067 : (.constant "WagerQuizModel" 95 (-10000004) : Cond) ∈ zeBT := zeBT_of (k := 1067) (by decide +kernel) rfl
theorem zm_1052 : (.instanceMethod ⟨"WagerQuizModel", "record", "()V"⟩ : Cond) ∈ zeBT := zeBT_of (k := 1052) (by decide +kernel) rfl
theorem zm_1050 : (.methodLink "WagerQuizModel" 70 ⟨"WagerQuizModel", "record", "()V"⟩ : Cond) ∈ zeBT := zeBT_of (k := 1050) (by decide +kernel) rfl
theorem zmp_46 : (.selects "WagerQuizModel" ⟨"WagerQuizModel", "record", "()V"⟩ ⟨"WagerQuizModel", "record", "()V"⟩ : Cond) ∈ zeBT := zeBT_p (k := 46) (by decide +kernel) rfl
theorem zm_379 : (.constant "java/lang/Integer" 265 (1431655765) : Cond) ∈ zeBT := zeBT_of (k := 379) (by decide +kernel) rfl
theorem zm_380 : (.constant "java/lang/Integer" 266 (858993459) : Cond) ∈ zeBT := zeBT_of (k := 380) (by decide +kernel) rfl
theorem zm_381 : (.constant "java/lang/Integer" 267 (252645135) : Cond) ∈ zeBT := zeBT_of (k := 381) (by decide +kernel) rfl
theorem zm_370 : (.methodLink "WagerQuiz" 208 ⟨"WagerQuiz", "isClue", "(I)Z"⟩ : Cond) ∈ zeBT := zeBT_of (k := 370) (by decide +kernel) rfl
theorem zm_371 : (.static ⟨"WagerQuiz", "isClue", "(I)Z"⟩ : Cond) ∈ zeBT := zeBT_of (k := 371) (by decide +kernel) rfl
theorem zm_134 : (.fieldLink "WagerQuiz" 214 "WagerQuiz$State" "wagerClues" "I" : Cond) ∈ zeBT := zeBT_of (k := 134) (by decide +kernel) rfl
theorem zm_373 : (.methodLink "WagerQuiz" 217 ⟨"WagerQuiz", "bitOf", "(II)I"⟩ : Cond) ∈ zeBT := zeBT_of (k := 373) (by decide +kernel) rfl
theorem zm_374 : (.static ⟨"WagerQuiz", "bitOf", "(II)I"⟩ : Cond) ∈ zeBT := zeBT_of (k := 374) (by decide +kernel) rfl
theorem zm_376 : (.methodLink "WagerQuiz" 253 ⟨"java/lang/Integer", "bitCount", "(I)I"⟩ : Cond) ∈ zeBT := zeBT_of (k := 376) (by decide +kernel) rfl
theorem zm_377 : (.static ⟨"java/lang/Integer", "bitCount", "(I)I"⟩ : Cond) ∈ zeBT := zeBT_of (k := 377) (by decide +kernel) rfl
theorem zm_368 : (.instanceMethod ⟨"WagerQuiz", "doSetWagerClue", "(IZ)I"⟩ : Cond) ∈ zeBT := zeBT_of (k := 368) (by decide +kernel) rfl
theorem zm_366 : (.methodLink "WagerQuiz" 68 ⟨"WagerQuiz", "doSetWagerClue", "(IZ)I"⟩ : Cond) ∈ zeBT := zeBT_of (k := 366) (by decide +kernel) rfl
theorem zmp_4 : (.selects "WagerQuiz" ⟨"WagerQuiz", "doSetWagerClue", "(IZ)I"⟩ ⟨"WagerQuiz", "doSetWagerClue", "(IZ)I"⟩ : Cond) ∈ zeBT := zeBT_p (k := 4) (by decide +kernel) rfl
theorem zm_1042 : (.methodLink "WagerQuizModel" 65 ⟨"WagerQuizModel", "in", "(III)Z"⟩ : Cond) ∈ zeBT := zeBT_of (k := 1042) (by decide +kernel) rfl
theorem zm_1043 : (.static ⟨"WagerQuizModel", "in", "(III)Z"⟩ : Cond) ∈ zeBT := zeBT_of (k := 1043) (by decide +kernel) rfl
theorem zm_1045 : (.constant "WagerQuizModel" 69 (-10000001) : Cond) ∈ zeBT := zeBT_of (k := 1045) (by decide +kernel) rfl
theorem zm_1037 : (.constant "WagerQuizModel" 64 (-10000005) : Cond) ∈ zeBT := zeBT_of (k := 1037) (by decide +kernel) rfl
theorem zm_1072 : (.methodLink "WagerQuizModel" 96 ⟨"WagerQuizModel", "bits", "(I)I"⟩ : Cond) ∈ zeBT := zeBT_of (k := 1072) (by decide +kernel) rfl
theorem zm_1073 : (.static ⟨"WagerQuizModel", "bits", "(I)I"⟩ : Cond) ∈ zeBT := zeBT_of (k := 1073) (by decide +kernel) rfl
theorem zm_390 : (.fieldLink "WagerQuiz" 295 "WagerQuiz" "SETTING_TOPS" "[I" : Cond) ∈ zeBT := zeBT_of (k := 390) (by decide +kernel) rfl
theorem zm_138 : (.fieldLink "WagerQuiz" 274 "WagerQuiz$State" "settings" "[I" : Cond) ∈ zeBT := zeBT_of (k := 138) (by decide +kernel) rfl
theorem zm_388 : (.instanceMethod ⟨"WagerQuiz", "doSet", "(II)I"⟩ : Cond) ∈ zeBT := zeBT_of (k := 388) (by decide +kernel) rfl
theorem zm_386 : (.methodLink "WagerQuiz" 72 ⟨"WagerQuiz", "doSet", "(II)I"⟩ : Cond) ∈ zeBT := zeBT_of (k := 386) (by decide +kernel) rfl
theorem zmp_5 : (.selects "WagerQuiz" ⟨"WagerQuiz", "doSet", "(II)I"⟩ ⟨"WagerQuiz", "doSet", "(II)I"⟩ : Cond) ∈ zeBT := zeBT_p (k := 5) (by decide +kernel) rfl
theorem zm_1079 : (.constant "WagerQuizModel" 99 (-10000002) : Cond) ∈ zeBT := zeBT_of (k := 1079) (by decide +kernel) rfl
theorem zm_170 : (.fieldLink "WagerQuiz" 334 "WagerQuiz$Replay" "control" "I" : Cond) ∈ zeBT := zeBT_of (k := 170) (by decide +kernel) rfl
theorem zm_411 : (.constant "WagerQuiz$PickedClue" 38 (-10000005) : Cond) ∈ zeBT := zeBT_of (k := 411) (by decide +kernel) rfl
theorem zm_401 : (.instanceMethod ⟨"WagerQuiz", "isPlayer", "(I)Z"⟩ : Cond) ∈ zeBT := zeBT_of (k := 401) (by decide +kernel) rfl
theorem zm_399 : (.methodLink "WagerQuiz" 98 ⟨"WagerQuiz", "isPlayer", "(I)Z"⟩ : Cond) ∈ zeBT := zeBT_of (k := 399) (by decide +kernel) rfl
theorem zmp_7 : (.selects "WagerQuiz" ⟨"WagerQuiz", "isPlayer", "(I)Z"⟩ ⟨"WagerQuiz", "isPlayer", "(I)Z"⟩ : Cond) ∈ zeBT := zeBT_p (k := 7) (by decide +kernel) rfl
theorem zm_405 : (.instanceMethod ⟨"WagerQuiz", "controller", "()I"⟩ : Cond) ∈ zeBT := zeBT_of (k := 405) (by decide +kernel) rfl
theorem zm_403 : (.methodLink "WagerQuiz" 265 ⟨"WagerQuiz", "controller", "()I"⟩ : Cond) ∈ zeBT := zeBT_of (k := 403) (by decide +kernel) rfl
theorem zmp_8 : (.selects "WagerQuiz" ⟨"WagerQuiz", "controller", "()I"⟩ ⟨"WagerQuiz", "controller", "()I"⟩ : Cond) ∈ zeBT := zeBT_p (k := 8) (by decide +kernel) rfl
theorem zm_140 : (.fieldLink "WagerQuiz" 180 "WagerQuiz$State" "open" "LWagerQuiz$PickedClue;" : Cond) ∈ zeBT := zeBT_of (k := 140) (by decide +kernel) rfl
theorem zm_408 : (.instanceMethod ⟨"WagerQuiz$PickedClue", "begin", "(III)V"⟩ : Cond) ∈ zeBT := zeBT_of (k := 408) (by decide +kernel) rfl
theorem zm_407 : (.methodLink "WagerQuiz" 298 ⟨"WagerQuiz$PickedClue", "begin", "(III)V"⟩ : Cond) ∈ zeBT := zeBT_of (k := 407) (by decide +kernel) rfl
theorem zm_409 : (.selects "WagerQuiz$PickedClue" ⟨"WagerQuiz$PickedClue", "begin", "(III)V"⟩ ⟨"WagerQuiz$PickedClue", "begin", "(III)V"⟩ : Cond) ∈ zeBT := zeBT_of (k := 409) (by decide +kernel) rfl
theorem zm_412 : (.methodLink "WagerQuiz" 211 ⟨"WagerQuiz", "valueOf", "(I)I"⟩ : Cond) ∈ zeBT := zeBT_of (k := 412) (by decide +kernel) rfl
theorem zm_413 : (.static ⟨"WagerQuiz", "valueOf", "(I)I"⟩ : Cond) ∈ zeBT := zeBT_of (k := 413) (by decide +kernel) rfl
theorem zm_397 : (.instanceMethod ⟨"WagerQuiz", "doPick", "(II)I"⟩ : Cond) ∈ zeBT := zeBT_of (k := 397) (by decide +kernel) rfl
theorem zm_395 : (.methodLink "WagerQuiz" 76 ⟨"WagerQuiz", "doPick", "(II)I"⟩ : Cond) ∈ zeBT := zeBT_of (k := 395) (by decide +kernel) rfl
theorem zmp_6 : (.selects "WagerQuiz" ⟨"WagerQuiz", "doPick", "(II)I"⟩ ⟨"WagerQuiz", "doPick", "(II)I"⟩ : Cond) ∈ zeBT := zeBT_p (k := 6) (by decide +kernel) rfl
theorem zm_1096 : (.methodLink "WagerQuizModel" 77 ⟨"WagerQuizModel", "at", "(I)I"⟩ : Cond) ∈ zeBT := zeBT_of (k := 1096) (by decide +kernel) rfl
theorem zm_1097 : (.static ⟨"WagerQuizModel", "at", "(I)I"⟩ : Cond) ∈ zeBT := zeBT_of (k := 1097) (by decide +kernel) rfl
theorem zm_979 : (.fieldLink "WagerQuizModel" 81 "WagerQuizModel" "control" "I" : Cond) ∈ zeBT := zeBT_of (k := 979) (by decide +kernel) rfl
theorem zm_1101 : (.instanceMethod ⟨"WagerQuizModel", "isStealVoid", "(I)Z"⟩ : Cond) ∈ zeBT := zeBT_of (k := 1101) (by decide +kernel) rfl
theorem zm_1099 : (.methodLink "WagerQuizModel" 84 ⟨"WagerQuizModel", "isStealVoid", "(I)Z"⟩ : Cond) ∈ zeBT := zeBT_of (k := 1099) (by decide +kernel) rfl
theorem zmp_52 : (.selects "WagerQuizModel" ⟨"WagerQuizModel", "isStealVoid", "(I)Z"⟩ ⟨"WagerQuizModel", "isStealVoid", "(I)Z"⟩ : Cond) ∈ zeBT := zeBT_p (k := 52) (by decide +kernel) rfl
theorem zm_1090 : (.instanceMethod ⟨"WagerQuizModel", "noPlayer", "(I)Z"⟩ : Cond) ∈ zeBT := zeBT_of (k := 1090) (by decide +kernel) rfl
theorem zm_1088 : (.methodLink "WagerQuizModel" 100 ⟨"WagerQuizModel", "noPlayer", "(I)Z"⟩ : Cond) ∈ zeBT := zeBT_of (k := 1088) (by decide +kernel) rfl
theorem zmp_50 : (.selects "WagerQuizModel" ⟨"WagerQuizModel", "noPlayer", "(I)Z"⟩ ⟨"WagerQuizModel", "noPlayer", "(I)Z"⟩ : Cond) ∈ zeBT := zeBT_p (k := 50) (by decide +kernel) rfl
theorem zm_1094 : (.instanceMethod ⟨"WagerQuizModel", "replay", "()V"⟩ : Cond) ∈ zeBT := zeBT_of (k := 1094) (by decide +kernel) rfl
theorem zm_1092 : (.methodLink "WagerQuizModel" 103 ⟨"WagerQuizModel", "replay", "()V"⟩ : Cond) ∈ zeBT := zeBT_of (k := 1092) (by decide +kernel) rfl
theorem zmp_51 : (.selects "WagerQuizModel" ⟨"WagerQuizModel", "replay", "()V"⟩ ⟨"WagerQuizModel", "replay", "()V"⟩ : Cond) ∈ zeBT := zeBT_p (k := 51) (by decide +kernel) rfl
theorem zm_1107 : (.methodLink "WagerQuizModel" 106 ⟨"WagerQuizModel", "value", "(I)I"⟩ : Cond) ∈ zeBT := zeBT_of (k := 1107) (by decide +kernel) rfl
theorem zm_1108 : (.static ⟨"WagerQuizModel", "value", "(I)I"⟩ : Cond) ∈ zeBT := zeBT_of (k := 1108) (by decide +kernel) rfl
theorem zm_1086 : (.instanceMethod ⟨"WagerQuizModel", "checkPick", "(II)I"⟩ : Cond) ∈ zeBT := zeBT_of (k := 1086) (by decide +kernel) rfl
theorem zm_1084 : (.methodLink "WagerQuizModel" 109 ⟨"WagerQuizModel", "checkPick", "(II)I"⟩ : Cond) ∈ zeBT := zeBT_of (k := 1084) (by decide +kernel) rfl
theorem zmp_49 : (.selects "WagerQuizModel" ⟨"WagerQuizModel", "checkPick", "(II)I"⟩ ⟨"WagerQuizModel", "checkPick", "(II)I"⟩ : Cond) ∈ zeBT := zeBT_p (k := 49) (by decide +kernel) rfl
theorem zm_1105 : (.instanceMethod ⟨"WagerQuizModel", "picks", "(I)I"⟩ : Cond) ∈ zeBT := zeBT_of (k := 1105) (by decide +kernel) rfl
theorem zm_1103 : (.methodLink "WagerQuizModel" 113 ⟨"WagerQuizModel", "picks", "(I)I"⟩ : Cond) ∈ zeBT := zeBT_of (k := 1103) (by decide +kernel) rfl
theorem zmp_53 : (.selects "WagerQuizModel" ⟨"WagerQuizModel", "picks", "(I)I"⟩ ⟨"WagerQuizModel", "picks", "(I)I"⟩ : Cond) ∈ zeBT := zeBT_p (k := 53) (by decide +kernel) rfl
theorem zm_424 : (.instanceMethod ⟨"WagerQuiz$PickedClue", "isTold", "(II)Z"⟩ : Cond) ∈ zeBT := zeBT_of (k := 424) (by decide +kernel) rfl
theorem zm_439 : (.methodLink "WagerQuiz$PickedClue" 46 ⟨"WagerQuiz$PickedClue", "isTold", "(II)Z"⟩ : Cond) ∈ zeBT := zeBT_of (k := 439) (by decide +kernel) rfl
theorem zm_425 : (.selects "WagerQuiz$PickedClue" ⟨"WagerQuiz$PickedClue", "isTold", "(II)Z"⟩ ⟨"WagerQuiz$PickedClue", "isTold", "(II)Z"⟩ : Cond) ∈ zeBT := zeBT_of (k := 425) (by decide +kernel) rfl
theorem zm_440 : (.methodLink "WagerQuiz$PickedClue" 50 ⟨"java/lang/Math", "max", "(II)I"⟩ : Cond) ∈ zeBT := zeBT_of (k := 440) (by decide +kernel) rfl
theorem zm_441 : (.static ⟨"java/lang/Math", "max", "(II)I"⟩ : Cond) ∈ zeBT := zeBT_of (k := 441) (by decide +kernel) rfl
theorem zm_16 : (.initialized "java/lang/Math" : Cond) ∈ zeBT := zeBT_of (k := 16) (by decide +kernel) rfl
theorem zm_437 : (.instanceMethod ⟨"WagerQuiz$PickedClue", "endOfLock", "(I)I"⟩ : Cond) ∈ zeBT := zeBT_of (k := 437) (by decide +kernel) rfl
theorem zm_435 : (.methodLink "WagerQuiz$PickedClue" 43 ⟨"WagerQuiz$PickedClue", "endOfLock", "(I)I"⟩ : Cond) ∈ zeBT := zeBT_of (k := 435) (by decide +kernel) rfl
theorem zmp_11 : (.selects "WagerQuiz$PickedClue" ⟨"WagerQuiz$PickedClue", "endOfLock", "(I)I"⟩ ⟨"WagerQuiz$PickedClue", "endOfLock", "(I)I"⟩ : Cond) ∈ zeBT := zeBT_p (k := 11) (by decide +kernel) rfl
theorem zm_433 : (.instanceMethod ⟨"WagerQuiz$PickedClue", "leastCountingTick", "(I)I"⟩ : Cond) ∈ zeBT := zeBT_of (k := 433) (by decide +kernel) rfl
theorem zm_431 : (.methodLink "WagerQuiz$PickedClue" 39 ⟨"WagerQuiz$PickedClue", "leastCountingTick", "(I)I"⟩ : Cond) ∈ zeBT := zeBT_of (k := 431) (by decide +kernel) rfl
theorem zmp_10 : (.selects "WagerQuiz$PickedClue" ⟨"WagerQuiz$PickedClue", "leastCountingTick", "(I)I"⟩ ⟨"WagerQuiz$PickedClue", "leastCountingTick", "(I)I"⟩ : Cond) ∈ zeBT := zeBT_p (k := 10) (by decide +kernel) rfl
theorem zm_50 : (.fieldLink "WagerQuiz" 184 "WagerQuiz$PickedClue" "countingTicks" "[I" : Cond) ∈ zeBT := zeBT_of (k := 50) (by decide +kernel) rfl
theorem zm_48 : (.fieldLink "WagerQuiz" 325 "WagerQuiz$PickedClue" "answered" "I" : Cond) ∈ zeBT := zeBT_of (k := 48) (by decide +kernel) rfl
theorem zm_449 : (.instanceMethod ⟨"WagerQuiz", "isQueued", "(I)Z"⟩ : Cond) ∈ zeBT := zeBT_of (k := 449) (by decide +kernel) rfl
theorem zm_447 : (.methodLink "WagerQuiz" 405 ⟨"WagerQuiz", "isQueued", "(I)Z"⟩ : Cond) ∈ zeBT := zeBT_of (k := 447) (by decide +kernel) rfl
theorem zmp_13 : (.selects "WagerQuiz" ⟨"WagerQuiz", "isQueued", "(I)Z"⟩ ⟨"WagerQuiz", "isQueued", "(I)Z"⟩ : Cond) ∈ zeBT := zeBT_p (k := 13) (by decide +kernel) rfl
theorem zm_423 : (.methodLink "WagerQuiz" 302 ⟨"WagerQuiz$PickedClue", "isTold", "(II)Z"⟩ : Cond) ∈ zeBT := zeBT_of (k := 423) (by decide +kernel) rfl
theorem zm_428 : (.instanceMethod ⟨"WagerQuiz$PickedClue", "tell", "(II)V"⟩ : Cond) ∈ zeBT := zeBT_of (k := 428) (by decide +kernel) rfl
theorem zm_427 : (.methodLink "WagerQuiz" 306 ⟨"WagerQuiz$PickedClue", "tell", "(II)V"⟩ : Cond) ∈ zeBT := zeBT_of (k := 427) (by decide +kernel) rfl
theorem zm_429 : (.selects "WagerQuiz$PickedClue" ⟨"WagerQuiz$PickedClue", "tell", "(II)V"⟩ ⟨"WagerQuiz$PickedClue", "tell", "(II)V"⟩ : Cond) ∈ zeBT := zeBT_of (k := 429) (by decide +kernel) rfl
theorem zm_445 : (.instanceMethod ⟨"WagerQuiz", "queueLength", "()I"⟩ : Cond) ∈ zeBT := zeBT_of (k := 445) (by decide +kernel) rfl
theorem zm_443 : (.methodLink "WagerQuiz" 310 ⟨"WagerQuiz", "queueLength", "()I"⟩ : Cond) ∈ zeBT := zeBT_of (k := 443) (by decide +kernel) rfl
theorem zmp_12 : (.selects "WagerQuiz" ⟨"WagerQuiz", "queueLength", "()I"⟩ ⟨"WagerQuiz", "queueLength", "()I"⟩ : Cond) ∈ zeBT := zeBT_p (k := 12) (by decide +kernel) rfl
theorem zm_421 : (.instanceMethod ⟨"WagerQuiz", "doBuzz", "(II)I"⟩ : Cond) ∈ zeBT := zeBT_of (k := 421) (by decide +kernel) rfl
theorem zm_419 : (.methodLink "WagerQuiz" 79 ⟨"WagerQuiz", "doBuzz", "(II)I"⟩ : Cond) ∈ zeBT := zeBT_of (k := 419) (by decide +kernel) rfl
theorem zmp_9 : (.selects "WagerQuiz" ⟨"WagerQuiz", "doBuzz", "(II)I"⟩ ⟨"WagerQuiz", "doBuzz", "(II)I"⟩ : Cond) ∈ zeBT := zeBT_p (k := 9) (by decide +kernel) rfl
theorem zm_1120 : (.instanceMethod ⟨"WagerQuizModel", "hasBuzzed", "(II)Z"⟩ : Cond) ∈ zeBT := zeBT_of (k := 1120) (by decide +kernel) rfl
theorem zm_1118 : (.methodLink "WagerQuizModel" 116 ⟨"WagerQuizModel", "hasBuzzed", "(II)Z"⟩ : Cond) ∈ zeBT := zeBT_of (k := 1118) (by decide +kernel) rfl
theorem zmp_55 : (.selects "WagerQuizModel" ⟨"WagerQuizModel", "hasBuzzed", "(II)Z"⟩ ⟨"WagerQuizModel", "hasBuzzed", "(II)Z"⟩ : Cond) ∈ zeBT := zeBT_p (k := 55) (by decide +kernel) rfl
theorem zm_1132 : (.instanceMethod ⟨"WagerQuizModel", "counting", "(I)I"⟩ : Cond) ∈ zeBT := zeBT_of (k := 1132) (by decide +kernel) rfl
theorem zm_1130 : (.methodLink "WagerQuizModel" 130 ⟨"WagerQuizModel", "counting", "(I)I"⟩ : Cond) ∈ zeBT := zeBT_of (k := 1130) (by decide +kernel) rfl
theorem zmp_58 : (.selects "WagerQuizModel" ⟨"WagerQuizModel", "counting", "(I)I"⟩ ⟨"WagerQuizModel", "counting", "(I)I"⟩ : Cond) ∈ zeBT := zeBT_p (k := 58) (by decide +kernel) rfl
theorem zm_1136 : (.instanceMethod ⟨"WagerQuizModel", "isAhead", "(III)Z"⟩ : Cond) ∈ zeBT := zeBT_of (k := 1136) (by decide +kernel) rfl
theorem zm_1134 : (.methodLink "WagerQuizModel" 133 ⟨"WagerQuizModel", "isAhead", "(III)Z"⟩ : Cond) ∈ zeBT := zeBT_of (k := 1134) (by decide +kernel) rfl
theorem zmp_59 : (.selects "WagerQuizModel" ⟨"WagerQuizModel", "isAhead", "(III)Z"⟩ ⟨"WagerQuizModel", "isAhead", "(III)Z"⟩ : Cond) ∈ zeBT := zeBT_p (k := 59) (by decide +kernel) rfl
theorem zm_1128 : (.instanceMethod ⟨"WagerQuizModel", "queue", "()I"⟩ : Cond) ∈ zeBT := zeBT_of (k := 1128) (by decide +kernel) rfl
theorem zm_1126 : (.methodLink "WagerQuizModel" 120 ⟨"WagerQuizModel", "queue", "()I"⟩ : Cond) ∈ zeBT := zeBT_of (k := 1126) (by decide +kernel) rfl
theorem zmp_57 : (.selects "WagerQuizModel" ⟨"WagerQuizModel", "queue", "()I"⟩ ⟨"WagerQuizModel", "queue", "()I"⟩ : Cond) ∈ zeBT := zeBT_p (k := 57) (by decide +kernel) rfl
theorem zm_1116 : (.instanceMethod ⟨"WagerQuizModel", "checkBuzz", "(II)I"⟩ : Cond) ∈ zeBT := zeBT_of (k := 1116) (by decide +kernel) rfl
theorem zm_1114 : (.methodLink "WagerQuizModel" 124 ⟨"WagerQuizModel", "checkBuzz", "(II)I"⟩ : Cond) ∈ zeBT := zeBT_of (k := 1114) (by decide +kernel) rfl
theorem zmp_54 : (.selects "WagerQuizModel" ⟨"WagerQuizModel", "checkBuzz", "(II)I"⟩ ⟨"WagerQuizModel", "checkBuzz", "(II)I"⟩ : Cond) ∈ zeBT := zeBT_p (k := 54) (by decide +kernel) rfl
theorem zm_1124 : (.instanceMethod ⟨"WagerQuizModel", "buzzes", "(II)I"⟩ : Cond) ∈ zeBT := zeBT_of (k := 1124) (by decide +kernel) rfl
theorem zm_1122 : (.methodLink "WagerQuizModel" 127 ⟨"WagerQuizModel", "buzzes", "(II)I"⟩ : Cond) ∈ zeBT := zeBT_of (k := 1122) (by decide +kernel) rfl
theorem zmp_56 : (.selects "WagerQuizModel" ⟨"WagerQuizModel", "buzzes", "(II)I"⟩ ⟨"WagerQuizModel", "buzzes", "(II)I"⟩ : Cond) ∈ zeBT := zeBT_p (k := 56) (by decide +kernel) rfl
theorem zm_172 : (.fieldLink "WagerQuiz" 103 "WagerQuiz$Replay" "scores" "[I" : Cond) ∈ zeBT := zeBT_of (k := 172) (by decide +kernel) rfl
theorem zm_473 : (.instanceMethod ⟨"WagerQuiz", "isQueuedAhead", "(II)Z"⟩ : Cond) ∈ zeBT := zeBT_of (k := 473) (by decide +kernel) rfl
theorem zm_471 : (.methodLink "WagerQuiz" 408 ⟨"WagerQuiz", "isQueuedAhead", "(II)Z"⟩ : Cond) ∈ zeBT := zeBT_of (k := 471) (by decide +kernel) rfl
theorem zmp_18 : (.selects "WagerQuiz" ⟨"WagerQuiz", "isQueuedAhead", "(II)Z"⟩ ⟨"WagerQuiz", "isQueuedAhead", "(II)Z"⟩ : Cond) ∈ zeBT := zeBT_p (k := 18) (by decide +kernel) rfl
theorem zm_469 : (.instanceMethod ⟨"WagerQuiz", "queuePlaceOf", "(I)I"⟩ : Cond) ∈ zeBT := zeBT_of (k := 469) (by decide +kernel) rfl
theorem zm_467 : (.methodLink "WagerQuiz" 411 ⟨"WagerQuiz", "queuePlaceOf", "(I)I"⟩ : Cond) ∈ zeBT := zeBT_of (k := 467) (by decide +kernel) rfl
theorem zmp_17 : (.selects "WagerQuiz" ⟨"WagerQuiz", "queuePlaceOf", "(I)I"⟩ ⟨"WagerQuiz", "queuePlaceOf", "(I)I"⟩ : Cond) ∈ zeBT := zeBT_p (k := 17) (by decide +kernel) rfl
theorem zm_476 : (.instanceMethod ⟨"WagerQuiz$Log", "isFull", "()Z"⟩ : Cond) ∈ zeBT := zeBT_of (k := 476) (by decide +kernel) rfl
theorem zm_483 : (.methodLink "WagerQuiz$Log" 31 ⟨"WagerQuiz$Log", "isFull", "()Z"⟩ : Cond) ∈ zeBT := zeBT_of (k := 483) (by decide +kernel) rfl
theorem zm_477 : (.selects "WagerQuiz$Log" ⟨"WagerQuiz$Log", "isFull", "()Z"⟩ ⟨"WagerQuiz$Log", "isFull", "()Z"⟩ : Cond) ∈ zeBT := zeBT_of (k := 477) (by decide +kernel) rfl
theorem zm_504 : (.methodLink "WagerQuiz$Replay" 83 ⟨"java/lang/Math", "max", "(II)I"⟩ : Cond) ∈ zeBT := zeBT_of (k := 504) (by decide +kernel) rfl
theorem zm_505 : (.methodLink "WagerQuiz$Replay" 89 ⟨"java/lang/Math", "min", "(II)I"⟩ : Cond) ∈ zeBT := zeBT_of (k := 505) (by decide +kernel) rfl
theorem zm_506 : (.static ⟨"java/lang/Math", "min", "(II)I"⟩ : Cond) ∈ zeBT := zeBT_of (k := 506) (by decide +kernel) rfl
theorem zm_169 : (.fieldLink "WagerQuiz$Replay" 41 "WagerQuiz$Replay" "control" "I" : Cond) ∈ zeBT := zeBT_of (k := 169) (by decide +kernel) rfl
theorem zm_102 : (.fieldLink "WagerQuiz$Replay" 54 "WagerQuiz$Log" "players" "[I" : Cond) ∈ zeBT := zeBT_of (k := 102) (by decide +kernel) rfl
theorem zm_111 : (.fieldLink "WagerQuiz$Replay" 57 "WagerQuiz$Log" "amounts" "[I" : Cond) ∈ zeBT := zeBT_of (k := 111) (by decide +kernel) rfl
theorem zm_105 : (.fieldLink "WagerQuiz$Replay" 58 "WagerQuiz$Log" "sorts" "[I" : Cond) ∈ zeBT := zeBT_of (k := 105) (by decide +kernel) rfl
theorem zm_108 : (.fieldLink "WagerQuiz$Replay" 61 "WagerQuiz$Log" "clues" "[I" : Cond) ∈ zeBT := zeBT_of (k := 108) (by decide +kernel) rfl
theorem zm_498 : (.instanceMethod ⟨"WagerQuiz$Replay", "solverOf", "(I)I"⟩ : Cond) ∈ zeBT := zeBT_of (k := 498) (by decide +kernel) rfl
theorem zm_496 : (.methodLink "WagerQuiz$Replay" 64 ⟨"WagerQuiz$Replay", "solverOf", "(I)I"⟩ : Cond) ∈ zeBT := zeBT_of (k := 496) (by decide +kernel) rfl
theorem zmp_21 : (.selects "WagerQuiz$Replay" ⟨"WagerQuiz$Replay", "solverOf", "(I)I"⟩ ⟨"WagerQuiz$Replay", "solverOf", "(I)I"⟩ : Cond) ∈ zeBT := zeBT_p (k := 21) (by decide +kernel) rfl
theorem zm_501 : (.methodLink "WagerQuiz$Replay" 68 ⟨"WagerQuiz$Replay", "limited", "(III)I"⟩ : Cond) ∈ zeBT := zeBT_of (k := 501) (by decide +kernel) rfl
theorem zm_502 : (.static ⟨"WagerQuiz$Replay", "limited", "(III)I"⟩ : Cond) ∈ zeBT := zeBT_of (k := 502) (by decide +kernel) rfl
theorem zm_114 : (.fieldLink "WagerQuiz$Replay" 72 "WagerQuiz$Log" "judgements" "[I" : Cond) ∈ zeBT := zeBT_of (k := 114) (by decide +kernel) rfl
theorem zm_510 : (.instanceMethod ⟨"WagerQuiz$Replay", "noteRight", "(II)V"⟩ : Cond) ∈ zeBT := zeBT_of (k := 510) (by decide +kernel) rfl
theorem zm_508 : (.methodLink "WagerQuiz$Replay" 75 ⟨"WagerQuiz$Replay", "noteRight", "(II)V"⟩ : Cond) ∈ zeBT := zeBT_of (k := 508) (by decide +kernel) rfl
theorem zmp_22 : (.selects "WagerQuiz$Replay" ⟨"WagerQuiz$Replay", "noteRight", "(II)V"⟩ ⟨"WagerQuiz$Replay", "noteRight", "(II)V"⟩ : Cond) ∈ zeBT := zeBT_p (k := 22) (by decide +kernel) rfl
theorem zm_99 : (.fieldLink "WagerQuiz$Replay" 45 "WagerQuiz$Log" "size" "I" : Cond) ∈ zeBT := zeBT_of (k := 99) (by decide +kernel) rfl
theorem zm_494 : (.instanceMethod ⟨"WagerQuiz$Replay", "replayEntry", "(LWagerQuiz$Log;I)V"⟩ : Cond) ∈ zeBT := zeBT_of (k := 494) (by decide +kernel) rfl
theorem zm_492 : (.methodLink "WagerQuiz$Replay" 50 ⟨"WagerQuiz$Replay", "replayEntry", "(LWagerQuiz$Log;I)V"⟩ : Cond) ∈ zeBT := zeBT_of (k := 492) (by decide +kernel) rfl
theorem zmp_20 : (.selects "WagerQuiz$Replay" ⟨"WagerQuiz$Replay", "replayEntry", "(LWagerQuiz$Log;I)V"⟩ ⟨"WagerQuiz$Replay", "replayEntry", "(LWagerQuiz$Log;I)V"⟩ : Cond) ∈ zeBT := zeBT_p (k := 20) (by decide +kernel) rfl
theorem zm_144 : (.fieldLink "WagerQuiz" 158 "WagerQuiz$State" "log" "LWagerQuiz$Log;" : Cond) ∈ zeBT := zeBT_of (k := 144) (by decide +kernel) rfl
theorem zm_489 : (.instanceMethod ⟨"WagerQuiz$Replay", "run", "(LWagerQuiz$Log;)V"⟩ : Cond) ∈ zeBT := zeBT_of (k := 489) (by decide +kernel) rfl
theorem zm_488 : (.methodLink "WagerQuiz" 362 ⟨"WagerQuiz$Replay", "run", "(LWagerQuiz$Log;)V"⟩ : Cond) ∈ zeBT := zeBT_of (k := 488) (by decide +kernel) rfl
theorem zm_490 : (.selects "WagerQuiz$Replay" ⟨"WagerQuiz$Replay", "run", "(LWagerQuiz$Log;)V"⟩ ⟨"WagerQuiz$Replay", "run", "(LWagerQuiz$Log;)V"⟩ : Cond) ∈ zeBT := zeBT_of (k := 490) (by decide +kernel) rfl
theorem zm_465 : (.instanceMethod ⟨"WagerQuiz", "playerInQueue", "(I)I"⟩ : Cond) ∈ zeBT := zeBT_of (k := 465) (by decide +kernel) rfl
theorem zm_463 : (.methodLink "WagerQuiz" 205 ⟨"WagerQuiz", "playerInQueue", "(I)I"⟩ : Cond) ∈ zeBT := zeBT_of (k := 463) (by decide +kernel) rfl
theorem zmp_16 : (.selects "WagerQuiz" ⟨"WagerQuiz", "playerInQueue", "(I)I"⟩ ⟨"WagerQuiz", "playerInQueue", "(I)I"⟩ : Cond) ∈ zeBT := zeBT_p (k := 16) (by decide +kernel) rfl
theorem zm_475 : (.methodLink "WagerQuiz" 322 ⟨"WagerQuiz$Log", "isFull", "()Z"⟩ : Cond) ∈ zeBT := zeBT_of (k := 475) (by decide +kernel) rfl
theorem zm_42 : (.fieldLink "WagerQuiz" 262 "WagerQuiz$PickedClue" "clue" "I" : Cond) ∈ zeBT := zeBT_of (k := 42) (by decide +kernel) rfl
theorem zm_480 : (.instanceMethod ⟨"WagerQuiz$Log", "append", "(IIIII)V"⟩ : Cond) ∈ zeBT := zeBT_of (k := 480) (by decide +kernel) rfl
theorem zm_479 : (.methodLink "WagerQuiz" 328 ⟨"WagerQuiz$Log", "append", "(IIIII)V"⟩ : Cond) ∈ zeBT := zeBT_of (k := 479) (by decide +kernel) rfl
theorem zm_481 : (.selects "WagerQuiz$Log" ⟨"WagerQuiz$Log", "append", "(IIIII)V"⟩ ⟨"WagerQuiz$Log", "append", "(IIIII)V"⟩ : Cond) ∈ zeBT := zeBT_of (k := 481) (by decide +kernel) rfl
theorem zm_486 : (.instanceMethod ⟨"WagerQuiz", "replayedScore", "(I)I"⟩ : Cond) ∈ zeBT := zeBT_of (k := 486) (by decide +kernel) rfl
theorem zm_484 : (.methodLink "WagerQuiz" 331 ⟨"WagerQuiz", "replayedScore", "(I)I"⟩ : Cond) ∈ zeBT := zeBT_of (k := 484) (by decide +kernel) rfl
theorem zmp_19 : (.selects "WagerQuiz" ⟨"WagerQuiz", "replayedScore", "(I)I"⟩ ⟨"WagerQuiz", "replayedScore", "(I)I"⟩ : Cond) ∈ zeBT := zeBT_p (k := 19) (by decide +kernel) rfl
theorem zm_46 : (.fieldLink "WagerQuiz" 337 "WagerQuiz$PickedClue" "wager" "I" : Cond) ∈ zeBT := zeBT_of (k := 46) (by decide +kernel) rfl
theorem zm_530 : (.instanceMethod ⟨"WagerQuiz$FinalRound", "isEarlier", "(II)Z"⟩ : Cond) ∈ zeBT := zeBT_of (k := 530) (by decide +kernel) rfl
theorem zm_528 : (.methodLink "WagerQuiz$FinalRound" 37 ⟨"WagerQuiz$FinalRound", "isEarlier", "(II)Z"⟩ : Cond) ∈ zeBT := zeBT_of (k := 528) (by decide +kernel) rfl
theorem zmp_26 : (.selects "WagerQuiz$FinalRound" ⟨"WagerQuiz$FinalRound", "isEarlier", "(II)Z"⟩ ⟨"WagerQuiz$FinalRound", "isEarlier", "(II)Z"⟩ : Cond) ∈ zeBT := zeBT_p (k := 26) (by decide +kernel) rfl
theorem zm_526 : (.instanceMethod ⟨"WagerQuiz$FinalRound", "turnOf", "(I)I"⟩ : Cond) ∈ zeBT := zeBT_of (k := 526) (by decide +kernel) rfl
theorem zm_524 : (.methodLink "WagerQuiz$FinalRound" 29 ⟨"WagerQuiz$FinalRound", "turnOf", "(I)I"⟩ : Cond) ∈ zeBT := zeBT_of (k := 524) (by decide +kernel) rfl
theorem zmp_25 : (.selects "WagerQuiz$FinalRound" ⟨"WagerQuiz$FinalRound", "turnOf", "(I)I"⟩ ⟨"WagerQuiz$FinalRound", "turnOf", "(I)I"⟩ : Cond) ∈ zeBT := zeBT_p (k := 25) (by decide +kernel) rfl
theorem zm_142 : (.fieldLink "WagerQuiz" 189 "WagerQuiz$State" "finale" "LWagerQuiz$FinalRound;" : Cond) ∈ zeBT := zeBT_of (k := 142) (by decide +kernel) rfl
theorem zm_521 : (.instanceMethod ⟨"WagerQuiz$FinalRound", "nextToAnswer", "()I"⟩ : Cond) ∈ zeBT := zeBT_of (k := 521) (by decide +kernel) rfl
theorem zm_520 : (.methodLink "WagerQuiz" 277 ⟨"WagerQuiz$FinalRound", "nextToAnswer", "()I"⟩ : Cond) ∈ zeBT := zeBT_of (k := 520) (by decide +kernel) rfl
theorem zm_522 : (.selects "WagerQuiz$FinalRound" ⟨"WagerQuiz$FinalRound", "nextToAnswer", "()I"⟩ ⟨"WagerQuiz$FinalRound", "nextToAnswer", "()I"⟩ : Cond) ∈ zeBT := zeBT_of (k := 522) (by decide +kernel) rfl
theorem zm_84 : (.fieldLink "WagerQuiz" 193 "WagerQuiz$FinalRound" "wagers" "[I" : Cond) ∈ zeBT := zeBT_of (k := 84) (by decide +kernel) rfl
theorem zm_80 : (.fieldLink "WagerQuiz" 340 "WagerQuiz$FinalRound" "answers" "I" : Cond) ∈ zeBT := zeBT_of (k := 80) (by decide +kernel) rfl
theorem zm_533 : (.instanceMethod ⟨"WagerQuiz$FinalRound", "members", "()I"⟩ : Cond) ∈ zeBT := zeBT_of (k := 533) (by decide +kernel) rfl
theorem zm_532 : (.methodLink "WagerQuiz" 343 ⟨"WagerQuiz$FinalRound", "members", "()I"⟩ : Cond) ∈ zeBT := zeBT_of (k := 532) (by decide +kernel) rfl
theorem zm_534 : (.selects "WagerQuiz$FinalRound" ⟨"WagerQuiz$FinalRound", "members", "()I"⟩ ⟨"WagerQuiz$FinalRound", "members", "()I"⟩ : Cond) ∈ zeBT := zeBT_of (k := 534) (by decide +kernel) rfl
theorem zm_461 : (.instanceMethod ⟨"WagerQuiz", "answerOpenClue", "(Z)I"⟩ : Cond) ∈ zeBT := zeBT_of (k := 461) (by decide +kernel) rfl
theorem zm_459 : (.methodLink "WagerQuiz" 313 ⟨"WagerQuiz", "answerOpenClue", "(Z)I"⟩ : Cond) ∈ zeBT := zeBT_of (k := 459) (by decide +kernel) rfl
theorem zmp_15 : (.selects "WagerQuiz" ⟨"WagerQuiz", "answerOpenClue", "(Z)I"⟩ ⟨"WagerQuiz", "answerOpenClue", "(Z)I"⟩ : Cond) ∈ zeBT := zeBT_p (k := 15) (by decide +kernel) rfl
theorem zm_514 : (.instanceMethod ⟨"WagerQuiz", "answerWagerClue", "(Z)I"⟩ : Cond) ∈ zeBT := zeBT_of (k := 514) (by decide +kernel) rfl
theorem zm_512 : (.methodLink "WagerQuiz" 316 ⟨"WagerQuiz", "answerWagerClue", "(Z)I"⟩ : Cond) ∈ zeBT := zeBT_of (k := 512) (by decide +kernel) rfl
theorem zmp_23 : (.selects "WagerQuiz" ⟨"WagerQuiz", "answerWagerClue", "(Z)I"⟩ ⟨"WagerQuiz", "answerWagerClue", "(Z)I"⟩ : Cond) ∈ zeBT := zeBT_p (k := 23) (by decide +kernel) rfl
theorem zm_518 : (.instanceMethod ⟨"WagerQuiz", "answerFinal", "(Z)I"⟩ : Cond) ∈ zeBT := zeBT_of (k := 518) (by decide +kernel) rfl
theorem zm_516 : (.methodLink "WagerQuiz" 319 ⟨"WagerQuiz", "answerFinal", "(Z)I"⟩ : Cond) ∈ zeBT := zeBT_of (k := 516) (by decide +kernel) rfl
theorem zmp_24 : (.selects "WagerQuiz" ⟨"WagerQuiz", "answerFinal", "(Z)I"⟩ ⟨"WagerQuiz", "answerFinal", "(Z)I"⟩ : Cond) ∈ zeBT := zeBT_p (k := 24) (by decide +kernel) rfl
theorem zm_457 : (.instanceMethod ⟨"WagerQuiz", "doAnswer", "(Z)I"⟩ : Cond) ∈ zeBT := zeBT_of (k := 457) (by decide +kernel) rfl
theorem zm_455 : (.methodLink "WagerQuiz" 82 ⟨"WagerQuiz", "doAnswer", "(Z)I"⟩ : Cond) ∈ zeBT := zeBT_of (k := 455) (by decide +kernel) rfl
theorem zmp_14 : (.selects "WagerQuiz" ⟨"WagerQuiz", "doAnswer", "(Z)I"⟩ ⟨"WagerQuiz", "doAnswer", "(Z)I"⟩ : Cond) ∈ zeBT := zeBT_p (k := 14) (by decide +kernel) rfl
theorem zm_1152 : (.instanceMethod ⟨"WagerQuizModel", "nextFinal", "()I"⟩ : Cond) ∈ zeBT := zeBT_of (k := 1152) (by decide +kernel) rfl
theorem zm_1150 : (.methodLink "WagerQuizModel" 136 ⟨"WagerQuizModel", "nextFinal", "()I"⟩ : Cond) ∈ zeBT := zeBT_of (k := 1150) (by decide +kernel) rfl
theorem zmp_62 : (.selects "WagerQuizModel" ⟨"WagerQuizModel", "nextFinal", "()I"⟩ ⟨"WagerQuizModel", "nextFinal", "()I"⟩ : Cond) ∈ zeBT := zeBT_p (k := 62) (by decide +kernel) rfl
theorem zm_1156 : (.instanceMethod ⟨"WagerQuizModel", "enter", "(IIIII)V"⟩ : Cond) ∈ zeBT := zeBT_of (k := 1156) (by decide +kernel) rfl
theorem zm_1154 : (.methodLink "WagerQuizModel" 139 ⟨"WagerQuizModel", "enter", "(IIIII)V"⟩ : Cond) ∈ zeBT := zeBT_of (k := 1154) (by decide +kernel) rfl
theorem zmp_63 : (.selects "WagerQuizModel" ⟨"WagerQuizModel", "enter", "(IIIII)V"⟩ ⟨"WagerQuizModel", "enter", "(IIIII)V"⟩ : Cond) ∈ zeBT := zeBT_p (k := 63) (by decide +kernel) rfl
theorem zm_1144 : (.instanceMethod ⟨"WagerQuizModel", "checkAnswer", "()I"⟩ : Cond) ∈ zeBT := zeBT_of (k := 1144) (by decide +kernel) rfl
theorem zm_1142 : (.methodLink "WagerQuizModel" 143 ⟨"WagerQuizModel", "checkAnswer", "()I"⟩ : Cond) ∈ zeBT := zeBT_of (k := 1142) (by decide +kernel) rfl
theorem zmp_60 : (.selects "WagerQuizModel" ⟨"WagerQuizModel", "checkAnswer", "()I"⟩ ⟨"WagerQuizModel", "checkAnswer", "()I"⟩ : Cond) ∈ zeBT := zeBT_p (k := 60) (by decide +kernel) rfl
theorem zm_1148 : (.instanceMethod ⟨"WagerQuizModel", "answers", "(I)I"⟩ : Cond) ∈ zeBT := zeBT_of (k := 1148) (by decide +kernel) rfl
theorem zm_1146 : (.methodLink "WagerQuizModel" 146 ⟨"WagerQuizModel", "answers", "(I)I"⟩ : Cond) ∈ zeBT := zeBT_of (k := 1146) (by decide +kernel) rfl
theorem zmp_61 : (.selects "WagerQuizModel" ⟨"WagerQuizModel", "answers", "(I)I"⟩ ⟨"WagerQuizModel", "answers", "(I)I"⟩ : Cond) ∈ zeBT := zeBT_p (k := 61) (by decide +kernel) rfl
theorem zm_542 : (.instanceMethod ⟨"WagerQuiz", "doClose", "()I"⟩ : Cond) ∈ zeBT := zeBT_of (k := 542) (by decide +kernel) rfl
theorem zm_540 : (.methodLink "WagerQuiz" 86 ⟨"WagerQuiz", "doClose", "()I"⟩ : Cond) ∈ zeBT := zeBT_of (k := 540) (by decide +kernel) rfl
theorem zmp_27 : (.selects "WagerQuiz" ⟨"WagerQuiz", "doClose", "()I"⟩ ⟨"WagerQuiz", "doClose", "()I"⟩ : Cond) ∈ zeBT := zeBT_p (k := 27) (by decide +kernel) rfl
theorem zm_1164 : (.instanceMethod ⟨"WagerQuizModel", "checkClose", "()I"⟩ : Cond) ∈ zeBT := zeBT_of (k := 1164) (by decide +kernel) rfl
theorem zm_1162 : (.methodLink "WagerQuizModel" 149 ⟨"WagerQuizModel", "checkClose", "()I"⟩ : Cond) ∈ zeBT := zeBT_of (k := 1162) (by decide +kernel) rfl
theorem zmp_64 : (.selects "WagerQuizModel" ⟨"WagerQuizModel", "checkClose", "()I"⟩ ⟨"WagerQuizModel", "checkClose", "()I"⟩ : Cond) ∈ zeBT := zeBT_p (k := 64) (by decide +kernel) rfl
theorem zm_1168 : (.instanceMethod ⟨"WagerQuizModel", "closes", "()I"⟩ : Cond) ∈ zeBT := zeBT_of (k := 1168) (by decide +kernel) rfl
theorem zm_1166 : (.methodLink "WagerQuizModel" 152 ⟨"WagerQuizModel", "closes", "()I"⟩ : Cond) ∈ zeBT := zeBT_of (k := 1166) (by decide +kernel) rfl
theorem zmp_65 : (.selects "WagerQuizModel" ⟨"WagerQuizModel", "closes", "()I"⟩ ⟨"WagerQuizModel", "closes", "()I"⟩ : Cond) ∈ zeBT := zeBT_p (k := 65) (by decide +kernel) rfl
theorem zm_552 : (.constant "WagerQuiz" 346 (100000) : Cond) ∈ zeBT := zeBT_of (k := 552) (by decide +kernel) rfl
theorem zm_553 : (.methodLink "WagerQuiz" 114 ⟨"java/lang/Math", "max", "(II)I"⟩ : Cond) ∈ zeBT := zeBT_of (k := 553) (by decide +kernel) rfl
theorem zm_550 : (.instanceMethod ⟨"WagerQuiz", "doWager", "(I)I"⟩ : Cond) ∈ zeBT := zeBT_of (k := 550) (by decide +kernel) rfl
theorem zm_548 : (.methodLink "WagerQuiz" 89 ⟨"WagerQuiz", "doWager", "(I)I"⟩ : Cond) ∈ zeBT := zeBT_of (k := 548) (by decide +kernel) rfl
theorem zmp_28 : (.selects "WagerQuiz" ⟨"WagerQuiz", "doWager", "(I)I"⟩ ⟨"WagerQuiz", "doWager", "(I)I"⟩ : Cond) ∈ zeBT := zeBT_p (k := 28) (by decide +kernel) rfl
theorem zm_1178 : (.constant "WagerQuizModel" 155 (100000) : Cond) ∈ zeBT := zeBT_of (k := 1178) (by decide +kernel) rfl
theorem zm_1181 : (.instanceMethod ⟨"WagerQuizModel", "limit", "()I"⟩ : Cond) ∈ zeBT := zeBT_of (k := 1181) (by decide +kernel) rfl
theorem zm_1179 : (.methodLink "WagerQuizModel" 156 ⟨"WagerQuizModel", "limit", "()I"⟩ : Cond) ∈ zeBT := zeBT_of (k := 1179) (by decide +kernel) rfl
theorem zmp_67 : (.selects "WagerQuizModel" ⟨"WagerQuizModel", "limit", "()I"⟩ ⟨"WagerQuizModel", "limit", "()I"⟩ : Cond) ∈ zeBT := zeBT_p (k := 67) (by decide +kernel) rfl
theorem zm_1176 : (.instanceMethod ⟨"WagerQuizModel", "checkWager", "(I)I"⟩ : Cond) ∈ zeBT := zeBT_of (k := 1176) (by decide +kernel) rfl
theorem zm_1174 : (.methodLink "WagerQuizModel" 159 ⟨"WagerQuizModel", "checkWager", "(I)I"⟩ : Cond) ∈ zeBT := zeBT_of (k := 1174) (by decide +kernel) rfl
theorem zmp_66 : (.selects "WagerQuizModel" ⟨"WagerQuizModel", "checkWager", "(I)I"⟩ ⟨"WagerQuizModel", "checkWager", "(I)I"⟩ : Cond) ∈ zeBT := zeBT_p (k := 66) (by decide +kernel) rfl
theorem zm_1185 : (.instanceMethod ⟨"WagerQuizModel", "tellsWager", "(I)I"⟩ : Cond) ∈ zeBT := zeBT_of (k := 1185) (by decide +kernel) rfl
theorem zm_1183 : (.methodLink "WagerQuizModel" 162 ⟨"WagerQuizModel", "tellsWager", "(I)I"⟩ : Cond) ∈ zeBT := zeBT_of (k := 1183) (by decide +kernel) rfl
theorem zmp_68 : (.selects "WagerQuizModel" ⟨"WagerQuizModel", "tellsWager", "(I)I"⟩ ⟨"WagerQuizModel", "tellsWager", "(I)I"⟩ : Cond) ∈ zeBT := zeBT_p (k := 68) (by decide +kernel) rfl
theorem zm_566 : (.methodLink "WagerQuiz$FinalRound" 19 ⟨"java/lang/Math", "max", "(II)I"⟩ : Cond) ∈ zeBT := zeBT_of (k := 566) (by decide +kernel) rfl
theorem zm_563 : (.instanceMethod ⟨"WagerQuiz$FinalRound", "begin", "([I)V"⟩ : Cond) ∈ zeBT := zeBT_of (k := 563) (by decide +kernel) rfl
theorem zm_562 : (.methodLink "WagerQuiz" 347 ⟨"WagerQuiz$FinalRound", "begin", "([I)V"⟩ : Cond) ∈ zeBT := zeBT_of (k := 562) (by decide +kernel) rfl
theorem zm_564 : (.selects "WagerQuiz$FinalRound" ⟨"WagerQuiz$FinalRound", "begin", "([I)V"⟩ ⟨"WagerQuiz$FinalRound", "begin", "([I)V"⟩ : Cond) ∈ zeBT := zeBT_of (k := 564) (by decide +kernel) rfl
theorem zm_560 : (.instanceMethod ⟨"WagerQuiz", "doBeginFinal", "()I"⟩ : Cond) ∈ zeBT := zeBT_of (k := 560) (by decide +kernel) rfl
theorem zm_558 : (.methodLink "WagerQuiz" 92 ⟨"WagerQuiz", "doBeginFinal", "()I"⟩ : Cond) ∈ zeBT := zeBT_of (k := 558) (by decide +kernel) rfl
theorem zmp_29 : (.selects "WagerQuiz" ⟨"WagerQuiz", "doBeginFinal", "()I"⟩ ⟨"WagerQuiz", "doBeginFinal", "()I"⟩ : Cond) ∈ zeBT := zeBT_p (k := 29) (by decide +kernel) rfl
theorem zm_576 : (.instanceMethod ⟨"WagerQuiz$FinalRound", "isWagerWanting", "(I)Z"⟩ : Cond) ∈ zeBT := zeBT_of (k := 576) (by decide +kernel) rfl
theorem zm_583 : (.methodLink "WagerQuiz$FinalRound" 25 ⟨"WagerQuiz$FinalRound", "isWagerWanting", "(I)Z"⟩ : Cond) ∈ zeBT := zeBT_of (k := 583) (by decide +kernel) rfl
theorem zm_577 : (.selects "WagerQuiz$FinalRound" ⟨"WagerQuiz$FinalRound", "isWagerWanting", "(I)Z"⟩ ⟨"WagerQuiz$FinalRound", "isWagerWanting", "(I)Z"⟩ : Cond) ∈ zeBT := zeBT_of (k := 577) (by decide +kernel) rfl
theorem zm_575 : (.methodLink "WagerQuiz" 350 ⟨"WagerQuiz$FinalRound", "isWagerWanting", "(I)Z"⟩ : Cond) ∈ zeBT := zeBT_of (k := 575) (by decide +kernel) rfl
theorem zm_82 : (.fieldLink "WagerQuiz" 353 "WagerQuiz$FinalRound" "startScores" "[I" : Cond) ∈ zeBT := zeBT_of (k := 82) (by decide +kernel) rfl
theorem zm_580 : (.instanceMethod ⟨"WagerQuiz$FinalRound", "wagersWanting", "()I"⟩ : Cond) ∈ zeBT := zeBT_of (k := 580) (by decide +kernel) rfl
theorem zm_579 : (.methodLink "WagerQuiz" 356 ⟨"WagerQuiz$FinalRound", "wagersWanting", "()I"⟩ : Cond) ∈ zeBT := zeBT_of (k := 579) (by decide +kernel) rfl
theorem zm_581 : (.selects "WagerQuiz$FinalRound" ⟨"WagerQuiz$FinalRound", "wagersWanting", "()I"⟩ ⟨"WagerQuiz$FinalRound", "wagersWanting", "()I"⟩ : Cond) ∈ zeBT := zeBT_of (k := 581) (by decide +kernel) rfl
theorem zm_573 : (.instanceMethod ⟨"WagerQuiz", "doWagerFinal", "(II)I"⟩ : Cond) ∈ zeBT := zeBT_of (k := 573) (by decide +kernel) rfl
theorem zm_571 : (.methodLink "WagerQuiz" 95 ⟨"WagerQuiz", "doWagerFinal", "(II)I"⟩ : Cond) ∈ zeBT := zeBT_of (k := 571) (by decide +kernel) rfl
theorem zmp_30 : (.selects "WagerQuiz" ⟨"WagerQuiz", "doWagerFinal", "(II)I"⟩ ⟨"WagerQuiz", "doWagerFinal", "(II)I"⟩ : Cond) ∈ zeBT := zeBT_p (k := 30) (by decide +kernel) rfl
theorem zm_588 : (.methodLink "WagerQuiz" 111 ⟨"WagerQuiz", "doubled", "(I)I"⟩ : Cond) ∈ zeBT := zeBT_of (k := 588) (by decide +kernel) rfl
theorem zm_589 : (.static ⟨"WagerQuiz", "doubled", "(I)I"⟩ : Cond) ∈ zeBT := zeBT_of (k := 589) (by decide +kernel) rfl
theorem zm_1199 : (.constant "WagerQuizModel" 165 (-1000000000) : Cond) ∈ zeBT := zeBT_of (k := 1199) (by decide +kernel) rfl
theorem zm_597 : (.instanceMethod ⟨"WagerQuiz", "doCorrect", "(II)I"⟩ : Cond) ∈ zeBT := zeBT_of (k := 597) (by decide +kernel) rfl
theorem zm_595 : (.methodLink "WagerQuiz" 119 ⟨"WagerQuiz", "doCorrect", "(II)I"⟩ : Cond) ∈ zeBT := zeBT_of (k := 595) (by decide +kernel) rfl
theorem zmp_31 : (.selects "WagerQuiz" ⟨"WagerQuiz", "doCorrect", "(II)I"⟩ ⟨"WagerQuiz", "doCorrect", "(II)I"⟩ : Cond) ∈ zeBT := zeBT_p (k := 31) (by decide +kernel) rfl
theorem zm_100 : (.fieldLink "WagerQuiz" 162 "WagerQuiz$Log" "size" "I" : Cond) ∈ zeBT := zeBT_of (k := 100) (by decide +kernel) rfl
theorem zm_615 : (.methodLink "WagerQuiz$Replay" 92 ⟨"java/lang/System", "arraycopy", "(Ljava/lang/Object;ILjava/lang/Object;II)V"⟩ : Cond) ∈ zeBT := zeBT_of (k := 615) (by decide +kernel) rfl
theorem zm_609 : (.instanceMethod ⟨"WagerQuiz", "isEntry", "(I)Z"⟩ : Cond) ∈ zeBT := zeBT_of (k := 609) (by decide +kernel) rfl
theorem zm_607 : (.methodLink "WagerQuiz" 229 ⟨"WagerQuiz", "isEntry", "(I)Z"⟩ : Cond) ∈ zeBT := zeBT_of (k := 607) (by decide +kernel) rfl
theorem zmp_33 : (.selects "WagerQuiz" ⟨"WagerQuiz", "isEntry", "(I)Z"⟩ ⟨"WagerQuiz", "isEntry", "(I)Z"⟩ : Cond) ∈ zeBT := zeBT_p (k := 33) (by decide +kernel) rfl
theorem zm_106 : (.fieldLink "WagerQuiz" 234 "WagerQuiz$Log" "sorts" "[I" : Cond) ∈ zeBT := zeBT_of (k := 106) (by decide +kernel) rfl
theorem zm_612 : (.instanceMethod ⟨"WagerQuiz$Replay", "rememberScores", "()V"⟩ : Cond) ∈ zeBT := zeBT_of (k := 612) (by decide +kernel) rfl
theorem zm_611 : (.methodLink "WagerQuiz" 359 ⟨"WagerQuiz$Replay", "rememberScores", "()V"⟩ : Cond) ∈ zeBT := zeBT_of (k := 611) (by decide +kernel) rfl
theorem zm_613 : (.selects "WagerQuiz$Replay" ⟨"WagerQuiz$Replay", "rememberScores", "()V"⟩ ⟨"WagerQuiz$Replay", "rememberScores", "()V"⟩ : Cond) ∈ zeBT := zeBT_of (k := 613) (by decide +kernel) rfl
theorem zm_115 : (.fieldLink "WagerQuiz" 244 "WagerQuiz$Log" "judgements" "[I" : Cond) ∈ zeBT := zeBT_of (k := 115) (by decide +kernel) rfl
theorem zm_617 : (.instanceMethod ⟨"WagerQuiz$Replay", "changedScores", "()I"⟩ : Cond) ∈ zeBT := zeBT_of (k := 617) (by decide +kernel) rfl
theorem zm_616 : (.methodLink "WagerQuiz" 366 ⟨"WagerQuiz$Replay", "changedScores", "()I"⟩ : Cond) ∈ zeBT := zeBT_of (k := 616) (by decide +kernel) rfl
theorem zm_618 : (.selects "WagerQuiz$Replay" ⟨"WagerQuiz$Replay", "changedScores", "()I"⟩ ⟨"WagerQuiz$Replay", "changedScores", "()I"⟩ : Cond) ∈ zeBT := zeBT_of (k := 618) (by decide +kernel) rfl
theorem zm_605 : (.instanceMethod ⟨"WagerQuiz", "doRejudge", "(I)I"⟩ : Cond) ∈ zeBT := zeBT_of (k := 605) (by decide +kernel) rfl
theorem zm_603 : (.methodLink "WagerQuiz" 122 ⟨"WagerQuiz", "doRejudge", "(I)I"⟩ : Cond) ∈ zeBT := zeBT_of (k := 603) (by decide +kernel) rfl
theorem zmp_32 : (.selects "WagerQuiz" ⟨"WagerQuiz", "doRejudge", "(I)I"⟩ ⟨"WagerQuiz", "doRejudge", "(I)I"⟩ : Cond) ∈ zeBT := zeBT_p (k := 32) (by decide +kernel) rfl
theorem zm_1210 : (.instanceMethod ⟨"WagerQuizModel", "noEntry", "(I)Z"⟩ : Cond) ∈ zeBT := zeBT_of (k := 1210) (by decide +kernel) rfl
theorem zm_1208 : (.methodLink "WagerQuizModel" 166 ⟨"WagerQuizModel", "noEntry", "(I)Z"⟩ : Cond) ∈ zeBT := zeBT_of (k := 1208) (by decide +kernel) rfl
theorem zmp_69 : (.selects "WagerQuizModel" ⟨"WagerQuizModel", "noEntry", "(I)Z"⟩ ⟨"WagerQuizModel", "noEntry", "(I)Z"⟩ : Cond) ∈ zeBT := zeBT_p (k := 69) (by decide +kernel) rfl
theorem zm_236 : (.fieldLink "WagerQuiz$Script" 15 "WagerQuiz$Script" "length" "I" : Cond) ∈ zeBT := zeBT_of (k := 236) (by decide +kernel) rfl
theorem zm_625 : (.instanceMethod ⟨"WagerQuiz$Script", "append", "(C)Z"⟩ : Cond) ∈ zeBT := zeBT_of (k := 625) (by decide +kernel) rfl
theorem zm_624 : (.methodLink "WagerQuiz" 125 ⟨"WagerQuiz$Script", "append", "(C)Z"⟩ : Cond) ∈ zeBT := zeBT_of (k := 624) (by decide +kernel) rfl
theorem zm_626 : (.selects "WagerQuiz$Script" ⟨"WagerQuiz$Script", "append", "(C)Z"⟩ ⟨"WagerQuiz$Script", "append", "(C)Z"⟩ : Cond) ∈ zeBT := zeBT_of (k := 626) (by decide +kernel) rfl
theorem zm_237 : (.fieldLink "WagerQuiz" 129 "WagerQuiz$Script" "length" "I" : Cond) ∈ zeBT := zeBT_of (k := 237) (by decide +kernel) rfl
theorem zm_982 : (.fieldLink "WagerQuizModel" 169 "WagerQuizModel" "typed" "I" : Cond) ∈ zeBT := zeBT_of (k := 982) (by decide +kernel) rfl
theorem zm_649 : (.instanceMethod ⟨"WagerQuiz$Script", "signAt", "(I)C"⟩ : Cond) ∈ zeBT := zeBT_of (k := 649) (by decide +kernel) rfl
theorem zm_648 : (.methodLink "WagerQuiz$Script" 19 ⟨"WagerQuiz$Script", "signAt", "(I)C"⟩ : Cond) ∈ zeBT := zeBT_of (k := 648) (by decide +kernel) rfl
theorem zm_650 : (.selects "WagerQuiz$Script" ⟨"WagerQuiz$Script", "signAt", "(I)C"⟩ ⟨"WagerQuiz$Script", "signAt", "(I)C"⟩ : Cond) ∈ zeBT := zeBT_of (k := 650) (by decide +kernel) rfl
theorem zm_645 : (.instanceMethod ⟨"WagerQuiz$Script", "moveLength", "(I)I"⟩ : Cond) ∈ zeBT := zeBT_of (k := 645) (by decide +kernel) rfl
theorem zm_644 : (.methodLink "WagerQuiz$Script" 27 ⟨"WagerQuiz$Script", "moveLength", "(I)I"⟩ : Cond) ∈ zeBT := zeBT_of (k := 644) (by decide +kernel) rfl
theorem zm_646 : (.selects "WagerQuiz$Script" ⟨"WagerQuiz$Script", "moveLength", "(I)I"⟩ ⟨"WagerQuiz$Script", "moveLength", "(I)I"⟩ : Cond) ∈ zeBT := zeBT_of (k := 646) (by decide +kernel) rfl
theorem zm_654 : (.instanceMethod ⟨"WagerQuiz$Script", "greatestDigit", "(II)C"⟩ : Cond) ∈ zeBT := zeBT_of (k := 654) (by decide +kernel) rfl
theorem zm_652 : (.methodLink "WagerQuiz$Script" 31 ⟨"WagerQuiz$Script", "greatestDigit", "(II)C"⟩ : Cond) ∈ zeBT := zeBT_of (k := 652) (by decide +kernel) rfl
theorem zmp_35 : (.selects "WagerQuiz$Script" ⟨"WagerQuiz$Script", "greatestDigit", "(II)C"⟩ ⟨"WagerQuiz$Script", "greatestDigit", "(II)C"⟩ : Cond) ∈ zeBT := zeBT_p (k := 35) (by decide +kernel) rfl
theorem zm_642 : (.instanceMethod ⟨"WagerQuiz$Script", "isAllowed", "(II)Z"⟩ : Cond) ∈ zeBT := zeBT_of (k := 642) (by decide +kernel) rfl
theorem zm_640 : (.methodLink "WagerQuiz$Script" 23 ⟨"WagerQuiz$Script", "isAllowed", "(II)Z"⟩ : Cond) ∈ zeBT := zeBT_of (k := 640) (by decide +kernel) rfl
theorem zmp_34 : (.selects "WagerQuiz$Script" ⟨"WagerQuiz$Script", "isAllowed", "(II)Z"⟩ ⟨"WagerQuiz$Script", "isAllowed", "(II)Z"⟩ : Cond) ∈ zeBT := zeBT_p (k := 34) (by decide +kernel) rfl
theorem zm_664 : (.methodLink "WagerQuiz" 378 ⟨"WagerQuiz$Script", "signAt", "(I)C"⟩ : Cond) ∈ zeBT := zeBT_of (k := 664) (by decide +kernel) rfl
theorem zm_666 : (.instanceMethod ⟨"WagerQuiz$Script", "number", "(II)I"⟩ : Cond) ∈ zeBT := zeBT_of (k := 666) (by decide +kernel) rfl
theorem zm_665 : (.methodLink "WagerQuiz" 381 ⟨"WagerQuiz$Script", "number", "(II)I"⟩ : Cond) ∈ zeBT := zeBT_of (k := 665) (by decide +kernel) rfl
theorem zm_667 : (.selects "WagerQuiz$Script" ⟨"WagerQuiz$Script", "number", "(II)I"⟩ ⟨"WagerQuiz$Script", "number", "(II)I"⟩ : Cond) ∈ zeBT := zeBT_of (k := 667) (by decide +kernel) rfl
theorem zm_662 : (.instanceMethod ⟨"WagerQuiz", "doMove", "(I)I"⟩ : Cond) ∈ zeBT := zeBT_of (k := 662) (by decide +kernel) rfl
theorem zm_660 : (.methodLink "WagerQuiz" 369 ⟨"WagerQuiz", "doMove", "(I)I"⟩ : Cond) ∈ zeBT := zeBT_of (k := 660) (by decide +kernel) rfl
theorem zmp_37 : (.selects "WagerQuiz" ⟨"WagerQuiz", "doMove", "(I)I"⟩ ⟨"WagerQuiz", "doMove", "(I)I"⟩ : Cond) ∈ zeBT := zeBT_p (k := 37) (by decide +kernel) rfl
theorem zm_669 : (.methodLink "WagerQuiz" 375 ⟨"WagerQuiz$Script", "moveLength", "(I)I"⟩ : Cond) ∈ zeBT := zeBT_of (k := 669) (by decide +kernel) rfl
theorem zm_637 : (.instanceMethod ⟨"WagerQuiz$Script", "fault", "()I"⟩ : Cond) ∈ zeBT := zeBT_of (k := 637) (by decide +kernel) rfl
theorem zm_636 : (.methodLink "WagerQuiz" 133 ⟨"WagerQuiz$Script", "fault", "()I"⟩ : Cond) ∈ zeBT := zeBT_of (k := 636) (by decide +kernel) rfl
theorem zm_638 : (.selects "WagerQuiz$Script" ⟨"WagerQuiz$Script", "fault", "()I"⟩ ⟨"WagerQuiz$Script", "fault", "()I"⟩ : Cond) ∈ zeBT := zeBT_of (k := 638) (by decide +kernel) rfl
theorem zm_658 : (.instanceMethod ⟨"WagerQuiz", "carryOutMoves", "()I"⟩ : Cond) ∈ zeBT := zeBT_of (k := 658) (by decide +kernel) rfl
theorem zm_656 : (.methodLink "WagerQuiz" 136 ⟨"WagerQuiz", "carryOutMoves", "()I"⟩ : Cond) ∈ zeBT := zeBT_of (k := 656) (by decide +kernel) rfl
theorem zmp_36 : (.selects "WagerQuiz" ⟨"WagerQuiz", "carryOutMoves", "()I"⟩ ⟨"WagerQuiz", "carryOutMoves", "()I"⟩ : Cond) ∈ zeBT := zeBT_p (k := 36) (by decide +kernel) rfl
theorem zm_984 : (.fieldLink "WagerQuizModel" 172 "WagerQuizModel" "moves" "I" : Cond) ∈ zeBT := zeBT_of (k := 984) (by decide +kernel) rfl
theorem zm_1230 : (.instanceMethod ⟨"WagerQuizModel", "digit", "(I)I"⟩ : Cond) ∈ zeBT := zeBT_of (k := 1230) (by decide +kernel) rfl
theorem zm_1228 : (.methodLink "WagerQuizModel" 175 ⟨"WagerQuizModel", "digit", "(I)I"⟩ : Cond) ∈ zeBT := zeBT_of (k := 1228) (by decide +kernel) rfl
theorem zmp_71 : (.selects "WagerQuizModel" ⟨"WagerQuizModel", "digit", "(I)I"⟩ ⟨"WagerQuizModel", "digit", "(I)I"⟩ : Cond) ∈ zeBT := zeBT_p (k := 71) (by decide +kernel) rfl
theorem zm_1226 : (.instanceMethod ⟨"WagerQuizModel", "readAll", "()I"⟩ : Cond) ∈ zeBT := zeBT_of (k := 1226) (by decide +kernel) rfl
theorem zm_1224 : (.methodLink "WagerQuizModel" 178 ⟨"WagerQuizModel", "readAll", "()I"⟩ : Cond) ∈ zeBT := zeBT_of (k := 1224) (by decide +kernel) rfl
theorem zmp_70 : (.selects "WagerQuizModel" ⟨"WagerQuizModel", "readAll", "()I"⟩ ⟨"WagerQuizModel", "readAll", "()I"⟩ : Cond) ∈ zeBT := zeBT_p (k := 70) (by decide +kernel) rfl
theorem zm_1234 : (.instanceMethod ⟨"WagerQuizModel", "check", "(I)I"⟩ : Cond) ∈ zeBT := zeBT_of (k := 1234) (by decide +kernel) rfl
theorem zm_1232 : (.methodLink "WagerQuizModel" 181 ⟨"WagerQuizModel", "check", "(I)I"⟩ : Cond) ∈ zeBT := zeBT_of (k := 1232) (by decide +kernel) rfl
theorem zmp_72 : (.selects "WagerQuizModel" ⟨"WagerQuizModel", "check", "(I)I"⟩ ⟨"WagerQuizModel", "check", "(I)I"⟩ : Cond) ∈ zeBT := zeBT_p (k := 72) (by decide +kernel) rfl
theorem zm_1238 : (.instanceMethod ⟨"WagerQuizModel", "does", "(I)V"⟩ : Cond) ∈ zeBT := zeBT_of (k := 1238) (by decide +kernel) rfl
theorem zm_1236 : (.methodLink "WagerQuizModel" 184 ⟨"WagerQuizModel", "does", "(I)V"⟩ : Cond) ∈ zeBT := zeBT_of (k := 1236) (by decide +kernel) rfl
theorem zmp_73 : (.selects "WagerQuizModel" ⟨"WagerQuizModel", "does", "(I)V"⟩ ⟨"WagerQuizModel", "does", "(I)V"⟩ : Cond) ∈ zeBT := zeBT_p (k := 73) (by decide +kernel) rfl
theorem zm_682 : (.methodLink "WagerQuiz" 155 ⟨"WagerQuiz$State", "copyFrom", "(LWagerQuiz$State;)V"⟩ : Cond) ∈ zeBT := zeBT_of (k := 682) (by decide +kernel) rfl
theorem zm_220 : (.fieldLink "WagerQuiz" 142 "WagerQuiz$History" "size" "I" : Cond) ∈ zeBT := zeBT_of (k := 220) (by decide +kernel) rfl
theorem zm_675 : (.instanceMethod ⟨"WagerQuiz$History", "takeLatest", "()LWagerQuiz$State;"⟩ : Cond) ∈ zeBT := zeBT_of (k := 675) (by decide +kernel) rfl
theorem zm_674 : (.methodLink "WagerQuiz" 145 ⟨"WagerQuiz$History", "takeLatest", "()LWagerQuiz$State;"⟩ : Cond) ∈ zeBT := zeBT_of (k := 674) (by decide +kernel) rfl
theorem zm_676 : (.selects "WagerQuiz$History" ⟨"WagerQuiz$History", "takeLatest", "()LWagerQuiz$State;"⟩ ⟨"WagerQuiz$History", "takeLatest", "()LWagerQuiz$State;"⟩ : Cond) ∈ zeBT := zeBT_of (k := 676) (by decide +kernel) rfl
theorem zm_680 : (.instanceMethod ⟨"WagerQuiz", "load", "(LWagerQuiz$State;)V"⟩ : Cond) ∈ zeBT := zeBT_of (k := 680) (by decide +kernel) rfl
theorem zm_678 : (.methodLink "WagerQuiz" 149 ⟨"WagerQuiz", "load", "(LWagerQuiz$State;)V"⟩ : Cond) ∈ zeBT := zeBT_of (k := 678) (by decide +kernel) rfl
theorem zmp_38 : (.selects "WagerQuiz" ⟨"WagerQuiz", "load", "(LWagerQuiz$State;)V"⟩ ⟨"WagerQuiz", "load", "(LWagerQuiz$State;)V"⟩ : Cond) ∈ zeBT := zeBT_p (k := 38) (by decide +kernel) rfl
theorem zm_687 : (.methodLink "WagerQuiz" 152 ⟨"WagerQuiz", "isSlot", "(I)Z"⟩ : Cond) ∈ zeBT := zeBT_of (k := 687) (by decide +kernel) rfl
theorem zm_688 : (.static ⟨"WagerQuiz", "isSlot", "(I)Z"⟩ : Cond) ∈ zeBT := zeBT_of (k := 688) (by decide +kernel) rfl
theorem zm_707 : (.instanceMethod ⟨"WagerQuiz$Replay", "isAhead", "(II)Z"⟩ : Cond) ∈ zeBT := zeBT_of (k := 707) (by decide +kernel) rfl
theorem zm_706 : (.methodLink "WagerQuiz" 385 ⟨"WagerQuiz$Replay", "isAhead", "(II)Z"⟩ : Cond) ∈ zeBT := zeBT_of (k := 706) (by decide +kernel) rfl
theorem zm_708 : (.selects "WagerQuiz$Replay" ⟨"WagerQuiz$Replay", "isAhead", "(II)Z"⟩ ⟨"WagerQuiz$Replay", "isAhead", "(II)Z"⟩ : Cond) ∈ zeBT := zeBT_of (k := 708) (by decide +kernel) rfl
theorem zm_174 : (.fieldLink "WagerQuiz" 165 "WagerQuiz$Replay" "rights" "[I" : Cond) ∈ zeBT := zeBT_of (k := 174) (by decide +kernel) rfl
theorem zm_176 : (.fieldLink "WagerQuiz" 168 "WagerQuiz$Replay" "wrongs" "[I" : Cond) ∈ zeBT := zeBT_of (k := 176) (by decide +kernel) rfl
theorem zm_700 : (.instanceMethod ⟨"WagerQuiz", "playersAbove", "(I)I"⟩ : Cond) ∈ zeBT := zeBT_of (k := 700) (by decide +kernel) rfl
theorem zm_698 : (.methodLink "WagerQuiz" 171 ⟨"WagerQuiz", "playersAbove", "(I)I"⟩ : Cond) ∈ zeBT := zeBT_of (k := 698) (by decide +kernel) rfl
theorem zmp_39 : (.selects "WagerQuiz" ⟨"WagerQuiz", "playersAbove", "(I)I"⟩ ⟨"WagerQuiz", "playersAbove", "(I)I"⟩ : Cond) ∈ zeBT := zeBT_p (k := 39) (by decide +kernel) rfl
theorem zm_704 : (.instanceMethod ⟨"WagerQuiz", "placeOf", "(I)I"⟩ : Cond) ∈ zeBT := zeBT_of (k := 704) (by decide +kernel) rfl
theorem zm_702 : (.methodLink "WagerQuiz" 174 ⟨"WagerQuiz", "placeOf", "(I)I"⟩ : Cond) ∈ zeBT := zeBT_of (k := 702) (by decide +kernel) rfl
theorem zmp_40 : (.selects "WagerQuiz" ⟨"WagerQuiz", "placeOf", "(I)I"⟩ ⟨"WagerQuiz", "placeOf", "(I)I"⟩ : Cond) ∈ zeBT := zeBT_p (k := 40) (by decide +kernel) rfl
theorem zm_178 : (.fieldLink "WagerQuiz" 198 "WagerQuiz$Replay" "corrections" "[I" : Cond) ∈ zeBT := zeBT_of (k := 178) (by decide +kernel) rfl
theorem zm_1254 : (.instanceMethod ⟨"WagerQuizModel", "isBefore", "(II)Z"⟩ : Cond) ∈ zeBT := zeBT_of (k := 1254) (by decide +kernel) rfl
theorem zm_1252 : (.methodLink "WagerQuizModel" 188 ⟨"WagerQuizModel", "isBefore", "(II)Z"⟩ : Cond) ∈ zeBT := zeBT_of (k := 1252) (by decide +kernel) rfl
theorem zmp_76 : (.selects "WagerQuizModel" ⟨"WagerQuizModel", "isBefore", "(II)Z"⟩ ⟨"WagerQuizModel", "isBefore", "(II)Z"⟩ : Cond) ∈ zeBT := zeBT_p (k := 76) (by decide +kernel) rfl
theorem zm_1246 : (.instanceMethod ⟨"WagerQuizModel", "rank", "(I)I"⟩ : Cond) ∈ zeBT := zeBT_of (k := 1246) (by decide +kernel) rfl
theorem zm_1244 : (.methodLink "WagerQuizModel" 191 ⟨"WagerQuizModel", "rank", "(I)I"⟩ : Cond) ∈ zeBT := zeBT_of (k := 1244) (by decide +kernel) rfl
theorem zmp_74 : (.selects "WagerQuizModel" ⟨"WagerQuizModel", "rank", "(I)I"⟩ ⟨"WagerQuizModel", "rank", "(I)I"⟩ : Cond) ∈ zeBT := zeBT_p (k := 74) (by decide +kernel) rfl
theorem zm_1250 : (.instanceMethod ⟨"WagerQuizModel", "placeOf", "(I)I"⟩ : Cond) ∈ zeBT := zeBT_of (k := 1250) (by decide +kernel) rfl
theorem zm_1248 : (.methodLink "WagerQuizModel" 194 ⟨"WagerQuizModel", "placeOf", "(I)I"⟩ : Cond) ∈ zeBT := zeBT_of (k := 1248) (by decide +kernel) rfl
theorem zmp_75 : (.selects "WagerQuizModel" ⟨"WagerQuizModel", "placeOf", "(I)I"⟩ ⟨"WagerQuizModel", "placeOf", "(I)I"⟩ : Cond) ∈ zeBT := zeBT_p (k := 75) (by decide +kernel) rfl
theorem zm_1256 : (.methodLink "WagerQuizModel" 197 ⟨"WagerQuizModel", "orNone", "(I)I"⟩ : Cond) ∈ zeBT := zeBT_of (k := 1256) (by decide +kernel) rfl
theorem zm_1257 : (.static ⟨"WagerQuizModel", "orNone", "(I)I"⟩ : Cond) ∈ zeBT := zeBT_of (k := 1257) (by decide +kernel) rfl
theorem zm_716 : (.instanceMethod ⟨"WagerQuiz", "playerAtPlace", "(I)I"⟩ : Cond) ∈ zeBT := zeBT_of (k := 716) (by decide +kernel) rfl
theorem zm_714 : (.methodLink "WagerQuiz" 202 ⟨"WagerQuiz", "playerAtPlace", "(I)I"⟩ : Cond) ∈ zeBT := zeBT_of (k := 714) (by decide +kernel) rfl
theorem zmp_41 : (.selects "WagerQuiz" ⟨"WagerQuiz", "playerAtPlace", "(I)I"⟩ ⟨"WagerQuiz", "playerAtPlace", "(I)I"⟩ : Cond) ∈ zeBT := zeBT_p (k := 41) (by decide +kernel) rfl
theorem zm_1265 : (.instanceMethod ⟨"WagerQuizModel", "atPlace", "(I)I"⟩ : Cond) ∈ zeBT := zeBT_of (k := 1265) (by decide +kernel) rfl
theorem zm_1263 : (.methodLink "WagerQuizModel" 200 ⟨"WagerQuizModel", "atPlace", "(I)I"⟩ : Cond) ∈ zeBT := zeBT_of (k := 1263) (by decide +kernel) rfl
theorem zmp_77 : (.selects "WagerQuizModel" ⟨"WagerQuizModel", "atPlace", "(I)I"⟩ ⟨"WagerQuizModel", "atPlace", "(I)I"⟩ : Cond) ∈ zeBT := zeBT_p (k := 77) (by decide +kernel) rfl
theorem zm_727 : (.instanceMethod ⟨"WagerQuiz$Log", "answersTo", "(I)I"⟩ : Cond) ∈ zeBT := zeBT_of (k := 727) (by decide +kernel) rfl
theorem zm_726 : (.methodLink "WagerQuiz" 223 ⟨"WagerQuiz$Log", "answersTo", "(I)I"⟩ : Cond) ∈ zeBT := zeBT_of (k := 726) (by decide +kernel) rfl
theorem zm_728 : (.selects "WagerQuiz$Log" ⟨"WagerQuiz$Log", "answersTo", "(I)I"⟩ ⟨"WagerQuiz$Log", "answersTo", "(I)I"⟩ : Cond) ∈ zeBT := zeBT_of (k := 728) (by decide +kernel) rfl
theorem zm_180 : (.fieldLink "WagerQuiz" 226 "WagerQuiz$Replay" "solvers" "[I" : Cond) ∈ zeBT := zeBT_of (k := 180) (by decide +kernel) rfl
theorem zm_1277 : (.instanceMethod ⟨"WagerQuizModel", "isAnswer", "(II)Z"⟩ : Cond) ∈ zeBT := zeBT_of (k := 1277) (by decide +kernel) rfl
theorem zm_1275 : (.methodLink "WagerQuizModel" 203 ⟨"WagerQuizModel", "isAnswer", "(II)Z"⟩ : Cond) ∈ zeBT := zeBT_of (k := 1275) (by decide +kernel) rfl
theorem zmp_78 : (.selects "WagerQuizModel" ⟨"WagerQuizModel", "isAnswer", "(II)Z"⟩ ⟨"WagerQuizModel", "isAnswer", "(II)Z"⟩ : Cond) ∈ zeBT := zeBT_p (k := 78) (by decide +kernel) rfl
theorem zm_103 : (.fieldLink "WagerQuiz" 232 "WagerQuiz$Log" "players" "[I" : Cond) ∈ zeBT := zeBT_of (k := 103) (by decide +kernel) rfl
theorem zm_109 : (.fieldLink "WagerQuiz" 237 "WagerQuiz$Log" "clues" "[I" : Cond) ∈ zeBT := zeBT_of (k := 109) (by decide +kernel) rfl
theorem zm_112 : (.fieldLink "WagerQuiz" 240 "WagerQuiz$Log" "amounts" "[I" : Cond) ∈ zeBT := zeBT_of (k := 112) (by decide +kernel) rfl
theorem zm_182 : (.fieldLink "WagerQuiz" 243 "WagerQuiz$Replay" "amounts" "[I" : Cond) ∈ zeBT := zeBT_of (k := 182) (by decide +kernel) rfl
theorem zm_184 : (.fieldLink "WagerQuiz" 247 "WagerQuiz$Replay" "scoresBehind" "[I" : Cond) ∈ zeBT := zeBT_of (k := 184) (by decide +kernel) rfl
theorem zm_186 : (.fieldLink "WagerQuiz" 250 "WagerQuiz$Replay" "voids" "[Z" : Cond) ∈ zeBT := zeBT_of (k := 186) (by decide +kernel) rfl
theorem zm_740 : (.instanceMethod ⟨"WagerQuiz", "isClueUnderWay", "()Z"⟩ : Cond) ∈ zeBT := zeBT_of (k := 740) (by decide +kernel) rfl
theorem zm_738 : (.methodLink "WagerQuiz" 258 ⟨"WagerQuiz", "isClueUnderWay", "()Z"⟩ : Cond) ∈ zeBT := zeBT_of (k := 738) (by decide +kernel) rfl
theorem zmp_42 : (.selects "WagerQuiz" ⟨"WagerQuiz", "isClueUnderWay", "()Z"⟩ ⟨"WagerQuiz", "isClueUnderWay", "()Z"⟩ : Cond) ∈ zeBT := zeBT_p (k := 42) (by decide +kernel) rfl
theorem zm_744 : (.instanceMethod ⟨"WagerQuiz", "leaders", "()I"⟩ : Cond) ∈ zeBT := zeBT_of (k := 744) (by decide +kernel) rfl
theorem zm_742 : (.methodLink "WagerQuiz" 268 ⟨"WagerQuiz", "leaders", "()I"⟩ : Cond) ∈ zeBT := zeBT_of (k := 742) (by decide +kernel) rfl
theorem zmp_43 : (.selects "WagerQuiz" ⟨"WagerQuiz", "leaders", "()I"⟩ ⟨"WagerQuiz", "leaders", "()I"⟩ : Cond) ∈ zeBT := zeBT_p (k := 43) (by decide +kernel) rfl
theorem zm_748 : (.instanceMethod ⟨"WagerQuiz", "sumOfScores", "()I"⟩ : Cond) ∈ zeBT := zeBT_of (k := 748) (by decide +kernel) rfl
theorem zm_746 : (.methodLink "WagerQuiz" 271 ⟨"WagerQuiz", "sumOfScores", "()I"⟩ : Cond) ∈ zeBT := zeBT_of (k := 746) (by decide +kernel) rfl
theorem zmp_44 : (.selects "WagerQuiz" ⟨"WagerQuiz", "sumOfScores", "()I"⟩ ⟨"WagerQuiz", "sumOfScores", "()I"⟩ : Cond) ∈ zeBT := zeBT_p (k := 44) (by decide +kernel) rfl
theorem zm_1289 : (.instanceMethod ⟨"WagerQuizModel", "leaders", "()I"⟩ : Cond) ∈ zeBT := zeBT_of (k := 1289) (by decide +kernel) rfl
theorem zm_1287 : (.methodLink "WagerQuizModel" 206 ⟨"WagerQuizModel", "leaders", "()I"⟩ : Cond) ∈ zeBT := zeBT_of (k := 1287) (by decide +kernel) rfl
theorem zmp_79 : (.selects "WagerQuizModel" ⟨"WagerQuizModel", "leaders", "()I"⟩ ⟨"WagerQuizModel", "leaders", "()I"⟩ : Cond) ∈ zeBT := zeBT_p (k := 79) (by decide +kernel) rfl
theorem zm_776 : (.methodLink "jdk/internal/util/ArraysSupport" 194 ⟨"java/lang/Math", "max", "(II)I"⟩ : Cond) ∈ zeBT := zeBT_of (k := 776) (by decide +kernel) rfl
theorem zm_777 : (.constant "jdk/internal/util/ArraysSupport" 200 (2147483639) : Cond) ∈ zeBT := zeBT_of (k := 777) (by decide +kernel) rfl
theorem zm_773 : (.methodLink "java/lang/AbstractStringBuilder" 114 ⟨"jdk/internal/util/ArraysSupport", "newLength", "(III)I"⟩ : Cond) ∈ zeBT := zeBT_of (k := 773) (by decide +kernel) rfl
theorem zm_774 : (.static ⟨"jdk/internal/util/ArraysSupport", "newLength", "(III)I"⟩ : Cond) ∈ zeBT := zeBT_of (k := 774) (by decide +kernel) rfl
theorem zm_781 : (.constant "java/lang/AbstractStringBuilder" 39 (2147483647) : Cond) ∈ zeBT := zeBT_of (k := 781) (by decide +kernel) rfl
theorem zm_792 : (.methodLink "java/util/Arrays" 304 ⟨"java/lang/Math", "min", "(II)I"⟩ : Cond) ∈ zeBT := zeBT_of (k := 792) (by decide +kernel) rfl
theorem zm_793 : (.methodLink "java/util/Arrays" 150 ⟨"java/lang/System", "arraycopy", "(Ljava/lang/Object;ILjava/lang/Object;II)V"⟩ : Cond) ∈ zeBT := zeBT_of (k := 793) (by decide +kernel) rfl
theorem zm_771 : (.instanceMethod ⟨"java/lang/AbstractStringBuilder", "newCapacity", "(I)I"⟩ : Cond) ∈ zeBT := zeBT_of (k := 771) (by decide +kernel) rfl
theorem zm_769 : (.methodLink "java/lang/AbstractStringBuilder" 104 ⟨"java/lang/AbstractStringBuilder", "newCapacity", "(I)I"⟩ : Cond) ∈ zeBT := zeBT_of (k := 769) (by decide +kernel) rfl
theorem zm_1305 : (.sameMethod "java/lang/AbstractStringBuilder" "java/lang/AbstractStringBuilder" "newCapacity" "(I)I" : Cond) ∈ zeBT := zeBT_of (k := 1305) (by decide +kernel) rfl
theorem zmx_0 : (.selects "java/lang/StringBuilder" ⟨"java/lang/AbstractStringBuilder", "newCapacity", "(I)I"⟩ ⟨"java/lang/AbstractStringBuilder", "newCapacity", "(I)I"⟩ : Cond) ∈ zeBT := zeBT_x (k := 0) (by decide +kernel) rfl
theorem zm_782 : (.methodLink "java/lang/AbstractStringBuilder" 108 ⟨"java/util/Arrays", "copyOf", "([BI)[B"⟩ : Cond) ∈ zeBT := zeBT_of (k := 782) (by decide +kernel) rfl
theorem zm_783 : (.static ⟨"java/util/Arrays", "copyOf", "([BI)[B"⟩ : Cond) ∈ zeBT := zeBT_of (k := 783) (by decide +kernel) rfl
theorem zm_767 : (.instanceMethod ⟨"java/lang/AbstractStringBuilder", "ensureCapacityInternal", "(I)V"⟩ : Cond) ∈ zeBT := zeBT_of (k := 767) (by decide +kernel) rfl
theorem zm_765 : (.methodLink "java/lang/AbstractStringBuilder" 100 ⟨"java/lang/AbstractStringBuilder", "ensureCapacityInternal", "(I)V"⟩ : Cond) ∈ zeBT := zeBT_of (k := 765) (by decide +kernel) rfl
theorem zm_1304 : (.sameMethod "java/lang/AbstractStringBuilder" "java/lang/AbstractStringBuilder" "ensureCapacityInternal" "(I)V" : Cond) ∈ zeBT := zeBT_of (k := 1304) (by decide +kernel) rfl
theorem zmx_1 : (.selects "java/lang/StringBuilder" ⟨"java/lang/AbstractStringBuilder", "ensureCapacityInternal", "(I)V"⟩ ⟨"java/lang/AbstractStringBuilder", "ensureCapacityInternal", "(I)V"⟩ : Cond) ∈ zeBT := zeBT_x (k := 1) (by decide +kernel) rfl
theorem zm_266 : (.fieldLink "java/lang/AbstractStringBuilder" 79 "java/lang/AbstractStringBuilder" "count" "I" : Cond) ∈ zeBT := zeBT_of (k := 266) (by decide +kernel) rfl
theorem zm_795 : (.instanceMethod ⟨"java/lang/AbstractStringBuilder", "isLatin1", "()Z"⟩ : Cond) ∈ zeBT := zeBT_of (k := 795) (by decide +kernel) rfl
theorem zm_794 : (.methodLink "java/lang/AbstractStringBuilder" 83 ⟨"java/lang/AbstractStringBuilder", "isLatin1", "()Z"⟩ : Cond) ∈ zeBT := zeBT_of (k := 794) (by decide +kernel) rfl
theorem zm_796 : (.sameMethod "java/lang/AbstractStringBuilder" "java/lang/AbstractStringBuilder" "isLatin1" "()Z" : Cond) ∈ zeBT := zeBT_of (k := 796) (by decide +kernel) rfl
theorem zm_797 : (.selects "java/lang/StringBuilder" ⟨"java/lang/AbstractStringBuilder", "isLatin1", "()Z"⟩ ⟨"java/lang/AbstractStringBuilder", "isLatin1", "()Z"⟩ : Cond) ∈ zeBT := zeBT_of (k := 797) (by decide +kernel) rfl
theorem zm_265 : (.fieldLink "java/lang/AbstractStringBuilder" 73 "java/lang/AbstractStringBuilder" "maybeLatin1" "Z" : Cond) ∈ zeBT := zeBT_of (k := 265) (by decide +kernel) rfl
theorem zm_763 : (.instanceMethod ⟨"java/lang/AbstractStringBuilder", "setLength", "(I)V"⟩ : Cond) ∈ zeBT := zeBT_of (k := 763) (by decide +kernel) rfl
theorem zm_762 : (.methodLink "java/lang/StringBuilder" 333 ⟨"java/lang/AbstractStringBuilder", "setLength", "(I)V"⟩ : Cond) ∈ zeBT := zeBT_of (k := 762) (by decide +kernel) rfl
theorem zm_1303 : (.sameMethod "java/lang/AbstractStringBuilder" "java/lang/AbstractStringBuilder" "setLength" "(I)V" : Cond) ∈ zeBT := zeBT_of (k := 1303) (by decide +kernel) rfl
theorem zm_275 : (.superclass "java/lang/StringBuilder" "java/lang/AbstractStringBuilder" : Cond) ∈ zeBT := zeBT_of (k := 275) (by decide +kernel) rfl
theorem zm_858 : (.fieldLink "java/lang/String" 38 "java/lang/String" "COMPACT_STRINGS" "Z" : Cond) ∈ zeBT := zeBT_of (k := 858) (by decide +kernel) rfl
theorem zm_1316 : (.fieldLink "java/lang/String" 15 "java/lang/String" "coder" "B" : Cond) ∈ zeBT := zeBT_of (k := 1316) (by decide +kernel) rfl
theorem zm_1315 : (.fieldLink "java/lang/String" 9 "java/lang/String" "value" "[B" : Cond) ∈ zeBT := zeBT_of (k := 1315) (by decide +kernel) rfl
theorem zm_855 : (.instanceMethod ⟨"java/lang/String", "coder", "()B"⟩ : Cond) ∈ zeBT := zeBT_of (k := 855) (by decide +kernel) rfl
theorem zm_854 : (.methodLink "java/lang/String" 335 ⟨"java/lang/String", "coder", "()B"⟩ : Cond) ∈ zeBT := zeBT_of (k := 854) (by decide +kernel) rfl
theorem zm_856 : (.selects "java/lang/String" ⟨"java/lang/String", "coder", "()B"⟩ ⟨"java/lang/String", "coder", "()B"⟩ : Cond) ∈ zeBT := zeBT_of (k := 856) (by decide +kernel) rfl
theorem zm_867 : (.methodLink "java/lang/AbstractStringBuilder" 40 ⟨"java/lang/String", "coder", "()B"⟩ : Cond) ∈ zeBT := zeBT_of (k := 867) (by decide +kernel) rfl
theorem zm_891 : (.methodLink "java/lang/String" 212 ⟨"java/lang/System", "arraycopy", "(Ljava/lang/Object;ILjava/lang/Object;II)V"⟩ : Cond) ∈ zeBT := zeBT_of (k := 891) (by decide +kernel) rfl
theorem zm_865 : (.instanceMethod ⟨"java/lang/AbstractStringBuilder", "inflateIfNeededFor", "(Ljava/lang/String;)V"⟩ : Cond) ∈ zeBT := zeBT_of (k := 865) (by decide +kernel) rfl
theorem zm_863 : (.methodLink "java/lang/AbstractStringBuilder" 397 ⟨"java/lang/AbstractStringBuilder", "inflateIfNeededFor", "(Ljava/lang/String;)V"⟩ : Cond) ∈ zeBT := zeBT_of (k := 863) (by decide +kernel) rfl
theorem zm_1309 : (.sameMethod "java/lang/AbstractStringBuilder" "java/lang/AbstractStringBuilder" "inflateIfNeededFor" "(Ljava/lang/String;)V" : Cond) ∈ zeBT := zeBT_of (k := 1309) (by decide +kernel) rfl
theorem zmx_3 : (.selects "java/lang/StringBuilder" ⟨"java/lang/AbstractStringBuilder", "inflateIfNeededFor", "(Ljava/lang/String;)V"⟩ ⟨"java/lang/AbstractStringBuilder", "inflateIfNeededFor", "(Ljava/lang/String;)V"⟩ : Cond) ∈ zeBT := zeBT_x (k := 3) (by decide +kernel) rfl
theorem zm_888 : (.instanceMethod ⟨"java/lang/String", "getBytes", "([BIB)V"⟩ : Cond) ∈ zeBT := zeBT_of (k := 888) (by decide +kernel) rfl
theorem zm_887 : (.methodLink "java/lang/AbstractStringBuilder" 399 ⟨"java/lang/String", "getBytes", "([BIB)V"⟩ : Cond) ∈ zeBT := zeBT_of (k := 887) (by decide +kernel) rfl
theorem zm_889 : (.selects "java/lang/String" ⟨"java/lang/String", "getBytes", "([BIB)V"⟩ ⟨"java/lang/String", "getBytes", "([BIB)V"⟩ : Cond) ∈ zeBT := zeBT_of (k := 889) (by decide +kernel) rfl
theorem zm_851 : (.instanceMethod ⟨"java/lang/String", "length", "()I"⟩ : Cond) ∈ zeBT := zeBT_of (k := 851) (by decide +kernel) rfl
theorem zm_850 : (.methodLink "java/lang/AbstractStringBuilder" 32 ⟨"java/lang/String", "length", "()I"⟩ : Cond) ∈ zeBT := zeBT_of (k := 850) (by decide +kernel) rfl
theorem zm_852 : (.selects "java/lang/String" ⟨"java/lang/String", "length", "()I"⟩ ⟨"java/lang/String", "length", "()I"⟩ : Cond) ∈ zeBT := zeBT_of (k := 852) (by decide +kernel) rfl
theorem zm_861 : (.instanceMethod ⟨"java/lang/AbstractStringBuilder", "putStringAt", "(ILjava/lang/String;)V"⟩ : Cond) ∈ zeBT := zeBT_of (k := 861) (by decide +kernel) rfl
theorem zm_859 : (.methodLink "java/lang/AbstractStringBuilder" 208 ⟨"java/lang/AbstractStringBuilder", "putStringAt", "(ILjava/lang/String;)V"⟩ : Cond) ∈ zeBT := zeBT_of (k := 859) (by decide +kernel) rfl
theorem zm_1308 : (.sameMethod "java/lang/AbstractStringBuilder" "java/lang/AbstractStringBuilder" "putStringAt" "(ILjava/lang/String;)V" : Cond) ∈ zeBT := zeBT_of (k := 1308) (by decide +kernel) rfl
theorem zmx_2 : (.selects "java/lang/StringBuilder" ⟨"java/lang/AbstractStringBuilder", "putStringAt", "(ILjava/lang/String;)V"⟩ ⟨"java/lang/AbstractStringBuilder", "putStringAt", "(ILjava/lang/String;)V"⟩ : Cond) ∈ zeBT := zeBT_x (k := 2) (by decide +kernel) rfl
theorem zm_818 : (.instanceMethod ⟨"java/lang/AbstractStringBuilder", "append", "(Ljava/lang/String;)Ljava/lang/AbstractStringBuilder;"⟩ : Cond) ∈ zeBT := zeBT_of (k := 818) (by decide +kernel) rfl
theorem zm_817 : (.methodLink "java/lang/StringBuilder" 29 ⟨"java/lang/AbstractStringBuilder", "append", "(Ljava/lang/String;)Ljava/lang/AbstractStringBuilder;"⟩ : Cond) ∈ zeBT := zeBT_of (k := 817) (by decide +kernel) rfl
theorem zm_1306 : (.sameMethod "java/lang/AbstractStringBuilder" "java/lang/AbstractStringBuilder" "append" "(Ljava/lang/String;)Ljava/lang/AbstractStringBuilder;" : Cond) ∈ zeBT := zeBT_of (k := 1306) (by decide +kernel) rfl
theorem zm_906 : (.fieldLink "java/lang/Integer" 83 "java/lang/Integer" "DigitOnes" "[B" : Cond) ∈ zeBT := zeBT_of (k := 906) (by decide +kernel) rfl
theorem zm_908 : (.fieldLink "java/lang/Integer" 87 "java/lang/Integer" "DigitTens" "[B" : Cond) ∈ zeBT := zeBT_of (k := 908) (by decide +kernel) rfl
theorem zm_900 : (.methodLink "java/lang/AbstractStringBuilder" 245 ⟨"java/lang/Integer", "stringSize", "(I)I"⟩ : Cond) ∈ zeBT := zeBT_of (k := 900) (by decide +kernel) rfl
theorem zm_901 : (.static ⟨"java/lang/Integer", "stringSize", "(I)I"⟩ : Cond) ∈ zeBT := zeBT_of (k := 901) (by decide +kernel) rfl
theorem zm_903 : (.methodLink "java/lang/AbstractStringBuilder" 248 ⟨"java/lang/Integer", "getChars", "(II[B)I"⟩ : Cond) ∈ zeBT := zeBT_of (k := 903) (by decide +kernel) rfl
theorem zm_904 : (.static ⟨"java/lang/Integer", "getChars", "(II[B)I"⟩ : Cond) ∈ zeBT := zeBT_of (k := 904) (by decide +kernel) rfl
theorem zm_898 : (.instanceMethod ⟨"java/lang/AbstractStringBuilder", "append", "(I)Ljava/lang/AbstractStringBuilder;"⟩ : Cond) ∈ zeBT := zeBT_of (k := 898) (by decide +kernel) rfl
theorem zm_897 : (.methodLink "java/lang/StringBuilder" 53 ⟨"java/lang/AbstractStringBuilder", "append", "(I)Ljava/lang/AbstractStringBuilder;"⟩ : Cond) ∈ zeBT := zeBT_of (k := 897) (by decide +kernel) rfl
theorem zm_1311 : (.sameMethod "java/lang/AbstractStringBuilder" "java/lang/AbstractStringBuilder" "append" "(I)Ljava/lang/AbstractStringBuilder;" : Cond) ∈ zeBT := zeBT_of (k := 1311) (by decide +kernel) rfl
theorem zm_926 : (.methodLink "java/lang/AbstractStringBuilder" 191 ⟨"java/lang/StringLatin1", "canEncode", "(C)Z"⟩ : Cond) ∈ zeBT := zeBT_of (k := 926) (by decide +kernel) rfl
theorem zm_927 : (.static ⟨"java/lang/StringLatin1", "canEncode", "(C)Z"⟩ : Cond) ∈ zeBT := zeBT_of (k := 927) (by decide +kernel) rfl
theorem zm_924 : (.instanceMethod ⟨"java/lang/AbstractStringBuilder", "append", "(C)Ljava/lang/AbstractStringBuilder;"⟩ : Cond) ∈ zeBT := zeBT_of (k := 924) (by decide +kernel) rfl
theorem zm_923 : (.methodLink "java/lang/StringBuilder" 50 ⟨"java/lang/AbstractStringBuilder", "append", "(C)Ljava/lang/AbstractStringBuilder;"⟩ : Cond) ∈ zeBT := zeBT_of (k := 923) (by decide +kernel) rfl
theorem zm_1312 : (.sameMethod "java/lang/AbstractStringBuilder" "java/lang/AbstractStringBuilder" "append" "(C)Ljava/lang/AbstractStringBuilder;" : Cond) ∈ zeBT := zeBT_of (k := 1312) (by decide +kernel) rfl
theorem zm_759 : (.instanceMethod ⟨"java/lang/StringBuilder", "setLength", "(I)V"⟩ : Cond) ∈ zeBT := zeBT_of (k := 759) (by decide +kernel) rfl
theorem zm_758 : (.methodLink "WagerQuiz" 388 ⟨"java/lang/StringBuilder", "setLength", "(I)V"⟩ : Cond) ∈ zeBT := zeBT_of (k := 758) (by decide +kernel) rfl
theorem zm_760 : (.selects "java/lang/StringBuilder" ⟨"java/lang/StringBuilder", "setLength", "(I)V"⟩ ⟨"java/lang/StringBuilder", "setLength", "(I)V"⟩ : Cond) ∈ zeBT := zeBT_of (k := 760) (by decide +kernel) rfl
theorem zm_814 : (.instanceMethod ⟨"java/lang/StringBuilder", "append", "(Ljava/lang/String;)Ljava/lang/StringBuilder;"⟩ : Cond) ∈ zeBT := zeBT_of (k := 814) (by decide +kernel) rfl
theorem zm_813 : (.methodLink "WagerQuiz" 394 ⟨"java/lang/StringBuilder", "append", "(Ljava/lang/String;)Ljava/lang/StringBuilder;"⟩ : Cond) ∈ zeBT := zeBT_of (k := 813) (by decide +kernel) rfl
theorem zm_815 : (.selects "java/lang/StringBuilder" ⟨"java/lang/StringBuilder", "append", "(Ljava/lang/String;)Ljava/lang/StringBuilder;"⟩ ⟨"java/lang/StringBuilder", "append", "(Ljava/lang/String;)Ljava/lang/StringBuilder;"⟩ : Cond) ∈ zeBT := zeBT_of (k := 815) (by decide +kernel) rfl
theorem zm_894 : (.instanceMethod ⟨"java/lang/StringBuilder", "append", "(I)Ljava/lang/StringBuilder;"⟩ : Cond) ∈ zeBT := zeBT_of (k := 894) (by decide +kernel) rfl
theorem zm_893 : (.methodLink "WagerQuiz" 397 ⟨"java/lang/StringBuilder", "append", "(I)Ljava/lang/StringBuilder;"⟩ : Cond) ∈ zeBT := zeBT_of (k := 893) (by decide +kernel) rfl
theorem zm_895 : (.selects "java/lang/StringBuilder" ⟨"java/lang/StringBuilder", "append", "(I)Ljava/lang/StringBuilder;"⟩ ⟨"java/lang/StringBuilder", "append", "(I)Ljava/lang/StringBuilder;"⟩ : Cond) ∈ zeBT := zeBT_of (k := 895) (by decide +kernel) rfl
theorem zm_920 : (.instanceMethod ⟨"java/lang/StringBuilder", "append", "(C)Ljava/lang/StringBuilder;"⟩ : Cond) ∈ zeBT := zeBT_of (k := 920) (by decide +kernel) rfl
theorem zm_919 : (.methodLink "WagerQuiz" 402 ⟨"java/lang/StringBuilder", "append", "(C)Ljava/lang/StringBuilder;"⟩ : Cond) ∈ zeBT := zeBT_of (k := 919) (by decide +kernel) rfl
theorem zm_921 : (.selects "java/lang/StringBuilder" ⟨"java/lang/StringBuilder", "append", "(C)Ljava/lang/StringBuilder;"⟩ ⟨"java/lang/StringBuilder", "append", "(C)Ljava/lang/StringBuilder;"⟩ : Cond) ∈ zeBT := zeBT_of (k := 921) (by decide +kernel) rfl
theorem zm_946 : (.instanceMethod ⟨"java/lang/AbstractStringBuilder", "length", "()I"⟩ : Cond) ∈ zeBT := zeBT_of (k := 946) (by decide +kernel) rfl
theorem zm_945 : (.methodLink "java/lang/StringBuilder" 343 ⟨"java/lang/AbstractStringBuilder", "length", "()I"⟩ : Cond) ∈ zeBT := zeBT_of (k := 945) (by decide +kernel) rfl
theorem zm_1313 : (.sameMethod "java/lang/AbstractStringBuilder" "java/lang/AbstractStringBuilder" "length" "()I" : Cond) ∈ zeBT := zeBT_of (k := 1313) (by decide +kernel) rfl
theorem zm_836 : (.fieldLink "java/lang/String" 1053 "jdk/internal/util/Preconditions" "SIOOBE_FORMATTER" "Ljava/util/function/BiFunction;" : Cond) ∈ zeBT := zeBT_of (k := 836) (by decide +kernel) rfl
theorem zm_938 : (.methodLink "java/lang/String" 1059 ⟨"jdk/internal/util/Preconditions", "checkIndex", "(IILjava/util/function/BiFunction;)I"⟩ : Cond) ∈ zeBT := zeBT_of (k := 938) (by decide +kernel) rfl
theorem zm_939 : (.static ⟨"jdk/internal/util/Preconditions", "checkIndex", "(IILjava/util/function/BiFunction;)I"⟩ : Cond) ∈ zeBT := zeBT_of (k := 939) (by decide +kernel) rfl
theorem zm_955 : (.methodLink "java/lang/AbstractStringBuilder" 138 ⟨"java/lang/Math", "min", "(II)I"⟩ : Cond) ∈ zeBT := zeBT_of (k := 955) (by decide +kernel) rfl
theorem zm_956 : (.methodLink "java/lang/AbstractStringBuilder" 144 ⟨"java/lang/String", "checkIndex", "(II)V"⟩ : Cond) ∈ zeBT := zeBT_of (k := 956) (by decide +kernel) rfl
theorem zm_936 : (.static ⟨"java/lang/String", "checkIndex", "(II)V"⟩ : Cond) ∈ zeBT := zeBT_of (k := 936) (by decide +kernel) rfl
theorem zm_953 : (.instanceMethod ⟨"java/lang/AbstractStringBuilder", "charAt", "(I)C"⟩ : Cond) ∈ zeBT := zeBT_of (k := 953) (by decide +kernel) rfl
theorem zm_952 : (.methodLink "java/lang/StringBuilder" 329 ⟨"java/lang/AbstractStringBuilder", "charAt", "(I)C"⟩ : Cond) ∈ zeBT := zeBT_of (k := 952) (by decide +kernel) rfl
theorem zm_1314 : (.sameMethod "java/lang/AbstractStringBuilder" "java/lang/AbstractStringBuilder" "charAt" "(I)C" : Cond) ∈ zeBT := zeBT_of (k := 1314) (by decide +kernel) rfl
theorem zm_756 : (.instanceMethod ⟨"WagerQuiz", "writeMessage", "()V"⟩ : Cond) ∈ zeBT := zeBT_of (k := 756) (by decide +kernel) rfl
theorem zm_754 : (.methodLink "WagerQuiz" 280 ⟨"WagerQuiz", "writeMessage", "()V"⟩ : Cond) ∈ zeBT := zeBT_of (k := 754) (by decide +kernel) rfl
theorem zmp_45 : (.selects "WagerQuiz" ⟨"WagerQuiz", "writeMessage", "()V"⟩ ⟨"WagerQuiz", "writeMessage", "()V"⟩ : Cond) ∈ zeBT := zeBT_p (k := 45) (by decide +kernel) rfl
theorem zm_942 : (.instanceMethod ⟨"java/lang/StringBuilder", "length", "()I"⟩ : Cond) ∈ zeBT := zeBT_of (k := 942) (by decide +kernel) rfl
theorem zm_941 : (.methodLink "WagerQuiz" 283 ⟨"java/lang/StringBuilder", "length", "()I"⟩ : Cond) ∈ zeBT := zeBT_of (k := 941) (by decide +kernel) rfl
theorem zm_943 : (.selects "java/lang/StringBuilder" ⟨"java/lang/StringBuilder", "length", "()I"⟩ ⟨"java/lang/StringBuilder", "length", "()I"⟩ : Cond) ∈ zeBT := zeBT_of (k := 943) (by decide +kernel) rfl
theorem zm_949 : (.instanceMethod ⟨"java/lang/StringBuilder", "charAt", "(I)C"⟩ : Cond) ∈ zeBT := zeBT_of (k := 949) (by decide +kernel) rfl
theorem zm_948 : (.methodLink "WagerQuiz" 285 ⟨"java/lang/StringBuilder", "charAt", "(I)C"⟩ : Cond) ∈ zeBT := zeBT_of (k := 948) (by decide +kernel) rfl
theorem zm_950 : (.selects "java/lang/StringBuilder" ⟨"java/lang/StringBuilder", "charAt", "(I)C"⟩ ⟨"java/lang/StringBuilder", "charAt", "(I)C"⟩ : Cond) ∈ zeBT := zeBT_of (k := 950) (by decide +kernel) rfl
theorem zm_986 : (.fieldLink "WagerQuizModel" 209 "WagerQuizModel" "written" "I" : Cond) ∈ zeBT := zeBT_of (k := 986) (by decide +kernel) rfl
theorem zm_1297 : (.instanceMethod ⟨"WagerQuizModel", "write", "(I)V"⟩ : Cond) ∈ zeBT := zeBT_of (k := 1297) (by decide +kernel) rfl
theorem zm_1295 : (.methodLink "WagerQuizModel" 212 ⟨"WagerQuizModel", "write", "(I)V"⟩ : Cond) ∈ zeBT := zeBT_of (k := 1295) (by decide +kernel) rfl
theorem zmp_80 : (.selects "WagerQuizModel" ⟨"WagerQuizModel", "write", "(I)V"⟩ ⟨"WagerQuizModel", "write", "(I)V"⟩ : Cond) ∈ zeBT := zeBT_p (k := 80) (by decide +kernel) rfl
theorem zm_1301 : (.instanceMethod ⟨"WagerQuizModel", "writeNumber", "(I)V"⟩ : Cond) ∈ zeBT := zeBT_of (k := 1301) (by decide +kernel) rfl
theorem zm_1299 : (.methodLink "WagerQuizModel" 215 ⟨"WagerQuizModel", "writeNumber", "(I)V"⟩ : Cond) ∈ zeBT := zeBT_of (k := 1299) (by decide +kernel) rfl
theorem zmp_81 : (.selects "WagerQuizModel" ⟨"WagerQuizModel", "writeNumber", "(I)V"⟩ ⟨"WagerQuizModel", "writeNumber", "(I)V"⟩ : Cond) ∈ zeBT := zeBT_p (k := 81) (by decide +kernel) rfl
theorem zm_21 : (.classLink "WagerQuizLaw" 7 "WagerQuiz" : Cond) ∈ zeBT := zeBT_of (k := 21) (by decide +kernel) rfl
theorem zm_22 : (.instantiable "WagerQuiz" 8 : Cond) ∈ zeBT := zeBT_of (k := 22) (by decide +kernel) rfl
theorem zm_1 : (.initialized "WagerQuiz" : Cond) ∈ zeBT := zeBT_of (k := 1) (by decide +kernel) rfl
theorem zm_24 : (.instanceMethod ⟨"WagerQuiz", "<init>", "()V"⟩ : Cond) ∈ zeBT := zeBT_of (k := 24) (by decide +kernel) rfl
theorem zm_23 : (.methodLink "WagerQuizLaw" 9 ⟨"WagerQuiz", "<init>", "()V"⟩ : Cond) ∈ zeBT := zeBT_of (k := 23) (by decide +kernel) rfl
theorem zm_960 : (.classLink "WagerQuizLaw" 10 "WagerQuizModel" : Cond) ∈ zeBT := zeBT_of (k := 960) (by decide +kernel) rfl
theorem zm_961 : (.instantiable "WagerQuizModel" 22 : Cond) ∈ zeBT := zeBT_of (k := 961) (by decide +kernel) rfl
theorem zm_13 : (.initialized "WagerQuizModel" : Cond) ∈ zeBT := zeBT_of (k := 13) (by decide +kernel) rfl
theorem zm_963 : (.instanceMethod ⟨"WagerQuizModel", "<init>", "()V"⟩ : Cond) ∈ zeBT := zeBT_of (k := 963) (by decide +kernel) rfl
theorem zm_962 : (.methodLink "WagerQuizLaw" 12 ⟨"WagerQuizModel", "<init>", "()V"⟩ : Cond) ∈ zeBT := zeBT_of (k := 962) (by decide +kernel) rfl
theorem zm_303 : (.instanceMethod ⟨"WagerQuiz", "addPlayer", "()I"⟩ : Cond) ∈ zeBT := zeBT_of (k := 303) (by decide +kernel) rfl
theorem zm_302 : (.methodLink "WagerQuizLaw" 13 ⟨"WagerQuiz", "addPlayer", "()I"⟩ : Cond) ∈ zeBT := zeBT_of (k := 302) (by decide +kernel) rfl
theorem zm_304 : (.selects "WagerQuiz" ⟨"WagerQuiz", "addPlayer", "()I"⟩ ⟨"WagerQuiz", "addPlayer", "()I"⟩ : Cond) ∈ zeBT := zeBT_of (k := 304) (by decide +kernel) rfl
theorem zm_1055 : (.instanceMethod ⟨"WagerQuizModel", "addPlayer", "()I"⟩ : Cond) ∈ zeBT := zeBT_of (k := 1055) (by decide +kernel) rfl
theorem zm_1054 : (.methodLink "WagerQuizLaw" 17 ⟨"WagerQuizModel", "addPlayer", "()I"⟩ : Cond) ∈ zeBT := zeBT_of (k := 1054) (by decide +kernel) rfl
theorem zm_1056 : (.selects "WagerQuizModel" ⟨"WagerQuizModel", "addPlayer", "()I"⟩ ⟨"WagerQuizModel", "addPlayer", "()I"⟩ : Cond) ∈ zeBT := zeBT_of (k := 1056) (by decide +kernel) rfl
theorem zm_363 : (.instanceMethod ⟨"WagerQuiz", "setWagerClue", "(IZ)I"⟩ : Cond) ∈ zeBT := zeBT_of (k := 363) (by decide +kernel) rfl
theorem zm_362 : (.methodLink "WagerQuizLaw" 18 ⟨"WagerQuiz", "setWagerClue", "(IZ)I"⟩ : Cond) ∈ zeBT := zeBT_of (k := 362) (by decide +kernel) rfl
theorem zm_364 : (.selects "WagerQuiz" ⟨"WagerQuiz", "setWagerClue", "(IZ)I"⟩ ⟨"WagerQuiz", "setWagerClue", "(IZ)I"⟩ : Cond) ∈ zeBT := zeBT_of (k := 364) (by decide +kernel) rfl
theorem zm_1069 : (.instanceMethod ⟨"WagerQuizModel", "setWagerClue", "(IZ)I"⟩ : Cond) ∈ zeBT := zeBT_of (k := 1069) (by decide +kernel) rfl
theorem zm_1068 : (.methodLink "WagerQuizLaw" 22 ⟨"WagerQuizModel", "setWagerClue", "(IZ)I"⟩ : Cond) ∈ zeBT := zeBT_of (k := 1068) (by decide +kernel) rfl
theorem zm_1070 : (.selects "WagerQuizModel" ⟨"WagerQuizModel", "setWagerClue", "(IZ)I"⟩ ⟨"WagerQuizModel", "setWagerClue", "(IZ)I"⟩ : Cond) ∈ zeBT := zeBT_of (k := 1070) (by decide +kernel) rfl
theorem zm_383 : (.instanceMethod ⟨"WagerQuiz", "set", "(II)I"⟩ : Cond) ∈ zeBT := zeBT_of (k := 383) (by decide +kernel) rfl
theorem zm_382 : (.methodLink "WagerQuizLaw" 23 ⟨"WagerQuiz", "set", "(II)I"⟩ : Cond) ∈ zeBT := zeBT_of (k := 382) (by decide +kernel) rfl
theorem zm_384 : (.selects "WagerQuiz" ⟨"WagerQuiz", "set", "(II)I"⟩ ⟨"WagerQuiz", "set", "(II)I"⟩ : Cond) ∈ zeBT := zeBT_of (k := 384) (by decide +kernel) rfl
theorem zm_1076 : (.instanceMethod ⟨"WagerQuizModel", "set", "(II)I"⟩ : Cond) ∈ zeBT := zeBT_of (k := 1076) (by decide +kernel) rfl
theorem zm_1075 : (.methodLink "WagerQuizLaw" 27 ⟨"WagerQuizModel", "set", "(II)I"⟩ : Cond) ∈ zeBT := zeBT_of (k := 1075) (by decide +kernel) rfl
theorem zm_1077 : (.selects "WagerQuizModel" ⟨"WagerQuizModel", "set", "(II)I"⟩ ⟨"WagerQuizModel", "set", "(II)I"⟩ : Cond) ∈ zeBT := zeBT_of (k := 1077) (by decide +kernel) rfl
theorem zm_392 : (.instanceMethod ⟨"WagerQuiz", "pick", "(II)I"⟩ : Cond) ∈ zeBT := zeBT_of (k := 392) (by decide +kernel) rfl
theorem zm_391 : (.methodLink "WagerQuizLaw" 28 ⟨"WagerQuiz", "pick", "(II)I"⟩ : Cond) ∈ zeBT := zeBT_of (k := 391) (by decide +kernel) rfl
theorem zm_393 : (.selects "WagerQuiz" ⟨"WagerQuiz", "pick", "(II)I"⟩ ⟨"WagerQuiz", "pick", "(II)I"⟩ : Cond) ∈ zeBT := zeBT_of (k := 393) (by decide +kernel) rfl
theorem zm_1081 : (.instanceMethod ⟨"WagerQuizModel", "pick", "(II)I"⟩ : Cond) ∈ zeBT := zeBT_of (k := 1081) (by decide +kernel) rfl
theorem zm_1080 : (.methodLink "WagerQuizLaw" 31 ⟨"WagerQuizModel", "pick", "(II)I"⟩ : Cond) ∈ zeBT := zeBT_of (k := 1080) (by decide +kernel) rfl
theorem zm_1082 : (.selects "WagerQuizModel" ⟨"WagerQuizModel", "pick", "(II)I"⟩ ⟨"WagerQuizModel", "pick", "(II)I"⟩ : Cond) ∈ zeBT := zeBT_of (k := 1082) (by decide +kernel) rfl
theorem zm_416 : (.instanceMethod ⟨"WagerQuiz", "buzz", "(II)I"⟩ : Cond) ∈ zeBT := zeBT_of (k := 416) (by decide +kernel) rfl
theorem zm_415 : (.methodLink "WagerQuizLaw" 32 ⟨"WagerQuiz", "buzz", "(II)I"⟩ : Cond) ∈ zeBT := zeBT_of (k := 415) (by decide +kernel) rfl
theorem zm_417 : (.selects "WagerQuiz" ⟨"WagerQuiz", "buzz", "(II)I"⟩ ⟨"WagerQuiz", "buzz", "(II)I"⟩ : Cond) ∈ zeBT := zeBT_of (k := 417) (by decide +kernel) rfl
theorem zm_1111 : (.instanceMethod ⟨"WagerQuizModel", "buzz", "(II)I"⟩ : Cond) ∈ zeBT := zeBT_of (k := 1111) (by decide +kernel) rfl
theorem zm_1110 : (.methodLink "WagerQuizLaw" 35 ⟨"WagerQuizModel", "buzz", "(II)I"⟩ : Cond) ∈ zeBT := zeBT_of (k := 1110) (by decide +kernel) rfl
theorem zm_1112 : (.selects "WagerQuizModel" ⟨"WagerQuizModel", "buzz", "(II)I"⟩ ⟨"WagerQuizModel", "buzz", "(II)I"⟩ : Cond) ∈ zeBT := zeBT_of (k := 1112) (by decide +kernel) rfl
theorem zm_452 : (.instanceMethod ⟨"WagerQuiz", "answer", "(Z)I"⟩ : Cond) ∈ zeBT := zeBT_of (k := 452) (by decide +kernel) rfl
theorem zm_451 : (.methodLink "WagerQuizLaw" 36 ⟨"WagerQuiz", "answer", "(Z)I"⟩ : Cond) ∈ zeBT := zeBT_of (k := 451) (by decide +kernel) rfl
theorem zm_453 : (.selects "WagerQuiz" ⟨"WagerQuiz", "answer", "(Z)I"⟩ ⟨"WagerQuiz", "answer", "(Z)I"⟩ : Cond) ∈ zeBT := zeBT_of (k := 453) (by decide +kernel) rfl
theorem zm_1139 : (.instanceMethod ⟨"WagerQuizModel", "answer", "(Z)I"⟩ : Cond) ∈ zeBT := zeBT_of (k := 1139) (by decide +kernel) rfl
theorem zm_1138 : (.methodLink "WagerQuizLaw" 40 ⟨"WagerQuizModel", "answer", "(Z)I"⟩ : Cond) ∈ zeBT := zeBT_of (k := 1138) (by decide +kernel) rfl
theorem zm_1140 : (.selects "WagerQuizModel" ⟨"WagerQuizModel", "answer", "(Z)I"⟩ ⟨"WagerQuizModel", "answer", "(Z)I"⟩ : Cond) ∈ zeBT := zeBT_of (k := 1140) (by decide +kernel) rfl
theorem zm_537 : (.instanceMethod ⟨"WagerQuiz", "close", "()I"⟩ : Cond) ∈ zeBT := zeBT_of (k := 537) (by decide +kernel) rfl
theorem zm_536 : (.methodLink "WagerQuizLaw" 41 ⟨"WagerQuiz", "close", "()I"⟩ : Cond) ∈ zeBT := zeBT_of (k := 536) (by decide +kernel) rfl
theorem zm_538 : (.selects "WagerQuiz" ⟨"WagerQuiz", "close", "()I"⟩ ⟨"WagerQuiz", "close", "()I"⟩ : Cond) ∈ zeBT := zeBT_of (k := 538) (by decide +kernel) rfl
theorem zm_1159 : (.instanceMethod ⟨"WagerQuizModel", "close", "()I"⟩ : Cond) ∈ zeBT := zeBT_of (k := 1159) (by decide +kernel) rfl
theorem zm_1158 : (.methodLink "WagerQuizLaw" 44 ⟨"WagerQuizModel", "close", "()I"⟩ : Cond) ∈ zeBT := zeBT_of (k := 1158) (by decide +kernel) rfl
theorem zm_1160 : (.selects "WagerQuizModel" ⟨"WagerQuizModel", "close", "()I"⟩ ⟨"WagerQuizModel", "close", "()I"⟩ : Cond) ∈ zeBT := zeBT_of (k := 1160) (by decide +kernel) rfl
theorem zm_545 : (.instanceMethod ⟨"WagerQuiz", "wager", "(I)I"⟩ : Cond) ∈ zeBT := zeBT_of (k := 545) (by decide +kernel) rfl
theorem zm_544 : (.methodLink "WagerQuizLaw" 45 ⟨"WagerQuiz", "wager", "(I)I"⟩ : Cond) ∈ zeBT := zeBT_of (k := 544) (by decide +kernel) rfl
theorem zm_546 : (.selects "WagerQuiz" ⟨"WagerQuiz", "wager", "(I)I"⟩ ⟨"WagerQuiz", "wager", "(I)I"⟩ : Cond) ∈ zeBT := zeBT_of (k := 546) (by decide +kernel) rfl
theorem zm_1171 : (.instanceMethod ⟨"WagerQuizModel", "wager", "(I)I"⟩ : Cond) ∈ zeBT := zeBT_of (k := 1171) (by decide +kernel) rfl
theorem zm_1170 : (.methodLink "WagerQuizLaw" 49 ⟨"WagerQuizModel", "wager", "(I)I"⟩ : Cond) ∈ zeBT := zeBT_of (k := 1170) (by decide +kernel) rfl
theorem zm_1172 : (.selects "WagerQuizModel" ⟨"WagerQuizModel", "wager", "(I)I"⟩ ⟨"WagerQuizModel", "wager", "(I)I"⟩ : Cond) ∈ zeBT := zeBT_of (k := 1172) (by decide +kernel) rfl
theorem zm_555 : (.instanceMethod ⟨"WagerQuiz", "beginFinal", "()I"⟩ : Cond) ∈ zeBT := zeBT_of (k := 555) (by decide +kernel) rfl
theorem zm_554 : (.methodLink "WagerQuizLaw" 50 ⟨"WagerQuiz", "beginFinal", "()I"⟩ : Cond) ∈ zeBT := zeBT_of (k := 554) (by decide +kernel) rfl
theorem zm_556 : (.selects "WagerQuiz" ⟨"WagerQuiz", "beginFinal", "()I"⟩ ⟨"WagerQuiz", "beginFinal", "()I"⟩ : Cond) ∈ zeBT := zeBT_of (k := 556) (by decide +kernel) rfl
theorem zm_1188 : (.instanceMethod ⟨"WagerQuizModel", "beginFinal", "()I"⟩ : Cond) ∈ zeBT := zeBT_of (k := 1188) (by decide +kernel) rfl
theorem zm_1187 : (.methodLink "WagerQuizLaw" 53 ⟨"WagerQuizModel", "beginFinal", "()I"⟩ : Cond) ∈ zeBT := zeBT_of (k := 1187) (by decide +kernel) rfl
theorem zm_1189 : (.selects "WagerQuizModel" ⟨"WagerQuizModel", "beginFinal", "()I"⟩ ⟨"WagerQuizModel", "beginFinal", "()I"⟩ : Cond) ∈ zeBT := zeBT_of (k := 1189) (by decide +kernel) rfl
theorem zm_568 : (.instanceMethod ⟨"WagerQuiz", "wagerFinal", "(II)I"⟩ : Cond) ∈ zeBT := zeBT_of (k := 568) (by decide +kernel) rfl
theorem zm_567 : (.methodLink "WagerQuizLaw" 54 ⟨"WagerQuiz", "wagerFinal", "(II)I"⟩ : Cond) ∈ zeBT := zeBT_of (k := 567) (by decide +kernel) rfl
theorem zm_569 : (.selects "WagerQuiz" ⟨"WagerQuiz", "wagerFinal", "(II)I"⟩ ⟨"WagerQuiz", "wagerFinal", "(II)I"⟩ : Cond) ∈ zeBT := zeBT_of (k := 569) (by decide +kernel) rfl
theorem zm_1192 : (.instanceMethod ⟨"WagerQuizModel", "wagerFinal", "(II)I"⟩ : Cond) ∈ zeBT := zeBT_of (k := 1192) (by decide +kernel) rfl
theorem zm_1191 : (.methodLink "WagerQuizLaw" 57 ⟨"WagerQuizModel", "wagerFinal", "(II)I"⟩ : Cond) ∈ zeBT := zeBT_of (k := 1191) (by decide +kernel) rfl
theorem zm_1193 : (.selects "WagerQuizModel" ⟨"WagerQuizModel", "wagerFinal", "(II)I"⟩ ⟨"WagerQuizModel", "wagerFinal", "(II)I"⟩ : Cond) ∈ zeBT := zeBT_of (k := 1193) (by decide +kernel) rfl
theorem zm_585 : (.instanceMethod ⟨"WagerQuiz", "safeWager", "(I)I"⟩ : Cond) ∈ zeBT := zeBT_of (k := 585) (by decide +kernel) rfl
theorem zm_584 : (.methodLink "WagerQuizLaw" 58 ⟨"WagerQuiz", "safeWager", "(I)I"⟩ : Cond) ∈ zeBT := zeBT_of (k := 584) (by decide +kernel) rfl
theorem zm_586 : (.selects "WagerQuiz" ⟨"WagerQuiz", "safeWager", "(I)I"⟩ ⟨"WagerQuiz", "safeWager", "(I)I"⟩ : Cond) ∈ zeBT := zeBT_of (k := 586) (by decide +kernel) rfl
theorem zm_1196 : (.instanceMethod ⟨"WagerQuizModel", "safeWager", "(I)I"⟩ : Cond) ∈ zeBT := zeBT_of (k := 1196) (by decide +kernel) rfl
theorem zm_1195 : (.methodLink "WagerQuizLaw" 61 ⟨"WagerQuizModel", "safeWager", "(I)I"⟩ : Cond) ∈ zeBT := zeBT_of (k := 1195) (by decide +kernel) rfl
theorem zm_1197 : (.selects "WagerQuizModel" ⟨"WagerQuizModel", "safeWager", "(I)I"⟩ ⟨"WagerQuizModel", "safeWager", "(I)I"⟩ : Cond) ∈ zeBT := zeBT_of (k := 1197) (by decide +kernel) rfl
theorem zm_592 : (.instanceMethod ⟨"WagerQuiz", "correct", "(II)I"⟩ : Cond) ∈ zeBT := zeBT_of (k := 592) (by decide +kernel) rfl
theorem zm_591 : (.methodLink "WagerQuizLaw" 62 ⟨"WagerQuiz", "correct", "(II)I"⟩ : Cond) ∈ zeBT := zeBT_of (k := 591) (by decide +kernel) rfl
theorem zm_593 : (.selects "WagerQuiz" ⟨"WagerQuiz", "correct", "(II)I"⟩ ⟨"WagerQuiz", "correct", "(II)I"⟩ : Cond) ∈ zeBT := zeBT_of (k := 593) (by decide +kernel) rfl
theorem zm_1201 : (.instanceMethod ⟨"WagerQuizModel", "correct", "(II)I"⟩ : Cond) ∈ zeBT := zeBT_of (k := 1201) (by decide +kernel) rfl
theorem zm_1200 : (.methodLink "WagerQuizLaw" 65 ⟨"WagerQuizModel", "correct", "(II)I"⟩ : Cond) ∈ zeBT := zeBT_of (k := 1200) (by decide +kernel) rfl
theorem zm_1202 : (.selects "WagerQuizModel" ⟨"WagerQuizModel", "correct", "(II)I"⟩ ⟨"WagerQuizModel", "correct", "(II)I"⟩ : Cond) ∈ zeBT := zeBT_of (k := 1202) (by decide +kernel) rfl
theorem zm_600 : (.instanceMethod ⟨"WagerQuiz", "rejudge", "(I)I"⟩ : Cond) ∈ zeBT := zeBT_of (k := 600) (by decide +kernel) rfl
theorem zm_599 : (.methodLink "WagerQuizLaw" 66 ⟨"WagerQuiz", "rejudge", "(I)I"⟩ : Cond) ∈ zeBT := zeBT_of (k := 599) (by decide +kernel) rfl
theorem zm_601 : (.selects "WagerQuiz" ⟨"WagerQuiz", "rejudge", "(I)I"⟩ ⟨"WagerQuiz", "rejudge", "(I)I"⟩ : Cond) ∈ zeBT := zeBT_of (k := 601) (by decide +kernel) rfl
theorem zm_1205 : (.instanceMethod ⟨"WagerQuizModel", "rejudge", "(I)I"⟩ : Cond) ∈ zeBT := zeBT_of (k := 1205) (by decide +kernel) rfl
theorem zm_1204 : (.methodLink "WagerQuizLaw" 69 ⟨"WagerQuizModel", "rejudge", "(I)I"⟩ : Cond) ∈ zeBT := zeBT_of (k := 1204) (by decide +kernel) rfl
theorem zm_1206 : (.selects "WagerQuizModel" ⟨"WagerQuizModel", "rejudge", "(I)I"⟩ ⟨"WagerQuizModel", "rejudge", "(I)I"⟩ : Cond) ∈ zeBT := zeBT_of (k := 1206) (by decide +kernel) rfl
theorem zm_621 : (.instanceMethod ⟨"WagerQuiz", "type", "(C)I"⟩ : Cond) ∈ zeBT := zeBT_of (k := 621) (by decide +kernel) rfl
theorem zm_620 : (.methodLink "WagerQuizLaw" 70 ⟨"WagerQuiz", "type", "(C)I"⟩ : Cond) ∈ zeBT := zeBT_of (k := 620) (by decide +kernel) rfl
theorem zm_622 : (.selects "WagerQuiz" ⟨"WagerQuiz", "type", "(C)I"⟩ ⟨"WagerQuiz", "type", "(C)I"⟩ : Cond) ∈ zeBT := zeBT_of (k := 622) (by decide +kernel) rfl
theorem zm_1213 : (.instanceMethod ⟨"WagerQuizModel", "type", "(C)I"⟩ : Cond) ∈ zeBT := zeBT_of (k := 1213) (by decide +kernel) rfl
theorem zm_1212 : (.methodLink "WagerQuizLaw" 74 ⟨"WagerQuizModel", "type", "(C)I"⟩ : Cond) ∈ zeBT := zeBT_of (k := 1212) (by decide +kernel) rfl
theorem zm_1214 : (.selects "WagerQuizModel" ⟨"WagerQuizModel", "type", "(C)I"⟩ ⟨"WagerQuizModel", "type", "(C)I"⟩ : Cond) ∈ zeBT := zeBT_of (k := 1214) (by decide +kernel) rfl
theorem zm_629 : (.instanceMethod ⟨"WagerQuiz", "clearText", "()I"⟩ : Cond) ∈ zeBT := zeBT_of (k := 629) (by decide +kernel) rfl
theorem zm_628 : (.methodLink "WagerQuizLaw" 75 ⟨"WagerQuiz", "clearText", "()I"⟩ : Cond) ∈ zeBT := zeBT_of (k := 628) (by decide +kernel) rfl
theorem zm_630 : (.selects "WagerQuiz" ⟨"WagerQuiz", "clearText", "()I"⟩ ⟨"WagerQuiz", "clearText", "()I"⟩ : Cond) ∈ zeBT := zeBT_of (k := 630) (by decide +kernel) rfl
theorem zm_1217 : (.instanceMethod ⟨"WagerQuizModel", "clearText", "()I"⟩ : Cond) ∈ zeBT := zeBT_of (k := 1217) (by decide +kernel) rfl
theorem zm_1216 : (.methodLink "WagerQuizLaw" 78 ⟨"WagerQuizModel", "clearText", "()I"⟩ : Cond) ∈ zeBT := zeBT_of (k := 1216) (by decide +kernel) rfl
theorem zm_1218 : (.selects "WagerQuizModel" ⟨"WagerQuizModel", "clearText", "()I"⟩ ⟨"WagerQuizModel", "clearText", "()I"⟩ : Cond) ∈ zeBT := zeBT_of (k := 1218) (by decide +kernel) rfl
theorem zm_633 : (.instanceMethod ⟨"WagerQuiz", "runScript", "()I"⟩ : Cond) ∈ zeBT := zeBT_of (k := 633) (by decide +kernel) rfl
theorem zm_632 : (.methodLink "WagerQuizLaw" 79 ⟨"WagerQuiz", "runScript", "()I"⟩ : Cond) ∈ zeBT := zeBT_of (k := 632) (by decide +kernel) rfl
theorem zm_634 : (.selects "WagerQuiz" ⟨"WagerQuiz", "runScript", "()I"⟩ ⟨"WagerQuiz", "runScript", "()I"⟩ : Cond) ∈ zeBT := zeBT_of (k := 634) (by decide +kernel) rfl
theorem zm_1221 : (.instanceMethod ⟨"WagerQuizModel", "runScript", "()I"⟩ : Cond) ∈ zeBT := zeBT_of (k := 1221) (by decide +kernel) rfl
theorem zm_1220 : (.methodLink "WagerQuizLaw" 82 ⟨"WagerQuizModel", "runScript", "()I"⟩ : Cond) ∈ zeBT := zeBT_of (k := 1220) (by decide +kernel) rfl
theorem zm_1222 : (.selects "WagerQuizModel" ⟨"WagerQuizModel", "runScript", "()I"⟩ ⟨"WagerQuizModel", "runScript", "()I"⟩ : Cond) ∈ zeBT := zeBT_of (k := 1222) (by decide +kernel) rfl
theorem zm_671 : (.instanceMethod ⟨"WagerQuiz", "undo", "()I"⟩ : Cond) ∈ zeBT := zeBT_of (k := 671) (by decide +kernel) rfl
theorem zm_670 : (.methodLink "WagerQuizLaw" 83 ⟨"WagerQuiz", "undo", "()I"⟩ : Cond) ∈ zeBT := zeBT_of (k := 670) (by decide +kernel) rfl
theorem zm_672 : (.selects "WagerQuiz" ⟨"WagerQuiz", "undo", "()I"⟩ ⟨"WagerQuiz", "undo", "()I"⟩ : Cond) ∈ zeBT := zeBT_of (k := 672) (by decide +kernel) rfl
theorem zm_1034 : (.instanceMethod ⟨"WagerQuizModel", "undo", "()I"⟩ : Cond) ∈ zeBT := zeBT_of (k := 1034) (by decide +kernel) rfl
theorem zm_1033 : (.methodLink "WagerQuizLaw" 86 ⟨"WagerQuizModel", "undo", "()I"⟩ : Cond) ∈ zeBT := zeBT_of (k := 1033) (by decide +kernel) rfl
theorem zm_1035 : (.selects "WagerQuizModel" ⟨"WagerQuizModel", "undo", "()I"⟩ ⟨"WagerQuizModel", "undo", "()I"⟩ : Cond) ∈ zeBT := zeBT_of (k := 1035) (by decide +kernel) rfl
theorem zm_684 : (.instanceMethod ⟨"WagerQuiz", "keep", "(I)I"⟩ : Cond) ∈ zeBT := zeBT_of (k := 684) (by decide +kernel) rfl
theorem zm_683 : (.methodLink "WagerQuizLaw" 87 ⟨"WagerQuiz", "keep", "(I)I"⟩ : Cond) ∈ zeBT := zeBT_of (k := 683) (by decide +kernel) rfl
theorem zm_685 : (.selects "WagerQuiz" ⟨"WagerQuiz", "keep", "(I)I"⟩ ⟨"WagerQuiz", "keep", "(I)I"⟩ : Cond) ∈ zeBT := zeBT_of (k := 685) (by decide +kernel) rfl
theorem zm_1039 : (.instanceMethod ⟨"WagerQuizModel", "keep", "(I)I"⟩ : Cond) ∈ zeBT := zeBT_of (k := 1039) (by decide +kernel) rfl
theorem zm_1038 : (.methodLink "WagerQuizLaw" 90 ⟨"WagerQuizModel", "keep", "(I)I"⟩ : Cond) ∈ zeBT := zeBT_of (k := 1038) (by decide +kernel) rfl
theorem zm_1040 : (.selects "WagerQuizModel" ⟨"WagerQuizModel", "keep", "(I)I"⟩ ⟨"WagerQuizModel", "keep", "(I)I"⟩ : Cond) ∈ zeBT := zeBT_of (k := 1040) (by decide +kernel) rfl
theorem zm_691 : (.instanceMethod ⟨"WagerQuiz", "restore", "(I)I"⟩ : Cond) ∈ zeBT := zeBT_of (k := 691) (by decide +kernel) rfl
theorem zm_690 : (.methodLink "WagerQuizLaw" 91 ⟨"WagerQuiz", "restore", "(I)I"⟩ : Cond) ∈ zeBT := zeBT_of (k := 690) (by decide +kernel) rfl
theorem zm_692 : (.selects "WagerQuiz" ⟨"WagerQuiz", "restore", "(I)I"⟩ ⟨"WagerQuiz", "restore", "(I)I"⟩ : Cond) ∈ zeBT := zeBT_of (k := 692) (by decide +kernel) rfl
theorem zm_1047 : (.instanceMethod ⟨"WagerQuizModel", "restore", "(I)I"⟩ : Cond) ∈ zeBT := zeBT_of (k := 1047) (by decide +kernel) rfl
theorem zm_1046 : (.methodLink "WagerQuizLaw" 94 ⟨"WagerQuizModel", "restore", "(I)I"⟩ : Cond) ∈ zeBT := zeBT_of (k := 1046) (by decide +kernel) rfl
theorem zm_1048 : (.selects "WagerQuizModel" ⟨"WagerQuizModel", "restore", "(I)I"⟩ ⟨"WagerQuizModel", "restore", "(I)I"⟩ : Cond) ∈ zeBT := zeBT_of (k := 1048) (by decide +kernel) rfl
theorem zm_695 : (.instanceMethod ⟨"WagerQuiz", "player", "(II)I"⟩ : Cond) ∈ zeBT := zeBT_of (k := 695) (by decide +kernel) rfl
theorem zm_694 : (.methodLink "WagerQuizLaw" 95 ⟨"WagerQuiz", "player", "(II)I"⟩ : Cond) ∈ zeBT := zeBT_of (k := 694) (by decide +kernel) rfl
theorem zm_696 : (.selects "WagerQuiz" ⟨"WagerQuiz", "player", "(II)I"⟩ ⟨"WagerQuiz", "player", "(II)I"⟩ : Cond) ∈ zeBT := zeBT_of (k := 696) (by decide +kernel) rfl
theorem zm_1241 : (.instanceMethod ⟨"WagerQuizModel", "player", "(II)I"⟩ : Cond) ∈ zeBT := zeBT_of (k := 1241) (by decide +kernel) rfl
theorem zm_1240 : (.methodLink "WagerQuizLaw" 98 ⟨"WagerQuizModel", "player", "(II)I"⟩ : Cond) ∈ zeBT := zeBT_of (k := 1240) (by decide +kernel) rfl
theorem zm_1242 : (.selects "WagerQuizModel" ⟨"WagerQuizModel", "player", "(II)I"⟩ ⟨"WagerQuizModel", "player", "(II)I"⟩ : Cond) ∈ zeBT := zeBT_of (k := 1242) (by decide +kernel) rfl
theorem zm_711 : (.instanceMethod ⟨"WagerQuiz", "ordered", "(I)I"⟩ : Cond) ∈ zeBT := zeBT_of (k := 711) (by decide +kernel) rfl
theorem zm_710 : (.methodLink "WagerQuizLaw" 99 ⟨"WagerQuiz", "ordered", "(I)I"⟩ : Cond) ∈ zeBT := zeBT_of (k := 710) (by decide +kernel) rfl
theorem zm_712 : (.selects "WagerQuiz" ⟨"WagerQuiz", "ordered", "(I)I"⟩ ⟨"WagerQuiz", "ordered", "(I)I"⟩ : Cond) ∈ zeBT := zeBT_of (k := 712) (by decide +kernel) rfl
theorem zm_1260 : (.instanceMethod ⟨"WagerQuizModel", "ordered", "(I)I"⟩ : Cond) ∈ zeBT := zeBT_of (k := 1260) (by decide +kernel) rfl
theorem zm_1259 : (.methodLink "WagerQuizLaw" 102 ⟨"WagerQuizModel", "ordered", "(I)I"⟩ : Cond) ∈ zeBT := zeBT_of (k := 1259) (by decide +kernel) rfl
theorem zm_1261 : (.selects "WagerQuizModel" ⟨"WagerQuizModel", "ordered", "(I)I"⟩ ⟨"WagerQuizModel", "ordered", "(I)I"⟩ : Cond) ∈ zeBT := zeBT_of (k := 1261) (by decide +kernel) rfl
theorem zm_719 : (.instanceMethod ⟨"WagerQuiz", "queued", "(I)I"⟩ : Cond) ∈ zeBT := zeBT_of (k := 719) (by decide +kernel) rfl
theorem zm_718 : (.methodLink "WagerQuizLaw" 103 ⟨"WagerQuiz", "queued", "(I)I"⟩ : Cond) ∈ zeBT := zeBT_of (k := 718) (by decide +kernel) rfl
theorem zm_720 : (.selects "WagerQuiz" ⟨"WagerQuiz", "queued", "(I)I"⟩ ⟨"WagerQuiz", "queued", "(I)I"⟩ : Cond) ∈ zeBT := zeBT_of (k := 720) (by decide +kernel) rfl
theorem zm_1268 : (.instanceMethod ⟨"WagerQuizModel", "queued", "(I)I"⟩ : Cond) ∈ zeBT := zeBT_of (k := 1268) (by decide +kernel) rfl
theorem zm_1267 : (.methodLink "WagerQuizLaw" 106 ⟨"WagerQuizModel", "queued", "(I)I"⟩ : Cond) ∈ zeBT := zeBT_of (k := 1267) (by decide +kernel) rfl
theorem zm_1269 : (.selects "WagerQuizModel" ⟨"WagerQuizModel", "queued", "(I)I"⟩ ⟨"WagerQuizModel", "queued", "(I)I"⟩ : Cond) ∈ zeBT := zeBT_of (k := 1269) (by decide +kernel) rfl
theorem zm_723 : (.instanceMethod ⟨"WagerQuiz", "clue", "(II)I"⟩ : Cond) ∈ zeBT := zeBT_of (k := 723) (by decide +kernel) rfl
theorem zm_722 : (.methodLink "WagerQuizLaw" 107 ⟨"WagerQuiz", "clue", "(II)I"⟩ : Cond) ∈ zeBT := zeBT_of (k := 722) (by decide +kernel) rfl
theorem zm_724 : (.selects "WagerQuiz" ⟨"WagerQuiz", "clue", "(II)I"⟩ ⟨"WagerQuiz", "clue", "(II)I"⟩ : Cond) ∈ zeBT := zeBT_of (k := 724) (by decide +kernel) rfl
theorem zm_1272 : (.instanceMethod ⟨"WagerQuizModel", "clue", "(II)I"⟩ : Cond) ∈ zeBT := zeBT_of (k := 1272) (by decide +kernel) rfl
theorem zm_1271 : (.methodLink "WagerQuizLaw" 110 ⟨"WagerQuizModel", "clue", "(II)I"⟩ : Cond) ∈ zeBT := zeBT_of (k := 1271) (by decide +kernel) rfl
theorem zm_1273 : (.selects "WagerQuizModel" ⟨"WagerQuizModel", "clue", "(II)I"⟩ ⟨"WagerQuizModel", "clue", "(II)I"⟩ : Cond) ∈ zeBT := zeBT_of (k := 1273) (by decide +kernel) rfl
theorem zm_731 : (.instanceMethod ⟨"WagerQuiz", "entry", "(II)I"⟩ : Cond) ∈ zeBT := zeBT_of (k := 731) (by decide +kernel) rfl
theorem zm_730 : (.methodLink "WagerQuizLaw" 111 ⟨"WagerQuiz", "entry", "(II)I"⟩ : Cond) ∈ zeBT := zeBT_of (k := 730) (by decide +kernel) rfl
theorem zm_732 : (.selects "WagerQuiz" ⟨"WagerQuiz", "entry", "(II)I"⟩ ⟨"WagerQuiz", "entry", "(II)I"⟩ : Cond) ∈ zeBT := zeBT_of (k := 732) (by decide +kernel) rfl
theorem zm_1280 : (.instanceMethod ⟨"WagerQuizModel", "entry", "(II)I"⟩ : Cond) ∈ zeBT := zeBT_of (k := 1280) (by decide +kernel) rfl
theorem zm_1279 : (.methodLink "WagerQuizLaw" 114 ⟨"WagerQuizModel", "entry", "(II)I"⟩ : Cond) ∈ zeBT := zeBT_of (k := 1279) (by decide +kernel) rfl
theorem zm_1281 : (.selects "WagerQuizModel" ⟨"WagerQuizModel", "entry", "(II)I"⟩ ⟨"WagerQuizModel", "entry", "(II)I"⟩ : Cond) ∈ zeBT := zeBT_of (k := 1281) (by decide +kernel) rfl
theorem zm_735 : (.instanceMethod ⟨"WagerQuiz", "count", "(I)I"⟩ : Cond) ∈ zeBT := zeBT_of (k := 735) (by decide +kernel) rfl
theorem zm_734 : (.methodLink "WagerQuizLaw" 115 ⟨"WagerQuiz", "count", "(I)I"⟩ : Cond) ∈ zeBT := zeBT_of (k := 734) (by decide +kernel) rfl
theorem zm_736 : (.selects "WagerQuiz" ⟨"WagerQuiz", "count", "(I)I"⟩ ⟨"WagerQuiz", "count", "(I)I"⟩ : Cond) ∈ zeBT := zeBT_of (k := 736) (by decide +kernel) rfl
theorem zm_1284 : (.instanceMethod ⟨"WagerQuizModel", "count", "(I)I"⟩ : Cond) ∈ zeBT := zeBT_of (k := 1284) (by decide +kernel) rfl
theorem zm_1283 : (.methodLink "WagerQuizLaw" 118 ⟨"WagerQuizModel", "count", "(I)I"⟩ : Cond) ∈ zeBT := zeBT_of (k := 1283) (by decide +kernel) rfl
theorem zm_1285 : (.selects "WagerQuizModel" ⟨"WagerQuizModel", "count", "(I)I"⟩ ⟨"WagerQuizModel", "count", "(I)I"⟩ : Cond) ∈ zeBT := zeBT_of (k := 1285) (by decide +kernel) rfl
theorem zm_751 : (.instanceMethod ⟨"WagerQuiz", "messageAt", "(I)I"⟩ : Cond) ∈ zeBT := zeBT_of (k := 751) (by decide +kernel) rfl
theorem zm_750 : (.methodLink "WagerQuizLaw" 119 ⟨"WagerQuiz", "messageAt", "(I)I"⟩ : Cond) ∈ zeBT := zeBT_of (k := 750) (by decide +kernel) rfl
theorem zm_752 : (.selects "WagerQuiz" ⟨"WagerQuiz", "messageAt", "(I)I"⟩ ⟨"WagerQuiz", "messageAt", "(I)I"⟩ : Cond) ∈ zeBT := zeBT_of (k := 752) (by decide +kernel) rfl
theorem zm_1292 : (.instanceMethod ⟨"WagerQuizModel", "messageAt", "(I)I"⟩ : Cond) ∈ zeBT := zeBT_of (k := 1292) (by decide +kernel) rfl
theorem zm_1291 : (.methodLink "WagerQuizLaw" 122 ⟨"WagerQuizModel", "messageAt", "(I)I"⟩ : Cond) ∈ zeBT := zeBT_of (k := 1291) (by decide +kernel) rfl
theorem zm_1293 : (.selects "WagerQuizModel" ⟨"WagerQuizModel", "messageAt", "(I)I"⟩ ⟨"WagerQuizModel", "messageAt", "(I)I"⟩ : Cond) ∈ zeBT := zeBT_of (k := 1293) (by decide +kernel) rfl
theorem zm_85 : (.lays "WagerQuiz$FinalRound" "WagerQuiz$FinalRound" "answers" "I" : Cond) ∈ zeBT := zeBT_of (k := 85) (by decide +kernel) rfl
theorem zm_87 : (.laysFinal "WagerQuiz$FinalRound" "WagerQuiz$FinalRound" "startScores" "[I" : Cond) ∈ zeBT := zeBT_of (k := 87) (by decide +kernel) rfl
theorem zm_89 : (.laysFinal "WagerQuiz$FinalRound" "WagerQuiz$FinalRound" "wagers" "[I" : Cond) ∈ zeBT := zeBT_of (k := 89) (by decide +kernel) rfl
theorem zm_223 : (.lays "WagerQuiz$History" "WagerQuiz$History" "size" "I" : Cond) ∈ zeBT := zeBT_of (k := 223) (by decide +kernel) rfl
theorem zm_225 : (.lays "WagerQuiz$History" "WagerQuiz$History" "trial" "I" : Cond) ∈ zeBT := zeBT_of (k := 225) (by decide +kernel) rfl
theorem zm_227 : (.laysFinal "WagerQuiz$History" "WagerQuiz$History" "ring" "[LWagerQuiz$State;" : Cond) ∈ zeBT := zeBT_of (k := 227) (by decide +kernel) rfl
theorem zm_116 : (.lays "WagerQuiz$Log" "WagerQuiz$Log" "size" "I" : Cond) ∈ zeBT := zeBT_of (k := 116) (by decide +kernel) rfl
theorem zm_118 : (.laysFinal "WagerQuiz$Log" "WagerQuiz$Log" "players" "[I" : Cond) ∈ zeBT := zeBT_of (k := 118) (by decide +kernel) rfl
theorem zm_120 : (.laysFinal "WagerQuiz$Log" "WagerQuiz$Log" "sorts" "[I" : Cond) ∈ zeBT := zeBT_of (k := 120) (by decide +kernel) rfl
theorem zm_122 : (.laysFinal "WagerQuiz$Log" "WagerQuiz$Log" "clues" "[I" : Cond) ∈ zeBT := zeBT_of (k := 122) (by decide +kernel) rfl
theorem zm_124 : (.laysFinal "WagerQuiz$Log" "WagerQuiz$Log" "amounts" "[I" : Cond) ∈ zeBT := zeBT_of (k := 124) (by decide +kernel) rfl
theorem zm_126 : (.laysFinal "WagerQuiz$Log" "WagerQuiz$Log" "judgements" "[I" : Cond) ∈ zeBT := zeBT_of (k := 126) (by decide +kernel) rfl
theorem zm_53 : (.lays "WagerQuiz$PickedClue" "WagerQuiz$PickedClue" "clue" "I" : Cond) ∈ zeBT := zeBT_of (k := 53) (by decide +kernel) rfl
theorem zm_55 : (.lays "WagerQuiz$PickedClue" "WagerQuiz$PickedClue" "reading" "I" : Cond) ∈ zeBT := zeBT_of (k := 55) (by decide +kernel) rfl
theorem zm_57 : (.lays "WagerQuiz$PickedClue" "WagerQuiz$PickedClue" "lock" "I" : Cond) ∈ zeBT := zeBT_of (k := 57) (by decide +kernel) rfl
theorem zm_59 : (.lays "WagerQuiz$PickedClue" "WagerQuiz$PickedClue" "wager" "I" : Cond) ∈ zeBT := zeBT_of (k := 59) (by decide +kernel) rfl
theorem zm_61 : (.lays "WagerQuiz$PickedClue" "WagerQuiz$PickedClue" "answered" "I" : Cond) ∈ zeBT := zeBT_of (k := 61) (by decide +kernel) rfl
theorem zm_63 : (.laysFinal "WagerQuiz$PickedClue" "WagerQuiz$PickedClue" "countingTicks" "[I" : Cond) ∈ zeBT := zeBT_of (k := 63) (by decide +kernel) rfl
theorem zm_65 : (.laysFinal "WagerQuiz$PickedClue" "WagerQuiz$PickedClue" "ticksBelow64" "[J" : Cond) ∈ zeBT := zeBT_of (k := 65) (by decide +kernel) rfl
theorem zm_67 : (.laysFinal "WagerQuiz$PickedClue" "WagerQuiz$PickedClue" "ticksFrom64" "[J" : Cond) ∈ zeBT := zeBT_of (k := 67) (by decide +kernel) rfl
theorem zm_188 : (.lays "WagerQuiz$Replay" "WagerQuiz$Replay" "control" "I" : Cond) ∈ zeBT := zeBT_of (k := 188) (by decide +kernel) rfl
theorem zm_190 : (.laysFinal "WagerQuiz$Replay" "WagerQuiz$Replay" "scores" "[I" : Cond) ∈ zeBT := zeBT_of (k := 190) (by decide +kernel) rfl
theorem zm_192 : (.laysFinal "WagerQuiz$Replay" "WagerQuiz$Replay" "rights" "[I" : Cond) ∈ zeBT := zeBT_of (k := 192) (by decide +kernel) rfl
theorem zm_194 : (.laysFinal "WagerQuiz$Replay" "WagerQuiz$Replay" "wrongs" "[I" : Cond) ∈ zeBT := zeBT_of (k := 194) (by decide +kernel) rfl
theorem zm_196 : (.laysFinal "WagerQuiz$Replay" "WagerQuiz$Replay" "corrections" "[I" : Cond) ∈ zeBT := zeBT_of (k := 196) (by decide +kernel) rfl
theorem zm_198 : (.laysFinal "WagerQuiz$Replay" "WagerQuiz$Replay" "solvers" "[I" : Cond) ∈ zeBT := zeBT_of (k := 198) (by decide +kernel) rfl
theorem zm_200 : (.laysFinal "WagerQuiz$Replay" "WagerQuiz$Replay" "amounts" "[I" : Cond) ∈ zeBT := zeBT_of (k := 200) (by decide +kernel) rfl
theorem zm_202 : (.laysFinal "WagerQuiz$Replay" "WagerQuiz$Replay" "scoresBehind" "[I" : Cond) ∈ zeBT := zeBT_of (k := 202) (by decide +kernel) rfl
theorem zm_204 : (.laysFinal "WagerQuiz$Replay" "WagerQuiz$Replay" "voids" "[Z" : Cond) ∈ zeBT := zeBT_of (k := 204) (by decide +kernel) rfl
theorem zm_206 : (.laysFinal "WagerQuiz$Replay" "WagerQuiz$Replay" "formerScores" "[I" : Cond) ∈ zeBT := zeBT_of (k := 206) (by decide +kernel) rfl
theorem zm_239 : (.lays "WagerQuiz$Script" "WagerQuiz$Script" "length" "I" : Cond) ∈ zeBT := zeBT_of (k := 239) (by decide +kernel) rfl
theorem zm_241 : (.laysFinal "WagerQuiz$Script" "WagerQuiz$Script" "signs" "[C" : Cond) ∈ zeBT := zeBT_of (k := 241) (by decide +kernel) rfl
theorem zm_145 : (.lays "WagerQuiz$State" "WagerQuiz$State" "phase" "I" : Cond) ∈ zeBT := zeBT_of (k := 145) (by decide +kernel) rfl
theorem zm_147 : (.lays "WagerQuiz$State" "WagerQuiz$State" "players" "I" : Cond) ∈ zeBT := zeBT_of (k := 147) (by decide +kernel) rfl
theorem zm_149 : (.lays "WagerQuiz$State" "WagerQuiz$State" "wagerClues" "I" : Cond) ∈ zeBT := zeBT_of (k := 149) (by decide +kernel) rfl
theorem zm_151 : (.lays "WagerQuiz$State" "WagerQuiz$State" "goneClues" "I" : Cond) ∈ zeBT := zeBT_of (k := 151) (by decide +kernel) rfl
theorem zm_153 : (.laysFinal "WagerQuiz$State" "WagerQuiz$State" "settings" "[I" : Cond) ∈ zeBT := zeBT_of (k := 153) (by decide +kernel) rfl
theorem zm_155 : (.laysFinal "WagerQuiz$State" "WagerQuiz$State" "open" "LWagerQuiz$PickedClue;" : Cond) ∈ zeBT := zeBT_of (k := 155) (by decide +kernel) rfl
theorem zm_157 : (.laysFinal "WagerQuiz$State" "WagerQuiz$State" "finale" "LWagerQuiz$FinalRound;" : Cond) ∈ zeBT := zeBT_of (k := 157) (by decide +kernel) rfl
theorem zm_159 : (.laysFinal "WagerQuiz$State" "WagerQuiz$State" "log" "LWagerQuiz$Log;" : Cond) ∈ zeBT := zeBT_of (k := 159) (by decide +kernel) rfl
theorem zm_285 : (.laysFinal "WagerQuiz" "WagerQuiz" "now" "LWagerQuiz$State;" : Cond) ∈ zeBT := zeBT_of (k := 285) (by decide +kernel) rfl
theorem zm_287 : (.laysFinal "WagerQuiz" "WagerQuiz" "replay" "LWagerQuiz$Replay;" : Cond) ∈ zeBT := zeBT_of (k := 287) (by decide +kernel) rfl
theorem zm_289 : (.laysFinal "WagerQuiz" "WagerQuiz" "history" "LWagerQuiz$History;" : Cond) ∈ zeBT := zeBT_of (k := 289) (by decide +kernel) rfl
theorem zm_291 : (.laysFinal "WagerQuiz" "WagerQuiz" "slots" "[LWagerQuiz$State;" : Cond) ∈ zeBT := zeBT_of (k := 291) (by decide +kernel) rfl
theorem zm_293 : (.laysFinal "WagerQuiz" "WagerQuiz" "slotTaken" "[Z" : Cond) ∈ zeBT := zeBT_of (k := 293) (by decide +kernel) rfl
theorem zm_295 : (.laysFinal "WagerQuiz" "WagerQuiz" "script" "LWagerQuiz$Script;" : Cond) ∈ zeBT := zeBT_of (k := 295) (by decide +kernel) rfl
theorem zm_297 : (.laysFinal "WagerQuiz" "WagerQuiz" "message" "Ljava/lang/StringBuilder;" : Cond) ∈ zeBT := zeBT_of (k := 297) (by decide +kernel) rfl
theorem zm_299 : (.lays "WagerQuiz" "WagerQuiz" "reason" "I" : Cond) ∈ zeBT := zeBT_of (k := 299) (by decide +kernel) rfl
theorem zm_988 : (.laysFinal "WagerQuizModel" "WagerQuizModel" "now" "[I" : Cond) ∈ zeBT := zeBT_of (k := 988) (by decide +kernel) rfl
theorem zm_990 : (.laysFinal "WagerQuizModel" "WagerQuizModel" "history" "[I" : Cond) ∈ zeBT := zeBT_of (k := 990) (by decide +kernel) rfl
theorem zm_992 : (.lays "WagerQuizModel" "WagerQuizModel" "kept" "I" : Cond) ∈ zeBT := zeBT_of (k := 992) (by decide +kernel) rfl
theorem zm_994 : (.laysFinal "WagerQuizModel" "WagerQuizModel" "slots" "[I" : Cond) ∈ zeBT := zeBT_of (k := 994) (by decide +kernel) rfl
theorem zm_996 : (.laysFinal "WagerQuizModel" "WagerQuizModel" "isFilled" "[Z" : Cond) ∈ zeBT := zeBT_of (k := 996) (by decide +kernel) rfl
theorem zm_998 : (.lays "WagerQuizModel" "WagerQuizModel" "reason" "I" : Cond) ∈ zeBT := zeBT_of (k := 998) (by decide +kernel) rfl
theorem zm_1000 : (.laysFinal "WagerQuizModel" "WagerQuizModel" "score" "[I" : Cond) ∈ zeBT := zeBT_of (k := 1000) (by decide +kernel) rfl
theorem zm_1002 : (.laysFinal "WagerQuizModel" "WagerQuizModel" "amount" "[I" : Cond) ∈ zeBT := zeBT_of (k := 1002) (by decide +kernel) rfl
theorem zm_1004 : (.laysFinal "WagerQuizModel" "WagerQuizModel" "isVoid" "[Z" : Cond) ∈ zeBT := zeBT_of (k := 1004) (by decide +kernel) rfl
theorem zm_1006 : (.laysFinal "WagerQuizModel" "WagerQuizModel" "after" "[I" : Cond) ∈ zeBT := zeBT_of (k := 1006) (by decide +kernel) rfl
theorem zm_1008 : (.laysFinal "WagerQuizModel" "WagerQuizModel" "rights" "[I" : Cond) ∈ zeBT := zeBT_of (k := 1008) (by decide +kernel) rfl
theorem zm_1010 : (.laysFinal "WagerQuizModel" "WagerQuizModel" "wrongs" "[I" : Cond) ∈ zeBT := zeBT_of (k := 1010) (by decide +kernel) rfl
theorem zm_1012 : (.laysFinal "WagerQuizModel" "WagerQuizModel" "corrections" "[I" : Cond) ∈ zeBT := zeBT_of (k := 1012) (by decide +kernel) rfl
theorem zm_1014 : (.lays "WagerQuizModel" "WagerQuizModel" "control" "I" : Cond) ∈ zeBT := zeBT_of (k := 1014) (by decide +kernel) rfl
theorem zm_1016 : (.laysFinal "WagerQuizModel" "WagerQuizModel" "waits" "[I" : Cond) ∈ zeBT := zeBT_of (k := 1016) (by decide +kernel) rfl
theorem zm_1018 : (.laysFinal "WagerQuizModel" "WagerQuizModel" "before" "[I" : Cond) ∈ zeBT := zeBT_of (k := 1018) (by decide +kernel) rfl
theorem zm_1020 : (.lays "WagerQuizModel" "WagerQuizModel" "typed" "I" : Cond) ∈ zeBT := zeBT_of (k := 1020) (by decide +kernel) rfl
theorem zm_1022 : (.laysFinal "WagerQuizModel" "WagerQuizModel" "text" "[C" : Cond) ∈ zeBT := zeBT_of (k := 1022) (by decide +kernel) rfl
theorem zm_1024 : (.lays "WagerQuizModel" "WagerQuizModel" "moves" "I" : Cond) ∈ zeBT := zeBT_of (k := 1024) (by decide +kernel) rfl
theorem zm_1026 : (.laysFinal "WagerQuizModel" "WagerQuizModel" "moveOf" "[I" : Cond) ∈ zeBT := zeBT_of (k := 1026) (by decide +kernel) rfl
theorem zm_1028 : (.lays "WagerQuizModel" "WagerQuizModel" "written" "I" : Cond) ∈ zeBT := zeBT_of (k := 1028) (by decide +kernel) rfl
theorem zm_1030 : (.laysFinal "WagerQuizModel" "WagerQuizModel" "message" "[I" : Cond) ∈ zeBT := zeBT_of (k := 1030) (by decide +kernel) rfl
theorem zm_267 : (.lays "java/lang/StringBuilder" "java/lang/AbstractStringBuilder" "value" "[B" : Cond) ∈ zeBT := zeBT_of (k := 267) (by decide +kernel) rfl
theorem zm_269 : (.lays "java/lang/StringBuilder" "java/lang/AbstractStringBuilder" "coder" "B" : Cond) ∈ zeBT := zeBT_of (k := 269) (by decide +kernel) rfl
theorem zm_271 : (.lays "java/lang/StringBuilder" "java/lang/AbstractStringBuilder" "maybeLatin1" "Z" : Cond) ∈ zeBT := zeBT_of (k := 271) (by decide +kernel) rfl
theorem zm_273 : (.lays "java/lang/StringBuilder" "java/lang/AbstractStringBuilder" "count" "I" : Cond) ∈ zeBT := zeBT_of (k := 273) (by decide +kernel) rfl
theorem zm_442 : (.code ⟨"java/lang/Math", "max", "(II)I"⟩ prog_14_method_65_code 2 (some .int) : Cond) ∈ zeBT := zeBT_of (k := 442) (by decide +kernel) rfl
theorem zm_507 : (.code ⟨"java/lang/Math", "min", "(II)I"⟩ prog_14_method_69_code 2 (some .int) : Cond) ∈ zeBT := zeBT_of (k := 507) (by decide +kernel) rfl
theorem zm_28 : (.code ⟨"java/lang/Object", "<init>", "()V"⟩ object_method_1_code 1 none : Cond) ∈ zeBT := zeBT_of (k := 28) (by decide +kernel) rfl
theorem zc_0 : zeCl[0]? = some ("WagerQuiz$FinalRound", zeT0, 3) := rfl
theorem zin_0 : ∀ w ∈ u_ws "WagerQuiz$FinalRound" zeT0 3, w ∈ zeBT := by
  have h : u_ws "WagerQuiz$FinalRound" zeT0 3 = [.lays "WagerQuiz$FinalRound" "WagerQuiz$FinalRound" "answers" "I", .laysFinal "WagerQuiz$FinalRound" "WagerQuiz$FinalRound" "startScores" "[I", .laysFinal "WagerQuiz$FinalRound" "WagerQuiz$FinalRound" "wagers" "[I"] := by decide +kernel
  rw [h]
  exact (List.forall_mem_cons.mpr ⟨zm_85, (List.forall_mem_cons.mpr ⟨zm_87, (List.forall_mem_cons.mpr ⟨zm_89, (fun w h => absurd h List.not_mem_nil)⟩)⟩)⟩)
theorem zdf_0 {G : zeG} : ∀ j, j < 3 → vp_V (zeFs G (fun _ => none) (fun _ => 0) 0 (zeFL 0)) j = defaultValue (zeY0 j) := by
  intro j hj
  match j, hj with
  | 0, _ => rfl
  | 1, _ => rfl
  | 2, _ => rfl
  | j + 3, h => exact absurd h (by omega)
theorem zk_0 : zeCl[0]? = some ("WagerQuiz$FinalRound", zeT0, 3) ∧ (∀ w ∈ u_ws "WagerQuiz$FinalRound" zeT0 3, w ∈ zeBT) ∧ (∀ k, k < 3 → parseFieldDescriptor (zeT0 k).2.2.1 = some (zeY0 k)) ∧ (∀ a, a < 3 → ∀ b, b < 3 → a ≠ b → (zeT0 a).2.1 ≠ (zeT0 b).2.1) ∧ (zeFL 0).length = 3 := ⟨zc_0, zin_0, zeYok0, zeNm0, rfl⟩
theorem zc_1 : zeCl[1]? = some ("WagerQuiz$History", zeT1, 3) := rfl
theorem zin_1 : ∀ w ∈ u_ws "WagerQuiz$History" zeT1 3, w ∈ zeBT := by
  have h : u_ws "WagerQuiz$History" zeT1 3 = [.lays "WagerQuiz$History" "WagerQuiz$History" "size" "I", .lays "WagerQuiz$History" "WagerQuiz$History" "trial" "I", .laysFinal "WagerQuiz$History" "WagerQuiz$History" "ring" "[LWagerQuiz$State;"] := by decide +kernel
  rw [h]
  exact (List.forall_mem_cons.mpr ⟨zm_223, (List.forall_mem_cons.mpr ⟨zm_225, (List.forall_mem_cons.mpr ⟨zm_227, (fun w h => absurd h List.not_mem_nil)⟩)⟩)⟩)
theorem zdf_1 {G : zeG} : ∀ j, j < 3 → vp_V (zeFs G (fun _ => none) (fun _ => 0) 0 (zeFL 1)) j = defaultValue (zeY1 j) := by
  intro j hj
  match j, hj with
  | 0, _ => rfl
  | 1, _ => rfl
  | 2, _ => rfl
  | j + 3, h => exact absurd h (by omega)
theorem zk_1 : zeCl[1]? = some ("WagerQuiz$History", zeT1, 3) ∧ (∀ w ∈ u_ws "WagerQuiz$History" zeT1 3, w ∈ zeBT) ∧ (∀ k, k < 3 → parseFieldDescriptor (zeT1 k).2.2.1 = some (zeY1 k)) ∧ (∀ a, a < 3 → ∀ b, b < 3 → a ≠ b → (zeT1 a).2.1 ≠ (zeT1 b).2.1) ∧ (zeFL 1).length = 3 := ⟨zc_1, zin_1, zeYok1, zeNm1, rfl⟩
theorem zc_2 : zeCl[2]? = some ("WagerQuiz$Log", zeT2, 6) := rfl
theorem zin_2 : ∀ w ∈ u_ws "WagerQuiz$Log" zeT2 6, w ∈ zeBT := by
  have h : u_ws "WagerQuiz$Log" zeT2 6 = [.lays "WagerQuiz$Log" "WagerQuiz$Log" "size" "I", .laysFinal "WagerQuiz$Log" "WagerQuiz$Log" "players" "[I", .laysFinal "WagerQuiz$Log" "WagerQuiz$Log" "sorts" "[I", .laysFinal "WagerQuiz$Log" "WagerQuiz$Log" "clues" "[I", .laysFinal "WagerQuiz$Log" "WagerQuiz$Log" "amounts" "[I", .laysFinal "WagerQuiz$Log" "WagerQuiz$Log" "judgements" "[I"] := by decide +kernel
  rw [h]
  exact (List.forall_mem_cons.mpr ⟨zm_116, (List.forall_mem_cons.mpr ⟨zm_118, (List.forall_mem_cons.mpr ⟨zm_120, (List.forall_mem_cons.mpr ⟨zm_122, (List.forall_mem_cons.mpr ⟨zm_124, (List.forall_mem_cons.mpr ⟨zm_126, (fun w h => absurd h List.not_mem_nil)⟩)⟩)⟩)⟩)⟩)⟩)
theorem zdf_2 {G : zeG} : ∀ j, j < 6 → vp_V (zeFs G (fun _ => none) (fun _ => 0) 0 (zeFL 2)) j = defaultValue (zeY2 j) := by
  intro j hj
  match j, hj with
  | 0, _ => rfl
  | 1, _ => rfl
  | 2, _ => rfl
  | 3, _ => rfl
  | 4, _ => rfl
  | 5, _ => rfl
  | j + 6, h => exact absurd h (by omega)
theorem zk_2 : zeCl[2]? = some ("WagerQuiz$Log", zeT2, 6) ∧ (∀ w ∈ u_ws "WagerQuiz$Log" zeT2 6, w ∈ zeBT) ∧ (∀ k, k < 6 → parseFieldDescriptor (zeT2 k).2.2.1 = some (zeY2 k)) ∧ (∀ a, a < 6 → ∀ b, b < 6 → a ≠ b → (zeT2 a).2.1 ≠ (zeT2 b).2.1) ∧ (zeFL 2).length = 6 := ⟨zc_2, zin_2, zeYok2, zeNm2, rfl⟩
theorem zc_3 : zeCl[3]? = some ("WagerQuiz$PickedClue", zeT3, 8) := rfl
theorem zin_3 : ∀ w ∈ u_ws "WagerQuiz$PickedClue" zeT3 8, w ∈ zeBT := by
  have h : u_ws "WagerQuiz$PickedClue" zeT3 8 = [.lays "WagerQuiz$PickedClue" "WagerQuiz$PickedClue" "clue" "I", .lays "WagerQuiz$PickedClue" "WagerQuiz$PickedClue" "reading" "I", .lays "WagerQuiz$PickedClue" "WagerQuiz$PickedClue" "lock" "I", .lays "WagerQuiz$PickedClue" "WagerQuiz$PickedClue" "wager" "I", .lays "WagerQuiz$PickedClue" "WagerQuiz$PickedClue" "answered" "I", .laysFinal "WagerQuiz$PickedClue" "WagerQuiz$PickedClue" "countingTicks" "[I", .laysFinal "WagerQuiz$PickedClue" "WagerQuiz$PickedClue" "ticksBelow64" "[J", .laysFinal "WagerQuiz$PickedClue" "WagerQuiz$PickedClue" "ticksFrom64" "[J"] := by decide +kernel
  rw [h]
  exact (List.forall_mem_cons.mpr ⟨zm_53, (List.forall_mem_cons.mpr ⟨zm_55, (List.forall_mem_cons.mpr ⟨zm_57, (List.forall_mem_cons.mpr ⟨zm_59, (List.forall_mem_cons.mpr ⟨zm_61, (List.forall_mem_cons.mpr ⟨zm_63, (List.forall_mem_cons.mpr ⟨zm_65, (List.forall_mem_cons.mpr ⟨zm_67, (fun w h => absurd h List.not_mem_nil)⟩)⟩)⟩)⟩)⟩)⟩)⟩)⟩)
theorem zdf_3 {G : zeG} : ∀ j, j < 8 → vp_V (zeFs G (fun _ => none) (fun _ => 0) 0 (zeFL 3)) j = defaultValue (zeY3 j) := by
  intro j hj
  match j, hj with
  | 0, _ => rfl
  | 1, _ => rfl
  | 2, _ => rfl
  | 3, _ => rfl
  | 4, _ => rfl
  | 5, _ => rfl
  | 6, _ => rfl
  | 7, _ => rfl
  | j + 8, h => exact absurd h (by omega)
theorem zk_3 : zeCl[3]? = some ("WagerQuiz$PickedClue", zeT3, 8) ∧ (∀ w ∈ u_ws "WagerQuiz$PickedClue" zeT3 8, w ∈ zeBT) ∧ (∀ k, k < 8 → parseFieldDescriptor (zeT3 k).2.2.1 = some (zeY3 k)) ∧ (∀ a, a < 8 → ∀ b, b < 8 → a ≠ b → (zeT3 a).2.1 ≠ (zeT3 b).2.1) ∧ (zeFL 3).length = 8 := ⟨zc_3, zin_3, zeYok3, zeNm3, rfl⟩
theorem zc_4 : zeCl[4]? = some ("WagerQuiz$Replay", zeT4, 10) := rfl
theorem zin_4 : ∀ w ∈ u_ws "WagerQuiz$Replay" zeT4 10, w ∈ zeBT := by
  have h : u_ws "WagerQuiz$Replay" zeT4 10 = [.lays "WagerQuiz$Replay" "WagerQuiz$Replay" "control" "I", .laysFinal "WagerQuiz$Replay" "WagerQuiz$Replay" "scores" "[I", .laysFinal "WagerQuiz$Replay" "WagerQuiz$Replay" "rights" "[I", .laysFinal "WagerQuiz$Replay" "WagerQuiz$Replay" "wrongs" "[I", .laysFinal "WagerQuiz$Replay" "WagerQuiz$Replay" "corrections" "[I", .laysFinal "WagerQuiz$Replay" "WagerQuiz$Replay" "solvers" "[I", .laysFinal "WagerQuiz$Replay" "WagerQuiz$Replay" "amounts" "[I", .laysFinal "WagerQuiz$Replay" "WagerQuiz$Replay" "scoresBehind" "[I", .laysFinal "WagerQuiz$Replay" "WagerQuiz$Replay" "voids" "[Z", .laysFinal "WagerQuiz$Replay" "WagerQuiz$Replay" "formerScores" "[I"] := by decide +kernel
  rw [h]
  exact (List.forall_mem_cons.mpr ⟨zm_188, (List.forall_mem_cons.mpr ⟨zm_190, (List.forall_mem_cons.mpr ⟨zm_192, (List.forall_mem_cons.mpr ⟨zm_194, (List.forall_mem_cons.mpr ⟨zm_196, (List.forall_mem_cons.mpr ⟨zm_198, (List.forall_mem_cons.mpr ⟨zm_200, (List.forall_mem_cons.mpr ⟨zm_202, (List.forall_mem_cons.mpr ⟨zm_204, (List.forall_mem_cons.mpr ⟨zm_206, (fun w h => absurd h List.not_mem_nil)⟩)⟩)⟩)⟩)⟩)⟩)⟩)⟩)⟩)⟩)
theorem zdf_4 {G : zeG} : ∀ j, j < 10 → vp_V (zeFs G (fun _ => none) (fun _ => 0) 0 (zeFL 4)) j = defaultValue (zeY4 j) := by
  intro j hj
  match j, hj with
  | 0, _ => rfl
  | 1, _ => rfl
  | 2, _ => rfl
  | 3, _ => rfl
  | 4, _ => rfl
  | 5, _ => rfl
  | 6, _ => rfl
  | 7, _ => rfl
  | 8, _ => rfl
  | 9, _ => rfl
  | j + 10, h => exact absurd h (by omega)
theorem zk_4 : zeCl[4]? = some ("WagerQuiz$Replay", zeT4, 10) ∧ (∀ w ∈ u_ws "WagerQuiz$Replay" zeT4 10, w ∈ zeBT) ∧ (∀ k, k < 10 → parseFieldDescriptor (zeT4 k).2.2.1 = some (zeY4 k)) ∧ (∀ a, a < 10 → ∀ b, b < 10 → a ≠ b → (zeT4 a).2.1 ≠ (zeT4 b).2.1) ∧ (zeFL 4).length = 10 := ⟨zc_4, zin_4, zeYok4, zeNm4, rfl⟩
theorem zc_5 : zeCl[5]? = some ("WagerQuiz$Script", zeT5, 2) := rfl
theorem zin_5 : ∀ w ∈ u_ws "WagerQuiz$Script" zeT5 2, w ∈ zeBT := by
  have h : u_ws "WagerQuiz$Script" zeT5 2 = [.lays "WagerQuiz$Script" "WagerQuiz$Script" "length" "I", .laysFinal "WagerQuiz$Script" "WagerQuiz$Script" "signs" "[C"] := by decide +kernel
  rw [h]
  exact (List.forall_mem_cons.mpr ⟨zm_239, (List.forall_mem_cons.mpr ⟨zm_241, (fun w h => absurd h List.not_mem_nil)⟩)⟩)
theorem zdf_5 {G : zeG} : ∀ j, j < 2 → vp_V (zeFs G (fun _ => none) (fun _ => 0) 0 (zeFL 5)) j = defaultValue (zeY5 j) := by
  intro j hj
  match j, hj with
  | 0, _ => rfl
  | 1, _ => rfl
  | j + 2, h => exact absurd h (by omega)
theorem zk_5 : zeCl[5]? = some ("WagerQuiz$Script", zeT5, 2) ∧ (∀ w ∈ u_ws "WagerQuiz$Script" zeT5 2, w ∈ zeBT) ∧ (∀ k, k < 2 → parseFieldDescriptor (zeT5 k).2.2.1 = some (zeY5 k)) ∧ (∀ a, a < 2 → ∀ b, b < 2 → a ≠ b → (zeT5 a).2.1 ≠ (zeT5 b).2.1) ∧ (zeFL 5).length = 2 := ⟨zc_5, zin_5, zeYok5, zeNm5, rfl⟩
theorem zc_6 : zeCl[6]? = some ("WagerQuiz$State", zeT6, 8) := rfl
theorem zin_6 : ∀ w ∈ u_ws "WagerQuiz$State" zeT6 8, w ∈ zeBT := by
  have h : u_ws "WagerQuiz$State" zeT6 8 = [.lays "WagerQuiz$State" "WagerQuiz$State" "phase" "I", .lays "WagerQuiz$State" "WagerQuiz$State" "players" "I", .lays "WagerQuiz$State" "WagerQuiz$State" "wagerClues" "I", .lays "WagerQuiz$State" "WagerQuiz$State" "goneClues" "I", .laysFinal "WagerQuiz$State" "WagerQuiz$State" "settings" "[I", .laysFinal "WagerQuiz$State" "WagerQuiz$State" "open" "LWagerQuiz$PickedClue;", .laysFinal "WagerQuiz$State" "WagerQuiz$State" "finale" "LWagerQuiz$FinalRound;", .laysFinal "WagerQuiz$State" "WagerQuiz$State" "log" "LWagerQuiz$Log;"] := by decide +kernel
  rw [h]
  exact (List.forall_mem_cons.mpr ⟨zm_145, (List.forall_mem_cons.mpr ⟨zm_147, (List.forall_mem_cons.mpr ⟨zm_149, (List.forall_mem_cons.mpr ⟨zm_151, (List.forall_mem_cons.mpr ⟨zm_153, (List.forall_mem_cons.mpr ⟨zm_155, (List.forall_mem_cons.mpr ⟨zm_157, (List.forall_mem_cons.mpr ⟨zm_159, (fun w h => absurd h List.not_mem_nil)⟩)⟩)⟩)⟩)⟩)⟩)⟩)⟩)
theorem zdf_6 {G : zeG} : ∀ j, j < 8 → vp_V (zeFs G (fun _ => none) (fun _ => 0) 0 (zeFL 6)) j = defaultValue (zeY6 j) := by
  intro j hj
  match j, hj with
  | 0, _ => rfl
  | 1, _ => rfl
  | 2, _ => rfl
  | 3, _ => rfl
  | 4, _ => rfl
  | 5, _ => rfl
  | 6, _ => rfl
  | 7, _ => rfl
  | j + 8, h => exact absurd h (by omega)
theorem zk_6 : zeCl[6]? = some ("WagerQuiz$State", zeT6, 8) ∧ (∀ w ∈ u_ws "WagerQuiz$State" zeT6 8, w ∈ zeBT) ∧ (∀ k, k < 8 → parseFieldDescriptor (zeT6 k).2.2.1 = some (zeY6 k)) ∧ (∀ a, a < 8 → ∀ b, b < 8 → a ≠ b → (zeT6 a).2.1 ≠ (zeT6 b).2.1) ∧ (zeFL 6).length = 8 := ⟨zc_6, zin_6, zeYok6, zeNm6, rfl⟩
theorem zc_7 : zeCl[7]? = some ("WagerQuiz", zeT7, 8) := rfl
theorem zin_7 : ∀ w ∈ u_ws "WagerQuiz" zeT7 8, w ∈ zeBT := by
  have h : u_ws "WagerQuiz" zeT7 8 = [.laysFinal "WagerQuiz" "WagerQuiz" "now" "LWagerQuiz$State;", .laysFinal "WagerQuiz" "WagerQuiz" "replay" "LWagerQuiz$Replay;", .laysFinal "WagerQuiz" "WagerQuiz" "history" "LWagerQuiz$History;", .laysFinal "WagerQuiz" "WagerQuiz" "slots" "[LWagerQuiz$State;", .laysFinal "WagerQuiz" "WagerQuiz" "slotTaken" "[Z", .laysFinal "WagerQuiz" "WagerQuiz" "script" "LWagerQuiz$Script;", .laysFinal "WagerQuiz" "WagerQuiz" "message" "Ljava/lang/StringBuilder;", .lays "WagerQuiz" "WagerQuiz" "reason" "I"] := by decide +kernel
  rw [h]
  exact (List.forall_mem_cons.mpr ⟨zm_285, (List.forall_mem_cons.mpr ⟨zm_287, (List.forall_mem_cons.mpr ⟨zm_289, (List.forall_mem_cons.mpr ⟨zm_291, (List.forall_mem_cons.mpr ⟨zm_293, (List.forall_mem_cons.mpr ⟨zm_295, (List.forall_mem_cons.mpr ⟨zm_297, (List.forall_mem_cons.mpr ⟨zm_299, (fun w h => absurd h List.not_mem_nil)⟩)⟩)⟩)⟩)⟩)⟩)⟩)⟩)
theorem zdf_7 {G : zeG} : ∀ j, j < 8 → vp_V (zeFs G (fun _ => none) (fun _ => 0) 0 (zeFL 7)) j = defaultValue (zeY7 j) := by
  intro j hj
  match j, hj with
  | 0, _ => rfl
  | 1, _ => rfl
  | 2, _ => rfl
  | 3, _ => rfl
  | 4, _ => rfl
  | 5, _ => rfl
  | 6, _ => rfl
  | 7, _ => rfl
  | j + 8, h => exact absurd h (by omega)
theorem zk_7 : zeCl[7]? = some ("WagerQuiz", zeT7, 8) ∧ (∀ w ∈ u_ws "WagerQuiz" zeT7 8, w ∈ zeBT) ∧ (∀ k, k < 8 → parseFieldDescriptor (zeT7 k).2.2.1 = some (zeY7 k)) ∧ (∀ a, a < 8 → ∀ b, b < 8 → a ≠ b → (zeT7 a).2.1 ≠ (zeT7 b).2.1) ∧ (zeFL 7).length = 8 := ⟨zc_7, zin_7, zeYok7, zeNm7, rfl⟩
theorem zc_8 : zeCl[8]? = some ("WagerQuizModel", zeT8, 22) := rfl
theorem zin_8 : ∀ w ∈ u_ws "WagerQuizModel" zeT8 22, w ∈ zeBT := by
  have h : u_ws "WagerQuizModel" zeT8 22 = [.laysFinal "WagerQuizModel" "WagerQuizModel" "now" "[I", .laysFinal "WagerQuizModel" "WagerQuizModel" "history" "[I", .lays "WagerQuizModel" "WagerQuizModel" "kept" "I", .laysFinal "WagerQuizModel" "WagerQuizModel" "slots" "[I", .laysFinal "WagerQuizModel" "WagerQuizModel" "isFilled" "[Z", .lays "WagerQuizModel" "WagerQuizModel" "reason" "I", .laysFinal "WagerQuizModel" "WagerQuizModel" "score" "[I", .laysFinal "WagerQuizModel" "WagerQuizModel" "amount" "[I", .laysFinal "WagerQuizModel" "WagerQuizModel" "isVoid" "[Z", .laysFinal "WagerQuizModel" "WagerQuizModel" "after" "[I", .laysFinal "WagerQuizModel" "WagerQuizModel" "rights" "[I", .laysFinal "WagerQuizModel" "WagerQuizModel" "wrongs" "[I", .laysFinal "WagerQuizModel" "WagerQuizModel" "corrections" "[I", .lays "WagerQuizModel" "WagerQuizModel" "control" "I", .laysFinal "WagerQuizModel" "WagerQuizModel" "waits" "[I", .laysFinal "WagerQuizModel" "WagerQuizModel" "before" "[I", .lays "WagerQuizModel" "WagerQuizModel" "typed" "I", .laysFinal "WagerQuizModel" "WagerQuizModel" "text" "[C", .lays "WagerQuizModel" "WagerQuizModel" "moves" "I", .laysFinal "WagerQuizModel" "WagerQuizModel" "moveOf" "[I", .lays "WagerQuizModel" "WagerQuizModel" "written" "I", .laysFinal "WagerQuizModel" "WagerQuizModel" "message" "[I"] := by decide +kernel
  rw [h]
  exact (List.forall_mem_cons.mpr ⟨zm_988, (List.forall_mem_cons.mpr ⟨zm_990, (List.forall_mem_cons.mpr ⟨zm_992, (List.forall_mem_cons.mpr ⟨zm_994, (List.forall_mem_cons.mpr ⟨zm_996, (List.forall_mem_cons.mpr ⟨zm_998, (List.forall_mem_cons.mpr ⟨zm_1000, (List.forall_mem_cons.mpr ⟨zm_1002, (List.forall_mem_cons.mpr ⟨zm_1004, (List.forall_mem_cons.mpr ⟨zm_1006, (List.forall_mem_cons.mpr ⟨zm_1008, (List.forall_mem_cons.mpr ⟨zm_1010, (List.forall_mem_cons.mpr ⟨zm_1012, (List.forall_mem_cons.mpr ⟨zm_1014, (List.forall_mem_cons.mpr ⟨zm_1016, (List.forall_mem_cons.mpr ⟨zm_1018, (List.forall_mem_cons.mpr ⟨zm_1020, (List.forall_mem_cons.mpr ⟨zm_1022, (List.forall_mem_cons.mpr ⟨zm_1024, (List.forall_mem_cons.mpr ⟨zm_1026, (List.forall_mem_cons.mpr ⟨zm_1028, (List.forall_mem_cons.mpr ⟨zm_1030, (fun w h => absurd h List.not_mem_nil)⟩)⟩)⟩)⟩)⟩)⟩)⟩)⟩)⟩)⟩)⟩)⟩)⟩)⟩)⟩)⟩)⟩)⟩)⟩)⟩)⟩)⟩)
theorem zdf_8 {G : zeG} : ∀ j, j < 22 → vp_V (zeFs G (fun _ => none) (fun _ => 0) 0 (zeFL 8)) j = defaultValue (zeY8 j) := by
  intro j hj
  match j, hj with
  | 0, _ => rfl
  | 1, _ => rfl
  | 2, _ => rfl
  | 3, _ => rfl
  | 4, _ => rfl
  | 5, _ => rfl
  | 6, _ => rfl
  | 7, _ => rfl
  | 8, _ => rfl
  | 9, _ => rfl
  | 10, _ => rfl
  | 11, _ => rfl
  | 12, _ => rfl
  | 13, _ => rfl
  | 14, _ => rfl
  | 15, _ => rfl
  | 16, _ => rfl
  | 17, _ => rfl
  | 18, _ => rfl
  | 19, _ => rfl
  | 20, _ => rfl
  | 21, _ => rfl
  | j + 22, h => exact absurd h (by omega)
theorem zk_8 : zeCl[8]? = some ("WagerQuizModel", zeT8, 22) ∧ (∀ w ∈ u_ws "WagerQuizModel" zeT8 22, w ∈ zeBT) ∧ (∀ k, k < 22 → parseFieldDescriptor (zeT8 k).2.2.1 = some (zeY8 k)) ∧ (∀ a, a < 22 → ∀ b, b < 22 → a ≠ b → (zeT8 a).2.1 ≠ (zeT8 b).2.1) ∧ (zeFL 8).length = 22 := ⟨zc_8, zin_8, zeYok8, zeNm8, rfl⟩
theorem zc_9 : zeCl[9]? = some ("java/lang/StringBuilder", zeT9, 4) := rfl
theorem zin_9 : ∀ w ∈ u_ws "java/lang/StringBuilder" zeT9 4, w ∈ zeBT := by
  have h : u_ws "java/lang/StringBuilder" zeT9 4 = [.lays "java/lang/StringBuilder" "java/lang/AbstractStringBuilder" "value" "[B", .lays "java/lang/StringBuilder" "java/lang/AbstractStringBuilder" "coder" "B", .lays "java/lang/StringBuilder" "java/lang/AbstractStringBuilder" "maybeLatin1" "Z", .lays "java/lang/StringBuilder" "java/lang/AbstractStringBuilder" "count" "I"] := by decide +kernel
  rw [h]
  exact (List.forall_mem_cons.mpr ⟨zm_267, (List.forall_mem_cons.mpr ⟨zm_269, (List.forall_mem_cons.mpr ⟨zm_271, (List.forall_mem_cons.mpr ⟨zm_273, (fun w h => absurd h List.not_mem_nil)⟩)⟩)⟩)⟩)
theorem zdf_9 {G : zeG} : ∀ j, j < 4 → vp_V (zeFs G (fun _ => none) (fun _ => 0) 0 (zeFL 9)) j = defaultValue (zeY9 j) := by
  intro j hj
  match j, hj with
  | 0, _ => rfl
  | 1, _ => rfl
  | 2, _ => rfl
  | 3, _ => rfl
  | j + 4, h => exact absurd h (by omega)
theorem zk_9 : zeCl[9]? = some ("java/lang/StringBuilder", zeT9, 4) ∧ (∀ w ∈ u_ws "java/lang/StringBuilder" zeT9 4, w ∈ zeBT) ∧ (∀ k, k < 4 → parseFieldDescriptor (zeT9 k).2.2.1 = some (zeY9 k)) ∧ (∀ a, a < 4 → ∀ b, b < 4 → a ≠ b → (zeT9 a).2.1 ≠ (zeT9 b).2.1) ∧ (zeFL 9).length = 4 := ⟨zc_9, zin_9, zeYok9, zeNm9, rfl⟩
theorem zm_objcode : Cond.code Lib.objectInit ⟨#[0xb1]⟩ 1 none ∈ zeBT := zeBT_of (k := 28) (by decide +kernel) rfl
theorem zm_mmaxcode : Cond.code Lib.Math.max.name Lib.Math.max.code 2 (some .int) ∈ zeBT := zeBT_of (k := 442) (by decide +kernel) rfl
theorem zm_mmincode : Cond.code Lib.Math.min.name Lib.Math.min.code 2 (some .int) ∈ zeBT := zeBT_of (k := 507) (by decide +kernel) rfl
theorem zcal_0 : zeMok 0 ∧ Cond.code (zeNam 0) (zeCod 0) (zeNl 0) (zeRt 0) ∈ zeBT ∧ Cond.initialized (zeNam 0).cls ∈ zeBT ∧ ((zeNam 0).cls ≠ "java/lang/invoke/MethodHandle" ∧ (zeNam 0).cls ≠ "java/lang/invoke/VarHandle" ∧ (parseMethodDescriptor (zeNam 0).desc).map (fun d => d.parameters.length) = some 0) := ⟨⟨by decide +kernel, (Or.inl ⟨rfl, rfl⟩)⟩, zeBT_of (k := 39) (by decide +kernel) rfl, zeBT_of (k := 3) (by decide +kernel) rfl, by decide +kernel, by decide +kernel, by decide +kernel⟩
theorem zcal_1 : zeMok 1 ∧ Cond.code (zeNam 1) (zeCod 1) (zeNl 1) (zeRt 1) ∈ zeBT ∧ Cond.initialized (zeNam 1).cls ∈ zeBT ∧ ((zeNam 1).cls ≠ "java/lang/invoke/MethodHandle" ∧ (zeNam 1).cls ≠ "java/lang/invoke/VarHandle" ∧ (parseMethodDescriptor (zeNam 1).desc).map (fun d => d.parameters.length) = some 0) := ⟨⟨by decide +kernel, (Or.inl ⟨rfl, rfl⟩)⟩, zeBT_of (k := 76) (by decide +kernel) rfl, zeBT_of (k := 4) (by decide +kernel) rfl, by decide +kernel, by decide +kernel, by decide +kernel⟩
theorem zcal_2 : zeMok 2 ∧ Cond.code (zeNam 2) (zeCod 2) (zeNl 2) (zeRt 2) ∈ zeBT ∧ Cond.initialized (zeNam 2).cls ∈ zeBT ∧ ((zeNam 2).cls ≠ "java/lang/invoke/MethodHandle" ∧ (zeNam 2).cls ≠ "java/lang/invoke/VarHandle" ∧ (parseMethodDescriptor (zeNam 2).desc).map (fun d => d.parameters.length) = some 0) := ⟨⟨by decide +kernel, (Or.inl ⟨rfl, rfl⟩)⟩, zeBT_of (k := 96) (by decide +kernel) rfl, zeBT_of (k := 5) (by decide +kernel) rfl, by decide +kernel, by decide +kernel, by decide +kernel⟩
theorem zcal_3 : zeMok 3 ∧ Cond.code (zeNam 3) (zeCod 3) (zeNl 3) (zeRt 3) ∈ zeBT ∧ Cond.initialized (zeNam 3).cls ∈ zeBT ∧ ((zeNam 3).cls ≠ "java/lang/invoke/MethodHandle" ∧ (zeNam 3).cls ≠ "java/lang/invoke/VarHandle" ∧ (parseMethodDescriptor (zeNam 3).desc).map (fun d => d.parameters.length) = some 0) := ⟨⟨by decide +kernel, (Or.inl ⟨rfl, rfl⟩)⟩, zeBT_of (k := 33) (by decide +kernel) rfl, zeBT_of (k := 2) (by decide +kernel) rfl, by decide +kernel, by decide +kernel, by decide +kernel⟩
theorem zcal_4 : zeMok 4 ∧ Cond.code (zeNam 4) (zeCod 4) (zeNl 4) (zeRt 4) ∈ zeBT ∧ Cond.initialized (zeNam 4).cls ∈ zeBT ∧ ((zeNam 4).cls ≠ "java/lang/invoke/MethodHandle" ∧ (zeNam 4).cls ≠ "java/lang/invoke/VarHandle" ∧ (parseMethodDescriptor (zeNam 4).desc).map (fun d => d.parameters.length) = some 0) := ⟨⟨by decide +kernel, (Or.inl ⟨rfl, rfl⟩)⟩, zeBT_of (k := 166) (by decide +kernel) rfl, zeBT_of (k := 6) (by decide +kernel) rfl, by decide +kernel, by decide +kernel, by decide +kernel⟩
theorem zcal_5 : zeMok 5 ∧ Cond.code (zeNam 5) (zeCod 5) (zeNl 5) (zeRt 5) ∈ zeBT ∧ Cond.initialized (zeNam 5).cls ∈ zeBT ∧ ((zeNam 5).cls ≠ "java/lang/invoke/MethodHandle" ∧ (zeNam 5).cls ≠ "java/lang/invoke/VarHandle" ∧ (parseMethodDescriptor (zeNam 5).desc).map (fun d => d.parameters.length) = some 0) := ⟨⟨by decide +kernel, (Or.inl ⟨rfl, rfl⟩)⟩, zeBT_of (k := 214) (by decide +kernel) rfl, zeBT_of (k := 7) (by decide +kernel) rfl, by decide +kernel, by decide +kernel, by decide +kernel⟩
theorem zcal_6 : zeMok 6 ∧ Cond.code (zeNam 6) (zeCod 6) (zeNl 6) (zeRt 6) ∈ zeBT ∧ Cond.initialized (zeNam 6).cls ∈ zeBT ∧ ((zeNam 6).cls ≠ "java/lang/invoke/MethodHandle" ∧ (zeNam 6).cls ≠ "java/lang/invoke/VarHandle" ∧ (parseMethodDescriptor (zeNam 6).desc).map (fun d => d.parameters.length) = some 0) := ⟨⟨by decide +kernel, (Or.inl ⟨rfl, rfl⟩)⟩, zeBT_of (k := 234) (by decide +kernel) rfl, zeBT_of (k := 8) (by decide +kernel) rfl, by decide +kernel, by decide +kernel, by decide +kernel⟩
theorem zcal_7 : zeMok 7 ∧ Cond.code (zeNam 7) (zeCod 7) (zeNl 7) (zeRt 7) ∈ zeBT ∧ Cond.initialized (zeNam 7).cls ∈ zeBT ∧ ((zeNam 7).cls ≠ "java/lang/invoke/MethodHandle" ∧ (zeNam 7).cls ≠ "java/lang/invoke/VarHandle" ∧ (parseMethodDescriptor (zeNam 7).desc).map (fun d => d.parameters.length) = some 1) := ⟨⟨by decide +kernel, (Or.inl ⟨rfl, rfl⟩)⟩, zeBT_of (k := 252) (by decide +kernel) rfl, zeBT_of (k := 9) (by decide +kernel) rfl, by decide +kernel, by decide +kernel, by decide +kernel⟩
theorem zcal_8 : zeMok 8 ∧ Cond.code (zeNam 8) (zeCod 8) (zeNl 8) (zeRt 8) ∈ zeBT ∧ Cond.initialized (zeNam 8).cls ∈ zeBT ∧ ((zeNam 8).cls ≠ "java/lang/invoke/MethodHandle" ∧ (zeNam 8).cls ≠ "java/lang/invoke/VarHandle" ∧ (parseMethodDescriptor (zeNam 8).desc).map (fun d => d.parameters.length) = some 0) := ⟨⟨by decide +kernel, (Or.inl ⟨rfl, rfl⟩)⟩, zeBT_of (k := 249) (by decide +kernel) rfl, zeBT_of (k := 10) (by decide +kernel) rfl, by decide +kernel, by decide +kernel, by decide +kernel⟩
theorem zcal_9 : zeMok 9 ∧ Cond.code (zeNam 9) (zeCod 9) (zeNl 9) (zeRt 9) ∈ zeBT ∧ Cond.initialized (zeNam 9).cls ∈ zeBT ∧ ((zeNam 9).cls ≠ "java/lang/invoke/MethodHandle" ∧ (zeNam 9).cls ≠ "java/lang/invoke/VarHandle" ∧ (parseMethodDescriptor (zeNam 9).desc).map (fun d => d.parameters.length) = some 0) := ⟨⟨by decide +kernel, (Or.inl ⟨rfl, rfl⟩)⟩, zeBT_of (k := 25) (by decide +kernel) rfl, zeBT_of (k := 1) (by decide +kernel) rfl, by decide +kernel, by decide +kernel, by decide +kernel⟩
theorem zcal_10 : zeMok 10 ∧ Cond.code (zeNam 10) (zeCod 10) (zeNl 10) (zeRt 10) ∈ zeBT ∧ Cond.initialized (zeNam 10).cls ∈ zeBT ∧ ((zeNam 10).cls ≠ "java/lang/invoke/MethodHandle" ∧ (zeNam 10).cls ≠ "java/lang/invoke/VarHandle" ∧ (parseMethodDescriptor (zeNam 10).desc).map (fun d => d.parameters.length) = some 0) := ⟨⟨by decide +kernel, (Or.inl ⟨rfl, rfl⟩)⟩, zeBT_of (k := 964) (by decide +kernel) rfl, zeBT_of (k := 13) (by decide +kernel) rfl, by decide +kernel, by decide +kernel, by decide +kernel⟩
theorem zcal_11 : zeMok 11 ∧ Cond.code (zeNam 11) (zeCod 11) (zeNl 11) (zeRt 11) ∈ zeBT ∧ Cond.initialized (zeNam 11).cls ∈ zeBT ∧ ((zeNam 11).cls ≠ "java/lang/invoke/MethodHandle" ∧ (zeNam 11).cls ≠ "java/lang/invoke/VarHandle" ∧ (parseMethodDescriptor (zeNam 11).desc).map (fun d => d.parameters.length) = some 1) := ⟨⟨by decide +kernel, (Or.inl ⟨rfl, rfl⟩)⟩, zeBT_of (k := 322) (by decide +kernel) rfl, zeBT_of (k := 3) (by decide +kernel) rfl, by decide +kernel, by decide +kernel, by decide +kernel⟩
theorem zcal_12 : zeMok 12 ∧ Cond.code (zeNam 12) (zeCod 12) (zeNl 12) (zeRt 12) ∈ zeBT ∧ Cond.initialized (zeNam 12).cls ∈ zeBT ∧ ((zeNam 12).cls ≠ "java/lang/invoke/MethodHandle" ∧ (zeNam 12).cls ≠ "java/lang/invoke/VarHandle" ∧ (parseMethodDescriptor (zeNam 12).desc).map (fun d => d.parameters.length) = some 1) := ⟨⟨by decide +kernel, (Or.inl ⟨rfl, rfl⟩)⟩, zeBT_of (k := 327) (by decide +kernel) rfl, zeBT_of (k := 4) (by decide +kernel) rfl, by decide +kernel, by decide +kernel, by decide +kernel⟩
theorem zcal_13 : zeMok 13 ∧ Cond.code (zeNam 13) (zeCod 13) (zeNl 13) (zeRt 13) ∈ zeBT ∧ Cond.initialized (zeNam 13).cls ∈ zeBT ∧ ((zeNam 13).cls ≠ "java/lang/invoke/MethodHandle" ∧ (zeNam 13).cls ≠ "java/lang/invoke/VarHandle" ∧ (parseMethodDescriptor (zeNam 13).desc).map (fun d => d.parameters.length) = some 1) := ⟨⟨by decide +kernel, (Or.inl ⟨rfl, rfl⟩)⟩, zeBT_of (k := 332) (by decide +kernel) rfl, zeBT_of (k := 5) (by decide +kernel) rfl, by decide +kernel, by decide +kernel, by decide +kernel⟩
theorem zcal_14 : zeMok 14 ∧ Cond.code (zeNam 14) (zeCod 14) (zeNl 14) (zeRt 14) ∈ zeBT ∧ Cond.initialized (zeNam 14).cls ∈ zeBT ∧ ((zeNam 14).cls ≠ "java/lang/invoke/MethodHandle" ∧ (zeNam 14).cls ≠ "java/lang/invoke/VarHandle" ∧ (parseMethodDescriptor (zeNam 14).desc).map (fun d => d.parameters.length) = some 1) := ⟨⟨by decide +kernel, (Or.inl ⟨rfl, rfl⟩)⟩, zeBT_of (k := 313) (by decide +kernel) rfl, zeBT_of (k := 2) (by decide +kernel) rfl, by decide +kernel, by decide +kernel, by decide +kernel⟩
theorem zcal_15 : zeMok 15 ∧ Cond.code (zeNam 15) (zeCod 15) (zeNl 15) (zeRt 15) ∈ zeBT ∧ Cond.initialized (zeNam 15).cls ∈ zeBT ∧ ((zeNam 15).cls ≠ "java/lang/invoke/MethodHandle" ∧ (zeNam 15).cls ≠ "java/lang/invoke/VarHandle" ∧ (parseMethodDescriptor (zeNam 15).desc).map (fun d => d.parameters.length) = some 1) := ⟨⟨by decide +kernel, (Or.inl ⟨rfl, rfl⟩)⟩, zeBT_of (k := 309) (by decide +kernel) rfl, zeBT_of (k := 7) (by decide +kernel) rfl, by decide +kernel, by decide +kernel, by decide +kernel⟩
theorem zcal_16 : zeMok 16 ∧ Cond.code (zeNam 16) (zeCod 16) (zeNl 16) (zeRt 16) ∈ zeBT ∧ Cond.initialized (zeNam 16).cls ∈ zeBT ∧ ((zeNam 16).cls ≠ "java/lang/invoke/MethodHandle" ∧ (zeNam 16).cls ≠ "java/lang/invoke/VarHandle" ∧ (parseMethodDescriptor (zeNam 16).desc).map (fun d => d.parameters.length) = some 0) := ⟨⟨by decide +kernel, (Or.inr (Or.inr (Or.inl ⟨Or.inl rfl, rfl⟩)))⟩, zeBT_of (k := 341) (by decide +kernel) rfl, zeBT_of (k := 1) (by decide +kernel) rfl, by decide +kernel, by decide +kernel, by decide +kernel⟩
theorem zcal_17 : zeMok 17 ∧ Cond.code (zeNam 17) (zeCod 17) (zeNl 17) (zeRt 17) ∈ zeBT ∧ Cond.initialized (zeNam 17).cls ∈ zeBT ∧ ((zeNam 17).cls ≠ "java/lang/invoke/MethodHandle" ∧ (zeNam 17).cls ≠ "java/lang/invoke/VarHandle" ∧ (parseMethodDescriptor (zeNam 17).desc).map (fun d => d.parameters.length) = some 1) := ⟨⟨by decide +kernel, (Or.inr (Or.inl ⟨rfl, rfl⟩))⟩, zeBT_of (k := 345) (by decide +kernel) rfl, zeBT_of (k := 1) (by decide +kernel) rfl, by decide +kernel, by decide +kernel, by decide +kernel⟩
theorem zcal_18 : zeMok 18 ∧ Cond.code (zeNam 18) (zeCod 18) (zeNl 18) (zeRt 18) ∈ zeBT ∧ Cond.initialized (zeNam 18).cls ∈ zeBT ∧ ((zeNam 18).cls ≠ "java/lang/invoke/MethodHandle" ∧ (zeNam 18).cls ≠ "java/lang/invoke/VarHandle" ∧ (parseMethodDescriptor (zeNam 18).desc).map (fun d => d.parameters.length) = some 0) := ⟨⟨by decide +kernel, (Or.inr (Or.inl ⟨rfl, rfl⟩))⟩, zeBT_of (k := 337) (by decide +kernel) rfl, zeBT_of (k := 1) (by decide +kernel) rfl, by decide +kernel, by decide +kernel, by decide +kernel⟩
theorem zcal_19 : zeMok 19 ∧ Cond.code (zeNam 19) (zeCod 19) (zeNl 19) (zeRt 19) ∈ zeBT ∧ Cond.initialized (zeNam 19).cls ∈ zeBT ∧ ((zeNam 19).cls ≠ "java/lang/invoke/MethodHandle" ∧ (zeNam 19).cls ≠ "java/lang/invoke/VarHandle" ∧ (parseMethodDescriptor (zeNam 19).desc).map (fun d => d.parameters.length) = some 1) := ⟨⟨by decide +kernel, (Or.inr (Or.inr (Or.inl ⟨Or.inl rfl, rfl⟩)))⟩, zeBT_of (k := 354) (by decide +kernel) rfl, zeBT_of (k := 1) (by decide +kernel) rfl, by decide +kernel, by decide +kernel, by decide +kernel⟩
theorem zcal_20 : zeMok 20 ∧ Cond.code (zeNam 20) (zeCod 20) (zeNl 20) (zeRt 20) ∈ zeBT ∧ Cond.initialized (zeNam 20).cls ∈ zeBT ∧ ((zeNam 20).cls ≠ "java/lang/invoke/MethodHandle" ∧ (zeNam 20).cls ≠ "java/lang/invoke/VarHandle" ∧ (parseMethodDescriptor (zeNam 20).desc).map (fun d => d.parameters.length) = some 0) := ⟨⟨by decide +kernel, (Or.inl ⟨rfl, rfl⟩)⟩, zeBT_of (k := 361) (by decide +kernel) rfl, zeBT_of (k := 7) (by decide +kernel) rfl, by decide +kernel, by decide +kernel, by decide +kernel⟩
theorem zcal_21 : zeMok 21 ∧ Cond.code (zeNam 21) (zeCod 21) (zeNl 21) (zeRt 21) ∈ zeBT ∧ Cond.initialized (zeNam 21).cls ∈ zeBT ∧ ((zeNam 21).cls ≠ "java/lang/invoke/MethodHandle" ∧ (zeNam 21).cls ≠ "java/lang/invoke/VarHandle" ∧ (parseMethodDescriptor (zeNam 21).desc).map (fun d => d.parameters.length) = some 1) := ⟨⟨by decide +kernel, (Or.inr (Or.inl ⟨rfl, rfl⟩))⟩, zeBT_of (k := 351) (by decide +kernel) rfl, zeBT_of (k := 1) (by decide +kernel) rfl, by decide +kernel, by decide +kernel, by decide +kernel⟩
theorem zcal_22 : zeMok 22 ∧ Cond.code (zeNam 22) (zeCod 22) (zeNl 22) (zeRt 22) ∈ zeBT ∧ Cond.initialized (zeNam 22).cls ∈ zeBT ∧ ((zeNam 22).cls ≠ "java/lang/invoke/MethodHandle" ∧ (zeNam 22).cls ≠ "java/lang/invoke/VarHandle" ∧ (parseMethodDescriptor (zeNam 22).desc).map (fun d => d.parameters.length) = some 0) := ⟨⟨by decide +kernel, (Or.inr (Or.inl ⟨rfl, rfl⟩))⟩, zeBT_of (k := 305) (by decide +kernel) rfl, zeBT_of (k := 1) (by decide +kernel) rfl, by decide +kernel, by decide +kernel, by decide +kernel⟩
theorem zcal_23 : zeMok 23 ∧ Cond.code (zeNam 23) (zeCod 23) (zeNl 23) (zeRt 23) ∈ zeBT ∧ Cond.initialized (zeNam 23).cls ∈ zeBT ∧ ((zeNam 23).cls ≠ "java/lang/invoke/MethodHandle" ∧ (zeNam 23).cls ≠ "java/lang/invoke/VarHandle" ∧ (parseMethodDescriptor (zeNam 23).desc).map (fun d => d.parameters.length) = some 0) := ⟨⟨by decide +kernel, (Or.inr (Or.inr (Or.inl ⟨Or.inl rfl, rfl⟩)))⟩, zeBT_of (k := 1061) (by decide +kernel) rfl, zeBT_of (k := 13) (by decide +kernel) rfl, by decide +kernel, by decide +kernel, by decide +kernel⟩
theorem zcal_24 : zeMok 24 ∧ Cond.code (zeNam 24) (zeCod 24) (zeNl 24) (zeRt 24) ∈ zeBT ∧ Cond.initialized (zeNam 24).cls ∈ zeBT ∧ ((zeNam 24).cls ≠ "java/lang/invoke/MethodHandle" ∧ (zeNam 24).cls ≠ "java/lang/invoke/VarHandle" ∧ (parseMethodDescriptor (zeNam 24).desc).map (fun d => d.parameters.length) = some 1) := ⟨⟨by decide +kernel, (Or.inr (Or.inl ⟨rfl, rfl⟩))⟩, zeBT_of (k := 1065) (by decide +kernel) rfl, zeBT_of (k := 13) (by decide +kernel) rfl, by decide +kernel, by decide +kernel, by decide +kernel⟩
theorem zcal_25 : zeMok 25 ∧ Cond.code (zeNam 25) (zeCod 25) (zeNl 25) (zeRt 25) ∈ zeBT ∧ Cond.initialized (zeNam 25).cls ∈ zeBT ∧ ((zeNam 25).cls ≠ "java/lang/invoke/MethodHandle" ∧ (zeNam 25).cls ≠ "java/lang/invoke/VarHandle" ∧ (parseMethodDescriptor (zeNam 25).desc).map (fun d => d.parameters.length) = some 0) := ⟨⟨by decide +kernel, (Or.inl ⟨rfl, rfl⟩)⟩, zeBT_of (k := 1053) (by decide +kernel) rfl, zeBT_of (k := 13) (by decide +kernel) rfl, by decide +kernel, by decide +kernel, by decide +kernel⟩
theorem zcal_26 : zeMok 26 ∧ Cond.code (zeNam 26) (zeCod 26) (zeNl 26) (zeRt 26) ∈ zeBT ∧ Cond.initialized (zeNam 26).cls ∈ zeBT ∧ ((zeNam 26).cls ≠ "java/lang/invoke/MethodHandle" ∧ (zeNam 26).cls ≠ "java/lang/invoke/VarHandle" ∧ (parseMethodDescriptor (zeNam 26).desc).map (fun d => d.parameters.length) = some 0) := ⟨⟨by decide +kernel, (Or.inr (Or.inl ⟨rfl, rfl⟩))⟩, zeBT_of (k := 1057) (by decide +kernel) rfl, zeBT_of (k := 13) (by decide +kernel) rfl, by decide +kernel, by decide +kernel, by decide +kernel⟩
theorem zcal_27 : zeMok 27 ∧ Cond.code (zeNam 27) (zeCod 27) (zeNl 27) (zeRt 27) ∈ zeBT ∧ Cond.initialized (zeNam 27).cls ∈ zeBT ∧ ((zeNam 27).cls ≠ "java/lang/invoke/MethodHandle" ∧ (zeNam 27).cls ≠ "java/lang/invoke/VarHandle" ∧ (parseMethodDescriptor (zeNam 27).desc).map (fun d => d.parameters.length) = some 1) := ⟨⟨by decide +kernel, (Or.inr (Or.inr (Or.inl ⟨Or.inl rfl, rfl⟩)))⟩, zeBT_of (k := 372) (by decide +kernel) rfl, zeBT_of (k := 1) (by decide +kernel) rfl, by decide +kernel, by decide +kernel, by decide +kernel⟩
theorem zcal_28 : zeMok 28 ∧ Cond.code (zeNam 28) (zeCod 28) (zeNl 28) (zeRt 28) ∈ zeBT ∧ Cond.initialized (zeNam 28).cls ∈ zeBT ∧ ((zeNam 28).cls ≠ "java/lang/invoke/MethodHandle" ∧ (zeNam 28).cls ≠ "java/lang/invoke/VarHandle" ∧ (parseMethodDescriptor (zeNam 28).desc).map (fun d => d.parameters.length) = some 2) := ⟨⟨by decide +kernel, (Or.inr (Or.inl ⟨rfl, rfl⟩))⟩, zeBT_of (k := 375) (by decide +kernel) rfl, zeBT_of (k := 1) (by decide +kernel) rfl, by decide +kernel, by decide +kernel, by decide +kernel⟩
theorem zcal_29 : zeMok 29 ∧ Cond.code (zeNam 29) (zeCod 29) (zeNl 29) (zeRt 29) ∈ zeBT ∧ Cond.initialized (zeNam 29).cls ∈ zeBT ∧ ((zeNam 29).cls ≠ "java/lang/invoke/MethodHandle" ∧ (zeNam 29).cls ≠ "java/lang/invoke/VarHandle" ∧ (parseMethodDescriptor (zeNam 29).desc).map (fun d => d.parameters.length) = some 1) := ⟨⟨by decide +kernel, (Or.inr (Or.inl ⟨rfl, rfl⟩))⟩, zeBT_of (k := 378) (by decide +kernel) rfl, zeBT_of (k := 15) (by decide +kernel) rfl, by decide +kernel, by decide +kernel, by decide +kernel⟩
theorem zcal_30 : zeMok 30 ∧ Cond.code (zeNam 30) (zeCod 30) (zeNl 30) (zeRt 30) ∈ zeBT ∧ Cond.initialized (zeNam 30).cls ∈ zeBT ∧ ((zeNam 30).cls ≠ "java/lang/invoke/MethodHandle" ∧ (zeNam 30).cls ≠ "java/lang/invoke/VarHandle" ∧ (parseMethodDescriptor (zeNam 30).desc).map (fun d => d.parameters.length) = some 2) := ⟨⟨by decide +kernel, (Or.inr (Or.inl ⟨rfl, rfl⟩))⟩, zeBT_of (k := 369) (by decide +kernel) rfl, zeBT_of (k := 1) (by decide +kernel) rfl, by decide +kernel, by decide +kernel, by decide +kernel⟩
theorem zcal_31 : zeMok 31 ∧ Cond.code (zeNam 31) (zeCod 31) (zeNl 31) (zeRt 31) ∈ zeBT ∧ Cond.initialized (zeNam 31).cls ∈ zeBT ∧ ((zeNam 31).cls ≠ "java/lang/invoke/MethodHandle" ∧ (zeNam 31).cls ≠ "java/lang/invoke/VarHandle" ∧ (parseMethodDescriptor (zeNam 31).desc).map (fun d => d.parameters.length) = some 2) := ⟨⟨by decide +kernel, (Or.inr (Or.inl ⟨rfl, rfl⟩))⟩, zeBT_of (k := 365) (by decide +kernel) rfl, zeBT_of (k := 1) (by decide +kernel) rfl, by decide +kernel, by decide +kernel, by decide +kernel⟩
theorem zcal_32 : zeMok 32 ∧ Cond.code (zeNam 32) (zeCod 32) (zeNl 32) (zeRt 32) ∈ zeBT ∧ Cond.initialized (zeNam 32).cls ∈ zeBT ∧ ((zeNam 32).cls ≠ "java/lang/invoke/MethodHandle" ∧ (zeNam 32).cls ≠ "java/lang/invoke/VarHandle" ∧ (parseMethodDescriptor (zeNam 32).desc).map (fun d => d.parameters.length) = some 3) := ⟨⟨by decide +kernel, (Or.inr (Or.inr (Or.inl ⟨Or.inl rfl, rfl⟩)))⟩, zeBT_of (k := 1044) (by decide +kernel) rfl, zeBT_of (k := 13) (by decide +kernel) rfl, by decide +kernel, by decide +kernel, by decide +kernel⟩
theorem zcal_33 : zeMok 33 ∧ Cond.code (zeNam 33) (zeCod 33) (zeNl 33) (zeRt 33) ∈ zeBT ∧ Cond.initialized (zeNam 33).cls ∈ zeBT ∧ ((zeNam 33).cls ≠ "java/lang/invoke/MethodHandle" ∧ (zeNam 33).cls ≠ "java/lang/invoke/VarHandle" ∧ (parseMethodDescriptor (zeNam 33).desc).map (fun d => d.parameters.length) = some 1) := ⟨⟨by decide +kernel, (Or.inr (Or.inl ⟨rfl, rfl⟩))⟩, zeBT_of (k := 1074) (by decide +kernel) rfl, zeBT_of (k := 13) (by decide +kernel) rfl, by decide +kernel, by decide +kernel, by decide +kernel⟩
theorem zcal_34 : zeMok 34 ∧ Cond.code (zeNam 34) (zeCod 34) (zeNl 34) (zeRt 34) ∈ zeBT ∧ Cond.initialized (zeNam 34).cls ∈ zeBT ∧ ((zeNam 34).cls ≠ "java/lang/invoke/MethodHandle" ∧ (zeNam 34).cls ≠ "java/lang/invoke/VarHandle" ∧ (parseMethodDescriptor (zeNam 34).desc).map (fun d => d.parameters.length) = some 2) := ⟨⟨by decide +kernel, (Or.inr (Or.inl ⟨rfl, rfl⟩))⟩, zeBT_of (k := 1071) (by decide +kernel) rfl, zeBT_of (k := 13) (by decide +kernel) rfl, by decide +kernel, by decide +kernel, by decide +kernel⟩
theorem zcal_35 : zeMok 35 ∧ Cond.code (zeNam 35) (zeCod 35) (zeNl 35) (zeRt 35) ∈ zeBT ∧ Cond.initialized (zeNam 35).cls ∈ zeBT ∧ ((zeNam 35).cls ≠ "java/lang/invoke/MethodHandle" ∧ (zeNam 35).cls ≠ "java/lang/invoke/VarHandle" ∧ (parseMethodDescriptor (zeNam 35).desc).map (fun d => d.parameters.length) = some 2) := ⟨⟨by decide +kernel, (Or.inr (Or.inl ⟨rfl, rfl⟩))⟩, zeBT_of (k := 389) (by decide +kernel) rfl, zeBT_of (k := 1) (by decide +kernel) rfl, by decide +kernel, by decide +kernel, by decide +kernel⟩
theorem zcal_36 : zeMok 36 ∧ Cond.code (zeNam 36) (zeCod 36) (zeNl 36) (zeRt 36) ∈ zeBT ∧ Cond.initialized (zeNam 36).cls ∈ zeBT ∧ ((zeNam 36).cls ≠ "java/lang/invoke/MethodHandle" ∧ (zeNam 36).cls ≠ "java/lang/invoke/VarHandle" ∧ (parseMethodDescriptor (zeNam 36).desc).map (fun d => d.parameters.length) = some 2) := ⟨⟨by decide +kernel, (Or.inr (Or.inl ⟨rfl, rfl⟩))⟩, zeBT_of (k := 385) (by decide +kernel) rfl, zeBT_of (k := 1) (by decide +kernel) rfl, by decide +kernel, by decide +kernel, by decide +kernel⟩
theorem zcal_37 : zeMok 37 ∧ Cond.code (zeNam 37) (zeCod 37) (zeNl 37) (zeRt 37) ∈ zeBT ∧ Cond.initialized (zeNam 37).cls ∈ zeBT ∧ ((zeNam 37).cls ≠ "java/lang/invoke/MethodHandle" ∧ (zeNam 37).cls ≠ "java/lang/invoke/VarHandle" ∧ (parseMethodDescriptor (zeNam 37).desc).map (fun d => d.parameters.length) = some 2) := ⟨⟨by decide +kernel, (Or.inr (Or.inl ⟨rfl, rfl⟩))⟩, zeBT_of (k := 1078) (by decide +kernel) rfl, zeBT_of (k := 13) (by decide +kernel) rfl, by decide +kernel, by decide +kernel, by decide +kernel⟩
theorem zcal_38 : zeMok 38 ∧ Cond.code (zeNam 38) (zeCod 38) (zeNl 38) (zeRt 38) ∈ zeBT ∧ Cond.initialized (zeNam 38).cls ∈ zeBT ∧ ((zeNam 38).cls ≠ "java/lang/invoke/MethodHandle" ∧ (zeNam 38).cls ≠ "java/lang/invoke/VarHandle" ∧ (parseMethodDescriptor (zeNam 38).desc).map (fun d => d.parameters.length) = some 1) := ⟨⟨by decide +kernel, (Or.inr (Or.inr (Or.inl ⟨Or.inl rfl, rfl⟩)))⟩, zeBT_of (k := 402) (by decide +kernel) rfl, zeBT_of (k := 1) (by decide +kernel) rfl, by decide +kernel, by decide +kernel, by decide +kernel⟩
theorem zcal_39 : zeMok 39 ∧ Cond.code (zeNam 39) (zeCod 39) (zeNl 39) (zeRt 39) ∈ zeBT ∧ Cond.initialized (zeNam 39).cls ∈ zeBT ∧ ((zeNam 39).cls ≠ "java/lang/invoke/MethodHandle" ∧ (zeNam 39).cls ≠ "java/lang/invoke/VarHandle" ∧ (parseMethodDescriptor (zeNam 39).desc).map (fun d => d.parameters.length) = some 0) := ⟨⟨by decide +kernel, (Or.inr (Or.inl ⟨rfl, rfl⟩))⟩, zeBT_of (k := 406) (by decide +kernel) rfl, zeBT_of (k := 1) (by decide +kernel) rfl, by decide +kernel, by decide +kernel, by decide +kernel⟩
theorem zcal_40 : zeMok 40 ∧ Cond.code (zeNam 40) (zeCod 40) (zeNl 40) (zeRt 40) ∈ zeBT ∧ Cond.initialized (zeNam 40).cls ∈ zeBT ∧ ((zeNam 40).cls ≠ "java/lang/invoke/MethodHandle" ∧ (zeNam 40).cls ≠ "java/lang/invoke/VarHandle" ∧ (parseMethodDescriptor (zeNam 40).desc).map (fun d => d.parameters.length) = some 3) := ⟨⟨by decide +kernel, (Or.inl ⟨rfl, rfl⟩)⟩, zeBT_of (k := 410) (by decide +kernel) rfl, zeBT_of (k := 3) (by decide +kernel) rfl, by decide +kernel, by decide +kernel, by decide +kernel⟩
theorem zcal_41 : zeMok 41 ∧ Cond.code (zeNam 41) (zeCod 41) (zeNl 41) (zeRt 41) ∈ zeBT ∧ Cond.initialized (zeNam 41).cls ∈ zeBT ∧ ((zeNam 41).cls ≠ "java/lang/invoke/MethodHandle" ∧ (zeNam 41).cls ≠ "java/lang/invoke/VarHandle" ∧ (parseMethodDescriptor (zeNam 41).desc).map (fun d => d.parameters.length) = some 1) := ⟨⟨by decide +kernel, (Or.inr (Or.inl ⟨rfl, rfl⟩))⟩, zeBT_of (k := 414) (by decide +kernel) rfl, zeBT_of (k := 1) (by decide +kernel) rfl, by decide +kernel, by decide +kernel, by decide +kernel⟩
theorem zcal_42 : zeMok 42 ∧ Cond.code (zeNam 42) (zeCod 42) (zeNl 42) (zeRt 42) ∈ zeBT ∧ Cond.initialized (zeNam 42).cls ∈ zeBT ∧ ((zeNam 42).cls ≠ "java/lang/invoke/MethodHandle" ∧ (zeNam 42).cls ≠ "java/lang/invoke/VarHandle" ∧ (parseMethodDescriptor (zeNam 42).desc).map (fun d => d.parameters.length) = some 2) := ⟨⟨by decide +kernel, (Or.inr (Or.inl ⟨rfl, rfl⟩))⟩, zeBT_of (k := 398) (by decide +kernel) rfl, zeBT_of (k := 1) (by decide +kernel) rfl, by decide +kernel, by decide +kernel, by decide +kernel⟩
theorem zcal_43 : zeMok 43 ∧ Cond.code (zeNam 43) (zeCod 43) (zeNl 43) (zeRt 43) ∈ zeBT ∧ Cond.initialized (zeNam 43).cls ∈ zeBT ∧ ((zeNam 43).cls ≠ "java/lang/invoke/MethodHandle" ∧ (zeNam 43).cls ≠ "java/lang/invoke/VarHandle" ∧ (parseMethodDescriptor (zeNam 43).desc).map (fun d => d.parameters.length) = some 2) := ⟨⟨by decide +kernel, (Or.inr (Or.inl ⟨rfl, rfl⟩))⟩, zeBT_of (k := 394) (by decide +kernel) rfl, zeBT_of (k := 1) (by decide +kernel) rfl, by decide +kernel, by decide +kernel, by decide +kernel⟩
theorem zcal_44 : zeMok 44 ∧ Cond.code (zeNam 44) (zeCod 44) (zeNl 44) (zeRt 44) ∈ zeBT ∧ Cond.initialized (zeNam 44).cls ∈ zeBT ∧ ((zeNam 44).cls ≠ "java/lang/invoke/MethodHandle" ∧ (zeNam 44).cls ≠ "java/lang/invoke/VarHandle" ∧ (parseMethodDescriptor (zeNam 44).desc).map (fun d => d.parameters.length) = some 1) := ⟨⟨by decide +kernel, (Or.inr (Or.inr (Or.inl ⟨Or.inl rfl, rfl⟩)))⟩, zeBT_of (k := 1091) (by decide +kernel) rfl, zeBT_of (k := 13) (by decide +kernel) rfl, by decide +kernel, by decide +kernel, by decide +kernel⟩
theorem zcal_45 : zeMok 45 ∧ Cond.code (zeNam 45) (zeCod 45) (zeNl 45) (zeRt 45) ∈ zeBT ∧ Cond.initialized (zeNam 45).cls ∈ zeBT ∧ ((zeNam 45).cls ≠ "java/lang/invoke/MethodHandle" ∧ (zeNam 45).cls ≠ "java/lang/invoke/VarHandle" ∧ (parseMethodDescriptor (zeNam 45).desc).map (fun d => d.parameters.length) = some 1) := ⟨⟨by decide +kernel, (Or.inr (Or.inl ⟨rfl, rfl⟩))⟩, zeBT_of (k := 1098) (by decide +kernel) rfl, zeBT_of (k := 13) (by decide +kernel) rfl, by decide +kernel, by decide +kernel, by decide +kernel⟩
theorem zcal_46 : zeMok 46 ∧ Cond.code (zeNam 46) (zeCod 46) (zeNl 46) (zeRt 46) ∈ zeBT ∧ Cond.initialized (zeNam 46).cls ∈ zeBT ∧ ((zeNam 46).cls ≠ "java/lang/invoke/MethodHandle" ∧ (zeNam 46).cls ≠ "java/lang/invoke/VarHandle" ∧ (parseMethodDescriptor (zeNam 46).desc).map (fun d => d.parameters.length) = some 1) := ⟨⟨by decide +kernel, (Or.inr (Or.inr (Or.inl ⟨Or.inl rfl, rfl⟩)))⟩, zeBT_of (k := 1102) (by decide +kernel) rfl, zeBT_of (k := 13) (by decide +kernel) rfl, by decide +kernel, by decide +kernel, by decide +kernel⟩
theorem zcal_47 : zeMok 47 ∧ Cond.code (zeNam 47) (zeCod 47) (zeNl 47) (zeRt 47) ∈ zeBT ∧ Cond.initialized (zeNam 47).cls ∈ zeBT ∧ ((zeNam 47).cls ≠ "java/lang/invoke/MethodHandle" ∧ (zeNam 47).cls ≠ "java/lang/invoke/VarHandle" ∧ (parseMethodDescriptor (zeNam 47).desc).map (fun d => d.parameters.length) = some 0) := ⟨⟨by decide +kernel, (Or.inl ⟨rfl, rfl⟩)⟩, zeBT_of (k := 1095) (by decide +kernel) rfl, zeBT_of (k := 13) (by decide +kernel) rfl, by decide +kernel, by decide +kernel, by decide +kernel⟩
theorem zcal_48 : zeMok 48 ∧ Cond.code (zeNam 48) (zeCod 48) (zeNl 48) (zeRt 48) ∈ zeBT ∧ Cond.initialized (zeNam 48).cls ∈ zeBT ∧ ((zeNam 48).cls ≠ "java/lang/invoke/MethodHandle" ∧ (zeNam 48).cls ≠ "java/lang/invoke/VarHandle" ∧ (parseMethodDescriptor (zeNam 48).desc).map (fun d => d.parameters.length) = some 2) := ⟨⟨by decide +kernel, (Or.inr (Or.inl ⟨rfl, rfl⟩))⟩, zeBT_of (k := 1087) (by decide +kernel) rfl, zeBT_of (k := 13) (by decide +kernel) rfl, by decide +kernel, by decide +kernel, by decide +kernel⟩
theorem zcal_49 : zeMok 49 ∧ Cond.code (zeNam 49) (zeCod 49) (zeNl 49) (zeRt 49) ∈ zeBT ∧ Cond.initialized (zeNam 49).cls ∈ zeBT ∧ ((zeNam 49).cls ≠ "java/lang/invoke/MethodHandle" ∧ (zeNam 49).cls ≠ "java/lang/invoke/VarHandle" ∧ (parseMethodDescriptor (zeNam 49).desc).map (fun d => d.parameters.length) = some 1) := ⟨⟨by decide +kernel, (Or.inr (Or.inl ⟨rfl, rfl⟩))⟩, zeBT_of (k := 1109) (by decide +kernel) rfl, zeBT_of (k := 13) (by decide +kernel) rfl, by decide +kernel, by decide +kernel, by decide +kernel⟩
theorem zcal_50 : zeMok 50 ∧ Cond.code (zeNam 50) (zeCod 50) (zeNl 50) (zeRt 50) ∈ zeBT ∧ Cond.initialized (zeNam 50).cls ∈ zeBT ∧ ((zeNam 50).cls ≠ "java/lang/invoke/MethodHandle" ∧ (zeNam 50).cls ≠ "java/lang/invoke/VarHandle" ∧ (parseMethodDescriptor (zeNam 50).desc).map (fun d => d.parameters.length) = some 1) := ⟨⟨by decide +kernel, (Or.inr (Or.inl ⟨rfl, rfl⟩))⟩, zeBT_of (k := 1106) (by decide +kernel) rfl, zeBT_of (k := 13) (by decide +kernel) rfl, by decide +kernel, by decide +kernel, by decide +kernel⟩
theorem zcal_51 : zeMok 51 ∧ Cond.code (zeNam 51) (zeCod 51) (zeNl 51) (zeRt 51) ∈ zeBT ∧ Cond.initialized (zeNam 51).cls ∈ zeBT ∧ ((zeNam 51).cls ≠ "java/lang/invoke/MethodHandle" ∧ (zeNam 51).cls ≠ "java/lang/invoke/VarHandle" ∧ (parseMethodDescriptor (zeNam 51).desc).map (fun d => d.parameters.length) = some 2) := ⟨⟨by decide +kernel, (Or.inr (Or.inl ⟨rfl, rfl⟩))⟩, zeBT_of (k := 1083) (by decide +kernel) rfl, zeBT_of (k := 13) (by decide +kernel) rfl, by decide +kernel, by decide +kernel, by decide +kernel⟩
theorem zcal_52 : zeMok 52 ∧ Cond.code (zeNam 52) (zeCod 52) (zeNl 52) (zeRt 52) ∈ zeBT ∧ Cond.initialized (zeNam 52).cls ∈ zeBT ∧ ((zeNam 52).cls ≠ "java/lang/invoke/MethodHandle" ∧ (zeNam 52).cls ≠ "java/lang/invoke/VarHandle" ∧ (parseMethodDescriptor (zeNam 52).desc).map (fun d => d.parameters.length) = some 2) := ⟨⟨by decide +kernel, (Or.inr (Or.inr (Or.inl ⟨Or.inl rfl, rfl⟩)))⟩, zeBT_of (k := 426) (by decide +kernel) rfl, zeBT_of (k := 3) (by decide +kernel) rfl, by decide +kernel, by decide +kernel, by decide +kernel⟩
theorem zcal_53 : zeMok 53 ∧ Cond.code (zeNam 53) (zeCod 53) (zeNl 53) (zeRt 53) ∈ zeBT ∧ Cond.initialized (zeNam 53).cls ∈ zeBT ∧ ((zeNam 53).cls ≠ "java/lang/invoke/MethodHandle" ∧ (zeNam 53).cls ≠ "java/lang/invoke/VarHandle" ∧ (parseMethodDescriptor (zeNam 53).desc).map (fun d => d.parameters.length) = some 1) := ⟨⟨by decide +kernel, (Or.inr (Or.inl ⟨rfl, rfl⟩))⟩, zeBT_of (k := 438) (by decide +kernel) rfl, zeBT_of (k := 3) (by decide +kernel) rfl, by decide +kernel, by decide +kernel, by decide +kernel⟩
theorem zcal_54 : zeMok 54 ∧ Cond.code (zeNam 54) (zeCod 54) (zeNl 54) (zeRt 54) ∈ zeBT ∧ Cond.initialized (zeNam 54).cls ∈ zeBT ∧ ((zeNam 54).cls ≠ "java/lang/invoke/MethodHandle" ∧ (zeNam 54).cls ≠ "java/lang/invoke/VarHandle" ∧ (parseMethodDescriptor (zeNam 54).desc).map (fun d => d.parameters.length) = some 1) := ⟨⟨by decide +kernel, (Or.inr (Or.inl ⟨rfl, rfl⟩))⟩, zeBT_of (k := 434) (by decide +kernel) rfl, zeBT_of (k := 3) (by decide +kernel) rfl, by decide +kernel, by decide +kernel, by decide +kernel⟩
theorem zcal_55 : zeMok 55 ∧ Cond.code (zeNam 55) (zeCod 55) (zeNl 55) (zeRt 55) ∈ zeBT ∧ Cond.initialized (zeNam 55).cls ∈ zeBT ∧ ((zeNam 55).cls ≠ "java/lang/invoke/MethodHandle" ∧ (zeNam 55).cls ≠ "java/lang/invoke/VarHandle" ∧ (parseMethodDescriptor (zeNam 55).desc).map (fun d => d.parameters.length) = some 2) := ⟨⟨by decide +kernel, (Or.inl ⟨rfl, rfl⟩)⟩, zeBT_of (k := 430) (by decide +kernel) rfl, zeBT_of (k := 3) (by decide +kernel) rfl, by decide +kernel, by decide +kernel, by decide +kernel⟩
theorem zcal_56 : zeMok 56 ∧ Cond.code (zeNam 56) (zeCod 56) (zeNl 56) (zeRt 56) ∈ zeBT ∧ Cond.initialized (zeNam 56).cls ∈ zeBT ∧ ((zeNam 56).cls ≠ "java/lang/invoke/MethodHandle" ∧ (zeNam 56).cls ≠ "java/lang/invoke/VarHandle" ∧ (parseMethodDescriptor (zeNam 56).desc).map (fun d => d.parameters.length) = some 1) := ⟨⟨by decide +kernel, (Or.inr (Or.inr (Or.inl ⟨Or.inl rfl, rfl⟩)))⟩, zeBT_of (k := 450) (by decide +kernel) rfl, zeBT_of (k := 1) (by decide +kernel) rfl, by decide +kernel, by decide +kernel, by decide +kernel⟩
theorem zcal_57 : zeMok 57 ∧ Cond.code (zeNam 57) (zeCod 57) (zeNl 57) (zeRt 57) ∈ zeBT ∧ Cond.initialized (zeNam 57).cls ∈ zeBT ∧ ((zeNam 57).cls ≠ "java/lang/invoke/MethodHandle" ∧ (zeNam 57).cls ≠ "java/lang/invoke/VarHandle" ∧ (parseMethodDescriptor (zeNam 57).desc).map (fun d => d.parameters.length) = some 0) := ⟨⟨by decide +kernel, (Or.inr (Or.inl ⟨rfl, rfl⟩))⟩, zeBT_of (k := 446) (by decide +kernel) rfl, zeBT_of (k := 1) (by decide +kernel) rfl, by decide +kernel, by decide +kernel, by decide +kernel⟩
theorem zcal_58 : zeMok 58 ∧ Cond.code (zeNam 58) (zeCod 58) (zeNl 58) (zeRt 58) ∈ zeBT ∧ Cond.initialized (zeNam 58).cls ∈ zeBT ∧ ((zeNam 58).cls ≠ "java/lang/invoke/MethodHandle" ∧ (zeNam 58).cls ≠ "java/lang/invoke/VarHandle" ∧ (parseMethodDescriptor (zeNam 58).desc).map (fun d => d.parameters.length) = some 2) := ⟨⟨by decide +kernel, (Or.inr (Or.inl ⟨rfl, rfl⟩))⟩, zeBT_of (k := 422) (by decide +kernel) rfl, zeBT_of (k := 1) (by decide +kernel) rfl, by decide +kernel, by decide +kernel, by decide +kernel⟩
theorem zcal_59 : zeMok 59 ∧ Cond.code (zeNam 59) (zeCod 59) (zeNl 59) (zeRt 59) ∈ zeBT ∧ Cond.initialized (zeNam 59).cls ∈ zeBT ∧ ((zeNam 59).cls ≠ "java/lang/invoke/MethodHandle" ∧ (zeNam 59).cls ≠ "java/lang/invoke/VarHandle" ∧ (parseMethodDescriptor (zeNam 59).desc).map (fun d => d.parameters.length) = some 2) := ⟨⟨by decide +kernel, (Or.inr (Or.inl ⟨rfl, rfl⟩))⟩, zeBT_of (k := 418) (by decide +kernel) rfl, zeBT_of (k := 1) (by decide +kernel) rfl, by decide +kernel, by decide +kernel, by decide +kernel⟩
theorem zcal_60 : zeMok 60 ∧ Cond.code (zeNam 60) (zeCod 60) (zeNl 60) (zeRt 60) ∈ zeBT ∧ Cond.initialized (zeNam 60).cls ∈ zeBT ∧ ((zeNam 60).cls ≠ "java/lang/invoke/MethodHandle" ∧ (zeNam 60).cls ≠ "java/lang/invoke/VarHandle" ∧ (parseMethodDescriptor (zeNam 60).desc).map (fun d => d.parameters.length) = some 2) := ⟨⟨by decide +kernel, (Or.inr (Or.inr (Or.inl ⟨Or.inl rfl, rfl⟩)))⟩, zeBT_of (k := 1121) (by decide +kernel) rfl, zeBT_of (k := 13) (by decide +kernel) rfl, by decide +kernel, by decide +kernel, by decide +kernel⟩
theorem zcal_61 : zeMok 61 ∧ Cond.code (zeNam 61) (zeCod 61) (zeNl 61) (zeRt 61) ∈ zeBT ∧ Cond.initialized (zeNam 61).cls ∈ zeBT ∧ ((zeNam 61).cls ≠ "java/lang/invoke/MethodHandle" ∧ (zeNam 61).cls ≠ "java/lang/invoke/VarHandle" ∧ (parseMethodDescriptor (zeNam 61).desc).map (fun d => d.parameters.length) = some 2) := ⟨⟨by decide +kernel, (Or.inr (Or.inl ⟨rfl, rfl⟩))⟩, zeBT_of (k := 1117) (by decide +kernel) rfl, zeBT_of (k := 13) (by decide +kernel) rfl, by decide +kernel, by decide +kernel, by decide +kernel⟩
theorem zcal_62 : zeMok 62 ∧ Cond.code (zeNam 62) (zeCod 62) (zeNl 62) (zeRt 62) ∈ zeBT ∧ Cond.initialized (zeNam 62).cls ∈ zeBT ∧ ((zeNam 62).cls ≠ "java/lang/invoke/MethodHandle" ∧ (zeNam 62).cls ≠ "java/lang/invoke/VarHandle" ∧ (parseMethodDescriptor (zeNam 62).desc).map (fun d => d.parameters.length) = some 1) := ⟨⟨by decide +kernel, (Or.inr (Or.inl ⟨rfl, rfl⟩))⟩, zeBT_of (k := 1133) (by decide +kernel) rfl, zeBT_of (k := 13) (by decide +kernel) rfl, by decide +kernel, by decide +kernel, by decide +kernel⟩
theorem zcal_63 : zeMok 63 ∧ Cond.code (zeNam 63) (zeCod 63) (zeNl 63) (zeRt 63) ∈ zeBT ∧ Cond.initialized (zeNam 63).cls ∈ zeBT ∧ ((zeNam 63).cls ≠ "java/lang/invoke/MethodHandle" ∧ (zeNam 63).cls ≠ "java/lang/invoke/VarHandle" ∧ (parseMethodDescriptor (zeNam 63).desc).map (fun d => d.parameters.length) = some 3) := ⟨⟨by decide +kernel, (Or.inr (Or.inr (Or.inl ⟨Or.inl rfl, rfl⟩)))⟩, zeBT_of (k := 1137) (by decide +kernel) rfl, zeBT_of (k := 13) (by decide +kernel) rfl, by decide +kernel, by decide +kernel, by decide +kernel⟩
theorem zcal_64 : zeMok 64 ∧ Cond.code (zeNam 64) (zeCod 64) (zeNl 64) (zeRt 64) ∈ zeBT ∧ Cond.initialized (zeNam 64).cls ∈ zeBT ∧ ((zeNam 64).cls ≠ "java/lang/invoke/MethodHandle" ∧ (zeNam 64).cls ≠ "java/lang/invoke/VarHandle" ∧ (parseMethodDescriptor (zeNam 64).desc).map (fun d => d.parameters.length) = some 0) := ⟨⟨by decide +kernel, (Or.inr (Or.inl ⟨rfl, rfl⟩))⟩, zeBT_of (k := 1129) (by decide +kernel) rfl, zeBT_of (k := 13) (by decide +kernel) rfl, by decide +kernel, by decide +kernel, by decide +kernel⟩
theorem zcal_65 : zeMok 65 ∧ Cond.code (zeNam 65) (zeCod 65) (zeNl 65) (zeRt 65) ∈ zeBT ∧ Cond.initialized (zeNam 65).cls ∈ zeBT ∧ ((zeNam 65).cls ≠ "java/lang/invoke/MethodHandle" ∧ (zeNam 65).cls ≠ "java/lang/invoke/VarHandle" ∧ (parseMethodDescriptor (zeNam 65).desc).map (fun d => d.parameters.length) = some 2) := ⟨⟨by decide +kernel, (Or.inr (Or.inl ⟨rfl, rfl⟩))⟩, zeBT_of (k := 1125) (by decide +kernel) rfl, zeBT_of (k := 13) (by decide +kernel) rfl, by decide +kernel, by decide +kernel, by decide +kernel⟩
theorem zcal_66 : zeMok 66 ∧ Cond.code (zeNam 66) (zeCod 66) (zeNl 66) (zeRt 66) ∈ zeBT ∧ Cond.initialized (zeNam 66).cls ∈ zeBT ∧ ((zeNam 66).cls ≠ "java/lang/invoke/MethodHandle" ∧ (zeNam 66).cls ≠ "java/lang/invoke/VarHandle" ∧ (parseMethodDescriptor (zeNam 66).desc).map (fun d => d.parameters.length) = some 2) := ⟨⟨by decide +kernel, (Or.inr (Or.inl ⟨rfl, rfl⟩))⟩, zeBT_of (k := 1113) (by decide +kernel) rfl, zeBT_of (k := 13) (by decide +kernel) rfl, by decide +kernel, by decide +kernel, by decide +kernel⟩
theorem zcal_67 : zeMok 67 ∧ Cond.code (zeNam 67) (zeCod 67) (zeNl 67) (zeRt 67) ∈ zeBT ∧ Cond.initialized (zeNam 67).cls ∈ zeBT ∧ ((zeNam 67).cls ≠ "java/lang/invoke/MethodHandle" ∧ (zeNam 67).cls ≠ "java/lang/invoke/VarHandle" ∧ (parseMethodDescriptor (zeNam 67).desc).map (fun d => d.parameters.length) = some 2) := ⟨⟨by decide +kernel, (Or.inr (Or.inr (Or.inl ⟨Or.inl rfl, rfl⟩)))⟩, zeBT_of (k := 474) (by decide +kernel) rfl, zeBT_of (k := 1) (by decide +kernel) rfl, by decide +kernel, by decide +kernel, by decide +kernel⟩
theorem zcal_68 : zeMok 68 ∧ Cond.code (zeNam 68) (zeCod 68) (zeNl 68) (zeRt 68) ∈ zeBT ∧ Cond.initialized (zeNam 68).cls ∈ zeBT ∧ ((zeNam 68).cls ≠ "java/lang/invoke/MethodHandle" ∧ (zeNam 68).cls ≠ "java/lang/invoke/VarHandle" ∧ (parseMethodDescriptor (zeNam 68).desc).map (fun d => d.parameters.length) = some 1) := ⟨⟨by decide +kernel, (Or.inr (Or.inl ⟨rfl, rfl⟩))⟩, zeBT_of (k := 470) (by decide +kernel) rfl, zeBT_of (k := 1) (by decide +kernel) rfl, by decide +kernel, by decide +kernel, by decide +kernel⟩
theorem zcal_69 : zeMok 69 ∧ Cond.code (zeNam 69) (zeCod 69) (zeNl 69) (zeRt 69) ∈ zeBT ∧ Cond.initialized (zeNam 69).cls ∈ zeBT ∧ ((zeNam 69).cls ≠ "java/lang/invoke/MethodHandle" ∧ (zeNam 69).cls ≠ "java/lang/invoke/VarHandle" ∧ (parseMethodDescriptor (zeNam 69).desc).map (fun d => d.parameters.length) = some 1) := ⟨⟨by decide +kernel, (Or.inr (Or.inl ⟨rfl, rfl⟩))⟩, zeBT_of (k := 466) (by decide +kernel) rfl, zeBT_of (k := 1) (by decide +kernel) rfl, by decide +kernel, by decide +kernel, by decide +kernel⟩
theorem zcal_70 : zeMok 70 ∧ Cond.code (zeNam 70) (zeCod 70) (zeNl 70) (zeRt 70) ∈ zeBT ∧ Cond.initialized (zeNam 70).cls ∈ zeBT ∧ ((zeNam 70).cls ≠ "java/lang/invoke/MethodHandle" ∧ (zeNam 70).cls ≠ "java/lang/invoke/VarHandle" ∧ (parseMethodDescriptor (zeNam 70).desc).map (fun d => d.parameters.length) = some 0) := ⟨⟨by decide +kernel, (Or.inr (Or.inr (Or.inl ⟨Or.inl rfl, rfl⟩)))⟩, zeBT_of (k := 478) (by decide +kernel) rfl, zeBT_of (k := 5) (by decide +kernel) rfl, by decide +kernel, by decide +kernel, by decide +kernel⟩
theorem zcal_71 : zeMok 71 ∧ Cond.code (zeNam 71) (zeCod 71) (zeNl 71) (zeRt 71) ∈ zeBT ∧ Cond.initialized (zeNam 71).cls ∈ zeBT ∧ ((zeNam 71).cls ≠ "java/lang/invoke/MethodHandle" ∧ (zeNam 71).cls ≠ "java/lang/invoke/VarHandle" ∧ (parseMethodDescriptor (zeNam 71).desc).map (fun d => d.parameters.length) = some 5) := ⟨⟨by decide +kernel, (Or.inl ⟨rfl, rfl⟩)⟩, zeBT_of (k := 482) (by decide +kernel) rfl, zeBT_of (k := 5) (by decide +kernel) rfl, by decide +kernel, by decide +kernel, by decide +kernel⟩
theorem zcal_72 : zeMok 72 ∧ Cond.code (zeNam 72) (zeCod 72) (zeNl 72) (zeRt 72) ∈ zeBT ∧ Cond.initialized (zeNam 72).cls ∈ zeBT ∧ ((zeNam 72).cls ≠ "java/lang/invoke/MethodHandle" ∧ (zeNam 72).cls ≠ "java/lang/invoke/VarHandle" ∧ (parseMethodDescriptor (zeNam 72).desc).map (fun d => d.parameters.length) = some 1) := ⟨⟨by decide +kernel, (Or.inr (Or.inl ⟨rfl, rfl⟩))⟩, zeBT_of (k := 499) (by decide +kernel) rfl, zeBT_of (k := 6) (by decide +kernel) rfl, by decide +kernel, by decide +kernel, by decide +kernel⟩
theorem zcal_73 : zeMok 73 ∧ Cond.code (zeNam 73) (zeCod 73) (zeNl 73) (zeRt 73) ∈ zeBT ∧ Cond.initialized (zeNam 73).cls ∈ zeBT ∧ ((zeNam 73).cls ≠ "java/lang/invoke/MethodHandle" ∧ (zeNam 73).cls ≠ "java/lang/invoke/VarHandle" ∧ (parseMethodDescriptor (zeNam 73).desc).map (fun d => d.parameters.length) = some 3) := ⟨⟨by decide +kernel, (Or.inr (Or.inl ⟨rfl, rfl⟩))⟩, zeBT_of (k := 503) (by decide +kernel) rfl, zeBT_of (k := 6) (by decide +kernel) rfl, by decide +kernel, by decide +kernel, by decide +kernel⟩
theorem zcal_74 : zeMok 74 ∧ Cond.code (zeNam 74) (zeCod 74) (zeNl 74) (zeRt 74) ∈ zeBT ∧ Cond.initialized (zeNam 74).cls ∈ zeBT ∧ ((zeNam 74).cls ≠ "java/lang/invoke/MethodHandle" ∧ (zeNam 74).cls ≠ "java/lang/invoke/VarHandle" ∧ (parseMethodDescriptor (zeNam 74).desc).map (fun d => d.parameters.length) = some 2) := ⟨⟨by decide +kernel, (Or.inl ⟨rfl, rfl⟩)⟩, zeBT_of (k := 511) (by decide +kernel) rfl, zeBT_of (k := 6) (by decide +kernel) rfl, by decide +kernel, by decide +kernel, by decide +kernel⟩
theorem zcal_75 : zeMok 75 ∧ Cond.code (zeNam 75) (zeCod 75) (zeNl 75) (zeRt 75) ∈ zeBT ∧ Cond.initialized (zeNam 75).cls ∈ zeBT ∧ ((zeNam 75).cls ≠ "java/lang/invoke/MethodHandle" ∧ (zeNam 75).cls ≠ "java/lang/invoke/VarHandle" ∧ (parseMethodDescriptor (zeNam 75).desc).map (fun d => d.parameters.length) = some 2) := ⟨⟨by decide +kernel, (Or.inl ⟨rfl, rfl⟩)⟩, zeBT_of (k := 495) (by decide +kernel) rfl, zeBT_of (k := 6) (by decide +kernel) rfl, by decide +kernel, by decide +kernel, by decide +kernel⟩
theorem zcal_76 : zeMok 76 ∧ Cond.code (zeNam 76) (zeCod 76) (zeNl 76) (zeRt 76) ∈ zeBT ∧ Cond.initialized (zeNam 76).cls ∈ zeBT ∧ ((zeNam 76).cls ≠ "java/lang/invoke/MethodHandle" ∧ (zeNam 76).cls ≠ "java/lang/invoke/VarHandle" ∧ (parseMethodDescriptor (zeNam 76).desc).map (fun d => d.parameters.length) = some 1) := ⟨⟨by decide +kernel, (Or.inl ⟨rfl, rfl⟩)⟩, zeBT_of (k := 491) (by decide +kernel) rfl, zeBT_of (k := 6) (by decide +kernel) rfl, by decide +kernel, by decide +kernel, by decide +kernel⟩
theorem zcal_77 : zeMok 77 ∧ Cond.code (zeNam 77) (zeCod 77) (zeNl 77) (zeRt 77) ∈ zeBT ∧ Cond.initialized (zeNam 77).cls ∈ zeBT ∧ ((zeNam 77).cls ≠ "java/lang/invoke/MethodHandle" ∧ (zeNam 77).cls ≠ "java/lang/invoke/VarHandle" ∧ (parseMethodDescriptor (zeNam 77).desc).map (fun d => d.parameters.length) = some 1) := ⟨⟨by decide +kernel, (Or.inr (Or.inl ⟨rfl, rfl⟩))⟩, zeBT_of (k := 487) (by decide +kernel) rfl, zeBT_of (k := 1) (by decide +kernel) rfl, by decide +kernel, by decide +kernel, by decide +kernel⟩
theorem zcal_78 : zeMok 78 ∧ Cond.code (zeNam 78) (zeCod 78) (zeNl 78) (zeRt 78) ∈ zeBT ∧ Cond.initialized (zeNam 78).cls ∈ zeBT ∧ ((zeNam 78).cls ≠ "java/lang/invoke/MethodHandle" ∧ (zeNam 78).cls ≠ "java/lang/invoke/VarHandle" ∧ (parseMethodDescriptor (zeNam 78).desc).map (fun d => d.parameters.length) = some 1) := ⟨⟨by decide +kernel, (Or.inr (Or.inl ⟨rfl, rfl⟩))⟩, zeBT_of (k := 462) (by decide +kernel) rfl, zeBT_of (k := 1) (by decide +kernel) rfl, by decide +kernel, by decide +kernel, by decide +kernel⟩
theorem zcal_79 : zeMok 79 ∧ Cond.code (zeNam 79) (zeCod 79) (zeNl 79) (zeRt 79) ∈ zeBT ∧ Cond.initialized (zeNam 79).cls ∈ zeBT ∧ ((zeNam 79).cls ≠ "java/lang/invoke/MethodHandle" ∧ (zeNam 79).cls ≠ "java/lang/invoke/VarHandle" ∧ (parseMethodDescriptor (zeNam 79).desc).map (fun d => d.parameters.length) = some 1) := ⟨⟨by decide +kernel, (Or.inr (Or.inl ⟨rfl, rfl⟩))⟩, zeBT_of (k := 515) (by decide +kernel) rfl, zeBT_of (k := 1) (by decide +kernel) rfl, by decide +kernel, by decide +kernel, by decide +kernel⟩
theorem zcal_80 : zeMok 80 ∧ Cond.code (zeNam 80) (zeCod 80) (zeNl 80) (zeRt 80) ∈ zeBT ∧ Cond.initialized (zeNam 80).cls ∈ zeBT ∧ ((zeNam 80).cls ≠ "java/lang/invoke/MethodHandle" ∧ (zeNam 80).cls ≠ "java/lang/invoke/VarHandle" ∧ (parseMethodDescriptor (zeNam 80).desc).map (fun d => d.parameters.length) = some 2) := ⟨⟨by decide +kernel, (Or.inr (Or.inr (Or.inl ⟨Or.inl rfl, rfl⟩)))⟩, zeBT_of (k := 531) (by decide +kernel) rfl, zeBT_of (k := 4) (by decide +kernel) rfl, by decide +kernel, by decide +kernel, by decide +kernel⟩
theorem zcal_81 : zeMok 81 ∧ Cond.code (zeNam 81) (zeCod 81) (zeNl 81) (zeRt 81) ∈ zeBT ∧ Cond.initialized (zeNam 81).cls ∈ zeBT ∧ ((zeNam 81).cls ≠ "java/lang/invoke/MethodHandle" ∧ (zeNam 81).cls ≠ "java/lang/invoke/VarHandle" ∧ (parseMethodDescriptor (zeNam 81).desc).map (fun d => d.parameters.length) = some 1) := ⟨⟨by decide +kernel, (Or.inr (Or.inl ⟨rfl, rfl⟩))⟩, zeBT_of (k := 527) (by decide +kernel) rfl, zeBT_of (k := 4) (by decide +kernel) rfl, by decide +kernel, by decide +kernel, by decide +kernel⟩
theorem zcal_82 : zeMok 82 ∧ Cond.code (zeNam 82) (zeCod 82) (zeNl 82) (zeRt 82) ∈ zeBT ∧ Cond.initialized (zeNam 82).cls ∈ zeBT ∧ ((zeNam 82).cls ≠ "java/lang/invoke/MethodHandle" ∧ (zeNam 82).cls ≠ "java/lang/invoke/VarHandle" ∧ (parseMethodDescriptor (zeNam 82).desc).map (fun d => d.parameters.length) = some 0) := ⟨⟨by decide +kernel, (Or.inr (Or.inl ⟨rfl, rfl⟩))⟩, zeBT_of (k := 523) (by decide +kernel) rfl, zeBT_of (k := 4) (by decide +kernel) rfl, by decide +kernel, by decide +kernel, by decide +kernel⟩
theorem zcal_83 : zeMok 83 ∧ Cond.code (zeNam 83) (zeCod 83) (zeNl 83) (zeRt 83) ∈ zeBT ∧ Cond.initialized (zeNam 83).cls ∈ zeBT ∧ ((zeNam 83).cls ≠ "java/lang/invoke/MethodHandle" ∧ (zeNam 83).cls ≠ "java/lang/invoke/VarHandle" ∧ (parseMethodDescriptor (zeNam 83).desc).map (fun d => d.parameters.length) = some 0) := ⟨⟨by decide +kernel, (Or.inr (Or.inl ⟨rfl, rfl⟩))⟩, zeBT_of (k := 535) (by decide +kernel) rfl, zeBT_of (k := 4) (by decide +kernel) rfl, by decide +kernel, by decide +kernel, by decide +kernel⟩
theorem zcal_84 : zeMok 84 ∧ Cond.code (zeNam 84) (zeCod 84) (zeNl 84) (zeRt 84) ∈ zeBT ∧ Cond.initialized (zeNam 84).cls ∈ zeBT ∧ ((zeNam 84).cls ≠ "java/lang/invoke/MethodHandle" ∧ (zeNam 84).cls ≠ "java/lang/invoke/VarHandle" ∧ (parseMethodDescriptor (zeNam 84).desc).map (fun d => d.parameters.length) = some 1) := ⟨⟨by decide +kernel, (Or.inr (Or.inl ⟨rfl, rfl⟩))⟩, zeBT_of (k := 519) (by decide +kernel) rfl, zeBT_of (k := 1) (by decide +kernel) rfl, by decide +kernel, by decide +kernel, by decide +kernel⟩
theorem zcal_85 : zeMok 85 ∧ Cond.code (zeNam 85) (zeCod 85) (zeNl 85) (zeRt 85) ∈ zeBT ∧ Cond.initialized (zeNam 85).cls ∈ zeBT ∧ ((zeNam 85).cls ≠ "java/lang/invoke/MethodHandle" ∧ (zeNam 85).cls ≠ "java/lang/invoke/VarHandle" ∧ (parseMethodDescriptor (zeNam 85).desc).map (fun d => d.parameters.length) = some 1) := ⟨⟨by decide +kernel, (Or.inr (Or.inl ⟨rfl, rfl⟩))⟩, zeBT_of (k := 458) (by decide +kernel) rfl, zeBT_of (k := 1) (by decide +kernel) rfl, by decide +kernel, by decide +kernel, by decide +kernel⟩
theorem zcal_86 : zeMok 86 ∧ Cond.code (zeNam 86) (zeCod 86) (zeNl 86) (zeRt 86) ∈ zeBT ∧ Cond.initialized (zeNam 86).cls ∈ zeBT ∧ ((zeNam 86).cls ≠ "java/lang/invoke/MethodHandle" ∧ (zeNam 86).cls ≠ "java/lang/invoke/VarHandle" ∧ (parseMethodDescriptor (zeNam 86).desc).map (fun d => d.parameters.length) = some 1) := ⟨⟨by decide +kernel, (Or.inr (Or.inl ⟨rfl, rfl⟩))⟩, zeBT_of (k := 454) (by decide +kernel) rfl, zeBT_of (k := 1) (by decide +kernel) rfl, by decide +kernel, by decide +kernel, by decide +kernel⟩
theorem zcal_87 : zeMok 87 ∧ Cond.code (zeNam 87) (zeCod 87) (zeNl 87) (zeRt 87) ∈ zeBT ∧ Cond.initialized (zeNam 87).cls ∈ zeBT ∧ ((zeNam 87).cls ≠ "java/lang/invoke/MethodHandle" ∧ (zeNam 87).cls ≠ "java/lang/invoke/VarHandle" ∧ (parseMethodDescriptor (zeNam 87).desc).map (fun d => d.parameters.length) = some 0) := ⟨⟨by decide +kernel, (Or.inr (Or.inl ⟨rfl, rfl⟩))⟩, zeBT_of (k := 1145) (by decide +kernel) rfl, zeBT_of (k := 13) (by decide +kernel) rfl, by decide +kernel, by decide +kernel, by decide +kernel⟩
theorem zcal_88 : zeMok 88 ∧ Cond.code (zeNam 88) (zeCod 88) (zeNl 88) (zeRt 88) ∈ zeBT ∧ Cond.initialized (zeNam 88).cls ∈ zeBT ∧ ((zeNam 88).cls ≠ "java/lang/invoke/MethodHandle" ∧ (zeNam 88).cls ≠ "java/lang/invoke/VarHandle" ∧ (parseMethodDescriptor (zeNam 88).desc).map (fun d => d.parameters.length) = some 0) := ⟨⟨by decide +kernel, (Or.inr (Or.inl ⟨rfl, rfl⟩))⟩, zeBT_of (k := 1153) (by decide +kernel) rfl, zeBT_of (k := 13) (by decide +kernel) rfl, by decide +kernel, by decide +kernel, by decide +kernel⟩
theorem zcal_89 : zeMok 89 ∧ Cond.code (zeNam 89) (zeCod 89) (zeNl 89) (zeRt 89) ∈ zeBT ∧ Cond.initialized (zeNam 89).cls ∈ zeBT ∧ ((zeNam 89).cls ≠ "java/lang/invoke/MethodHandle" ∧ (zeNam 89).cls ≠ "java/lang/invoke/VarHandle" ∧ (parseMethodDescriptor (zeNam 89).desc).map (fun d => d.parameters.length) = some 5) := ⟨⟨by decide +kernel, (Or.inl ⟨rfl, rfl⟩)⟩, zeBT_of (k := 1157) (by decide +kernel) rfl, zeBT_of (k := 13) (by decide +kernel) rfl, by decide +kernel, by decide +kernel, by decide +kernel⟩
theorem zcal_90 : zeMok 90 ∧ Cond.code (zeNam 90) (zeCod 90) (zeNl 90) (zeRt 90) ∈ zeBT ∧ Cond.initialized (zeNam 90).cls ∈ zeBT ∧ ((zeNam 90).cls ≠ "java/lang/invoke/MethodHandle" ∧ (zeNam 90).cls ≠ "java/lang/invoke/VarHandle" ∧ (parseMethodDescriptor (zeNam 90).desc).map (fun d => d.parameters.length) = some 1) := ⟨⟨by decide +kernel, (Or.inr (Or.inl ⟨rfl, rfl⟩))⟩, zeBT_of (k := 1149) (by decide +kernel) rfl, zeBT_of (k := 13) (by decide +kernel) rfl, by decide +kernel, by decide +kernel, by decide +kernel⟩
theorem zcal_91 : zeMok 91 ∧ Cond.code (zeNam 91) (zeCod 91) (zeNl 91) (zeRt 91) ∈ zeBT ∧ Cond.initialized (zeNam 91).cls ∈ zeBT ∧ ((zeNam 91).cls ≠ "java/lang/invoke/MethodHandle" ∧ (zeNam 91).cls ≠ "java/lang/invoke/VarHandle" ∧ (parseMethodDescriptor (zeNam 91).desc).map (fun d => d.parameters.length) = some 1) := ⟨⟨by decide +kernel, (Or.inr (Or.inl ⟨rfl, rfl⟩))⟩, zeBT_of (k := 1141) (by decide +kernel) rfl, zeBT_of (k := 13) (by decide +kernel) rfl, by decide +kernel, by decide +kernel, by decide +kernel⟩
theorem zcal_92 : zeMok 92 ∧ Cond.code (zeNam 92) (zeCod 92) (zeNl 92) (zeRt 92) ∈ zeBT ∧ Cond.initialized (zeNam 92).cls ∈ zeBT ∧ ((zeNam 92).cls ≠ "java/lang/invoke/MethodHandle" ∧ (zeNam 92).cls ≠ "java/lang/invoke/VarHandle" ∧ (parseMethodDescriptor (zeNam 92).desc).map (fun d => d.parameters.length) = some 0) := ⟨⟨by decide +kernel, (Or.inr (Or.inl ⟨rfl, rfl⟩))⟩, zeBT_of (k := 543) (by decide +kernel) rfl, zeBT_of (k := 1) (by decide +kernel) rfl, by decide +kernel, by decide +kernel, by decide +kernel⟩
theorem zcal_93 : zeMok 93 ∧ Cond.code (zeNam 93) (zeCod 93) (zeNl 93) (zeRt 93) ∈ zeBT ∧ Cond.initialized (zeNam 93).cls ∈ zeBT ∧ ((zeNam 93).cls ≠ "java/lang/invoke/MethodHandle" ∧ (zeNam 93).cls ≠ "java/lang/invoke/VarHandle" ∧ (parseMethodDescriptor (zeNam 93).desc).map (fun d => d.parameters.length) = some 0) := ⟨⟨by decide +kernel, (Or.inr (Or.inl ⟨rfl, rfl⟩))⟩, zeBT_of (k := 539) (by decide +kernel) rfl, zeBT_of (k := 1) (by decide +kernel) rfl, by decide +kernel, by decide +kernel, by decide +kernel⟩
theorem zcal_94 : zeMok 94 ∧ Cond.code (zeNam 94) (zeCod 94) (zeNl 94) (zeRt 94) ∈ zeBT ∧ Cond.initialized (zeNam 94).cls ∈ zeBT ∧ ((zeNam 94).cls ≠ "java/lang/invoke/MethodHandle" ∧ (zeNam 94).cls ≠ "java/lang/invoke/VarHandle" ∧ (parseMethodDescriptor (zeNam 94).desc).map (fun d => d.parameters.length) = some 0) := ⟨⟨by decide +kernel, (Or.inr (Or.inl ⟨rfl, rfl⟩))⟩, zeBT_of (k := 1165) (by decide +kernel) rfl, zeBT_of (k := 13) (by decide +kernel) rfl, by decide +kernel, by decide +kernel, by decide +kernel⟩
theorem zcal_95 : zeMok 95 ∧ Cond.code (zeNam 95) (zeCod 95) (zeNl 95) (zeRt 95) ∈ zeBT ∧ Cond.initialized (zeNam 95).cls ∈ zeBT ∧ ((zeNam 95).cls ≠ "java/lang/invoke/MethodHandle" ∧ (zeNam 95).cls ≠ "java/lang/invoke/VarHandle" ∧ (parseMethodDescriptor (zeNam 95).desc).map (fun d => d.parameters.length) = some 0) := ⟨⟨by decide +kernel, (Or.inr (Or.inl ⟨rfl, rfl⟩))⟩, zeBT_of (k := 1169) (by decide +kernel) rfl, zeBT_of (k := 13) (by decide +kernel) rfl, by decide +kernel, by decide +kernel, by decide +kernel⟩
theorem zcal_96 : zeMok 96 ∧ Cond.code (zeNam 96) (zeCod 96) (zeNl 96) (zeRt 96) ∈ zeBT ∧ Cond.initialized (zeNam 96).cls ∈ zeBT ∧ ((zeNam 96).cls ≠ "java/lang/invoke/MethodHandle" ∧ (zeNam 96).cls ≠ "java/lang/invoke/VarHandle" ∧ (parseMethodDescriptor (zeNam 96).desc).map (fun d => d.parameters.length) = some 0) := ⟨⟨by decide +kernel, (Or.inr (Or.inl ⟨rfl, rfl⟩))⟩, zeBT_of (k := 1161) (by decide +kernel) rfl, zeBT_of (k := 13) (by decide +kernel) rfl, by decide +kernel, by decide +kernel, by decide +kernel⟩
theorem zcal_97 : zeMok 97 ∧ Cond.code (zeNam 97) (zeCod 97) (zeNl 97) (zeRt 97) ∈ zeBT ∧ Cond.initialized (zeNam 97).cls ∈ zeBT ∧ ((zeNam 97).cls ≠ "java/lang/invoke/MethodHandle" ∧ (zeNam 97).cls ≠ "java/lang/invoke/VarHandle" ∧ (parseMethodDescriptor (zeNam 97).desc).map (fun d => d.parameters.length) = some 1) := ⟨⟨by decide +kernel, (Or.inr (Or.inl ⟨rfl, rfl⟩))⟩, zeBT_of (k := 551) (by decide +kernel) rfl, zeBT_of (k := 1) (by decide +kernel) rfl, by decide +kernel, by decide +kernel, by decide +kernel⟩
theorem zcal_98 : zeMok 98 ∧ Cond.code (zeNam 98) (zeCod 98) (zeNl 98) (zeRt 98) ∈ zeBT ∧ Cond.initialized (zeNam 98).cls ∈ zeBT ∧ ((zeNam 98).cls ≠ "java/lang/invoke/MethodHandle" ∧ (zeNam 98).cls ≠ "java/lang/invoke/VarHandle" ∧ (parseMethodDescriptor (zeNam 98).desc).map (fun d => d.parameters.length) = some 1) := ⟨⟨by decide +kernel, (Or.inr (Or.inl ⟨rfl, rfl⟩))⟩, zeBT_of (k := 547) (by decide +kernel) rfl, zeBT_of (k := 1) (by decide +kernel) rfl, by decide +kernel, by decide +kernel, by decide +kernel⟩
theorem zcal_99 : zeMok 99 ∧ Cond.code (zeNam 99) (zeCod 99) (zeNl 99) (zeRt 99) ∈ zeBT ∧ Cond.initialized (zeNam 99).cls ∈ zeBT ∧ ((zeNam 99).cls ≠ "java/lang/invoke/MethodHandle" ∧ (zeNam 99).cls ≠ "java/lang/invoke/VarHandle" ∧ (parseMethodDescriptor (zeNam 99).desc).map (fun d => d.parameters.length) = some 0) := ⟨⟨by decide +kernel, (Or.inr (Or.inl ⟨rfl, rfl⟩))⟩, zeBT_of (k := 1182) (by decide +kernel) rfl, zeBT_of (k := 13) (by decide +kernel) rfl, by decide +kernel, by decide +kernel, by decide +kernel⟩
theorem zcal_100 : zeMok 100 ∧ Cond.code (zeNam 100) (zeCod 100) (zeNl 100) (zeRt 100) ∈ zeBT ∧ Cond.initialized (zeNam 100).cls ∈ zeBT ∧ ((zeNam 100).cls ≠ "java/lang/invoke/MethodHandle" ∧ (zeNam 100).cls ≠ "java/lang/invoke/VarHandle" ∧ (parseMethodDescriptor (zeNam 100).desc).map (fun d => d.parameters.length) = some 1) := ⟨⟨by decide +kernel, (Or.inr (Or.inl ⟨rfl, rfl⟩))⟩, zeBT_of (k := 1177) (by decide +kernel) rfl, zeBT_of (k := 13) (by decide +kernel) rfl, by decide +kernel, by decide +kernel, by decide +kernel⟩
theorem zcal_101 : zeMok 101 ∧ Cond.code (zeNam 101) (zeCod 101) (zeNl 101) (zeRt 101) ∈ zeBT ∧ Cond.initialized (zeNam 101).cls ∈ zeBT ∧ ((zeNam 101).cls ≠ "java/lang/invoke/MethodHandle" ∧ (zeNam 101).cls ≠ "java/lang/invoke/VarHandle" ∧ (parseMethodDescriptor (zeNam 101).desc).map (fun d => d.parameters.length) = some 1) := ⟨⟨by decide +kernel, (Or.inr (Or.inl ⟨rfl, rfl⟩))⟩, zeBT_of (k := 1186) (by decide +kernel) rfl, zeBT_of (k := 13) (by decide +kernel) rfl, by decide +kernel, by decide +kernel, by decide +kernel⟩
theorem zcal_102 : zeMok 102 ∧ Cond.code (zeNam 102) (zeCod 102) (zeNl 102) (zeRt 102) ∈ zeBT ∧ Cond.initialized (zeNam 102).cls ∈ zeBT ∧ ((zeNam 102).cls ≠ "java/lang/invoke/MethodHandle" ∧ (zeNam 102).cls ≠ "java/lang/invoke/VarHandle" ∧ (parseMethodDescriptor (zeNam 102).desc).map (fun d => d.parameters.length) = some 1) := ⟨⟨by decide +kernel, (Or.inr (Or.inl ⟨rfl, rfl⟩))⟩, zeBT_of (k := 1173) (by decide +kernel) rfl, zeBT_of (k := 13) (by decide +kernel) rfl, by decide +kernel, by decide +kernel, by decide +kernel⟩
theorem zcal_103 : zeMok 103 ∧ Cond.code (zeNam 103) (zeCod 103) (zeNl 103) (zeRt 103) ∈ zeBT ∧ Cond.initialized (zeNam 103).cls ∈ zeBT ∧ ((zeNam 103).cls ≠ "java/lang/invoke/MethodHandle" ∧ (zeNam 103).cls ≠ "java/lang/invoke/VarHandle" ∧ (parseMethodDescriptor (zeNam 103).desc).map (fun d => d.parameters.length) = some 1) := ⟨⟨by decide +kernel, (Or.inl ⟨rfl, rfl⟩)⟩, zeBT_of (k := 565) (by decide +kernel) rfl, zeBT_of (k := 4) (by decide +kernel) rfl, by decide +kernel, by decide +kernel, by decide +kernel⟩
theorem zcal_104 : zeMok 104 ∧ Cond.code (zeNam 104) (zeCod 104) (zeNl 104) (zeRt 104) ∈ zeBT ∧ Cond.initialized (zeNam 104).cls ∈ zeBT ∧ ((zeNam 104).cls ≠ "java/lang/invoke/MethodHandle" ∧ (zeNam 104).cls ≠ "java/lang/invoke/VarHandle" ∧ (parseMethodDescriptor (zeNam 104).desc).map (fun d => d.parameters.length) = some 0) := ⟨⟨by decide +kernel, (Or.inr (Or.inl ⟨rfl, rfl⟩))⟩, zeBT_of (k := 561) (by decide +kernel) rfl, zeBT_of (k := 1) (by decide +kernel) rfl, by decide +kernel, by decide +kernel, by decide +kernel⟩
theorem zcal_105 : zeMok 105 ∧ Cond.code (zeNam 105) (zeCod 105) (zeNl 105) (zeRt 105) ∈ zeBT ∧ Cond.initialized (zeNam 105).cls ∈ zeBT ∧ ((zeNam 105).cls ≠ "java/lang/invoke/MethodHandle" ∧ (zeNam 105).cls ≠ "java/lang/invoke/VarHandle" ∧ (parseMethodDescriptor (zeNam 105).desc).map (fun d => d.parameters.length) = some 0) := ⟨⟨by decide +kernel, (Or.inr (Or.inl ⟨rfl, rfl⟩))⟩, zeBT_of (k := 557) (by decide +kernel) rfl, zeBT_of (k := 1) (by decide +kernel) rfl, by decide +kernel, by decide +kernel, by decide +kernel⟩
theorem zcal_106 : zeMok 106 ∧ Cond.code (zeNam 106) (zeCod 106) (zeNl 106) (zeRt 106) ∈ zeBT ∧ Cond.initialized (zeNam 106).cls ∈ zeBT ∧ ((zeNam 106).cls ≠ "java/lang/invoke/MethodHandle" ∧ (zeNam 106).cls ≠ "java/lang/invoke/VarHandle" ∧ (parseMethodDescriptor (zeNam 106).desc).map (fun d => d.parameters.length) = some 0) := ⟨⟨by decide +kernel, (Or.inr (Or.inl ⟨rfl, rfl⟩))⟩, zeBT_of (k := 1190) (by decide +kernel) rfl, zeBT_of (k := 13) (by decide +kernel) rfl, by decide +kernel, by decide +kernel, by decide +kernel⟩
theorem zcal_107 : zeMok 107 ∧ Cond.code (zeNam 107) (zeCod 107) (zeNl 107) (zeRt 107) ∈ zeBT ∧ Cond.initialized (zeNam 107).cls ∈ zeBT ∧ ((zeNam 107).cls ≠ "java/lang/invoke/MethodHandle" ∧ (zeNam 107).cls ≠ "java/lang/invoke/VarHandle" ∧ (parseMethodDescriptor (zeNam 107).desc).map (fun d => d.parameters.length) = some 1) := ⟨⟨by decide +kernel, (Or.inr (Or.inr (Or.inl ⟨Or.inl rfl, rfl⟩)))⟩, zeBT_of (k := 578) (by decide +kernel) rfl, zeBT_of (k := 4) (by decide +kernel) rfl, by decide +kernel, by decide +kernel, by decide +kernel⟩
theorem zcal_108 : zeMok 108 ∧ Cond.code (zeNam 108) (zeCod 108) (zeNl 108) (zeRt 108) ∈ zeBT ∧ Cond.initialized (zeNam 108).cls ∈ zeBT ∧ ((zeNam 108).cls ≠ "java/lang/invoke/MethodHandle" ∧ (zeNam 108).cls ≠ "java/lang/invoke/VarHandle" ∧ (parseMethodDescriptor (zeNam 108).desc).map (fun d => d.parameters.length) = some 0) := ⟨⟨by decide +kernel, (Or.inr (Or.inl ⟨rfl, rfl⟩))⟩, zeBT_of (k := 582) (by decide +kernel) rfl, zeBT_of (k := 4) (by decide +kernel) rfl, by decide +kernel, by decide +kernel, by decide +kernel⟩
theorem zcal_109 : zeMok 109 ∧ Cond.code (zeNam 109) (zeCod 109) (zeNl 109) (zeRt 109) ∈ zeBT ∧ Cond.initialized (zeNam 109).cls ∈ zeBT ∧ ((zeNam 109).cls ≠ "java/lang/invoke/MethodHandle" ∧ (zeNam 109).cls ≠ "java/lang/invoke/VarHandle" ∧ (parseMethodDescriptor (zeNam 109).desc).map (fun d => d.parameters.length) = some 2) := ⟨⟨by decide +kernel, (Or.inr (Or.inl ⟨rfl, rfl⟩))⟩, zeBT_of (k := 574) (by decide +kernel) rfl, zeBT_of (k := 1) (by decide +kernel) rfl, by decide +kernel, by decide +kernel, by decide +kernel⟩
theorem zcal_110 : zeMok 110 ∧ Cond.code (zeNam 110) (zeCod 110) (zeNl 110) (zeRt 110) ∈ zeBT ∧ Cond.initialized (zeNam 110).cls ∈ zeBT ∧ ((zeNam 110).cls ≠ "java/lang/invoke/MethodHandle" ∧ (zeNam 110).cls ≠ "java/lang/invoke/VarHandle" ∧ (parseMethodDescriptor (zeNam 110).desc).map (fun d => d.parameters.length) = some 2) := ⟨⟨by decide +kernel, (Or.inr (Or.inl ⟨rfl, rfl⟩))⟩, zeBT_of (k := 570) (by decide +kernel) rfl, zeBT_of (k := 1) (by decide +kernel) rfl, by decide +kernel, by decide +kernel, by decide +kernel⟩
theorem zcal_111 : zeMok 111 ∧ Cond.code (zeNam 111) (zeCod 111) (zeNl 111) (zeRt 111) ∈ zeBT ∧ Cond.initialized (zeNam 111).cls ∈ zeBT ∧ ((zeNam 111).cls ≠ "java/lang/invoke/MethodHandle" ∧ (zeNam 111).cls ≠ "java/lang/invoke/VarHandle" ∧ (parseMethodDescriptor (zeNam 111).desc).map (fun d => d.parameters.length) = some 2) := ⟨⟨by decide +kernel, (Or.inr (Or.inl ⟨rfl, rfl⟩))⟩, zeBT_of (k := 1194) (by decide +kernel) rfl, zeBT_of (k := 13) (by decide +kernel) rfl, by decide +kernel, by decide +kernel, by decide +kernel⟩
theorem zcal_112 : zeMok 112 ∧ Cond.code (zeNam 112) (zeCod 112) (zeNl 112) (zeRt 112) ∈ zeBT ∧ Cond.initialized (zeNam 112).cls ∈ zeBT ∧ ((zeNam 112).cls ≠ "java/lang/invoke/MethodHandle" ∧ (zeNam 112).cls ≠ "java/lang/invoke/VarHandle" ∧ (parseMethodDescriptor (zeNam 112).desc).map (fun d => d.parameters.length) = some 1) := ⟨⟨by decide +kernel, (Or.inr (Or.inl ⟨rfl, rfl⟩))⟩, zeBT_of (k := 590) (by decide +kernel) rfl, zeBT_of (k := 1) (by decide +kernel) rfl, by decide +kernel, by decide +kernel, by decide +kernel⟩
theorem zcal_113 : zeMok 113 ∧ Cond.code (zeNam 113) (zeCod 113) (zeNl 113) (zeRt 113) ∈ zeBT ∧ Cond.initialized (zeNam 113).cls ∈ zeBT ∧ ((zeNam 113).cls ≠ "java/lang/invoke/MethodHandle" ∧ (zeNam 113).cls ≠ "java/lang/invoke/VarHandle" ∧ (parseMethodDescriptor (zeNam 113).desc).map (fun d => d.parameters.length) = some 1) := ⟨⟨by decide +kernel, (Or.inr (Or.inl ⟨rfl, rfl⟩))⟩, zeBT_of (k := 587) (by decide +kernel) rfl, zeBT_of (k := 1) (by decide +kernel) rfl, by decide +kernel, by decide +kernel, by decide +kernel⟩
theorem zcal_114 : zeMok 114 ∧ Cond.code (zeNam 114) (zeCod 114) (zeNl 114) (zeRt 114) ∈ zeBT ∧ Cond.initialized (zeNam 114).cls ∈ zeBT ∧ ((zeNam 114).cls ≠ "java/lang/invoke/MethodHandle" ∧ (zeNam 114).cls ≠ "java/lang/invoke/VarHandle" ∧ (parseMethodDescriptor (zeNam 114).desc).map (fun d => d.parameters.length) = some 1) := ⟨⟨by decide +kernel, (Or.inr (Or.inl ⟨rfl, rfl⟩))⟩, zeBT_of (k := 1198) (by decide +kernel) rfl, zeBT_of (k := 13) (by decide +kernel) rfl, by decide +kernel, by decide +kernel, by decide +kernel⟩
theorem zcal_115 : zeMok 115 ∧ Cond.code (zeNam 115) (zeCod 115) (zeNl 115) (zeRt 115) ∈ zeBT ∧ Cond.initialized (zeNam 115).cls ∈ zeBT ∧ ((zeNam 115).cls ≠ "java/lang/invoke/MethodHandle" ∧ (zeNam 115).cls ≠ "java/lang/invoke/VarHandle" ∧ (parseMethodDescriptor (zeNam 115).desc).map (fun d => d.parameters.length) = some 2) := ⟨⟨by decide +kernel, (Or.inr (Or.inl ⟨rfl, rfl⟩))⟩, zeBT_of (k := 598) (by decide +kernel) rfl, zeBT_of (k := 1) (by decide +kernel) rfl, by decide +kernel, by decide +kernel, by decide +kernel⟩
theorem zcal_116 : zeMok 116 ∧ Cond.code (zeNam 116) (zeCod 116) (zeNl 116) (zeRt 116) ∈ zeBT ∧ Cond.initialized (zeNam 116).cls ∈ zeBT ∧ ((zeNam 116).cls ≠ "java/lang/invoke/MethodHandle" ∧ (zeNam 116).cls ≠ "java/lang/invoke/VarHandle" ∧ (parseMethodDescriptor (zeNam 116).desc).map (fun d => d.parameters.length) = some 2) := ⟨⟨by decide +kernel, (Or.inr (Or.inl ⟨rfl, rfl⟩))⟩, zeBT_of (k := 594) (by decide +kernel) rfl, zeBT_of (k := 1) (by decide +kernel) rfl, by decide +kernel, by decide +kernel, by decide +kernel⟩
theorem zcal_117 : zeMok 117 ∧ Cond.code (zeNam 117) (zeCod 117) (zeNl 117) (zeRt 117) ∈ zeBT ∧ Cond.initialized (zeNam 117).cls ∈ zeBT ∧ ((zeNam 117).cls ≠ "java/lang/invoke/MethodHandle" ∧ (zeNam 117).cls ≠ "java/lang/invoke/VarHandle" ∧ (parseMethodDescriptor (zeNam 117).desc).map (fun d => d.parameters.length) = some 2) := ⟨⟨by decide +kernel, (Or.inr (Or.inl ⟨rfl, rfl⟩))⟩, zeBT_of (k := 1203) (by decide +kernel) rfl, zeBT_of (k := 13) (by decide +kernel) rfl, by decide +kernel, by decide +kernel, by decide +kernel⟩
theorem zcal_118 : zeMok 118 ∧ Cond.code (zeNam 118) (zeCod 118) (zeNl 118) (zeRt 118) ∈ zeBT ∧ Cond.initialized (zeNam 118).cls ∈ zeBT ∧ ((zeNam 118).cls ≠ "java/lang/invoke/MethodHandle" ∧ (zeNam 118).cls ≠ "java/lang/invoke/VarHandle" ∧ (parseMethodDescriptor (zeNam 118).desc).map (fun d => d.parameters.length) = some 1) := ⟨⟨by decide +kernel, (Or.inr (Or.inr (Or.inl ⟨Or.inl rfl, rfl⟩)))⟩, zeBT_of (k := 610) (by decide +kernel) rfl, zeBT_of (k := 1) (by decide +kernel) rfl, by decide +kernel, by decide +kernel, by decide +kernel⟩
theorem zcal_119 : zeMok 119 ∧ Cond.code (zeNam 119) (zeCod 119) (zeNl 119) (zeRt 119) ∈ zeBT ∧ Cond.initialized (zeNam 119).cls ∈ zeBT ∧ ((zeNam 119).cls ≠ "java/lang/invoke/MethodHandle" ∧ (zeNam 119).cls ≠ "java/lang/invoke/VarHandle" ∧ (parseMethodDescriptor (zeNam 119).desc).map (fun d => d.parameters.length) = some 0) := ⟨⟨by decide +kernel, (Or.inl ⟨rfl, rfl⟩)⟩, zeBT_of (k := 614) (by decide +kernel) rfl, zeBT_of (k := 6) (by decide +kernel) rfl, by decide +kernel, by decide +kernel, by decide +kernel⟩
theorem zcal_120 : zeMok 120 ∧ Cond.code (zeNam 120) (zeCod 120) (zeNl 120) (zeRt 120) ∈ zeBT ∧ Cond.initialized (zeNam 120).cls ∈ zeBT ∧ ((zeNam 120).cls ≠ "java/lang/invoke/MethodHandle" ∧ (zeNam 120).cls ≠ "java/lang/invoke/VarHandle" ∧ (parseMethodDescriptor (zeNam 120).desc).map (fun d => d.parameters.length) = some 0) := ⟨⟨by decide +kernel, (Or.inr (Or.inl ⟨rfl, rfl⟩))⟩, zeBT_of (k := 619) (by decide +kernel) rfl, zeBT_of (k := 6) (by decide +kernel) rfl, by decide +kernel, by decide +kernel, by decide +kernel⟩
theorem zcal_121 : zeMok 121 ∧ Cond.code (zeNam 121) (zeCod 121) (zeNl 121) (zeRt 121) ∈ zeBT ∧ Cond.initialized (zeNam 121).cls ∈ zeBT ∧ ((zeNam 121).cls ≠ "java/lang/invoke/MethodHandle" ∧ (zeNam 121).cls ≠ "java/lang/invoke/VarHandle" ∧ (parseMethodDescriptor (zeNam 121).desc).map (fun d => d.parameters.length) = some 1) := ⟨⟨by decide +kernel, (Or.inr (Or.inl ⟨rfl, rfl⟩))⟩, zeBT_of (k := 606) (by decide +kernel) rfl, zeBT_of (k := 1) (by decide +kernel) rfl, by decide +kernel, by decide +kernel, by decide +kernel⟩
theorem zcal_122 : zeMok 122 ∧ Cond.code (zeNam 122) (zeCod 122) (zeNl 122) (zeRt 122) ∈ zeBT ∧ Cond.initialized (zeNam 122).cls ∈ zeBT ∧ ((zeNam 122).cls ≠ "java/lang/invoke/MethodHandle" ∧ (zeNam 122).cls ≠ "java/lang/invoke/VarHandle" ∧ (parseMethodDescriptor (zeNam 122).desc).map (fun d => d.parameters.length) = some 1) := ⟨⟨by decide +kernel, (Or.inr (Or.inl ⟨rfl, rfl⟩))⟩, zeBT_of (k := 602) (by decide +kernel) rfl, zeBT_of (k := 1) (by decide +kernel) rfl, by decide +kernel, by decide +kernel, by decide +kernel⟩
theorem zcal_123 : zeMok 123 ∧ Cond.code (zeNam 123) (zeCod 123) (zeNl 123) (zeRt 123) ∈ zeBT ∧ Cond.initialized (zeNam 123).cls ∈ zeBT ∧ ((zeNam 123).cls ≠ "java/lang/invoke/MethodHandle" ∧ (zeNam 123).cls ≠ "java/lang/invoke/VarHandle" ∧ (parseMethodDescriptor (zeNam 123).desc).map (fun d => d.parameters.length) = some 1) := ⟨⟨by decide +kernel, (Or.inr (Or.inr (Or.inl ⟨Or.inl rfl, rfl⟩)))⟩, zeBT_of (k := 1211) (by decide +kernel) rfl, zeBT_of (k := 13) (by decide +kernel) rfl, by decide +kernel, by decide +kernel, by decide +kernel⟩
theorem zcal_124 : zeMok 124 ∧ Cond.code (zeNam 124) (zeCod 124) (zeNl 124) (zeRt 124) ∈ zeBT ∧ Cond.initialized (zeNam 124).cls ∈ zeBT ∧ ((zeNam 124).cls ≠ "java/lang/invoke/MethodHandle" ∧ (zeNam 124).cls ≠ "java/lang/invoke/VarHandle" ∧ (parseMethodDescriptor (zeNam 124).desc).map (fun d => d.parameters.length) = some 1) := ⟨⟨by decide +kernel, (Or.inr (Or.inl ⟨rfl, rfl⟩))⟩, zeBT_of (k := 1207) (by decide +kernel) rfl, zeBT_of (k := 13) (by decide +kernel) rfl, by decide +kernel, by decide +kernel, by decide +kernel⟩
theorem zcal_125 : zeMok 125 ∧ Cond.code (zeNam 125) (zeCod 125) (zeNl 125) (zeRt 125) ∈ zeBT ∧ Cond.initialized (zeNam 125).cls ∈ zeBT ∧ ((zeNam 125).cls ≠ "java/lang/invoke/MethodHandle" ∧ (zeNam 125).cls ≠ "java/lang/invoke/VarHandle" ∧ (parseMethodDescriptor (zeNam 125).desc).map (fun d => d.parameters.length) = some 1) := ⟨⟨by decide +kernel, (Or.inr (Or.inr (Or.inl ⟨Or.inl rfl, rfl⟩)))⟩, zeBT_of (k := 627) (by decide +kernel) rfl, zeBT_of (k := 8) (by decide +kernel) rfl, by decide +kernel, by decide +kernel, by decide +kernel⟩
theorem zcal_126 : zeMok 126 ∧ Cond.code (zeNam 126) (zeCod 126) (zeNl 126) (zeRt 126) ∈ zeBT ∧ Cond.initialized (zeNam 126).cls ∈ zeBT ∧ ((zeNam 126).cls ≠ "java/lang/invoke/MethodHandle" ∧ (zeNam 126).cls ≠ "java/lang/invoke/VarHandle" ∧ (parseMethodDescriptor (zeNam 126).desc).map (fun d => d.parameters.length) = some 1) := ⟨⟨by decide +kernel, (Or.inr (Or.inl ⟨rfl, rfl⟩))⟩, zeBT_of (k := 623) (by decide +kernel) rfl, zeBT_of (k := 1) (by decide +kernel) rfl, by decide +kernel, by decide +kernel, by decide +kernel⟩
theorem zcal_127 : zeMok 127 ∧ Cond.code (zeNam 127) (zeCod 127) (zeNl 127) (zeRt 127) ∈ zeBT ∧ Cond.initialized (zeNam 127).cls ∈ zeBT ∧ ((zeNam 127).cls ≠ "java/lang/invoke/MethodHandle" ∧ (zeNam 127).cls ≠ "java/lang/invoke/VarHandle" ∧ (parseMethodDescriptor (zeNam 127).desc).map (fun d => d.parameters.length) = some 1) := ⟨⟨by decide +kernel, (Or.inr (Or.inl ⟨rfl, rfl⟩))⟩, zeBT_of (k := 1215) (by decide +kernel) rfl, zeBT_of (k := 13) (by decide +kernel) rfl, by decide +kernel, by decide +kernel, by decide +kernel⟩
theorem zcal_128 : zeMok 128 ∧ Cond.code (zeNam 128) (zeCod 128) (zeNl 128) (zeRt 128) ∈ zeBT ∧ Cond.initialized (zeNam 128).cls ∈ zeBT ∧ ((zeNam 128).cls ≠ "java/lang/invoke/MethodHandle" ∧ (zeNam 128).cls ≠ "java/lang/invoke/VarHandle" ∧ (parseMethodDescriptor (zeNam 128).desc).map (fun d => d.parameters.length) = some 0) := ⟨⟨by decide +kernel, (Or.inr (Or.inl ⟨rfl, rfl⟩))⟩, zeBT_of (k := 631) (by decide +kernel) rfl, zeBT_of (k := 1) (by decide +kernel) rfl, by decide +kernel, by decide +kernel, by decide +kernel⟩
theorem zcal_129 : zeMok 129 ∧ Cond.code (zeNam 129) (zeCod 129) (zeNl 129) (zeRt 129) ∈ zeBT ∧ Cond.initialized (zeNam 129).cls ∈ zeBT ∧ ((zeNam 129).cls ≠ "java/lang/invoke/MethodHandle" ∧ (zeNam 129).cls ≠ "java/lang/invoke/VarHandle" ∧ (parseMethodDescriptor (zeNam 129).desc).map (fun d => d.parameters.length) = some 0) := ⟨⟨by decide +kernel, (Or.inr (Or.inl ⟨rfl, rfl⟩))⟩, zeBT_of (k := 1219) (by decide +kernel) rfl, zeBT_of (k := 13) (by decide +kernel) rfl, by decide +kernel, by decide +kernel, by decide +kernel⟩
theorem zcal_130 : zeMok 130 ∧ Cond.code (zeNam 130) (zeCod 130) (zeNl 130) (zeRt 130) ∈ zeBT ∧ Cond.initialized (zeNam 130).cls ∈ zeBT ∧ ((zeNam 130).cls ≠ "java/lang/invoke/MethodHandle" ∧ (zeNam 130).cls ≠ "java/lang/invoke/VarHandle" ∧ (parseMethodDescriptor (zeNam 130).desc).map (fun d => d.parameters.length) = some 1) := ⟨⟨by decide +kernel, (Or.inr (Or.inr (Or.inl ⟨Or.inr (Or.inl rfl), rfl⟩)))⟩, zeBT_of (k := 651) (by decide +kernel) rfl, zeBT_of (k := 8) (by decide +kernel) rfl, by decide +kernel, by decide +kernel, by decide +kernel⟩
theorem zcal_131 : zeMok 131 ∧ Cond.code (zeNam 131) (zeCod 131) (zeNl 131) (zeRt 131) ∈ zeBT ∧ Cond.initialized (zeNam 131).cls ∈ zeBT ∧ ((zeNam 131).cls ≠ "java/lang/invoke/MethodHandle" ∧ (zeNam 131).cls ≠ "java/lang/invoke/VarHandle" ∧ (parseMethodDescriptor (zeNam 131).desc).map (fun d => d.parameters.length) = some 1) := ⟨⟨by decide +kernel, (Or.inr (Or.inl ⟨rfl, rfl⟩))⟩, zeBT_of (k := 647) (by decide +kernel) rfl, zeBT_of (k := 8) (by decide +kernel) rfl, by decide +kernel, by decide +kernel, by decide +kernel⟩
theorem zcal_132 : zeMok 132 ∧ Cond.code (zeNam 132) (zeCod 132) (zeNl 132) (zeRt 132) ∈ zeBT ∧ Cond.initialized (zeNam 132).cls ∈ zeBT ∧ ((zeNam 132).cls ≠ "java/lang/invoke/MethodHandle" ∧ (zeNam 132).cls ≠ "java/lang/invoke/VarHandle" ∧ (parseMethodDescriptor (zeNam 132).desc).map (fun d => d.parameters.length) = some 2) := ⟨⟨by decide +kernel, (Or.inr (Or.inr (Or.inl ⟨Or.inr (Or.inl rfl), rfl⟩)))⟩, zeBT_of (k := 655) (by decide +kernel) rfl, zeBT_of (k := 8) (by decide +kernel) rfl, by decide +kernel, by decide +kernel, by decide +kernel⟩
theorem zcal_133 : zeMok 133 ∧ Cond.code (zeNam 133) (zeCod 133) (zeNl 133) (zeRt 133) ∈ zeBT ∧ Cond.initialized (zeNam 133).cls ∈ zeBT ∧ ((zeNam 133).cls ≠ "java/lang/invoke/MethodHandle" ∧ (zeNam 133).cls ≠ "java/lang/invoke/VarHandle" ∧ (parseMethodDescriptor (zeNam 133).desc).map (fun d => d.parameters.length) = some 2) := ⟨⟨by decide +kernel, (Or.inr (Or.inr (Or.inl ⟨Or.inl rfl, rfl⟩)))⟩, zeBT_of (k := 643) (by decide +kernel) rfl, zeBT_of (k := 8) (by decide +kernel) rfl, by decide +kernel, by decide +kernel, by decide +kernel⟩
theorem zcal_134 : zeMok 134 ∧ Cond.code (zeNam 134) (zeCod 134) (zeNl 134) (zeRt 134) ∈ zeBT ∧ Cond.initialized (zeNam 134).cls ∈ zeBT ∧ ((zeNam 134).cls ≠ "java/lang/invoke/MethodHandle" ∧ (zeNam 134).cls ≠ "java/lang/invoke/VarHandle" ∧ (parseMethodDescriptor (zeNam 134).desc).map (fun d => d.parameters.length) = some 0) := ⟨⟨by decide +kernel, (Or.inr (Or.inl ⟨rfl, rfl⟩))⟩, zeBT_of (k := 639) (by decide +kernel) rfl, zeBT_of (k := 8) (by decide +kernel) rfl, by decide +kernel, by decide +kernel, by decide +kernel⟩
theorem zcal_135 : zeMok 135 ∧ Cond.code (zeNam 135) (zeCod 135) (zeNl 135) (zeRt 135) ∈ zeBT ∧ Cond.initialized (zeNam 135).cls ∈ zeBT ∧ ((zeNam 135).cls ≠ "java/lang/invoke/MethodHandle" ∧ (zeNam 135).cls ≠ "java/lang/invoke/VarHandle" ∧ (parseMethodDescriptor (zeNam 135).desc).map (fun d => d.parameters.length) = some 2) := ⟨⟨by decide +kernel, (Or.inr (Or.inl ⟨rfl, rfl⟩))⟩, zeBT_of (k := 668) (by decide +kernel) rfl, zeBT_of (k := 8) (by decide +kernel) rfl, by decide +kernel, by decide +kernel, by decide +kernel⟩
theorem zcal_136 : zeMok 136 ∧ Cond.code (zeNam 136) (zeCod 136) (zeNl 136) (zeRt 136) ∈ zeBT ∧ Cond.initialized (zeNam 136).cls ∈ zeBT ∧ ((zeNam 136).cls ≠ "java/lang/invoke/MethodHandle" ∧ (zeNam 136).cls ≠ "java/lang/invoke/VarHandle" ∧ (parseMethodDescriptor (zeNam 136).desc).map (fun d => d.parameters.length) = some 1) := ⟨⟨by decide +kernel, (Or.inr (Or.inl ⟨rfl, rfl⟩))⟩, zeBT_of (k := 663) (by decide +kernel) rfl, zeBT_of (k := 1) (by decide +kernel) rfl, by decide +kernel, by decide +kernel, by decide +kernel⟩
theorem zcal_137 : zeMok 137 ∧ Cond.code (zeNam 137) (zeCod 137) (zeNl 137) (zeRt 137) ∈ zeBT ∧ Cond.initialized (zeNam 137).cls ∈ zeBT ∧ ((zeNam 137).cls ≠ "java/lang/invoke/MethodHandle" ∧ (zeNam 137).cls ≠ "java/lang/invoke/VarHandle" ∧ (parseMethodDescriptor (zeNam 137).desc).map (fun d => d.parameters.length) = some 0) := ⟨⟨by decide +kernel, (Or.inr (Or.inl ⟨rfl, rfl⟩))⟩, zeBT_of (k := 659) (by decide +kernel) rfl, zeBT_of (k := 1) (by decide +kernel) rfl, by decide +kernel, by decide +kernel, by decide +kernel⟩
theorem zcal_138 : zeMok 138 ∧ Cond.code (zeNam 138) (zeCod 138) (zeNl 138) (zeRt 138) ∈ zeBT ∧ Cond.initialized (zeNam 138).cls ∈ zeBT ∧ ((zeNam 138).cls ≠ "java/lang/invoke/MethodHandle" ∧ (zeNam 138).cls ≠ "java/lang/invoke/VarHandle" ∧ (parseMethodDescriptor (zeNam 138).desc).map (fun d => d.parameters.length) = some 0) := ⟨⟨by decide +kernel, (Or.inr (Or.inl ⟨rfl, rfl⟩))⟩, zeBT_of (k := 635) (by decide +kernel) rfl, zeBT_of (k := 1) (by decide +kernel) rfl, by decide +kernel, by decide +kernel, by decide +kernel⟩
theorem zcal_139 : zeMok 139 ∧ Cond.code (zeNam 139) (zeCod 139) (zeNl 139) (zeRt 139) ∈ zeBT ∧ Cond.initialized (zeNam 139).cls ∈ zeBT ∧ ((zeNam 139).cls ≠ "java/lang/invoke/MethodHandle" ∧ (zeNam 139).cls ≠ "java/lang/invoke/VarHandle" ∧ (parseMethodDescriptor (zeNam 139).desc).map (fun d => d.parameters.length) = some 1) := ⟨⟨by decide +kernel, (Or.inr (Or.inl ⟨rfl, rfl⟩))⟩, zeBT_of (k := 1231) (by decide +kernel) rfl, zeBT_of (k := 13) (by decide +kernel) rfl, by decide +kernel, by decide +kernel, by decide +kernel⟩
theorem zcal_140 : zeMok 140 ∧ Cond.code (zeNam 140) (zeCod 140) (zeNl 140) (zeRt 140) ∈ zeBT ∧ Cond.initialized (zeNam 140).cls ∈ zeBT ∧ ((zeNam 140).cls ≠ "java/lang/invoke/MethodHandle" ∧ (zeNam 140).cls ≠ "java/lang/invoke/VarHandle" ∧ (parseMethodDescriptor (zeNam 140).desc).map (fun d => d.parameters.length) = some 0) := ⟨⟨by decide +kernel, (Or.inr (Or.inl ⟨rfl, rfl⟩))⟩, zeBT_of (k := 1227) (by decide +kernel) rfl, zeBT_of (k := 13) (by decide +kernel) rfl, by decide +kernel, by decide +kernel, by decide +kernel⟩
theorem zcal_141 : zeMok 141 ∧ Cond.code (zeNam 141) (zeCod 141) (zeNl 141) (zeRt 141) ∈ zeBT ∧ Cond.initialized (zeNam 141).cls ∈ zeBT ∧ ((zeNam 141).cls ≠ "java/lang/invoke/MethodHandle" ∧ (zeNam 141).cls ≠ "java/lang/invoke/VarHandle" ∧ (parseMethodDescriptor (zeNam 141).desc).map (fun d => d.parameters.length) = some 1) := ⟨⟨by decide +kernel, (Or.inr (Or.inl ⟨rfl, rfl⟩))⟩, zeBT_of (k := 1235) (by decide +kernel) rfl, zeBT_of (k := 13) (by decide +kernel) rfl, by decide +kernel, by decide +kernel, by decide +kernel⟩
theorem zcal_142 : zeMok 142 ∧ Cond.code (zeNam 142) (zeCod 142) (zeNl 142) (zeRt 142) ∈ zeBT ∧ Cond.initialized (zeNam 142).cls ∈ zeBT ∧ ((zeNam 142).cls ≠ "java/lang/invoke/MethodHandle" ∧ (zeNam 142).cls ≠ "java/lang/invoke/VarHandle" ∧ (parseMethodDescriptor (zeNam 142).desc).map (fun d => d.parameters.length) = some 1) := ⟨⟨by decide +kernel, (Or.inl ⟨rfl, rfl⟩)⟩, zeBT_of (k := 1239) (by decide +kernel) rfl, zeBT_of (k := 13) (by decide +kernel) rfl, by decide +kernel, by decide +kernel, by decide +kernel⟩
theorem zcal_143 : zeMok 143 ∧ Cond.code (zeNam 143) (zeCod 143) (zeNl 143) (zeRt 143) ∈ zeBT ∧ Cond.initialized (zeNam 143).cls ∈ zeBT ∧ ((zeNam 143).cls ≠ "java/lang/invoke/MethodHandle" ∧ (zeNam 143).cls ≠ "java/lang/invoke/VarHandle" ∧ (parseMethodDescriptor (zeNam 143).desc).map (fun d => d.parameters.length) = some 0) := ⟨⟨by decide +kernel, (Or.inr (Or.inl ⟨rfl, rfl⟩))⟩, zeBT_of (k := 1223) (by decide +kernel) rfl, zeBT_of (k := 13) (by decide +kernel) rfl, by decide +kernel, by decide +kernel, by decide +kernel⟩
theorem zcal_144 : zeMok 144 ∧ Cond.code (zeNam 144) (zeCod 144) (zeNl 144) (zeRt 144) ∈ zeBT ∧ Cond.initialized (zeNam 144).cls ∈ zeBT ∧ ((zeNam 144).cls ≠ "java/lang/invoke/MethodHandle" ∧ (zeNam 144).cls ≠ "java/lang/invoke/VarHandle" ∧ (parseMethodDescriptor (zeNam 144).desc).map (fun d => d.parameters.length) = some 0) := ⟨⟨by decide +kernel, (Or.inr (Or.inr (Or.inr ⟨Or.inl ⟨_, rfl⟩, rfl⟩)))⟩, zeBT_of (k := 677) (by decide +kernel) rfl, zeBT_of (k := 7) (by decide +kernel) rfl, by decide +kernel, by decide +kernel, by decide +kernel⟩
theorem zcal_145 : zeMok 145 ∧ Cond.code (zeNam 145) (zeCod 145) (zeNl 145) (zeRt 145) ∈ zeBT ∧ Cond.initialized (zeNam 145).cls ∈ zeBT ∧ ((zeNam 145).cls ≠ "java/lang/invoke/MethodHandle" ∧ (zeNam 145).cls ≠ "java/lang/invoke/VarHandle" ∧ (parseMethodDescriptor (zeNam 145).desc).map (fun d => d.parameters.length) = some 1) := ⟨⟨by decide +kernel, (Or.inl ⟨rfl, rfl⟩)⟩, zeBT_of (k := 681) (by decide +kernel) rfl, zeBT_of (k := 1) (by decide +kernel) rfl, by decide +kernel, by decide +kernel, by decide +kernel⟩
theorem zcal_146 : zeMok 146 ∧ Cond.code (zeNam 146) (zeCod 146) (zeNl 146) (zeRt 146) ∈ zeBT ∧ Cond.initialized (zeNam 146).cls ∈ zeBT ∧ ((zeNam 146).cls ≠ "java/lang/invoke/MethodHandle" ∧ (zeNam 146).cls ≠ "java/lang/invoke/VarHandle" ∧ (parseMethodDescriptor (zeNam 146).desc).map (fun d => d.parameters.length) = some 0) := ⟨⟨by decide +kernel, (Or.inr (Or.inl ⟨rfl, rfl⟩))⟩, zeBT_of (k := 673) (by decide +kernel) rfl, zeBT_of (k := 1) (by decide +kernel) rfl, by decide +kernel, by decide +kernel, by decide +kernel⟩
theorem zcal_147 : zeMok 147 ∧ Cond.code (zeNam 147) (zeCod 147) (zeNl 147) (zeRt 147) ∈ zeBT ∧ Cond.initialized (zeNam 147).cls ∈ zeBT ∧ ((zeNam 147).cls ≠ "java/lang/invoke/MethodHandle" ∧ (zeNam 147).cls ≠ "java/lang/invoke/VarHandle" ∧ (parseMethodDescriptor (zeNam 147).desc).map (fun d => d.parameters.length) = some 0) := ⟨⟨by decide +kernel, (Or.inr (Or.inl ⟨rfl, rfl⟩))⟩, zeBT_of (k := 1036) (by decide +kernel) rfl, zeBT_of (k := 13) (by decide +kernel) rfl, by decide +kernel, by decide +kernel, by decide +kernel⟩
theorem zcal_148 : zeMok 148 ∧ Cond.code (zeNam 148) (zeCod 148) (zeNl 148) (zeRt 148) ∈ zeBT ∧ Cond.initialized (zeNam 148).cls ∈ zeBT ∧ ((zeNam 148).cls ≠ "java/lang/invoke/MethodHandle" ∧ (zeNam 148).cls ≠ "java/lang/invoke/VarHandle" ∧ (parseMethodDescriptor (zeNam 148).desc).map (fun d => d.parameters.length) = some 1) := ⟨⟨by decide +kernel, (Or.inr (Or.inr (Or.inl ⟨Or.inl rfl, rfl⟩)))⟩, zeBT_of (k := 689) (by decide +kernel) rfl, zeBT_of (k := 1) (by decide +kernel) rfl, by decide +kernel, by decide +kernel, by decide +kernel⟩
theorem zcal_149 : zeMok 149 ∧ Cond.code (zeNam 149) (zeCod 149) (zeNl 149) (zeRt 149) ∈ zeBT ∧ Cond.initialized (zeNam 149).cls ∈ zeBT ∧ ((zeNam 149).cls ≠ "java/lang/invoke/MethodHandle" ∧ (zeNam 149).cls ≠ "java/lang/invoke/VarHandle" ∧ (parseMethodDescriptor (zeNam 149).desc).map (fun d => d.parameters.length) = some 1) := ⟨⟨by decide +kernel, (Or.inr (Or.inl ⟨rfl, rfl⟩))⟩, zeBT_of (k := 686) (by decide +kernel) rfl, zeBT_of (k := 1) (by decide +kernel) rfl, by decide +kernel, by decide +kernel, by decide +kernel⟩
theorem zcal_150 : zeMok 150 ∧ Cond.code (zeNam 150) (zeCod 150) (zeNl 150) (zeRt 150) ∈ zeBT ∧ Cond.initialized (zeNam 150).cls ∈ zeBT ∧ ((zeNam 150).cls ≠ "java/lang/invoke/MethodHandle" ∧ (zeNam 150).cls ≠ "java/lang/invoke/VarHandle" ∧ (parseMethodDescriptor (zeNam 150).desc).map (fun d => d.parameters.length) = some 1) := ⟨⟨by decide +kernel, (Or.inr (Or.inl ⟨rfl, rfl⟩))⟩, zeBT_of (k := 1041) (by decide +kernel) rfl, zeBT_of (k := 13) (by decide +kernel) rfl, by decide +kernel, by decide +kernel, by decide +kernel⟩
theorem zcal_151 : zeMok 151 ∧ Cond.code (zeNam 151) (zeCod 151) (zeNl 151) (zeRt 151) ∈ zeBT ∧ Cond.initialized (zeNam 151).cls ∈ zeBT ∧ ((zeNam 151).cls ≠ "java/lang/invoke/MethodHandle" ∧ (zeNam 151).cls ≠ "java/lang/invoke/VarHandle" ∧ (parseMethodDescriptor (zeNam 151).desc).map (fun d => d.parameters.length) = some 1) := ⟨⟨by decide +kernel, (Or.inr (Or.inl ⟨rfl, rfl⟩))⟩, zeBT_of (k := 693) (by decide +kernel) rfl, zeBT_of (k := 1) (by decide +kernel) rfl, by decide +kernel, by decide +kernel, by decide +kernel⟩
theorem zcal_152 : zeMok 152 ∧ Cond.code (zeNam 152) (zeCod 152) (zeNl 152) (zeRt 152) ∈ zeBT ∧ Cond.initialized (zeNam 152).cls ∈ zeBT ∧ ((zeNam 152).cls ≠ "java/lang/invoke/MethodHandle" ∧ (zeNam 152).cls ≠ "java/lang/invoke/VarHandle" ∧ (parseMethodDescriptor (zeNam 152).desc).map (fun d => d.parameters.length) = some 1) := ⟨⟨by decide +kernel, (Or.inr (Or.inl ⟨rfl, rfl⟩))⟩, zeBT_of (k := 1049) (by decide +kernel) rfl, zeBT_of (k := 13) (by decide +kernel) rfl, by decide +kernel, by decide +kernel, by decide +kernel⟩
theorem zcal_153 : zeMok 153 ∧ Cond.code (zeNam 153) (zeCod 153) (zeNl 153) (zeRt 153) ∈ zeBT ∧ Cond.initialized (zeNam 153).cls ∈ zeBT ∧ ((zeNam 153).cls ≠ "java/lang/invoke/MethodHandle" ∧ (zeNam 153).cls ≠ "java/lang/invoke/VarHandle" ∧ (parseMethodDescriptor (zeNam 153).desc).map (fun d => d.parameters.length) = some 1) := ⟨⟨by decide +kernel, (Or.inr (Or.inl ⟨rfl, rfl⟩))⟩, zeBT_of (k := 701) (by decide +kernel) rfl, zeBT_of (k := 1) (by decide +kernel) rfl, by decide +kernel, by decide +kernel, by decide +kernel⟩
theorem zcal_154 : zeMok 154 ∧ Cond.code (zeNam 154) (zeCod 154) (zeNl 154) (zeRt 154) ∈ zeBT ∧ Cond.initialized (zeNam 154).cls ∈ zeBT ∧ ((zeNam 154).cls ≠ "java/lang/invoke/MethodHandle" ∧ (zeNam 154).cls ≠ "java/lang/invoke/VarHandle" ∧ (parseMethodDescriptor (zeNam 154).desc).map (fun d => d.parameters.length) = some 2) := ⟨⟨by decide +kernel, (Or.inr (Or.inr (Or.inl ⟨Or.inl rfl, rfl⟩)))⟩, zeBT_of (k := 709) (by decide +kernel) rfl, zeBT_of (k := 6) (by decide +kernel) rfl, by decide +kernel, by decide +kernel, by decide +kernel⟩
theorem zcal_155 : zeMok 155 ∧ Cond.code (zeNam 155) (zeCod 155) (zeNl 155) (zeRt 155) ∈ zeBT ∧ Cond.initialized (zeNam 155).cls ∈ zeBT ∧ ((zeNam 155).cls ≠ "java/lang/invoke/MethodHandle" ∧ (zeNam 155).cls ≠ "java/lang/invoke/VarHandle" ∧ (parseMethodDescriptor (zeNam 155).desc).map (fun d => d.parameters.length) = some 1) := ⟨⟨by decide +kernel, (Or.inr (Or.inl ⟨rfl, rfl⟩))⟩, zeBT_of (k := 705) (by decide +kernel) rfl, zeBT_of (k := 1) (by decide +kernel) rfl, by decide +kernel, by decide +kernel, by decide +kernel⟩
theorem zcal_156 : zeMok 156 ∧ Cond.code (zeNam 156) (zeCod 156) (zeNl 156) (zeRt 156) ∈ zeBT ∧ Cond.initialized (zeNam 156).cls ∈ zeBT ∧ ((zeNam 156).cls ≠ "java/lang/invoke/MethodHandle" ∧ (zeNam 156).cls ≠ "java/lang/invoke/VarHandle" ∧ (parseMethodDescriptor (zeNam 156).desc).map (fun d => d.parameters.length) = some 2) := ⟨⟨by decide +kernel, (Or.inr (Or.inl ⟨rfl, rfl⟩))⟩, zeBT_of (k := 697) (by decide +kernel) rfl, zeBT_of (k := 1) (by decide +kernel) rfl, by decide +kernel, by decide +kernel, by decide +kernel⟩
theorem zcal_157 : zeMok 157 ∧ Cond.code (zeNam 157) (zeCod 157) (zeNl 157) (zeRt 157) ∈ zeBT ∧ Cond.initialized (zeNam 157).cls ∈ zeBT ∧ ((zeNam 157).cls ≠ "java/lang/invoke/MethodHandle" ∧ (zeNam 157).cls ≠ "java/lang/invoke/VarHandle" ∧ (parseMethodDescriptor (zeNam 157).desc).map (fun d => d.parameters.length) = some 1) := ⟨⟨by decide +kernel, (Or.inr (Or.inl ⟨rfl, rfl⟩))⟩, zeBT_of (k := 1247) (by decide +kernel) rfl, zeBT_of (k := 13) (by decide +kernel) rfl, by decide +kernel, by decide +kernel, by decide +kernel⟩
theorem zcal_158 : zeMok 158 ∧ Cond.code (zeNam 158) (zeCod 158) (zeNl 158) (zeRt 158) ∈ zeBT ∧ Cond.initialized (zeNam 158).cls ∈ zeBT ∧ ((zeNam 158).cls ≠ "java/lang/invoke/MethodHandle" ∧ (zeNam 158).cls ≠ "java/lang/invoke/VarHandle" ∧ (parseMethodDescriptor (zeNam 158).desc).map (fun d => d.parameters.length) = some 2) := ⟨⟨by decide +kernel, (Or.inr (Or.inr (Or.inl ⟨Or.inl rfl, rfl⟩)))⟩, zeBT_of (k := 1255) (by decide +kernel) rfl, zeBT_of (k := 13) (by decide +kernel) rfl, by decide +kernel, by decide +kernel, by decide +kernel⟩
theorem zcal_159 : zeMok 159 ∧ Cond.code (zeNam 159) (zeCod 159) (zeNl 159) (zeRt 159) ∈ zeBT ∧ Cond.initialized (zeNam 159).cls ∈ zeBT ∧ ((zeNam 159).cls ≠ "java/lang/invoke/MethodHandle" ∧ (zeNam 159).cls ≠ "java/lang/invoke/VarHandle" ∧ (parseMethodDescriptor (zeNam 159).desc).map (fun d => d.parameters.length) = some 1) := ⟨⟨by decide +kernel, (Or.inr (Or.inl ⟨rfl, rfl⟩))⟩, zeBT_of (k := 1251) (by decide +kernel) rfl, zeBT_of (k := 13) (by decide +kernel) rfl, by decide +kernel, by decide +kernel, by decide +kernel⟩
theorem zcal_160 : zeMok 160 ∧ Cond.code (zeNam 160) (zeCod 160) (zeNl 160) (zeRt 160) ∈ zeBT ∧ Cond.initialized (zeNam 160).cls ∈ zeBT ∧ ((zeNam 160).cls ≠ "java/lang/invoke/MethodHandle" ∧ (zeNam 160).cls ≠ "java/lang/invoke/VarHandle" ∧ (parseMethodDescriptor (zeNam 160).desc).map (fun d => d.parameters.length) = some 1) := ⟨⟨by decide +kernel, (Or.inr (Or.inl ⟨rfl, rfl⟩))⟩, zeBT_of (k := 1258) (by decide +kernel) rfl, zeBT_of (k := 13) (by decide +kernel) rfl, by decide +kernel, by decide +kernel, by decide +kernel⟩
theorem zcal_161 : zeMok 161 ∧ Cond.code (zeNam 161) (zeCod 161) (zeNl 161) (zeRt 161) ∈ zeBT ∧ Cond.initialized (zeNam 161).cls ∈ zeBT ∧ ((zeNam 161).cls ≠ "java/lang/invoke/MethodHandle" ∧ (zeNam 161).cls ≠ "java/lang/invoke/VarHandle" ∧ (parseMethodDescriptor (zeNam 161).desc).map (fun d => d.parameters.length) = some 2) := ⟨⟨by decide +kernel, (Or.inr (Or.inl ⟨rfl, rfl⟩))⟩, zeBT_of (k := 1243) (by decide +kernel) rfl, zeBT_of (k := 13) (by decide +kernel) rfl, by decide +kernel, by decide +kernel, by decide +kernel⟩
theorem zcal_162 : zeMok 162 ∧ Cond.code (zeNam 162) (zeCod 162) (zeNl 162) (zeRt 162) ∈ zeBT ∧ Cond.initialized (zeNam 162).cls ∈ zeBT ∧ ((zeNam 162).cls ≠ "java/lang/invoke/MethodHandle" ∧ (zeNam 162).cls ≠ "java/lang/invoke/VarHandle" ∧ (parseMethodDescriptor (zeNam 162).desc).map (fun d => d.parameters.length) = some 1) := ⟨⟨by decide +kernel, (Or.inr (Or.inl ⟨rfl, rfl⟩))⟩, zeBT_of (k := 717) (by decide +kernel) rfl, zeBT_of (k := 1) (by decide +kernel) rfl, by decide +kernel, by decide +kernel, by decide +kernel⟩
theorem zcal_163 : zeMok 163 ∧ Cond.code (zeNam 163) (zeCod 163) (zeNl 163) (zeRt 163) ∈ zeBT ∧ Cond.initialized (zeNam 163).cls ∈ zeBT ∧ ((zeNam 163).cls ≠ "java/lang/invoke/MethodHandle" ∧ (zeNam 163).cls ≠ "java/lang/invoke/VarHandle" ∧ (parseMethodDescriptor (zeNam 163).desc).map (fun d => d.parameters.length) = some 1) := ⟨⟨by decide +kernel, (Or.inr (Or.inl ⟨rfl, rfl⟩))⟩, zeBT_of (k := 713) (by decide +kernel) rfl, zeBT_of (k := 1) (by decide +kernel) rfl, by decide +kernel, by decide +kernel, by decide +kernel⟩
theorem zcal_164 : zeMok 164 ∧ Cond.code (zeNam 164) (zeCod 164) (zeNl 164) (zeRt 164) ∈ zeBT ∧ Cond.initialized (zeNam 164).cls ∈ zeBT ∧ ((zeNam 164).cls ≠ "java/lang/invoke/MethodHandle" ∧ (zeNam 164).cls ≠ "java/lang/invoke/VarHandle" ∧ (parseMethodDescriptor (zeNam 164).desc).map (fun d => d.parameters.length) = some 1) := ⟨⟨by decide +kernel, (Or.inr (Or.inl ⟨rfl, rfl⟩))⟩, zeBT_of (k := 1266) (by decide +kernel) rfl, zeBT_of (k := 13) (by decide +kernel) rfl, by decide +kernel, by decide +kernel, by decide +kernel⟩
theorem zcal_165 : zeMok 165 ∧ Cond.code (zeNam 165) (zeCod 165) (zeNl 165) (zeRt 165) ∈ zeBT ∧ Cond.initialized (zeNam 165).cls ∈ zeBT ∧ ((zeNam 165).cls ≠ "java/lang/invoke/MethodHandle" ∧ (zeNam 165).cls ≠ "java/lang/invoke/VarHandle" ∧ (parseMethodDescriptor (zeNam 165).desc).map (fun d => d.parameters.length) = some 1) := ⟨⟨by decide +kernel, (Or.inr (Or.inl ⟨rfl, rfl⟩))⟩, zeBT_of (k := 1262) (by decide +kernel) rfl, zeBT_of (k := 13) (by decide +kernel) rfl, by decide +kernel, by decide +kernel, by decide +kernel⟩
theorem zcal_166 : zeMok 166 ∧ Cond.code (zeNam 166) (zeCod 166) (zeNl 166) (zeRt 166) ∈ zeBT ∧ Cond.initialized (zeNam 166).cls ∈ zeBT ∧ ((zeNam 166).cls ≠ "java/lang/invoke/MethodHandle" ∧ (zeNam 166).cls ≠ "java/lang/invoke/VarHandle" ∧ (parseMethodDescriptor (zeNam 166).desc).map (fun d => d.parameters.length) = some 1) := ⟨⟨by decide +kernel, (Or.inr (Or.inl ⟨rfl, rfl⟩))⟩, zeBT_of (k := 721) (by decide +kernel) rfl, zeBT_of (k := 1) (by decide +kernel) rfl, by decide +kernel, by decide +kernel, by decide +kernel⟩
theorem zcal_167 : zeMok 167 ∧ Cond.code (zeNam 167) (zeCod 167) (zeNl 167) (zeRt 167) ∈ zeBT ∧ Cond.initialized (zeNam 167).cls ∈ zeBT ∧ ((zeNam 167).cls ≠ "java/lang/invoke/MethodHandle" ∧ (zeNam 167).cls ≠ "java/lang/invoke/VarHandle" ∧ (parseMethodDescriptor (zeNam 167).desc).map (fun d => d.parameters.length) = some 1) := ⟨⟨by decide +kernel, (Or.inr (Or.inl ⟨rfl, rfl⟩))⟩, zeBT_of (k := 1270) (by decide +kernel) rfl, zeBT_of (k := 13) (by decide +kernel) rfl, by decide +kernel, by decide +kernel, by decide +kernel⟩
theorem zcal_168 : zeMok 168 ∧ Cond.code (zeNam 168) (zeCod 168) (zeNl 168) (zeRt 168) ∈ zeBT ∧ Cond.initialized (zeNam 168).cls ∈ zeBT ∧ ((zeNam 168).cls ≠ "java/lang/invoke/MethodHandle" ∧ (zeNam 168).cls ≠ "java/lang/invoke/VarHandle" ∧ (parseMethodDescriptor (zeNam 168).desc).map (fun d => d.parameters.length) = some 1) := ⟨⟨by decide +kernel, (Or.inr (Or.inl ⟨rfl, rfl⟩))⟩, zeBT_of (k := 729) (by decide +kernel) rfl, zeBT_of (k := 5) (by decide +kernel) rfl, by decide +kernel, by decide +kernel, by decide +kernel⟩
theorem zcal_169 : zeMok 169 ∧ Cond.code (zeNam 169) (zeCod 169) (zeNl 169) (zeRt 169) ∈ zeBT ∧ Cond.initialized (zeNam 169).cls ∈ zeBT ∧ ((zeNam 169).cls ≠ "java/lang/invoke/MethodHandle" ∧ (zeNam 169).cls ≠ "java/lang/invoke/VarHandle" ∧ (parseMethodDescriptor (zeNam 169).desc).map (fun d => d.parameters.length) = some 2) := ⟨⟨by decide +kernel, (Or.inr (Or.inl ⟨rfl, rfl⟩))⟩, zeBT_of (k := 725) (by decide +kernel) rfl, zeBT_of (k := 1) (by decide +kernel) rfl, by decide +kernel, by decide +kernel, by decide +kernel⟩
theorem zcal_170 : zeMok 170 ∧ Cond.code (zeNam 170) (zeCod 170) (zeNl 170) (zeRt 170) ∈ zeBT ∧ Cond.initialized (zeNam 170).cls ∈ zeBT ∧ ((zeNam 170).cls ≠ "java/lang/invoke/MethodHandle" ∧ (zeNam 170).cls ≠ "java/lang/invoke/VarHandle" ∧ (parseMethodDescriptor (zeNam 170).desc).map (fun d => d.parameters.length) = some 2) := ⟨⟨by decide +kernel, (Or.inr (Or.inr (Or.inl ⟨Or.inl rfl, rfl⟩)))⟩, zeBT_of (k := 1278) (by decide +kernel) rfl, zeBT_of (k := 13) (by decide +kernel) rfl, by decide +kernel, by decide +kernel, by decide +kernel⟩
theorem zcal_171 : zeMok 171 ∧ Cond.code (zeNam 171) (zeCod 171) (zeNl 171) (zeRt 171) ∈ zeBT ∧ Cond.initialized (zeNam 171).cls ∈ zeBT ∧ ((zeNam 171).cls ≠ "java/lang/invoke/MethodHandle" ∧ (zeNam 171).cls ≠ "java/lang/invoke/VarHandle" ∧ (parseMethodDescriptor (zeNam 171).desc).map (fun d => d.parameters.length) = some 2) := ⟨⟨by decide +kernel, (Or.inr (Or.inl ⟨rfl, rfl⟩))⟩, zeBT_of (k := 1274) (by decide +kernel) rfl, zeBT_of (k := 13) (by decide +kernel) rfl, by decide +kernel, by decide +kernel, by decide +kernel⟩
theorem zcal_172 : zeMok 172 ∧ Cond.code (zeNam 172) (zeCod 172) (zeNl 172) (zeRt 172) ∈ zeBT ∧ Cond.initialized (zeNam 172).cls ∈ zeBT ∧ ((zeNam 172).cls ≠ "java/lang/invoke/MethodHandle" ∧ (zeNam 172).cls ≠ "java/lang/invoke/VarHandle" ∧ (parseMethodDescriptor (zeNam 172).desc).map (fun d => d.parameters.length) = some 2) := ⟨⟨by decide +kernel, (Or.inr (Or.inl ⟨rfl, rfl⟩))⟩, zeBT_of (k := 733) (by decide +kernel) rfl, zeBT_of (k := 1) (by decide +kernel) rfl, by decide +kernel, by decide +kernel, by decide +kernel⟩
theorem zcal_173 : zeMok 173 ∧ Cond.code (zeNam 173) (zeCod 173) (zeNl 173) (zeRt 173) ∈ zeBT ∧ Cond.initialized (zeNam 173).cls ∈ zeBT ∧ ((zeNam 173).cls ≠ "java/lang/invoke/MethodHandle" ∧ (zeNam 173).cls ≠ "java/lang/invoke/VarHandle" ∧ (parseMethodDescriptor (zeNam 173).desc).map (fun d => d.parameters.length) = some 2) := ⟨⟨by decide +kernel, (Or.inr (Or.inl ⟨rfl, rfl⟩))⟩, zeBT_of (k := 1282) (by decide +kernel) rfl, zeBT_of (k := 13) (by decide +kernel) rfl, by decide +kernel, by decide +kernel, by decide +kernel⟩
theorem zcal_174 : zeMok 174 ∧ Cond.code (zeNam 174) (zeCod 174) (zeNl 174) (zeRt 174) ∈ zeBT ∧ Cond.initialized (zeNam 174).cls ∈ zeBT ∧ ((zeNam 174).cls ≠ "java/lang/invoke/MethodHandle" ∧ (zeNam 174).cls ≠ "java/lang/invoke/VarHandle" ∧ (parseMethodDescriptor (zeNam 174).desc).map (fun d => d.parameters.length) = some 0) := ⟨⟨by decide +kernel, (Or.inr (Or.inr (Or.inl ⟨Or.inl rfl, rfl⟩)))⟩, zeBT_of (k := 741) (by decide +kernel) rfl, zeBT_of (k := 1) (by decide +kernel) rfl, by decide +kernel, by decide +kernel, by decide +kernel⟩
theorem zcal_175 : zeMok 175 ∧ Cond.code (zeNam 175) (zeCod 175) (zeNl 175) (zeRt 175) ∈ zeBT ∧ Cond.initialized (zeNam 175).cls ∈ zeBT ∧ ((zeNam 175).cls ≠ "java/lang/invoke/MethodHandle" ∧ (zeNam 175).cls ≠ "java/lang/invoke/VarHandle" ∧ (parseMethodDescriptor (zeNam 175).desc).map (fun d => d.parameters.length) = some 0) := ⟨⟨by decide +kernel, (Or.inr (Or.inl ⟨rfl, rfl⟩))⟩, zeBT_of (k := 745) (by decide +kernel) rfl, zeBT_of (k := 1) (by decide +kernel) rfl, by decide +kernel, by decide +kernel, by decide +kernel⟩
theorem zcal_176 : zeMok 176 ∧ Cond.code (zeNam 176) (zeCod 176) (zeNl 176) (zeRt 176) ∈ zeBT ∧ Cond.initialized (zeNam 176).cls ∈ zeBT ∧ ((zeNam 176).cls ≠ "java/lang/invoke/MethodHandle" ∧ (zeNam 176).cls ≠ "java/lang/invoke/VarHandle" ∧ (parseMethodDescriptor (zeNam 176).desc).map (fun d => d.parameters.length) = some 0) := ⟨⟨by decide +kernel, (Or.inr (Or.inl ⟨rfl, rfl⟩))⟩, zeBT_of (k := 749) (by decide +kernel) rfl, zeBT_of (k := 1) (by decide +kernel) rfl, by decide +kernel, by decide +kernel, by decide +kernel⟩
theorem zcal_177 : zeMok 177 ∧ Cond.code (zeNam 177) (zeCod 177) (zeNl 177) (zeRt 177) ∈ zeBT ∧ Cond.initialized (zeNam 177).cls ∈ zeBT ∧ ((zeNam 177).cls ≠ "java/lang/invoke/MethodHandle" ∧ (zeNam 177).cls ≠ "java/lang/invoke/VarHandle" ∧ (parseMethodDescriptor (zeNam 177).desc).map (fun d => d.parameters.length) = some 1) := ⟨⟨by decide +kernel, (Or.inr (Or.inl ⟨rfl, rfl⟩))⟩, zeBT_of (k := 737) (by decide +kernel) rfl, zeBT_of (k := 1) (by decide +kernel) rfl, by decide +kernel, by decide +kernel, by decide +kernel⟩
theorem zcal_178 : zeMok 178 ∧ Cond.code (zeNam 178) (zeCod 178) (zeNl 178) (zeRt 178) ∈ zeBT ∧ Cond.initialized (zeNam 178).cls ∈ zeBT ∧ ((zeNam 178).cls ≠ "java/lang/invoke/MethodHandle" ∧ (zeNam 178).cls ≠ "java/lang/invoke/VarHandle" ∧ (parseMethodDescriptor (zeNam 178).desc).map (fun d => d.parameters.length) = some 0) := ⟨⟨by decide +kernel, (Or.inr (Or.inl ⟨rfl, rfl⟩))⟩, zeBT_of (k := 1290) (by decide +kernel) rfl, zeBT_of (k := 13) (by decide +kernel) rfl, by decide +kernel, by decide +kernel, by decide +kernel⟩
theorem zcal_179 : zeMok 179 ∧ Cond.code (zeNam 179) (zeCod 179) (zeNl 179) (zeRt 179) ∈ zeBT ∧ Cond.initialized (zeNam 179).cls ∈ zeBT ∧ ((zeNam 179).cls ≠ "java/lang/invoke/MethodHandle" ∧ (zeNam 179).cls ≠ "java/lang/invoke/VarHandle" ∧ (parseMethodDescriptor (zeNam 179).desc).map (fun d => d.parameters.length) = some 1) := ⟨⟨by decide +kernel, (Or.inr (Or.inl ⟨rfl, rfl⟩))⟩, zeBT_of (k := 1286) (by decide +kernel) rfl, zeBT_of (k := 13) (by decide +kernel) rfl, by decide +kernel, by decide +kernel, by decide +kernel⟩
theorem zcal_180 : zeMok 180 ∧ Cond.code (zeNam 180) (zeCod 180) (zeNl 180) (zeRt 180) ∈ zeBT ∧ Cond.initialized (zeNam 180).cls ∈ zeBT ∧ ((zeNam 180).cls ≠ "java/lang/invoke/MethodHandle" ∧ (zeNam 180).cls ≠ "java/lang/invoke/VarHandle" ∧ (parseMethodDescriptor (zeNam 180).desc).map (fun d => d.parameters.length) = some 3) := ⟨⟨by decide +kernel, (Or.inr (Or.inl ⟨rfl, rfl⟩))⟩, zeBT_of (k := 775) (by decide +kernel) rfl, zeBT_of (k := 17) (by decide +kernel) rfl, by decide +kernel, by decide +kernel, by decide +kernel⟩
theorem zcal_181 : zeMok 181 ∧ Cond.code (zeNam 181) (zeCod 181) (zeNl 181) (zeRt 181) ∈ zeBT ∧ Cond.initialized (zeNam 181).cls ∈ zeBT ∧ ((zeNam 181).cls ≠ "java/lang/invoke/MethodHandle" ∧ (zeNam 181).cls ≠ "java/lang/invoke/VarHandle" ∧ (parseMethodDescriptor (zeNam 181).desc).map (fun d => d.parameters.length) = some 1) := ⟨⟨by decide +kernel, (Or.inr (Or.inl ⟨rfl, rfl⟩))⟩, zeBT_of (k := 772) (by decide +kernel) rfl, zeBT_of (k := 9) (by decide +kernel) rfl, by decide +kernel, by decide +kernel, by decide +kernel⟩
theorem zcal_182 : zeMok 182 ∧ Cond.code (zeNam 182) (zeCod 182) (zeNl 182) (zeRt 182) ∈ zeBT ∧ Cond.initialized (zeNam 182).cls ∈ zeBT ∧ ((zeNam 182).cls ≠ "java/lang/invoke/MethodHandle" ∧ (zeNam 182).cls ≠ "java/lang/invoke/VarHandle" ∧ (parseMethodDescriptor (zeNam 182).desc).map (fun d => d.parameters.length) = some 2) := ⟨⟨by decide +kernel, (Or.inr (Or.inr (Or.inr ⟨Or.inr ⟨_, rfl⟩, rfl⟩)))⟩, zeBT_of (k := 784) (by decide +kernel) rfl, zeBT_of (k := 18) (by decide +kernel) rfl, by decide +kernel, by decide +kernel, by decide +kernel⟩
theorem zcal_183 : zeMok 183 ∧ Cond.code (zeNam 183) (zeCod 183) (zeNl 183) (zeRt 183) ∈ zeBT ∧ Cond.initialized (zeNam 183).cls ∈ zeBT ∧ ((zeNam 183).cls ≠ "java/lang/invoke/MethodHandle" ∧ (zeNam 183).cls ≠ "java/lang/invoke/VarHandle" ∧ (parseMethodDescriptor (zeNam 183).desc).map (fun d => d.parameters.length) = some 1) := ⟨⟨by decide +kernel, (Or.inl ⟨rfl, rfl⟩)⟩, zeBT_of (k := 768) (by decide +kernel) rfl, zeBT_of (k := 9) (by decide +kernel) rfl, by decide +kernel, by decide +kernel, by decide +kernel⟩
theorem zcal_184 : zeMok 184 ∧ Cond.code (zeNam 184) (zeCod 184) (zeNl 184) (zeRt 184) ∈ zeBT ∧ Cond.initialized (zeNam 184).cls ∈ zeBT ∧ ((zeNam 184).cls ≠ "java/lang/invoke/MethodHandle" ∧ (zeNam 184).cls ≠ "java/lang/invoke/VarHandle" ∧ (parseMethodDescriptor (zeNam 184).desc).map (fun d => d.parameters.length) = some 0) := ⟨⟨by decide +kernel, (Or.inr (Or.inr (Or.inl ⟨Or.inl rfl, rfl⟩)))⟩, zeBT_of (k := 798) (by decide +kernel) rfl, zeBT_of (k := 9) (by decide +kernel) rfl, by decide +kernel, by decide +kernel, by decide +kernel⟩
theorem zcal_185 : zeMok 185 ∧ Cond.code (zeNam 185) (zeCod 185) (zeNl 185) (zeRt 185) ∈ zeBT ∧ Cond.initialized (zeNam 185).cls ∈ zeBT ∧ ((zeNam 185).cls ≠ "java/lang/invoke/MethodHandle" ∧ (zeNam 185).cls ≠ "java/lang/invoke/VarHandle" ∧ (parseMethodDescriptor (zeNam 185).desc).map (fun d => d.parameters.length) = some 1) := ⟨⟨by decide +kernel, (Or.inl ⟨rfl, rfl⟩)⟩, zeBT_of (k := 764) (by decide +kernel) rfl, zeBT_of (k := 9) (by decide +kernel) rfl, by decide +kernel, by decide +kernel, by decide +kernel⟩
theorem zcal_186 : zeMok 186 ∧ Cond.code (zeNam 186) (zeCod 186) (zeNl 186) (zeRt 186) ∈ zeBT ∧ Cond.initialized (zeNam 186).cls ∈ zeBT ∧ ((zeNam 186).cls ≠ "java/lang/invoke/MethodHandle" ∧ (zeNam 186).cls ≠ "java/lang/invoke/VarHandle" ∧ (parseMethodDescriptor (zeNam 186).desc).map (fun d => d.parameters.length) = some 1) := ⟨⟨by decide +kernel, (Or.inl ⟨rfl, rfl⟩)⟩, zeBT_of (k := 761) (by decide +kernel) rfl, zeBT_of (k := 10) (by decide +kernel) rfl, by decide +kernel, by decide +kernel, by decide +kernel⟩
theorem zcal_187 : zeMok 187 ∧ Cond.code (zeNam 187) (zeCod 187) (zeNl 187) (zeRt 187) ∈ zeBT ∧ Cond.initialized (zeNam 187).cls ∈ zeBT ∧ ((zeNam 187).cls ≠ "java/lang/invoke/MethodHandle" ∧ (zeNam 187).cls ≠ "java/lang/invoke/VarHandle" ∧ (parseMethodDescriptor (zeNam 187).desc).map (fun d => d.parameters.length) = some 0) := ⟨⟨by decide +kernel, (Or.inr (Or.inr (Or.inl ⟨Or.inr (Or.inr rfl), rfl⟩)))⟩, zeBT_of (k := 857) (by decide +kernel) rfl, zeBT_of (k := 11) (by decide +kernel) rfl, by decide +kernel, by decide +kernel, by decide +kernel⟩
theorem zcal_188 : zeMok 188 ∧ Cond.code (zeNam 188) (zeCod 188) (zeNl 188) (zeRt 188) ∈ zeBT ∧ Cond.initialized (zeNam 188).cls ∈ zeBT ∧ ((zeNam 188).cls ≠ "java/lang/invoke/MethodHandle" ∧ (zeNam 188).cls ≠ "java/lang/invoke/VarHandle" ∧ (parseMethodDescriptor (zeNam 188).desc).map (fun d => d.parameters.length) = some 0) := ⟨⟨by decide +kernel, (Or.inr (Or.inl ⟨rfl, rfl⟩))⟩, zeBT_of (k := 853) (by decide +kernel) rfl, zeBT_of (k := 11) (by decide +kernel) rfl, by decide +kernel, by decide +kernel, by decide +kernel⟩
theorem zcal_189 : zeMok 189 ∧ Cond.code (zeNam 189) (zeCod 189) (zeNl 189) (zeRt 189) ∈ zeBT ∧ Cond.initialized (zeNam 189).cls ∈ zeBT ∧ ((zeNam 189).cls ≠ "java/lang/invoke/MethodHandle" ∧ (zeNam 189).cls ≠ "java/lang/invoke/VarHandle" ∧ (parseMethodDescriptor (zeNam 189).desc).map (fun d => d.parameters.length) = some 1) := ⟨⟨by decide +kernel, (Or.inl ⟨rfl, rfl⟩)⟩, zeBT_of (k := 866) (by decide +kernel) rfl, zeBT_of (k := 9) (by decide +kernel) rfl, by decide +kernel, by decide +kernel, by decide +kernel⟩
theorem zcal_190 : zeMok 190 ∧ Cond.code (zeNam 190) (zeCod 190) (zeNl 190) (zeRt 190) ∈ zeBT ∧ Cond.initialized (zeNam 190).cls ∈ zeBT ∧ ((zeNam 190).cls ≠ "java/lang/invoke/MethodHandle" ∧ (zeNam 190).cls ≠ "java/lang/invoke/VarHandle" ∧ (parseMethodDescriptor (zeNam 190).desc).map (fun d => d.parameters.length) = some 3) := ⟨⟨by decide +kernel, (Or.inl ⟨rfl, rfl⟩)⟩, zeBT_of (k := 890) (by decide +kernel) rfl, zeBT_of (k := 11) (by decide +kernel) rfl, by decide +kernel, by decide +kernel, by decide +kernel⟩
theorem zcal_191 : zeMok 191 ∧ Cond.code (zeNam 191) (zeCod 191) (zeNl 191) (zeRt 191) ∈ zeBT ∧ Cond.initialized (zeNam 191).cls ∈ zeBT ∧ ((zeNam 191).cls ≠ "java/lang/invoke/MethodHandle" ∧ (zeNam 191).cls ≠ "java/lang/invoke/VarHandle" ∧ (parseMethodDescriptor (zeNam 191).desc).map (fun d => d.parameters.length) = some 2) := ⟨⟨by decide +kernel, (Or.inl ⟨rfl, rfl⟩)⟩, zeBT_of (k := 862) (by decide +kernel) rfl, zeBT_of (k := 9) (by decide +kernel) rfl, by decide +kernel, by decide +kernel, by decide +kernel⟩
theorem zcal_192 : zeMok 192 ∧ Cond.code (zeNam 192) (zeCod 192) (zeNl 192) (zeRt 192) ∈ zeBT ∧ Cond.initialized (zeNam 192).cls ∈ zeBT ∧ ((zeNam 192).cls ≠ "java/lang/invoke/MethodHandle" ∧ (zeNam 192).cls ≠ "java/lang/invoke/VarHandle" ∧ (parseMethodDescriptor (zeNam 192).desc).map (fun d => d.parameters.length) = some 1) := ⟨⟨by decide +kernel, (Or.inr (Or.inr (Or.inr ⟨Or.inl ⟨_, rfl⟩, rfl⟩)))⟩, zeBT_of (k := 819) (by decide +kernel) rfl, zeBT_of (k := 9) (by decide +kernel) rfl, by decide +kernel, by decide +kernel, by decide +kernel⟩
theorem zcal_193 : zeMok 193 ∧ Cond.code (zeNam 193) (zeCod 193) (zeNl 193) (zeRt 193) ∈ zeBT ∧ Cond.initialized (zeNam 193).cls ∈ zeBT ∧ ((zeNam 193).cls ≠ "java/lang/invoke/MethodHandle" ∧ (zeNam 193).cls ≠ "java/lang/invoke/VarHandle" ∧ (parseMethodDescriptor (zeNam 193).desc).map (fun d => d.parameters.length) = some 1) := ⟨⟨by decide +kernel, (Or.inr (Or.inr (Or.inr ⟨Or.inl ⟨_, rfl⟩, rfl⟩)))⟩, zeBT_of (k := 816) (by decide +kernel) rfl, zeBT_of (k := 10) (by decide +kernel) rfl, by decide +kernel, by decide +kernel, by decide +kernel⟩
theorem zcal_194 : zeMok 194 ∧ Cond.code (zeNam 194) (zeCod 194) (zeNl 194) (zeRt 194) ∈ zeBT ∧ Cond.initialized (zeNam 194).cls ∈ zeBT ∧ ((zeNam 194).cls ≠ "java/lang/invoke/MethodHandle" ∧ (zeNam 194).cls ≠ "java/lang/invoke/VarHandle" ∧ (parseMethodDescriptor (zeNam 194).desc).map (fun d => d.parameters.length) = some 1) := ⟨⟨by decide +kernel, (Or.inr (Or.inl ⟨rfl, rfl⟩))⟩, zeBT_of (k := 902) (by decide +kernel) rfl, zeBT_of (k := 15) (by decide +kernel) rfl, by decide +kernel, by decide +kernel, by decide +kernel⟩
theorem zcal_195 : zeMok 195 ∧ Cond.code (zeNam 195) (zeCod 195) (zeNl 195) (zeRt 195) ∈ zeBT ∧ Cond.initialized (zeNam 195).cls ∈ zeBT ∧ ((zeNam 195).cls ≠ "java/lang/invoke/MethodHandle" ∧ (zeNam 195).cls ≠ "java/lang/invoke/VarHandle" ∧ (parseMethodDescriptor (zeNam 195).desc).map (fun d => d.parameters.length) = some 3) := ⟨⟨by decide +kernel, (Or.inr (Or.inl ⟨rfl, rfl⟩))⟩, zeBT_of (k := 905) (by decide +kernel) rfl, zeBT_of (k := 15) (by decide +kernel) rfl, by decide +kernel, by decide +kernel, by decide +kernel⟩
theorem zcal_196 : zeMok 196 ∧ Cond.code (zeNam 196) (zeCod 196) (zeNl 196) (zeRt 196) ∈ zeBT ∧ Cond.initialized (zeNam 196).cls ∈ zeBT ∧ ((zeNam 196).cls ≠ "java/lang/invoke/MethodHandle" ∧ (zeNam 196).cls ≠ "java/lang/invoke/VarHandle" ∧ (parseMethodDescriptor (zeNam 196).desc).map (fun d => d.parameters.length) = some 1) := ⟨⟨by decide +kernel, (Or.inr (Or.inr (Or.inr ⟨Or.inl ⟨_, rfl⟩, rfl⟩)))⟩, zeBT_of (k := 899) (by decide +kernel) rfl, zeBT_of (k := 9) (by decide +kernel) rfl, by decide +kernel, by decide +kernel, by decide +kernel⟩
theorem zcal_197 : zeMok 197 ∧ Cond.code (zeNam 197) (zeCod 197) (zeNl 197) (zeRt 197) ∈ zeBT ∧ Cond.initialized (zeNam 197).cls ∈ zeBT ∧ ((zeNam 197).cls ≠ "java/lang/invoke/MethodHandle" ∧ (zeNam 197).cls ≠ "java/lang/invoke/VarHandle" ∧ (parseMethodDescriptor (zeNam 197).desc).map (fun d => d.parameters.length) = some 1) := ⟨⟨by decide +kernel, (Or.inr (Or.inr (Or.inr ⟨Or.inl ⟨_, rfl⟩, rfl⟩)))⟩, zeBT_of (k := 896) (by decide +kernel) rfl, zeBT_of (k := 10) (by decide +kernel) rfl, by decide +kernel, by decide +kernel, by decide +kernel⟩
theorem zcal_198 : zeMok 198 ∧ Cond.code (zeNam 198) (zeCod 198) (zeNl 198) (zeRt 198) ∈ zeBT ∧ Cond.initialized (zeNam 198).cls ∈ zeBT ∧ ((zeNam 198).cls ≠ "java/lang/invoke/MethodHandle" ∧ (zeNam 198).cls ≠ "java/lang/invoke/VarHandle" ∧ (parseMethodDescriptor (zeNam 198).desc).map (fun d => d.parameters.length) = some 1) := ⟨⟨by decide +kernel, (Or.inr (Or.inr (Or.inl ⟨Or.inl rfl, rfl⟩)))⟩, zeBT_of (k := 928) (by decide +kernel) rfl, zeBT_of (k := 19) (by decide +kernel) rfl, by decide +kernel, by decide +kernel, by decide +kernel⟩
theorem zcal_199 : zeMok 199 ∧ Cond.code (zeNam 199) (zeCod 199) (zeNl 199) (zeRt 199) ∈ zeBT ∧ Cond.initialized (zeNam 199).cls ∈ zeBT ∧ ((zeNam 199).cls ≠ "java/lang/invoke/MethodHandle" ∧ (zeNam 199).cls ≠ "java/lang/invoke/VarHandle" ∧ (parseMethodDescriptor (zeNam 199).desc).map (fun d => d.parameters.length) = some 1) := ⟨⟨by decide +kernel, (Or.inr (Or.inr (Or.inr ⟨Or.inl ⟨_, rfl⟩, rfl⟩)))⟩, zeBT_of (k := 925) (by decide +kernel) rfl, zeBT_of (k := 9) (by decide +kernel) rfl, by decide +kernel, by decide +kernel, by decide +kernel⟩
theorem zcal_200 : zeMok 200 ∧ Cond.code (zeNam 200) (zeCod 200) (zeNl 200) (zeRt 200) ∈ zeBT ∧ Cond.initialized (zeNam 200).cls ∈ zeBT ∧ ((zeNam 200).cls ≠ "java/lang/invoke/MethodHandle" ∧ (zeNam 200).cls ≠ "java/lang/invoke/VarHandle" ∧ (parseMethodDescriptor (zeNam 200).desc).map (fun d => d.parameters.length) = some 1) := ⟨⟨by decide +kernel, (Or.inr (Or.inr (Or.inr ⟨Or.inl ⟨_, rfl⟩, rfl⟩)))⟩, zeBT_of (k := 922) (by decide +kernel) rfl, zeBT_of (k := 10) (by decide +kernel) rfl, by decide +kernel, by decide +kernel, by decide +kernel⟩
theorem zcal_201 : zeMok 201 ∧ Cond.code (zeNam 201) (zeCod 201) (zeNl 201) (zeRt 201) ∈ zeBT ∧ Cond.initialized (zeNam 201).cls ∈ zeBT ∧ ((zeNam 201).cls ≠ "java/lang/invoke/MethodHandle" ∧ (zeNam 201).cls ≠ "java/lang/invoke/VarHandle" ∧ (parseMethodDescriptor (zeNam 201).desc).map (fun d => d.parameters.length) = some 0) := ⟨⟨by decide +kernel, (Or.inl ⟨rfl, rfl⟩)⟩, zeBT_of (k := 757) (by decide +kernel) rfl, zeBT_of (k := 1) (by decide +kernel) rfl, by decide +kernel, by decide +kernel, by decide +kernel⟩
theorem zcal_202 : zeMok 202 ∧ Cond.code (zeNam 202) (zeCod 202) (zeNl 202) (zeRt 202) ∈ zeBT ∧ Cond.initialized (zeNam 202).cls ∈ zeBT ∧ ((zeNam 202).cls ≠ "java/lang/invoke/MethodHandle" ∧ (zeNam 202).cls ≠ "java/lang/invoke/VarHandle" ∧ (parseMethodDescriptor (zeNam 202).desc).map (fun d => d.parameters.length) = some 0) := ⟨⟨by decide +kernel, (Or.inr (Or.inl ⟨rfl, rfl⟩))⟩, zeBT_of (k := 947) (by decide +kernel) rfl, zeBT_of (k := 9) (by decide +kernel) rfl, by decide +kernel, by decide +kernel, by decide +kernel⟩
theorem zcal_203 : zeMok 203 ∧ Cond.code (zeNam 203) (zeCod 203) (zeNl 203) (zeRt 203) ∈ zeBT ∧ Cond.initialized (zeNam 203).cls ∈ zeBT ∧ ((zeNam 203).cls ≠ "java/lang/invoke/MethodHandle" ∧ (zeNam 203).cls ≠ "java/lang/invoke/VarHandle" ∧ (parseMethodDescriptor (zeNam 203).desc).map (fun d => d.parameters.length) = some 0) := ⟨⟨by decide +kernel, (Or.inr (Or.inl ⟨rfl, rfl⟩))⟩, zeBT_of (k := 944) (by decide +kernel) rfl, zeBT_of (k := 10) (by decide +kernel) rfl, by decide +kernel, by decide +kernel, by decide +kernel⟩
theorem zcal_204 : zeMok 204 ∧ Cond.code (zeNam 204) (zeCod 204) (zeNl 204) (zeRt 204) ∈ zeBT ∧ Cond.initialized (zeNam 204).cls ∈ zeBT ∧ ((zeNam 204).cls ≠ "java/lang/invoke/MethodHandle" ∧ (zeNam 204).cls ≠ "java/lang/invoke/VarHandle" ∧ (parseMethodDescriptor (zeNam 204).desc).map (fun d => d.parameters.length) = some 3) := ⟨⟨by decide +kernel, (Or.inr (Or.inl ⟨rfl, rfl⟩))⟩, zeBT_of (k := 940) (by decide +kernel) rfl, zeBT_of (k := 20) (by decide +kernel) rfl, by decide +kernel, by decide +kernel, by decide +kernel⟩
theorem zcal_205 : zeMok 205 ∧ Cond.code (zeNam 205) (zeCod 205) (zeNl 205) (zeRt 205) ∈ zeBT ∧ Cond.initialized (zeNam 205).cls ∈ zeBT ∧ ((zeNam 205).cls ≠ "java/lang/invoke/MethodHandle" ∧ (zeNam 205).cls ≠ "java/lang/invoke/VarHandle" ∧ (parseMethodDescriptor (zeNam 205).desc).map (fun d => d.parameters.length) = some 2) := ⟨⟨by decide +kernel, (Or.inl ⟨rfl, rfl⟩)⟩, zeBT_of (k := 937) (by decide +kernel) rfl, zeBT_of (k := 11) (by decide +kernel) rfl, by decide +kernel, by decide +kernel, by decide +kernel⟩
theorem zcal_206 : zeMok 206 ∧ Cond.code (zeNam 206) (zeCod 206) (zeNl 206) (zeRt 206) ∈ zeBT ∧ Cond.initialized (zeNam 206).cls ∈ zeBT ∧ ((zeNam 206).cls ≠ "java/lang/invoke/MethodHandle" ∧ (zeNam 206).cls ≠ "java/lang/invoke/VarHandle" ∧ (parseMethodDescriptor (zeNam 206).desc).map (fun d => d.parameters.length) = some 1) := ⟨⟨by decide +kernel, (Or.inr (Or.inr (Or.inl ⟨Or.inr (Or.inl rfl), rfl⟩)))⟩, zeBT_of (k := 954) (by decide +kernel) rfl, zeBT_of (k := 9) (by decide +kernel) rfl, by decide +kernel, by decide +kernel, by decide +kernel⟩
theorem zcal_207 : zeMok 207 ∧ Cond.code (zeNam 207) (zeCod 207) (zeNl 207) (zeRt 207) ∈ zeBT ∧ Cond.initialized (zeNam 207).cls ∈ zeBT ∧ ((zeNam 207).cls ≠ "java/lang/invoke/MethodHandle" ∧ (zeNam 207).cls ≠ "java/lang/invoke/VarHandle" ∧ (parseMethodDescriptor (zeNam 207).desc).map (fun d => d.parameters.length) = some 1) := ⟨⟨by decide +kernel, (Or.inr (Or.inr (Or.inl ⟨Or.inr (Or.inl rfl), rfl⟩)))⟩, zeBT_of (k := 951) (by decide +kernel) rfl, zeBT_of (k := 10) (by decide +kernel) rfl, by decide +kernel, by decide +kernel, by decide +kernel⟩
theorem zcal_208 : zeMok 208 ∧ Cond.code (zeNam 208) (zeCod 208) (zeNl 208) (zeRt 208) ∈ zeBT ∧ Cond.initialized (zeNam 208).cls ∈ zeBT ∧ ((zeNam 208).cls ≠ "java/lang/invoke/MethodHandle" ∧ (zeNam 208).cls ≠ "java/lang/invoke/VarHandle" ∧ (parseMethodDescriptor (zeNam 208).desc).map (fun d => d.parameters.length) = some 1) := ⟨⟨by decide +kernel, (Or.inr (Or.inl ⟨rfl, rfl⟩))⟩, zeBT_of (k := 753) (by decide +kernel) rfl, zeBT_of (k := 1) (by decide +kernel) rfl, by decide +kernel, by decide +kernel, by decide +kernel⟩
theorem zcal_209 : zeMok 209 ∧ Cond.code (zeNam 209) (zeCod 209) (zeNl 209) (zeRt 209) ∈ zeBT ∧ Cond.initialized (zeNam 209).cls ∈ zeBT ∧ ((zeNam 209).cls ≠ "java/lang/invoke/MethodHandle" ∧ (zeNam 209).cls ≠ "java/lang/invoke/VarHandle" ∧ (parseMethodDescriptor (zeNam 209).desc).map (fun d => d.parameters.length) = some 1) := ⟨⟨by decide +kernel, (Or.inl ⟨rfl, rfl⟩)⟩, zeBT_of (k := 1298) (by decide +kernel) rfl, zeBT_of (k := 13) (by decide +kernel) rfl, by decide +kernel, by decide +kernel, by decide +kernel⟩
theorem zcal_210 : zeMok 210 ∧ Cond.code (zeNam 210) (zeCod 210) (zeNl 210) (zeRt 210) ∈ zeBT ∧ Cond.initialized (zeNam 210).cls ∈ zeBT ∧ ((zeNam 210).cls ≠ "java/lang/invoke/MethodHandle" ∧ (zeNam 210).cls ≠ "java/lang/invoke/VarHandle" ∧ (parseMethodDescriptor (zeNam 210).desc).map (fun d => d.parameters.length) = some 1) := ⟨⟨by decide +kernel, (Or.inl ⟨rfl, rfl⟩)⟩, zeBT_of (k := 1302) (by decide +kernel) rfl, zeBT_of (k := 13) (by decide +kernel) rfl, by decide +kernel, by decide +kernel, by decide +kernel⟩
theorem zcal_211 : zeMok 211 ∧ Cond.code (zeNam 211) (zeCod 211) (zeNl 211) (zeRt 211) ∈ zeBT ∧ Cond.initialized (zeNam 211).cls ∈ zeBT ∧ ((zeNam 211).cls ≠ "java/lang/invoke/MethodHandle" ∧ (zeNam 211).cls ≠ "java/lang/invoke/VarHandle" ∧ (parseMethodDescriptor (zeNam 211).desc).map (fun d => d.parameters.length) = some 1) := ⟨⟨by decide +kernel, (Or.inr (Or.inl ⟨rfl, rfl⟩))⟩, zeBT_of (k := 1294) (by decide +kernel) rfl, zeBT_of (k := 13) (by decide +kernel) rfl, by decide +kernel, by decide +kernel, by decide +kernel⟩
end
section
/-! the ops of the methods, sound (by program): X3_init, X0_init, X2_init, X6_init, X4_init, X1_init, X5_init, J5_init_d00df, J4_init_da8c8, X7_init, X8_init, X3_copyFrom, X0_copyFrom, X2_copyFrom, X6_copyFrom, X1_prepare, X7_isBeforeFirstPick, X7_refused, X7_doAddPlayer, X7_isError, X1_commit, X7_recorded, X7_addPlayer, X8_hasBegun, X8_refuse, X8_record, X8_addPlayer, X7_isClue, X7_bitOf -/
theorem zo_0 : (zeNam 0).cls = "WagerQuiz$PickedClue" := rfl
theorem zg_0 : zeLg 0 = false := rfl
def zt_0 : Nat → Option zeOp := (zeNd 13 (zeNd 5 (zeNd 1 (zeLf 0 (some (zoAl 0 1)) none) (zeNd 4 (zeLf 1 (some (zoObj 4)) none) (zeLf 4 (some (zoAl 0 5)) none))) (zeNd 9 (zeNd 7 (zeLf 5 (some (zoIc 6 7)) none) (zeLf 7 (some (zoNewa 40 9)) none)) (zeNd 12 (zeLf 9 (some (zoPr 3 5 12)) none) (zeLf 12 (some (zoAl 0 13)) none)))) (zeNd 21 (zeNd 17 (zeNd 15 (zeLf 13 (some (zoIc 6 15)) none) (zeLf 15 (some (zoNewa 41 17)) none)) (zeNd 20 (zeLf 17 (some (zoPr 3 6 20)) none) (zeLf 20 (some (zoAl 0 21)) none))) (zeNd 25 (zeNd 23 (zeLf 21 (some (zoIc 6 23)) none) (zeLf 23 (some (zoNewa 41 25)) none)) (zeNd 28 (zeLf 25 (some (zoPr 3 7 28)) none) (zeLf 28 (some (zoRetV)) none)))))
set_option maxRecDepth 20000 in
theorem zt_0_ok (G : zeG) : ∀ x op, zt_0 x = some op → zeSnd G 0 x op := (zeNd_ok (zeNd_ok (zeNd_ok (zeLf_ok (zs_aload_n (f := 0) (by decide +kernel) rfl rfl)) (zeNd_ok (zeLf_ok (zs_obj zo_0 zm_40 zm_27 zm_objcode (by decide) (by decide) (by decide +kernel) rfl)) (zeLf_ok (zs_aload_n (f := 0) (by decide +kernel) rfl rfl)))) (zeNd_ok (zeNd_ok (zeLf_ok (zs_bipush (c := 6) (by decide +kernel) (by decide) rfl)) (zeLf_ok (zs_na_int zm_70 (by decide +kernel) rfl))) (zeNd_ok (zeLf_ok (zs_pr (zeFd_of zo_0 zk_3 (by decide) zm_49 rfl (Or.inr ⟨rfl, rfl, rfl⟩)) rfl (fun _ => ⟨rfl, rfl⟩) (by decide +kernel) rfl)) (zeLf_ok (zs_aload_n (f := 0) (by decide +kernel) rfl rfl))))) (zeNd_ok (zeNd_ok (zeNd_ok (zeLf_ok (zs_bipush (c := 6) (by decide +kernel) (by decide) rfl)) (zeLf_ok (zs_na_long zm_71 (by decide +kernel) rfl))) (zeNd_ok (zeLf_ok (zs_pr (zeFd_of zo_0 zk_3 (by decide) zm_51 rfl (Or.inr ⟨rfl, rfl, rfl⟩)) rfl (fun _ => ⟨rfl, rfl⟩) (by decide +kernel) rfl)) (zeLf_ok (zs_aload_n (f := 0) (by decide +kernel) rfl rfl)))) (zeNd_ok (zeNd_ok (zeLf_ok (zs_bipush (c := 6) (by decide +kernel) (by decide) rfl)) (zeLf_ok (zs_na_long zm_71 (by decide +kernel) rfl))) (zeNd_ok (zeLf_ok (zs_pr (zeFd_of zo_0 zk_3 (by decide) zm_52 rfl (Or.inr ⟨rfl, rfl, rfl⟩)) rfl (fun _ => ⟨rfl, rfl⟩) (by decide +kernel) rfl)) (zeLf_ok (zs_return rfl (by decide +kernel)))))))
theorem zo_1 : (zeNam 1).cls = "WagerQuiz$FinalRound" := rfl
theorem zg_1 : zeLg 1 = false := rfl
def zt_1 : Nat → Option zeOp := (zeNd 21 (zeNd 9 (zeNd 4 (zeNd 1 (zeLf 0 (some (zoAl 0 1)) none) (zeLf 1 (some (zoObj 4)) none)) (zeNd 5 (zeLf 4 (some (zoAl 0 5)) none) (zeNd 7 (zeLf 5 (some (zoIc 6 7)) none) (zeLf 7 (some (zoNewa 40 9)) none)))) (zeNd 15 (zeNd 12 (zeLf 9 (some (zoPr 0 1 12)) none) (zeNd 13 (zeLf 12 (some (zoAl 0 13)) none) (zeLf 13 (some (zoIc 6 15)) none))) (zeNd 17 (zeLf 15 (some (zoNewa 40 17)) none) (zeNd 20 (zeLf 17 (some (zoPr 0 2 20)) none) (zeLf 20 (some (zoIc 0 21)) none))))) (zeNd 32 (zeNd 25 (zeNd 22 (zeLf 21 (some (zoIs 1 22)) none) (zeNd 23 (zeLf 22 (some (zoIl 1 23)) none) (zeLf 23 (some (zoIc 6 25)) none))) (zeNd 28 (zeLf 25 (some (zoCge 42 28)) none) (zeNd 29 (zeLf 28 (some (zoAl 0 29)) none) (zeLf 29 (some (zoGr 0 2 32)) none)))) (zeNd 36 (zeNd 33 (zeLf 32 (some (zoIl 1 33)) none) (zeNd 35 (zeLf 33 (some (zoIc (-10000005) 35)) none) (zeLf 35 (some (zoSt 40 36)) none))) (zeNd 39 (zeLf 36 (some (zoInc 1 1 39)) none) (zeNd 42 (zeLf 39 (some (zoGo 22)) none) (zeLf 42 (some (zoRetV)) none))))))
set_option maxRecDepth 20000 in
theorem zt_1_ok (G : zeG) : ∀ x op, zt_1 x = some op → zeSnd G 1 x op := (zeNd_ok (zeNd_ok (zeNd_ok (zeNd_ok (zeLf_ok (zs_aload_n (f := 0) (by decide +kernel) rfl rfl)) (zeLf_ok (zs_obj zo_1 zm_77 zm_27 zm_objcode (by decide) (by decide) (by decide +kernel) rfl))) (zeNd_ok (zeLf_ok (zs_aload_n (f := 0) (by decide +kernel) rfl rfl)) (zeNd_ok (zeLf_ok (zs_bipush (c := 6) (by decide +kernel) (by decide) rfl)) (zeLf_ok (zs_na_int zm_70 (by decide +kernel) rfl))))) (zeNd_ok (zeNd_ok (zeLf_ok (zs_pr (zeFd_of zo_1 zk_0 (by decide) zm_81 rfl (Or.inr ⟨rfl, rfl, rfl⟩)) rfl (fun _ => ⟨rfl, rfl⟩) (by decide +kernel) rfl)) (zeNd_ok (zeLf_ok (zs_aload_n (f := 0) (by decide +kernel) rfl rfl)) (zeLf_ok (zs_bipush (c := 6) (by decide +kernel) (by decide) rfl)))) (zeNd_ok (zeLf_ok (zs_na_int zm_70 (by decide +kernel) rfl)) (zeNd_ok (zeLf_ok (zs_pr (zeFd_of zo_1 zk_0 (by decide) zm_83 rfl (Or.inr ⟨rfl, rfl, rfl⟩)) rfl (fun _ => ⟨rfl, rfl⟩) (by decide +kernel) rfl)) (zeLf_ok (zs_iconst (c := 0) (by decide +kernel) (by decide) rfl)))))) (zeNd_ok (zeNd_ok (zeNd_ok (zeLf_ok (zs_istore_n (f := 1) zg_1 (by decide) (by decide +kernel) rfl rfl)) (zeNd_ok (zeLf_ok (zs_iload_n (f := 1) (by decide +kernel) rfl rfl)) (zeLf_ok (zs_bipush (c := 6) (by decide +kernel) (by decide) rfl)))) (zeNd_ok (zeLf_ok (zs_icmp_ge (off := 17) (by decide +kernel) (by decide) rfl)) (zeNd_ok (zeLf_ok (zs_aload_n (f := 0) (by decide +kernel) rfl rfl)) (zeLf_ok (zs_gr zo_1 zc_0 zin_0 (by decide) rfl zm_83 rfl (by decide +kernel) rfl))))) (zeNd_ok (zeNd_ok (zeLf_ok (zs_iload_n (f := 1) (by decide +kernel) rfl rfl)) (zeNd_ok (zeLf_ok (zs_ldc zo_1 zm_78 (by decide +kernel) rfl)) (zeLf_ok (zs_iastore (by decide +kernel) rfl)))) (zeNd_ok (zeLf_ok (zs_iinc (c := 1) zg_1 (by decide) (by decide +kernel) (by decide) rfl)) (zeNd_ok (zeLf_ok (zs_goto (off := (-17)) (by decide +kernel) (by decide))) (zeLf_ok (zs_return rfl (by decide +kernel))))))))
theorem zo_2 : (zeNam 2).cls = "WagerQuiz$Log" := rfl
theorem zg_2 : zeLg 2 = false := rfl
def zt_2 : Nat → Option zeOp := (zeNd 21 (zeNd 9 (zeNd 4 (zeNd 1 (zeLf 0 (some (zoAl 0 1)) none) (zeLf 1 (some (zoObj 4)) none)) (zeNd 5 (zeLf 4 (some (zoAl 0 5)) none) (zeNd 7 (zeLf 5 (some (zoIc 60 7)) none) (zeLf 7 (some (zoNewa 40 9)) none)))) (zeNd 15 (zeNd 12 (zeLf 9 (some (zoPr 2 1 12)) none) (zeNd 13 (zeLf 12 (some (zoAl 0 13)) none) (zeLf 13 (some (zoIc 60 15)) none))) (zeNd 17 (zeLf 15 (some (zoNewa 40 17)) none) (zeNd 20 (zeLf 17 (some (zoPr 2 2 20)) none) (zeLf 20 (some (zoAl 0 21)) none))))) (zeNd 33 (zeNd 28 (zeNd 23 (zeLf 21 (some (zoIc 60 23)) none) (zeNd 25 (zeLf 23 (some (zoNewa 40 25)) none) (zeLf 25 (some (zoPr 2 3 28)) none))) (zeNd 29 (zeLf 28 (some (zoAl 0 29)) none) (zeNd 31 (zeLf 29 (some (zoIc 60 31)) none) (zeLf 31 (some (zoNewa 40 33)) none)))) (zeNd 39 (zeNd 36 (zeLf 33 (some (zoPr 2 4 36)) none) (zeNd 37 (zeLf 36 (some (zoAl 0 37)) none) (zeLf 37 (some (zoIc 60 39)) none))) (zeNd 41 (zeLf 39 (some (zoNewa 40 41)) none) (zeNd 44 (zeLf 41 (some (zoPr 2 5 44)) none) (zeLf 44 (some (zoRetV)) none))))))
set_option maxRecDepth 20000 in
theorem zt_2_ok (G : zeG) : ∀ x op, zt_2 x = some op → zeSnd G 2 x op := (zeNd_ok (zeNd_ok (zeNd_ok (zeNd_ok (zeLf_ok (zs_aload_n (f := 0) (by decide +kernel) rfl rfl)) (zeLf_ok (zs_obj zo_2 zm_97 zm_27 zm_objcode (by decide) (by decide) (by decide +kernel) rfl))) (zeNd_ok (zeLf_ok (zs_aload_n (f := 0) (by decide +kernel) rfl rfl)) (zeNd_ok (zeLf_ok (zs_bipush (c := 60) (by decide +kernel) (by decide) rfl)) (zeLf_ok (zs_na_int zm_70 (by decide +kernel) rfl))))) (zeNd_ok (zeNd_ok (zeLf_ok (zs_pr (zeFd_of zo_2 zk_2 (by decide) zm_101 rfl (Or.inr ⟨rfl, rfl, rfl⟩)) rfl (fun _ => ⟨rfl, rfl⟩) (by decide +kernel) rfl)) (zeNd_ok (zeLf_ok (zs_aload_n (f := 0) (by decide +kernel) rfl rfl)) (zeLf_ok (zs_bipush (c := 60) (by decide +kernel) (by decide) rfl)))) (zeNd_ok (zeLf_ok (zs_na_int zm_70 (by decide +kernel) rfl)) (zeNd_ok (zeLf_ok (zs_pr (zeFd_of zo_2 zk_2 (by decide) zm_104 rfl (Or.inr ⟨rfl, rfl, rfl⟩)) rfl (fun _ => ⟨rfl, rfl⟩) (by decide +kernel) rfl)) (zeLf_ok (zs_aload_n (f := 0) (by decide +kernel) rfl rfl)))))) (zeNd_ok (zeNd_ok (zeNd_ok (zeLf_ok (zs_bipush (c := 60) (by decide +kernel) (by decide) rfl)) (zeNd_ok (zeLf_ok (zs_na_int zm_70 (by decide +kernel) rfl)) (zeLf_ok (zs_pr (zeFd_of zo_2 zk_2 (by decide) zm_107 rfl (Or.inr ⟨rfl, rfl, rfl⟩)) rfl (fun _ => ⟨rfl, rfl⟩) (by decide +kernel) rfl)))) (zeNd_ok (zeLf_ok (zs_aload_n (f := 0) (by decide +kernel) rfl rfl)) (zeNd_ok (zeLf_ok (zs_bipush (c := 60) (by decide +kernel) (by decide) rfl)) (zeLf_ok (zs_na_int zm_70 (by decide +kernel) rfl))))) (zeNd_ok (zeNd_ok (zeLf_ok (zs_pr (zeFd_of zo_2 zk_2 (by decide) zm_110 rfl (Or.inr ⟨rfl, rfl, rfl⟩)) rfl (fun _ => ⟨rfl, rfl⟩) (by decide +kernel) rfl)) (zeNd_ok (zeLf_ok (zs_aload_n (f := 0) (by decide +kernel) rfl rfl)) (zeLf_ok (zs_bipush (c := 60) (by decide +kernel) (by decide) rfl)))) (zeNd_ok (zeLf_ok (zs_na_int zm_70 (by decide +kernel) rfl)) (zeNd_ok (zeLf_ok (zs_pr (zeFd_of zo_2 zk_2 (by decide) zm_113 rfl (Or.inr ⟨rfl, rfl, rfl⟩)) rfl (fun _ => ⟨rfl, rfl⟩) (by decide +kernel) rfl)) (zeLf_ok (zs_return rfl (by decide +kernel))))))))
theorem zo_3 : (zeNam 3).cls = "WagerQuiz$State" := rfl
theorem zg_3 : zeLg 3 = false := rfl
def zt_3 : Nat → Option zeOp := (zeNd 22 (zeNd 12 (zeNd 6 (zeNd 4 (zeNd 1 (zeLf 0 (some (zoAl 0 1)) none) (zeLf 1 (some (zoObj 4)) none)) (zeNd 5 (zeLf 4 (some (zoAl 0 5)) none) (zeLf 5 (some (zoIc 3 6)) none))) (zeNd 9 (zeNd 8 (zeLf 6 (some (zoNewa 40 8)) none) (zeLf 8 (some (zoDup 9)) none)) (zeNd 10 (zeLf 9 (some (zoIc 0 10)) none) (zeLf 10 (some (zoIc 10 12)) none)))) (zeNd 16 (zeNd 14 (zeNd 13 (zeLf 12 (some (zoSt 40 13)) none) (zeLf 13 (some (zoDup 14)) none)) (zeNd 15 (zeLf 14 (some (zoIc 1 15)) none) (zeLf 15 (some (zoIc 5 16)) none))) (zeNd 18 (zeNd 17 (zeLf 16 (some (zoSt 40 17)) none) (zeLf 17 (some (zoDup 18)) none)) (zeNd 19 (zeLf 18 (some (zoIc 2 19)) none) (zeNd 21 (zeLf 19 (some (zoIc 50 21)) none) (zeLf 21 (some (zoSt 40 22)) none)))))) (zeNd 40 (zeNd 30 (zeNd 26 (zeNd 25 (zeLf 22 (some (zoPr 6 4 25)) none) (zeLf 25 (some (zoAl 0 26)) none)) (zeNd 29 (zeLf 26 (some (zoNew 3 8 29)) none) (zeLf 29 (some (zoDup 30)) none))) (zeNd 36 (zeNd 33 (zeLf 30 (some (zoCv 4 0 0 33)) none) (zeLf 33 (some (zoPr 6 5 36)) none)) (zeNd 37 (zeLf 36 (some (zoAl 0 37)) none) (zeLf 37 (some (zoNew 0 3 40)) none)))) (zeNd 48 (zeNd 44 (zeNd 41 (zeLf 40 (some (zoDup 41)) none) (zeLf 41 (some (zoCv 1 1 0 44)) none)) (zeNd 47 (zeLf 44 (some (zoPr 6 6 47)) none) (zeLf 47 (some (zoAl 0 48)) none))) (zeNd 52 (zeNd 51 (zeLf 48 (some (zoNew 2 6 51)) none) (zeLf 51 (some (zoDup 52)) none)) (zeNd 55 (zeLf 52 (some (zoCv 3 2 0 55)) none) (zeNd 58 (zeLf 55 (some (zoPr 6 7 58)) none) (zeLf 58 (some (zoRetV)) none)))))))
set_option maxRecDepth 20000 in
theorem zt_3_ok (G : zeG) : ∀ x op, zt_3 x = some op → zeSnd G 3 x op := (zeNd_ok (zeNd_ok (zeNd_ok (zeNd_ok (zeNd_ok (zeLf_ok (zs_aload_n (f := 0) (by decide +kernel) rfl rfl)) (zeLf_ok (zs_obj zo_3 zm_34 zm_27 zm_objcode (by decide) (by decide) (by decide +kernel) rfl))) (zeNd_ok (zeLf_ok (zs_aload_n (f := 0) (by decide +kernel) rfl rfl)) (zeLf_ok (zs_iconst (c := 3) (by decide +kernel) (by decide) rfl)))) (zeNd_ok (zeNd_ok (zeLf_ok (zs_na_int zm_70 (by decide +kernel) rfl)) (zeLf_ok (zs_dup (by decide +kernel) rfl))) (zeNd_ok (zeLf_ok (zs_iconst (c := 0) (by decide +kernel) (by decide) rfl)) (zeLf_ok (zs_bipush (c := 10) (by decide +kernel) (by decide) rfl))))) (zeNd_ok (zeNd_ok (zeNd_ok (zeLf_ok (zs_iastore (by decide +kernel) rfl)) (zeLf_ok (zs_dup (by decide +kernel) rfl))) (zeNd_ok (zeLf_ok (zs_iconst (c := 1) (by decide +kernel) (by decide) rfl)) (zeLf_ok (zs_iconst (c := 5) (by decide +kernel) (by decide) rfl)))) (zeNd_ok (zeNd_ok (zeLf_ok (zs_iastore (by decide +kernel) rfl)) (zeLf_ok (zs_dup (by decide +kernel) rfl))) (zeNd_ok (zeLf_ok (zs_iconst (c := 2) (by decide +kernel) (by decide) rfl)) (zeNd_ok (zeLf_ok (zs_bipush (c := 50) (by decide +kernel) (by decide) rfl)) (zeLf_ok (zs_iastore (by decide +kernel) rfl))))))) (zeNd_ok (zeNd_ok (zeNd_ok (zeNd_ok (zeLf_ok (zs_pr (zeFd_of zo_3 zk_6 (by decide) zm_137 rfl (Or.inr ⟨rfl, rfl, rfl⟩)) rfl (fun _ => ⟨rfl, rfl⟩) (by decide +kernel) rfl)) (zeLf_ok (zs_aload_n (f := 0) (by decide +kernel) rfl rfl))) (zeNd_ok (zeLf_ok (zs_new zo_3 zc_3 zin_3 zeYok3 zm_35 zm_36 zm_3 (zdf_3) (by decide +kernel) rfl)) (zeLf_ok (zs_dup (by decide +kernel) rfl)))) (zeNd_ok (zeNd_ok (zeLf_ok (zs_ciN (host := "WagerQuiz") zo_3 zc_3 (zeCw_of zcal_0 (by decide +kernel)) (by decide) rfl rfl (fun s h => h.2.2.2.2.2.2.2.2.2.1) zm_38 (by decide +kernel) rfl)) (zeLf_ok (zs_pr (zeFd_of zo_3 zk_6 (by decide) zm_139 rfl (Or.inr ⟨rfl, rfl, rfl⟩)) rfl (fun _ => ⟨rfl, rfl⟩) (by decide +kernel) rfl))) (zeNd_ok (zeLf_ok (zs_aload_n (f := 0) (by decide +kernel) rfl rfl)) (zeLf_ok (zs_new zo_3 zc_0 zin_0 zeYok0 zm_72 zm_73 zm_4 (zdf_0) (by decide +kernel) rfl))))) (zeNd_ok (zeNd_ok (zeNd_ok (zeLf_ok (zs_dup (by decide +kernel) rfl)) (zeLf_ok (zs_ci zo_3 zc_0 (zeCw_of zcal_1 (by decide +kernel)) (by decide) rfl rfl zm_74 zm_75 (by decide +kernel) rfl))) (zeNd_ok (zeLf_ok (zs_pr (zeFd_of zo_3 zk_6 (by decide) zm_141 rfl (Or.inr ⟨rfl, rfl, rfl⟩)) rfl (fun _ => ⟨rfl, rfl⟩) (by decide +kernel) rfl)) (zeLf_ok (zs_aload_n (f := 0) (by decide +kernel) rfl rfl)))) (zeNd_ok (zeNd_ok (zeLf_ok (zs_new zo_3 zc_2 zin_2 zeYok2 zm_92 zm_93 zm_5 (zdf_2) (by decide +kernel) rfl)) (zeLf_ok (zs_dup (by decide +kernel) rfl))) (zeNd_ok (zeLf_ok (zs_ciN (host := "WagerQuiz") zo_3 zc_2 (zeCw_of zcal_2 (by decide +kernel)) (by decide) rfl rfl (fun s h => h.2.2.2.2.2.2.2.2.2.2.1) zm_95 (by decide +kernel) rfl)) (zeNd_ok (zeLf_ok (zs_pr (zeFd_of zo_3 zk_6 (by decide) zm_143 rfl (Or.inr ⟨rfl, rfl, rfl⟩)) rfl (fun _ => ⟨rfl, rfl⟩) (by decide +kernel) rfl)) (zeLf_ok (zs_return rfl (by decide +kernel)))))))))
theorem zo_4 : (zeNam 4).cls = "WagerQuiz$Replay" := rfl
theorem zg_4 : zeLg 4 = false := rfl
def zt_4 : Nat → Option zeOp := (zeNd 49 (zeNd 23 (zeNd 12 (zeNd 5 (zeNd 1 (zeLf 0 (some (zoAl 0 1)) none) (zeNd 4 (zeLf 1 (some (zoObj 4)) none) (zeLf 4 (some (zoAl 0 5)) none))) (zeNd 7 (zeLf 5 (some (zoIc 6 7)) none) (zeNd 9 (zeLf 7 (some (zoNewa 40 9)) none) (zeLf 9 (some (zoPr 4 1 12)) none)))) (zeNd 17 (zeNd 13 (zeLf 12 (some (zoAl 0 13)) none) (zeNd 15 (zeLf 13 (some (zoIc 6 15)) none) (zeLf 15 (some (zoNewa 40 17)) none))) (zeNd 20 (zeLf 17 (some (zoPr 4 2 20)) none) (zeNd 21 (zeLf 20 (some (zoAl 0 21)) none) (zeLf 21 (some (zoIc 6 23)) none))))) (zeNd 36 (zeNd 29 (zeNd 25 (zeLf 23 (some (zoNewa 40 25)) none) (zeNd 28 (zeLf 25 (some (zoPr 4 3 28)) none) (zeLf 28 (some (zoAl 0 29)) none))) (zeNd 31 (zeLf 29 (some (zoIc 6 31)) none) (zeNd 33 (zeLf 31 (some (zoNewa 40 33)) none) (zeLf 33 (some (zoPr 4 4 36)) none)))) (zeNd 41 (zeNd 37 (zeLf 36 (some (zoAl 0 37)) none) (zeNd 39 (zeLf 37 (some (zoIc 25 39)) none) (zeLf 39 (some (zoNewa 40 41)) none))) (zeNd 45 (zeNd 44 (zeLf 41 (some (zoPr 4 5 44)) none) (zeLf 44 (some (zoAl 0 45)) none)) (zeNd 47 (zeLf 45 (some (zoIc 60 47)) none) (zeLf 47 (some (zoNewa 40 49)) none)))))) (zeNd 76 (zeNd 61 (zeNd 55 (zeNd 52 (zeLf 49 (some (zoPr 4 6 52)) none) (zeNd 53 (zeLf 52 (some (zoAl 0 53)) none) (zeLf 53 (some (zoIc 60 55)) none))) (zeNd 57 (zeLf 55 (some (zoNewa 40 57)) none) (zeNd 60 (zeLf 57 (some (zoPr 4 7 60)) none) (zeLf 60 (some (zoAl 0 61)) none)))) (zeNd 68 (zeNd 63 (zeLf 61 (some (zoIc 60 63)) none) (zeNd 65 (zeLf 63 (some (zoNewa 44 65)) none) (zeLf 65 (some (zoPr 4 8 68)) none))) (zeNd 71 (zeNd 69 (zeLf 68 (some (zoAl 0 69)) none) (zeLf 69 (some (zoIc 6 71)) none)) (zeNd 73 (zeLf 71 (some (zoNewa 40 73)) none) (zeLf 73 (some (zoPr 4 9 76)) none))))) (zeNd 85 (zeNd 79 (zeNd 77 (zeLf 76 (some (zoIc 0 77)) none) (zeNd 78 (zeLf 77 (some (zoIs 1 78)) none) (zeLf 78 (some (zoIl 1 79)) none))) (zeNd 81 (zeLf 79 (some (zoIc 25 81)) none) (zeNd 84 (zeLf 81 (some (zoCge 98 84)) none) (zeLf 84 (some (zoAl 0 85)) none)))) (zeNd 91 (zeNd 88 (zeLf 85 (some (zoGr 4 5 88)) none) (zeNd 89 (zeLf 88 (some (zoIl 1 89)) none) (zeLf 89 (some (zoIc (-10000005) 91)) none))) (zeNd 95 (zeNd 92 (zeLf 91 (some (zoSt 40 92)) none) (zeLf 92 (some (zoInc 1 1 95)) none)) (zeNd 98 (zeLf 95 (some (zoGo 78)) none) (zeLf 98 (some (zoRetV)) none)))))))
set_option maxRecDepth 20000 in
theorem zt_4_ok (G : zeG) : ∀ x op, zt_4 x = some op → zeSnd G 4 x op := (zeNd_ok (zeNd_ok (zeNd_ok (zeNd_ok (zeNd_ok (zeLf_ok (zs_aload_n (f := 0) (by decide +kernel) rfl rfl)) (zeNd_ok (zeLf_ok (zs_obj zo_4 zm_167 zm_27 zm_objcode (by decide) (by decide) (by decide +kernel) rfl)) (zeLf_ok (zs_aload_n (f := 0) (by decide +kernel) rfl rfl)))) (zeNd_ok (zeLf_ok (zs_bipush (c := 6) (by decide +kernel) (by decide) rfl)) (zeNd_ok (zeLf_ok (zs_na_int zm_70 (by decide +kernel) rfl)) (zeLf_ok (zs_pr (zeFd_of zo_4 zk_4 (by decide) zm_171 rfl (Or.inr ⟨rfl, rfl, rfl⟩)) rfl (fun _ => ⟨rfl, rfl⟩) (by decide +kernel) rfl))))) (zeNd_ok (zeNd_ok (zeLf_ok (zs_aload_n (f := 0) (by decide +kernel) rfl rfl)) (zeNd_ok (zeLf_ok (zs_bipush (c := 6) (by decide +kernel) (by decide) rfl)) (zeLf_ok (zs_na_int zm_70 (by decide +kernel) rfl)))) (zeNd_ok (zeLf_ok (zs_pr (zeFd_of zo_4 zk_4 (by decide) zm_173 rfl (Or.inr ⟨rfl, rfl, rfl⟩)) rfl (fun _ => ⟨rfl, rfl⟩) (by decide +kernel) rfl)) (zeNd_ok (zeLf_ok (zs_aload_n (f := 0) (by decide +kernel) rfl rfl)) (zeLf_ok (zs_bipush (c := 6) (by decide +kernel) (by decide) rfl)))))) (zeNd_ok (zeNd_ok (zeNd_ok (zeLf_ok (zs_na_int zm_70 (by decide +kernel) rfl)) (zeNd_ok (zeLf_ok (zs_pr (zeFd_of zo_4 zk_4 (by decide) zm_175 rfl (Or.inr ⟨rfl, rfl, rfl⟩)) rfl (fun _ => ⟨rfl, rfl⟩) (by decide +kernel) rfl)) (zeLf_ok (zs_aload_n (f := 0) (by decide +kernel) rfl rfl)))) (zeNd_ok (zeLf_ok (zs_bipush (c := 6) (by decide +kernel) (by decide) rfl)) (zeNd_ok (zeLf_ok (zs_na_int zm_70 (by decide +kernel) rfl)) (zeLf_ok (zs_pr (zeFd_of zo_4 zk_4 (by decide) zm_177 rfl (Or.inr ⟨rfl, rfl, rfl⟩)) rfl (fun _ => ⟨rfl, rfl⟩) (by decide +kernel) rfl))))) (zeNd_ok (zeNd_ok (zeLf_ok (zs_aload_n (f := 0) (by decide +kernel) rfl rfl)) (zeNd_ok (zeLf_ok (zs_bipush (c := 25) (by decide +kernel) (by decide) rfl)) (zeLf_ok (zs_na_int zm_70 (by decide +kernel) rfl)))) (zeNd_ok (zeNd_ok (zeLf_ok (zs_pr (zeFd_of zo_4 zk_4 (by decide) zm_179 rfl (Or.inr ⟨rfl, rfl, rfl⟩)) rfl (fun _ => ⟨rfl, rfl⟩) (by decide +kernel) rfl)) (zeLf_ok (zs_aload_n (f := 0) (by decide +kernel) rfl rfl))) (zeNd_ok (zeLf_ok (zs_bipush (c := 60) (by decide +kernel) (by decide) rfl)) (zeLf_ok (zs_na_int zm_70 (by decide +kernel) rfl))))))) (zeNd_ok (zeNd_ok (zeNd_ok (zeNd_ok (zeLf_ok (zs_pr (zeFd_of zo_4 zk_4 (by decide) zm_181 rfl (Or.inr ⟨rfl, rfl, rfl⟩)) rfl (fun _ => ⟨rfl, rfl⟩) (by decide +kernel) rfl)) (zeNd_ok (zeLf_ok (zs_aload_n (f := 0) (by decide +kernel) rfl rfl)) (zeLf_ok (zs_bipush (c := 60) (by decide +kernel) (by decide) rfl)))) (zeNd_ok (zeLf_ok (zs_na_int zm_70 (by decide +kernel) rfl)) (zeNd_ok (zeLf_ok (zs_pr (zeFd_of zo_4 zk_4 (by decide) zm_183 rfl (Or.inr ⟨rfl, rfl, rfl⟩)) rfl (fun _ => ⟨rfl, rfl⟩) (by decide +kernel) rfl)) (zeLf_ok (zs_aload_n (f := 0) (by decide +kernel) rfl rfl))))) (zeNd_ok (zeNd_ok (zeLf_ok (zs_bipush (c := 60) (by decide +kernel) (by decide) rfl)) (zeNd_ok (zeLf_ok (zs_na_boolean zm_209 (by decide +kernel) rfl)) (zeLf_ok (zs_pr (zeFd_of zo_4 zk_4 (by decide) zm_185 rfl (Or.inr ⟨rfl, rfl, rfl⟩)) rfl (fun _ => ⟨rfl, rfl⟩) (by decide +kernel) rfl)))) (zeNd_ok (zeNd_ok (zeLf_ok (zs_aload_n (f := 0) (by decide +kernel) rfl rfl)) (zeLf_ok (zs_bipush (c := 6) (by decide +kernel) (by decide) rfl))) (zeNd_ok (zeLf_ok (zs_na_int zm_70 (by decide +kernel) rfl)) (zeLf_ok (zs_pr (zeFd_of zo_4 zk_4 (by decide) zm_187 rfl (Or.inr ⟨rfl, rfl, rfl⟩)) rfl (fun _ => ⟨rfl, rfl⟩) (by decide +kernel) rfl)))))) (zeNd_ok (zeNd_ok (zeNd_ok (zeLf_ok (zs_iconst (c := 0) (by decide +kernel) (by decide) rfl)) (zeNd_ok (zeLf_ok (zs_istore_n (f := 1) zg_4 (by decide) (by decide +kernel) rfl rfl)) (zeLf_ok (zs_iload_n (f := 1) (by decide +kernel) rfl rfl)))) (zeNd_ok (zeLf_ok (zs_bipush (c := 25) (by decide +kernel) (by decide) rfl)) (zeNd_ok (zeLf_ok (zs_icmp_ge (off := 17) (by decide +kernel) (by decide) rfl)) (zeLf_ok (zs_aload_n (f := 0) (by decide +kernel) rfl rfl))))) (zeNd_ok (zeNd_ok (zeLf_ok (zs_gr zo_4 zc_4 zin_4 (by decide) rfl zm_179 rfl (by decide +kernel) rfl)) (zeNd_ok (zeLf_ok (zs_iload_n (f := 1) (by decide +kernel) rfl rfl)) (zeLf_ok (zs_ldc zo_4 zm_168 (by decide +kernel) rfl)))) (zeNd_ok (zeNd_ok (zeLf_ok (zs_iastore (by decide +kernel) rfl)) (zeLf_ok (zs_iinc (c := 1) zg_4 (by decide) (by decide +kernel) (by decide) rfl))) (zeNd_ok (zeLf_ok (zs_goto (off := (-17)) (by decide +kernel) (by decide))) (zeLf_ok (zs_return rfl (by decide +kernel)))))))))
theorem zo_5 : (zeNam 5).cls = "WagerQuiz$History" := rfl
theorem zg_5 : zeLg 5 = false := rfl
def zt_5 : Nat → Option zeOp := (zeNd 18 (zeNd 10 (zeNd 4 (zeNd 1 (zeLf 0 (some (zoAl 0 1)) none) (zeLf 1 (some (zoObj 4)) none)) (zeNd 5 (zeLf 4 (some (zoAl 0 5)) none) (zeNd 7 (zeLf 5 (some (zoIc 6 7)) none) (zeLf 7 (some (zoNewa 45 10)) none)))) (zeNd 14 (zeNd 13 (zeLf 10 (some (zoPr 1 2 13)) none) (zeLf 13 (some (zoIc 0 14)) none)) (zeNd 15 (zeLf 14 (some (zoIs 1 15)) none) (zeNd 16 (zeLf 15 (some (zoIl 1 16)) none) (zeLf 16 (some (zoIc 6 18)) none))))) (zeNd 29 (zeNd 22 (zeNd 21 (zeLf 18 (some (zoCge 40 21)) none) (zeLf 21 (some (zoAl 0 22)) none)) (zeNd 25 (zeLf 22 (some (zoGr 1 2 25)) none) (zeNd 26 (zeLf 25 (some (zoIl 1 26)) none) (zeLf 26 (some (zoNew 6 8 29)) none)))) (zeNd 34 (zeNd 30 (zeLf 29 (some (zoDup 30)) none) (zeNd 33 (zeLf 30 (some (zoCv 7 3 0 33)) none) (zeLf 33 (some (zoAst 6 34)) none))) (zeNd 37 (zeLf 34 (some (zoInc 1 1 37)) none) (zeNd 40 (zeLf 37 (some (zoGo 15)) none) (zeLf 40 (some (zoRetV)) none))))))
set_option maxRecDepth 20000 in
theorem zt_5_ok (G : zeG) : ∀ x op, zt_5 x = some op → zeSnd G 5 x op := (zeNd_ok (zeNd_ok (zeNd_ok (zeNd_ok (zeLf_ok (zs_aload_n (f := 0) (by decide +kernel) rfl rfl)) (zeLf_ok (zs_obj zo_5 zm_215 zm_27 zm_objcode (by decide) (by decide) (by decide +kernel) rfl))) (zeNd_ok (zeLf_ok (zs_aload_n (f := 0) (by decide +kernel) rfl rfl)) (zeNd_ok (zeLf_ok (zs_bipush (c := 6) (by decide +kernel) (by decide) rfl)) (zeLf_ok (zs_anewarray zo_5 zm_216 (by decide +kernel) rfl))))) (zeNd_ok (zeNd_ok (zeLf_ok (zs_pr (zeFd_of zo_5 zk_1 (by decide) zm_222 rfl (Or.inr ⟨rfl, rfl, rfl⟩)) rfl (fun _ => ⟨rfl, rfl⟩) (by decide +kernel) rfl)) (zeLf_ok (zs_iconst (c := 0) (by decide +kernel) (by decide) rfl))) (zeNd_ok (zeLf_ok (zs_istore_n (f := 1) zg_5 (by decide) (by decide +kernel) rfl rfl)) (zeNd_ok (zeLf_ok (zs_iload_n (f := 1) (by decide +kernel) rfl rfl)) (zeLf_ok (zs_bipush (c := 6) (by decide +kernel) (by decide) rfl)))))) (zeNd_ok (zeNd_ok (zeNd_ok (zeLf_ok (zs_icmp_ge (off := 22) (by decide +kernel) (by decide) rfl)) (zeLf_ok (zs_aload_n (f := 0) (by decide +kernel) rfl rfl))) (zeNd_ok (zeLf_ok (zs_gr zo_5 zc_1 zin_1 (by decide) rfl zm_222 rfl (by decide +kernel) rfl)) (zeNd_ok (zeLf_ok (zs_iload_n (f := 1) (by decide +kernel) rfl rfl)) (zeLf_ok (zs_new zo_5 zc_6 zin_6 zeYok6 zm_216 zm_30 zm_2 (zdf_6) (by decide +kernel) rfl))))) (zeNd_ok (zeNd_ok (zeLf_ok (zs_dup (by decide +kernel) rfl)) (zeNd_ok (zeLf_ok (zs_ciN (host := "WagerQuiz") zo_5 zc_6 (zeCw_of zcal_3 (by decide +kernel)) (by decide) rfl rfl (fun s h => h.2.2.2.2.2.2.2.2.2.2.2.1) zm_32 (by decide +kernel) rfl)) (zeLf_ok (zs_aastore zc_6 (by decide +kernel) rfl)))) (zeNd_ok (zeLf_ok (zs_iinc (c := 1) zg_5 (by decide) (by decide +kernel) (by decide) rfl)) (zeNd_ok (zeLf_ok (zs_goto (off := (-22)) (by decide +kernel) (by decide))) (zeLf_ok (zs_return rfl (by decide +kernel))))))))
theorem zo_6 : (zeNam 6).cls = "WagerQuiz$Script" := rfl
theorem zg_6 : zeLg 6 = false := rfl
def zt_6 : Nat → Option zeOp := (zeNd 5 (zeNd 1 (zeLf 0 (some (zoAl 0 1)) none) (zeNd 4 (zeLf 1 (some (zoObj 4)) none) (zeLf 4 (some (zoAl 0 5)) none))) (zeNd 9 (zeNd 7 (zeLf 5 (some (zoIc 70 7)) none) (zeLf 7 (some (zoNewa 43 9)) none)) (zeNd 12 (zeLf 9 (some (zoPr 5 1 12)) none) (zeLf 12 (some (zoRetV)) none))))
set_option maxRecDepth 20000 in
theorem zt_6_ok (G : zeG) : ∀ x op, zt_6 x = some op → zeSnd G 6 x op := (zeNd_ok (zeNd_ok (zeLf_ok (zs_aload_n (f := 0) (by decide +kernel) rfl rfl)) (zeNd_ok (zeLf_ok (zs_obj zo_6 zm_235 zm_27 zm_objcode (by decide) (by decide) (by decide +kernel) rfl)) (zeLf_ok (zs_aload_n (f := 0) (by decide +kernel) rfl rfl)))) (zeNd_ok (zeNd_ok (zeLf_ok (zs_bipush (c := 70) (by decide +kernel) (by decide) rfl)) (zeLf_ok (zs_na_char zm_244 (by decide +kernel) rfl))) (zeNd_ok (zeLf_ok (zs_pr (zeFd_of zo_6 zk_5 (by decide) zm_238 rfl (Or.inr ⟨rfl, rfl, rfl⟩)) rfl (fun _ => ⟨rfl, rfl⟩) (by decide +kernel) rfl)) (zeLf_ok (zs_return rfl (by decide +kernel))))))
theorem zo_7 : (zeNam 7).cls = "java/lang/AbstractStringBuilder" := rfl
theorem zg_7 : zeLg 7 = false := rfl
def zt_7 : Nat → Option zeOp := (zeNd 14 (zeNd 7 (zeNd 1 (zeLf 0 (some (zoAl 0 1)) none) (zeNd 4 (zeLf 1 (some (zoObj 4)) none) (zeLf 4 (some (zoK (.int 1) 7)) none))) (zeNd 11 (zeNd 10 (zeLf 7 (some (zoZeq 25 10)) none) (zeLf 10 (some (zoAl 0 11)) none)) (zeNd 12 (zeLf 11 (some (zoIl 1 12)) none) (zeLf 12 (some (zoNewa 42 14)) none)))) (zeNd 22 (zeNd 18 (zeNd 17 (zeLf 14 (some (zoPr 9 0 17)) none) (zeLf 17 (some (zoAl 0 18)) none)) (zeNd 19 (zeLf 18 (some (zoIc 0 19)) none) (zeLf 19 (some (zoPs .byte 9 1 22)) none))) (zeNd 26 (zeNd 25 (zeLf 22 (some (zoGo 38)) none) (zeLf 25 (some (zoAl 0 26)) none)) (zeNd 38 (zeLf 26 (some (zoIl 1 27)) none) (zeLf 38 (some (zoRetV)) none)))))
set_option maxRecDepth 20000 in
theorem zt_7_ok (G : zeG) : ∀ x op, zt_7 x = some op → zeSnd G 7 x op := (zeNd_ok (zeNd_ok (zeNd_ok (zeLf_ok (zs_aload_n (f := 0) (by decide +kernel) rfl rfl)) (zeNd_ok (zeLf_ok (zs_obj zo_7 zm_253 zm_27 zm_objcode (by decide) (by decide) (by decide +kernel) rfl)) (zeLf_ok (zs_gets zo_7 (fun s h => h.2.1) zm_254 (by decide +kernel) rfl)))) (zeNd_ok (zeNd_ok (zeLf_ok (zs_if_eq (off := 18) (by decide +kernel) (by decide) rfl)) (zeLf_ok (zs_aload_n (f := 0) (by decide +kernel) rfl rfl))) (zeNd_ok (zeLf_ok (zs_iload_n (f := 1) (by decide +kernel) rfl rfl)) (zeLf_ok (zs_na_byte zm_276 (by decide +kernel) rfl))))) (zeNd_ok (zeNd_ok (zeNd_ok (zeLf_ok (zs_pr (zeFd_of zo_7 zk_9 (by decide) zm_263 rfl (Or.inl rfl)) rfl (fun _ => ⟨rfl, rfl⟩) (by decide +kernel) rfl)) (zeLf_ok (zs_aload_n (f := 0) (by decide +kernel) rfl rfl))) (zeNd_ok (zeLf_ok (zs_iconst (c := 0) (by decide +kernel) (by decide) rfl)) (zeLf_ok (zs_ps (zeFd_of zo_7 zk_9 (by decide) zm_264 rfl (Or.inl rfl)) rfl rfl (by decide +kernel) rfl)))) (zeNd_ok (zeNd_ok (zeLf_ok (zs_goto (off := 16) (by decide +kernel) (by decide))) (zeLf_ok (zs_aload_n (f := 0) (by decide +kernel) rfl rfl))) (zeNd_ok (zeLf_ok (zs_iload_n (f := 1) (by decide +kernel) rfl rfl)) (zeLf_ok (zs_return rfl (by decide +kernel)))))))
theorem zo_8 : (zeNam 8).cls = "java/lang/StringBuilder" := rfl
theorem zg_8 : zeLg 8 = false := rfl
def zt_8 : Nat → Option zeOp := (zeNd 3 (zeNd 1 (zeLf 0 (some (zoAl 0 1)) none) (zeLf 1 (some (zoIc 16 3)) none)) (zeNd 6 (zeLf 3 (some (zoCv 10 7 1 6)) none) (zeLf 6 (some (zoRetV)) none)))
set_option maxRecDepth 20000 in
theorem zt_8_ok (G : zeG) : ∀ x op, zt_8 x = some op → zeSnd G 8 x op := (zeNd_ok (zeNd_ok (zeLf_ok (zs_aload_n (f := 0) (by decide +kernel) rfl rfl)) (zeLf_ok (zs_bipush (c := 16) (by decide +kernel) (by decide) rfl))) (zeNd_ok (zeLf_ok (zs_ci zo_8 zc_9 (zeCw_of zcal_7 (by decide +kernel)) (by decide) rfl rfl zm_250 zm_251 (by decide +kernel) rfl)) (zeLf_ok (zs_return rfl (by decide +kernel)))))
theorem zo_9 : (zeNam 9).cls = "WagerQuiz" := rfl
theorem zg_9 : zeLg 9 = false := rfl
def zt_9 : Nat → Option zeOp := (zeNd 52 (zeNd 27 (zeNd 12 (zeNd 5 (zeNd 1 (zeLf 0 (some (zoAl 0 1)) none) (zeNd 4 (zeLf 1 (some (zoObj 4)) none) (zeLf 4 (some (zoAl 0 5)) none))) (zeNd 8 (zeLf 5 (some (zoNew 6 8 8)) none) (zeNd 9 (zeLf 8 (some (zoDup 9)) none) (zeLf 9 (some (zoCv 7 3 0 12)) none)))) (zeNd 19 (zeNd 15 (zeLf 12 (some (zoPr 7 0 15)) none) (zeNd 16 (zeLf 15 (some (zoAl 0 16)) none) (zeLf 16 (some (zoNew 4 10 19)) none))) (zeNd 23 (zeNd 20 (zeLf 19 (some (zoDup 20)) none) (zeLf 20 (some (zoCv 5 4 0 23)) none)) (zeNd 26 (zeLf 23 (some (zoPr 7 1 26)) none) (zeLf 26 (some (zoAl 0 27)) none))))) (zeNd 39 (zeNd 34 (zeNd 30 (zeLf 27 (some (zoNew 1 3 30)) none) (zeNd 31 (zeLf 30 (some (zoDup 31)) none) (zeLf 31 (some (zoCv 2 5 0 34)) none))) (zeNd 37 (zeLf 34 (some (zoPr 7 2 37)) none) (zeNd 38 (zeLf 37 (some (zoAl 0 38)) none) (zeLf 38 (some (zoIc 2 39)) none)))) (zeNd 46 (zeNd 42 (zeLf 39 (some (zoNewa 45 42)) none) (zeNd 45 (zeLf 42 (some (zoPr 7 3 45)) none) (zeLf 45 (some (zoIc 0 46)) none))) (zeNd 48 (zeNd 47 (zeLf 46 (some (zoIs 1 47)) none) (zeLf 47 (some (zoIl 1 48)) none)) (zeNd 49 (zeLf 48 (some (zoIc 2 49)) none) (zeLf 49 (some (zoCge 71 52)) none)))))) (zeNd 78 (zeNd 64 (zeNd 57 (zeNd 53 (zeLf 52 (some (zoAl 0 53)) none) (zeNd 56 (zeLf 53 (some (zoGr 7 3 56)) none) (zeLf 56 (some (zoIl 1 57)) none))) (zeNd 60 (zeLf 57 (some (zoNew 6 8 60)) none) (zeNd 61 (zeLf 60 (some (zoDup 61)) none) (zeLf 61 (some (zoCv 7 3 0 64)) none)))) (zeNd 71 (zeNd 65 (zeLf 64 (some (zoAst 6 65)) none) (zeNd 68 (zeLf 65 (some (zoInc 1 1 68)) none) (zeLf 68 (some (zoGo 47)) none))) (zeNd 73 (zeNd 72 (zeLf 71 (some (zoAl 0 72)) none) (zeLf 72 (some (zoIc 2 73)) none)) (zeNd 75 (zeLf 73 (some (zoNewa 44 75)) none) (zeLf 75 (some (zoPr 7 4 78)) none))))) (zeNd 93 (zeNd 83 (zeNd 79 (zeLf 78 (some (zoAl 0 79)) none) (zeNd 82 (zeLf 79 (some (zoNew 5 2 82)) none) (zeLf 82 (some (zoDup 83)) none))) (zeNd 89 (zeNd 86 (zeLf 83 (some (zoCv 6 6 0 86)) none) (zeLf 86 (some (zoPr 7 5 89)) none)) (zeNd 90 (zeLf 89 (some (zoAl 0 90)) none) (zeLf 90 (some (zoNew 9 4 93)) none)))) (zeNd 100 (zeNd 94 (zeLf 93 (some (zoDup 94)) none) (zeNd 97 (zeLf 94 (some (zoCv 10 8 0 97)) none) (zeLf 97 (some (zoPr 7 6 100)) none))) (zeNd 102 (zeNd 101 (zeLf 100 (some (zoAl 0 101)) none) (zeLf 101 (some (zoIc 0 102)) none)) (zeNd 105 (zeLf 102 (some (zoPf 7 7 105)) none) (zeLf 105 (some (zoRetV)) none)))))))
set_option maxRecDepth 20000 in
theorem zt_9_ok (G : zeG) : ∀ x op, zt_9 x = some op → zeSnd G 9 x op := (zeNd_ok (zeNd_ok (zeNd_ok (zeNd_ok (zeNd_ok (zeLf_ok (zs_aload_n (f := 0) (by decide +kernel) rfl rfl)) (zeNd_ok (zeLf_ok (zs_obj zo_9 zm_26 zm_27 zm_objcode (by decide) (by decide) (by decide +kernel) rfl)) (zeLf_ok (zs_aload_n (f := 0) (by decide +kernel) rfl rfl)))) (zeNd_ok (zeLf_ok (zs_new zo_9 zc_6 zin_6 zeYok6 zm_29 zm_30 zm_2 (zdf_6) (by decide +kernel) rfl)) (zeNd_ok (zeLf_ok (zs_dup (by decide +kernel) rfl)) (zeLf_ok (zs_ciN (host := "WagerQuiz") zo_9 zc_6 (zeCw_of zcal_3 (by decide +kernel)) (by decide) rfl rfl (fun s h => h.2.2.2.2.2.2.2.2.1) zm_32 (by decide +kernel) rfl))))) (zeNd_ok (zeNd_ok (zeLf_ok (zs_pr (zeFd_of zo_9 zk_7 (by decide) zm_277 rfl (Or.inr ⟨rfl, rfl, rfl⟩)) rfl (fun _ => ⟨rfl, rfl⟩) (by decide +kernel) rfl)) (zeNd_ok (zeLf_ok (zs_aload_n (f := 0) (by decide +kernel) rfl rfl)) (zeLf_ok (zs_new zo_9 zc_4 zin_4 zeYok4 zm_162 zm_163 zm_6 (zdf_4) (by decide +kernel) rfl)))) (zeNd_ok (zeNd_ok (zeLf_ok (zs_dup (by decide +kernel) rfl)) (zeLf_ok (zs_ci zo_9 zc_4 (zeCw_of zcal_4 (by decide +kernel)) (by decide) rfl rfl zm_164 zm_165 (by decide +kernel) rfl))) (zeNd_ok (zeLf_ok (zs_pr (zeFd_of zo_9 zk_7 (by decide) zm_278 rfl (Or.inr ⟨rfl, rfl, rfl⟩)) rfl (fun _ => ⟨rfl, rfl⟩) (by decide +kernel) rfl)) (zeLf_ok (zs_aload_n (f := 0) (by decide +kernel) rfl rfl)))))) (zeNd_ok (zeNd_ok (zeNd_ok (zeLf_ok (zs_new zo_9 zc_1 zin_1 zeYok1 zm_210 zm_211 zm_7 (zdf_1) (by decide +kernel) rfl)) (zeNd_ok (zeLf_ok (zs_dup (by decide +kernel) rfl)) (zeLf_ok (zs_ci zo_9 zc_1 (zeCw_of zcal_5 (by decide +kernel)) (by decide) rfl rfl zm_212 zm_213 (by decide +kernel) rfl)))) (zeNd_ok (zeLf_ok (zs_pr (zeFd_of zo_9 zk_7 (by decide) zm_279 rfl (Or.inr ⟨rfl, rfl, rfl⟩)) rfl (fun _ => ⟨rfl, rfl⟩) (by decide +kernel) rfl)) (zeNd_ok (zeLf_ok (zs_aload_n (f := 0) (by decide +kernel) rfl rfl)) (zeLf_ok (zs_iconst (c := 2) (by decide +kernel) (by decide) rfl))))) (zeNd_ok (zeNd_ok (zeLf_ok (zs_anewarray zo_9 zm_29 (by decide +kernel) rfl)) (zeNd_ok (zeLf_ok (zs_pr (zeFd_of zo_9 zk_7 (by decide) zm_280 rfl (Or.inr ⟨rfl, rfl, rfl⟩)) rfl (fun _ => ⟨rfl, rfl⟩) (by decide +kernel) rfl)) (zeLf_ok (zs_iconst (c := 0) (by decide +kernel) (by decide) rfl)))) (zeNd_ok (zeNd_ok (zeLf_ok (zs_istore_n (f := 1) zg_9 (by decide) (by decide +kernel) rfl rfl)) (zeLf_ok (zs_iload_n (f := 1) (by decide +kernel) rfl rfl))) (zeNd_ok (zeLf_ok (zs_iconst (c := 2) (by decide +kernel) (by decide) rfl)) (zeLf_ok (zs_icmp_ge (off := 22) (by decide +kernel) (by decide) rfl))))))) (zeNd_ok (zeNd_ok (zeNd_ok (zeNd_ok (zeLf_ok (zs_aload_n (f := 0) (by decide +kernel) rfl rfl)) (zeNd_ok (zeLf_ok (zs_gr zo_9 zc_7 zin_7 (by decide) rfl zm_280 rfl (by decide +kernel) rfl)) (zeLf_ok (zs_iload_n (f := 1) (by decide +kernel) rfl rfl)))) (zeNd_ok (zeLf_ok (zs_new zo_9 zc_6 zin_6 zeYok6 zm_29 zm_30 zm_2 (zdf_6) (by decide +kernel) rfl)) (zeNd_ok (zeLf_ok (zs_dup (by decide +kernel) rfl)) (zeLf_ok (zs_ciN (host := "WagerQuiz") zo_9 zc_6 (zeCw_of zcal_3 (by decide +kernel)) (by decide) rfl rfl (fun s h => h.2.2.2.2.2.2.2.2.1) zm_32 (by decide +kernel) rfl))))) (zeNd_ok (zeNd_ok (zeLf_ok (zs_aastore zc_6 (by decide +kernel) rfl)) (zeNd_ok (zeLf_ok (zs_iinc (c := 1) zg_9 (by decide) (by decide +kernel) (by decide) rfl)) (zeLf_ok (zs_goto (off := (-21)) (by decide +kernel) (by decide))))) (zeNd_ok (zeNd_ok (zeLf_ok (zs_aload_n (f := 0) (by decide +kernel) rfl rfl)) (zeLf_ok (zs_iconst (c := 2) (by decide +kernel) (by decide) rfl))) (zeNd_ok (zeLf_ok (zs_na_boolean zm_209 (by decide +kernel) rfl)) (zeLf_ok (zs_pr (zeFd_of zo_9 zk_7 (by decide) zm_281 rfl (Or.inr ⟨rfl, rfl, rfl⟩)) rfl (fun _ => ⟨rfl, rfl⟩) (by decide +kernel) rfl)))))) (zeNd_ok (zeNd_ok (zeNd_ok (zeLf_ok (zs_aload_n (f := 0) (by decide +kernel) rfl rfl)) (zeNd_ok (zeLf_ok (zs_new zo_9 zc_5 zin_5 zeYok5 zm_230 zm_231 zm_8 (zdf_5) (by decide +kernel) rfl)) (zeLf_ok (zs_dup (by decide +kernel) rfl)))) (zeNd_ok (zeNd_ok (zeLf_ok (zs_ciN (host := "WagerQuiz") zo_9 zc_5 (zeCw_of zcal_6 (by decide +kernel)) (by decide) rfl rfl (fun s h => h.2.2.2.2.2.2.2.2.2.2.2.2.1) zm_233 (by decide +kernel) rfl)) (zeLf_ok (zs_pr (zeFd_of zo_9 zk_7 (by decide) zm_282 rfl (Or.inr ⟨rfl, rfl, rfl⟩)) rfl (fun _ => ⟨rfl, rfl⟩) (by decide +kernel) rfl))) (zeNd_ok (zeLf_ok (zs_aload_n (f := 0) (by decide +kernel) rfl rfl)) (zeLf_ok (zs_new zo_9 zc_9 zin_9 zeYok9 zm_245 zm_246 zm_10 (zdf_9) (by decide +kernel) rfl))))) (zeNd_ok (zeNd_ok (zeLf_ok (zs_dup (by decide +kernel) rfl)) (zeNd_ok (zeLf_ok (zs_ci zo_9 zc_9 (zeCw_of zcal_8 (by decide +kernel)) (by decide) rfl rfl zm_247 zm_248 (by decide +kernel) rfl)) (zeLf_ok (zs_pr (zeFd_of zo_9 zk_7 (by decide) zm_283 rfl (Or.inr ⟨rfl, rfl, rfl⟩)) rfl (fun _ => ⟨rfl, rfl⟩) (by decide +kernel) rfl)))) (zeNd_ok (zeNd_ok (zeLf_ok (zs_aload_n (f := 0) (by decide +kernel) rfl rfl)) (zeLf_ok (zs_iconst (c := 0) (by decide +kernel) (by decide) rfl))) (zeNd_ok (zeLf_ok (zs_pf (zeFd_of zo_9 zk_7 (by decide) zm_284 rfl (Or.inl rfl)) rfl rfl (by decide +kernel) rfl)) (zeLf_ok (zs_return rfl (by decide +kernel)))))))))
theorem zo_10 : (zeNam 10).cls = "WagerQuizModel" := rfl
theorem zg_10 : zeLg 10 = false := rfl
def zt_10 : Nat → Option zeOp := (zeNd 102 (zeNd 51 (zeNd 26 (zeNd 13 (zeNd 5 (zeNd 1 (zeLf 0 (some (zoAl 0 1)) none) (zeNd 4 (zeLf 1 (some (zoObj 4)) none) (zeLf 4 (some (zoAl 0 5)) none))) (zeNd 8 (zeLf 5 (some (zoIc 360 8)) none) (zeNd 10 (zeLf 8 (some (zoNewa 40 10)) none) (zeLf 10 (some (zoPr 8 0 13)) none)))) (zeNd 19 (zeNd 14 (zeLf 13 (some (zoAl 0 14)) none) (zeNd 17 (zeLf 14 (some (zoIc 1800 17)) none) (zeLf 17 (some (zoNewa 40 19)) none))) (zeNd 22 (zeLf 19 (some (zoPr 8 1 22)) none) (zeNd 23 (zeLf 22 (some (zoAl 0 23)) none) (zeLf 23 (some (zoIc 720 26)) none))))) (zeNd 38 (zeNd 32 (zeNd 28 (zeLf 26 (some (zoNewa 40 28)) none) (zeNd 31 (zeLf 28 (some (zoPr 8 3 31)) none) (zeLf 31 (some (zoAl 0 32)) none))) (zeNd 33 (zeLf 32 (some (zoIc 2 33)) none) (zeNd 35 (zeLf 33 (some (zoNewa 44 35)) none) (zeLf 35 (some (zoPr 8 4 38)) none)))) (zeNd 43 (zeNd 39 (zeLf 38 (some (zoAl 0 39)) none) (zeNd 41 (zeLf 39 (some (zoIc 6 41)) none) (zeLf 41 (some (zoNewa 40 43)) none))) (zeNd 47 (zeNd 46 (zeLf 43 (some (zoPr 8 6 46)) none) (zeLf 46 (some (zoAl 0 47)) none)) (zeNd 49 (zeLf 47 (some (zoIc 60 49)) none) (zeLf 49 (some (zoNewa 40 51)) none)))))) (zeNd 75 (zeNd 63 (zeNd 57 (zeNd 54 (zeLf 51 (some (zoPr 8 7 54)) none) (zeNd 55 (zeLf 54 (some (zoAl 0 55)) none) (zeLf 55 (some (zoIc 60 57)) none))) (zeNd 59 (zeLf 57 (some (zoNewa 44 59)) none) (zeNd 62 (zeLf 59 (some (zoPr 8 8 62)) none) (zeLf 62 (some (zoAl 0 63)) none)))) (zeNd 70 (zeNd 65 (zeLf 63 (some (zoIc 60 65)) none) (zeNd 67 (zeLf 65 (some (zoNewa 40 67)) none) (zeLf 67 (some (zoPr 8 9 70)) none))) (zeNd 71 (zeLf 70 (some (zoAl 0 71)) none) (zeNd 73 (zeLf 71 (some (zoIc 6 73)) none) (zeLf 73 (some (zoNewa 40 75)) none))))) (zeNd 87 (zeNd 81 (zeNd 78 (zeLf 75 (some (zoPr 8 10 78)) none) (zeNd 79 (zeLf 78 (some (zoAl 0 79)) none) (zeLf 79 (some (zoIc 6 81)) none))) (zeNd 83 (zeLf 81 (some (zoNewa 40 83)) none) (zeNd 86 (zeLf 83 (some (zoPr 8 11 86)) none) (zeLf 86 (some (zoAl 0 87)) none)))) (zeNd 94 (zeNd 89 (zeLf 87 (some (zoIc 6 89)) none) (zeNd 91 (zeLf 89 (some (zoNewa 40 91)) none) (zeLf 91 (some (zoPr 8 12 94)) none))) (zeNd 97 (zeNd 95 (zeLf 94 (some (zoAl 0 95)) none) (zeLf 95 (some (zoIc 6 97)) none)) (zeNd 99 (zeLf 97 (some (zoNewa 40 99)) none) (zeLf 99 (some (zoPr 8 14 102)) none))))))) (zeNd 151 (zeNd 127 (zeNd 113 (zeNd 107 (zeNd 103 (zeLf 102 (some (zoAl 0 103)) none) (zeNd 105 (zeLf 103 (some (zoIc 6 105)) none) (zeLf 105 (some (zoNewa 40 107)) none))) (zeNd 110 (zeLf 107 (some (zoPr 8 15 110)) none) (zeNd 111 (zeLf 110 (some (zoAl 0 111)) none) (zeLf 111 (some (zoIc 70 113)) none)))) (zeNd 119 (zeNd 115 (zeLf 113 (some (zoNewa 43 115)) none) (zeNd 118 (zeLf 115 (some (zoPr 8 17 118)) none) (zeLf 118 (some (zoAl 0 119)) none))) (zeNd 122 (zeLf 119 (some (zoIc 210 122)) none) (zeNd 124 (zeLf 122 (some (zoNewa 40 124)) none) (zeLf 124 (some (zoPr 8 19 127)) none))))) (zeNd 140 (zeNd 133 (zeNd 128 (zeLf 127 (some (zoAl 0 128)) none) (zeNd 131 (zeLf 128 (some (zoIc 160 131)) none) (zeLf 131 (some (zoNewa 40 133)) none))) (zeNd 136 (zeLf 133 (some (zoPr 8 21 136)) none) (zeNd 137 (zeLf 136 (some (zoAl 0 137)) none) (zeLf 137 (some (zoGr 8 0 140)) none)))) (zeNd 143 (zeNd 141 (zeLf 140 (some (zoIc 2 141)) none) (zeNd 142 (zeLf 141 (some (zoIc (-1) 142)) none) (zeLf 142 (some (zoSt 40 143)) none))) (zeNd 147 (zeNd 144 (zeLf 143 (some (zoAl 0 144)) none) (zeLf 144 (some (zoGr 8 0 147)) none)) (zeNd 149 (zeLf 147 (some (zoIc 6 149)) none) (zeLf 149 (some (zoIc 10 151)) none)))))) (zeNd 171 (zeNd 160 (zeNd 156 (zeNd 152 (zeLf 151 (some (zoSt 40 152)) none) (zeNd 153 (zeLf 152 (some (zoAl 0 153)) none) (zeLf 153 (some (zoGr 8 0 156)) none))) (zeNd 158 (zeLf 156 (some (zoIc 7 158)) none) (zeNd 159 (zeLf 158 (some (zoIc 5 159)) none) (zeLf 159 (some (zoSt 40 160)) none)))) (zeNd 166 (zeNd 161 (zeLf 160 (some (zoAl 0 161)) none) (zeNd 164 (zeLf 161 (some (zoGr 8 0 164)) none) (zeLf 164 (some (zoIc 8 166)) none))) (zeNd 169 (zeNd 168 (zeLf 166 (some (zoIc 50 168)) none) (zeLf 168 (some (zoSt 40 169)) none)) (zeNd 170 (zeLf 169 (some (zoIc 0 170)) none) (zeLf 170 (some (zoIs 1 171)) none))))) (zeNd 183 (zeNd 177 (zeNd 172 (zeLf 171 (some (zoIl 1 172)) none) (zeNd 174 (zeLf 172 (some (zoIc 6 174)) none) (zeLf 174 (some (zoCge 193 177)) none))) (zeNd 178 (zeLf 177 (some (zoAl 0 178)) none) (zeNd 181 (zeLf 178 (some (zoGr 8 0 181)) none) (zeLf 181 (some (zoIc 22 183)) none)))) (zeNd 186 (zeNd 184 (zeLf 183 (some (zoIl 1 184)) none) (zeNd 185 (zeLf 184 (some (zoI2 zfiadd 185)) none) (zeLf 185 (some (zoIc (-1) 186)) none))) (zeNd 190 (zeNd 187 (zeLf 186 (some (zoSt 40 187)) none) (zeLf 187 (some (zoInc 1 1 190)) none)) (zeNd 193 (zeLf 190 (some (zoGo 171)) none) (zeLf 193 (some (zoRetV)) none))))))))
set_option maxRecDepth 20000 in
theorem zt_10_ok (G : zeG) : ∀ x op, zt_10 x = some op → zeSnd G 10 x op := (zeNd_ok (zeNd_ok (zeNd_ok (zeNd_ok (zeNd_ok (zeNd_ok (zeLf_ok (zs_aload_n (f := 0) (by decide +kernel) rfl rfl)) (zeNd_ok (zeLf_ok (zs_obj zo_10 zm_965 zm_27 zm_objcode (by decide) (by decide) (by decide +kernel) rfl)) (zeLf_ok (zs_aload_n (f := 0) (by decide +kernel) rfl rfl)))) (zeNd_ok (zeLf_ok (zs_sipush (c := 360) (by decide +kernel) (by decide) rfl)) (zeNd_ok (zeLf_ok (zs_na_int zm_70 (by decide +kernel) rfl)) (zeLf_ok (zs_pr (zeFd_of zo_10 zk_8 (by decide) zm_966 rfl (Or.inr ⟨rfl, rfl, rfl⟩)) rfl (fun _ => ⟨rfl, rfl⟩) (by decide +kernel) rfl))))) (zeNd_ok (zeNd_ok (zeLf_ok (zs_aload_n (f := 0) (by decide +kernel) rfl rfl)) (zeNd_ok (zeLf_ok (zs_sipush (c := 1800) (by decide +kernel) (by decide) rfl)) (zeLf_ok (zs_na_int zm_70 (by decide +kernel) rfl)))) (zeNd_ok (zeLf_ok (zs_pr (zeFd_of zo_10 zk_8 (by decide) zm_967 rfl (Or.inr ⟨rfl, rfl, rfl⟩)) rfl (fun _ => ⟨rfl, rfl⟩) (by decide +kernel) rfl)) (zeNd_ok (zeLf_ok (zs_aload_n (f := 0) (by decide +kernel) rfl rfl)) (zeLf_ok (zs_sipush (c := 720) (by decide +kernel) (by decide) rfl)))))) (zeNd_ok (zeNd_ok (zeNd_ok (zeLf_ok (zs_na_int zm_70 (by decide +kernel) rfl)) (zeNd_ok (zeLf_ok (zs_pr (zeFd_of zo_10 zk_8 (by decide) zm_969 rfl (Or.inr ⟨rfl, rfl, rfl⟩)) rfl (fun _ => ⟨rfl, rfl⟩) (by decide +kernel) rfl)) (zeLf_ok (zs_aload_n (f := 0) (by decide +kernel) rfl rfl)))) (zeNd_ok (zeLf_ok (zs_iconst (c := 2) (by decide +kernel) (by decide) rfl)) (zeNd_ok (zeLf_ok (zs_na_boolean zm_209 (by decide +kernel) rfl)) (zeLf_ok (zs_pr (zeFd_of zo_10 zk_8 (by decide) zm_970 rfl (Or.inr ⟨rfl, rfl, rfl⟩)) rfl (fun _ => ⟨rfl, rfl⟩) (by decide +kernel) rfl))))) (zeNd_ok (zeNd_ok (zeLf_ok (zs_aload_n (f := 0) (by decide +kernel) rfl rfl)) (zeNd_ok (zeLf_ok (zs_bipush (c := 6) (by decide +kernel) (by decide) rfl)) (zeLf_ok (zs_na_int zm_70 (by decide +kernel) rfl)))) (zeNd_ok (zeNd_ok (zeLf_ok (zs_pr (zeFd_of zo_10 zk_8 (by decide) zm_972 rfl (Or.inr ⟨rfl, rfl, rfl⟩)) rfl (fun _ => ⟨rfl, rfl⟩) (by decide +kernel) rfl)) (zeLf_ok (zs_aload_n (f := 0) (by decide +kernel) rfl rfl))) (zeNd_ok (zeLf_ok (zs_bipush (c := 60) (by decide +kernel) (by decide) rfl)) (zeLf_ok (zs_na_int zm_70 (by decide +kernel) rfl))))))) (zeNd_ok (zeNd_ok (zeNd_ok (zeNd_ok (zeLf_ok (zs_pr (zeFd_of zo_10 zk_8 (by decide) zm_973 rfl (Or.inr ⟨rfl, rfl, rfl⟩)) rfl (fun _ => ⟨rfl, rfl⟩) (by decide +kernel) rfl)) (zeNd_ok (zeLf_ok (zs_aload_n (f := 0) (by decide +kernel) rfl rfl)) (zeLf_ok (zs_bipush (c := 60) (by decide +kernel) (by decide) rfl)))) (zeNd_ok (zeLf_ok (zs_na_boolean zm_209 (by decide +kernel) rfl)) (zeNd_ok (zeLf_ok (zs_pr (zeFd_of zo_10 zk_8 (by decide) zm_974 rfl (Or.inr ⟨rfl, rfl, rfl⟩)) rfl (fun _ => ⟨rfl, rfl⟩) (by decide +kernel) rfl)) (zeLf_ok (zs_aload_n (f := 0) (by decide +kernel) rfl rfl))))) (zeNd_ok (zeNd_ok (zeLf_ok (zs_bipush (c := 60) (by decide +kernel) (by decide) rfl)) (zeNd_ok (zeLf_ok (zs_na_int zm_70 (by decide +kernel) rfl)) (zeLf_ok (zs_pr (zeFd_of zo_10 zk_8 (by decide) zm_975 rfl (Or.inr ⟨rfl, rfl, rfl⟩)) rfl (fun _ => ⟨rfl, rfl⟩) (by decide +kernel) rfl)))) (zeNd_ok (zeLf_ok (zs_aload_n (f := 0) (by decide +kernel) rfl rfl)) (zeNd_ok (zeLf_ok (zs_bipush (c := 6) (by decide +kernel) (by decide) rfl)) (zeLf_ok (zs_na_int zm_70 (by decide +kernel) rfl)))))) (zeNd_ok (zeNd_ok (zeNd_ok (zeLf_ok (zs_pr (zeFd_of zo_10 zk_8 (by decide) zm_976 rfl (Or.inr ⟨rfl, rfl, rfl⟩)) rfl (fun _ => ⟨rfl, rfl⟩) (by decide +kernel) rfl)) (zeNd_ok (zeLf_ok (zs_aload_n (f := 0) (by decide +kernel) rfl rfl)) (zeLf_ok (zs_bipush (c := 6) (by decide +kernel) (by decide) rfl)))) (zeNd_ok (zeLf_ok (zs_na_int zm_70 (by decide +kernel) rfl)) (zeNd_ok (zeLf_ok (zs_pr (zeFd_of zo_10 zk_8 (by decide) zm_977 rfl (Or.inr ⟨rfl, rfl, rfl⟩)) rfl (fun _ => ⟨rfl, rfl⟩) (by decide +kernel) rfl)) (zeLf_ok (zs_aload_n (f := 0) (by decide +kernel) rfl rfl))))) (zeNd_ok (zeNd_ok (zeLf_ok (zs_bipush (c := 6) (by decide +kernel) (by decide) rfl)) (zeNd_ok (zeLf_ok (zs_na_int zm_70 (by decide +kernel) rfl)) (zeLf_ok (zs_pr (zeFd_of zo_10 zk_8 (by decide) zm_978 rfl (Or.inr ⟨rfl, rfl, rfl⟩)) rfl (fun _ => ⟨rfl, rfl⟩) (by decide +kernel) rfl)))) (zeNd_ok (zeNd_ok (zeLf_ok (zs_aload_n (f := 0) (by decide +kernel) rfl rfl)) (zeLf_ok (zs_bipush (c := 6) (by decide +kernel) (by decide) rfl))) (zeNd_ok (zeLf_ok (zs_na_int zm_70 (by decide +kernel) rfl)) (zeLf_ok (zs_pr (zeFd_of zo_10 zk_8 (by decide) zm_980 rfl (Or.inr ⟨rfl, rfl, rfl⟩)) rfl (fun _ => ⟨rfl, rfl⟩) (by decide +kernel) rfl)))))))) (zeNd_ok (zeNd_ok (zeNd_ok (zeNd_ok (zeNd_ok (zeLf_ok (zs_aload_n (f := 0) (by decide +kernel) rfl rfl)) (zeNd_ok (zeLf_ok (zs_bipush (c := 6) (by decide +kernel) (by decide) rfl)) (zeLf_ok (zs_na_int zm_70 (by decide +kernel) rfl)))) (zeNd_ok (zeLf_ok (zs_pr (zeFd_of zo_10 zk_8 (by decide) zm_981 rfl (Or.inr ⟨rfl, rfl, rfl⟩)) rfl (fun _ => ⟨rfl, rfl⟩) (by decide +kernel) rfl)) (zeNd_ok (zeLf_ok (zs_aload_n (f := 0) (by decide +kernel) rfl rfl)) (zeLf_ok (zs_bipush (c := 70) (by decide +kernel) (by decide) rfl))))) (zeNd_ok (zeNd_ok (zeLf_ok (zs_na_char zm_244 (by decide +kernel) rfl)) (zeNd_ok (zeLf_ok (zs_pr (zeFd_of zo_10 zk_8 (by decide) zm_983 rfl (Or.inr ⟨rfl, rfl, rfl⟩)) rfl (fun _ => ⟨rfl, rfl⟩) (by decide +kernel) rfl)) (zeLf_ok (zs_aload_n (f := 0) (by decide +kernel) rfl rfl)))) (zeNd_ok (zeLf_ok (zs_sipush (c := 210) (by decide +kernel) (by decide) rfl)) (zeNd_ok (zeLf_ok (zs_na_int zm_70 (by decide +kernel) rfl)) (zeLf_ok (zs_pr (zeFd_of zo_10 zk_8 (by decide) zm_985 rfl (Or.inr ⟨rfl, rfl, rfl⟩)) rfl (fun _ => ⟨rfl, rfl⟩) (by decide +kernel) rfl)))))) (zeNd_ok (zeNd_ok (zeNd_ok (zeLf_ok (zs_aload_n (f := 0) (by decide +kernel) rfl rfl)) (zeNd_ok (zeLf_ok (zs_sipush (c := 160) (by decide +kernel) (by decide) rfl)) (zeLf_ok (zs_na_int zm_70 (by decide +kernel) rfl)))) (zeNd_ok (zeLf_ok (zs_pr (zeFd_of zo_10 zk_8 (by decide) zm_987 rfl (Or.inr ⟨rfl, rfl, rfl⟩)) rfl (fun _ => ⟨rfl, rfl⟩) (by decide +kernel) rfl)) (zeNd_ok (zeLf_ok (zs_aload_n (f := 0) (by decide +kernel) rfl rfl)) (zeLf_ok (zs_gr zo_10 zc_8 zin_8 (by decide) rfl zm_966 rfl (by decide +kernel) rfl))))) (zeNd_ok (zeNd_ok (zeLf_ok (zs_iconst (c := 2) (by decide +kernel) (by decide) rfl)) (zeNd_ok (zeLf_ok (zs_iconst (c := (-1)) (by decide +kernel) (by decide) rfl)) (zeLf_ok (zs_iastore (by decide +kernel) rfl)))) (zeNd_ok (zeNd_ok (zeLf_ok (zs_aload_n (f := 0) (by decide +kernel) rfl rfl)) (zeLf_ok (zs_gr zo_10 zc_8 zin_8 (by decide) rfl zm_966 rfl (by decide +kernel) rfl))) (zeNd_ok (zeLf_ok (zs_bipush (c := 6) (by decide +kernel) (by decide) rfl)) (zeLf_ok (zs_bipush (c := 10) (by decide +kernel) (by decide) rfl))))))) (zeNd_ok (zeNd_ok (zeNd_ok (zeNd_ok (zeLf_ok (zs_iastore (by decide +kernel) rfl)) (zeNd_ok (zeLf_ok (zs_aload_n (f := 0) (by decide +kernel) rfl rfl)) (zeLf_ok (zs_gr zo_10 zc_8 zin_8 (by decide) rfl zm_966 rfl (by decide +kernel) rfl)))) (zeNd_ok (zeLf_ok (zs_bipush (c := 7) (by decide +kernel) (by decide) rfl)) (zeNd_ok (zeLf_ok (zs_iconst (c := 5) (by decide +kernel) (by decide) rfl)) (zeLf_ok (zs_iastore (by decide +kernel) rfl))))) (zeNd_ok (zeNd_ok (zeLf_ok (zs_aload_n (f := 0) (by decide +kernel) rfl rfl)) (zeNd_ok (zeLf_ok (zs_gr zo_10 zc_8 zin_8 (by decide) rfl zm_966 rfl (by decide +kernel) rfl)) (zeLf_ok (zs_bipush (c := 8) (by decide +kernel) (by decide) rfl)))) (zeNd_ok (zeNd_ok (zeLf_ok (zs_bipush (c := 50) (by decide +kernel) (by decide) rfl)) (zeLf_ok (zs_iastore (by decide +kernel) rfl))) (zeNd_ok (zeLf_ok (zs_iconst (c := 0) (by decide +kernel) (by decide) rfl)) (zeLf_ok (zs_istore_n (f := 1) zg_10 (by decide) (by decide +kernel) rfl rfl)))))) (zeNd_ok (zeNd_ok (zeNd_ok (zeLf_ok (zs_iload_n (f := 1) (by decide +kernel) rfl rfl)) (zeNd_ok (zeLf_ok (zs_bipush (c := 6) (by decide +kernel) (by decide) rfl)) (zeLf_ok (zs_icmp_ge (off := 19) (by decide +kernel) (by decide) rfl)))) (zeNd_ok (zeLf_ok (zs_aload_n (f := 0) (by decide +kernel) rfl rfl)) (zeNd_ok (zeLf_ok (zs_gr zo_10 zc_8 zin_8 (by decide) rfl zm_966 rfl (by decide +kernel) rfl)) (zeLf_ok (zs_bipush (c := 22) (by decide +kernel) (by decide) rfl))))) (zeNd_ok (zeNd_ok (zeLf_ok (zs_iload_n (f := 1) (by decide +kernel) rfl rfl)) (zeNd_ok (zeLf_ok (zs_iadd (by decide +kernel) rfl)) (zeLf_ok (zs_iconst (c := (-1)) (by decide +kernel) (by decide) rfl)))) (zeNd_ok (zeNd_ok (zeLf_ok (zs_iastore (by decide +kernel) rfl)) (zeLf_ok (zs_iinc (c := 1) zg_10 (by decide) (by decide +kernel) (by decide) rfl))) (zeNd_ok (zeLf_ok (zs_goto (off := (-19)) (by decide +kernel) (by decide))) (zeLf_ok (zs_return rfl (by decide +kernel))))))))))
theorem zo_11 : (zeNam 11).cls = "WagerQuiz$PickedClue" := rfl
theorem zg_11 : zeLg 11 = false := rfl
def zt_11 : Nat → Option zeOp := (zeNd 44 (zeNd 21 (zeNd 9 (zeNd 2 (zeNd 1 (zeLf 0 (some (zoAl 0 1)) none) (zeLf 1 (some (zoAl 1 2)) none)) (zeNd 5 (zeLf 2 (some (zoGf 3 0 5)) none) (zeNd 8 (zeLf 5 (some (zoPf 3 0 8)) none) (zeLf 8 (some (zoAl 0 9)) none)))) (zeNd 16 (zeNd 10 (zeLf 9 (some (zoAl 1 10)) none) (zeNd 13 (zeLf 10 (some (zoGf 3 1 13)) none) (zeLf 13 (some (zoPf 3 1 16)) none))) (zeNd 17 (zeLf 16 (some (zoAl 0 17)) none) (zeNd 18 (zeLf 17 (some (zoAl 1 18)) none) (zeLf 18 (some (zoGf 3 2 21)) none))))) (zeNd 32 (zeNd 25 (zeNd 24 (zeLf 21 (some (zoPf 3 2 24)) none) (zeLf 24 (some (zoAl 0 25)) none)) (zeNd 26 (zeLf 25 (some (zoAl 1 26)) none) (zeNd 29 (zeLf 26 (some (zoGf 3 3 29)) none) (zeLf 29 (some (zoPf 3 3 32)) none)))) (zeNd 37 (zeNd 33 (zeLf 32 (some (zoAl 0 33)) none) (zeNd 34 (zeLf 33 (some (zoAl 1 34)) none) (zeLf 34 (some (zoGf 3 4 37)) none))) (zeNd 40 (zeLf 37 (some (zoPf 3 4 40)) none) (zeNd 41 (zeLf 40 (some (zoAl 1 41)) none) (zeLf 41 (some (zoGr 3 5 44)) none)))))) (zeNd 64 (zeNd 52 (zeNd 46 (zeNd 45 (zeLf 44 (some (zoIc 0 45)) none) (zeLf 45 (some (zoAl 0 46)) none)) (zeNd 49 (zeLf 46 (some (zoGr 3 5 49)) none) (zeNd 50 (zeLf 49 (some (zoIc 0 50)) none) (zeLf 50 (some (zoIc 6 52)) none)))) (zeNd 59 (zeNd 55 (zeLf 52 (some (zoCp 40 55)) none) (zeNd 56 (zeLf 55 (some (zoAl 1 56)) none) (zeLf 56 (some (zoGr 3 6 59)) none))) (zeNd 60 (zeLf 59 (some (zoIc 0 60)) none) (zeNd 61 (zeLf 60 (some (zoAl 0 61)) none) (zeLf 61 (some (zoGr 3 6 64)) none))))) (zeNd 75 (zeNd 70 (zeNd 65 (zeLf 64 (some (zoIc 0 65)) none) (zeNd 67 (zeLf 65 (some (zoIc 6 67)) none) (zeLf 67 (some (zoCpL 70)) none))) (zeNd 71 (zeLf 70 (some (zoAl 1 71)) none) (zeNd 74 (zeLf 71 (some (zoGr 3 7 74)) none) (zeLf 74 (some (zoIc 0 75)) none)))) (zeNd 80 (zeNd 76 (zeLf 75 (some (zoAl 0 76)) none) (zeNd 79 (zeLf 76 (some (zoGr 3 7 79)) none) (zeLf 79 (some (zoIc 0 80)) none))) (zeNd 82 (zeLf 80 (some (zoIc 6 82)) none) (zeNd 85 (zeLf 82 (some (zoCpL 85)) none) (zeLf 85 (some (zoRetV)) none)))))))
set_option maxRecDepth 20000 in
theorem zt_11_ok (G : zeG) : ∀ x op, zt_11 x = some op → zeSnd G 11 x op := (zeNd_ok (zeNd_ok (zeNd_ok (zeNd_ok (zeNd_ok (zeLf_ok (zs_aload_n (f := 0) (by decide +kernel) rfl rfl)) (zeLf_ok (zs_aload_n (f := 1) (by decide +kernel) rfl rfl))) (zeNd_ok (zeLf_ok (zs_gf zo_11 zc_3 zin_3 (by decide) rfl zm_41 rfl (by decide +kernel) rfl)) (zeNd_ok (zeLf_ok (zs_pf (zeFd_of zo_11 zk_3 (by decide) zm_41 rfl (Or.inl rfl)) rfl rfl (by decide +kernel) rfl)) (zeLf_ok (zs_aload_n (f := 0) (by decide +kernel) rfl rfl))))) (zeNd_ok (zeNd_ok (zeLf_ok (zs_aload_n (f := 1) (by decide +kernel) rfl rfl)) (zeNd_ok (zeLf_ok (zs_gf zo_11 zc_3 zin_3 (by decide) rfl zm_43 rfl (by decide +kernel) rfl)) (zeLf_ok (zs_pf (zeFd_of zo_11 zk_3 (by decide) zm_43 rfl (Or.inl rfl)) rfl rfl (by decide +kernel) rfl)))) (zeNd_ok (zeLf_ok (zs_aload_n (f := 0) (by decide +kernel) rfl rfl)) (zeNd_ok (zeLf_ok (zs_aload_n (f := 1) (by decide +kernel) rfl rfl)) (zeLf_ok (zs_gf zo_11 zc_3 zin_3 (by decide) rfl zm_44 rfl (by decide +kernel) rfl)))))) (zeNd_ok (zeNd_ok (zeNd_ok (zeLf_ok (zs_pf (zeFd_of zo_11 zk_3 (by decide) zm_44 rfl (Or.inl rfl)) rfl rfl (by decide +kernel) rfl)) (zeLf_ok (zs_aload_n (f := 0) (by decide +kernel) rfl rfl))) (zeNd_ok (zeLf_ok (zs_aload_n (f := 1) (by decide +kernel) rfl rfl)) (zeNd_ok (zeLf_ok (zs_gf zo_11 zc_3 zin_3 (by decide) rfl zm_45 rfl (by decide +kernel) rfl)) (zeLf_ok (zs_pf (zeFd_of zo_11 zk_3 (by decide) zm_45 rfl (Or.inl rfl)) rfl rfl (by decide +kernel) rfl))))) (zeNd_ok (zeNd_ok (zeLf_ok (zs_aload_n (f := 0) (by decide +kernel) rfl rfl)) (zeNd_ok (zeLf_ok (zs_aload_n (f := 1) (by decide +kernel) rfl rfl)) (zeLf_ok (zs_gf zo_11 zc_3 zin_3 (by decide) rfl zm_47 rfl (by decide +kernel) rfl)))) (zeNd_ok (zeLf_ok (zs_pf (zeFd_of zo_11 zk_3 (by decide) zm_47 rfl (Or.inl rfl)) rfl rfl (by decide +kernel) rfl)) (zeNd_ok (zeLf_ok (zs_aload_n (f := 1) (by decide +kernel) rfl rfl)) (zeLf_ok (zs_gr zo_11 zc_3 zin_3 (by decide) rfl zm_49 rfl (by decide +kernel) rfl))))))) (zeNd_ok (zeNd_ok (zeNd_ok (zeNd_ok (zeLf_ok (zs_iconst (c := 0) (by decide +kernel) (by decide) rfl)) (zeLf_ok (zs_aload_n (f := 0) (by decide +kernel) rfl rfl))) (zeNd_ok (zeLf_ok (zs_gr zo_11 zc_3 zin_3 (by decide) rfl zm_49 rfl (by decide +kernel) rfl)) (zeNd_ok (zeLf_ok (zs_iconst (c := 0) (by decide +kernel) (by decide) rfl)) (zeLf_ok (zs_bipush (c := 6) (by decide +kernel) (by decide) rfl))))) (zeNd_ok (zeNd_ok (zeLf_ok (zs_cpI zo_11 zm_323 zm_318 zm_317 zm_14 (by decide) (by decide) (by decide +kernel) rfl)) (zeNd_ok (zeLf_ok (zs_aload_n (f := 1) (by decide +kernel) rfl rfl)) (zeLf_ok (zs_gr zo_11 zc_3 zin_3 (by decide) rfl zm_51 rfl (by decide +kernel) rfl)))) (zeNd_ok (zeLf_ok (zs_iconst (c := 0) (by decide +kernel) (by decide) rfl)) (zeNd_ok (zeLf_ok (zs_aload_n (f := 0) (by decide +kernel) rfl rfl)) (zeLf_ok (zs_gr zo_11 zc_3 zin_3 (by decide) rfl zm_51 rfl (by decide +kernel) rfl)))))) (zeNd_ok (zeNd_ok (zeNd_ok (zeLf_ok (zs_iconst (c := 0) (by decide +kernel) (by decide) rfl)) (zeNd_ok (zeLf_ok (zs_bipush (c := 6) (by decide +kernel) (by decide) rfl)) (zeLf_ok (zs_copyL zo_11 zm_323 zm_318 zm_317 zm_14 (by decide) (by decide) (by decide +kernel) rfl)))) (zeNd_ok (zeLf_ok (zs_aload_n (f := 1) (by decide +kernel) rfl rfl)) (zeNd_ok (zeLf_ok (zs_gr zo_11 zc_3 zin_3 (by decide) rfl zm_52 rfl (by decide +kernel) rfl)) (zeLf_ok (zs_iconst (c := 0) (by decide +kernel) (by decide) rfl))))) (zeNd_ok (zeNd_ok (zeLf_ok (zs_aload_n (f := 0) (by decide +kernel) rfl rfl)) (zeNd_ok (zeLf_ok (zs_gr zo_11 zc_3 zin_3 (by decide) rfl zm_52 rfl (by decide +kernel) rfl)) (zeLf_ok (zs_iconst (c := 0) (by decide +kernel) (by decide) rfl)))) (zeNd_ok (zeLf_ok (zs_bipush (c := 6) (by decide +kernel) (by decide) rfl)) (zeNd_ok (zeLf_ok (zs_copyL zo_11 zm_323 zm_318 zm_317 zm_14 (by decide) (by decide) (by decide +kernel) rfl)) (zeLf_ok (zs_return rfl (by decide +kernel)))))))))
theorem zo_12 : (zeNam 12).cls = "WagerQuiz$FinalRound" := rfl
theorem zg_12 : zeLg 12 = false := rfl
def zt_12 : Nat → Option zeOp := (zeNd 18 (zeNd 9 (zeNd 2 (zeNd 1 (zeLf 0 (some (zoAl 0 1)) none) (zeLf 1 (some (zoAl 1 2)) none)) (zeNd 5 (zeLf 2 (some (zoGf 0 0 5)) none) (zeNd 8 (zeLf 5 (some (zoPf 0 0 8)) none) (zeLf 8 (some (zoAl 1 9)) none)))) (zeNd 13 (zeNd 12 (zeLf 9 (some (zoGr 0 1 12)) none) (zeLf 12 (some (zoIc 0 13)) none)) (zeNd 14 (zeLf 13 (some (zoAl 0 14)) none) (zeNd 17 (zeLf 14 (some (zoGr 0 1 17)) none) (zeLf 17 (some (zoIc 0 18)) none))))) (zeNd 28 (zeNd 23 (zeNd 20 (zeLf 18 (some (zoIc 6 20)) none) (zeLf 20 (some (zoCp 40 23)) none)) (zeNd 24 (zeLf 23 (some (zoAl 1 24)) none) (zeNd 27 (zeLf 24 (some (zoGr 0 2 27)) none) (zeLf 27 (some (zoIc 0 28)) none)))) (zeNd 33 (zeNd 29 (zeLf 28 (some (zoAl 0 29)) none) (zeNd 32 (zeLf 29 (some (zoGr 0 2 32)) none) (zeLf 32 (some (zoIc 0 33)) none))) (zeNd 35 (zeLf 33 (some (zoIc 6 35)) none) (zeNd 38 (zeLf 35 (some (zoCp 40 38)) none) (zeLf 38 (some (zoRetV)) none))))))
set_option maxRecDepth 20000 in
theorem zt_12_ok (G : zeG) : ∀ x op, zt_12 x = some op → zeSnd G 12 x op := (zeNd_ok (zeNd_ok (zeNd_ok (zeNd_ok (zeLf_ok (zs_aload_n (f := 0) (by decide +kernel) rfl rfl)) (zeLf_ok (zs_aload_n (f := 1) (by decide +kernel) rfl rfl))) (zeNd_ok (zeLf_ok (zs_gf zo_12 zc_0 zin_0 (by decide) rfl zm_79 rfl (by decide +kernel) rfl)) (zeNd_ok (zeLf_ok (zs_pf (zeFd_of zo_12 zk_0 (by decide) zm_79 rfl (Or.inl rfl)) rfl rfl (by decide +kernel) rfl)) (zeLf_ok (zs_aload_n (f := 1) (by decide +kernel) rfl rfl))))) (zeNd_ok (zeNd_ok (zeLf_ok (zs_gr zo_12 zc_0 zin_0 (by decide) rfl zm_81 rfl (by decide +kernel) rfl)) (zeLf_ok (zs_iconst (c := 0) (by decide +kernel) (by decide) rfl))) (zeNd_ok (zeLf_ok (zs_aload_n (f := 0) (by decide +kernel) rfl rfl)) (zeNd_ok (zeLf_ok (zs_gr zo_12 zc_0 zin_0 (by decide) rfl zm_81 rfl (by decide +kernel) rfl)) (zeLf_ok (zs_iconst (c := 0) (by decide +kernel) (by decide) rfl)))))) (zeNd_ok (zeNd_ok (zeNd_ok (zeLf_ok (zs_bipush (c := 6) (by decide +kernel) (by decide) rfl)) (zeLf_ok (zs_cpI zo_12 zm_328 zm_318 zm_317 zm_14 (by decide) (by decide) (by decide +kernel) rfl))) (zeNd_ok (zeLf_ok (zs_aload_n (f := 1) (by decide +kernel) rfl rfl)) (zeNd_ok (zeLf_ok (zs_gr zo_12 zc_0 zin_0 (by decide) rfl zm_83 rfl (by decide +kernel) rfl)) (zeLf_ok (zs_iconst (c := 0) (by decide +kernel) (by decide) rfl))))) (zeNd_ok (zeNd_ok (zeLf_ok (zs_aload_n (f := 0) (by decide +kernel) rfl rfl)) (zeNd_ok (zeLf_ok (zs_gr zo_12 zc_0 zin_0 (by decide) rfl zm_83 rfl (by decide +kernel) rfl)) (zeLf_ok (zs_iconst (c := 0) (by decide +kernel) (by decide) rfl)))) (zeNd_ok (zeLf_ok (zs_bipush (c := 6) (by decide +kernel) (by decide) rfl)) (zeNd_ok (zeLf_ok (zs_cpI zo_12 zm_328 zm_318 zm_317 zm_14 (by decide) (by decide) (by decide +kernel) rfl)) (zeLf_ok (zs_return rfl (by decide +kernel))))))))
theorem zo_13 : (zeNam 13).cls = "WagerQuiz$Log" := rfl
theorem zg_13 : zeLg 13 = false := rfl
def zt_13 : Nat → Option zeOp := (zeNd 42 (zeNd 20 (zeNd 9 (zeNd 2 (zeNd 1 (zeLf 0 (some (zoAl 0 1)) none) (zeLf 1 (some (zoAl 1 2)) none)) (zeNd 5 (zeLf 2 (some (zoGf 2 0 5)) none) (zeNd 8 (zeLf 5 (some (zoPf 2 0 8)) none) (zeLf 8 (some (zoAl 1 9)) none)))) (zeNd 14 (zeNd 12 (zeLf 9 (some (zoGr 2 1 12)) none) (zeNd 13 (zeLf 12 (some (zoIc 0 13)) none) (zeLf 13 (some (zoAl 0 14)) none))) (zeNd 17 (zeLf 14 (some (zoGr 2 1 17)) none) (zeNd 18 (zeLf 17 (some (zoIc 0 18)) none) (zeLf 18 (some (zoIc 60 20)) none))))) (zeNd 29 (zeNd 24 (zeNd 23 (zeLf 20 (some (zoCp 40 23)) none) (zeLf 23 (some (zoAl 1 24)) none)) (zeNd 27 (zeLf 24 (some (zoGr 2 2 27)) none) (zeNd 28 (zeLf 27 (some (zoIc 0 28)) none) (zeLf 28 (some (zoAl 0 29)) none)))) (zeNd 35 (zeNd 32 (zeLf 29 (some (zoGr 2 2 32)) none) (zeNd 33 (zeLf 32 (some (zoIc 0 33)) none) (zeLf 33 (some (zoIc 60 35)) none))) (zeNd 38 (zeLf 35 (some (zoCp 40 38)) none) (zeNd 39 (zeLf 38 (some (zoAl 1 39)) none) (zeLf 39 (some (zoGr 2 3 42)) none)))))) (zeNd 62 (zeNd 50 (zeNd 44 (zeNd 43 (zeLf 42 (some (zoIc 0 43)) none) (zeLf 43 (some (zoAl 0 44)) none)) (zeNd 47 (zeLf 44 (some (zoGr 2 3 47)) none) (zeNd 48 (zeLf 47 (some (zoIc 0 48)) none) (zeLf 48 (some (zoIc 60 50)) none)))) (zeNd 57 (zeNd 53 (zeLf 50 (some (zoCp 40 53)) none) (zeNd 54 (zeLf 53 (some (zoAl 1 54)) none) (zeLf 54 (some (zoGr 2 4 57)) none))) (zeNd 58 (zeLf 57 (some (zoIc 0 58)) none) (zeNd 59 (zeLf 58 (some (zoAl 0 59)) none) (zeLf 59 (some (zoGr 2 4 62)) none))))) (zeNd 73 (zeNd 68 (zeNd 63 (zeLf 62 (some (zoIc 0 63)) none) (zeNd 65 (zeLf 63 (some (zoIc 60 65)) none) (zeLf 65 (some (zoCp 40 68)) none))) (zeNd 69 (zeLf 68 (some (zoAl 1 69)) none) (zeNd 72 (zeLf 69 (some (zoGr 2 5 72)) none) (zeLf 72 (some (zoIc 0 73)) none)))) (zeNd 78 (zeNd 74 (zeLf 73 (some (zoAl 0 74)) none) (zeNd 77 (zeLf 74 (some (zoGr 2 5 77)) none) (zeLf 77 (some (zoIc 0 78)) none))) (zeNd 80 (zeLf 78 (some (zoIc 60 80)) none) (zeNd 83 (zeLf 80 (some (zoCp 40 83)) none) (zeLf 83 (some (zoRetV)) none)))))))
set_option maxRecDepth 20000 in
theorem zt_13_ok (G : zeG) : ∀ x op, zt_13 x = some op → zeSnd G 13 x op := (zeNd_ok (zeNd_ok (zeNd_ok (zeNd_ok (zeNd_ok (zeLf_ok (zs_aload_n (f := 0) (by decide +kernel) rfl rfl)) (zeLf_ok (zs_aload_n (f := 1) (by decide +kernel) rfl rfl))) (zeNd_ok (zeLf_ok (zs_gf zo_13 zc_2 zin_2 (by decide) rfl zm_98 rfl (by decide +kernel) rfl)) (zeNd_ok (zeLf_ok (zs_pf (zeFd_of zo_13 zk_2 (by decide) zm_98 rfl (Or.inl rfl)) rfl rfl (by decide +kernel) rfl)) (zeLf_ok (zs_aload_n (f := 1) (by decide +kernel) rfl rfl))))) (zeNd_ok (zeNd_ok (zeLf_ok (zs_gr zo_13 zc_2 zin_2 (by decide) rfl zm_101 rfl (by decide +kernel) rfl)) (zeNd_ok (zeLf_ok (zs_iconst (c := 0) (by decide +kernel) (by decide) rfl)) (zeLf_ok (zs_aload_n (f := 0) (by decide +kernel) rfl rfl)))) (zeNd_ok (zeLf_ok (zs_gr zo_13 zc_2 zin_2 (by decide) rfl zm_101 rfl (by decide +kernel) rfl)) (zeNd_ok (zeLf_ok (zs_iconst (c := 0) (by decide +kernel) (by decide) rfl)) (zeLf_ok (zs_bipush (c := 60) (by decide +kernel) (by decide) rfl)))))) (zeNd_ok (zeNd_ok (zeNd_ok (zeLf_ok (zs_cpI zo_13 zm_333 zm_318 zm_317 zm_14 (by decide) (by decide) (by decide +kernel) rfl)) (zeLf_ok (zs_aload_n (f := 1) (by decide +kernel) rfl rfl))) (zeNd_ok (zeLf_ok (zs_gr zo_13 zc_2 zin_2 (by decide) rfl zm_104 rfl (by decide +kernel) rfl)) (zeNd_ok (zeLf_ok (zs_iconst (c := 0) (by decide +kernel) (by decide) rfl)) (zeLf_ok (zs_aload_n (f := 0) (by decide +kernel) rfl rfl))))) (zeNd_ok (zeNd_ok (zeLf_ok (zs_gr zo_13 zc_2 zin_2 (by decide) rfl zm_104 rfl (by decide +kernel) rfl)) (zeNd_ok (zeLf_ok (zs_iconst (c := 0) (by decide +kernel) (by decide) rfl)) (zeLf_ok (zs_bipush (c := 60) (by decide +kernel) (by decide) rfl)))) (zeNd_ok (zeLf_ok (zs_cpI zo_13 zm_333 zm_318 zm_317 zm_14 (by decide) (by decide) (by decide +kernel) rfl)) (zeNd_ok (zeLf_ok (zs_aload_n (f := 1) (by decide +kernel) rfl rfl)) (zeLf_ok (zs_gr zo_13 zc_2 zin_2 (by decide) rfl zm_107 rfl (by decide +kernel) rfl))))))) (zeNd_ok (zeNd_ok (zeNd_ok (zeNd_ok (zeLf_ok (zs_iconst (c := 0) (by decide +kernel) (by decide) rfl)) (zeLf_ok (zs_aload_n (f := 0) (by decide +kernel) rfl rfl))) (zeNd_ok (zeLf_ok (zs_gr zo_13 zc_2 zin_2 (by decide) rfl zm_107 rfl (by decide +kernel) rfl)) (zeNd_ok (zeLf_ok (zs_iconst (c := 0) (by decide +kernel) (by decide) rfl)) (zeLf_ok (zs_bipush (c := 60) (by decide +kernel) (by decide) rfl))))) (zeNd_ok (zeNd_ok (zeLf_ok (zs_cpI zo_13 zm_333 zm_318 zm_317 zm_14 (by decide) (by decide) (by decide +kernel) rfl)) (zeNd_ok (zeLf_ok (zs_aload_n (f := 1) (by decide +kernel) rfl rfl)) (zeLf_ok (zs_gr zo_13 zc_2 zin_2 (by decide) rfl zm_110 rfl (by decide +kernel) rfl)))) (zeNd_ok (zeLf_ok (zs_iconst (c := 0) (by decide +kernel) (by decide) rfl)) (zeNd_ok (zeLf_ok (zs_aload_n (f := 0) (by decide +kernel) rfl rfl)) (zeLf_ok (zs_gr zo_13 zc_2 zin_2 (by decide) rfl zm_110 rfl (by decide +kernel) rfl)))))) (zeNd_ok (zeNd_ok (zeNd_ok (zeLf_ok (zs_iconst (c := 0) (by decide +kernel) (by decide) rfl)) (zeNd_ok (zeLf_ok (zs_bipush (c := 60) (by decide +kernel) (by decide) rfl)) (zeLf_ok (zs_cpI zo_13 zm_333 zm_318 zm_317 zm_14 (by decide) (by decide) (by decide +kernel) rfl)))) (zeNd_ok (zeLf_ok (zs_aload_n (f := 1) (by decide +kernel) rfl rfl)) (zeNd_ok (zeLf_ok (zs_gr zo_13 zc_2 zin_2 (by decide) rfl zm_113 rfl (by decide +kernel) rfl)) (zeLf_ok (zs_iconst (c := 0) (by decide +kernel) (by decide) rfl))))) (zeNd_ok (zeNd_ok (zeLf_ok (zs_aload_n (f := 0) (by decide +kernel) rfl rfl)) (zeNd_ok (zeLf_ok (zs_gr zo_13 zc_2 zin_2 (by decide) rfl zm_113 rfl (by decide +kernel) rfl)) (zeLf_ok (zs_iconst (c := 0) (by decide +kernel) (by decide) rfl)))) (zeNd_ok (zeLf_ok (zs_bipush (c := 60) (by decide +kernel) (by decide) rfl)) (zeNd_ok (zeLf_ok (zs_cpI zo_13 zm_333 zm_318 zm_317 zm_14 (by decide) (by decide) (by decide +kernel) rfl)) (zeLf_ok (zs_return rfl (by decide +kernel)))))))))
theorem zo_14 : (zeNam 14).cls = "WagerQuiz$State" := rfl
theorem zg_14 : zeLg 14 = false := rfl
def zt_14 : Nat → Option zeOp := (zeNd 38 (zeNd 18 (zeNd 9 (zeNd 2 (zeNd 1 (zeLf 0 (some (zoAl 0 1)) none) (zeLf 1 (some (zoAl 1 2)) none)) (zeNd 5 (zeLf 2 (some (zoGf 6 0 5)) none) (zeNd 8 (zeLf 5 (some (zoPf 6 0 8)) none) (zeLf 8 (some (zoAl 0 9)) none)))) (zeNd 13 (zeNd 10 (zeLf 9 (some (zoAl 1 10)) none) (zeLf 10 (some (zoGf 6 1 13)) none)) (zeNd 16 (zeLf 13 (some (zoPf 6 1 16)) none) (zeNd 17 (zeLf 16 (some (zoAl 0 17)) none) (zeLf 17 (some (zoAl 1 18)) none))))) (zeNd 29 (zeNd 24 (zeNd 21 (zeLf 18 (some (zoGf 6 2 21)) none) (zeLf 21 (some (zoPf 6 2 24)) none)) (zeNd 25 (zeLf 24 (some (zoAl 0 25)) none) (zeNd 26 (zeLf 25 (some (zoAl 1 26)) none) (zeLf 26 (some (zoGf 6 3 29)) none)))) (zeNd 33 (zeNd 32 (zeLf 29 (some (zoPf 6 3 32)) none) (zeLf 32 (some (zoAl 1 33)) none)) (zeNd 36 (zeLf 33 (some (zoGr 6 4 36)) none) (zeNd 37 (zeLf 36 (some (zoIc 0 37)) none) (zeLf 37 (some (zoAl 0 38)) none)))))) (zeNd 60 (zeNd 49 (zeNd 42 (zeNd 41 (zeLf 38 (some (zoGr 6 4 41)) none) (zeLf 41 (some (zoIc 0 42)) none)) (zeNd 45 (zeLf 42 (some (zoK (.ref 1) 45)) none) (zeNd 46 (zeLf 45 (some (zoLenO 46)) none) (zeLf 46 (some (zoCp 40 49)) none)))) (zeNd 53 (zeNd 50 (zeLf 49 (some (zoAl 0 50)) none) (zeLf 50 (some (zoGr 6 5 53)) none)) (zeNd 54 (zeLf 53 (some (zoAl 1 54)) none) (zeNd 57 (zeLf 54 (some (zoGr 6 5 57)) none) (zeLf 57 (some (zoCv 4 11 1 60)) none))))) (zeNd 71 (zeNd 64 (zeNd 61 (zeLf 60 (some (zoAl 0 61)) none) (zeLf 61 (some (zoGr 6 6 64)) none)) (zeNd 65 (zeLf 64 (some (zoAl 1 65)) none) (zeNd 68 (zeLf 65 (some (zoGr 6 6 68)) none) (zeLf 68 (some (zoCv 1 12 1 71)) none)))) (zeNd 76 (zeNd 72 (zeLf 71 (some (zoAl 0 72)) none) (zeNd 75 (zeLf 72 (some (zoGr 6 7 75)) none) (zeLf 75 (some (zoAl 1 76)) none))) (zeNd 79 (zeLf 76 (some (zoGr 6 7 79)) none) (zeNd 82 (zeLf 79 (some (zoCv 3 13 1 82)) none) (zeLf 82 (some (zoRetV)) none)))))))
set_option maxRecDepth 20000 in
theorem zt_14_ok (G : zeG) : ∀ x op, zt_14 x = some op → zeSnd G 14 x op := (zeNd_ok (zeNd_ok (zeNd_ok (zeNd_ok (zeNd_ok (zeLf_ok (zs_aload_n (f := 0) (by decide +kernel) rfl rfl)) (zeLf_ok (zs_aload_n (f := 1) (by decide +kernel) rfl rfl))) (zeNd_ok (zeLf_ok (zs_gf zo_14 zc_6 zin_6 (by decide) rfl zm_129 rfl (by decide +kernel) rfl)) (zeNd_ok (zeLf_ok (zs_pf (zeFd_of zo_14 zk_6 (by decide) zm_129 rfl (Or.inl rfl)) rfl rfl (by decide +kernel) rfl)) (zeLf_ok (zs_aload_n (f := 0) (by decide +kernel) rfl rfl))))) (zeNd_ok (zeNd_ok (zeLf_ok (zs_aload_n (f := 1) (by decide +kernel) rfl rfl)) (zeLf_ok (zs_gf zo_14 zc_6 zin_6 (by decide) rfl zm_131 rfl (by decide +kernel) rfl))) (zeNd_ok (zeLf_ok (zs_pf (zeFd_of zo_14 zk_6 (by decide) zm_131 rfl (Or.inl rfl)) rfl rfl (by decide +kernel) rfl)) (zeNd_ok (zeLf_ok (zs_aload_n (f := 0) (by decide +kernel) rfl rfl)) (zeLf_ok (zs_aload_n (f := 1) (by decide +kernel) rfl rfl)))))) (zeNd_ok (zeNd_ok (zeNd_ok (zeLf_ok (zs_gf zo_14 zc_6 zin_6 (by decide) rfl zm_133 rfl (by decide +kernel) rfl)) (zeLf_ok (zs_pf (zeFd_of zo_14 zk_6 (by decide) zm_133 rfl (Or.inl rfl)) rfl rfl (by decide +kernel) rfl))) (zeNd_ok (zeLf_ok (zs_aload_n (f := 0) (by decide +kernel) rfl rfl)) (zeNd_ok (zeLf_ok (zs_aload_n (f := 1) (by decide +kernel) rfl rfl)) (zeLf_ok (zs_gf zo_14 zc_6 zin_6 (by decide) rfl zm_135 rfl (by decide +kernel) rfl))))) (zeNd_ok (zeNd_ok (zeLf_ok (zs_pf (zeFd_of zo_14 zk_6 (by decide) zm_135 rfl (Or.inl rfl)) rfl rfl (by decide +kernel) rfl)) (zeLf_ok (zs_aload_n (f := 1) (by decide +kernel) rfl rfl))) (zeNd_ok (zeLf_ok (zs_gr zo_14 zc_6 zin_6 (by decide) rfl zm_137 rfl (by decide +kernel) rfl)) (zeNd_ok (zeLf_ok (zs_iconst (c := 0) (by decide +kernel) (by decide) rfl)) (zeLf_ok (zs_aload_n (f := 0) (by decide +kernel) rfl rfl))))))) (zeNd_ok (zeNd_ok (zeNd_ok (zeNd_ok (zeLf_ok (zs_gr zo_14 zc_6 zin_6 (by decide) rfl zm_137 rfl (by decide +kernel) rfl)) (zeLf_ok (zs_iconst (c := 0) (by decide +kernel) (by decide) rfl))) (zeNd_ok (zeLf_ok (zs_getsN zo_14 (fun s h => ⟨h.1, h.2.2.2.2.2.2.2.2.2.2.2.2.2.2⟩) (by decide +kernel) rfl)) (zeNd_ok (zeLf_ok (zs_alenO (by decide +kernel) rfl)) (zeLf_ok (zs_cpI zo_14 zm_316 zm_318 zm_317 zm_14 (by decide) (by decide) (by decide +kernel) rfl))))) (zeNd_ok (zeNd_ok (zeLf_ok (zs_aload_n (f := 0) (by decide +kernel) rfl rfl)) (zeLf_ok (zs_gr zo_14 zc_6 zin_6 (by decide) rfl zm_139 rfl (by decide +kernel) rfl))) (zeNd_ok (zeLf_ok (zs_aload_n (f := 1) (by decide +kernel) rfl rfl)) (zeNd_ok (zeLf_ok (zs_gr zo_14 zc_6 zin_6 (by decide) rfl zm_139 rfl (by decide +kernel) rfl)) (zeLf_ok (zs_cv zo_14 zc_3 rfl (zeCw_of zcal_11 (by decide +kernel)) (by decide) zm_319 zm_320 zm_321 (by decide +kernel) rfl)))))) (zeNd_ok (zeNd_ok (zeNd_ok (zeLf_ok (zs_aload_n (f := 0) (by decide +kernel) rfl rfl)) (zeLf_ok (zs_gr zo_14 zc_6 zin_6 (by decide) rfl zm_141 rfl (by decide +kernel) rfl))) (zeNd_ok (zeLf_ok (zs_aload_n (f := 1) (by decide +kernel) rfl rfl)) (zeNd_ok (zeLf_ok (zs_gr zo_14 zc_6 zin_6 (by decide) rfl zm_141 rfl (by decide +kernel) rfl)) (zeLf_ok (zs_cv zo_14 zc_0 rfl (zeCw_of zcal_12 (by decide +kernel)) (by decide) zm_324 zm_325 zm_326 (by decide +kernel) rfl))))) (zeNd_ok (zeNd_ok (zeLf_ok (zs_aload_n (f := 0) (by decide +kernel) rfl rfl)) (zeNd_ok (zeLf_ok (zs_gr zo_14 zc_6 zin_6 (by decide) rfl zm_143 rfl (by decide +kernel) rfl)) (zeLf_ok (zs_aload_n (f := 1) (by decide +kernel) rfl rfl)))) (zeNd_ok (zeLf_ok (zs_gr zo_14 zc_6 zin_6 (by decide) rfl zm_143 rfl (by decide +kernel) rfl)) (zeNd_ok (zeLf_ok (zs_cv zo_14 zc_2 rfl (zeCw_of zcal_13 (by decide +kernel)) (by decide) zm_329 zm_330 zm_331 (by decide +kernel) rfl)) (zeLf_ok (zs_return rfl (by decide +kernel)))))))))
theorem zo_15 : (zeNam 15).cls = "WagerQuiz$History" := rfl
theorem zg_15 : zeLg 15 = false := rfl
def zt_15 : Nat → Option zeOp := (zeNd 8 (zeNd 4 (zeNd 1 (zeLf 0 (some (zoAl 0 1)) none) (zeLf 1 (some (zoGr 1 2 4)) none)) (zeNd 5 (zeLf 4 (some (zoAl 0 5)) none) (zeLf 5 (some (zoGf 1 1 8)) none))) (zeNd 10 (zeNd 9 (zeLf 8 (some (zoAld 9)) none) (zeLf 9 (some (zoAl 1 10)) none)) (zeNd 13 (zeLf 10 (some (zoCv 7 14 1 13)) none) (zeLf 13 (some (zoRetV)) none))))
set_option maxRecDepth 20000 in
theorem zt_15_ok (G : zeG) : ∀ x op, zt_15 x = some op → zeSnd G 15 x op := (zeNd_ok (zeNd_ok (zeNd_ok (zeLf_ok (zs_aload_n (f := 0) (by decide +kernel) rfl rfl)) (zeLf_ok (zs_gr zo_15 zc_1 zin_1 (by decide) rfl zm_222 rfl (by decide +kernel) rfl))) (zeNd_ok (zeLf_ok (zs_aload_n (f := 0) (by decide +kernel) rfl rfl)) (zeLf_ok (zs_gf zo_15 zc_1 zin_1 (by decide) rfl zm_221 rfl (by decide +kernel) rfl)))) (zeNd_ok (zeNd_ok (zeLf_ok (zs_aaload (by decide +kernel) rfl)) (zeLf_ok (zs_aload_n (f := 1) (by decide +kernel) rfl rfl))) (zeNd_ok (zeLf_ok (zs_cv zo_15 zc_6 rfl (zeCw_of zcal_14 (by decide +kernel)) (by decide) zm_310 zm_311 zm_312 (by decide +kernel) rfl)) (zeLf_ok (zs_return rfl (by decide +kernel))))))
theorem zo_16 : (zeNam 16).cls = "WagerQuiz" := rfl
theorem zg_16 : zeLg 16 = false := rfl
def zt_16 : Nat → Option zeOp := (zeNd 14 (zeNd 7 (zeNd 1 (zeLf 0 (some (zoAl 0 1)) none) (zeNd 4 (zeLf 1 (some (zoGr 7 0 4)) none) (zeLf 4 (some (zoGf 6 0 7)) none))) (zeNd 10 (zeLf 7 (some (zoZeq 10 24)) none) (zeNd 11 (zeLf 10 (some (zoAl 0 11)) none) (zeLf 11 (some (zoGr 7 0 14)) none)))) (zeNd 21 (zeNd 17 (zeLf 14 (some (zoGf 6 3 17)) none) (zeNd 20 (zeLf 17 (some (zoZeq 20 24)) none) (zeLf 20 (some (zoIc 1 21)) none))) (zeNd 24 (zeLf 21 (some (zoGo 25)) none) (zeNd 25 (zeLf 24 (some (zoIc 0 25)) none) (zeLf 25 (some (zoRetS .boolean)) none)))))
set_option maxRecDepth 20000 in
theorem zt_16_ok (G : zeG) : ∀ x op, zt_16 x = some op → zeSnd G 16 x op := (zeNd_ok (zeNd_ok (zeNd_ok (zeLf_ok (zs_aload_n (f := 0) (by decide +kernel) rfl rfl)) (zeNd_ok (zeLf_ok (zs_gr zo_16 zc_7 zin_7 (by decide) rfl zm_277 rfl (by decide +kernel) rfl)) (zeLf_ok (zs_gf zo_16 zc_6 zin_6 (by decide) rfl zm_130 rfl (by decide +kernel) rfl)))) (zeNd_ok (zeLf_ok (zs_if_ne (off := 17) (by decide +kernel) (by decide) rfl)) (zeNd_ok (zeLf_ok (zs_aload_n (f := 0) (by decide +kernel) rfl rfl)) (zeLf_ok (zs_gr zo_16 zc_7 zin_7 (by decide) rfl zm_277 rfl (by decide +kernel) rfl))))) (zeNd_ok (zeNd_ok (zeLf_ok (zs_gf zo_16 zc_6 zin_6 (by decide) rfl zm_136 rfl (by decide +kernel) rfl)) (zeNd_ok (zeLf_ok (zs_if_ne (off := 7) (by decide +kernel) (by decide) rfl)) (zeLf_ok (zs_iconst (c := 1) (by decide +kernel) (by decide) rfl)))) (zeNd_ok (zeLf_ok (zs_goto (off := 4) (by decide +kernel) (by decide))) (zeNd_ok (zeLf_ok (zs_iconst (c := 0) (by decide +kernel) (by decide) rfl)) (zeLf_ok (zs_zreturn rfl (Or.inl rfl) (by decide +kernel)))))))
theorem zo_17 : (zeNam 17).cls = "WagerQuiz" := rfl
theorem zg_17 : zeLg 17 = false := rfl
def zt_17 : Nat → Option zeOp := (zeNd 2 (zeNd 1 (zeLf 0 (some (zoAl 0 1)) none) (zeLf 1 (some (zoIl 1 2)) none)) (zeNd 5 (zeLf 2 (some (zoPf 7 7 5)) none) (zeNd 8 (zeLf 5 (some (zoIc (-10000003) 8)) none) (zeLf 8 (some (zoRetI)) none))))
set_option maxRecDepth 20000 in
theorem zt_17_ok (G : zeG) : ∀ x op, zt_17 x = some op → zeSnd G 17 x op := (zeNd_ok (zeNd_ok (zeLf_ok (zs_aload_n (f := 0) (by decide +kernel) rfl rfl)) (zeLf_ok (zs_iload_n (f := 1) (by decide +kernel) rfl rfl))) (zeNd_ok (zeLf_ok (zs_pf (zeFd_of zo_17 zk_7 (by decide) zm_284 rfl (Or.inl rfl)) rfl rfl (by decide +kernel) rfl)) (zeNd_ok (zeLf_ok (zs_ldcw zo_17 zm_346 (by decide +kernel) rfl)) (zeLf_ok (zs_ireturn rfl (by decide +kernel))))))
theorem zo_18 : (zeNam 18).cls = "WagerQuiz" := rfl
theorem zg_18 : zeLg 18 = false := rfl
def zt_18 : Nat → Option zeOp := (zeNd 27 (zeNd 12 (zeNd 7 (zeNd 1 (zeLf 0 (some (zoAl 0 1)) none) (zeNd 4 (zeLf 1 (some (zoCv 8 16 0 4)) none) (zeLf 4 (some (zoZeq 7 13)) none))) (zeNd 8 (zeLf 7 (some (zoAl 0 8)) none) (zeNd 9 (zeLf 8 (some (zoIc 1 9)) none) (zeLf 9 (some (zoCv 8 17 1 12)) none)))) (zeNd 17 (zeNd 13 (zeLf 12 (some (zoRetI)) none) (zeNd 14 (zeLf 13 (some (zoAl 0 14)) none) (zeLf 14 (some (zoGr 7 0 17)) none))) (zeNd 22 (zeNd 20 (zeLf 17 (some (zoGf 6 1 20)) none) (zeLf 20 (some (zoIc 6 22)) none)) (zeNd 25 (zeLf 22 (some (zoClt 28 25)) none) (zeLf 25 (some (zoIc (-10000004) 27)) none))))) (zeNd 38 (zeNd 32 (zeNd 28 (zeLf 27 (some (zoRetI)) none) (zeNd 29 (zeLf 28 (some (zoAl 0 29)) none) (zeLf 29 (some (zoGr 7 0 32)) none))) (zeNd 36 (zeNd 33 (zeLf 32 (some (zoDup 33)) none) (zeLf 33 (some (zoGf 6 1 36)) none)) (zeNd 37 (zeLf 36 (some (zoIc 1 37)) none) (zeLf 37 (some (zoI2 zfiadd 38)) none)))) (zeNd 45 (zeNd 41 (zeLf 38 (some (zoPf 6 1 41)) none) (zeNd 42 (zeLf 41 (some (zoAl 0 42)) none) (zeLf 42 (some (zoGr 7 0 45)) none))) (zeNd 49 (zeNd 48 (zeLf 45 (some (zoGf 6 1 48)) none) (zeLf 48 (some (zoIc 1 49)) none)) (zeNd 50 (zeLf 49 (some (zoI2 zfisub 50)) none) (zeLf 50 (some (zoRetI)) none))))))
set_option maxRecDepth 20000 in
theorem zt_18_ok (G : zeG) : ∀ x op, zt_18 x = some op → zeSnd G 18 x op := (zeNd_ok (zeNd_ok (zeNd_ok (zeNd_ok (zeLf_ok (zs_aload_n (f := 0) (by decide +kernel) rfl rfl)) (zeNd_ok (zeLf_ok (zs_cv zo_18 zc_7 rfl (zeCw_of zcal_16 (by decide +kernel)) (by decide) zm_338 zm_340 zmp_1 (by decide +kernel) rfl)) (zeLf_ok (zs_if_ne (off := 9) (by decide +kernel) (by decide) rfl)))) (zeNd_ok (zeLf_ok (zs_aload_n (f := 0) (by decide +kernel) rfl rfl)) (zeNd_ok (zeLf_ok (zs_iconst (c := 1) (by decide +kernel) (by decide) rfl)) (zeLf_ok (zs_cv zo_18 zc_7 rfl (zeCw_of zcal_17 (by decide +kernel)) (by decide) zm_342 zm_344 zmp_2 (by decide +kernel) rfl))))) (zeNd_ok (zeNd_ok (zeLf_ok (zs_ireturn rfl (by decide +kernel))) (zeNd_ok (zeLf_ok (zs_aload_n (f := 0) (by decide +kernel) rfl rfl)) (zeLf_ok (zs_gr zo_18 zc_7 zin_7 (by decide) rfl zm_277 rfl (by decide +kernel) rfl)))) (zeNd_ok (zeNd_ok (zeLf_ok (zs_gf zo_18 zc_6 zin_6 (by decide) rfl zm_132 rfl (by decide +kernel) rfl)) (zeLf_ok (zs_bipush (c := 6) (by decide +kernel) (by decide) rfl))) (zeNd_ok (zeLf_ok (zs_icmp_lt (off := 6) (by decide +kernel) (by decide) rfl)) (zeLf_ok (zs_ldc zo_18 zm_347 (by decide +kernel) rfl)))))) (zeNd_ok (zeNd_ok (zeNd_ok (zeLf_ok (zs_ireturn rfl (by decide +kernel))) (zeNd_ok (zeLf_ok (zs_aload_n (f := 0) (by decide +kernel) rfl rfl)) (zeLf_ok (zs_gr zo_18 zc_7 zin_7 (by decide) rfl zm_277 rfl (by decide +kernel) rfl)))) (zeNd_ok (zeNd_ok (zeLf_ok (zs_dup (by decide +kernel) rfl)) (zeLf_ok (zs_gf zo_18 zc_6 zin_6 (by decide) rfl zm_132 rfl (by decide +kernel) rfl))) (zeNd_ok (zeLf_ok (zs_iconst (c := 1) (by decide +kernel) (by decide) rfl)) (zeLf_ok (zs_iadd (by decide +kernel) rfl))))) (zeNd_ok (zeNd_ok (zeLf_ok (zs_pf (zeFd_of zo_18 zk_6 (by decide) zm_132 rfl (Or.inl rfl)) rfl rfl (by decide +kernel) rfl)) (zeNd_ok (zeLf_ok (zs_aload_n (f := 0) (by decide +kernel) rfl rfl)) (zeLf_ok (zs_gr zo_18 zc_7 zin_7 (by decide) rfl zm_277 rfl (by decide +kernel) rfl)))) (zeNd_ok (zeNd_ok (zeLf_ok (zs_gf zo_18 zc_6 zin_6 (by decide) rfl zm_132 rfl (by decide +kernel) rfl)) (zeLf_ok (zs_iconst (c := 1) (by decide +kernel) (by decide) rfl))) (zeNd_ok (zeLf_ok (zs_isub (by decide +kernel) rfl)) (zeLf_ok (zs_ireturn rfl (by decide +kernel))))))))
theorem zo_19 : (zeNam 19).cls = "WagerQuiz" := rfl
theorem zg_19 : zeLg 19 = false := rfl
def zt_19 : Nat → Option zeOp := (zeNd 16 (zeNd 7 (zeNd 3 (zeNd 1 (zeLf 0 (some (zoIl 0 1)) none) (zeLf 1 (some (zoIc (-10000001) 3)) none)) (zeNd 6 (zeLf 3 (some (zoCeq 25 6)) none) (zeLf 6 (some (zoIl 0 7)) none))) (zeNd 12 (zeNd 9 (zeLf 7 (some (zoIc (-10000002) 9)) none) (zeLf 9 (some (zoCeq 25 12)) none)) (zeNd 13 (zeLf 12 (some (zoIl 0 13)) none) (zeLf 13 (some (zoIc (-10000003) 16)) none)))) (zeNd 25 (zeNd 20 (zeNd 19 (zeLf 16 (some (zoCeq 25 19)) none) (zeLf 19 (some (zoIl 0 20)) none)) (zeNd 22 (zeLf 20 (some (zoIc (-10000004) 22)) none) (zeLf 22 (some (zoCeq 25 29)) none))) (zeNd 29 (zeNd 26 (zeLf 25 (some (zoIc 1 26)) none) (zeLf 26 (some (zoGo 30)) none)) (zeNd 30 (zeLf 29 (some (zoIc 0 30)) none) (zeLf 30 (some (zoRetS .boolean)) none)))))
set_option maxRecDepth 20000 in
theorem zt_19_ok (G : zeG) : ∀ x op, zt_19 x = some op → zeSnd G 19 x op := (zeNd_ok (zeNd_ok (zeNd_ok (zeNd_ok (zeLf_ok (zs_iload_n (f := 0) (by decide +kernel) rfl rfl)) (zeLf_ok (zs_ldc zo_19 zm_355 (by decide +kernel) rfl))) (zeNd_ok (zeLf_ok (zs_icmp_eq (off := 22) (by decide +kernel) (by decide) rfl)) (zeLf_ok (zs_iload_n (f := 0) (by decide +kernel) rfl rfl)))) (zeNd_ok (zeNd_ok (zeLf_ok (zs_ldc zo_19 zm_356 (by decide +kernel) rfl)) (zeLf_ok (zs_icmp_eq (off := 16) (by decide +kernel) (by decide) rfl))) (zeNd_ok (zeLf_ok (zs_iload_n (f := 0) (by decide +kernel) rfl rfl)) (zeLf_ok (zs_ldcw zo_19 zm_346 (by decide +kernel) rfl))))) (zeNd_ok (zeNd_ok (zeNd_ok (zeLf_ok (zs_icmp_eq (off := 9) (by decide +kernel) (by decide) rfl)) (zeLf_ok (zs_iload_n (f := 0) (by decide +kernel) rfl rfl))) (zeNd_ok (zeLf_ok (zs_ldc zo_19 zm_347 (by decide +kernel) rfl)) (zeLf_ok (zs_icmp_ne (off := 7) (by decide +kernel) (by decide) rfl)))) (zeNd_ok (zeNd_ok (zeLf_ok (zs_iconst (c := 1) (by decide +kernel) (by decide) rfl)) (zeLf_ok (zs_goto (off := 4) (by decide +kernel) (by decide)))) (zeNd_ok (zeLf_ok (zs_iconst (c := 0) (by decide +kernel) (by decide) rfl)) (zeLf_ok (zs_zreturn rfl (Or.inl rfl) (by decide +kernel)))))))
theorem zo_20 : (zeNam 20).cls = "WagerQuiz$History" := rfl
theorem zg_20 : zeLg 20 = false := rfl
def zt_20 : Nat → Option zeOp := (zeNd 19 (zeNd 9 (zeNd 2 (zeNd 1 (zeLf 0 (some (zoAl 0 1)) none) (zeLf 1 (some (zoAl 0 2)) none)) (zeNd 5 (zeLf 2 (some (zoGf 1 1 5)) none) (zeNd 6 (zeLf 5 (some (zoIc 5 6)) none) (zeLf 6 (some (zoCeq 9 13)) none)))) (zeNd 14 (zeNd 10 (zeLf 9 (some (zoIc 0 10)) none) (zeNd 13 (zeLf 10 (some (zoGo 19)) none) (zeLf 13 (some (zoAl 0 14)) none))) (zeNd 17 (zeLf 14 (some (zoGf 1 1 17)) none) (zeNd 18 (zeLf 17 (some (zoIc 1 18)) none) (zeLf 18 (some (zoI2 zfiadd 19)) none))))) (zeNd 31 (zeNd 26 (zeNd 22 (zeLf 19 (some (zoPf 1 1 22)) none) (zeNd 23 (zeLf 22 (some (zoAl 0 23)) none) (zeLf 23 (some (zoGf 1 0 26)) none))) (zeNd 27 (zeLf 26 (some (zoIc 5 27)) none) (zeNd 30 (zeLf 27 (some (zoCge 40 30)) none) (zeLf 30 (some (zoAl 0 31)) none)))) (zeNd 36 (zeNd 32 (zeLf 31 (some (zoDup 32)) none) (zeNd 35 (zeLf 32 (some (zoGf 1 0 35)) none) (zeLf 35 (some (zoIc 1 36)) none))) (zeNd 37 (zeLf 36 (some (zoI2 zfiadd 37)) none) (zeNd 40 (zeLf 37 (some (zoPf 1 0 40)) none) (zeLf 40 (some (zoRetV)) none))))))
set_option maxRecDepth 20000 in
theorem zt_20_ok (G : zeG) : ∀ x op, zt_20 x = some op → zeSnd G 20 x op := (zeNd_ok (zeNd_ok (zeNd_ok (zeNd_ok (zeLf_ok (zs_aload_n (f := 0) (by decide +kernel) rfl rfl)) (zeLf_ok (zs_aload_n (f := 0) (by decide +kernel) rfl rfl))) (zeNd_ok (zeLf_ok (zs_gf zo_20 zc_1 zin_1 (by decide) rfl zm_221 rfl (by decide +kernel) rfl)) (zeNd_ok (zeLf_ok (zs_iconst (c := 5) (by decide +kernel) (by decide) rfl)) (zeLf_ok (zs_icmp_ne (off := 7) (by decide +kernel) (by decide) rfl))))) (zeNd_ok (zeNd_ok (zeLf_ok (zs_iconst (c := 0) (by decide +kernel) (by decide) rfl)) (zeNd_ok (zeLf_ok (zs_goto (off := 9) (by decide +kernel) (by decide))) (zeLf_ok (zs_aload_n (f := 0) (by decide +kernel) rfl rfl)))) (zeNd_ok (zeLf_ok (zs_gf zo_20 zc_1 zin_1 (by decide) rfl zm_221 rfl (by decide +kernel) rfl)) (zeNd_ok (zeLf_ok (zs_iconst (c := 1) (by decide +kernel) (by decide) rfl)) (zeLf_ok (zs_iadd (by decide +kernel) rfl)))))) (zeNd_ok (zeNd_ok (zeNd_ok (zeLf_ok (zs_pf (zeFd_of zo_20 zk_1 (by decide) zm_221 rfl (Or.inl rfl)) rfl rfl (by decide +kernel) rfl)) (zeNd_ok (zeLf_ok (zs_aload_n (f := 0) (by decide +kernel) rfl rfl)) (zeLf_ok (zs_gf zo_20 zc_1 zin_1 (by decide) rfl zm_219 rfl (by decide +kernel) rfl)))) (zeNd_ok (zeLf_ok (zs_iconst (c := 5) (by decide +kernel) (by decide) rfl)) (zeNd_ok (zeLf_ok (zs_icmp_ge (off := 13) (by decide +kernel) (by decide) rfl)) (zeLf_ok (zs_aload_n (f := 0) (by decide +kernel) rfl rfl))))) (zeNd_ok (zeNd_ok (zeLf_ok (zs_dup (by decide +kernel) rfl)) (zeNd_ok (zeLf_ok (zs_gf zo_20 zc_1 zin_1 (by decide) rfl zm_219 rfl (by decide +kernel) rfl)) (zeLf_ok (zs_iconst (c := 1) (by decide +kernel) (by decide) rfl)))) (zeNd_ok (zeLf_ok (zs_iadd (by decide +kernel) rfl)) (zeNd_ok (zeLf_ok (zs_pf (zeFd_of zo_20 zk_1 (by decide) zm_219 rfl (Or.inl rfl)) rfl rfl (by decide +kernel) rfl)) (zeLf_ok (zs_return rfl (by decide +kernel))))))))
theorem zo_21 : (zeNam 21).cls = "WagerQuiz" := rfl
theorem zg_21 : zeLg 21 = false := rfl
def zt_21 : Nat → Option zeOp := (zeNd 10 (zeNd 4 (zeNd 1 (zeLf 0 (some (zoIl 1 1)) none) (zeLf 1 (some (zoCs 19 1 4)) none)) (zeNd 7 (zeLf 4 (some (zoZeq 7 20)) none) (zeNd 8 (zeLf 7 (some (zoIl 1 8)) none) (zeLf 8 (some (zoIc (-10000005) 10)) none)))) (zeNd 17 (zeNd 13 (zeLf 10 (some (zoCeq 20 13)) none) (zeNd 14 (zeLf 13 (some (zoAl 0 14)) none) (zeLf 14 (some (zoGr 7 2 17)) none))) (zeNd 20 (zeLf 17 (some (zoCv 2 20 0 20)) none) (zeNd 21 (zeLf 20 (some (zoIl 1 21)) none) (zeLf 21 (some (zoRetI)) none)))))
set_option maxRecDepth 20000 in
theorem zt_21_ok (G : zeG) : ∀ x op, zt_21 x = some op → zeSnd G 21 x op := (zeNd_ok (zeNd_ok (zeNd_ok (zeLf_ok (zs_iload_n (f := 1) (by decide +kernel) rfl rfl)) (zeLf_ok (zs_cs zo_21 (zeCw_of zcal_19 (by decide +kernel)) (by decide) zm_352 zm_353 (by decide +kernel) rfl))) (zeNd_ok (zeLf_ok (zs_if_ne (off := 16) (by decide +kernel) (by decide) rfl)) (zeNd_ok (zeLf_ok (zs_iload_n (f := 1) (by decide +kernel) rfl rfl)) (zeLf_ok (zs_ldc zo_21 zm_357 (by decide +kernel) rfl))))) (zeNd_ok (zeNd_ok (zeLf_ok (zs_icmp_eq (off := 10) (by decide +kernel) (by decide) rfl)) (zeNd_ok (zeLf_ok (zs_aload_n (f := 0) (by decide +kernel) rfl rfl)) (zeLf_ok (zs_gr zo_21 zc_7 zin_7 (by decide) rfl zm_279 rfl (by decide +kernel) rfl)))) (zeNd_ok (zeLf_ok (zs_cv zo_21 zc_1 rfl (zeCw_of zcal_20 (by decide +kernel)) (by decide) zm_358 zm_359 zm_360 (by decide +kernel) rfl)) (zeNd_ok (zeLf_ok (zs_iload_n (f := 1) (by decide +kernel) rfl rfl)) (zeLf_ok (zs_ireturn rfl (by decide +kernel)))))))
theorem zo_22 : (zeNam 22).cls = "WagerQuiz" := rfl
theorem zg_22 : zeLg 22 = false := rfl
def zt_22 : Nat → Option zeOp := (zeNd 11 (zeNd 4 (zeNd 1 (zeLf 0 (some (zoAl 0 1)) none) (zeLf 1 (some (zoGr 7 2 4)) none)) (zeNd 5 (zeLf 4 (some (zoAl 0 5)) none) (zeNd 8 (zeLf 5 (some (zoGr 7 0 8)) none) (zeLf 8 (some (zoCv 2 15 1 11)) none)))) (zeNd 13 (zeNd 12 (zeLf 11 (some (zoAl 0 12)) none) (zeLf 12 (some (zoAl 0 13)) none)) (zeNd 16 (zeLf 13 (some (zoCv 8 18 0 16)) none) (zeNd 19 (zeLf 16 (some (zoCv 8 21 1 19)) none) (zeLf 19 (some (zoRetI)) none)))))
set_option maxRecDepth 20000 in
theorem zt_22_ok (G : zeG) : ∀ x op, zt_22 x = some op → zeSnd G 22 x op := (zeNd_ok (zeNd_ok (zeNd_ok (zeLf_ok (zs_aload_n (f := 0) (by decide +kernel) rfl rfl)) (zeLf_ok (zs_gr zo_22 zc_7 zin_7 (by decide) rfl zm_279 rfl (by decide +kernel) rfl))) (zeNd_ok (zeLf_ok (zs_aload_n (f := 0) (by decide +kernel) rfl rfl)) (zeNd_ok (zeLf_ok (zs_gr zo_22 zc_7 zin_7 (by decide) rfl zm_277 rfl (by decide +kernel) rfl)) (zeLf_ok (zs_cv zo_22 zc_1 rfl (zeCw_of zcal_15 (by decide +kernel)) (by decide) zm_306 zm_307 zm_308 (by decide +kernel) rfl))))) (zeNd_ok (zeNd_ok (zeLf_ok (zs_aload_n (f := 0) (by decide +kernel) rfl rfl)) (zeLf_ok (zs_aload_n (f := 0) (by decide +kernel) rfl rfl))) (zeNd_ok (zeLf_ok (zs_cv zo_22 zc_7 rfl (zeCw_of zcal_18 (by decide +kernel)) (by decide) zm_334 zm_336 zmp_0 (by decide +kernel) rfl)) (zeNd_ok (zeLf_ok (zs_cv zo_22 zc_7 rfl (zeCw_of zcal_21 (by decide +kernel)) (by decide) zm_348 zm_350 zmp_3 (by decide +kernel) rfl)) (zeLf_ok (zs_ireturn rfl (by decide +kernel)))))))
theorem zo_23 : (zeNam 23).cls = "WagerQuizModel" := rfl
theorem zg_23 : zeLg 23 = false := rfl
def zt_23 : Nat → Option zeOp := (zeNd 14 (zeNd 6 (zeNd 1 (zeLf 0 (some (zoAl 0 1)) none) (zeNd 4 (zeLf 1 (some (zoGr 8 0 4)) none) (zeLf 4 (some (zoIc 10 6)) none))) (zeNd 10 (zeNd 7 (zeLf 6 (some (zoLd 40 7)) none) (zeLf 7 (some (zoZeq 10 19)) none)) (zeNd 11 (zeLf 10 (some (zoAl 0 11)) none) (zeLf 11 (some (zoGr 8 0 14)) none)))) (zeNd 19 (zeNd 15 (zeLf 14 (some (zoIc 0 15)) none) (zeNd 16 (zeLf 15 (some (zoLd 40 16)) none) (zeLf 16 (some (zoZeq 23 19)) none))) (zeNd 23 (zeNd 20 (zeLf 19 (some (zoIc 1 20)) none) (zeLf 20 (some (zoGo 24)) none)) (zeNd 24 (zeLf 23 (some (zoIc 0 24)) none) (zeLf 24 (some (zoRetS .boolean)) none)))))
set_option maxRecDepth 20000 in
theorem zt_23_ok (G : zeG) : ∀ x op, zt_23 x = some op → zeSnd G 23 x op := (zeNd_ok (zeNd_ok (zeNd_ok (zeLf_ok (zs_aload_n (f := 0) (by decide +kernel) rfl rfl)) (zeNd_ok (zeLf_ok (zs_gr zo_23 zc_8 zin_8 (by decide) rfl zm_966 rfl (by decide +kernel) rfl)) (zeLf_ok (zs_bipush (c := 10) (by decide +kernel) (by decide) rfl)))) (zeNd_ok (zeNd_ok (zeLf_ok (zs_iaload (by decide +kernel) rfl)) (zeLf_ok (zs_if_ne (off := 12) (by decide +kernel) (by decide) rfl))) (zeNd_ok (zeLf_ok (zs_aload_n (f := 0) (by decide +kernel) rfl rfl)) (zeLf_ok (zs_gr zo_23 zc_8 zin_8 (by decide) rfl zm_966 rfl (by decide +kernel) rfl))))) (zeNd_ok (zeNd_ok (zeLf_ok (zs_iconst (c := 0) (by decide +kernel) (by decide) rfl)) (zeNd_ok (zeLf_ok (zs_iaload (by decide +kernel) rfl)) (zeLf_ok (zs_if_eq (off := 7) (by decide +kernel) (by decide) rfl)))) (zeNd_ok (zeNd_ok (zeLf_ok (zs_iconst (c := 1) (by decide +kernel) (by decide) rfl)) (zeLf_ok (zs_goto (off := 4) (by decide +kernel) (by decide)))) (zeNd_ok (zeLf_ok (zs_iconst (c := 0) (by decide +kernel) (by decide) rfl)) (zeLf_ok (zs_zreturn rfl (Or.inl rfl) (by decide +kernel)))))))
theorem zo_24 : (zeNam 24).cls = "WagerQuizModel" := rfl
theorem zg_24 : zeLg 24 = false := rfl
def zt_24 : Nat → Option zeOp := (zeNd 2 (zeNd 1 (zeLf 0 (some (zoAl 0 1)) none) (zeLf 1 (some (zoIl 1 2)) none)) (zeNd 5 (zeLf 2 (some (zoPf 8 5 5)) none) (zeNd 7 (zeLf 5 (some (zoIc (-10000003) 7)) none) (zeLf 7 (some (zoRetI)) none))))
set_option maxRecDepth 20000 in
theorem zt_24_ok (G : zeG) : ∀ x op, zt_24 x = some op → zeSnd G 24 x op := (zeNd_ok (zeNd_ok (zeLf_ok (zs_aload_n (f := 0) (by decide +kernel) rfl rfl)) (zeLf_ok (zs_iload_n (f := 1) (by decide +kernel) rfl rfl))) (zeNd_ok (zeLf_ok (zs_pf (zeFd_of zo_24 zk_8 (by decide) zm_971 rfl (Or.inl rfl)) rfl rfl (by decide +kernel) rfl)) (zeNd_ok (zeLf_ok (zs_ldc zo_24 zm_1066 (by decide +kernel) rfl)) (zeLf_ok (zs_ireturn rfl (by decide +kernel))))))
theorem zo_25 : (zeNam 25).cls = "WagerQuizModel" := rfl
theorem zg_25 : zeLg 25 = false := rfl
def zt_25 : Nat → Option zeOp := (zeNd 48 (zeNd 24 (zeNd 13 (zeNd 5 (zeNd 1 (zeLf 0 (some (zoAl 0 1)) none) (zeNd 4 (zeLf 1 (some (zoGf 8 2 4)) none) (zeLf 4 (some (zoIc 5 5)) none))) (zeNd 9 (zeNd 8 (zeLf 5 (some (zoCeq 8 54)) none) (zeLf 8 (some (zoAl 0 9)) none)) (zeNd 10 (zeLf 9 (some (zoDup 10)) none) (zeLf 10 (some (zoGf 8 2 13)) none)))) (zeNd 18 (zeNd 14 (zeLf 13 (some (zoIc 1 14)) none) (zeNd 15 (zeLf 14 (some (zoI2 zfisub 15)) none) (zeLf 15 (some (zoPf 8 2 18)) none))) (zeNd 20 (zeNd 19 (zeLf 18 (some (zoIc 0 19)) none) (zeLf 19 (some (zoIs 1 20)) none)) (zeNd 21 (zeLf 20 (some (zoIl 1 21)) none) (zeLf 21 (some (zoIc 360 24)) none))))) (zeNd 37 (zeNd 29 (zeNd 25 (zeLf 24 (some (zoAl 0 25)) none) (zeNd 28 (zeLf 25 (some (zoGf 8 2 28)) none) (zeLf 28 (some (zoI2 zfimul 29)) none))) (zeNd 33 (zeNd 32 (zeLf 29 (some (zoCge 54 32)) none) (zeLf 32 (some (zoAl 0 33)) none)) (zeNd 36 (zeLf 33 (some (zoGr 8 1 36)) none) (zeLf 36 (some (zoIl 1 37)) none)))) (zeNd 42 (zeNd 38 (zeLf 37 (some (zoAl 0 38)) none) (zeNd 41 (zeLf 38 (some (zoGr 8 1 41)) none) (zeLf 41 (some (zoIl 1 42)) none))) (zeNd 46 (zeNd 45 (zeLf 42 (some (zoIc 360 45)) none) (zeLf 45 (some (zoI2 zfiadd 46)) none)) (zeNd 47 (zeLf 46 (some (zoLd 40 47)) none) (zeLf 47 (some (zoSt 40 48)) none)))))) (zeNd 76 (zeNd 63 (zeNd 55 (zeNd 51 (zeLf 48 (some (zoInc 1 1 51)) none) (zeNd 54 (zeLf 51 (some (zoGo 20)) none) (zeLf 54 (some (zoIc 0 55)) none))) (zeNd 57 (zeNd 56 (zeLf 55 (some (zoIs 1 56)) none) (zeLf 56 (some (zoIl 1 57)) none)) (zeNd 60 (zeLf 57 (some (zoIc 360 60)) none) (zeLf 60 (some (zoCge 90 63)) none)))) (zeNd 70 (zeNd 64 (zeLf 63 (some (zoAl 0 64)) none) (zeNd 67 (zeLf 64 (some (zoGr 8 1 67)) none) (zeLf 67 (some (zoIc 360 70)) none))) (zeNd 74 (zeNd 71 (zeLf 70 (some (zoAl 0 71)) none) (zeLf 71 (some (zoGf 8 2 74)) none)) (zeNd 75 (zeLf 74 (some (zoI2 zfimul 75)) none) (zeLf 75 (some (zoIl 1 76)) none))))) (zeNd 87 (zeNd 81 (zeNd 77 (zeLf 76 (some (zoI2 zfiadd 77)) none) (zeNd 78 (zeLf 77 (some (zoAl 0 78)) none) (zeLf 78 (some (zoGr 8 0 81)) none))) (zeNd 83 (zeNd 82 (zeLf 81 (some (zoIl 1 82)) none) (zeLf 82 (some (zoLd 40 83)) none)) (zeNd 84 (zeLf 83 (some (zoSt 40 84)) none) (zeLf 84 (some (zoInc 1 1 87)) none)))) (zeNd 95 (zeNd 91 (zeNd 90 (zeLf 87 (some (zoGo 56)) none) (zeLf 90 (some (zoAl 0 91)) none)) (zeNd 92 (zeLf 91 (some (zoDup 92)) none) (zeLf 92 (some (zoGf 8 2 95)) none))) (zeNd 97 (zeNd 96 (zeLf 95 (some (zoIc 1 96)) none) (zeLf 96 (some (zoI2 zfiadd 97)) none)) (zeNd 100 (zeLf 97 (some (zoPf 8 2 100)) none) (zeLf 100 (some (zoRetV)) none)))))))
set_option maxRecDepth 20000 in
theorem zt_25_ok (G : zeG) : ∀ x op, zt_25 x = some op → zeSnd G 25 x op := (zeNd_ok (zeNd_ok (zeNd_ok (zeNd_ok (zeNd_ok (zeLf_ok (zs_aload_n (f := 0) (by decide +kernel) rfl rfl)) (zeNd_ok (zeLf_ok (zs_gf zo_25 zc_8 zin_8 (by decide) rfl zm_968 rfl (by decide +kernel) rfl)) (zeLf_ok (zs_iconst (c := 5) (by decide +kernel) (by decide) rfl)))) (zeNd_ok (zeNd_ok (zeLf_ok (zs_icmp_ne (off := 49) (by decide +kernel) (by decide) rfl)) (zeLf_ok (zs_aload_n (f := 0) (by decide +kernel) rfl rfl))) (zeNd_ok (zeLf_ok (zs_dup (by decide +kernel) rfl)) (zeLf_ok (zs_gf zo_25 zc_8 zin_8 (by decide) rfl zm_968 rfl (by decide +kernel) rfl))))) (zeNd_ok (zeNd_ok (zeLf_ok (zs_iconst (c := 1) (by decide +kernel) (by decide) rfl)) (zeNd_ok (zeLf_ok (zs_isub (by decide +kernel) rfl)) (zeLf_ok (zs_pf (zeFd_of zo_25 zk_8 (by decide) zm_968 rfl (Or.inl rfl)) rfl rfl (by decide +kernel) rfl)))) (zeNd_ok (zeNd_ok (zeLf_ok (zs_iconst (c := 0) (by decide +kernel) (by decide) rfl)) (zeLf_ok (zs_istore_n (f := 1) zg_25 (by decide) (by decide +kernel) rfl rfl))) (zeNd_ok (zeLf_ok (zs_iload_n (f := 1) (by decide +kernel) rfl rfl)) (zeLf_ok (zs_sipush (c := 360) (by decide +kernel) (by decide) rfl)))))) (zeNd_ok (zeNd_ok (zeNd_ok (zeLf_ok (zs_aload_n (f := 0) (by decide +kernel) rfl rfl)) (zeNd_ok (zeLf_ok (zs_gf zo_25 zc_8 zin_8 (by decide) rfl zm_968 rfl (by decide +kernel) rfl)) (zeLf_ok (zs_imul (by decide +kernel) rfl)))) (zeNd_ok (zeNd_ok (zeLf_ok (zs_icmp_ge (off := 25) (by decide +kernel) (by decide) rfl)) (zeLf_ok (zs_aload_n (f := 0) (by decide +kernel) rfl rfl))) (zeNd_ok (zeLf_ok (zs_gr zo_25 zc_8 zin_8 (by decide) rfl zm_967 rfl (by decide +kernel) rfl)) (zeLf_ok (zs_iload_n (f := 1) (by decide +kernel) rfl rfl))))) (zeNd_ok (zeNd_ok (zeLf_ok (zs_aload_n (f := 0) (by decide +kernel) rfl rfl)) (zeNd_ok (zeLf_ok (zs_gr zo_25 zc_8 zin_8 (by decide) rfl zm_967 rfl (by decide +kernel) rfl)) (zeLf_ok (zs_iload_n (f := 1) (by decide +kernel) rfl rfl)))) (zeNd_ok (zeNd_ok (zeLf_ok (zs_sipush (c := 360) (by decide +kernel) (by decide) rfl)) (zeLf_ok (zs_iadd (by decide +kernel) rfl))) (zeNd_ok (zeLf_ok (zs_iaload (by decide +kernel) rfl)) (zeLf_ok (zs_iastore (by decide +kernel) rfl))))))) (zeNd_ok (zeNd_ok (zeNd_ok (zeNd_ok (zeLf_ok (zs_iinc (c := 1) zg_25 (by decide) (by decide +kernel) (by decide) rfl)) (zeNd_ok (zeLf_ok (zs_goto (off := (-31)) (by decide +kernel) (by decide))) (zeLf_ok (zs_iconst (c := 0) (by decide +kernel) (by decide) rfl)))) (zeNd_ok (zeNd_ok (zeLf_ok (zs_istore_n (f := 1) zg_25 (by decide) (by decide +kernel) rfl rfl)) (zeLf_ok (zs_iload_n (f := 1) (by decide +kernel) rfl rfl))) (zeNd_ok (zeLf_ok (zs_sipush (c := 360) (by decide +kernel) (by decide) rfl)) (zeLf_ok (zs_icmp_ge (off := 30) (by decide +kernel) (by decide) rfl))))) (zeNd_ok (zeNd_ok (zeLf_ok (zs_aload_n (f := 0) (by decide +kernel) rfl rfl)) (zeNd_ok (zeLf_ok (zs_gr zo_25 zc_8 zin_8 (by decide) rfl zm_967 rfl (by decide +kernel) rfl)) (zeLf_ok (zs_sipush (c := 360) (by decide +kernel) (by decide) rfl)))) (zeNd_ok (zeNd_ok (zeLf_ok (zs_aload_n (f := 0) (by decide +kernel) rfl rfl)) (zeLf_ok (zs_gf zo_25 zc_8 zin_8 (by decide) rfl zm_968 rfl (by decide +kernel) rfl))) (zeNd_ok (zeLf_ok (zs_imul (by decide +kernel) rfl)) (zeLf_ok (zs_iload_n (f := 1) (by decide +kernel) rfl rfl)))))) (zeNd_ok (zeNd_ok (zeNd_ok (zeLf_ok (zs_iadd (by decide +kernel) rfl)) (zeNd_ok (zeLf_ok (zs_aload_n (f := 0) (by decide +kernel) rfl rfl)) (zeLf_ok (zs_gr zo_25 zc_8 zin_8 (by decide) rfl zm_966 rfl (by decide +kernel) rfl)))) (zeNd_ok (zeNd_ok (zeLf_ok (zs_iload_n (f := 1) (by decide +kernel) rfl rfl)) (zeLf_ok (zs_iaload (by decide +kernel) rfl))) (zeNd_ok (zeLf_ok (zs_iastore (by decide +kernel) rfl)) (zeLf_ok (zs_iinc (c := 1) zg_25 (by decide) (by decide +kernel) (by decide) rfl))))) (zeNd_ok (zeNd_ok (zeNd_ok (zeLf_ok (zs_goto (off := (-31)) (by decide +kernel) (by decide))) (zeLf_ok (zs_aload_n (f := 0) (by decide +kernel) rfl rfl))) (zeNd_ok (zeLf_ok (zs_dup (by decide +kernel) rfl)) (zeLf_ok (zs_gf zo_25 zc_8 zin_8 (by decide) rfl zm_968 rfl (by decide +kernel) rfl)))) (zeNd_ok (zeNd_ok (zeLf_ok (zs_iconst (c := 1) (by decide +kernel) (by decide) rfl)) (zeLf_ok (zs_iadd (by decide +kernel) rfl))) (zeNd_ok (zeLf_ok (zs_pf (zeFd_of zo_25 zk_8 (by decide) zm_968 rfl (Or.inl rfl)) rfl rfl (by decide +kernel) rfl)) (zeLf_ok (zs_return rfl (by decide +kernel)))))))))
theorem zo_26 : (zeNam 26).cls = "WagerQuizModel" := rfl
theorem zg_26 : zeLg 26 = false := rfl
def zt_26 : Nat → Option zeOp := (zeNd 28 (zeNd 14 (zeNd 8 (zeNd 4 (zeNd 1 (zeLf 0 (some (zoAl 0 1)) none) (zeLf 1 (some (zoCv 9 23 0 4)) none)) (zeNd 7 (zeLf 4 (some (zoZeq 13 7)) none) (zeLf 7 (some (zoAl 0 8)) none))) (zeNd 12 (zeNd 9 (zeLf 8 (some (zoIc 1 9)) none) (zeLf 9 (some (zoCv 9 24 1 12)) none)) (zeNd 13 (zeLf 12 (some (zoRetI)) none) (zeLf 13 (some (zoAl 0 14)) none)))) (zeNd 21 (zeNd 18 (zeNd 17 (zeLf 14 (some (zoGr 8 0 17)) none) (zeLf 17 (some (zoIc 1 18)) none)) (zeNd 19 (zeLf 18 (some (zoLd 40 19)) none) (zeLf 19 (some (zoIc 6 21)) none))) (zeNd 26 (zeNd 24 (zeLf 21 (some (zoCeq 24 27)) none) (zeLf 24 (some (zoIc (-10000004) 26)) none)) (zeNd 27 (zeLf 26 (some (zoRetI)) none) (zeLf 27 (some (zoAl 0 28)) none))))) (zeNd 40 (zeNd 36 (zeNd 32 (zeNd 31 (zeLf 28 (some (zoCv 9 25 0 31)) none) (zeLf 31 (some (zoAl 0 32)) none)) (zeNd 35 (zeLf 32 (some (zoGr 8 0 35)) none) (zeLf 35 (some (zoIc 1 36)) none))) (zeNd 38 (zeNd 37 (zeLf 36 (some (zoDup2 37)) none) (zeLf 37 (some (zoLd 40 38)) none)) (zeNd 39 (zeLf 38 (some (zoIc 1 39)) none) (zeLf 39 (some (zoI2 zfiadd 40)) none)))) (zeNd 46 (zeNd 42 (zeNd 41 (zeLf 40 (some (zoSt 40 41)) none) (zeLf 41 (some (zoAl 0 42)) none)) (zeNd 45 (zeLf 42 (some (zoGr 8 0 45)) none) (zeLf 45 (some (zoIc 1 46)) none))) (zeNd 48 (zeNd 47 (zeLf 46 (some (zoLd 40 47)) none) (zeLf 47 (some (zoIc 1 48)) none)) (zeNd 49 (zeLf 48 (some (zoI2 zfisub 49)) none) (zeLf 49 (some (zoRetI)) none))))))
set_option maxRecDepth 20000 in
theorem zt_26_ok (G : zeG) : ∀ x op, zt_26 x = some op → zeSnd G 26 x op := (zeNd_ok (zeNd_ok (zeNd_ok (zeNd_ok (zeNd_ok (zeLf_ok (zs_aload_n (f := 0) (by decide +kernel) rfl rfl)) (zeLf_ok (zs_cv zo_26 zc_8 rfl (zeCw_of zcal_23 (by decide +kernel)) (by decide) zm_1058 zm_1060 zmp_47 (by decide +kernel) rfl))) (zeNd_ok (zeLf_ok (zs_if_eq (off := 9) (by decide +kernel) (by decide) rfl)) (zeLf_ok (zs_aload_n (f := 0) (by decide +kernel) rfl rfl)))) (zeNd_ok (zeNd_ok (zeLf_ok (zs_iconst (c := 1) (by decide +kernel) (by decide) rfl)) (zeLf_ok (zs_cv zo_26 zc_8 rfl (zeCw_of zcal_24 (by decide +kernel)) (by decide) zm_1062 zm_1064 zmp_48 (by decide +kernel) rfl))) (zeNd_ok (zeLf_ok (zs_ireturn rfl (by decide +kernel))) (zeLf_ok (zs_aload_n (f := 0) (by decide +kernel) rfl rfl))))) (zeNd_ok (zeNd_ok (zeNd_ok (zeLf_ok (zs_gr zo_26 zc_8 zin_8 (by decide) rfl zm_966 rfl (by decide +kernel) rfl)) (zeLf_ok (zs_iconst (c := 1) (by decide +kernel) (by decide) rfl))) (zeNd_ok (zeLf_ok (zs_iaload (by decide +kernel) rfl)) (zeLf_ok (zs_bipush (c := 6) (by decide +kernel) (by decide) rfl)))) (zeNd_ok (zeNd_ok (zeLf_ok (zs_icmp_ne (off := 6) (by decide +kernel) (by decide) rfl)) (zeLf_ok (zs_ldc zo_26 zm_1067 (by decide +kernel) rfl))) (zeNd_ok (zeLf_ok (zs_ireturn rfl (by decide +kernel))) (zeLf_ok (zs_aload_n (f := 0) (by decide +kernel) rfl rfl)))))) (zeNd_ok (zeNd_ok (zeNd_ok (zeNd_ok (zeLf_ok (zs_cv zo_26 zc_8 rfl (zeCw_of zcal_25 (by decide +kernel)) (by decide) zm_1050 zm_1052 zmp_46 (by decide +kernel) rfl)) (zeLf_ok (zs_aload_n (f := 0) (by decide +kernel) rfl rfl))) (zeNd_ok (zeLf_ok (zs_gr zo_26 zc_8 zin_8 (by decide) rfl zm_966 rfl (by decide +kernel) rfl)) (zeLf_ok (zs_iconst (c := 1) (by decide +kernel) (by decide) rfl)))) (zeNd_ok (zeNd_ok (zeLf_ok (zs_dup2 (by decide +kernel) rfl)) (zeLf_ok (zs_iaload (by decide +kernel) rfl))) (zeNd_ok (zeLf_ok (zs_iconst (c := 1) (by decide +kernel) (by decide) rfl)) (zeLf_ok (zs_iadd (by decide +kernel) rfl))))) (zeNd_ok (zeNd_ok (zeNd_ok (zeLf_ok (zs_iastore (by decide +kernel) rfl)) (zeLf_ok (zs_aload_n (f := 0) (by decide +kernel) rfl rfl))) (zeNd_ok (zeLf_ok (zs_gr zo_26 zc_8 zin_8 (by decide) rfl zm_966 rfl (by decide +kernel) rfl)) (zeLf_ok (zs_iconst (c := 1) (by decide +kernel) (by decide) rfl)))) (zeNd_ok (zeNd_ok (zeLf_ok (zs_iaload (by decide +kernel) rfl)) (zeLf_ok (zs_iconst (c := 1) (by decide +kernel) (by decide) rfl))) (zeNd_ok (zeLf_ok (zs_isub (by decide +kernel) rfl)) (zeLf_ok (zs_ireturn rfl (by decide +kernel))))))))
theorem zo_27 : (zeNam 27).cls = "WagerQuiz" := rfl
theorem zg_27 : zeLg 27 = false := rfl
def zt_27 : Nat → Option zeOp := (zeNd 7 (zeNd 4 (zeNd 1 (zeLf 0 (some (zoIl 0 1)) none) (zeLf 1 (some (zoZlt 14 4)) none)) (zeNd 5 (zeLf 4 (some (zoIl 0 5)) none) (zeLf 5 (some (zoIc 25 7)) none))) (zeNd 11 (zeNd 10 (zeLf 7 (some (zoCge 14 10)) none) (zeLf 10 (some (zoIc 1 11)) none)) (zeNd 14 (zeLf 11 (some (zoGo 15)) none) (zeNd 15 (zeLf 14 (some (zoIc 0 15)) none) (zeLf 15 (some (zoRetS .boolean)) none)))))
set_option maxRecDepth 20000 in
theorem zt_27_ok (G : zeG) : ∀ x op, zt_27 x = some op → zeSnd G 27 x op := (zeNd_ok (zeNd_ok (zeNd_ok (zeLf_ok (zs_iload_n (f := 0) (by decide +kernel) rfl rfl)) (zeLf_ok (zs_if_lt (off := 13) (by decide +kernel) (by decide) rfl))) (zeNd_ok (zeLf_ok (zs_iload_n (f := 0) (by decide +kernel) rfl rfl)) (zeLf_ok (zs_bipush (c := 25) (by decide +kernel) (by decide) rfl)))) (zeNd_ok (zeNd_ok (zeLf_ok (zs_icmp_ge (off := 7) (by decide +kernel) (by decide) rfl)) (zeLf_ok (zs_iconst (c := 1) (by decide +kernel) (by decide) rfl))) (zeNd_ok (zeLf_ok (zs_goto (off := 4) (by decide +kernel) (by decide))) (zeNd_ok (zeLf_ok (zs_iconst (c := 0) (by decide +kernel) (by decide) rfl)) (zeLf_ok (zs_zreturn rfl (Or.inl rfl) (by decide +kernel)))))))
theorem zo_28 : (zeNam 28).cls = "WagerQuiz" := rfl
theorem zg_28 : zeLg 28 = false := rfl
def zt_28 : Nat → Option zeOp := (zeNd 3 (zeNd 1 (zeLf 0 (some (zoIl 0 1)) none) (zeNd 2 (zeLf 1 (some (zoIl 1 2)) none) (zeLf 2 (some (zoI2 zfishr 3)) none))) (zeNd 4 (zeLf 3 (some (zoIc 1 4)) none) (zeNd 5 (zeLf 4 (some (zoI2 zfiand 5)) none) (zeLf 5 (some (zoRetI)) none))))
set_option maxRecDepth 20000 in
theorem zt_28_ok (G : zeG) : ∀ x op, zt_28 x = some op → zeSnd G 28 x op := (zeNd_ok (zeNd_ok (zeLf_ok (zs_iload_n (f := 0) (by decide +kernel) rfl rfl)) (zeNd_ok (zeLf_ok (zs_iload_n (f := 1) (by decide +kernel) rfl rfl)) (zeLf_ok (zs_ishr (by decide +kernel) rfl)))) (zeNd_ok (zeLf_ok (zs_iconst (c := 1) (by decide +kernel) (by decide) rfl)) (zeNd_ok (zeLf_ok (zs_iand (by decide +kernel) rfl)) (zeLf_ok (zs_ireturn rfl (by decide +kernel))))))
end
