section
-- ===== PART A: goes FIRST, ahead of the names: the tables' words, and 'selects' of the private methods out of them =====
/-- a private method of a class that the tables say can be made, by its rows of tables_1 -/
def lw_okq (q : MethodName × Nat) : Prop := (q.1.cls ≠ "java/lang/invoke/MethodHandle" ∧ q.1.cls ≠ "java/lang/invoke/VarHandle") ∧ Cond.instantiable q.1.cls q.2 ∈ tables_1 ∧ Cond.privateMethod q.1 ∈ tables_1 ∧ Cond.instanceMethod q.1 ∈ tables_1
theorem lw_p0 : lw_okq (⟨"WagerQuiz", "doAddPlayer", "()I"⟩, 8) := ⟨⟨by decide +kernel, by decide +kernel⟩, List.mem_of_getElem? (i := 22) (by decide +kernel), List.mem_of_getElem? (i := 335) (by decide +kernel), List.mem_of_getElem? (i := 336) (by decide +kernel)⟩
theorem lw_p1 : lw_okq (⟨"WagerQuiz", "isBeforeFirstPick", "()Z"⟩, 8) := ⟨⟨by decide +kernel, by decide +kernel⟩, List.mem_of_getElem? (i := 22) (by decide +kernel), List.mem_of_getElem? (i := 339) (by decide +kernel), List.mem_of_getElem? (i := 340) (by decide +kernel)⟩
theorem lw_p2 : lw_okq (⟨"WagerQuiz", "refused", "(I)I"⟩, 8) := ⟨⟨by decide +kernel, by decide +kernel⟩, List.mem_of_getElem? (i := 22) (by decide +kernel), List.mem_of_getElem? (i := 343) (by decide +kernel), List.mem_of_getElem? (i := 344) (by decide +kernel)⟩
theorem lw_p3 : lw_okq (⟨"WagerQuiz", "recorded", "(I)I"⟩, 8) := ⟨⟨by decide +kernel, by decide +kernel⟩, List.mem_of_getElem? (i := 22) (by decide +kernel), List.mem_of_getElem? (i := 349) (by decide +kernel), List.mem_of_getElem? (i := 350) (by decide +kernel)⟩
theorem lw_p4 : lw_okq (⟨"WagerQuiz", "doSetWagerClue", "(IZ)I"⟩, 8) := ⟨⟨by decide +kernel, by decide +kernel⟩, List.mem_of_getElem? (i := 22) (by decide +kernel), List.mem_of_getElem? (i := 367) (by decide +kernel), List.mem_of_getElem? (i := 368) (by decide +kernel)⟩
theorem lw_p5 : lw_okq (⟨"WagerQuiz", "doSet", "(II)I"⟩, 8) := ⟨⟨by decide +kernel, by decide +kernel⟩, List.mem_of_getElem? (i := 22) (by decide +kernel), List.mem_of_getElem? (i := 387) (by decide +kernel), List.mem_of_getElem? (i := 388) (by decide +kernel)⟩
theorem lw_p6 : lw_okq (⟨"WagerQuiz", "doPick", "(II)I"⟩, 8) := ⟨⟨by decide +kernel, by decide +kernel⟩, List.mem_of_getElem? (i := 22) (by decide +kernel), List.mem_of_getElem? (i := 396) (by decide +kernel), List.mem_of_getElem? (i := 397) (by decide +kernel)⟩
theorem lw_p7 : lw_okq (⟨"WagerQuiz", "isPlayer", "(I)Z"⟩, 8) := ⟨⟨by decide +kernel, by decide +kernel⟩, List.mem_of_getElem? (i := 22) (by decide +kernel), List.mem_of_getElem? (i := 400) (by decide +kernel), List.mem_of_getElem? (i := 401) (by decide +kernel)⟩
theorem lw_p8 : lw_okq (⟨"WagerQuiz", "controller", "()I"⟩, 8) := ⟨⟨by decide +kernel, by decide +kernel⟩, List.mem_of_getElem? (i := 22) (by decide +kernel), List.mem_of_getElem? (i := 404) (by decide +kernel), List.mem_of_getElem? (i := 405) (by decide +kernel)⟩
theorem lw_p9 : lw_okq (⟨"WagerQuiz", "doBuzz", "(II)I"⟩, 8) := ⟨⟨by decide +kernel, by decide +kernel⟩, List.mem_of_getElem? (i := 22) (by decide +kernel), List.mem_of_getElem? (i := 420) (by decide +kernel), List.mem_of_getElem? (i := 421) (by decide +kernel)⟩
theorem lw_p10 : lw_okq (⟨"WagerQuiz$PickedClue", "leastCountingTick", "(I)I"⟩, 8) := ⟨⟨by decide +kernel, by decide +kernel⟩, List.mem_of_getElem? (i := 36) (by decide +kernel), List.mem_of_getElem? (i := 432) (by decide +kernel), List.mem_of_getElem? (i := 433) (by decide +kernel)⟩
theorem lw_p11 : lw_okq (⟨"WagerQuiz$PickedClue", "endOfLock", "(I)I"⟩, 8) := ⟨⟨by decide +kernel, by decide +kernel⟩, List.mem_of_getElem? (i := 36) (by decide +kernel), List.mem_of_getElem? (i := 436) (by decide +kernel), List.mem_of_getElem? (i := 437) (by decide +kernel)⟩
theorem lw_p12 : lw_okq (⟨"WagerQuiz", "queueLength", "()I"⟩, 8) := ⟨⟨by decide +kernel, by decide +kernel⟩, List.mem_of_getElem? (i := 22) (by decide +kernel), List.mem_of_getElem? (i := 444) (by decide +kernel), List.mem_of_getElem? (i := 445) (by decide +kernel)⟩
theorem lw_p13 : lw_okq (⟨"WagerQuiz", "isQueued", "(I)Z"⟩, 8) := ⟨⟨by decide +kernel, by decide +kernel⟩, List.mem_of_getElem? (i := 22) (by decide +kernel), List.mem_of_getElem? (i := 448) (by decide +kernel), List.mem_of_getElem? (i := 449) (by decide +kernel)⟩
theorem lw_p14 : lw_okq (⟨"WagerQuiz", "doAnswer", "(Z)I"⟩, 8) := ⟨⟨by decide +kernel, by decide +kernel⟩, List.mem_of_getElem? (i := 22) (by decide +kernel), List.mem_of_getElem? (i := 456) (by decide +kernel), List.mem_of_getElem? (i := 457) (by decide +kernel)⟩
theorem lw_p15 : lw_okq (⟨"WagerQuiz", "answerOpenClue", "(Z)I"⟩, 8) := ⟨⟨by decide +kernel, by decide +kernel⟩, List.mem_of_getElem? (i := 22) (by decide +kernel), List.mem_of_getElem? (i := 460) (by decide +kernel), List.mem_of_getElem? (i := 461) (by decide +kernel)⟩
def lw_privs_1 : List (MethodName × Nat) := [(⟨"WagerQuiz", "doAddPlayer", "()I"⟩, 8), (⟨"WagerQuiz", "isBeforeFirstPick", "()Z"⟩, 8), (⟨"WagerQuiz", "refused", "(I)I"⟩, 8), (⟨"WagerQuiz", "recorded", "(I)I"⟩, 8), (⟨"WagerQuiz", "doSetWagerClue", "(IZ)I"⟩, 8), (⟨"WagerQuiz", "doSet", "(II)I"⟩, 8), (⟨"WagerQuiz", "doPick", "(II)I"⟩, 8), (⟨"WagerQuiz", "isPlayer", "(I)Z"⟩, 8), (⟨"WagerQuiz", "controller", "()I"⟩, 8), (⟨"WagerQuiz", "doBuzz", "(II)I"⟩, 8), (⟨"WagerQuiz$PickedClue", "leastCountingTick", "(I)I"⟩, 8), (⟨"WagerQuiz$PickedClue", "endOfLock", "(I)I"⟩, 8), (⟨"WagerQuiz", "queueLength", "()I"⟩, 8), (⟨"WagerQuiz", "isQueued", "(I)Z"⟩, 8), (⟨"WagerQuiz", "doAnswer", "(Z)I"⟩, 8), (⟨"WagerQuiz", "answerOpenClue", "(Z)I"⟩, 8)]
theorem lw_r1 : ∀ q ∈ lw_privs_1, lw_okq q := List.forall_mem_cons.mpr ⟨lw_p0, List.forall_mem_cons.mpr ⟨lw_p1, List.forall_mem_cons.mpr ⟨lw_p2, List.forall_mem_cons.mpr ⟨lw_p3, List.forall_mem_cons.mpr ⟨lw_p4, List.forall_mem_cons.mpr ⟨lw_p5, List.forall_mem_cons.mpr ⟨lw_p6, List.forall_mem_cons.mpr ⟨lw_p7, List.forall_mem_cons.mpr ⟨lw_p8, List.forall_mem_cons.mpr ⟨lw_p9, List.forall_mem_cons.mpr ⟨lw_p10, List.forall_mem_cons.mpr ⟨lw_p11, List.forall_mem_cons.mpr ⟨lw_p12, List.forall_mem_cons.mpr ⟨lw_p13, List.forall_mem_cons.mpr ⟨lw_p14, List.forall_mem_cons.mpr ⟨lw_p15, fun _ h => absurd h List.not_mem_nil⟩⟩⟩⟩⟩⟩⟩⟩⟩⟩⟩⟩⟩⟩⟩⟩
theorem lw_p16 : lw_okq (⟨"WagerQuiz", "playerInQueue", "(I)I"⟩, 8) := ⟨⟨by decide +kernel, by decide +kernel⟩, List.mem_of_getElem? (i := 22) (by decide +kernel), List.mem_of_getElem? (i := 464) (by decide +kernel), List.mem_of_getElem? (i := 465) (by decide +kernel)⟩
theorem lw_p17 : lw_okq (⟨"WagerQuiz", "queuePlaceOf", "(I)I"⟩, 8) := ⟨⟨by decide +kernel, by decide +kernel⟩, List.mem_of_getElem? (i := 22) (by decide +kernel), List.mem_of_getElem? (i := 468) (by decide +kernel), List.mem_of_getElem? (i := 469) (by decide +kernel)⟩
theorem lw_p18 : lw_okq (⟨"WagerQuiz", "isQueuedAhead", "(II)Z"⟩, 8) := ⟨⟨by decide +kernel, by decide +kernel⟩, List.mem_of_getElem? (i := 22) (by decide +kernel), List.mem_of_getElem? (i := 472) (by decide +kernel), List.mem_of_getElem? (i := 473) (by decide +kernel)⟩
theorem lw_p19 : lw_okq (⟨"WagerQuiz", "replayedScore", "(I)I"⟩, 8) := ⟨⟨by decide +kernel, by decide +kernel⟩, List.mem_of_getElem? (i := 22) (by decide +kernel), List.mem_of_getElem? (i := 485) (by decide +kernel), List.mem_of_getElem? (i := 486) (by decide +kernel)⟩
theorem lw_p20 : lw_okq (⟨"WagerQuiz$Replay", "replayEntry", "(LWagerQuiz$Log;I)V"⟩, 10) := ⟨⟨by decide +kernel, by decide +kernel⟩, List.mem_of_getElem? (i := 163) (by decide +kernel), List.mem_of_getElem? (i := 493) (by decide +kernel), List.mem_of_getElem? (i := 494) (by decide +kernel)⟩
theorem lw_p21 : lw_okq (⟨"WagerQuiz$Replay", "solverOf", "(I)I"⟩, 10) := ⟨⟨by decide +kernel, by decide +kernel⟩, List.mem_of_getElem? (i := 163) (by decide +kernel), List.mem_of_getElem? (i := 497) (by decide +kernel), List.mem_of_getElem? (i := 498) (by decide +kernel)⟩
theorem lw_p22 : lw_okq (⟨"WagerQuiz$Replay", "noteRight", "(II)V"⟩, 10) := ⟨⟨by decide +kernel, by decide +kernel⟩, List.mem_of_getElem? (i := 163) (by decide +kernel), List.mem_of_getElem? (i := 509) (by decide +kernel), List.mem_of_getElem? (i := 510) (by decide +kernel)⟩
theorem lw_p23 : lw_okq (⟨"WagerQuiz", "answerWagerClue", "(Z)I"⟩, 8) := ⟨⟨by decide +kernel, by decide +kernel⟩, List.mem_of_getElem? (i := 22) (by decide +kernel), List.mem_of_getElem? (i := 513) (by decide +kernel), List.mem_of_getElem? (i := 514) (by decide +kernel)⟩
theorem lw_p24 : lw_okq (⟨"WagerQuiz", "answerFinal", "(Z)I"⟩, 8) := ⟨⟨by decide +kernel, by decide +kernel⟩, List.mem_of_getElem? (i := 22) (by decide +kernel), List.mem_of_getElem? (i := 517) (by decide +kernel), List.mem_of_getElem? (i := 518) (by decide +kernel)⟩
theorem lw_p25 : lw_okq (⟨"WagerQuiz$FinalRound", "turnOf", "(I)I"⟩, 3) := ⟨⟨by decide +kernel, by decide +kernel⟩, List.mem_of_getElem? (i := 73) (by decide +kernel), List.mem_of_getElem? (i := 525) (by decide +kernel), List.mem_of_getElem? (i := 526) (by decide +kernel)⟩
theorem lw_p26 : lw_okq (⟨"WagerQuiz$FinalRound", "isEarlier", "(II)Z"⟩, 3) := ⟨⟨by decide +kernel, by decide +kernel⟩, List.mem_of_getElem? (i := 73) (by decide +kernel), List.mem_of_getElem? (i := 529) (by decide +kernel), List.mem_of_getElem? (i := 530) (by decide +kernel)⟩
theorem lw_p27 : lw_okq (⟨"WagerQuiz", "doClose", "()I"⟩, 8) := ⟨⟨by decide +kernel, by decide +kernel⟩, List.mem_of_getElem? (i := 22) (by decide +kernel), List.mem_of_getElem? (i := 541) (by decide +kernel), List.mem_of_getElem? (i := 542) (by decide +kernel)⟩
theorem lw_p28 : lw_okq (⟨"WagerQuiz", "doWager", "(I)I"⟩, 8) := ⟨⟨by decide +kernel, by decide +kernel⟩, List.mem_of_getElem? (i := 22) (by decide +kernel), List.mem_of_getElem? (i := 549) (by decide +kernel), List.mem_of_getElem? (i := 550) (by decide +kernel)⟩
theorem lw_p29 : lw_okq (⟨"WagerQuiz", "doBeginFinal", "()I"⟩, 8) := ⟨⟨by decide +kernel, by decide +kernel⟩, List.mem_of_getElem? (i := 22) (by decide +kernel), List.mem_of_getElem? (i := 559) (by decide +kernel), List.mem_of_getElem? (i := 560) (by decide +kernel)⟩
theorem lw_p30 : lw_okq (⟨"WagerQuiz", "doWagerFinal", "(II)I"⟩, 8) := ⟨⟨by decide +kernel, by decide +kernel⟩, List.mem_of_getElem? (i := 22) (by decide +kernel), List.mem_of_getElem? (i := 572) (by decide +kernel), List.mem_of_getElem? (i := 573) (by decide +kernel)⟩
theorem lw_p31 : lw_okq (⟨"WagerQuiz", "doCorrect", "(II)I"⟩, 8) := ⟨⟨by decide +kernel, by decide +kernel⟩, List.mem_of_getElem? (i := 22) (by decide +kernel), List.mem_of_getElem? (i := 596) (by decide +kernel), List.mem_of_getElem? (i := 597) (by decide +kernel)⟩
def lw_privs_2 : List (MethodName × Nat) := [(⟨"WagerQuiz", "playerInQueue", "(I)I"⟩, 8), (⟨"WagerQuiz", "queuePlaceOf", "(I)I"⟩, 8), (⟨"WagerQuiz", "isQueuedAhead", "(II)Z"⟩, 8), (⟨"WagerQuiz", "replayedScore", "(I)I"⟩, 8), (⟨"WagerQuiz$Replay", "replayEntry", "(LWagerQuiz$Log;I)V"⟩, 10), (⟨"WagerQuiz$Replay", "solverOf", "(I)I"⟩, 10), (⟨"WagerQuiz$Replay", "noteRight", "(II)V"⟩, 10), (⟨"WagerQuiz", "answerWagerClue", "(Z)I"⟩, 8), (⟨"WagerQuiz", "answerFinal", "(Z)I"⟩, 8), (⟨"WagerQuiz$FinalRound", "turnOf", "(I)I"⟩, 3), (⟨"WagerQuiz$FinalRound", "isEarlier", "(II)Z"⟩, 3), (⟨"WagerQuiz", "doClose", "()I"⟩, 8), (⟨"WagerQuiz", "doWager", "(I)I"⟩, 8), (⟨"WagerQuiz", "doBeginFinal", "()I"⟩, 8), (⟨"WagerQuiz", "doWagerFinal", "(II)I"⟩, 8), (⟨"WagerQuiz", "doCorrect", "(II)I"⟩, 8)]
theorem lw_r2 : ∀ q ∈ lw_privs_2, lw_okq q := List.forall_mem_cons.mpr ⟨lw_p16, List.forall_mem_cons.mpr ⟨lw_p17, List.forall_mem_cons.mpr ⟨lw_p18, List.forall_mem_cons.mpr ⟨lw_p19, List.forall_mem_cons.mpr ⟨lw_p20, List.forall_mem_cons.mpr ⟨lw_p21, List.forall_mem_cons.mpr ⟨lw_p22, List.forall_mem_cons.mpr ⟨lw_p23, List.forall_mem_cons.mpr ⟨lw_p24, List.forall_mem_cons.mpr ⟨lw_p25, List.forall_mem_cons.mpr ⟨lw_p26, List.forall_mem_cons.mpr ⟨lw_p27, List.forall_mem_cons.mpr ⟨lw_p28, List.forall_mem_cons.mpr ⟨lw_p29, List.forall_mem_cons.mpr ⟨lw_p30, List.forall_mem_cons.mpr ⟨lw_p31, fun _ h => absurd h List.not_mem_nil⟩⟩⟩⟩⟩⟩⟩⟩⟩⟩⟩⟩⟩⟩⟩⟩
theorem lw_p32 : lw_okq (⟨"WagerQuiz", "doRejudge", "(I)I"⟩, 8) := ⟨⟨by decide +kernel, by decide +kernel⟩, List.mem_of_getElem? (i := 22) (by decide +kernel), List.mem_of_getElem? (i := 604) (by decide +kernel), List.mem_of_getElem? (i := 605) (by decide +kernel)⟩
theorem lw_p33 : lw_okq (⟨"WagerQuiz", "isEntry", "(I)Z"⟩, 8) := ⟨⟨by decide +kernel, by decide +kernel⟩, List.mem_of_getElem? (i := 22) (by decide +kernel), List.mem_of_getElem? (i := 608) (by decide +kernel), List.mem_of_getElem? (i := 609) (by decide +kernel)⟩
theorem lw_p34 : lw_okq (⟨"WagerQuiz$Script", "isAllowed", "(II)Z"⟩, 2) := ⟨⟨by decide +kernel, by decide +kernel⟩, List.mem_of_getElem? (i := 231) (by decide +kernel), List.mem_of_getElem? (i := 641) (by decide +kernel), List.mem_of_getElem? (i := 642) (by decide +kernel)⟩
theorem lw_p35 : lw_okq (⟨"WagerQuiz$Script", "greatestDigit", "(II)C"⟩, 2) := ⟨⟨by decide +kernel, by decide +kernel⟩, List.mem_of_getElem? (i := 231) (by decide +kernel), List.mem_of_getElem? (i := 653) (by decide +kernel), List.mem_of_getElem? (i := 654) (by decide +kernel)⟩
theorem lw_p36 : lw_okq (⟨"WagerQuiz", "carryOutMoves", "()I"⟩, 8) := ⟨⟨by decide +kernel, by decide +kernel⟩, List.mem_of_getElem? (i := 22) (by decide +kernel), List.mem_of_getElem? (i := 657) (by decide +kernel), List.mem_of_getElem? (i := 658) (by decide +kernel)⟩
theorem lw_p37 : lw_okq (⟨"WagerQuiz", "doMove", "(I)I"⟩, 8) := ⟨⟨by decide +kernel, by decide +kernel⟩, List.mem_of_getElem? (i := 22) (by decide +kernel), List.mem_of_getElem? (i := 661) (by decide +kernel), List.mem_of_getElem? (i := 662) (by decide +kernel)⟩
theorem lw_p38 : lw_okq (⟨"WagerQuiz", "load", "(LWagerQuiz$State;)V"⟩, 8) := ⟨⟨by decide +kernel, by decide +kernel⟩, List.mem_of_getElem? (i := 22) (by decide +kernel), List.mem_of_getElem? (i := 679) (by decide +kernel), List.mem_of_getElem? (i := 680) (by decide +kernel)⟩
theorem lw_p39 : lw_okq (⟨"WagerQuiz", "playersAbove", "(I)I"⟩, 8) := ⟨⟨by decide +kernel, by decide +kernel⟩, List.mem_of_getElem? (i := 22) (by decide +kernel), List.mem_of_getElem? (i := 699) (by decide +kernel), List.mem_of_getElem? (i := 700) (by decide +kernel)⟩
theorem lw_p40 : lw_okq (⟨"WagerQuiz", "placeOf", "(I)I"⟩, 8) := ⟨⟨by decide +kernel, by decide +kernel⟩, List.mem_of_getElem? (i := 22) (by decide +kernel), List.mem_of_getElem? (i := 703) (by decide +kernel), List.mem_of_getElem? (i := 704) (by decide +kernel)⟩
theorem lw_p41 : lw_okq (⟨"WagerQuiz", "playerAtPlace", "(I)I"⟩, 8) := ⟨⟨by decide +kernel, by decide +kernel⟩, List.mem_of_getElem? (i := 22) (by decide +kernel), List.mem_of_getElem? (i := 715) (by decide +kernel), List.mem_of_getElem? (i := 716) (by decide +kernel)⟩
theorem lw_p42 : lw_okq (⟨"WagerQuiz", "isClueUnderWay", "()Z"⟩, 8) := ⟨⟨by decide +kernel, by decide +kernel⟩, List.mem_of_getElem? (i := 22) (by decide +kernel), List.mem_of_getElem? (i := 739) (by decide +kernel), List.mem_of_getElem? (i := 740) (by decide +kernel)⟩
theorem lw_p43 : lw_okq (⟨"WagerQuiz", "leaders", "()I"⟩, 8) := ⟨⟨by decide +kernel, by decide +kernel⟩, List.mem_of_getElem? (i := 22) (by decide +kernel), List.mem_of_getElem? (i := 743) (by decide +kernel), List.mem_of_getElem? (i := 744) (by decide +kernel)⟩
theorem lw_p44 : lw_okq (⟨"WagerQuiz", "sumOfScores", "()I"⟩, 8) := ⟨⟨by decide +kernel, by decide +kernel⟩, List.mem_of_getElem? (i := 22) (by decide +kernel), List.mem_of_getElem? (i := 747) (by decide +kernel), List.mem_of_getElem? (i := 748) (by decide +kernel)⟩
theorem lw_p45 : lw_okq (⟨"WagerQuiz", "writeMessage", "()V"⟩, 8) := ⟨⟨by decide +kernel, by decide +kernel⟩, List.mem_of_getElem? (i := 22) (by decide +kernel), List.mem_of_getElem? (i := 755) (by decide +kernel), List.mem_of_getElem? (i := 756) (by decide +kernel)⟩
theorem lw_p46 : lw_okq (⟨"WagerQuizModel", "record", "()V"⟩, 22) := ⟨⟨by decide +kernel, by decide +kernel⟩, List.mem_of_getElem? (i := 961) (by decide +kernel), List.mem_of_getElem? (i := 1051) (by decide +kernel), List.mem_of_getElem? (i := 1052) (by decide +kernel)⟩
theorem lw_p47 : lw_okq (⟨"WagerQuizModel", "hasBegun", "()Z"⟩, 22) := ⟨⟨by decide +kernel, by decide +kernel⟩, List.mem_of_getElem? (i := 961) (by decide +kernel), List.mem_of_getElem? (i := 1059) (by decide +kernel), List.mem_of_getElem? (i := 1060) (by decide +kernel)⟩
def lw_privs_3 : List (MethodName × Nat) := [(⟨"WagerQuiz", "doRejudge", "(I)I"⟩, 8), (⟨"WagerQuiz", "isEntry", "(I)Z"⟩, 8), (⟨"WagerQuiz$Script", "isAllowed", "(II)Z"⟩, 2), (⟨"WagerQuiz$Script", "greatestDigit", "(II)C"⟩, 2), (⟨"WagerQuiz", "carryOutMoves", "()I"⟩, 8), (⟨"WagerQuiz", "doMove", "(I)I"⟩, 8), (⟨"WagerQuiz", "load", "(LWagerQuiz$State;)V"⟩, 8), (⟨"WagerQuiz", "playersAbove", "(I)I"⟩, 8), (⟨"WagerQuiz", "placeOf", "(I)I"⟩, 8), (⟨"WagerQuiz", "playerAtPlace", "(I)I"⟩, 8), (⟨"WagerQuiz", "isClueUnderWay", "()Z"⟩, 8), (⟨"WagerQuiz", "leaders", "()I"⟩, 8), (⟨"WagerQuiz", "sumOfScores", "()I"⟩, 8), (⟨"WagerQuiz", "writeMessage", "()V"⟩, 8), (⟨"WagerQuizModel", "record", "()V"⟩, 22), (⟨"WagerQuizModel", "hasBegun", "()Z"⟩, 22)]
theorem lw_r3 : ∀ q ∈ lw_privs_3, lw_okq q := List.forall_mem_cons.mpr ⟨lw_p32, List.forall_mem_cons.mpr ⟨lw_p33, List.forall_mem_cons.mpr ⟨lw_p34, List.forall_mem_cons.mpr ⟨lw_p35, List.forall_mem_cons.mpr ⟨lw_p36, List.forall_mem_cons.mpr ⟨lw_p37, List.forall_mem_cons.mpr ⟨lw_p38, List.forall_mem_cons.mpr ⟨lw_p39, List.forall_mem_cons.mpr ⟨lw_p40, List.forall_mem_cons.mpr ⟨lw_p41, List.forall_mem_cons.mpr ⟨lw_p42, List.forall_mem_cons.mpr ⟨lw_p43, List.forall_mem_cons.mpr ⟨lw_p44, List.forall_mem_cons.mpr ⟨lw_p45, List.forall_mem_cons.mpr ⟨lw_p46, List.forall_mem_cons.mpr ⟨lw_p47, fun _ h => absurd h List.not_mem_nil⟩⟩⟩⟩⟩⟩⟩⟩⟩⟩⟩⟩⟩⟩⟩⟩
theorem lw_p48 : lw_okq (⟨"WagerQuizModel", "refuse", "(I)I"⟩, 22) := ⟨⟨by decide +kernel, by decide +kernel⟩, List.mem_of_getElem? (i := 961) (by decide +kernel), List.mem_of_getElem? (i := 1063) (by decide +kernel), List.mem_of_getElem? (i := 1064) (by decide +kernel)⟩
theorem lw_p49 : lw_okq (⟨"WagerQuizModel", "checkPick", "(II)I"⟩, 22) := ⟨⟨by decide +kernel, by decide +kernel⟩, List.mem_of_getElem? (i := 961) (by decide +kernel), List.mem_of_getElem? (i := 1085) (by decide +kernel), List.mem_of_getElem? (i := 1086) (by decide +kernel)⟩
theorem lw_p50 : lw_okq (⟨"WagerQuizModel", "noPlayer", "(I)Z"⟩, 22) := ⟨⟨by decide +kernel, by decide +kernel⟩, List.mem_of_getElem? (i := 961) (by decide +kernel), List.mem_of_getElem? (i := 1089) (by decide +kernel), List.mem_of_getElem? (i := 1090) (by decide +kernel)⟩
theorem lw_p51 : lw_okq (⟨"WagerQuizModel", "replay", "()V"⟩, 22) := ⟨⟨by decide +kernel, by decide +kernel⟩, List.mem_of_getElem? (i := 961) (by decide +kernel), List.mem_of_getElem? (i := 1093) (by decide +kernel), List.mem_of_getElem? (i := 1094) (by decide +kernel)⟩
theorem lw_p52 : lw_okq (⟨"WagerQuizModel", "isStealVoid", "(I)Z"⟩, 22) := ⟨⟨by decide +kernel, by decide +kernel⟩, List.mem_of_getElem? (i := 961) (by decide +kernel), List.mem_of_getElem? (i := 1100) (by decide +kernel), List.mem_of_getElem? (i := 1101) (by decide +kernel)⟩
theorem lw_p53 : lw_okq (⟨"WagerQuizModel", "picks", "(I)I"⟩, 22) := ⟨⟨by decide +kernel, by decide +kernel⟩, List.mem_of_getElem? (i := 961) (by decide +kernel), List.mem_of_getElem? (i := 1104) (by decide +kernel), List.mem_of_getElem? (i := 1105) (by decide +kernel)⟩
theorem lw_p54 : lw_okq (⟨"WagerQuizModel", "checkBuzz", "(II)I"⟩, 22) := ⟨⟨by decide +kernel, by decide +kernel⟩, List.mem_of_getElem? (i := 961) (by decide +kernel), List.mem_of_getElem? (i := 1115) (by decide +kernel), List.mem_of_getElem? (i := 1116) (by decide +kernel)⟩
theorem lw_p55 : lw_okq (⟨"WagerQuizModel", "hasBuzzed", "(II)Z"⟩, 22) := ⟨⟨by decide +kernel, by decide +kernel⟩, List.mem_of_getElem? (i := 961) (by decide +kernel), List.mem_of_getElem? (i := 1119) (by decide +kernel), List.mem_of_getElem? (i := 1120) (by decide +kernel)⟩
theorem lw_p56 : lw_okq (⟨"WagerQuizModel", "buzzes", "(II)I"⟩, 22) := ⟨⟨by decide +kernel, by decide +kernel⟩, List.mem_of_getElem? (i := 961) (by decide +kernel), List.mem_of_getElem? (i := 1123) (by decide +kernel), List.mem_of_getElem? (i := 1124) (by decide +kernel)⟩
theorem lw_p57 : lw_okq (⟨"WagerQuizModel", "queue", "()I"⟩, 22) := ⟨⟨by decide +kernel, by decide +kernel⟩, List.mem_of_getElem? (i := 961) (by decide +kernel), List.mem_of_getElem? (i := 1127) (by decide +kernel), List.mem_of_getElem? (i := 1128) (by decide +kernel)⟩
theorem lw_p58 : lw_okq (⟨"WagerQuizModel", "counting", "(I)I"⟩, 22) := ⟨⟨by decide +kernel, by decide +kernel⟩, List.mem_of_getElem? (i := 961) (by decide +kernel), List.mem_of_getElem? (i := 1131) (by decide +kernel), List.mem_of_getElem? (i := 1132) (by decide +kernel)⟩
theorem lw_p59 : lw_okq (⟨"WagerQuizModel", "isAhead", "(III)Z"⟩, 22) := ⟨⟨by decide +kernel, by decide +kernel⟩, List.mem_of_getElem? (i := 961) (by decide +kernel), List.mem_of_getElem? (i := 1135) (by decide +kernel), List.mem_of_getElem? (i := 1136) (by decide +kernel)⟩
theorem lw_p60 : lw_okq (⟨"WagerQuizModel", "checkAnswer", "()I"⟩, 22) := ⟨⟨by decide +kernel, by decide +kernel⟩, List.mem_of_getElem? (i := 961) (by decide +kernel), List.mem_of_getElem? (i := 1143) (by decide +kernel), List.mem_of_getElem? (i := 1144) (by decide +kernel)⟩
theorem lw_p61 : lw_okq (⟨"WagerQuizModel", "answers", "(I)I"⟩, 22) := ⟨⟨by decide +kernel, by decide +kernel⟩, List.mem_of_getElem? (i := 961) (by decide +kernel), List.mem_of_getElem? (i := 1147) (by decide +kernel), List.mem_of_getElem? (i := 1148) (by decide +kernel)⟩
theorem lw_p62 : lw_okq (⟨"WagerQuizModel", "nextFinal", "()I"⟩, 22) := ⟨⟨by decide +kernel, by decide +kernel⟩, List.mem_of_getElem? (i := 961) (by decide +kernel), List.mem_of_getElem? (i := 1151) (by decide +kernel), List.mem_of_getElem? (i := 1152) (by decide +kernel)⟩
theorem lw_p63 : lw_okq (⟨"WagerQuizModel", "enter", "(IIIII)V"⟩, 22) := ⟨⟨by decide +kernel, by decide +kernel⟩, List.mem_of_getElem? (i := 961) (by decide +kernel), List.mem_of_getElem? (i := 1155) (by decide +kernel), List.mem_of_getElem? (i := 1156) (by decide +kernel)⟩
def lw_privs_4 : List (MethodName × Nat) := [(⟨"WagerQuizModel", "refuse", "(I)I"⟩, 22), (⟨"WagerQuizModel", "checkPick", "(II)I"⟩, 22), (⟨"WagerQuizModel", "noPlayer", "(I)Z"⟩, 22), (⟨"WagerQuizModel", "replay", "()V"⟩, 22), (⟨"WagerQuizModel", "isStealVoid", "(I)Z"⟩, 22), (⟨"WagerQuizModel", "picks", "(I)I"⟩, 22), (⟨"WagerQuizModel", "checkBuzz", "(II)I"⟩, 22), (⟨"WagerQuizModel", "hasBuzzed", "(II)Z"⟩, 22), (⟨"WagerQuizModel", "buzzes", "(II)I"⟩, 22), (⟨"WagerQuizModel", "queue", "()I"⟩, 22), (⟨"WagerQuizModel", "counting", "(I)I"⟩, 22), (⟨"WagerQuizModel", "isAhead", "(III)Z"⟩, 22), (⟨"WagerQuizModel", "checkAnswer", "()I"⟩, 22), (⟨"WagerQuizModel", "answers", "(I)I"⟩, 22), (⟨"WagerQuizModel", "nextFinal", "()I"⟩, 22), (⟨"WagerQuizModel", "enter", "(IIIII)V"⟩, 22)]
theorem lw_r4 : ∀ q ∈ lw_privs_4, lw_okq q := List.forall_mem_cons.mpr ⟨lw_p48, List.forall_mem_cons.mpr ⟨lw_p49, List.forall_mem_cons.mpr ⟨lw_p50, List.forall_mem_cons.mpr ⟨lw_p51, List.forall_mem_cons.mpr ⟨lw_p52, List.forall_mem_cons.mpr ⟨lw_p53, List.forall_mem_cons.mpr ⟨lw_p54, List.forall_mem_cons.mpr ⟨lw_p55, List.forall_mem_cons.mpr ⟨lw_p56, List.forall_mem_cons.mpr ⟨lw_p57, List.forall_mem_cons.mpr ⟨lw_p58, List.forall_mem_cons.mpr ⟨lw_p59, List.forall_mem_cons.mpr ⟨lw_p60, List.forall_mem_cons.mpr ⟨lw_p61, List.forall_mem_cons.mpr ⟨lw_p62, List.forall_mem_cons.mpr ⟨lw_p63, fun _ h => absurd h List.not_mem_nil⟩⟩⟩⟩⟩⟩⟩⟩⟩⟩⟩⟩⟩⟩⟩⟩
theorem lw_p64 : lw_okq (⟨"WagerQuizModel", "checkClose", "()I"⟩, 22) := ⟨⟨by decide +kernel, by decide +kernel⟩, List.mem_of_getElem? (i := 961) (by decide +kernel), List.mem_of_getElem? (i := 1163) (by decide +kernel), List.mem_of_getElem? (i := 1164) (by decide +kernel)⟩
theorem lw_p65 : lw_okq (⟨"WagerQuizModel", "closes", "()I"⟩, 22) := ⟨⟨by decide +kernel, by decide +kernel⟩, List.mem_of_getElem? (i := 961) (by decide +kernel), List.mem_of_getElem? (i := 1167) (by decide +kernel), List.mem_of_getElem? (i := 1168) (by decide +kernel)⟩
theorem lw_p66 : lw_okq (⟨"WagerQuizModel", "checkWager", "(I)I"⟩, 22) := ⟨⟨by decide +kernel, by decide +kernel⟩, List.mem_of_getElem? (i := 961) (by decide +kernel), List.mem_of_getElem? (i := 1175) (by decide +kernel), List.mem_of_getElem? (i := 1176) (by decide +kernel)⟩
theorem lw_p67 : lw_okq (⟨"WagerQuizModel", "limit", "()I"⟩, 22) := ⟨⟨by decide +kernel, by decide +kernel⟩, List.mem_of_getElem? (i := 961) (by decide +kernel), List.mem_of_getElem? (i := 1180) (by decide +kernel), List.mem_of_getElem? (i := 1181) (by decide +kernel)⟩
theorem lw_p68 : lw_okq (⟨"WagerQuizModel", "tellsWager", "(I)I"⟩, 22) := ⟨⟨by decide +kernel, by decide +kernel⟩, List.mem_of_getElem? (i := 961) (by decide +kernel), List.mem_of_getElem? (i := 1184) (by decide +kernel), List.mem_of_getElem? (i := 1185) (by decide +kernel)⟩
theorem lw_p69 : lw_okq (⟨"WagerQuizModel", "noEntry", "(I)Z"⟩, 22) := ⟨⟨by decide +kernel, by decide +kernel⟩, List.mem_of_getElem? (i := 961) (by decide +kernel), List.mem_of_getElem? (i := 1209) (by decide +kernel), List.mem_of_getElem? (i := 1210) (by decide +kernel)⟩
theorem lw_p70 : lw_okq (⟨"WagerQuizModel", "readAll", "()I"⟩, 22) := ⟨⟨by decide +kernel, by decide +kernel⟩, List.mem_of_getElem? (i := 961) (by decide +kernel), List.mem_of_getElem? (i := 1225) (by decide +kernel), List.mem_of_getElem? (i := 1226) (by decide +kernel)⟩
theorem lw_p71 : lw_okq (⟨"WagerQuizModel", "digit", "(I)I"⟩, 22) := ⟨⟨by decide +kernel, by decide +kernel⟩, List.mem_of_getElem? (i := 961) (by decide +kernel), List.mem_of_getElem? (i := 1229) (by decide +kernel), List.mem_of_getElem? (i := 1230) (by decide +kernel)⟩
theorem lw_p72 : lw_okq (⟨"WagerQuizModel", "check", "(I)I"⟩, 22) := ⟨⟨by decide +kernel, by decide +kernel⟩, List.mem_of_getElem? (i := 961) (by decide +kernel), List.mem_of_getElem? (i := 1233) (by decide +kernel), List.mem_of_getElem? (i := 1234) (by decide +kernel)⟩
theorem lw_p73 : lw_okq (⟨"WagerQuizModel", "does", "(I)V"⟩, 22) := ⟨⟨by decide +kernel, by decide +kernel⟩, List.mem_of_getElem? (i := 961) (by decide +kernel), List.mem_of_getElem? (i := 1237) (by decide +kernel), List.mem_of_getElem? (i := 1238) (by decide +kernel)⟩
theorem lw_p74 : lw_okq (⟨"WagerQuizModel", "rank", "(I)I"⟩, 22) := ⟨⟨by decide +kernel, by decide +kernel⟩, List.mem_of_getElem? (i := 961) (by decide +kernel), List.mem_of_getElem? (i := 1245) (by decide +kernel), List.mem_of_getElem? (i := 1246) (by decide +kernel)⟩
theorem lw_p75 : lw_okq (⟨"WagerQuizModel", "placeOf", "(I)I"⟩, 22) := ⟨⟨by decide +kernel, by decide +kernel⟩, List.mem_of_getElem? (i := 961) (by decide +kernel), List.mem_of_getElem? (i := 1249) (by decide +kernel), List.mem_of_getElem? (i := 1250) (by decide +kernel)⟩
theorem lw_p76 : lw_okq (⟨"WagerQuizModel", "isBefore", "(II)Z"⟩, 22) := ⟨⟨by decide +kernel, by decide +kernel⟩, List.mem_of_getElem? (i := 961) (by decide +kernel), List.mem_of_getElem? (i := 1253) (by decide +kernel), List.mem_of_getElem? (i := 1254) (by decide +kernel)⟩
theorem lw_p77 : lw_okq (⟨"WagerQuizModel", "atPlace", "(I)I"⟩, 22) := ⟨⟨by decide +kernel, by decide +kernel⟩, List.mem_of_getElem? (i := 961) (by decide +kernel), List.mem_of_getElem? (i := 1264) (by decide +kernel), List.mem_of_getElem? (i := 1265) (by decide +kernel)⟩
theorem lw_p78 : lw_okq (⟨"WagerQuizModel", "isAnswer", "(II)Z"⟩, 22) := ⟨⟨by decide +kernel, by decide +kernel⟩, List.mem_of_getElem? (i := 961) (by decide +kernel), List.mem_of_getElem? (i := 1276) (by decide +kernel), List.mem_of_getElem? (i := 1277) (by decide +kernel)⟩
theorem lw_p79 : lw_okq (⟨"WagerQuizModel", "leaders", "()I"⟩, 22) := ⟨⟨by decide +kernel, by decide +kernel⟩, List.mem_of_getElem? (i := 961) (by decide +kernel), List.mem_of_getElem? (i := 1288) (by decide +kernel), List.mem_of_getElem? (i := 1289) (by decide +kernel)⟩
def lw_privs_5 : List (MethodName × Nat) := [(⟨"WagerQuizModel", "checkClose", "()I"⟩, 22), (⟨"WagerQuizModel", "closes", "()I"⟩, 22), (⟨"WagerQuizModel", "checkWager", "(I)I"⟩, 22), (⟨"WagerQuizModel", "limit", "()I"⟩, 22), (⟨"WagerQuizModel", "tellsWager", "(I)I"⟩, 22), (⟨"WagerQuizModel", "noEntry", "(I)Z"⟩, 22), (⟨"WagerQuizModel", "readAll", "()I"⟩, 22), (⟨"WagerQuizModel", "digit", "(I)I"⟩, 22), (⟨"WagerQuizModel", "check", "(I)I"⟩, 22), (⟨"WagerQuizModel", "does", "(I)V"⟩, 22), (⟨"WagerQuizModel", "rank", "(I)I"⟩, 22), (⟨"WagerQuizModel", "placeOf", "(I)I"⟩, 22), (⟨"WagerQuizModel", "isBefore", "(II)Z"⟩, 22), (⟨"WagerQuizModel", "atPlace", "(I)I"⟩, 22), (⟨"WagerQuizModel", "isAnswer", "(II)Z"⟩, 22), (⟨"WagerQuizModel", "leaders", "()I"⟩, 22)]
theorem lw_r5 : ∀ q ∈ lw_privs_5, lw_okq q := List.forall_mem_cons.mpr ⟨lw_p64, List.forall_mem_cons.mpr ⟨lw_p65, List.forall_mem_cons.mpr ⟨lw_p66, List.forall_mem_cons.mpr ⟨lw_p67, List.forall_mem_cons.mpr ⟨lw_p68, List.forall_mem_cons.mpr ⟨lw_p69, List.forall_mem_cons.mpr ⟨lw_p70, List.forall_mem_cons.mpr ⟨lw_p71, List.forall_mem_cons.mpr ⟨lw_p72, List.forall_mem_cons.mpr ⟨lw_p73, List.forall_mem_cons.mpr ⟨lw_p74, List.forall_mem_cons.mpr ⟨lw_p75, List.forall_mem_cons.mpr ⟨lw_p76, List.forall_mem_cons.mpr ⟨lw_p77, List.forall_mem_cons.mpr ⟨lw_p78, List.forall_mem_cons.mpr ⟨lw_p79, fun _ h => absurd h List.not_mem_nil⟩⟩⟩⟩⟩⟩⟩⟩⟩⟩⟩⟩⟩⟩⟩⟩
theorem lw_p80 : lw_okq (⟨"WagerQuizModel", "write", "(I)V"⟩, 22) := ⟨⟨by decide +kernel, by decide +kernel⟩, List.mem_of_getElem? (i := 961) (by decide +kernel), List.mem_of_getElem? (i := 1296) (by decide +kernel), List.mem_of_getElem? (i := 1297) (by decide +kernel)⟩
theorem lw_p81 : lw_okq (⟨"WagerQuizModel", "writeNumber", "(I)V"⟩, 22) := ⟨⟨by decide +kernel, by decide +kernel⟩, List.mem_of_getElem? (i := 961) (by decide +kernel), List.mem_of_getElem? (i := 1300) (by decide +kernel), List.mem_of_getElem? (i := 1301) (by decide +kernel)⟩
def lw_privs_6 : List (MethodName × Nat) := [(⟨"WagerQuizModel", "write", "(I)V"⟩, 22), (⟨"WagerQuizModel", "writeNumber", "(I)V"⟩, 22)]
theorem lw_r6 : ∀ q ∈ lw_privs_6, lw_okq q := List.forall_mem_cons.mpr ⟨lw_p80, List.forall_mem_cons.mpr ⟨lw_p81, fun _ h => absurd h List.not_mem_nil⟩⟩
def lw_privs : List (MethodName × Nat) := lw_privs_1 ++ (lw_privs_2 ++ (lw_privs_3 ++ (lw_privs_4 ++ (lw_privs_5 ++ (lw_privs_6)))))
def lw_tbl : List Cond := k2_sels lw_privs ++ tables_1
theorem lw_privs_ok : ∀ q ∈ lw_privs, lw_okq q := by
  show ∀ q ∈ lw_privs_1 ++ (lw_privs_2 ++ (lw_privs_3 ++ (lw_privs_4 ++ (lw_privs_5 ++ (lw_privs_6))))), lw_okq q
  exact List.forall_mem_append.mpr ⟨lw_r1, List.forall_mem_append.mpr ⟨lw_r2, List.forall_mem_append.mpr ⟨lw_r3, List.forall_mem_append.mpr ⟨lw_r4, List.forall_mem_append.mpr ⟨lw_r5, lw_r6⟩⟩⟩⟩⟩
end
section
/-! names of the claim: classes, fields, methods in use (by program out of the printed texts) -/
def zeNd {α : Type} (k : Nat) (a b : Nat → α) : Nat → α := fun x => cond (Nat.ble k x) (b x) (a x)
def zeLf {α : Type} (k : Nat) (v d : α) : Nat → α := fun x => cond (Nat.beq x k) v d
def zeT0 : u_T := fun k => match k with
  | 0 => ("WagerQuiz$FinalRound", "answers", "I", false)
  | 1 => ("WagerQuiz$FinalRound", "startScores", "[I", true)
  | _ => ("WagerQuiz$FinalRound", "wagers", "[I", true)
def zeY0 : Nat → FieldType := fun k => match k with
  | 0 => .int
  | 1 => (.array .int)
  | _ => (.array .int)
theorem zeYok0 : ∀ k, k < 3 → parseFieldDescriptor (zeT0 k).2.2.1 = some (zeY0 k) := by decide +kernel
theorem zeNm0 : ∀ a, a < 3 → ∀ b, b < 3 → a ≠ b → (zeT0 a).2.1 ≠ (zeT0 b).2.1 := by decide +kernel
def zeT1 : u_T := fun k => match k with
  | 0 => ("WagerQuiz$History", "size", "I", false)
  | 1 => ("WagerQuiz$History", "trial", "I", false)
  | _ => ("WagerQuiz$History", "ring", "[LWagerQuiz$State;", true)
def zeY1 : Nat → FieldType := fun k => match k with
  | 0 => .int
  | 1 => .int
  | _ => (.array (.object "WagerQuiz$State"))
theorem zeYok1 : ∀ k, k < 3 → parseFieldDescriptor (zeT1 k).2.2.1 = some (zeY1 k) := by decide +kernel
theorem zeNm1 : ∀ a, a < 3 → ∀ b, b < 3 → a ≠ b → (zeT1 a).2.1 ≠ (zeT1 b).2.1 := by decide +kernel
def zeT2 : u_T := fun k => match k with
  | 0 => ("WagerQuiz$Log", "size", "I", false)
  | 1 => ("WagerQuiz$Log", "players", "[I", true)
  | 2 => ("WagerQuiz$Log", "sorts", "[I", true)
  | 3 => ("WagerQuiz$Log", "clues", "[I", true)
  | 4 => ("WagerQuiz$Log", "amounts", "[I", true)
  | _ => ("WagerQuiz$Log", "judgements", "[I", true)
def zeY2 : Nat → FieldType := fun k => match k with
  | 0 => .int
  | 1 => (.array .int)
  | 2 => (.array .int)
  | 3 => (.array .int)
  | 4 => (.array .int)
  | _ => (.array .int)
theorem zeYok2 : ∀ k, k < 6 → parseFieldDescriptor (zeT2 k).2.2.1 = some (zeY2 k) := by decide +kernel
theorem zeNm2 : ∀ a, a < 6 → ∀ b, b < 6 → a ≠ b → (zeT2 a).2.1 ≠ (zeT2 b).2.1 := by decide +kernel
def zeT3 : u_T := fun k => match k with
  | 0 => ("WagerQuiz$PickedClue", "clue", "I", false)
  | 1 => ("WagerQuiz$PickedClue", "reading", "I", false)
  | 2 => ("WagerQuiz$PickedClue", "lock", "I", false)
  | 3 => ("WagerQuiz$PickedClue", "wager", "I", false)
  | 4 => ("WagerQuiz$PickedClue", "answered", "I", false)
  | 5 => ("WagerQuiz$PickedClue", "countingTicks", "[I", true)
  | 6 => ("WagerQuiz$PickedClue", "ticksBelow64", "[J", true)
  | _ => ("WagerQuiz$PickedClue", "ticksFrom64", "[J", true)
def zeY3 : Nat → FieldType := fun k => match k with
  | 0 => .int
  | 1 => .int
  | 2 => .int
  | 3 => .int
  | 4 => .int
  | 5 => (.array .int)
  | 6 => (.array .long)
  | _ => (.array .long)
theorem zeYok3 : ∀ k, k < 8 → parseFieldDescriptor (zeT3 k).2.2.1 = some (zeY3 k) := by decide +kernel
theorem zeNm3 : ∀ a, a < 8 → ∀ b, b < 8 → a ≠ b → (zeT3 a).2.1 ≠ (zeT3 b).2.1 := by decide +kernel
def zeT4 : u_T := fun k => match k with
  | 0 => ("WagerQuiz$Replay", "control", "I", false)
  | 1 => ("WagerQuiz$Replay", "scores", "[I", true)
  | 2 => ("WagerQuiz$Replay", "rights", "[I", true)
  | 3 => ("WagerQuiz$Replay", "wrongs", "[I", true)
  | 4 => ("WagerQuiz$Replay", "corrections", "[I", true)
  | 5 => ("WagerQuiz$Replay", "solvers", "[I", true)
  | 6 => ("WagerQuiz$Replay", "amounts", "[I", true)
  | 7 => ("WagerQuiz$Replay", "scoresBehind", "[I", true)
  | 8 => ("WagerQuiz$Replay", "voids", "[Z", true)
  | _ => ("WagerQuiz$Replay", "formerScores", "[I", true)
def zeY4 : Nat → FieldType := fun k => match k with
  | 0 => .int
  | 1 => (.array .int)
  | 2 => (.array .int)
  | 3 => (.array .int)
  | 4 => (.array .int)
  | 5 => (.array .int)
  | 6 => (.array .int)
  | 7 => (.array .int)
  | 8 => (.array .boolean)
  | _ => (.array .int)
theorem zeYok4 : ∀ k, k < 10 → parseFieldDescriptor (zeT4 k).2.2.1 = some (zeY4 k) := by decide +kernel
theorem zeNm4 : ∀ a, a < 10 → ∀ b, b < 10 → a ≠ b → (zeT4 a).2.1 ≠ (zeT4 b).2.1 := by decide +kernel
def zeT5 : u_T := fun k => match k with
  | 0 => ("WagerQuiz$Script", "length", "I", false)
  | _ => ("WagerQuiz$Script", "signs", "[C", true)
def zeY5 : Nat → FieldType := fun k => match k with
  | 0 => .int
  | _ => (.array .char)
theorem zeYok5 : ∀ k, k < 2 → parseFieldDescriptor (zeT5 k).2.2.1 = some (zeY5 k) := by decide +kernel
theorem zeNm5 : ∀ a, a < 2 → ∀ b, b < 2 → a ≠ b → (zeT5 a).2.1 ≠ (zeT5 b).2.1 := by decide +kernel
def zeT6 : u_T := fun k => match k with
  | 0 => ("WagerQuiz$State", "phase", "I", false)
  | 1 => ("WagerQuiz$State", "players", "I", false)
  | 2 => ("WagerQuiz$State", "wagerClues", "I", false)
  | 3 => ("WagerQuiz$State", "goneClues", "I", false)
  | 4 => ("WagerQuiz$State", "settings", "[I", true)
  | 5 => ("WagerQuiz$State", "open", "LWagerQuiz$PickedClue;", true)
  | 6 => ("WagerQuiz$State", "finale", "LWagerQuiz$FinalRound;", true)
  | _ => ("WagerQuiz$State", "log", "LWagerQuiz$Log;", true)
def zeY6 : Nat → FieldType := fun k => match k with
  | 0 => .int
  | 1 => .int
  | 2 => .int
  | 3 => .int
  | 4 => (.array .int)
  | 5 => (.object "WagerQuiz$PickedClue")
  | 6 => (.object "WagerQuiz$FinalRound")
  | _ => (.object "WagerQuiz$Log")
theorem zeYok6 : ∀ k, k < 8 → parseFieldDescriptor (zeT6 k).2.2.1 = some (zeY6 k) := by decide +kernel
theorem zeNm6 : ∀ a, a < 8 → ∀ b, b < 8 → a ≠ b → (zeT6 a).2.1 ≠ (zeT6 b).2.1 := by decide +kernel
def zeT7 : u_T := fun k => match k with
  | 0 => ("WagerQuiz", "now", "LWagerQuiz$State;", true)
  | 1 => ("WagerQuiz", "replay", "LWagerQuiz$Replay;", true)
  | 2 => ("WagerQuiz", "history", "LWagerQuiz$History;", true)
  | 3 => ("WagerQuiz", "slots", "[LWagerQuiz$State;", true)
  | 4 => ("WagerQuiz", "slotTaken", "[Z", true)
  | 5 => ("WagerQuiz", "script", "LWagerQuiz$Script;", true)
  | 6 => ("WagerQuiz", "message", "Ljava/lang/StringBuilder;", true)
  | _ => ("WagerQuiz", "reason", "I", false)
def zeY7 : Nat → FieldType := fun k => match k with
  | 0 => (.object "WagerQuiz$State")
  | 1 => (.object "WagerQuiz$Replay")
  | 2 => (.object "WagerQuiz$History")
  | 3 => (.array (.object "WagerQuiz$State"))
  | 4 => (.array .boolean)
  | 5 => (.object "WagerQuiz$Script")
  | 6 => (.object "java/lang/StringBuilder")
  | _ => .int
theorem zeYok7 : ∀ k, k < 8 → parseFieldDescriptor (zeT7 k).2.2.1 = some (zeY7 k) := by decide +kernel
theorem zeNm7 : ∀ a, a < 8 → ∀ b, b < 8 → a ≠ b → (zeT7 a).2.1 ≠ (zeT7 b).2.1 := by decide +kernel
def zeT8 : u_T := fun k => match k with
  | 0 => ("WagerQuizModel", "now", "[I", true)
  | 1 => ("WagerQuizModel", "history", "[I", true)
  | 2 => ("WagerQuizModel", "kept", "I", false)
  | 3 => ("WagerQuizModel", "slots", "[I", true)
  | 4 => ("WagerQuizModel", "isFilled", "[Z", true)
  | 5 => ("WagerQuizModel", "reason", "I", false)
  | 6 => ("WagerQuizModel", "score", "[I", true)
  | 7 => ("WagerQuizModel", "amount", "[I", true)
  | 8 => ("WagerQuizModel", "isVoid", "[Z", true)
  | 9 => ("WagerQuizModel", "after", "[I", true)
  | 10 => ("WagerQuizModel", "rights", "[I", true)
  | 11 => ("WagerQuizModel", "wrongs", "[I", true)
  | 12 => ("WagerQuizModel", "corrections", "[I", true)
  | 13 => ("WagerQuizModel", "control", "I", false)
  | 14 => ("WagerQuizModel", "waits", "[I", true)
  | 15 => ("WagerQuizModel", "before", "[I", true)
  | 16 => ("WagerQuizModel", "typed", "I", false)
  | 17 => ("WagerQuizModel", "text", "[C", true)
  | 18 => ("WagerQuizModel", "moves", "I", false)
  | 19 => ("WagerQuizModel", "moveOf", "[I", true)
  | 20 => ("WagerQuizModel", "written", "I", false)
  | _ => ("WagerQuizModel", "message", "[I", true)
def zeY8 : Nat → FieldType := fun k => match k with
  | 0 => (.array .int)
  | 1 => (.array .int)
  | 2 => .int
  | 3 => (.array .int)
  | 4 => (.array .boolean)
  | 5 => .int
  | 6 => (.array .int)
  | 7 => (.array .int)
  | 8 => (.array .boolean)
  | 9 => (.array .int)
  | 10 => (.array .int)
  | 11 => (.array .int)
  | 12 => (.array .int)
  | 13 => .int
  | 14 => (.array .int)
  | 15 => (.array .int)
  | 16 => .int
  | 17 => (.array .char)
  | 18 => .int
  | 19 => (.array .int)
  | 20 => .int
  | _ => (.array .int)
theorem zeYok8 : ∀ k, k < 22 → parseFieldDescriptor (zeT8 k).2.2.1 = some (zeY8 k) := by decide +kernel
theorem zeNm8 : ∀ a, a < 22 → ∀ b, b < 22 → a ≠ b → (zeT8 a).2.1 ≠ (zeT8 b).2.1 := by decide +kernel
def zeT9 : u_T := fun k => match k with
  | 0 => ("java/lang/AbstractStringBuilder", "value", "[B", false)
  | 1 => ("java/lang/AbstractStringBuilder", "coder", "B", false)
  | 2 => ("java/lang/AbstractStringBuilder", "maybeLatin1", "Z", false)
  | _ => ("java/lang/AbstractStringBuilder", "count", "I", false)
def zeY9 : Nat → FieldType := fun k => match k with
  | 0 => (.array .byte)
  | 1 => .byte
  | 2 => .boolean
  | _ => .int
theorem zeYok9 : ∀ k, k < 4 → parseFieldDescriptor (zeT9 k).2.2.1 = some (zeY9 k) := by decide +kernel
theorem zeNm9 : ∀ a, a < 4 → ∀ b, b < 4 → a ≠ b → (zeT9 a).2.1 ≠ (zeT9 b).2.1 := by decide +kernel
abbrev zeCl : List vw_C := [("WagerQuiz$FinalRound", zeT0, 3), ("WagerQuiz$History", zeT1, 3), ("WagerQuiz$Log", zeT2, 6), ("WagerQuiz$PickedClue", zeT3, 8), ("WagerQuiz$Replay", zeT4, 10), ("WagerQuiz$Script", zeT5, 2), ("WagerQuiz$State", zeT6, 8), ("WagerQuiz", zeT7, 8), ("WagerQuizModel", zeT8, 22), ("java/lang/StringBuilder", zeT9, 4)]
/-- the fields of a class: true where a reference stands -/
def zeFL : Nat → List Bool := fun k => match k with
  | 0 => [false, true, true]
  | 1 => [false, false, true]
  | 2 => [false, true, true, true, true, true]
  | 3 => [false, false, false, false, false, true, true, true]
  | 4 => [false, true, true, true, true, true, true, true, true, true]
  | 5 => [false, true]
  | 6 => [false, false, false, false, true, true, true, true]
  | 7 => [true, true, true, true, true, true, true, false]
  | 8 => [true, true, false, true, true, false, true, true, true, true, true, true, true, false, true, true, false, true, false, true, false, true]
  | _ => [true, false, false, false]
def zeBT : List Cond := lw_tbl.filter goodWord
theorem zeBT_of {w : Cond} {k : Nat} (h : tables_1[k]? = some w) (hg : goodWord w = true) : w ∈ zeBT := List.mem_filter.mpr ⟨by unfold lw_tbl; exact List.mem_append_right _ (List.mem_of_getElem? h), hg⟩
theorem zeBT_p {w : Cond} {k : Nat} (h : (k2_sels lw_privs)[k]? = some w) (hg : goodWord w = true) : w ∈ zeBT := List.mem_filter.mpr ⟨by unfold lw_tbl; exact List.mem_append_left _ (List.mem_of_getElem? h), hg⟩
theorem zeBT_good : ∀ w ∈ zeBT, goodWord w = true := fun w h => (List.mem_filter.mp h).2
def zeCod : Nat → ByteArray := (zeNd 106 (zeNd 53 (zeNd 26 (zeNd 13 (zeNd 6 (zeNd 3 (zeNd 1 (fun _ => prog_5_method_1_code) (zeNd 2 (fun _ => prog_2_method_1_code) (fun _ => prog_4_method_1_code))) (zeNd 4 (fun _ => prog_8_method_1_code) (zeNd 5 (fun _ => prog_6_method_1_code) (fun _ => prog_3_method_1_code)))) (zeNd 9 (zeNd 7 (fun _ => prog_7_method_1_code) (zeNd 8 (fun _ => prog_11_method_2_code) (fun _ => prog_16_method_1_code))) (zeNd 11 (zeNd 10 (fun _ => prog_1_method_1_code) (fun _ => prog_10_method_1_code)) (zeNd 12 (fun _ => prog_5_method_7_code) (fun _ => prog_2_method_9_code))))) (zeNd 19 (zeNd 16 (zeNd 14 (fun _ => prog_4_method_5_code) (zeNd 15 (fun _ => prog_8_method_2_code) (fun _ => prog_3_method_2_code))) (zeNd 17 (fun _ => prog_1_method_56_code) (zeNd 18 (fun _ => prog_1_method_47_code) (fun _ => prog_1_method_28_code)))) (zeNd 22 (zeNd 20 (fun _ => prog_1_method_46_code) (zeNd 21 (fun _ => prog_3_method_3_code) (fun _ => prog_1_method_45_code))) (zeNd 24 (zeNd 23 (fun _ => prog_1_method_2_code) (fun _ => prog_10_method_14_code)) (zeNd 25 (fun _ => prog_10_method_7_code) (fun _ => prog_10_method_3_code)))))) (zeNd 39 (zeNd 32 (zeNd 29 (zeNd 27 (fun _ => prog_10_method_15_code) (zeNd 28 (fun _ => prog_1_method_51_code) (fun _ => prog_1_method_55_code))) (zeNd 30 (fun _ => prog_13_method_49_code) (zeNd 31 (fun _ => prog_1_method_29_code) (fun _ => prog_1_method_3_code)))) (zeNd 35 (zeNd 33 (fun _ => prog_10_method_2_code) (zeNd 34 (fun _ => prog_10_method_16_code) (fun _ => prog_10_method_17_code))) (zeNd 37 (zeNd 36 (fun _ => prog_1_method_30_code) (fun _ => prog_1_method_4_code)) (zeNd 38 (fun _ => prog_10_method_18_code) (fun _ => prog_1_method_50_code))))) (zeNd 46 (zeNd 42 (zeNd 40 (fun _ => prog_1_method_58_code) (zeNd 41 (fun _ => prog_5_method_2_code) (fun _ => prog_1_method_54_code))) (zeNd 44 (zeNd 43 (fun _ => prog_1_method_31_code) (fun _ => prog_1_method_5_code)) (zeNd 45 (fun _ => prog_10_method_13_code) (fun _ => prog_10_method_8_code)))) (zeNd 49 (zeNd 47 (fun _ => prog_10_method_10_code) (zeNd 48 (fun _ => prog_10_method_11_code) (fun _ => prog_10_method_19_code))) (zeNd 51 (zeNd 50 (fun _ => prog_10_method_9_code) (fun _ => prog_10_method_20_code)) (zeNd 52 (fun _ => prog_10_method_21_code) (fun _ => prog_5_method_3_code))))))) (zeNd 79 (zeNd 66 (zeNd 59 (zeNd 56 (zeNd 54 (fun _ => prog_5_method_6_code) (zeNd 55 (fun _ => prog_5_method_5_code) (fun _ => prog_5_method_4_code))) (zeNd 57 (fun _ => prog_1_method_66_code) (zeNd 58 (fun _ => prog_1_method_67_code) (fun _ => prog_1_method_32_code)))) (zeNd 62 (zeNd 60 (fun _ => prog_1_method_6_code) (zeNd 61 (fun _ => prog_10_method_22_code) (fun _ => prog_10_method_23_code))) (zeNd 64 (zeNd 63 (fun _ => prog_10_method_26_code) (fun _ => prog_10_method_28_code)) (zeNd 65 (fun _ => prog_10_method_27_code) (fun _ => prog_10_method_24_code))))) (zeNd 72 (zeNd 69 (zeNd 67 (fun _ => prog_10_method_25_code) (zeNd 68 (fun _ => prog_1_method_68_code) (fun _ => prog_1_method_69_code))) (zeNd 70 (fun _ => prog_1_method_70_code) (zeNd 71 (fun _ => prog_4_method_2_code) (fun _ => prog_4_method_3_code)))) (zeNd 75 (zeNd 73 (fun _ => prog_6_method_5_code) (zeNd 74 (fun _ => prog_6_method_6_code) (fun _ => prog_6_method_4_code))) (zeNd 77 (zeNd 76 (fun _ => prog_6_method_3_code) (fun _ => prog_6_method_2_code)) (zeNd 78 (fun _ => prog_1_method_48_code) (fun _ => prog_1_method_34_code)))))) (zeNd 92 (zeNd 85 (zeNd 82 (zeNd 80 (fun _ => prog_1_method_35_code) (zeNd 81 (fun _ => prog_2_method_8_code) (fun _ => prog_2_method_7_code))) (zeNd 83 (fun _ => prog_2_method_6_code) (zeNd 84 (fun _ => prog_2_method_3_code) (fun _ => prog_1_method_36_code)))) (zeNd 88 (zeNd 86 (fun _ => prog_1_method_33_code) (zeNd 87 (fun _ => prog_1_method_7_code) (fun _ => prog_10_method_30_code))) (zeNd 90 (zeNd 89 (fun _ => prog_10_method_29_code) (fun _ => prog_10_method_12_code)) (zeNd 91 (fun _ => prog_10_method_31_code) (fun _ => prog_10_method_32_code))))) (zeNd 99 (zeNd 95 (zeNd 93 (fun _ => prog_1_method_37_code) (zeNd 94 (fun _ => prog_1_method_8_code) (fun _ => prog_10_method_33_code))) (zeNd 97 (zeNd 96 (fun _ => prog_10_method_34_code) (fun _ => prog_10_method_35_code)) (zeNd 98 (fun _ => prog_1_method_38_code) (fun _ => prog_1_method_9_code)))) (zeNd 102 (zeNd 100 (fun _ => prog_10_method_36_code) (zeNd 101 (fun _ => prog_10_method_37_code) (fun _ => prog_10_method_38_code))) (zeNd 104 (zeNd 103 (fun _ => prog_10_method_39_code) (fun _ => prog_2_method_2_code)) (zeNd 105 (fun _ => prog_1_method_39_code) (fun _ => prog_1_method_10_code)))))))) (zeNd 159 (zeNd 132 (zeNd 119 (zeNd 112 (zeNd 109 (zeNd 107 (fun _ => prog_10_method_40_code) (zeNd 108 (fun _ => prog_2_method_4_code) (fun _ => prog_2_method_5_code))) (zeNd 110 (fun _ => prog_1_method_40_code) (zeNd 111 (fun _ => prog_1_method_11_code) (fun _ => prog_10_method_41_code)))) (zeNd 115 (zeNd 113 (fun _ => prog_1_method_59_code) (zeNd 114 (fun _ => prog_1_method_12_code) (fun _ => prog_10_method_42_code))) (zeNd 117 (zeNd 116 (fun _ => prog_1_method_41_code) (fun _ => prog_1_method_13_code)) (zeNd 118 (fun _ => prog_10_method_43_code) (fun _ => prog_1_method_52_code))))) (zeNd 125 (zeNd 122 (zeNd 120 (fun _ => prog_6_method_8_code) (zeNd 121 (fun _ => prog_6_method_9_code) (fun _ => prog_1_method_42_code))) (zeNd 123 (fun _ => prog_1_method_14_code) (zeNd 124 (fun _ => prog_10_method_44_code) (fun _ => prog_10_method_45_code)))) (zeNd 128 (zeNd 126 (fun _ => prog_7_method_2_code) (zeNd 127 (fun _ => prog_1_method_15_code) (fun _ => prog_10_method_46_code))) (zeNd 130 (zeNd 129 (fun _ => prog_1_method_16_code) (fun _ => prog_10_method_47_code)) (zeNd 131 (fun _ => prog_7_method_3_code) (fun _ => prog_7_method_4_code)))))) (zeNd 145 (zeNd 138 (zeNd 135 (zeNd 133 (fun _ => prog_7_method_7_code) (zeNd 134 (fun _ => prog_7_method_6_code) (fun _ => prog_7_method_5_code))) (zeNd 136 (fun _ => prog_7_method_8_code) (zeNd 137 (fun _ => prog_1_method_44_code) (fun _ => prog_1_method_43_code)))) (zeNd 141 (zeNd 139 (fun _ => prog_1_method_17_code) (zeNd 140 (fun _ => prog_10_method_48_code) (fun _ => prog_10_method_49_code))) (zeNd 143 (zeNd 142 (fun _ => prog_10_method_50_code) (fun _ => prog_10_method_51_code)) (zeNd 144 (fun _ => prog_10_method_52_code) (fun _ => prog_3_method_4_code))))) (zeNd 152 (zeNd 148 (zeNd 146 (fun _ => prog_1_method_49_code) (zeNd 147 (fun _ => prog_1_method_18_code) (fun _ => prog_10_method_4_code))) (zeNd 150 (zeNd 149 (fun _ => prog_1_method_53_code) (fun _ => prog_1_method_19_code)) (zeNd 151 (fun _ => prog_10_method_5_code) (fun _ => prog_1_method_20_code)))) (zeNd 155 (zeNd 153 (fun _ => prog_10_method_6_code) (zeNd 154 (fun _ => prog_1_method_60_code) (fun _ => prog_6_method_7_code))) (zeNd 157 (zeNd 156 (fun _ => prog_1_method_63_code) (fun _ => prog_1_method_21_code)) (zeNd 158 (fun _ => prog_10_method_55_code) (fun _ => prog_10_method_53_code))))))) (zeNd 186 (zeNd 172 (zeNd 165 (zeNd 162 (zeNd 160 (fun _ => prog_10_method_54_code) (zeNd 161 (fun _ => prog_10_method_56_code) (fun _ => prog_10_method_57_code))) (zeNd 163 (fun _ => prog_1_method_64_code) (zeNd 164 (fun _ => prog_1_method_22_code) (fun _ => prog_10_method_58_code)))) (zeNd 168 (zeNd 166 (fun _ => prog_10_method_59_code) (zeNd 167 (fun _ => prog_1_method_23_code) (fun _ => prog_10_method_60_code))) (zeNd 170 (zeNd 169 (fun _ => prog_4_method_4_code) (fun _ => prog_1_method_24_code)) (zeNd 171 (fun _ => prog_10_method_61_code) (fun _ => prog_10_method_62_code))))) (zeNd 179 (zeNd 175 (zeNd 173 (fun _ => prog_1_method_25_code) (zeNd 174 (fun _ => prog_10_method_63_code) (fun _ => prog_1_method_57_code))) (zeNd 177 (zeNd 176 (fun _ => prog_1_method_61_code) (fun _ => prog_1_method_62_code)) (zeNd 178 (fun _ => prog_1_method_26_code) (fun _ => prog_10_method_64_code)))) (zeNd 182 (zeNd 180 (fun _ => prog_10_method_65_code) (zeNd 181 (fun _ => prog_21_method_27_code) (fun _ => prog_11_method_10_code))) (zeNd 184 (zeNd 183 (fun _ => prog_20_method_121_code) (fun _ => prog_11_method_9_code)) (zeNd 185 (fun _ => prog_11_method_68_code) (fun _ => prog_11_method_13_code)))))) (zeNd 199 (zeNd 192 (zeNd 189 (zeNd 187 (fun _ => prog_16_method_89_code) (zeNd 188 (fun _ => prog_15_method_152_code) (fun _ => prog_15_method_54_code))) (zeNd 190 (fun _ => prog_11_method_71_code) (zeNd 191 (fun _ => prog_15_method_147_code) (fun _ => prog_11_method_73_code)))) (zeNd 195 (zeNd 193 (fun _ => prog_11_method_22_code) (zeNd 194 (fun _ => prog_16_method_7_code) (fun _ => prog_13_method_13_code))) (zeNd 197 (zeNd 196 (fun _ => prog_13_method_12_code) (fun _ => prog_11_method_32_code)) (zeNd 198 (fun _ => prog_16_method_15_code) (fun _ => prog_17_method_3_code))))) (zeNd 206 (zeNd 202 (zeNd 200 (fun _ => prog_11_method_31_code) (zeNd 201 (fun _ => prog_16_method_14_code) (fun _ => prog_1_method_65_code))) (zeNd 204 (zeNd 203 (fun _ => prog_11_method_6_code) (fun _ => prog_16_method_93_code)) (zeNd 205 (fun _ => prog_22_method_11_code) (fun _ => prog_15_method_155_code)))) (zeNd 209 (zeNd 207 (fun _ => prog_11_method_14_code) (zeNd 208 (fun _ => prog_16_method_88_code) (fun _ => prog_1_method_27_code))) (zeNd 211 (zeNd 210 (fun _ => prog_10_method_66_code) (fun _ => prog_10_method_67_code)) (zeNd 212 (fun _ => prog_10_method_68_code) (fun _ => code)))))))))
def zeNam : Nat → MethodName := (zeNd 106 (zeNd 53 (zeNd 26 (zeNd 13 (zeNd 6 (zeNd 3 (zeNd 1 (fun _ => ⟨"WagerQuiz$PickedClue", "<init>", "()V"⟩) (zeNd 2 (fun _ => ⟨"WagerQuiz$FinalRound", "<init>", "()V"⟩) (fun _ => ⟨"WagerQuiz$Log", "<init>", "()V"⟩))) (zeNd 4 (fun _ => ⟨"WagerQuiz$State", "<init>", "()V"⟩) (zeNd 5 (fun _ => ⟨"WagerQuiz$Replay", "<init>", "()V"⟩) (fun _ => ⟨"WagerQuiz$History", "<init>", "()V"⟩)))) (zeNd 9 (zeNd 7 (fun _ => ⟨"WagerQuiz$Script", "<init>", "()V"⟩) (zeNd 8 (fun _ => ⟨"java/lang/AbstractStringBuilder", "<init>", "(I)V"⟩) (fun _ => ⟨"java/lang/StringBuilder", "<init>", "()V"⟩))) (zeNd 11 (zeNd 10 (fun _ => ⟨"WagerQuiz", "<init>", "()V"⟩) (fun _ => ⟨"WagerQuizModel", "<init>", "()V"⟩)) (zeNd 12 (fun _ => ⟨"WagerQuiz$PickedClue", "copyFrom", "(LWagerQuiz$PickedClue;)V"⟩) (fun _ => ⟨"WagerQuiz$FinalRound", "copyFrom", "(LWagerQuiz$FinalRound;)V"⟩))))) (zeNd 19 (zeNd 16 (zeNd 14 (fun _ => ⟨"WagerQuiz$Log", "copyFrom", "(LWagerQuiz$Log;)V"⟩) (zeNd 15 (fun _ => ⟨"WagerQuiz$State", "copyFrom", "(LWagerQuiz$State;)V"⟩) (fun _ => ⟨"WagerQuiz$History", "prepare", "(LWagerQuiz$State;)V"⟩))) (zeNd 17 (fun _ => ⟨"WagerQuiz", "isBeforeFirstPick", "()Z"⟩) (zeNd 18 (fun _ => ⟨"WagerQuiz", "refused", "(I)I"⟩) (fun _ => ⟨"WagerQuiz", "doAddPlayer", "()I"⟩)))) (zeNd 22 (zeNd 20 (fun _ => ⟨"WagerQuiz", "isError", "(I)Z"⟩) (zeNd 21 (fun _ => ⟨"WagerQuiz$History", "commit", "()V"⟩) (fun _ => ⟨"WagerQuiz", "recorded", "(I)I"⟩))) (zeNd 24 (zeNd 23 (fun _ => ⟨"WagerQuiz", "addPlayer", "()I"⟩) (fun _ => ⟨"WagerQuizModel", "hasBegun", "()Z"⟩)) (zeNd 25 (fun _ => ⟨"WagerQuizModel", "refuse", "(I)I"⟩) (fun _ => ⟨"WagerQuizModel", "record", "()V"⟩)))))) (zeNd 39 (zeNd 32 (zeNd 29 (zeNd 27 (fun _ => ⟨"WagerQuizModel", "addPlayer", "()I"⟩) (zeNd 28 (fun _ => ⟨"WagerQuiz", "isClue", "(I)Z"⟩) (fun _ => ⟨"WagerQuiz", "bitOf", "(II)I"⟩))) (zeNd 30 (fun _ => ⟨"java/lang/Integer", "bitCount", "(I)I"⟩) (zeNd 31 (fun _ => ⟨"WagerQuiz", "doSetWagerClue", "(IZ)I"⟩) (fun _ => ⟨"WagerQuiz", "setWagerClue", "(IZ)I"⟩)))) (zeNd 35 (zeNd 33 (fun _ => ⟨"WagerQuizModel", "in", "(III)Z"⟩) (zeNd 34 (fun _ => ⟨"WagerQuizModel", "bits", "(I)I"⟩) (fun _ => ⟨"WagerQuizModel", "setWagerClue", "(IZ)I"⟩))) (zeNd 37 (zeNd 36 (fun _ => ⟨"WagerQuiz", "doSet", "(II)I"⟩) (fun _ => ⟨"WagerQuiz", "set", "(II)I"⟩)) (zeNd 38 (fun _ => ⟨"WagerQuizModel", "set", "(II)I"⟩) (fun _ => ⟨"WagerQuiz", "isPlayer", "(I)Z"⟩))))) (zeNd 46 (zeNd 42 (zeNd 40 (fun _ => ⟨"WagerQuiz", "controller", "()I"⟩) (zeNd 41 (fun _ => ⟨"WagerQuiz$PickedClue", "begin", "(III)V"⟩) (fun _ => ⟨"WagerQuiz", "valueOf", "(I)I"⟩))) (zeNd 44 (zeNd 43 (fun _ => ⟨"WagerQuiz", "doPick", "(II)I"⟩) (fun _ => ⟨"WagerQuiz", "pick", "(II)I"⟩)) (zeNd 45 (fun _ => ⟨"WagerQuizModel", "noPlayer", "(I)Z"⟩) (fun _ => ⟨"WagerQuizModel", "at", "(I)I"⟩)))) (zeNd 49 (zeNd 47 (fun _ => ⟨"WagerQuizModel", "isStealVoid", "(I)Z"⟩) (zeNd 48 (fun _ => ⟨"WagerQuizModel", "replay", "()V"⟩) (fun _ => ⟨"WagerQuizModel", "checkPick", "(II)I"⟩))) (zeNd 51 (zeNd 50 (fun _ => ⟨"WagerQuizModel", "value", "(I)I"⟩) (fun _ => ⟨"WagerQuizModel", "picks", "(I)I"⟩)) (zeNd 52 (fun _ => ⟨"WagerQuizModel", "pick", "(II)I"⟩) (fun _ => ⟨"WagerQuiz$PickedClue", "isTold", "(II)Z"⟩))))))) (zeNd 79 (zeNd 66 (zeNd 59 (zeNd 56 (zeNd 54 (fun _ => ⟨"WagerQuiz$PickedClue", "endOfLock", "(I)I"⟩) (zeNd 55 (fun _ => ⟨"WagerQuiz$PickedClue", "leastCountingTick", "(I)I"⟩) (fun _ => ⟨"WagerQuiz$PickedClue", "tell", "(II)V"⟩))) (zeNd 57 (fun _ => ⟨"WagerQuiz", "isQueued", "(I)Z"⟩) (zeNd 58 (fun _ => ⟨"WagerQuiz", "queueLength", "()I"⟩) (fun _ => ⟨"WagerQuiz", "doBuzz", "(II)I"⟩)))) (zeNd 62 (zeNd 60 (fun _ => ⟨"WagerQuiz", "buzz", "(II)I"⟩) (zeNd 61 (fun _ => ⟨"WagerQuizModel", "hasBuzzed", "(II)Z"⟩) (fun _ => ⟨"WagerQuizModel", "checkBuzz", "(II)I"⟩))) (zeNd 64 (zeNd 63 (fun _ => ⟨"WagerQuizModel", "counting", "(I)I"⟩) (fun _ => ⟨"WagerQuizModel", "isAhead", "(III)Z"⟩)) (zeNd 65 (fun _ => ⟨"WagerQuizModel", "queue", "()I"⟩) (fun _ => ⟨"WagerQuizModel", "buzzes", "(II)I"⟩))))) (zeNd 72 (zeNd 69 (zeNd 67 (fun _ => ⟨"WagerQuizModel", "buzz", "(II)I"⟩) (zeNd 68 (fun _ => ⟨"WagerQuiz", "isQueuedAhead", "(II)Z"⟩) (fun _ => ⟨"WagerQuiz", "queuePlaceOf", "(I)I"⟩))) (zeNd 70 (fun _ => ⟨"WagerQuiz", "playerInQueue", "(I)I"⟩) (zeNd 71 (fun _ => ⟨"WagerQuiz$Log", "isFull", "()Z"⟩) (fun _ => ⟨"WagerQuiz$Log", "append", "(IIIII)V"⟩)))) (zeNd 75 (zeNd 73 (fun _ => ⟨"WagerQuiz$Replay", "solverOf", "(I)I"⟩) (zeNd 74 (fun _ => ⟨"WagerQuiz$Replay", "limited", "(III)I"⟩) (fun _ => ⟨"WagerQuiz$Replay", "noteRight", "(II)V"⟩))) (zeNd 77 (zeNd 76 (fun _ => ⟨"WagerQuiz$Replay", "replayEntry", "(LWagerQuiz$Log;I)V"⟩) (fun _ => ⟨"WagerQuiz$Replay", "run", "(LWagerQuiz$Log;)V"⟩)) (zeNd 78 (fun _ => ⟨"WagerQuiz", "replayedScore", "(I)I"⟩) (fun _ => ⟨"WagerQuiz", "answerOpenClue", "(Z)I"⟩)))))) (zeNd 92 (zeNd 85 (zeNd 82 (zeNd 80 (fun _ => ⟨"WagerQuiz", "answerWagerClue", "(Z)I"⟩) (zeNd 81 (fun _ => ⟨"WagerQuiz$FinalRound", "isEarlier", "(II)Z"⟩) (fun _ => ⟨"WagerQuiz$FinalRound", "turnOf", "(I)I"⟩))) (zeNd 83 (fun _ => ⟨"WagerQuiz$FinalRound", "nextToAnswer", "()I"⟩) (zeNd 84 (fun _ => ⟨"WagerQuiz$FinalRound", "members", "()I"⟩) (fun _ => ⟨"WagerQuiz", "answerFinal", "(Z)I"⟩)))) (zeNd 88 (zeNd 86 (fun _ => ⟨"WagerQuiz", "doAnswer", "(Z)I"⟩) (zeNd 87 (fun _ => ⟨"WagerQuiz", "answer", "(Z)I"⟩) (fun _ => ⟨"WagerQuizModel", "checkAnswer", "()I"⟩))) (zeNd 90 (zeNd 89 (fun _ => ⟨"WagerQuizModel", "nextFinal", "()I"⟩) (fun _ => ⟨"WagerQuizModel", "enter", "(IIIII)V"⟩)) (zeNd 91 (fun _ => ⟨"WagerQuizModel", "answers", "(I)I"⟩) (fun _ => ⟨"WagerQuizModel", "answer", "(Z)I"⟩))))) (zeNd 99 (zeNd 95 (zeNd 93 (fun _ => ⟨"WagerQuiz", "doClose", "()I"⟩) (zeNd 94 (fun _ => ⟨"WagerQuiz", "close", "()I"⟩) (fun _ => ⟨"WagerQuizModel", "checkClose", "()I"⟩))) (zeNd 97 (zeNd 96 (fun _ => ⟨"WagerQuizModel", "closes", "()I"⟩) (fun _ => ⟨"WagerQuizModel", "close", "()I"⟩)) (zeNd 98 (fun _ => ⟨"WagerQuiz", "doWager", "(I)I"⟩) (fun _ => ⟨"WagerQuiz", "wager", "(I)I"⟩)))) (zeNd 102 (zeNd 100 (fun _ => ⟨"WagerQuizModel", "limit", "()I"⟩) (zeNd 101 (fun _ => ⟨"WagerQuizModel", "checkWager", "(I)I"⟩) (fun _ => ⟨"WagerQuizModel", "tellsWager", "(I)I"⟩))) (zeNd 104 (zeNd 103 (fun _ => ⟨"WagerQuizModel", "wager", "(I)I"⟩) (fun _ => ⟨"WagerQuiz$FinalRound", "begin", "([I)V"⟩)) (zeNd 105 (fun _ => ⟨"WagerQuiz", "doBeginFinal", "()I"⟩) (fun _ => ⟨"WagerQuiz", "beginFinal", "()I"⟩)))))))) (zeNd 159 (zeNd 132 (zeNd 119 (zeNd 112 (zeNd 109 (zeNd 107 (fun _ => ⟨"WagerQuizModel", "beginFinal", "()I"⟩) (zeNd 108 (fun _ => ⟨"WagerQuiz$FinalRound", "isWagerWanting", "(I)Z"⟩) (fun _ => ⟨"WagerQuiz$FinalRound", "wagersWanting", "()I"⟩))) (zeNd 110 (fun _ => ⟨"WagerQuiz", "doWagerFinal", "(II)I"⟩) (zeNd 111 (fun _ => ⟨"WagerQuiz", "wagerFinal", "(II)I"⟩) (fun _ => ⟨"WagerQuizModel", "wagerFinal", "(II)I"⟩)))) (zeNd 115 (zeNd 113 (fun _ => ⟨"WagerQuiz", "doubled", "(I)I"⟩) (zeNd 114 (fun _ => ⟨"WagerQuiz", "safeWager", "(I)I"⟩) (fun _ => ⟨"WagerQuizModel", "safeWager", "(I)I"⟩))) (zeNd 117 (zeNd 116 (fun _ => ⟨"WagerQuiz", "doCorrect", "(II)I"⟩) (fun _ => ⟨"WagerQuiz", "correct", "(II)I"⟩)) (zeNd 118 (fun _ => ⟨"WagerQuizModel", "correct", "(II)I"⟩) (fun _ => ⟨"WagerQuiz", "isEntry", "(I)Z"⟩))))) (zeNd 125 (zeNd 122 (zeNd 120 (fun _ => ⟨"WagerQuiz$Replay", "rememberScores", "()V"⟩) (zeNd 121 (fun _ => ⟨"WagerQuiz$Replay", "changedScores", "()I"⟩) (fun _ => ⟨"WagerQuiz", "doRejudge", "(I)I"⟩))) (zeNd 123 (fun _ => ⟨"WagerQuiz", "rejudge", "(I)I"⟩) (zeNd 124 (fun _ => ⟨"WagerQuizModel", "noEntry", "(I)Z"⟩) (fun _ => ⟨"WagerQuizModel", "rejudge", "(I)I"⟩)))) (zeNd 128 (zeNd 126 (fun _ => ⟨"WagerQuiz$Script", "append", "(C)Z"⟩) (zeNd 127 (fun _ => ⟨"WagerQuiz", "type", "(C)I"⟩) (fun _ => ⟨"WagerQuizModel", "type", "(C)I"⟩))) (zeNd 130 (zeNd 129 (fun _ => ⟨"WagerQuiz", "clearText", "()I"⟩) (fun _ => ⟨"WagerQuizModel", "clearText", "()I"⟩)) (zeNd 131 (fun _ => ⟨"WagerQuiz$Script", "signAt", "(I)C"⟩) (fun _ => ⟨"WagerQuiz$Script", "moveLength", "(I)I"⟩)))))) (zeNd 145 (zeNd 138 (zeNd 135 (zeNd 133 (fun _ => ⟨"WagerQuiz$Script", "greatestDigit", "(II)C"⟩) (zeNd 134 (fun _ => ⟨"WagerQuiz$Script", "isAllowed", "(II)Z"⟩) (fun _ => ⟨"WagerQuiz$Script", "fault", "()I"⟩))) (zeNd 136 (fun _ => ⟨"WagerQuiz$Script", "number", "(II)I"⟩) (zeNd 137 (fun _ => ⟨"WagerQuiz", "doMove", "(I)I"⟩) (fun _ => ⟨"WagerQuiz", "carryOutMoves", "()I"⟩)))) (zeNd 141 (zeNd 139 (fun _ => ⟨"WagerQuiz", "runScript", "()I"⟩) (zeNd 140 (fun _ => ⟨"WagerQuizModel", "digit", "(I)I"⟩) (fun _ => ⟨"WagerQuizModel", "readAll", "()I"⟩))) (zeNd 143 (zeNd 142 (fun _ => ⟨"WagerQuizModel", "check", "(I)I"⟩) (fun _ => ⟨"WagerQuizModel", "does", "(I)V"⟩)) (zeNd 144 (fun _ => ⟨"WagerQuizModel", "runScript", "()I"⟩) (fun _ => ⟨"WagerQuiz$History", "takeLatest", "()LWagerQuiz$State;"⟩))))) (zeNd 152 (zeNd 148 (zeNd 146 (fun _ => ⟨"WagerQuiz", "load", "(LWagerQuiz$State;)V"⟩) (zeNd 147 (fun _ => ⟨"WagerQuiz", "undo", "()I"⟩) (fun _ => ⟨"WagerQuizModel", "undo", "()I"⟩))) (zeNd 150 (zeNd 149 (fun _ => ⟨"WagerQuiz", "isSlot", "(I)Z"⟩) (fun _ => ⟨"WagerQuiz", "keep", "(I)I"⟩)) (zeNd 151 (fun _ => ⟨"WagerQuizModel", "keep", "(I)I"⟩) (fun _ => ⟨"WagerQuiz", "restore", "(I)I"⟩)))) (zeNd 155 (zeNd 153 (fun _ => ⟨"WagerQuizModel", "restore", "(I)I"⟩) (zeNd 154 (fun _ => ⟨"WagerQuiz", "playersAbove", "(I)I"⟩) (fun _ => ⟨"WagerQuiz$Replay", "isAhead", "(II)Z"⟩))) (zeNd 157 (zeNd 156 (fun _ => ⟨"WagerQuiz", "placeOf", "(I)I"⟩) (fun _ => ⟨"WagerQuiz", "player", "(II)I"⟩)) (zeNd 158 (fun _ => ⟨"WagerQuizModel", "rank", "(I)I"⟩) (fun _ => ⟨"WagerQuizModel", "isBefore", "(II)Z"⟩))))))) (zeNd 186 (zeNd 172 (zeNd 165 (zeNd 162 (zeNd 160 (fun _ => ⟨"WagerQuizModel", "placeOf", "(I)I"⟩) (zeNd 161 (fun _ => ⟨"WagerQuizModel", "orNone", "(I)I"⟩) (fun _ => ⟨"WagerQuizModel", "player", "(II)I"⟩))) (zeNd 163 (fun _ => ⟨"WagerQuiz", "playerAtPlace", "(I)I"⟩) (zeNd 164 (fun _ => ⟨"WagerQuiz", "ordered", "(I)I"⟩) (fun _ => ⟨"WagerQuizModel", "atPlace", "(I)I"⟩)))) (zeNd 168 (zeNd 166 (fun _ => ⟨"WagerQuizModel", "ordered", "(I)I"⟩) (zeNd 167 (fun _ => ⟨"WagerQuiz", "queued", "(I)I"⟩) (fun _ => ⟨"WagerQuizModel", "queued", "(I)I"⟩))) (zeNd 170 (zeNd 169 (fun _ => ⟨"WagerQuiz$Log", "answersTo", "(I)I"⟩) (fun _ => ⟨"WagerQuiz", "clue", "(II)I"⟩)) (zeNd 171 (fun _ => ⟨"WagerQuizModel", "isAnswer", "(II)Z"⟩) (fun _ => ⟨"WagerQuizModel", "clue", "(II)I"⟩))))) (zeNd 179 (zeNd 175 (zeNd 173 (fun _ => ⟨"WagerQuiz", "entry", "(II)I"⟩) (zeNd 174 (fun _ => ⟨"WagerQuizModel", "entry", "(II)I"⟩) (fun _ => ⟨"WagerQuiz", "isClueUnderWay", "()Z"⟩))) (zeNd 177 (zeNd 176 (fun _ => ⟨"WagerQuiz", "leaders", "()I"⟩) (fun _ => ⟨"WagerQuiz", "sumOfScores", "()I"⟩)) (zeNd 178 (fun _ => ⟨"WagerQuiz", "count", "(I)I"⟩) (fun _ => ⟨"WagerQuizModel", "leaders", "()I"⟩)))) (zeNd 182 (zeNd 180 (fun _ => ⟨"WagerQuizModel", "count", "(I)I"⟩) (zeNd 181 (fun _ => ⟨"jdk/internal/util/ArraysSupport", "newLength", "(III)I"⟩) (fun _ => ⟨"java/lang/AbstractStringBuilder", "newCapacity", "(I)I"⟩))) (zeNd 184 (zeNd 183 (fun _ => ⟨"java/util/Arrays", "copyOf", "([BI)[B"⟩) (fun _ => ⟨"java/lang/AbstractStringBuilder", "ensureCapacityInternal", "(I)V"⟩)) (zeNd 185 (fun _ => ⟨"java/lang/AbstractStringBuilder", "isLatin1", "()Z"⟩) (fun _ => ⟨"java/lang/AbstractStringBuilder", "setLength", "(I)V"⟩)))))) (zeNd 199 (zeNd 192 (zeNd 189 (zeNd 187 (fun _ => ⟨"java/lang/StringBuilder", "setLength", "(I)V"⟩) (zeNd 188 (fun _ => ⟨"java/lang/String", "coder", "()B"⟩) (fun _ => ⟨"java/lang/String", "length", "()I"⟩))) (zeNd 190 (fun _ => ⟨"java/lang/AbstractStringBuilder", "inflateIfNeededFor", "(Ljava/lang/String;)V"⟩) (zeNd 191 (fun _ => ⟨"java/lang/String", "getBytes", "([BIB)V"⟩) (fun _ => ⟨"java/lang/AbstractStringBuilder", "putStringAt", "(ILjava/lang/String;)V"⟩)))) (zeNd 195 (zeNd 193 (fun _ => ⟨"java/lang/AbstractStringBuilder", "append", "(Ljava/lang/String;)Ljava/lang/AbstractStringBuilder;"⟩) (zeNd 194 (fun _ => ⟨"java/lang/StringBuilder", "append", "(Ljava/lang/String;)Ljava/lang/StringBuilder;"⟩) (fun _ => ⟨"java/lang/Integer", "stringSize", "(I)I"⟩))) (zeNd 197 (zeNd 196 (fun _ => ⟨"java/lang/Integer", "getChars", "(II[B)I"⟩) (fun _ => ⟨"java/lang/AbstractStringBuilder", "append", "(I)Ljava/lang/AbstractStringBuilder;"⟩)) (zeNd 198 (fun _ => ⟨"java/lang/StringBuilder", "append", "(I)Ljava/lang/StringBuilder;"⟩) (fun _ => ⟨"java/lang/StringLatin1", "canEncode", "(C)Z"⟩))))) (zeNd 206 (zeNd 202 (zeNd 200 (fun _ => ⟨"java/lang/AbstractStringBuilder", "append", "(C)Ljava/lang/AbstractStringBuilder;"⟩) (zeNd 201 (fun _ => ⟨"java/lang/StringBuilder", "append", "(C)Ljava/lang/StringBuilder;"⟩) (fun _ => ⟨"WagerQuiz", "writeMessage", "()V"⟩))) (zeNd 204 (zeNd 203 (fun _ => ⟨"java/lang/AbstractStringBuilder", "length", "()I"⟩) (fun _ => ⟨"java/lang/StringBuilder", "length", "()I"⟩)) (zeNd 205 (fun _ => ⟨"jdk/internal/util/Preconditions", "checkIndex", "(IILjava/util/function/BiFunction;)I"⟩) (fun _ => ⟨"java/lang/String", "checkIndex", "(II)V"⟩)))) (zeNd 209 (zeNd 207 (fun _ => ⟨"java/lang/AbstractStringBuilder", "charAt", "(I)C"⟩) (zeNd 208 (fun _ => ⟨"java/lang/StringBuilder", "charAt", "(I)C"⟩) (fun _ => ⟨"WagerQuiz", "messageAt", "(I)I"⟩))) (zeNd 211 (zeNd 210 (fun _ => ⟨"WagerQuizModel", "write", "(I)V"⟩) (fun _ => ⟨"WagerQuizModel", "writeNumber", "(I)V"⟩)) (zeNd 212 (fun _ => ⟨"WagerQuizModel", "messageAt", "(I)I"⟩) (fun _ => ⟨"WagerQuizLaw", "law", "([I)Z"⟩)))))))))
def zeNl : Nat → Nat := (zeNd 106 (zeNd 53 (zeNd 26 (zeNd 13 (zeNd 6 (zeNd 3 (zeNd 1 (fun _ => 1) (zeNd 2 (fun _ => 2) (fun _ => 1))) (zeNd 4 (fun _ => 1) (zeNd 5 (fun _ => 2) (fun _ => 2)))) (zeNd 9 (zeNd 7 (fun _ => 1) (zeNd 8 (fun _ => 2) (fun _ => 1))) (zeNd 11 (zeNd 10 (fun _ => 2) (fun _ => 2)) (zeNd 12 (fun _ => 2) (fun _ => 2))))) (zeNd 19 (zeNd 16 (zeNd 14 (fun _ => 2) (zeNd 15 (fun _ => 2) (fun _ => 2))) (zeNd 17 (fun _ => 1) (zeNd 18 (fun _ => 2) (fun _ => 1)))) (zeNd 22 (zeNd 20 (fun _ => 1) (zeNd 21 (fun _ => 1) (fun _ => 2))) (zeNd 24 (zeNd 23 (fun _ => 1) (fun _ => 1)) (zeNd 25 (fun _ => 2) (fun _ => 2)))))) (zeNd 39 (zeNd 32 (zeNd 29 (zeNd 27 (fun _ => 1) (zeNd 28 (fun _ => 1) (fun _ => 2))) (zeNd 30 (fun _ => 1) (zeNd 31 (fun _ => 3) (fun _ => 3)))) (zeNd 35 (zeNd 33 (fun _ => 3) (zeNd 34 (fun _ => 3) (fun _ => 3))) (zeNd 37 (zeNd 36 (fun _ => 4) (fun _ => 3)) (zeNd 38 (fun _ => 4) (fun _ => 2))))) (zeNd 46 (zeNd 42 (zeNd 40 (fun _ => 1) (zeNd 41 (fun _ => 5) (fun _ => 1))) (zeNd 44 (zeNd 43 (fun _ => 3) (fun _ => 3)) (zeNd 45 (fun _ => 2) (fun _ => 1)))) (zeNd 49 (zeNd 47 (fun _ => 4) (zeNd 48 (fun _ => 7) (fun _ => 4))) (zeNd 51 (zeNd 50 (fun _ => 1) (fun _ => 3)) (zeNd 52 (fun _ => 4) (fun _ => 5))))))) (zeNd 79 (zeNd 66 (zeNd 59 (zeNd 56 (zeNd 54 (fun _ => 4) (zeNd 55 (fun _ => 3) (fun _ => 3))) (zeNd 57 (fun _ => 2) (zeNd 58 (fun _ => 3) (fun _ => 3)))) (zeNd 62 (zeNd 60 (fun _ => 3) (zeNd 61 (fun _ => 3) (fun _ => 3))) (zeNd 64 (zeNd 63 (fun _ => 4) (fun _ => 5)) (zeNd 65 (fun _ => 5) (fun _ => 3))))) (zeNd 72 (zeNd 69 (zeNd 67 (fun _ => 4) (zeNd 68 (fun _ => 5) (fun _ => 4))) (zeNd 70 (fun _ => 3) (zeNd 71 (fun _ => 1) (fun _ => 6)))) (zeNd 75 (zeNd 73 (fun _ => 2) (zeNd 74 (fun _ => 3) (fun _ => 3))) (zeNd 77 (zeNd 76 (fun _ => 5) (fun _ => 3)) (zeNd 78 (fun _ => 2) (fun _ => 5)))))) (zeNd 92 (zeNd 85 (zeNd 82 (zeNd 80 (fun _ => 3) (zeNd 81 (fun _ => 3) (fun _ => 4))) (zeNd 83 (fun _ => 2) (zeNd 84 (fun _ => 6) (fun _ => 3)))) (zeNd 88 (zeNd 86 (fun _ => 2) (zeNd 87 (fun _ => 2) (fun _ => 2))) (zeNd 90 (zeNd 89 (fun _ => 4) (fun _ => 7)) (zeNd 91 (fun _ => 7) (fun _ => 3))))) (zeNd 99 (zeNd 95 (zeNd 93 (fun _ => 1) (zeNd 94 (fun _ => 1) (fun _ => 1))) (zeNd 97 (zeNd 96 (fun _ => 1) (fun _ => 2)) (zeNd 98 (fun _ => 3) (fun _ => 2)))) (zeNd 102 (zeNd 100 (fun _ => 1) (zeNd 101 (fun _ => 2) (fun _ => 2))) (zeNd 104 (zeNd 103 (fun _ => 3) (fun _ => 3)) (zeNd 105 (fun _ => 2) (fun _ => 1)))))))) (zeNd 159 (zeNd 132 (zeNd 119 (zeNd 112 (zeNd 109 (zeNd 107 (fun _ => 3) (zeNd 108 (fun _ => 2) (fun _ => 3))) (zeNd 110 (fun _ => 4) (zeNd 111 (fun _ => 3) (fun _ => 6)))) (zeNd 115 (zeNd 113 (fun _ => 1) (zeNd 114 (fun _ => 5) (fun _ => 5))) (zeNd 117 (zeNd 116 (fun _ => 3) (fun _ => 3)) (zeNd 118 (fun _ => 3) (fun _ => 2))))) (zeNd 125 (zeNd 122 (zeNd 120 (fun _ => 1) (zeNd 121 (fun _ => 3) (fun _ => 2))) (zeNd 123 (fun _ => 2) (zeNd 124 (fun _ => 2) (fun _ => 5)))) (zeNd 128 (zeNd 126 (fun _ => 2) (zeNd 127 (fun _ => 2) (fun _ => 2))) (zeNd 130 (zeNd 129 (fun _ => 2) (fun _ => 2)) (zeNd 131 (fun _ => 2) (fun _ => 2)))))) (zeNd 145 (zeNd 138 (zeNd 135 (zeNd 133 (fun _ => 4) (zeNd 134 (fun _ => 4) (fun _ => 3))) (zeNd 136 (fun _ => 5) (zeNd 137 (fun _ => 2) (fun _ => 3)))) (zeNd 141 (zeNd 139 (fun _ => 3) (zeNd 140 (fun _ => 2) (fun _ => 9))) (zeNd 143 (zeNd 142 (fun _ => 3) (fun _ => 4)) (zeNd 144 (fun _ => 4) (fun _ => 1))))) (zeNd 152 (zeNd 148 (zeNd 146 (fun _ => 2) (zeNd 147 (fun _ => 1) (fun _ => 2))) (zeNd 150 (zeNd 149 (fun _ => 1) (fun _ => 2)) (zeNd 151 (fun _ => 3) (fun _ => 2)))) (zeNd 155 (zeNd 153 (fun _ => 3) (zeNd 154 (fun _ => 4) (fun _ => 3))) (zeNd 157 (zeNd 156 (fun _ => 4) (fun _ => 3)) (zeNd 158 (fun _ => 4) (fun _ => 3))))))) (zeNd 186 (zeNd 172 (zeNd 165 (zeNd 162 (zeNd 160 (fun _ => 4) (zeNd 161 (fun _ => 1) (fun _ => 3))) (zeNd 163 (fun _ => 3) (zeNd 164 (fun _ => 2) (fun _ => 4)))) (zeNd 168 (zeNd 166 (fun _ => 2) (zeNd 167 (fun _ => 2) (fun _ => 2))) (zeNd 170 (zeNd 169 (fun _ => 4) (fun _ => 3)) (zeNd 171 (fun _ => 3) (fun _ => 6))))) (zeNd 179 (zeNd 175 (zeNd 173 (fun _ => 3) (zeNd 174 (fun _ => 3) (fun _ => 1))) (zeNd 177 (zeNd 176 (fun _ => 3) (fun _ => 3)) (zeNd 178 (fun _ => 2) (fun _ => 3)))) (zeNd 182 (zeNd 180 (fun _ => 2) (zeNd 181 (fun _ => 4) (fun _ => 6))) (zeNd 184 (zeNd 183 (fun _ => 3) (fun _ => 3)) (zeNd 185 (fun _ => 1) (fun _ => 2)))))) (zeNd 199 (zeNd 192 (zeNd 189 (zeNd 187 (fun _ => 2) (zeNd 188 (fun _ => 1) (fun _ => 1))) (zeNd 190 (fun _ => 2) (zeNd 191 (fun _ => 4) (fun _ => 3)))) (zeNd 195 (zeNd 193 (fun _ => 3) (zeNd 194 (fun _ => 2) (fun _ => 4))) (zeNd 197 (zeNd 196 (fun _ => 7) (fun _ => 4)) (zeNd 198 (fun _ => 2) (fun _ => 1))))) (zeNd 206 (zeNd 202 (zeNd 200 (fun _ => 2) (zeNd 201 (fun _ => 2) (fun _ => 3))) (zeNd 204 (zeNd 203 (fun _ => 1) (fun _ => 1)) (zeNd 205 (fun _ => 3) (fun _ => 2)))) (zeNd 209 (zeNd 207 (fun _ => 5) (zeNd 208 (fun _ => 2) (fun _ => 2))) (zeNd 211 (zeNd 210 (fun _ => 2) (fun _ => 4)) (zeNd 212 (fun _ => 4) (fun _ => 4)))))))))
def zeRt : Nat → Option FieldType := (zeNd 106 (zeNd 53 (zeNd 26 (zeNd 13 (zeNd 6 (zeNd 3 (zeNd 1 (fun _ => none) (zeNd 2 (fun _ => none) (fun _ => none))) (zeNd 4 (fun _ => none) (zeNd 5 (fun _ => none) (fun _ => none)))) (zeNd 9 (zeNd 7 (fun _ => none) (zeNd 8 (fun _ => none) (fun _ => none))) (zeNd 11 (zeNd 10 (fun _ => none) (fun _ => none)) (zeNd 12 (fun _ => none) (fun _ => none))))) (zeNd 19 (zeNd 16 (zeNd 14 (fun _ => none) (zeNd 15 (fun _ => none) (fun _ => none))) (zeNd 17 (fun _ => (some .boolean)) (zeNd 18 (fun _ => (some .int)) (fun _ => (some .int))))) (zeNd 22 (zeNd 20 (fun _ => (some .boolean)) (zeNd 21 (fun _ => none) (fun _ => (some .int)))) (zeNd 24 (zeNd 23 (fun _ => (some .int)) (fun _ => (some .boolean))) (zeNd 25 (fun _ => (some .int)) (fun _ => none)))))) (zeNd 39 (zeNd 32 (zeNd 29 (zeNd 27 (fun _ => (some .int)) (zeNd 28 (fun _ => (some .boolean)) (fun _ => (some .int)))) (zeNd 30 (fun _ => (some .int)) (zeNd 31 (fun _ => (some .int)) (fun _ => (some .int))))) (zeNd 35 (zeNd 33 (fun _ => (some .boolean)) (zeNd 34 (fun _ => (some .int)) (fun _ => (some .int)))) (zeNd 37 (zeNd 36 (fun _ => (some .int)) (fun _ => (some .int))) (zeNd 38 (fun _ => (some .int)) (fun _ => (some .boolean)))))) (zeNd 46 (zeNd 42 (zeNd 40 (fun _ => (some .int)) (zeNd 41 (fun _ => none) (fun _ => (some .int)))) (zeNd 44 (zeNd 43 (fun _ => (some .int)) (fun _ => (some .int))) (zeNd 45 (fun _ => (some .boolean)) (fun _ => (some .int))))) (zeNd 49 (zeNd 47 (fun _ => (some .boolean)) (zeNd 48 (fun _ => none) (fun _ => (some .int)))) (zeNd 51 (zeNd 50 (fun _ => (some .int)) (fun _ => (some .int))) (zeNd 52 (fun _ => (some .int)) (fun _ => (some .boolean)))))))) (zeNd 79 (zeNd 66 (zeNd 59 (zeNd 56 (zeNd 54 (fun _ => (some .int)) (zeNd 55 (fun _ => (some .int)) (fun _ => none))) (zeNd 57 (fun _ => (some .boolean)) (zeNd 58 (fun _ => (some .int)) (fun _ => (some .int))))) (zeNd 62 (zeNd 60 (fun _ => (some .int)) (zeNd 61 (fun _ => (some .boolean)) (fun _ => (some .int)))) (zeNd 64 (zeNd 63 (fun _ => (some .int)) (fun _ => (some .boolean))) (zeNd 65 (fun _ => (some .int)) (fun _ => (some .int)))))) (zeNd 72 (zeNd 69 (zeNd 67 (fun _ => (some .int)) (zeNd 68 (fun _ => (some .boolean)) (fun _ => (some .int)))) (zeNd 70 (fun _ => (some .int)) (zeNd 71 (fun _ => (some .boolean)) (fun _ => none)))) (zeNd 75 (zeNd 73 (fun _ => (some .int)) (zeNd 74 (fun _ => (some .int)) (fun _ => none))) (zeNd 77 (zeNd 76 (fun _ => none) (fun _ => none)) (zeNd 78 (fun _ => (some .int)) (fun _ => (some .int))))))) (zeNd 92 (zeNd 85 (zeNd 82 (zeNd 80 (fun _ => (some .int)) (zeNd 81 (fun _ => (some .boolean)) (fun _ => (some .int)))) (zeNd 83 (fun _ => (some .int)) (zeNd 84 (fun _ => (some .int)) (fun _ => (some .int))))) (zeNd 88 (zeNd 86 (fun _ => (some .int)) (zeNd 87 (fun _ => (some .int)) (fun _ => (some .int)))) (zeNd 90 (zeNd 89 (fun _ => (some .int)) (fun _ => none)) (zeNd 91 (fun _ => (some .int)) (fun _ => (some .int)))))) (zeNd 99 (zeNd 95 (zeNd 93 (fun _ => (some .int)) (zeNd 94 (fun _ => (some .int)) (fun _ => (some .int)))) (zeNd 97 (zeNd 96 (fun _ => (some .int)) (fun _ => (some .int))) (zeNd 98 (fun _ => (some .int)) (fun _ => (some .int))))) (zeNd 102 (zeNd 100 (fun _ => (some .int)) (zeNd 101 (fun _ => (some .int)) (fun _ => (some .int)))) (zeNd 104 (zeNd 103 (fun _ => (some .int)) (fun _ => none)) (zeNd 105 (fun _ => (some .int)) (fun _ => (some .int))))))))) (zeNd 159 (zeNd 132 (zeNd 119 (zeNd 112 (zeNd 109 (zeNd 107 (fun _ => (some .int)) (zeNd 108 (fun _ => (some .boolean)) (fun _ => (some .int)))) (zeNd 110 (fun _ => (some .int)) (zeNd 111 (fun _ => (some .int)) (fun _ => (some .int))))) (zeNd 115 (zeNd 113 (fun _ => (some .int)) (zeNd 114 (fun _ => (some .int)) (fun _ => (some .int)))) (zeNd 117 (zeNd 116 (fun _ => (some .int)) (fun _ => (some .int))) (zeNd 118 (fun _ => (some .int)) (fun _ => (some .boolean)))))) (zeNd 125 (zeNd 122 (zeNd 120 (fun _ => none) (zeNd 121 (fun _ => (some .int)) (fun _ => (some .int)))) (zeNd 123 (fun _ => (some .int)) (zeNd 124 (fun _ => (some .boolean)) (fun _ => (some .int))))) (zeNd 128 (zeNd 126 (fun _ => (some .boolean)) (zeNd 127 (fun _ => (some .int)) (fun _ => (some .int)))) (zeNd 130 (zeNd 129 (fun _ => (some .int)) (fun _ => (some .int))) (zeNd 131 (fun _ => (some .char)) (fun _ => (some .int))))))) (zeNd 145 (zeNd 138 (zeNd 135 (zeNd 133 (fun _ => (some .char)) (zeNd 134 (fun _ => (some .boolean)) (fun _ => (some .int)))) (zeNd 136 (fun _ => (some .int)) (zeNd 137 (fun _ => (some .int)) (fun _ => (some .int))))) (zeNd 141 (zeNd 139 (fun _ => (some .int)) (zeNd 140 (fun _ => (some .int)) (fun _ => (some .int)))) (zeNd 143 (zeNd 142 (fun _ => (some .int)) (fun _ => none)) (zeNd 144 (fun _ => (some .int)) (fun _ => (some (.object "WagerQuiz$State"))))))) (zeNd 152 (zeNd 148 (zeNd 146 (fun _ => none) (zeNd 147 (fun _ => (some .int)) (fun _ => (some .int)))) (zeNd 150 (zeNd 149 (fun _ => (some .boolean)) (fun _ => (some .int))) (zeNd 151 (fun _ => (some .int)) (fun _ => (some .int))))) (zeNd 155 (zeNd 153 (fun _ => (some .int)) (zeNd 154 (fun _ => (some .int)) (fun _ => (some .boolean)))) (zeNd 157 (zeNd 156 (fun _ => (some .int)) (fun _ => (some .int))) (zeNd 158 (fun _ => (some .int)) (fun _ => (some .boolean)))))))) (zeNd 186 (zeNd 172 (zeNd 165 (zeNd 162 (zeNd 160 (fun _ => (some .int)) (zeNd 161 (fun _ => (some .int)) (fun _ => (some .int)))) (zeNd 163 (fun _ => (some .int)) (zeNd 164 (fun _ => (some .int)) (fun _ => (some .int))))) (zeNd 168 (zeNd 166 (fun _ => (some .int)) (zeNd 167 (fun _ => (some .int)) (fun _ => (some .int)))) (zeNd 170 (zeNd 169 (fun _ => (some .int)) (fun _ => (some .int))) (zeNd 171 (fun _ => (some .boolean)) (fun _ => (some .int)))))) (zeNd 179 (zeNd 175 (zeNd 173 (fun _ => (some .int)) (zeNd 174 (fun _ => (some .int)) (fun _ => (some .boolean)))) (zeNd 177 (zeNd 176 (fun _ => (some .int)) (fun _ => (some .int))) (zeNd 178 (fun _ => (some .int)) (fun _ => (some .int))))) (zeNd 182 (zeNd 180 (fun _ => (some .int)) (zeNd 181 (fun _ => (some .int)) (fun _ => (some .int)))) (zeNd 184 (zeNd 183 (fun _ => (some (.array .byte))) (fun _ => none)) (zeNd 185 (fun _ => (some .boolean)) (fun _ => none)))))) (zeNd 199 (zeNd 192 (zeNd 189 (zeNd 187 (fun _ => none) (zeNd 188 (fun _ => (some .byte)) (fun _ => (some .int)))) (zeNd 190 (fun _ => none) (zeNd 191 (fun _ => none) (fun _ => none)))) (zeNd 195 (zeNd 193 (fun _ => (some (.object "java/lang/AbstractStringBuilder"))) (zeNd 194 (fun _ => (some (.object "java/lang/StringBuilder"))) (fun _ => (some .int)))) (zeNd 197 (zeNd 196 (fun _ => (some .int)) (fun _ => (some (.object "java/lang/AbstractStringBuilder")))) (zeNd 198 (fun _ => (some (.object "java/lang/StringBuilder"))) (fun _ => (some .boolean)))))) (zeNd 206 (zeNd 202 (zeNd 200 (fun _ => (some (.object "java/lang/AbstractStringBuilder"))) (zeNd 201 (fun _ => (some (.object "java/lang/StringBuilder"))) (fun _ => none))) (zeNd 204 (zeNd 203 (fun _ => (some .int)) (fun _ => (some .int))) (zeNd 205 (fun _ => (some .int)) (fun _ => none)))) (zeNd 209 (zeNd 207 (fun _ => (some .char)) (zeNd 208 (fun _ => (some .char)) (fun _ => (some .int)))) (zeNd 211 (zeNd 210 (fun _ => none) (fun _ => none)) (zeNd 212 (fun _ => (some .int)) (fun _ => (some .boolean))))))))))
def zeRk : Nat → Instr := (zeNd 106 (zeNd 53 (zeNd 26 (zeNd 13 (zeNd 6 (zeNd 3 (zeNd 1 (fun _ => .return_) (zeNd 2 (fun _ => .return_) (fun _ => .return_))) (zeNd 4 (fun _ => .return_) (zeNd 5 (fun _ => .return_) (fun _ => .return_)))) (zeNd 9 (zeNd 7 (fun _ => .return_) (zeNd 8 (fun _ => .return_) (fun _ => .return_))) (zeNd 11 (zeNd 10 (fun _ => .return_) (fun _ => .return_)) (zeNd 12 (fun _ => .return_) (fun _ => .return_))))) (zeNd 19 (zeNd 16 (zeNd 14 (fun _ => .return_) (zeNd 15 (fun _ => .return_) (fun _ => .return_))) (zeNd 17 (fun _ => .ireturn) (zeNd 18 (fun _ => .ireturn) (fun _ => .ireturn)))) (zeNd 22 (zeNd 20 (fun _ => .ireturn) (zeNd 21 (fun _ => .return_) (fun _ => .ireturn))) (zeNd 24 (zeNd 23 (fun _ => .ireturn) (fun _ => .ireturn)) (zeNd 25 (fun _ => .ireturn) (fun _ => .return_)))))) (zeNd 39 (zeNd 32 (zeNd 29 (zeNd 27 (fun _ => .ireturn) (zeNd 28 (fun _ => .ireturn) (fun _ => .ireturn))) (zeNd 30 (fun _ => .ireturn) (zeNd 31 (fun _ => .ireturn) (fun _ => .ireturn)))) (zeNd 35 (zeNd 33 (fun _ => .ireturn) (zeNd 34 (fun _ => .ireturn) (fun _ => .ireturn))) (zeNd 37 (zeNd 36 (fun _ => .ireturn) (fun _ => .ireturn)) (zeNd 38 (fun _ => .ireturn) (fun _ => .ireturn))))) (zeNd 46 (zeNd 42 (zeNd 40 (fun _ => .ireturn) (zeNd 41 (fun _ => .return_) (fun _ => .ireturn))) (zeNd 44 (zeNd 43 (fun _ => .ireturn) (fun _ => .ireturn)) (zeNd 45 (fun _ => .ireturn) (fun _ => .ireturn)))) (zeNd 49 (zeNd 47 (fun _ => .ireturn) (zeNd 48 (fun _ => .return_) (fun _ => .ireturn))) (zeNd 51 (zeNd 50 (fun _ => .ireturn) (fun _ => .ireturn)) (zeNd 52 (fun _ => .ireturn) (fun _ => .ireturn))))))) (zeNd 79 (zeNd 66 (zeNd 59 (zeNd 56 (zeNd 54 (fun _ => .ireturn) (zeNd 55 (fun _ => .ireturn) (fun _ => .return_))) (zeNd 57 (fun _ => .ireturn) (zeNd 58 (fun _ => .ireturn) (fun _ => .ireturn)))) (zeNd 62 (zeNd 60 (fun _ => .ireturn) (zeNd 61 (fun _ => .ireturn) (fun _ => .ireturn))) (zeNd 64 (zeNd 63 (fun _ => .ireturn) (fun _ => .ireturn)) (zeNd 65 (fun _ => .ireturn) (fun _ => .ireturn))))) (zeNd 72 (zeNd 69 (zeNd 67 (fun _ => .ireturn) (zeNd 68 (fun _ => .ireturn) (fun _ => .ireturn))) (zeNd 70 (fun _ => .ireturn) (zeNd 71 (fun _ => .ireturn) (fun _ => .return_)))) (zeNd 75 (zeNd 73 (fun _ => .ireturn) (zeNd 74 (fun _ => .ireturn) (fun _ => .return_))) (zeNd 77 (zeNd 76 (fun _ => .return_) (fun _ => .return_)) (zeNd 78 (fun _ => .ireturn) (fun _ => .ireturn)))))) (zeNd 92 (zeNd 85 (zeNd 82 (zeNd 80 (fun _ => .ireturn) (zeNd 81 (fun _ => .ireturn) (fun _ => .ireturn))) (zeNd 83 (fun _ => .ireturn) (zeNd 84 (fun _ => .ireturn) (fun _ => .ireturn)))) (zeNd 88 (zeNd 86 (fun _ => .ireturn) (zeNd 87 (fun _ => .ireturn) (fun _ => .ireturn))) (zeNd 90 (zeNd 89 (fun _ => .ireturn) (fun _ => .return_)) (zeNd 91 (fun _ => .ireturn) (fun _ => .ireturn))))) (zeNd 99 (zeNd 95 (zeNd 93 (fun _ => .ireturn) (zeNd 94 (fun _ => .ireturn) (fun _ => .ireturn))) (zeNd 97 (zeNd 96 (fun _ => .ireturn) (fun _ => .ireturn)) (zeNd 98 (fun _ => .ireturn) (fun _ => .ireturn)))) (zeNd 102 (zeNd 100 (fun _ => .ireturn) (zeNd 101 (fun _ => .ireturn) (fun _ => .ireturn))) (zeNd 104 (zeNd 103 (fun _ => .ireturn) (fun _ => .return_)) (zeNd 105 (fun _ => .ireturn) (fun _ => .ireturn)))))))) (zeNd 159 (zeNd 132 (zeNd 119 (zeNd 112 (zeNd 109 (zeNd 107 (fun _ => .ireturn) (zeNd 108 (fun _ => .ireturn) (fun _ => .ireturn))) (zeNd 110 (fun _ => .ireturn) (zeNd 111 (fun _ => .ireturn) (fun _ => .ireturn)))) (zeNd 115 (zeNd 113 (fun _ => .ireturn) (zeNd 114 (fun _ => .ireturn) (fun _ => .ireturn))) (zeNd 117 (zeNd 116 (fun _ => .ireturn) (fun _ => .ireturn)) (zeNd 118 (fun _ => .ireturn) (fun _ => .ireturn))))) (zeNd 125 (zeNd 122 (zeNd 120 (fun _ => .return_) (zeNd 121 (fun _ => .ireturn) (fun _ => .ireturn))) (zeNd 123 (fun _ => .ireturn) (zeNd 124 (fun _ => .ireturn) (fun _ => .ireturn)))) (zeNd 128 (zeNd 126 (fun _ => .ireturn) (zeNd 127 (fun _ => .ireturn) (fun _ => .ireturn))) (zeNd 130 (zeNd 129 (fun _ => .ireturn) (fun _ => .ireturn)) (zeNd 131 (fun _ => .ireturn) (fun _ => .ireturn)))))) (zeNd 145 (zeNd 138 (zeNd 135 (zeNd 133 (fun _ => .ireturn) (zeNd 134 (fun _ => .ireturn) (fun _ => .ireturn))) (zeNd 136 (fun _ => .ireturn) (zeNd 137 (fun _ => .ireturn) (fun _ => .ireturn)))) (zeNd 141 (zeNd 139 (fun _ => .ireturn) (zeNd 140 (fun _ => .ireturn) (fun _ => .ireturn))) (zeNd 143 (zeNd 142 (fun _ => .ireturn) (fun _ => .return_)) (zeNd 144 (fun _ => .ireturn) (fun _ => .areturn))))) (zeNd 152 (zeNd 148 (zeNd 146 (fun _ => .return_) (zeNd 147 (fun _ => .ireturn) (fun _ => .ireturn))) (zeNd 150 (zeNd 149 (fun _ => .ireturn) (fun _ => .ireturn)) (zeNd 151 (fun _ => .ireturn) (fun _ => .ireturn)))) (zeNd 155 (zeNd 153 (fun _ => .ireturn) (zeNd 154 (fun _ => .ireturn) (fun _ => .ireturn))) (zeNd 157 (zeNd 156 (fun _ => .ireturn) (fun _ => .ireturn)) (zeNd 158 (fun _ => .ireturn) (fun _ => .ireturn))))))) (zeNd 186 (zeNd 172 (zeNd 165 (zeNd 162 (zeNd 160 (fun _ => .ireturn) (zeNd 161 (fun _ => .ireturn) (fun _ => .ireturn))) (zeNd 163 (fun _ => .ireturn) (zeNd 164 (fun _ => .ireturn) (fun _ => .ireturn)))) (zeNd 168 (zeNd 166 (fun _ => .ireturn) (zeNd 167 (fun _ => .ireturn) (fun _ => .ireturn))) (zeNd 170 (zeNd 169 (fun _ => .ireturn) (fun _ => .ireturn)) (zeNd 171 (fun _ => .ireturn) (fun _ => .ireturn))))) (zeNd 179 (zeNd 175 (zeNd 173 (fun _ => .ireturn) (zeNd 174 (fun _ => .ireturn) (fun _ => .ireturn))) (zeNd 177 (zeNd 176 (fun _ => .ireturn) (fun _ => .ireturn)) (zeNd 178 (fun _ => .ireturn) (fun _ => .ireturn)))) (zeNd 182 (zeNd 180 (fun _ => .ireturn) (zeNd 181 (fun _ => .ireturn) (fun _ => .ireturn))) (zeNd 184 (zeNd 183 (fun _ => .areturn) (fun _ => .return_)) (zeNd 185 (fun _ => .ireturn) (fun _ => .return_)))))) (zeNd 199 (zeNd 192 (zeNd 189 (zeNd 187 (fun _ => .return_) (zeNd 188 (fun _ => .ireturn) (fun _ => .ireturn))) (zeNd 190 (fun _ => .return_) (zeNd 191 (fun _ => .return_) (fun _ => .return_)))) (zeNd 195 (zeNd 193 (fun _ => .areturn) (zeNd 194 (fun _ => .areturn) (fun _ => .ireturn))) (zeNd 197 (zeNd 196 (fun _ => .ireturn) (fun _ => .areturn)) (zeNd 198 (fun _ => .areturn) (fun _ => .ireturn))))) (zeNd 206 (zeNd 202 (zeNd 200 (fun _ => .areturn) (zeNd 201 (fun _ => .areturn) (fun _ => .return_))) (zeNd 204 (zeNd 203 (fun _ => .ireturn) (fun _ => .ireturn)) (zeNd 205 (fun _ => .ireturn) (fun _ => .return_)))) (zeNd 209 (zeNd 207 (fun _ => .ireturn) (zeNd 208 (fun _ => .ireturn) (fun _ => .ireturn))) (zeNd 211 (zeNd 210 (fun _ => .return_) (fun _ => .return_)) (zeNd 212 (fun _ => .ireturn) (fun _ => .ireturn)))))))))
def zeDp : Nat → Nat := (zeNd 106 (zeNd 53 (zeNd 26 (zeNd 13 (zeNd 6 (zeNd 3 (zeNd 1 (fun _ => 1) (zeNd 2 (fun _ => 1) (fun _ => 1))) (zeNd 4 (fun _ => 2) (zeNd 5 (fun _ => 1) (fun _ => 3)))) (zeNd 9 (zeNd 7 (fun _ => 1) (zeNd 8 (fun _ => 1) (fun _ => 2))) (zeNd 11 (zeNd 10 (fun _ => 4) (fun _ => 1)) (zeNd 12 (fun _ => 1) (fun _ => 1))))) (zeNd 19 (zeNd 16 (zeNd 14 (fun _ => 1) (zeNd 15 (fun _ => 2) (fun _ => 3))) (zeNd 17 (fun _ => 0) (zeNd 18 (fun _ => 0) (fun _ => 1)))) (zeNd 22 (zeNd 20 (fun _ => 0) (zeNd 21 (fun _ => 0) (fun _ => 1))) (zeNd 24 (zeNd 23 (fun _ => 4) (fun _ => 0)) (zeNd 25 (fun _ => 0) (fun _ => 0)))))) (zeNd 39 (zeNd 32 (zeNd 29 (zeNd 27 (fun _ => 1) (zeNd 28 (fun _ => 0) (fun _ => 0))) (zeNd 30 (fun _ => 0) (zeNd 31 (fun _ => 1) (fun _ => 4)))) (zeNd 35 (zeNd 33 (fun _ => 0) (zeNd 34 (fun _ => 0) (fun _ => 1))) (zeNd 37 (zeNd 36 (fun _ => 0) (fun _ => 4)) (zeNd 38 (fun _ => 1) (fun _ => 0))))) (zeNd 46 (zeNd 42 (zeNd 40 (fun _ => 0) (zeNd 41 (fun _ => 0) (fun _ => 0))) (zeNd 44 (zeNd 43 (fun _ => 1) (fun _ => 4)) (zeNd 45 (fun _ => 1) (fun _ => 0)))) (zeNd 49 (zeNd 47 (fun _ => 1) (zeNd 48 (fun _ => 2) (fun _ => 3))) (zeNd 51 (zeNd 50 (fun _ => 0) (fun _ => 1)) (zeNd 52 (fun _ => 4) (fun _ => 0))))))) (zeNd 79 (zeNd 66 (zeNd 59 (zeNd 56 (zeNd 54 (fun _ => 1) (zeNd 55 (fun _ => 2) (fun _ => 3))) (zeNd 57 (fun _ => 1) (zeNd 58 (fun _ => 2) (fun _ => 4)))) (zeNd 62 (zeNd 60 (fun _ => 5) (zeNd 61 (fun _ => 0) (fun _ => 2))) (zeNd 64 (zeNd 63 (fun _ => 1) (fun _ => 2)) (zeNd 65 (fun _ => 3) (fun _ => 4))))) (zeNd 72 (zeNd 69 (zeNd 67 (fun _ => 5) (zeNd 68 (fun _ => 0) (fun _ => 2))) (zeNd 70 (fun _ => 3) (zeNd 71 (fun _ => 0) (fun _ => 1)))) (zeNd 75 (zeNd 73 (fun _ => 1) (zeNd 74 (fun _ => 1) (fun _ => 1))) (zeNd 77 (zeNd 76 (fun _ => 2) (fun _ => 3)) (zeNd 78 (fun _ => 4) (fun _ => 5)))))) (zeNd 92 (zeNd 85 (zeNd 82 (zeNd 80 (fun _ => 5) (zeNd 81 (fun _ => 0) (fun _ => 1))) (zeNd 83 (fun _ => 2) (zeNd 84 (fun _ => 0) (fun _ => 5)))) (zeNd 88 (zeNd 86 (fun _ => 6) (zeNd 87 (fun _ => 7) (fun _ => 4))) (zeNd 90 (zeNd 89 (fun _ => 0) (fun _ => 1)) (zeNd 91 (fun _ => 4) (fun _ => 5))))) (zeNd 99 (zeNd 95 (zeNd 93 (fun _ => 1) (zeNd 94 (fun _ => 4) (fun _ => 1))) (zeNd 97 (zeNd 96 (fun _ => 1) (fun _ => 2)) (zeNd 98 (fun _ => 1) (fun _ => 4)))) (zeNd 102 (zeNd 100 (fun _ => 3) (zeNd 101 (fun _ => 4) (fun _ => 4))) (zeNd 104 (zeNd 103 (fun _ => 5) (fun _ => 1)) (zeNd 105 (fun _ => 2) (fun _ => 4)))))))) (zeNd 159 (zeNd 132 (zeNd 119 (zeNd 112 (zeNd 109 (zeNd 107 (fun _ => 3) (zeNd 108 (fun _ => 0) (fun _ => 1))) (zeNd 110 (fun _ => 2) (zeNd 111 (fun _ => 4) (fun _ => 2)))) (zeNd 115 (zeNd 113 (fun _ => 0) (zeNd 114 (fun _ => 1) (fun _ => 3))) (zeNd 117 (zeNd 116 (fun _ => 5) (fun _ => 6)) (zeNd 118 (fun _ => 3) (fun _ => 0))))) (zeNd 125 (zeNd 122 (zeNd 120 (fun _ => 1) (zeNd 121 (fun _ => 0) (fun _ => 4))) (zeNd 123 (fun _ => 5) (zeNd 124 (fun _ => 1) (fun _ => 3)))) (zeNd 128 (zeNd 126 (fun _ => 0) (zeNd 127 (fun _ => 1) (fun _ => 0))) (zeNd 130 (zeNd 129 (fun _ => 0) (fun _ => 0)) (zeNd 131 (fun _ => 0) (fun _ => 1)))))) (zeNd 145 (zeNd 138 (zeNd 135 (zeNd 133 (fun _ => 1) (zeNd 134 (fun _ => 2) (fun _ => 3))) (zeNd 136 (fun _ => 1) (zeNd 137 (fun _ => 7) (fun _ => 8)))) (zeNd 141 (zeNd 139 (fun _ => 9) (zeNd 140 (fun _ => 1) (fun _ => 2))) (zeNd 143 (zeNd 142 (fun _ => 5) (fun _ => 5)) (zeNd 144 (fun _ => 6) (fun _ => 0))))) (zeNd 152 (zeNd 148 (zeNd 146 (fun _ => 4) (zeNd 147 (fun _ => 5) (fun _ => 0))) (zeNd 150 (zeNd 149 (fun _ => 0) (fun _ => 3)) (zeNd 151 (fun _ => 1) (fun _ => 5)))) (zeNd 155 (zeNd 153 (fun _ => 1) (zeNd 154 (fun _ => 0) (fun _ => 0))) (zeNd 157 (zeNd 156 (fun _ => 1) (fun _ => 2)) (zeNd 158 (fun _ => 0) (fun _ => 0))))))) (zeNd 186 (zeNd 172 (zeNd 165 (zeNd 162 (zeNd 160 (fun _ => 1) (zeNd 161 (fun _ => 0) (fun _ => 3))) (zeNd 163 (fun _ => 2) (zeNd 164 (fun _ => 3) (fun _ => 2)))) (zeNd 168 (zeNd 166 (fun _ => 3) (zeNd 167 (fun _ => 4) (fun _ => 4))) (zeNd 170 (zeNd 169 (fun _ => 0) (fun _ => 1)) (zeNd 171 (fun _ => 1) (fun _ => 3))))) (zeNd 179 (zeNd 175 (zeNd 173 (fun _ => 1) (zeNd 174 (fun _ => 3) (fun _ => 0))) (zeNd 177 (zeNd 176 (fun _ => 1) (fun _ => 0)) (zeNd 178 (fun _ => 3) (fun _ => 1)))) (zeNd 182 (zeNd 180 (fun _ => 3) (zeNd 181 (fun _ => 1) (fun _ => 2))) (zeNd 184 (zeNd 183 (fun _ => 1) (fun _ => 3)) (zeNd 185 (fun _ => 0) (fun _ => 4)))))) (zeNd 199 (zeNd 192 (zeNd 189 (zeNd 187 (fun _ => 5) (zeNd 188 (fun _ => 0) (fun _ => 1))) (zeNd 190 (fun _ => 1) (zeNd 191 (fun _ => 1) (fun _ => 2)))) (zeNd 195 (zeNd 193 (fun _ => 4) (zeNd 194 (fun _ => 5) (fun _ => 0))) (zeNd 197 (zeNd 196 (fun _ => 0) (fun _ => 4)) (zeNd 198 (fun _ => 5) (fun _ => 0))))) (zeNd 206 (zeNd 202 (zeNd 200 (fun _ => 4) (zeNd 201 (fun _ => 5) (fun _ => 6))) (zeNd 204 (zeNd 203 (fun _ => 0) (fun _ => 1)) (zeNd 205 (fun _ => 0) (fun _ => 1)))) (zeNd 209 (zeNd 207 (fun _ => 2) (zeNd 208 (fun _ => 3) (fun _ => 7))) (zeNd 211 (zeNd 210 (fun _ => 0) (fun _ => 1)) (zeNd 212 (fun _ => 3) (fun _ => 10)))))))))
def zeLc : Nat → Nat := (zeNd 106 (zeNd 53 (zeNd 26 (zeNd 13 (zeNd 6 (zeNd 3 (zeNd 1 (fun _ => 30) (zeNd 2 (fun _ => 30) (fun _ => 30))) (zeNd 4 (fun _ => 51) (zeNd 5 (fun _ => 30) (fun _ => 71)))) (zeNd 9 (zeNd 7 (fun _ => 30) (zeNd 8 (fun _ => 30) (fun _ => 51))) (zeNd 11 (zeNd 10 (fun _ => 92) (fun _ => 30)) (zeNd 12 (fun _ => 30) (fun _ => 30))))) (zeNd 19 (zeNd 16 (zeNd 14 (fun _ => 30) (zeNd 15 (fun _ => 51) (fun _ => 72))) (zeNd 17 (fun _ => 0) (zeNd 18 (fun _ => 0) (fun _ => 21)))) (zeNd 22 (zeNd 20 (fun _ => 0) (zeNd 21 (fun _ => 0) (fun _ => 20))) (zeNd 24 (zeNd 23 (fun _ => 93) (fun _ => 0)) (zeNd 25 (fun _ => 0) (fun _ => 0)))))) (zeNd 39 (zeNd 32 (zeNd 29 (zeNd 27 (fun _ => 21) (zeNd 28 (fun _ => 0) (fun _ => 0))) (zeNd 30 (fun _ => 0) (zeNd 31 (fun _ => 21) (fun _ => 93)))) (zeNd 35 (zeNd 33 (fun _ => 0) (zeNd 34 (fun _ => 0) (fun _ => 22))) (zeNd 37 (zeNd 36 (fun _ => 0) (fun _ => 93)) (zeNd 38 (fun _ => 22) (fun _ => 0))))) (zeNd 46 (zeNd 42 (zeNd 40 (fun _ => 0) (zeNd 41 (fun _ => 0) (fun _ => 0))) (zeNd 44 (zeNd 43 (fun _ => 24) (fun _ => 93)) (zeNd 45 (fun _ => 22) (fun _ => 0)))) (zeNd 49 (zeNd 47 (fun _ => 20) (zeNd 48 (fun _ => 43) (fun _ => 69))) (zeNd 51 (zeNd 50 (fun _ => 0) (fun _ => 20)) (zeNd 52 (fun _ => 92) (fun _ => 0))))))) (zeNd 79 (zeNd 66 (zeNd 59 (zeNd 56 (zeNd 54 (fun _ => 30) (zeNd 55 (fun _ => 53) (fun _ => 75))) (zeNd 57 (fun _ => 21) (zeNd 58 (fun _ => 42) (fun _ => 97)))) (zeNd 62 (zeNd 60 (fun _ => 119) (zeNd 61 (fun _ => 0) (fun _ => 43))) (zeNd 64 (zeNd 63 (fun _ => 22) (fun _ => 45)) (zeNd 65 (fun _ => 69) (fun _ => 93))))) (zeNd 72 (zeNd 69 (zeNd 67 (fun _ => 115) (zeNd 68 (fun _ => 0) (fun _ => 42))) (zeNd 70 (fun _ => 65) (zeNd 71 (fun _ => 0) (fun _ => 20)))) (zeNd 75 (zeNd 73 (fun _ => 20) (zeNd 74 (fun _ => 30) (fun _ => 20))) (zeNd 77 (zeNd 76 (fun _ => 52) (fun _ => 76)) (zeNd 78 (fun _ => 98) (fun _ => 119)))))) (zeNd 92 (zeNd 85 (zeNd 82 (zeNd 80 (fun _ => 119) (zeNd 81 (fun _ => 0) (fun _ => 22))) (zeNd 83 (fun _ => 45) (zeNd 84 (fun _ => 0) (fun _ => 119)))) (zeNd 88 (zeNd 86 (fun _ => 143) (zeNd 87 (fun _ => 164) (fun _ => 93))) (zeNd 90 (zeNd 89 (fun _ => 0) (fun _ => 20)) (zeNd 91 (fun _ => 93) (fun _ => 119))))) (zeNd 99 (zeNd 95 (zeNd 93 (fun _ => 21) (zeNd 94 (fun _ => 93) (fun _ => 21))) (zeNd 97 (zeNd 96 (fun _ => 22) (fun _ => 42)) (zeNd 98 (fun _ => 30) (fun _ => 93)))) (zeNd 102 (zeNd 100 (fun _ => 69) (zeNd 101 (fun _ => 89) (fun _ => 89))) (zeNd 104 (zeNd 103 (fun _ => 110) (fun _ => 30)) (zeNd 105 (fun _ => 52) (fun _ => 93)))))))) (zeNd 159 (zeNd 132 (zeNd 119 (zeNd 112 (zeNd 109 (zeNd 107 (fun _ => 69) (zeNd 108 (fun _ => 0) (fun _ => 21))) (zeNd 110 (fun _ => 43) (zeNd 111 (fun _ => 93) (fun _ => 43)))) (zeNd 115 (zeNd 113 (fun _ => 0) (zeNd 114 (fun _ => 30) (fun _ => 69))) (zeNd 117 (zeNd 116 (fun _ => 119) (fun _ => 141)) (zeNd 118 (fun _ => 69) (fun _ => 0))))) (zeNd 125 (zeNd 122 (zeNd 120 (fun _ => 30) (zeNd 121 (fun _ => 0) (fun _ => 98))) (zeNd 123 (fun _ => 119) (zeNd 124 (fun _ => 22) (fun _ => 69)))) (zeNd 128 (zeNd 126 (fun _ => 0) (zeNd 127 (fun _ => 21) (fun _ => 0))) (zeNd 130 (zeNd 129 (fun _ => 0) (fun _ => 0)) (zeNd 131 (fun _ => 0) (fun _ => 21)))))) (zeNd 145 (zeNd 138 (zeNd 135 (zeNd 133 (fun _ => 21) (zeNd 134 (fun _ => 44) (fun _ => 67))) (zeNd 136 (fun _ => 21) (zeNd 137 (fun _ => 164) (fun _ => 185)))) (zeNd 141 (zeNd 139 (fun _ => 207) (zeNd 140 (fun _ => 22) (fun _ => 43))) (zeNd 143 (zeNd 142 (fun _ => 114) (fun _ => 119)) (zeNd 144 (fun _ => 142) (fun _ => 0))))) (zeNd 152 (zeNd 148 (zeNd 146 (fun _ => 98) (zeNd 147 (fun _ => 119) (fun _ => 0))) (zeNd 150 (zeNd 149 (fun _ => 0) (fun _ => 72)) (zeNd 151 (fun _ => 22) (fun _ => 119)))) (zeNd 155 (zeNd 153 (fun _ => 22) (zeNd 154 (fun _ => 0) (fun _ => 0))) (zeNd 157 (zeNd 156 (fun _ => 22) (fun _ => 45)) (zeNd 158 (fun _ => 0) (fun _ => 0))))))) (zeNd 186 (zeNd 172 (zeNd 165 (zeNd 162 (zeNd 160 (fun _ => 22) (zeNd 161 (fun _ => 0) (fun _ => 69))) (zeNd 163 (fun _ => 45) (zeNd 164 (fun _ => 67) (fun _ => 45)))) (zeNd 168 (zeNd 166 (fun _ => 69) (zeNd 167 (fun _ => 87) (fun _ => 93))) (zeNd 170 (zeNd 169 (fun _ => 0) (fun _ => 23)) (zeNd 171 (fun _ => 20) (fun _ => 69))))) (zeNd 179 (zeNd 175 (zeNd 173 (fun _ => 21) (zeNd 174 (fun _ => 69) (fun _ => 0))) (zeNd 177 (zeNd 176 (fun _ => 23) (fun _ => 0)) (zeNd 178 (fun _ => 66) (fun _ => 23)))) (zeNd 182 (zeNd 180 (fun _ => 69) (zeNd 181 (fun _ => 30) (fun _ => 53))) (zeNd 184 (zeNd 183 (fun _ => 30) (fun _ => 78)) (zeNd 185 (fun _ => 0) (fun _ => 100)))))) (zeNd 199 (zeNd 192 (zeNd 189 (zeNd 187 (fun _ => 121) (zeNd 188 (fun _ => 0) (fun _ => 20))) (zeNd 190 (fun _ => 20) (zeNd 191 (fun _ => 30) (fun _ => 53)))) (zeNd 195 (zeNd 193 (fun _ => 100) (zeNd 194 (fun _ => 122) (fun _ => 0))) (zeNd 197 (zeNd 196 (fun _ => 0) (fun _ => 100)) (zeNd 198 (fun _ => 123) (fun _ => 0))))) (zeNd 206 (zeNd 202 (zeNd 200 (fun _ => 100) (zeNd 201 (fun _ => 121) (fun _ => 144))) (zeNd 204 (zeNd 203 (fun _ => 0) (fun _ => 20)) (zeNd 205 (fun _ => 0) (fun _ => 22)))) (zeNd 209 (zeNd 207 (fun _ => 43) (zeNd 208 (fun _ => 67) (fun _ => 166))) (zeNd 211 (zeNd 210 (fun _ => 0) (fun _ => 21)) (zeNd 212 (fun _ => 69) (fun _ => 229)))))))))
def zeLg : Nat → Bool := (zeNd 106 (zeNd 53 (zeNd 26 (zeNd 13 (zeNd 6 (zeNd 3 (zeNd 1 (fun _ => false) (zeNd 2 (fun _ => false) (fun _ => false))) (zeNd 4 (fun _ => false) (zeNd 5 (fun _ => false) (fun _ => false)))) (zeNd 9 (zeNd 7 (fun _ => false) (zeNd 8 (fun _ => false) (fun _ => false))) (zeNd 11 (zeNd 10 (fun _ => false) (fun _ => false)) (zeNd 12 (fun _ => false) (fun _ => false))))) (zeNd 19 (zeNd 16 (zeNd 14 (fun _ => false) (zeNd 15 (fun _ => false) (fun _ => false))) (zeNd 17 (fun _ => false) (zeNd 18 (fun _ => false) (fun _ => false)))) (zeNd 22 (zeNd 20 (fun _ => false) (zeNd 21 (fun _ => false) (fun _ => false))) (zeNd 24 (zeNd 23 (fun _ => false) (fun _ => false)) (zeNd 25 (fun _ => false) (fun _ => false)))))) (zeNd 39 (zeNd 32 (zeNd 29 (zeNd 27 (fun _ => false) (zeNd 28 (fun _ => false) (fun _ => false))) (zeNd 30 (fun _ => false) (zeNd 31 (fun _ => false) (fun _ => false)))) (zeNd 35 (zeNd 33 (fun _ => false) (zeNd 34 (fun _ => false) (fun _ => false))) (zeNd 37 (zeNd 36 (fun _ => false) (fun _ => false)) (zeNd 38 (fun _ => false) (fun _ => false))))) (zeNd 46 (zeNd 42 (zeNd 40 (fun _ => false) (zeNd 41 (fun _ => false) (fun _ => false))) (zeNd 44 (zeNd 43 (fun _ => false) (fun _ => false)) (zeNd 45 (fun _ => false) (fun _ => false)))) (zeNd 49 (zeNd 47 (fun _ => false) (zeNd 48 (fun _ => false) (fun _ => false))) (zeNd 51 (zeNd 50 (fun _ => false) (fun _ => false)) (zeNd 52 (fun _ => false) (fun _ => true))))))) (zeNd 79 (zeNd 66 (zeNd 59 (zeNd 56 (zeNd 54 (fun _ => false) (zeNd 55 (fun _ => false) (fun _ => false))) (zeNd 57 (fun _ => false) (zeNd 58 (fun _ => false) (fun _ => false)))) (zeNd 62 (zeNd 60 (fun _ => false) (zeNd 61 (fun _ => false) (fun _ => false))) (zeNd 64 (zeNd 63 (fun _ => false) (fun _ => false)) (zeNd 65 (fun _ => false) (fun _ => false))))) (zeNd 72 (zeNd 69 (zeNd 67 (fun _ => false) (zeNd 68 (fun _ => false) (fun _ => false))) (zeNd 70 (fun _ => false) (zeNd 71 (fun _ => false) (fun _ => false)))) (zeNd 75 (zeNd 73 (fun _ => false) (zeNd 74 (fun _ => false) (fun _ => false))) (zeNd 77 (zeNd 76 (fun _ => false) (fun _ => false)) (zeNd 78 (fun _ => false) (fun _ => false)))))) (zeNd 92 (zeNd 85 (zeNd 82 (zeNd 80 (fun _ => false) (zeNd 81 (fun _ => false) (fun _ => false))) (zeNd 83 (fun _ => false) (zeNd 84 (fun _ => false) (fun _ => false)))) (zeNd 88 (zeNd 86 (fun _ => false) (zeNd 87 (fun _ => false) (fun _ => false))) (zeNd 90 (zeNd 89 (fun _ => false) (fun _ => false)) (zeNd 91 (fun _ => false) (fun _ => false))))) (zeNd 99 (zeNd 95 (zeNd 93 (fun _ => false) (zeNd 94 (fun _ => false) (fun _ => false))) (zeNd 97 (zeNd 96 (fun _ => false) (fun _ => false)) (zeNd 98 (fun _ => false) (fun _ => false)))) (zeNd 102 (zeNd 100 (fun _ => false) (zeNd 101 (fun _ => false) (fun _ => false))) (zeNd 104 (zeNd 103 (fun _ => false) (fun _ => false)) (zeNd 105 (fun _ => false) (fun _ => false)))))))) (zeNd 159 (zeNd 132 (zeNd 119 (zeNd 112 (zeNd 109 (zeNd 107 (fun _ => false) (zeNd 108 (fun _ => false) (fun _ => false))) (zeNd 110 (fun _ => false) (zeNd 111 (fun _ => false) (fun _ => false)))) (zeNd 115 (zeNd 113 (fun _ => false) (zeNd 114 (fun _ => false) (fun _ => false))) (zeNd 117 (zeNd 116 (fun _ => false) (fun _ => false)) (zeNd 118 (fun _ => false) (fun _ => false))))) (zeNd 125 (zeNd 122 (zeNd 120 (fun _ => false) (zeNd 121 (fun _ => false) (fun _ => false))) (zeNd 123 (fun _ => false) (zeNd 124 (fun _ => false) (fun _ => false)))) (zeNd 128 (zeNd 126 (fun _ => false) (zeNd 127 (fun _ => false) (fun _ => false))) (zeNd 130 (zeNd 129 (fun _ => false) (fun _ => false)) (zeNd 131 (fun _ => false) (fun _ => false)))))) (zeNd 145 (zeNd 138 (zeNd 135 (zeNd 133 (fun _ => false) (zeNd 134 (fun _ => false) (fun _ => false))) (zeNd 136 (fun _ => false) (zeNd 137 (fun _ => false) (fun _ => false)))) (zeNd 141 (zeNd 139 (fun _ => false) (zeNd 140 (fun _ => false) (fun _ => false))) (zeNd 143 (zeNd 142 (fun _ => false) (fun _ => false)) (zeNd 144 (fun _ => false) (fun _ => false))))) (zeNd 152 (zeNd 148 (zeNd 146 (fun _ => false) (zeNd 147 (fun _ => false) (fun _ => false))) (zeNd 150 (zeNd 149 (fun _ => false) (fun _ => false)) (zeNd 151 (fun _ => false) (fun _ => false)))) (zeNd 155 (zeNd 153 (fun _ => false) (zeNd 154 (fun _ => false) (fun _ => false))) (zeNd 157 (zeNd 156 (fun _ => false) (fun _ => false)) (zeNd 158 (fun _ => false) (fun _ => false))))))) (zeNd 186 (zeNd 172 (zeNd 165 (zeNd 162 (zeNd 160 (fun _ => false) (zeNd 161 (fun _ => false) (fun _ => false))) (zeNd 163 (fun _ => false) (zeNd 164 (fun _ => false) (fun _ => false)))) (zeNd 168 (zeNd 166 (fun _ => false) (zeNd 167 (fun _ => false) (fun _ => false))) (zeNd 170 (zeNd 169 (fun _ => false) (fun _ => false)) (zeNd 171 (fun _ => false) (fun _ => false))))) (zeNd 179 (zeNd 175 (zeNd 173 (fun _ => false) (zeNd 174 (fun _ => false) (fun _ => false))) (zeNd 177 (zeNd 176 (fun _ => false) (fun _ => false)) (zeNd 178 (fun _ => false) (fun _ => false)))) (zeNd 182 (zeNd 180 (fun _ => false) (zeNd 181 (fun _ => false) (fun _ => false))) (zeNd 184 (zeNd 183 (fun _ => false) (fun _ => false)) (zeNd 185 (fun _ => false) (fun _ => false)))))) (zeNd 199 (zeNd 192 (zeNd 189 (zeNd 187 (fun _ => false) (zeNd 188 (fun _ => false) (fun _ => false))) (zeNd 190 (fun _ => false) (zeNd 191 (fun _ => false) (fun _ => false)))) (zeNd 195 (zeNd 193 (fun _ => false) (zeNd 194 (fun _ => false) (fun _ => false))) (zeNd 197 (zeNd 196 (fun _ => false) (fun _ => false)) (zeNd 198 (fun _ => false) (fun _ => false))))) (zeNd 206 (zeNd 202 (zeNd 200 (fun _ => false) (zeNd 201 (fun _ => false) (fun _ => false))) (zeNd 204 (zeNd 203 (fun _ => false) (fun _ => false)) (zeNd 205 (fun _ => false) (fun _ => false)))) (zeNd 209 (zeNd 207 (fun _ => false) (zeNd 208 (fun _ => false) (fun _ => false))) (zeNd 211 (zeNd 210 (fun _ => false) (fun _ => false)) (zeNd 212 (fun _ => false) (fun _ => false)))))))))
end
section
/-! THE VIRTUAL MACHINE: numbered cells (below 16 the ones that stood at the start), int, long and reference contents as functions of cell and place; ops are functions; zeRun runs a method's table of ops. Sound: what zeRun answers, the machine answers (part 04, 06). -/
abbrev zeM : Type := Bool × Nat × Nat × (Nat → Nat) × (Nat → Nat) × (Nat → Nat → Option Nat) × (Nat → Nat → Int32) × (Nat → Nat → Int64)
abbrev zeLo : Type := List (Option Value)
abbrev zeSt : Type := Nat × zeLo × List Value × zeM
abbrev zeOut : Type := zeSt ⊕ ((Option Value × zeM) ⊕ (Nat × List Value × zeSt))
abbrev zeOp : Type := zeLo → List Value → zeM → Option zeOut
abbrev zeN (μ : zeM) : Nat := μ.2.1
abbrev zeSl (μ : zeM) : Nat := μ.2.2.1
abbrev zeKd (μ : zeM) : Nat → Nat := μ.2.2.2.1
abbrev zeLn (μ : zeM) : Nat → Nat := μ.2.2.2.2.1
abbrev zeRm (μ : zeM) : Nat → Nat → Option Nat := μ.2.2.2.2.2.1
abbrev zeIm (μ : zeM) : Nat → Nat → Int32 := μ.2.2.2.2.2.2.1
abbrev zeLm (μ : zeM) : Nat → Nat → Int64 := μ.2.2.2.2.2.2.2
/-- a check: the flag stays true only if it holds -/
def zeCk (b : Bool) (μ : zeM) : zeM := (b && μ.1, μ.2)
def zeSIm (f : Nat → Nat → Int32) (μ : zeM) : zeM := (μ.1, zeN μ, zeSl μ, zeKd μ, zeLn μ, zeRm μ, f, zeLm μ)
def zeSLm (f : Nat → Nat → Int64) (μ : zeM) : zeM := (μ.1, zeN μ, zeSl μ, zeKd μ, zeLn μ, zeRm μ, zeIm μ, f)
def zeSRm (f : Nat → Nat → Option Nat) (μ : zeM) : zeM := (μ.1, zeN μ, zeSl μ, zeKd μ, zeLn μ, f, zeIm μ, zeLm μ)
def zeU2 {α : Type} (f : Nat → Nat → α) (a j : Nat) (x : α) : Nat → Nat → α := fun a' j' => if a' = a then (if j' = j then x else f a' j') else f a' j'
def zeU1 {α : Type} (f : Nat → α) (a : Nat) (x : α) : Nat → α := fun a' => if a' = a then x else f a'
/-- n elements copied from row a0, place sp, to row a, place dp -/
def zeCpy {α : Type} (f : Nat → Nat → α) (a0 sp a dp n : Nat) : Nat → Nat → α := fun a' j' => if a' = a then (if dp ≤ j' ∧ j' < dp + n then f a0 (sp + (j' - dp)) else f a' j') else f a' j'
def zeGet : zeLo → Nat → Option Value
  | [], _ => none
  | v :: _, 0 => v
  | _ :: l, k + 1 => zeGet l k
def zeSet : zeLo → Nat → Option Value → zeLo
  | [], _, _ => []
  | _ :: l, 0, x => x :: l
  | v :: l, k + 1, x => v :: zeSet l k x
def zeInb (i : Int32) (n : Nat) : Bool := !(decide (i < 0)) && Nat.blt i.toNatClampNeg n
def zeCat1 : Value → Bool
  | .long _ => false
  | .double _ => false
  | _ => true
def zeRf : Option Nat → Value
  | none => .null
  | some a => .ref a
def zeNx (n : Nat) (L : zeLo) (st : List Value) (μ : zeM) : Option zeOut := some (.inl (n, L, st, μ))
/-! ops: constants, locals, stack -/
def zoIc (v : Int32) (n : Nat) : zeOp := fun L st μ => zeNx n L (.int v :: st) μ
def zoLc (v : Int64) (n : Nat) : zeOp := fun L st μ => zeNx n L (.long v :: st) μ
def zoIl (k n : Nat) : zeOp := fun L st μ => match zeGet L k with
  | some (.int x) => zeNx n L (.int x :: st) μ
  | _ => none
def zoLl (k n : Nat) : zeOp := fun L st μ => match zeGet L k with
  | some (.long x) => zeNx n L (.long x :: st) μ
  | _ => none
def zoAl (k n : Nat) : zeOp := fun L st μ => match zeGet L k with
  | some (.ref x) => zeNx n L (.ref x :: st) μ
  | _ => none
def zoIs (k n : Nat) : zeOp := fun L st μ => match st with
  | .int x :: st' => zeNx n (zeSet L k (some (.int x))) st' μ
  | _ => none
/-- no long stands just below place k -/
def zeNoL (L : zeLo) : Nat → Bool
  | 0 => true
  | k + 1 => match zeGet L k with
    | some v => zeCat1 v
    | none => true
def zoLs (k n : Nat) : zeOp := fun L st μ => match st with
  | .long x :: st' => cond (zeNoL L k) (zeNx n (zeSet (zeSet L k (some (.long x))) (k + 1) none) st' μ) none
  | _ => none
def zoAs (k n : Nat) : zeOp := fun L st μ => match st with
  | .ref x :: st' => zeNx n (zeSet L k (some (.ref x))) st' μ
  | _ => none
def zoInc (k : Nat) (c : Int32) (n : Nat) : zeOp := fun L st μ => match zeGet L k with
  | some (.int x) => zeNx n (zeSet L k (some (.int (x + c)))) st μ
  | _ => none
def zoI2 (f : Int32 → Int32 → Int32) (n : Nat) : zeOp := fun L st μ => match st with
  | .int y :: .int x :: st' => zeNx n L (.int (f x y) :: st') μ
  | _ => none
/-- a division or remainder: the divisor isn't 0 -/
def zoD2 (f : Int32 → Int32 → Int32) (n : Nat) : zeOp := fun L st μ => match st with
  | .int y :: .int x :: st' => zeNx n L (.int (f x y) :: st') (zeCk (!(decide (y = 0))) μ)
  | _ => none
def zoI1 (f : Int32 → Int32) (n : Nat) : zeOp := fun L st μ => match st with
  | .int x :: st' => zeNx n L (.int (f x) :: st') μ
  | _ => none
def zoL2 (f : Int64 → Int64 → Int64) (n : Nat) : zeOp := fun L st μ => match st with
  | .long y :: .long x :: st' => zeNx n L (.long (f x y) :: st') μ
  | _ => none
def zoLsh (f : Int64 → Int32 → Int64) (n : Nat) : zeOp := fun L st μ => match st with
  | .int y :: .long x :: st' => zeNx n L (.long (f x y) :: st') μ
  | _ => none
def zoLcmp (n : Nat) : zeOp := fun L st μ => match st with
  | .long y :: .long x :: st' => zeNx n L (.int (lg_cmp x y) :: st') μ
  | _ => none
def zoDup (n : Nat) : zeOp := fun L st μ => match st with
  | v :: st' => cond (zeCat1 v) (zeNx n L (v :: v :: st') μ) none
  | _ => none
def zoDup2 (n : Nat) : zeOp := fun L st μ => match st with
  | v :: w :: st' => cond (zeCat1 v && zeCat1 w) (zeNx n L (v :: w :: v :: w :: st') μ) none
  | _ => none
def zoDupX1 (n : Nat) : zeOp := fun L st μ => match st with
  | v :: w :: st' => cond (zeCat1 v && zeCat1 w) (zeNx n L (v :: w :: v :: st') μ) none
  | _ => none
def zoPop (n : Nat) : zeOp := fun L st μ => match st with
  | v :: st' => cond (zeCat1 v) (zeNx n L st' μ) none
  | _ => none
/-! branches -/
def zoGo (t : Nat) : zeOp := fun L st μ => zeNx t L st μ
def zoZeq (t n : Nat) : zeOp := fun L st μ => match st with
  | .int x :: st' => zeNx (if x = 0 then t else n) L st' μ
  | _ => none
def zoZlt (t n : Nat) : zeOp := fun L st μ => match st with
  | .int x :: st' => zeNx (if x < 0 then t else n) L st' μ
  | _ => none
def zoZle (t n : Nat) : zeOp := fun L st μ => match st with
  | .int x :: st' => zeNx (if x ≤ 0 then t else n) L st' μ
  | _ => none
def zoZge (t n : Nat) : zeOp := fun L st μ => match st with
  | .int x :: st' => zeNx (if 0 ≤ x then t else n) L st' μ
  | _ => none
def zoZgt (t n : Nat) : zeOp := fun L st μ => match st with
  | .int x :: st' => zeNx (if 0 < x then t else n) L st' μ
  | _ => none
def zoCeq (t n : Nat) : zeOp := fun L st μ => match st with
  | .int y :: .int x :: st' => zeNx (if x = y then t else n) L st' μ
  | _ => none
def zoClt (t n : Nat) : zeOp := fun L st μ => match st with
  | .int y :: .int x :: st' => zeNx (if x < y then t else n) L st' μ
  | _ => none
def zoCle (t n : Nat) : zeOp := fun L st μ => match st with
  | .int y :: .int x :: st' => zeNx (if x ≤ y then t else n) L st' μ
  | _ => none
def zoCge (t n : Nat) : zeOp := fun L st μ => match st with
  | .int y :: .int x :: st' => zeNx (if y ≤ x then t else n) L st' μ
  | _ => none
def zoCgt (t n : Nat) : zeOp := fun L st μ => match st with
  | .int y :: .int x :: st' => zeNx (if y < x then t else n) L st' μ
  | _ => none
/-- a switch: the targets of the values, and the other's -/
def zeSw (x : Int32) (d : Nat) : List (Int32 × Nat) → Nat
  | [] => d
  | (k, t) :: l => if x = k then t else zeSw x d l
def zoSw (l : List (Int32 × Nat)) (d : Nat) : zeOp := fun L st μ => match st with
  | .int x :: st' => zeNx (zeSw x d l) L st' μ
  | _ => none
/-- a known cell isn't null -/
def zoNn (t : Nat) : zeOp := fun L st μ => match st with
  | .ref a :: st' => cond (Nat.blt 0 (zeKd μ a)) (zeNx t L st' μ) none
  | _ => none
/-! fields -/
def zoGf (ci j n : Nat) : zeOp := fun L st μ => match st with
  | .ref a :: st' => cond (Nat.beq (zeKd μ a) (ci + 1)) (zeNx n L (.int (zeIm μ a j) :: st') μ) none
  | _ => none
def zoGr (ci j n : Nat) : zeOp := fun L st μ => match st with
  | .ref a :: st' => cond (Nat.beq (zeKd μ a) (ci + 1)) (zeNx n L (zeRf (zeRm μ a j) :: st') μ) none
  | _ => none
def zoPf (ci j n : Nat) : zeOp := fun L st μ => match st with
  | .int x :: .ref a :: st' => cond (Nat.beq (zeKd μ a) (ci + 1)) (zeNx n L st' (zeSIm (zeU2 (zeIm μ) a j x) μ)) none
  | _ => none
/-- an int put into a field of a small type: it is of that type -/
def zoPs (ty : FieldType) (ci j n : Nat) : zeOp := fun L st μ => match st with
  | .int x :: .ref a :: st' => cond (Nat.beq (zeKd μ a) (ci + 1)) (zeNx n L st' (zeCk (decide (narrow ty (.int x) = .int x) && fits ty (.int x)) (zeSIm (zeU2 (zeIm μ) a j x) μ))) none
  | _ => none
def zoPr (ci j n : Nat) : zeOp := fun L st μ => match st with
  | .ref b :: .ref a :: st' => cond (Nat.beq (zeKd μ a) (ci + 1) && Nat.ble 16 b) (zeNx n L st' (zeSRm (zeU2 (zeRm μ) a j (some b)) μ)) none
  | _ => none
/-- fields of the text constants -/
def zoGfO (j n : Nat) : zeOp := fun L st μ => match st with
  | .ref a :: st' => cond (Nat.beq (zeKd μ a) 110) (zeNx n L (.int (zeIm μ a j) :: st') μ) none
  | _ => none
def zoGrO (j n : Nat) : zeOp := fun L st μ => match st with
  | .ref a :: st' => cond (Nat.beq (zeKd μ a) 110) (zeNx n L (zeRf (zeRm μ a j) :: st') μ) none
  | _ => none
/-- a static, or a text constant, that nobody writes -/
def zoK (v : Value) (n : Nat) : zeOp := fun L st μ => zeNx n L (v :: st) μ
/-! arrays; t: 40 int, 41 long, 42 byte, 43 char, 44 boolean, 45 references; 100 and 102: int and byte arrays that stood at the start -/
def zoLd (t n : Nat) : zeOp := fun L st μ => match st with
  | .int i :: .ref a :: st' => cond (Nat.beq (zeKd μ a) t) (zeNx n L (.int (zeIm μ a i.toNatClampNeg) :: st') (zeCk (zeInb i (zeLn μ a)) μ)) none
  | _ => none
def zoLld (n : Nat) : zeOp := fun L st μ => match st with
  | .int i :: .ref a :: st' => cond (Nat.beq (zeKd μ a) 41) (zeNx n L (.long (zeLm μ a i.toNatClampNeg) :: st') (zeCk (zeInb i (zeLn μ a)) μ)) none
  | _ => none
def zoAld (n : Nat) : zeOp := fun L st μ => match st with
  | .int i :: .ref a :: st' => cond (Nat.beq (zeKd μ a) 45) (zeNx n L (zeRf (zeRm μ a i.toNatClampNeg) :: st') (zeCk (zeInb i (zeLn μ a)) μ)) none
  | _ => none
def zeNar (t : Nat) (x : Int32) : Int32 := match t with
  | 42 => vp_nar .byte x
  | 43 => vp_nar .char x
  | 44 => vp_nar .boolean x
  | _ => x
def zoSt (t n : Nat) : zeOp := fun L st μ => match st with
  | .int x :: .int i :: .ref a :: st' => cond (Nat.beq (zeKd μ a) t) (zeNx n L st' (zeCk (zeInb i (zeLn μ a)) (zeSIm (zeU2 (zeIm μ) a i.toNatClampNeg (zeNar t x)) μ))) none
  | _ => none
def zoLst (n : Nat) : zeOp := fun L st μ => match st with
  | .long x :: .int i :: .ref a :: st' => cond (Nat.beq (zeKd μ a) 41) (zeNx n L st' (zeCk (zeInb i (zeLn μ a)) (zeSLm (zeU2 (zeLm μ) a i.toNatClampNeg x) μ))) none
  | _ => none
def zoAst (ci n : Nat) : zeOp := fun L st μ => match st with
  | .ref b :: .int i :: .ref a :: st' => cond (Nat.beq (zeKd μ a) 45 && (Nat.beq (zeKd μ b) (ci + 1) && Nat.ble 16 b)) (zeNx n L st' (zeCk (zeInb i (zeLn μ a)) (zeSRm (zeU2 (zeRm μ) a i.toNatClampNeg (some b)) μ))) none
  | _ => none
def zoLen (n : Nat) : zeOp := fun L st μ => match st with
  | .ref a :: st' => cond (Nat.ble 40 (zeKd μ a) && Nat.ble (zeKd μ a) 45) (zeNx n L (.int (Int32.ofNat (zeLn μ a)) :: st') μ) none
  | _ => none
def zoLenO (n : Nat) : zeOp := fun L st μ => match st with
  | .ref a :: st' => cond (Nat.beq (zeKd μ a) 100 || Nat.beq (zeKd μ a) 102) (zeNx n L (.int (Int32.ofNat (zeLn μ a)) :: st') μ) none
  | _ => none
/-! new cells -/
def zeNew (kd ln sl : Nat) (μ : zeM) : zeM := (μ.1, zeN μ + 1, zeSl μ + sl, zeU1 (zeKd μ) (16 + zeN μ) kd, zeU1 (zeLn μ) (16 + zeN μ) ln, zeU1 (zeRm μ) (16 + zeN μ) (fun _ => none), zeU1 (zeIm μ) (16 + zeN μ) (fun _ => 0), zeU1 (zeLm μ) (16 + zeN μ) (fun _ => 0))
def zoNew (ci nf n : Nat) : zeOp := fun L st μ => zeNx n L (.ref (16 + zeN μ) :: st) (zeNew (ci + 1) 0 nf μ)
def zoNewa (t n : Nat) : zeOp := fun L st μ => match st with
  | .int x :: st' => zeNx n L (.ref (16 + zeN μ) :: st') (zeCk (!(decide (x < 0)) && Nat.ble x.toNatClampNeg 1000000) (zeNew t x.toNatClampNeg x.toNatClampNeg μ))
  | _ => none
/-! Math.max, Math.min, arraycopy -/
def zoMax (n : Nat) : zeOp := fun L st μ => match st with
  | .int y :: .int x :: st' => cond (Nat.ble st'.length 4) (zeNx n L (.int (if x < y then y else x) :: st') μ) none
  | _ => none
def zoMin (n : Nat) : zeOp := fun L st μ => match st with
  | .int y :: .int x :: st' => cond (Nat.ble st'.length 4) (zeNx n L (.int (if y < x then y else x) :: st') μ) none
  | _ => none
def zeCpOk (sp dp n : Int32) (l0 l1 : Nat) : Bool := !(decide (sp < 0)) && (!(decide (dp < 0)) && (!(decide (n < 0)) && (Nat.ble (sp.toNatClampNeg + n.toNatClampNeg) l0 && Nat.ble (dp.toNatClampNeg + n.toNatClampNeg) l1)))
def zoCp (t n : Nat) : zeOp := fun L st μ => match st with
  | .int k :: .int dp :: .ref a :: .int sp :: .ref a0 :: st' => cond (Nat.beq (zeKd μ a) t && (Nat.beq (zeKd μ a0) t && Nat.ble st'.length 4)) (zeNx n L st' (zeCk (zeCpOk sp dp k (zeLn μ a0) (zeLn μ a)) (zeSIm (zeCpy (zeIm μ) a0 sp.toNatClampNeg a dp.toNatClampNeg k.toNatClampNeg) μ))) none
  | _ => none
def zoCpL (n : Nat) : zeOp := fun L st μ => match st with
  | .int k :: .int dp :: .ref a :: .int sp :: .ref a0 :: st' => cond (Nat.beq (zeKd μ a) 41 && (Nat.beq (zeKd μ a0) 41 && Nat.ble st'.length 4)) (zeNx n L st' (zeCk (zeCpOk sp dp k (zeLn μ a0) (zeLn μ a)) (zeSLm (zeCpy (zeLm μ) a0 sp.toNatClampNeg a dp.toNatClampNeg k.toNatClampNeg) μ))) none
  | _ => none
/-- out of a byte array that stood at the start -/
def zoCpO (n : Nat) : zeOp := fun L st μ => match st with
  | .int k :: .int dp :: .ref a :: .int sp :: .ref a0 :: st' => cond (Nat.beq (zeKd μ a) 42 && (Nat.beq (zeKd μ a0) 102 && Nat.ble st'.length 4)) (zeNx n L st' (zeCk (zeCpOk sp dp k (zeLn μ a0) (zeLn μ a)) (zeSIm (zeCpy (zeIm μ) a0 sp.toNatClampNeg a dp.toNatClampNeg k.toNatClampNeg) μ))) none
  | _ => none
/-! calls and ends; Object.<init> -/
def zoObj (n : Nat) : zeOp := fun L st μ => match st with
  | .ref a :: st' => cond (Nat.blt 0 (zeKd μ a) && Nat.ble st'.length 4) (zeNx n L st' μ) none
  | _ => none
def zeAr : Nat → List Value → List Value → Option (List Value × List Value)
  | 0, as, st => some (as, st)
  | k + 1, as, v :: st => zeAr k (v :: as) st
  | _ + 1, _, [] => none
/-- a static method: its number, its arguments -/
def zoCs (f k n : Nat) : zeOp := fun L st μ => match zeAr k [] st with
  | some (as, st') => cond (Nat.ble st'.length 4 && as.all zeCat1) (some (.inr (.inr (f, as, n, L, st', μ)))) none
  | none => none
/-- an object's method: kd: what the receiver is -/
def zoCv (kd f k n : Nat) : zeOp := fun L st μ => match zeAr k [] st with
  | some (as, .ref b :: st') => cond (Nat.beq (zeKd μ b) kd && (Nat.ble st'.length 4 && as.all zeCat1)) (some (.inr (.inr (f, .ref b :: as, n, L, st', μ)))) none
  | _ => none
/-- an int that is of the small type ty -/
def zeNok (ty : FieldType) (x : Int32) : Bool := decide (vp_nar ty x = x)
def zoRetI : zeOp := fun _ st μ => match st with
  | [.int x] => some (.inr (.inl (some (.int x), μ)))
  | _ => none
def zoRetS (ty : FieldType) : zeOp := fun _ st μ => match st with
  | [.int x] => some (.inr (.inl (some (.int x), zeCk (zeNok ty x) μ)))
  | _ => none
def zoRetA : zeOp := fun _ st μ => match st with
  | [.ref a] => cond (Nat.ble 16 a) (some (.inr (.inl (some (.ref a), μ)))) none
  | _ => none
def zoRetV : zeOp := fun _ st μ => match st with
  | [] => some (.inr (.inl (none, μ)))
  | _ => none
/-- the locals at a method's start (its arguments take one place each) -/
def zeEnt (nl : Nat) (as : List Value) : zeLo := as.map some ++ List.replicate (nl - as.length) none
end
section
/-! WHAT THE VIRTUAL CELLS ARE IN THE MACHINE. G: the first new address; the values of the old cells; the array classes; the classes and slots; the old cells' kinds, lengths, ints, references. -/
abbrev zeG : Type := Nat × (Nat → Value) × (Nat → ClassId) × va_G × (Nat → Nat) × (Nat → Nat) × (Nat → Nat → Int32) × (Nat → Nat → Option Nat)
abbrev zeN0 (G : zeG) : Nat := G.1
abbrev zeOv (G : zeG) : Nat → Value := G.2.1
abbrev zeCA (G : zeG) : Nat → ClassId := G.2.2.1
abbrev zeD (G : zeG) : va_G := G.2.2.2.1
abbrev zeOk (G : zeG) : Nat → Nat := G.2.2.2.2.1
abbrev zeOl (G : zeG) : Nat → Nat := G.2.2.2.2.2.1
abbrev zeOi (G : zeG) : Nat → Nat → Int32 := G.2.2.2.2.2.2.1
abbrev zeOr (G : zeG) : Nat → Nat → Option Nat := G.2.2.2.2.2.2.2
def zeA (G : zeG) : Nat → Prop := fun q => zeN0 G ≤ q
def zeAd (G : zeG) (a : Nat) : Nat := zeN0 G + (a - 16)
def zeTr (G : zeG) : Value → Value
  | .ref a => if a < 16 then zeOv G a else .ref (zeAd G a)
  | v => v
theorem zeTr_i (G : zeG) (x : Int32) : zeTr G (.int x) = .int x := rfl
theorem zeTr_l (G : zeG) (x : Int64) : zeTr G (.long x) = .long x := rfl
theorem zeTr_n (G : zeG) : zeTr G .null = .null := rfl
theorem zeTr_r (G : zeG) {a : Nat} (h : 16 ≤ a) : zeTr G (.ref a) = .ref (zeAd G a) := by
  show (if a < 16 then zeOv G a else .ref (zeAd G a)) = _
  rw [if_neg (Nat.not_lt.mpr h)]
theorem zeTr_o (G : zeG) {a : Nat} (h : a < 16) : zeTr G (.ref a) = zeOv G a := by
  show (if a < 16 then zeOv G a else .ref (zeAd G a)) = _
  rw [if_pos h]
/-- an object's fields, by its class's list of which are references -/
def zeFs (G : zeG) (r : Nat → Option Nat) (f : Nat → Int32) : Nat → List Bool → List Value
  | _, [] => []
  | j, b :: l => (if b = true then va_rf ((r j).map (zeAd G)) else .int (f j)) :: zeFs G r f (j + 1) l
theorem zeFs_get (G : zeG) (r : Nat → Option Nat) (f : Nat → Int32) : ∀ (l : List Bool) (j i : Nat) (b : Bool), l[i]? = some b → (zeFs G r f j l)[i]? = some (if b = true then va_rf ((r (j + i)).map (zeAd G)) else .int (f (j + i)))
  | [], j, i, b, h => by simp at h
  | c :: l, j, 0, b, h => by
    simp at h
    subst h
    simp [zeFs]
  | c :: l, j, i + 1, b, h => by
    rw [List.getElem?_cons_succ] at h
    have := zeFs_get G r f l (j + 1) i b h
    simp only [zeFs, List.getElem?_cons_succ]
    rw [this, show j + 1 + i = j + (i + 1) by omega]
theorem zeFs_len (G : zeG) (r : Nat → Option Nat) (f : Nat → Int32) : ∀ (l : List Bool) (j : Nat), (zeFs G r f j l).length = l.length
  | [], _ => rfl
  | _ :: l, j => by simp [zeFs, zeFs_len G r f l (j + 1)]
/-- the element type's place among the array types: 0 int, 1 long, 2 byte, 3 char, 4 boolean, 5 references -/
def zeArrR (G : zeG) (t ln : Nat) (r : Nat → Option Nat) (f : Nat → Int32) (g : Nat → Int64) : vp_A := if t = 5 then (ln, .inr (.inr (.inr (.inr (fun j => (r j).map (zeAd G)))))) else if t = 1 then (ln, .inr (.inl g)) else (ln, .inl f)
def zeCellR (G : zeG) (kd ln : Nat) (r : Nat → Option Nat) (f : Nat → Int32) (g : Nat → Int64) : va_E := if kd < 40 then .inr (kd - 1, zeFs G r f 0 (zeFL (kd - 1))) else .inl (zeCA G (kd - 40), zeArrR G (kd - 40) ln r f g)
def zeCell (G : zeG) (μ : zeM) (k : Nat) : va_E := zeCellR G (zeKd μ k) (zeLn μ k) (zeRm μ k) (zeIm μ k) (zeLm μ k)
def zeW (G : zeG) (μ : zeM) : va_W := (List.range (zeN μ)).map fun i => (zeN0 G + i, zeCell G μ (16 + i))
def zeTY (G : zeG) : List (ClassId × FieldType) := [(zeCA G 0, .int), (zeCA G 1, .long), (zeCA G 2, .byte), (zeCA G 3, .char), (zeCA G 4, .boolean), (zeCA G 5, .object "WagerQuiz$State")]
theorem zeW_get {G : zeG} {μ : zeM} {k : Nat} (h1 : 16 ≤ k) (h2 : k < 16 + zeN μ) : (zeW G μ)[k - 16]? = some (zeAd G k, zeCell G μ k) := by
  have h3 : k - 16 < zeN μ := by omega
  simp [zeW, h3, zeAd, show 16 + (k - 16) = k by omega]
theorem zeW_at {G : zeG} {μ : zeM} {i : Nat} {q : Nat × va_E} (h : (zeW G μ)[i]? = some q) : i < zeN μ ∧ q = (zeN0 G + i, zeCell G μ (16 + i)) := by
  unfold zeW at h
  rw [List.getElem?_map] at h
  by_cases hi : i < zeN μ
  · rw [List.getElem?_range hi] at h
    exact ⟨hi, (Option.some.inj h).symm⟩
  · rw [List.getElem?_eq_none (by simpa using hi)] at h
    cases h
theorem zeW_D (G : zeG) (μ : zeM) : va_D (zeA G) (zeW G μ) := by
  refine ⟨fun i j p q hp hq h => ?_, fun i q hq => ?_⟩
  · obtain ⟨-, rfl⟩ := zeW_at hp
    obtain ⟨-, rfl⟩ := zeW_at hq
    simp at h
    exact h
  · obtain ⟨-, rfl⟩ := zeW_at hq
    show zeN0 G ≤ zeN0 G + i
    omega
/-- one cell has changed -/
theorem zeW_set {G : zeG} {μ μ' : zeM} {k : Nat} (h1 : 16 ≤ k) (h2 : k < 16 + zeN μ) (hn : zeN μ' = zeN μ) (ho : ∀ a, a ≠ k → zeCell G μ' a = zeCell G μ a) : zeW G μ' = (zeW G μ).set (k - 16) (zeAd G k, zeCell G μ' k) := by
  apply List.ext_getElem?
  intro i
  by_cases hi : i = k - 16
  · subst hi
    rw [zeW_get h1 (by rw [hn]; exact h2), List.getElem?_set_self]
    simpa [zeW] using show k - 16 < zeN μ by omega
  · rw [List.getElem?_set_ne (Ne.symm hi)]
    unfold zeW
    rw [hn, List.getElem?_map, List.getElem?_map]
    by_cases hl : i < zeN μ
    · rw [List.getElem?_range hl]
      simp only [Option.map_some]
      rw [ho (16 + i) (by omega)]
    · rw [List.getElem?_eq_none (by simpa using hl)]
      rfl
/-- one cell is new -/
theorem zeW_push {G : zeG} {μ μ' : zeM} (hn : zeN μ' = zeN μ + 1) (ho : ∀ a, a ≠ 16 + zeN μ → zeCell G μ' a = zeCell G μ a) : zeW G μ' = zeW G μ ++ [(zeN0 G + zeN μ, zeCell G μ' (16 + zeN μ))] := by
  unfold zeW
  rw [hn, List.range_succ, List.map_append]
  congr 1
  apply List.map_congr_left
  intro i hi
  rw [ho (16 + i) (by have := List.mem_range.mp hi; omega)]
/-- the heap holds the virtual cells -/
def zePic (G : zeG) (μ : zeM) (H : Heap) : Prop := va_P (zeD G) zeCl (zeW G μ) H ∧ H.size = zeN0 G + zeN μ
/-- what holds of the virtual cells themselves: the old ones as they were; bytes are bytes; no cell beyond the last -/
def zeWf (G : zeG) (μ : zeM) : Prop := (∀ k, k < 16 → zeKd μ k = zeOk G k ∧ zeLn μ k = zeOl G k ∧ (∀ j, zeIm μ k j = zeOi G k j) ∧ ∀ j, zeRm μ k j = zeOr G k j) ∧ (∀ k, zeKd μ k = 42 ∨ zeKd μ k = 102 → ∀ j, fits .byte (.int (zeIm μ k j)) = true) ∧ (∀ k, 0 < zeKd μ k → k < 16 + zeN μ ∧ (zeKd μ k < 100 ∨ k < 16)) ∧ (∀ k j a, zeRm μ k j = some a → 16 ≤ k → 16 ≤ a) ∧ ∀ k, k < 16 → zeKd μ k = 0 ∨ 100 ≤ zeKd μ k
def zeMon (μ μ' : zeM) : Prop := (μ'.1 = true → μ.1 = true) ∧ zeN μ ≤ zeN μ' ∧ zeSl μ ≤ zeSl μ'
theorem zeMon.rf (μ : zeM) : zeMon μ μ := ⟨fun h => h, Nat.le_refl _, Nat.le_refl _⟩
theorem zeMon.tr {a b c : zeM} (h1 : zeMon a b) (h2 : zeMon b c) : zeMon a c := ⟨fun h => h1.1 (h2.1 h), Nat.le_trans h1.2.1 h2.2.1, Nat.le_trans h1.2.2 h2.2.2⟩
theorem zeMon.ck (b : Bool) (μ : zeM) : zeMon μ (zeCk b μ) := ⟨fun h => (Bool.and_eq_true _ _ ▸ h : b = true ∧ μ.1 = true).2, Nat.le_refl _, Nat.le_refl _⟩
theorem zeCk_b {b : Bool} {μ : zeM} (h : (zeCk b μ).1 = true) : b = true := (Bool.and_eq_true _ _ ▸ h : b = true ∧ μ.1 = true).1
/-- what the Statement gives of the tables, at a method's start -/
def zeNW : List Cond := [.methodLinkNest "WagerQuiz" 9 ⟨"WagerQuiz$State", "<init>", "()V"⟩ "WagerQuiz", .methodLinkNest "WagerQuiz$State" 15 ⟨"WagerQuiz$PickedClue", "<init>", "()V"⟩ "WagerQuiz"]
def zeOldA (G : zeG) (U : State) (H : Heap) : Prop := ∀ k, k < 16 → (zeOk G k = 100 → ∃ t, zeOv G k = .ref t ∧ va_T .int t (zeOl G k) (fun j => .int (zeOi G k j)) (zeA G) U H) ∧ (zeOk G k = 102 → ∃ t, zeOv G k = .ref t ∧ va_T .byte t (zeOl G k) (fun j => .int (zeOi G k j)) (zeA G) U H ∧ ∀ j, fits .byte (.int (zeOi G k j)) = true) ∧ (zeOk G k = 110 → ∃ t r, zeOv G k = .ref t ∧ zeOr G k 0 = some r ∧ r < 16 ∧ va_O "java/lang/String" t (zeA G) U H ∧ va_OF "java/lang/String" "value" "[B" (zeOv G r) t (zeA G) U H ∧ va_OF "java/lang/String" "coder" "B" (.int (zeOi G k 1)) t (zeA G) U H) ∧ (zeOk G k = 0 ∨ zeOk G k = 100 ∨ zeOk G k = 102 ∨ zeOk G k = 110)
theorem zeOldA.to {G : zeG} {u U : State} {H H1 : Heap} (hvm : u.vm.Alike U.vm) (hq : ∀ a : Nat, a < H.size → ¬ zeA G a → H1[a]? = H[a]?) (h : zeOldA G u H) : zeOldA G U H1 := by
  intro k hk
  obtain ⟨h1, h2, h3, h4⟩ := h k hk
  refine ⟨fun e => ?_, fun e => ?_, fun e => ?_, h4⟩
  · obtain ⟨t, e1, e2⟩ := h1 e
    exact ⟨t, e1, (e2.moved hvm).kept hq⟩
  · obtain ⟨t, e1, e2, e3⟩ := h2 e
    exact ⟨t, e1, (e2.moved hvm).kept hq, e3⟩
  · obtain ⟨t, r, e1, e2, e3, e4, e5, e6⟩ := h3 e
    exact ⟨t, r, e1, e2, e3, (e4.moved hvm).kept hq, (e5.moved hvm).kept hq, (e6.moved hvm).kept hq⟩
end
section
/-! LOCALS, THE CONTEXT OF A METHOD, AND WHAT SOUND MEANS -/
def zeLl (G : zeG) : Nat → zeLo → List (Nat × Value)
  | _, [] => []
  | j, none :: l => zeLl G (j + 1) l
  | j, some v :: l => (j, zeTr G v) :: zeLl G (j + 1) l
theorem zeLl_mem (G : zeG) : ∀ (L : zeLo) (j k : Nat) (x : Value), (k, x) ∈ zeLl G j L ↔ ∃ (i : Nat) (v : Value), k = j + i ∧ zeGet L i = some v ∧ x = zeTr G v
  | [], j, k, x => by simp [zeLl, zeGet]
  | none :: l, j, k, x => by
    rw [show zeLl G j (none :: l) = zeLl G (j + 1) l from rfl, zeLl_mem G l (j + 1) k x]
    constructor
    · rintro ⟨i, v, h1, h2, h3⟩
      exact ⟨i + 1, v, by omega, h2, h3⟩
    · rintro ⟨i, v, h1, h2, h3⟩
      cases i with
      | zero => simp [zeGet] at h2
      | succ i => exact ⟨i, v, by omega, h2, h3⟩
  | some w :: l, j, k, x => by
    rw [show zeLl G j (some w :: l) = (j, zeTr G w) :: zeLl G (j + 1) l from rfl, List.mem_cons, zeLl_mem G l (j + 1) k x]
    constructor
    · rintro (h | ⟨i, v, h1, h2, h3⟩)
      · cases h
        exact ⟨0, w, rfl, rfl, rfl⟩
      · exact ⟨i + 1, v, by omega, h2, h3⟩
    · rintro ⟨i, v, h1, h2, h3⟩
      cases i with
      | zero =>
        left
        simp [zeGet] at h2
        subst h2
        simp [h1, h3]
      | succ i => exact Or.inr ⟨i, v, by omega, h2, h3⟩
theorem zeGet_set : ∀ (L : zeLo) (i : Nat) (x : Option Value) (k : Nat), zeGet (zeSet L i x) k = if k = i ∧ i < L.length then x else zeGet L k
  | [], i, x, k => by simp [zeSet]
  | v :: l, 0, x, 0 => by simp [zeSet, zeGet]
  | v :: l, 0, x, k + 1 => by simp [zeSet, zeGet]
  | v :: l, i + 1, x, 0 => by simp [zeSet, zeGet]
  | v :: l, i + 1, x, k + 1 => by
    have := zeGet_set l i x k
    simp [zeSet, zeGet, this]
def zeLH (G : zeG) (ls : Array Slot) (n : Nat) (L : zeLo) : Prop := lv_has ls n (zeLl G 0 L)
theorem zeLH.at {G : zeG} {ls : Array Slot} {n : Nat} {L : zeLo} (h : zeLH G ls n L) {k : Nat} {v : Value} (hk : zeGet L k = some v) : ls[k]? = some (.val (zeTr G v)) := h.2.2 (k, zeTr G v) ((zeLl_mem G L 0 k _).mpr ⟨k, v, by omega, hk, rfl⟩)
def zeNL (i : Nat) (L : zeLo) : Prop := zeLg i = false → ∀ k v, zeGet L k = some v → zeCat1 v = true
theorem zeNL.set {i : Nat} {L : zeLo} (h : zeNL i L) {k : Nat} {v : Value} (hv : zeCat1 v = true) : zeNL i (zeSet L k (some v)) := by
  intro hg j w hj
  rw [zeGet_set] at hj
  split at hj
  · cases hj
    exact hv
  · exact h hg j w hj
def zeGv (G : zeG) : Prop := ∀ a, ∃ r : Option Nat, zeOv G a = va_rf r
theorem zeTr_rf {G : zeG} (hG : zeGv G) (a : Nat) : ∃ r : Option Nat, zeTr G (.ref a) = va_rf r := by
  by_cases h : a < 16
  · rw [zeTr_o G h]
    exact hG a
  · exact ⟨some (zeAd G a), zeTr_r G (by omega)⟩
theorem zeTr_cat {G : zeG} (hG : zeGv G) {v : Value} (hv : zeCat1 v = true) : (zeTr G v).category = 1 := by
  cases v with
  | ref a =>
    obtain ⟨r, h⟩ := zeTr_rf hG a
    rw [h]
    cases r <;> rfl
  | long x => cases hv
  | double x => cases hv
  | _ => rfl
theorem zeLH.set {G : zeG} (hG : zeGv G) {ls' : Array Slot} {n i k : Nat} {L : zeLo} {v : Value} (hN : zeNL i L) (hg : zeLg i = false) (h : lv_has ls' n ((k, zeTr G v) :: (zeLl G 0 L).filter (fun q => !(q.1 == k) && !(q.1 + 1 == k && q.2.category == 2)))) : zeLH G ls' n (zeSet L k (some v)) := by
  refine ⟨h.1, h.2.1, fun q hq => ?_⟩
  obtain ⟨j, w, e1, e2, e3⟩ := (zeLl_mem G _ 0 q.1 q.2).mp hq
  rw [zeGet_set] at e2
  apply h.2.2
  by_cases hj : j = k ∧ k < L.length
  · rw [if_pos hj] at e2
    cases e2
    obtain ⟨q1, q2⟩ := q
    dsimp only at e1 e3
    subst e3
    rw [show q1 = k by omega]
    exact List.mem_cons_self
  · rw [if_neg hj] at e2
    have hjl : j ≠ k := by
      intro e
      apply hj
      refine ⟨e, ?_⟩
      have : ∀ (L : zeLo) (j : Nat) (w : Value), zeGet L j = some w → j < L.length := by
        intro L
        induction L with
        | nil => intro j w h; simp [zeGet] at h
        | cons a l ih =>
          intro j w h
          cases j with
          | zero => simp
          | succ j => have := ih j w h; simp; omega
      have := this L j w e2
      omega
    refine List.mem_cons_of_mem _ (List.mem_filter.mpr ⟨(zeLl_mem G L 0 q.1 q.2).mpr ⟨j, w, e1, e2, e3⟩, ?_⟩)
    have hc : q.2.category = 1 := by rw [e3]; exact zeTr_cat hG (hN hg j w e2)
    have h1 : ¬ q.1 = k := by omega
    simp [h1, hc]
/-- what the Statement gives of statics, text constants and tables (of this claim) -/
def zeSta (G : zeG) (U : State) (H : Heap) : Prop :=
  va_Z "WagerQuiz" "SETTING_TOPS" "[I" (zeOv G 1) (zeA G) U H ∧ va_Z "java/lang/String" "COMPACT_STRINGS" "Z" (.int 1) (zeA G) U H ∧ va_Z "java/lang/Integer" "DigitTens" "[B" (zeOv G 2) (zeA G) U H ∧ va_Z "java/lang/Integer" "DigitOnes" "[B" (zeOv G 3) (zeA G) U H ∧ va_Z "jdk/internal/util/Preconditions" "SIOOBE_FORMATTER" "Ljava/util/function/BiFunction;" (zeOv G 8) (zeA G) U H ∧
  (∃ t, zeOv G 4 = .ref t ∧ vk_R "WagerQuiz" 392 "phase " t U) ∧ (∃ t, zeOv G 6 = .ref t ∧ vk_R "WagerQuiz" 400 "; p" t U) ∧ va_AO "WagerQuiz$State" U ∧
  va_Nw (.methodLinkNest "WagerQuiz" 9 ⟨"WagerQuiz$State", "<init>", "()V"⟩ "WagerQuiz") U ∧ va_Nw (.methodLinkNest "WagerQuiz$State" 15 ⟨"WagerQuiz$PickedClue", "<init>", "()V"⟩ "WagerQuiz") U ∧ va_Nw (.methodLinkNest "WagerQuiz$State" 29 ⟨"WagerQuiz$Log", "<init>", "()V"⟩ "WagerQuiz") U ∧ va_Nw (.methodLinkNest "WagerQuiz$History" 17 ⟨"WagerQuiz$State", "<init>", "()V"⟩ "WagerQuiz") U ∧ va_Nw (.methodLinkNest "WagerQuiz" 40 ⟨"WagerQuiz$Script", "<init>", "()V"⟩ "WagerQuiz") U ∧ va_Nw (.methodLinkNest "WagerQuiz$Replay" 79 ⟨"WagerQuiz", "isClue", "(I)Z"⟩ "WagerQuiz") U ∧ va_Nw (.fieldLinkNest "WagerQuiz$State" 47 "WagerQuiz" "SETTING_TOPS" "[I" "WagerQuiz") U
theorem zeSta.to {G : zeG} {u U : State} {H H1 : Heap} (hW : u.WarmedH U.vm) (hq : ∀ a : Nat, a < H.size → ¬ zeA G a → H1[a]? = H[a]?) (h : zeSta G u H) : zeSta G U H1 := by
  obtain ⟨h1, h2, h3, h4, h5, ⟨t, h6, h6'⟩, ⟨t2, h7, h7'⟩, h8, h9, h10, h11, h12, h13, h14, h15⟩ := h
  have hvm := hW.alike
  exact ⟨(h1.moved hvm).kept hq, (h2.moved hvm).kept hq, (h3.moved hvm).kept hq, (h4.moved hvm).kept hq, (h5.moved hvm).kept hq, ⟨t, h6, h6'.warm hW⟩, ⟨t2, h7, h7'.warm hW⟩, h8.moved hvm, h9.warmM hW, h10.warmM hW, h11.warmM hW, h12.warmM hW, h13.warmM hW, h14.warmM hW, h15.warmF hW⟩
/-- the context of a walk of method i -/
def zeCx (G : zeG) (i : Nat) (p : Program) (s : State) (m : MethodId) (args : Array Value) (meth : Method) (c : Code) : Prop :=
  p.tables.exec = Jvm.exec ∧ c.code = zeCod i ∧ c.maxLocals = zeNl i ∧ s.vm.findClass (zeNam i).cls = some m.cls ∧ (∀ w ∈ zeBT, w.before args s = true) ∧ va_K (zeD G) zeCl (zeTY G) s ∧ zeOldA G s s.heap ∧ zeSta G s s.heap ∧ meth.name = (zeNam i).name ∧ (∀ q : Nat, s.heap.size ≤ q → zeA G q) ∧ zeGv G
section CX
variable {G : zeG} {i : Nat} {p : Program} {s : State} {m : MethodId} {args : Array Value} {meth : Method} {c : Code}
theorem zeCx.ml (h : zeCx G i p s m args meth c) : c.maxLocals = zeNl i := h.2.2.1
theorem zeCx.own (h : zeCx G i p s m args meth c) : s.vm.findClass (zeNam i).cls = some m.cls := h.2.2.2.1
theorem zeCx.ws (h : zeCx G i p s m args meth c) : ∀ w ∈ zeBT, w.before args s = true := h.2.2.2.2.1
theorem zeCx.K (h : zeCx G i p s m args meth c) : va_K (zeD G) zeCl (zeTY G) s := h.2.2.2.2.2.1
theorem zeCx.old (h : zeCx G i p s m args meth c) : zeOldA G s s.heap := h.2.2.2.2.2.2.1
theorem zeCx.sta (h : zeCx G i p s m args meth c) : zeSta G s s.heap := h.2.2.2.2.2.2.2.1
theorem zeCx.nm (h : zeCx G i p s m args meth c) : meth.name = (zeNam i).name := h.2.2.2.2.2.2.2.2.1
theorem zeCx.new (h : zeCx G i p s m args meth c) : ∀ q : Nat, s.heap.size ≤ q → zeA G q := h.2.2.2.2.2.2.2.2.2.1
theorem zeCx.gv (h : zeCx G i p s m args meth c) : zeGv G := h.2.2.2.2.2.2.2.2.2.2
end CX
/-- an answer is of the method's type -/
def zeRok (i : Nat) (v : Option Value) : Prop := match zeRt i with
  | none => v = none
  | some .int => ∃ x, v = some (.int x)
  | some (.object _) => ∃ a, v = some (.ref a) ∧ 16 ≤ a
  | some (.array _) => ∃ a, v = some (.ref a) ∧ 16 ≤ a
  | some ty => ∃ x, v = some (.int x) ∧ narrow ty (.int x) = .int x
/-- from here the machine comes to what the virtual machine says: the answer v, the cells μ' -/
def zeGO (G : zeG) (i : Nat) (v : Option Value) (μ' : zeM) (pc : Nat) (L : zeLo) (st : List Value) (μ : zeM) : Prop :=
  ∀ (p : Program) (l : Launch) (e : Env) (R : Room) (s : State) (m : MethodId) (args : Array Value) (below : List Frame) (meth : Method) (c : Code) (Q : State → Prop) (n0 s0 : Nat),
    zeCx G i p s m args meth c → zeDp i ≤ R.frames → zeLc i ≤ R.locals → n0 ≤ zeN μ → s0 ≤ zeSl μ →
    (∀ (H : Heap) (locs : List Loc) (ls : Array Slot) (pcr : Nat), zeRok i v → decode (zeCod i) pcr = .ok (zeRk i, 1) → zePic G μ' H → va_S (zeA G) s.heap H locs → W p l e R s m args below meth c H locs (zeN μ' - n0) (zeSl μ' - s0) Q (F0 m pcr ls ((v.map (zeTr G)).toList))) →
    zeN μ' - n0 ≤ R.cells → zeSl μ' - s0 ≤ R.slots →
    ∀ (H : Heap) (locs : List Loc) (ls : Array Slot), zePic G μ H → va_S (zeA G) s.heap H locs → zeLH G ls (zeNl i) L → zeNL i L →
      W p l e R s m args below meth c H locs (zeN μ - n0) (zeSl μ - s0) Q (F0 m pc ls (st.map (zeTr G)))
def zeSnd (G : zeG) (i pc : Nat) (op : zeOp) : Prop := ∀ (L : zeLo) (st : List Value) (μ : zeM),
  (∀ pc' L' st' μ', op L st μ = some (.inl (pc', L', st', μ')) → zeMon μ μ' ∧ (μ'.1 = true → zeWf G μ → zeWf G μ' ∧ ∀ v μ'', zeMon μ' μ'' → zeGO G i v μ'' pc' L' st' μ' → zeGO G i v μ'' pc L st μ)) ∧
  (∀ v μ', op L st μ = some (.inr (.inl (v, μ'))) → zeMon μ μ' ∧ (μ'.1 = true → zeWf G μ → zeWf G μ' ∧ zeGO G i v μ' pc L st μ)) ∧
  (∀ j as pc' L' st' μ', op L st μ = some (.inr (.inr (j, as, pc', L', st', μ'))) → μ' = μ ∧ ∀ v1 μ1 v μ'', zeMon μ μ1 → zeMon μ1 μ'' → zeWf G μ → zeGO G j v1 μ1 0 (zeEnt (zeNl j) as) [] μ → zeGO G i v μ'' pc' L' (v1.toList ++ st') μ1 → zeGO G i v μ'' pc L st μ)
/-- an op that leaves the cells as they are, but for a check: its walk, one machine step -/
theorem zeSnd_of {G : zeG} {i pc : Nat} {op : zeOp} (hn : ∀ L st μ x, op L st μ ≠ some (.inr x))
    (hs : ∀ L st μ pc' L' st' μ', op L st μ = some (.inl (pc', L', st', μ')) → ∃ b, μ' = zeCk b μ ∧ (b = true → zeWf G μ → ∀ (p : Program) (l : Launch) (e : Env) (R : Room) (s : State) (m : MethodId) (args : Array Value) (below : List Frame) (meth : Method) (c : Code) (Q : State → Prop) (H : Heap) (locs : List Loc) (ls : Array Slot) (cells slots : Nat),
      zeCx G i p s m args meth c → zeDp i ≤ R.frames → zeLc i ≤ R.locals → cells ≤ R.cells → slots ≤ R.slots → zePic G μ H → va_S (zeA G) s.heap H locs → zeLH G ls (zeNl i) L → zeNL i L →
      (∀ ls', zeLH G ls' (zeNl i) L' → zeNL i L' → W p l e R s m args below meth c H locs cells slots Q (F0 m pc' ls' (st'.map (zeTr G)))) → W p l e R s m args below meth c H locs cells slots Q (F0 m pc ls (st.map (zeTr G))))) : zeSnd G i pc op := by
  intro L st μ
  refine ⟨fun pc' L' st' μ' h => ?_, fun v μ' h => absurd h (hn _ _ _ _), fun j as pc' L' st' μ' h => absurd h (hn _ _ _ _)⟩
  obtain ⟨b, rfl, hb⟩ := hs L st μ pc' L' st' μ' h
  refine ⟨zeMon.ck b μ, fun h1 hw => ⟨hw, fun v μ'' hm hgo => ?_⟩⟩
  intro p l e R s m args below meth c Q n0 s0 hcx hd hl hn0 hs0 hret hc hs H locs ls hP hS hL hN
  have hm' : zeMon μ μ'' := (zeMon.ck b μ).tr hm
  refine hb (zeCk_b h1) hw p l e R s m args below meth c Q H locs ls _ _ hcx hd hl (by have := hm'.2.1; omega) (by have := hm'.2.2; omega) hP hS hL hN fun ls' hL' hN' => ?_
  exact hgo p l e R s m args below meth c Q n0 s0 hcx hd hl hn0 hs0 hret hc hs H locs ls' hP hS hL' hN'
end
section
/-! SOUND OPS: stack, locals, branches, reads -/
def zeTo (G : zeG) (i : Nat) (μ : zeM) (pc pc' : Nat) (a b : List Value) : Prop := ∀ (p : Program) (l : Launch) (e : Env) (R : Room) (s : State) (m : MethodId) (args : Array Value) (below : List Frame) (meth : Method) (c : Code) (Q : State → Prop) (H : Heap) (locs : List Loc) (ls : Array Slot) (cells slots : Nat),
  zeCx G i p s m args meth c → zeDp i ≤ R.frames → zeLc i ≤ R.locals → cells ≤ R.cells → slots ≤ R.slots → zePic G μ H → va_S (zeA G) s.heap H locs → ls.size = zeNl i →
  W p l e R s m args below meth c H locs cells slots Q (F0 m pc' ls b) → W p l e R s m args below meth c H locs cells slots Q (F0 m pc ls a)
theorem zs_st {G : zeG} {i pc : Nat} {op : zeOp} (hn : ∀ L st μ x, op L st μ ≠ some (.inr x))
    (hs : ∀ L st μ pc' L' st' μ', op L st μ = some (.inl (pc', L', st', μ')) → L' = L ∧ ∃ b, μ' = zeCk b μ ∧ (b = true → zeWf G μ → zeTo G i μ pc pc' (st.map (zeTr G)) (st'.map (zeTr G)))) : zeSnd G i pc op := by
  refine zeSnd_of hn fun L st μ pc' L' st' μ' h => ?_
  obtain ⟨rfl, b, e, hb⟩ := hs L st μ pc' L' st' μ' h
  refine ⟨b, e, fun h1 hw p l e R s m args below meth c Q H locs ls cells slots hcx hd hl hc hs hP hS hL hN K => ?_⟩
  exact hb h1 hw p l e R s m args below meth c Q H locs ls cells slots hcx hd hl hc hs hP hS hL.1 (K ls hL hN)
theorem zeNx_i {n : Nat} {L : zeLo} {st : List Value} {μ : zeM} {r : zeOut} (h : zeNx n L st μ = some r) : r = .inl (n, L, st, μ) := (Option.some.inj h).symm
theorem zeCk_t (μ : zeM) : μ = zeCk true μ := rfl
section ZS
variable {G : zeG} {i pc n : Nat}
theorem zs_Ic {v : Int32} (h : ∀ μ rest, zeTo G i μ pc n rest (.int v :: rest)) : zeSnd G i pc (zoIc v n) := by
  refine zs_st (fun L st μ x e => by cases zeNx_i e) fun L st μ pc' L' st' μ' e => ?_
  cases zeNx_i e
  exact ⟨rfl, true, rfl, fun _ _ => h _ _⟩
theorem zs_K {v : Value} (h : ∀ μ rest, zeTo G i μ pc n rest (zeTr G v :: rest)) : zeSnd G i pc (zoK v n) := by
  refine zs_st (fun L st μ x e => by cases zeNx_i e) fun L st μ pc' L' st' μ' e => ?_
  cases zeNx_i e
  exact ⟨rfl, true, rfl, fun _ _ => h _ _⟩
theorem zs_Lc {v : Int64} (h : ∀ μ rest, zeTo G i μ pc n rest (.long v :: rest)) : zeSnd G i pc (zoLc v n) := by
  refine zs_st (fun L st μ x e => by cases zeNx_i e) fun L st μ pc' L' st' μ' e => ?_
  cases zeNx_i e
  exact ⟨rfl, true, rfl, fun _ _ => h _ _⟩
theorem zs_I2 {f : Int32 → Int32 → Int32} (h : ∀ μ rest x y, zeTo G i μ pc n (.int y :: .int x :: rest) (.int (f x y) :: rest)) : zeSnd G i pc (zoI2 f n) := by
  refine zs_st (fun L st μ x e => ?_) fun L st μ pc' L' st' μ' e => ?_
  · unfold zoI2 at e
    split at e
    · cases zeNx_i e
    · cases e
  · unfold zoI2 at e
    split at e
    · cases zeNx_i e
      exact ⟨rfl, true, rfl, fun _ _ => h _ _ _ _⟩
    · cases e
theorem zs_D2 {f : Int32 → Int32 → Int32} (h : ∀ μ rest x y, ¬ y = 0 → zeTo G i μ pc n (.int y :: .int x :: rest) (.int (f x y) :: rest)) : zeSnd G i pc (zoD2 f n) := by
  refine zs_st (fun L st μ x e => ?_) fun L st μ pc' L' st' μ' e => ?_
  · unfold zoD2 at e
    split at e
    · cases zeNx_i e
    · cases e
  · unfold zoD2 at e
    split at e
    · cases zeNx_i e
      exact ⟨rfl, _, rfl, fun hb _ => h _ _ _ _ (by simpa using hb)⟩
    · cases e
theorem zs_I1 {f : Int32 → Int32} (h : ∀ μ rest x, zeTo G i μ pc n (.int x :: rest) (.int (f x) :: rest)) : zeSnd G i pc (zoI1 f n) := by
  refine zs_st (fun L st μ x e => ?_) fun L st μ pc' L' st' μ' e => ?_
  · unfold zoI1 at e
    split at e
    · cases zeNx_i e
    · cases e
  · unfold zoI1 at e
    split at e
    · cases zeNx_i e
      exact ⟨rfl, true, rfl, fun _ _ => h _ _ _⟩
    · cases e
theorem zs_L2 {f : Int64 → Int64 → Int64} (h : ∀ μ rest x y, zeTo G i μ pc n (.long y :: .long x :: rest) (.long (f x y) :: rest)) : zeSnd G i pc (zoL2 f n) := by
  refine zs_st (fun L st μ x e => ?_) fun L st μ pc' L' st' μ' e => ?_
  · unfold zoL2 at e
    split at e
    · cases zeNx_i e
    · cases e
  · unfold zoL2 at e
    split at e
    · cases zeNx_i e
      exact ⟨rfl, true, rfl, fun _ _ => h _ _ _ _⟩
    · cases e
theorem zs_Lsh {f : Int64 → Int32 → Int64} (h : ∀ μ rest x y, zeTo G i μ pc n (.int y :: .long x :: rest) (.long (f x y) :: rest)) : zeSnd G i pc (zoLsh f n) := by
  refine zs_st (fun L st μ x e => ?_) fun L st μ pc' L' st' μ' e => ?_
  · unfold zoLsh at e
    split at e
    · cases zeNx_i e
    · cases e
  · unfold zoLsh at e
    split at e
    · cases zeNx_i e
      exact ⟨rfl, true, rfl, fun _ _ => h _ _ _ _⟩
    · cases e
theorem zs_lcmp (hd : decode (zeCod i) pc = .ok (.lcmp, 1)) (hn : pc + 1 = n) : zeSnd G i pc (zoLcmp n) := by
  subst hn
  refine zs_st (fun L st μ x e => ?_) fun L st μ pc' L' st' μ' e => ?_
  · unfold zoLcmp at e
    split at e
    · cases zeNx_i e
    · cases e
  · unfold zoLcmp at e
    split at e
    · cases zeNx_i e
      exact ⟨rfl, true, rfl, fun _ _ p l e R s m args below meth c Q H locs ls cells slots hcx _ _ _ _ _ _ _ K => W.lcmp hcx.1 hcx.2.1 hd K⟩
    · cases e
theorem zs_dup (hd : decode (zeCod i) pc = .ok (.dup, 1)) (hn : pc + 1 = n) : zeSnd G i pc (zoDup n) := by
  subst hn
  refine zs_st (fun L st μ x e => ?_) fun L st μ pc' L' st' μ' e => ?_
  · unfold zoDup at e
    split at e
    · rename_i v st'
      cases hv : zeCat1 v <;> rw [hv] at e
      · cases e
      · cases zeNx_i e
    · cases e
  · unfold zoDup at e
    split at e
    · rename_i v st'
      cases hv : zeCat1 v <;> rw [hv] at e
      · cases e
      · cases zeNx_i e
        exact ⟨rfl, true, rfl, fun _ _ p l e R s m args below meth c Q H locs ls cells slots hcx _ _ _ _ _ _ _ K => lv_dup hcx.1 hcx.2.1 hd (zeTr_cat hcx.gv hv) K⟩
    · cases e
theorem zs_pop (hd : decode (zeCod i) pc = .ok (.pop, 1)) (hn : pc + 1 = n) : zeSnd G i pc (zoPop n) := by
  subst hn
  refine zs_st (fun L st μ x e => ?_) fun L st μ pc' L' st' μ' e => ?_
  · unfold zoPop at e
    split at e
    · rename_i v st'
      cases hv : zeCat1 v <;> rw [hv] at e
      · cases e
      · cases zeNx_i e
    · cases e
  · unfold zoPop at e
    split at e
    · rename_i v st'
      cases hv : zeCat1 v <;> rw [hv] at e
      · cases e
      · cases zeNx_i e
        exact ⟨rfl, true, rfl, fun _ _ p l e R s m args below meth c Q H locs ls cells slots hcx _ _ _ _ _ _ _ K => lv_pop hcx.1 hcx.2.1 hd (zeTr_cat hcx.gv hv) K⟩
    · cases e
theorem zs_dup2 (hd : decode (zeCod i) pc = .ok (.dup2, 1)) (hn : pc + 1 = n) : zeSnd G i pc (zoDup2 n) := by
  subst hn
  refine zs_st (fun L st μ x e => ?_) fun L st μ pc' L' st' μ' e => ?_
  · unfold zoDup2 at e
    split at e
    · rename_i v w st'
      cases hv : (zeCat1 v && zeCat1 w) <;> rw [hv] at e
      · cases e
      · cases zeNx_i e
    · cases e
  · unfold zoDup2 at e
    split at e
    · rename_i v w st'
      cases hv : (zeCat1 v && zeCat1 w) <;> rw [hv] at e
      · cases e
      · cases zeNx_i e
        rw [Bool.and_eq_true] at hv
        exact ⟨rfl, true, rfl, fun _ _ p l e R s m args below meth c Q H locs ls cells slots hcx _ _ _ _ _ _ _ K => lv_dup2_11 hcx.1 hcx.2.1 hd (zeTr_cat hcx.gv hv.1) (zeTr_cat hcx.gv hv.2) K⟩
    · cases e
theorem zs_dup_x1 (hd : decode (zeCod i) pc = .ok (.dup_x1, 1)) (hn : pc + 1 = n) : zeSnd G i pc (zoDupX1 n) := by
  subst hn
  refine zs_st (fun L st μ x e => ?_) fun L st μ pc' L' st' μ' e => ?_
  · unfold zoDupX1 at e
    split at e
    · rename_i v w st'
      cases hv : (zeCat1 v && zeCat1 w) <;> rw [hv] at e
      · cases e
      · cases zeNx_i e
    · cases e
  · unfold zoDupX1 at e
    split at e
    · rename_i v w st'
      cases hv : (zeCat1 v && zeCat1 w) <;> rw [hv] at e
      · cases e
      · cases zeNx_i e
        rw [Bool.and_eq_true] at hv
        exact ⟨rfl, true, rfl, fun _ _ p l e R s m args below meth c Q H locs ls cells slots hcx _ _ _ _ _ _ _ K => lv_dup_x1 hcx.1 hcx.2.1 hd (zeTr_cat hcx.gv hv.1) (zeTr_cat hcx.gv hv.2) K⟩
    · cases e
end ZS
end
section
/-! SOUND OPS: locals, branches -/
section ZL
variable {G : zeG} {i pc n t k : Nat}
/-- an op on the locals alone -/
theorem zs_iload (hd : decode (zeCod i) pc = .ok (.iload k, 2)) (hn : pc + 2 = n) : zeSnd G i pc (zoIl k n) := by
  subst hn
  refine zeSnd_of (fun L st μ x e => ?_) fun L st μ pc' L' st' μ' e => ?_
  · unfold zoIl at e
    split at e
    · cases zeNx_i e
    · cases e
  · unfold zoIl at e
    split at e
    · rename_i x hx
      cases zeNx_i e
      exact ⟨true, rfl, fun _ _ p l e R s m args below meth c Q H locs ls cells slots hcx _ _ _ _ _ _ hL hN K => lv_iload hcx.1 hcx.2.1 hd (hL.at hx) (K ls hL hN)⟩
    · cases e
theorem zs_iload_n {f : Fin 4} (hd : decode (zeCod i) pc = .ok (.iload_n f, 1)) (hf : (f : Nat) = k) (hn : pc + 1 = n) : zeSnd G i pc (zoIl k n) := by
  subst hn
  refine zeSnd_of (fun L st μ x e => ?_) fun L st μ pc' L' st' μ' e => ?_
  · unfold zoIl at e
    split at e
    · cases zeNx_i e
    · cases e
  · unfold zoIl at e
    split at e
    · rename_i x hx
      cases zeNx_i e
      exact ⟨true, rfl, fun _ _ p l e R s m args below meth c Q H locs ls cells slots hcx _ _ _ _ _ _ hL hN K => lv_iload_n hcx.1 hcx.2.1 hd hf (hL.at hx) (K ls hL hN)⟩
    · cases e
theorem zs_lload_n {f : Fin 4} (hd : decode (zeCod i) pc = .ok (.lload_n f, 1)) (hf : (f : Nat) = k) (hn : pc + 1 = n) : zeSnd G i pc (zoLl k n) := by
  subst hn
  refine zeSnd_of (fun L st μ x e => ?_) fun L st μ pc' L' st' μ' e => ?_
  · unfold zoLl at e
    split at e
    · cases zeNx_i e
    · cases e
  · unfold zoLl at e
    split at e
    · rename_i x hx
      cases zeNx_i e
      exact ⟨true, rfl, fun _ _ p l e R s m args below meth c Q H locs ls cells slots hcx _ _ _ _ _ _ hL hN K => lv_lload_n hcx.1 hcx.2.1 hd hf (hL.at hx) (K ls hL hN)⟩
    · cases e
theorem zs_aload_n {f : Fin 4} (hd : decode (zeCod i) pc = .ok (.aload_n f, 1)) (hf : (f : Nat) = k) (hn : pc + 1 = n) : zeSnd G i pc (zoAl k n) := by
  subst hn
  refine zeSnd_of (fun L st μ x e => ?_) fun L st μ pc' L' st' μ' e => ?_
  · unfold zoAl at e
    split at e
    · cases zeNx_i e
    · cases e
  · unfold zoAl at e
    split at e
    · rename_i x hx
      cases zeNx_i e
      refine ⟨true, rfl, fun _ _ p l e R s m args below meth c Q H locs ls cells slots hcx _ _ _ _ _ _ hL hN K => ?_⟩
      have h1 := hL.at hx
      have h2 := K ls hL hN
      obtain ⟨r, hr⟩ := zeTr_rf hcx.gv x
      rw [List.map_cons] at h2
      rw [hr] at h1 h2
      cases r with
      | none => exact lv_aload_nN hcx.1 hcx.2.1 hd hf h1 h2
      | some a => exact lv_aload_n hcx.1 hcx.2.1 hd hf h1 h2
    · cases e
theorem zs_aload (hd : decode (zeCod i) pc = .ok (.aload k, 2)) (hn : pc + 2 = n) : zeSnd G i pc (zoAl k n) := by
  subst hn
  refine zeSnd_of (fun L st μ x e => ?_) fun L st μ pc' L' st' μ' e => ?_
  · unfold zoAl at e
    split at e
    · cases zeNx_i e
    · cases e
  · unfold zoAl at e
    split at e
    · rename_i x hx
      cases zeNx_i e
      refine ⟨true, rfl, fun _ _ p l e R s m args below meth c Q H locs ls cells slots hcx _ _ _ _ _ _ hL hN K => ?_⟩
      have h1 := hL.at hx
      have h2 := K ls hL hN
      obtain ⟨r, hr⟩ := zeTr_rf hcx.gv x
      rw [List.map_cons] at h2
      rw [hr] at h1 h2
      cases r with
      | none => exact lv_aloadN hcx.1 hcx.2.1 hd h1 h2
      | some a => exact lv_aload hcx.1 hcx.2.1 hd h1 h2
    · cases e
theorem zs_istore (hg : zeLg i = false) (hk : k < zeNl i) (hd : decode (zeCod i) pc = .ok (.istore k, 2)) (hn : pc + 2 = n) : zeSnd G i pc (zoIs k n) := by
  subst hn
  refine zeSnd_of (fun L st μ x e => ?_) fun L st μ pc' L' st' μ' e => ?_
  · unfold zoIs at e
    split at e
    · cases zeNx_i e
    · cases e
  · unfold zoIs at e
    split at e
    · rename_i x st'
      cases zeNx_i e
      exact ⟨true, rfl, fun _ _ p l e R s m args below meth c Q H locs ls cells slots hcx _ _ _ _ _ _ hL hN K => lv_istore hcx.1 hcx.2.1 hd hL hk rfl fun ls' h' => K ls' (zeLH.set (v := .int x) hcx.gv hN hg h') (hN.set rfl)⟩
    · cases e
theorem zs_istore_n {f : Fin 4} (hg : zeLg i = false) (hk : k < zeNl i) (hd : decode (zeCod i) pc = .ok (.istore_n f, 1)) (hf : (f : Nat) = k) (hn : pc + 1 = n) : zeSnd G i pc (zoIs k n) := by
  subst hn
  refine zeSnd_of (fun L st μ x e => ?_) fun L st μ pc' L' st' μ' e => ?_
  · unfold zoIs at e
    split at e
    · cases zeNx_i e
    · cases e
  · unfold zoIs at e
    split at e
    · rename_i x st'
      cases zeNx_i e
      exact ⟨true, rfl, fun _ _ p l e R s m args below meth c Q H locs ls cells slots hcx _ _ _ _ _ _ hL hN K => lv_istore_n hcx.1 hcx.2.1 hd hf hL hk rfl fun ls' h' => K ls' (zeLH.set (v := .int x) hcx.gv hN hg h') (hN.set rfl)⟩
    · cases e
theorem zs_astore_n {f : Fin 4} (hg : zeLg i = false) (hk : k < zeNl i) (hd : decode (zeCod i) pc = .ok (.astore_n f, 1)) (hf : (f : Nat) = k) (hn : pc + 1 = n) : zeSnd G i pc (zoAs k n) := by
  subst hn
  refine zeSnd_of (fun L st μ x e => ?_) fun L st μ pc' L' st' μ' e => ?_
  · unfold zoAs at e
    split at e
    · cases zeNx_i e
    · cases e
  · unfold zoAs at e
    split at e
    · rename_i x st'
      cases zeNx_i e
      refine ⟨true, rfl, fun _ _ p l e R s m args below meth c Q H locs ls cells slots hcx _ _ _ _ _ _ hL hN K => ?_⟩
      have h3 : ∀ ls', lv_has ls' (zeNl i) ((k, zeTr G (.ref x)) :: (zeLl G 0 L).filter (fun q => !(q.1 == k) && !(q.1 + 1 == k && q.2.category == 2))) → _ := fun ls' h' => K ls' (zeLH.set (v := .ref x) hcx.gv hN hg h') (hN.set rfl)
      obtain ⟨r, hr⟩ := zeTr_rf hcx.gv x
      rw [List.map_cons]
      rw [hr] at h3 ⊢
      cases r with
      | none => exact lv_astore_nN hcx.1 hcx.2.1 hd hf hL hk rfl h3
      | some a => exact lv_astore_n hcx.1 hcx.2.1 hd hf hL hk rfl h3
    · cases e
theorem zs_iinc {c : Int} {v : Int32} (hg : zeLg i = false) (hk : k < zeNl i) (hd : decode (zeCod i) pc = .ok (.iinc k c, 3)) (hv : Int32.ofInt c = v) (hn : pc + 3 = n) : zeSnd G i pc (zoInc k v n) := by
  subst hn
  subst hv
  refine zeSnd_of (fun L st μ x e => ?_) fun L st μ pc' L' st' μ' e => ?_
  · unfold zoInc at e
    split at e
    · cases zeNx_i e
    · cases e
  · unfold zoInc at e
    split at e
    · rename_i x hx
      cases zeNx_i e
      refine ⟨true, rfl, fun _ _ p l e R s m args below meth c Q H locs ls cells slots hcx _ _ _ _ _ _ hL hN K => ?_⟩
      obtain ⟨j, hj⟩ := List.getElem?_of_mem ((zeLl_mem G L 0 k _).mpr ⟨k, _, (Nat.zero_add k).symm, hx, rfl⟩)
      exact lv_iinc (x := x) hcx.1 hcx.2.1 hd hL hj rfl hk rfl fun ls' h' => K ls' (zeLH.set (v := .int _) hcx.gv hN hg h') (hN.set rfl)
    · cases e
theorem zs_goto {off : Int} (hd : decode (zeCod i) pc = .ok (.goto off, 3)) (ht : (pc : Int) + off = (t : Int)) : zeSnd G i pc (zoGo t) := by
  refine zs_st (fun L st μ x e => by cases zeNx_i e) fun L st μ pc' L' st' μ' e => ?_
  cases zeNx_i e
  exact ⟨rfl, true, rfl, fun _ _ p l e R s m args below meth c Q H locs ls cells slots hcx _ _ _ _ _ _ _ K => lv_goto hcx.1 hcx.2.1 hd ht K⟩
/-- a branch: both ways -/
theorem zeTo_if {μ : zeM} {P : Prop} [Decidable P] {a b : List Value} (h : ∀ (p : Program) (l : Launch) (e : Env) (R : Room) (s : State) (m : MethodId) (args : Array Value) (below : List Frame) (meth : Method) (c : Code) (Q : State → Prop) (H : Heap) (locs : List Loc) (ls : Array Slot) (cells slots : Nat), zeCx G i p s m args meth c → (P → W p l e R s m args below meth c H locs cells slots Q (F0 m t ls b)) → (¬ P → W p l e R s m args below meth c H locs cells slots Q (F0 m n ls b)) → W p l e R s m args below meth c H locs cells slots Q (F0 m pc ls a)) : zeTo G i μ pc (if P then t else n) a b := by
  intro p l e R s m args below meth c Q H locs ls cells slots hcx _ _ _ _ _ _ _ K
  refine h p l e R s m args below meth c Q H locs ls cells slots hcx (fun hP => ?_) (fun hP => ?_)
  · rwa [if_pos hP] at K
  · rwa [if_neg hP] at K
theorem zs_if_eq {off : Int} (hd : decode (zeCod i) pc = .ok (.ifCond .eq off, 3)) (ht : (pc : Int) + off = (t : Int)) (hn : pc + 3 = n) : zeSnd G i pc (zoZeq t n) := by
  subst hn
  refine zs_st (fun L st μ x e => ?_) fun L st μ pc' L' st' μ' e => ?_
  · unfold zoZeq at e
    split at e
    · cases zeNx_i e
    · cases e
  · unfold zoZeq at e
    split at e
    · cases zeNx_i e
      exact ⟨rfl, true, rfl, fun _ _ => zeTo_if fun p l e R s m args below meth c Q H locs ls cells slots hcx kt kf => lv_if_eq hcx.1 hcx.2.1 hd ht kt kf⟩
    · cases e
theorem zs_if_lt {off : Int} (hd : decode (zeCod i) pc = .ok (.ifCond .lt off, 3)) (ht : (pc : Int) + off = (t : Int)) (hn : pc + 3 = n) : zeSnd G i pc (zoZlt t n) := by
  subst hn
  refine zs_st (fun L st μ x e => ?_) fun L st μ pc' L' st' μ' e => ?_
  · unfold zoZlt at e
    split at e
    · cases zeNx_i e
    · cases e
  · unfold zoZlt at e
    split at e
    · cases zeNx_i e
      exact ⟨rfl, true, rfl, fun _ _ => zeTo_if fun p l e R s m args below meth c Q H locs ls cells slots hcx kt kf => lv_if_lt hcx.1 hcx.2.1 hd ht kt kf⟩
    · cases e
theorem zs_if_le {off : Int} (hd : decode (zeCod i) pc = .ok (.ifCond .le off, 3)) (ht : (pc : Int) + off = (t : Int)) (hn : pc + 3 = n) : zeSnd G i pc (zoZle t n) := by
  subst hn
  refine zs_st (fun L st μ x e => ?_) fun L st μ pc' L' st' μ' e => ?_
  · unfold zoZle at e
    split at e
    · cases zeNx_i e
    · cases e
  · unfold zoZle at e
    split at e
    · cases zeNx_i e
      exact ⟨rfl, true, rfl, fun _ _ => zeTo_if fun p l e R s m args below meth c Q H locs ls cells slots hcx kt kf => lv_if_le hcx.1 hcx.2.1 hd ht kt kf⟩
    · cases e
theorem zs_if_ge {off : Int} (hd : decode (zeCod i) pc = .ok (.ifCond .ge off, 3)) (ht : (pc : Int) + off = (t : Int)) (hn : pc + 3 = n) : zeSnd G i pc (zoZge t n) := by
  subst hn
  refine zs_st (fun L st μ x e => ?_) fun L st μ pc' L' st' μ' e => ?_
  · unfold zoZge at e
    split at e
    · cases zeNx_i e
    · cases e
  · unfold zoZge at e
    split at e
    · cases zeNx_i e
      exact ⟨rfl, true, rfl, fun _ _ => zeTo_if fun p l e R s m args below meth c Q H locs ls cells slots hcx kt kf => lv_if_ge hcx.1 hcx.2.1 hd ht kt kf⟩
    · cases e
theorem zs_if_gt {off : Int} (hd : decode (zeCod i) pc = .ok (.ifCond .gt off, 3)) (ht : (pc : Int) + off = (t : Int)) (hn : pc + 3 = n) : zeSnd G i pc (zoZgt t n) := by
  subst hn
  refine zs_st (fun L st μ x e => ?_) fun L st μ pc' L' st' μ' e => ?_
  · unfold zoZgt at e
    split at e
    · cases zeNx_i e
    · cases e
  · unfold zoZgt at e
    split at e
    · cases zeNx_i e
      exact ⟨rfl, true, rfl, fun _ _ => zeTo_if fun p l e R s m args below meth c Q H locs ls cells slots hcx kt kf => lv_if_gt hcx.1 hcx.2.1 hd ht kt kf⟩
    · cases e
theorem zs_if_ne {off : Int} (hd : decode (zeCod i) pc = .ok (.ifCond .ne off, 3)) (ht : (pc : Int) + off = (t : Int)) (hn : pc + 3 = n) : zeSnd G i pc (zoZeq n t) := by
  subst hn
  refine zs_st (fun L st μ x e => ?_) fun L st μ pc' L' st' μ' e => ?_
  · unfold zoZeq at e
    split at e
    · cases zeNx_i e
    · cases e
  · unfold zoZeq at e
    split at e
    · cases zeNx_i e
      exact ⟨rfl, true, rfl, fun _ _ => zeTo_if fun p l e R s m args below meth c Q H locs ls cells slots hcx kt kf => lv_if_ne hcx.1 hcx.2.1 hd ht kf kt⟩
    · cases e
theorem zs_icmp_eq {off : Int} (hd : decode (zeCod i) pc = .ok (.if_icmp .eq off, 3)) (ht : (pc : Int) + off = (t : Int)) (hn : pc + 3 = n) : zeSnd G i pc (zoCeq t n) := by
  subst hn
  refine zs_st (fun L st μ x e => ?_) fun L st μ pc' L' st' μ' e => ?_
  · unfold zoCeq at e
    split at e
    · cases zeNx_i e
    · cases e
  · unfold zoCeq at e
    split at e
    · cases zeNx_i e
      exact ⟨rfl, true, rfl, fun _ _ => zeTo_if fun p l e R s m args below meth c Q H locs ls cells slots hcx kt kf => lv_icmp_eq hcx.1 hcx.2.1 hd ht kt kf⟩
    · cases e
theorem zs_icmp_lt {off : Int} (hd : decode (zeCod i) pc = .ok (.if_icmp .lt off, 3)) (ht : (pc : Int) + off = (t : Int)) (hn : pc + 3 = n) : zeSnd G i pc (zoClt t n) := by
  subst hn
  refine zs_st (fun L st μ x e => ?_) fun L st μ pc' L' st' μ' e => ?_
  · unfold zoClt at e
    split at e
    · cases zeNx_i e
    · cases e
  · unfold zoClt at e
    split at e
    · cases zeNx_i e
      exact ⟨rfl, true, rfl, fun _ _ => zeTo_if fun p l e R s m args below meth c Q H locs ls cells slots hcx kt kf => lv_icmp_lt hcx.1 hcx.2.1 hd ht kt kf⟩
    · cases e
theorem zs_icmp_le {off : Int} (hd : decode (zeCod i) pc = .ok (.if_icmp .le off, 3)) (ht : (pc : Int) + off = (t : Int)) (hn : pc + 3 = n) : zeSnd G i pc (zoCle t n) := by
  subst hn
  refine zs_st (fun L st μ x e => ?_) fun L st μ pc' L' st' μ' e => ?_
  · unfold zoCle at e
    split at e
    · cases zeNx_i e
    · cases e
  · unfold zoCle at e
    split at e
    · cases zeNx_i e
      exact ⟨rfl, true, rfl, fun _ _ => zeTo_if fun p l e R s m args below meth c Q H locs ls cells slots hcx kt kf => lv_icmp_le hcx.1 hcx.2.1 hd ht kt kf⟩
    · cases e
theorem zs_icmp_ge {off : Int} (hd : decode (zeCod i) pc = .ok (.if_icmp .ge off, 3)) (ht : (pc : Int) + off = (t : Int)) (hn : pc + 3 = n) : zeSnd G i pc (zoCge t n) := by
  subst hn
  refine zs_st (fun L st μ x e => ?_) fun L st μ pc' L' st' μ' e => ?_
  · unfold zoCge at e
    split at e
    · cases zeNx_i e
    · cases e
  · unfold zoCge at e
    split at e
    · cases zeNx_i e
      exact ⟨rfl, true, rfl, fun _ _ => zeTo_if fun p l e R s m args below meth c Q H locs ls cells slots hcx kt kf => lv_icmp_ge hcx.1 hcx.2.1 hd ht kt kf⟩
    · cases e
theorem zs_icmp_gt {off : Int} (hd : decode (zeCod i) pc = .ok (.if_icmp .gt off, 3)) (ht : (pc : Int) + off = (t : Int)) (hn : pc + 3 = n) : zeSnd G i pc (zoCgt t n) := by
  subst hn
  refine zs_st (fun L st μ x e => ?_) fun L st μ pc' L' st' μ' e => ?_
  · unfold zoCgt at e
    split at e
    · cases zeNx_i e
    · cases e
  · unfold zoCgt at e
    split at e
    · cases zeNx_i e
      exact ⟨rfl, true, rfl, fun _ _ => zeTo_if fun p l e R s m args below meth c Q H locs ls cells slots hcx kt kf => lv_icmp_gt hcx.1 hcx.2.1 hd ht kt kf⟩
    · cases e
theorem zs_icmp_ne {off : Int} (hd : decode (zeCod i) pc = .ok (.if_icmp .ne off, 3)) (ht : (pc : Int) + off = (t : Int)) (hn : pc + 3 = n) : zeSnd G i pc (zoCeq n t) := by
  subst hn
  refine zs_st (fun L st μ x e => ?_) fun L st μ pc' L' st' μ' e => ?_
  · unfold zoCeq at e
    split at e
    · cases zeNx_i e
    · cases e
  · unfold zoCeq at e
    split at e
    · cases zeNx_i e
      exact ⟨rfl, true, rfl, fun _ _ => zeTo_if fun p l e R s m args below meth c Q H locs ls cells slots hcx kt kf => lv_icmp_ne hcx.1 hcx.2.1 hd ht kf kt⟩
    · cases e
end ZL
end
section
/-! SOUND OPS: a long's local, switches, reads of fields and arrays -/
section ZR
variable {G : zeG} {i pc n t k : Nat}
theorem zeGet_lt : ∀ {L : zeLo} {j : Nat} {w : Value}, zeGet L j = some w → j < L.length
  | [], j, w, h => by simp [zeGet] at h
  | a :: l, 0, w, h => by simp
  | a :: l, j + 1, w, h => by
    have := zeGet_lt (L := l) (j := j) (w := w) h
    simp
    omega
theorem zeSet_len : ∀ (L : zeLo) (k : Nat) (x : Option Value), (zeSet L k x).length = L.length
  | [], _, _ => rfl
  | _ :: l, 0, _ => rfl
  | _ :: l, k + 1, x => by simp [zeSet, zeSet_len l k x]
theorem zs_lstore_n {f : Fin 4} (hg : zeLg i = true) (hk : k + 1 < zeNl i) (hd : decode (zeCod i) pc = .ok (.lstore_n f, 1)) (hf : (f : Nat) = k) (hn : pc + 1 = n) : zeSnd G i pc (zoLs k n) := by
  subst hn
  refine zeSnd_of (fun L st μ x e => ?_) fun L st μ pc' L' st' μ' e => ?_
  · unfold zoLs at e
    split at e
    · cases hv : zeNoL L k <;> rw [hv] at e
      · cases e
      · cases zeNx_i e
    · cases e
  · unfold zoLs at e
    split at e
    · rename_i x st'
      cases hv : zeNoL L k <;> rw [hv] at e
      · cases e
      · cases zeNx_i e
        refine ⟨true, rfl, fun _ _ p l e R s m args below meth c Q H locs ls cells slots hcx _ _ _ _ _ _ hL hN K => ?_⟩
        refine lv_lstore_n hcx.1 hcx.2.1 hd hf hL hk rfl fun ls' h' => K ls' ⟨h'.1, h'.2.1, fun q hq => ?_⟩ (fun h => by rw [hg] at h; cases h)
        obtain ⟨j, w, e1, e2, e3⟩ := (zeLl_mem G _ 0 q.1 q.2).mp hq
        rw [zeGet_set] at e2
        split at e2
        · cases e2
        · rename_i hj
          have hl := zeGet_lt e2
          rw [zeGet_set] at e2
          rw [zeSet_len] at hj hl
          apply h'.2.2
          split at e2
          · cases e2
            obtain ⟨q1, q2⟩ := q
            dsimp only at e1 e3
            subst e3
            rename_i hjk
            rw [show q1 = k by omega]
            exact List.mem_cons_self
          · rename_i hjk
            have n1 : j ≠ k := fun e => hjk ⟨e, by omega⟩
            have n2 : j ≠ k + 1 := fun e => hj ⟨e, by omega⟩
            refine List.mem_cons_of_mem _ (List.mem_filter.mpr ⟨(zeLl_mem G L 0 q.1 q.2).mpr ⟨j, w, e1, e2, e3⟩, ?_⟩)
            have h1 : ¬ q.1 = k := by omega
            have h2 : ¬ q.1 = k + 1 := by omega
            by_cases h3 : q.1 + 1 = k
            · have : zeCat1 w = true := by
                subst h3
                rw [show q.1 = j by omega] at hv
                simp only [zeNoL, e2] at hv
                exact hv
              have hc : q.2.category = 1 := by rw [e3]; exact zeTr_cat hcx.gv this
              simp [h1, h2, hc]
            · simp [h1, h2, h3]
    · cases e
/-- a switch -/
theorem zeSw_at {x : Int32} {d : Nat} : ∀ {l : List (Int32 × Nat)} {t : Nat}, (∀ q ∈ l, x ≠ q.1) ∧ t = d ∨ (∃ (j : Nat) (k : Int32), l[j]? = some (k, t) ∧ x = k ∧ ∀ j' : Nat, j' < j → ∀ q : Int32 × Nat, l[j']? = some q → x ≠ q.1) → zeSw x d l = t
  | [], t, h => by
    rcases h with ⟨-, rfl⟩ | ⟨j, k, h, -⟩
    · rfl
    · simp at h
  | (k0, t0) :: l, t, h => by
    unfold zeSw
    rcases h with ⟨h1, rfl⟩ | ⟨j, k, h1, h2, h3⟩
    · rw [if_neg (h1 _ List.mem_cons_self)]
      exact zeSw_at (Or.inl ⟨fun q hq => h1 q (List.mem_cons_of_mem _ hq), rfl⟩)
    · cases j with
      | zero =>
        simp at h1
        rw [if_pos (by rw [h2, h1.1]), h1.2]
      | succ j =>
        rw [if_neg (h3 0 (by omega) _ rfl)]
        exact zeSw_at (Or.inr ⟨j, k, by simpa using h1, h2, fun j' hj' q hq => h3 (j' + 1) (by omega) q (by simpa using hq)⟩)
theorem zs_Sw {l : List (Int32 × Nat)} {d : Nat} (h : ∀ μ rest x, zeTo G i μ pc (zeSw x d l) (.int x :: rest) rest) : zeSnd G i pc (zoSw l d) := by
  refine zs_st (fun L st μ x e => ?_) fun L st μ pc' L' st' μ' e => ?_
  · unfold zoSw at e
    split at e
    · cases zeNx_i e
    · cases e
  · unfold zoSw at e
    split at e
    · cases zeNx_i e
      exact ⟨rfl, true, rfl, fun _ _ => h _ _ _⟩
    · cases e
theorem zs_tswitch {lo hi df : Int} {offs : Array Int} {len d : Nat} {l : List (Int32 × Nat)} (hd : decode (zeCod i) pc = .ok (.tableswitch df lo hi offs, len)) (hdf : (pc : Int) + df = (d : Int)) (hlen : l.length = offs.size ∧ (offs.size : Int) = hi - lo + 1)
    (hl : ∀ j, j < offs.size → ∃ k t off, l[j]? = some (k, t) ∧ k.toInt = lo + j ∧ offs[j]? = some off ∧ (pc : Int) + off = (t : Int)) : zeSnd G i pc (zoSw l d) := by
  refine zs_Sw fun μ rest x p l' e R s m args below meth c Q H locs ls cells slots hcx _ _ _ _ _ _ _ K => ?_
  by_cases h : x.toInt < lo ∨ hi < x.toInt
  · rw [zeSw_at (t := d) (Or.inl ⟨fun q hq e => ?_, rfl⟩)] at K
    · exact lv_tableOut hcx.1 hcx.2.1 hd h hdf K
    · obtain ⟨j, hj⟩ := List.getElem?_of_mem hq
      have hjl : j < offs.size := by rw [← hlen.1]; exact (List.getElem?_eq_some_iff.mp hj).1
      obtain ⟨k, t, off, g1, g2, g3, g4⟩ := hl j hjl
      rw [hj] at g1
      cases g1
      rw [e] at h
      dsimp only at h
      omega
  · have h1 : ¬ x.toInt < lo := fun q => h (Or.inl q)
    have h2 : ¬ hi < x.toInt := fun q => h (Or.inr q)
    have hjl : (x.toInt - lo).toNat < offs.size := by omega
    obtain ⟨k, t, off, g1, g2, g3, g4⟩ := hl _ hjl
    rw [zeSw_at (t := t) (Or.inr ⟨_, k, g1, ?_, fun j' hj' q hq e => ?_⟩)] at K
    · exact lv_tableIn hcx.1 hcx.2.1 hd h1 h2 g3 g4 K
    · apply Int32.toInt_inj.mp
      omega
    · obtain ⟨k', t', off', f1, f2, f3, f4⟩ := hl j' (by omega)
      rw [hq] at f1
      cases f1
      rw [e] at hj' h1
      dsimp only at hj' h1
      omega
/-- a lookupswitch of two keys -/
theorem zs_lswitch2 {df : Int} {a1 o1 a2 o2 : Int} {len d t1 t2 : Nat} {k1 k2 : Int32} (hd : decode (zeCod i) pc = .ok (.lookupswitch df #[(a1, o1), (a2, o2)], len)) (hk : k1.toInt = a1 ∧ k2.toInt = a2 ∧ a1 < a2) (h0 : (pc : Int) + df = (d : Int)) (h1 : (pc : Int) + o1 = (t1 : Int)) (h2 : (pc : Int) + o2 = (t2 : Int)) : zeSnd G i pc (zoSw [(k1, t1), (k2, t2)] d) := by
  refine zs_Sw fun μ rest x p l' e R s m args below meth c Q H locs ls cells slots hcx _ _ _ _ _ _ _ K => ?_
  simp only [zeSw] at K
  have hp : ((#[(a1, o1), (a2, o2)] : Array (Int × Int)).toList.zip ((#[(a1, o1), (a2, o2)] : Array (Int × Int)).toList.drop 1)).all (fun (a, next) => a.1 < next.1) = true := by
    simp [hk.2.2]
  by_cases c1 : x = k1
  · rw [if_pos c1] at K
    exact lv_lookup hcx.1 hcx.2.1 hd hp (by rw [c1, hk.1]; simp [Op.lookupswitch.offset]) h1 K
  · rw [if_neg c1] at K
    by_cases c2 : x = k2
    · rw [if_pos c2] at K
      exact lv_lookup hcx.1 hcx.2.1 hd hp (by rw [show (#[(a1, o1), (a2, o2)] : Array (Int × Int)).toList = [(a1, o1), (a2, o2)] from rfl, lv_osw c1 hk.1, c2, hk.2.1]; simp [Op.lookupswitch.offset]) h2 K
    · rw [if_neg c2] at K
      exact lv_lookup hcx.1 hcx.2.1 hd hp (by rw [show (#[(a1, o1), (a2, o2)] : Array (Int × Int)).toList = [(a1, o1), (a2, o2)] from rfl, lv_osw c1 hk.1, lv_osw c2 hk.2.1]; simp [Op.lookupswitch.offset]) h0 K
end ZR
end
section
/-! SOUND OPS: fields and arrays, read -/
theorem zeWf.new {G : zeG} {μ : zeM} (hw : zeWf G μ) {a : Nat} (h0 : 0 < zeKd μ a) (h : zeKd μ a < 100) : 16 ≤ a ∧ a < 16 + zeN μ := by
  refine ⟨?_, (hw.2.2.1 a h0).1⟩
  rcases Nat.lt_or_ge a 16 with h1 | h1
  · rcases hw.2.2.2.2 a h1 with h3 | h3 <;> omega
  · exact h1
theorem zeCellR_obj (G : zeG) {kd ln : Nat} {r : Nat → Option Nat} {f : Nat → Int32} {g : Nat → Int64} {ci : Nat} (h : kd = ci + 1) (hc : ci < 39) : zeCellR G kd ln r f g = .inr (ci, zeFs G r f 0 (zeFL ci)) := by
  unfold zeCellR
  rw [h, if_pos (by omega)]
  rfl
theorem zeCellR_i (G : zeG) {kd ln : Nat} {r : Nat → Option Nat} {f : Nat → Int32} {g : Nat → Int64} {t : Nat} (h : kd = 40 + t) (h5 : t ≠ 5) (h1 : t ≠ 1) : zeCellR G kd ln r f g = .inl (zeCA G t, ln, .inl f) := by
  unfold zeCellR zeArrR
  rw [h, if_neg (by omega), show 40 + t - 40 = t by omega, if_neg h5, if_neg h1]
theorem zeCellR_l (G : zeG) {kd ln : Nat} {r : Nat → Option Nat} {f : Nat → Int32} {g : Nat → Int64} (h : kd = 41) : zeCellR G kd ln r f g = .inl (zeCA G 1, ln, .inr (.inl g)) := by
  subst h
  rfl
theorem zeCellR_q (G : zeG) {kd ln : Nat} {r : Nat → Option Nat} {f : Nat → Int32} {g : Nat → Int64} (h : kd = 45) : zeCellR G kd ln r f g = .inl (zeCA G 5, ln, .inr (.inr (.inr (.inr (fun j => (r j).map (zeAd G)))))) := by
  subst h
  rfl
theorem zeCell_obj (G : zeG) {μ : zeM} {a ci : Nat} (h : zeKd μ a = ci + 1) (hc : ci < 39) : zeCell G μ a = .inr (ci, zeFs G (zeRm μ a) (zeIm μ a) 0 (zeFL ci)) := zeCellR_obj G h hc
theorem zeCell_i (G : zeG) {μ : zeM} {a t : Nat} (h : zeKd μ a = 40 + t) (h5 : t ≠ 5) (h1 : t ≠ 1) : zeCell G μ a = .inl (zeCA G t, zeLn μ a, .inl (zeIm μ a)) := zeCellR_i G h h5 h1
theorem zeCell_l (G : zeG) {μ : zeM} {a : Nat} (h : zeKd μ a = 41) : zeCell G μ a = .inl (zeCA G 1, zeLn μ a, .inr (.inl (zeLm μ a))) := zeCellR_l G h
theorem zeCell_q (G : zeG) {μ : zeM} {a : Nat} (h : zeKd μ a = 45) : zeCell G μ a = .inl (zeCA G 5, zeLn μ a, .inr (.inr (.inr (.inr (fun j => (zeRm μ a j).map (zeAd G)))))) := zeCellR_q G h
theorem zeCell_a (G : zeG) {μ : zeM} {a t : Nat} (h : zeKd μ a = 40 + t) : ∃ x : vp_A, zeCell G μ a = .inl (zeCA G t, x) ∧ x.1 = zeLn μ a := by
  unfold zeCell zeCellR
  rw [h, if_neg (by omega), show 40 + t - 40 = t by omega]
  refine ⟨_, rfl, ?_⟩
  unfold zeArrR
  split
  · rfl
  · split <;> rfl
theorem zeCl_lt {ci : Nat} {q : vw_C} (h : zeCl[ci]? = some q) : ci < 39 := by
  have := (List.getElem?_eq_some_iff.mp h).1
  simp [zeCl] at this
  omega
theorem zeInb_in {i : Int32} {n : Nat} (h : zeInb i n = true) : vp_in i n := by
  unfold zeInb at h
  rw [Bool.and_eq_true] at h
  intro q
  rcases q with q | q
  · simp [q] at h
  · have := h.2
    simp [Nat.blt] at this
    omega
section ZG
variable {G : zeG} {i pc n : Nat}
theorem zs_gf {own C ref : String} {T : u_T} {N ci j index : Nat} (ho : (zeNam i).cls = own) (hc : zeCl[ci]? = some (C, T, N)) (hin : ∀ w ∈ u_ws C T N, w ∈ zeBT) (hj : j < N) (hb : (zeFL ci)[j]? = some false) (hlink : Cond.fieldLink own index ref (T j).2.1 (T j).2.2.1 ∈ zeBT) (href : (T j).1 = ref) (hd : decode (zeCod i) pc = .ok (.getfield index, 3)) (hn : pc + 3 = n) : zeSnd G i pc (zoGf ci j n) := by
  subst hn
  subst href
  refine zs_st (fun L st μ x e => ?_) fun L st μ pc' L' st' μ' e => ?_
  · unfold zoGf at e
    split at e
    · rename_i a st'
      cases hk : Nat.beq (zeKd μ a) (ci + 1) <;> rw [hk] at e
      · cases e
      · cases zeNx_i e
    · cases e
  · unfold zoGf at e
    split at e
    · rename_i a st'
      cases hk : Nat.beq (zeKd μ a) (ci + 1) <;> rw [hk] at e
      · cases e
      · cases zeNx_i e
        refine ⟨rfl, true, rfl, fun _ hw p l e R s m args below meth c Q H locs ls cells slots hcx _ _ _ _ hP hS _ K => ?_⟩
        have hk := Nat.eq_of_beq_eq_true hk
        have hlt := zeCl_lt hc
        obtain ⟨h1, h2⟩ := hw.new (a := a) (by omega) (by omega)
        have he := zeW_get (G := G) h1 h2
        rw [zeCell_obj G hk hlt] at he
        have hv := zeFs_get G (zeRm μ a) (zeIm μ a) _ 0 j _ hb
        rw [if_neg (by decide), Nat.zero_add] at hv
        rw [List.map_cons, zeTr_r G h1]
        exact va_get hcx.1 hcx.2.1 hcx.ws hin (ho ▸ hcx.own) hcx.K hP.1 (a - 16) he hc j hj (hcx.ws _ hlink) (fun _ h => h) hv hd K
    · cases e
theorem zs_gr {own C ref : String} {T : u_T} {N ci j index : Nat} (ho : (zeNam i).cls = own) (hc : zeCl[ci]? = some (C, T, N)) (hin : ∀ w ∈ u_ws C T N, w ∈ zeBT) (hj : j < N) (hb : (zeFL ci)[j]? = some true) (hlink : Cond.fieldLink own index ref (T j).2.1 (T j).2.2.1 ∈ zeBT) (href : (T j).1 = ref) (hd : decode (zeCod i) pc = .ok (.getfield index, 3)) (hn : pc + 3 = n) : zeSnd G i pc (zoGr ci j n) := by
  subst hn
  subst href
  refine zs_st (fun L st μ x e => ?_) fun L st μ pc' L' st' μ' e => ?_
  · unfold zoGr at e
    split at e
    · rename_i a st'
      cases hk : Nat.beq (zeKd μ a) (ci + 1) <;> rw [hk] at e
      · cases e
      · cases zeNx_i e
    · cases e
  · unfold zoGr at e
    split at e
    · rename_i a st'
      cases hk : Nat.beq (zeKd μ a) (ci + 1) <;> rw [hk] at e
      · cases e
      · cases zeNx_i e
        refine ⟨rfl, true, rfl, fun _ hw p l e R s m args below meth c Q H locs ls cells slots hcx _ _ _ _ hP hS _ K => ?_⟩
        have hk := Nat.eq_of_beq_eq_true hk
        have hlt := zeCl_lt hc
        obtain ⟨h1, h2⟩ := hw.new (a := a) (by omega) (by omega)
        have he := zeW_get (G := G) h1 h2
        rw [zeCell_obj G hk hlt] at he
        have hv := zeFs_get G (zeRm μ a) (zeIm μ a) _ 0 j _ hb
        rw [if_pos rfl, Nat.zero_add] at hv
        rw [List.map_cons, zeTr_r G h1]
        have hvr : va_rf ((zeRm μ a j).map (zeAd G)) = zeTr G (zeRf (zeRm μ a j)) := by
          cases hr : zeRm μ a j with
          | none => rfl
          | some r => exact (zeTr_r G (hw.2.2.2.1 a j r hr h1)).symm
        rw [hvr] at hv
        exact va_get hcx.1 hcx.2.1 hcx.ws hin (ho ▸ hcx.own) hcx.K hP.1 (a - 16) he hc j hj (hcx.ws _ hlink) (fun _ h => h) hv hd K
    · cases e
/-- fields of the text constants: value at place 0, coder at place 1 -/
theorem zs_gfO {own : String} {index : Nat} (ho : (zeNam i).cls = own) (hlink : Cond.fieldLink own index "java/lang/String" "coder" "B" ∈ zeBT) (hd : decode (zeCod i) pc = .ok (.getfield index, 3)) (hn : pc + 3 = n) : zeSnd G i pc (zoGfO 1 n) := by
  subst hn
  refine zs_st (fun L st μ x e => ?_) fun L st μ pc' L' st' μ' e => ?_
  · unfold zoGfO at e
    split at e
    · rename_i a st'
      cases hk : Nat.beq (zeKd μ a) 110 <;> rw [hk] at e
      · cases e
      · cases zeNx_i e
    · cases e
  · unfold zoGfO at e
    split at e
    · rename_i a st'
      cases hk : Nat.beq (zeKd μ a) 110 <;> rw [hk] at e
      · cases e
      · cases zeNx_i e
        refine ⟨rfl, true, rfl, fun _ hw p l e R s m args below meth c Q H locs ls cells slots hcx _ _ _ _ hP hS _ K => ?_⟩
        have hk := Nat.eq_of_beq_eq_true hk
        have h1 : a < 16 := by
          rcases (hw.2.2.1 a (by omega)).2 with h | h <;> omega
        obtain ⟨g1, g2, g3, g4⟩ := hw.1 a h1
        obtain ⟨t, r, e1, e2, e3, e4, e5, e6⟩ := (hcx.old a h1).2.2.1 (by omega)
        rw [List.map_cons, zeTr_o G h1, e1]
        rw [List.map_cons, zeTr_i, g3] at K
        exact vk_getf hcx.1 hcx.2.1 e6 hS (ho ▸ hcx.own) (hcx.ws _ hlink) (fun _ h => h) hd K
    · cases e
theorem zs_grO {own : String} {index : Nat} (ho : (zeNam i).cls = own) (hlink : Cond.fieldLink own index "java/lang/String" "value" "[B" ∈ zeBT) (hd : decode (zeCod i) pc = .ok (.getfield index, 3)) (hn : pc + 3 = n) : zeSnd G i pc (zoGrO 0 n) := by
  subst hn
  refine zs_st (fun L st μ x e => ?_) fun L st μ pc' L' st' μ' e => ?_
  · unfold zoGrO at e
    split at e
    · rename_i a st'
      cases hk : Nat.beq (zeKd μ a) 110 <;> rw [hk] at e
      · cases e
      · cases zeNx_i e
    · cases e
  · unfold zoGrO at e
    split at e
    · rename_i a st'
      cases hk : Nat.beq (zeKd μ a) 110 <;> rw [hk] at e
      · cases e
      · cases zeNx_i e
        refine ⟨rfl, true, rfl, fun _ hw p l e R s m args below meth c Q H locs ls cells slots hcx _ _ _ _ hP hS _ K => ?_⟩
        have hk := Nat.eq_of_beq_eq_true hk
        have h1 : a < 16 := by
          rcases (hw.2.2.1 a (by omega)).2 with h | h <;> omega
        obtain ⟨g1, g2, g3, g4⟩ := hw.1 a h1
        obtain ⟨t, r, e1, e2, e3, e4, e5, e6⟩ := (hcx.old a h1).2.2.1 (by omega)
        rw [List.map_cons, zeTr_o G h1, e1]
        rw [List.map_cons, g4, e2, show zeTr G (zeRf (some r)) = zeOv G r from zeTr_o G e3] at K
        exact vk_getf hcx.1 hcx.2.1 e5 hS (ho ▸ hcx.own) (hcx.ws _ hlink) (fun _ h => h) hd K
    · cases e
/-- int, byte, char and boolean arrays -/
theorem zs_Ld {t : Nat} (t0 : Nat) (ht : t = 40 + t0) (h5 : t0 ≠ 5) (h1' : t0 ≠ 1) (h6 : t0 < 6) (hrow : ∀ (p : Program) (l : Launch) (e : Env) (R : Room) (s : State) (m : MethodId) (args : Array Value) (below : List Frame) (meth : Method) (c : Code) (Q : State → Prop) (H : Heap) (locs : List Loc) (ls : Array Slot) (cells slots : Nat) (ws : va_W) (q0 a nn : Nat) (f : Nat → Int32) (j : Int32) (rest : List Value),
      zeCx G i p s m args meth c → va_P (zeD G) zeCl ws H → ws[q0]? = some (a, .inl (zeCA G t0, nn, .inl f)) → vp_in j nn → W p l e R s m args below meth c H locs cells slots Q (F0 m n ls (.int (f j.toNatClampNeg) :: rest)) → W p l e R s m args below meth c H locs cells slots Q (F0 m pc ls (.int j :: .ref a :: rest))) : zeSnd G i pc (zoLd t n) := by
  refine zs_st (fun L st μ x e => ?_) fun L st μ pc' L' st' μ' e => ?_
  · unfold zoLd at e
    split at e
    · rename_i j a st'
      cases hk : Nat.beq (zeKd μ a) t <;> rw [hk] at e
      · cases e
      · cases zeNx_i e
    · cases e
  · unfold zoLd at e
    split at e
    · rename_i j a st'
      cases hk : Nat.beq (zeKd μ a) t <;> rw [hk] at e
      · cases e
      · cases zeNx_i e
        refine ⟨rfl, _, rfl, fun hb hw p l e R s m args below meth c Q H locs ls cells slots hcx _ _ _ _ hP hS _ K => ?_⟩
        have hk := Nat.eq_of_beq_eq_true hk
        obtain ⟨h1, h2⟩ := hw.new (a := a) (by omega) (by omega)
        have he := zeW_get (G := G) h1 h2
        rw [zeCell_i G (hk.trans ht) h5 h1'] at he
        rw [List.map_cons, List.map_cons, zeTr_r G h1]
        exact hrow p l e R s m args below meth c Q H locs ls cells slots _ _ _ _ _ j _ hcx hP.1 he (zeInb_in hb) K
    · cases e
theorem zs_iaload (hd : decode (zeCod i) pc = .ok (.iaload, 1)) (hn : pc + 1 = n) : zeSnd G i pc (zoLd 40 n) := by
  subst hn
  exact zs_Ld 0 rfl (by decide) (by decide) (by decide) fun p l e R s m args below meth c Q H locs ls cells slots ws q0 a nn f j rest hcx hP he hin K => va_iald hcx.1 hcx.2.1 hcx.K hP q0 0 he rfl hin hd K
theorem zs_baloadB (hd : decode (zeCod i) pc = .ok (.baload, 1)) (hn : pc + 1 = n) : zeSnd G i pc (zoLd 42 n) := by
  subst hn
  exact zs_Ld 2 rfl (by decide) (by decide) (by decide) fun p l e R s m args below meth c Q H locs ls cells slots ws q0 a nn f j rest hcx hP he hin K => va_bald hcx.1 hcx.2.1 hcx.K hP q0 2 he rfl hin hd K
theorem zs_caload (hd : decode (zeCod i) pc = .ok (.caload, 1)) (hn : pc + 1 = n) : zeSnd G i pc (zoLd 43 n) := by
  subst hn
  exact zs_Ld 3 rfl (by decide) (by decide) (by decide) fun p l e R s m args below meth c Q H locs ls cells slots ws q0 a nn f j rest hcx hP he hin K => va_cald hcx.1 hcx.2.1 hcx.K hP q0 3 he rfl hin hd K
theorem zs_baloadZ (hd : decode (zeCod i) pc = .ok (.baload, 1)) (hn : pc + 1 = n) : zeSnd G i pc (zoLd 44 n) := by
  subst hn
  exact zs_Ld 4 rfl (by decide) (by decide) (by decide) fun p l e R s m args below meth c Q H locs ls cells slots ws q0 a nn f j rest hcx hP he hin K => va_zald hcx.1 hcx.2.1 hcx.K hP q0 4 he rfl hin hd K
theorem zs_laload (hd : decode (zeCod i) pc = .ok (.laload, 1)) (hn : pc + 1 = n) : zeSnd G i pc (zoLld n) := by
  subst hn
  refine zs_st (fun L st μ x e => ?_) fun L st μ pc' L' st' μ' e => ?_
  · unfold zoLld at e
    split at e
    · rename_i j a st'
      cases hk : Nat.beq (zeKd μ a) 41 <;> rw [hk] at e
      · cases e
      · cases zeNx_i e
    · cases e
  · unfold zoLld at e
    split at e
    · rename_i j a st'
      cases hk : Nat.beq (zeKd μ a) 41 <;> rw [hk] at e
      · cases e
      · cases zeNx_i e
        refine ⟨rfl, _, rfl, fun hb hw p l e R s m args below meth c Q H locs ls cells slots hcx _ _ _ _ hP hS _ K => ?_⟩
        have hk := Nat.eq_of_beq_eq_true hk
        obtain ⟨h1, h2⟩ := hw.new (a := a) (by omega) (by omega)
        have he := zeW_get (G := G) h1 h2
        rw [zeCell_l G hk] at he
        rw [List.map_cons, List.map_cons, zeTr_r G h1]
        exact va_lald hcx.1 hcx.2.1 hcx.K hP.1 (a - 16) 1 he rfl (zeInb_in hb) hd K
    · cases e
theorem zs_aaload (hd : decode (zeCod i) pc = .ok (.aaload, 1)) (hn : pc + 1 = n) : zeSnd G i pc (zoAld n) := by
  subst hn
  refine zs_st (fun L st μ x e => ?_) fun L st μ pc' L' st' μ' e => ?_
  · unfold zoAld at e
    split at e
    · rename_i j a st'
      cases hk : Nat.beq (zeKd μ a) 45 <;> rw [hk] at e
      · cases e
      · cases zeNx_i e
    · cases e
  · unfold zoAld at e
    split at e
    · rename_i j a st'
      cases hk : Nat.beq (zeKd μ a) 45 <;> rw [hk] at e
      · cases e
      · cases zeNx_i e
        refine ⟨rfl, _, rfl, fun hb hw p l e R s m args below meth c Q H locs ls cells slots hcx _ _ _ _ hP hS _ K => ?_⟩
        have hk := Nat.eq_of_beq_eq_true hk
        obtain ⟨h1, h2⟩ := hw.new (a := a) (by omega) (by omega)
        have he := zeW_get (G := G) h1 h2
        rw [zeCell_q G hk] at he
        have hvr : va_rf ((zeRm μ a j.toNatClampNeg).map (zeAd G)) = zeTr G (zeRf (zeRm μ a j.toNatClampNeg)) := by
          cases hr : zeRm μ a j.toNatClampNeg with
          | none => rfl
          | some r => exact (zeTr_r G (hw.2.2.2.1 a _ r hr h1)).symm
        rw [List.map_cons, List.map_cons, zeTr_r G h1]
        rw [List.map_cons, ← hvr] at K
        exact va_aldq hcx.1 hcx.2.1 hcx.K hP.1 (a - 16) 5 he rfl (zeInb_in hb) hd K
    · cases e
theorem zs_alen (hd : decode (zeCod i) pc = .ok (.arraylength, 1)) (hn : pc + 1 = n) : zeSnd G i pc (zoLen n) := by
  subst hn
  refine zs_st (fun L st μ x e => ?_) fun L st μ pc' L' st' μ' e => ?_
  · unfold zoLen at e
    split at e
    · rename_i a st'
      cases hk : (Nat.ble 40 (zeKd μ a) && Nat.ble (zeKd μ a) 45) <;> rw [hk] at e
      · cases e
      · cases zeNx_i e
    · cases e
  · unfold zoLen at e
    split at e
    · rename_i a st'
      cases hk : (Nat.ble 40 (zeKd μ a) && Nat.ble (zeKd μ a) 45) <;> rw [hk] at e
      · cases e
      · cases zeNx_i e
        refine ⟨rfl, true, rfl, fun hb hw p l e R s m args below meth c Q H locs ls cells slots hcx _ _ _ _ hP hS _ K => ?_⟩
        rw [Bool.and_eq_true] at hk
        have k1 := Nat.le_of_ble_eq_true hk.1
        have k2 := Nat.le_of_ble_eq_true hk.2
        obtain ⟨h1, h2⟩ := hw.new (a := a) (by omega) (by omega)
        have he := zeW_get (G := G) h1 h2
        obtain ⟨x9, hx9, hlen⟩ := zeCell_a G (μ := μ) (a := a) (t := zeKd μ a - 40) (by omega)
        rw [hx9] at he
        rw [List.map_cons, zeTr_r G h1]
        have hty : ∃ ty, (zeTY G)[zeKd μ a - 40]? = some (zeCA G (zeKd μ a - 40), ty) := by
          generalize hk9 : zeKd μ a - 40 = k9
          have : k9 ≤ 5 := by omega
          match k9, this with
          | 0, _ => exact ⟨_, rfl⟩
          | 1, _ => exact ⟨_, rfl⟩
          | 2, _ => exact ⟨_, rfl⟩
          | 3, _ => exact ⟨_, rfl⟩
          | 4, _ => exact ⟨_, rfl⟩
          | 5, _ => exact ⟨_, rfl⟩
          | k + 6, h => exact absurd h (by omega)
        obtain ⟨ty, hty⟩ := hty
        exact va_alen hcx.1 hcx.2.1 hcx.K hP.1 (a - 16) _ he hty (by rw [hlen]) hd K
    · cases e
/-! arrays that stood at the start -/
theorem zs_LdO {t : Nat} (hold : 100 ≤ t) (hrow : ∀ (p : Program) (l : Launch) (e : Env) (R : Room) (s : State) (m : MethodId) (args : Array Value) (below : List Frame) (meth : Method) (c : Code) (Q : State → Prop) (H : Heap) (locs : List Loc) (ls : Array Slot) (cells slots : Nat) (a : Nat) (j : Int32) (rest : List Value),
      zeCx G i p s m args meth c → va_S (zeA G) s.heap H locs → a < 16 → zeOk G a = t → vp_in j (zeOl G a) → W p l e R s m args below meth c H locs cells slots Q (F0 m n ls (.int (zeOi G a j.toNatClampNeg) :: rest)) → W p l e R s m args below meth c H locs cells slots Q (F0 m pc ls (.int j :: zeOv G a :: rest))) : zeSnd G i pc (zoLd t n) := by
  refine zs_st (fun L st μ x e => ?_) fun L st μ pc' L' st' μ' e => ?_
  · unfold zoLd at e
    split at e
    · rename_i j a st'
      cases hk : Nat.beq (zeKd μ a) t <;> rw [hk] at e
      · cases e
      · cases zeNx_i e
    · cases e
  · unfold zoLd at e
    split at e
    · rename_i j a st'
      cases hk : Nat.beq (zeKd μ a) t <;> rw [hk] at e
      · cases e
      · cases zeNx_i e
        refine ⟨rfl, _, rfl, fun hb hw p l e R s m args below meth c Q H locs ls cells slots hcx _ _ _ _ hP hS _ K => ?_⟩
        have hk := Nat.eq_of_beq_eq_true hk
        have h1 : a < 16 := by
          rcases (hw.2.2.1 a (by omega)).2 with h | h <;> omega
        obtain ⟨g1, g2, g3, g4⟩ := hw.1 a h1
        rw [List.map_cons, List.map_cons, zeTr_o G h1]
        rw [g3] at K
        exact hrow p l e R s m args below meth c Q H locs ls cells slots a j _ hcx hS h1 (by omega) (by rw [← g2]; exact zeInb_in hb) K
    · cases e
theorem zs_ialoadO (hd : decode (zeCod i) pc = .ok (.iaload, 1)) (hn : pc + 1 = n) : zeSnd G i pc (zoLd 100 n) := by
  subst hn
  refine zs_LdO (by decide) fun p l e R s m args below meth c Q H locs ls cells slots a j rest hcx hS h1 hk hin K => ?_
  obtain ⟨t, e1, e2⟩ := (hcx.old a h1).1 hk
  rw [e1]
  exact va_ti hcx.1 hcx.2.1 e2 hS hin rfl hd K
theorem zs_baloadO (hd : decode (zeCod i) pc = .ok (.baload, 1)) (hn : pc + 1 = n) : zeSnd G i pc (zoLd 102 n) := by
  subst hn
  refine zs_LdO (by decide) fun p l e R s m args below meth c Q H locs ls cells slots a j rest hcx hS h1 hk hin K => ?_
  obtain ⟨t, e1, e2, -⟩ := (hcx.old a h1).2.1 hk
  rw [e1]
  exact va_tb hcx.1 hcx.2.1 e2 hS hin rfl hd K
theorem zs_alenO (hd : decode (zeCod i) pc = .ok (.arraylength, 1)) (hn : pc + 1 = n) : zeSnd G i pc (zoLenO n) := by
  subst hn
  refine zs_st (fun L st μ x e => ?_) fun L st μ pc' L' st' μ' e => ?_
  · unfold zoLenO at e
    split at e
    · rename_i a st'
      cases hk : (Nat.beq (zeKd μ a) 100 || Nat.beq (zeKd μ a) 102) <;> rw [hk] at e
      · cases e
      · cases zeNx_i e
    · cases e
  · unfold zoLenO at e
    split at e
    · rename_i a st'
      cases hk : (Nat.beq (zeKd μ a) 100 || Nat.beq (zeKd μ a) 102) <;> rw [hk] at e
      · cases e
      · cases zeNx_i e
        refine ⟨rfl, true, rfl, fun hb hw p l e R s m args below meth c Q H locs ls cells slots hcx _ _ _ _ hP hS _ K => ?_⟩
        have hk : zeKd μ a = 100 ∨ zeKd μ a = 102 := by
          rcases Bool.or_eq_true _ _ ▸ hk with h | h
          · exact Or.inl (Nat.eq_of_beq_eq_true h)
          · exact Or.inr (Nat.eq_of_beq_eq_true h)
        have h1 : a < 16 := by
          rcases (hw.2.2.1 a (by omega)).2 with h | h <;> omega
        obtain ⟨g1, g2, g3, g4⟩ := hw.1 a h1
        rw [List.map_cons, zeTr_o G h1]
        rw [List.map_cons, zeTr_i, g2] at K
        rcases hk with hk | hk
        · obtain ⟨t, e1, e2⟩ := (hcx.old a h1).1 (by omega)
          rw [e1]
          exact va_tlen hcx.1 hcx.2.1 e2 hS rfl hd K
        · obtain ⟨t, e1, e2, -⟩ := (hcx.old a h1).2.1 (by omega)
          rw [e1]
          exact va_tlen hcx.1 hcx.2.1 e2 hS rfl hd K
    · cases e
end ZG
end
section
/-! SOUND OPS: fields and arrays, written; new cells; copies -/
theorem zePic.put {G : zeG} {μ μ' : zeM} {H H1 : Heap} {k : Nat} (h : zePic G μ H) (h1 : 16 ≤ k) (h2 : k < 16 + zeN μ) (hn : zeN μ' = zeN μ) (ho : ∀ a, a ≠ k → zeCell G μ' a = zeCell G μ a) (hc : va_at (zeD G) zeCl (zeAd G k, zeCell G μ' k) H1) (hz : H1.size = H.size) (hq : ∀ q : Nat, q ≠ zeAd G k → H1[q]? = H[q]?) : zePic G μ' H1 := by
  refine ⟨?_, by rw [hz, h.2, hn]⟩
  rw [zeW_set h1 h2 hn ho]
  exact h.1.set (zeW_D G μ) (zeW_get h1 h2) hc hq
theorem zeA_ad (G : zeG) (a : Nat) : zeA G (zeAd G a) := by
  show zeN0 G ≤ zeN0 G + _
  omega
/-- an op that writes: its walk, one machine step -/
theorem zs_wr {G : zeG} {i pc : Nat} {op : zeOp} (hn : ∀ L st μ x, op L st μ ≠ some (.inr x))
    (hs : ∀ L st μ pc' L' st' μ', op L st μ = some (.inl (pc', L', st', μ')) → L' = L ∧ zeMon μ μ' ∧ (μ'.1 = true → zeWf G μ → zeWf G μ' ∧ ∀ (p : Program) (l : Launch) (e : Env) (R : Room) (s : State) (m : MethodId) (args : Array Value) (below : List Frame) (meth : Method) (c : Code) (Q : State → Prop) (H : Heap) (locs : List Loc) (ls : Array Slot) (n0 s0 : Nat),
      zeCx G i p s m args meth c → zeDp i ≤ R.frames → zeLc i ≤ R.locals → zeN μ' - n0 ≤ R.cells → zeSl μ' - s0 ≤ R.slots → n0 ≤ zeN μ → s0 ≤ zeSl μ → zePic G μ H → va_S (zeA G) s.heap H locs → ls.size = zeNl i →
      (∀ (H1 : Heap) (locs1 : List Loc), zePic G μ' H1 → va_S (zeA G) s.heap H1 locs1 → W p l e R s m args below meth c H1 locs1 (zeN μ' - n0) (zeSl μ' - s0) Q (F0 m pc' ls (st'.map (zeTr G)))) → W p l e R s m args below meth c H locs (zeN μ - n0) (zeSl μ - s0) Q (F0 m pc ls (st.map (zeTr G))))) : zeSnd G i pc op := by
  intro L st μ
  refine ⟨fun pc' L' st' μ' h => ?_, fun v μ' h => absurd h (hn _ _ _ _), fun j as pc' L' st' μ' h => absurd h (hn _ _ _ _)⟩
  obtain ⟨rfl, hm0, hb⟩ := hs L st μ pc' L' st' μ' h
  refine ⟨hm0, fun h1 hwf => ⟨(hb h1 hwf).1, fun v μ'' hm hgo => ?_⟩⟩
  intro p l e R s m args below meth c Q n0 s0 hcx hd hl hn0 hs0 hret hc hs H locs ls hP hS hL hN
  refine (hb h1 hwf).2 p l e R s m args below meth c Q H locs ls n0 s0 hcx hd hl (by have := hm.2.1; omega) (by have := hm.2.2; omega) hn0 hs0 hP hS hL.1 fun H1 locs1 hP1 hS1 => ?_
  exact hgo p l e R s m args below meth c Q n0 s0 hcx hd hl (Nat.le_trans hn0 hm0.2.1) (Nat.le_trans hs0 hm0.2.2) hret hc hs H1 locs1 ls hP1 hS1 hL hN
/-! the virtual cells behind a write -/
theorem zeWf.im {G : zeG} {μ : zeM} (h : zeWf G μ) {f : Nat → Nat → Int32} {a : Nat} (h1 : 16 ≤ a) (hf : ∀ a', a' ≠ a → f a' = zeIm μ a') (hb : zeKd μ a = 42 → ∀ j, fits .byte (.int (f a j)) = true) : zeWf G (zeSIm f μ) := by
  refine ⟨fun k hk => ?_, fun k hk j => ?_, h.2.2.1, h.2.2.2.1, h.2.2.2.2⟩
  · obtain ⟨e1, e2, e3, e4⟩ := h.1 k hk
    exact ⟨e1, e2, fun j => by show f k j = _; rw [hf k (by omega)]; exact e3 j, e4⟩
  · show fits .byte (.int (f k j)) = true
    by_cases hka : k = a
    · subst hka
      rcases hk with hk | hk
      · exact hb hk j
      · have hk : zeKd μ k = 102 := hk
        rcases (h.2.2.1 k (by omega)).2 with g | g <;> omega
    · rw [hf k hka]
      exact h.2.1 k hk j
theorem zeWf.lm {G : zeG} {μ : zeM} (h : zeWf G μ) (f : Nat → Nat → Int64) : zeWf G (zeSLm f μ) := h
theorem zeWf.rm {G : zeG} {μ : zeM} (h : zeWf G μ) {f : Nat → Nat → Option Nat} {a : Nat} (h1 : 16 ≤ a) (hf : ∀ a', a' ≠ a → f a' = zeRm μ a') (hb : ∀ j b, f a j = some b → 16 ≤ b) : zeWf G (zeSRm f μ) := by
  refine ⟨fun k hk => ?_, h.2.1, h.2.2.1, fun k j b hk h16 => ?_, h.2.2.2.2⟩
  · obtain ⟨e1, e2, e3, e4⟩ := h.1 k hk
    exact ⟨e1, e2, e3, fun j => by show f k j = _; rw [hf k (by omega)]; exact e4 j⟩
  · by_cases hka : k = a
    · subst hka
      exact hb j b hk
    · have : zeRm μ k j = some b := by
        rw [← hf k hka]
        exact hk
      exact h.2.2.2.1 k j b this h16
theorem zeU2_ne {α : Type} {f : Nat → Nat → α} {a j : Nat} {x : α} {a' : Nat} (h : a' ≠ a) : zeU2 f a j x a' = f a' := by
  funext j'
  simp [zeU2, h]
theorem zeU2_eq {α : Type} (f : Nat → Nat → α) (a j : Nat) (x : α) : zeU2 f a j x a = fun j' => if j' = j then x else f a j' := by
  funext j'
  simp [zeU2]
theorem zeFs_seti (G : zeG) (r : Nat → Option Nat) (f : Nat → Int32) (x : Int32) {l : List Bool} {j : Nat} (hb : l[j]? = some false) : zeFs G r (fun j' => if j' = j then x else f j') 0 l = (zeFs G r f 0 l).set j (.int x) := by
  apply List.ext_getElem?
  intro k
  have hj := (List.getElem?_eq_some_iff.mp hb).1
  by_cases hk : k = j
  · subst hk
    rw [List.getElem?_set_self (by rw [zeFs_len]; exact hj), zeFs_get G _ _ _ _ _ _ hb]
    simp
  · rw [List.getElem?_set_ne (Ne.symm hk)]
    cases hl : l[k]? with
    | none =>
      have := List.getElem?_eq_none_iff.mp hl
      rw [List.getElem?_eq_none (by rw [zeFs_len]; exact this), List.getElem?_eq_none (by rw [zeFs_len]; exact this)]
    | some b =>
      rw [zeFs_get G _ _ _ _ _ _ hl, zeFs_get G _ _ _ _ _ _ hl]
      simp [hk]
theorem zeFs_setr (G : zeG) (r : Nat → Option Nat) (f : Nat → Int32) (x : Option Nat) {l : List Bool} {j : Nat} (hb : l[j]? = some true) : zeFs G (fun j' => if j' = j then x else r j') f 0 l = (zeFs G r f 0 l).set j (va_rf (x.map (zeAd G))) := by
  apply List.ext_getElem?
  intro k
  have hj := (List.getElem?_eq_some_iff.mp hb).1
  by_cases hk : k = j
  · subst hk
    rw [List.getElem?_set_self (by rw [zeFs_len]; exact hj), zeFs_get G _ _ _ _ _ _ hb]
    simp
  · rw [List.getElem?_set_ne (Ne.symm hk)]
    cases hl : l[k]? with
    | none =>
      have := List.getElem?_eq_none_iff.mp hl
      rw [List.getElem?_eq_none (by rw [zeFs_len]; exact this), List.getElem?_eq_none (by rw [zeFs_len]; exact this)]
    | some b =>
      rw [zeFs_get G _ _ _ _ _ _ hl, zeFs_get G _ _ _ _ _ _ hl]
      simp [hk]
/-! fields -/
section ZP
variable {p : Program} {l : Launch} {e : Env} {R : Room} {s : State} {m : MethodId} {args : Array Value} {below : List Frame} {meth : Method} {c : Code} {H : Heap} {locs : List Loc} {cells slots : Nat} {Q : State → Prop}
variable {cc : ByteArray} {pc : Nat} {ls : Array Slot} {rest : List Value} {D : va_G} {cl : List vw_C} {A : Nat → Prop} {a : Nat} {tys : List (ClassId × FieldType)} {ws : va_W} {H0 : Heap}
/-- putfield, with all that is known of the heap behind it -/
theorem zw_put (hexec : p.tables.exec = Jvm.exec) (hb : c.code = cc) {own ref C : String} {T : u_T} {N ci index : Nat} {Ts : List Cond} (hts : ∀ w ∈ Ts, w.before args s = true) (hin : ∀ w ∈ u_ws C T N, w ∈ Ts) (ty0 : Nat → FieldType) (hty : ∀ k, k < N → parseFieldDescriptor (T k).2.2.1 = some (ty0 k)) (hnm : ∀ a, a < N → ∀ b, b < N → a ≠ b → (T a).2.1 ≠ (T b).2.1) (hown : s.vm.findClass own = some m.cls) (hK : va_K D cl tys s) (hP : va_P D cl ws H) (q0 : Nat) {fs : List Value} (he : ws[q0]? = some (a, .inr (ci, fs))) (hc : cl[ci]? = some (C, T, N)) (k : Nat) (hk : k < N) (hlink : (Cond.fieldLink own index ref (T k).2.1 (T k).2.2.1).before args s = true) (href : (T k).1 = ref) (hfin : (T k).2.2.2 = false ∨ ((T k).2.2.2 = true ∧ meth.name = "<init>" ∧ (T k).1 = own)) {v : Value} (hn : narrow (ty0 k) v = v) (hfit : fits (ty0 k) v = true) (hl : k < fs.length)
    (hdg : decode cc pc = .ok (.putfield index, 3)) (kk : ∀ (H1 : Heap), va_at D cl (a, .inr (ci, fs.set k v)) H1 → H1.size = H.size → (∀ q : Nat, q ≠ a → H1[q]? = H[q]?) → W p l e R s m args below meth c H1 (locs ++ [⟨a, D.2 ci k⟩]) cells slots Q (F0 m (pc + 3) ls rest)) : W p l e R s m args below meth c H locs cells slots Q (F0 m pc ls (v :: .ref a :: rest)) := by
  subst href
  have hap := va_apart (own := own) hts hin ty0 hty hnm hK hc
  obtain ⟨r, h1, cell, q1, q2, q3, q4⟩ := hP q0 _ he
  have hr : r = (C, T, N) := Option.some.inj (h1.symm.trans hc)
  subst hr
  obtain ⟨hS, hfc, kC, hkC, hkind⟩ := hK.1 ci _ hc
  obtain ⟨cf, kf, fi, f, hi, hsl⟩ := hS k hk
  have hlay := hts _ (hin _ (u_in_lay hk))
  unfold u_lay at hlay
  have hst := (u_facts hfc hkC (u_lays hts hin hk) hi).1
  rcases hfin with hfin | ⟨hfin, hin2, hdecl⟩
  · rw [if_neg (by rw [hfin]; decide)] at hlay
    have h6 := u_store hfc hkC hkind hlay hi (hty k hk) hn hfit
    refine W.putK hexec hb (f := f) ⟨hown, hlink, ⟨_, _, _, hi⟩, hst⟩ (by rw [q2]; exact h6) q1 q3 (by rw [hsl]; exact k2_hasslot (q4 k hk)) rfl rfl hdg fun H' e1 e2 e3 => ?_
    rw [hsl] at e1 ⊢
    exact kk H' ⟨_, hc, t_OB.to (V := updV (vp_V fs) k v) ⟨_, e1, q2, q3, t_set q4 hap hk v⟩ (fun j _ => vp_updV_set hl v j)⟩ e2 e3
  · rw [if_pos hfin] at hlay
    have hcf : m.cls = cf := by
      obtain ⟨_, _, c', _, _, _, -, -, hf', -, -, -, hown2, -⟩ := Cond.laysFinal_spec hlay
      have e1 : c' = cf := by have := hi.symm.trans hf'; simp at this; exact this.1.symm
      rw [hdecl] at hown2
      rw [← e1]; exact Option.some.inj (hown.symm.trans hown2)
    have h6 := u_fits hfc hkC hkind (Or.inr hlay) hi (hty k hk) hn hfit
    refine W.putFinK hexec hb hown hlink hi hst hcf hin2 (by rw [q2]; exact h6) q1 q3 (by rw [hsl]; exact k2_hasslot (q4 k hk)) rfl rfl hdg fun H' e1 e2 e3 => ?_
    rw [hsl] at e1 ⊢
    exact kk H' ⟨_, hc, t_OB.to (V := updV (vp_V fs) k v) ⟨_, e1, q2, q3, t_set q4 hap hk v⟩ (fun j _ => vp_updV_set hl v j)⟩ e2 e3
end ZP
end
section
/-! SOUND OPS: putfield, array stores -/
section ZW
variable {G : zeG} {i pc n : Nat}
theorem zeMon.sim (f : Nat → Nat → Int32) (μ : zeM) : zeMon μ (zeSIm f μ) := ⟨fun h => h, Nat.le_refl _, Nat.le_refl _⟩
theorem zeMon.srm (f : Nat → Nat → Option Nat) (μ : zeM) : zeMon μ (zeSRm f μ) := ⟨fun h => h, Nat.le_refl _, Nat.le_refl _⟩
theorem zeMon.slm (f : Nat → Nat → Int64) (μ : zeM) : zeMon μ (zeSLm f μ) := ⟨fun h => h, Nat.le_refl _, Nat.le_refl _⟩
theorem zeCell_im {μ : zeM} {f : Nat → Nat → Int32} {a' : Nat} (h : f a' = zeIm μ a') : zeCell G (zeSIm f μ) a' = zeCell G μ a' := by
  show zeCellR G (zeKd μ a') (zeLn μ a') (zeRm μ a') (f a') (zeLm μ a') = _
  rw [h]
  rfl
theorem zeCell_rm {μ : zeM} {f : Nat → Nat → Option Nat} {a' : Nat} (h : f a' = zeRm μ a') : zeCell G (zeSRm f μ) a' = zeCell G μ a' := by
  show zeCellR G (zeKd μ a') (zeLn μ a') (f a') (zeIm μ a') (zeLm μ a') = _
  rw [h]
  rfl
theorem zeCell_lm {μ : zeM} {f : Nat → Nat → Int64} {a' : Nat} (h : f a' = zeLm μ a') : zeCell G (zeSLm f μ) a' = zeCell G μ a' := by
  show zeCellR G (zeKd μ a') (zeLn μ a') (zeRm μ a') (zeIm μ a') (f a') = _
  rw [h]
  rfl
/-- what the class's table says of its field j -/
def zeFd (i : Nat) (own C ref : String) (T : u_T) (ty0 : Nat → FieldType) (N ci j index : Nat) : Prop := (zeNam i).cls = own ∧ zeCl[ci]? = some (C, T, N) ∧ (∀ w ∈ u_ws C T N, w ∈ zeBT) ∧ (∀ k, k < N → parseFieldDescriptor (T k).2.2.1 = some (ty0 k)) ∧ (∀ a, a < N → ∀ b, b < N → a ≠ b → (T a).2.1 ≠ (T b).2.1) ∧ j < N ∧ Cond.fieldLink own index ref (T j).2.1 (T j).2.2.1 ∈ zeBT ∧ (T j).1 = ref ∧ ((T j).2.2.2 = false ∨ ((T j).2.2.2 = true ∧ (zeNam i).name = "<init>" ∧ (T j).1 = own)) ∧ (zeFL ci).length = N
theorem zw_pf {own C ref : String} {T : u_T} {ty0 : Nat → FieldType} {N ci j index : Nat} (hF : zeFd i own C ref T ty0 N ci j index) (hb : (zeFL ci)[j]? = some false) (hd : decode (zeCod i) pc = .ok (.putfield index, 3)) {μ : zeM} {a : Nat} {x : Int32} (hk : zeKd μ a = ci + 1) (hw : zeWf G μ) (hn : narrow (ty0 j) (.int x) = .int x) (hfit : fits (ty0 j) (.int x) = true)
    {p : Program} {l : Launch} {e : Env} {R : Room} {s : State} {m : MethodId} {args : Array Value} {below : List Frame} {meth : Method} {c : Code} {Q : State → Prop} {H : Heap} {locs : List Loc} {ls : Array Slot} {cells slots : Nat} {rest : List Value}
    (hcx : zeCx G i p s m args meth c) (hP : zePic G μ H) (hS : va_S (zeA G) s.heap H locs)
    (K : ∀ (H1 : Heap) (locs1 : List Loc), zePic G (zeSIm (zeU2 (zeIm μ) a j x) μ) H1 → va_S (zeA G) s.heap H1 locs1 → W p l e R s m args below meth c H1 locs1 cells slots Q (F0 m (pc + 3) ls rest)) : W p l e R s m args below meth c H locs cells slots Q (F0 m pc ls (.int x :: .ref (zeAd G a) :: rest)) := by
  obtain ⟨ho, hc, hin, hty, hnm, hj, hlink, href, hfin, hlen⟩ := hF
  have hlt := zeCl_lt hc
  obtain ⟨h1, h2⟩ := hw.new (a := a) (by omega) (by omega)
  have he := zeW_get (G := G) h1 h2
  rw [zeCell_obj G hk hlt] at he
  refine zw_put hcx.1 hcx.2.1 hcx.ws hin ty0 hty hnm (ho ▸ hcx.own) hcx.K hP.1 (a - 16) he hc j hj (hcx.ws _ hlink) href (hcx.nm ▸ hfin) hn hfit (by rw [zeFs_len, hlen]; exact hj) hd fun H1 g1 g2 g3 => ?_
  refine K H1 _ (hP.put h1 h2 rfl (fun a' ha' => zeCell_im (zeU2_ne ha')) ?_ g2 g3) (hS.put g2 g3 (zeA_ad G a))
  have e1 : zeCell G (zeSIm (zeU2 (zeIm μ) a j x) μ) a = .inr (ci, zeFs G (zeRm μ a) (zeU2 (zeIm μ) a j x a) 0 (zeFL ci)) := zeCellR_obj G hk hlt
  rw [e1, zeU2_eq, zeFs_seti G _ _ _ hb]
  exact g1
theorem zs_pf {own C ref : String} {T : u_T} {ty0 : Nat → FieldType} {N ci j index : Nat} (hF : zeFd i own C ref T ty0 N ci j index) (hb : (zeFL ci)[j]? = some false) (hty : ty0 j = .int) (hd : decode (zeCod i) pc = .ok (.putfield index, 3)) (hn : pc + 3 = n) : zeSnd G i pc (zoPf ci j n) := by
  subst hn
  refine zs_wr (fun L st μ x e => ?_) fun L st μ pc' L' st' μ' e => ?_
  · unfold zoPf at e
    split at e
    · rename_i x a st'
      cases hk : Nat.beq (zeKd μ a) (ci + 1) <;> rw [hk] at e
      · cases e
      · cases zeNx_i e
    · cases e
  · unfold zoPf at e
    split at e
    · rename_i x a st'
      cases hk : Nat.beq (zeKd μ a) (ci + 1) <;> rw [hk] at e
      · cases e
      · cases zeNx_i e
        have hk := Nat.eq_of_beq_eq_true hk
        refine ⟨rfl, zeMon.sim _ _, fun _ hw => ?_⟩
        have hlt := zeCl_lt hF.2.1
        obtain ⟨h1, h2⟩ := hw.new (a := a) (by omega) (by omega)
        refine ⟨hw.im h1 (fun a' ha' => zeU2_ne ha') (fun h => by omega), fun p l e R s m args below meth c Q H locs ls n0 s0 hcx _ _ _ _ _ _ hP hS _ K => ?_⟩
        rw [List.map_cons, List.map_cons, zeTr_r G h1]
        exact zw_pf hF hb hd hk hw (by rw [hty]; rfl) (by rw [hty]; rfl) hcx hP hS K
    · cases e
theorem zs_ps {own C ref : String} {T : u_T} {ty0 : Nat → FieldType} {N ci j index : Nat} {ty : FieldType} (hF : zeFd i own C ref T ty0 N ci j index) (hb : (zeFL ci)[j]? = some false) (hty : ty0 j = ty) (hd : decode (zeCod i) pc = .ok (.putfield index, 3)) (hn : pc + 3 = n) : zeSnd G i pc (zoPs ty ci j n) := by
  subst hn
  refine zs_wr (fun L st μ x e => ?_) fun L st μ pc' L' st' μ' e => ?_
  · unfold zoPs at e
    split at e
    · rename_i x a st'
      cases hk : Nat.beq (zeKd μ a) (ci + 1) <;> rw [hk] at e
      · cases e
      · cases zeNx_i e
    · cases e
  · unfold zoPs at e
    split at e
    · rename_i x a st'
      cases hk : Nat.beq (zeKd μ a) (ci + 1) <;> rw [hk] at e
      · cases e
      · cases zeNx_i e
        have hk := Nat.eq_of_beq_eq_true hk
        refine ⟨rfl, (zeMon.sim _ _).tr (zeMon.ck _ _), fun hck hw => ?_⟩
        have hlt := zeCl_lt hF.2.1
        obtain ⟨h1, h2⟩ := hw.new (a := a) (by omega) (by omega)
        have hnf := zeCk_b hck
        rw [Bool.and_eq_true, decide_eq_true_eq] at hnf
        refine ⟨hw.im h1 (fun a' ha' => zeU2_ne ha') (fun h => by omega), fun p l e R s m args below meth c Q H locs ls n0 s0 hcx _ _ _ _ _ _ hP hS _ K => ?_⟩
        rw [List.map_cons, List.map_cons, zeTr_r G h1]
        exact zw_pf hF hb hd hk hw (by rw [hty]; exact hnf.1) (by rw [hty]; exact hnf.2) hcx hP hS K
    · cases e
theorem zs_pr {own C ref : String} {T : u_T} {ty0 : Nat → FieldType} {N ci j index : Nat} (hF : zeFd i own C ref T ty0 N ci j index) (hb : (zeFL ci)[j]? = some true) (hty : ∀ a, narrow (ty0 j) (.ref a) = .ref a ∧ fits (ty0 j) (.ref a) = true) (hd : decode (zeCod i) pc = .ok (.putfield index, 3)) (hn : pc + 3 = n) : zeSnd G i pc (zoPr ci j n) := by
  subst hn
  refine zs_wr (fun L st μ x e => ?_) fun L st μ pc' L' st' μ' e => ?_
  · unfold zoPr at e
    split at e
    · rename_i b a st'
      cases hk : (Nat.beq (zeKd μ a) (ci + 1) && Nat.ble 16 b) <;> rw [hk] at e
      · cases e
      · cases zeNx_i e
    · cases e
  · unfold zoPr at e
    split at e
    · rename_i b a st'
      cases hk : (Nat.beq (zeKd μ a) (ci + 1) && Nat.ble 16 b) <;> rw [hk] at e
      · cases e
      · cases zeNx_i e
        rw [Bool.and_eq_true] at hk
        have hb16 := Nat.le_of_ble_eq_true hk.2
        have hk := Nat.eq_of_beq_eq_true hk.1
        refine ⟨rfl, zeMon.srm _ _, fun _ hw => ?_⟩
        obtain ⟨ho, hc, hin, hty0, hnm, hj, hlink, href, hfin, hlen⟩ := hF
        have hlt := zeCl_lt hc
        obtain ⟨h1, h2⟩ := hw.new (a := a) (by omega) (by omega)
        refine ⟨hw.rm h1 (fun a' ha' => zeU2_ne ha') (fun j' b' hb' => ?_), fun p l e R s m args below meth c Q H locs ls n0 s0 hcx _ _ _ _ _ _ hP hS _ K => ?_⟩
        · rw [zeU2_eq] at hb'
          dsimp only at hb'
          split at hb'
          · cases hb'
            exact hb16
          · exact hw.2.2.2.1 a j' b' hb' h1
        · rw [List.map_cons, List.map_cons, zeTr_r G h1, zeTr_r G hb16]
          have he := zeW_get (G := G) h1 h2
          rw [zeCell_obj G hk hlt] at he
          refine zw_put hcx.1 hcx.2.1 hcx.ws hin ty0 hty0 hnm (ho ▸ hcx.own) hcx.K hP.1 (a - 16) he hc j hj (hcx.ws _ hlink) href (hcx.nm ▸ hfin) (hty _).1 (hty _).2 (by rw [zeFs_len, hlen]; exact hj) hd fun H1 g1 g2 g3 => ?_
          refine K H1 _ (hP.put h1 h2 rfl (fun a' ha' => zeCell_rm (zeU2_ne ha')) ?_ g2 g3) (hS.put g2 g3 (zeA_ad G a))
          have e1 : zeCell G (zeSRm (zeU2 (zeRm μ) a j (some b)) μ) a = .inr (ci, zeFs G (zeU2 (zeRm μ) a j (some b) a) (zeIm μ a) 0 (zeFL ci)) := zeCellR_obj G hk hlt
          rw [e1, zeU2_eq, zeFs_setr G _ _ _ hb]
          exact g1
    · cases e
/-- a store into an int, byte, char or boolean array -/
theorem zs_Sti {t t0 : Nat} (ht : t = 40 + t0) (h5 : t0 ≠ 5) (h1' : t0 ≠ 1) (h6 : t0 < 6) (hfit : t = 42 → ∀ x, fits .byte (.int (zeNar t x)) = true) (hrow : ∀ (p : Program) (l : Launch) (e : Env) (R : Room) (s : State) (m : MethodId) (args : Array Value) (below : List Frame) (meth : Method) (c : Code) (Q : State → Prop) (H : Heap) (locs : List Loc) (ls : Array Slot) (cells slots : Nat) (a nn : Nat) (f : Nat → Int32) (j x : Int32) (rest : List Value),
      zeCx G i p s m args meth c → H[a]? = some (vp_cell (zeCA G t0) (nn, .inl f)) → vp_in j nn → (∀ H1 : Heap, H1[a]? = some ((vp_cell (zeCA G t0) (nn, .inl f)).setSlot j.toNatClampNeg (.int (zeNar t x))) → H1.size = H.size → (∀ q : Nat, q ≠ a → H1[q]? = H[q]?) → W p l e R s m args below meth c H1 (locs ++ [⟨a, j.toNatClampNeg⟩]) cells slots Q (F0 m n ls rest)) → W p l e R s m args below meth c H locs cells slots Q (F0 m pc ls (.int x :: .int j :: .ref a :: rest))) : zeSnd G i pc (zoSt t n) := by
  refine zs_wr (fun L st μ x e => ?_) fun L st μ pc' L' st' μ' e => ?_
  · unfold zoSt at e
    split at e
    · rename_i x j a st'
      cases hk : Nat.beq (zeKd μ a) t <;> rw [hk] at e
      · cases e
      · cases zeNx_i e
    · cases e
  · unfold zoSt at e
    split at e
    · rename_i x j a st'
      cases hk : Nat.beq (zeKd μ a) t <;> rw [hk] at e
      · cases e
      · cases zeNx_i e
        have hk := Nat.eq_of_beq_eq_true hk
        refine ⟨rfl, (zeMon.sim _ _).tr (zeMon.ck _ _), fun hck hw => ?_⟩
        obtain ⟨h1, h2⟩ := hw.new (a := a) (by omega) (by omega)
        refine ⟨hw.im h1 (fun a' ha' => zeU2_ne ha') (fun h j' => ?_), fun p l e R s m args below meth c Q H locs ls n0 s0 hcx _ _ _ _ _ _ hP hS _ K => ?_⟩
        · rw [zeU2_eq]
          dsimp only
          split
          · exact hfit (by omega) x
          · exact hw.2.1 a (Or.inl h) j'
        · rw [List.map_cons, List.map_cons, List.map_cons, zeTr_r G h1]
          have he := hP.1 (a - 16) _ (zeW_get (G := G) h1 h2)
          rw [zeCell_i G (hk.trans ht) h5 h1'] at he
          refine hrow p l e R s m args below meth c Q H locs ls _ _ (zeAd G a) (zeLn μ a) (zeIm μ a) j x _ hcx he (zeInb_in (zeCk_b hck)) fun H1 g1 g2 g3 => ?_
          refine K H1 _ (hP.put h1 h2 rfl (fun a' ha' => zeCell_im (zeU2_ne ha')) ?_ g2 g3) (hS.put g2 g3 (zeA_ad G a))
          have e1 : zeCell G (zeCk (zeInb j (zeLn μ a)) (zeSIm (zeU2 (zeIm μ) a j.toNatClampNeg (zeNar t x)) μ)) a = .inl (zeCA G t0, zeLn μ a, .inl (zeU2 (zeIm μ) a j.toNatClampNeg (zeNar t x) a)) := zeCellR_i G (hk.trans ht) h5 h1'
          rw [e1]
          show H1[_]? = some (vp_cell _ _)
          rw [g1, zeU2_eq, vp_cell_i, vp_cell_i, arrV_store]
          congr 2
          funext q
          by_cases hq : q = j.toNatClampNeg
          · subst hq
            simp [updV]
          · simp [updV, hq]
    · cases e
theorem zs_iastore (hd : decode (zeCod i) pc = .ok (.iastore, 1)) (hn : pc + 1 = n) : zeSnd G i pc (zoSt 40 n) := by
  subst hn
  refine zs_Sti (t0 := 0) rfl (by decide) (by decide) (by decide) (fun h => by cases h) fun p l e R s m args below meth c Q H locs ls cells slots a nn f j x rest hcx he hin K => ?_
  exact W.iast hcx.1 hcx.2.1 he ((hcx.K.2 0 _ rfl).1 nn (fun j => .int (f j))) (fun q => by cases q) (by show ¬ (j < 0 ∨ (arrV _ _ _).slots.size ≤ _); rw [arrV_size]; exact hin) rfl rfl hd K
theorem zs_bastoreB (hd : decode (zeCod i) pc = .ok (.bastore, 1)) (hn : pc + 1 = n) : zeSnd G i pc (zoSt 42 n) := by
  subst hn
  refine zs_Sti (t0 := 2) rfl (by decide) (by decide) (by decide) (fun _ x => ?_) fun p l e R s m args below meth c Q H locs ls cells slots a nn f j x rest hcx he hin K => ?_
  · show fits .byte (.int (vp_nar .byte x)) = true
    rw [vp_nar_byte]
    exact pk_fb x
  · exact W.bast hcx.1 hcx.2.1 he ((hcx.K.2 2 _ rfl).1 nn (fun j => .int (f j))) (fun q => by cases q) (by show ¬ (j < 0 ∨ (arrV _ _ _).slots.size ≤ _); rw [arrV_size]; exact hin) rfl rfl hd K
theorem zs_castore (hd : decode (zeCod i) pc = .ok (.castore, 1)) (hn : pc + 1 = n) : zeSnd G i pc (zoSt 43 n) := by
  subst hn
  refine zs_Sti (t0 := 3) rfl (by decide) (by decide) (by decide) (fun h => by cases h) fun p l e R s m args below meth c Q H locs ls cells slots a nn f j x rest hcx he hin K => ?_
  exact W.cast hcx.1 hcx.2.1 he ((hcx.K.2 3 _ rfl).1 nn (fun j => .int (f j))) (fun q => by cases q) (by show ¬ (j < 0 ∨ (arrV _ _ _).slots.size ≤ _); rw [arrV_size]; exact hin) rfl rfl hd K
theorem zs_bastoreZ (hd : decode (zeCod i) pc = .ok (.bastore, 1)) (hn : pc + 1 = n) : zeSnd G i pc (zoSt 44 n) := by
  subst hn
  refine zs_Sti (t0 := 4) rfl (by decide) (by decide) (by decide) (fun h => by cases h) fun p l e R s m args below meth c Q H locs ls cells slots a nn f j x rest hcx he hin K => ?_
  exact W.zast hcx.1 hcx.2.1 he ((hcx.K.2 4 _ rfl).1 nn (fun j => .int (f j))) (fun q => by cases q) (by show ¬ (j < 0 ∨ (arrV _ _ _).slots.size ≤ _); rw [arrV_size]; exact hin) rfl rfl hd K
theorem zs_lastore (hd : decode (zeCod i) pc = .ok (.lastore, 1)) (hn : pc + 1 = n) : zeSnd G i pc (zoLst n) := by
  subst hn
  refine zs_wr (fun L st μ x e => ?_) fun L st μ pc' L' st' μ' e => ?_
  · unfold zoLst at e
    split at e
    · rename_i x j a st'
      cases hk : Nat.beq (zeKd μ a) 41 <;> rw [hk] at e
      · cases e
      · cases zeNx_i e
    · cases e
  · unfold zoLst at e
    split at e
    · rename_i x j a st'
      cases hk : Nat.beq (zeKd μ a) 41 <;> rw [hk] at e
      · cases e
      · cases zeNx_i e
        have hk := Nat.eq_of_beq_eq_true hk
        refine ⟨rfl, (zeMon.slm _ _).tr (zeMon.ck _ _), fun hck hw => ?_⟩
        obtain ⟨h1, h2⟩ := hw.new (a := a) (by omega) (by omega)
        refine ⟨hw, fun p l e R s m args below meth c Q H locs ls n0 s0 hcx _ _ _ _ _ _ hP hS _ K => ?_⟩
        rw [List.map_cons, List.map_cons, List.map_cons, zeTr_r G h1]
        have he := hP.1 (a - 16) _ (zeW_get (G := G) h1 h2)
        rw [zeCell_l G hk] at he
        refine W.last hcx.1 hcx.2.1 he ((hcx.K.2 1 _ rfl).1 (zeLn μ a) (fun j => .long (zeLm μ a j))) (fun q => by cases q) (by show ¬ (j < 0 ∨ (arrV _ _ _).slots.size ≤ _); rw [arrV_size]; exact zeInb_in (zeCk_b hck)) rfl rfl hd fun H1 g1 g2 g3 => ?_
        refine K H1 _ (hP.put h1 h2 rfl (fun a' ha' => zeCell_lm (zeU2_ne ha')) ?_ g2 g3) (hS.put g2 g3 (zeA_ad G a))
        have e1 : zeCell G (zeCk (zeInb j (zeLn μ a)) (zeSLm (zeU2 (zeLm μ) a j.toNatClampNeg x) μ)) a = .inl (zeCA G 1, zeLn μ a, .inr (.inl (zeU2 (zeLm μ) a j.toNatClampNeg x a))) := zeCellR_l G hk
        rw [e1]
        show H1[_]? = some (vp_cell _ _)
        rw [g1, zeU2_eq, vp_cell_l, vp_cell_l, arrV_store]
        congr 2
        funext q
        by_cases hq : q = j.toNatClampNeg
        · subst hq
          simp [updV]
        · simp [updV, hq]
    · cases e
theorem zs_aastore {T : u_T} {N ci : Nat} (hc : zeCl[ci]? = some ("WagerQuiz$State", T, N)) (hd : decode (zeCod i) pc = .ok (.aastore, 1)) (hn : pc + 1 = n) : zeSnd G i pc (zoAst ci n) := by
  subst hn
  refine zs_wr (fun L st μ x e => ?_) fun L st μ pc' L' st' μ' e => ?_
  · unfold zoAst at e
    split at e
    · rename_i b j a st'
      cases hk : (Nat.beq (zeKd μ a) 45 && (Nat.beq (zeKd μ b) (ci + 1) && Nat.ble 16 b)) <;> rw [hk] at e
      · cases e
      · cases zeNx_i e
    · cases e
  · unfold zoAst at e
    split at e
    · rename_i b j a st'
      cases hk : (Nat.beq (zeKd μ a) 45 && (Nat.beq (zeKd μ b) (ci + 1) && Nat.ble 16 b)) <;> rw [hk] at e
      · cases e
      · cases zeNx_i e
        rw [Bool.and_eq_true, Bool.and_eq_true] at hk
        have hb16 := Nat.le_of_ble_eq_true hk.2.2
        have hkb := Nat.eq_of_beq_eq_true hk.2.1
        have hk := Nat.eq_of_beq_eq_true hk.1
        have hlt := zeCl_lt hc
        refine ⟨rfl, (zeMon.srm _ _).tr (zeMon.ck _ _), fun hck hw => ?_⟩
        obtain ⟨h1, h2⟩ := hw.new (a := a) (by omega) (by omega)
        obtain ⟨b1, b2⟩ := hw.new (a := b) (by omega) (by omega)
        refine ⟨hw.rm h1 (fun a' ha' => zeU2_ne ha') (fun j' b' hb' => ?_), fun p l e R s m args below meth c Q H locs ls n0 s0 hcx _ _ _ _ _ _ hP hS _ K => ?_⟩
        · rw [zeU2_eq] at hb'
          dsimp only at hb'
          split at hb'
          · cases hb'
            exact hb16
          · exact hw.2.2.2.1 a j' b' hb' h1
        · rw [List.map_cons, List.map_cons, List.map_cons, zeTr_r G h1, zeTr_r G hb16]
          have he := hP.1 (a - 16) _ (zeW_get (G := G) h1 h2)
          rw [zeCell_q G hk] at he
          have hbe := hP.1 (b - 16) _ (zeW_get (G := G) b1 b2)
          rw [zeCell_obj G hkb hlt] at hbe
          obtain ⟨r', hr', cellV, g1, g2, g3, -⟩ := hbe
          have hcls := (hcx.K.1 ci _ hc).2
          obtain ⟨kA, comp, k1, k2, k3, -⟩ := (hcx.K.2 5 _ rfl).2
          have hcomp : comp = (zeD G).1 ci := Option.some.inj (k3.symm.trans hcls.1)
          subst hcomp
          obtain ⟨kC, hkC, -⟩ := hcls.2
          have hin := zeInb_in (zeCk_b hck)
          refine W.aast hcx.1 hcx.2.1 he (fun q h => by cases h) (fun h => by cases h) k1 k2 rfl hkC ⟨fun q => hin (Or.inl q), by show _ < (arrV _ _ _).slots.size; rw [arrV_size]; exact Nat.not_le.mp fun q => hin (Or.inr q)⟩ g1 (fun q h => by rw [g3] at h; cases h) (by rw [g2]; exact hkC) (by rw [g2]; exact va_assign hcls) rfl rfl hd fun H1 e1 z oq => ?_
          refine K H1 _ (hP.put h1 h2 rfl (fun a' ha' => zeCell_rm (zeU2_ne ha')) ?_ z oq) (hS.put z oq (zeA_ad G a))
          have e2 : zeCell G (zeCk (zeInb j (zeLn μ a)) (zeSRm (zeU2 (zeRm μ) a j.toNatClampNeg (some b)) μ)) a = .inl (zeCA G 5, zeLn μ a, .inr (.inr (.inr (.inr (fun j' => (zeU2 (zeRm μ) a j.toNatClampNeg (some b) a j').map (zeAd G)))))) := zeCellR_q G hk
          rw [e2]
          show H1[_]? = some (vp_cell _ _)
          rw [e1, zeU2_eq, vp_cell_q, vp_cell_q, arrV_store]
          congr 2
          funext q
          by_cases hq : q = j.toNatClampNeg
          · subst hq
            simp [updV, va_rf]
          · simp [updV, hq]
    · cases e
end ZW
end
section
/-! SOUND OPS: new cells, arraycopy, Math, statics, constants -/
section ZN
variable {G : zeG} {i pc n : Nat}
theorem zeMon.new (kd ln sl : Nat) (μ : zeM) : zeMon μ (zeNew kd ln sl μ) := ⟨fun h => h, Nat.le_succ _, Nat.le_add_right _ _⟩
theorem zeU1_ne {α : Type} {f : Nat → α} {a : Nat} {x : α} {a' : Nat} (h : a' ≠ a) : zeU1 f a x a' = f a' := by
  simp [zeU1, h]
theorem zeU1_eq {α : Type} (f : Nat → α) (a : Nat) (x : α) : zeU1 f a x a = x := by
  simp [zeU1]
theorem zeWf.nw {μ : zeM} (h : zeWf G μ) {kd ln sl : Nat} (hk : kd < 100) : zeWf G (zeNew kd ln sl μ) := by
  refine ⟨fun k hk' => ?_, fun k hk' j => ?_, fun k hk' => ?_, fun k j b hb h16 => ?_, fun k hk' => ?_⟩
  · obtain ⟨e1, e2, e3, e4⟩ := h.1 k hk'
    have hne : k ≠ 16 + zeN μ := by omega
    exact ⟨(zeU1_ne hne).trans e1, (zeU1_ne hne).trans e2, fun j => (congrFun (zeU1_ne hne) j).trans (e3 j), fun j => (congrFun (zeU1_ne hne) j).trans (e4 j)⟩
  · by_cases hne : k = 16 + zeN μ
    · subst hne
      have : zeIm (zeNew kd ln sl μ) (16 + zeN μ) j = 0 := congrFun (zeU1_eq (zeIm μ) (16 + zeN μ) (fun _ => 0)) j
      rw [this]
      rfl
    · have e1 : zeIm (zeNew kd ln sl μ) k j = zeIm μ k j := congrFun (zeU1_ne hne) j
      have e2 : zeKd (zeNew kd ln sl μ) k = zeKd μ k := zeU1_ne hne
      rw [e1]
      rw [e2] at hk'
      exact h.2.1 k hk' j
  · by_cases hne : k = 16 + zeN μ
    · have e2 : zeKd (zeNew kd ln sl μ) k = kd := by rw [hne]; exact zeU1_eq _ _ _
      rw [e2]
      refine ⟨?_, Or.inl hk⟩
      show k < 16 + (zeN μ + 1)
      omega
    · have e2 : zeKd (zeNew kd ln sl μ) k = zeKd μ k := zeU1_ne hne
      rw [e2] at hk' ⊢
      obtain ⟨g1, g2⟩ := h.2.2.1 k hk'
      refine ⟨?_, g2⟩
      show k < 16 + (zeN μ + 1)
      omega
  · by_cases hne : k = 16 + zeN μ
    · have e2 : zeRm (zeNew kd ln sl μ) k j = none := by rw [hne]; exact congrFun (zeU1_eq (zeRm μ) (16 + zeN μ) (fun _ => none)) j
      rw [e2] at hb
      cases hb
    · have e2 : zeRm (zeNew kd ln sl μ) k j = zeRm μ k j := congrFun (zeU1_ne hne) j
      rw [e2] at hb
      exact h.2.2.2.1 k j b hb h16
  · have hne : k ≠ 16 + zeN μ := by omega
    have e2 : zeKd (zeNew kd ln sl μ) k = zeKd μ k := zeU1_ne hne
    rw [e2]
    exact h.2.2.2.2 k hk'
theorem zeCell_nw {μ : zeM} {kd ln sl a : Nat} (h : a ≠ 16 + zeN μ) : zeCell G (zeNew kd ln sl μ) a = zeCell G μ a := by
  show zeCellR G (zeU1 (zeKd μ) (16 + zeN μ) kd a) (zeU1 (zeLn μ) (16 + zeN μ) ln a) (zeU1 (zeRm μ) (16 + zeN μ) _ a) (zeU1 (zeIm μ) (16 + zeN μ) _ a) (zeU1 (zeLm μ) (16 + zeN μ) _ a) = _
  rw [zeU1_ne h, zeU1_ne h, zeU1_ne h, zeU1_ne h, zeU1_ne h]
  rfl
theorem zeCell_nwE (G : zeG) (μ : zeM) (kd ln sl : Nat) : zeCell G (zeNew kd ln sl μ) (16 + zeN μ) = zeCellR G kd ln (fun _ => none) (fun _ => 0) (fun _ => 0) := by
  show zeCellR G (zeU1 (zeKd μ) (16 + zeN μ) kd (16 + zeN μ)) (zeU1 (zeLn μ) (16 + zeN μ) ln (16 + zeN μ)) (zeU1 (zeRm μ) (16 + zeN μ) _ (16 + zeN μ)) (zeU1 (zeIm μ) (16 + zeN μ) _ (16 + zeN μ)) (zeU1 (zeLm μ) (16 + zeN μ) _ (16 + zeN μ)) = _
  rw [zeU1_eq, zeU1_eq, zeU1_eq, zeU1_eq, zeU1_eq]
theorem zePic.nw {μ : zeM} {kd ln sl : Nat} {H H1 : Heap} (h : zePic G μ H) (hc : va_at (zeD G) zeCl (zeN0 G + zeN μ, zeCellR G kd ln (fun _ => none) (fun _ => 0) (fun _ => 0)) H1) (hz : H1.size = H.size + 1) (hq : ∀ q : Nat, q < H.size → H1[q]? = H[q]?) : zePic G (zeNew kd ln sl μ) H1 := by
  refine ⟨?_, by rw [hz, h.2]; rfl⟩
  rw [zeW_push (μ := μ) rfl (fun a ha => zeCell_nw ha), zeCell_nwE]
  refine (h.1.kept fun k q hk => ?_).app fun k q hk => ?_
  · obtain ⟨h1, rfl⟩ := zeW_at hk
    exact hq _ (by rw [h.2]; show zeN0 G + k < _; omega)
  · have hz : k < 1 := (List.getElem?_eq_some_iff.mp hk).1
    rw [show k = 0 by omega] at hk
    cases hk
    exact hc
theorem va_S.nw {A : Nat → Prop} {H0 H H1 : Heap} {locs : List Loc} (h : va_S A H0 H locs) (z : H1.size = H.size + 1) (oq : ∀ q : Nat, q < H.size → H1[q]? = H[q]?) : va_S A H0 H1 locs :=
  ⟨by rw [z]; exact Nat.le_succ_of_le h.1, fun q h1 h2 => (oq q (Nat.lt_of_lt_of_le h1 h.1)).trans (h.2.1 q h1 h2), h.2.2⟩
theorem zs_new {own C : String} {T : u_T} {ty0 : Nat → FieldType} {N ci index : Nat} (ho : (zeNam i).cls = own) (hc : zeCl[ci]? = some (C, T, N)) (hin : ∀ w ∈ u_ws C T N, w ∈ zeBT) (hty : ∀ k, k < N → parseFieldDescriptor (T k).2.2.1 = some (ty0 k)) (hcl : Cond.classLink own index C ∈ zeBT) (hins : Cond.instantiable C N ∈ zeBT) (hini : Cond.initialized C ∈ zeBT) (hdf : ∀ j, j < N → vp_V (zeFs G (fun _ => none) (fun _ => 0) 0 (zeFL ci)) j = defaultValue (ty0 j)) (hd : decode (zeCod i) pc = .ok (.new index, 3)) (hn : pc + 3 = n) : zeSnd G i pc (zoNew ci N n) := by
  subst hn
  refine zs_wr (fun L st μ x e => by cases zeNx_i e) fun L st μ pc' L' st' μ' e => ?_
  cases zeNx_i e
  have hlt := zeCl_lt hc
  refine ⟨rfl, zeMon.new _ _ _ _, fun _ hw => ⟨hw.nw (by omega), fun p l e R s m args below meth c Q H locs ls n0 s0 hcx _ _ hcells hslots hn0 hs0 hP hS _ K => ?_⟩⟩
  have hKn := hcx.K.1 ci _ hc
  have e1 : zeN (zeNew (ci + 1) 0 N μ) - n0 = (zeN μ - n0) + 1 := by show zeN μ + 1 - n0 = _; omega
  have e2 : zeSl (zeNew (ci + 1) 0 N μ) - s0 = (zeSl μ - s0) + N := by show zeSl μ + N - s0 = _; omega
  rw [e1] at hcells
  rw [e2] at hslots
  refine W.newcK hcx.1 hcx.2.1 (ho ▸ hcx.own) (hcx.ws _ hcl) (hcx.ws _ hins) (hcx.ws _ hini) rfl hd hcells hslots hKn.2.1 hP.2 fun H1 kC hkC g1 z1 o1 => ?_
  have z1' : H1.size = H.size + 1 := by rw [z1, hP.2]
  have o1' : ∀ q : Nat, q < H.size → H1[q]? = H[q]? := fun q hq => o1 q (by rw [← hP.2]; exact hq)
  have K1 := K H1 locs (hP.nw (kd := ci + 1) (ln := 0) (sl := N) ?_ z1' o1') (hS.nw z1' o1')
  · rw [e1, e2, List.map_cons, zeTr_r G (Nat.le_add_right _ _), show zeAd G (16 + zeN μ) = zeN0 G + zeN μ by unfold zeAd; omega] at K1
    exact K1
  · rw [zeCellR_obj G rfl hlt]
    exact ⟨_, hc, (u_born ty0 hcx.ws hin hKn hkC g1 hty).to fun j hj => (hdf j hj).symm⟩
/-- a new array of ints, longs, bytes, chars or booleans -/
theorem zs_newarray {at_ : ArrayType} {t t0 : Nat} {ty : FieldType} (hat : newarray.typeOf at_ = ty) (ht : t = 40 + t0) (hty : ∀ G : zeG, (zeTY G)[t0]? = some (zeCA G t0, ty)) (hw1 : Cond.arrayClass ty ∈ zeBT) (hdef : ∀ (G : zeG) (cA : ClassId) (N : Nat), zeCellR G t N (fun _ => none) (fun _ => 0) (fun _ => 0) = .inl (zeCA G t0, zeArrR G t0 N (fun _ => none) (fun _ => 0) (fun _ => 0)) ∧ vp_cell cA (zeArrR G t0 N (fun _ => none) (fun _ => 0) (fun _ => 0)) = arrV cA N (fun _ => defaultValue ty)) (hcb : componentBytes ty ≤ 8) (hRA : ∀ (s : State) (cA : ClassId), va_RA s cA ty → s.vm.findClass ("[" ++ ty.toString) = some cA) (ht5 : t < 46) (hd : decode (zeCod i) pc = .ok (.newarray at_, 2)) (hn : pc + 2 = n) : zeSnd G i pc (zoNewa t n) := by
  subst hn
  subst hat
  refine zs_wr (fun L st μ x e => ?_) fun L st μ pc' L' st' μ' e => ?_
  · unfold zoNewa at e
    split at e
    · cases zeNx_i e
    · cases e
  · unfold zoNewa at e
    split at e
    · rename_i x st'
      cases zeNx_i e
      refine ⟨rfl, (zeMon.new _ _ _ _).tr (zeMon.ck _ _), fun hck hw => ⟨hw.nw (by omega), fun p l e R s m args below meth c Q H locs ls n0 s0 hcx _ _ hcells hslots hn0 hs0 hP hS _ K => ?_⟩⟩
      have hb := zeCk_b hck
      rw [Bool.and_eq_true] at hb
      have hx0 : ¬ x < 0 := fun q => by simp [q] at hb
      have hx1 := Nat.le_of_ble_eq_true hb.2
      have e1 : zeN (zeCk (!decide (x < 0) && Nat.ble x.toNatClampNeg 1000000) (zeNew t x.toNatClampNeg x.toNatClampNeg μ)) - n0 = (zeN μ - n0) + 1 := by show zeN μ + 1 - n0 = _; omega
      have e2 : zeSl (zeCk (!decide (x < 0) && Nat.ble x.toNatClampNeg 1000000) (zeNew t x.toNatClampNeg x.toNatClampNeg μ)) - s0 = (zeSl μ - s0) + x.toNatClampNeg := by show zeSl μ + _ - s0 = _; omega
      rw [e1] at hcells
      rw [e2] at hslots
      refine va_newaK hcx.1 hcx.2.1 (hcx.ws _ hw1) rfl hd rfl hx0 rfl (Nat.le_trans (Nat.mul_le_mul hx1 hcb) (by decide)) hcells hslots hP.2 fun H1 cA g1 z1 o1 hAr hNm => ?_
      have z1' : H1.size = H.size + 1 := by rw [z1, hP.2]
      have o1' : ∀ q : Nat, q < H.size → H1[q]? = H[q]? := fun q hq => o1 q (by rw [← hP.2]; exact hq)
      have hcA : cA = zeCA G t0 := Option.some.inj (hNm.symm.trans (hRA s _ (hcx.K.2 t0 _ (hty G)).2))
      have K1 := K H1 locs (hP.nw (kd := t) (ln := x.toNatClampNeg) (sl := x.toNatClampNeg) ?_ z1' o1') (hS.nw z1' o1')
      · rw [e1, e2, List.map_cons, zeTr_r G (Nat.le_add_right _ _), show zeAd G (16 + zeN μ) = zeN0 G + zeN μ by unfold zeAd; omega] at K1
        exact K1
      · rw [(hdef G cA _).1]
        show H1[_]? = some (vp_cell (zeCA G t0) _)
        rw [← hcA, (hdef G cA _).2]
        exact g1
    · cases e
/-- a new array of references to states -/
theorem zs_anewarray {own : String} {index : Nat} (ho : (zeNam i).cls = own) (hcl : Cond.classLink own index "WagerQuiz$State" ∈ zeBT) (hd : decode (zeCod i) pc = .ok (.anewarray index, 3)) (hn : pc + 3 = n) : zeSnd G i pc (zoNewa 45 n) := by
  subst hn
  refine zs_wr (fun L st μ x e => ?_) fun L st μ pc' L' st' μ' e => ?_
  · unfold zoNewa at e
    split at e
    · cases zeNx_i e
    · cases e
  · unfold zoNewa at e
    split at e
    · rename_i x st'
      cases zeNx_i e
      refine ⟨rfl, (zeMon.new _ _ _ _).tr (zeMon.ck _ _), fun hck hw => ⟨hw.nw (by decide), fun p l e R s m args below meth c Q H locs ls n0 s0 hcx _ _ hcells hslots hn0 hs0 hP hS _ K => ?_⟩⟩
      have hb := zeCk_b hck
      rw [Bool.and_eq_true] at hb
      have hx0 : ¬ x < 0 := fun q => by simp [q] at hb
      have hx1 := Nat.le_of_ble_eq_true hb.2
      have e1 : zeN (zeCk (!decide (x < 0) && Nat.ble x.toNatClampNeg 1000000) (zeNew 45 x.toNatClampNeg x.toNatClampNeg μ)) - n0 = (zeN μ - n0) + 1 := by show zeN μ + 1 - n0 = _; omega
      have e2 : zeSl (zeCk (!decide (x < 0) && Nat.ble x.toNatClampNeg 1000000) (zeNew 45 x.toNatClampNeg x.toNatClampNeg μ)) - s0 = (zeSl μ - s0) + x.toNatClampNeg := by show zeSl μ + _ - s0 = _; omega
      rw [e1] at hcells
      rw [e2] at hslots
      refine W.anew hcx.1 hcx.2.1 (ho ▸ hcx.own) (hcx.ws _ hcl) (va_AO.use hcx.sta.2.2.2.2.2.2.2.1) rfl hd rfl hx0 (Nat.le_trans (Nat.mul_le_mul hx1 (Nat.le_refl 4)) (by decide)) hcells hslots fun cA kA comp f1 f2 f3 f4 => ?_
      have hcA : cA = zeCA G 5 := by
        obtain ⟨kA', comp', k1, k2, k3, k4⟩ := (hcx.K.2 5 _ rfl).2
        first
          | exact Option.some.inj (f1.symm.trans k4)
          | exact Option.some.inj (f2.symm.trans k4)
          | exact Option.some.inj (f3.symm.trans k4)
          | exact Option.some.inj (f4.symm.trans k4)
      subst hcA
      have z1' : (H.push ({ cls := zeCA G 5, slots := Array.replicate x.toNatClampNeg .null, vm := .none } : Cell)).size = H.size + 1 := by simp
      have o1' : ∀ q : Nat, q < H.size → (H.push ({ cls := zeCA G 5, slots := Array.replicate x.toNatClampNeg .null, vm := .none } : Cell))[q]? = H[q]? := fun q hq => by rw [Array.getElem?_push, if_neg (Nat.ne_of_lt hq)]
      have K1 := K _ locs (hP.nw (kd := 45) (ln := x.toNatClampNeg) (sl := x.toNatClampNeg) ?_ z1' o1') (hS.nw z1' o1')
      · rw [e1, e2, List.map_cons, zeTr_r G (Nat.le_add_right _ _), show zeAd G (16 + zeN μ) = zeN0 G + zeN μ by unfold zeAd; omega, ← hP.2] at K1
        exact K1
      · rw [zeCellR_q G rfl, ← hP.2]
        show _ = some (vp_cell (zeCA G 5) _)
        rw [Array.getElem?_push_size, vp_cell_q, ← arrV_new]
        rfl
    · cases e
end ZN
end
section
/-! SOUND OPS: Math, statics, constants, Object.<init>, arraycopy -/
section ZX
variable {G : zeG} {i pc n : Nat}
theorem zeCats {G : zeG} (hG : zeGv G) : ∀ (st : List Value), ((st.map (zeTr G)).map fun v => v.category).sum ≤ 2 * st.length
  | [] => Nat.le_refl 0
  | v :: l => by
    have h1 := zeCats hG l
    have h2 : (zeTr G v).category ≤ 2 := by rcases lv_cat (zeTr G v) with h | h <;> omega
    simp only [List.map_cons, List.sum_cons, List.length_cons]
    omega
theorem zs_max {own : String} {index : Nat} (ho : (zeNam i).cls = own) (hlink : Cond.methodLink own index Lib.Math.max.name ∈ zeBT) (hstat : Cond.static Lib.Math.max.name ∈ zeBT) (hini : Cond.initialized "java/lang/Math" ∈ zeBT) (hcode : Cond.code Lib.Math.max.name Lib.Math.max.code 2 (some .int) ∈ zeBT) (hdp : 1 ≤ zeDp i) (hlc : 21 ≤ zeLc i) (hd : decode (zeCod i) pc = .ok (.invokestatic index, 3)) (hn : pc + 3 = n) : zeSnd G i pc (zoMax n) := by
  subst hn
  refine zs_st (fun L st μ x e => ?_) fun L st μ pc' L' st' μ' e => ?_
  · unfold zoMax at e
    split at e
    · rename_i y x st'
      cases hk : Nat.ble st'.length 4 <;> rw [hk] at e
      · cases e
      · cases zeNx_i e
    · cases e
  · unfold zoMax at e
    split at e
    · rename_i y x st'
      cases hk : Nat.ble st'.length 4 <;> rw [hk] at e
      · cases e
      · cases zeNx_i e
        have hk := Nat.le_of_ble_eq_true hk
        refine ⟨rfl, true, rfl, fun _ _ p l e R s m args below meth c Q H locs ls cells slots hcx hD hL hc hs _ _ hsz K => ?_⟩
        exact va_mmax hcx.1 hcx.2.1 (hcx.ml.trans hsz.symm) (ho ▸ hcx.own) (hcx.ws _ hlink) (hcx.ws _ hstat) (hcx.ws _ hini) (hcx.ws _ hcode) (by omega) (by have := zeCats hcx.gv st'; omega) hc hs hd K
    · cases e
theorem zs_min {own : String} {index : Nat} (ho : (zeNam i).cls = own) (hlink : Cond.methodLink own index Lib.Math.min.name ∈ zeBT) (hstat : Cond.static Lib.Math.min.name ∈ zeBT) (hini : Cond.initialized "java/lang/Math" ∈ zeBT) (hcode : Cond.code Lib.Math.min.name Lib.Math.min.code 2 (some .int) ∈ zeBT) (hdp : 1 ≤ zeDp i) (hlc : 21 ≤ zeLc i) (hd : decode (zeCod i) pc = .ok (.invokestatic index, 3)) (hn : pc + 3 = n) : zeSnd G i pc (zoMin n) := by
  subst hn
  refine zs_st (fun L st μ x e => ?_) fun L st μ pc' L' st' μ' e => ?_
  · unfold zoMin at e
    split at e
    · rename_i y x st'
      cases hk : Nat.ble st'.length 4 <;> rw [hk] at e
      · cases e
      · cases zeNx_i e
    · cases e
  · unfold zoMin at e
    split at e
    · rename_i y x st'
      cases hk : Nat.ble st'.length 4 <;> rw [hk] at e
      · cases e
      · cases zeNx_i e
        have hk := Nat.le_of_ble_eq_true hk
        refine ⟨rfl, true, rfl, fun _ _ p l e R s m args below meth c Q H locs ls cells slots hcx hD hL hc hs _ _ hsz K => ?_⟩
        exact va_mmin hcx.1 hcx.2.1 (hcx.ml.trans hsz.symm) (ho ▸ hcx.own) (hcx.ws _ hlink) (hcx.ws _ hstat) (hcx.ws _ hini) (hcx.ws _ hcode) (by omega) (by have := zeCats hcx.gv st'; omega) hc hs hd K
    · cases e
theorem zs_nn {off : Int} {t : Nat} (hd : decode (zeCod i) pc = .ok (.ifnonnull off, 3)) (ht : (pc : Int) + off = (t : Int)) : zeSnd G i pc (zoNn t) := by
  refine zs_st (fun L st μ x e => ?_) fun L st μ pc' L' st' μ' e => ?_
  · unfold zoNn at e
    split at e
    · rename_i a st'
      cases hk : Nat.blt 0 (zeKd μ a) <;> rw [hk] at e
      · cases e
      · cases zeNx_i e
    · cases e
  · unfold zoNn at e
    split at e
    · rename_i a st'
      cases hk : Nat.blt 0 (zeKd μ a) <;> rw [hk] at e
      · cases e
      · cases zeNx_i e
        refine ⟨rfl, true, rfl, fun _ hw p l e R s m args below meth c Q H locs ls cells slots hcx hD hL hc hs _ _ hsz K => ?_⟩
        have hk : 0 < zeKd μ a := Nat.le_of_ble_eq_true hk
        have : ∃ t, zeTr G (.ref a) = .ref t := by
          rcases Nat.lt_or_ge a 16 with h | h
          · rw [zeTr_o G h]
            have h1 := (hw.1 a h).1
            rcases (hcx.old a h).2.2.2 with h3 | h3 | h3 | h3
            · omega
            · obtain ⟨t, e1, -⟩ := (hcx.old a h).1 h3
              exact ⟨t, e1⟩
            · obtain ⟨t, e1, -⟩ := (hcx.old a h).2.1 h3
              exact ⟨t, e1⟩
            · obtain ⟨t, r, e1, -⟩ := (hcx.old a h).2.2.1 h3
              exact ⟨t, e1⟩
          · exact ⟨_, zeTr_r G h⟩
        obtain ⟨t0, ht0⟩ := this
        rw [List.map_cons, ht0]
        exact lv_ifnonnull hcx.1 hcx.2.1 hd ht K
    · cases e
theorem zs_obj {own : String} {index : Nat} (ho : (zeNam i).cls = own) (hlink : Cond.methodLink own index Lib.objectInit ∈ zeBT) (hinst : Cond.instanceMethod Lib.objectInit ∈ zeBT) (hcode : Cond.code Lib.objectInit ⟨#[0xb1]⟩ 1 none ∈ zeBT) (hdp : 1 ≤ zeDp i) (hlc : 20 ≤ zeLc i) (hd : decode (zeCod i) pc = .ok (.invokespecial index, 3)) (hn : pc + 3 = n) : zeSnd G i pc (zoObj n) := by
  subst hn
  refine zs_st (fun L st μ x e => ?_) fun L st μ pc' L' st' μ' e => ?_
  · unfold zoObj at e
    split at e
    · rename_i a st'
      cases hk : (Nat.blt 0 (zeKd μ a) && Nat.ble st'.length 4) <;> rw [hk] at e
      · cases e
      · cases zeNx_i e
    · cases e
  · unfold zoObj at e
    split at e
    · rename_i a st'
      cases hk : (Nat.blt 0 (zeKd μ a) && Nat.ble st'.length 4) <;> rw [hk] at e
      · cases e
      · cases zeNx_i e
        refine ⟨rfl, true, rfl, fun _ hw p l e R s m args below meth c Q H locs ls cells slots hcx hD hL hc hs _ _ hsz K => ?_⟩
        rw [Bool.and_eq_true] at hk
        have hk2 := Nat.le_of_ble_eq_true hk.2
        have hk : 0 < zeKd μ a := Nat.le_of_ble_eq_true hk.1
        have : ∃ t, zeTr G (.ref a) = .ref t := by
          rcases Nat.lt_or_ge a 16 with h | h
          · rw [zeTr_o G h]
            have h1 := (hw.1 a h).1
            rcases (hcx.old a h).2.2.2 with h3 | h3 | h3 | h3
            · omega
            · obtain ⟨t, e1, -⟩ := (hcx.old a h).1 h3
              exact ⟨t, e1⟩
            · obtain ⟨t, e1, -⟩ := (hcx.old a h).2.1 h3
              exact ⟨t, e1⟩
            · obtain ⟨t, r, e1, -⟩ := (hcx.old a h).2.2.1 h3
              exact ⟨t, e1⟩
          · exact ⟨_, zeTr_r G h⟩
        obtain ⟨t0, ht0⟩ := this
        rw [List.map_cons, ht0]
        refine W.objInit hcx.1 hcx.2.1 (ho ▸ hcx.own) (hcx.ws _ hlink) (hcx.ws _ hinst) (hcx.ws _ hcode) rfl (by rw [hcx.ml]; exact hsz) rfl hd (by omega) ?_ K
        have := zeCats hcx.gv st'
        show 2 * 0 + _ + 12 ≤ _
        omega
    · cases e
/-! statics and constants -/
theorem zs_gets {C nm d own : String} {v : Value} {index : Nat} (ho : (zeNam i).cls = own) (hZ : ∀ (s : State), zeSta G s s.heap → va_Z C nm d (zeTr G v) (zeA G) s s.heap) (hlink : Cond.fieldLink own index C nm d ∈ zeBT) (hd : decode (zeCod i) pc = .ok (.getstatic index, 3)) (hn : pc + 3 = n) : zeSnd G i pc (zoK v n) := by
  subst hn
  exact zs_K fun μ rest p l e R s m args below meth c Q H locs ls cells slots hcx _ _ _ _ _ hS _ K => va_gets hcx.1 hcx.2.1 (hZ s hcx.sta) hS (ho ▸ hcx.own) (hcx.ws _ hlink) (fun _ h => h) hd K
theorem zs_getsN {C nm d own host : String} {v : Value} {index : Nat} (ho : (zeNam i).cls = own) (hZ : ∀ (s : State), zeSta G s s.heap → va_Z C nm d (zeTr G v) (zeA G) s s.heap ∧ va_Nw (.fieldLinkNest own index C nm d host) s) (hd : decode (zeCod i) pc = .ok (.getstatic index, 3)) (hn : pc + 3 = n) : zeSnd G i pc (zoK v n) := by
  subst hn
  exact zs_K fun μ rest p l e R s m args below meth c Q H locs ls cells slots hcx _ _ _ _ _ hS _ K => va_getsN hcx.1 hcx.2.1 (hZ s hcx.sta).1 hS (ho ▸ hcx.own) ((hZ s hcx.sta).2.use rfl) (fun _ h => h) hd K
theorem zs_ldcS {own tx : String} {a index : Nat} (ho : (zeNam i).cls = own) (hZ : ∀ (s : State), zeSta G s s.heap → ∃ t, zeTr G (.ref a) = .ref t ∧ vk_R own index tx t s) (hd : decode (zeCod i) pc = .ok (.ldc index, 2)) (hn : pc + 2 = n) : zeSnd G i pc (zoK (.ref a) n) := by
  subst hn
  refine zs_K fun μ rest p l e R s m args below meth c Q H locs ls cells slots hcx _ _ _ _ _ hS _ K => ?_
  obtain ⟨t, e1, e2⟩ := hZ s hcx.sta
  rw [e1] at K
  exact va_ldcS hcx.1 hcx.2.1 (ho ▸ hcx.own) e2 hd K
/-! arraycopy of ints, of longs, of bytes out of an old array -/
theorem zeCpOk_of {sp dp k : Int32} {l0 l1 : Nat} (h : zeCpOk sp dp k l0 l1 = true) : ¬ sp < 0 ∧ ¬ dp < 0 ∧ ¬ k < 0 ∧ sp.toNatClampNeg + k.toNatClampNeg ≤ l0 ∧ dp.toNatClampNeg + k.toNatClampNeg ≤ l1 := by
  unfold zeCpOk at h
  rw [Bool.and_eq_true, Bool.and_eq_true, Bool.and_eq_true, Bool.and_eq_true] at h
  obtain ⟨h1, h2, h3, h4, h5⟩ := h
  exact ⟨fun q => by simp [q] at h1, fun q => by simp [q] at h2, fun q => by simp [q] at h3, Nat.le_of_ble_eq_true h4, Nat.le_of_ble_eq_true h5⟩
theorem zeNn {z : Int32} (hz : ¬ z < 0) : z.toInt = (z.toNatClampNeg : Int) := by
  have hz0 : (0 : Int) ≤ z.toInt := by
    have := Int32.not_lt.mp hz
    simpa using Int32.le_iff_toInt_le.mp this
  show z.toInt = ((z.toInt.toNat : Nat) : Int)
  omega
/-- what an arraycopy leaves: the target's cell is another, all else stays -/
theorem zw_copy {p : Program} {l : Launch} {e : Env} {R : Room} {s : State} {m : MethodId} {args : Array Value} {below : List Frame} {meth : Method} {c : Code} {H : Heap} {locs : List Loc} {cells slots : Nat} {Q : State → Prop} {cc : ByteArray} {ls : Array Slot} {rest : List Value}
    (hexec : p.tables.exec = Jvm.exec) (hb : c.code = cc) (hml : c.maxLocals = ls.size) {own : String} {index : Nat} (hown : s.vm.findClass own = some m.cls) (hlink : (Cond.methodLink own index arraycopyName).before args s = true) (hnat : (Cond.native arraycopyName).before args s = true) (hstat : (Cond.static arraycopyName).before args s = true) (hini : (Cond.initialized "java/lang/System").before args s = true)
    {a0 a : Nat} {cs cd cr : Cell} {ty : FieldType} (hc0 : H[a0]? = some cs) (hc1 : H[a]? = some cd) (h0 : s.isArrayOf cs ty) (h1 : s.isArrayOf cd ty) (hk0 : cs.vm ≠ .unknown) (hk1 : cd.vm ≠ .unknown) (hprim : refKind ty = false)
    {sp dp k : Int32} (g1 : ¬ sp < 0) (g2 : ¬ dp < 0) (g3 : ¬ k < 0) (g4 : sp.toNatClampNeg + k.toNatClampNeg ≤ cs.slots.size) (g5 : dp.toNatClampNeg + k.toNatClampNeg ≤ cd.slots.size) (hfit : ∀ j, j < k.toNatClampNeg → fits ty (cs.slots.getD (sp.toNatClampNeg + j) .null) = true ∧ ∀ b, cs.slots.getD (sp.toNatClampNeg + j) .null ≠ .ref b) (hcr : copied cs cd sp dp k = cr)
    (hframes : 1 ≤ R.frames) (hlocals : (rest.map fun v => v.category).sum + (nativeFrameWords "java/lang/System" "arraycopy" 5 + 11) ≤ R.locals) (hdg : decode cc pc = .ok (.invokestatic index, 3))
    (kk : ∀ (H1 : Heap) (locs1 : List Loc), H1[a]? = some cr → H1.size = H.size → (∀ q : Nat, q ≠ a → H1[q]? = H[q]?) → (∀ q ∈ locs1, q ∈ locs ∨ q.base = a) → W p l e R s m args below meth c H1 locs1 cells slots Q (F0 m (pc + 3) ls rest)) : W p l e R s m args below meth c H locs cells slots Q (F0 m pc ls (.int k :: .int dp :: .ref a :: .int sp :: .ref a0 :: rest)) := by
  subst hcr
  intro T hT X
  obtain ⟨u0, k0, hkk0, cm0, hkd0⟩ := h0
  obtain ⟨u1, k1, hkk1, cm1, hkd1⟩ := h1
  obtain ⟨vm', X', step⟩ := X.arraycopy hexec hown hlink hnat hstat hini (src := a0) (dst := a) (cs := cs) (cd := cd) (srcPos := sp) (destPos := dp) (n := k) (by rw [hT]; exact hc0) (by rw [hT]; exact hc1)
    u0 u1 hk0 hk1 hkk0 hkk1 hkd0 hkd1 (by simp [hprim]) g1 g2 g3
    (by rw [zeNn g1, zeNn g3]; omega)
    (by rw [zeNn g2, zeNn g3]; omega)
    (fun vm₁ _ j hj => ⟨(hfit j hj).1, by
      have := (hfit j hj).2
      cases hv : cs.slots.getD (sp.toNatClampNeg + j) .null <;> first | trivial | (rw [hv] at this; exact absurd rfl (this _))⟩)
    (g := F0 m pc ls (.int k :: .int dp :: .ref a :: .int sp :: .ref a0 :: rest)) rfl (by rw [hml]) (rest := rest) rfl (by rw [hb]; exact hdg) hframes (by show 2 * 0 + _ + _ ≤ _; omega)
  have hl : a < H.size := (Array.getElem?_eq_some_iff.mp hc1).1
  have hheap : ((T.setVm vm').setCell a (copied cs cd sp dp k)).heap = H.setIfInBounds a (copied cs cd sp dp k) := by rw [← hT]; rfl
  obtain ⟨t, a1, b1⟩ := kk _ _ (show (H.setIfInBounds a _)[a]? = some _ by simp [Array.getElem?_setIfInBounds, hl]) (by simp) (fun q hq => by simp [Array.getElem?_setIfInBounds, Ne.symm hq]) (fun q hq => by
      rcases List.mem_append.mp hq with h | h
      · exact Or.inl h
      · obtain ⟨z, -, hz⟩ := List.mem_map.mp h
        rw [← hz]
        exact Or.inr rfl) _ hheap X'
  exact ⟨t, step t a1, b1⟩
theorem va_S.put' {A : Nat → Prop} {H0 H H1 : Heap} {locs locs1 : List Loc} {a : Nat} (h : va_S A H0 H locs) (z : H1.size = H.size) (oq : ∀ q : Nat, q ≠ a → H1[q]? = H[q]?) (ha : A a) (hl : ∀ q ∈ locs1, q ∈ locs ∨ q.base = a) : va_S A H0 H1 locs1 := by
  refine ⟨by rw [z]; exact h.1, fun q h1 h2 => ?_, fun q hq => ?_⟩
  · rw [oq q (fun e => h2 (by rw [e]; exact ha))]
    exact h.2.1 q h1 h2
  · rcases hl q hq with h1 | h1
    · exact h.2.2 q h1
    · rw [h1]
      exact ha
theorem zeCpy_ne {α : Type} {f : Nat → Nat → α} {a0 sp a dp k a' : Nat} (h : a' ≠ a) : zeCpy f a0 sp a dp k a' = f a' := by
  funext j
  simp [zeCpy, h]
theorem zeCpy_eq {α : Type} (f : Nat → Nat → α) (a0 sp a dp k : Nat) : zeCpy f a0 sp a dp k a = va_cpy (f a0) (f a) sp dp k := by
  funext j
  simp [zeCpy, va_cpy]
theorem zs_copyI {own : String} {index t t0 : Nat} {ty : FieldType} (ht : t = 40 + t0) (h5 : t0 ≠ 5) (h1' : t0 ≠ 1) (h6 : t0 < 6) (hty : ∀ G : zeG, (zeTY G)[t0]? = some (zeCA G t0, ty)) (hprim : refKind ty = false) (hft : ∀ (μ : zeM), zeWf G μ → ∀ a, zeKd μ a = t → ∀ j, fits ty (.int (zeIm μ a j)) = true)
    (ho : (zeNam i).cls = own) (hlink : Cond.methodLink own index arraycopyName ∈ zeBT) (hnat : Cond.native arraycopyName ∈ zeBT) (hstat : Cond.static arraycopyName ∈ zeBT) (hini : Cond.initialized "java/lang/System" ∈ zeBT) (hdp : 1 ≤ zeDp i) (hlc : 30 ≤ zeLc i) (hd : decode (zeCod i) pc = .ok (.invokestatic index, 3)) (hn : pc + 3 = n) : zeSnd G i pc (zoCp t n) := by
  subst hn
  refine zs_wr (fun L st μ x e => ?_) fun L st μ pc' L' st' μ' e => ?_
  · unfold zoCp at e
    split at e
    · rename_i k dp a sp a0 st'
      cases hk : (Nat.beq (zeKd μ a) t && (Nat.beq (zeKd μ a0) t && Nat.ble st'.length 4)) <;> rw [hk] at e
      · cases e
      · cases zeNx_i e
    · cases e
  · unfold zoCp at e
    split at e
    · rename_i k dp a sp a0 st'
      cases hk : (Nat.beq (zeKd μ a) t && (Nat.beq (zeKd μ a0) t && Nat.ble st'.length 4)) <;> rw [hk] at e
      · cases e
      · cases zeNx_i e
        rw [Bool.and_eq_true, Bool.and_eq_true] at hk
        have hk4 := Nat.le_of_ble_eq_true hk.2.2
        have hk0 := Nat.eq_of_beq_eq_true hk.2.1
        have hk := Nat.eq_of_beq_eq_true hk.1
        refine ⟨rfl, (zeMon.sim _ _).tr (zeMon.ck _ _), fun hck hw => ?_⟩
        obtain ⟨h1, h2⟩ := hw.new (a := a) (by omega) (by omega)
        obtain ⟨b1, b2⟩ := hw.new (a := a0) (by omega) (by omega)
        obtain ⟨g1, g2, g3, g4, g5⟩ := zeCpOk_of (zeCk_b hck)
        refine ⟨hw.im h1 (fun a' ha' => zeCpy_ne ha') (fun h j => ?_), fun p l e R s m args below meth c Q H locs ls n0 s0 hcx hD hL _ _ _ _ hP hS hsz K => ?_⟩
        · have hw2 := hw.2.1
          rw [zeCpy_eq]
          unfold va_cpy
          split
          · exact hw2 a0 (Or.inl (by omega)) _
          · exact hw2 a (Or.inl h) j
        · simp only [List.map_cons, zeTr_i]
          rw [zeTr_r G h1, zeTr_r G b1]
          have he := hP.1 (a - 16) _ (zeW_get (G := G) h1 h2)
          have he0 := hP.1 (a0 - 16) _ (zeW_get (G := G) b1 b2)
          rw [zeCell_i G (hk.trans ht) h5 h1'] at he
          rw [zeCell_i G (hk0.trans ht) h5 h1'] at he0
          have hA := (hcx.K.2 t0 _ (hty G)).1
          refine zw_copy (cr := vp_cell (zeCA G t0) (zeLn μ a, .inl (va_cpy (zeIm μ a0) (zeIm μ a) sp.toNatClampNeg dp.toNatClampNeg k.toNatClampNeg))) hcx.1 hcx.2.1 (hcx.ml.trans hsz.symm) (ho ▸ hcx.own) (hcx.ws _ hlink) (hcx.ws _ hnat) (hcx.ws _ hstat) (hcx.ws _ hini) he0 he (hA _ (fun j => .int (zeIm μ a0 j))) (hA _ (fun j => .int (zeIm μ a j))) (fun h => by cases h) (fun h => by cases h) hprim g1 g2 g3 (by show _ ≤ (arrV _ _ _).slots.size; rw [arrV_size]; exact g4) (by show _ ≤ (arrV _ _ _).slots.size; rw [arrV_size]; exact g5) (fun j hj => ?_) (va_copied (fun z => .int z) _ _ (zeIm μ a0) (zeIm μ a) g4) (by omega) (by have := zeCats hcx.gv st'; show _ + (5 + 2 + 11) ≤ _; omega) hd fun H1 locs1 e1 z oq hl => ?_
          · have e : (vp_cell (zeCA G t0) (zeLn μ a0, .inl (zeIm μ a0))).slots.getD (sp.toNatClampNeg + j) .null = .int (zeIm μ a0 (sp.toNatClampNeg + j)) := by
              show (arrV _ _ (fun j => .int (zeIm μ a0 j))).slots.getD _ _ = _
              rw [Array.getD_eq_getD_getElem?, arrV_read _ _ (by omega)]
              rfl
            rw [e]
            exact ⟨hft μ hw a0 hk0 _, fun b h => by cases h⟩
          · refine K H1 _ (hP.put h1 h2 rfl (fun a' ha' => zeCell_im (zeCpy_ne ha')) ?_ z oq) (hS.put' z oq (zeA_ad G a) hl)
            have e2 : zeCell G (zeCk (zeCpOk sp dp k (zeLn μ a0) (zeLn μ a)) (zeSIm (zeCpy (zeIm μ) a0 sp.toNatClampNeg a dp.toNatClampNeg k.toNatClampNeg) μ)) a = .inl (zeCA G t0, zeLn μ a, .inl (zeCpy (zeIm μ) a0 sp.toNatClampNeg a dp.toNatClampNeg k.toNatClampNeg a)) := zeCellR_i G (hk.trans ht) h5 h1'
            rw [e2, zeCpy_eq]
            exact e1
    · cases e
theorem zs_copyL {own : String} {index : Nat} (ho : (zeNam i).cls = own) (hlink : Cond.methodLink own index arraycopyName ∈ zeBT) (hnat : Cond.native arraycopyName ∈ zeBT) (hstat : Cond.static arraycopyName ∈ zeBT) (hini : Cond.initialized "java/lang/System" ∈ zeBT) (hdp : 1 ≤ zeDp i) (hlc : 30 ≤ zeLc i) (hd : decode (zeCod i) pc = .ok (.invokestatic index, 3)) (hn : pc + 3 = n) : zeSnd G i pc (zoCpL n) := by
  subst hn
  refine zs_wr (fun L st μ x e => ?_) fun L st μ pc' L' st' μ' e => ?_
  · unfold zoCpL at e
    split at e
    · rename_i k dp a sp a0 st'
      cases hk : (Nat.beq (zeKd μ a) 41 && (Nat.beq (zeKd μ a0) 41 && Nat.ble st'.length 4)) <;> rw [hk] at e
      · cases e
      · cases zeNx_i e
    · cases e
  · unfold zoCpL at e
    split at e
    · rename_i k dp a sp a0 st'
      cases hk : (Nat.beq (zeKd μ a) 41 && (Nat.beq (zeKd μ a0) 41 && Nat.ble st'.length 4)) <;> rw [hk] at e
      · cases e
      · cases zeNx_i e
        rw [Bool.and_eq_true, Bool.and_eq_true] at hk
        have hk4 := Nat.le_of_ble_eq_true hk.2.2
        have hk0 := Nat.eq_of_beq_eq_true hk.2.1
        have hk := Nat.eq_of_beq_eq_true hk.1
        refine ⟨rfl, (zeMon.slm _ _).tr (zeMon.ck _ _), fun hck hw => ?_⟩
        obtain ⟨h1, h2⟩ := hw.new (a := a) (by omega) (by omega)
        obtain ⟨b1, b2⟩ := hw.new (a := a0) (by omega) (by omega)
        obtain ⟨g1, g2, g3, g4, g5⟩ := zeCpOk_of (zeCk_b hck)
        refine ⟨hw, fun p l e R s m args below meth c Q H locs ls n0 s0 hcx hD hL _ _ _ _ hP hS hsz K => ?_⟩
        · simp only [List.map_cons, zeTr_i]
          rw [zeTr_r G h1, zeTr_r G b1]
          have he := hP.1 (a - 16) _ (zeW_get (G := G) h1 h2)
          have he0 := hP.1 (a0 - 16) _ (zeW_get (G := G) b1 b2)
          rw [zeCell_l G hk] at he
          rw [zeCell_l G hk0] at he0
          have hA := (hcx.K.2 1 _ rfl).1
          refine zw_copy (cr := vp_cell (zeCA G 1) (zeLn μ a, .inr (.inl (va_cpy (zeLm μ a0) (zeLm μ a) sp.toNatClampNeg dp.toNatClampNeg k.toNatClampNeg)))) hcx.1 hcx.2.1 (hcx.ml.trans hsz.symm) (ho ▸ hcx.own) (hcx.ws _ hlink) (hcx.ws _ hnat) (hcx.ws _ hstat) (hcx.ws _ hini) he0 he (hA _ (fun j => .long (zeLm μ a0 j))) (hA _ (fun j => .long (zeLm μ a j))) (fun h => by cases h) (fun h => by cases h) rfl g1 g2 g3 (by show _ ≤ (arrV _ _ _).slots.size; rw [arrV_size]; exact g4) (by show _ ≤ (arrV _ _ _).slots.size; rw [arrV_size]; exact g5) (fun j hj => ?_) (va_copied (fun z => .long z) _ _ (zeLm μ a0) (zeLm μ a) g4) (by omega) (by have := zeCats hcx.gv st'; show _ + (5 + 2 + 11) ≤ _; omega) hd fun H1 locs1 e1 z oq hl => ?_
          · have e : (vp_cell (zeCA G 1) (zeLn μ a0, .inr (.inl (zeLm μ a0)))).slots.getD (sp.toNatClampNeg + j) .null = .long (zeLm μ a0 (sp.toNatClampNeg + j)) := by
              show (arrV _ _ (fun j => .long (zeLm μ a0 j))).slots.getD _ _ = _
              rw [Array.getD_eq_getD_getElem?, arrV_read _ _ (by omega)]
              rfl
            rw [e]
            exact ⟨rfl, fun b h => by cases h⟩
          · refine K H1 _ (hP.put h1 h2 rfl (fun a' ha' => zeCell_lm (zeCpy_ne ha')) ?_ z oq) (hS.put' z oq (zeA_ad G a) hl)
            have e2 : zeCell G (zeCk (zeCpOk sp dp k (zeLn μ a0) (zeLn μ a)) (zeSLm (zeCpy (zeLm μ) a0 sp.toNatClampNeg a dp.toNatClampNeg k.toNatClampNeg) μ)) a = .inl (zeCA G 1, zeLn μ a, .inr (.inl (zeCpy (zeLm μ) a0 sp.toNatClampNeg a dp.toNatClampNeg k.toNatClampNeg a))) := zeCellR_l G hk
            rw [e2, zeCpy_eq]
            exact e1
    · cases e
theorem zs_copyO {own : String} {index : Nat} (ho : (zeNam i).cls = own) (hlink : Cond.methodLink own index arraycopyName ∈ zeBT) (hnat : Cond.native arraycopyName ∈ zeBT) (hstat : Cond.static arraycopyName ∈ zeBT) (hini : Cond.initialized "java/lang/System" ∈ zeBT) (hdp : 1 ≤ zeDp i) (hlc : 30 ≤ zeLc i) (hd : decode (zeCod i) pc = .ok (.invokestatic index, 3)) (hn : pc + 3 = n) : zeSnd G i pc (zoCpO n) := by
  subst hn
  refine zs_wr (fun L st μ x e => ?_) fun L st μ pc' L' st' μ' e => ?_
  · unfold zoCpO at e
    split at e
    · rename_i k dp a sp a0 st'
      cases hk : (Nat.beq (zeKd μ a) 42 && (Nat.beq (zeKd μ a0) 102 && Nat.ble st'.length 4)) <;> rw [hk] at e
      · cases e
      · cases zeNx_i e
    · cases e
  · unfold zoCpO at e
    split at e
    · rename_i k dp a sp a0 st'
      cases hk : (Nat.beq (zeKd μ a) 42 && (Nat.beq (zeKd μ a0) 102 && Nat.ble st'.length 4)) <;> rw [hk] at e
      · cases e
      · cases zeNx_i e
        rw [Bool.and_eq_true, Bool.and_eq_true] at hk
        have hk4 := Nat.le_of_ble_eq_true hk.2.2
        have hk0 := Nat.eq_of_beq_eq_true hk.2.1
        have hk := Nat.eq_of_beq_eq_true hk.1
        refine ⟨rfl, (zeMon.sim _ _).tr (zeMon.ck _ _), fun hck hw => ?_⟩
        obtain ⟨h1, h2⟩ := hw.new (a := a) (by omega) (by omega)
        have b1 : a0 < 16 := by
          rcases (hw.2.2.1 a0 (by omega)).2 with h | h <;> omega
        obtain ⟨w1, w2, w3, w4⟩ := hw.1 a0 b1
        obtain ⟨g1, g2, g3, g4, g5⟩ := zeCpOk_of (zeCk_b hck)
        refine ⟨hw.im h1 (fun a' ha' => zeCpy_ne ha') (fun h j => ?_), fun p l e R s m args below meth c Q H locs ls n0 s0 hcx hD hL _ _ _ _ hP hS hsz K => ?_⟩
        · rw [zeCpy_eq]
          unfold va_cpy
          split
          · exact hw.2.1 a0 (Or.inr hk0) _
          · exact hw.2.1 a (Or.inl h) j
        · simp only [List.map_cons, zeTr_i]
          obtain ⟨t0, e0, hT, -⟩ := (hcx.old a0 b1).2.1 (by omega)
          rw [zeTr_r G h1, zeTr_o G b1, e0]
          have he := hP.1 (a - 16) _ (zeW_get (G := G) h1 h2)
          rw [zeCell_i G (t := 2) hk (by decide) (by decide)] at he
          have hA := (hcx.K.2 2 _ rfl).1
          have hf0 : zeIm μ a0 = zeOi G a0 := funext w3
          obtain ⟨scr, q1, q2, q3, q4, q5, q6, q7⟩ := hT
          have q1' : H[t0]? = some scr := by rw [hS.2.1 t0 (Array.getElem?_eq_some_iff.mp q1).1 q7]; exact q1
          rw [w2] at g4
          refine zw_copy (cr := vp_cell (zeCA G 2) (zeLn μ a, .inl (va_cpy (zeOi G a0) (zeIm μ a) sp.toNatClampNeg dp.toNatClampNeg k.toNatClampNeg))) hcx.1 hcx.2.1 (hcx.ml.trans hsz.symm) (ho ▸ hcx.own) (hcx.ws _ hlink) (hcx.ws _ hnat) (hcx.ws _ hstat) (hcx.ws _ hini) q1' he q2 (hA _ (fun j => .int (zeIm μ a j))) q3 (fun h => by cases h) rfl g1 g2 g3 (Nat.le_trans g4 q4) (by show _ ≤ (arrV _ _ _).slots.size; rw [arrV_size]; exact g5) (fun j hj => ?_) (va_copiedX (fun z => .int z) scr _ (zeOi G a0) (zeIm μ a) q6 g4) (by omega) (by have := zeCats hcx.gv st'; show _ + (5 + 2 + 11) ≤ _; omega) hd fun H1 locs1 e1 z oq hl => ?_
          · have e : scr.slots.getD (sp.toNatClampNeg + j) .null = .int (zeOi G a0 (sp.toNatClampNeg + j)) := by
              rw [Array.getD_eq_getD_getElem?, q6 _ (by omega)]
              rfl
            rw [e, ← w3]
            exact ⟨hw.2.1 a0 (Or.inr hk0) _, fun b h => by cases h⟩
          · refine K H1 _ (hP.put h1 h2 rfl (fun a' ha' => zeCell_im (zeCpy_ne ha')) ?_ z oq) (hS.put' z oq (zeA_ad G a) hl)
            have e2 : zeCell G (zeCk (zeCpOk sp dp k (zeLn μ a0) (zeLn μ a)) (zeSIm (zeCpy (zeIm μ) a0 sp.toNatClampNeg a dp.toNatClampNeg k.toNatClampNeg) μ)) a = .inl (zeCA G 2, zeLn μ a, .inl (zeCpy (zeIm μ) a0 sp.toNatClampNeg a dp.toNatClampNeg k.toNatClampNeg a)) := zeCellR_i G (t := 2) hk (by decide) (by decide)
            rw [e2, zeCpy_eq, hf0]
            exact e1
    · cases e
end ZX
end
section
/-! ENDS AND CALLS -/
section ZE
variable {G : zeG} {i pc n : Nat}
/-- an end: the frame before the return, the answer on the stack -/
theorem zs_end {op : zeOp} (hk : decode (zeCod i) pc = .ok (zeRk i, 1)) (h1 : ∀ L st μ x, op L st μ ≠ some (.inl x)) (h2 : ∀ L st μ x, op L st μ ≠ some (.inr (.inr x)))
    (h3 : ∀ L st μ v μ', op L st μ = some (.inr (.inl (v, μ'))) → (v.map (zeTr G)).toList = st.map (zeTr G) ∧ ∃ b, μ' = zeCk b μ ∧ (b = true → zeRok i v)) : zeSnd G i pc op := by
  intro L st μ
  refine ⟨fun pc' L' st' μ' h => absurd h (h1 _ _ _ _), fun v μ' h => ?_, fun j as pc' L' st' μ' h => absurd h (h2 _ _ _ _)⟩
  obtain ⟨e1, b, rfl, e2⟩ := h3 L st μ v μ' h
  refine ⟨zeMon.ck b μ, fun hb hw => ⟨hw, ?_⟩⟩
  intro p l e R s m args below meth c Q n0 s0 hcx hd hl hn0 hs0 hret hc hs H locs ls hP hS hL hN
  rw [← e1]
  exact hret H locs ls pc (e2 (zeCk_b hb)) hk hP hS
theorem zs_ireturn (hr : zeRt i = some .int) (hk : decode (zeCod i) pc = .ok (zeRk i, 1)) : zeSnd G i pc zoRetI := by
  refine zs_end hk (fun L st μ x e => ?_) (fun L st μ x e => ?_) fun L st μ v μ' e => ?_
  · unfold zoRetI at e
    split at e <;> cases e
  · unfold zoRetI at e
    split at e <;> cases e
  · unfold zoRetI at e
    split at e
    · rename_i x
      cases e
      refine ⟨rfl, true, rfl, fun _ => ?_⟩
      unfold zeRok
      rw [hr]
      exact ⟨x, rfl⟩
    · cases e
theorem zs_zreturn {ty : FieldType} (hr : zeRt i = some ty) (hty : ty = .boolean ∨ ty = .char ∨ ty = .byte) (hk : decode (zeCod i) pc = .ok (zeRk i, 1)) : zeSnd G i pc (zoRetS ty) := by
  refine zs_end hk (fun L st μ x e => ?_) (fun L st μ x e => ?_) fun L st μ v μ' e => ?_
  · unfold zoRetS at e
    split at e <;> cases e
  · unfold zoRetS at e
    split at e <;> cases e
  · unfold zoRetS at e
    split at e
    · rename_i x
      cases e
      refine ⟨rfl, _, rfl, fun hb => ?_⟩
      have hb : vp_nar ty x = x := by simpa [zeNok] using hb
      unfold zeRok
      rw [hr]
      rcases hty with rfl | rfl | rfl
      · exact ⟨x, rfl, congrArg Value.int hb⟩
      · exact ⟨x, rfl, congrArg Value.int hb⟩
      · exact ⟨x, rfl, congrArg Value.int hb⟩
    · cases e
theorem zs_areturn {ty : FieldType} (hr : zeRt i = some ty) (hty : (∃ nm, ty = .object nm) ∨ ∃ t, ty = .array t) (hk : decode (zeCod i) pc = .ok (zeRk i, 1)) : zeSnd G i pc zoRetA := by
  refine zs_end hk (fun L st μ x e => ?_) (fun L st μ x e => ?_) fun L st μ v μ' e => ?_
  · unfold zoRetA at e
    split at e
    · rename_i a
      cases hk : Nat.ble 16 a <;> rw [hk] at e <;> cases e
    · cases e
  · unfold zoRetA at e
    split at e
    · rename_i a
      cases hk : Nat.ble 16 a <;> rw [hk] at e <;> cases e
    · cases e
  · unfold zoRetA at e
    split at e
    · rename_i a
      cases hk : Nat.ble 16 a <;> rw [hk] at e
      · cases e
      · cases e
        refine ⟨rfl, true, rfl, fun _ => ?_⟩
        unfold zeRok
        rw [hr]
        rcases hty with ⟨nm, rfl⟩ | ⟨t, rfl⟩
        · exact ⟨a, rfl, Nat.le_of_ble_eq_true hk⟩
        · exact ⟨a, rfl, Nat.le_of_ble_eq_true hk⟩
    · cases e
theorem zs_return (hr : zeRt i = none) (hk : decode (zeCod i) pc = .ok (zeRk i, 1)) : zeSnd G i pc zoRetV := by
  refine zs_end hk (fun L st μ x e => ?_) (fun L st μ x e => ?_) fun L st μ v μ' e => ?_
  · unfold zoRetV at e
    split at e <;> cases e
  · unfold zoRetV at e
    split at e <;> cases e
  · unfold zoRetV at e
    split at e
    · cases e
      refine ⟨rfl, true, rfl, fun _ => ?_⟩
      unfold zeRok
      rw [hr]
    · cases e
/-! a method's contract for one run -/
theorem zeEnt_ll (G : zeG) : ∀ (as : List Value) (k r : Nat), (∀ v ∈ as, zeCat1 v = true) → zeGv G → zeLl G k (as.map some ++ List.replicate r none) = lv_args k (as.map (zeTr G))
  | [], k, r, _, _ => by
    have : ∀ (r k : Nat), zeLl G k (List.replicate r none) = [] := by
      intro r
      induction r with
      | zero => intro k; rfl
      | succ r ih => intro k; exact ih (k + 1)
    exact this r k
  | v :: l, k, r, h, hG => by
    have h1 := zeTr_cat hG (h v List.mem_cons_self)
    show (k, zeTr G v) :: zeLl G (k + 1) _ = (k, zeTr G v) :: lv_args (if (zeTr G v).category = 2 then k + 2 else k + 1) _
    rw [if_neg (by omega)]
    exact congrArg (fun z => (k, zeTr G v) :: z) (zeEnt_ll G l (k + 1) r (fun w hw => h w (List.mem_cons_of_mem _ hw)) hG)
theorem zeSl_len (G : zeG) (hG : zeGv G) : ∀ (as : List Value), (∀ v ∈ as, zeCat1 v = true) → (lg_sl (as.map (zeTr G))).length = as.length
  | [], _ => rfl
  | v :: l, h => by
    have h1 := zeTr_cat hG (h v List.mem_cons_self)
    have h2 := zeSl_len G hG l (fun w hw => h w (List.mem_cons_of_mem _ hw))
    unfold lg_sl at h2 ⊢
    rw [List.map_cons, List.flatMap_cons, List.length_append, h2, if_neg (by omega)]
    simp
    omega
theorem zeGet_ent : ∀ (as : List Value) (r k : Nat) (v : Value), zeGet (as.map some ++ List.replicate r none) k = some v → v ∈ as
  | [], r, k, v, h => by
    exfalso
    have : ∀ (r k : Nat), zeGet (List.replicate r none) k = none := by
      intro r
      induction r with
      | zero => intro k; cases k <;> rfl
      | succ r ih =>
        intro k
        cases k with
        | zero => rfl
        | succ k => exact ih k
    rw [List.map_nil, List.nil_append, this r k] at h
    cases h
  | a :: l, r, 0, v, h => by
    cases h
    exact List.mem_cons_self
  | a :: l, r, k + 1, v, h => List.mem_cons_of_mem _ (zeGet_ent l r k v h)
/-- what a method of ours needs of the tables (all of it decided once a method) -/
def zeMok (j : Nat) : Prop := plainName (zeNam j).cls = true ∧ ((zeRt j = none ∧ zeRk j = .return_) ∨ (zeRt j = some .int ∧ zeRk j = .ireturn) ∨ ((zeRt j = some .boolean ∨ zeRt j = some .char ∨ zeRt j = some .byte) ∧ zeRk j = .ireturn) ∨ (((∃ nm, zeRt j = some (.object nm)) ∨ ∃ t, zeRt j = some (.array t)) ∧ zeRk j = .areturn))
def zeRoom (j : Nat) (μ μ1 : zeM) : Room := { frames := zeDp j, cells := zeN μ1 - zeN μ, slots := zeSl μ1 - zeSl μ, locals := zeLc j }
def zeWs (j : Nat) : List Cond := .code (zeNam j) (zeCod j) (zeNl j) (zeRt j) :: zeBT
def zePc (G : zeG) (as : List Value) (μ : zeM) : Array Value → State → Prop := fun a U => a = (as.map (zeTr G)).toArray ∧ zePic G μ U.heap ∧ va_K (zeD G) zeCl (zeTY G) U ∧ zeOldA G U U.heap ∧ zeSta G U U.heap
def zeQc (G : zeG) (v : Option Value) (μ1 : zeM) : Array Value → State → Outcome → State → Prop := fun _ st o t => o = .returned (v.map (zeTr G)) ∧ zePic G μ1 t.heap ∧ va_F (zeA G) st t
theorem zeMet {j : Nat} {as : List Value} {v : Option Value} {μ μ1 : zeM} (l : Launch) (hG : zeGv G) (hok : zeMok j) (hcat : ∀ v ∈ as, zeCat1 v = true) (hlen : as.length ≤ zeNl j) (hgo : zeGO G j v μ1 0 (zeEnt (zeNl j) as) [] μ) : Met l (zeNam j) (zeWs j) (zeRoom j μ μ1) (zePc G as μ) (zeQc G v μ1) (zeN μ1 - zeN μ) (zeSl μ1 - zeSl μ) (zeA G) := by
  refine Met.ofW (cc := zeCod j) (maxL := zeNl j) (ret := zeRt j) hok.1 rfl ?_
  intro p e s m args below meth c s₁ B hml hv
  obtain ⟨rfl, hP, hK, hO, hZ⟩ := hv
  have hts : ∀ w ∈ zeWs j, w.before _ s = true := atoms_spec (ws := zeWs j) B.pre
  have hcx : zeCx G j p s m (as.map (zeTr G)).toArray meth c := ⟨B.exec, B.bytes, hml, findClass_of_methodNamed B.named, fun w hw => hts w (List.mem_cons_of_mem _ hw), hK, hO, hZ, (name_of_methodNamed B.named B.method).1, fun q hq => by show zeN0 G ≤ q; have := hP.2; omega, hG⟩
  have hl := lv_entry (as.map (zeTr G)) (n := zeNl j) (by rw [zeSl_len G hG as hcat]; exact hlen)
  rw [lg_entry_eq]
  generalize (lg_sl (as.map (zeTr G)) ++ List.replicate (zeNl j - (lg_sl (as.map (zeTr G))).length) Slot.unset).toArray = ls at hl ⊢
  have hL : zeLH G ls (zeNl j) (zeEnt (zeNl j) as) := by
    show lv_has ls (zeNl j) (zeLl G 0 (as.map some ++ _))
    rw [zeEnt_ll G as 0 _ hcat hG]
    exact hl
  have hN : zeNL j (zeEnt (zeNl j) as) := fun _ k w hw => hcat w (zeGet_ent as _ k w hw)
  have key := hgo p l e (headSpec (zeWs j) (zeRoom j μ μ1)).room s m (as.map (zeTr G)).toArray below meth c (MQ below (zeQc G v μ1) (as.map (zeTr G)).toArray s (zeN μ1 - zeN μ) (zeSl μ1 - zeSl μ) (zeA G)) (zeN μ) (zeSl μ) hcx (Nat.le_refl _) (Nat.le_refl _) (Nat.le_refl _) (Nat.le_refl _) ?_ (Nat.le_refl _) (Nat.le_refl _) s.heap [] ls hP va_S.rf hL hN
  · rw [Nat.sub_self, Nat.sub_self] at key
    exact key
  · intro H locs ls' pcr hrk hdec hP1 hS1
    have hlocks := B.notSynchronized
    have hr := B.returns
    have hq : ∀ t : State, t.heap = H → zePic G μ1 t.heap ∧ va_F (zeA G) s t := fun t ht => ⟨by rw [ht]; exact hP1, hS1.F ht⟩
    unfold zeRok at hrk
    rcases hok.2 with ⟨h1, h2⟩ | ⟨h1, h2⟩ | ⟨h1, h2⟩ | ⟨h1, h2⟩
    · rw [h1] at hrk hr
      rw [h2] at hdec
      subst hrk
      exact W.vret B.exec B.bytes hr (fun t ht _ => ⟨rfl, hq t ht⟩) hS1.2.2 hdec hlocks
    · rw [h1] at hrk hr
      rw [h2] at hdec
      obtain ⟨x, rfl⟩ := hrk
      exact W.iret B.exec B.bytes hr (fun t ht _ => ⟨rfl, hq t ht⟩) hS1.2.2 hdec hlocks
    · rw [h2] at hdec
      rcases h1 with h1 | h1 | h1 <;> rw [h1] at hrk hr <;> obtain ⟨x, rfl, hx⟩ := hrk
      · exact W.zret B.exec B.bytes hr hx (fun t ht _ => ⟨rfl, hq t ht⟩) hS1.2.2 hdec hlocks
      · exact W.zret B.exec B.bytes hr hx (fun t ht _ => ⟨rfl, hq t ht⟩) hS1.2.2 hdec hlocks
      · exact W.zret B.exec B.bytes hr hx (fun t ht _ => ⟨rfl, hq t ht⟩) hS1.2.2 hdec hlocks
    · rw [h2] at hdec
      rcases h1 with ⟨nm, h1⟩ | ⟨t, h1⟩ <;> rw [h1] at hrk hr <;> obtain ⟨a, rfl, ha⟩ := hrk
      · have e1 : ((some (Value.ref a)).map (zeTr G)).toList = [Value.ref (zeAd G a)] := congrArg (fun z => [z]) (zeTr_r G ha)
        rw [e1]
        exact W.aret B.exec B.bytes hr (Or.inl ⟨_, rfl⟩) (Or.inr ⟨_, rfl⟩) (fun t ht _ => ⟨congrArg (fun z => Outcome.returned (some z)) (zeTr_r G ha).symm, hq t ht⟩) hS1.2.2 hdec hlocks
      · have e1 : ((some (Value.ref a)).map (zeTr G)).toList = [Value.ref (zeAd G a)] := congrArg (fun z => [z]) (zeTr_r G ha)
        rw [e1]
        exact W.aret B.exec B.bytes hr (Or.inr ⟨_, rfl⟩) (Or.inr ⟨_, rfl⟩) (fun t ht _ => ⟨congrArg (fun z => Outcome.returned (some z)) (zeTr_r G ha).symm, hq t ht⟩) hS1.2.2 hdec hlocks
end ZE
end
section
/-! CALLS -/
theorem zeWs_good {j : Nat} (h : Cond.code (zeNam j) (zeCod j) (zeNl j) (zeRt j) ∈ zeBT) : GoodIn zeBT (zeWs j) := by
  intro w hw
  have hm : w ∈ zeBT := by
    rcases List.mem_cons.mp hw with rfl | hw
    · exact h
    · exact hw
  exact ⟨hm, good_of_word (zeBT_good w hm)⟩
theorem zeGood {w : Cond} (h : w ∈ zeBT) : w ∈ zeBT ∧ ((w.onTables && w.keeps) = true ∨ ∃ ty, w = .arrayClass ty) := ⟨h, good_of_word (zeBT_good w h)⟩
theorem zeGoods {ws : List Cond} (h : ∀ w ∈ ws, w ∈ zeBT) : GoodIn zeBT ws := fun w hw => zeGood (h w hw)
/-- behind a call of ours -/
theorem zw_call {G : zeG} {v1 : Option Value} {μ1 : zeM} {p : Program} {l : Launch} {e : Env} {R : Room} {s : State} {m : MethodId} {args : Array Value} {below : List Frame} {meth : Method} {c : Code} {H : Heap} {locs : List Loc} {cells slots mc ms : Nat} {Q : State → Prop} {pc : Nat} {ls : Array Slot} {rest st0 : List Value} {a : Array Value}
    (hr : va_Run p l e R s m args below meth c H locs cells slots mc ms (F0 m pc ls st0) rest (zeQc G v1 μ1 a) (zeA G)) (hS : va_S (zeA G) s.heap H locs)
    (kk : ∀ (H1 : Heap) (locs1 : List Loc), zePic G μ1 H1 → va_S (zeA G) s.heap H1 locs1 → W p l e R s m args below meth c H1 locs1 (cells + mc) (slots + ms) Q (F0 m (pc + 3) ls ((v1.map (zeTr G)).toList ++ rest))) : W p l e R s m args below meth c H locs cells slots Q (F0 m pc ls st0) := by
  intro T hT X
  obtain ⟨v, st₀, t, T', L, h0, X', hL, e1, e2, ⟨hv, hP, hz, hk⟩, st⟩ := hr T hT X
  cases hv
  rw [h0] at hz hk
  obtain ⟨t2, a1, b1⟩ := kk T'.heap (locs ++ L) (by rw [e1]; exact hP) ⟨Nat.le_trans hS.1 (by rw [e1]; exact hz), fun q h1 h2 => by rw [e1, hk q (Nat.lt_of_lt_of_le h1 hS.1) h2]; exact hS.2.1 q h1 h2, fun q hq => by
      rcases List.mem_append.mp hq with h | h
      · exact hS.2.2 q h
      · exact hL q h⟩ T' rfl X'
  exact ⟨t2, st t2 a1, b1⟩
theorem zePc_blind {G : zeG} {as : List Value} {μ : zeM} : FrameBlind (zePc G as μ) := by
  intro a U g mk h
  obtain ⟨h1, h2, h3, h4, h5⟩ := h
  exact ⟨h1, h2, va_K.moved (u := U) (U := U.calling g mk a) (Vm.Alike.refl U.vm) h3, zeOldA.to (u := U) (U := U.calling g mk a) (Vm.Alike.refl U.vm) (fun _ _ _ => rfl) h4, by
    obtain ⟨g1, g2, g3, g4, g5, ⟨t, g6, g6'⟩, ⟨t2, g7, g7'⟩, g8, g9, g10, g11, g12, g13, g14, g15⟩ := h5
    have hvm : U.vm.Alike (U.calling g mk a).vm := Vm.Alike.refl U.vm
    exact ⟨g1.moved hvm, g2.moved hvm, g3.moved hvm, g4.moved hvm, g5.moved hvm, ⟨t, g6, g6'.same rfl⟩, ⟨t2, g7, g7'.same rfl⟩, g8.moved hvm, g9.same rfl rfl, g10.same rfl rfl, g11.same rfl rfl, g12.same rfl rfl, g13.same rfl rfl, g14.same rfl rfl, g15.same rfl rfl⟩⟩
theorem zePc_at {G : zeG} {i : Nat} {as : List Value} {μ : zeM} {p : Program} {s : State} {m : MethodId} {args : Array Value} {meth : Method} {c : Code} {H : Heap} {locs : List Loc} (hcx : zeCx G i p s m args meth c) (hP : zePic G μ H) (hS : va_S (zeA G) s.heap H locs) (U : State) (hU : U.heap = H) (hW : s.WarmedH U.vm) : zePc G as μ (as.map (zeTr G)).toArray U :=
  ⟨rfl, by rw [hU]; exact hP, va_K.moved hW.alike hcx.K, by rw [hU]; exact zeOldA.to hW.alike (fun a h1 h2 => hS.2.1 a h1 h2) hcx.old, by rw [hU]; exact zeSta.to hW (fun a h1 h2 => hS.2.1 a h1 h2) hcx.sta⟩
theorem zeAr_st : ∀ (k : Nat) (as st as' st' : List Value), zeAr k as st = some (as', st') → ∃ bs, as' = bs ++ as ∧ st = bs.reverse ++ st' ∧ bs.length = k
  | 0, as, st, as', st', h => by
    cases h
    exact ⟨[], rfl, rfl, rfl⟩
  | k + 1, as, v :: st, as', st', h => by
    obtain ⟨bs, h1, h2, h3⟩ := zeAr_st k (v :: as) st as' st' h
    exact ⟨bs ++ [v], by simp [h1], by simp [h2], by simp [h3]⟩
  | k + 1, as, [], as', st', h => by cases h
/-- what the callee's tables say for a call -/
def zeCw (i f k : Nat) : Prop := zeMok f ∧ Cond.code (zeNam f) (zeCod f) (zeNl f) (zeRt f) ∈ zeBT ∧ Cond.initialized (zeNam f).cls ∈ zeBT ∧ ((zeNam f).cls ≠ "java/lang/invoke/MethodHandle" ∧ (zeNam f).cls ≠ "java/lang/invoke/VarHandle" ∧ (parseMethodDescriptor (zeNam f).desc).map (fun d => d.parameters.length) = some k) ∧ zeDp f + 1 ≤ zeDp i ∧ 8 + (zeNl f + 11) + zeLc f ≤ zeLc i
section ZC
variable {G : zeG} {i pc n f k : Nat}
/-- a call: what the kit's row of its kind gives -/
theorem zs_callS (hlen : k ≤ zeNl f) (hok : zeMok f) (hrun : ∀ (p : Program) (l : Launch) (e : Env) (R : Room) (s : State) (m : MethodId) (args : Array Value) (below : List Frame) (meth : Method) (c : Code) (H : Heap) (locs : List Loc) (ls : Array Slot) (cells slots mc ms : Nat) (as : List Value) (μ : zeM) (rest : List Value) (v1 : Option Value) (μ1 : zeM),
      zeCx G i p s m args meth c → zeDp i ≤ R.frames → zeLc i ≤ R.locals → ls.size = zeNl i → as.length = k → Met l (zeNam f) (zeWs f) (zeRoom f μ μ1) (zePc G as μ) (zeQc G v1 μ1) (zeN μ1 - zeN μ) (zeSl μ1 - zeSl μ) (zeA G) → zePic G μ H → va_S (zeA G) s.heap H locs → (rest.map fun v => v.category).sum ≤ 8 → cells + (zeN μ1 - zeN μ) ≤ R.cells ∧ slots + (zeSl μ1 - zeSl μ) ≤ R.slots →
      va_Run p l e R s m args below meth c H locs cells slots (zeN μ1 - zeN μ) (zeSl μ1 - zeSl μ) (F0 m pc ls ((as.map (zeTr G)).reverse ++ rest)) rest (zeQc G v1 μ1 (as.map (zeTr G)).toArray) (zeA G)) : zeSnd G i pc (zoCs f k (pc + 3)) := by
  intro L st μ
  refine ⟨fun pc' L' st' μ' h => ?_, fun v μ' h => ?_, fun j as pc' L' st' μ' h => ?_⟩
  · unfold zoCs at h
    split at h
    · rename_i as st9 hz
      cases hb : (Nat.ble st9.length 4 && as.all zeCat1) <;> rw [hb] at h <;> cases h
    · cases h
  · unfold zoCs at h
    split at h
    · rename_i as st9 hz
      cases hb : (Nat.ble st9.length 4 && as.all zeCat1) <;> rw [hb] at h <;> cases h
    · cases h
  · unfold zoCs at h
    split at h
    · rename_i as9 st9 hz
      cases hb : (Nat.ble st9.length 4 && as9.all zeCat1) <;> rw [hb] at h
      · cases h
      · cases h
        rw [Bool.and_eq_true, List.all_eq_true] at hb
        have hst := Nat.le_of_ble_eq_true hb.1
        obtain ⟨bs, h1, h2, h3⟩ := zeAr_st k [] st _ _ hz
        rw [List.append_nil] at h1
        subst h1
        subst h2
        refine ⟨rfl, fun v1 μ1 v μ'' hm1 hm2 hw hgo1 hgo2 => ?_⟩
        intro p l e R s m args below meth c Q n0 s0 hcx hd hl hn0 hs0 hret hc hs H locs ls hP hS hL hN
        have hM := zeMet l hcx.gv hok hb.2 (by omega) hgo1
        have e1 : zeN μ1 - n0 = (zeN μ - n0) + (zeN μ1 - zeN μ) := by have := hm1.2.1; omega
        have e2 : zeSl μ1 - s0 = (zeSl μ - s0) + (zeSl μ1 - zeSl μ) := by have := hm1.2.2; omega
        have hcat := zeCats hcx.gv st'
        have hr := hrun p l e R s m args below meth c H locs ls (zeN μ - n0) (zeSl μ - s0) (zeN μ1 - zeN μ) (zeSl μ1 - zeSl μ) as μ (st'.map (zeTr G)) v1 μ1 hcx hd hl hL.1 h3 hM hP hS (by omega) ⟨by rw [← e1]; have := hm2.2.1; omega, by rw [← e2]; have := hm2.2.2; omega⟩
        rw [List.map_append, List.map_reverse]
        refine zw_call hr hS fun H1 locs1 hP1 hS1 => ?_
        have K := hgo2 p l e R s m args below meth c Q n0 s0 hcx hd hl (Nat.le_trans hn0 hm1.2.1) (Nat.le_trans hs0 hm1.2.2) hret hc hs H1 locs1 ls hP1 hS1 hL hN
        rw [e1, e2, List.map_append] at K
        have e3 : (v1.map (zeTr G)).toList = v1.toList.map (zeTr G) := by cases v1 <;> rfl
        rw [e3]
        exact K
    · cases h
theorem zs_callV {kd : Nat} (hlen : k + 1 ≤ zeNl f) (hok : zeMok f) (hrun : ∀ (p : Program) (l : Launch) (e : Env) (R : Room) (s : State) (m : MethodId) (args : Array Value) (below : List Frame) (meth : Method) (c : Code) (H : Heap) (locs : List Loc) (ls : Array Slot) (cells slots mc ms : Nat) (b : Nat) (as : List Value) (μ : zeM) (rest : List Value) (v1 : Option Value) (μ1 : zeM),
      zeCx G i p s m args meth c → zeDp i ≤ R.frames → zeLc i ≤ R.locals → ls.size = zeNl i → zeWf G μ → zeKd μ b = kd → as.length = k → Met l (zeNam f) (zeWs f) (zeRoom f μ μ1) (zePc G (.ref b :: as) μ) (zeQc G v1 μ1) (zeN μ1 - zeN μ) (zeSl μ1 - zeSl μ) (zeA G) → zePic G μ H → va_S (zeA G) s.heap H locs → (rest.map fun v => v.category).sum ≤ 8 → cells + (zeN μ1 - zeN μ) ≤ R.cells ∧ slots + (zeSl μ1 - zeSl μ) ≤ R.slots →
      va_Run p l e R s m args below meth c H locs cells slots (zeN μ1 - zeN μ) (zeSl μ1 - zeSl μ) (F0 m pc ls ((as.map (zeTr G)).reverse ++ zeTr G (.ref b) :: rest)) rest (zeQc G v1 μ1 (zeTr G (.ref b) :: as.map (zeTr G)).toArray) (zeA G)) : zeSnd G i pc (zoCv kd f k (pc + 3)) := by
  intro L st μ
  refine ⟨fun pc' L' st' μ' h => ?_, fun v μ' h => ?_, fun j as pc' L' st' μ' h => ?_⟩
  · unfold zoCv at h
    split at h
    · rename_i as b st9 hz
      cases hb : (Nat.beq (zeKd μ b) kd && (Nat.ble st9.length 4 && as.all zeCat1)) <;> rw [hb] at h <;> cases h
    · cases h
  · unfold zoCv at h
    split at h
    · rename_i as b st9 hz
      cases hb : (Nat.beq (zeKd μ b) kd && (Nat.ble st9.length 4 && as.all zeCat1)) <;> rw [hb] at h <;> cases h
    · cases h
  · unfold zoCv at h
    split at h
    · rename_i as9 b st9 hz
      cases hb : (Nat.beq (zeKd μ b) kd && (Nat.ble st9.length 4 && as9.all zeCat1)) <;> rw [hb] at h
      · cases h
      · cases h
        rw [Bool.and_eq_true, Bool.and_eq_true, List.all_eq_true] at hb
        have hkb := Nat.eq_of_beq_eq_true hb.1
        have hst := Nat.le_of_ble_eq_true hb.2.1
        obtain ⟨bs, h1, h2, h3⟩ := zeAr_st k [] st _ _ hz
        rw [List.append_nil] at h1
        subst h1
        subst h2
        refine ⟨rfl, fun v1 μ1 v μ'' hm1 hm2 hw hgo1 hgo2 => ?_⟩
        intro p l e R s m args below meth c Q n0 s0 hcx hd hl hn0 hs0 hret hc hs H locs ls hP hS hL hN
        have hcats : ∀ v ∈ Value.ref b :: as9, zeCat1 v = true := fun v hv => by
          rcases List.mem_cons.mp hv with rfl | hv
          · rfl
          · exact hb.2.2 v hv
        have hM := zeMet l hcx.gv hok hcats (by simp; omega) hgo1
        have e1 : zeN μ1 - n0 = (zeN μ - n0) + (zeN μ1 - zeN μ) := by have := hm1.2.1; omega
        have e2 : zeSl μ1 - s0 = (zeSl μ - s0) + (zeSl μ1 - zeSl μ) := by have := hm1.2.2; omega
        have hcat := zeCats hcx.gv st'
        have hr := hrun p l e R s m args below meth c H locs ls (zeN μ - n0) (zeSl μ - s0) (zeN μ1 - zeN μ) (zeSl μ1 - zeSl μ) b as9 μ (st'.map (zeTr G)) v1 μ1 hcx hd hl hL.1 hw hkb h3 hM hP hS (by omega) ⟨by rw [← e1]; have := hm2.2.1; omega, by rw [← e2]; have := hm2.2.2; omega⟩
        rw [List.map_append, List.map_reverse, List.map_cons]
        refine zw_call hr hS fun H1 locs1 hP1 hS1 => ?_
        have K := hgo2 p l e R s m args below meth c Q n0 s0 hcx hd hl (Nat.le_trans hn0 hm1.2.1) (Nat.le_trans hs0 hm1.2.2) hret hc hs H1 locs1 ls hP1 hS1 hL hN
        rw [e1, e2, List.map_append] at K
        have e3 : (v1.map (zeTr G)).toList = v1.toList.map (zeTr G) := by cases v1 <;> rfl
        rw [e3]
        exact K
    · cases h
end ZC
end
section
/-! CALLS, KIND BY KIND; the run -/
section ZK
variable {G : zeG} {i pc n f k : Nat}
theorem zeFix {p : Program} {s : State} {m : MethodId} {args : Array Value} {meth : Method} {c : Code} {own : String} (ho : (zeNam i).cls = own) (hcx : zeCx G i p s m args meth c) : CallFix p m c (zeCod i) (zeNl i) s args zeBT own := ⟨hcx.1, hcx.2.1, hcx.ml, ho ▸ hcx.own, hcx.ws⟩
theorem zeRecv {s : State} {H : Heap} {μ : zeM} {b ci N : Nat} {C : String} {T : u_T} (hw : zeWf G μ) (hK : va_K (zeD G) zeCl (zeTY G) s) (hP : zePic G μ H) (hc : zeCl[ci]? = some (C, T, N)) (hk : zeKd μ b = ci + 1) : zeTr G (.ref b) = .ref (zeAd G b) ∧ ∃ cell : Cell, H[zeAd G b]? = some cell ∧ cell.vm.isStatics = false ∧ s.vm.findClass C = some cell.cls := by
  have hlt := zeCl_lt hc
  obtain ⟨h1, h2⟩ := hw.new (a := b) (by omega) (by omega)
  have he := zeW_get (G := G) h1 h2
  rw [zeCell_obj G hk hlt] at he
  exact ⟨zeTr_r G h1, va_recv hK hP.1 hc he⟩
/-- a static method -/
theorem zs_cs {own : String} {index : Nat} (ho : (zeNam i).cls = own) (hcw : zeCw i f k) (hlen : k ≤ zeNl f) (hlink : Cond.methodLink own index (zeNam f) ∈ zeBT) (hst : Cond.static (zeNam f) ∈ zeBT) (hd : decode (zeCod i) pc = .ok (.invokestatic index, 3)) (hn : pc + 3 = n) : zeSnd G i pc (zoCs f k n) := by
  subst hn
  obtain ⟨hok, hcode, hini, hy, hdp, hlc⟩ := hcw
  refine zs_callS hlen hok fun p l e R s m args below meth c H locs ls cells slots mc ms as μ rest v1 μ1 hcx hD hL hsz hk hM hP hS hrest hroom => ?_
  refine va_runS (zeFix ho hcx) hM (va_cwS k hcx.ws (zeGoods fun w hw => ?_) rfl rfl rfl hy ⟨Nat.le_trans hdp hD, Nat.le_trans hlc hL⟩) ⟨zePc_blind, zePc_at hcx hP hS⟩ rfl (by simp [hk]) hsz rfl (by show 2 * 0 + _ ≤ 8; omega) hd hroom
  simp only [va_wsS, List.cons_append, List.nil_append, List.mem_cons] at hw
  rcases hw with rfl | rfl | rfl | hw
  · exact hlink
  · exact hst
  · exact hini
  · exact (zeWs_good hcode w hw).1
/-- a private static method of a nest mate -/
theorem zs_csN {own host : String} {index : Nat} (ho : (zeNam i).cls = own) (hcw : zeCw i f k) (hlen : k ≤ zeNl f) (hlink : ∀ s : State, zeSta G s s.heap → va_Nw (.methodLinkNest own index (zeNam f) host) s) (hst : Cond.static (zeNam f) ∈ zeBT) (hd : decode (zeCod i) pc = .ok (.invokestatic index, 3)) (hn : pc + 3 = n) : zeSnd G i pc (zoCs f k n) := by
  subst hn
  obtain ⟨hok, hcode, hini, hy, hdp, hlc⟩ := hcw
  refine zs_callS hlen hok fun p l e R s m args below meth c H locs ls cells slots mc ms as μ rest v1 μ1 hcx hD hL hsz hk hM hP hS hrest hroom => ?_
  exact va_runSN (zeFix ho hcx) hM ⟨va_cnB k hcx.ws (zeWs_good hcode) rfl rfl rfl (hlink s hcx.sta) (hcx.ws _ hini) hy ⟨Nat.le_trans hdp hD, Nat.le_trans hlc hL⟩, hcx.ws _ hst, trivial⟩ ⟨zePc_blind, zePc_at hcx hP hS⟩ rfl (by simp [hk]) hsz rfl (by show 2 * 0 + _ ≤ 8; omega) hd hroom
/-- an object's method, of its own class -/
theorem zs_cv {own C : String} {T : u_T} {N ci index : Nat} (ho : (zeNam i).cls = own) (hc : zeCl[ci]? = some (C, T, N)) (hC : (zeNam f).cls = C) (hcw : zeCw i f k) (hlen : k + 1 ≤ zeNl f) (hlink : Cond.methodLink own index (zeNam f) ∈ zeBT) (hin : Cond.instanceMethod (zeNam f) ∈ zeBT) (hsel : Cond.selects C (zeNam f) (zeNam f) ∈ zeBT) (hd : decode (zeCod i) pc = .ok (.invokevirtual index, 3)) (hn : pc + 3 = n) : zeSnd G i pc (zoCv (ci + 1) f k n) := by
  subst hn
  obtain ⟨hok, hcode, hini, hy, hdp, hlc⟩ := hcw
  refine zs_callV hlen hok fun p l e R s m args below meth c H locs ls cells slots mc ms b as μ rest v1 μ1 hcx hD hL hsz hw hkb hk hM hP hS hrest hroom => ?_
  obtain ⟨e1, hrec⟩ := zeRecv hw hcx.K hP hc hkb
  have hat := zePc_at (as := .ref b :: as) (μ := μ) hcx hP hS
  rw [List.map_cons] at hat
  rw [e1] at hat ⊢
  refine va_runV (zeFix ho hcx) hM (cwV k hcx.ws (zeGoods fun w hw => ?_) rfl rfl rfl ⟨hC, hy⟩ ⟨Nat.le_trans hdp hD, Nat.le_trans hlc hL⟩) ⟨zePc_blind, hrec, hat⟩ rfl (by simp [hk]) hsz rfl (by show 2 * 0 + _ ≤ 8; omega) hd hroom
  simp only [wsV, List.cons_append, List.nil_append, List.mem_cons] at hw
  rcases hw with rfl | rfl | rfl | rfl | hw
  · exact hlink
  · exact hin
  · exact hsel
  · exact hC ▸ hini
  · exact (zeWs_good hcode w hw).1
/-- a method of a text constant -/
theorem zs_cvO {own : String} {index : Nat} (ho : (zeNam i).cls = own) (hC : (zeNam f).cls = "java/lang/String") (hcw : zeCw i f k) (hlen : k + 1 ≤ zeNl f) (hlink : Cond.methodLink own index (zeNam f) ∈ zeBT) (hin : Cond.instanceMethod (zeNam f) ∈ zeBT) (hsel : Cond.selects "java/lang/String" (zeNam f) (zeNam f) ∈ zeBT) (hd : decode (zeCod i) pc = .ok (.invokevirtual index, 3)) (hn : pc + 3 = n) : zeSnd G i pc (zoCv 110 f k n) := by
  subst hn
  obtain ⟨hok, hcode, hini, hy, hdp, hlc⟩ := hcw
  refine zs_callV hlen hok fun p l e R s m args below meth c H locs ls cells slots mc ms b as μ rest v1 μ1 hcx hD hL hsz hw hkb hk hM hP hS hrest hroom => ?_
  have b1 : b < 16 := by
    rcases (hw.2.2.1 b (by omega)).2 with h | h <;> omega
  have hk110 := (hw.1 b b1).1
  obtain ⟨t, r, e0, -, -, ⟨cell, q1, q2, q3, q4⟩, -⟩ := (hcx.old b b1).2.2.1 (by omega)
  have e1 : zeTr G (.ref b) = .ref t := (zeTr_o G b1).trans e0
  have hat := zePc_at (as := .ref b :: as) (μ := μ) hcx hP hS
  rw [List.map_cons] at hat
  rw [e1] at hat ⊢
  refine va_runV (zeFix ho hcx) hM (cwV k hcx.ws (zeGoods fun w hw => ?_) rfl rfl rfl ⟨hC, hy⟩ ⟨Nat.le_trans hdp hD, Nat.le_trans hlc hL⟩) ⟨zePc_blind, ⟨cell, by rw [hS.2.1 t (Array.getElem?_eq_some_iff.mp q1).1 q4]; exact q1, q2, q3⟩, hat⟩ rfl (by simp [hk]) hsz rfl (by show 2 * 0 + _ ≤ 8; omega) hd hroom
  simp only [wsV, List.cons_append, List.nil_append, List.mem_cons] at hw
  rcases hw with rfl | rfl | rfl | rfl | hw
  · exact hlink
  · exact hin
  · exact hsel
  · exact hC ▸ hini
  · exact (zeWs_good hcode w hw).1
/-- an inherited method -/
theorem zs_cu {own C : String} {T : u_T} {N ci index : Nat} (ho : (zeNam i).cls = own) (hc : zeCl[ci]? = some (C, T, N)) (hcw : zeCw i f k) (hlen : k + 1 ≤ zeNl f) (hlink : Cond.methodLink own index (zeNam f) ∈ zeBT) (hsame : Cond.sameMethod (zeNam f).cls (zeNam f).cls (zeNam f).name (zeNam f).desc ∈ zeBT) (hin : Cond.instanceMethod (zeNam f) ∈ zeBT) (hsel : Cond.selects C (zeNam f) (zeNam f) ∈ zeBT) (hd : decode (zeCod i) pc = .ok (.invokevirtual index, 3)) (hn : pc + 3 = n) : zeSnd G i pc (zoCv (ci + 1) f k n) := by
  subst hn
  obtain ⟨hok, hcode, hini, hy, hdp, hlc⟩ := hcw
  refine zs_callV hlen hok fun p l e R s m args below meth c H locs ls cells slots mc ms b as μ rest v1 μ1 hcx hD hL hsz hw hkb hk hM hP hS hrest hroom => ?_
  obtain ⟨e1, hrec⟩ := zeRecv hw hcx.K hP hc hkb
  have hat := zePc_at (as := .ref b :: as) (μ := μ) hcx hP hS
  rw [List.map_cons] at hat
  rw [e1] at hat ⊢
  refine va_runU (zeFix ho hcx) hM (va_cwU (owner := (zeNam f).cls) (x := zeNam f) k hcx.ws (zeGoods fun w hw => ?_) rfl rfl rfl rfl hy ⟨Nat.le_trans hdp hD, Nat.le_trans hlc hL⟩) ⟨zePc_blind, hrec, hat⟩ rfl (by simp [hk]) hsz rfl (by show 2 * 0 + _ ≤ 8; omega) hd hroom
  simp only [va_wsU, List.cons_append, List.nil_append, List.mem_cons] at hw
  rcases hw with rfl | rfl | rfl | rfl | rfl | hw
  · exact hlink
  · exact hsame
  · exact hsel
  · exact hin
  · exact hini
  · exact (zeWs_good hcode w hw).1
/-- super.m(..) -/
theorem zs_csu {own C : String} {T : u_T} {N ci index : Nat} (ho : (zeNam i).cls = own) (hc : zeCl[ci]? = some (C, T, N)) (hcw : zeCw i f k) (hlen : k + 1 ≤ zeNl f) (hno : (zeNam f).name ≠ "<init>") (hlink : Cond.methodLink own index (zeNam f) ∈ zeBT) (hsame : Cond.sameMethod (zeNam f).cls (zeNam f).cls (zeNam f).name (zeNam f).desc ∈ zeBT) (hsup : Cond.superclass own (zeNam f).cls ∈ zeBT) (hin : Cond.instanceMethod (zeNam f) ∈ zeBT) (hd : decode (zeCod i) pc = .ok (.invokespecial index, 3)) (hn : pc + 3 = n) : zeSnd G i pc (zoCv (ci + 1) f k n) := by
  subst hn
  obtain ⟨hok, hcode, hini, hy, hdp, hlc⟩ := hcw
  refine zs_callV hlen hok fun p l e R s m args below meth c H locs ls cells slots mc ms b as μ rest v1 μ1 hcx hD hL hsz hw hkb hk hM hP hS hrest hroom => ?_
  obtain ⟨e1, hrec⟩ := zeRecv hw hcx.K hP hc hkb
  have hat := zePc_at (as := .ref b :: as) (μ := μ) hcx hP hS
  rw [List.map_cons] at hat
  rw [e1] at hat ⊢
  refine va_runSU (hcx.K.1 ci _ hc).2 (zeFix ho hcx) hM (va_cwSU k hcx.ws (zeGoods fun w hw => ?_) rfl rfl rfl ⟨hno, hy.2.2⟩ ⟨Nat.le_trans hdp hD, Nat.le_trans hlc hL⟩) ⟨zePc_blind, hrec, hat⟩ rfl (by simp [hk]) hsz rfl (by show 2 * 0 + _ ≤ 8; omega) hd hroom
  simp only [va_wsSU, List.cons_append, List.nil_append, List.mem_cons] at hw
  rcases hw with rfl | rfl | rfl | rfl | rfl | hw
  · exact hlink
  · exact hsame
  · exact hsup
  · exact hin
  · exact hini
  · exact (zeWs_good hcode w hw).1
/-- a constructor -/
theorem zs_ci {own C : String} {T : u_T} {N ci index : Nat} (ho : (zeNam i).cls = own) (hc : zeCl[ci]? = some (C, T, N)) (hcw : zeCw i f k) (hlen : k + 1 ≤ zeNl f) (hnm : (zeNam f).name = "<init>") (hrt : zeRt f = none) (hlink : Cond.methodLink own index (zeNam f) ∈ zeBT) (hin : Cond.instanceMethod (zeNam f) ∈ zeBT) (hd : decode (zeCod i) pc = .ok (.invokespecial index, 3)) (hn : pc + 3 = n) : zeSnd G i pc (zoCv (ci + 1) f k n) := by
  subst hn
  obtain ⟨hok, hcode, hini, hy, hdp, hlc⟩ := hcw
  refine zs_callV hlen hok fun p l e R s m args below meth c H locs ls cells slots mc ms b as μ rest v1 μ1 hcx hD hL hsz hw hkb hk hM hP hS hrest hroom => ?_
  obtain ⟨e1, hrec⟩ := zeRecv hw hcx.K hP hc hkb
  have hat := zePc_at (as := .ref b :: as) (μ := μ) hcx hP hS
  rw [List.map_cons] at hat
  rw [e1] at hat ⊢
  have hws : zeWs f = Cond.code (zeNam f) (zeCod f) (zeNl f) none :: zeBT := by unfold zeWs; rw [hrt]
  exact va_runI (zeFix ho hcx) hM (cwI k hcx.ws (zeWs_good hcode) hws rfl rfl (hcx.ws _ hini) (hcx.ws _ hlink) (hcx.ws _ hin) hnm hy ⟨Nat.le_trans hdp hD, Nat.le_trans hlc hL⟩) ⟨zePc_blind, hat⟩ rfl (by simp [hk]) hsz rfl (by show 2 * 0 + _ ≤ 8; omega) hd hroom
/-- a private constructor of a nest mate -/
theorem zs_ciN {own host C : String} {T : u_T} {N ci index : Nat} (ho : (zeNam i).cls = own) (hc : zeCl[ci]? = some (C, T, N)) (hcw : zeCw i f k) (hlen : k + 1 ≤ zeNl f) (hnm : (zeNam f).name = "<init>") (hrt : zeRt f = none) (hlink : ∀ s : State, zeSta G s s.heap → va_Nw (.methodLinkNest own index (zeNam f) host) s) (hin : Cond.instanceMethod (zeNam f) ∈ zeBT) (hd : decode (zeCod i) pc = .ok (.invokespecial index, 3)) (hn : pc + 3 = n) : zeSnd G i pc (zoCv (ci + 1) f k n) := by
  subst hn
  obtain ⟨hok, hcode, hini, hy, hdp, hlc⟩ := hcw
  refine zs_callV hlen hok fun p l e R s m args below meth c H locs ls cells slots mc ms b as μ rest v1 μ1 hcx hD hL hsz hw hkb hk hM hP hS hrest hroom => ?_
  obtain ⟨e1, hrec⟩ := zeRecv hw hcx.K hP hc hkb
  have hat := zePc_at (as := .ref b :: as) (μ := μ) hcx hP hS
  rw [List.map_cons] at hat
  rw [e1] at hat ⊢
  have hws : zeWs f = Cond.code (zeNam f) (zeCod f) (zeNl f) none :: zeBT := by unfold zeWs; rw [hrt]
  exact va_runIN (zeFix ho hcx) hM ⟨va_cnB k hcx.ws (zeWs_good hcode) hws rfl rfl (hlink s hcx.sta) (hcx.ws _ hini) hy ⟨Nat.le_trans hdp hD, Nat.le_trans hlc hL⟩, hnm, hcx.ws _ hin⟩ ⟨zePc_blind, hat⟩ rfl (by simp [hk]) hsz rfl (by show 2 * 0 + _ ≤ 8; omega) hd hroom
end ZK
theorem zeNd_ok {P : Nat → zeOp → Prop} {k : Nat} {a b : Nat → Option zeOp} (ha : ∀ x op, a x = some op → P x op) (hb : ∀ x op, b x = some op → P x op) : ∀ x op, zeNd k a b x = some op → P x op := by
  intro x op h
  unfold zeNd at h
  cases hk : Nat.ble k x <;> rw [hk] at h
  · exact ha x op h
  · exact hb x op h
theorem zeLf_ok {P : Nat → zeOp → Prop} {k : Nat} {o : zeOp} (h : P k o) : ∀ x op, zeLf k (some o) none x = some op → P x op := by
  intro x op h1
  unfold zeLf at h1
  cases hk : Nat.beq x k <;> rw [hk] at h1
  · cases h1
  · have := Nat.eq_of_beq_eq_true hk
    subst this
    cases h1
    exact h
theorem zeCw_of {i f k : Nat} (h : zeMok f ∧ Cond.code (zeNam f) (zeCod f) (zeNl f) (zeRt f) ∈ zeBT ∧ Cond.initialized (zeNam f).cls ∈ zeBT ∧ ((zeNam f).cls ≠ "java/lang/invoke/MethodHandle" ∧ (zeNam f).cls ≠ "java/lang/invoke/VarHandle" ∧ (parseMethodDescriptor (zeNam f).desc).map (fun d => d.parameters.length) = some k)) (h2 : (Nat.ble (zeDp f + 1) (zeDp i) && Nat.ble (8 + (zeNl f + 11) + zeLc f) (zeLc i)) = true) : zeCw i f k := by
  rw [Bool.and_eq_true] at h2
  exact ⟨h.1, h.2.1, h.2.2.1, h.2.2.2, Nat.le_of_ble_eq_true h2.1, Nat.le_of_ble_eq_true h2.2⟩
end
section
/-! the ops by the names of their instructions -/
abbrev zfiadd : Int32 → Int32 → Int32 := fun x y => x + y
abbrev zfisub : Int32 → Int32 → Int32 := fun x y => x - y
abbrev zfimul : Int32 → Int32 → Int32 := fun x y => x * y
abbrev zfiand : Int32 → Int32 → Int32 := fun x y => x &&& y
abbrev zfior : Int32 → Int32 → Int32 := fun x y => x ||| y
abbrev zfixor : Int32 → Int32 → Int32 := fun x y => x ^^^ y
abbrev zfishl : Int32 → Int32 → Int32 := fun x y => x <<< (y &&& 31)
abbrev zfishr : Int32 → Int32 → Int32 := fun x y => x >>> (y &&& 31)
abbrev zfiushr : Int32 → Int32 → Int32 := fun x y => (x.toUInt32 >>> (y.toUInt32 &&& Int32.toUInt32 31)).toInt32
abbrev zfidiv : Int32 → Int32 → Int32 := fun x y => x / y
abbrev zfirem : Int32 → Int32 → Int32 := fun x y => x - x / y * y
abbrev zfineg : Int32 → Int32 := fun x => -x
abbrev zfi2c : Int32 → Int32 := fun x => (x.toUInt32 % 65536).toInt32
abbrev zfi2b : Int32 → Int32 := fun x => x.toInt8.toInt32
abbrev zfland : Int64 → Int64 → Int64 := fun x y => x &&& y
abbrev zflor : Int64 → Int64 → Int64 := fun x y => x ||| y
abbrev zflshl : Int64 → Int32 → Int64 := fun x y => x <<< (y.toInt64 &&& 63)
abbrev zflshr : Int64 → Int32 → Int64 := fun x y => x >>> (y.toInt64 &&& 63)
section ZI
variable {G : zeG} {i pc n : Nat}
theorem zs_iconst {c : Int} {v : Int32} (hd : decode (zeCod i) pc = .ok (.iconst c, 1)) (hv : Int32.ofInt c = v) (hn : pc + 1 = n) : zeSnd G i pc (zoIc v n) := by
  subst hn
  exact zs_Ic fun μ rest p l e R s m args below meth c Q H locs ls cells slots hcx _ _ _ _ _ _ _ K => lv_iconst hcx.1 hcx.2.1 hd hv K
theorem zs_bipush {c : Int} {v : Int32} (hd : decode (zeCod i) pc = .ok (.bipush c, 2)) (hv : (Int8.ofInt c).toInt32 = v) (hn : pc + 2 = n) : zeSnd G i pc (zoIc v n) := by
  subst hn
  exact zs_Ic fun μ rest p l e R s m args below meth c Q H locs ls cells slots hcx _ _ _ _ _ _ _ K => lv_bipush hcx.1 hcx.2.1 hd hv K
theorem zs_sipush {c : Int} {v : Int32} (hd : decode (zeCod i) pc = .ok (.sipush c, 3)) (hv : (Int16.ofInt c).toInt32 = v) (hn : pc + 3 = n) : zeSnd G i pc (zoIc v n) := by
  subst hn
  exact zs_Ic fun μ rest p l e R s m args below meth c Q H locs ls cells slots hcx _ _ _ _ _ _ _ K => lv_sipush hcx.1 hcx.2.1 hd hv K
theorem zs_lconst {c : Fin 2} {v : Int64} (hd : decode (zeCod i) pc = .ok (.lconst c, 1)) (hv : Int64.ofNat (c : Nat) = v) (hn : pc + 1 = n) : zeSnd G i pc (zoLc v n) := by
  subst hn
  exact zs_Lc fun μ rest p l e R s m args below meth c Q H locs ls cells slots hcx _ _ _ _ _ _ _ K => lv_lconst hcx.1 hcx.2.1 hd hv K
theorem zs_ldc {own : String} {index : Nat} {v : Int32} (ho : (zeNam i).cls = own) (hw : Cond.constant own index v ∈ zeBT) (hd : decode (zeCod i) pc = .ok (.ldc index, 2)) (hn : pc + 2 = n) : zeSnd G i pc (zoIc v n) := by
  subst hn
  exact zs_Ic fun μ rest p l e R s m args below meth c Q H locs ls cells slots hcx _ _ _ _ _ _ _ K => lv_ldc hcx.1 hcx.2.1 (ho ▸ hcx.own) (hcx.ws _ hw) hd K
theorem zs_ldcw {own : String} {index : Nat} {v : Int32} (ho : (zeNam i).cls = own) (hw : Cond.constant own index v ∈ zeBT) (hd : decode (zeCod i) pc = .ok (.ldc_w index, 3)) (hn : pc + 3 = n) : zeSnd G i pc (zoIc v n) := by
  subst hn
  exact zs_Ic fun μ rest p l e R s m args below meth c Q H locs ls cells slots hcx _ _ _ _ _ _ _ K => lv_ldcw hcx.1 hcx.2.1 (ho ▸ hcx.own) (hcx.ws _ hw) hd K
theorem zs_iadd (hd : decode (zeCod i) pc = .ok (.iadd, 1)) (hn : pc + 1 = n) : zeSnd G i pc (zoI2 zfiadd n) := by
  subst hn
  exact zs_I2 fun μ rest x y p l e R s m args below meth c Q H locs ls cells slots hcx _ _ _ _ _ _ _ K => lv_iadd hcx.1 hcx.2.1 hd K
theorem zs_isub (hd : decode (zeCod i) pc = .ok (.isub, 1)) (hn : pc + 1 = n) : zeSnd G i pc (zoI2 zfisub n) := by
  subst hn
  exact zs_I2 fun μ rest x y p l e R s m args below meth c Q H locs ls cells slots hcx _ _ _ _ _ _ _ K => lv_isub hcx.1 hcx.2.1 hd K
theorem zs_imul (hd : decode (zeCod i) pc = .ok (.imul, 1)) (hn : pc + 1 = n) : zeSnd G i pc (zoI2 zfimul n) := by
  subst hn
  exact zs_I2 fun μ rest x y p l e R s m args below meth c Q H locs ls cells slots hcx _ _ _ _ _ _ _ K => lv_imul hcx.1 hcx.2.1 hd K
theorem zs_iand (hd : decode (zeCod i) pc = .ok (.iand, 1)) (hn : pc + 1 = n) : zeSnd G i pc (zoI2 zfiand n) := by
  subst hn
  exact zs_I2 fun μ rest x y p l e R s m args below meth c Q H locs ls cells slots hcx _ _ _ _ _ _ _ K => lv_iand hcx.1 hcx.2.1 hd K
theorem zs_ior (hd : decode (zeCod i) pc = .ok (.ior, 1)) (hn : pc + 1 = n) : zeSnd G i pc (zoI2 zfior n) := by
  subst hn
  exact zs_I2 fun μ rest x y p l e R s m args below meth c Q H locs ls cells slots hcx _ _ _ _ _ _ _ K => lv_ior hcx.1 hcx.2.1 hd K
theorem zs_ixor (hd : decode (zeCod i) pc = .ok (.ixor, 1)) (hn : pc + 1 = n) : zeSnd G i pc (zoI2 zfixor n) := by
  subst hn
  exact zs_I2 fun μ rest x y p l e R s m args below meth c Q H locs ls cells slots hcx _ _ _ _ _ _ _ K => lv_ixor hcx.1 hcx.2.1 hd K
theorem zs_ishl (hd : decode (zeCod i) pc = .ok (.ishl, 1)) (hn : pc + 1 = n) : zeSnd G i pc (zoI2 zfishl n) := by
  subst hn
  exact zs_I2 fun μ rest x y p l e R s m args below meth c Q H locs ls cells slots hcx _ _ _ _ _ _ _ K => lv_ishl hcx.1 hcx.2.1 hd K
theorem zs_ishr (hd : decode (zeCod i) pc = .ok (.ishr, 1)) (hn : pc + 1 = n) : zeSnd G i pc (zoI2 zfishr n) := by
  subst hn
  exact zs_I2 fun μ rest x y p l e R s m args below meth c Q H locs ls cells slots hcx _ _ _ _ _ _ _ K => lv_ishr hcx.1 hcx.2.1 hd K
theorem zs_iushr (hd : decode (zeCod i) pc = .ok (.iushr, 1)) (hn : pc + 1 = n) : zeSnd G i pc (zoI2 zfiushr n) := by
  subst hn
  exact zs_I2 fun μ rest x y p l e R s m args below meth c Q H locs ls cells slots hcx _ _ _ _ _ _ _ K => lv_iushr hcx.1 hcx.2.1 hd rfl K
theorem zs_idiv (hd : decode (zeCod i) pc = .ok (.idiv, 1)) (hn : pc + 1 = n) : zeSnd G i pc (zoD2 zfidiv n) := by
  subst hn
  exact zs_D2 fun μ rest x y hy p l e R s m args below meth c Q H locs ls cells slots hcx _ _ _ _ _ _ _ K => lv_idiv hcx.1 hcx.2.1 hd hy K
theorem zs_irem (hd : decode (zeCod i) pc = .ok (.irem, 1)) (hn : pc + 1 = n) : zeSnd G i pc (zoD2 zfirem n) := by
  subst hn
  exact zs_D2 fun μ rest x y hy p l e R s m args below meth c Q H locs ls cells slots hcx _ _ _ _ _ _ _ K => lv_irem hcx.1 hcx.2.1 hd hy K
theorem zs_ineg (hd : decode (zeCod i) pc = .ok (.ineg, 1)) (hn : pc + 1 = n) : zeSnd G i pc (zoI1 zfineg n) := by
  subst hn
  exact zs_I1 fun μ rest x p l e R s m args below meth c Q H locs ls cells slots hcx _ _ _ _ _ _ _ K => lv_ineg hcx.1 hcx.2.1 hd K
theorem zs_i2c (hd : decode (zeCod i) pc = .ok (.i2c, 1)) (hn : pc + 1 = n) : zeSnd G i pc (zoI1 zfi2c n) := by
  subst hn
  exact zs_I1 fun μ rest x p l e R s m args below meth c Q H locs ls cells slots hcx _ _ _ _ _ _ _ K => lv_i2c hcx.1 hcx.2.1 hd rfl K
theorem zs_i2b (hd : decode (zeCod i) pc = .ok (.i2b, 1)) (hn : pc + 1 = n) : zeSnd G i pc (zoI1 zfi2b n) := by
  subst hn
  exact zs_I1 fun μ rest x p l e R s m args below meth c Q H locs ls cells slots hcx _ _ _ _ _ _ _ K => lv_i2b hcx.1 hcx.2.1 hd rfl K
theorem zs_land (hd : decode (zeCod i) pc = .ok (.land, 1)) (hn : pc + 1 = n) : zeSnd G i pc (zoL2 zfland n) := by
  subst hn
  exact zs_L2 fun μ rest x y p l e R s m args below meth c Q H locs ls cells slots hcx _ _ _ _ _ _ _ K => lv_land hcx.1 hcx.2.1 hd K
theorem zs_lor (hd : decode (zeCod i) pc = .ok (.lor, 1)) (hn : pc + 1 = n) : zeSnd G i pc (zoL2 zflor n) := by
  subst hn
  exact zs_L2 fun μ rest x y p l e R s m args below meth c Q H locs ls cells slots hcx _ _ _ _ _ _ _ K => lv_lor hcx.1 hcx.2.1 hd K
theorem zs_lshl (hd : decode (zeCod i) pc = .ok (.lshl, 1)) (hn : pc + 1 = n) : zeSnd G i pc (zoLsh zflshl n) := by
  subst hn
  exact zs_Lsh fun μ rest x y p l e R s m args below meth c Q H locs ls cells slots hcx _ _ _ _ _ _ _ K => lv_lshl hcx.1 hcx.2.1 hd rfl K
theorem zs_lshr (hd : decode (zeCod i) pc = .ok (.lshr, 1)) (hn : pc + 1 = n) : zeSnd G i pc (zoLsh zflshr n) := by
  subst hn
  exact zs_Lsh fun μ rest x y p l e R s m args below meth c Q H locs ls cells slots hcx _ _ _ _ _ _ _ K => lv_lshr hcx.1 hcx.2.1 hd rfl K
theorem zs_na_int (hw : Cond.arrayClass .int ∈ zeBT) (hd : decode (zeCod i) pc = .ok (.newarray .int, 2)) (hn : pc + 2 = n) : zeSnd G i pc (zoNewa 40 n) :=
  zs_newarray (at_ := .int) (t0 := 0) (ty := .int) rfl rfl (fun _ => rfl) hw (fun _ _ _ => ⟨rfl, rfl⟩) (by decide) (fun s cA h => h) (by decide) hd hn
theorem zs_na_long (hw : Cond.arrayClass .long ∈ zeBT) (hd : decode (zeCod i) pc = .ok (.newarray .long, 2)) (hn : pc + 2 = n) : zeSnd G i pc (zoNewa 41 n) :=
  zs_newarray (at_ := .long) (t0 := 1) (ty := .long) rfl rfl (fun _ => rfl) hw (fun _ _ _ => ⟨rfl, rfl⟩) (by decide) (fun s cA h => h) (by decide) hd hn
theorem zs_na_byte (hw : Cond.arrayClass .byte ∈ zeBT) (hd : decode (zeCod i) pc = .ok (.newarray .byte, 2)) (hn : pc + 2 = n) : zeSnd G i pc (zoNewa 42 n) :=
  zs_newarray (at_ := .byte) (t0 := 2) (ty := .byte) rfl rfl (fun _ => rfl) hw (fun _ _ _ => ⟨rfl, rfl⟩) (by decide) (fun s cA h => h) (by decide) hd hn
theorem zs_na_char (hw : Cond.arrayClass .char ∈ zeBT) (hd : decode (zeCod i) pc = .ok (.newarray .char, 2)) (hn : pc + 2 = n) : zeSnd G i pc (zoNewa 43 n) :=
  zs_newarray (at_ := .char) (t0 := 3) (ty := .char) rfl rfl (fun _ => rfl) hw (fun _ _ _ => ⟨rfl, rfl⟩) (by decide) (fun s cA h => h) (by decide) hd hn
theorem zs_na_boolean (hw : Cond.arrayClass .boolean ∈ zeBT) (hd : decode (zeCod i) pc = .ok (.newarray .boolean, 2)) (hn : pc + 2 = n) : zeSnd G i pc (zoNewa 44 n) :=
  zs_newarray (at_ := .boolean) (t0 := 4) (ty := .boolean) rfl rfl (fun _ => rfl) hw (fun _ _ _ => ⟨rfl, rfl⟩) (by decide) (fun s cA h => h) (by decide) hd hn
theorem zs_cpI {own : String} {index : Nat} (ho : (zeNam i).cls = own) (hlink : Cond.methodLink own index arraycopyName ∈ zeBT) (hnat : Cond.native arraycopyName ∈ zeBT) (hstat : Cond.static arraycopyName ∈ zeBT) (hini : Cond.initialized "java/lang/System" ∈ zeBT) (hdp : 1 ≤ zeDp i) (hlc : 30 ≤ zeLc i) (hd : decode (zeCod i) pc = .ok (.invokestatic index, 3)) (hn : pc + 3 = n) : zeSnd G i pc (zoCp 40 n) :=
  zs_copyI (t0 := 0) (ty := .int) rfl (by decide) (by decide) (by decide) (fun _ => rfl) rfl (fun _ _ _ _ _ => rfl) ho hlink hnat hstat hini hdp hlc hd hn
theorem zs_cpB {own : String} {index : Nat} (ho : (zeNam i).cls = own) (hlink : Cond.methodLink own index arraycopyName ∈ zeBT) (hnat : Cond.native arraycopyName ∈ zeBT) (hstat : Cond.static arraycopyName ∈ zeBT) (hini : Cond.initialized "java/lang/System" ∈ zeBT) (hdp : 1 ≤ zeDp i) (hlc : 30 ≤ zeLc i) (hd : decode (zeCod i) pc = .ok (.invokestatic index, 3)) (hn : pc + 3 = n) : zeSnd G i pc (zoCp 42 n) :=
  zs_copyI (t0 := 2) (ty := .byte) rfl (by decide) (by decide) (by decide) (fun _ => rfl) rfl (fun μ hw a h j => hw.2.1 a (Or.inl h) j) ho hlink hnat hstat hini hdp hlc hd hn
theorem zeFd_of {own C ref : String} {T : u_T} {ty0 : Nat → FieldType} {N ci j index : Nat} (ho : (zeNam i).cls = own) (hk : zeCl[ci]? = some (C, T, N) ∧ (∀ w ∈ u_ws C T N, w ∈ zeBT) ∧ (∀ k, k < N → parseFieldDescriptor (T k).2.2.1 = some (ty0 k)) ∧ (∀ a, a < N → ∀ b, b < N → a ≠ b → (T a).2.1 ≠ (T b).2.1) ∧ (zeFL ci).length = N) (hj : j < N) (hlink : Cond.fieldLink own index ref (T j).2.1 (T j).2.2.1 ∈ zeBT) (href : (T j).1 = ref) (hfin : (T j).2.2.2 = false ∨ ((T j).2.2.2 = true ∧ (zeNam i).name = "<init>" ∧ (T j).1 = own)) : zeFd i own C ref T ty0 N ci j index :=
  ⟨ho, hk.1, hk.2.1, hk.2.2.1, hk.2.2.2.1, hj, hlink, href, hfin, hk.2.2.2.2⟩
/-- a table of a switch, decided -/
def zeTswB (pc lo : Int) (offs : Array Int) (l : List (Int32 × Nat)) : Bool := (List.range offs.size).all fun j => match l[j]?, offs[j]? with
  | some (k, t), some off => decide (k.toInt = lo + j) && decide (pc + off = (t : Int))
  | _, _ => false
theorem zeTsw {lo : Int} {offs : Array Int} {l : List (Int32 × Nat)} (h : zeTswB pc lo offs l = true) : ∀ j, j < offs.size → ∃ k t off, l[j]? = some (k, t) ∧ k.toInt = lo + j ∧ offs[j]? = some off ∧ (pc : Int) + off = (t : Int) := by
  intro j hj
  have h1 := List.all_eq_true.mp h j (List.mem_range.mpr hj)
  split at h1
  · rename_i k t off e1 e2
    rw [Bool.and_eq_true, decide_eq_true_eq, decide_eq_true_eq] at h1
    exact ⟨k, t, off, e1, h1.1, e2, h1.2⟩
  · cases h1
def zeLswB (pc : Int) : List (Int32 × Nat) → List (Int × Int) → Bool
  | [], [] => true
  | (k, t) :: l, (a, o) :: r => decide (k.toInt = a) && (decide (pc + o = (t : Int)) && zeLswB pc l r)
  | _, _ => false
theorem zeLsw {df : Int} {d : Nat} {x : Int32} (h0 : (pc : Int) + df = (d : Int)) : ∀ (l : List (Int32 × Nat)) (ps : List (Int × Int)), zeLswB pc l ps = true → (pc : Int) + Op.lookupswitch.offset ps df x.toInt = (zeSw x d l : Int)
  | [], [], _ => by simpa [Op.lookupswitch.offset, zeSw] using h0
  | (k, t) :: l, (a, o) :: r, h => by
    simp only [zeLswB, Bool.and_eq_true, decide_eq_true_eq] at h
    unfold zeSw
    by_cases hx : x = k
    · rw [if_pos hx]
      subst hx
      rw [← h.2.1]
      simp [Op.lookupswitch.offset, h.1]
    · rw [if_neg hx, lv_osw hx h.1]
      exact zeLsw h0 l r h.2.2
  | [], _ :: _, h => by cases h
  | _ :: _, [], h => by cases h
theorem zs_lswitch {df : Int} {ps : List (Int × Int)} {len d : Nat} {l : List (Int32 × Nat)} (hd : decode (zeCod i) pc = .ok (.lookupswitch df ps.toArray, len)) (h0 : (pc : Int) + df = (d : Int)) (hp : (ps.zip (ps.drop 1)).all (fun (a, next) => a.1 < next.1) = true) (hl : zeLswB pc l ps = true) : zeSnd G i pc (zoSw l d) := by
  refine zs_Sw fun μ rest x p l' e R s m args below meth c Q H locs ls cells slots hcx _ _ _ _ _ _ _ K => ?_
  exact lv_lookup hcx.1 hcx.2.1 hd hp rfl (zeLsw h0 l ps hl) K
end ZI
end
