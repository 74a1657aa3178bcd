section
-- ===== PART A: goes FIRST, ahead of the names: the tables' words, and 'selects' of the private methods out of them =====
/-- a private method of a class that the tables say can be made, by its rows of tables_1 -/
def lw_okq (q : MethodName × Nat) : Prop := (q.1.cls ≠ "java/lang/invoke/MethodHandle" ∧ q.1.cls ≠ "java/lang/invoke/VarHandle") ∧ Cond.instantiable q.1.cls q.2 ∈ tables_1 ∧ Cond.privateMethod q.1 ∈ tables_1 ∧ Cond.instanceMethod q.1 ∈ tables_1
theorem lw_p0 : lw_okq (⟨"ReelChanger$ProgramText", "standingBehind", "(II)I"⟩, 6) := ⟨⟨by decide +kernel, by decide +kernel⟩, List.mem_of_getElem? (i := 195) (by decide +kernel), List.mem_of_getElem? (i := 346) (by decide +kernel), List.mem_of_getElem? (i := 347) (by decide +kernel)⟩
theorem lw_p1 : lw_okq (⟨"ReelChanger$ProgramText", "repeatGroup", "(III)I"⟩, 6) := ⟨⟨by decide +kernel, by decide +kernel⟩, List.mem_of_getElem? (i := 195) (by decide +kernel), List.mem_of_getElem? (i := 369) (by decide +kernel), List.mem_of_getElem? (i := 370) (by decide +kernel)⟩
theorem lw_p2 : lw_okq (⟨"ReelChanger$ProgramText", "addReel", "(II)I"⟩, 6) := ⟨⟨by decide +kernel, by decide +kernel⟩, List.mem_of_getElem? (i := 195) (by decide +kernel), List.mem_of_getElem? (i := 376) (by decide +kernel), List.mem_of_getElem? (i := 377) (by decide +kernel)⟩
theorem lw_p3 : lw_okq (⟨"ReelChanger$Show", "work", "(LReelChanger$Stock;)V"⟩, 12) := ⟨⟨by decide +kernel, by decide +kernel⟩, List.mem_of_getElem? (i := 84) (by decide +kernel), List.mem_of_getElem? (i := 420) (by decide +kernel), List.mem_of_getElem? (i := 421) (by decide +kernel)⟩
theorem lw_p4 : lw_okq (⟨"ReelChanger$Show", "finishTask", "(LReelChanger$Stock;)V"⟩, 12) := ⟨⟨by decide +kernel, by decide +kernel⟩, List.mem_of_getElem? (i := 84) (by decide +kernel), List.mem_of_getElem? (i := 428) (by decide +kernel), List.mem_of_getElem? (i := 429) (by decide +kernel)⟩
theorem lw_p5 : lw_okq (⟨"ReelChanger$Show", "finishRepair", "(LReelChanger$Projector;LReelChanger$Stock;)V"⟩, 12) := ⟨⟨by decide +kernel, by decide +kernel⟩, List.mem_of_getElem? (i := 84) (by decide +kernel), List.mem_of_getElem? (i := 436) (by decide +kernel), List.mem_of_getElem? (i := 437) (by decide +kernel)⟩
theorem lw_p6 : lw_okq (⟨"ReelChanger$Show", "ticksOfFirstTask", "(LReelChanger$Stock;)I"⟩, 12) := ⟨⟨by decide +kernel, by decide +kernel⟩, List.mem_of_getElem? (i := 84) (by decide +kernel), List.mem_of_getElem? (i := 451) (by decide +kernel), List.mem_of_getElem? (i := 452) (by decide +kernel)⟩
theorem lw_p7 : lw_okq (⟨"ReelChanger$Show", "frontProjector", "()LReelChanger$Projector;"⟩, 12) := ⟨⟨by decide +kernel, by decide +kernel⟩, List.mem_of_getElem? (i := 84) (by decide +kernel), List.mem_of_getElem? (i := 478) (by decide +kernel), List.mem_of_getElem? (i := 479) (by decide +kernel)⟩
theorem lw_p8 : lw_okq (⟨"ReelChanger$Show", "startBack", "(LReelChanger$Stock;LReelChanger$Reel;)V"⟩, 12) := ⟨⟨by decide +kernel, by decide +kernel⟩, List.mem_of_getElem? (i := 84) (by decide +kernel), List.mem_of_getElem? (i := 482) (by decide +kernel), List.mem_of_getElem? (i := 483) (by decide +kernel)⟩
theorem lw_p9 : lw_okq (⟨"ReelChanger$Show", "backProjector", "()LReelChanger$Projector;"⟩, 12) := ⟨⟨by decide +kernel, by decide +kernel⟩, List.mem_of_getElem? (i := 84) (by decide +kernel), List.mem_of_getElem? (i := 486) (by decide +kernel), List.mem_of_getElem? (i := 487) (by decide +kernel)⟩
theorem lw_p10 : lw_okq (⟨"ReelChanger$Show", "framesBehindMark", "(LReelChanger$Stock;LReelChanger$Reel;)I"⟩, 12) := ⟨⟨by decide +kernel, by decide +kernel⟩, List.mem_of_getElem? (i := 84) (by decide +kernel), List.mem_of_getElem? (i := 490) (by decide +kernel), List.mem_of_getElem? (i := 491) (by decide +kernel)⟩
theorem lw_p11 : lw_okq (⟨"ReelChanger$Show", "wearSplice", "(LReelChanger$Reel;)V"⟩, 12) := ⟨⟨by decide +kernel, by decide +kernel⟩, List.mem_of_getElem? (i := 84) (by decide +kernel), List.mem_of_getElem? (i := 505) (by decide +kernel), List.mem_of_getElem? (i := 506) (by decide +kernel)⟩
theorem lw_p12 : lw_okq (⟨"ReelChanger$Show", "runOut", "(LReelChanger$Stock;LReelChanger$Reel;)V"⟩, 12) := ⟨⟨by decide +kernel, by decide +kernel⟩, List.mem_of_getElem? (i := 84) (by decide +kernel), List.mem_of_getElem? (i := 518) (by decide +kernel), List.mem_of_getElem? (i := 519) (by decide +kernel)⟩
theorem lw_p13 : lw_okq (⟨"ReelChanger$Show", "orderNextReel", "(LReelChanger$Stock;)V"⟩, 12) := ⟨⟨by decide +kernel, by decide +kernel⟩, List.mem_of_getElem? (i := 84) (by decide +kernel), List.mem_of_getElem? (i := 522) (by decide +kernel), List.mem_of_getElem? (i := 523) (by decide +kernel)⟩
theorem lw_p14 : lw_okq (⟨"ReelChanger$Show", "changeOver", "()V"⟩, 12) := ⟨⟨by decide +kernel, by decide +kernel⟩, List.mem_of_getElem? (i := 84) (by decide +kernel), List.mem_of_getElem? (i := 535) (by decide +kernel), List.mem_of_getElem? (i := 536) (by decide +kernel)⟩
theorem lw_p15 : lw_okq (⟨"ReelChanger$Show", "countTick", "()V"⟩, 12) := ⟨⟨by decide +kernel, by decide +kernel⟩, List.mem_of_getElem? (i := 84) (by decide +kernel), List.mem_of_getElem? (i := 539) (by decide +kernel), List.mem_of_getElem? (i := 540) (by decide +kernel)⟩
def lw_privs_1 : List (MethodName × Nat) := [(⟨"ReelChanger$ProgramText", "standingBehind", "(II)I"⟩, 6), (⟨"ReelChanger$ProgramText", "repeatGroup", "(III)I"⟩, 6), (⟨"ReelChanger$ProgramText", "addReel", "(II)I"⟩, 6), (⟨"ReelChanger$Show", "work", "(LReelChanger$Stock;)V"⟩, 12), (⟨"ReelChanger$Show", "finishTask", "(LReelChanger$Stock;)V"⟩, 12), (⟨"ReelChanger$Show", "finishRepair", "(LReelChanger$Projector;LReelChanger$Stock;)V"⟩, 12), (⟨"ReelChanger$Show", "ticksOfFirstTask", "(LReelChanger$Stock;)I"⟩, 12), (⟨"ReelChanger$Show", "frontProjector", "()LReelChanger$Projector;"⟩, 12), (⟨"ReelChanger$Show", "startBack", "(LReelChanger$Stock;LReelChanger$Reel;)V"⟩, 12), (⟨"ReelChanger$Show", "backProjector", "()LReelChanger$Projector;"⟩, 12), (⟨"ReelChanger$Show", "framesBehindMark", "(LReelChanger$Stock;LReelChanger$Reel;)I"⟩, 12), (⟨"ReelChanger$Show", "wearSplice", "(LReelChanger$Reel;)V"⟩, 12), (⟨"ReelChanger$Show", "runOut", "(LReelChanger$Stock;LReelChanger$Reel;)V"⟩, 12), (⟨"ReelChanger$Show", "orderNextReel", "(LReelChanger$Stock;)V"⟩, 12), (⟨"ReelChanger$Show", "changeOver", "()V"⟩, 12), (⟨"ReelChanger$Show", "countTick", "()V"⟩, 12)]
theorem lw_r1 : ∀ q ∈ lw_privs_1, lw_okq q := List.forall_mem_cons.mpr ⟨lw_p0, List.forall_mem_cons.mpr ⟨lw_p1, List.forall_mem_cons.mpr ⟨lw_p2, List.forall_mem_cons.mpr ⟨lw_p3, List.forall_mem_cons.mpr ⟨lw_p4, List.forall_mem_cons.mpr ⟨lw_p5, List.forall_mem_cons.mpr ⟨lw_p6, List.forall_mem_cons.mpr ⟨lw_p7, List.forall_mem_cons.mpr ⟨lw_p8, List.forall_mem_cons.mpr ⟨lw_p9, List.forall_mem_cons.mpr ⟨lw_p10, List.forall_mem_cons.mpr ⟨lw_p11, List.forall_mem_cons.mpr ⟨lw_p12, List.forall_mem_cons.mpr ⟨lw_p13, List.forall_mem_cons.mpr ⟨lw_p14, List.forall_mem_cons.mpr ⟨lw_p15, fun _ h => absurd h List.not_mem_nil⟩⟩⟩⟩⟩⟩⟩⟩⟩⟩⟩⟩⟩⟩⟩⟩
theorem lw_p16 : lw_okq (⟨"ReelChanger", "foretold", "(I)I"⟩, 4) := ⟨⟨by decide +kernel, by decide +kernel⟩, List.mem_of_getElem? (i := 13) (by decide +kernel), List.mem_of_getElem? (i := 598) (by decide +kernel), List.mem_of_getElem? (i := 599) (by decide +kernel)⟩
theorem lw_p17 : lw_okq (⟨"ReelChanger", "sumStock", "(J)J"⟩, 4) := ⟨⟨by decide +kernel, by decide +kernel⟩, List.mem_of_getElem? (i := 13) (by decide +kernel), List.mem_of_getElem? (i := 619) (by decide +kernel), List.mem_of_getElem? (i := 620) (by decide +kernel)⟩
theorem lw_p18 : lw_okq (⟨"ReelChanger", "sumReel", "(JI)J"⟩, 4) := ⟨⟨by decide +kernel, by decide +kernel⟩, List.mem_of_getElem? (i := 13) (by decide +kernel), List.mem_of_getElem? (i := 627) (by decide +kernel), List.mem_of_getElem? (i := 628) (by decide +kernel)⟩
theorem lw_p19 : lw_okq (⟨"ReelChanger", "sumShow", "(J)J"⟩, 4) := ⟨⟨by decide +kernel, by decide +kernel⟩, List.mem_of_getElem? (i := 13) (by decide +kernel), List.mem_of_getElem? (i := 635) (by decide +kernel), List.mem_of_getElem? (i := 636) (by decide +kernel)⟩
theorem lw_p20 : lw_okq (⟨"ReelChangerModel", "isReel", "(I)Z"⟩, 15) := ⟨⟨by decide +kernel, by decide +kernel⟩, List.mem_of_getElem? (i := 642) (by decide +kernel), List.mem_of_getElem? (i := 711) (by decide +kernel), List.mem_of_getElem? (i := 712) (by decide +kernel)⟩
theorem lw_p21 : lw_okq (⟨"ReelChangerModel", "spliceFrom", "(II)I"⟩, 15) := ⟨⟨by decide +kernel, by decide +kernel⟩, List.mem_of_getElem? (i := 642) (by decide +kernel), List.mem_of_getElem? (i := 716) (by decide +kernel), List.mem_of_getElem? (i := 717) (by decide +kernel)⟩
theorem lw_p22 : lw_okq (⟨"ReelChangerModel", "strengthAt", "(II)I"⟩, 15) := ⟨⟨by decide +kernel, by decide +kernel⟩, List.mem_of_getElem? (i := 642) (by decide +kernel), List.mem_of_getElem? (i := 720) (by decide +kernel), List.mem_of_getElem? (i := 721) (by decide +kernel)⟩
theorem lw_p23 : lw_okq (⟨"ReelChangerModel", "weakest", "(I)I"⟩, 15) := ⟨⟨by decide +kernel, by decide +kernel⟩, List.mem_of_getElem? (i := 642) (by decide +kernel), List.mem_of_getElem? (i := 732) (by decide +kernel), List.mem_of_getElem? (i := 733) (by decide +kernel)⟩
theorem lw_p24 : lw_okq (⟨"ReelChangerModel", "puts", "(II)I"⟩, 15) := ⟨⟨by decide +kernel, by decide +kernel⟩, List.mem_of_getElem? (i := 642) (by decide +kernel), List.mem_of_getElem? (i := 745) (by decide +kernel), List.mem_of_getElem? (i := 746) (by decide +kernel)⟩
theorem lw_p25 : lw_okq (⟨"ReelChangerModel", "isText", "()Z"⟩, 15) := ⟨⟨by decide +kernel, by decide +kernel⟩, List.mem_of_getElem? (i := 642) (by decide +kernel), List.mem_of_getElem? (i := 761) (by decide +kernel), List.mem_of_getElem? (i := 762) (by decide +kernel)⟩
theorem lw_p26 : lw_okq (⟨"ReelChangerModel", "isPart", "()Z"⟩, 15) := ⟨⟨by decide +kernel, by decide +kernel⟩, List.mem_of_getElem? (i := 642) (by decide +kernel), List.mem_of_getElem? (i := 765) (by decide +kernel), List.mem_of_getElem? (i := 766) (by decide +kernel)⟩
theorem lw_p27 : lw_okq (⟨"ReelChangerModel", "here", "()I"⟩, 15) := ⟨⟨by decide +kernel, by decide +kernel⟩, List.mem_of_getElem? (i := 642) (by decide +kernel), List.mem_of_getElem? (i := 769) (by decide +kernel), List.mem_of_getElem? (i := 770) (by decide +kernel)⟩
theorem lw_p28 : lw_okq (⟨"ReelChangerModel", "isSigned", "()Z"⟩, 15) := ⟨⟨by decide +kernel, by decide +kernel⟩, List.mem_of_getElem? (i := 642) (by decide +kernel), List.mem_of_getElem? (i := 773) (by decide +kernel), List.mem_of_getElem? (i := 774) (by decide +kernel)⟩
theorem lw_p29 : lw_okq (⟨"ReelChangerModel", "isRunning", "()Z"⟩, 15) := ⟨⟨by decide +kernel, by decide +kernel⟩, List.mem_of_getElem? (i := 642) (by decide +kernel), List.mem_of_getElem? (i := 785) (by decide +kernel), List.mem_of_getElem? (i := 786) (by decide +kernel)⟩
theorem lw_p30 : lw_okq (⟨"ReelChangerModel", "tells", "()I"⟩, 15) := ⟨⟨by decide +kernel, by decide +kernel⟩, List.mem_of_getElem? (i := 642) (by decide +kernel), List.mem_of_getElem? (i := 790) (by decide +kernel), List.mem_of_getElem? (i := 791) (by decide +kernel)⟩
theorem lw_p31 : lw_okq (⟨"ReelChangerModel", "opens", "()V"⟩, 15) := ⟨⟨by decide +kernel, by decide +kernel⟩, List.mem_of_getElem? (i := 642) (by decide +kernel), List.mem_of_getElem? (i := 802) (by decide +kernel), List.mem_of_getElem? (i := 803) (by decide +kernel)⟩
def lw_privs_2 : List (MethodName × Nat) := [(⟨"ReelChanger", "foretold", "(I)I"⟩, 4), (⟨"ReelChanger", "sumStock", "(J)J"⟩, 4), (⟨"ReelChanger", "sumReel", "(JI)J"⟩, 4), (⟨"ReelChanger", "sumShow", "(J)J"⟩, 4), (⟨"ReelChangerModel", "isReel", "(I)Z"⟩, 15), (⟨"ReelChangerModel", "spliceFrom", "(II)I"⟩, 15), (⟨"ReelChangerModel", "strengthAt", "(II)I"⟩, 15), (⟨"ReelChangerModel", "weakest", "(I)I"⟩, 15), (⟨"ReelChangerModel", "puts", "(II)I"⟩, 15), (⟨"ReelChangerModel", "isText", "()Z"⟩, 15), (⟨"ReelChangerModel", "isPart", "()Z"⟩, 15), (⟨"ReelChangerModel", "here", "()I"⟩, 15), (⟨"ReelChangerModel", "isSigned", "()Z"⟩, 15), (⟨"ReelChangerModel", "isRunning", "()Z"⟩, 15), (⟨"ReelChangerModel", "tells", "()I"⟩, 15), (⟨"ReelChangerModel", "opens", "()V"⟩, 15)]
theorem lw_r2 : ∀ q ∈ lw_privs_2, lw_okq q := List.forall_mem_cons.mpr ⟨lw_p16, List.forall_mem_cons.mpr ⟨lw_p17, List.forall_mem_cons.mpr ⟨lw_p18, List.forall_mem_cons.mpr ⟨lw_p19, List.forall_mem_cons.mpr ⟨lw_p20, List.forall_mem_cons.mpr ⟨lw_p21, List.forall_mem_cons.mpr ⟨lw_p22, List.forall_mem_cons.mpr ⟨lw_p23, List.forall_mem_cons.mpr ⟨lw_p24, List.forall_mem_cons.mpr ⟨lw_p25, List.forall_mem_cons.mpr ⟨lw_p26, List.forall_mem_cons.mpr ⟨lw_p27, List.forall_mem_cons.mpr ⟨lw_p28, List.forall_mem_cons.mpr ⟨lw_p29, List.forall_mem_cons.mpr ⟨lw_p30, List.forall_mem_cons.mpr ⟨lw_p31, fun _ h => absurd h List.not_mem_nil⟩⟩⟩⟩⟩⟩⟩⟩⟩⟩⟩⟩⟩⟩⟩⟩
theorem lw_p32 : lw_okq (⟨"ReelChangerModel", "comes", "(I)V"⟩, 15) := ⟨⟨by decide +kernel, by decide +kernel⟩, List.mem_of_getElem? (i := 642) (by decide +kernel), List.mem_of_getElem? (i := 806) (by decide +kernel), List.mem_of_getElem? (i := 807) (by decide +kernel)⟩
theorem lw_p33 : lw_okq (⟨"ReelChangerModel", "passes", "(I)I"⟩, 15) := ⟨⟨by decide +kernel, by decide +kernel⟩, List.mem_of_getElem? (i := 642) (by decide +kernel), List.mem_of_getElem? (i := 817) (by decide +kernel), List.mem_of_getElem? (i := 818) (by decide +kernel)⟩
theorem lw_p34 : lw_okq (⟨"ReelChangerModel", "ticks", "()V"⟩, 15) := ⟨⟨by decide +kernel, by decide +kernel⟩, List.mem_of_getElem? (i := 642) (by decide +kernel), List.mem_of_getElem? (i := 821) (by decide +kernel), List.mem_of_getElem? (i := 822) (by decide +kernel)⟩
theorem lw_p35 : lw_okq (⟨"ReelChangerModel", "works", "()V"⟩, 15) := ⟨⟨by decide +kernel, by decide +kernel⟩, List.mem_of_getElem? (i := 642) (by decide +kernel), List.mem_of_getElem? (i := 825) (by decide +kernel), List.mem_of_getElem? (i := 826) (by decide +kernel)⟩
theorem lw_p36 : lw_okq (⟨"ReelChangerModel", "finishes", "(I)V"⟩, 15) := ⟨⟨by decide +kernel, by decide +kernel⟩, List.mem_of_getElem? (i := 642) (by decide +kernel), List.mem_of_getElem? (i := 829) (by decide +kernel), List.mem_of_getElem? (i := 830) (by decide +kernel)⟩
theorem lw_p37 : lw_okq (⟨"ReelChangerModel", "lengthOn", "(I)I"⟩, 15) := ⟨⟨by decide +kernel, by decide +kernel⟩, List.mem_of_getElem? (i := 642) (by decide +kernel), List.mem_of_getElem? (i := 833) (by decide +kernel), List.mem_of_getElem? (i := 834) (by decide +kernel)⟩
theorem lw_p38 : lw_okq (⟨"ReelChangerModel", "reelOn", "(I)I"⟩, 15) := ⟨⟨by decide +kernel, by decide +kernel⟩, List.mem_of_getElem? (i := 642) (by decide +kernel), List.mem_of_getElem? (i := 837) (by decide +kernel), List.mem_of_getElem? (i := 838) (by decide +kernel)⟩
theorem lw_p39 : lw_okq (⟨"ReelChangerModel", "ticksFor", "(I)I"⟩, 15) := ⟨⟨by decide +kernel, by decide +kernel⟩, List.mem_of_getElem? (i := 642) (by decide +kernel), List.mem_of_getElem? (i := 841) (by decide +kernel), List.mem_of_getElem? (i := 842) (by decide +kernel)⟩
theorem lw_p40 : lw_okq (⟨"ReelChangerModel", "starts", "()V"⟩, 15) := ⟨⟨by decide +kernel, by decide +kernel⟩, List.mem_of_getElem? (i := 642) (by decide +kernel), List.mem_of_getElem? (i := 845) (by decide +kernel), List.mem_of_getElem? (i := 846) (by decide +kernel)⟩
theorem lw_p41 : lw_okq (⟨"ReelChangerModel", "goes", "()V"⟩, 15) := ⟨⟨by decide +kernel, by decide +kernel⟩, List.mem_of_getElem? (i := 642) (by decide +kernel), List.mem_of_getElem? (i := 849) (by decide +kernel), List.mem_of_getElem? (i := 850) (by decide +kernel)⟩
theorem lw_p42 : lw_okq (⟨"ReelChangerModel", "wears", "()V"⟩, 15) := ⟨⟨by decide +kernel, by decide +kernel⟩, List.mem_of_getElem? (i := 642) (by decide +kernel), List.mem_of_getElem? (i := 853) (by decide +kernel), List.mem_of_getElem? (i := 854) (by decide +kernel)⟩
theorem lw_p43 : lw_okq (⟨"ReelChangerModel", "runsOut", "()V"⟩, 15) := ⟨⟨by decide +kernel, by decide +kernel⟩, List.mem_of_getElem? (i := 642) (by decide +kernel), List.mem_of_getElem? (i := 857) (by decide +kernel), List.mem_of_getElem? (i := 858) (by decide +kernel)⟩
theorem lw_p44 : lw_okq (⟨"ReelChangerModel", "adds", "(I)V"⟩, 15) := ⟨⟨by decide +kernel, by decide +kernel⟩, List.mem_of_getElem? (i := 642) (by decide +kernel), List.mem_of_getElem? (i := 861) (by decide +kernel), List.mem_of_getElem? (i := 862) (by decide +kernel)⟩
theorem lw_p45 : lw_okq (⟨"ReelChangerModel", "threads", "()I"⟩, 15) := ⟨⟨by decide +kernel, by decide +kernel⟩, List.mem_of_getElem? (i := 642) (by decide +kernel), List.mem_of_getElem? (i := 865) (by decide +kernel), List.mem_of_getElem? (i := 866) (by decide +kernel)⟩
theorem lw_p46 : lw_okq (⟨"ReelChangerModel", "changes", "()V"⟩, 15) := ⟨⟨by decide +kernel, by decide +kernel⟩, List.mem_of_getElem? (i := 642) (by decide +kernel), List.mem_of_getElem? (i := 869) (by decide +kernel), List.mem_of_getElem? (i := 870) (by decide +kernel)⟩
theorem lw_p47 : lw_okq (⟨"ReelChangerModel", "showTells", "(I)I"⟩, 15) := ⟨⟨by decide +kernel, by decide +kernel⟩, List.mem_of_getElem? (i := 642) (by decide +kernel), List.mem_of_getElem? (i := 877) (by decide +kernel), List.mem_of_getElem? (i := 878) (by decide +kernel)⟩
def lw_privs_3 : List (MethodName × Nat) := [(⟨"ReelChangerModel", "comes", "(I)V"⟩, 15), (⟨"ReelChangerModel", "passes", "(I)I"⟩, 15), (⟨"ReelChangerModel", "ticks", "()V"⟩, 15), (⟨"ReelChangerModel", "works", "()V"⟩, 15), (⟨"ReelChangerModel", "finishes", "(I)V"⟩, 15), (⟨"ReelChangerModel", "lengthOn", "(I)I"⟩, 15), (⟨"ReelChangerModel", "reelOn", "(I)I"⟩, 15), (⟨"ReelChangerModel", "ticksFor", "(I)I"⟩, 15), (⟨"ReelChangerModel", "starts", "()V"⟩, 15), (⟨"ReelChangerModel", "goes", "()V"⟩, 15), (⟨"ReelChangerModel", "wears", "()V"⟩, 15), (⟨"ReelChangerModel", "runsOut", "()V"⟩, 15), (⟨"ReelChangerModel", "adds", "(I)V"⟩, 15), (⟨"ReelChangerModel", "threads", "()I"⟩, 15), (⟨"ReelChangerModel", "changes", "()V"⟩, 15), (⟨"ReelChangerModel", "showTells", "(I)I"⟩, 15)]
theorem lw_r3 : ∀ q ∈ lw_privs_3, lw_okq q := List.forall_mem_cons.mpr ⟨lw_p32, List.forall_mem_cons.mpr ⟨lw_p33, List.forall_mem_cons.mpr ⟨lw_p34, List.forall_mem_cons.mpr ⟨lw_p35, List.forall_mem_cons.mpr ⟨lw_p36, List.forall_mem_cons.mpr ⟨lw_p37, List.forall_mem_cons.mpr ⟨lw_p38, List.forall_mem_cons.mpr ⟨lw_p39, List.forall_mem_cons.mpr ⟨lw_p40, List.forall_mem_cons.mpr ⟨lw_p41, List.forall_mem_cons.mpr ⟨lw_p42, List.forall_mem_cons.mpr ⟨lw_p43, List.forall_mem_cons.mpr ⟨lw_p44, List.forall_mem_cons.mpr ⟨lw_p45, List.forall_mem_cons.mpr ⟨lw_p46, List.forall_mem_cons.mpr ⟨lw_p47, fun _ h => absurd h List.not_mem_nil⟩⟩⟩⟩⟩⟩⟩⟩⟩⟩⟩⟩⟩⟩⟩⟩
theorem lw_p48 : lw_okq (⟨"ReelChangerModel", "projectorTells", "(II)I"⟩, 15) := ⟨⟨by decide +kernel, by decide +kernel⟩, List.mem_of_getElem? (i := 642) (by decide +kernel), List.mem_of_getElem? (i := 885) (by decide +kernel), List.mem_of_getElem? (i := 886) (by decide +kernel)⟩
theorem lw_p49 : lw_okq (⟨"ReelChangerModel", "taskAt", "(I)I"⟩, 15) := ⟨⟨by decide +kernel, by decide +kernel⟩, List.mem_of_getElem? (i := 642) (by decide +kernel), List.mem_of_getElem? (i := 893) (by decide +kernel), List.mem_of_getElem? (i := 894) (by decide +kernel)⟩
theorem lw_p50 : lw_okq (⟨"ReelChangerModel", "forecastNow", "(I)I"⟩, 15) := ⟨⟨by decide +kernel, by decide +kernel⟩, List.mem_of_getElem? (i := 642) (by decide +kernel), List.mem_of_getElem? (i := 901) (by decide +kernel), List.mem_of_getElem? (i := 902) (by decide +kernel)⟩
theorem lw_p51 : lw_okq (⟨"ReelChangerModel", "keeps", "()V"⟩, 15) := ⟨⟨by decide +kernel, by decide +kernel⟩, List.mem_of_getElem? (i := 642) (by decide +kernel), List.mem_of_getElem? (i := 905) (by decide +kernel), List.mem_of_getElem? (i := 906) (by decide +kernel)⟩
theorem lw_p52 : lw_okq (⟨"ReelChangerModel", "comesBack", "()V"⟩, 15) := ⟨⟨by decide +kernel, by decide +kernel⟩, List.mem_of_getElem? (i := 642) (by decide +kernel), List.mem_of_getElem? (i := 909) (by decide +kernel), List.mem_of_getElem? (i := 910) (by decide +kernel)⟩
def lw_privs_4 : List (MethodName × Nat) := [(⟨"ReelChangerModel", "projectorTells", "(II)I"⟩, 15), (⟨"ReelChangerModel", "taskAt", "(I)I"⟩, 15), (⟨"ReelChangerModel", "forecastNow", "(I)I"⟩, 15), (⟨"ReelChangerModel", "keeps", "()V"⟩, 15), (⟨"ReelChangerModel", "comesBack", "()V"⟩, 15)]
theorem lw_r4 : ∀ q ∈ lw_privs_4, lw_okq q := List.forall_mem_cons.mpr ⟨lw_p48, List.forall_mem_cons.mpr ⟨lw_p49, List.forall_mem_cons.mpr ⟨lw_p50, List.forall_mem_cons.mpr ⟨lw_p51, List.forall_mem_cons.mpr ⟨lw_p52, fun _ h => absurd h List.not_mem_nil⟩⟩⟩⟩⟩
def lw_privs : List (MethodName × Nat) := lw_privs_1 ++ (lw_privs_2 ++ (lw_privs_3 ++ (lw_privs_4)))
def lw_tbl : List Cond := k2_sels lw_privs ++ tables_1
theorem lw_privs_ok : ∀ q ∈ lw_privs, lw_okq q := by
  show ∀ q ∈ lw_privs_1 ++ (lw_privs_2 ++ (lw_privs_3 ++ (lw_privs_4))), lw_okq q
  exact List.forall_mem_append.mpr ⟨lw_r1, List.forall_mem_append.mpr ⟨lw_r2, List.forall_mem_append.mpr ⟨lw_r3, lw_r4⟩⟩⟩
-- ===== end of PART A; then your names; then what follows =====
/-! ===== BEGIN words of one list among another's, by their places ===== -/
theorem goodIn_r {big : List Cond} (ws : List Cond) (ps : List Nat) (hp : ws = ps.filterMap (fun i => big[i]?)) (h : ws.all goodWord = true) : GoodIn big ws := by
  intro w hw
  have h1 := List.all_eq_true.mp h w hw
  rw [hp] at hw
  obtain ⟨i, -, hi⟩ := List.mem_filterMap.mp hw
  have hm : w ∈ big := by first | exact List.mem_of_getElem? hi | exact List.getElem?_mem hi
  exact ⟨hm, good_of_word h1⟩
theorem goodIn_app {big a b : List Cond} (ha : GoodIn big a) (hb : GoodIn big b) : GoodIn big (a ++ b) := fun w h => (List.mem_append.mp h).elim (ha w) (hb w)
theorem goodIn_ca {big a b : List Cond} {c : Cond} (ha : GoodIn big (c :: a)) (hb : GoodIn big b) : GoodIn big (c :: (a ++ b)) := fun w h => (List.mem_cons.mp h).elim (fun e => ha w (List.mem_cons.mpr (Or.inl e))) (fun h => (List.mem_append.mp h).elim (fun h => ha w (List.mem_cons.mpr (Or.inr h))) (hb w))
theorem goodIn_sub {big ws : List Cond} (hm : ∀ w ∈ ws, w ∈ big) (h : ws.all goodWord = true) : GoodIn big ws := fun w hw => ⟨hm w hw, good_of_word (List.all_eq_true.mp h w hw)⟩
/-! ===== END ===== -/

/-! ===== BEGIN printed: names, fields, word lists, decode rows ===== -/
def RX0 : String := "ReelChanger$Operator"
def TX0 : u_T := fun k => match k with
  | 0 => ("ReelChanger$Operator", "ticksLeft", "I", false)
  | 1 => ("ReelChanger$Operator", "rowCount", "I", false)
  | 2 => ("ReelChanger$Operator", "workKind", "I", false)
  | 3 => ("ReelChanger$Operator", "workProjector", "I", false)
  | 4 => ("ReelChanger$Operator", "kinds", "[I", true)
  | _ => ("ReelChanger$Operator", "projectors", "[I", true)
def tyX0 : Nat → FieldType := fun k => match k with
  | 0 => .int
  | 1 => .int
  | 2 => .int
  | 3 => .int
  | 4 => .array .int
  | _ => .array .int
abbrev wsX00 : List Cond := u_ws RX0 TX0 6
theorem nmX0 : ∀ a, a < 6 → ∀ b, b < 6 → a ≠ b → (TX0 a).2.1 ≠ (TX0 b).2.1 := by decide +kernel
theorem tyX0_ok : ∀ k, k < 6 → parseFieldDescriptor (TX0 k).2.2.1 = some (tyX0 k) := by decide +kernel
abbrev cX0_init : ByteArray := prog_2_method_1_code
def yX0_init : MethodName := ⟨RX0, "<init>", "()V"⟩
abbrev cX0_copyFrom : ByteArray := prog_2_method_2_code
def yX0_copyFrom : MethodName := ⟨RX0, "copyFrom", "(LReelChanger$Operator;)V"⟩
abbrev cX0_dropAll : ByteArray := prog_2_method_3_code
def yX0_dropAll : MethodName := ⟨RX0, "dropAll", "()V"⟩
abbrev cX0_isWorking : ByteArray := prog_2_method_4_code
def yX0_isWorking : MethodName := ⟨RX0, "isWorking", "()Z"⟩
abbrev cX0_hasTask : ByteArray := prog_2_method_5_code
def yX0_hasTask : MethodName := ⟨RX0, "hasTask", "(I)Z"⟩
abbrev cX0_kindOf : ByteArray := prog_2_method_6_code
def yX0_kindOf : MethodName := ⟨RX0, "kindOf", "(I)I"⟩
abbrev cX0_projectorOf : ByteArray := prog_2_method_7_code
def yX0_projectorOf : MethodName := ⟨RX0, "projectorOf", "(I)I"⟩
abbrev cX0_threadTasks : ByteArray := prog_2_method_8_code
def yX0_threadTasks : MethodName := ⟨RX0, "threadTasks", "()I"⟩
abbrev cX0_addLast : ByteArray := prog_2_method_9_code
def yX0_addLast : MethodName := ⟨RX0, "addLast", "(II)V"⟩
abbrev cX0_addFirst : ByteArray := prog_2_method_10_code
def yX0_addFirst : MethodName := ⟨RX0, "addFirst", "(II)V"⟩
abbrev cX0_takeUp : ByteArray := prog_2_method_11_code
def yX0_takeUp : MethodName := ⟨RX0, "takeUp", "(I)V"⟩
def RX1 : String := "ReelChanger$ProgramText"
def TX1 : u_T := fun k => match k with
  | 0 => ("ReelChanger$ProgramText", "depth", "I", false)
  | 1 => ("ReelChanger$ProgramText", "expanded", "[I", true)
  | 2 => ("ReelChanger$ProgramText", "length", "I", false)
  | 3 => ("ReelChanger$ProgramText", "standing", "I", false)
  | 4 => ("ReelChanger$ProgramText", "letters", "[I", true)
  | _ => ("ReelChanger$ProgramText", "groupStarts", "[I", true)
def tyX1 : Nat → FieldType := fun k => match k with
  | 0 => .int
  | 1 => .array .int
  | 2 => .int
  | 3 => .int
  | 4 => .array .int
  | _ => .array .int
abbrev wsX10 : List Cond := u_ws RX1 TX1 6
theorem nmX1 : ∀ a, a < 6 → ∀ b, b < 6 → a ≠ b → (TX1 a).2.1 ≠ (TX1 b).2.1 := by decide +kernel
theorem tyX1_ok : ∀ k, k < 6 → parseFieldDescriptor (TX1 k).2.2.1 = some (tyX1 k) := by decide +kernel
abbrev cX1_init : ByteArray := prog_3_method_1_code
def yX1_init : MethodName := ⟨RX1, "<init>", "()V"⟩
abbrev cX1_add : ByteArray := prog_3_method_2_code
def yX1_add : MethodName := ⟨RX1, "add", "(I)I"⟩
abbrev cX1_empty : ByteArray := prog_3_method_3_code
def yX1_empty : MethodName := ⟨RX1, "empty", "()I"⟩
abbrev cX1_findFault : ByteArray := prog_3_method_4_code
def yX1_findFault : MethodName := ⟨RX1, "findFault", "(I)I"⟩
abbrev cX1_standingBehind : ByteArray := prog_3_method_5_code
def yX1_standingBehind : MethodName := ⟨RX1, "standingBehind", "(II)I"⟩
abbrev cX1_depthChange : ByteArray := prog_3_method_6_code
def yX1_depthChange : MethodName := ⟨RX1, "depthChange", "(I)I"⟩
abbrev cX1_expand : ByteArray := prog_3_method_7_code
def yX1_expand : MethodName := ⟨RX1, "expand", "()I"⟩
abbrev cX1_addReel : ByteArray := prog_3_method_8_code
def yX1_addReel : MethodName := ⟨RX1, "addReel", "(II)I"⟩
abbrev cX1_repeatGroup : ByteArray := prog_3_method_9_code
def yX1_repeatGroup : MethodName := ⟨RX1, "repeatGroup", "(III)I"⟩
def RX2 : String := "ReelChanger$Projector"
def TX2 : u_T := fun k => match k with
  | 0 => ("ReelChanger$Projector", "state", "I", false)
  | 1 => ("ReelChanger$Projector", "place", "I", false)
  | _ => ("ReelChanger$Projector", "frame", "I", false)
def tyX2 : Nat → FieldType := fun k => match k with
  | 0 => .int
  | 1 => .int
  | _ => .int
abbrev wsX20 : List Cond := u_ws RX2 TX2 3
theorem nmX2 : ∀ a, a < 3 → ∀ b, b < 3 → a ≠ b → (TX2 a).2.1 ≠ (TX2 b).2.1 := by decide +kernel
theorem tyX2_ok : ∀ k, k < 3 → parseFieldDescriptor (TX2 k).2.2.1 = some (tyX2 k) := by decide +kernel
abbrev cX2_init : ByteArray := prog_4_method_1_code
def yX2_init : MethodName := ⟨RX2, "<init>", "()V"⟩
abbrev cX2_copyFrom : ByteArray := prog_4_method_2_code
def yX2_copyFrom : MethodName := ⟨RX2, "copyFrom", "(LReelChanger$Projector;)V"⟩
abbrev cX2_thread : ByteArray := prog_4_method_3_code
def yX2_thread : MethodName := ⟨RX2, "thread", "(I)V"⟩
abbrev cX2_start : ByteArray := prog_4_method_4_code
def yX2_start : MethodName := ⟨RX2, "start", "(I)V"⟩
abbrev cX2_isAtFrame : ByteArray := prog_4_method_5_code
def yX2_isAtFrame : MethodName := ⟨RX2, "isAtFrame", "()Z"⟩
abbrev cX2_isMoving : ByteArray := prog_4_method_6_code
def yX2_isMoving : MethodName := ⟨RX2, "isMoving", "()Z"⟩
def RX3 : String := "ReelChanger$Reel"
def TX3 : u_T := fun k => match k with
  | 0 => ("ReelChanger$Reel", "length", "I", false)
  | 1 => ("ReelChanger$Reel", "spliceCount", "I", false)
  | 2 => ("ReelChanger$Reel", "frames", "[I", true)
  | _ => ("ReelChanger$Reel", "strengths", "[I", true)
def tyX3 : Nat → FieldType := fun k => match k with
  | 0 => .int
  | 1 => .int
  | 2 => .array .int
  | _ => .array .int
abbrev wsX30 : List Cond := u_ws RX3 TX3 4
theorem nmX3 : ∀ a, a < 4 → ∀ b, b < 4 → a ≠ b → (TX3 a).2.1 ≠ (TX3 b).2.1 := by decide +kernel
theorem tyX3_ok : ∀ k, k < 4 → parseFieldDescriptor (TX3 k).2.2.1 = some (tyX3 k) := by decide +kernel
abbrev cX3_init : ByteArray := prog_5_method_1_code
def yX3_init : MethodName := ⟨RX3, "<init>", "()V"⟩
abbrev cX3_renew : ByteArray := prog_5_method_2_code
def yX3_renew : MethodName := ⟨RX3, "renew", "(I)V"⟩
abbrev cX3_copyFrom : ByteArray := prog_5_method_3_code
def yX3_copyFrom : MethodName := ⟨RX3, "copyFrom", "(LReelChanger$Reel;)V"⟩
abbrev cX3_hasSplice : ByteArray := prog_5_method_4_code
def yX3_hasSplice : MethodName := ⟨RX3, "hasSplice", "(I)Z"⟩
abbrev cX3_spliceOfFrame : ByteArray := prog_5_method_5_code
def yX3_spliceOfFrame : MethodName := ⟨RX3, "spliceOfFrame", "(I)I"⟩
abbrev cX3_join : ByteArray := prog_5_method_6_code
def yX3_join : MethodName := ⟨RX3, "join", "(II)I"⟩
abbrev cX3_removeWeaker : ByteArray := prog_5_method_7_code
def yX3_removeWeaker : MethodName := ⟨RX3, "removeWeaker", "(I)I"⟩
abbrev cX3_leastStrength : ByteArray := prog_5_method_8_code
def yX3_leastStrength : MethodName := ⟨RX3, "leastStrength", "()I"⟩
abbrev cX3_breaksAt : ByteArray := prog_5_method_9_code
def yX3_breaksAt : MethodName := ⟨RX3, "breaksAt", "(I)Z"⟩
abbrev cX3_repairAt : ByteArray := prog_5_method_10_code
def yX3_repairAt : MethodName := ⟨RX3, "repairAt", "(I)V"⟩
def RX4 : String := "ReelChanger$Room"
def TX4 : u_T := fun k => match k with
  | 0 => ("ReelChanger$Room", "stock", "LReelChanger$Stock;", true)
  | _ => ("ReelChanger$Room", "show", "LReelChanger$Show;", true)
def tyX4 : Nat → FieldType := fun k => match k with
  | 0 => .object "ReelChanger$Stock"
  | _ => .object "ReelChanger$Show"
abbrev wsX40 : List Cond := u_ws RX4 TX4 2
theorem nmX4 : ∀ a, a < 2 → ∀ b, b < 2 → a ≠ b → (TX4 a).2.1 ≠ (TX4 b).2.1 := by decide +kernel
theorem tyX4_ok : ∀ k, k < 2 → parseFieldDescriptor (TX4 k).2.2.1 = some (tyX4 k) := by decide +kernel
abbrev cX4_init : ByteArray := prog_6_method_1_code
def yX4_init : MethodName := ⟨RX4, "<init>", "()V"⟩
abbrev cX4_copyFrom : ByteArray := prog_6_method_2_code
def yX4_copyFrom : MethodName := ⟨RX4, "copyFrom", "(LReelChanger$Room;)V"⟩
def RX5 : String := "ReelChanger$Show"
def TX5 : u_T := fun k => match k with
  | 0 => ("ReelChanger$Show", "running", "Z", false)
  | 1 => ("ReelChanger$Show", "time", "I", false)
  | 2 => ("ReelChanger$Show", "dark", "I", false)
  | 3 => ("ReelChanger$Show", "missed", "I", false)
  | 4 => ("ReelChanger$Show", "late", "I", false)
  | 5 => ("ReelChanger$Show", "breaks", "I", false)
  | 6 => ("ReelChanger$Show", "operator", "LReelChanger$Operator;", true)
  | 7 => ("ReelChanger$Show", "front", "I", false)
  | 8 => ("ReelChanger$Show", "threaded", "I", false)
  | 9 => ("ReelChanger$Show", "ranOut", "Z", false)
  | 10 => ("ReelChanger$Show", "first", "LReelChanger$Projector;", true)
  | _ => ("ReelChanger$Show", "second", "LReelChanger$Projector;", true)
def tyX5 : Nat → FieldType := fun k => match k with
  | 0 => .boolean
  | 1 => .int
  | 2 => .int
  | 3 => .int
  | 4 => .int
  | 5 => .int
  | 6 => .object "ReelChanger$Operator"
  | 7 => .int
  | 8 => .int
  | 9 => .boolean
  | 10 => .object "ReelChanger$Projector"
  | _ => .object "ReelChanger$Projector"
abbrev wsX50 : List Cond := u_ws RX5 TX5 12
theorem nmX5 : ∀ a, a < 12 → ∀ b, b < 12 → a ≠ b → (TX5 a).2.1 ≠ (TX5 b).2.1 := by decide +kernel
theorem tyX5_ok : ∀ k, k < 12 → parseFieldDescriptor (TX5 k).2.2.1 = some (tyX5 k) := by decide +kernel
abbrev cX5_init : ByteArray := prog_7_method_1_code
def yX5_init : MethodName := ⟨RX5, "<init>", "()V"⟩
abbrev cX5_copyFrom : ByteArray := prog_7_method_2_code
def yX5_copyFrom : MethodName := ⟨RX5, "copyFrom", "(LReelChanger$Show;)V"⟩
abbrev cX5_projectorNumbered : ByteArray := prog_7_method_3_code
def yX5_projectorNumbered : MethodName := ⟨RX5, "projectorNumbered", "(I)LReelChanger$Projector;"⟩
abbrev cX5_count : ByteArray := prog_7_method_4_code
def yX5_count : MethodName := ⟨RX5, "count", "(I)I"⟩
abbrev cX5_open : ByteArray := prog_7_method_5_code
def yX5_open : MethodName := ⟨RX5, "open", "(LReelChanger$Stock;)V"⟩
abbrev cX5_run : ByteArray := prog_7_method_6_code
def yX5_run : MethodName := ⟨RX5, "run", "(LReelChanger$Stock;I)I"⟩
abbrev cX5_frontProjector : ByteArray := prog_7_method_7_code
def yX5_frontProjector : MethodName := ⟨RX5, "frontProjector", "()LReelChanger$Projector;"⟩
abbrev cX5_backProjector : ByteArray := prog_7_method_8_code
def yX5_backProjector : MethodName := ⟨RX5, "backProjector", "()LReelChanger$Projector;"⟩
abbrev cX5_work : ByteArray := prog_7_method_9_code
def yX5_work : MethodName := ⟨RX5, "work", "(LReelChanger$Stock;)V"⟩
abbrev cX5_ticksOfFirstTask : ByteArray := prog_7_method_10_code
def yX5_ticksOfFirstTask : MethodName := ⟨RX5, "ticksOfFirstTask", "(LReelChanger$Stock;)I"⟩
abbrev cX5_finishTask : ByteArray := prog_7_method_11_code
def yX5_finishTask : MethodName := ⟨RX5, "finishTask", "(LReelChanger$Stock;)V"⟩
abbrev cX5_finishRepair : ByteArray := prog_7_method_12_code
def yX5_finishRepair : MethodName := ⟨RX5, "finishRepair", "(LReelChanger$Projector;LReelChanger$Stock;)V"⟩
abbrev cX5_startBack : ByteArray := prog_7_method_13_code
def yX5_startBack : MethodName := ⟨RX5, "startBack", "(LReelChanger$Stock;LReelChanger$Reel;)V"⟩
abbrev cX5_framesBehindMark : ByteArray := prog_7_method_14_code
def yX5_framesBehindMark : MethodName := ⟨RX5, "framesBehindMark", "(LReelChanger$Stock;LReelChanger$Reel;)I"⟩
abbrev cX5_goOn : ByteArray := prog_7_method_15_code
def yX5_goOn : MethodName := ⟨RX5, "goOn", "(LReelChanger$Projector;)V"⟩
abbrev cX5_wearSplice : ByteArray := prog_7_method_16_code
def yX5_wearSplice : MethodName := ⟨RX5, "wearSplice", "(LReelChanger$Reel;)V"⟩
abbrev cX5_runOut : ByteArray := prog_7_method_17_code
def yX5_runOut : MethodName := ⟨RX5, "runOut", "(LReelChanger$Stock;LReelChanger$Reel;)V"⟩
abbrev cX5_orderNextReel : ByteArray := prog_7_method_18_code
def yX5_orderNextReel : MethodName := ⟨RX5, "orderNextReel", "(LReelChanger$Stock;)V"⟩
abbrev cX5_changeOver : ByteArray := prog_7_method_19_code
def yX5_changeOver : MethodName := ⟨RX5, "changeOver", "()V"⟩
abbrev cX5_countTick : ByteArray := prog_7_method_20_code
def yX5_countTick : MethodName := ⟨RX5, "countTick", "()V"⟩
def RX6 : String := "ReelChanger$Stock"
def TX6 : u_T := fun k => match k with
  | 0 => ("ReelChanger$Stock", "reelCount", "I", false)
  | 1 => ("ReelChanger$Stock", "placeCount", "I", false)
  | 2 => ("ReelChanger$Stock", "reels", "[LReelChanger$Reel;", true)
  | 3 => ("ReelChanger$Stock", "settings", "[I", true)
  | _ => ("ReelChanger$Stock", "places", "[I", true)
def tyX6 : Nat → FieldType := fun k => match k with
  | 0 => .int
  | 1 => .int
  | 2 => .array (.object "ReelChanger$Reel")
  | 3 => .array .int
  | _ => .array .int
abbrev wsX60 : List Cond := u_ws RX6 TX6 5
theorem nmX6 : ∀ a, a < 5 → ∀ b, b < 5 → a ≠ b → (TX6 a).2.1 ≠ (TX6 b).2.1 := by decide +kernel
theorem tyX6_ok : ∀ k, k < 5 → parseFieldDescriptor (TX6 k).2.2.1 = some (tyX6 k) := by decide +kernel
abbrev cX6_init : ByteArray := prog_8_method_1_code
def yX6_init : MethodName := ⟨RX6, "<init>", "()V"⟩
abbrev cX6_copyFrom : ByteArray := prog_8_method_2_code
def yX6_copyFrom : MethodName := ⟨RX6, "copyFrom", "(LReelChanger$Stock;)V"⟩
abbrev cX6_addReel : ByteArray := prog_8_method_3_code
def yX6_addReel : MethodName := ⟨RX6, "addReel", "(I)I"⟩
abbrev cX6_reelNumbered : ByteArray := prog_8_method_4_code
def yX6_reelNumbered : MethodName := ⟨RX6, "reelNumbered", "(I)LReelChanger$Reel;"⟩
abbrev cX6_isSettingValue : ByteArray := prog_8_method_5_code
def yX6_isSettingValue : MethodName := ⟨RX6, "isSettingValue", "(II)Z"⟩
abbrev cX6_settingNumbered : ByteArray := prog_8_method_6_code
def yX6_settingNumbered : MethodName := ⟨RX6, "settingNumbered", "(I)I"⟩
abbrev cX6_changeSetting : ByteArray := prog_8_method_7_code
def yX6_changeSetting : MethodName := ⟨RX6, "changeSetting", "(II)I"⟩
abbrev cX6_takeProgram : ByteArray := prog_8_method_8_code
def yX6_takeProgram : MethodName := ⟨RX6, "takeProgram", "([II)V"⟩
abbrev cX6_numberAtPlace : ByteArray := prog_8_method_9_code
def yX6_numberAtPlace : MethodName := ⟨RX6, "numberAtPlace", "(I)I"⟩
abbrev cX6_reelAtPlace : ByteArray := prog_8_method_10_code
def yX6_reelAtPlace : MethodName := ⟨RX6, "reelAtPlace", "(I)LReelChanger$Reel;"⟩
abbrev cX6_clearingTime : ByteArray := prog_8_method_11_code
def yX6_clearingTime : MethodName := ⟨RX6, "clearingTime", "(I)I"⟩
def RX7 : String := "ReelChanger"
def TX7 : u_T := fun k => match k with
  | 0 => ("ReelChanger", "room", "LReelChanger$Room;", true)
  | 1 => ("ReelChanger", "trial", "LReelChanger$Room;", true)
  | 2 => ("ReelChanger", "slots", "[LReelChanger$Room;", true)
  | _ => ("ReelChanger", "text", "LReelChanger$ProgramText;", true)
def tyX7 : Nat → FieldType := fun k => match k with
  | 0 => .object "ReelChanger$Room"
  | 1 => .object "ReelChanger$Room"
  | 2 => .array (.object "ReelChanger$Room")
  | _ => .object "ReelChanger$ProgramText"
abbrev wsX70 : List Cond := u_ws RX7 TX7 4
theorem nmX7 : ∀ a, a < 4 → ∀ b, b < 4 → a ≠ b → (TX7 a).2.1 ≠ (TX7 b).2.1 := by decide +kernel
theorem tyX7_ok : ∀ k, k < 4 → parseFieldDescriptor (TX7 k).2.2.1 = some (tyX7 k) := by decide +kernel
abbrev cX7_init : ByteArray := prog_1_method_1_code
def yX7_init : MethodName := ⟨RX7, "<init>", "()V"⟩
abbrev cX7_makeReel : ByteArray := prog_1_method_2_code
def yX7_makeReel : MethodName := ⟨RX7, "makeReel", "(I)I"⟩
abbrev cX7_splice : ByteArray := prog_1_method_3_code
def yX7_splice : MethodName := ⟨RX7, "splice", "(III)I"⟩
abbrev cX7_mend : ByteArray := prog_1_method_4_code
def yX7_mend : MethodName := ⟨RX7, "mend", "(II)I"⟩
abbrev cX7_reel : ByteArray := prog_1_method_5_code
def yX7_reel : MethodName := ⟨RX7, "reel", "(II)I"⟩
abbrev cX7_spliceAt : ByteArray := prog_1_method_6_code
def yX7_spliceAt : MethodName := ⟨RX7, "spliceAt", "(IIZ)I"⟩
abbrev cX7_set : ByteArray := prog_1_method_7_code
def yX7_set : MethodName := ⟨RX7, "set", "(II)I"⟩
abbrev cX7_append : ByteArray := prog_1_method_8_code
def yX7_append : MethodName := ⟨RX7, "append", "(I)I"⟩
abbrev cX7_clearText : ByteArray := prog_1_method_9_code
def yX7_clearText : MethodName := ⟨RX7, "clearText", "()I"⟩
abbrev cX7_faultPosition : ByteArray := prog_1_method_10_code
def yX7_faultPosition : MethodName := ⟨RX7, "faultPosition", "()I"⟩
abbrev cX7_faultDepth : ByteArray := prog_1_method_11_code
def yX7_faultDepth : MethodName := ⟨RX7, "faultDepth", "()I"⟩
abbrev cX7_setProgram : ByteArray := prog_1_method_12_code
def yX7_setProgram : MethodName := ⟨RX7, "setProgram", "()I"⟩
abbrev cX7_program : ByteArray := prog_1_method_13_code
def yX7_program : MethodName := ⟨RX7, "program", "(I)I"⟩
abbrev cX7_begin : ByteArray := prog_1_method_14_code
def yX7_begin : MethodName := ⟨RX7, "begin", "()I"⟩
abbrev cX7_pass : ByteArray := prog_1_method_15_code
def yX7_pass : MethodName := ⟨RX7, "pass", "(I)I"⟩
abbrev cX7_tell : ByteArray := prog_1_method_16_code
def yX7_tell : MethodName := ⟨RX7, "tell", "(I)I"⟩
abbrev cX7_projector : ByteArray := prog_1_method_17_code
def yX7_projector : MethodName := ⟨RX7, "projector", "(II)I"⟩
abbrev cX7_task : ByteArray := prog_1_method_18_code
def yX7_task : MethodName := ⟨RX7, "task", "(II)I"⟩
abbrev cX7_forecast : ByteArray := prog_1_method_19_code
def yX7_forecast : MethodName := ⟨RX7, "forecast", "(I)I"⟩
abbrev cX7_darkWith : ByteArray := prog_1_method_20_code
def yX7_darkWith : MethodName := ⟨RX7, "darkWith", "(II)I"⟩
abbrev cX7_save : ByteArray := prog_1_method_21_code
def yX7_save : MethodName := ⟨RX7, "save", "(I)I"⟩
abbrev cX7_restore : ByteArray := prog_1_method_22_code
def yX7_restore : MethodName := ⟨RX7, "restore", "(I)I"⟩
abbrev cX7_checksum : ByteArray := prog_1_method_23_code
def yX7_checksum : MethodName := ⟨RX7, "checksum", "()J"⟩
abbrev cX7_sumStock : ByteArray := prog_1_method_24_code
def yX7_sumStock : MethodName := ⟨RX7, "sumStock", "(J)J"⟩
abbrev cX7_sumReel : ByteArray := prog_1_method_25_code
def yX7_sumReel : MethodName := ⟨RX7, "sumReel", "(JI)J"⟩
abbrev cX7_sumShow : ByteArray := prog_1_method_26_code
def yX7_sumShow : MethodName := ⟨RX7, "sumShow", "(J)J"⟩
abbrev cX7_foretold : ByteArray := prog_1_method_27_code
def yX7_foretold : MethodName := ⟨RX7, "foretold", "(I)I"⟩
abbrev cX7_settingError : ByteArray := prog_1_method_28_code
def yX7_settingError : MethodName := ⟨RX7, "settingError", "(II)I"⟩
abbrev cX7_mix : ByteArray := prog_1_method_29_code
def yX7_mix : MethodName := ⟨RX7, "mix", "(JJ)J"⟩
abbrev cX7_isWithin : ByteArray := prog_1_method_30_code
def yX7_isWithin : MethodName := ⟨RX7, "isWithin", "(III)Z"⟩
def RX8 : String := "ReelChangerModel"
def TX8 : u_T := fun k => match k with
  | 0 => ("ReelChangerModel", "v", "[I", true)
  | 1 => ("ReelChangerModel", "spare", "[I", true)
  | 2 => ("ReelChangerModel", "kept", "[I", true)
  | 3 => ("ReelChangerModel", "isKept", "[Z", true)
  | 4 => ("ReelChangerModel", "lows", "[I", true)
  | 5 => ("ReelChangerModel", "highs", "[I", true)
  | 6 => ("ReelChangerModel", "firsts", "[I", true)
  | 7 => ("ReelChangerModel", "text", "[I", true)
  | 8 => ("ReelChangerModel", "length", "I", false)
  | 9 => ("ReelChangerModel", "place", "I", false)
  | 10 => ("ReelChangerModel", "depth", "I", false)
  | 11 => ("ReelChangerModel", "isFilled", "[Z", true)
  | 12 => ("ReelChangerModel", "begins", "[I", true)
  | 13 => ("ReelChangerModel", "times", "[I", true)
  | _ => ("ReelChangerModel", "told", "[I", true)
def tyX8 : Nat → FieldType := fun k => match k with
  | 0 => .array .int
  | 1 => .array .int
  | 2 => .array .int
  | 3 => .array .boolean
  | 4 => .array .int
  | 5 => .array .int
  | 6 => .array .int
  | 7 => .array .int
  | 8 => .int
  | 9 => .int
  | 10 => .int
  | 11 => .array .boolean
  | 12 => .array .int
  | 13 => .array .int
  | _ => .array .int
abbrev wsX80 : List Cond := u_ws RX8 TX8 15
theorem nmX8 : ∀ a, a < 15 → ∀ b, b < 15 → a ≠ b → (TX8 a).2.1 ≠ (TX8 b).2.1 := by decide +kernel
theorem tyX8_ok : ∀ k, k < 15 → parseFieldDescriptor (TX8 k).2.2.1 = some (tyX8 k) := by decide +kernel
abbrev cX8_init : ByteArray := prog_10_method_1_code
def yX8_init : MethodName := ⟨RX8, "<init>", "()V"⟩
abbrev cX8_in : ByteArray := prog_10_method_3_code
def yX8_in : MethodName := ⟨RX8, "in", "(III)Z"⟩
abbrev cX8_at : ByteArray := prog_10_method_4_code
def yX8_at : MethodName := ⟨RX8, "at", "(II)I"⟩
abbrev cX8_isReel : ByteArray := prog_10_method_5_code
def yX8_isReel : MethodName := ⟨RX8, "isReel", "(I)Z"⟩
abbrev cX8_puts : ByteArray := prog_10_method_6_code
def yX8_puts : MethodName := ⟨RX8, "puts", "(II)I"⟩
abbrev cX8_makeReel : ByteArray := prog_10_method_7_code
def yX8_makeReel : MethodName := ⟨RX8, "makeReel", "(I)I"⟩
abbrev cX8_spliceFrom : ByteArray := prog_10_method_8_code
def yX8_spliceFrom : MethodName := ⟨RX8, "spliceFrom", "(II)I"⟩
abbrev cX8_strengthAt : ByteArray := prog_10_method_9_code
def yX8_strengthAt : MethodName := ⟨RX8, "strengthAt", "(II)I"⟩
abbrev cX8_splice : ByteArray := prog_10_method_10_code
def yX8_splice : MethodName := ⟨RX8, "splice", "(III)I"⟩
abbrev cX8_mend : ByteArray := prog_10_method_11_code
def yX8_mend : MethodName := ⟨RX8, "mend", "(II)I"⟩
abbrev cX8_weakest : ByteArray := prog_10_method_12_code
def yX8_weakest : MethodName := ⟨RX8, "weakest", "(I)I"⟩
abbrev cX8_reel : ByteArray := prog_10_method_13_code
def yX8_reel : MethodName := ⟨RX8, "reel", "(II)I"⟩
abbrev cX8_spliceAt : ByteArray := prog_10_method_14_code
def yX8_spliceAt : MethodName := ⟨RX8, "spliceAt", "(IIZ)I"⟩
abbrev cX8_set : ByteArray := prog_10_method_15_code
def yX8_set : MethodName := ⟨RX8, "set", "(II)I"⟩
abbrev cX8_append : ByteArray := prog_10_method_16_code
def yX8_append : MethodName := ⟨RX8, "append", "(I)I"⟩
abbrev cX8_clearText : ByteArray := prog_10_method_17_code
def yX8_clearText : MethodName := ⟨RX8, "clearText", "()I"⟩
abbrev cX8_here : ByteArray := prog_10_method_18_code
def yX8_here : MethodName := ⟨RX8, "here", "()I"⟩
abbrev cX8_isPart : ByteArray := prog_10_method_19_code
def yX8_isPart : MethodName := ⟨RX8, "isPart", "()Z"⟩
abbrev cX8_isSigned : ByteArray := prog_10_method_20_code
def yX8_isSigned : MethodName := ⟨RX8, "isSigned", "()Z"⟩
abbrev cX8_isText : ByteArray := prog_10_method_21_code
def yX8_isText : MethodName := ⟨RX8, "isText", "()Z"⟩
abbrev cX8_faultPosition : ByteArray := prog_10_method_22_code
def yX8_faultPosition : MethodName := ⟨RX8, "faultPosition", "()I"⟩
abbrev cX8_faultDepth : ByteArray := prog_10_method_23_code
def yX8_faultDepth : MethodName := ⟨RX8, "faultDepth", "()I"⟩
abbrev cX8_tells : ByteArray := prog_10_method_24_code
def yX8_tells : MethodName := ⟨RX8, "tells", "()I"⟩
abbrev cX8_isRunning : ByteArray := prog_10_method_25_code
def yX8_isRunning : MethodName := ⟨RX8, "isRunning", "()Z"⟩
abbrev cX8_setProgram : ByteArray := prog_10_method_26_code
def yX8_setProgram : MethodName := ⟨RX8, "setProgram", "()I"⟩
abbrev cX8_program : ByteArray := prog_10_method_27_code
def yX8_program : MethodName := ⟨RX8, "program", "(I)I"⟩
abbrev cX8_on : ByteArray := prog_10_method_28_code
def yX8_on : MethodName := ⟨RX8, "on", "(II)I"⟩
abbrev cX8_reelOn : ByteArray := prog_10_method_29_code
def yX8_reelOn : MethodName := ⟨RX8, "reelOn", "(I)I"⟩
abbrev cX8_lengthOn : ByteArray := prog_10_method_30_code
def yX8_lengthOn : MethodName := ⟨RX8, "lengthOn", "(I)I"⟩
abbrev cX8_comes : ByteArray := prog_10_method_31_code
def yX8_comes : MethodName := ⟨RX8, "comes", "(I)V"⟩
abbrev cX8_opens : ByteArray := prog_10_method_32_code
def yX8_opens : MethodName := ⟨RX8, "opens", "()V"⟩
abbrev cX8_begin : ByteArray := prog_10_method_33_code
def yX8_begin : MethodName := ⟨RX8, "begin", "()I"⟩
abbrev cX8_ticksFor : ByteArray := prog_10_method_34_code
def yX8_ticksFor : MethodName := ⟨RX8, "ticksFor", "(I)I"⟩
abbrev cX8_finishes : ByteArray := prog_10_method_35_code
def yX8_finishes : MethodName := ⟨RX8, "finishes", "(I)V"⟩
abbrev cX8_works : ByteArray := prog_10_method_36_code
def yX8_works : MethodName := ⟨RX8, "works", "()V"⟩
abbrev cX8_adds : ByteArray := prog_10_method_37_code
def yX8_adds : MethodName := ⟨RX8, "adds", "(I)V"⟩
abbrev cX8_starts : ByteArray := prog_10_method_38_code
def yX8_starts : MethodName := ⟨RX8, "starts", "()V"⟩
abbrev cX8_goes : ByteArray := prog_10_method_39_code
def yX8_goes : MethodName := ⟨RX8, "goes", "()V"⟩
abbrev cX8_wears : ByteArray := prog_10_method_40_code
def yX8_wears : MethodName := ⟨RX8, "wears", "()V"⟩
abbrev cX8_threads : ByteArray := prog_10_method_41_code
def yX8_threads : MethodName := ⟨RX8, "threads", "()I"⟩
abbrev cX8_runsOut : ByteArray := prog_10_method_42_code
def yX8_runsOut : MethodName := ⟨RX8, "runsOut", "()V"⟩
abbrev cX8_changes : ByteArray := prog_10_method_43_code
def yX8_changes : MethodName := ⟨RX8, "changes", "()V"⟩
abbrev cX8_ticks : ByteArray := prog_10_method_44_code
def yX8_ticks : MethodName := ⟨RX8, "ticks", "()V"⟩
abbrev cX8_passes : ByteArray := prog_10_method_45_code
def yX8_passes : MethodName := ⟨RX8, "passes", "(I)I"⟩
abbrev cX8_pass : ByteArray := prog_10_method_46_code
def yX8_pass : MethodName := ⟨RX8, "pass", "(I)I"⟩
abbrev cX8_showTells : ByteArray := prog_10_method_47_code
def yX8_showTells : MethodName := ⟨RX8, "showTells", "(I)I"⟩
abbrev cX8_tell : ByteArray := prog_10_method_48_code
def yX8_tell : MethodName := ⟨RX8, "tell", "(I)I"⟩
abbrev cX8_projectorTells : ByteArray := prog_10_method_49_code
def yX8_projectorTells : MethodName := ⟨RX8, "projectorTells", "(II)I"⟩
abbrev cX8_projector : ByteArray := prog_10_method_50_code
def yX8_projector : MethodName := ⟨RX8, "projector", "(II)I"⟩
abbrev cX8_taskAt : ByteArray := prog_10_method_51_code
def yX8_taskAt : MethodName := ⟨RX8, "taskAt", "(I)I"⟩
abbrev cX8_task : ByteArray := prog_10_method_52_code
def yX8_task : MethodName := ⟨RX8, "task", "(II)I"⟩
abbrev cX8_keeps : ByteArray := prog_10_method_53_code
def yX8_keeps : MethodName := ⟨RX8, "keeps", "()V"⟩
abbrev cX8_comesBack : ByteArray := prog_10_method_54_code
def yX8_comesBack : MethodName := ⟨RX8, "comesBack", "()V"⟩
abbrev cX8_forecastNow : ByteArray := prog_10_method_55_code
def yX8_forecastNow : MethodName := ⟨RX8, "forecastNow", "(I)I"⟩
abbrev cX8_forecast : ByteArray := prog_10_method_56_code
def yX8_forecast : MethodName := ⟨RX8, "forecast", "(I)I"⟩
abbrev cX8_darkWith : ByteArray := prog_10_method_57_code
def yX8_darkWith : MethodName := ⟨RX8, "darkWith", "(II)I"⟩
abbrev cX8_save : ByteArray := prog_10_method_58_code
def yX8_save : MethodName := ⟨RX8, "save", "(I)I"⟩
abbrev cX8_restore : ByteArray := prog_10_method_59_code
def yX8_restore : MethodName := ⟨RX8, "restore", "(I)I"⟩
abbrev cX8_more : ByteArray := prog_10_method_60_code
def yX8_more : MethodName := ⟨RX8, "more", "(JI)J"⟩
abbrev cX8_checksum : ByteArray := prog_10_method_61_code
def yX8_checksum : MethodName := ⟨RX8, "checksum", "()J"⟩
def RJ9 : String := "java/lang/Math"
def TJ9 : u_T := fun k => match k with
  | _ => ("", "", "", false)
def tyJ9 : Nat → FieldType := fun k => match k with
  | _ => .int
abbrev wsJ90 : List Cond := u_ws RJ9 TJ9 0
theorem nmJ9 : ∀ a, a < 0 → ∀ b, b < 0 → a ≠ b → (TJ9 a).2.1 ≠ (TJ9 b).2.1 := by decide +kernel
theorem tyJ9_ok : ∀ k, k < 0 → parseFieldDescriptor (TJ9 k).2.2.1 = some (tyJ9 k) := by decide +kernel
abbrev cJ9_max_7cf53 : ByteArray := prog_11_method_65_code
def yJ9_max_7cf53 : MethodName := ⟨RJ9, "max", "(II)I"⟩
abbrev cJ9_min_7cf53 : ByteArray := prog_11_method_69_code
def yJ9_min_7cf53 : MethodName := ⟨RJ9, "min", "(II)I"⟩
def RJ10 : String := "java/lang/System"
def TJ10 : u_T := fun k => match k with
  | _ => ("", "", "", false)
def tyJ10 : Nat → FieldType := fun k => match k with
  | _ => .int
abbrev wsJ100 : List Cond := u_ws RJ10 TJ10 0
theorem nmJ10 : ∀ a, a < 0 → ∀ b, b < 0 → a ≠ b → (TJ10 a).2.1 ≠ (TJ10 b).2.1 := by decide +kernel
theorem tyJ10_ok : ∀ k, k < 0 → parseFieldDescriptor (TJ10 k).2.2.1 = some (tyJ10 k) := by decide +kernel
def RL : String := "ReelChangerLaw"
abbrev cL_law : ByteArray := code
def yL_law : MethodName := ⟨RL, "law", "([I)Z"⟩
def wsX0_init : List Cond := .code yX0_init cX0_init 1 none :: ([.methodLink RX0 3 objectInit, .instanceMethod objectInit, .code objectInit ⟨#[0xb1]⟩ 1 none, .arrayClass .int, .fieldLink RX0 11 "ReelChanger$Operator" "kinds" "[I", .fieldLink RX0 15 "ReelChanger$Operator" "projectors" "[I"] ++ wsX00)
def wsX0_copyFrom : List Cond := .code yX0_copyFrom cX0_copyFrom 2 none :: ([.fieldLink RX0 18 "ReelChanger$Operator" "ticksLeft" "I", .fieldLink RX0 22 "ReelChanger$Operator" "rowCount" "I", .fieldLink RX0 25 "ReelChanger$Operator" "workKind" "I", .fieldLink RX0 28 "ReelChanger$Operator" "workProjector" "I", .fieldLink RX0 11 "ReelChanger$Operator" "kinds" "[I", .methodLink RX0 31 arraycopyName, .native arraycopyName, .static arraycopyName, .initialized "java/lang/System", .fieldLink RX0 15 "ReelChanger$Operator" "projectors" "[I"] ++ wsX00)
def wsX0_dropAll : List Cond := .code yX0_dropAll cX0_dropAll 1 none :: ([.fieldLink RX0 18 "ReelChanger$Operator" "ticksLeft" "I", .fieldLink RX0 22 "ReelChanger$Operator" "rowCount" "I"] ++ wsX00)
def wsX0_isWorking : List Cond := .code yX0_isWorking cX0_isWorking 1 (some .boolean) :: ([.fieldLink RX0 18 "ReelChanger$Operator" "ticksLeft" "I"] ++ wsX00)
def wsX0_hasTask : List Cond := .code yX0_hasTask cX0_hasTask 2 (some .boolean) :: ([.fieldLink RX0 18 "ReelChanger$Operator" "ticksLeft" "I", .fieldLink RX0 22 "ReelChanger$Operator" "rowCount" "I"] ++ wsX00)
def wsX0_kindOf : List Cond := .code yX0_kindOf cX0_kindOf 2 (some .int) :: ([.constant RX0 41 (-100005), .fieldLink RX0 25 "ReelChanger$Operator" "workKind" "I", .fieldLink RX0 11 "ReelChanger$Operator" "kinds" "[I", .methodLink RX0 37 yX0_hasTask, .instanceMethod yX0_hasTask, .selects RX0 yX0_hasTask yX0_hasTask, .initialized RX0, .code yX0_hasTask cX0_hasTask 2 (some .boolean), .fieldLink RX0 18 "ReelChanger$Operator" "ticksLeft" "I", .fieldLink RX0 22 "ReelChanger$Operator" "rowCount" "I"] ++ wsX00)
def wsX0_projectorOf : List Cond := .code yX0_projectorOf cX0_projectorOf 2 (some .int) :: ([.constant RX0 41 (-100005), .fieldLink RX0 28 "ReelChanger$Operator" "workProjector" "I", .fieldLink RX0 15 "ReelChanger$Operator" "projectors" "[I", .methodLink RX0 37 yX0_hasTask, .instanceMethod yX0_hasTask, .selects RX0 yX0_hasTask yX0_hasTask, .initialized RX0, .code yX0_hasTask cX0_hasTask 2 (some .boolean), .fieldLink RX0 18 "ReelChanger$Operator" "ticksLeft" "I", .fieldLink RX0 22 "ReelChanger$Operator" "rowCount" "I"] ++ wsX00)
def wsX0_threadTasks : List Cond := .code yX0_threadTasks cX0_threadTasks 3 (some .int) :: ([.methodLink RX0 42 yX0_kindOf, .instanceMethod yX0_kindOf, .selects RX0 yX0_kindOf yX0_kindOf, .initialized RX0, .code yX0_kindOf cX0_kindOf 2 (some .int), .constant RX0 41 (-100005), .fieldLink RX0 25 "ReelChanger$Operator" "workKind" "I", .fieldLink RX0 11 "ReelChanger$Operator" "kinds" "[I", .methodLink RX0 37 yX0_hasTask, .instanceMethod yX0_hasTask, .selects RX0 yX0_hasTask yX0_hasTask, .code yX0_hasTask cX0_hasTask 2 (some .boolean), .fieldLink RX0 18 "ReelChanger$Operator" "ticksLeft" "I", .fieldLink RX0 22 "ReelChanger$Operator" "rowCount" "I"] ++ wsX00)
def wsX0_addLast : List Cond := .code yX0_addLast cX0_addLast 3 none :: ([.fieldLink RX0 22 "ReelChanger$Operator" "rowCount" "I", .fieldLink RX0 11 "ReelChanger$Operator" "kinds" "[I", .fieldLink RX0 15 "ReelChanger$Operator" "projectors" "[I"] ++ wsX00)
def wsX0_addFirst : List Cond := .code yX0_addFirst cX0_addFirst 3 none :: ([.fieldLink RX0 22 "ReelChanger$Operator" "rowCount" "I", .fieldLink RX0 11 "ReelChanger$Operator" "kinds" "[I", .methodLink RX0 31 arraycopyName, .native arraycopyName, .static arraycopyName, .initialized "java/lang/System", .fieldLink RX0 15 "ReelChanger$Operator" "projectors" "[I"] ++ wsX00)
def wsX0_takeUp : List Cond := .code yX0_takeUp cX0_takeUp 2 none :: ([.fieldLink RX0 22 "ReelChanger$Operator" "rowCount" "I", .fieldLink RX0 11 "ReelChanger$Operator" "kinds" "[I", .fieldLink RX0 25 "ReelChanger$Operator" "workKind" "I", .fieldLink RX0 15 "ReelChanger$Operator" "projectors" "[I", .fieldLink RX0 28 "ReelChanger$Operator" "workProjector" "I", .fieldLink RX0 18 "ReelChanger$Operator" "ticksLeft" "I", .methodLink RX0 31 arraycopyName, .native arraycopyName, .static arraycopyName, .initialized "java/lang/System"] ++ wsX00)
def wsX1_init : List Cond := .code yX1_init cX1_init 1 none :: ([.methodLink RX1 3 objectInit, .instanceMethod objectInit, .code objectInit ⟨#[0xb1]⟩ 1 none, .arrayClass .int, .fieldLink RX1 11 "ReelChanger$ProgramText" "expanded" "[I", .fieldLink RX1 17 "ReelChanger$ProgramText" "letters" "[I", .fieldLink RX1 20 "ReelChanger$ProgramText" "groupStarts" "[I"] ++ wsX10)
def wsX1_add : List Cond := .code yX1_add cX1_add 2 (some .int) :: ([.fieldLink RX1 23 "ReelChanger$ProgramText" "length" "I", .constant RX1 27 (-100004), .fieldLink RX1 17 "ReelChanger$ProgramText" "letters" "[I"] ++ wsX10)
def wsX1_empty : List Cond := .code yX1_empty cX1_empty 2 (some .int) :: ([.fieldLink RX1 23 "ReelChanger$ProgramText" "length" "I"] ++ wsX10)
def wsX1_standingBehind : List Cond := .code yX1_standingBehind cX1_standingBehind 3 (some .int) :: ([.fieldLink RX1 31 "ReelChanger$ProgramText" "standing" "I", .constant RX1 38 (-100005), .fieldLink RX1 28 "ReelChanger$ProgramText" "depth" "I"] ++ wsX10)
def wsX1_depthChange : List Cond := .code yX1_depthChange cX1_depthChange 1 (some .int) :: ([])
def wsX1_findFault : List Cond := .code yX1_findFault cX1_findFault 4 (some .int) :: ([.fieldLink RX1 28 "ReelChanger$ProgramText" "depth" "I", .fieldLink RX1 31 "ReelChanger$ProgramText" "standing" "I", .fieldLink RX1 23 "ReelChanger$ProgramText" "length" "I", .fieldLink RX1 17 "ReelChanger$ProgramText" "letters" "[I", .constant RX1 38 (-100005), .methodLink RX1 34 yX1_standingBehind, .instanceMethod yX1_standingBehind, .selects RX1 yX1_standingBehind yX1_standingBehind, .initialized RX1, .code yX1_standingBehind cX1_standingBehind 3 (some .int), .methodLink RX1 39 yX1_depthChange, .static yX1_depthChange, .code yX1_depthChange cX1_depthChange 1 (some .int)] ++ wsX10)
def wsX1_addReel : List Cond := .code yX1_addReel cX1_addReel 3 (some .int) :: ([.fieldLink RX1 11 "ReelChanger$ProgramText" "expanded" "[I", .constant RX1 27 (-100004)] ++ wsX10)
def wsX1_repeatGroup : List Cond := .code yX1_repeatGroup cX1_repeatGroup 7 (some .int) :: ([.methodLink RX1 50 Lib.Math.max.name, .static Lib.Math.max.name, .initialized "java/lang/Math", .code Lib.Math.max.name Lib.Math.max.code 2 (some .int), .fieldLink RX1 11 "ReelChanger$ProgramText" "expanded" "[I", .constant RX1 27 (-100004), .methodLink RX1 47 yX1_addReel, .instanceMethod yX1_addReel, .selects RX1 yX1_addReel yX1_addReel, .initialized RX1, .code yX1_addReel cX1_addReel 3 (some .int)] ++ wsX10)
def wsX1_expand : List Cond := .code yX1_expand cX1_expand 7 (some .int) :: ([.fieldLink RX1 23 "ReelChanger$ProgramText" "length" "I", .constant RX1 27 (-100004), .fieldLink RX1 17 "ReelChanger$ProgramText" "letters" "[I", .fieldLink RX1 20 "ReelChanger$ProgramText" "groupStarts" "[I", .methodLink RX1 43 yX1_repeatGroup, .instanceMethod yX1_repeatGroup, .selects RX1 yX1_repeatGroup yX1_repeatGroup, .initialized RX1, .code yX1_repeatGroup cX1_repeatGroup 7 (some .int), .methodLink RX1 50 Lib.Math.max.name, .static Lib.Math.max.name, .initialized "java/lang/Math", .code Lib.Math.max.name Lib.Math.max.code 2 (some .int), .fieldLink RX1 11 "ReelChanger$ProgramText" "expanded" "[I", .methodLink RX1 47 yX1_addReel, .instanceMethod yX1_addReel, .selects RX1 yX1_addReel yX1_addReel, .code yX1_addReel cX1_addReel 3 (some .int)] ++ wsX10)
def wsX2_init : List Cond := .code yX2_init cX2_init 1 none :: ([.methodLink RX2 3 objectInit, .instanceMethod objectInit, .code objectInit ⟨#[0xb1]⟩ 1 none])
def wsX2_copyFrom : List Cond := .code yX2_copyFrom cX2_copyFrom 2 none :: ([.fieldLink RX2 9 "ReelChanger$Projector" "state" "I", .fieldLink RX2 15 "ReelChanger$Projector" "place" "I", .fieldLink RX2 18 "ReelChanger$Projector" "frame" "I"] ++ wsX20)
def wsX2_thread : List Cond := .code yX2_thread cX2_thread 2 none :: ([.fieldLink RX2 9 "ReelChanger$Projector" "state" "I", .fieldLink RX2 15 "ReelChanger$Projector" "place" "I"] ++ wsX20)
def wsX2_start : List Cond := .code yX2_start cX2_start 2 none :: ([.fieldLink RX2 9 "ReelChanger$Projector" "state" "I", .fieldLink RX2 18 "ReelChanger$Projector" "frame" "I"] ++ wsX20)
def wsX2_isAtFrame : List Cond := .code yX2_isAtFrame cX2_isAtFrame 1 (some .boolean) :: ([.fieldLink RX2 9 "ReelChanger$Projector" "state" "I"] ++ wsX20)
def wsX2_isMoving : List Cond := .code yX2_isMoving cX2_isMoving 1 (some .boolean) :: ([.fieldLink RX2 9 "ReelChanger$Projector" "state" "I"] ++ wsX20)
def wsX3_init : List Cond := .code yX3_init cX3_init 1 none :: ([.methodLink RX3 3 objectInit, .instanceMethod objectInit, .code objectInit ⟨#[0xb1]⟩ 1 none, .arrayClass .int, .fieldLink RX3 11 "ReelChanger$Reel" "frames" "[I", .fieldLink RX3 15 "ReelChanger$Reel" "strengths" "[I"] ++ wsX30)
def wsX3_renew : List Cond := .code yX3_renew cX3_renew 2 none :: ([.fieldLink RX3 18 "ReelChanger$Reel" "length" "I", .fieldLink RX3 22 "ReelChanger$Reel" "spliceCount" "I"] ++ wsX30)
def wsX3_copyFrom : List Cond := .code yX3_copyFrom cX3_copyFrom 2 none :: ([.fieldLink RX3 18 "ReelChanger$Reel" "length" "I", .fieldLink RX3 22 "ReelChanger$Reel" "spliceCount" "I", .fieldLink RX3 11 "ReelChanger$Reel" "frames" "[I", .methodLink RX3 25 arraycopyName, .native arraycopyName, .static arraycopyName, .initialized "java/lang/System", .fieldLink RX3 15 "ReelChanger$Reel" "strengths" "[I"] ++ wsX30)
def wsX3_hasSplice : List Cond := .code yX3_hasSplice cX3_hasSplice 2 (some .boolean) :: ([.fieldLink RX3 22 "ReelChanger$Reel" "spliceCount" "I"] ++ wsX30)
def wsX3_spliceOfFrame : List Cond := .code yX3_spliceOfFrame cX3_spliceOfFrame 3 (some .int) :: ([.fieldLink RX3 22 "ReelChanger$Reel" "spliceCount" "I", .fieldLink RX3 11 "ReelChanger$Reel" "frames" "[I", .constant RX3 31 (-100005)] ++ wsX30)
def wsX3_join : List Cond := .code yX3_join cX3_join 5 (some .int) :: ([.fieldLink RX3 15 "ReelChanger$Reel" "strengths" "[I", .fieldLink RX3 22 "ReelChanger$Reel" "spliceCount" "I", .constant RX3 40 (-100004), .fieldLink RX3 11 "ReelChanger$Reel" "frames" "[I", .methodLink RX3 32 yX3_spliceOfFrame, .instanceMethod yX3_spliceOfFrame, .selects RX3 yX3_spliceOfFrame yX3_spliceOfFrame, .initialized RX3, .code yX3_spliceOfFrame cX3_spliceOfFrame 3 (some .int), .constant RX3 31 (-100005), .methodLink RX3 36 yX3_hasSplice, .instanceMethod yX3_hasSplice, .selects RX3 yX3_hasSplice yX3_hasSplice, .code yX3_hasSplice cX3_hasSplice 2 (some .boolean)] ++ wsX30)
def wsX3_removeWeaker : List Cond := .code yX3_removeWeaker cX3_removeWeaker 5 (some .int) :: ([.fieldLink RX3 22 "ReelChanger$Reel" "spliceCount" "I", .fieldLink RX3 15 "ReelChanger$Reel" "strengths" "[I", .fieldLink RX3 11 "ReelChanger$Reel" "frames" "[I"] ++ wsX30)
def wsX3_leastStrength : List Cond := .code yX3_leastStrength cX3_leastStrength 3 (some .int) :: ([.constant RX3 31 (-100005), .fieldLink RX3 22 "ReelChanger$Reel" "spliceCount" "I", .fieldLink RX3 15 "ReelChanger$Reel" "strengths" "[I"] ++ wsX30)
def wsX3_breaksAt : List Cond := .code yX3_breaksAt cX3_breaksAt 3 (some .boolean) :: ([.fieldLink RX3 15 "ReelChanger$Reel" "strengths" "[I", .methodLink RX3 41 Lib.Math.max.name, .static Lib.Math.max.name, .initialized "java/lang/Math", .code Lib.Math.max.name Lib.Math.max.code 2 (some .int), .methodLink RX3 32 yX3_spliceOfFrame, .instanceMethod yX3_spliceOfFrame, .selects RX3 yX3_spliceOfFrame yX3_spliceOfFrame, .initialized RX3, .code yX3_spliceOfFrame cX3_spliceOfFrame 3 (some .int), .fieldLink RX3 22 "ReelChanger$Reel" "spliceCount" "I", .fieldLink RX3 11 "ReelChanger$Reel" "frames" "[I", .constant RX3 31 (-100005), .methodLink RX3 36 yX3_hasSplice, .instanceMethod yX3_hasSplice, .selects RX3 yX3_hasSplice yX3_hasSplice, .code yX3_hasSplice cX3_hasSplice 2 (some .boolean)] ++ wsX30)
def wsX3_repairAt : List Cond := .code yX3_repairAt cX3_repairAt 3 none :: ([.fieldLink RX3 15 "ReelChanger$Reel" "strengths" "[I", .methodLink RX3 32 yX3_spliceOfFrame, .instanceMethod yX3_spliceOfFrame, .selects RX3 yX3_spliceOfFrame yX3_spliceOfFrame, .initialized RX3, .code yX3_spliceOfFrame cX3_spliceOfFrame 3 (some .int), .fieldLink RX3 22 "ReelChanger$Reel" "spliceCount" "I", .fieldLink RX3 11 "ReelChanger$Reel" "frames" "[I", .constant RX3 31 (-100005), .methodLink RX3 36 yX3_hasSplice, .instanceMethod yX3_hasSplice, .selects RX3 yX3_hasSplice yX3_hasSplice, .code yX3_hasSplice cX3_hasSplice 2 (some .boolean)] ++ wsX30)
def wsX6_init : List Cond := .code yX6_init cX6_init 2 none :: ([.methodLink RX6 3 objectInit, .instanceMethod objectInit, .code objectInit ⟨#[0xb1]⟩ 1 none, .classLink RX6 11 RX3, .fieldLink RX6 13 "ReelChanger$Stock" "reels" "[LReelChanger$Reel;", .arrayClass .int, .fieldLink RX6 17 "ReelChanger$Stock" "settings" "[I", .fieldLink RX6 21 "ReelChanger$Stock" "places" "[I", .instantiable RX3 4, .initialized RX3, .fieldLink RX6 25 "ReelChanger$Stock" "FIRST_VALUES" "[I", .methodLink RX6 28 arraycopyName, .native arraycopyName, .static arraycopyName, .initialized "java/lang/System", .instanceMethod yX3_init, .code yX3_init cX3_init 1 none, .methodLink RX3 3 objectInit, .fieldLink RX3 11 "ReelChanger$Reel" "frames" "[I", .fieldLink RX3 15 "ReelChanger$Reel" "strengths" "[I"] ++ wsX60 ++ wsX30)
def wsX5_init : List Cond := .code yX5_init cX5_init 1 none :: ([.methodLink RX5 3 objectInit, .instanceMethod objectInit, .code objectInit ⟨#[0xb1]⟩ 1 none, .classLink RX5 9 RX0, .instantiable RX0 6, .initialized RX0, .fieldLink RX5 12 "ReelChanger$Show" "operator" "LReelChanger$Operator;", .classLink RX5 18 RX2, .instantiable RX2 3, .initialized RX2, .fieldLink RX5 21 "ReelChanger$Show" "first" "LReelChanger$Projector;", .fieldLink RX5 25 "ReelChanger$Show" "second" "LReelChanger$Projector;", .instanceMethod yX0_init, .code yX0_init cX0_init 1 none, .methodLink RX0 3 objectInit, .arrayClass .int, .fieldLink RX0 11 "ReelChanger$Operator" "kinds" "[I", .fieldLink RX0 15 "ReelChanger$Operator" "projectors" "[I", .instanceMethod yX2_init, .code yX2_init cX2_init 1 none, .methodLink RX2 3 objectInit] ++ wsX00 ++ wsX50 ++ wsX20)
def wsX4_init_r1 : List Cond := [Cond.methodLink RX4 1 objectInit, Cond.instanceMethod objectInit, Cond.code objectInit ⟨#[0xb1]⟩ 1 none, Cond.classLink RX4 7 RX6, Cond.instantiable RX6 5, Cond.initialized RX6, Cond.fieldLink RX4 10 "ReelChanger$Room" "stock" "LReelChanger$Stock;", Cond.classLink RX4 16 RX5, Cond.instantiable RX5 12, Cond.initialized RX5, Cond.fieldLink RX4 19 "ReelChanger$Room" "show" "LReelChanger$Show;", Cond.methodLink RX4 9 yX6_init, Cond.instanceMethod yX6_init, Cond.code yX6_init cX6_init 2 none, Cond.methodLink RX6 3 objectInit, Cond.classLink RX6 11 RX3, Cond.fieldLink RX6 13 "ReelChanger$Stock" "reels" "[LReelChanger$Reel;", Cond.arrayClass .int, Cond.fieldLink RX6 17 "ReelChanger$Stock" "settings" "[I", Cond.fieldLink RX6 21 "ReelChanger$Stock" "places" "[I", Cond.instantiable RX3 4, Cond.initialized RX3, Cond.fieldLink RX6 25 "ReelChanger$Stock" "FIRST_VALUES" "[I", Cond.methodLink RX6 28 arraycopyName]
def wsX4_init_r2 : List Cond := [Cond.native arraycopyName, Cond.static arraycopyName, Cond.initialized "java/lang/System", Cond.instanceMethod yX3_init, Cond.code yX3_init cX3_init 1 none, Cond.methodLink RX3 3 objectInit, Cond.fieldLink RX3 11 "ReelChanger$Reel" "frames" "[I", Cond.fieldLink RX3 15 "ReelChanger$Reel" "strengths" "[I", Cond.instanceMethod yX5_init, Cond.code yX5_init cX5_init 1 none, Cond.methodLink RX5 3 objectInit, Cond.classLink RX5 9 RX0, Cond.instantiable RX0 6, Cond.initialized RX0, Cond.fieldLink RX5 12 "ReelChanger$Show" "operator" "LReelChanger$Operator;", Cond.classLink RX5 18 RX2, Cond.instantiable RX2 3, Cond.initialized RX2, Cond.fieldLink RX5 21 "ReelChanger$Show" "first" "LReelChanger$Projector;", Cond.fieldLink RX5 25 "ReelChanger$Show" "second" "LReelChanger$Projector;", Cond.instanceMethod yX0_init, Cond.code yX0_init cX0_init 1 none, Cond.methodLink RX0 3 objectInit, Cond.fieldLink RX0 11 "ReelChanger$Operator" "kinds" "[I"]
def wsX4_init_r3 : List Cond := [Cond.fieldLink RX0 15 "ReelChanger$Operator" "projectors" "[I", Cond.instanceMethod yX2_init, Cond.code yX2_init cX2_init 1 none, Cond.methodLink RX2 3 objectInit]
def wsX4_init : List Cond := .code yX4_init cX4_init 1 none :: ((wsX4_init_r1 ++ (wsX4_init_r2 ++ wsX4_init_r3)) ++ wsX60 ++ wsX40 ++ wsX50 ++ wsX30 ++ wsX00 ++ wsX20)
def wsX6_takeProgram : List Cond := .code yX6_takeProgram cX6_takeProgram 4 none :: ([.methodLink RX6 73 Lib.Math.min.name, .static Lib.Math.min.name, .initialized "java/lang/Math", .code Lib.Math.min.name Lib.Math.min.code 2 (some .int), .fieldLink RX6 42 "ReelChanger$Stock" "placeCount" "I", .fieldLink RX6 21 "ReelChanger$Stock" "places" "[I"] ++ wsX60)
def wsX6_copyFrom_r1 : List Cond := [Cond.fieldLink RX6 34 "ReelChanger$Stock" "reelCount" "I", Cond.fieldLink RX6 13 "ReelChanger$Stock" "reels" "[LReelChanger$Reel;", Cond.fieldLink RX6 17 "ReelChanger$Stock" "settings" "[I", Cond.methodLink RX6 28 arraycopyName, Cond.native arraycopyName, Cond.static arraycopyName, Cond.initialized "java/lang/System", Cond.fieldLink RX6 21 "ReelChanger$Stock" "places" "[I", Cond.fieldLink RX6 42 "ReelChanger$Stock" "placeCount" "I", Cond.methodLink RX6 38 yX3_copyFrom, Cond.instanceMethod yX3_copyFrom, Cond.selects RX3 yX3_copyFrom yX3_copyFrom, Cond.initialized RX3, Cond.code yX3_copyFrom cX3_copyFrom 2 none, Cond.fieldLink RX3 18 "ReelChanger$Reel" "length" "I", Cond.fieldLink RX3 22 "ReelChanger$Reel" "spliceCount" "I", Cond.fieldLink RX3 11 "ReelChanger$Reel" "frames" "[I", Cond.methodLink RX3 25 arraycopyName, Cond.fieldLink RX3 15 "ReelChanger$Reel" "strengths" "[I", Cond.methodLink RX6 45 yX6_takeProgram, Cond.instanceMethod yX6_takeProgram, Cond.selects RX6 yX6_takeProgram yX6_takeProgram, Cond.initialized RX6, Cond.code yX6_takeProgram cX6_takeProgram 4 none]
def wsX6_copyFrom_r2 : List Cond := [Cond.methodLink RX6 73 Lib.Math.min.name, Cond.static Lib.Math.min.name, Cond.initialized "java/lang/Math", Cond.code Lib.Math.min.name Lib.Math.min.code 2 (some .int)]
def wsX6_copyFrom : List Cond := .code yX6_copyFrom cX6_copyFrom 4 none :: ((wsX6_copyFrom_r1 ++ wsX6_copyFrom_r2) ++ wsX60 ++ wsX30)
def wsX5_copyFrom_r1 : List Cond := [Cond.fieldLink RX5 28 "ReelChanger$Show" "running" "Z", Cond.fieldLink RX5 32 "ReelChanger$Show" "time" "I", Cond.fieldLink RX5 36 "ReelChanger$Show" "dark" "I", Cond.fieldLink RX5 39 "ReelChanger$Show" "missed" "I", Cond.fieldLink RX5 42 "ReelChanger$Show" "late" "I", Cond.fieldLink RX5 45 "ReelChanger$Show" "breaks" "I", Cond.fieldLink RX5 12 "ReelChanger$Show" "operator" "LReelChanger$Operator;", Cond.fieldLink RX5 52 "ReelChanger$Show" "front" "I", Cond.fieldLink RX5 55 "ReelChanger$Show" "threaded" "I", Cond.fieldLink RX5 58 "ReelChanger$Show" "ranOut" "Z", Cond.fieldLink RX5 21 "ReelChanger$Show" "first" "LReelChanger$Projector;", Cond.fieldLink RX5 25 "ReelChanger$Show" "second" "LReelChanger$Projector;", Cond.methodLink RX5 48 yX0_copyFrom, Cond.instanceMethod yX0_copyFrom, Cond.selects RX0 yX0_copyFrom yX0_copyFrom, Cond.initialized RX0, Cond.code yX0_copyFrom cX0_copyFrom 2 none, Cond.fieldLink RX0 18 "ReelChanger$Operator" "ticksLeft" "I", Cond.fieldLink RX0 22 "ReelChanger$Operator" "rowCount" "I", Cond.fieldLink RX0 25 "ReelChanger$Operator" "workKind" "I", Cond.fieldLink RX0 28 "ReelChanger$Operator" "workProjector" "I", Cond.fieldLink RX0 11 "ReelChanger$Operator" "kinds" "[I", Cond.methodLink RX0 31 arraycopyName, Cond.native arraycopyName]
def wsX5_copyFrom_r2 : List Cond := [Cond.static arraycopyName, Cond.initialized "java/lang/System", Cond.fieldLink RX0 15 "ReelChanger$Operator" "projectors" "[I", Cond.methodLink RX5 61 yX2_copyFrom, Cond.instanceMethod yX2_copyFrom, Cond.selects RX2 yX2_copyFrom yX2_copyFrom, Cond.initialized RX2, Cond.code yX2_copyFrom cX2_copyFrom 2 none, Cond.fieldLink RX2 9 "ReelChanger$Projector" "state" "I", Cond.fieldLink RX2 15 "ReelChanger$Projector" "place" "I", Cond.fieldLink RX2 18 "ReelChanger$Projector" "frame" "I"]
def wsX5_copyFrom : List Cond := .code yX5_copyFrom cX5_copyFrom 2 none :: ((wsX5_copyFrom_r1 ++ wsX5_copyFrom_r2) ++ wsX50 ++ wsX00 ++ wsX20)
def wsX4_copyFrom_r1 : List Cond := [Cond.fieldLink RX4 10 "ReelChanger$Room" "stock" "LReelChanger$Stock;", Cond.fieldLink RX4 19 "ReelChanger$Room" "show" "LReelChanger$Show;", Cond.methodLink RX4 23 yX6_copyFrom, Cond.instanceMethod yX6_copyFrom, Cond.selects RX6 yX6_copyFrom yX6_copyFrom, Cond.initialized RX6, Cond.code yX6_copyFrom cX6_copyFrom 4 none, Cond.fieldLink RX6 34 "ReelChanger$Stock" "reelCount" "I", Cond.fieldLink RX6 13 "ReelChanger$Stock" "reels" "[LReelChanger$Reel;", Cond.fieldLink RX6 17 "ReelChanger$Stock" "settings" "[I", Cond.methodLink RX6 28 arraycopyName, Cond.native arraycopyName, Cond.static arraycopyName, Cond.initialized "java/lang/System", Cond.fieldLink RX6 21 "ReelChanger$Stock" "places" "[I", Cond.fieldLink RX6 42 "ReelChanger$Stock" "placeCount" "I", Cond.methodLink RX6 38 yX3_copyFrom, Cond.instanceMethod yX3_copyFrom, Cond.selects RX3 yX3_copyFrom yX3_copyFrom, Cond.initialized RX3, Cond.code yX3_copyFrom cX3_copyFrom 2 none, Cond.fieldLink RX3 18 "ReelChanger$Reel" "length" "I", Cond.fieldLink RX3 22 "ReelChanger$Reel" "spliceCount" "I", Cond.fieldLink RX3 11 "ReelChanger$Reel" "frames" "[I"]
def wsX4_copyFrom_r2 : List Cond := [Cond.methodLink RX3 25 arraycopyName, Cond.fieldLink RX3 15 "ReelChanger$Reel" "strengths" "[I", Cond.methodLink RX6 45 yX6_takeProgram, Cond.instanceMethod yX6_takeProgram, Cond.selects RX6 yX6_takeProgram yX6_takeProgram, Cond.code yX6_takeProgram cX6_takeProgram 4 none, Cond.methodLink RX6 73 Lib.Math.min.name, Cond.static Lib.Math.min.name, Cond.initialized "java/lang/Math", Cond.code Lib.Math.min.name Lib.Math.min.code 2 (some .int), Cond.methodLink RX4 27 yX5_copyFrom, Cond.instanceMethod yX5_copyFrom, Cond.selects RX5 yX5_copyFrom yX5_copyFrom, Cond.initialized RX5, Cond.code yX5_copyFrom cX5_copyFrom 2 none, Cond.fieldLink RX5 28 "ReelChanger$Show" "running" "Z", Cond.fieldLink RX5 32 "ReelChanger$Show" "time" "I", Cond.fieldLink RX5 36 "ReelChanger$Show" "dark" "I", Cond.fieldLink RX5 39 "ReelChanger$Show" "missed" "I", Cond.fieldLink RX5 42 "ReelChanger$Show" "late" "I", Cond.fieldLink RX5 45 "ReelChanger$Show" "breaks" "I", Cond.fieldLink RX5 12 "ReelChanger$Show" "operator" "LReelChanger$Operator;", Cond.fieldLink RX5 52 "ReelChanger$Show" "front" "I", Cond.fieldLink RX5 55 "ReelChanger$Show" "threaded" "I"]
def wsX4_copyFrom_r3 : List Cond := [Cond.fieldLink RX5 58 "ReelChanger$Show" "ranOut" "Z", Cond.fieldLink RX5 21 "ReelChanger$Show" "first" "LReelChanger$Projector;", Cond.fieldLink RX5 25 "ReelChanger$Show" "second" "LReelChanger$Projector;", Cond.methodLink RX5 48 yX0_copyFrom, Cond.instanceMethod yX0_copyFrom, Cond.selects RX0 yX0_copyFrom yX0_copyFrom, Cond.initialized RX0, Cond.code yX0_copyFrom cX0_copyFrom 2 none, Cond.fieldLink RX0 18 "ReelChanger$Operator" "ticksLeft" "I", Cond.fieldLink RX0 22 "ReelChanger$Operator" "rowCount" "I", Cond.fieldLink RX0 25 "ReelChanger$Operator" "workKind" "I", Cond.fieldLink RX0 28 "ReelChanger$Operator" "workProjector" "I", Cond.fieldLink RX0 11 "ReelChanger$Operator" "kinds" "[I", Cond.methodLink RX0 31 arraycopyName, Cond.fieldLink RX0 15 "ReelChanger$Operator" "projectors" "[I", Cond.methodLink RX5 61 yX2_copyFrom, Cond.instanceMethod yX2_copyFrom, Cond.selects RX2 yX2_copyFrom yX2_copyFrom, Cond.initialized RX2, Cond.code yX2_copyFrom cX2_copyFrom 2 none, Cond.fieldLink RX2 9 "ReelChanger$Projector" "state" "I", Cond.fieldLink RX2 15 "ReelChanger$Projector" "place" "I", Cond.fieldLink RX2 18 "ReelChanger$Projector" "frame" "I"]
def wsX4_copyFrom : List Cond := .code yX4_copyFrom cX4_copyFrom 2 none :: ((wsX4_copyFrom_r1 ++ (wsX4_copyFrom_r2 ++ wsX4_copyFrom_r3)) ++ wsX40 ++ wsX60 ++ wsX30 ++ wsX50 ++ wsX00 ++ wsX20)
def wsX5_projectorNumbered : List Cond := .code yX5_projectorNumbered cX5_projectorNumbered 2 (some (.object "ReelChanger$Projector")) :: ([.fieldLink RX5 21 "ReelChanger$Show" "first" "LReelChanger$Projector;", .fieldLink RX5 25 "ReelChanger$Show" "second" "LReelChanger$Projector;"] ++ wsX50)
def wsX5_count : List Cond := .code yX5_count cX5_count 2 (some .int) :: ([.fieldLink RX5 28 "ReelChanger$Show" "running" "Z", .fieldLink RX5 32 "ReelChanger$Show" "time" "I", .fieldLink RX5 52 "ReelChanger$Show" "front" "I", .fieldLink RX5 36 "ReelChanger$Show" "dark" "I", .fieldLink RX5 39 "ReelChanger$Show" "missed" "I", .fieldLink RX5 42 "ReelChanger$Show" "late" "I", .fieldLink RX5 45 "ReelChanger$Show" "breaks" "I", .fieldLink RX5 55 "ReelChanger$Show" "threaded" "I", .fieldLink RX5 12 "ReelChanger$Show" "operator" "LReelChanger$Operator;", .fieldLink RX5 64 "ReelChanger$Operator" "rowCount" "I", .fieldLink RX5 67 "ReelChanger$Operator" "ticksLeft" "I", .constant RX5 70 (-100001)] ++ wsX50 ++ wsX00)
def wsX5_open_r1 : List Cond := [Cond.fieldLink RX5 28 "ReelChanger$Show" "running" "Z", Cond.fieldLink RX5 32 "ReelChanger$Show" "time" "I", Cond.fieldLink RX5 36 "ReelChanger$Show" "dark" "I", Cond.fieldLink RX5 39 "ReelChanger$Show" "missed" "I", Cond.fieldLink RX5 42 "ReelChanger$Show" "late" "I", Cond.fieldLink RX5 45 "ReelChanger$Show" "breaks" "I", Cond.fieldLink RX5 52 "ReelChanger$Show" "front" "I", Cond.fieldLink RX5 58 "ReelChanger$Show" "ranOut" "Z", Cond.fieldLink RX5 12 "ReelChanger$Show" "operator" "LReelChanger$Operator;", Cond.fieldLink RX5 21 "ReelChanger$Show" "first" "LReelChanger$Projector;", Cond.fieldLink RX5 78 "ReelChanger$Projector" "state" "I", Cond.fieldLink RX5 81 "ReelChanger$Projector" "frame" "I", Cond.fieldLink RX5 25 "ReelChanger$Show" "second" "LReelChanger$Projector;", Cond.fieldLink RX5 55 "ReelChanger$Show" "threaded" "I", Cond.fieldLink RX5 84 "ReelChanger$Stock" "placeCount" "I", Cond.methodLink RX5 71 yX0_dropAll, Cond.instanceMethod yX0_dropAll, Cond.selects RX0 yX0_dropAll yX0_dropAll, Cond.initialized RX0, Cond.code yX0_dropAll cX0_dropAll 1 none, Cond.fieldLink RX0 18 "ReelChanger$Operator" "ticksLeft" "I", Cond.fieldLink RX0 22 "ReelChanger$Operator" "rowCount" "I", Cond.methodLink RX5 74 yX2_thread, Cond.instanceMethod yX2_thread]
def wsX5_open_r2 : List Cond := [Cond.selects RX2 yX2_thread yX2_thread, Cond.initialized RX2, Cond.code yX2_thread cX2_thread 2 none, Cond.fieldLink RX2 9 "ReelChanger$Projector" "state" "I", Cond.fieldLink RX2 15 "ReelChanger$Projector" "place" "I"]
def wsX5_open : List Cond := .code yX5_open cX5_open 2 none :: ((wsX5_open_r1 ++ wsX5_open_r2) ++ wsX50 ++ wsX20 ++ wsX60 ++ wsX00)
def wsX6_numberAtPlace : List Cond := .code yX6_numberAtPlace cX6_numberAtPlace 2 (some .int) :: ([.fieldLink RX6 42 "ReelChanger$Stock" "placeCount" "I", .fieldLink RX6 21 "ReelChanger$Stock" "places" "[I", .constant RX6 64 (-100001)] ++ wsX60)
def wsX6_reelNumbered : List Cond := .code yX6_reelNumbered cX6_reelNumbered 2 (some (.object "ReelChanger$Reel")) :: ([.fieldLink RX6 34 "ReelChanger$Stock" "reelCount" "I", .fieldLink RX6 13 "ReelChanger$Stock" "reels" "[LReelChanger$Reel;"] ++ wsX60)
def wsX6_reelAtPlace : List Cond := .code yX6_reelAtPlace cX6_reelAtPlace 2 (some (.object "ReelChanger$Reel")) :: ([.methodLink RX6 79 yX6_numberAtPlace, .instanceMethod yX6_numberAtPlace, .selects RX6 yX6_numberAtPlace yX6_numberAtPlace, .initialized RX6, .code yX6_numberAtPlace cX6_numberAtPlace 2 (some .int), .fieldLink RX6 42 "ReelChanger$Stock" "placeCount" "I", .fieldLink RX6 21 "ReelChanger$Stock" "places" "[I", .constant RX6 64 (-100001), .methodLink RX6 50 yX6_reelNumbered, .instanceMethod yX6_reelNumbered, .selects RX6 yX6_reelNumbered yX6_reelNumbered, .code yX6_reelNumbered cX6_reelNumbered 2 (some (.object "ReelChanger$Reel")), .fieldLink RX6 34 "ReelChanger$Stock" "reelCount" "I", .fieldLink RX6 13 "ReelChanger$Stock" "reels" "[LReelChanger$Reel;"] ++ wsX60)
def wsX6_settingNumbered : List Cond := .code yX6_settingNumbered cX6_settingNumbered 2 (some .int) :: ([.fieldLink RX6 17 "ReelChanger$Stock" "settings" "[I", .constant RX6 64 (-100001)] ++ wsX60)
def wsX5_finishRepair_r1 : List Cond := [Cond.fieldLink RX5 97 "ReelChanger$Projector" "place" "I", Cond.fieldLink RX5 81 "ReelChanger$Projector" "frame" "I", Cond.fieldLink RX5 170 "ReelChanger$Reel" "length" "I", Cond.methodLink RX5 173 Lib.Math.min.name, Cond.static Lib.Math.min.name, Cond.initialized "java/lang/Math", Cond.code Lib.Math.min.name Lib.Math.min.code 2 (some .int), Cond.fieldLink RX5 78 "ReelChanger$Projector" "state" "I", Cond.methodLink RX5 100 yX6_reelAtPlace, Cond.instanceMethod yX6_reelAtPlace, Cond.selects RX6 yX6_reelAtPlace yX6_reelAtPlace, Cond.initialized RX6, Cond.code yX6_reelAtPlace cX6_reelAtPlace 2 (some (.object "ReelChanger$Reel")), Cond.methodLink RX6 79 yX6_numberAtPlace, Cond.instanceMethod yX6_numberAtPlace, Cond.selects RX6 yX6_numberAtPlace yX6_numberAtPlace, Cond.code yX6_numberAtPlace cX6_numberAtPlace 2 (some .int), Cond.fieldLink RX6 42 "ReelChanger$Stock" "placeCount" "I", Cond.fieldLink RX6 21 "ReelChanger$Stock" "places" "[I", Cond.constant RX6 64 (-100001), Cond.methodLink RX6 50 yX6_reelNumbered, Cond.instanceMethod yX6_reelNumbered, Cond.selects RX6 yX6_reelNumbered yX6_reelNumbered, Cond.code yX6_reelNumbered cX6_reelNumbered 2 (some (.object "ReelChanger$Reel"))]
def wsX5_finishRepair_r2 : List Cond := [Cond.fieldLink RX6 34 "ReelChanger$Stock" "reelCount" "I", Cond.fieldLink RX6 13 "ReelChanger$Stock" "reels" "[LReelChanger$Reel;", Cond.methodLink RX5 165 yX3_repairAt, Cond.instanceMethod yX3_repairAt, Cond.selects RX3 yX3_repairAt yX3_repairAt, Cond.initialized RX3, Cond.code yX3_repairAt cX3_repairAt 3 none, Cond.fieldLink RX3 15 "ReelChanger$Reel" "strengths" "[I", Cond.methodLink RX3 32 yX3_spliceOfFrame, Cond.instanceMethod yX3_spliceOfFrame, Cond.selects RX3 yX3_spliceOfFrame yX3_spliceOfFrame, Cond.code yX3_spliceOfFrame cX3_spliceOfFrame 3 (some .int), Cond.fieldLink RX3 22 "ReelChanger$Reel" "spliceCount" "I", Cond.fieldLink RX3 11 "ReelChanger$Reel" "frames" "[I", Cond.constant RX3 31 (-100005), Cond.methodLink RX3 36 yX3_hasSplice, Cond.instanceMethod yX3_hasSplice, Cond.selects RX3 yX3_hasSplice yX3_hasSplice, Cond.code yX3_hasSplice cX3_hasSplice 2 (some .boolean), Cond.methodLink RX5 152 yX6_settingNumbered, Cond.instanceMethod yX6_settingNumbered, Cond.selects RX6 yX6_settingNumbered yX6_settingNumbered, Cond.code yX6_settingNumbered cX6_settingNumbered 2 (some .int), Cond.fieldLink RX6 17 "ReelChanger$Stock" "settings" "[I"]
def wsX5_finishRepair : List Cond := .code yX5_finishRepair cX5_finishRepair 5 none :: ((wsX5_finishRepair_r1 ++ wsX5_finishRepair_r2) ++ wsX20 ++ wsX30 ++ wsX60)
def wsX5_finishTask_r1 : List Cond := [Cond.fieldLink RX5 12 "ReelChanger$Show" "operator" "LReelChanger$Operator;", Cond.fieldLink RX5 155 "ReelChanger$Operator" "workProjector" "I", Cond.fieldLink RX5 158 "ReelChanger$Operator" "workKind" "I", Cond.fieldLink RX5 78 "ReelChanger$Projector" "state" "I", Cond.fieldLink RX5 55 "ReelChanger$Show" "threaded" "I", Cond.methodLink RX5 124 yX5_projectorNumbered, Cond.instanceMethod yX5_projectorNumbered, Cond.selects RX5 yX5_projectorNumbered yX5_projectorNumbered, Cond.initialized RX5, Cond.code yX5_projectorNumbered cX5_projectorNumbered 2 (some (.object "ReelChanger$Projector")), Cond.fieldLink RX5 21 "ReelChanger$Show" "first" "LReelChanger$Projector;", Cond.fieldLink RX5 25 "ReelChanger$Show" "second" "LReelChanger$Projector;", Cond.methodLink RX5 74 yX2_thread, Cond.instanceMethod yX2_thread, Cond.selects RX2 yX2_thread yX2_thread, Cond.initialized RX2, Cond.code yX2_thread cX2_thread 2 none, Cond.fieldLink RX2 9 "ReelChanger$Projector" "state" "I", Cond.fieldLink RX2 15 "ReelChanger$Projector" "place" "I", Cond.methodLink RX5 161 yX5_finishRepair, Cond.instanceMethod yX5_finishRepair, Cond.selects RX5 yX5_finishRepair yX5_finishRepair, Cond.code yX5_finishRepair cX5_finishRepair 5 none, Cond.fieldLink RX5 97 "ReelChanger$Projector" "place" "I"]
def wsX5_finishTask_r2 : List Cond := [Cond.fieldLink RX5 81 "ReelChanger$Projector" "frame" "I", Cond.fieldLink RX5 170 "ReelChanger$Reel" "length" "I", Cond.methodLink RX5 173 Lib.Math.min.name, Cond.static Lib.Math.min.name, Cond.initialized "java/lang/Math", Cond.code Lib.Math.min.name Lib.Math.min.code 2 (some .int), Cond.methodLink RX5 100 yX6_reelAtPlace, Cond.instanceMethod yX6_reelAtPlace, Cond.selects RX6 yX6_reelAtPlace yX6_reelAtPlace, Cond.initialized RX6, Cond.code yX6_reelAtPlace cX6_reelAtPlace 2 (some (.object "ReelChanger$Reel")), Cond.methodLink RX6 79 yX6_numberAtPlace, Cond.instanceMethod yX6_numberAtPlace, Cond.selects RX6 yX6_numberAtPlace yX6_numberAtPlace, Cond.code yX6_numberAtPlace cX6_numberAtPlace 2 (some .int), Cond.fieldLink RX6 42 "ReelChanger$Stock" "placeCount" "I", Cond.fieldLink RX6 21 "ReelChanger$Stock" "places" "[I", Cond.constant RX6 64 (-100001), Cond.methodLink RX6 50 yX6_reelNumbered, Cond.instanceMethod yX6_reelNumbered, Cond.selects RX6 yX6_reelNumbered yX6_reelNumbered, Cond.code yX6_reelNumbered cX6_reelNumbered 2 (some (.object "ReelChanger$Reel")), Cond.fieldLink RX6 34 "ReelChanger$Stock" "reelCount" "I", Cond.fieldLink RX6 13 "ReelChanger$Stock" "reels" "[LReelChanger$Reel;"]
def wsX5_finishTask_r3 : List Cond := [Cond.methodLink RX5 165 yX3_repairAt, Cond.instanceMethod yX3_repairAt, Cond.selects RX3 yX3_repairAt yX3_repairAt, Cond.initialized RX3, Cond.code yX3_repairAt cX3_repairAt 3 none, Cond.fieldLink RX3 15 "ReelChanger$Reel" "strengths" "[I", Cond.methodLink RX3 32 yX3_spliceOfFrame, Cond.instanceMethod yX3_spliceOfFrame, Cond.selects RX3 yX3_spliceOfFrame yX3_spliceOfFrame, Cond.code yX3_spliceOfFrame cX3_spliceOfFrame 3 (some .int), Cond.fieldLink RX3 22 "ReelChanger$Reel" "spliceCount" "I", Cond.fieldLink RX3 11 "ReelChanger$Reel" "frames" "[I", Cond.constant RX3 31 (-100005), Cond.methodLink RX3 36 yX3_hasSplice, Cond.instanceMethod yX3_hasSplice, Cond.selects RX3 yX3_hasSplice yX3_hasSplice, Cond.code yX3_hasSplice cX3_hasSplice 2 (some .boolean), Cond.methodLink RX5 152 yX6_settingNumbered, Cond.instanceMethod yX6_settingNumbered, Cond.selects RX6 yX6_settingNumbered yX6_settingNumbered, Cond.code yX6_settingNumbered cX6_settingNumbered 2 (some .int), Cond.fieldLink RX6 17 "ReelChanger$Stock" "settings" "[I"]
def wsX5_finishTask : List Cond := .code yX5_finishTask cX5_finishTask 3 none :: ((wsX5_finishTask_r1 ++ (wsX5_finishTask_r2 ++ wsX5_finishTask_r3)) ++ wsX50 ++ wsX00 ++ wsX20 ++ wsX30 ++ wsX60)
def wsX6_clearingTime : List Cond := .code yX6_clearingTime cX6_clearingTime 4 (some .int) :: ([.fieldLink RX6 17 "ReelChanger$Stock" "settings" "[I", .fieldLink RX6 85 "ReelChanger$Reel" "length" "I", .methodLink RX6 82 yX6_reelAtPlace, .instanceMethod yX6_reelAtPlace, .selects RX6 yX6_reelAtPlace yX6_reelAtPlace, .initialized RX6, .code yX6_reelAtPlace cX6_reelAtPlace 2 (some (.object "ReelChanger$Reel")), .methodLink RX6 79 yX6_numberAtPlace, .instanceMethod yX6_numberAtPlace, .selects RX6 yX6_numberAtPlace yX6_numberAtPlace, .code yX6_numberAtPlace cX6_numberAtPlace 2 (some .int), .fieldLink RX6 42 "ReelChanger$Stock" "placeCount" "I", .fieldLink RX6 21 "ReelChanger$Stock" "places" "[I", .constant RX6 64 (-100001), .methodLink RX6 50 yX6_reelNumbered, .instanceMethod yX6_reelNumbered, .selects RX6 yX6_reelNumbered yX6_reelNumbered, .code yX6_reelNumbered cX6_reelNumbered 2 (some (.object "ReelChanger$Reel")), .fieldLink RX6 34 "ReelChanger$Stock" "reelCount" "I", .fieldLink RX6 13 "ReelChanger$Stock" "reels" "[LReelChanger$Reel;"] ++ wsX60 ++ wsX30)
def wsX5_ticksOfFirstTask_r1 : List Cond := [Cond.fieldLink RX5 12 "ReelChanger$Show" "operator" "LReelChanger$Operator;", Cond.fieldLink RX5 97 "ReelChanger$Projector" "place" "I", Cond.methodLink RX5 142 yX0_kindOf, Cond.instanceMethod yX0_kindOf, Cond.selects RX0 yX0_kindOf yX0_kindOf, Cond.initialized RX0, Cond.code yX0_kindOf cX0_kindOf 2 (some .int), Cond.constant RX0 41 (-100005), Cond.fieldLink RX0 25 "ReelChanger$Operator" "workKind" "I", Cond.fieldLink RX0 11 "ReelChanger$Operator" "kinds" "[I", Cond.methodLink RX0 37 yX0_hasTask, Cond.instanceMethod yX0_hasTask, Cond.selects RX0 yX0_hasTask yX0_hasTask, Cond.code yX0_hasTask cX0_hasTask 2 (some .boolean), Cond.fieldLink RX0 18 "ReelChanger$Operator" "ticksLeft" "I", Cond.fieldLink RX0 22 "ReelChanger$Operator" "rowCount" "I", Cond.methodLink RX5 146 yX0_projectorOf, Cond.instanceMethod yX0_projectorOf, Cond.selects RX0 yX0_projectorOf yX0_projectorOf, Cond.code yX0_projectorOf cX0_projectorOf 2 (some .int), Cond.fieldLink RX0 28 "ReelChanger$Operator" "workProjector" "I", Cond.fieldLink RX0 15 "ReelChanger$Operator" "projectors" "[I", Cond.methodLink RX5 124 yX5_projectorNumbered, Cond.instanceMethod yX5_projectorNumbered]
def wsX5_ticksOfFirstTask_r2 : List Cond := [Cond.selects RX5 yX5_projectorNumbered yX5_projectorNumbered, Cond.initialized RX5, Cond.code yX5_projectorNumbered cX5_projectorNumbered 2 (some (.object "ReelChanger$Projector")), Cond.fieldLink RX5 21 "ReelChanger$Show" "first" "LReelChanger$Projector;", Cond.fieldLink RX5 25 "ReelChanger$Show" "second" "LReelChanger$Projector;", Cond.methodLink RX5 149 yX6_clearingTime, Cond.instanceMethod yX6_clearingTime, Cond.selects RX6 yX6_clearingTime yX6_clearingTime, Cond.initialized RX6, Cond.code yX6_clearingTime cX6_clearingTime 4 (some .int), Cond.fieldLink RX6 17 "ReelChanger$Stock" "settings" "[I", Cond.fieldLink RX6 85 "ReelChanger$Reel" "length" "I", Cond.methodLink RX6 82 yX6_reelAtPlace, Cond.instanceMethod yX6_reelAtPlace, Cond.selects RX6 yX6_reelAtPlace yX6_reelAtPlace, Cond.code yX6_reelAtPlace cX6_reelAtPlace 2 (some (.object "ReelChanger$Reel")), Cond.methodLink RX6 79 yX6_numberAtPlace, Cond.instanceMethod yX6_numberAtPlace, Cond.selects RX6 yX6_numberAtPlace yX6_numberAtPlace, Cond.code yX6_numberAtPlace cX6_numberAtPlace 2 (some .int), Cond.fieldLink RX6 42 "ReelChanger$Stock" "placeCount" "I", Cond.fieldLink RX6 21 "ReelChanger$Stock" "places" "[I", Cond.constant RX6 64 (-100001), Cond.methodLink RX6 50 yX6_reelNumbered]
def wsX5_ticksOfFirstTask_r3 : List Cond := [Cond.instanceMethod yX6_reelNumbered, Cond.selects RX6 yX6_reelNumbered yX6_reelNumbered, Cond.code yX6_reelNumbered cX6_reelNumbered 2 (some (.object "ReelChanger$Reel")), Cond.fieldLink RX6 34 "ReelChanger$Stock" "reelCount" "I", Cond.fieldLink RX6 13 "ReelChanger$Stock" "reels" "[LReelChanger$Reel;", Cond.methodLink RX5 152 yX6_settingNumbered, Cond.instanceMethod yX6_settingNumbered, Cond.selects RX6 yX6_settingNumbered yX6_settingNumbered, Cond.code yX6_settingNumbered cX6_settingNumbered 2 (some .int)]
def wsX5_ticksOfFirstTask : List Cond := .code yX5_ticksOfFirstTask cX5_ticksOfFirstTask 2 (some .int) :: ((wsX5_ticksOfFirstTask_r1 ++ (wsX5_ticksOfFirstTask_r2 ++ wsX5_ticksOfFirstTask_r3)) ++ wsX50 ++ wsX20 ++ wsX00 ++ wsX60 ++ wsX30)
def wsX5_work_r1 : List Cond := [Cond.fieldLink RX5 12 "ReelChanger$Show" "operator" "LReelChanger$Operator;", Cond.fieldLink RX5 67 "ReelChanger$Operator" "ticksLeft" "I", Cond.fieldLink RX5 64 "ReelChanger$Operator" "rowCount" "I", Cond.methodLink RX5 128 yX0_isWorking, Cond.instanceMethod yX0_isWorking, Cond.selects RX0 yX0_isWorking yX0_isWorking, Cond.initialized RX0, Cond.code yX0_isWorking cX0_isWorking 1 (some .boolean), Cond.fieldLink RX0 18 "ReelChanger$Operator" "ticksLeft" "I", Cond.methodLink RX5 132 yX5_finishTask, Cond.instanceMethod yX5_finishTask, Cond.selects RX5 yX5_finishTask yX5_finishTask, Cond.initialized RX5, Cond.code yX5_finishTask cX5_finishTask 3 none, Cond.fieldLink RX5 155 "ReelChanger$Operator" "workProjector" "I", Cond.fieldLink RX5 158 "ReelChanger$Operator" "workKind" "I", Cond.fieldLink RX5 78 "ReelChanger$Projector" "state" "I", Cond.fieldLink RX5 55 "ReelChanger$Show" "threaded" "I", Cond.methodLink RX5 124 yX5_projectorNumbered, Cond.instanceMethod yX5_projectorNumbered, Cond.selects RX5 yX5_projectorNumbered yX5_projectorNumbered, Cond.code yX5_projectorNumbered cX5_projectorNumbered 2 (some (.object "ReelChanger$Projector")), Cond.fieldLink RX5 21 "ReelChanger$Show" "first" "LReelChanger$Projector;", Cond.fieldLink RX5 25 "ReelChanger$Show" "second" "LReelChanger$Projector;"]
def wsX5_work_r2 : List Cond := [Cond.methodLink RX5 74 yX2_thread, Cond.instanceMethod yX2_thread, Cond.selects RX2 yX2_thread yX2_thread, Cond.initialized RX2, Cond.code yX2_thread cX2_thread 2 none, Cond.fieldLink RX2 9 "ReelChanger$Projector" "state" "I", Cond.fieldLink RX2 15 "ReelChanger$Projector" "place" "I", Cond.methodLink RX5 161 yX5_finishRepair, Cond.instanceMethod yX5_finishRepair, Cond.selects RX5 yX5_finishRepair yX5_finishRepair, Cond.code yX5_finishRepair cX5_finishRepair 5 none, Cond.fieldLink RX5 97 "ReelChanger$Projector" "place" "I", Cond.fieldLink RX5 81 "ReelChanger$Projector" "frame" "I", Cond.fieldLink RX5 170 "ReelChanger$Reel" "length" "I", Cond.methodLink RX5 173 Lib.Math.min.name, Cond.static Lib.Math.min.name, Cond.initialized "java/lang/Math", Cond.code Lib.Math.min.name Lib.Math.min.code 2 (some .int), Cond.methodLink RX5 100 yX6_reelAtPlace, Cond.instanceMethod yX6_reelAtPlace, Cond.selects RX6 yX6_reelAtPlace yX6_reelAtPlace, Cond.initialized RX6, Cond.code yX6_reelAtPlace cX6_reelAtPlace 2 (some (.object "ReelChanger$Reel")), Cond.methodLink RX6 79 yX6_numberAtPlace]
def wsX5_work_r3 : List Cond := [Cond.instanceMethod yX6_numberAtPlace, Cond.selects RX6 yX6_numberAtPlace yX6_numberAtPlace, Cond.code yX6_numberAtPlace cX6_numberAtPlace 2 (some .int), Cond.fieldLink RX6 42 "ReelChanger$Stock" "placeCount" "I", Cond.fieldLink RX6 21 "ReelChanger$Stock" "places" "[I", Cond.constant RX6 64 (-100001), Cond.methodLink RX6 50 yX6_reelNumbered, Cond.instanceMethod yX6_reelNumbered, Cond.selects RX6 yX6_reelNumbered yX6_reelNumbered, Cond.code yX6_reelNumbered cX6_reelNumbered 2 (some (.object "ReelChanger$Reel")), Cond.fieldLink RX6 34 "ReelChanger$Stock" "reelCount" "I", Cond.fieldLink RX6 13 "ReelChanger$Stock" "reels" "[LReelChanger$Reel;", Cond.methodLink RX5 165 yX3_repairAt, Cond.instanceMethod yX3_repairAt, Cond.selects RX3 yX3_repairAt yX3_repairAt, Cond.initialized RX3, Cond.code yX3_repairAt cX3_repairAt 3 none, Cond.fieldLink RX3 15 "ReelChanger$Reel" "strengths" "[I", Cond.methodLink RX3 32 yX3_spliceOfFrame, Cond.instanceMethod yX3_spliceOfFrame, Cond.selects RX3 yX3_spliceOfFrame yX3_spliceOfFrame, Cond.code yX3_spliceOfFrame cX3_spliceOfFrame 3 (some .int), Cond.fieldLink RX3 22 "ReelChanger$Reel" "spliceCount" "I", Cond.fieldLink RX3 11 "ReelChanger$Reel" "frames" "[I"]
def wsX5_work_r4 : List Cond := [Cond.constant RX3 31 (-100005), Cond.methodLink RX3 36 yX3_hasSplice, Cond.instanceMethod yX3_hasSplice, Cond.selects RX3 yX3_hasSplice yX3_hasSplice, Cond.code yX3_hasSplice cX3_hasSplice 2 (some .boolean), Cond.methodLink RX5 152 yX6_settingNumbered, Cond.instanceMethod yX6_settingNumbered, Cond.selects RX6 yX6_settingNumbered yX6_settingNumbered, Cond.code yX6_settingNumbered cX6_settingNumbered 2 (some .int), Cond.fieldLink RX6 17 "ReelChanger$Stock" "settings" "[I", Cond.methodLink RX5 135 yX5_ticksOfFirstTask, Cond.instanceMethod yX5_ticksOfFirstTask, Cond.selects RX5 yX5_ticksOfFirstTask yX5_ticksOfFirstTask, Cond.code yX5_ticksOfFirstTask cX5_ticksOfFirstTask 2 (some .int), Cond.methodLink RX5 142 yX0_kindOf, Cond.instanceMethod yX0_kindOf, Cond.selects RX0 yX0_kindOf yX0_kindOf, Cond.code yX0_kindOf cX0_kindOf 2 (some .int), Cond.constant RX0 41 (-100005), Cond.fieldLink RX0 25 "ReelChanger$Operator" "workKind" "I", Cond.fieldLink RX0 11 "ReelChanger$Operator" "kinds" "[I", Cond.methodLink RX0 37 yX0_hasTask, Cond.instanceMethod yX0_hasTask, Cond.selects RX0 yX0_hasTask yX0_hasTask]
def wsX5_work_r5 : List Cond := [Cond.code yX0_hasTask cX0_hasTask 2 (some .boolean), Cond.fieldLink RX0 22 "ReelChanger$Operator" "rowCount" "I", Cond.methodLink RX5 146 yX0_projectorOf, Cond.instanceMethod yX0_projectorOf, Cond.selects RX0 yX0_projectorOf yX0_projectorOf, Cond.code yX0_projectorOf cX0_projectorOf 2 (some .int), Cond.fieldLink RX0 28 "ReelChanger$Operator" "workProjector" "I", Cond.fieldLink RX0 15 "ReelChanger$Operator" "projectors" "[I", Cond.methodLink RX5 149 yX6_clearingTime, Cond.instanceMethod yX6_clearingTime, Cond.selects RX6 yX6_clearingTime yX6_clearingTime, Cond.code yX6_clearingTime cX6_clearingTime 4 (some .int), Cond.fieldLink RX6 85 "ReelChanger$Reel" "length" "I", Cond.methodLink RX6 82 yX6_reelAtPlace, Cond.methodLink RX5 139 yX0_takeUp, Cond.instanceMethod yX0_takeUp, Cond.selects RX0 yX0_takeUp yX0_takeUp, Cond.code yX0_takeUp cX0_takeUp 2 none, Cond.methodLink RX0 31 arraycopyName, Cond.native arraycopyName, Cond.static arraycopyName, Cond.initialized "java/lang/System"]
def wsX5_work : List Cond := .code yX5_work cX5_work 2 none :: ((wsX5_work_r1 ++ (wsX5_work_r2 ++ (wsX5_work_r3 ++ (wsX5_work_r4 ++ wsX5_work_r5)))) ++ wsX50 ++ wsX00 ++ wsX20 ++ wsX30 ++ wsX60)
def wsX5_frontProjector : List Cond := .code yX5_frontProjector cX5_frontProjector 1 (some (.object "ReelChanger$Projector")) :: ([.fieldLink RX5 52 "ReelChanger$Show" "front" "I", .methodLink RX5 124 yX5_projectorNumbered, .instanceMethod yX5_projectorNumbered, .selects RX5 yX5_projectorNumbered yX5_projectorNumbered, .initialized RX5, .code yX5_projectorNumbered cX5_projectorNumbered 2 (some (.object "ReelChanger$Projector")), .fieldLink RX5 21 "ReelChanger$Show" "first" "LReelChanger$Projector;", .fieldLink RX5 25 "ReelChanger$Show" "second" "LReelChanger$Projector;"] ++ wsX50)
def wsX5_backProjector : List Cond := .code yX5_backProjector cX5_backProjector 1 (some (.object "ReelChanger$Projector")) :: ([.fieldLink RX5 52 "ReelChanger$Show" "front" "I", .methodLink RX5 124 yX5_projectorNumbered, .instanceMethod yX5_projectorNumbered, .selects RX5 yX5_projectorNumbered yX5_projectorNumbered, .initialized RX5, .code yX5_projectorNumbered cX5_projectorNumbered 2 (some (.object "ReelChanger$Projector")), .fieldLink RX5 21 "ReelChanger$Show" "first" "LReelChanger$Projector;", .fieldLink RX5 25 "ReelChanger$Show" "second" "LReelChanger$Projector;"] ++ wsX50)
def wsX5_framesBehindMark : List Cond := .code yX5_framesBehindMark cX5_framesBehindMark 3 (some .int) :: ([.fieldLink RX5 58 "ReelChanger$Show" "ranOut" "Z", .fieldLink RX5 78 "ReelChanger$Projector" "state" "I", .fieldLink RX5 81 "ReelChanger$Projector" "frame" "I", .fieldLink RX5 170 "ReelChanger$Reel" "length" "I", .methodLink RX5 93 yX5_frontProjector, .instanceMethod yX5_frontProjector, .selects RX5 yX5_frontProjector yX5_frontProjector, .initialized RX5, .code yX5_frontProjector cX5_frontProjector 1 (some (.object "ReelChanger$Projector")), .fieldLink RX5 52 "ReelChanger$Show" "front" "I", .methodLink RX5 124 yX5_projectorNumbered, .instanceMethod yX5_projectorNumbered, .selects RX5 yX5_projectorNumbered yX5_projectorNumbered, .code yX5_projectorNumbered cX5_projectorNumbered 2 (some (.object "ReelChanger$Projector")), .fieldLink RX5 21 "ReelChanger$Show" "first" "LReelChanger$Projector;", .fieldLink RX5 25 "ReelChanger$Show" "second" "LReelChanger$Projector;", .methodLink RX5 152 yX6_settingNumbered, .instanceMethod yX6_settingNumbered, .selects RX6 yX6_settingNumbered yX6_settingNumbered, .initialized RX6, .code yX6_settingNumbered cX6_settingNumbered 2 (some .int), .fieldLink RX6 17 "ReelChanger$Stock" "settings" "[I", .constant RX6 64 (-100001)] ++ wsX50 ++ wsX20 ++ wsX30 ++ wsX60)
def wsX5_startBack_r1 : List Cond := [Cond.fieldLink RX5 78 "ReelChanger$Projector" "state" "I", Cond.fieldLink RX5 42 "ReelChanger$Show" "late" "I", Cond.methodLink RX5 179 yX5_backProjector, Cond.instanceMethod yX5_backProjector, Cond.selects RX5 yX5_backProjector yX5_backProjector, Cond.initialized RX5, Cond.code yX5_backProjector cX5_backProjector 1 (some (.object "ReelChanger$Projector")), Cond.fieldLink RX5 52 "ReelChanger$Show" "front" "I", Cond.methodLink RX5 124 yX5_projectorNumbered, Cond.instanceMethod yX5_projectorNumbered, Cond.selects RX5 yX5_projectorNumbered yX5_projectorNumbered, Cond.code yX5_projectorNumbered cX5_projectorNumbered 2 (some (.object "ReelChanger$Projector")), Cond.fieldLink RX5 21 "ReelChanger$Show" "first" "LReelChanger$Projector;", Cond.fieldLink RX5 25 "ReelChanger$Show" "second" "LReelChanger$Projector;", Cond.methodLink RX5 182 yX5_framesBehindMark, Cond.instanceMethod yX5_framesBehindMark, Cond.selects RX5 yX5_framesBehindMark yX5_framesBehindMark, Cond.code yX5_framesBehindMark cX5_framesBehindMark 3 (some .int), Cond.fieldLink RX5 58 "ReelChanger$Show" "ranOut" "Z", Cond.fieldLink RX5 81 "ReelChanger$Projector" "frame" "I", Cond.fieldLink RX5 170 "ReelChanger$Reel" "length" "I", Cond.methodLink RX5 93 yX5_frontProjector, Cond.instanceMethod yX5_frontProjector, Cond.selects RX5 yX5_frontProjector yX5_frontProjector]
def wsX5_startBack_r2 : List Cond := [Cond.code yX5_frontProjector cX5_frontProjector 1 (some (.object "ReelChanger$Projector")), Cond.methodLink RX5 152 yX6_settingNumbered, Cond.instanceMethod yX6_settingNumbered, Cond.selects RX6 yX6_settingNumbered yX6_settingNumbered, Cond.initialized RX6, Cond.code yX6_settingNumbered cX6_settingNumbered 2 (some .int), Cond.fieldLink RX6 17 "ReelChanger$Stock" "settings" "[I", Cond.constant RX6 64 (-100001), Cond.methodLink RX5 186 yX2_start, Cond.instanceMethod yX2_start, Cond.selects RX2 yX2_start yX2_start, Cond.initialized RX2, Cond.code yX2_start cX2_start 2 none, Cond.fieldLink RX2 9 "ReelChanger$Projector" "state" "I", Cond.fieldLink RX2 18 "ReelChanger$Projector" "frame" "I"]
def wsX5_startBack : List Cond := .code yX5_startBack cX5_startBack 5 none :: ((wsX5_startBack_r1 ++ wsX5_startBack_r2) ++ wsX20 ++ wsX50 ++ wsX30 ++ wsX60)
def wsX5_goOn : List Cond := .code yX5_goOn cX5_goOn 1 none :: ([.fieldLink RX5 81 "ReelChanger$Projector" "frame" "I", .methodLink RX5 189 yX2_isMoving, .instanceMethod yX2_isMoving, .selects RX2 yX2_isMoving yX2_isMoving, .initialized RX2, .code yX2_isMoving cX2_isMoving 1 (some .boolean), .fieldLink RX2 9 "ReelChanger$Projector" "state" "I"] ++ wsX20)
def wsX5_wearSplice_r1 : List Cond := [Cond.fieldLink RX5 78 "ReelChanger$Projector" "state" "I", Cond.fieldLink RX5 81 "ReelChanger$Projector" "frame" "I", Cond.fieldLink RX5 45 "ReelChanger$Show" "breaks" "I", Cond.fieldLink RX5 12 "ReelChanger$Show" "operator" "LReelChanger$Operator;", Cond.fieldLink RX5 52 "ReelChanger$Show" "front" "I", Cond.methodLink RX5 93 yX5_frontProjector, Cond.instanceMethod yX5_frontProjector, Cond.selects RX5 yX5_frontProjector yX5_frontProjector, Cond.initialized RX5, Cond.code yX5_frontProjector cX5_frontProjector 1 (some (.object "ReelChanger$Projector")), Cond.methodLink RX5 124 yX5_projectorNumbered, Cond.instanceMethod yX5_projectorNumbered, Cond.selects RX5 yX5_projectorNumbered yX5_projectorNumbered, Cond.code yX5_projectorNumbered cX5_projectorNumbered 2 (some (.object "ReelChanger$Projector")), Cond.fieldLink RX5 21 "ReelChanger$Show" "first" "LReelChanger$Projector;", Cond.fieldLink RX5 25 "ReelChanger$Show" "second" "LReelChanger$Projector;", Cond.methodLink RX5 192 yX3_breaksAt, Cond.instanceMethod yX3_breaksAt, Cond.selects RX3 yX3_breaksAt yX3_breaksAt, Cond.initialized RX3, Cond.code yX3_breaksAt cX3_breaksAt 3 (some .boolean), Cond.fieldLink RX3 15 "ReelChanger$Reel" "strengths" "[I", Cond.methodLink RX3 41 Lib.Math.max.name, Cond.static Lib.Math.max.name]
def wsX5_wearSplice_r2 : List Cond := [Cond.initialized "java/lang/Math", Cond.code Lib.Math.max.name Lib.Math.max.code 2 (some .int), Cond.methodLink RX3 32 yX3_spliceOfFrame, Cond.instanceMethod yX3_spliceOfFrame, Cond.selects RX3 yX3_spliceOfFrame yX3_spliceOfFrame, Cond.code yX3_spliceOfFrame cX3_spliceOfFrame 3 (some .int), Cond.fieldLink RX3 22 "ReelChanger$Reel" "spliceCount" "I", Cond.fieldLink RX3 11 "ReelChanger$Reel" "frames" "[I", Cond.constant RX3 31 (-100005), Cond.methodLink RX3 36 yX3_hasSplice, Cond.instanceMethod yX3_hasSplice, Cond.selects RX3 yX3_hasSplice yX3_hasSplice, Cond.code yX3_hasSplice cX3_hasSplice 2 (some .boolean), Cond.methodLink RX5 196 yX0_addFirst, Cond.instanceMethod yX0_addFirst, Cond.selects RX0 yX0_addFirst yX0_addFirst, Cond.initialized RX0, Cond.code yX0_addFirst cX0_addFirst 3 none, Cond.fieldLink RX0 22 "ReelChanger$Operator" "rowCount" "I", Cond.fieldLink RX0 11 "ReelChanger$Operator" "kinds" "[I", Cond.methodLink RX0 31 arraycopyName, Cond.native arraycopyName, Cond.static arraycopyName, Cond.initialized "java/lang/System"]
def wsX5_wearSplice_r3 : List Cond := [Cond.fieldLink RX0 15 "ReelChanger$Operator" "projectors" "[I", Cond.methodLink RX5 179 yX5_backProjector, Cond.instanceMethod yX5_backProjector, Cond.selects RX5 yX5_backProjector yX5_backProjector, Cond.code yX5_backProjector cX5_backProjector 1 (some (.object "ReelChanger$Projector"))]
def wsX5_wearSplice : List Cond := .code yX5_wearSplice cX5_wearSplice 3 none :: ((wsX5_wearSplice_r1 ++ (wsX5_wearSplice_r2 ++ wsX5_wearSplice_r3)) ++ wsX20 ++ wsX50 ++ wsX30 ++ wsX00)
def wsX5_orderNextReel_r1 : List Cond := [Cond.fieldLink RX5 12 "ReelChanger$Show" "operator" "LReelChanger$Operator;", Cond.fieldLink RX5 52 "ReelChanger$Show" "front" "I", Cond.fieldLink RX5 84 "ReelChanger$Stock" "placeCount" "I", Cond.fieldLink RX5 55 "ReelChanger$Show" "threaded" "I", Cond.methodLink RX5 203 yX0_addLast, Cond.instanceMethod yX0_addLast, Cond.selects RX0 yX0_addLast yX0_addLast, Cond.initialized RX0, Cond.code yX0_addLast cX0_addLast 3 none, Cond.fieldLink RX0 22 "ReelChanger$Operator" "rowCount" "I", Cond.fieldLink RX0 11 "ReelChanger$Operator" "kinds" "[I", Cond.fieldLink RX0 15 "ReelChanger$Operator" "projectors" "[I", Cond.methodLink RX5 206 yX0_threadTasks, Cond.instanceMethod yX0_threadTasks, Cond.selects RX0 yX0_threadTasks yX0_threadTasks, Cond.code yX0_threadTasks cX0_threadTasks 3 (some .int), Cond.methodLink RX0 42 yX0_kindOf, Cond.instanceMethod yX0_kindOf, Cond.selects RX0 yX0_kindOf yX0_kindOf, Cond.code yX0_kindOf cX0_kindOf 2 (some .int), Cond.constant RX0 41 (-100005), Cond.fieldLink RX0 25 "ReelChanger$Operator" "workKind" "I", Cond.methodLink RX0 37 yX0_hasTask, Cond.instanceMethod yX0_hasTask]
def wsX5_orderNextReel_r2 : List Cond := [Cond.selects RX0 yX0_hasTask yX0_hasTask, Cond.code yX0_hasTask cX0_hasTask 2 (some .boolean), Cond.fieldLink RX0 18 "ReelChanger$Operator" "ticksLeft" "I"]
def wsX5_orderNextReel : List Cond := .code yX5_orderNextReel cX5_orderNextReel 2 none :: ((wsX5_orderNextReel_r1 ++ wsX5_orderNextReel_r2) ++ wsX50 ++ wsX60 ++ wsX00)
def wsX5_runOut_r1 : List Cond := [Cond.fieldLink RX5 97 "ReelChanger$Projector" "place" "I", Cond.fieldLink RX5 84 "ReelChanger$Stock" "placeCount" "I", Cond.fieldLink RX5 78 "ReelChanger$Projector" "state" "I", Cond.fieldLink RX5 81 "ReelChanger$Projector" "frame" "I", Cond.fieldLink RX5 170 "ReelChanger$Reel" "length" "I", Cond.fieldLink RX5 58 "ReelChanger$Show" "ranOut" "Z", Cond.fieldLink RX5 28 "ReelChanger$Show" "running" "Z", Cond.methodLink RX5 93 yX5_frontProjector, Cond.instanceMethod yX5_frontProjector, Cond.selects RX5 yX5_frontProjector yX5_frontProjector, Cond.initialized RX5, Cond.code yX5_frontProjector cX5_frontProjector 1 (some (.object "ReelChanger$Projector")), Cond.fieldLink RX5 52 "ReelChanger$Show" "front" "I", Cond.methodLink RX5 124 yX5_projectorNumbered, Cond.instanceMethod yX5_projectorNumbered, Cond.selects RX5 yX5_projectorNumbered yX5_projectorNumbered, Cond.code yX5_projectorNumbered cX5_projectorNumbered 2 (some (.object "ReelChanger$Projector")), Cond.fieldLink RX5 21 "ReelChanger$Show" "first" "LReelChanger$Projector;", Cond.fieldLink RX5 25 "ReelChanger$Show" "second" "LReelChanger$Projector;", Cond.methodLink RX5 152 yX6_settingNumbered, Cond.instanceMethod yX6_settingNumbered, Cond.selects RX6 yX6_settingNumbered yX6_settingNumbered, Cond.initialized RX6, Cond.code yX6_settingNumbered cX6_settingNumbered 2 (some .int)]
def wsX5_runOut_r2 : List Cond := [Cond.fieldLink RX6 17 "ReelChanger$Stock" "settings" "[I", Cond.constant RX6 64 (-100001), Cond.methodLink RX5 200 yX5_orderNextReel, Cond.instanceMethod yX5_orderNextReel, Cond.selects RX5 yX5_orderNextReel yX5_orderNextReel, Cond.code yX5_orderNextReel cX5_orderNextReel 2 none, Cond.fieldLink RX5 12 "ReelChanger$Show" "operator" "LReelChanger$Operator;", Cond.fieldLink RX5 55 "ReelChanger$Show" "threaded" "I", Cond.methodLink RX5 203 yX0_addLast, Cond.instanceMethod yX0_addLast, Cond.selects RX0 yX0_addLast yX0_addLast, Cond.initialized RX0, Cond.code yX0_addLast cX0_addLast 3 none, Cond.fieldLink RX0 22 "ReelChanger$Operator" "rowCount" "I", Cond.fieldLink RX0 11 "ReelChanger$Operator" "kinds" "[I", Cond.fieldLink RX0 15 "ReelChanger$Operator" "projectors" "[I", Cond.methodLink RX5 206 yX0_threadTasks, Cond.instanceMethod yX0_threadTasks, Cond.selects RX0 yX0_threadTasks yX0_threadTasks, Cond.code yX0_threadTasks cX0_threadTasks 3 (some .int), Cond.methodLink RX0 42 yX0_kindOf, Cond.instanceMethod yX0_kindOf, Cond.selects RX0 yX0_kindOf yX0_kindOf, Cond.code yX0_kindOf cX0_kindOf 2 (some .int)]
def wsX5_runOut_r3 : List Cond := [Cond.constant RX0 41 (-100005), Cond.fieldLink RX0 25 "ReelChanger$Operator" "workKind" "I", Cond.methodLink RX0 37 yX0_hasTask, Cond.instanceMethod yX0_hasTask, Cond.selects RX0 yX0_hasTask yX0_hasTask, Cond.code yX0_hasTask cX0_hasTask 2 (some .boolean), Cond.fieldLink RX0 18 "ReelChanger$Operator" "ticksLeft" "I"]
def wsX5_runOut : List Cond := .code yX5_runOut cX5_runOut 6 none :: ((wsX5_runOut_r1 ++ (wsX5_runOut_r2 ++ wsX5_runOut_r3)) ++ wsX20 ++ wsX60 ++ wsX30 ++ wsX50 ++ wsX00)
def wsX5_changeOver : List Cond := .code yX5_changeOver cX5_changeOver 2 none :: ([.fieldLink RX5 58 "ReelChanger$Show" "ranOut" "Z", .fieldLink RX5 28 "ReelChanger$Show" "running" "Z", .fieldLink RX5 78 "ReelChanger$Projector" "state" "I", .fieldLink RX5 81 "ReelChanger$Projector" "frame" "I", .fieldLink RX5 39 "ReelChanger$Show" "missed" "I", .fieldLink RX5 52 "ReelChanger$Show" "front" "I", .methodLink RX5 179 yX5_backProjector, .instanceMethod yX5_backProjector, .selects RX5 yX5_backProjector yX5_backProjector, .initialized RX5, .code yX5_backProjector cX5_backProjector 1 (some (.object "ReelChanger$Projector")), .methodLink RX5 124 yX5_projectorNumbered, .instanceMethod yX5_projectorNumbered, .selects RX5 yX5_projectorNumbered yX5_projectorNumbered, .code yX5_projectorNumbered cX5_projectorNumbered 2 (some (.object "ReelChanger$Projector")), .fieldLink RX5 21 "ReelChanger$Show" "first" "LReelChanger$Projector;", .fieldLink RX5 25 "ReelChanger$Show" "second" "LReelChanger$Projector;"] ++ wsX50 ++ wsX20)
def wsX5_countTick : List Cond := .code yX5_countTick cX5_countTick 1 none :: ([.fieldLink RX5 32 "ReelChanger$Show" "time" "I", .fieldLink RX5 28 "ReelChanger$Show" "running" "Z", .fieldLink RX5 78 "ReelChanger$Projector" "state" "I", .fieldLink RX5 36 "ReelChanger$Show" "dark" "I", .methodLink RX5 93 yX5_frontProjector, .instanceMethod yX5_frontProjector, .selects RX5 yX5_frontProjector yX5_frontProjector, .initialized RX5, .code yX5_frontProjector cX5_frontProjector 1 (some (.object "ReelChanger$Projector")), .fieldLink RX5 52 "ReelChanger$Show" "front" "I", .methodLink RX5 124 yX5_projectorNumbered, .instanceMethod yX5_projectorNumbered, .selects RX5 yX5_projectorNumbered yX5_projectorNumbered, .code yX5_projectorNumbered cX5_projectorNumbered 2 (some (.object "ReelChanger$Projector")), .fieldLink RX5 21 "ReelChanger$Show" "first" "LReelChanger$Projector;", .fieldLink RX5 25 "ReelChanger$Show" "second" "LReelChanger$Projector;"] ++ wsX50 ++ wsX20)
def wsX5_run_r1 : List Cond := [Cond.fieldLink RX5 28 "ReelChanger$Show" "running" "Z", Cond.fieldLink RX5 97 "ReelChanger$Projector" "place" "I", Cond.fieldLink RX5 21 "ReelChanger$Show" "first" "LReelChanger$Projector;", Cond.fieldLink RX5 25 "ReelChanger$Show" "second" "LReelChanger$Projector;", Cond.methodLink RX5 89 yX5_work, Cond.instanceMethod yX5_work, Cond.selects RX5 yX5_work yX5_work, Cond.initialized RX5, Cond.code yX5_work cX5_work 2 none, Cond.fieldLink RX5 12 "ReelChanger$Show" "operator" "LReelChanger$Operator;", Cond.fieldLink RX5 67 "ReelChanger$Operator" "ticksLeft" "I", Cond.fieldLink RX5 64 "ReelChanger$Operator" "rowCount" "I", Cond.methodLink RX5 128 yX0_isWorking, Cond.instanceMethod yX0_isWorking, Cond.selects RX0 yX0_isWorking yX0_isWorking, Cond.initialized RX0, Cond.code yX0_isWorking cX0_isWorking 1 (some .boolean), Cond.fieldLink RX0 18 "ReelChanger$Operator" "ticksLeft" "I", Cond.methodLink RX5 132 yX5_finishTask, Cond.instanceMethod yX5_finishTask, Cond.selects RX5 yX5_finishTask yX5_finishTask, Cond.code yX5_finishTask cX5_finishTask 3 none, Cond.fieldLink RX5 155 "ReelChanger$Operator" "workProjector" "I", Cond.fieldLink RX5 158 "ReelChanger$Operator" "workKind" "I"]
def wsX5_run_r2 : List Cond := [Cond.fieldLink RX5 78 "ReelChanger$Projector" "state" "I", Cond.fieldLink RX5 55 "ReelChanger$Show" "threaded" "I", Cond.methodLink RX5 124 yX5_projectorNumbered, Cond.instanceMethod yX5_projectorNumbered, Cond.selects RX5 yX5_projectorNumbered yX5_projectorNumbered, Cond.code yX5_projectorNumbered cX5_projectorNumbered 2 (some (.object "ReelChanger$Projector")), Cond.methodLink RX5 74 yX2_thread, Cond.instanceMethod yX2_thread, Cond.selects RX2 yX2_thread yX2_thread, Cond.initialized RX2, Cond.code yX2_thread cX2_thread 2 none, Cond.fieldLink RX2 9 "ReelChanger$Projector" "state" "I", Cond.fieldLink RX2 15 "ReelChanger$Projector" "place" "I", Cond.methodLink RX5 161 yX5_finishRepair, Cond.instanceMethod yX5_finishRepair, Cond.selects RX5 yX5_finishRepair yX5_finishRepair, Cond.code yX5_finishRepair cX5_finishRepair 5 none, Cond.fieldLink RX5 81 "ReelChanger$Projector" "frame" "I", Cond.fieldLink RX5 170 "ReelChanger$Reel" "length" "I", Cond.methodLink RX5 173 Lib.Math.min.name, Cond.static Lib.Math.min.name, Cond.initialized "java/lang/Math", Cond.code Lib.Math.min.name Lib.Math.min.code 2 (some .int), Cond.methodLink RX5 100 yX6_reelAtPlace]
def wsX5_run_r3 : List Cond := [Cond.instanceMethod yX6_reelAtPlace, Cond.selects RX6 yX6_reelAtPlace yX6_reelAtPlace, Cond.initialized RX6, Cond.code yX6_reelAtPlace cX6_reelAtPlace 2 (some (.object "ReelChanger$Reel")), Cond.methodLink RX6 79 yX6_numberAtPlace, Cond.instanceMethod yX6_numberAtPlace, Cond.selects RX6 yX6_numberAtPlace yX6_numberAtPlace, Cond.code yX6_numberAtPlace cX6_numberAtPlace 2 (some .int), Cond.fieldLink RX6 42 "ReelChanger$Stock" "placeCount" "I", Cond.fieldLink RX6 21 "ReelChanger$Stock" "places" "[I", Cond.constant RX6 64 (-100001), Cond.methodLink RX6 50 yX6_reelNumbered, Cond.instanceMethod yX6_reelNumbered, Cond.selects RX6 yX6_reelNumbered yX6_reelNumbered, Cond.code yX6_reelNumbered cX6_reelNumbered 2 (some (.object "ReelChanger$Reel")), Cond.fieldLink RX6 34 "ReelChanger$Stock" "reelCount" "I", Cond.fieldLink RX6 13 "ReelChanger$Stock" "reels" "[LReelChanger$Reel;", Cond.methodLink RX5 165 yX3_repairAt, Cond.instanceMethod yX3_repairAt, Cond.selects RX3 yX3_repairAt yX3_repairAt, Cond.initialized RX3, Cond.code yX3_repairAt cX3_repairAt 3 none, Cond.fieldLink RX3 15 "ReelChanger$Reel" "strengths" "[I", Cond.methodLink RX3 32 yX3_spliceOfFrame]
def wsX5_run_r4 : List Cond := [Cond.instanceMethod yX3_spliceOfFrame, Cond.selects RX3 yX3_spliceOfFrame yX3_spliceOfFrame, Cond.code yX3_spliceOfFrame cX3_spliceOfFrame 3 (some .int), Cond.fieldLink RX3 22 "ReelChanger$Reel" "spliceCount" "I", Cond.fieldLink RX3 11 "ReelChanger$Reel" "frames" "[I", Cond.constant RX3 31 (-100005), Cond.methodLink RX3 36 yX3_hasSplice, Cond.instanceMethod yX3_hasSplice, Cond.selects RX3 yX3_hasSplice yX3_hasSplice, Cond.code yX3_hasSplice cX3_hasSplice 2 (some .boolean), Cond.methodLink RX5 152 yX6_settingNumbered, Cond.instanceMethod yX6_settingNumbered, Cond.selects RX6 yX6_settingNumbered yX6_settingNumbered, Cond.code yX6_settingNumbered cX6_settingNumbered 2 (some .int), Cond.fieldLink RX6 17 "ReelChanger$Stock" "settings" "[I", Cond.methodLink RX5 135 yX5_ticksOfFirstTask, Cond.instanceMethod yX5_ticksOfFirstTask, Cond.selects RX5 yX5_ticksOfFirstTask yX5_ticksOfFirstTask, Cond.code yX5_ticksOfFirstTask cX5_ticksOfFirstTask 2 (some .int), Cond.methodLink RX5 142 yX0_kindOf, Cond.instanceMethod yX0_kindOf, Cond.selects RX0 yX0_kindOf yX0_kindOf, Cond.code yX0_kindOf cX0_kindOf 2 (some .int), Cond.constant RX0 41 (-100005)]
def wsX5_run_r5 : List Cond := [Cond.fieldLink RX0 25 "ReelChanger$Operator" "workKind" "I", Cond.fieldLink RX0 11 "ReelChanger$Operator" "kinds" "[I", Cond.methodLink RX0 37 yX0_hasTask, Cond.instanceMethod yX0_hasTask, Cond.selects RX0 yX0_hasTask yX0_hasTask, Cond.code yX0_hasTask cX0_hasTask 2 (some .boolean), Cond.fieldLink RX0 22 "ReelChanger$Operator" "rowCount" "I", Cond.methodLink RX5 146 yX0_projectorOf, Cond.instanceMethod yX0_projectorOf, Cond.selects RX0 yX0_projectorOf yX0_projectorOf, Cond.code yX0_projectorOf cX0_projectorOf 2 (some .int), Cond.fieldLink RX0 28 "ReelChanger$Operator" "workProjector" "I", Cond.fieldLink RX0 15 "ReelChanger$Operator" "projectors" "[I", Cond.methodLink RX5 149 yX6_clearingTime, Cond.instanceMethod yX6_clearingTime, Cond.selects RX6 yX6_clearingTime yX6_clearingTime, Cond.code yX6_clearingTime cX6_clearingTime 4 (some .int), Cond.fieldLink RX6 85 "ReelChanger$Reel" "length" "I", Cond.methodLink RX6 82 yX6_reelAtPlace, Cond.methodLink RX5 139 yX0_takeUp, Cond.instanceMethod yX0_takeUp, Cond.selects RX0 yX0_takeUp yX0_takeUp, Cond.code yX0_takeUp cX0_takeUp 2 none, Cond.methodLink RX0 31 arraycopyName]
def wsX5_run_r6 : List Cond := [Cond.native arraycopyName, Cond.static arraycopyName, Cond.initialized "java/lang/System", Cond.methodLink RX5 93 yX5_frontProjector, Cond.instanceMethod yX5_frontProjector, Cond.selects RX5 yX5_frontProjector yX5_frontProjector, Cond.code yX5_frontProjector cX5_frontProjector 1 (some (.object "ReelChanger$Projector")), Cond.fieldLink RX5 52 "ReelChanger$Show" "front" "I", Cond.methodLink RX5 104 yX5_startBack, Cond.instanceMethod yX5_startBack, Cond.selects RX5 yX5_startBack yX5_startBack, Cond.code yX5_startBack cX5_startBack 5 none, Cond.fieldLink RX5 42 "ReelChanger$Show" "late" "I", Cond.methodLink RX5 179 yX5_backProjector, Cond.instanceMethod yX5_backProjector, Cond.selects RX5 yX5_backProjector yX5_backProjector, Cond.code yX5_backProjector cX5_backProjector 1 (some (.object "ReelChanger$Projector")), Cond.methodLink RX5 182 yX5_framesBehindMark, Cond.instanceMethod yX5_framesBehindMark, Cond.selects RX5 yX5_framesBehindMark yX5_framesBehindMark, Cond.code yX5_framesBehindMark cX5_framesBehindMark 3 (some .int), Cond.fieldLink RX5 58 "ReelChanger$Show" "ranOut" "Z", Cond.methodLink RX5 186 yX2_start, Cond.instanceMethod yX2_start]
def wsX5_run_r7 : List Cond := [Cond.selects RX2 yX2_start yX2_start, Cond.code yX2_start cX2_start 2 none, Cond.fieldLink RX2 18 "ReelChanger$Projector" "frame" "I", Cond.methodLink RX5 108 yX5_goOn, Cond.static yX5_goOn, Cond.code yX5_goOn cX5_goOn 1 none, Cond.methodLink RX5 189 yX2_isMoving, Cond.instanceMethod yX2_isMoving, Cond.selects RX2 yX2_isMoving yX2_isMoving, Cond.code yX2_isMoving cX2_isMoving 1 (some .boolean), Cond.methodLink RX5 111 yX5_wearSplice, Cond.instanceMethod yX5_wearSplice, Cond.selects RX5 yX5_wearSplice yX5_wearSplice, Cond.code yX5_wearSplice cX5_wearSplice 3 none, Cond.fieldLink RX5 45 "ReelChanger$Show" "breaks" "I", Cond.methodLink RX5 192 yX3_breaksAt, Cond.instanceMethod yX3_breaksAt, Cond.selects RX3 yX3_breaksAt yX3_breaksAt, Cond.code yX3_breaksAt cX3_breaksAt 3 (some .boolean), Cond.methodLink RX3 41 Lib.Math.max.name, Cond.static Lib.Math.max.name, Cond.code Lib.Math.max.name Lib.Math.max.code 2 (some .int), Cond.methodLink RX5 196 yX0_addFirst, Cond.instanceMethod yX0_addFirst]
def wsX5_run_r8 : List Cond := [Cond.selects RX0 yX0_addFirst yX0_addFirst, Cond.code yX0_addFirst cX0_addFirst 3 none, Cond.methodLink RX5 115 yX5_runOut, Cond.instanceMethod yX5_runOut, Cond.selects RX5 yX5_runOut yX5_runOut, Cond.code yX5_runOut cX5_runOut 6 none, Cond.fieldLink RX5 84 "ReelChanger$Stock" "placeCount" "I", Cond.methodLink RX5 200 yX5_orderNextReel, Cond.instanceMethod yX5_orderNextReel, Cond.selects RX5 yX5_orderNextReel yX5_orderNextReel, Cond.code yX5_orderNextReel cX5_orderNextReel 2 none, Cond.methodLink RX5 203 yX0_addLast, Cond.instanceMethod yX0_addLast, Cond.selects RX0 yX0_addLast yX0_addLast, Cond.code yX0_addLast cX0_addLast 3 none, Cond.methodLink RX5 206 yX0_threadTasks, Cond.instanceMethod yX0_threadTasks, Cond.selects RX0 yX0_threadTasks yX0_threadTasks, Cond.code yX0_threadTasks cX0_threadTasks 3 (some .int), Cond.methodLink RX0 42 yX0_kindOf, Cond.methodLink RX5 118 yX5_changeOver, Cond.instanceMethod yX5_changeOver, Cond.selects RX5 yX5_changeOver yX5_changeOver, Cond.code yX5_changeOver cX5_changeOver 2 none]
def wsX5_run_r9 : List Cond := [Cond.fieldLink RX5 39 "ReelChanger$Show" "missed" "I", Cond.methodLink RX5 121 yX5_countTick, Cond.instanceMethod yX5_countTick, Cond.selects RX5 yX5_countTick yX5_countTick, Cond.code yX5_countTick cX5_countTick 1 none, Cond.fieldLink RX5 32 "ReelChanger$Show" "time" "I", Cond.fieldLink RX5 36 "ReelChanger$Show" "dark" "I"]
def wsX5_run : List Cond := .code yX5_run cX5_run 5 (some .int) :: ((wsX5_run_r1 ++ (wsX5_run_r2 ++ (wsX5_run_r3 ++ (wsX5_run_r4 ++ (wsX5_run_r5 ++ (wsX5_run_r6 ++ (wsX5_run_r7 ++ (wsX5_run_r8 ++ wsX5_run_r9)))))))) ++ wsX50 ++ wsX20 ++ wsX00 ++ wsX30 ++ wsX60)
def wsX6_addReel : List Cond := .code yX6_addReel cX6_addReel 4 (some .int) :: ([.fieldLink RX6 34 "ReelChanger$Stock" "reelCount" "I", .constant RX6 49 (-100004), .methodLink RX6 50 yX6_reelNumbered, .instanceMethod yX6_reelNumbered, .selects RX6 yX6_reelNumbered yX6_reelNumbered, .initialized RX6, .code yX6_reelNumbered cX6_reelNumbered 2 (some (.object "ReelChanger$Reel")), .fieldLink RX6 13 "ReelChanger$Stock" "reels" "[LReelChanger$Reel;", .methodLink RX6 54 yX3_renew, .instanceMethod yX3_renew, .selects RX3 yX3_renew yX3_renew, .initialized RX3, .code yX3_renew cX3_renew 2 none, .fieldLink RX3 18 "ReelChanger$Reel" "length" "I", .fieldLink RX3 22 "ReelChanger$Reel" "spliceCount" "I"] ++ wsX60 ++ wsX30)
def wsX6_isSettingValue : List Cond := .code yX6_isSettingValue cX6_isSettingValue 2 (some .boolean) :: ([.fieldLink RX6 58 "ReelChanger$Stock" "LEAST_VALUES" "[I", .fieldLink RX6 61 "ReelChanger$Stock" "MOST_VALUES" "[I"])
def wsX6_changeSetting : List Cond := .code yX6_changeSetting cX6_changeSetting 4 (some .int) :: ([.fieldLink RX6 17 "ReelChanger$Stock" "settings" "[I", .methodLink RX6 65 yX6_settingNumbered, .instanceMethod yX6_settingNumbered, .selects RX6 yX6_settingNumbered yX6_settingNumbered, .initialized RX6, .code yX6_settingNumbered cX6_settingNumbered 2 (some .int), .constant RX6 64 (-100001), .methodLink RX6 69 yX6_isSettingValue, .static yX6_isSettingValue, .code yX6_isSettingValue cX6_isSettingValue 2 (some .boolean), .fieldLink RX6 58 "ReelChanger$Stock" "LEAST_VALUES" "[I", .fieldLink RX6 61 "ReelChanger$Stock" "MOST_VALUES" "[I"] ++ wsX60)
def wsX7_init_r1 : List Cond := [Cond.methodLink RX7 1 objectInit, Cond.instanceMethod objectInit, Cond.code objectInit ⟨#[0xb1]⟩ 1 none, Cond.classLink RX7 7 RX4, Cond.instantiable RX4 2, Cond.initialized RX4, Cond.fieldLink RX7 10 "ReelChanger" "room" "LReelChanger$Room;", Cond.fieldLink RX7 16 "ReelChanger" "trial" "LReelChanger$Room;", Cond.fieldLink RX7 19 "ReelChanger" "slots" "[LReelChanger$Room;", Cond.classLink RX7 23 RX1, Cond.instantiable RX1 6, Cond.initialized RX1, Cond.fieldLink RX7 26 "ReelChanger" "text" "LReelChanger$ProgramText;", Cond.instanceMethod yX4_init, Cond.code yX4_init cX4_init 1 none, Cond.methodLink RX4 1 objectInit, Cond.classLink RX4 7 RX6, Cond.instantiable RX6 5, Cond.initialized RX6, Cond.fieldLink RX4 10 "ReelChanger$Room" "stock" "LReelChanger$Stock;", Cond.classLink RX4 16 RX5, Cond.instantiable RX5 12, Cond.initialized RX5, Cond.fieldLink RX4 19 "ReelChanger$Room" "show" "LReelChanger$Show;"]
def wsX7_init_r2 : List Cond := [Cond.methodLink RX4 9 yX6_init, Cond.instanceMethod yX6_init, Cond.code yX6_init cX6_init 2 none, Cond.methodLink RX6 3 objectInit, Cond.classLink RX6 11 RX3, Cond.fieldLink RX6 13 "ReelChanger$Stock" "reels" "[LReelChanger$Reel;", Cond.arrayClass .int, Cond.fieldLink RX6 17 "ReelChanger$Stock" "settings" "[I", Cond.fieldLink RX6 21 "ReelChanger$Stock" "places" "[I", Cond.instantiable RX3 4, Cond.initialized RX3, Cond.fieldLink RX6 25 "ReelChanger$Stock" "FIRST_VALUES" "[I", Cond.methodLink RX6 28 arraycopyName, Cond.native arraycopyName, Cond.static arraycopyName, Cond.initialized "java/lang/System", Cond.instanceMethod yX3_init, Cond.code yX3_init cX3_init 1 none, Cond.methodLink RX3 3 objectInit, Cond.fieldLink RX3 11 "ReelChanger$Reel" "frames" "[I", Cond.fieldLink RX3 15 "ReelChanger$Reel" "strengths" "[I", Cond.instanceMethod yX5_init, Cond.code yX5_init cX5_init 1 none, Cond.methodLink RX5 3 objectInit]
def wsX7_init_r3 : List Cond := [Cond.classLink RX5 9 RX0, Cond.instantiable RX0 6, Cond.initialized RX0, Cond.fieldLink RX5 12 "ReelChanger$Show" "operator" "LReelChanger$Operator;", Cond.classLink RX5 18 RX2, Cond.instantiable RX2 3, Cond.initialized RX2, Cond.fieldLink RX5 21 "ReelChanger$Show" "first" "LReelChanger$Projector;", Cond.fieldLink RX5 25 "ReelChanger$Show" "second" "LReelChanger$Projector;", Cond.instanceMethod yX0_init, Cond.code yX0_init cX0_init 1 none, Cond.methodLink RX0 3 objectInit, Cond.fieldLink RX0 11 "ReelChanger$Operator" "kinds" "[I", Cond.fieldLink RX0 15 "ReelChanger$Operator" "projectors" "[I", Cond.instanceMethod yX2_init, Cond.code yX2_init cX2_init 1 none, Cond.methodLink RX2 3 objectInit, Cond.instanceMethod yX1_init, Cond.code yX1_init cX1_init 1 none, Cond.methodLink RX1 3 objectInit, Cond.fieldLink RX1 11 "ReelChanger$ProgramText" "expanded" "[I", Cond.fieldLink RX1 17 "ReelChanger$ProgramText" "letters" "[I", Cond.fieldLink RX1 20 "ReelChanger$ProgramText" "groupStarts" "[I"]
def wsX7_init : List Cond := .code yX7_init cX7_init 1 none :: ((wsX7_init_r1 ++ (wsX7_init_r2 ++ wsX7_init_r3)) ++ wsX40 ++ wsX70 ++ wsX10 ++ wsX60 ++ wsX50 ++ wsX30 ++ wsX00 ++ wsX20)
def wsX7_isWithin : List Cond := .code yX7_isWithin cX7_isWithin 3 (some .boolean) :: ([])
def wsX7_makeReel_r1 : List Cond := [Cond.constant RX7 34 (-100002), Cond.fieldLink RX7 10 "ReelChanger" "room" "LReelChanger$Room;", Cond.fieldLink RX7 35 "ReelChanger$Room" "stock" "LReelChanger$Stock;", Cond.methodLink RX7 30 yX7_isWithin, Cond.static yX7_isWithin, Cond.initialized RX7, Cond.code yX7_isWithin cX7_isWithin 3 (some .boolean), Cond.methodLink RX7 39 yX6_addReel, Cond.instanceMethod yX6_addReel, Cond.selects RX6 yX6_addReel yX6_addReel, Cond.initialized RX6, Cond.code yX6_addReel cX6_addReel 4 (some .int), Cond.fieldLink RX6 34 "ReelChanger$Stock" "reelCount" "I", Cond.constant RX6 49 (-100004), Cond.methodLink RX6 50 yX6_reelNumbered, Cond.instanceMethod yX6_reelNumbered, Cond.selects RX6 yX6_reelNumbered yX6_reelNumbered, Cond.code yX6_reelNumbered cX6_reelNumbered 2 (some (.object "ReelChanger$Reel")), Cond.fieldLink RX6 13 "ReelChanger$Stock" "reels" "[LReelChanger$Reel;", Cond.methodLink RX6 54 yX3_renew, Cond.instanceMethod yX3_renew, Cond.selects RX3 yX3_renew yX3_renew, Cond.initialized RX3, Cond.code yX3_renew cX3_renew 2 none]
def wsX7_makeReel_r2 : List Cond := [Cond.fieldLink RX3 18 "ReelChanger$Reel" "length" "I", Cond.fieldLink RX3 22 "ReelChanger$Reel" "spliceCount" "I"]
def wsX7_makeReel : List Cond := .code yX7_makeReel cX7_makeReel 2 (some .int) :: ((wsX7_makeReel_r1 ++ wsX7_makeReel_r2) ++ wsX70 ++ wsX40 ++ wsX60 ++ wsX30)
def wsX7_splice_r1 : List Cond := [Cond.fieldLink RX7 10 "ReelChanger" "room" "LReelChanger$Room;", Cond.fieldLink RX7 35 "ReelChanger$Room" "stock" "LReelChanger$Stock;", Cond.constant RX7 49 (-100001), Cond.fieldLink RX7 50 "ReelChanger$Reel" "length" "I", Cond.constant RX7 34 (-100002), Cond.methodLink RX7 45 yX6_reelNumbered, Cond.instanceMethod yX6_reelNumbered, Cond.selects RX6 yX6_reelNumbered yX6_reelNumbered, Cond.initialized RX6, Cond.code yX6_reelNumbered cX6_reelNumbered 2 (some (.object "ReelChanger$Reel")), Cond.fieldLink RX6 34 "ReelChanger$Stock" "reelCount" "I", Cond.fieldLink RX6 13 "ReelChanger$Stock" "reels" "[LReelChanger$Reel;", Cond.methodLink RX7 30 yX7_isWithin, Cond.static yX7_isWithin, Cond.initialized RX7, Cond.code yX7_isWithin cX7_isWithin 3 (some .boolean), Cond.methodLink RX7 56 yX3_join, Cond.instanceMethod yX3_join, Cond.selects RX3 yX3_join yX3_join, Cond.initialized RX3, Cond.code yX3_join cX3_join 5 (some .int), Cond.fieldLink RX3 15 "ReelChanger$Reel" "strengths" "[I", Cond.fieldLink RX3 22 "ReelChanger$Reel" "spliceCount" "I", Cond.constant RX3 40 (-100004)]
def wsX7_splice_r2 : List Cond := [Cond.fieldLink RX3 11 "ReelChanger$Reel" "frames" "[I", Cond.methodLink RX3 32 yX3_spliceOfFrame, Cond.instanceMethod yX3_spliceOfFrame, Cond.selects RX3 yX3_spliceOfFrame yX3_spliceOfFrame, Cond.code yX3_spliceOfFrame cX3_spliceOfFrame 3 (some .int), Cond.constant RX3 31 (-100005), Cond.methodLink RX3 36 yX3_hasSplice, Cond.instanceMethod yX3_hasSplice, Cond.selects RX3 yX3_hasSplice yX3_hasSplice, Cond.code yX3_hasSplice cX3_hasSplice 2 (some .boolean)]
def wsX7_splice : List Cond := .code yX7_splice cX7_splice 5 (some .int) :: ((wsX7_splice_r1 ++ wsX7_splice_r2) ++ wsX70 ++ wsX40 ++ wsX30 ++ wsX60)
def wsX7_mend : List Cond := .code yX7_mend cX7_mend 4 (some .int) :: ([.fieldLink RX7 10 "ReelChanger" "room" "LReelChanger$Room;", .fieldLink RX7 35 "ReelChanger$Room" "stock" "LReelChanger$Stock;", .constant RX7 49 (-100001), .constant RX7 34 (-100002), .methodLink RX7 45 yX6_reelNumbered, .instanceMethod yX6_reelNumbered, .selects RX6 yX6_reelNumbered yX6_reelNumbered, .initialized RX6, .code yX6_reelNumbered cX6_reelNumbered 2 (some (.object "ReelChanger$Reel")), .fieldLink RX6 34 "ReelChanger$Stock" "reelCount" "I", .fieldLink RX6 13 "ReelChanger$Stock" "reels" "[LReelChanger$Reel;", .methodLink RX7 30 yX7_isWithin, .static yX7_isWithin, .initialized RX7, .code yX7_isWithin cX7_isWithin 3 (some .boolean), .methodLink RX7 60 yX3_removeWeaker, .instanceMethod yX3_removeWeaker, .selects RX3 yX3_removeWeaker yX3_removeWeaker, .initialized RX3, .code yX3_removeWeaker cX3_removeWeaker 5 (some .int), .fieldLink RX3 22 "ReelChanger$Reel" "spliceCount" "I", .fieldLink RX3 15 "ReelChanger$Reel" "strengths" "[I", .fieldLink RX3 11 "ReelChanger$Reel" "frames" "[I"] ++ wsX70 ++ wsX40 ++ wsX60 ++ wsX30)
def wsX7_reel : List Cond := .code yX7_reel cX7_reel 4 (some .int) :: ([.fieldLink RX7 10 "ReelChanger" "room" "LReelChanger$Room;", .fieldLink RX7 35 "ReelChanger$Room" "stock" "LReelChanger$Stock;", .constant RX7 49 (-100001), .fieldLink RX7 50 "ReelChanger$Reel" "length" "I", .fieldLink RX7 63 "ReelChanger$Reel" "spliceCount" "I", .constant RX7 34 (-100002), .methodLink RX7 45 yX6_reelNumbered, .instanceMethod yX6_reelNumbered, .selects RX6 yX6_reelNumbered yX6_reelNumbered, .initialized RX6, .code yX6_reelNumbered cX6_reelNumbered 2 (some (.object "ReelChanger$Reel")), .fieldLink RX6 34 "ReelChanger$Stock" "reelCount" "I", .fieldLink RX6 13 "ReelChanger$Stock" "reels" "[LReelChanger$Reel;", .methodLink RX7 66 yX3_leastStrength, .instanceMethod yX3_leastStrength, .selects RX3 yX3_leastStrength yX3_leastStrength, .initialized RX3, .code yX3_leastStrength cX3_leastStrength 3 (some .int), .constant RX3 31 (-100005), .fieldLink RX3 22 "ReelChanger$Reel" "spliceCount" "I", .fieldLink RX3 15 "ReelChanger$Reel" "strengths" "[I"] ++ wsX70 ++ wsX40 ++ wsX30 ++ wsX60)
def wsX7_spliceAt : List Cond := .code yX7_spliceAt cX7_spliceAt 5 (some .int) :: ([.fieldLink RX7 10 "ReelChanger" "room" "LReelChanger$Room;", .fieldLink RX7 35 "ReelChanger$Room" "stock" "LReelChanger$Stock;", .constant RX7 49 (-100001), .fieldLink RX7 74 "ReelChanger$Reel" "strengths" "[I", .fieldLink RX7 78 "ReelChanger$Reel" "frames" "[I", .methodLink RX7 45 yX6_reelNumbered, .instanceMethod yX6_reelNumbered, .selects RX6 yX6_reelNumbered yX6_reelNumbered, .initialized RX6, .code yX6_reelNumbered cX6_reelNumbered 2 (some (.object "ReelChanger$Reel")), .fieldLink RX6 34 "ReelChanger$Stock" "reelCount" "I", .fieldLink RX6 13 "ReelChanger$Stock" "reels" "[LReelChanger$Reel;", .methodLink RX7 70 yX3_hasSplice, .instanceMethod yX3_hasSplice, .selects RX3 yX3_hasSplice yX3_hasSplice, .initialized RX3, .code yX3_hasSplice cX3_hasSplice 2 (some .boolean), .fieldLink RX3 22 "ReelChanger$Reel" "spliceCount" "I"] ++ wsX70 ++ wsX40 ++ wsX30 ++ wsX60)
def wsX7_settingError : List Cond := .code yX7_settingError cX7_settingError 2 (some .int) :: ([.constant RX7 49 (-100001), .constant RX7 34 (-100002), .methodLink RX7 30 yX7_isWithin, .static yX7_isWithin, .initialized RX7, .code yX7_isWithin cX7_isWithin 3 (some .boolean), .methodLink RX7 240 yX6_isSettingValue, .static yX6_isSettingValue, .initialized RX6, .code yX6_isSettingValue cX6_isSettingValue 2 (some .boolean), .fieldLink RX6 58 "ReelChanger$Stock" "LEAST_VALUES" "[I", .fieldLink RX6 61 "ReelChanger$Stock" "MOST_VALUES" "[I"])
def wsX7_set_r1 : List Cond := [Cond.fieldLink RX7 10 "ReelChanger" "room" "LReelChanger$Room;", Cond.fieldLink RX7 35 "ReelChanger$Room" "stock" "LReelChanger$Stock;", Cond.methodLink RX7 81 yX7_settingError, Cond.static yX7_settingError, Cond.initialized RX7, Cond.code yX7_settingError cX7_settingError 2 (some .int), Cond.constant RX7 49 (-100001), Cond.constant RX7 34 (-100002), Cond.methodLink RX7 30 yX7_isWithin, Cond.static yX7_isWithin, Cond.code yX7_isWithin cX7_isWithin 3 (some .boolean), Cond.methodLink RX7 240 yX6_isSettingValue, Cond.static yX6_isSettingValue, Cond.initialized RX6, Cond.code yX6_isSettingValue cX6_isSettingValue 2 (some .boolean), Cond.fieldLink RX6 58 "ReelChanger$Stock" "LEAST_VALUES" "[I", Cond.fieldLink RX6 61 "ReelChanger$Stock" "MOST_VALUES" "[I", Cond.methodLink RX7 84 yX6_changeSetting, Cond.instanceMethod yX6_changeSetting, Cond.selects RX6 yX6_changeSetting yX6_changeSetting, Cond.code yX6_changeSetting cX6_changeSetting 4 (some .int), Cond.fieldLink RX6 17 "ReelChanger$Stock" "settings" "[I", Cond.methodLink RX6 65 yX6_settingNumbered, Cond.instanceMethod yX6_settingNumbered]
def wsX7_set_r2 : List Cond := [Cond.selects RX6 yX6_settingNumbered yX6_settingNumbered, Cond.code yX6_settingNumbered cX6_settingNumbered 2 (some .int), Cond.constant RX6 64 (-100001), Cond.methodLink RX6 69 yX6_isSettingValue]
def wsX7_set : List Cond := .code yX7_set cX7_set 4 (some .int) :: ((wsX7_set_r1 ++ wsX7_set_r2) ++ wsX70 ++ wsX40 ++ wsX60)
def wsX7_append : List Cond := .code yX7_append cX7_append 2 (some .int) :: ([.constant RX7 34 (-100002), .fieldLink RX7 26 "ReelChanger" "text" "LReelChanger$ProgramText;", .methodLink RX7 30 yX7_isWithin, .static yX7_isWithin, .initialized RX7, .code yX7_isWithin cX7_isWithin 3 (some .boolean), .methodLink RX7 87 yX1_add, .instanceMethod yX1_add, .selects RX1 yX1_add yX1_add, .initialized RX1, .code yX1_add cX1_add 2 (some .int), .fieldLink RX1 23 "ReelChanger$ProgramText" "length" "I", .constant RX1 27 (-100004), .fieldLink RX1 17 "ReelChanger$ProgramText" "letters" "[I"] ++ wsX70 ++ wsX10)
def wsX7_clearText : List Cond := .code yX7_clearText cX7_clearText 1 (some .int) :: ([.fieldLink RX7 26 "ReelChanger" "text" "LReelChanger$ProgramText;", .methodLink RX7 90 yX1_empty, .instanceMethod yX1_empty, .selects RX1 yX1_empty yX1_empty, .initialized RX1, .code yX1_empty cX1_empty 2 (some .int), .fieldLink RX1 23 "ReelChanger$ProgramText" "length" "I"] ++ wsX70 ++ wsX10)
def wsX7_faultPosition : List Cond := .code yX7_faultPosition cX7_faultPosition 1 (some .int) :: ([.fieldLink RX7 26 "ReelChanger" "text" "LReelChanger$ProgramText;", .fieldLink RX7 10 "ReelChanger" "room" "LReelChanger$Room;", .fieldLink RX7 35 "ReelChanger$Room" "stock" "LReelChanger$Stock;", .fieldLink RX7 93 "ReelChanger$Stock" "reelCount" "I", .methodLink RX7 96 yX1_findFault, .instanceMethod yX1_findFault, .selects RX1 yX1_findFault yX1_findFault, .initialized RX1, .code yX1_findFault cX1_findFault 4 (some .int), .fieldLink RX1 28 "ReelChanger$ProgramText" "depth" "I", .fieldLink RX1 31 "ReelChanger$ProgramText" "standing" "I", .fieldLink RX1 23 "ReelChanger$ProgramText" "length" "I", .fieldLink RX1 17 "ReelChanger$ProgramText" "letters" "[I", .constant RX1 38 (-100005), .methodLink RX1 34 yX1_standingBehind, .instanceMethod yX1_standingBehind, .selects RX1 yX1_standingBehind yX1_standingBehind, .code yX1_standingBehind cX1_standingBehind 3 (some .int), .methodLink RX1 39 yX1_depthChange, .static yX1_depthChange, .code yX1_depthChange cX1_depthChange 1 (some .int)] ++ wsX70 ++ wsX40 ++ wsX60 ++ wsX10)
def wsX7_faultDepth : List Cond := .code yX7_faultDepth cX7_faultDepth 1 (some .int) :: ([.fieldLink RX7 26 "ReelChanger" "text" "LReelChanger$ProgramText;", .fieldLink RX7 10 "ReelChanger" "room" "LReelChanger$Room;", .fieldLink RX7 35 "ReelChanger$Room" "stock" "LReelChanger$Stock;", .fieldLink RX7 93 "ReelChanger$Stock" "reelCount" "I", .constant RX7 99 (-100005), .fieldLink RX7 100 "ReelChanger$ProgramText" "depth" "I", .methodLink RX7 96 yX1_findFault, .instanceMethod yX1_findFault, .selects RX1 yX1_findFault yX1_findFault, .initialized RX1, .code yX1_findFault cX1_findFault 4 (some .int), .fieldLink RX1 28 "ReelChanger$ProgramText" "depth" "I", .fieldLink RX1 31 "ReelChanger$ProgramText" "standing" "I", .fieldLink RX1 23 "ReelChanger$ProgramText" "length" "I", .fieldLink RX1 17 "ReelChanger$ProgramText" "letters" "[I", .constant RX1 38 (-100005), .methodLink RX1 34 yX1_standingBehind, .instanceMethod yX1_standingBehind, .selects RX1 yX1_standingBehind yX1_standingBehind, .code yX1_standingBehind cX1_standingBehind 3 (some .int), .methodLink RX1 39 yX1_depthChange, .static yX1_depthChange, .code yX1_depthChange cX1_depthChange 1 (some .int)] ++ wsX70 ++ wsX40 ++ wsX60 ++ wsX10)
def wsX7_setProgram_r1 : List Cond := [Cond.constant RX7 99 (-100005), Cond.fieldLink RX7 10 "ReelChanger" "room" "LReelChanger$Room;", Cond.fieldLink RX7 106 "ReelChanger$Room" "show" "LReelChanger$Show;", Cond.fieldLink RX7 110 "ReelChanger$Show" "running" "Z", Cond.constant RX7 116 (-100003), Cond.fieldLink RX7 26 "ReelChanger" "text" "LReelChanger$ProgramText;", Cond.constant RX7 120 (-100004), Cond.fieldLink RX7 35 "ReelChanger$Room" "stock" "LReelChanger$Stock;", Cond.fieldLink RX7 121 "ReelChanger$ProgramText" "expanded" "[I", Cond.methodLink RX7 103 yX7_faultPosition, Cond.instanceMethod yX7_faultPosition, Cond.selects RX7 yX7_faultPosition yX7_faultPosition, Cond.initialized RX7, Cond.code yX7_faultPosition cX7_faultPosition 1 (some .int), Cond.fieldLink RX7 93 "ReelChanger$Stock" "reelCount" "I", Cond.methodLink RX7 96 yX1_findFault, Cond.instanceMethod yX1_findFault, Cond.selects RX1 yX1_findFault yX1_findFault, Cond.initialized RX1, Cond.code yX1_findFault cX1_findFault 4 (some .int), Cond.fieldLink RX1 28 "ReelChanger$ProgramText" "depth" "I", Cond.fieldLink RX1 31 "ReelChanger$ProgramText" "standing" "I", Cond.fieldLink RX1 23 "ReelChanger$ProgramText" "length" "I", Cond.fieldLink RX1 17 "ReelChanger$ProgramText" "letters" "[I"]
def wsX7_setProgram_r2 : List Cond := [Cond.constant RX1 38 (-100005), Cond.methodLink RX1 34 yX1_standingBehind, Cond.instanceMethod yX1_standingBehind, Cond.selects RX1 yX1_standingBehind yX1_standingBehind, Cond.code yX1_standingBehind cX1_standingBehind 3 (some .int), Cond.methodLink RX1 39 yX1_depthChange, Cond.static yX1_depthChange, Cond.code yX1_depthChange cX1_depthChange 1 (some .int), Cond.methodLink RX7 117 yX1_expand, Cond.instanceMethod yX1_expand, Cond.selects RX1 yX1_expand yX1_expand, Cond.code yX1_expand cX1_expand 7 (some .int), Cond.constant RX1 27 (-100004), Cond.fieldLink RX1 20 "ReelChanger$ProgramText" "groupStarts" "[I", Cond.methodLink RX1 43 yX1_repeatGroup, Cond.instanceMethod yX1_repeatGroup, Cond.selects RX1 yX1_repeatGroup yX1_repeatGroup, Cond.code yX1_repeatGroup cX1_repeatGroup 7 (some .int), Cond.methodLink RX1 50 Lib.Math.max.name, Cond.static Lib.Math.max.name, Cond.initialized "java/lang/Math", Cond.code Lib.Math.max.name Lib.Math.max.code 2 (some .int), Cond.fieldLink RX1 11 "ReelChanger$ProgramText" "expanded" "[I", Cond.methodLink RX1 47 yX1_addReel]
def wsX7_setProgram_r3 : List Cond := [Cond.instanceMethod yX1_addReel, Cond.selects RX1 yX1_addReel yX1_addReel, Cond.code yX1_addReel cX1_addReel 3 (some .int), Cond.methodLink RX7 124 yX6_takeProgram, Cond.instanceMethod yX6_takeProgram, Cond.selects RX6 yX6_takeProgram yX6_takeProgram, Cond.initialized RX6, Cond.code yX6_takeProgram cX6_takeProgram 4 none, Cond.methodLink RX6 73 Lib.Math.min.name, Cond.static Lib.Math.min.name, Cond.code Lib.Math.min.name Lib.Math.min.code 2 (some .int), Cond.fieldLink RX6 42 "ReelChanger$Stock" "placeCount" "I", Cond.fieldLink RX6 21 "ReelChanger$Stock" "places" "[I"]
def wsX7_setProgram : List Cond := .code yX7_setProgram cX7_setProgram 2 (some .int) :: ((wsX7_setProgram_r1 ++ (wsX7_setProgram_r2 ++ wsX7_setProgram_r3)) ++ wsX70 ++ wsX40 ++ wsX50 ++ wsX10 ++ wsX60)
def wsX7_program : List Cond := .code yX7_program cX7_program 2 (some .int) :: ([.fieldLink RX7 10 "ReelChanger" "room" "LReelChanger$Room;", .fieldLink RX7 35 "ReelChanger$Room" "stock" "LReelChanger$Stock;", .methodLink RX7 128 yX6_numberAtPlace, .instanceMethod yX6_numberAtPlace, .selects RX6 yX6_numberAtPlace yX6_numberAtPlace, .initialized RX6, .code yX6_numberAtPlace cX6_numberAtPlace 2 (some .int), .fieldLink RX6 42 "ReelChanger$Stock" "placeCount" "I", .fieldLink RX6 21 "ReelChanger$Stock" "places" "[I", .constant RX6 64 (-100001)] ++ wsX70 ++ wsX40 ++ wsX60)
def wsX7_begin_r1 : List Cond := [Cond.fieldLink RX7 10 "ReelChanger" "room" "LReelChanger$Room;", Cond.fieldLink RX7 35 "ReelChanger$Room" "stock" "LReelChanger$Stock;", Cond.fieldLink RX7 131 "ReelChanger$Stock" "placeCount" "I", Cond.constant RX7 116 (-100003), Cond.fieldLink RX7 106 "ReelChanger$Room" "show" "LReelChanger$Show;", Cond.methodLink RX7 134 yX5_open, Cond.instanceMethod yX5_open, Cond.selects RX5 yX5_open yX5_open, Cond.initialized RX5, Cond.code yX5_open cX5_open 2 none, Cond.fieldLink RX5 28 "ReelChanger$Show" "running" "Z", Cond.fieldLink RX5 32 "ReelChanger$Show" "time" "I", Cond.fieldLink RX5 36 "ReelChanger$Show" "dark" "I", Cond.fieldLink RX5 39 "ReelChanger$Show" "missed" "I", Cond.fieldLink RX5 42 "ReelChanger$Show" "late" "I", Cond.fieldLink RX5 45 "ReelChanger$Show" "breaks" "I", Cond.fieldLink RX5 52 "ReelChanger$Show" "front" "I", Cond.fieldLink RX5 58 "ReelChanger$Show" "ranOut" "Z", Cond.fieldLink RX5 12 "ReelChanger$Show" "operator" "LReelChanger$Operator;", Cond.fieldLink RX5 21 "ReelChanger$Show" "first" "LReelChanger$Projector;", Cond.fieldLink RX5 78 "ReelChanger$Projector" "state" "I", Cond.fieldLink RX5 81 "ReelChanger$Projector" "frame" "I", Cond.fieldLink RX5 25 "ReelChanger$Show" "second" "LReelChanger$Projector;", Cond.fieldLink RX5 55 "ReelChanger$Show" "threaded" "I"]
def wsX7_begin_r2 : List Cond := [Cond.fieldLink RX5 84 "ReelChanger$Stock" "placeCount" "I", Cond.methodLink RX5 71 yX0_dropAll, Cond.instanceMethod yX0_dropAll, Cond.selects RX0 yX0_dropAll yX0_dropAll, Cond.initialized RX0, Cond.code yX0_dropAll cX0_dropAll 1 none, Cond.fieldLink RX0 18 "ReelChanger$Operator" "ticksLeft" "I", Cond.fieldLink RX0 22 "ReelChanger$Operator" "rowCount" "I", Cond.methodLink RX5 74 yX2_thread, Cond.instanceMethod yX2_thread, Cond.selects RX2 yX2_thread yX2_thread, Cond.initialized RX2, Cond.code yX2_thread cX2_thread 2 none, Cond.fieldLink RX2 9 "ReelChanger$Projector" "state" "I", Cond.fieldLink RX2 15 "ReelChanger$Projector" "place" "I"]
def wsX7_begin : List Cond := .code yX7_begin cX7_begin 1 (some .int) :: ((wsX7_begin_r1 ++ wsX7_begin_r2) ++ wsX70 ++ wsX40 ++ wsX60 ++ wsX50 ++ wsX20 ++ wsX00)
def wsX7_pass_r1 : List Cond := [Cond.constant RX7 34 (-100002), Cond.fieldLink RX7 10 "ReelChanger" "room" "LReelChanger$Room;", Cond.fieldLink RX7 106 "ReelChanger$Room" "show" "LReelChanger$Show;", Cond.fieldLink RX7 110 "ReelChanger$Show" "running" "Z", Cond.constant RX7 116 (-100003), Cond.fieldLink RX7 35 "ReelChanger$Room" "stock" "LReelChanger$Stock;", Cond.methodLink RX7 30 yX7_isWithin, Cond.static yX7_isWithin, Cond.initialized RX7, Cond.code yX7_isWithin cX7_isWithin 3 (some .boolean), Cond.methodLink RX7 138 yX5_run, Cond.instanceMethod yX5_run, Cond.selects RX5 yX5_run yX5_run, Cond.initialized RX5, Cond.code yX5_run cX5_run 5 (some .int), Cond.fieldLink RX5 28 "ReelChanger$Show" "running" "Z", Cond.fieldLink RX5 97 "ReelChanger$Projector" "place" "I", Cond.fieldLink RX5 21 "ReelChanger$Show" "first" "LReelChanger$Projector;", Cond.fieldLink RX5 25 "ReelChanger$Show" "second" "LReelChanger$Projector;", Cond.methodLink RX5 89 yX5_work, Cond.instanceMethod yX5_work, Cond.selects RX5 yX5_work yX5_work, Cond.code yX5_work cX5_work 2 none, Cond.fieldLink RX5 12 "ReelChanger$Show" "operator" "LReelChanger$Operator;"]
def wsX7_pass_r2 : List Cond := [Cond.fieldLink RX5 67 "ReelChanger$Operator" "ticksLeft" "I", Cond.fieldLink RX5 64 "ReelChanger$Operator" "rowCount" "I", Cond.methodLink RX5 128 yX0_isWorking, Cond.instanceMethod yX0_isWorking, Cond.selects RX0 yX0_isWorking yX0_isWorking, Cond.initialized RX0, Cond.code yX0_isWorking cX0_isWorking 1 (some .boolean), Cond.fieldLink RX0 18 "ReelChanger$Operator" "ticksLeft" "I", Cond.methodLink RX5 132 yX5_finishTask, Cond.instanceMethod yX5_finishTask, Cond.selects RX5 yX5_finishTask yX5_finishTask, Cond.code yX5_finishTask cX5_finishTask 3 none, Cond.fieldLink RX5 155 "ReelChanger$Operator" "workProjector" "I", Cond.fieldLink RX5 158 "ReelChanger$Operator" "workKind" "I", Cond.fieldLink RX5 78 "ReelChanger$Projector" "state" "I", Cond.fieldLink RX5 55 "ReelChanger$Show" "threaded" "I", Cond.methodLink RX5 124 yX5_projectorNumbered, Cond.instanceMethod yX5_projectorNumbered, Cond.selects RX5 yX5_projectorNumbered yX5_projectorNumbered, Cond.code yX5_projectorNumbered cX5_projectorNumbered 2 (some (.object "ReelChanger$Projector")), Cond.methodLink RX5 74 yX2_thread, Cond.instanceMethod yX2_thread, Cond.selects RX2 yX2_thread yX2_thread, Cond.initialized RX2]
def wsX7_pass_r3 : List Cond := [Cond.code yX2_thread cX2_thread 2 none, Cond.fieldLink RX2 9 "ReelChanger$Projector" "state" "I", Cond.fieldLink RX2 15 "ReelChanger$Projector" "place" "I", Cond.methodLink RX5 161 yX5_finishRepair, Cond.instanceMethod yX5_finishRepair, Cond.selects RX5 yX5_finishRepair yX5_finishRepair, Cond.code yX5_finishRepair cX5_finishRepair 5 none, Cond.fieldLink RX5 81 "ReelChanger$Projector" "frame" "I", Cond.fieldLink RX5 170 "ReelChanger$Reel" "length" "I", Cond.methodLink RX5 173 Lib.Math.min.name, Cond.static Lib.Math.min.name, Cond.initialized "java/lang/Math", Cond.code Lib.Math.min.name Lib.Math.min.code 2 (some .int), Cond.methodLink RX5 100 yX6_reelAtPlace, Cond.instanceMethod yX6_reelAtPlace, Cond.selects RX6 yX6_reelAtPlace yX6_reelAtPlace, Cond.initialized RX6, Cond.code yX6_reelAtPlace cX6_reelAtPlace 2 (some (.object "ReelChanger$Reel")), Cond.methodLink RX6 79 yX6_numberAtPlace, Cond.instanceMethod yX6_numberAtPlace, Cond.selects RX6 yX6_numberAtPlace yX6_numberAtPlace, Cond.code yX6_numberAtPlace cX6_numberAtPlace 2 (some .int), Cond.fieldLink RX6 42 "ReelChanger$Stock" "placeCount" "I", Cond.fieldLink RX6 21 "ReelChanger$Stock" "places" "[I"]
def wsX7_pass_r4 : List Cond := [Cond.constant RX6 64 (-100001), Cond.methodLink RX6 50 yX6_reelNumbered, Cond.instanceMethod yX6_reelNumbered, Cond.selects RX6 yX6_reelNumbered yX6_reelNumbered, Cond.code yX6_reelNumbered cX6_reelNumbered 2 (some (.object "ReelChanger$Reel")), Cond.fieldLink RX6 34 "ReelChanger$Stock" "reelCount" "I", Cond.fieldLink RX6 13 "ReelChanger$Stock" "reels" "[LReelChanger$Reel;", Cond.methodLink RX5 165 yX3_repairAt, Cond.instanceMethod yX3_repairAt, Cond.selects RX3 yX3_repairAt yX3_repairAt, Cond.initialized RX3, Cond.code yX3_repairAt cX3_repairAt 3 none, Cond.fieldLink RX3 15 "ReelChanger$Reel" "strengths" "[I", Cond.methodLink RX3 32 yX3_spliceOfFrame, Cond.instanceMethod yX3_spliceOfFrame, Cond.selects RX3 yX3_spliceOfFrame yX3_spliceOfFrame, Cond.code yX3_spliceOfFrame cX3_spliceOfFrame 3 (some .int), Cond.fieldLink RX3 22 "ReelChanger$Reel" "spliceCount" "I", Cond.fieldLink RX3 11 "ReelChanger$Reel" "frames" "[I", Cond.constant RX3 31 (-100005), Cond.methodLink RX3 36 yX3_hasSplice, Cond.instanceMethod yX3_hasSplice, Cond.selects RX3 yX3_hasSplice yX3_hasSplice, Cond.code yX3_hasSplice cX3_hasSplice 2 (some .boolean)]
def wsX7_pass_r5 : List Cond := [Cond.methodLink RX5 152 yX6_settingNumbered, Cond.instanceMethod yX6_settingNumbered, Cond.selects RX6 yX6_settingNumbered yX6_settingNumbered, Cond.code yX6_settingNumbered cX6_settingNumbered 2 (some .int), Cond.fieldLink RX6 17 "ReelChanger$Stock" "settings" "[I", Cond.methodLink RX5 135 yX5_ticksOfFirstTask, Cond.instanceMethod yX5_ticksOfFirstTask, Cond.selects RX5 yX5_ticksOfFirstTask yX5_ticksOfFirstTask, Cond.code yX5_ticksOfFirstTask cX5_ticksOfFirstTask 2 (some .int), Cond.methodLink RX5 142 yX0_kindOf, Cond.instanceMethod yX0_kindOf, Cond.selects RX0 yX0_kindOf yX0_kindOf, Cond.code yX0_kindOf cX0_kindOf 2 (some .int), Cond.constant RX0 41 (-100005), Cond.fieldLink RX0 25 "ReelChanger$Operator" "workKind" "I", Cond.fieldLink RX0 11 "ReelChanger$Operator" "kinds" "[I", Cond.methodLink RX0 37 yX0_hasTask, Cond.instanceMethod yX0_hasTask, Cond.selects RX0 yX0_hasTask yX0_hasTask, Cond.code yX0_hasTask cX0_hasTask 2 (some .boolean), Cond.fieldLink RX0 22 "ReelChanger$Operator" "rowCount" "I", Cond.methodLink RX5 146 yX0_projectorOf, Cond.instanceMethod yX0_projectorOf, Cond.selects RX0 yX0_projectorOf yX0_projectorOf]
def wsX7_pass_r6 : List Cond := [Cond.code yX0_projectorOf cX0_projectorOf 2 (some .int), Cond.fieldLink RX0 28 "ReelChanger$Operator" "workProjector" "I", Cond.fieldLink RX0 15 "ReelChanger$Operator" "projectors" "[I", Cond.methodLink RX5 149 yX6_clearingTime, Cond.instanceMethod yX6_clearingTime, Cond.selects RX6 yX6_clearingTime yX6_clearingTime, Cond.code yX6_clearingTime cX6_clearingTime 4 (some .int), Cond.fieldLink RX6 85 "ReelChanger$Reel" "length" "I", Cond.methodLink RX6 82 yX6_reelAtPlace, Cond.methodLink RX5 139 yX0_takeUp, Cond.instanceMethod yX0_takeUp, Cond.selects RX0 yX0_takeUp yX0_takeUp, Cond.code yX0_takeUp cX0_takeUp 2 none, Cond.methodLink RX0 31 arraycopyName, Cond.native arraycopyName, Cond.static arraycopyName, Cond.initialized "java/lang/System", Cond.methodLink RX5 93 yX5_frontProjector, Cond.instanceMethod yX5_frontProjector, Cond.selects RX5 yX5_frontProjector yX5_frontProjector, Cond.code yX5_frontProjector cX5_frontProjector 1 (some (.object "ReelChanger$Projector")), Cond.fieldLink RX5 52 "ReelChanger$Show" "front" "I", Cond.methodLink RX5 104 yX5_startBack, Cond.instanceMethod yX5_startBack]
def wsX7_pass_r7 : List Cond := [Cond.selects RX5 yX5_startBack yX5_startBack, Cond.code yX5_startBack cX5_startBack 5 none, Cond.fieldLink RX5 42 "ReelChanger$Show" "late" "I", Cond.methodLink RX5 179 yX5_backProjector, Cond.instanceMethod yX5_backProjector, Cond.selects RX5 yX5_backProjector yX5_backProjector, Cond.code yX5_backProjector cX5_backProjector 1 (some (.object "ReelChanger$Projector")), Cond.methodLink RX5 182 yX5_framesBehindMark, Cond.instanceMethod yX5_framesBehindMark, Cond.selects RX5 yX5_framesBehindMark yX5_framesBehindMark, Cond.code yX5_framesBehindMark cX5_framesBehindMark 3 (some .int), Cond.fieldLink RX5 58 "ReelChanger$Show" "ranOut" "Z", Cond.methodLink RX5 186 yX2_start, Cond.instanceMethod yX2_start, Cond.selects RX2 yX2_start yX2_start, Cond.code yX2_start cX2_start 2 none, Cond.fieldLink RX2 18 "ReelChanger$Projector" "frame" "I", Cond.methodLink RX5 108 yX5_goOn, Cond.static yX5_goOn, Cond.code yX5_goOn cX5_goOn 1 none, Cond.methodLink RX5 189 yX2_isMoving, Cond.instanceMethod yX2_isMoving, Cond.selects RX2 yX2_isMoving yX2_isMoving, Cond.code yX2_isMoving cX2_isMoving 1 (some .boolean)]
def wsX7_pass_r8 : List Cond := [Cond.methodLink RX5 111 yX5_wearSplice, Cond.instanceMethod yX5_wearSplice, Cond.selects RX5 yX5_wearSplice yX5_wearSplice, Cond.code yX5_wearSplice cX5_wearSplice 3 none, Cond.fieldLink RX5 45 "ReelChanger$Show" "breaks" "I", Cond.methodLink RX5 192 yX3_breaksAt, Cond.instanceMethod yX3_breaksAt, Cond.selects RX3 yX3_breaksAt yX3_breaksAt, Cond.code yX3_breaksAt cX3_breaksAt 3 (some .boolean), Cond.methodLink RX3 41 Lib.Math.max.name, Cond.static Lib.Math.max.name, Cond.code Lib.Math.max.name Lib.Math.max.code 2 (some .int), Cond.methodLink RX5 196 yX0_addFirst, Cond.instanceMethod yX0_addFirst, Cond.selects RX0 yX0_addFirst yX0_addFirst, Cond.code yX0_addFirst cX0_addFirst 3 none, Cond.methodLink RX5 115 yX5_runOut, Cond.instanceMethod yX5_runOut, Cond.selects RX5 yX5_runOut yX5_runOut, Cond.code yX5_runOut cX5_runOut 6 none, Cond.fieldLink RX5 84 "ReelChanger$Stock" "placeCount" "I", Cond.methodLink RX5 200 yX5_orderNextReel, Cond.instanceMethod yX5_orderNextReel, Cond.selects RX5 yX5_orderNextReel yX5_orderNextReel]
def wsX7_pass_r9 : List Cond := [Cond.code yX5_orderNextReel cX5_orderNextReel 2 none, Cond.methodLink RX5 203 yX0_addLast, Cond.instanceMethod yX0_addLast, Cond.selects RX0 yX0_addLast yX0_addLast, Cond.code yX0_addLast cX0_addLast 3 none, Cond.methodLink RX5 206 yX0_threadTasks, Cond.instanceMethod yX0_threadTasks, Cond.selects RX0 yX0_threadTasks yX0_threadTasks, Cond.code yX0_threadTasks cX0_threadTasks 3 (some .int), Cond.methodLink RX0 42 yX0_kindOf, Cond.methodLink RX5 118 yX5_changeOver, Cond.instanceMethod yX5_changeOver, Cond.selects RX5 yX5_changeOver yX5_changeOver, Cond.code yX5_changeOver cX5_changeOver 2 none, Cond.fieldLink RX5 39 "ReelChanger$Show" "missed" "I", Cond.methodLink RX5 121 yX5_countTick, Cond.instanceMethod yX5_countTick, Cond.selects RX5 yX5_countTick yX5_countTick, Cond.code yX5_countTick cX5_countTick 1 none, Cond.fieldLink RX5 32 "ReelChanger$Show" "time" "I", Cond.fieldLink RX5 36 "ReelChanger$Show" "dark" "I"]
def wsX7_pass : List Cond := .code yX7_pass cX7_pass 2 (some .int) :: ((wsX7_pass_r1 ++ (wsX7_pass_r2 ++ (wsX7_pass_r3 ++ (wsX7_pass_r4 ++ (wsX7_pass_r5 ++ (wsX7_pass_r6 ++ (wsX7_pass_r7 ++ (wsX7_pass_r8 ++ wsX7_pass_r9)))))))) ++ wsX70 ++ wsX40 ++ wsX50 ++ wsX20 ++ wsX00 ++ wsX30 ++ wsX60)
def wsX7_tell : List Cond := .code yX7_tell cX7_tell 2 (some .int) :: ([.fieldLink RX7 10 "ReelChanger" "room" "LReelChanger$Room;", .fieldLink RX7 106 "ReelChanger$Room" "show" "LReelChanger$Show;", .methodLink RX7 142 yX5_count, .instanceMethod yX5_count, .selects RX5 yX5_count yX5_count, .initialized RX5, .code yX5_count cX5_count 2 (some .int), .fieldLink RX5 28 "ReelChanger$Show" "running" "Z", .fieldLink RX5 32 "ReelChanger$Show" "time" "I", .fieldLink RX5 52 "ReelChanger$Show" "front" "I", .fieldLink RX5 36 "ReelChanger$Show" "dark" "I", .fieldLink RX5 39 "ReelChanger$Show" "missed" "I", .fieldLink RX5 42 "ReelChanger$Show" "late" "I", .fieldLink RX5 45 "ReelChanger$Show" "breaks" "I", .fieldLink RX5 55 "ReelChanger$Show" "threaded" "I", .fieldLink RX5 12 "ReelChanger$Show" "operator" "LReelChanger$Operator;", .fieldLink RX5 64 "ReelChanger$Operator" "rowCount" "I", .fieldLink RX5 67 "ReelChanger$Operator" "ticksLeft" "I", .constant RX5 70 (-100001)] ++ wsX70 ++ wsX40 ++ wsX50 ++ wsX00)
def wsX7_projector_r1 : List Cond := [Cond.constant RX7 49 (-100001), Cond.fieldLink RX7 10 "ReelChanger" "room" "LReelChanger$Room;", Cond.fieldLink RX7 106 "ReelChanger$Room" "show" "LReelChanger$Show;", Cond.fieldLink RX7 149 "ReelChanger$Projector" "state" "I", Cond.constant RX7 99 (-100005), Cond.fieldLink RX7 154 "ReelChanger$Projector" "place" "I", Cond.fieldLink RX7 161 "ReelChanger$Projector" "frame" "I", Cond.constant RX7 34 (-100002), Cond.methodLink RX7 30 yX7_isWithin, Cond.static yX7_isWithin, Cond.initialized RX7, Cond.code yX7_isWithin cX7_isWithin 3 (some .boolean), Cond.methodLink RX7 145 yX5_projectorNumbered, Cond.instanceMethod yX5_projectorNumbered, Cond.selects RX5 yX5_projectorNumbered yX5_projectorNumbered, Cond.initialized RX5, Cond.code yX5_projectorNumbered cX5_projectorNumbered 2 (some (.object "ReelChanger$Projector")), Cond.fieldLink RX5 21 "ReelChanger$Show" "first" "LReelChanger$Projector;", Cond.fieldLink RX5 25 "ReelChanger$Show" "second" "LReelChanger$Projector;", Cond.methodLink RX7 157 yX2_isAtFrame, Cond.instanceMethod yX2_isAtFrame, Cond.selects RX2 yX2_isAtFrame yX2_isAtFrame, Cond.initialized RX2, Cond.code yX2_isAtFrame cX2_isAtFrame 1 (some .boolean)]
def wsX7_projector_r2 : List Cond := [Cond.fieldLink RX2 9 "ReelChanger$Projector" "state" "I"]
def wsX7_projector : List Cond := .code yX7_projector cX7_projector 4 (some .int) :: ((wsX7_projector_r1 ++ wsX7_projector_r2) ++ wsX70 ++ wsX40 ++ wsX20 ++ wsX50)
def wsX7_task_r1 : List Cond := [Cond.fieldLink RX7 10 "ReelChanger" "room" "LReelChanger$Room;", Cond.fieldLink RX7 106 "ReelChanger$Room" "show" "LReelChanger$Show;", Cond.fieldLink RX7 164 "ReelChanger$Show" "operator" "LReelChanger$Operator;", Cond.constant RX7 49 (-100001), Cond.constant RX7 34 (-100002), Cond.methodLink RX7 168 yX0_hasTask, Cond.instanceMethod yX0_hasTask, Cond.selects RX0 yX0_hasTask yX0_hasTask, Cond.initialized RX0, Cond.code yX0_hasTask cX0_hasTask 2 (some .boolean), Cond.fieldLink RX0 18 "ReelChanger$Operator" "ticksLeft" "I", Cond.fieldLink RX0 22 "ReelChanger$Operator" "rowCount" "I", Cond.methodLink RX7 173 yX0_kindOf, Cond.instanceMethod yX0_kindOf, Cond.selects RX0 yX0_kindOf yX0_kindOf, Cond.code yX0_kindOf cX0_kindOf 2 (some .int), Cond.constant RX0 41 (-100005), Cond.fieldLink RX0 25 "ReelChanger$Operator" "workKind" "I", Cond.fieldLink RX0 11 "ReelChanger$Operator" "kinds" "[I", Cond.methodLink RX0 37 yX0_hasTask, Cond.methodLink RX7 176 yX0_projectorOf, Cond.instanceMethod yX0_projectorOf, Cond.selects RX0 yX0_projectorOf yX0_projectorOf, Cond.code yX0_projectorOf cX0_projectorOf 2 (some .int)]
def wsX7_task_r2 : List Cond := [Cond.fieldLink RX0 28 "ReelChanger$Operator" "workProjector" "I", Cond.fieldLink RX0 15 "ReelChanger$Operator" "projectors" "[I"]
def wsX7_task : List Cond := .code yX7_task cX7_task 4 (some .int) :: ((wsX7_task_r1 ++ wsX7_task_r2) ++ wsX70 ++ wsX40 ++ wsX50 ++ wsX00)
def wsX7_foretold : List Cond := .code yX7_foretold cX7_foretold 3 (some .int) :: ([.fieldLink RX7 16 "ReelChanger" "trial" "LReelChanger$Room;", .fieldLink RX7 106 "ReelChanger$Room" "show" "LReelChanger$Show;", .fieldLink RX7 110 "ReelChanger$Show" "running" "Z", .constant RX7 99 (-100005), .fieldLink RX7 225 "ReelChanger$Show" "time" "I", .fieldLink RX7 228 "ReelChanger$Show" "dark" "I", .fieldLink RX7 231 "ReelChanger$Show" "missed" "I", .fieldLink RX7 234 "ReelChanger$Show" "late" "I", .fieldLink RX7 237 "ReelChanger$Show" "breaks" "I"] ++ wsX70 ++ wsX40 ++ wsX50)
def wsX7_forecast_r1 : List Cond := [Cond.constant RX7 49 (-100001), Cond.fieldLink RX7 10 "ReelChanger" "room" "LReelChanger$Room;", Cond.fieldLink RX7 106 "ReelChanger$Room" "show" "LReelChanger$Show;", Cond.fieldLink RX7 110 "ReelChanger$Show" "running" "Z", Cond.constant RX7 116 (-100003), Cond.fieldLink RX7 16 "ReelChanger" "trial" "LReelChanger$Room;", Cond.fieldLink RX7 35 "ReelChanger$Room" "stock" "LReelChanger$Stock;", Cond.methodLink RX7 30 yX7_isWithin, Cond.static yX7_isWithin, Cond.initialized RX7, Cond.code yX7_isWithin cX7_isWithin 3 (some .boolean), Cond.methodLink RX7 179 yX4_copyFrom, Cond.instanceMethod yX4_copyFrom, Cond.selects RX4 yX4_copyFrom yX4_copyFrom, Cond.initialized RX4, Cond.code yX4_copyFrom cX4_copyFrom 2 none, Cond.fieldLink RX4 10 "ReelChanger$Room" "stock" "LReelChanger$Stock;", Cond.fieldLink RX4 19 "ReelChanger$Room" "show" "LReelChanger$Show;", Cond.methodLink RX4 23 yX6_copyFrom, Cond.instanceMethod yX6_copyFrom, Cond.selects RX6 yX6_copyFrom yX6_copyFrom, Cond.initialized RX6, Cond.code yX6_copyFrom cX6_copyFrom 4 none, Cond.fieldLink RX6 34 "ReelChanger$Stock" "reelCount" "I"]
def wsX7_forecast_r2 : List Cond := [Cond.fieldLink RX6 13 "ReelChanger$Stock" "reels" "[LReelChanger$Reel;", Cond.fieldLink RX6 17 "ReelChanger$Stock" "settings" "[I", Cond.methodLink RX6 28 arraycopyName, Cond.native arraycopyName, Cond.static arraycopyName, Cond.initialized "java/lang/System", Cond.fieldLink RX6 21 "ReelChanger$Stock" "places" "[I", Cond.fieldLink RX6 42 "ReelChanger$Stock" "placeCount" "I", Cond.methodLink RX6 38 yX3_copyFrom, Cond.instanceMethod yX3_copyFrom, Cond.selects RX3 yX3_copyFrom yX3_copyFrom, Cond.initialized RX3, Cond.code yX3_copyFrom cX3_copyFrom 2 none, Cond.fieldLink RX3 18 "ReelChanger$Reel" "length" "I", Cond.fieldLink RX3 22 "ReelChanger$Reel" "spliceCount" "I", Cond.fieldLink RX3 11 "ReelChanger$Reel" "frames" "[I", Cond.methodLink RX3 25 arraycopyName, Cond.fieldLink RX3 15 "ReelChanger$Reel" "strengths" "[I", Cond.methodLink RX6 45 yX6_takeProgram, Cond.instanceMethod yX6_takeProgram, Cond.selects RX6 yX6_takeProgram yX6_takeProgram, Cond.code yX6_takeProgram cX6_takeProgram 4 none, Cond.methodLink RX6 73 Lib.Math.min.name, Cond.static Lib.Math.min.name]
def wsX7_forecast_r3 : List Cond := [Cond.initialized "java/lang/Math", Cond.code Lib.Math.min.name Lib.Math.min.code 2 (some .int), Cond.methodLink RX4 27 yX5_copyFrom, Cond.instanceMethod yX5_copyFrom, Cond.selects RX5 yX5_copyFrom yX5_copyFrom, Cond.initialized RX5, Cond.code yX5_copyFrom cX5_copyFrom 2 none, Cond.fieldLink RX5 28 "ReelChanger$Show" "running" "Z", Cond.fieldLink RX5 32 "ReelChanger$Show" "time" "I", Cond.fieldLink RX5 36 "ReelChanger$Show" "dark" "I", Cond.fieldLink RX5 39 "ReelChanger$Show" "missed" "I", Cond.fieldLink RX5 42 "ReelChanger$Show" "late" "I", Cond.fieldLink RX5 45 "ReelChanger$Show" "breaks" "I", Cond.fieldLink RX5 12 "ReelChanger$Show" "operator" "LReelChanger$Operator;", Cond.fieldLink RX5 52 "ReelChanger$Show" "front" "I", Cond.fieldLink RX5 55 "ReelChanger$Show" "threaded" "I", Cond.fieldLink RX5 58 "ReelChanger$Show" "ranOut" "Z", Cond.fieldLink RX5 21 "ReelChanger$Show" "first" "LReelChanger$Projector;", Cond.fieldLink RX5 25 "ReelChanger$Show" "second" "LReelChanger$Projector;", Cond.methodLink RX5 48 yX0_copyFrom, Cond.instanceMethod yX0_copyFrom, Cond.selects RX0 yX0_copyFrom yX0_copyFrom, Cond.initialized RX0, Cond.code yX0_copyFrom cX0_copyFrom 2 none]
def wsX7_forecast_r4 : List Cond := [Cond.fieldLink RX0 18 "ReelChanger$Operator" "ticksLeft" "I", Cond.fieldLink RX0 22 "ReelChanger$Operator" "rowCount" "I", Cond.fieldLink RX0 25 "ReelChanger$Operator" "workKind" "I", Cond.fieldLink RX0 28 "ReelChanger$Operator" "workProjector" "I", Cond.fieldLink RX0 11 "ReelChanger$Operator" "kinds" "[I", Cond.methodLink RX0 31 arraycopyName, Cond.fieldLink RX0 15 "ReelChanger$Operator" "projectors" "[I", Cond.methodLink RX5 61 yX2_copyFrom, Cond.instanceMethod yX2_copyFrom, Cond.selects RX2 yX2_copyFrom yX2_copyFrom, Cond.initialized RX2, Cond.code yX2_copyFrom cX2_copyFrom 2 none, Cond.fieldLink RX2 9 "ReelChanger$Projector" "state" "I", Cond.fieldLink RX2 15 "ReelChanger$Projector" "place" "I", Cond.fieldLink RX2 18 "ReelChanger$Projector" "frame" "I", Cond.methodLink RX7 138 yX5_run, Cond.instanceMethod yX5_run, Cond.selects RX5 yX5_run yX5_run, Cond.code yX5_run cX5_run 5 (some .int), Cond.fieldLink RX5 97 "ReelChanger$Projector" "place" "I", Cond.methodLink RX5 89 yX5_work, Cond.instanceMethod yX5_work, Cond.selects RX5 yX5_work yX5_work, Cond.code yX5_work cX5_work 2 none]
def wsX7_forecast_r5 : List Cond := [Cond.fieldLink RX5 67 "ReelChanger$Operator" "ticksLeft" "I", Cond.fieldLink RX5 64 "ReelChanger$Operator" "rowCount" "I", Cond.methodLink RX5 128 yX0_isWorking, Cond.instanceMethod yX0_isWorking, Cond.selects RX0 yX0_isWorking yX0_isWorking, Cond.code yX0_isWorking cX0_isWorking 1 (some .boolean), Cond.methodLink RX5 132 yX5_finishTask, Cond.instanceMethod yX5_finishTask, Cond.selects RX5 yX5_finishTask yX5_finishTask, Cond.code yX5_finishTask cX5_finishTask 3 none, Cond.fieldLink RX5 155 "ReelChanger$Operator" "workProjector" "I", Cond.fieldLink RX5 158 "ReelChanger$Operator" "workKind" "I", Cond.fieldLink RX5 78 "ReelChanger$Projector" "state" "I", Cond.methodLink RX5 124 yX5_projectorNumbered, Cond.instanceMethod yX5_projectorNumbered, Cond.selects RX5 yX5_projectorNumbered yX5_projectorNumbered, Cond.code yX5_projectorNumbered cX5_projectorNumbered 2 (some (.object "ReelChanger$Projector")), Cond.methodLink RX5 74 yX2_thread, Cond.instanceMethod yX2_thread, Cond.selects RX2 yX2_thread yX2_thread, Cond.code yX2_thread cX2_thread 2 none, Cond.methodLink RX5 161 yX5_finishRepair, Cond.instanceMethod yX5_finishRepair, Cond.selects RX5 yX5_finishRepair yX5_finishRepair]
def wsX7_forecast_r6 : List Cond := [Cond.code yX5_finishRepair cX5_finishRepair 5 none, Cond.fieldLink RX5 81 "ReelChanger$Projector" "frame" "I", Cond.fieldLink RX5 170 "ReelChanger$Reel" "length" "I", Cond.methodLink RX5 173 Lib.Math.min.name, Cond.methodLink RX5 100 yX6_reelAtPlace, Cond.instanceMethod yX6_reelAtPlace, Cond.selects RX6 yX6_reelAtPlace yX6_reelAtPlace, Cond.code yX6_reelAtPlace cX6_reelAtPlace 2 (some (.object "ReelChanger$Reel")), Cond.methodLink RX6 79 yX6_numberAtPlace, Cond.instanceMethod yX6_numberAtPlace, Cond.selects RX6 yX6_numberAtPlace yX6_numberAtPlace, Cond.code yX6_numberAtPlace cX6_numberAtPlace 2 (some .int), Cond.constant RX6 64 (-100001), Cond.methodLink RX6 50 yX6_reelNumbered, Cond.instanceMethod yX6_reelNumbered, Cond.selects RX6 yX6_reelNumbered yX6_reelNumbered, Cond.code yX6_reelNumbered cX6_reelNumbered 2 (some (.object "ReelChanger$Reel")), Cond.methodLink RX5 165 yX3_repairAt, Cond.instanceMethod yX3_repairAt, Cond.selects RX3 yX3_repairAt yX3_repairAt, Cond.code yX3_repairAt cX3_repairAt 3 none, Cond.methodLink RX3 32 yX3_spliceOfFrame, Cond.instanceMethod yX3_spliceOfFrame, Cond.selects RX3 yX3_spliceOfFrame yX3_spliceOfFrame]
def wsX7_forecast_r7 : List Cond := [Cond.code yX3_spliceOfFrame cX3_spliceOfFrame 3 (some .int), Cond.constant RX3 31 (-100005), Cond.methodLink RX3 36 yX3_hasSplice, Cond.instanceMethod yX3_hasSplice, Cond.selects RX3 yX3_hasSplice yX3_hasSplice, Cond.code yX3_hasSplice cX3_hasSplice 2 (some .boolean), Cond.methodLink RX5 152 yX6_settingNumbered, Cond.instanceMethod yX6_settingNumbered, Cond.selects RX6 yX6_settingNumbered yX6_settingNumbered, Cond.code yX6_settingNumbered cX6_settingNumbered 2 (some .int), Cond.methodLink RX5 135 yX5_ticksOfFirstTask, Cond.instanceMethod yX5_ticksOfFirstTask, Cond.selects RX5 yX5_ticksOfFirstTask yX5_ticksOfFirstTask, Cond.code yX5_ticksOfFirstTask cX5_ticksOfFirstTask 2 (some .int), Cond.methodLink RX5 142 yX0_kindOf, Cond.instanceMethod yX0_kindOf, Cond.selects RX0 yX0_kindOf yX0_kindOf, Cond.code yX0_kindOf cX0_kindOf 2 (some .int), Cond.constant RX0 41 (-100005), Cond.methodLink RX0 37 yX0_hasTask, Cond.instanceMethod yX0_hasTask, Cond.selects RX0 yX0_hasTask yX0_hasTask, Cond.code yX0_hasTask cX0_hasTask 2 (some .boolean), Cond.methodLink RX5 146 yX0_projectorOf]
def wsX7_forecast_r8 : List Cond := [Cond.instanceMethod yX0_projectorOf, Cond.selects RX0 yX0_projectorOf yX0_projectorOf, Cond.code yX0_projectorOf cX0_projectorOf 2 (some .int), Cond.methodLink RX5 149 yX6_clearingTime, Cond.instanceMethod yX6_clearingTime, Cond.selects RX6 yX6_clearingTime yX6_clearingTime, Cond.code yX6_clearingTime cX6_clearingTime 4 (some .int), Cond.fieldLink RX6 85 "ReelChanger$Reel" "length" "I", Cond.methodLink RX6 82 yX6_reelAtPlace, Cond.methodLink RX5 139 yX0_takeUp, Cond.instanceMethod yX0_takeUp, Cond.selects RX0 yX0_takeUp yX0_takeUp, Cond.code yX0_takeUp cX0_takeUp 2 none, Cond.methodLink RX5 93 yX5_frontProjector, Cond.instanceMethod yX5_frontProjector, Cond.selects RX5 yX5_frontProjector yX5_frontProjector, Cond.code yX5_frontProjector cX5_frontProjector 1 (some (.object "ReelChanger$Projector")), Cond.methodLink RX5 104 yX5_startBack, Cond.instanceMethod yX5_startBack, Cond.selects RX5 yX5_startBack yX5_startBack, Cond.code yX5_startBack cX5_startBack 5 none, Cond.methodLink RX5 179 yX5_backProjector, Cond.instanceMethod yX5_backProjector, Cond.selects RX5 yX5_backProjector yX5_backProjector]
def wsX7_forecast_r9 : List Cond := [Cond.code yX5_backProjector cX5_backProjector 1 (some (.object "ReelChanger$Projector")), Cond.methodLink RX5 182 yX5_framesBehindMark, Cond.instanceMethod yX5_framesBehindMark, Cond.selects RX5 yX5_framesBehindMark yX5_framesBehindMark, Cond.code yX5_framesBehindMark cX5_framesBehindMark 3 (some .int), Cond.methodLink RX5 186 yX2_start, Cond.instanceMethod yX2_start, Cond.selects RX2 yX2_start yX2_start, Cond.code yX2_start cX2_start 2 none, Cond.methodLink RX5 108 yX5_goOn, Cond.static yX5_goOn, Cond.code yX5_goOn cX5_goOn 1 none, Cond.methodLink RX5 189 yX2_isMoving, Cond.instanceMethod yX2_isMoving, Cond.selects RX2 yX2_isMoving yX2_isMoving, Cond.code yX2_isMoving cX2_isMoving 1 (some .boolean), Cond.methodLink RX5 111 yX5_wearSplice, Cond.instanceMethod yX5_wearSplice, Cond.selects RX5 yX5_wearSplice yX5_wearSplice, Cond.code yX5_wearSplice cX5_wearSplice 3 none, Cond.methodLink RX5 192 yX3_breaksAt, Cond.instanceMethod yX3_breaksAt, Cond.selects RX3 yX3_breaksAt yX3_breaksAt, Cond.code yX3_breaksAt cX3_breaksAt 3 (some .boolean)]
def wsX7_forecast_r10 : List Cond := [Cond.methodLink RX3 41 Lib.Math.max.name, Cond.static Lib.Math.max.name, Cond.code Lib.Math.max.name Lib.Math.max.code 2 (some .int), Cond.methodLink RX5 196 yX0_addFirst, Cond.instanceMethod yX0_addFirst, Cond.selects RX0 yX0_addFirst yX0_addFirst, Cond.code yX0_addFirst cX0_addFirst 3 none, Cond.methodLink RX5 115 yX5_runOut, Cond.instanceMethod yX5_runOut, Cond.selects RX5 yX5_runOut yX5_runOut, Cond.code yX5_runOut cX5_runOut 6 none, Cond.fieldLink RX5 84 "ReelChanger$Stock" "placeCount" "I", Cond.methodLink RX5 200 yX5_orderNextReel, Cond.instanceMethod yX5_orderNextReel, Cond.selects RX5 yX5_orderNextReel yX5_orderNextReel, Cond.code yX5_orderNextReel cX5_orderNextReel 2 none, Cond.methodLink RX5 203 yX0_addLast, Cond.instanceMethod yX0_addLast, Cond.selects RX0 yX0_addLast yX0_addLast, Cond.code yX0_addLast cX0_addLast 3 none, Cond.methodLink RX5 206 yX0_threadTasks, Cond.instanceMethod yX0_threadTasks, Cond.selects RX0 yX0_threadTasks yX0_threadTasks, Cond.code yX0_threadTasks cX0_threadTasks 3 (some .int)]
def wsX7_forecast_r11 : List Cond := [Cond.methodLink RX0 42 yX0_kindOf, Cond.methodLink RX5 118 yX5_changeOver, Cond.instanceMethod yX5_changeOver, Cond.selects RX5 yX5_changeOver yX5_changeOver, Cond.code yX5_changeOver cX5_changeOver 2 none, Cond.methodLink RX5 121 yX5_countTick, Cond.instanceMethod yX5_countTick, Cond.selects RX5 yX5_countTick yX5_countTick, Cond.code yX5_countTick cX5_countTick 1 none, Cond.methodLink RX7 183 yX7_foretold, Cond.instanceMethod yX7_foretold, Cond.selects RX7 yX7_foretold yX7_foretold, Cond.code yX7_foretold cX7_foretold 3 (some .int), Cond.constant RX7 99 (-100005), Cond.fieldLink RX7 225 "ReelChanger$Show" "time" "I", Cond.fieldLink RX7 228 "ReelChanger$Show" "dark" "I", Cond.fieldLink RX7 231 "ReelChanger$Show" "missed" "I", Cond.fieldLink RX7 234 "ReelChanger$Show" "late" "I", Cond.fieldLink RX7 237 "ReelChanger$Show" "breaks" "I"]
def wsX7_forecast : List Cond := .code yX7_forecast cX7_forecast 2 (some .int) :: ((wsX7_forecast_r1 ++ (wsX7_forecast_r2 ++ (wsX7_forecast_r3 ++ (wsX7_forecast_r4 ++ (wsX7_forecast_r5 ++ (wsX7_forecast_r6 ++ (wsX7_forecast_r7 ++ (wsX7_forecast_r8 ++ (wsX7_forecast_r9 ++ (wsX7_forecast_r10 ++ wsX7_forecast_r11)))))))))) ++ wsX70 ++ wsX40 ++ wsX50 ++ wsX60 ++ wsX30 ++ wsX00 ++ wsX20)
def wsX7_darkWith_r1 : List Cond := [Cond.fieldLink RX7 10 "ReelChanger" "room" "LReelChanger$Room;", Cond.fieldLink RX7 35 "ReelChanger$Room" "stock" "LReelChanger$Stock;", Cond.fieldLink RX7 131 "ReelChanger$Stock" "placeCount" "I", Cond.constant RX7 116 (-100003), Cond.fieldLink RX7 16 "ReelChanger" "trial" "LReelChanger$Room;", Cond.fieldLink RX7 106 "ReelChanger$Room" "show" "LReelChanger$Show;", Cond.methodLink RX7 81 yX7_settingError, Cond.static yX7_settingError, Cond.initialized RX7, Cond.code yX7_settingError cX7_settingError 2 (some .int), Cond.constant RX7 49 (-100001), Cond.constant RX7 34 (-100002), Cond.methodLink RX7 30 yX7_isWithin, Cond.static yX7_isWithin, Cond.code yX7_isWithin cX7_isWithin 3 (some .boolean), Cond.methodLink RX7 240 yX6_isSettingValue, Cond.static yX6_isSettingValue, Cond.initialized RX6, Cond.code yX6_isSettingValue cX6_isSettingValue 2 (some .boolean), Cond.fieldLink RX6 58 "ReelChanger$Stock" "LEAST_VALUES" "[I", Cond.fieldLink RX6 61 "ReelChanger$Stock" "MOST_VALUES" "[I", Cond.methodLink RX7 179 yX4_copyFrom, Cond.instanceMethod yX4_copyFrom, Cond.selects RX4 yX4_copyFrom yX4_copyFrom]
def wsX7_darkWith_r2 : List Cond := [Cond.initialized RX4, Cond.code yX4_copyFrom cX4_copyFrom 2 none, Cond.fieldLink RX4 10 "ReelChanger$Room" "stock" "LReelChanger$Stock;", Cond.fieldLink RX4 19 "ReelChanger$Room" "show" "LReelChanger$Show;", Cond.methodLink RX4 23 yX6_copyFrom, Cond.instanceMethod yX6_copyFrom, Cond.selects RX6 yX6_copyFrom yX6_copyFrom, Cond.code yX6_copyFrom cX6_copyFrom 4 none, Cond.fieldLink RX6 34 "ReelChanger$Stock" "reelCount" "I", Cond.fieldLink RX6 13 "ReelChanger$Stock" "reels" "[LReelChanger$Reel;", Cond.fieldLink RX6 17 "ReelChanger$Stock" "settings" "[I", Cond.methodLink RX6 28 arraycopyName, Cond.native arraycopyName, Cond.static arraycopyName, Cond.initialized "java/lang/System", Cond.fieldLink RX6 21 "ReelChanger$Stock" "places" "[I", Cond.fieldLink RX6 42 "ReelChanger$Stock" "placeCount" "I", Cond.methodLink RX6 38 yX3_copyFrom, Cond.instanceMethod yX3_copyFrom, Cond.selects RX3 yX3_copyFrom yX3_copyFrom, Cond.initialized RX3, Cond.code yX3_copyFrom cX3_copyFrom 2 none, Cond.fieldLink RX3 18 "ReelChanger$Reel" "length" "I", Cond.fieldLink RX3 22 "ReelChanger$Reel" "spliceCount" "I"]
def wsX7_darkWith_r3 : List Cond := [Cond.fieldLink RX3 11 "ReelChanger$Reel" "frames" "[I", Cond.methodLink RX3 25 arraycopyName, Cond.fieldLink RX3 15 "ReelChanger$Reel" "strengths" "[I", Cond.methodLink RX6 45 yX6_takeProgram, Cond.instanceMethod yX6_takeProgram, Cond.selects RX6 yX6_takeProgram yX6_takeProgram, Cond.code yX6_takeProgram cX6_takeProgram 4 none, Cond.methodLink RX6 73 Lib.Math.min.name, Cond.static Lib.Math.min.name, Cond.initialized "java/lang/Math", Cond.code Lib.Math.min.name Lib.Math.min.code 2 (some .int), Cond.methodLink RX4 27 yX5_copyFrom, Cond.instanceMethod yX5_copyFrom, Cond.selects RX5 yX5_copyFrom yX5_copyFrom, Cond.initialized RX5, Cond.code yX5_copyFrom cX5_copyFrom 2 none, Cond.fieldLink RX5 28 "ReelChanger$Show" "running" "Z", Cond.fieldLink RX5 32 "ReelChanger$Show" "time" "I", Cond.fieldLink RX5 36 "ReelChanger$Show" "dark" "I", Cond.fieldLink RX5 39 "ReelChanger$Show" "missed" "I", Cond.fieldLink RX5 42 "ReelChanger$Show" "late" "I", Cond.fieldLink RX5 45 "ReelChanger$Show" "breaks" "I", Cond.fieldLink RX5 12 "ReelChanger$Show" "operator" "LReelChanger$Operator;", Cond.fieldLink RX5 52 "ReelChanger$Show" "front" "I"]
def wsX7_darkWith_r4 : List Cond := [Cond.fieldLink RX5 55 "ReelChanger$Show" "threaded" "I", Cond.fieldLink RX5 58 "ReelChanger$Show" "ranOut" "Z", Cond.fieldLink RX5 21 "ReelChanger$Show" "first" "LReelChanger$Projector;", Cond.fieldLink RX5 25 "ReelChanger$Show" "second" "LReelChanger$Projector;", Cond.methodLink RX5 48 yX0_copyFrom, Cond.instanceMethod yX0_copyFrom, Cond.selects RX0 yX0_copyFrom yX0_copyFrom, Cond.initialized RX0, Cond.code yX0_copyFrom cX0_copyFrom 2 none, Cond.fieldLink RX0 18 "ReelChanger$Operator" "ticksLeft" "I", Cond.fieldLink RX0 22 "ReelChanger$Operator" "rowCount" "I", Cond.fieldLink RX0 25 "ReelChanger$Operator" "workKind" "I", Cond.fieldLink RX0 28 "ReelChanger$Operator" "workProjector" "I", Cond.fieldLink RX0 11 "ReelChanger$Operator" "kinds" "[I", Cond.methodLink RX0 31 arraycopyName, Cond.fieldLink RX0 15 "ReelChanger$Operator" "projectors" "[I", Cond.methodLink RX5 61 yX2_copyFrom, Cond.instanceMethod yX2_copyFrom, Cond.selects RX2 yX2_copyFrom yX2_copyFrom, Cond.initialized RX2, Cond.code yX2_copyFrom cX2_copyFrom 2 none, Cond.fieldLink RX2 9 "ReelChanger$Projector" "state" "I", Cond.fieldLink RX2 15 "ReelChanger$Projector" "place" "I", Cond.fieldLink RX2 18 "ReelChanger$Projector" "frame" "I"]
def wsX7_darkWith_r5 : List Cond := [Cond.methodLink RX7 84 yX6_changeSetting, Cond.instanceMethod yX6_changeSetting, Cond.selects RX6 yX6_changeSetting yX6_changeSetting, Cond.code yX6_changeSetting cX6_changeSetting 4 (some .int), Cond.methodLink RX6 65 yX6_settingNumbered, Cond.instanceMethod yX6_settingNumbered, Cond.selects RX6 yX6_settingNumbered yX6_settingNumbered, Cond.code yX6_settingNumbered cX6_settingNumbered 2 (some .int), Cond.constant RX6 64 (-100001), Cond.methodLink RX6 69 yX6_isSettingValue, Cond.methodLink RX7 134 yX5_open, Cond.instanceMethod yX5_open, Cond.selects RX5 yX5_open yX5_open, Cond.code yX5_open cX5_open 2 none, Cond.fieldLink RX5 78 "ReelChanger$Projector" "state" "I", Cond.fieldLink RX5 81 "ReelChanger$Projector" "frame" "I", Cond.fieldLink RX5 84 "ReelChanger$Stock" "placeCount" "I", Cond.methodLink RX5 71 yX0_dropAll, Cond.instanceMethod yX0_dropAll, Cond.selects RX0 yX0_dropAll yX0_dropAll, Cond.code yX0_dropAll cX0_dropAll 1 none, Cond.methodLink RX5 74 yX2_thread, Cond.instanceMethod yX2_thread, Cond.selects RX2 yX2_thread yX2_thread]
def wsX7_darkWith_r6 : List Cond := [Cond.code yX2_thread cX2_thread 2 none, Cond.methodLink RX7 138 yX5_run, Cond.instanceMethod yX5_run, Cond.selects RX5 yX5_run yX5_run, Cond.code yX5_run cX5_run 5 (some .int), Cond.fieldLink RX5 97 "ReelChanger$Projector" "place" "I", Cond.methodLink RX5 89 yX5_work, Cond.instanceMethod yX5_work, Cond.selects RX5 yX5_work yX5_work, Cond.code yX5_work cX5_work 2 none, Cond.fieldLink RX5 67 "ReelChanger$Operator" "ticksLeft" "I", Cond.fieldLink RX5 64 "ReelChanger$Operator" "rowCount" "I", Cond.methodLink RX5 128 yX0_isWorking, Cond.instanceMethod yX0_isWorking, Cond.selects RX0 yX0_isWorking yX0_isWorking, Cond.code yX0_isWorking cX0_isWorking 1 (some .boolean), Cond.methodLink RX5 132 yX5_finishTask, Cond.instanceMethod yX5_finishTask, Cond.selects RX5 yX5_finishTask yX5_finishTask, Cond.code yX5_finishTask cX5_finishTask 3 none, Cond.fieldLink RX5 155 "ReelChanger$Operator" "workProjector" "I", Cond.fieldLink RX5 158 "ReelChanger$Operator" "workKind" "I", Cond.methodLink RX5 124 yX5_projectorNumbered, Cond.instanceMethod yX5_projectorNumbered]
def wsX7_darkWith_r7 : List Cond := [Cond.selects RX5 yX5_projectorNumbered yX5_projectorNumbered, Cond.code yX5_projectorNumbered cX5_projectorNumbered 2 (some (.object "ReelChanger$Projector")), Cond.methodLink RX5 161 yX5_finishRepair, Cond.instanceMethod yX5_finishRepair, Cond.selects RX5 yX5_finishRepair yX5_finishRepair, Cond.code yX5_finishRepair cX5_finishRepair 5 none, Cond.fieldLink RX5 170 "ReelChanger$Reel" "length" "I", Cond.methodLink RX5 173 Lib.Math.min.name, Cond.methodLink RX5 100 yX6_reelAtPlace, Cond.instanceMethod yX6_reelAtPlace, Cond.selects RX6 yX6_reelAtPlace yX6_reelAtPlace, Cond.code yX6_reelAtPlace cX6_reelAtPlace 2 (some (.object "ReelChanger$Reel")), Cond.methodLink RX6 79 yX6_numberAtPlace, Cond.instanceMethod yX6_numberAtPlace, Cond.selects RX6 yX6_numberAtPlace yX6_numberAtPlace, Cond.code yX6_numberAtPlace cX6_numberAtPlace 2 (some .int), Cond.methodLink RX6 50 yX6_reelNumbered, Cond.instanceMethod yX6_reelNumbered, Cond.selects RX6 yX6_reelNumbered yX6_reelNumbered, Cond.code yX6_reelNumbered cX6_reelNumbered 2 (some (.object "ReelChanger$Reel")), Cond.methodLink RX5 165 yX3_repairAt, Cond.instanceMethod yX3_repairAt, Cond.selects RX3 yX3_repairAt yX3_repairAt, Cond.code yX3_repairAt cX3_repairAt 3 none]
def wsX7_darkWith_r8 : List Cond := [Cond.methodLink RX3 32 yX3_spliceOfFrame, Cond.instanceMethod yX3_spliceOfFrame, Cond.selects RX3 yX3_spliceOfFrame yX3_spliceOfFrame, Cond.code yX3_spliceOfFrame cX3_spliceOfFrame 3 (some .int), Cond.constant RX3 31 (-100005), Cond.methodLink RX3 36 yX3_hasSplice, Cond.instanceMethod yX3_hasSplice, Cond.selects RX3 yX3_hasSplice yX3_hasSplice, Cond.code yX3_hasSplice cX3_hasSplice 2 (some .boolean), Cond.methodLink RX5 152 yX6_settingNumbered, Cond.methodLink RX5 135 yX5_ticksOfFirstTask, Cond.instanceMethod yX5_ticksOfFirstTask, Cond.selects RX5 yX5_ticksOfFirstTask yX5_ticksOfFirstTask, Cond.code yX5_ticksOfFirstTask cX5_ticksOfFirstTask 2 (some .int), Cond.methodLink RX5 142 yX0_kindOf, Cond.instanceMethod yX0_kindOf, Cond.selects RX0 yX0_kindOf yX0_kindOf, Cond.code yX0_kindOf cX0_kindOf 2 (some .int), Cond.constant RX0 41 (-100005), Cond.methodLink RX0 37 yX0_hasTask, Cond.instanceMethod yX0_hasTask, Cond.selects RX0 yX0_hasTask yX0_hasTask, Cond.code yX0_hasTask cX0_hasTask 2 (some .boolean), Cond.methodLink RX5 146 yX0_projectorOf]
def wsX7_darkWith_r9 : List Cond := [Cond.instanceMethod yX0_projectorOf, Cond.selects RX0 yX0_projectorOf yX0_projectorOf, Cond.code yX0_projectorOf cX0_projectorOf 2 (some .int), Cond.methodLink RX5 149 yX6_clearingTime, Cond.instanceMethod yX6_clearingTime, Cond.selects RX6 yX6_clearingTime yX6_clearingTime, Cond.code yX6_clearingTime cX6_clearingTime 4 (some .int), Cond.fieldLink RX6 85 "ReelChanger$Reel" "length" "I", Cond.methodLink RX6 82 yX6_reelAtPlace, Cond.methodLink RX5 139 yX0_takeUp, Cond.instanceMethod yX0_takeUp, Cond.selects RX0 yX0_takeUp yX0_takeUp, Cond.code yX0_takeUp cX0_takeUp 2 none, Cond.methodLink RX5 93 yX5_frontProjector, Cond.instanceMethod yX5_frontProjector, Cond.selects RX5 yX5_frontProjector yX5_frontProjector, Cond.code yX5_frontProjector cX5_frontProjector 1 (some (.object "ReelChanger$Projector")), Cond.methodLink RX5 104 yX5_startBack, Cond.instanceMethod yX5_startBack, Cond.selects RX5 yX5_startBack yX5_startBack, Cond.code yX5_startBack cX5_startBack 5 none, Cond.methodLink RX5 179 yX5_backProjector, Cond.instanceMethod yX5_backProjector, Cond.selects RX5 yX5_backProjector yX5_backProjector]
def wsX7_darkWith_r10 : List Cond := [Cond.code yX5_backProjector cX5_backProjector 1 (some (.object "ReelChanger$Projector")), Cond.methodLink RX5 182 yX5_framesBehindMark, Cond.instanceMethod yX5_framesBehindMark, Cond.selects RX5 yX5_framesBehindMark yX5_framesBehindMark, Cond.code yX5_framesBehindMark cX5_framesBehindMark 3 (some .int), Cond.methodLink RX5 186 yX2_start, Cond.instanceMethod yX2_start, Cond.selects RX2 yX2_start yX2_start, Cond.code yX2_start cX2_start 2 none, Cond.methodLink RX5 108 yX5_goOn, Cond.static yX5_goOn, Cond.code yX5_goOn cX5_goOn 1 none, Cond.methodLink RX5 189 yX2_isMoving, Cond.instanceMethod yX2_isMoving, Cond.selects RX2 yX2_isMoving yX2_isMoving, Cond.code yX2_isMoving cX2_isMoving 1 (some .boolean), Cond.methodLink RX5 111 yX5_wearSplice, Cond.instanceMethod yX5_wearSplice, Cond.selects RX5 yX5_wearSplice yX5_wearSplice, Cond.code yX5_wearSplice cX5_wearSplice 3 none, Cond.methodLink RX5 192 yX3_breaksAt, Cond.instanceMethod yX3_breaksAt, Cond.selects RX3 yX3_breaksAt yX3_breaksAt, Cond.code yX3_breaksAt cX3_breaksAt 3 (some .boolean)]
def wsX7_darkWith_r11 : List Cond := [Cond.methodLink RX3 41 Lib.Math.max.name, Cond.static Lib.Math.max.name, Cond.code Lib.Math.max.name Lib.Math.max.code 2 (some .int), Cond.methodLink RX5 196 yX0_addFirst, Cond.instanceMethod yX0_addFirst, Cond.selects RX0 yX0_addFirst yX0_addFirst, Cond.code yX0_addFirst cX0_addFirst 3 none, Cond.methodLink RX5 115 yX5_runOut, Cond.instanceMethod yX5_runOut, Cond.selects RX5 yX5_runOut yX5_runOut, Cond.code yX5_runOut cX5_runOut 6 none, Cond.methodLink RX5 200 yX5_orderNextReel, Cond.instanceMethod yX5_orderNextReel, Cond.selects RX5 yX5_orderNextReel yX5_orderNextReel, Cond.code yX5_orderNextReel cX5_orderNextReel 2 none, Cond.methodLink RX5 203 yX0_addLast, Cond.instanceMethod yX0_addLast, Cond.selects RX0 yX0_addLast yX0_addLast, Cond.code yX0_addLast cX0_addLast 3 none, Cond.methodLink RX5 206 yX0_threadTasks, Cond.instanceMethod yX0_threadTasks, Cond.selects RX0 yX0_threadTasks yX0_threadTasks, Cond.code yX0_threadTasks cX0_threadTasks 3 (some .int), Cond.methodLink RX0 42 yX0_kindOf]
def wsX7_darkWith_r12 : List Cond := [Cond.methodLink RX5 118 yX5_changeOver, Cond.instanceMethod yX5_changeOver, Cond.selects RX5 yX5_changeOver yX5_changeOver, Cond.code yX5_changeOver cX5_changeOver 2 none, Cond.methodLink RX5 121 yX5_countTick, Cond.instanceMethod yX5_countTick, Cond.selects RX5 yX5_countTick yX5_countTick, Cond.code yX5_countTick cX5_countTick 1 none, Cond.methodLink RX7 183 yX7_foretold, Cond.instanceMethod yX7_foretold, Cond.selects RX7 yX7_foretold yX7_foretold, Cond.code yX7_foretold cX7_foretold 3 (some .int), Cond.fieldLink RX7 110 "ReelChanger$Show" "running" "Z", Cond.constant RX7 99 (-100005), Cond.fieldLink RX7 225 "ReelChanger$Show" "time" "I", Cond.fieldLink RX7 228 "ReelChanger$Show" "dark" "I", Cond.fieldLink RX7 231 "ReelChanger$Show" "missed" "I", Cond.fieldLink RX7 234 "ReelChanger$Show" "late" "I", Cond.fieldLink RX7 237 "ReelChanger$Show" "breaks" "I"]
def wsX7_darkWith : List Cond := .code yX7_darkWith cX7_darkWith 4 (some .int) :: ((wsX7_darkWith_r1 ++ (wsX7_darkWith_r2 ++ (wsX7_darkWith_r3 ++ (wsX7_darkWith_r4 ++ (wsX7_darkWith_r5 ++ (wsX7_darkWith_r6 ++ (wsX7_darkWith_r7 ++ (wsX7_darkWith_r8 ++ (wsX7_darkWith_r9 ++ (wsX7_darkWith_r10 ++ (wsX7_darkWith_r11 ++ wsX7_darkWith_r12))))))))))) ++ wsX70 ++ wsX40 ++ wsX60 ++ wsX30 ++ wsX50 ++ wsX00 ++ wsX20)
def wsX7_save_r1 : List Cond := [Cond.constant RX7 49 (-100001), Cond.fieldLink RX7 19 "ReelChanger" "slots" "[LReelChanger$Room;", Cond.classLink RX7 7 RX4, Cond.instantiable RX4 2, Cond.initialized RX4, Cond.fieldLink RX7 10 "ReelChanger" "room" "LReelChanger$Room;", Cond.fieldLink RX7 35 "ReelChanger$Room" "stock" "LReelChanger$Stock;", Cond.fieldLink RX7 93 "ReelChanger$Stock" "reelCount" "I", Cond.methodLink RX7 30 yX7_isWithin, Cond.static yX7_isWithin, Cond.initialized RX7, Cond.code yX7_isWithin cX7_isWithin 3 (some .boolean), Cond.instanceMethod yX4_init, Cond.code yX4_init cX4_init 1 none, Cond.methodLink RX4 1 objectInit, Cond.instanceMethod objectInit, Cond.code objectInit ⟨#[0xb1]⟩ 1 none, Cond.classLink RX4 7 RX6, Cond.instantiable RX6 5, Cond.initialized RX6, Cond.fieldLink RX4 10 "ReelChanger$Room" "stock" "LReelChanger$Stock;", Cond.classLink RX4 16 RX5, Cond.instantiable RX5 12, Cond.initialized RX5]
def wsX7_save_r2 : List Cond := [Cond.fieldLink RX4 19 "ReelChanger$Room" "show" "LReelChanger$Show;", Cond.methodLink RX4 9 yX6_init, Cond.instanceMethod yX6_init, Cond.code yX6_init cX6_init 2 none, Cond.methodLink RX6 3 objectInit, Cond.classLink RX6 11 RX3, Cond.fieldLink RX6 13 "ReelChanger$Stock" "reels" "[LReelChanger$Reel;", Cond.arrayClass .int, Cond.fieldLink RX6 17 "ReelChanger$Stock" "settings" "[I", Cond.fieldLink RX6 21 "ReelChanger$Stock" "places" "[I", Cond.instantiable RX3 4, Cond.initialized RX3, Cond.fieldLink RX6 25 "ReelChanger$Stock" "FIRST_VALUES" "[I", Cond.methodLink RX6 28 arraycopyName, Cond.native arraycopyName, Cond.static arraycopyName, Cond.initialized "java/lang/System", Cond.instanceMethod yX3_init, Cond.code yX3_init cX3_init 1 none, Cond.methodLink RX3 3 objectInit, Cond.fieldLink RX3 11 "ReelChanger$Reel" "frames" "[I", Cond.fieldLink RX3 15 "ReelChanger$Reel" "strengths" "[I", Cond.instanceMethod yX5_init, Cond.code yX5_init cX5_init 1 none]
def wsX7_save_r3 : List Cond := [Cond.methodLink RX5 3 objectInit, Cond.classLink RX5 9 RX0, Cond.instantiable RX0 6, Cond.initialized RX0, Cond.fieldLink RX5 12 "ReelChanger$Show" "operator" "LReelChanger$Operator;", Cond.classLink RX5 18 RX2, Cond.instantiable RX2 3, Cond.initialized RX2, Cond.fieldLink RX5 21 "ReelChanger$Show" "first" "LReelChanger$Projector;", Cond.fieldLink RX5 25 "ReelChanger$Show" "second" "LReelChanger$Projector;", Cond.instanceMethod yX0_init, Cond.code yX0_init cX0_init 1 none, Cond.methodLink RX0 3 objectInit, Cond.fieldLink RX0 11 "ReelChanger$Operator" "kinds" "[I", Cond.fieldLink RX0 15 "ReelChanger$Operator" "projectors" "[I", Cond.instanceMethod yX2_init, Cond.code yX2_init cX2_init 1 none, Cond.methodLink RX2 3 objectInit, Cond.methodLink RX7 179 yX4_copyFrom, Cond.instanceMethod yX4_copyFrom, Cond.selects RX4 yX4_copyFrom yX4_copyFrom, Cond.code yX4_copyFrom cX4_copyFrom 2 none, Cond.methodLink RX4 23 yX6_copyFrom, Cond.instanceMethod yX6_copyFrom]
def wsX7_save_r4 : List Cond := [Cond.selects RX6 yX6_copyFrom yX6_copyFrom, Cond.code yX6_copyFrom cX6_copyFrom 4 none, Cond.fieldLink RX6 34 "ReelChanger$Stock" "reelCount" "I", Cond.fieldLink RX6 42 "ReelChanger$Stock" "placeCount" "I", Cond.methodLink RX6 38 yX3_copyFrom, Cond.instanceMethod yX3_copyFrom, Cond.selects RX3 yX3_copyFrom yX3_copyFrom, Cond.code yX3_copyFrom cX3_copyFrom 2 none, Cond.fieldLink RX3 18 "ReelChanger$Reel" "length" "I", Cond.fieldLink RX3 22 "ReelChanger$Reel" "spliceCount" "I", Cond.methodLink RX3 25 arraycopyName, Cond.methodLink RX6 45 yX6_takeProgram, Cond.instanceMethod yX6_takeProgram, Cond.selects RX6 yX6_takeProgram yX6_takeProgram, Cond.code yX6_takeProgram cX6_takeProgram 4 none, Cond.methodLink RX6 73 Lib.Math.min.name, Cond.static Lib.Math.min.name, Cond.initialized "java/lang/Math", Cond.code Lib.Math.min.name Lib.Math.min.code 2 (some .int), Cond.methodLink RX4 27 yX5_copyFrom, Cond.instanceMethod yX5_copyFrom, Cond.selects RX5 yX5_copyFrom yX5_copyFrom, Cond.code yX5_copyFrom cX5_copyFrom 2 none, Cond.fieldLink RX5 28 "ReelChanger$Show" "running" "Z"]
def wsX7_save_r5 : List Cond := [Cond.fieldLink RX5 32 "ReelChanger$Show" "time" "I", Cond.fieldLink RX5 36 "ReelChanger$Show" "dark" "I", Cond.fieldLink RX5 39 "ReelChanger$Show" "missed" "I", Cond.fieldLink RX5 42 "ReelChanger$Show" "late" "I", Cond.fieldLink RX5 45 "ReelChanger$Show" "breaks" "I", Cond.fieldLink RX5 52 "ReelChanger$Show" "front" "I", Cond.fieldLink RX5 55 "ReelChanger$Show" "threaded" "I", Cond.fieldLink RX5 58 "ReelChanger$Show" "ranOut" "Z", Cond.methodLink RX5 48 yX0_copyFrom, Cond.instanceMethod yX0_copyFrom, Cond.selects RX0 yX0_copyFrom yX0_copyFrom, Cond.code yX0_copyFrom cX0_copyFrom 2 none, Cond.fieldLink RX0 18 "ReelChanger$Operator" "ticksLeft" "I", Cond.fieldLink RX0 22 "ReelChanger$Operator" "rowCount" "I", Cond.fieldLink RX0 25 "ReelChanger$Operator" "workKind" "I", Cond.fieldLink RX0 28 "ReelChanger$Operator" "workProjector" "I", Cond.methodLink RX0 31 arraycopyName, Cond.methodLink RX5 61 yX2_copyFrom, Cond.instanceMethod yX2_copyFrom, Cond.selects RX2 yX2_copyFrom yX2_copyFrom, Cond.code yX2_copyFrom cX2_copyFrom 2 none, Cond.fieldLink RX2 9 "ReelChanger$Projector" "state" "I", Cond.fieldLink RX2 15 "ReelChanger$Projector" "place" "I", Cond.fieldLink RX2 18 "ReelChanger$Projector" "frame" "I"]
def wsX7_save : List Cond := .code yX7_save cX7_save 3 (some .int) :: ((wsX7_save_r1 ++ (wsX7_save_r2 ++ (wsX7_save_r3 ++ (wsX7_save_r4 ++ wsX7_save_r5)))) ++ wsX70 ++ wsX40 ++ wsX60 ++ wsX50 ++ wsX30 ++ wsX00 ++ wsX20)
def wsX7_restore_r1 : List Cond := [Cond.constant RX7 49 (-100001), Cond.fieldLink RX7 19 "ReelChanger" "slots" "[LReelChanger$Room;", Cond.constant RX7 116 (-100003), Cond.fieldLink RX7 10 "ReelChanger" "room" "LReelChanger$Room;", Cond.fieldLink RX7 35 "ReelChanger$Room" "stock" "LReelChanger$Stock;", Cond.fieldLink RX7 93 "ReelChanger$Stock" "reelCount" "I", Cond.methodLink RX7 30 yX7_isWithin, Cond.static yX7_isWithin, Cond.initialized RX7, Cond.code yX7_isWithin cX7_isWithin 3 (some .boolean), Cond.methodLink RX7 179 yX4_copyFrom, Cond.instanceMethod yX4_copyFrom, Cond.selects RX4 yX4_copyFrom yX4_copyFrom, Cond.initialized RX4, Cond.code yX4_copyFrom cX4_copyFrom 2 none, Cond.fieldLink RX4 10 "ReelChanger$Room" "stock" "LReelChanger$Stock;", Cond.fieldLink RX4 19 "ReelChanger$Room" "show" "LReelChanger$Show;", Cond.methodLink RX4 23 yX6_copyFrom, Cond.instanceMethod yX6_copyFrom, Cond.selects RX6 yX6_copyFrom yX6_copyFrom, Cond.initialized RX6, Cond.code yX6_copyFrom cX6_copyFrom 4 none, Cond.fieldLink RX6 34 "ReelChanger$Stock" "reelCount" "I", Cond.fieldLink RX6 13 "ReelChanger$Stock" "reels" "[LReelChanger$Reel;"]
def wsX7_restore_r2 : List Cond := [Cond.fieldLink RX6 17 "ReelChanger$Stock" "settings" "[I", Cond.methodLink RX6 28 arraycopyName, Cond.native arraycopyName, Cond.static arraycopyName, Cond.initialized "java/lang/System", Cond.fieldLink RX6 21 "ReelChanger$Stock" "places" "[I", Cond.fieldLink RX6 42 "ReelChanger$Stock" "placeCount" "I", Cond.methodLink RX6 38 yX3_copyFrom, Cond.instanceMethod yX3_copyFrom, Cond.selects RX3 yX3_copyFrom yX3_copyFrom, Cond.initialized RX3, Cond.code yX3_copyFrom cX3_copyFrom 2 none, Cond.fieldLink RX3 18 "ReelChanger$Reel" "length" "I", Cond.fieldLink RX3 22 "ReelChanger$Reel" "spliceCount" "I", Cond.fieldLink RX3 11 "ReelChanger$Reel" "frames" "[I", Cond.methodLink RX3 25 arraycopyName, Cond.fieldLink RX3 15 "ReelChanger$Reel" "strengths" "[I", Cond.methodLink RX6 45 yX6_takeProgram, Cond.instanceMethod yX6_takeProgram, Cond.selects RX6 yX6_takeProgram yX6_takeProgram, Cond.code yX6_takeProgram cX6_takeProgram 4 none, Cond.methodLink RX6 73 Lib.Math.min.name, Cond.static Lib.Math.min.name, Cond.initialized "java/lang/Math"]
def wsX7_restore_r3 : List Cond := [Cond.code Lib.Math.min.name Lib.Math.min.code 2 (some .int), Cond.methodLink RX4 27 yX5_copyFrom, Cond.instanceMethod yX5_copyFrom, Cond.selects RX5 yX5_copyFrom yX5_copyFrom, Cond.initialized RX5, Cond.code yX5_copyFrom cX5_copyFrom 2 none, Cond.fieldLink RX5 28 "ReelChanger$Show" "running" "Z", Cond.fieldLink RX5 32 "ReelChanger$Show" "time" "I", Cond.fieldLink RX5 36 "ReelChanger$Show" "dark" "I", Cond.fieldLink RX5 39 "ReelChanger$Show" "missed" "I", Cond.fieldLink RX5 42 "ReelChanger$Show" "late" "I", Cond.fieldLink RX5 45 "ReelChanger$Show" "breaks" "I", Cond.fieldLink RX5 12 "ReelChanger$Show" "operator" "LReelChanger$Operator;", Cond.fieldLink RX5 52 "ReelChanger$Show" "front" "I", Cond.fieldLink RX5 55 "ReelChanger$Show" "threaded" "I", Cond.fieldLink RX5 58 "ReelChanger$Show" "ranOut" "Z", Cond.fieldLink RX5 21 "ReelChanger$Show" "first" "LReelChanger$Projector;", Cond.fieldLink RX5 25 "ReelChanger$Show" "second" "LReelChanger$Projector;", Cond.methodLink RX5 48 yX0_copyFrom, Cond.instanceMethod yX0_copyFrom, Cond.selects RX0 yX0_copyFrom yX0_copyFrom, Cond.initialized RX0, Cond.code yX0_copyFrom cX0_copyFrom 2 none, Cond.fieldLink RX0 18 "ReelChanger$Operator" "ticksLeft" "I"]
def wsX7_restore_r4 : List Cond := [Cond.fieldLink RX0 22 "ReelChanger$Operator" "rowCount" "I", Cond.fieldLink RX0 25 "ReelChanger$Operator" "workKind" "I", Cond.fieldLink RX0 28 "ReelChanger$Operator" "workProjector" "I", Cond.fieldLink RX0 11 "ReelChanger$Operator" "kinds" "[I", Cond.methodLink RX0 31 arraycopyName, Cond.fieldLink RX0 15 "ReelChanger$Operator" "projectors" "[I", Cond.methodLink RX5 61 yX2_copyFrom, Cond.instanceMethod yX2_copyFrom, Cond.selects RX2 yX2_copyFrom yX2_copyFrom, Cond.initialized RX2, Cond.code yX2_copyFrom cX2_copyFrom 2 none, Cond.fieldLink RX2 9 "ReelChanger$Projector" "state" "I", Cond.fieldLink RX2 15 "ReelChanger$Projector" "place" "I", Cond.fieldLink RX2 18 "ReelChanger$Projector" "frame" "I"]
def wsX7_restore : List Cond := .code yX7_restore cX7_restore 3 (some .int) :: ((wsX7_restore_r1 ++ (wsX7_restore_r2 ++ (wsX7_restore_r3 ++ wsX7_restore_r4))) ++ wsX70 ++ wsX40 ++ wsX60 ++ wsX30 ++ wsX50 ++ wsX00 ++ wsX20)
def wsX7_mix : List Cond := .code yX7_mix cX7_mix 4 (some .long) :: ([.constantLong RX7 244 (31)])
def wsX7_sumReel_r1 : List Cond := [Cond.methodLink RX7 209 yX7_reel, Cond.instanceMethod yX7_reel, Cond.selects RX7 yX7_reel yX7_reel, Cond.initialized RX7, Cond.code yX7_reel cX7_reel 4 (some .int), Cond.fieldLink RX7 10 "ReelChanger" "room" "LReelChanger$Room;", Cond.fieldLink RX7 35 "ReelChanger$Room" "stock" "LReelChanger$Stock;", Cond.constant RX7 49 (-100001), Cond.fieldLink RX7 50 "ReelChanger$Reel" "length" "I", Cond.fieldLink RX7 63 "ReelChanger$Reel" "spliceCount" "I", Cond.constant RX7 34 (-100002), Cond.methodLink RX7 45 yX6_reelNumbered, Cond.instanceMethod yX6_reelNumbered, Cond.selects RX6 yX6_reelNumbered yX6_reelNumbered, Cond.initialized RX6, Cond.code yX6_reelNumbered cX6_reelNumbered 2 (some (.object "ReelChanger$Reel")), Cond.fieldLink RX6 34 "ReelChanger$Stock" "reelCount" "I", Cond.fieldLink RX6 13 "ReelChanger$Stock" "reels" "[LReelChanger$Reel;", Cond.methodLink RX7 66 yX3_leastStrength, Cond.instanceMethod yX3_leastStrength, Cond.selects RX3 yX3_leastStrength yX3_leastStrength, Cond.initialized RX3, Cond.code yX3_leastStrength cX3_leastStrength 3 (some .int), Cond.constant RX3 31 (-100005)]
def wsX7_sumReel_r2 : List Cond := [Cond.fieldLink RX3 22 "ReelChanger$Reel" "spliceCount" "I", Cond.fieldLink RX3 15 "ReelChanger$Reel" "strengths" "[I", Cond.methodLink RX7 195 yX7_mix, Cond.static yX7_mix, Cond.code yX7_mix cX7_mix 4 (some .long), Cond.constantLong RX7 244 (31), Cond.methodLink RX7 212 yX7_spliceAt, Cond.instanceMethod yX7_spliceAt, Cond.selects RX7 yX7_spliceAt yX7_spliceAt, Cond.code yX7_spliceAt cX7_spliceAt 5 (some .int), Cond.fieldLink RX7 74 "ReelChanger$Reel" "strengths" "[I", Cond.fieldLink RX7 78 "ReelChanger$Reel" "frames" "[I", Cond.methodLink RX7 70 yX3_hasSplice, Cond.instanceMethod yX3_hasSplice, Cond.selects RX3 yX3_hasSplice yX3_hasSplice, Cond.code yX3_hasSplice cX3_hasSplice 2 (some .boolean)]
def wsX7_sumReel : List Cond := .code yX7_sumReel cX7_sumReel 8 (some .long) :: ((wsX7_sumReel_r1 ++ wsX7_sumReel_r2) ++ wsX70 ++ wsX40 ++ wsX30 ++ wsX60)
def wsX7_sumStock_r1 : List Cond := [Cond.fieldLink RX7 10 "ReelChanger" "room" "LReelChanger$Room;", Cond.fieldLink RX7 35 "ReelChanger$Room" "stock" "LReelChanger$Stock;", Cond.fieldLink RX7 93 "ReelChanger$Stock" "reelCount" "I", Cond.fieldLink RX7 131 "ReelChanger$Stock" "placeCount" "I", Cond.methodLink RX7 195 yX7_mix, Cond.static yX7_mix, Cond.initialized RX7, Cond.code yX7_mix cX7_mix 4 (some .long), Cond.constantLong RX7 244 (31), Cond.methodLink RX7 199 yX7_sumReel, Cond.instanceMethod yX7_sumReel, Cond.selects RX7 yX7_sumReel yX7_sumReel, Cond.code yX7_sumReel cX7_sumReel 8 (some .long), Cond.methodLink RX7 209 yX7_reel, Cond.instanceMethod yX7_reel, Cond.selects RX7 yX7_reel yX7_reel, Cond.code yX7_reel cX7_reel 4 (some .int), Cond.constant RX7 49 (-100001), Cond.fieldLink RX7 50 "ReelChanger$Reel" "length" "I", Cond.fieldLink RX7 63 "ReelChanger$Reel" "spliceCount" "I", Cond.constant RX7 34 (-100002), Cond.methodLink RX7 45 yX6_reelNumbered, Cond.instanceMethod yX6_reelNumbered, Cond.selects RX6 yX6_reelNumbered yX6_reelNumbered]
def wsX7_sumStock_r2 : List Cond := [Cond.initialized RX6, Cond.code yX6_reelNumbered cX6_reelNumbered 2 (some (.object "ReelChanger$Reel")), Cond.fieldLink RX6 34 "ReelChanger$Stock" "reelCount" "I", Cond.fieldLink RX6 13 "ReelChanger$Stock" "reels" "[LReelChanger$Reel;", Cond.methodLink RX7 66 yX3_leastStrength, Cond.instanceMethod yX3_leastStrength, Cond.selects RX3 yX3_leastStrength yX3_leastStrength, Cond.initialized RX3, Cond.code yX3_leastStrength cX3_leastStrength 3 (some .int), Cond.constant RX3 31 (-100005), Cond.fieldLink RX3 22 "ReelChanger$Reel" "spliceCount" "I", Cond.fieldLink RX3 15 "ReelChanger$Reel" "strengths" "[I", Cond.methodLink RX7 212 yX7_spliceAt, Cond.instanceMethod yX7_spliceAt, Cond.selects RX7 yX7_spliceAt yX7_spliceAt, Cond.code yX7_spliceAt cX7_spliceAt 5 (some .int), Cond.fieldLink RX7 74 "ReelChanger$Reel" "strengths" "[I", Cond.fieldLink RX7 78 "ReelChanger$Reel" "frames" "[I", Cond.methodLink RX7 70 yX3_hasSplice, Cond.instanceMethod yX3_hasSplice, Cond.selects RX3 yX3_hasSplice yX3_hasSplice, Cond.code yX3_hasSplice cX3_hasSplice 2 (some .boolean), Cond.methodLink RX7 203 yX6_settingNumbered, Cond.instanceMethod yX6_settingNumbered]
def wsX7_sumStock_r3 : List Cond := [Cond.selects RX6 yX6_settingNumbered yX6_settingNumbered, Cond.code yX6_settingNumbered cX6_settingNumbered 2 (some .int), Cond.fieldLink RX6 17 "ReelChanger$Stock" "settings" "[I", Cond.constant RX6 64 (-100001), Cond.methodLink RX7 206 yX7_program, Cond.instanceMethod yX7_program, Cond.selects RX7 yX7_program yX7_program, Cond.code yX7_program cX7_program 2 (some .int), Cond.methodLink RX7 128 yX6_numberAtPlace, Cond.instanceMethod yX6_numberAtPlace, Cond.selects RX6 yX6_numberAtPlace yX6_numberAtPlace, Cond.code yX6_numberAtPlace cX6_numberAtPlace 2 (some .int), Cond.fieldLink RX6 42 "ReelChanger$Stock" "placeCount" "I", Cond.fieldLink RX6 21 "ReelChanger$Stock" "places" "[I"]
def wsX7_sumStock : List Cond := .code yX7_sumStock cX7_sumStock 7 (some .long) :: ((wsX7_sumStock_r1 ++ (wsX7_sumStock_r2 ++ wsX7_sumStock_r3)) ++ wsX70 ++ wsX40 ++ wsX60 ++ wsX30)
def wsX7_sumShow_r1 : List Cond := [Cond.fieldLink RX7 10 "ReelChanger" "room" "LReelChanger$Room;", Cond.fieldLink RX7 106 "ReelChanger$Room" "show" "LReelChanger$Show;", Cond.fieldLink RX7 164 "ReelChanger$Show" "operator" "LReelChanger$Operator;", Cond.methodLink RX7 216 yX7_tell, Cond.instanceMethod yX7_tell, Cond.selects RX7 yX7_tell yX7_tell, Cond.initialized RX7, Cond.code yX7_tell cX7_tell 2 (some .int), Cond.methodLink RX7 142 yX5_count, Cond.instanceMethod yX5_count, Cond.selects RX5 yX5_count yX5_count, Cond.initialized RX5, Cond.code yX5_count cX5_count 2 (some .int), Cond.fieldLink RX5 28 "ReelChanger$Show" "running" "Z", Cond.fieldLink RX5 32 "ReelChanger$Show" "time" "I", Cond.fieldLink RX5 52 "ReelChanger$Show" "front" "I", Cond.fieldLink RX5 36 "ReelChanger$Show" "dark" "I", Cond.fieldLink RX5 39 "ReelChanger$Show" "missed" "I", Cond.fieldLink RX5 42 "ReelChanger$Show" "late" "I", Cond.fieldLink RX5 45 "ReelChanger$Show" "breaks" "I", Cond.fieldLink RX5 55 "ReelChanger$Show" "threaded" "I", Cond.fieldLink RX5 12 "ReelChanger$Show" "operator" "LReelChanger$Operator;", Cond.fieldLink RX5 64 "ReelChanger$Operator" "rowCount" "I", Cond.fieldLink RX5 67 "ReelChanger$Operator" "ticksLeft" "I"]
def wsX7_sumShow_r2 : List Cond := [Cond.constant RX5 70 (-100001), Cond.methodLink RX7 195 yX7_mix, Cond.static yX7_mix, Cond.code yX7_mix cX7_mix 4 (some .long), Cond.constantLong RX7 244 (31), Cond.methodLink RX7 219 yX7_projector, Cond.instanceMethod yX7_projector, Cond.selects RX7 yX7_projector yX7_projector, Cond.code yX7_projector cX7_projector 4 (some .int), Cond.constant RX7 49 (-100001), Cond.fieldLink RX7 149 "ReelChanger$Projector" "state" "I", Cond.constant RX7 99 (-100005), Cond.fieldLink RX7 154 "ReelChanger$Projector" "place" "I", Cond.fieldLink RX7 161 "ReelChanger$Projector" "frame" "I", Cond.constant RX7 34 (-100002), Cond.methodLink RX7 30 yX7_isWithin, Cond.static yX7_isWithin, Cond.code yX7_isWithin cX7_isWithin 3 (some .boolean), Cond.methodLink RX7 145 yX5_projectorNumbered, Cond.instanceMethod yX5_projectorNumbered, Cond.selects RX5 yX5_projectorNumbered yX5_projectorNumbered, Cond.code yX5_projectorNumbered cX5_projectorNumbered 2 (some (.object "ReelChanger$Projector")), Cond.fieldLink RX5 21 "ReelChanger$Show" "first" "LReelChanger$Projector;", Cond.fieldLink RX5 25 "ReelChanger$Show" "second" "LReelChanger$Projector;"]
def wsX7_sumShow_r3 : List Cond := [Cond.methodLink RX7 157 yX2_isAtFrame, Cond.instanceMethod yX2_isAtFrame, Cond.selects RX2 yX2_isAtFrame yX2_isAtFrame, Cond.initialized RX2, Cond.code yX2_isAtFrame cX2_isAtFrame 1 (some .boolean), Cond.fieldLink RX2 9 "ReelChanger$Projector" "state" "I", Cond.methodLink RX7 168 yX0_hasTask, Cond.instanceMethod yX0_hasTask, Cond.selects RX0 yX0_hasTask yX0_hasTask, Cond.initialized RX0, Cond.code yX0_hasTask cX0_hasTask 2 (some .boolean), Cond.fieldLink RX0 18 "ReelChanger$Operator" "ticksLeft" "I", Cond.fieldLink RX0 22 "ReelChanger$Operator" "rowCount" "I", Cond.methodLink RX7 222 yX7_task, Cond.instanceMethod yX7_task, Cond.selects RX7 yX7_task yX7_task, Cond.code yX7_task cX7_task 4 (some .int), Cond.methodLink RX7 173 yX0_kindOf, Cond.instanceMethod yX0_kindOf, Cond.selects RX0 yX0_kindOf yX0_kindOf, Cond.code yX0_kindOf cX0_kindOf 2 (some .int), Cond.constant RX0 41 (-100005), Cond.fieldLink RX0 25 "ReelChanger$Operator" "workKind" "I", Cond.fieldLink RX0 11 "ReelChanger$Operator" "kinds" "[I"]
def wsX7_sumShow_r4 : List Cond := [Cond.methodLink RX0 37 yX0_hasTask, Cond.methodLink RX7 176 yX0_projectorOf, Cond.instanceMethod yX0_projectorOf, Cond.selects RX0 yX0_projectorOf yX0_projectorOf, Cond.code yX0_projectorOf cX0_projectorOf 2 (some .int), Cond.fieldLink RX0 28 "ReelChanger$Operator" "workProjector" "I", Cond.fieldLink RX0 15 "ReelChanger$Operator" "projectors" "[I"]
def wsX7_sumShow : List Cond := .code yX7_sumShow cX7_sumShow 7 (some .long) :: ((wsX7_sumShow_r1 ++ (wsX7_sumShow_r2 ++ (wsX7_sumShow_r3 ++ wsX7_sumShow_r4))) ++ wsX70 ++ wsX40 ++ wsX50 ++ wsX00 ++ wsX20)
def wsX7_checksum_r1 : List Cond := [Cond.constantLong RX7 186 (139), Cond.fieldLink RX7 10 "ReelChanger" "room" "LReelChanger$Room;", Cond.fieldLink RX7 106 "ReelChanger$Room" "show" "LReelChanger$Show;", Cond.fieldLink RX7 110 "ReelChanger$Show" "running" "Z", Cond.fieldLink RX7 16 "ReelChanger" "trial" "LReelChanger$Room;", Cond.fieldLink RX7 35 "ReelChanger$Room" "stock" "LReelChanger$Stock;", Cond.methodLink RX7 188 yX7_sumStock, Cond.instanceMethod yX7_sumStock, Cond.selects RX7 yX7_sumStock yX7_sumStock, Cond.initialized RX7, Cond.code yX7_sumStock cX7_sumStock 7 (some .long), Cond.fieldLink RX7 93 "ReelChanger$Stock" "reelCount" "I", Cond.fieldLink RX7 131 "ReelChanger$Stock" "placeCount" "I", Cond.methodLink RX7 195 yX7_mix, Cond.static yX7_mix, Cond.code yX7_mix cX7_mix 4 (some .long), Cond.constantLong RX7 244 (31), Cond.methodLink RX7 199 yX7_sumReel, Cond.instanceMethod yX7_sumReel, Cond.selects RX7 yX7_sumReel yX7_sumReel, Cond.code yX7_sumReel cX7_sumReel 8 (some .long), Cond.methodLink RX7 209 yX7_reel, Cond.instanceMethod yX7_reel, Cond.selects RX7 yX7_reel yX7_reel]
def wsX7_checksum_r2 : List Cond := [Cond.code yX7_reel cX7_reel 4 (some .int), Cond.constant RX7 49 (-100001), Cond.fieldLink RX7 50 "ReelChanger$Reel" "length" "I", Cond.fieldLink RX7 63 "ReelChanger$Reel" "spliceCount" "I", Cond.constant RX7 34 (-100002), Cond.methodLink RX7 45 yX6_reelNumbered, Cond.instanceMethod yX6_reelNumbered, Cond.selects RX6 yX6_reelNumbered yX6_reelNumbered, Cond.initialized RX6, Cond.code yX6_reelNumbered cX6_reelNumbered 2 (some (.object "ReelChanger$Reel")), Cond.fieldLink RX6 34 "ReelChanger$Stock" "reelCount" "I", Cond.fieldLink RX6 13 "ReelChanger$Stock" "reels" "[LReelChanger$Reel;", Cond.methodLink RX7 66 yX3_leastStrength, Cond.instanceMethod yX3_leastStrength, Cond.selects RX3 yX3_leastStrength yX3_leastStrength, Cond.initialized RX3, Cond.code yX3_leastStrength cX3_leastStrength 3 (some .int), Cond.constant RX3 31 (-100005), Cond.fieldLink RX3 22 "ReelChanger$Reel" "spliceCount" "I", Cond.fieldLink RX3 15 "ReelChanger$Reel" "strengths" "[I", Cond.methodLink RX7 212 yX7_spliceAt, Cond.instanceMethod yX7_spliceAt, Cond.selects RX7 yX7_spliceAt yX7_spliceAt, Cond.code yX7_spliceAt cX7_spliceAt 5 (some .int)]
def wsX7_checksum_r3 : List Cond := [Cond.fieldLink RX7 74 "ReelChanger$Reel" "strengths" "[I", Cond.fieldLink RX7 78 "ReelChanger$Reel" "frames" "[I", Cond.methodLink RX7 70 yX3_hasSplice, Cond.instanceMethod yX3_hasSplice, Cond.selects RX3 yX3_hasSplice yX3_hasSplice, Cond.code yX3_hasSplice cX3_hasSplice 2 (some .boolean), Cond.methodLink RX7 203 yX6_settingNumbered, Cond.instanceMethod yX6_settingNumbered, Cond.selects RX6 yX6_settingNumbered yX6_settingNumbered, Cond.code yX6_settingNumbered cX6_settingNumbered 2 (some .int), Cond.fieldLink RX6 17 "ReelChanger$Stock" "settings" "[I", Cond.constant RX6 64 (-100001), Cond.methodLink RX7 206 yX7_program, Cond.instanceMethod yX7_program, Cond.selects RX7 yX7_program yX7_program, Cond.code yX7_program cX7_program 2 (some .int), Cond.methodLink RX7 128 yX6_numberAtPlace, Cond.instanceMethod yX6_numberAtPlace, Cond.selects RX6 yX6_numberAtPlace yX6_numberAtPlace, Cond.code yX6_numberAtPlace cX6_numberAtPlace 2 (some .int), Cond.fieldLink RX6 42 "ReelChanger$Stock" "placeCount" "I", Cond.fieldLink RX6 21 "ReelChanger$Stock" "places" "[I", Cond.methodLink RX7 192 yX7_sumShow, Cond.instanceMethod yX7_sumShow]
def wsX7_checksum_r4 : List Cond := [Cond.selects RX7 yX7_sumShow yX7_sumShow, Cond.code yX7_sumShow cX7_sumShow 7 (some .long), Cond.fieldLink RX7 164 "ReelChanger$Show" "operator" "LReelChanger$Operator;", Cond.methodLink RX7 216 yX7_tell, Cond.instanceMethod yX7_tell, Cond.selects RX7 yX7_tell yX7_tell, Cond.code yX7_tell cX7_tell 2 (some .int), Cond.methodLink RX7 142 yX5_count, Cond.instanceMethod yX5_count, Cond.selects RX5 yX5_count yX5_count, Cond.initialized RX5, Cond.code yX5_count cX5_count 2 (some .int), Cond.fieldLink RX5 28 "ReelChanger$Show" "running" "Z", Cond.fieldLink RX5 32 "ReelChanger$Show" "time" "I", Cond.fieldLink RX5 52 "ReelChanger$Show" "front" "I", Cond.fieldLink RX5 36 "ReelChanger$Show" "dark" "I", Cond.fieldLink RX5 39 "ReelChanger$Show" "missed" "I", Cond.fieldLink RX5 42 "ReelChanger$Show" "late" "I", Cond.fieldLink RX5 45 "ReelChanger$Show" "breaks" "I", Cond.fieldLink RX5 55 "ReelChanger$Show" "threaded" "I", Cond.fieldLink RX5 12 "ReelChanger$Show" "operator" "LReelChanger$Operator;", Cond.fieldLink RX5 64 "ReelChanger$Operator" "rowCount" "I", Cond.fieldLink RX5 67 "ReelChanger$Operator" "ticksLeft" "I", Cond.constant RX5 70 (-100001)]
def wsX7_checksum_r5 : List Cond := [Cond.methodLink RX7 219 yX7_projector, Cond.instanceMethod yX7_projector, Cond.selects RX7 yX7_projector yX7_projector, Cond.code yX7_projector cX7_projector 4 (some .int), Cond.fieldLink RX7 149 "ReelChanger$Projector" "state" "I", Cond.constant RX7 99 (-100005), Cond.fieldLink RX7 154 "ReelChanger$Projector" "place" "I", Cond.fieldLink RX7 161 "ReelChanger$Projector" "frame" "I", Cond.methodLink RX7 30 yX7_isWithin, Cond.static yX7_isWithin, Cond.code yX7_isWithin cX7_isWithin 3 (some .boolean), Cond.methodLink RX7 145 yX5_projectorNumbered, Cond.instanceMethod yX5_projectorNumbered, Cond.selects RX5 yX5_projectorNumbered yX5_projectorNumbered, Cond.code yX5_projectorNumbered cX5_projectorNumbered 2 (some (.object "ReelChanger$Projector")), Cond.fieldLink RX5 21 "ReelChanger$Show" "first" "LReelChanger$Projector;", Cond.fieldLink RX5 25 "ReelChanger$Show" "second" "LReelChanger$Projector;", Cond.methodLink RX7 157 yX2_isAtFrame, Cond.instanceMethod yX2_isAtFrame, Cond.selects RX2 yX2_isAtFrame yX2_isAtFrame, Cond.initialized RX2, Cond.code yX2_isAtFrame cX2_isAtFrame 1 (some .boolean), Cond.fieldLink RX2 9 "ReelChanger$Projector" "state" "I", Cond.methodLink RX7 168 yX0_hasTask]
def wsX7_checksum_r6 : List Cond := [Cond.instanceMethod yX0_hasTask, Cond.selects RX0 yX0_hasTask yX0_hasTask, Cond.initialized RX0, Cond.code yX0_hasTask cX0_hasTask 2 (some .boolean), Cond.fieldLink RX0 18 "ReelChanger$Operator" "ticksLeft" "I", Cond.fieldLink RX0 22 "ReelChanger$Operator" "rowCount" "I", Cond.methodLink RX7 222 yX7_task, Cond.instanceMethod yX7_task, Cond.selects RX7 yX7_task yX7_task, Cond.code yX7_task cX7_task 4 (some .int), Cond.methodLink RX7 173 yX0_kindOf, Cond.instanceMethod yX0_kindOf, Cond.selects RX0 yX0_kindOf yX0_kindOf, Cond.code yX0_kindOf cX0_kindOf 2 (some .int), Cond.constant RX0 41 (-100005), Cond.fieldLink RX0 25 "ReelChanger$Operator" "workKind" "I", Cond.fieldLink RX0 11 "ReelChanger$Operator" "kinds" "[I", Cond.methodLink RX0 37 yX0_hasTask, Cond.methodLink RX7 176 yX0_projectorOf, Cond.instanceMethod yX0_projectorOf, Cond.selects RX0 yX0_projectorOf yX0_projectorOf, Cond.code yX0_projectorOf cX0_projectorOf 2 (some .int), Cond.fieldLink RX0 28 "ReelChanger$Operator" "workProjector" "I", Cond.fieldLink RX0 15 "ReelChanger$Operator" "projectors" "[I"]
def wsX7_checksum_r7 : List Cond := [Cond.methodLink RX7 179 yX4_copyFrom, Cond.instanceMethod yX4_copyFrom, Cond.selects RX4 yX4_copyFrom yX4_copyFrom, Cond.initialized RX4, Cond.code yX4_copyFrom cX4_copyFrom 2 none, Cond.fieldLink RX4 10 "ReelChanger$Room" "stock" "LReelChanger$Stock;", Cond.fieldLink RX4 19 "ReelChanger$Room" "show" "LReelChanger$Show;", Cond.methodLink RX4 23 yX6_copyFrom, Cond.instanceMethod yX6_copyFrom, Cond.selects RX6 yX6_copyFrom yX6_copyFrom, Cond.code yX6_copyFrom cX6_copyFrom 4 none, Cond.methodLink RX6 28 arraycopyName, Cond.native arraycopyName, Cond.static arraycopyName, Cond.initialized "java/lang/System", Cond.methodLink RX6 38 yX3_copyFrom, Cond.instanceMethod yX3_copyFrom, Cond.selects RX3 yX3_copyFrom yX3_copyFrom, Cond.code yX3_copyFrom cX3_copyFrom 2 none, Cond.fieldLink RX3 18 "ReelChanger$Reel" "length" "I", Cond.fieldLink RX3 11 "ReelChanger$Reel" "frames" "[I", Cond.methodLink RX3 25 arraycopyName, Cond.methodLink RX6 45 yX6_takeProgram, Cond.instanceMethod yX6_takeProgram]
def wsX7_checksum_r8 : List Cond := [Cond.selects RX6 yX6_takeProgram yX6_takeProgram, Cond.code yX6_takeProgram cX6_takeProgram 4 none, Cond.methodLink RX6 73 Lib.Math.min.name, Cond.static Lib.Math.min.name, Cond.initialized "java/lang/Math", Cond.code Lib.Math.min.name Lib.Math.min.code 2 (some .int), Cond.methodLink RX4 27 yX5_copyFrom, Cond.instanceMethod yX5_copyFrom, Cond.selects RX5 yX5_copyFrom yX5_copyFrom, Cond.code yX5_copyFrom cX5_copyFrom 2 none, Cond.fieldLink RX5 58 "ReelChanger$Show" "ranOut" "Z", Cond.methodLink RX5 48 yX0_copyFrom, Cond.instanceMethod yX0_copyFrom, Cond.selects RX0 yX0_copyFrom yX0_copyFrom, Cond.code yX0_copyFrom cX0_copyFrom 2 none, Cond.methodLink RX0 31 arraycopyName, Cond.methodLink RX5 61 yX2_copyFrom, Cond.instanceMethod yX2_copyFrom, Cond.selects RX2 yX2_copyFrom yX2_copyFrom, Cond.code yX2_copyFrom cX2_copyFrom 2 none, Cond.fieldLink RX2 15 "ReelChanger$Projector" "place" "I", Cond.fieldLink RX2 18 "ReelChanger$Projector" "frame" "I", Cond.methodLink RX7 138 yX5_run, Cond.instanceMethod yX5_run]
def wsX7_checksum_r9 : List Cond := [Cond.selects RX5 yX5_run yX5_run, Cond.code yX5_run cX5_run 5 (some .int), Cond.fieldLink RX5 97 "ReelChanger$Projector" "place" "I", Cond.methodLink RX5 89 yX5_work, Cond.instanceMethod yX5_work, Cond.selects RX5 yX5_work yX5_work, Cond.code yX5_work cX5_work 2 none, Cond.methodLink RX5 128 yX0_isWorking, Cond.instanceMethod yX0_isWorking, Cond.selects RX0 yX0_isWorking yX0_isWorking, Cond.code yX0_isWorking cX0_isWorking 1 (some .boolean), Cond.methodLink RX5 132 yX5_finishTask, Cond.instanceMethod yX5_finishTask, Cond.selects RX5 yX5_finishTask yX5_finishTask, Cond.code yX5_finishTask cX5_finishTask 3 none, Cond.fieldLink RX5 155 "ReelChanger$Operator" "workProjector" "I", Cond.fieldLink RX5 158 "ReelChanger$Operator" "workKind" "I", Cond.fieldLink RX5 78 "ReelChanger$Projector" "state" "I", Cond.methodLink RX5 124 yX5_projectorNumbered, Cond.methodLink RX5 74 yX2_thread, Cond.instanceMethod yX2_thread, Cond.selects RX2 yX2_thread yX2_thread, Cond.code yX2_thread cX2_thread 2 none, Cond.methodLink RX5 161 yX5_finishRepair]
def wsX7_checksum_r10 : List Cond := [Cond.instanceMethod yX5_finishRepair, Cond.selects RX5 yX5_finishRepair yX5_finishRepair, Cond.code yX5_finishRepair cX5_finishRepair 5 none, Cond.fieldLink RX5 81 "ReelChanger$Projector" "frame" "I", Cond.fieldLink RX5 170 "ReelChanger$Reel" "length" "I", Cond.methodLink RX5 173 Lib.Math.min.name, Cond.methodLink RX5 100 yX6_reelAtPlace, Cond.instanceMethod yX6_reelAtPlace, Cond.selects RX6 yX6_reelAtPlace yX6_reelAtPlace, Cond.code yX6_reelAtPlace cX6_reelAtPlace 2 (some (.object "ReelChanger$Reel")), Cond.methodLink RX6 79 yX6_numberAtPlace, Cond.methodLink RX6 50 yX6_reelNumbered, Cond.methodLink RX5 165 yX3_repairAt, Cond.instanceMethod yX3_repairAt, Cond.selects RX3 yX3_repairAt yX3_repairAt, Cond.code yX3_repairAt cX3_repairAt 3 none, Cond.methodLink RX3 32 yX3_spliceOfFrame, Cond.instanceMethod yX3_spliceOfFrame, Cond.selects RX3 yX3_spliceOfFrame yX3_spliceOfFrame, Cond.code yX3_spliceOfFrame cX3_spliceOfFrame 3 (some .int), Cond.methodLink RX3 36 yX3_hasSplice, Cond.methodLink RX5 152 yX6_settingNumbered, Cond.methodLink RX5 135 yX5_ticksOfFirstTask, Cond.instanceMethod yX5_ticksOfFirstTask]
def wsX7_checksum_r11 : List Cond := [Cond.selects RX5 yX5_ticksOfFirstTask yX5_ticksOfFirstTask, Cond.code yX5_ticksOfFirstTask cX5_ticksOfFirstTask 2 (some .int), Cond.methodLink RX5 142 yX0_kindOf, Cond.methodLink RX5 146 yX0_projectorOf, Cond.methodLink RX5 149 yX6_clearingTime, Cond.instanceMethod yX6_clearingTime, Cond.selects RX6 yX6_clearingTime yX6_clearingTime, Cond.code yX6_clearingTime cX6_clearingTime 4 (some .int), Cond.fieldLink RX6 85 "ReelChanger$Reel" "length" "I", Cond.methodLink RX6 82 yX6_reelAtPlace, Cond.methodLink RX5 139 yX0_takeUp, Cond.instanceMethod yX0_takeUp, Cond.selects RX0 yX0_takeUp yX0_takeUp, Cond.code yX0_takeUp cX0_takeUp 2 none, Cond.methodLink RX5 93 yX5_frontProjector, Cond.instanceMethod yX5_frontProjector, Cond.selects RX5 yX5_frontProjector yX5_frontProjector, Cond.code yX5_frontProjector cX5_frontProjector 1 (some (.object "ReelChanger$Projector")), Cond.methodLink RX5 104 yX5_startBack, Cond.instanceMethod yX5_startBack, Cond.selects RX5 yX5_startBack yX5_startBack, Cond.code yX5_startBack cX5_startBack 5 none, Cond.methodLink RX5 179 yX5_backProjector, Cond.instanceMethod yX5_backProjector]
def wsX7_checksum_r12 : List Cond := [Cond.selects RX5 yX5_backProjector yX5_backProjector, Cond.code yX5_backProjector cX5_backProjector 1 (some (.object "ReelChanger$Projector")), Cond.methodLink RX5 182 yX5_framesBehindMark, Cond.instanceMethod yX5_framesBehindMark, Cond.selects RX5 yX5_framesBehindMark yX5_framesBehindMark, Cond.code yX5_framesBehindMark cX5_framesBehindMark 3 (some .int), Cond.methodLink RX5 186 yX2_start, Cond.instanceMethod yX2_start, Cond.selects RX2 yX2_start yX2_start, Cond.code yX2_start cX2_start 2 none, Cond.methodLink RX5 108 yX5_goOn, Cond.static yX5_goOn, Cond.code yX5_goOn cX5_goOn 1 none, Cond.methodLink RX5 189 yX2_isMoving, Cond.instanceMethod yX2_isMoving, Cond.selects RX2 yX2_isMoving yX2_isMoving, Cond.code yX2_isMoving cX2_isMoving 1 (some .boolean), Cond.methodLink RX5 111 yX5_wearSplice, Cond.instanceMethod yX5_wearSplice, Cond.selects RX5 yX5_wearSplice yX5_wearSplice, Cond.code yX5_wearSplice cX5_wearSplice 3 none, Cond.methodLink RX5 192 yX3_breaksAt, Cond.instanceMethod yX3_breaksAt, Cond.selects RX3 yX3_breaksAt yX3_breaksAt]
def wsX7_checksum_r13 : List Cond := [Cond.code yX3_breaksAt cX3_breaksAt 3 (some .boolean), Cond.methodLink RX3 41 Lib.Math.max.name, Cond.static Lib.Math.max.name, Cond.code Lib.Math.max.name Lib.Math.max.code 2 (some .int), Cond.methodLink RX5 196 yX0_addFirst, Cond.instanceMethod yX0_addFirst, Cond.selects RX0 yX0_addFirst yX0_addFirst, Cond.code yX0_addFirst cX0_addFirst 3 none, Cond.methodLink RX5 115 yX5_runOut, Cond.instanceMethod yX5_runOut, Cond.selects RX5 yX5_runOut yX5_runOut, Cond.code yX5_runOut cX5_runOut 6 none, Cond.fieldLink RX5 84 "ReelChanger$Stock" "placeCount" "I", Cond.methodLink RX5 200 yX5_orderNextReel, Cond.instanceMethod yX5_orderNextReel, Cond.selects RX5 yX5_orderNextReel yX5_orderNextReel, Cond.code yX5_orderNextReel cX5_orderNextReel 2 none, Cond.methodLink RX5 203 yX0_addLast, Cond.instanceMethod yX0_addLast, Cond.selects RX0 yX0_addLast yX0_addLast, Cond.code yX0_addLast cX0_addLast 3 none, Cond.methodLink RX5 206 yX0_threadTasks, Cond.instanceMethod yX0_threadTasks, Cond.selects RX0 yX0_threadTasks yX0_threadTasks]
def wsX7_checksum_r14 : List Cond := [Cond.code yX0_threadTasks cX0_threadTasks 3 (some .int), Cond.methodLink RX0 42 yX0_kindOf, Cond.methodLink RX5 118 yX5_changeOver, Cond.instanceMethod yX5_changeOver, Cond.selects RX5 yX5_changeOver yX5_changeOver, Cond.code yX5_changeOver cX5_changeOver 2 none, Cond.methodLink RX5 121 yX5_countTick, Cond.instanceMethod yX5_countTick, Cond.selects RX5 yX5_countTick yX5_countTick, Cond.code yX5_countTick cX5_countTick 1 none, Cond.methodLink RX7 183 yX7_foretold, Cond.instanceMethod yX7_foretold, Cond.selects RX7 yX7_foretold yX7_foretold, Cond.code yX7_foretold cX7_foretold 3 (some .int), Cond.fieldLink RX7 225 "ReelChanger$Show" "time" "I", Cond.fieldLink RX7 228 "ReelChanger$Show" "dark" "I", Cond.fieldLink RX7 231 "ReelChanger$Show" "missed" "I", Cond.fieldLink RX7 234 "ReelChanger$Show" "late" "I", Cond.fieldLink RX7 237 "ReelChanger$Show" "breaks" "I"]
def wsX7_checksum : List Cond := .code yX7_checksum cX7_checksum 3 (some .long) :: ((wsX7_checksum_r1 ++ (wsX7_checksum_r2 ++ (wsX7_checksum_r3 ++ (wsX7_checksum_r4 ++ (wsX7_checksum_r5 ++ (wsX7_checksum_r6 ++ (wsX7_checksum_r7 ++ (wsX7_checksum_r8 ++ (wsX7_checksum_r9 ++ (wsX7_checksum_r10 ++ (wsX7_checksum_r11 ++ (wsX7_checksum_r12 ++ (wsX7_checksum_r13 ++ wsX7_checksum_r14))))))))))))) ++ wsX70 ++ wsX40 ++ wsX50 ++ wsX60 ++ wsX30 ++ wsX00 ++ wsX20)
def wsX8_init : List Cond := .code yX8_init cX8_init 2 none :: ([.methodLink RX8 1 objectInit, .instanceMethod objectInit, .code objectInit ⟨#[0xb1]⟩ 1 none, .arrayClass .int, .fieldLink RX8 7 "ReelChangerModel" "v" "[I", .fieldLink RX8 13 "ReelChangerModel" "spare" "[I", .fieldLink RX8 16 "ReelChangerModel" "kept" "[I", .arrayClass .boolean, .fieldLink RX8 19 "ReelChangerModel" "isKept" "[Z", .fieldLink RX8 23 "ReelChangerModel" "lows" "[I", .fieldLink RX8 26 "ReelChangerModel" "highs" "[I", .fieldLink RX8 29 "ReelChangerModel" "firsts" "[I", .fieldLink RX8 32 "ReelChangerModel" "text" "[I", .fieldLink RX8 35 "ReelChangerModel" "isFilled" "[Z", .fieldLink RX8 38 "ReelChangerModel" "begins" "[I", .fieldLink RX8 41 "ReelChangerModel" "times" "[I", .fieldLink RX8 44 "ReelChangerModel" "told" "[I"] ++ wsX80)
def wsX8_in : List Cond := .code yX8_in cX8_in 3 (some .boolean) :: ([])
def wsX8_at : List Cond := .code yX8_at cX8_at 2 (some .int) :: ([])
def wsX8_isReel : List Cond := .code yX8_isReel cX8_isReel 2 (some .boolean) :: ([.fieldLink RX8 7 "ReelChangerModel" "v" "[I", .methodLink RX8 47 yX8_in, .static yX8_in, .initialized RX8, .code yX8_in cX8_in 3 (some .boolean)] ++ wsX80)
def wsX8_puts : List Cond := .code yX8_puts cX8_puts 4 (some .int) :: ([.fieldLink RX8 7 "ReelChangerModel" "v" "[I"] ++ wsX80)
def wsX8_makeReel : List Cond := .code yX8_makeReel cX8_makeReel 3 (some .int) :: ([.constant RX8 51 (-100002), .fieldLink RX8 7 "ReelChangerModel" "v" "[I", .constant RX8 52 (-100004), .methodLink RX8 47 yX8_in, .static yX8_in, .initialized RX8, .code yX8_in cX8_in 3 (some .boolean), .methodLink RX8 53 yX8_at, .static yX8_at, .code yX8_at cX8_at 2 (some .int)] ++ wsX80)
def wsX8_spliceFrom : List Cond := .code yX8_spliceFrom cX8_spliceFrom 4 (some .int) :: ([.fieldLink RX8 7 "ReelChangerModel" "v" "[I", .methodLink RX8 53 yX8_at, .static yX8_at, .initialized RX8, .code yX8_at cX8_at 2 (some .int)] ++ wsX80)
def wsX8_strengthAt : List Cond := .code yX8_strengthAt cX8_strengthAt 4 (some .int) :: ([.fieldLink RX8 7 "ReelChangerModel" "v" "[I", .methodLink RX8 57 yX8_spliceFrom, .instanceMethod yX8_spliceFrom, .selects RX8 yX8_spliceFrom yX8_spliceFrom, .initialized RX8, .code yX8_spliceFrom cX8_spliceFrom 4 (some .int), .methodLink RX8 53 yX8_at, .static yX8_at, .code yX8_at cX8_at 2 (some .int)] ++ wsX80)
def wsX8_splice : List Cond := .code yX8_splice cX8_splice 7 (some .int) :: ([.constant RX8 64 (-100001), .fieldLink RX8 7 "ReelChangerModel" "v" "[I", .constant RX8 51 (-100002), .constant RX8 52 (-100004), .methodLink RX8 60 yX8_isReel, .instanceMethod yX8_isReel, .selects RX8 yX8_isReel yX8_isReel, .initialized RX8, .code yX8_isReel cX8_isReel 2 (some .boolean), .methodLink RX8 47 yX8_in, .static yX8_in, .code yX8_in cX8_in 3 (some .boolean), .methodLink RX8 53 yX8_at, .static yX8_at, .code yX8_at cX8_at 2 (some .int), .methodLink RX8 57 yX8_spliceFrom, .instanceMethod yX8_spliceFrom, .selects RX8 yX8_spliceFrom yX8_spliceFrom, .code yX8_spliceFrom cX8_spliceFrom 4 (some .int), .methodLink RX8 65 yX8_strengthAt, .instanceMethod yX8_strengthAt, .selects RX8 yX8_strengthAt yX8_strengthAt, .code yX8_strengthAt cX8_strengthAt 4 (some .int)] ++ wsX80)
def wsX8_mend : List Cond := .code yX8_mend cX8_mend 6 (some .int) :: ([.constant RX8 64 (-100001), .constant RX8 51 (-100002), .fieldLink RX8 7 "ReelChangerModel" "v" "[I", .methodLink RX8 60 yX8_isReel, .instanceMethod yX8_isReel, .selects RX8 yX8_isReel yX8_isReel, .initialized RX8, .code yX8_isReel cX8_isReel 2 (some .boolean), .methodLink RX8 47 yX8_in, .static yX8_in, .code yX8_in cX8_in 3 (some .boolean), .methodLink RX8 53 yX8_at, .static yX8_at, .code yX8_at cX8_at 2 (some .int)] ++ wsX80)
def wsX8_weakest : List Cond := .code yX8_weakest cX8_weakest 5 (some .int) :: ([.constant RX8 68 (-100005), .fieldLink RX8 7 "ReelChangerModel" "v" "[I", .methodLink RX8 53 yX8_at, .static yX8_at, .initialized RX8, .code yX8_at cX8_at 2 (some .int)] ++ wsX80)
def wsX8_reel : List Cond := .code yX8_reel cX8_reel 3 (some .int) :: ([.constant RX8 64 (-100001), .constant RX8 51 (-100002), .fieldLink RX8 7 "ReelChangerModel" "v" "[I", .methodLink RX8 60 yX8_isReel, .instanceMethod yX8_isReel, .selects RX8 yX8_isReel yX8_isReel, .initialized RX8, .code yX8_isReel cX8_isReel 2 (some .boolean), .methodLink RX8 47 yX8_in, .static yX8_in, .code yX8_in cX8_in 3 (some .boolean), .methodLink RX8 53 yX8_at, .static yX8_at, .code yX8_at cX8_at 2 (some .int), .methodLink RX8 69 yX8_weakest, .instanceMethod yX8_weakest, .selects RX8 yX8_weakest yX8_weakest, .code yX8_weakest cX8_weakest 5 (some .int), .constant RX8 68 (-100005)] ++ wsX80)
def wsX8_spliceAt : List Cond := .code yX8_spliceAt cX8_spliceAt 4 (some .int) :: ([.fieldLink RX8 7 "ReelChangerModel" "v" "[I", .constant RX8 64 (-100001), .methodLink RX8 60 yX8_isReel, .instanceMethod yX8_isReel, .selects RX8 yX8_isReel yX8_isReel, .initialized RX8, .code yX8_isReel cX8_isReel 2 (some .boolean), .methodLink RX8 47 yX8_in, .static yX8_in, .code yX8_in cX8_in 3 (some .boolean), .methodLink RX8 53 yX8_at, .static yX8_at, .code yX8_at cX8_at 2 (some .int)] ++ wsX80)
def wsX8_set : List Cond := .code yX8_set cX8_set 3 (some .int) :: ([.constant RX8 64 (-100001), .fieldLink RX8 23 "ReelChangerModel" "lows" "[I", .fieldLink RX8 26 "ReelChangerModel" "highs" "[I", .constant RX8 51 (-100002), .methodLink RX8 47 yX8_in, .static yX8_in, .initialized RX8, .code yX8_in cX8_in 3 (some .boolean), .methodLink RX8 73 yX8_puts, .instanceMethod yX8_puts, .selects RX8 yX8_puts yX8_puts, .code yX8_puts cX8_puts 4 (some .int), .fieldLink RX8 7 "ReelChangerModel" "v" "[I"] ++ wsX80)
def wsX8_append : List Cond := .code yX8_append cX8_append 2 (some .int) :: ([.constant RX8 51 (-100002), .fieldLink RX8 76 "ReelChangerModel" "length" "I", .constant RX8 52 (-100004), .fieldLink RX8 32 "ReelChangerModel" "text" "[I", .methodLink RX8 47 yX8_in, .static yX8_in, .initialized RX8, .code yX8_in cX8_in 3 (some .boolean)] ++ wsX80)
def wsX8_clearText : List Cond := .code yX8_clearText cX8_clearText 2 (some .int) :: ([.fieldLink RX8 76 "ReelChangerModel" "length" "I"] ++ wsX80)
def wsX8_here : List Cond := .code yX8_here cX8_here 1 (some .int) :: ([.fieldLink RX8 80 "ReelChangerModel" "place" "I", .fieldLink RX8 76 "ReelChangerModel" "length" "I", .fieldLink RX8 32 "ReelChangerModel" "text" "[I"] ++ wsX80)
def wsX8_isSigned : List Cond := .code yX8_isSigned cX8_isSigned 2 (some .boolean) :: ([.fieldLink RX8 80 "ReelChangerModel" "place" "I", .methodLink RX8 83 yX8_here, .instanceMethod yX8_here, .selects RX8 yX8_here yX8_here, .initialized RX8, .code yX8_here cX8_here 1 (some .int), .fieldLink RX8 76 "ReelChangerModel" "length" "I", .fieldLink RX8 32 "ReelChangerModel" "text" "[I", .methodLink RX8 47 yX8_in, .static yX8_in, .code yX8_in cX8_in 3 (some .boolean)] ++ wsX80)
def wsX8_isPart : List Cond := .code yX8_isPart cX8_isPart 2 (some .boolean) :: ([.fieldLink RX8 87 "ReelChangerModel" "depth" "I", .fieldLink RX8 35 "ReelChangerModel" "isFilled" "[Z", .fieldLink RX8 80 "ReelChangerModel" "place" "I", .methodLink RX8 83 yX8_here, .instanceMethod yX8_here, .selects RX8 yX8_here yX8_here, .initialized RX8, .code yX8_here cX8_here 1 (some .int), .fieldLink RX8 76 "ReelChangerModel" "length" "I", .fieldLink RX8 32 "ReelChangerModel" "text" "[I", .methodLink RX8 90 yX8_isSigned, .instanceMethod yX8_isSigned, .selects RX8 yX8_isSigned yX8_isSigned, .code yX8_isSigned cX8_isSigned 2 (some .boolean), .methodLink RX8 47 yX8_in, .static yX8_in, .code yX8_in cX8_in 3 (some .boolean), .methodLink RX8 60 yX8_isReel, .instanceMethod yX8_isReel, .selects RX8 yX8_isReel yX8_isReel, .code yX8_isReel cX8_isReel 2 (some .boolean), .fieldLink RX8 7 "ReelChangerModel" "v" "[I"] ++ wsX80)
def wsX8_isText_r1 : List Cond := [Cond.fieldLink RX8 80 "ReelChangerModel" "place" "I", Cond.fieldLink RX8 87 "ReelChangerModel" "depth" "I", Cond.fieldLink RX8 76 "ReelChangerModel" "length" "I", Cond.methodLink RX8 94 yX8_isPart, Cond.instanceMethod yX8_isPart, Cond.selects RX8 yX8_isPart yX8_isPart, Cond.initialized RX8, Cond.code yX8_isPart cX8_isPart 2 (some .boolean), Cond.fieldLink RX8 35 "ReelChangerModel" "isFilled" "[Z", Cond.methodLink RX8 83 yX8_here, Cond.instanceMethod yX8_here, Cond.selects RX8 yX8_here yX8_here, Cond.code yX8_here cX8_here 1 (some .int), Cond.fieldLink RX8 32 "ReelChangerModel" "text" "[I", Cond.methodLink RX8 90 yX8_isSigned, Cond.instanceMethod yX8_isSigned, Cond.selects RX8 yX8_isSigned yX8_isSigned, Cond.code yX8_isSigned cX8_isSigned 2 (some .boolean), Cond.methodLink RX8 47 yX8_in, Cond.static yX8_in, Cond.code yX8_in cX8_in 3 (some .boolean), Cond.methodLink RX8 60 yX8_isReel, Cond.instanceMethod yX8_isReel, Cond.selects RX8 yX8_isReel yX8_isReel]
def wsX8_isText_r2 : List Cond := [Cond.code yX8_isReel cX8_isReel 2 (some .boolean), Cond.fieldLink RX8 7 "ReelChangerModel" "v" "[I"]
def wsX8_isText : List Cond := .code yX8_isText cX8_isText 2 (some .boolean) :: ((wsX8_isText_r1 ++ wsX8_isText_r2) ++ wsX80)
def wsX8_faultPosition_r1 : List Cond := [Cond.constant RX8 68 (-100005), Cond.fieldLink RX8 80 "ReelChangerModel" "place" "I", Cond.methodLink RX8 97 yX8_isText, Cond.instanceMethod yX8_isText, Cond.selects RX8 yX8_isText yX8_isText, Cond.initialized RX8, Cond.code yX8_isText cX8_isText 2 (some .boolean), Cond.fieldLink RX8 87 "ReelChangerModel" "depth" "I", Cond.fieldLink RX8 76 "ReelChangerModel" "length" "I", Cond.methodLink RX8 94 yX8_isPart, Cond.instanceMethod yX8_isPart, Cond.selects RX8 yX8_isPart yX8_isPart, Cond.code yX8_isPart cX8_isPart 2 (some .boolean), Cond.fieldLink RX8 35 "ReelChangerModel" "isFilled" "[Z", Cond.methodLink RX8 83 yX8_here, Cond.instanceMethod yX8_here, Cond.selects RX8 yX8_here yX8_here, Cond.code yX8_here cX8_here 1 (some .int), Cond.fieldLink RX8 32 "ReelChangerModel" "text" "[I", Cond.methodLink RX8 90 yX8_isSigned, Cond.instanceMethod yX8_isSigned, Cond.selects RX8 yX8_isSigned yX8_isSigned, Cond.code yX8_isSigned cX8_isSigned 2 (some .boolean), Cond.methodLink RX8 47 yX8_in]
def wsX8_faultPosition_r2 : List Cond := [Cond.static yX8_in, Cond.code yX8_in cX8_in 3 (some .boolean), Cond.methodLink RX8 60 yX8_isReel, Cond.instanceMethod yX8_isReel, Cond.selects RX8 yX8_isReel yX8_isReel, Cond.code yX8_isReel cX8_isReel 2 (some .boolean), Cond.fieldLink RX8 7 "ReelChangerModel" "v" "[I"]
def wsX8_faultPosition : List Cond := .code yX8_faultPosition cX8_faultPosition 1 (some .int) :: ((wsX8_faultPosition_r1 ++ wsX8_faultPosition_r2) ++ wsX80)
def wsX8_faultDepth_r1 : List Cond := [Cond.constant RX8 68 (-100005), Cond.fieldLink RX8 87 "ReelChangerModel" "depth" "I", Cond.methodLink RX8 97 yX8_isText, Cond.instanceMethod yX8_isText, Cond.selects RX8 yX8_isText yX8_isText, Cond.initialized RX8, Cond.code yX8_isText cX8_isText 2 (some .boolean), Cond.fieldLink RX8 80 "ReelChangerModel" "place" "I", Cond.fieldLink RX8 76 "ReelChangerModel" "length" "I", Cond.methodLink RX8 94 yX8_isPart, Cond.instanceMethod yX8_isPart, Cond.selects RX8 yX8_isPart yX8_isPart, Cond.code yX8_isPart cX8_isPart 2 (some .boolean), Cond.fieldLink RX8 35 "ReelChangerModel" "isFilled" "[Z", Cond.methodLink RX8 83 yX8_here, Cond.instanceMethod yX8_here, Cond.selects RX8 yX8_here yX8_here, Cond.code yX8_here cX8_here 1 (some .int), Cond.fieldLink RX8 32 "ReelChangerModel" "text" "[I", Cond.methodLink RX8 90 yX8_isSigned, Cond.instanceMethod yX8_isSigned, Cond.selects RX8 yX8_isSigned yX8_isSigned, Cond.code yX8_isSigned cX8_isSigned 2 (some .boolean), Cond.methodLink RX8 47 yX8_in]
def wsX8_faultDepth_r2 : List Cond := [Cond.static yX8_in, Cond.code yX8_in cX8_in 3 (some .boolean), Cond.methodLink RX8 60 yX8_isReel, Cond.instanceMethod yX8_isReel, Cond.selects RX8 yX8_isReel yX8_isReel, Cond.code yX8_isReel cX8_isReel 2 (some .boolean), Cond.fieldLink RX8 7 "ReelChangerModel" "v" "[I"]
def wsX8_faultDepth : List Cond := .code yX8_faultDepth cX8_faultDepth 1 (some .int) :: ((wsX8_faultDepth_r1 ++ wsX8_faultDepth_r2) ++ wsX80)
def wsX8_tells : List Cond := .code yX8_tells cX8_tells 6 (some .int) :: ([.fieldLink RX8 87 "ReelChangerModel" "depth" "I", .fieldLink RX8 80 "ReelChangerModel" "place" "I", .fieldLink RX8 76 "ReelChangerModel" "length" "I", .fieldLink RX8 32 "ReelChangerModel" "text" "[I", .fieldLink RX8 38 "ReelChangerModel" "begins" "[I", .fieldLink RX8 41 "ReelChangerModel" "times" "[I", .fieldLink RX8 44 "ReelChangerModel" "told" "[I", .methodLink RX8 83 yX8_here, .instanceMethod yX8_here, .selects RX8 yX8_here yX8_here, .initialized RX8, .code yX8_here cX8_here 1 (some .int)] ++ wsX80)
def wsX8_isRunning : List Cond := .code yX8_isRunning cX8_isRunning 1 (some .boolean) :: ([.fieldLink RX8 7 "ReelChangerModel" "v" "[I"] ++ wsX80)
def wsX8_setProgram_r1 : List Cond := [Cond.constant RX8 103 (-100003), Cond.constant RX8 52 (-100004), Cond.fieldLink RX8 7 "ReelChangerModel" "v" "[I", Cond.fieldLink RX8 44 "ReelChangerModel" "told" "[I", Cond.methodLink RX8 97 yX8_isText, Cond.instanceMethod yX8_isText, Cond.selects RX8 yX8_isText yX8_isText, Cond.initialized RX8, Cond.code yX8_isText cX8_isText 2 (some .boolean), Cond.fieldLink RX8 80 "ReelChangerModel" "place" "I", Cond.fieldLink RX8 87 "ReelChangerModel" "depth" "I", Cond.fieldLink RX8 76 "ReelChangerModel" "length" "I", Cond.methodLink RX8 94 yX8_isPart, Cond.instanceMethod yX8_isPart, Cond.selects RX8 yX8_isPart yX8_isPart, Cond.code yX8_isPart cX8_isPart 2 (some .boolean), Cond.fieldLink RX8 35 "ReelChangerModel" "isFilled" "[Z", Cond.methodLink RX8 83 yX8_here, Cond.instanceMethod yX8_here, Cond.selects RX8 yX8_here yX8_here, Cond.code yX8_here cX8_here 1 (some .int), Cond.fieldLink RX8 32 "ReelChangerModel" "text" "[I", Cond.methodLink RX8 90 yX8_isSigned, Cond.instanceMethod yX8_isSigned]
def wsX8_setProgram_r2 : List Cond := [Cond.selects RX8 yX8_isSigned yX8_isSigned, Cond.code yX8_isSigned cX8_isSigned 2 (some .boolean), Cond.methodLink RX8 47 yX8_in, Cond.static yX8_in, Cond.code yX8_in cX8_in 3 (some .boolean), Cond.methodLink RX8 60 yX8_isReel, Cond.instanceMethod yX8_isReel, Cond.selects RX8 yX8_isReel yX8_isReel, Cond.code yX8_isReel cX8_isReel 2 (some .boolean), Cond.methodLink RX8 100 yX8_isRunning, Cond.instanceMethod yX8_isRunning, Cond.selects RX8 yX8_isRunning yX8_isRunning, Cond.code yX8_isRunning cX8_isRunning 1 (some .boolean), Cond.methodLink RX8 104 yX8_tells, Cond.instanceMethod yX8_tells, Cond.selects RX8 yX8_tells yX8_tells, Cond.code yX8_tells cX8_tells 6 (some .int), Cond.fieldLink RX8 38 "ReelChangerModel" "begins" "[I", Cond.fieldLink RX8 41 "ReelChangerModel" "times" "[I"]
def wsX8_setProgram : List Cond := .code yX8_setProgram cX8_setProgram 3 (some .int) :: ((wsX8_setProgram_r1 ++ wsX8_setProgram_r2) ++ wsX80)
def wsX8_program : List Cond := .code yX8_program cX8_program 2 (some .int) :: ([.fieldLink RX8 7 "ReelChangerModel" "v" "[I", .constant RX8 64 (-100001), .methodLink RX8 47 yX8_in, .static yX8_in, .initialized RX8, .code yX8_in cX8_in 3 (some .boolean)] ++ wsX80)
def wsX8_on : List Cond := .code yX8_on cX8_on 2 (some .int) :: ([])
def wsX8_reelOn : List Cond := .code yX8_reelOn cX8_reelOn 2 (some .int) :: ([.fieldLink RX8 7 "ReelChangerModel" "v" "[I", .methodLink RX8 107 yX8_on, .static yX8_on, .initialized RX8, .code yX8_on cX8_on 2 (some .int)] ++ wsX80)
def wsX8_lengthOn : List Cond := .code yX8_lengthOn cX8_lengthOn 2 (some .int) :: ([.fieldLink RX8 7 "ReelChangerModel" "v" "[I", .methodLink RX8 110 yX8_reelOn, .instanceMethod yX8_reelOn, .selects RX8 yX8_reelOn yX8_reelOn, .initialized RX8, .code yX8_reelOn cX8_reelOn 2 (some .int), .methodLink RX8 107 yX8_on, .static yX8_on, .code yX8_on cX8_on 2 (some .int), .methodLink RX8 53 yX8_at, .static yX8_at, .code yX8_at cX8_at 2 (some .int)] ++ wsX80)
def wsX8_comes : List Cond := .code yX8_comes cX8_comes 2 none :: ([.fieldLink RX8 7 "ReelChangerModel" "v" "[I", .methodLink RX8 107 yX8_on, .static yX8_on, .initialized RX8, .code yX8_on cX8_on 2 (some .int)] ++ wsX80)
def wsX8_opens : List Cond := .code yX8_opens cX8_opens 2 none :: ([.fieldLink RX8 7 "ReelChangerModel" "v" "[I", .methodLink RX8 113 yX8_comes, .instanceMethod yX8_comes, .selects RX8 yX8_comes yX8_comes, .initialized RX8, .code yX8_comes cX8_comes 2 none, .methodLink RX8 107 yX8_on, .static yX8_on, .code yX8_on cX8_on 2 (some .int)] ++ wsX80)
def wsX8_begin : List Cond := .code yX8_begin cX8_begin 1 (some .int) :: ([.fieldLink RX8 7 "ReelChangerModel" "v" "[I", .constant RX8 103 (-100003), .methodLink RX8 117 yX8_opens, .instanceMethod yX8_opens, .selects RX8 yX8_opens yX8_opens, .initialized RX8, .code yX8_opens cX8_opens 2 none, .methodLink RX8 113 yX8_comes, .instanceMethod yX8_comes, .selects RX8 yX8_comes yX8_comes, .code yX8_comes cX8_comes 2 none, .methodLink RX8 107 yX8_on, .static yX8_on, .code yX8_on cX8_on 2 (some .int)] ++ wsX80)
def wsX8_ticksFor : List Cond := .code yX8_ticksFor cX8_ticksFor 3 (some .int) :: ([.fieldLink RX8 7 "ReelChangerModel" "v" "[I", .methodLink RX8 120 yX8_lengthOn, .instanceMethod yX8_lengthOn, .selects RX8 yX8_lengthOn yX8_lengthOn, .initialized RX8, .code yX8_lengthOn cX8_lengthOn 2 (some .int), .methodLink RX8 110 yX8_reelOn, .instanceMethod yX8_reelOn, .selects RX8 yX8_reelOn yX8_reelOn, .code yX8_reelOn cX8_reelOn 2 (some .int), .methodLink RX8 107 yX8_on, .static yX8_on, .code yX8_on cX8_on 2 (some .int), .methodLink RX8 53 yX8_at, .static yX8_at, .code yX8_at cX8_at 2 (some .int)] ++ wsX80)
def wsX8_finishes_r1 : List Cond := [Cond.fieldLink RX8 7 "ReelChangerModel" "v" "[I", Cond.methodLink RX8 107 yX8_on, Cond.static yX8_on, Cond.initialized RX8, Cond.code yX8_on cX8_on 2 (some .int), Cond.methodLink RX8 113 yX8_comes, Cond.instanceMethod yX8_comes, Cond.selects RX8 yX8_comes yX8_comes, Cond.code yX8_comes cX8_comes 2 none, Cond.methodLink RX8 120 yX8_lengthOn, Cond.instanceMethod yX8_lengthOn, Cond.selects RX8 yX8_lengthOn yX8_lengthOn, Cond.code yX8_lengthOn cX8_lengthOn 2 (some .int), Cond.methodLink RX8 110 yX8_reelOn, Cond.instanceMethod yX8_reelOn, Cond.selects RX8 yX8_reelOn yX8_reelOn, Cond.code yX8_reelOn cX8_reelOn 2 (some .int), Cond.methodLink RX8 53 yX8_at, Cond.static yX8_at, Cond.code yX8_at cX8_at 2 (some .int), Cond.methodLink RX8 65 yX8_strengthAt, Cond.instanceMethod yX8_strengthAt, Cond.selects RX8 yX8_strengthAt yX8_strengthAt, Cond.code yX8_strengthAt cX8_strengthAt 4 (some .int)]
def wsX8_finishes_r2 : List Cond := [Cond.methodLink RX8 57 yX8_spliceFrom, Cond.instanceMethod yX8_spliceFrom, Cond.selects RX8 yX8_spliceFrom yX8_spliceFrom, Cond.code yX8_spliceFrom cX8_spliceFrom 4 (some .int)]
def wsX8_finishes : List Cond := .code yX8_finishes cX8_finishes 5 none :: ((wsX8_finishes_r1 ++ wsX8_finishes_r2) ++ wsX80)
def wsX8_works_r1 : List Cond := [Cond.fieldLink RX8 7 "ReelChangerModel" "v" "[I", Cond.methodLink RX8 123 yX8_finishes, Cond.instanceMethod yX8_finishes, Cond.selects RX8 yX8_finishes yX8_finishes, Cond.initialized RX8, Cond.code yX8_finishes cX8_finishes 5 none, Cond.methodLink RX8 107 yX8_on, Cond.static yX8_on, Cond.code yX8_on cX8_on 2 (some .int), Cond.methodLink RX8 113 yX8_comes, Cond.instanceMethod yX8_comes, Cond.selects RX8 yX8_comes yX8_comes, Cond.code yX8_comes cX8_comes 2 none, Cond.methodLink RX8 120 yX8_lengthOn, Cond.instanceMethod yX8_lengthOn, Cond.selects RX8 yX8_lengthOn yX8_lengthOn, Cond.code yX8_lengthOn cX8_lengthOn 2 (some .int), Cond.methodLink RX8 110 yX8_reelOn, Cond.instanceMethod yX8_reelOn, Cond.selects RX8 yX8_reelOn yX8_reelOn, Cond.code yX8_reelOn cX8_reelOn 2 (some .int), Cond.methodLink RX8 53 yX8_at, Cond.static yX8_at, Cond.code yX8_at cX8_at 2 (some .int)]
def wsX8_works_r2 : List Cond := [Cond.methodLink RX8 65 yX8_strengthAt, Cond.instanceMethod yX8_strengthAt, Cond.selects RX8 yX8_strengthAt yX8_strengthAt, Cond.code yX8_strengthAt cX8_strengthAt 4 (some .int), Cond.methodLink RX8 57 yX8_spliceFrom, Cond.instanceMethod yX8_spliceFrom, Cond.selects RX8 yX8_spliceFrom yX8_spliceFrom, Cond.code yX8_spliceFrom cX8_spliceFrom 4 (some .int), Cond.methodLink RX8 126 yX8_ticksFor, Cond.instanceMethod yX8_ticksFor, Cond.selects RX8 yX8_ticksFor yX8_ticksFor, Cond.code yX8_ticksFor cX8_ticksFor 3 (some .int)]
def wsX8_works : List Cond := .code yX8_works cX8_works 2 none :: ((wsX8_works_r1 ++ wsX8_works_r2) ++ wsX80)
def wsX8_adds : List Cond := .code yX8_adds cX8_adds 2 none :: ([.fieldLink RX8 7 "ReelChangerModel" "v" "[I"] ++ wsX80)
def wsX8_starts : List Cond := .code yX8_starts cX8_starts 6 none :: ([.fieldLink RX8 7 "ReelChangerModel" "v" "[I", .methodLink RX8 107 yX8_on, .static yX8_on, .initialized RX8, .code yX8_on cX8_on 2 (some .int), .methodLink RX8 120 yX8_lengthOn, .instanceMethod yX8_lengthOn, .selects RX8 yX8_lengthOn yX8_lengthOn, .code yX8_lengthOn cX8_lengthOn 2 (some .int), .methodLink RX8 110 yX8_reelOn, .instanceMethod yX8_reelOn, .selects RX8 yX8_reelOn yX8_reelOn, .code yX8_reelOn cX8_reelOn 2 (some .int), .methodLink RX8 53 yX8_at, .static yX8_at, .code yX8_at cX8_at 2 (some .int)] ++ wsX80)
def wsX8_goes : List Cond := .code yX8_goes cX8_goes 2 none :: ([.fieldLink RX8 7 "ReelChangerModel" "v" "[I", .methodLink RX8 107 yX8_on, .static yX8_on, .initialized RX8, .code yX8_on cX8_on 2 (some .int)] ++ wsX80)
def wsX8_wears : List Cond := .code yX8_wears cX8_wears 4 none :: ([.fieldLink RX8 7 "ReelChangerModel" "v" "[I", .methodLink RX8 107 yX8_on, .static yX8_on, .initialized RX8, .code yX8_on cX8_on 2 (some .int), .methodLink RX8 110 yX8_reelOn, .instanceMethod yX8_reelOn, .selects RX8 yX8_reelOn yX8_reelOn, .code yX8_reelOn cX8_reelOn 2 (some .int), .methodLink RX8 65 yX8_strengthAt, .instanceMethod yX8_strengthAt, .selects RX8 yX8_strengthAt yX8_strengthAt, .code yX8_strengthAt cX8_strengthAt 4 (some .int), .methodLink RX8 57 yX8_spliceFrom, .instanceMethod yX8_spliceFrom, .selects RX8 yX8_spliceFrom yX8_spliceFrom, .code yX8_spliceFrom cX8_spliceFrom 4 (some .int), .methodLink RX8 53 yX8_at, .static yX8_at, .code yX8_at cX8_at 2 (some .int)] ++ wsX80)
def wsX8_threads : List Cond := .code yX8_threads cX8_threads 3 (some .int) :: ([.fieldLink RX8 7 "ReelChangerModel" "v" "[I"] ++ wsX80)
def wsX8_runsOut : List Cond := .code yX8_runsOut cX8_runsOut 4 none :: ([.fieldLink RX8 7 "ReelChangerModel" "v" "[I", .methodLink RX8 107 yX8_on, .static yX8_on, .initialized RX8, .code yX8_on cX8_on 2 (some .int), .methodLink RX8 120 yX8_lengthOn, .instanceMethod yX8_lengthOn, .selects RX8 yX8_lengthOn yX8_lengthOn, .code yX8_lengthOn cX8_lengthOn 2 (some .int), .methodLink RX8 110 yX8_reelOn, .instanceMethod yX8_reelOn, .selects RX8 yX8_reelOn yX8_reelOn, .code yX8_reelOn cX8_reelOn 2 (some .int), .methodLink RX8 53 yX8_at, .static yX8_at, .code yX8_at cX8_at 2 (some .int), .methodLink RX8 129 yX8_adds, .instanceMethod yX8_adds, .selects RX8 yX8_adds yX8_adds, .code yX8_adds cX8_adds 2 none, .methodLink RX8 132 yX8_threads, .instanceMethod yX8_threads, .selects RX8 yX8_threads yX8_threads, .code yX8_threads cX8_threads 3 (some .int)] ++ wsX80)
def wsX8_changes : List Cond := .code yX8_changes cX8_changes 2 none :: ([.fieldLink RX8 7 "ReelChangerModel" "v" "[I", .methodLink RX8 107 yX8_on, .static yX8_on, .initialized RX8, .code yX8_on cX8_on 2 (some .int)] ++ wsX80)
def wsX8_ticks_r1 : List Cond := [Cond.fieldLink RX8 7 "ReelChangerModel" "v" "[I", Cond.methodLink RX8 135 yX8_works, Cond.instanceMethod yX8_works, Cond.selects RX8 yX8_works yX8_works, Cond.initialized RX8, Cond.code yX8_works cX8_works 2 none, Cond.methodLink RX8 123 yX8_finishes, Cond.instanceMethod yX8_finishes, Cond.selects RX8 yX8_finishes yX8_finishes, Cond.code yX8_finishes cX8_finishes 5 none, Cond.methodLink RX8 107 yX8_on, Cond.static yX8_on, Cond.code yX8_on cX8_on 2 (some .int), Cond.methodLink RX8 113 yX8_comes, Cond.instanceMethod yX8_comes, Cond.selects RX8 yX8_comes yX8_comes, Cond.code yX8_comes cX8_comes 2 none, Cond.methodLink RX8 120 yX8_lengthOn, Cond.instanceMethod yX8_lengthOn, Cond.selects RX8 yX8_lengthOn yX8_lengthOn, Cond.code yX8_lengthOn cX8_lengthOn 2 (some .int), Cond.methodLink RX8 110 yX8_reelOn, Cond.instanceMethod yX8_reelOn, Cond.selects RX8 yX8_reelOn yX8_reelOn]
def wsX8_ticks_r2 : List Cond := [Cond.code yX8_reelOn cX8_reelOn 2 (some .int), Cond.methodLink RX8 53 yX8_at, Cond.static yX8_at, Cond.code yX8_at cX8_at 2 (some .int), Cond.methodLink RX8 65 yX8_strengthAt, Cond.instanceMethod yX8_strengthAt, Cond.selects RX8 yX8_strengthAt yX8_strengthAt, Cond.code yX8_strengthAt cX8_strengthAt 4 (some .int), Cond.methodLink RX8 57 yX8_spliceFrom, Cond.instanceMethod yX8_spliceFrom, Cond.selects RX8 yX8_spliceFrom yX8_spliceFrom, Cond.code yX8_spliceFrom cX8_spliceFrom 4 (some .int), Cond.methodLink RX8 126 yX8_ticksFor, Cond.instanceMethod yX8_ticksFor, Cond.selects RX8 yX8_ticksFor yX8_ticksFor, Cond.code yX8_ticksFor cX8_ticksFor 3 (some .int), Cond.methodLink RX8 138 yX8_starts, Cond.instanceMethod yX8_starts, Cond.selects RX8 yX8_starts yX8_starts, Cond.code yX8_starts cX8_starts 6 none, Cond.methodLink RX8 141 yX8_goes, Cond.instanceMethod yX8_goes, Cond.selects RX8 yX8_goes yX8_goes, Cond.code yX8_goes cX8_goes 2 none]
def wsX8_ticks_r3 : List Cond := [Cond.methodLink RX8 144 yX8_wears, Cond.instanceMethod yX8_wears, Cond.selects RX8 yX8_wears yX8_wears, Cond.code yX8_wears cX8_wears 4 none, Cond.methodLink RX8 147 yX8_runsOut, Cond.instanceMethod yX8_runsOut, Cond.selects RX8 yX8_runsOut yX8_runsOut, Cond.code yX8_runsOut cX8_runsOut 4 none, Cond.methodLink RX8 129 yX8_adds, Cond.instanceMethod yX8_adds, Cond.selects RX8 yX8_adds yX8_adds, Cond.code yX8_adds cX8_adds 2 none, Cond.methodLink RX8 132 yX8_threads, Cond.instanceMethod yX8_threads, Cond.selects RX8 yX8_threads yX8_threads, Cond.code yX8_threads cX8_threads 3 (some .int), Cond.methodLink RX8 150 yX8_changes, Cond.instanceMethod yX8_changes, Cond.selects RX8 yX8_changes yX8_changes, Cond.code yX8_changes cX8_changes 2 none]
def wsX8_ticks : List Cond := .code yX8_ticks cX8_ticks 1 none :: ((wsX8_ticks_r1 ++ (wsX8_ticks_r2 ++ wsX8_ticks_r3)) ++ wsX80)
def wsX8_passes_r1 : List Cond := [Cond.fieldLink RX8 7 "ReelChangerModel" "v" "[I", Cond.methodLink RX8 153 yX8_ticks, Cond.instanceMethod yX8_ticks, Cond.selects RX8 yX8_ticks yX8_ticks, Cond.initialized RX8, Cond.code yX8_ticks cX8_ticks 1 none, Cond.methodLink RX8 135 yX8_works, Cond.instanceMethod yX8_works, Cond.selects RX8 yX8_works yX8_works, Cond.code yX8_works cX8_works 2 none, Cond.methodLink RX8 123 yX8_finishes, Cond.instanceMethod yX8_finishes, Cond.selects RX8 yX8_finishes yX8_finishes, Cond.code yX8_finishes cX8_finishes 5 none, Cond.methodLink RX8 107 yX8_on, Cond.static yX8_on, Cond.code yX8_on cX8_on 2 (some .int), Cond.methodLink RX8 113 yX8_comes, Cond.instanceMethod yX8_comes, Cond.selects RX8 yX8_comes yX8_comes, Cond.code yX8_comes cX8_comes 2 none, Cond.methodLink RX8 120 yX8_lengthOn, Cond.instanceMethod yX8_lengthOn, Cond.selects RX8 yX8_lengthOn yX8_lengthOn]
def wsX8_passes_r2 : List Cond := [Cond.code yX8_lengthOn cX8_lengthOn 2 (some .int), Cond.methodLink RX8 110 yX8_reelOn, Cond.instanceMethod yX8_reelOn, Cond.selects RX8 yX8_reelOn yX8_reelOn, Cond.code yX8_reelOn cX8_reelOn 2 (some .int), Cond.methodLink RX8 53 yX8_at, Cond.static yX8_at, Cond.code yX8_at cX8_at 2 (some .int), Cond.methodLink RX8 65 yX8_strengthAt, Cond.instanceMethod yX8_strengthAt, Cond.selects RX8 yX8_strengthAt yX8_strengthAt, Cond.code yX8_strengthAt cX8_strengthAt 4 (some .int), Cond.methodLink RX8 57 yX8_spliceFrom, Cond.instanceMethod yX8_spliceFrom, Cond.selects RX8 yX8_spliceFrom yX8_spliceFrom, Cond.code yX8_spliceFrom cX8_spliceFrom 4 (some .int), Cond.methodLink RX8 126 yX8_ticksFor, Cond.instanceMethod yX8_ticksFor, Cond.selects RX8 yX8_ticksFor yX8_ticksFor, Cond.code yX8_ticksFor cX8_ticksFor 3 (some .int), Cond.methodLink RX8 138 yX8_starts, Cond.instanceMethod yX8_starts, Cond.selects RX8 yX8_starts yX8_starts, Cond.code yX8_starts cX8_starts 6 none]
def wsX8_passes_r3 : List Cond := [Cond.methodLink RX8 141 yX8_goes, Cond.instanceMethod yX8_goes, Cond.selects RX8 yX8_goes yX8_goes, Cond.code yX8_goes cX8_goes 2 none, Cond.methodLink RX8 144 yX8_wears, Cond.instanceMethod yX8_wears, Cond.selects RX8 yX8_wears yX8_wears, Cond.code yX8_wears cX8_wears 4 none, Cond.methodLink RX8 147 yX8_runsOut, Cond.instanceMethod yX8_runsOut, Cond.selects RX8 yX8_runsOut yX8_runsOut, Cond.code yX8_runsOut cX8_runsOut 4 none, Cond.methodLink RX8 129 yX8_adds, Cond.instanceMethod yX8_adds, Cond.selects RX8 yX8_adds yX8_adds, Cond.code yX8_adds cX8_adds 2 none, Cond.methodLink RX8 132 yX8_threads, Cond.instanceMethod yX8_threads, Cond.selects RX8 yX8_threads yX8_threads, Cond.code yX8_threads cX8_threads 3 (some .int), Cond.methodLink RX8 150 yX8_changes, Cond.instanceMethod yX8_changes, Cond.selects RX8 yX8_changes yX8_changes, Cond.code yX8_changes cX8_changes 2 none]
def wsX8_passes : List Cond := .code yX8_passes cX8_passes 3 (some .int) :: ((wsX8_passes_r1 ++ (wsX8_passes_r2 ++ wsX8_passes_r3)) ++ wsX80)
def wsX8_pass_r1 : List Cond := [Cond.constant RX8 51 (-100002), Cond.constant RX8 103 (-100003), Cond.methodLink RX8 47 yX8_in, Cond.static yX8_in, Cond.initialized RX8, Cond.code yX8_in cX8_in 3 (some .boolean), Cond.methodLink RX8 100 yX8_isRunning, Cond.instanceMethod yX8_isRunning, Cond.selects RX8 yX8_isRunning yX8_isRunning, Cond.code yX8_isRunning cX8_isRunning 1 (some .boolean), Cond.fieldLink RX8 7 "ReelChangerModel" "v" "[I", Cond.methodLink RX8 156 yX8_passes, Cond.instanceMethod yX8_passes, Cond.selects RX8 yX8_passes yX8_passes, Cond.code yX8_passes cX8_passes 3 (some .int), Cond.methodLink RX8 153 yX8_ticks, Cond.instanceMethod yX8_ticks, Cond.selects RX8 yX8_ticks yX8_ticks, Cond.code yX8_ticks cX8_ticks 1 none, Cond.methodLink RX8 135 yX8_works, Cond.instanceMethod yX8_works, Cond.selects RX8 yX8_works yX8_works, Cond.code yX8_works cX8_works 2 none, Cond.methodLink RX8 123 yX8_finishes]
def wsX8_pass_r2 : List Cond := [Cond.instanceMethod yX8_finishes, Cond.selects RX8 yX8_finishes yX8_finishes, Cond.code yX8_finishes cX8_finishes 5 none, Cond.methodLink RX8 107 yX8_on, Cond.static yX8_on, Cond.code yX8_on cX8_on 2 (some .int), Cond.methodLink RX8 113 yX8_comes, Cond.instanceMethod yX8_comes, Cond.selects RX8 yX8_comes yX8_comes, Cond.code yX8_comes cX8_comes 2 none, Cond.methodLink RX8 120 yX8_lengthOn, Cond.instanceMethod yX8_lengthOn, Cond.selects RX8 yX8_lengthOn yX8_lengthOn, Cond.code yX8_lengthOn cX8_lengthOn 2 (some .int), Cond.methodLink RX8 110 yX8_reelOn, Cond.instanceMethod yX8_reelOn, Cond.selects RX8 yX8_reelOn yX8_reelOn, Cond.code yX8_reelOn cX8_reelOn 2 (some .int), Cond.methodLink RX8 53 yX8_at, Cond.static yX8_at, Cond.code yX8_at cX8_at 2 (some .int), Cond.methodLink RX8 65 yX8_strengthAt, Cond.instanceMethod yX8_strengthAt, Cond.selects RX8 yX8_strengthAt yX8_strengthAt]
def wsX8_pass_r3 : List Cond := [Cond.code yX8_strengthAt cX8_strengthAt 4 (some .int), Cond.methodLink RX8 57 yX8_spliceFrom, Cond.instanceMethod yX8_spliceFrom, Cond.selects RX8 yX8_spliceFrom yX8_spliceFrom, Cond.code yX8_spliceFrom cX8_spliceFrom 4 (some .int), Cond.methodLink RX8 126 yX8_ticksFor, Cond.instanceMethod yX8_ticksFor, Cond.selects RX8 yX8_ticksFor yX8_ticksFor, Cond.code yX8_ticksFor cX8_ticksFor 3 (some .int), Cond.methodLink RX8 138 yX8_starts, Cond.instanceMethod yX8_starts, Cond.selects RX8 yX8_starts yX8_starts, Cond.code yX8_starts cX8_starts 6 none, Cond.methodLink RX8 141 yX8_goes, Cond.instanceMethod yX8_goes, Cond.selects RX8 yX8_goes yX8_goes, Cond.code yX8_goes cX8_goes 2 none, Cond.methodLink RX8 144 yX8_wears, Cond.instanceMethod yX8_wears, Cond.selects RX8 yX8_wears yX8_wears, Cond.code yX8_wears cX8_wears 4 none, Cond.methodLink RX8 147 yX8_runsOut, Cond.instanceMethod yX8_runsOut, Cond.selects RX8 yX8_runsOut yX8_runsOut]
def wsX8_pass_r4 : List Cond := [Cond.code yX8_runsOut cX8_runsOut 4 none, Cond.methodLink RX8 129 yX8_adds, Cond.instanceMethod yX8_adds, Cond.selects RX8 yX8_adds yX8_adds, Cond.code yX8_adds cX8_adds 2 none, Cond.methodLink RX8 132 yX8_threads, Cond.instanceMethod yX8_threads, Cond.selects RX8 yX8_threads yX8_threads, Cond.code yX8_threads cX8_threads 3 (some .int), Cond.methodLink RX8 150 yX8_changes, Cond.instanceMethod yX8_changes, Cond.selects RX8 yX8_changes yX8_changes, Cond.code yX8_changes cX8_changes 2 none]
def wsX8_pass : List Cond := .code yX8_pass cX8_pass 2 (some .int) :: ((wsX8_pass_r1 ++ (wsX8_pass_r2 ++ (wsX8_pass_r3 ++ wsX8_pass_r4))) ++ wsX80)
def wsX8_showTells : List Cond := .code yX8_showTells cX8_showTells 2 (some .int) :: ([.fieldLink RX8 7 "ReelChangerModel" "v" "[I", .methodLink RX8 100 yX8_isRunning, .instanceMethod yX8_isRunning, .selects RX8 yX8_isRunning yX8_isRunning, .initialized RX8, .code yX8_isRunning cX8_isRunning 1 (some .boolean)] ++ wsX80)
def wsX8_tell : List Cond := .code yX8_tell cX8_tell 2 (some .int) :: ([.constant RX8 64 (-100001), .methodLink RX8 47 yX8_in, .static yX8_in, .initialized RX8, .code yX8_in cX8_in 3 (some .boolean), .methodLink RX8 159 yX8_showTells, .instanceMethod yX8_showTells, .selects RX8 yX8_showTells yX8_showTells, .code yX8_showTells cX8_showTells 2 (some .int), .fieldLink RX8 7 "ReelChangerModel" "v" "[I", .methodLink RX8 100 yX8_isRunning, .instanceMethod yX8_isRunning, .selects RX8 yX8_isRunning yX8_isRunning, .code yX8_isRunning cX8_isRunning 1 (some .boolean)] ++ wsX80)
def wsX8_projectorTells : List Cond := .code yX8_projectorTells cX8_projectorTells 5 (some .int) :: ([.fieldLink RX8 7 "ReelChangerModel" "v" "[I", .constant RX8 68 (-100005), .methodLink RX8 107 yX8_on, .static yX8_on, .initialized RX8, .code yX8_on cX8_on 2 (some .int)] ++ wsX80)
def wsX8_projector : List Cond := .code yX8_projector cX8_projector 3 (some .int) :: ([.constant RX8 64 (-100001), .constant RX8 51 (-100002), .methodLink RX8 47 yX8_in, .static yX8_in, .initialized RX8, .code yX8_in cX8_in 3 (some .boolean), .methodLink RX8 162 yX8_projectorTells, .instanceMethod yX8_projectorTells, .selects RX8 yX8_projectorTells yX8_projectorTells, .code yX8_projectorTells cX8_projectorTells 5 (some .int), .fieldLink RX8 7 "ReelChangerModel" "v" "[I", .constant RX8 68 (-100005), .methodLink RX8 107 yX8_on, .static yX8_on, .code yX8_on cX8_on 2 (some .int)] ++ wsX80)
def wsX8_taskAt : List Cond := .code yX8_taskAt cX8_taskAt 2 (some .int) :: ([.fieldLink RX8 7 "ReelChangerModel" "v" "[I", .methodLink RX8 47 yX8_in, .static yX8_in, .initialized RX8, .code yX8_in cX8_in 3 (some .boolean)] ++ wsX80)
def wsX8_task : List Cond := .code yX8_task cX8_task 4 (some .int) :: ([.constant RX8 64 (-100001), .constant RX8 51 (-100002), .methodLink RX8 165 yX8_taskAt, .instanceMethod yX8_taskAt, .selects RX8 yX8_taskAt yX8_taskAt, .initialized RX8, .code yX8_taskAt cX8_taskAt 2 (some .int), .fieldLink RX8 7 "ReelChangerModel" "v" "[I", .methodLink RX8 47 yX8_in, .static yX8_in, .code yX8_in cX8_in 3 (some .boolean)] ++ wsX80)
def wsX8_keeps : List Cond := .code yX8_keeps cX8_keeps 2 none :: ([.fieldLink RX8 13 "ReelChangerModel" "spare" "[I", .fieldLink RX8 7 "ReelChangerModel" "v" "[I"] ++ wsX80)
def wsX8_comesBack : List Cond := .code yX8_comesBack cX8_comesBack 2 none :: ([.fieldLink RX8 7 "ReelChangerModel" "v" "[I", .fieldLink RX8 13 "ReelChangerModel" "spare" "[I"] ++ wsX80)
def wsX8_forecastNow_r1 : List Cond := [Cond.fieldLink RX8 7 "ReelChangerModel" "v" "[I", Cond.constant RX8 68 (-100005), Cond.methodLink RX8 168 yX8_keeps, Cond.instanceMethod yX8_keeps, Cond.selects RX8 yX8_keeps yX8_keeps, Cond.initialized RX8, Cond.code yX8_keeps cX8_keeps 2 none, Cond.fieldLink RX8 13 "ReelChangerModel" "spare" "[I", Cond.methodLink RX8 156 yX8_passes, Cond.instanceMethod yX8_passes, Cond.selects RX8 yX8_passes yX8_passes, Cond.code yX8_passes cX8_passes 3 (some .int), Cond.methodLink RX8 153 yX8_ticks, Cond.instanceMethod yX8_ticks, Cond.selects RX8 yX8_ticks yX8_ticks, Cond.code yX8_ticks cX8_ticks 1 none, Cond.methodLink RX8 135 yX8_works, Cond.instanceMethod yX8_works, Cond.selects RX8 yX8_works yX8_works, Cond.code yX8_works cX8_works 2 none, Cond.methodLink RX8 123 yX8_finishes, Cond.instanceMethod yX8_finishes, Cond.selects RX8 yX8_finishes yX8_finishes, Cond.code yX8_finishes cX8_finishes 5 none]
def wsX8_forecastNow_r2 : List Cond := [Cond.methodLink RX8 107 yX8_on, Cond.static yX8_on, Cond.code yX8_on cX8_on 2 (some .int), Cond.methodLink RX8 113 yX8_comes, Cond.instanceMethod yX8_comes, Cond.selects RX8 yX8_comes yX8_comes, Cond.code yX8_comes cX8_comes 2 none, Cond.methodLink RX8 120 yX8_lengthOn, Cond.instanceMethod yX8_lengthOn, Cond.selects RX8 yX8_lengthOn yX8_lengthOn, Cond.code yX8_lengthOn cX8_lengthOn 2 (some .int), Cond.methodLink RX8 110 yX8_reelOn, Cond.instanceMethod yX8_reelOn, Cond.selects RX8 yX8_reelOn yX8_reelOn, Cond.code yX8_reelOn cX8_reelOn 2 (some .int), Cond.methodLink RX8 53 yX8_at, Cond.static yX8_at, Cond.code yX8_at cX8_at 2 (some .int), Cond.methodLink RX8 65 yX8_strengthAt, Cond.instanceMethod yX8_strengthAt, Cond.selects RX8 yX8_strengthAt yX8_strengthAt, Cond.code yX8_strengthAt cX8_strengthAt 4 (some .int), Cond.methodLink RX8 57 yX8_spliceFrom, Cond.instanceMethod yX8_spliceFrom]
def wsX8_forecastNow_r3 : List Cond := [Cond.selects RX8 yX8_spliceFrom yX8_spliceFrom, Cond.code yX8_spliceFrom cX8_spliceFrom 4 (some .int), Cond.methodLink RX8 126 yX8_ticksFor, Cond.instanceMethod yX8_ticksFor, Cond.selects RX8 yX8_ticksFor yX8_ticksFor, Cond.code yX8_ticksFor cX8_ticksFor 3 (some .int), Cond.methodLink RX8 138 yX8_starts, Cond.instanceMethod yX8_starts, Cond.selects RX8 yX8_starts yX8_starts, Cond.code yX8_starts cX8_starts 6 none, Cond.methodLink RX8 141 yX8_goes, Cond.instanceMethod yX8_goes, Cond.selects RX8 yX8_goes yX8_goes, Cond.code yX8_goes cX8_goes 2 none, Cond.methodLink RX8 144 yX8_wears, Cond.instanceMethod yX8_wears, Cond.selects RX8 yX8_wears yX8_wears, Cond.code yX8_wears cX8_wears 4 none, Cond.methodLink RX8 147 yX8_runsOut, Cond.instanceMethod yX8_runsOut, Cond.selects RX8 yX8_runsOut yX8_runsOut, Cond.code yX8_runsOut cX8_runsOut 4 none, Cond.methodLink RX8 129 yX8_adds, Cond.instanceMethod yX8_adds]
def wsX8_forecastNow_r4 : List Cond := [Cond.selects RX8 yX8_adds yX8_adds, Cond.code yX8_adds cX8_adds 2 none, Cond.methodLink RX8 132 yX8_threads, Cond.instanceMethod yX8_threads, Cond.selects RX8 yX8_threads yX8_threads, Cond.code yX8_threads cX8_threads 3 (some .int), Cond.methodLink RX8 150 yX8_changes, Cond.instanceMethod yX8_changes, Cond.selects RX8 yX8_changes yX8_changes, Cond.code yX8_changes cX8_changes 2 none, Cond.methodLink RX8 171 yX8_comesBack, Cond.instanceMethod yX8_comesBack, Cond.selects RX8 yX8_comesBack yX8_comesBack, Cond.code yX8_comesBack cX8_comesBack 2 none]
def wsX8_forecastNow : List Cond := .code yX8_forecastNow cX8_forecastNow 4 (some .int) :: ((wsX8_forecastNow_r1 ++ (wsX8_forecastNow_r2 ++ (wsX8_forecastNow_r3 ++ wsX8_forecastNow_r4))) ++ wsX80)
def wsX8_forecast_r1 : List Cond := [Cond.constant RX8 64 (-100001), Cond.constant RX8 103 (-100003), Cond.methodLink RX8 47 yX8_in, Cond.static yX8_in, Cond.initialized RX8, Cond.code yX8_in cX8_in 3 (some .boolean), Cond.methodLink RX8 100 yX8_isRunning, Cond.instanceMethod yX8_isRunning, Cond.selects RX8 yX8_isRunning yX8_isRunning, Cond.code yX8_isRunning cX8_isRunning 1 (some .boolean), Cond.fieldLink RX8 7 "ReelChangerModel" "v" "[I", Cond.methodLink RX8 174 yX8_forecastNow, Cond.instanceMethod yX8_forecastNow, Cond.selects RX8 yX8_forecastNow yX8_forecastNow, Cond.code yX8_forecastNow cX8_forecastNow 4 (some .int), Cond.constant RX8 68 (-100005), Cond.methodLink RX8 168 yX8_keeps, Cond.instanceMethod yX8_keeps, Cond.selects RX8 yX8_keeps yX8_keeps, Cond.code yX8_keeps cX8_keeps 2 none, Cond.fieldLink RX8 13 "ReelChangerModel" "spare" "[I", Cond.methodLink RX8 156 yX8_passes, Cond.instanceMethod yX8_passes, Cond.selects RX8 yX8_passes yX8_passes]
def wsX8_forecast_r2 : List Cond := [Cond.code yX8_passes cX8_passes 3 (some .int), Cond.methodLink RX8 153 yX8_ticks, Cond.instanceMethod yX8_ticks, Cond.selects RX8 yX8_ticks yX8_ticks, Cond.code yX8_ticks cX8_ticks 1 none, Cond.methodLink RX8 135 yX8_works, Cond.instanceMethod yX8_works, Cond.selects RX8 yX8_works yX8_works, Cond.code yX8_works cX8_works 2 none, Cond.methodLink RX8 123 yX8_finishes, Cond.instanceMethod yX8_finishes, Cond.selects RX8 yX8_finishes yX8_finishes, Cond.code yX8_finishes cX8_finishes 5 none, Cond.methodLink RX8 107 yX8_on, Cond.static yX8_on, Cond.code yX8_on cX8_on 2 (some .int), Cond.methodLink RX8 113 yX8_comes, Cond.instanceMethod yX8_comes, Cond.selects RX8 yX8_comes yX8_comes, Cond.code yX8_comes cX8_comes 2 none, Cond.methodLink RX8 120 yX8_lengthOn, Cond.instanceMethod yX8_lengthOn, Cond.selects RX8 yX8_lengthOn yX8_lengthOn, Cond.code yX8_lengthOn cX8_lengthOn 2 (some .int)]
def wsX8_forecast_r3 : List Cond := [Cond.methodLink RX8 110 yX8_reelOn, Cond.instanceMethod yX8_reelOn, Cond.selects RX8 yX8_reelOn yX8_reelOn, Cond.code yX8_reelOn cX8_reelOn 2 (some .int), Cond.methodLink RX8 53 yX8_at, Cond.static yX8_at, Cond.code yX8_at cX8_at 2 (some .int), Cond.methodLink RX8 65 yX8_strengthAt, Cond.instanceMethod yX8_strengthAt, Cond.selects RX8 yX8_strengthAt yX8_strengthAt, Cond.code yX8_strengthAt cX8_strengthAt 4 (some .int), Cond.methodLink RX8 57 yX8_spliceFrom, Cond.instanceMethod yX8_spliceFrom, Cond.selects RX8 yX8_spliceFrom yX8_spliceFrom, Cond.code yX8_spliceFrom cX8_spliceFrom 4 (some .int), Cond.methodLink RX8 126 yX8_ticksFor, Cond.instanceMethod yX8_ticksFor, Cond.selects RX8 yX8_ticksFor yX8_ticksFor, Cond.code yX8_ticksFor cX8_ticksFor 3 (some .int), Cond.methodLink RX8 138 yX8_starts, Cond.instanceMethod yX8_starts, Cond.selects RX8 yX8_starts yX8_starts, Cond.code yX8_starts cX8_starts 6 none, Cond.methodLink RX8 141 yX8_goes]
def wsX8_forecast_r4 : List Cond := [Cond.instanceMethod yX8_goes, Cond.selects RX8 yX8_goes yX8_goes, Cond.code yX8_goes cX8_goes 2 none, Cond.methodLink RX8 144 yX8_wears, Cond.instanceMethod yX8_wears, Cond.selects RX8 yX8_wears yX8_wears, Cond.code yX8_wears cX8_wears 4 none, Cond.methodLink RX8 147 yX8_runsOut, Cond.instanceMethod yX8_runsOut, Cond.selects RX8 yX8_runsOut yX8_runsOut, Cond.code yX8_runsOut cX8_runsOut 4 none, Cond.methodLink RX8 129 yX8_adds, Cond.instanceMethod yX8_adds, Cond.selects RX8 yX8_adds yX8_adds, Cond.code yX8_adds cX8_adds 2 none, Cond.methodLink RX8 132 yX8_threads, Cond.instanceMethod yX8_threads, Cond.selects RX8 yX8_threads yX8_threads, Cond.code yX8_threads cX8_threads 3 (some .int), Cond.methodLink RX8 150 yX8_changes, Cond.instanceMethod yX8_changes, Cond.selects RX8 yX8_changes yX8_changes, Cond.code yX8_changes cX8_changes 2 none, Cond.methodLink RX8 171 yX8_comesBack]
def wsX8_forecast_r5 : List Cond := [Cond.instanceMethod yX8_comesBack, Cond.selects RX8 yX8_comesBack yX8_comesBack, Cond.code yX8_comesBack cX8_comesBack 2 none]
def wsX8_forecast : List Cond := .code yX8_forecast cX8_forecast 2 (some .int) :: ((wsX8_forecast_r1 ++ (wsX8_forecast_r2 ++ (wsX8_forecast_r3 ++ (wsX8_forecast_r4 ++ wsX8_forecast_r5)))) ++ wsX80)
def wsX8_darkWith_r1 : List Cond := [Cond.constant RX8 64 (-100001), Cond.fieldLink RX8 23 "ReelChangerModel" "lows" "[I", Cond.fieldLink RX8 26 "ReelChangerModel" "highs" "[I", Cond.constant RX8 51 (-100002), Cond.fieldLink RX8 7 "ReelChangerModel" "v" "[I", Cond.constant RX8 103 (-100003), Cond.constant RX8 68 (-100005), Cond.methodLink RX8 47 yX8_in, Cond.static yX8_in, Cond.initialized RX8, Cond.code yX8_in cX8_in 3 (some .boolean), Cond.methodLink RX8 168 yX8_keeps, Cond.instanceMethod yX8_keeps, Cond.selects RX8 yX8_keeps yX8_keeps, Cond.code yX8_keeps cX8_keeps 2 none, Cond.fieldLink RX8 13 "ReelChangerModel" "spare" "[I", Cond.methodLink RX8 117 yX8_opens, Cond.instanceMethod yX8_opens, Cond.selects RX8 yX8_opens yX8_opens, Cond.code yX8_opens cX8_opens 2 none, Cond.methodLink RX8 113 yX8_comes, Cond.instanceMethod yX8_comes, Cond.selects RX8 yX8_comes yX8_comes, Cond.code yX8_comes cX8_comes 2 none]
def wsX8_darkWith_r2 : List Cond := [Cond.methodLink RX8 107 yX8_on, Cond.static yX8_on, Cond.code yX8_on cX8_on 2 (some .int), Cond.methodLink RX8 156 yX8_passes, Cond.instanceMethod yX8_passes, Cond.selects RX8 yX8_passes yX8_passes, Cond.code yX8_passes cX8_passes 3 (some .int), Cond.methodLink RX8 153 yX8_ticks, Cond.instanceMethod yX8_ticks, Cond.selects RX8 yX8_ticks yX8_ticks, Cond.code yX8_ticks cX8_ticks 1 none, Cond.methodLink RX8 135 yX8_works, Cond.instanceMethod yX8_works, Cond.selects RX8 yX8_works yX8_works, Cond.code yX8_works cX8_works 2 none, Cond.methodLink RX8 123 yX8_finishes, Cond.instanceMethod yX8_finishes, Cond.selects RX8 yX8_finishes yX8_finishes, Cond.code yX8_finishes cX8_finishes 5 none, Cond.methodLink RX8 120 yX8_lengthOn, Cond.instanceMethod yX8_lengthOn, Cond.selects RX8 yX8_lengthOn yX8_lengthOn, Cond.code yX8_lengthOn cX8_lengthOn 2 (some .int), Cond.methodLink RX8 110 yX8_reelOn]
def wsX8_darkWith_r3 : List Cond := [Cond.instanceMethod yX8_reelOn, Cond.selects RX8 yX8_reelOn yX8_reelOn, Cond.code yX8_reelOn cX8_reelOn 2 (some .int), Cond.methodLink RX8 53 yX8_at, Cond.static yX8_at, Cond.code yX8_at cX8_at 2 (some .int), Cond.methodLink RX8 65 yX8_strengthAt, Cond.instanceMethod yX8_strengthAt, Cond.selects RX8 yX8_strengthAt yX8_strengthAt, Cond.code yX8_strengthAt cX8_strengthAt 4 (some .int), Cond.methodLink RX8 57 yX8_spliceFrom, Cond.instanceMethod yX8_spliceFrom, Cond.selects RX8 yX8_spliceFrom yX8_spliceFrom, Cond.code yX8_spliceFrom cX8_spliceFrom 4 (some .int), Cond.methodLink RX8 126 yX8_ticksFor, Cond.instanceMethod yX8_ticksFor, Cond.selects RX8 yX8_ticksFor yX8_ticksFor, Cond.code yX8_ticksFor cX8_ticksFor 3 (some .int), Cond.methodLink RX8 138 yX8_starts, Cond.instanceMethod yX8_starts, Cond.selects RX8 yX8_starts yX8_starts, Cond.code yX8_starts cX8_starts 6 none, Cond.methodLink RX8 141 yX8_goes, Cond.instanceMethod yX8_goes]
def wsX8_darkWith_r4 : List Cond := [Cond.selects RX8 yX8_goes yX8_goes, Cond.code yX8_goes cX8_goes 2 none, Cond.methodLink RX8 144 yX8_wears, Cond.instanceMethod yX8_wears, Cond.selects RX8 yX8_wears yX8_wears, Cond.code yX8_wears cX8_wears 4 none, Cond.methodLink RX8 147 yX8_runsOut, Cond.instanceMethod yX8_runsOut, Cond.selects RX8 yX8_runsOut yX8_runsOut, Cond.code yX8_runsOut cX8_runsOut 4 none, Cond.methodLink RX8 129 yX8_adds, Cond.instanceMethod yX8_adds, Cond.selects RX8 yX8_adds yX8_adds, Cond.code yX8_adds cX8_adds 2 none, Cond.methodLink RX8 132 yX8_threads, Cond.instanceMethod yX8_threads, Cond.selects RX8 yX8_threads yX8_threads, Cond.code yX8_threads cX8_threads 3 (some .int), Cond.methodLink RX8 150 yX8_changes, Cond.instanceMethod yX8_changes, Cond.selects RX8 yX8_changes yX8_changes, Cond.code yX8_changes cX8_changes 2 none, Cond.methodLink RX8 171 yX8_comesBack, Cond.instanceMethod yX8_comesBack]
def wsX8_darkWith_r5 : List Cond := [Cond.selects RX8 yX8_comesBack yX8_comesBack, Cond.code yX8_comesBack cX8_comesBack 2 none]
def wsX8_darkWith : List Cond := .code yX8_darkWith cX8_darkWith 5 (some .int) :: ((wsX8_darkWith_r1 ++ (wsX8_darkWith_r2 ++ (wsX8_darkWith_r3 ++ (wsX8_darkWith_r4 ++ wsX8_darkWith_r5)))) ++ wsX80)
def wsX8_save : List Cond := .code yX8_save cX8_save 3 (some .int) :: ([.constant RX8 64 (-100001), .fieldLink RX8 16 "ReelChangerModel" "kept" "[I", .fieldLink RX8 7 "ReelChangerModel" "v" "[I", .fieldLink RX8 19 "ReelChangerModel" "isKept" "[Z", .methodLink RX8 47 yX8_in, .static yX8_in, .initialized RX8, .code yX8_in cX8_in 3 (some .boolean)] ++ wsX80)
def wsX8_restore : List Cond := .code yX8_restore cX8_restore 3 (some .int) :: ([.constant RX8 64 (-100001), .fieldLink RX8 19 "ReelChangerModel" "isKept" "[Z", .constant RX8 103 (-100003), .fieldLink RX8 7 "ReelChangerModel" "v" "[I", .fieldLink RX8 16 "ReelChangerModel" "kept" "[I", .methodLink RX8 47 yX8_in, .static yX8_in, .initialized RX8, .code yX8_in cX8_in 3 (some .boolean)] ++ wsX80)
def wsX8_more : List Cond := .code yX8_more cX8_more 3 (some .long) :: ([.constantLong RX8 177 (31)])
def wsX8_checksum_r1 : List Cond := [Cond.constantLong RX8 179 (139), Cond.fieldLink RX8 7 "ReelChangerModel" "v" "[I", Cond.methodLink RX8 181 yX8_more, Cond.static yX8_more, Cond.initialized RX8, Cond.code yX8_more cX8_more 3 (some .long), Cond.constantLong RX8 177 (31), Cond.methodLink RX8 53 yX8_at, Cond.static yX8_at, Cond.code yX8_at cX8_at 2 (some .int), Cond.methodLink RX8 69 yX8_weakest, Cond.instanceMethod yX8_weakest, Cond.selects RX8 yX8_weakest yX8_weakest, Cond.code yX8_weakest cX8_weakest 5 (some .int), Cond.constant RX8 68 (-100005), Cond.methodLink RX8 159 yX8_showTells, Cond.instanceMethod yX8_showTells, Cond.selects RX8 yX8_showTells yX8_showTells, Cond.code yX8_showTells cX8_showTells 2 (some .int), Cond.methodLink RX8 100 yX8_isRunning, Cond.instanceMethod yX8_isRunning, Cond.selects RX8 yX8_isRunning yX8_isRunning, Cond.code yX8_isRunning cX8_isRunning 1 (some .boolean), Cond.methodLink RX8 162 yX8_projectorTells]
def wsX8_checksum_r2 : List Cond := [Cond.instanceMethod yX8_projectorTells, Cond.selects RX8 yX8_projectorTells yX8_projectorTells, Cond.code yX8_projectorTells cX8_projectorTells 5 (some .int), Cond.methodLink RX8 107 yX8_on, Cond.static yX8_on, Cond.code yX8_on cX8_on 2 (some .int), Cond.methodLink RX8 165 yX8_taskAt, Cond.instanceMethod yX8_taskAt, Cond.selects RX8 yX8_taskAt yX8_taskAt, Cond.code yX8_taskAt cX8_taskAt 2 (some .int), Cond.methodLink RX8 47 yX8_in, Cond.static yX8_in, Cond.code yX8_in cX8_in 3 (some .boolean), Cond.methodLink RX8 174 yX8_forecastNow, Cond.instanceMethod yX8_forecastNow, Cond.selects RX8 yX8_forecastNow yX8_forecastNow, Cond.code yX8_forecastNow cX8_forecastNow 4 (some .int), Cond.methodLink RX8 168 yX8_keeps, Cond.instanceMethod yX8_keeps, Cond.selects RX8 yX8_keeps yX8_keeps, Cond.code yX8_keeps cX8_keeps 2 none, Cond.fieldLink RX8 13 "ReelChangerModel" "spare" "[I", Cond.methodLink RX8 156 yX8_passes, Cond.instanceMethod yX8_passes]
def wsX8_checksum_r3 : List Cond := [Cond.selects RX8 yX8_passes yX8_passes, Cond.code yX8_passes cX8_passes 3 (some .int), Cond.methodLink RX8 153 yX8_ticks, Cond.instanceMethod yX8_ticks, Cond.selects RX8 yX8_ticks yX8_ticks, Cond.code yX8_ticks cX8_ticks 1 none, Cond.methodLink RX8 135 yX8_works, Cond.instanceMethod yX8_works, Cond.selects RX8 yX8_works yX8_works, Cond.code yX8_works cX8_works 2 none, Cond.methodLink RX8 123 yX8_finishes, Cond.instanceMethod yX8_finishes, Cond.selects RX8 yX8_finishes yX8_finishes, Cond.code yX8_finishes cX8_finishes 5 none, Cond.methodLink RX8 113 yX8_comes, Cond.instanceMethod yX8_comes, Cond.selects RX8 yX8_comes yX8_comes, Cond.code yX8_comes cX8_comes 2 none, Cond.methodLink RX8 120 yX8_lengthOn, Cond.instanceMethod yX8_lengthOn, Cond.selects RX8 yX8_lengthOn yX8_lengthOn, Cond.code yX8_lengthOn cX8_lengthOn 2 (some .int), Cond.methodLink RX8 110 yX8_reelOn, Cond.instanceMethod yX8_reelOn]
def wsX8_checksum_r4 : List Cond := [Cond.selects RX8 yX8_reelOn yX8_reelOn, Cond.code yX8_reelOn cX8_reelOn 2 (some .int), Cond.methodLink RX8 65 yX8_strengthAt, Cond.instanceMethod yX8_strengthAt, Cond.selects RX8 yX8_strengthAt yX8_strengthAt, Cond.code yX8_strengthAt cX8_strengthAt 4 (some .int), Cond.methodLink RX8 57 yX8_spliceFrom, Cond.instanceMethod yX8_spliceFrom, Cond.selects RX8 yX8_spliceFrom yX8_spliceFrom, Cond.code yX8_spliceFrom cX8_spliceFrom 4 (some .int), Cond.methodLink RX8 126 yX8_ticksFor, Cond.instanceMethod yX8_ticksFor, Cond.selects RX8 yX8_ticksFor yX8_ticksFor, Cond.code yX8_ticksFor cX8_ticksFor 3 (some .int), Cond.methodLink RX8 138 yX8_starts, Cond.instanceMethod yX8_starts, Cond.selects RX8 yX8_starts yX8_starts, Cond.code yX8_starts cX8_starts 6 none, Cond.methodLink RX8 141 yX8_goes, Cond.instanceMethod yX8_goes, Cond.selects RX8 yX8_goes yX8_goes, Cond.code yX8_goes cX8_goes 2 none, Cond.methodLink RX8 144 yX8_wears, Cond.instanceMethod yX8_wears]
def wsX8_checksum_r5 : List Cond := [Cond.selects RX8 yX8_wears yX8_wears, Cond.code yX8_wears cX8_wears 4 none, Cond.methodLink RX8 147 yX8_runsOut, Cond.instanceMethod yX8_runsOut, Cond.selects RX8 yX8_runsOut yX8_runsOut, Cond.code yX8_runsOut cX8_runsOut 4 none, Cond.methodLink RX8 129 yX8_adds, Cond.instanceMethod yX8_adds, Cond.selects RX8 yX8_adds yX8_adds, Cond.code yX8_adds cX8_adds 2 none, Cond.methodLink RX8 132 yX8_threads, Cond.instanceMethod yX8_threads, Cond.selects RX8 yX8_threads yX8_threads, Cond.code yX8_threads cX8_threads 3 (some .int), Cond.methodLink RX8 150 yX8_changes, Cond.instanceMethod yX8_changes, Cond.selects RX8 yX8_changes yX8_changes, Cond.code yX8_changes cX8_changes 2 none, Cond.methodLink RX8 171 yX8_comesBack, Cond.instanceMethod yX8_comesBack, Cond.selects RX8 yX8_comesBack yX8_comesBack, Cond.code yX8_comesBack cX8_comesBack 2 none]
def wsX8_checksum : List Cond := .code yX8_checksum cX8_checksum 5 (some .long) :: ((wsX8_checksum_r1 ++ (wsX8_checksum_r2 ++ (wsX8_checksum_r3 ++ (wsX8_checksum_r4 ++ wsX8_checksum_r5)))) ++ wsX80)
def wsJ9_max_7cf53 : List Cond := .code yJ9_max_7cf53 cJ9_max_7cf53 2 (some .int) :: ([])
def wsJ9_min_7cf53 : List Cond := .code yJ9_min_7cf53 cJ9_min_7cf53 2 (some .int) :: ([])
def wsL_law_r1 : List Cond := [Cond.classLink RL 7 RX7, Cond.instantiable RX7 4, Cond.initialized RX7, Cond.classLink RL 10 RX8, Cond.instantiable RX8 15, Cond.initialized RX8, Cond.methodLink RL 9 yX7_init, Cond.instanceMethod yX7_init, Cond.code yX7_init cX7_init 1 none, Cond.methodLink RX7 1 objectInit, Cond.instanceMethod objectInit, Cond.code objectInit ⟨#[0xb1]⟩ 1 none, Cond.classLink RX7 7 RX4, Cond.instantiable RX4 2, Cond.initialized RX4, Cond.fieldLink RX7 10 "ReelChanger" "room" "LReelChanger$Room;", Cond.fieldLink RX7 16 "ReelChanger" "trial" "LReelChanger$Room;", Cond.fieldLink RX7 19 "ReelChanger" "slots" "[LReelChanger$Room;", Cond.classLink RX7 23 RX1, Cond.instantiable RX1 6, Cond.initialized RX1, Cond.fieldLink RX7 26 "ReelChanger" "text" "LReelChanger$ProgramText;", Cond.instanceMethod yX4_init, Cond.code yX4_init cX4_init 1 none]
def wsL_law_r2 : List Cond := [Cond.methodLink RX4 1 objectInit, Cond.classLink RX4 7 RX6, Cond.instantiable RX6 5, Cond.initialized RX6, Cond.fieldLink RX4 10 "ReelChanger$Room" "stock" "LReelChanger$Stock;", Cond.classLink RX4 16 RX5, Cond.instantiable RX5 12, Cond.initialized RX5, Cond.fieldLink RX4 19 "ReelChanger$Room" "show" "LReelChanger$Show;", Cond.methodLink RX4 9 yX6_init, Cond.instanceMethod yX6_init, Cond.code yX6_init cX6_init 2 none, Cond.methodLink RX6 3 objectInit, Cond.classLink RX6 11 RX3, Cond.fieldLink RX6 13 "ReelChanger$Stock" "reels" "[LReelChanger$Reel;", Cond.arrayClass .int, Cond.fieldLink RX6 17 "ReelChanger$Stock" "settings" "[I", Cond.fieldLink RX6 21 "ReelChanger$Stock" "places" "[I", Cond.instantiable RX3 4, Cond.initialized RX3, Cond.fieldLink RX6 25 "ReelChanger$Stock" "FIRST_VALUES" "[I", Cond.methodLink RX6 28 arraycopyName, Cond.native arraycopyName, Cond.static arraycopyName]
def wsL_law_r3 : List Cond := [Cond.initialized "java/lang/System", Cond.instanceMethod yX3_init, Cond.code yX3_init cX3_init 1 none, Cond.methodLink RX3 3 objectInit, Cond.fieldLink RX3 11 "ReelChanger$Reel" "frames" "[I", Cond.fieldLink RX3 15 "ReelChanger$Reel" "strengths" "[I", Cond.instanceMethod yX5_init, Cond.code yX5_init cX5_init 1 none, Cond.methodLink RX5 3 objectInit, Cond.classLink RX5 9 RX0, Cond.instantiable RX0 6, Cond.initialized RX0, Cond.fieldLink RX5 12 "ReelChanger$Show" "operator" "LReelChanger$Operator;", Cond.classLink RX5 18 RX2, Cond.instantiable RX2 3, Cond.initialized RX2, Cond.fieldLink RX5 21 "ReelChanger$Show" "first" "LReelChanger$Projector;", Cond.fieldLink RX5 25 "ReelChanger$Show" "second" "LReelChanger$Projector;", Cond.instanceMethod yX0_init, Cond.code yX0_init cX0_init 1 none, Cond.methodLink RX0 3 objectInit, Cond.fieldLink RX0 11 "ReelChanger$Operator" "kinds" "[I", Cond.fieldLink RX0 15 "ReelChanger$Operator" "projectors" "[I", Cond.instanceMethod yX2_init]
def wsL_law_r4 : List Cond := [Cond.code yX2_init cX2_init 1 none, Cond.methodLink RX2 3 objectInit, Cond.instanceMethod yX1_init, Cond.code yX1_init cX1_init 1 none, Cond.methodLink RX1 3 objectInit, Cond.fieldLink RX1 11 "ReelChanger$ProgramText" "expanded" "[I", Cond.fieldLink RX1 17 "ReelChanger$ProgramText" "letters" "[I", Cond.fieldLink RX1 20 "ReelChanger$ProgramText" "groupStarts" "[I", Cond.methodLink RL 12 yX8_init, Cond.instanceMethod yX8_init, Cond.code yX8_init cX8_init 2 none, Cond.methodLink RX8 1 objectInit, Cond.fieldLink RX8 7 "ReelChangerModel" "v" "[I", Cond.fieldLink RX8 13 "ReelChangerModel" "spare" "[I", Cond.fieldLink RX8 16 "ReelChangerModel" "kept" "[I", Cond.arrayClass .boolean, Cond.fieldLink RX8 19 "ReelChangerModel" "isKept" "[Z", Cond.fieldLink RX8 23 "ReelChangerModel" "lows" "[I", Cond.fieldLink RX8 26 "ReelChangerModel" "highs" "[I", Cond.fieldLink RX8 29 "ReelChangerModel" "firsts" "[I", Cond.fieldLink RX8 32 "ReelChangerModel" "text" "[I", Cond.fieldLink RX8 35 "ReelChangerModel" "isFilled" "[Z", Cond.fieldLink RX8 38 "ReelChangerModel" "begins" "[I", Cond.fieldLink RX8 41 "ReelChangerModel" "times" "[I"]
def wsL_law_r5 : List Cond := [Cond.fieldLink RX8 44 "ReelChangerModel" "told" "[I", Cond.methodLink RL 13 yX7_makeReel, Cond.instanceMethod yX7_makeReel, Cond.selects RX7 yX7_makeReel yX7_makeReel, Cond.code yX7_makeReel cX7_makeReel 2 (some .int), Cond.constant RX7 34 (-100002), Cond.fieldLink RX7 35 "ReelChanger$Room" "stock" "LReelChanger$Stock;", Cond.methodLink RX7 30 yX7_isWithin, Cond.static yX7_isWithin, Cond.code yX7_isWithin cX7_isWithin 3 (some .boolean), Cond.methodLink RX7 39 yX6_addReel, Cond.instanceMethod yX6_addReel, Cond.selects RX6 yX6_addReel yX6_addReel, Cond.code yX6_addReel cX6_addReel 4 (some .int), Cond.fieldLink RX6 34 "ReelChanger$Stock" "reelCount" "I", Cond.constant RX6 49 (-100004), Cond.methodLink RX6 50 yX6_reelNumbered, Cond.instanceMethod yX6_reelNumbered, Cond.selects RX6 yX6_reelNumbered yX6_reelNumbered, Cond.code yX6_reelNumbered cX6_reelNumbered 2 (some (.object "ReelChanger$Reel")), Cond.methodLink RX6 54 yX3_renew, Cond.instanceMethod yX3_renew, Cond.selects RX3 yX3_renew yX3_renew, Cond.code yX3_renew cX3_renew 2 none]
def wsL_law_r6 : List Cond := [Cond.fieldLink RX3 18 "ReelChanger$Reel" "length" "I", Cond.fieldLink RX3 22 "ReelChanger$Reel" "spliceCount" "I", Cond.methodLink RL 17 yX8_makeReel, Cond.instanceMethod yX8_makeReel, Cond.selects RX8 yX8_makeReel yX8_makeReel, Cond.code yX8_makeReel cX8_makeReel 3 (some .int), Cond.constant RX8 51 (-100002), Cond.constant RX8 52 (-100004), Cond.methodLink RX8 47 yX8_in, Cond.static yX8_in, Cond.code yX8_in cX8_in 3 (some .boolean), Cond.methodLink RX8 53 yX8_at, Cond.static yX8_at, Cond.code yX8_at cX8_at 2 (some .int), Cond.methodLink RL 18 yX7_splice, Cond.instanceMethod yX7_splice, Cond.selects RX7 yX7_splice yX7_splice, Cond.code yX7_splice cX7_splice 5 (some .int), Cond.constant RX7 49 (-100001), Cond.fieldLink RX7 50 "ReelChanger$Reel" "length" "I", Cond.methodLink RX7 45 yX6_reelNumbered, Cond.methodLink RX7 56 yX3_join, Cond.instanceMethod yX3_join, Cond.selects RX3 yX3_join yX3_join]
def wsL_law_r7 : List Cond := [Cond.code yX3_join cX3_join 5 (some .int), Cond.constant RX3 40 (-100004), Cond.methodLink RX3 32 yX3_spliceOfFrame, Cond.instanceMethod yX3_spliceOfFrame, Cond.selects RX3 yX3_spliceOfFrame yX3_spliceOfFrame, Cond.code yX3_spliceOfFrame cX3_spliceOfFrame 3 (some .int), Cond.constant RX3 31 (-100005), Cond.methodLink RX3 36 yX3_hasSplice, Cond.instanceMethod yX3_hasSplice, Cond.selects RX3 yX3_hasSplice yX3_hasSplice, Cond.code yX3_hasSplice cX3_hasSplice 2 (some .boolean), Cond.methodLink RL 22 yX8_splice, Cond.instanceMethod yX8_splice, Cond.selects RX8 yX8_splice yX8_splice, Cond.code yX8_splice cX8_splice 7 (some .int), Cond.constant RX8 64 (-100001), Cond.methodLink RX8 60 yX8_isReel, Cond.instanceMethod yX8_isReel, Cond.selects RX8 yX8_isReel yX8_isReel, Cond.code yX8_isReel cX8_isReel 2 (some .boolean), Cond.methodLink RX8 57 yX8_spliceFrom, Cond.instanceMethod yX8_spliceFrom, Cond.selects RX8 yX8_spliceFrom yX8_spliceFrom, Cond.code yX8_spliceFrom cX8_spliceFrom 4 (some .int)]
def wsL_law_r8 : List Cond := [Cond.methodLink RX8 65 yX8_strengthAt, Cond.instanceMethod yX8_strengthAt, Cond.selects RX8 yX8_strengthAt yX8_strengthAt, Cond.code yX8_strengthAt cX8_strengthAt 4 (some .int), Cond.methodLink RL 23 yX7_mend, Cond.instanceMethod yX7_mend, Cond.selects RX7 yX7_mend yX7_mend, Cond.code yX7_mend cX7_mend 4 (some .int), Cond.methodLink RX7 60 yX3_removeWeaker, Cond.instanceMethod yX3_removeWeaker, Cond.selects RX3 yX3_removeWeaker yX3_removeWeaker, Cond.code yX3_removeWeaker cX3_removeWeaker 5 (some .int), Cond.methodLink RL 27 yX8_mend, Cond.instanceMethod yX8_mend, Cond.selects RX8 yX8_mend yX8_mend, Cond.code yX8_mend cX8_mend 6 (some .int), Cond.methodLink RL 28 yX7_reel, Cond.instanceMethod yX7_reel, Cond.selects RX7 yX7_reel yX7_reel, Cond.code yX7_reel cX7_reel 4 (some .int), Cond.fieldLink RX7 63 "ReelChanger$Reel" "spliceCount" "I", Cond.methodLink RX7 66 yX3_leastStrength, Cond.instanceMethod yX3_leastStrength, Cond.selects RX3 yX3_leastStrength yX3_leastStrength]
def wsL_law_r9 : List Cond := [Cond.code yX3_leastStrength cX3_leastStrength 3 (some .int), Cond.methodLink RL 31 yX8_reel, Cond.instanceMethod yX8_reel, Cond.selects RX8 yX8_reel yX8_reel, Cond.code yX8_reel cX8_reel 3 (some .int), Cond.methodLink RX8 69 yX8_weakest, Cond.instanceMethod yX8_weakest, Cond.selects RX8 yX8_weakest yX8_weakest, Cond.code yX8_weakest cX8_weakest 5 (some .int), Cond.constant RX8 68 (-100005), Cond.methodLink RL 32 yX7_spliceAt, Cond.instanceMethod yX7_spliceAt, Cond.selects RX7 yX7_spliceAt yX7_spliceAt, Cond.code yX7_spliceAt cX7_spliceAt 5 (some .int), Cond.fieldLink RX7 74 "ReelChanger$Reel" "strengths" "[I", Cond.fieldLink RX7 78 "ReelChanger$Reel" "frames" "[I", Cond.methodLink RX7 70 yX3_hasSplice, Cond.methodLink RL 36 yX8_spliceAt, Cond.instanceMethod yX8_spliceAt, Cond.selects RX8 yX8_spliceAt yX8_spliceAt, Cond.code yX8_spliceAt cX8_spliceAt 4 (some .int), Cond.methodLink RL 37 yX7_set, Cond.instanceMethod yX7_set, Cond.selects RX7 yX7_set yX7_set]
def wsL_law_r10 : List Cond := [Cond.code yX7_set cX7_set 4 (some .int), Cond.methodLink RX7 81 yX7_settingError, Cond.static yX7_settingError, Cond.code yX7_settingError cX7_settingError 2 (some .int), Cond.methodLink RX7 240 yX6_isSettingValue, Cond.static yX6_isSettingValue, Cond.code yX6_isSettingValue cX6_isSettingValue 2 (some .boolean), Cond.fieldLink RX6 58 "ReelChanger$Stock" "LEAST_VALUES" "[I", Cond.fieldLink RX6 61 "ReelChanger$Stock" "MOST_VALUES" "[I", Cond.methodLink RX7 84 yX6_changeSetting, Cond.instanceMethod yX6_changeSetting, Cond.selects RX6 yX6_changeSetting yX6_changeSetting, Cond.code yX6_changeSetting cX6_changeSetting 4 (some .int), Cond.methodLink RX6 65 yX6_settingNumbered, Cond.instanceMethod yX6_settingNumbered, Cond.selects RX6 yX6_settingNumbered yX6_settingNumbered, Cond.code yX6_settingNumbered cX6_settingNumbered 2 (some .int), Cond.constant RX6 64 (-100001), Cond.methodLink RX6 69 yX6_isSettingValue, Cond.methodLink RL 40 yX8_set, Cond.instanceMethod yX8_set, Cond.selects RX8 yX8_set yX8_set, Cond.code yX8_set cX8_set 3 (some .int), Cond.methodLink RX8 73 yX8_puts]
def wsL_law_r11 : List Cond := [Cond.instanceMethod yX8_puts, Cond.selects RX8 yX8_puts yX8_puts, Cond.code yX8_puts cX8_puts 4 (some .int), Cond.methodLink RL 41 yX7_append, Cond.instanceMethod yX7_append, Cond.selects RX7 yX7_append yX7_append, Cond.code yX7_append cX7_append 2 (some .int), Cond.methodLink RX7 87 yX1_add, Cond.instanceMethod yX1_add, Cond.selects RX1 yX1_add yX1_add, Cond.code yX1_add cX1_add 2 (some .int), Cond.fieldLink RX1 23 "ReelChanger$ProgramText" "length" "I", Cond.constant RX1 27 (-100004), Cond.methodLink RL 44 yX8_append, Cond.instanceMethod yX8_append, Cond.selects RX8 yX8_append yX8_append, Cond.code yX8_append cX8_append 2 (some .int), Cond.fieldLink RX8 76 "ReelChangerModel" "length" "I", Cond.methodLink RL 45 yX7_clearText, Cond.instanceMethod yX7_clearText, Cond.selects RX7 yX7_clearText yX7_clearText, Cond.code yX7_clearText cX7_clearText 1 (some .int), Cond.methodLink RX7 90 yX1_empty, Cond.instanceMethod yX1_empty]
def wsL_law_r12 : List Cond := [Cond.selects RX1 yX1_empty yX1_empty, Cond.code yX1_empty cX1_empty 2 (some .int), Cond.methodLink RL 49 yX8_clearText, Cond.instanceMethod yX8_clearText, Cond.selects RX8 yX8_clearText yX8_clearText, Cond.code yX8_clearText cX8_clearText 2 (some .int), Cond.methodLink RL 50 yX7_faultPosition, Cond.instanceMethod yX7_faultPosition, Cond.selects RX7 yX7_faultPosition yX7_faultPosition, Cond.code yX7_faultPosition cX7_faultPosition 1 (some .int), Cond.fieldLink RX7 93 "ReelChanger$Stock" "reelCount" "I", Cond.methodLink RX7 96 yX1_findFault, Cond.instanceMethod yX1_findFault, Cond.selects RX1 yX1_findFault yX1_findFault, Cond.code yX1_findFault cX1_findFault 4 (some .int), Cond.fieldLink RX1 28 "ReelChanger$ProgramText" "depth" "I", Cond.fieldLink RX1 31 "ReelChanger$ProgramText" "standing" "I", Cond.constant RX1 38 (-100005), Cond.methodLink RX1 34 yX1_standingBehind, Cond.instanceMethod yX1_standingBehind, Cond.selects RX1 yX1_standingBehind yX1_standingBehind, Cond.code yX1_standingBehind cX1_standingBehind 3 (some .int), Cond.methodLink RX1 39 yX1_depthChange, Cond.static yX1_depthChange]
def wsL_law_r13 : List Cond := [Cond.code yX1_depthChange cX1_depthChange 1 (some .int), Cond.methodLink RL 53 yX8_faultPosition, Cond.instanceMethod yX8_faultPosition, Cond.selects RX8 yX8_faultPosition yX8_faultPosition, Cond.code yX8_faultPosition cX8_faultPosition 1 (some .int), Cond.fieldLink RX8 80 "ReelChangerModel" "place" "I", Cond.methodLink RX8 97 yX8_isText, Cond.instanceMethod yX8_isText, Cond.selects RX8 yX8_isText yX8_isText, Cond.code yX8_isText cX8_isText 2 (some .boolean), Cond.fieldLink RX8 87 "ReelChangerModel" "depth" "I", Cond.methodLink RX8 94 yX8_isPart, Cond.instanceMethod yX8_isPart, Cond.selects RX8 yX8_isPart yX8_isPart, Cond.code yX8_isPart cX8_isPart 2 (some .boolean), Cond.methodLink RX8 83 yX8_here, Cond.instanceMethod yX8_here, Cond.selects RX8 yX8_here yX8_here, Cond.code yX8_here cX8_here 1 (some .int), Cond.methodLink RX8 90 yX8_isSigned, Cond.instanceMethod yX8_isSigned, Cond.selects RX8 yX8_isSigned yX8_isSigned, Cond.code yX8_isSigned cX8_isSigned 2 (some .boolean), Cond.methodLink RL 54 yX7_faultDepth]
def wsL_law_r14 : List Cond := [Cond.instanceMethod yX7_faultDepth, Cond.selects RX7 yX7_faultDepth yX7_faultDepth, Cond.code yX7_faultDepth cX7_faultDepth 1 (some .int), Cond.constant RX7 99 (-100005), Cond.fieldLink RX7 100 "ReelChanger$ProgramText" "depth" "I", Cond.methodLink RL 57 yX8_faultDepth, Cond.instanceMethod yX8_faultDepth, Cond.selects RX8 yX8_faultDepth yX8_faultDepth, Cond.code yX8_faultDepth cX8_faultDepth 1 (some .int), Cond.methodLink RL 58 yX7_setProgram, Cond.instanceMethod yX7_setProgram, Cond.selects RX7 yX7_setProgram yX7_setProgram, Cond.code yX7_setProgram cX7_setProgram 2 (some .int), Cond.fieldLink RX7 106 "ReelChanger$Room" "show" "LReelChanger$Show;", Cond.fieldLink RX7 110 "ReelChanger$Show" "running" "Z", Cond.constant RX7 116 (-100003), Cond.constant RX7 120 (-100004), Cond.fieldLink RX7 121 "ReelChanger$ProgramText" "expanded" "[I", Cond.methodLink RX7 103 yX7_faultPosition, Cond.methodLink RX7 117 yX1_expand, Cond.instanceMethod yX1_expand, Cond.selects RX1 yX1_expand yX1_expand, Cond.code yX1_expand cX1_expand 7 (some .int), Cond.methodLink RX1 43 yX1_repeatGroup]
def wsL_law_r15 : List Cond := [Cond.instanceMethod yX1_repeatGroup, Cond.selects RX1 yX1_repeatGroup yX1_repeatGroup, Cond.code yX1_repeatGroup cX1_repeatGroup 7 (some .int), Cond.methodLink RX1 50 Lib.Math.max.name, Cond.static Lib.Math.max.name, Cond.initialized "java/lang/Math", Cond.code Lib.Math.max.name Lib.Math.max.code 2 (some .int), Cond.methodLink RX1 47 yX1_addReel, Cond.instanceMethod yX1_addReel, Cond.selects RX1 yX1_addReel yX1_addReel, Cond.code yX1_addReel cX1_addReel 3 (some .int), Cond.methodLink RX7 124 yX6_takeProgram, Cond.instanceMethod yX6_takeProgram, Cond.selects RX6 yX6_takeProgram yX6_takeProgram, Cond.code yX6_takeProgram cX6_takeProgram 4 none, Cond.methodLink RX6 73 Lib.Math.min.name, Cond.static Lib.Math.min.name, Cond.code Lib.Math.min.name Lib.Math.min.code 2 (some .int), Cond.fieldLink RX6 42 "ReelChanger$Stock" "placeCount" "I", Cond.methodLink RL 61 yX8_setProgram, Cond.instanceMethod yX8_setProgram, Cond.selects RX8 yX8_setProgram yX8_setProgram, Cond.code yX8_setProgram cX8_setProgram 3 (some .int), Cond.constant RX8 103 (-100003)]
def wsL_law_r16 : List Cond := [Cond.methodLink RX8 100 yX8_isRunning, Cond.instanceMethod yX8_isRunning, Cond.selects RX8 yX8_isRunning yX8_isRunning, Cond.code yX8_isRunning cX8_isRunning 1 (some .boolean), Cond.methodLink RX8 104 yX8_tells, Cond.instanceMethod yX8_tells, Cond.selects RX8 yX8_tells yX8_tells, Cond.code yX8_tells cX8_tells 6 (some .int), Cond.methodLink RL 62 yX7_program, Cond.instanceMethod yX7_program, Cond.selects RX7 yX7_program yX7_program, Cond.code yX7_program cX7_program 2 (some .int), Cond.methodLink RX7 128 yX6_numberAtPlace, Cond.instanceMethod yX6_numberAtPlace, Cond.selects RX6 yX6_numberAtPlace yX6_numberAtPlace, Cond.code yX6_numberAtPlace cX6_numberAtPlace 2 (some .int), Cond.methodLink RL 65 yX8_program, Cond.instanceMethod yX8_program, Cond.selects RX8 yX8_program yX8_program, Cond.code yX8_program cX8_program 2 (some .int), Cond.methodLink RL 66 yX7_begin, Cond.instanceMethod yX7_begin, Cond.selects RX7 yX7_begin yX7_begin, Cond.code yX7_begin cX7_begin 1 (some .int)]
def wsL_law_r17 : List Cond := [Cond.fieldLink RX7 131 "ReelChanger$Stock" "placeCount" "I", Cond.methodLink RX7 134 yX5_open, Cond.instanceMethod yX5_open, Cond.selects RX5 yX5_open yX5_open, Cond.code yX5_open cX5_open 2 none, Cond.fieldLink RX5 28 "ReelChanger$Show" "running" "Z", Cond.fieldLink RX5 32 "ReelChanger$Show" "time" "I", Cond.fieldLink RX5 36 "ReelChanger$Show" "dark" "I", Cond.fieldLink RX5 39 "ReelChanger$Show" "missed" "I", Cond.fieldLink RX5 42 "ReelChanger$Show" "late" "I", Cond.fieldLink RX5 45 "ReelChanger$Show" "breaks" "I", Cond.fieldLink RX5 52 "ReelChanger$Show" "front" "I", Cond.fieldLink RX5 58 "ReelChanger$Show" "ranOut" "Z", Cond.fieldLink RX5 78 "ReelChanger$Projector" "state" "I", Cond.fieldLink RX5 81 "ReelChanger$Projector" "frame" "I", Cond.fieldLink RX5 55 "ReelChanger$Show" "threaded" "I", Cond.fieldLink RX5 84 "ReelChanger$Stock" "placeCount" "I", Cond.methodLink RX5 71 yX0_dropAll, Cond.instanceMethod yX0_dropAll, Cond.selects RX0 yX0_dropAll yX0_dropAll, Cond.code yX0_dropAll cX0_dropAll 1 none, Cond.fieldLink RX0 18 "ReelChanger$Operator" "ticksLeft" "I", Cond.fieldLink RX0 22 "ReelChanger$Operator" "rowCount" "I", Cond.methodLink RX5 74 yX2_thread]
def wsL_law_r18 : List Cond := [Cond.instanceMethod yX2_thread, Cond.selects RX2 yX2_thread yX2_thread, Cond.code yX2_thread cX2_thread 2 none, Cond.fieldLink RX2 9 "ReelChanger$Projector" "state" "I", Cond.fieldLink RX2 15 "ReelChanger$Projector" "place" "I", Cond.methodLink RL 69 yX8_begin, Cond.instanceMethod yX8_begin, Cond.selects RX8 yX8_begin yX8_begin, Cond.code yX8_begin cX8_begin 1 (some .int), Cond.methodLink RX8 117 yX8_opens, Cond.instanceMethod yX8_opens, Cond.selects RX8 yX8_opens yX8_opens, Cond.code yX8_opens cX8_opens 2 none, Cond.methodLink RX8 113 yX8_comes, Cond.instanceMethod yX8_comes, Cond.selects RX8 yX8_comes yX8_comes, Cond.code yX8_comes cX8_comes 2 none, Cond.methodLink RX8 107 yX8_on, Cond.static yX8_on, Cond.code yX8_on cX8_on 2 (some .int), Cond.methodLink RL 70 yX7_pass, Cond.instanceMethod yX7_pass, Cond.selects RX7 yX7_pass yX7_pass, Cond.code yX7_pass cX7_pass 2 (some .int)]
def wsL_law_r19 : List Cond := [Cond.methodLink RX7 138 yX5_run, Cond.instanceMethod yX5_run, Cond.selects RX5 yX5_run yX5_run, Cond.code yX5_run cX5_run 5 (some .int), Cond.fieldLink RX5 97 "ReelChanger$Projector" "place" "I", Cond.methodLink RX5 89 yX5_work, Cond.instanceMethod yX5_work, Cond.selects RX5 yX5_work yX5_work, Cond.code yX5_work cX5_work 2 none, Cond.fieldLink RX5 67 "ReelChanger$Operator" "ticksLeft" "I", Cond.fieldLink RX5 64 "ReelChanger$Operator" "rowCount" "I", Cond.methodLink RX5 128 yX0_isWorking, Cond.instanceMethod yX0_isWorking, Cond.selects RX0 yX0_isWorking yX0_isWorking, Cond.code yX0_isWorking cX0_isWorking 1 (some .boolean), Cond.methodLink RX5 132 yX5_finishTask, Cond.instanceMethod yX5_finishTask, Cond.selects RX5 yX5_finishTask yX5_finishTask, Cond.code yX5_finishTask cX5_finishTask 3 none, Cond.fieldLink RX5 155 "ReelChanger$Operator" "workProjector" "I", Cond.fieldLink RX5 158 "ReelChanger$Operator" "workKind" "I", Cond.methodLink RX5 124 yX5_projectorNumbered, Cond.instanceMethod yX5_projectorNumbered, Cond.selects RX5 yX5_projectorNumbered yX5_projectorNumbered]
def wsL_law_r20 : List Cond := [Cond.code yX5_projectorNumbered cX5_projectorNumbered 2 (some (.object "ReelChanger$Projector")), Cond.methodLink RX5 161 yX5_finishRepair, Cond.instanceMethod yX5_finishRepair, Cond.selects RX5 yX5_finishRepair yX5_finishRepair, Cond.code yX5_finishRepair cX5_finishRepair 5 none, Cond.fieldLink RX5 170 "ReelChanger$Reel" "length" "I", Cond.methodLink RX5 173 Lib.Math.min.name, Cond.methodLink RX5 100 yX6_reelAtPlace, Cond.instanceMethod yX6_reelAtPlace, Cond.selects RX6 yX6_reelAtPlace yX6_reelAtPlace, Cond.code yX6_reelAtPlace cX6_reelAtPlace 2 (some (.object "ReelChanger$Reel")), Cond.methodLink RX6 79 yX6_numberAtPlace, Cond.methodLink RX5 165 yX3_repairAt, Cond.instanceMethod yX3_repairAt, Cond.selects RX3 yX3_repairAt yX3_repairAt, Cond.code yX3_repairAt cX3_repairAt 3 none, Cond.methodLink RX5 152 yX6_settingNumbered, Cond.methodLink RX5 135 yX5_ticksOfFirstTask, Cond.instanceMethod yX5_ticksOfFirstTask, Cond.selects RX5 yX5_ticksOfFirstTask yX5_ticksOfFirstTask, Cond.code yX5_ticksOfFirstTask cX5_ticksOfFirstTask 2 (some .int), Cond.methodLink RX5 142 yX0_kindOf, Cond.instanceMethod yX0_kindOf, Cond.selects RX0 yX0_kindOf yX0_kindOf]
def wsL_law_r21 : List Cond := [Cond.code yX0_kindOf cX0_kindOf 2 (some .int), Cond.constant RX0 41 (-100005), Cond.fieldLink RX0 25 "ReelChanger$Operator" "workKind" "I", Cond.methodLink RX0 37 yX0_hasTask, Cond.instanceMethod yX0_hasTask, Cond.selects RX0 yX0_hasTask yX0_hasTask, Cond.code yX0_hasTask cX0_hasTask 2 (some .boolean), Cond.methodLink RX5 146 yX0_projectorOf, Cond.instanceMethod yX0_projectorOf, Cond.selects RX0 yX0_projectorOf yX0_projectorOf, Cond.code yX0_projectorOf cX0_projectorOf 2 (some .int), Cond.fieldLink RX0 28 "ReelChanger$Operator" "workProjector" "I", Cond.methodLink RX5 149 yX6_clearingTime, Cond.instanceMethod yX6_clearingTime, Cond.selects RX6 yX6_clearingTime yX6_clearingTime, Cond.code yX6_clearingTime cX6_clearingTime 4 (some .int), Cond.fieldLink RX6 85 "ReelChanger$Reel" "length" "I", Cond.methodLink RX6 82 yX6_reelAtPlace, Cond.methodLink RX5 139 yX0_takeUp, Cond.instanceMethod yX0_takeUp, Cond.selects RX0 yX0_takeUp yX0_takeUp, Cond.code yX0_takeUp cX0_takeUp 2 none, Cond.methodLink RX0 31 arraycopyName, Cond.methodLink RX5 93 yX5_frontProjector]
def wsL_law_r22 : List Cond := [Cond.instanceMethod yX5_frontProjector, Cond.selects RX5 yX5_frontProjector yX5_frontProjector, Cond.code yX5_frontProjector cX5_frontProjector 1 (some (.object "ReelChanger$Projector")), Cond.methodLink RX5 104 yX5_startBack, Cond.instanceMethod yX5_startBack, Cond.selects RX5 yX5_startBack yX5_startBack, Cond.code yX5_startBack cX5_startBack 5 none, Cond.methodLink RX5 179 yX5_backProjector, Cond.instanceMethod yX5_backProjector, Cond.selects RX5 yX5_backProjector yX5_backProjector, Cond.code yX5_backProjector cX5_backProjector 1 (some (.object "ReelChanger$Projector")), Cond.methodLink RX5 182 yX5_framesBehindMark, Cond.instanceMethod yX5_framesBehindMark, Cond.selects RX5 yX5_framesBehindMark yX5_framesBehindMark, Cond.code yX5_framesBehindMark cX5_framesBehindMark 3 (some .int), Cond.methodLink RX5 186 yX2_start, Cond.instanceMethod yX2_start, Cond.selects RX2 yX2_start yX2_start, Cond.code yX2_start cX2_start 2 none, Cond.fieldLink RX2 18 "ReelChanger$Projector" "frame" "I", Cond.methodLink RX5 108 yX5_goOn, Cond.static yX5_goOn, Cond.code yX5_goOn cX5_goOn 1 none, Cond.methodLink RX5 189 yX2_isMoving]
def wsL_law_r23 : List Cond := [Cond.instanceMethod yX2_isMoving, Cond.selects RX2 yX2_isMoving yX2_isMoving, Cond.code yX2_isMoving cX2_isMoving 1 (some .boolean), Cond.methodLink RX5 111 yX5_wearSplice, Cond.instanceMethod yX5_wearSplice, Cond.selects RX5 yX5_wearSplice yX5_wearSplice, Cond.code yX5_wearSplice cX5_wearSplice 3 none, Cond.methodLink RX5 192 yX3_breaksAt, Cond.instanceMethod yX3_breaksAt, Cond.selects RX3 yX3_breaksAt yX3_breaksAt, Cond.code yX3_breaksAt cX3_breaksAt 3 (some .boolean), Cond.methodLink RX3 41 Lib.Math.max.name, Cond.methodLink RX5 196 yX0_addFirst, Cond.instanceMethod yX0_addFirst, Cond.selects RX0 yX0_addFirst yX0_addFirst, Cond.code yX0_addFirst cX0_addFirst 3 none, Cond.methodLink RX5 115 yX5_runOut, Cond.instanceMethod yX5_runOut, Cond.selects RX5 yX5_runOut yX5_runOut, Cond.code yX5_runOut cX5_runOut 6 none, Cond.methodLink RX5 200 yX5_orderNextReel, Cond.instanceMethod yX5_orderNextReel, Cond.selects RX5 yX5_orderNextReel yX5_orderNextReel, Cond.code yX5_orderNextReel cX5_orderNextReel 2 none]
def wsL_law_r24 : List Cond := [Cond.methodLink RX5 203 yX0_addLast, Cond.instanceMethod yX0_addLast, Cond.selects RX0 yX0_addLast yX0_addLast, Cond.code yX0_addLast cX0_addLast 3 none, Cond.methodLink RX5 206 yX0_threadTasks, Cond.instanceMethod yX0_threadTasks, Cond.selects RX0 yX0_threadTasks yX0_threadTasks, Cond.code yX0_threadTasks cX0_threadTasks 3 (some .int), Cond.methodLink RX0 42 yX0_kindOf, Cond.methodLink RX5 118 yX5_changeOver, Cond.instanceMethod yX5_changeOver, Cond.selects RX5 yX5_changeOver yX5_changeOver, Cond.code yX5_changeOver cX5_changeOver 2 none, Cond.methodLink RX5 121 yX5_countTick, Cond.instanceMethod yX5_countTick, Cond.selects RX5 yX5_countTick yX5_countTick, Cond.code yX5_countTick cX5_countTick 1 none, Cond.methodLink RL 73 yX8_pass, Cond.instanceMethod yX8_pass, Cond.selects RX8 yX8_pass yX8_pass, Cond.code yX8_pass cX8_pass 2 (some .int), Cond.methodLink RX8 156 yX8_passes, Cond.instanceMethod yX8_passes, Cond.selects RX8 yX8_passes yX8_passes]
def wsL_law_r25 : List Cond := [Cond.code yX8_passes cX8_passes 3 (some .int), Cond.methodLink RX8 153 yX8_ticks, Cond.instanceMethod yX8_ticks, Cond.selects RX8 yX8_ticks yX8_ticks, Cond.code yX8_ticks cX8_ticks 1 none, Cond.methodLink RX8 135 yX8_works, Cond.instanceMethod yX8_works, Cond.selects RX8 yX8_works yX8_works, Cond.code yX8_works cX8_works 2 none, Cond.methodLink RX8 123 yX8_finishes, Cond.instanceMethod yX8_finishes, Cond.selects RX8 yX8_finishes yX8_finishes, Cond.code yX8_finishes cX8_finishes 5 none, Cond.methodLink RX8 120 yX8_lengthOn, Cond.instanceMethod yX8_lengthOn, Cond.selects RX8 yX8_lengthOn yX8_lengthOn, Cond.code yX8_lengthOn cX8_lengthOn 2 (some .int), Cond.methodLink RX8 110 yX8_reelOn, Cond.instanceMethod yX8_reelOn, Cond.selects RX8 yX8_reelOn yX8_reelOn, Cond.code yX8_reelOn cX8_reelOn 2 (some .int), Cond.methodLink RX8 126 yX8_ticksFor, Cond.instanceMethod yX8_ticksFor, Cond.selects RX8 yX8_ticksFor yX8_ticksFor]
def wsL_law_r26 : List Cond := [Cond.code yX8_ticksFor cX8_ticksFor 3 (some .int), Cond.methodLink RX8 138 yX8_starts, Cond.instanceMethod yX8_starts, Cond.selects RX8 yX8_starts yX8_starts, Cond.code yX8_starts cX8_starts 6 none, Cond.methodLink RX8 141 yX8_goes, Cond.instanceMethod yX8_goes, Cond.selects RX8 yX8_goes yX8_goes, Cond.code yX8_goes cX8_goes 2 none, Cond.methodLink RX8 144 yX8_wears, Cond.instanceMethod yX8_wears, Cond.selects RX8 yX8_wears yX8_wears, Cond.code yX8_wears cX8_wears 4 none, Cond.methodLink RX8 147 yX8_runsOut, Cond.instanceMethod yX8_runsOut, Cond.selects RX8 yX8_runsOut yX8_runsOut, Cond.code yX8_runsOut cX8_runsOut 4 none, Cond.methodLink RX8 129 yX8_adds, Cond.instanceMethod yX8_adds, Cond.selects RX8 yX8_adds yX8_adds, Cond.code yX8_adds cX8_adds 2 none, Cond.methodLink RX8 132 yX8_threads, Cond.instanceMethod yX8_threads, Cond.selects RX8 yX8_threads yX8_threads]
def wsL_law_r27 : List Cond := [Cond.code yX8_threads cX8_threads 3 (some .int), Cond.methodLink RX8 150 yX8_changes, Cond.instanceMethod yX8_changes, Cond.selects RX8 yX8_changes yX8_changes, Cond.code yX8_changes cX8_changes 2 none, Cond.methodLink RL 74 yX7_tell, Cond.instanceMethod yX7_tell, Cond.selects RX7 yX7_tell yX7_tell, Cond.code yX7_tell cX7_tell 2 (some .int), Cond.methodLink RX7 142 yX5_count, Cond.instanceMethod yX5_count, Cond.selects RX5 yX5_count yX5_count, Cond.code yX5_count cX5_count 2 (some .int), Cond.constant RX5 70 (-100001), Cond.methodLink RL 77 yX8_tell, Cond.instanceMethod yX8_tell, Cond.selects RX8 yX8_tell yX8_tell, Cond.code yX8_tell cX8_tell 2 (some .int), Cond.methodLink RX8 159 yX8_showTells, Cond.instanceMethod yX8_showTells, Cond.selects RX8 yX8_showTells yX8_showTells, Cond.code yX8_showTells cX8_showTells 2 (some .int), Cond.methodLink RL 78 yX7_projector, Cond.instanceMethod yX7_projector]
def wsL_law_r28 : List Cond := [Cond.selects RX7 yX7_projector yX7_projector, Cond.code yX7_projector cX7_projector 4 (some .int), Cond.fieldLink RX7 149 "ReelChanger$Projector" "state" "I", Cond.fieldLink RX7 154 "ReelChanger$Projector" "place" "I", Cond.fieldLink RX7 161 "ReelChanger$Projector" "frame" "I", Cond.methodLink RX7 145 yX5_projectorNumbered, Cond.methodLink RX7 157 yX2_isAtFrame, Cond.instanceMethod yX2_isAtFrame, Cond.selects RX2 yX2_isAtFrame yX2_isAtFrame, Cond.code yX2_isAtFrame cX2_isAtFrame 1 (some .boolean), Cond.methodLink RL 81 yX8_projector, Cond.instanceMethod yX8_projector, Cond.selects RX8 yX8_projector yX8_projector, Cond.code yX8_projector cX8_projector 3 (some .int), Cond.methodLink RX8 162 yX8_projectorTells, Cond.instanceMethod yX8_projectorTells, Cond.selects RX8 yX8_projectorTells yX8_projectorTells, Cond.code yX8_projectorTells cX8_projectorTells 5 (some .int), Cond.methodLink RL 82 yX7_task, Cond.instanceMethod yX7_task, Cond.selects RX7 yX7_task yX7_task, Cond.code yX7_task cX7_task 4 (some .int), Cond.fieldLink RX7 164 "ReelChanger$Show" "operator" "LReelChanger$Operator;", Cond.methodLink RX7 168 yX0_hasTask]
def wsL_law_r29 : List Cond := [Cond.methodLink RX7 173 yX0_kindOf, Cond.methodLink RX7 176 yX0_projectorOf, Cond.methodLink RL 85 yX8_task, Cond.instanceMethod yX8_task, Cond.selects RX8 yX8_task yX8_task, Cond.code yX8_task cX8_task 4 (some .int), Cond.methodLink RX8 165 yX8_taskAt, Cond.instanceMethod yX8_taskAt, Cond.selects RX8 yX8_taskAt yX8_taskAt, Cond.code yX8_taskAt cX8_taskAt 2 (some .int), Cond.methodLink RL 86 yX7_forecast, Cond.instanceMethod yX7_forecast, Cond.selects RX7 yX7_forecast yX7_forecast, Cond.code yX7_forecast cX7_forecast 2 (some .int), Cond.methodLink RX7 179 yX4_copyFrom, Cond.instanceMethod yX4_copyFrom, Cond.selects RX4 yX4_copyFrom yX4_copyFrom, Cond.code yX4_copyFrom cX4_copyFrom 2 none, Cond.methodLink RX4 23 yX6_copyFrom, Cond.instanceMethod yX6_copyFrom, Cond.selects RX6 yX6_copyFrom yX6_copyFrom, Cond.code yX6_copyFrom cX6_copyFrom 4 none, Cond.methodLink RX6 38 yX3_copyFrom, Cond.instanceMethod yX3_copyFrom]
def wsL_law_r30 : List Cond := [Cond.selects RX3 yX3_copyFrom yX3_copyFrom, Cond.code yX3_copyFrom cX3_copyFrom 2 none, Cond.methodLink RX3 25 arraycopyName, Cond.methodLink RX6 45 yX6_takeProgram, Cond.methodLink RX4 27 yX5_copyFrom, Cond.instanceMethod yX5_copyFrom, Cond.selects RX5 yX5_copyFrom yX5_copyFrom, Cond.code yX5_copyFrom cX5_copyFrom 2 none, Cond.methodLink RX5 48 yX0_copyFrom, Cond.instanceMethod yX0_copyFrom, Cond.selects RX0 yX0_copyFrom yX0_copyFrom, Cond.code yX0_copyFrom cX0_copyFrom 2 none, Cond.methodLink RX5 61 yX2_copyFrom, Cond.instanceMethod yX2_copyFrom, Cond.selects RX2 yX2_copyFrom yX2_copyFrom, Cond.code yX2_copyFrom cX2_copyFrom 2 none, Cond.methodLink RX7 183 yX7_foretold, Cond.instanceMethod yX7_foretold, Cond.selects RX7 yX7_foretold yX7_foretold, Cond.code yX7_foretold cX7_foretold 3 (some .int), Cond.fieldLink RX7 225 "ReelChanger$Show" "time" "I", Cond.fieldLink RX7 228 "ReelChanger$Show" "dark" "I", Cond.fieldLink RX7 231 "ReelChanger$Show" "missed" "I", Cond.fieldLink RX7 234 "ReelChanger$Show" "late" "I"]
def wsL_law_r31 : List Cond := [Cond.fieldLink RX7 237 "ReelChanger$Show" "breaks" "I", Cond.methodLink RL 89 yX8_forecast, Cond.instanceMethod yX8_forecast, Cond.selects RX8 yX8_forecast yX8_forecast, Cond.code yX8_forecast cX8_forecast 2 (some .int), Cond.methodLink RX8 174 yX8_forecastNow, Cond.instanceMethod yX8_forecastNow, Cond.selects RX8 yX8_forecastNow yX8_forecastNow, Cond.code yX8_forecastNow cX8_forecastNow 4 (some .int), Cond.methodLink RX8 168 yX8_keeps, Cond.instanceMethod yX8_keeps, Cond.selects RX8 yX8_keeps yX8_keeps, Cond.code yX8_keeps cX8_keeps 2 none, Cond.methodLink RX8 171 yX8_comesBack, Cond.instanceMethod yX8_comesBack, Cond.selects RX8 yX8_comesBack yX8_comesBack, Cond.code yX8_comesBack cX8_comesBack 2 none, Cond.methodLink RL 90 yX7_darkWith, Cond.instanceMethod yX7_darkWith, Cond.selects RX7 yX7_darkWith yX7_darkWith, Cond.code yX7_darkWith cX7_darkWith 4 (some .int), Cond.methodLink RL 93 yX8_darkWith, Cond.instanceMethod yX8_darkWith, Cond.selects RX8 yX8_darkWith yX8_darkWith]
def wsL_law_r32 : List Cond := [Cond.code yX8_darkWith cX8_darkWith 5 (some .int), Cond.methodLink RL 94 yX7_save, Cond.instanceMethod yX7_save, Cond.selects RX7 yX7_save yX7_save, Cond.code yX7_save cX7_save 3 (some .int), Cond.methodLink RL 97 yX8_save, Cond.instanceMethod yX8_save, Cond.selects RX8 yX8_save yX8_save, Cond.code yX8_save cX8_save 3 (some .int), Cond.methodLink RL 98 yX7_restore, Cond.instanceMethod yX7_restore, Cond.selects RX7 yX7_restore yX7_restore, Cond.code yX7_restore cX7_restore 3 (some .int), Cond.methodLink RL 101 yX8_restore, Cond.instanceMethod yX8_restore, Cond.selects RX8 yX8_restore yX8_restore, Cond.code yX8_restore cX8_restore 3 (some .int), Cond.methodLink RL 102 yX7_checksum, Cond.instanceMethod yX7_checksum, Cond.selects RX7 yX7_checksum yX7_checksum, Cond.code yX7_checksum cX7_checksum 3 (some .long), Cond.constantLong RX7 186 (139), Cond.methodLink RX7 188 yX7_sumStock, Cond.instanceMethod yX7_sumStock]
def wsL_law_r33 : List Cond := [Cond.selects RX7 yX7_sumStock yX7_sumStock, Cond.code yX7_sumStock cX7_sumStock 7 (some .long), Cond.methodLink RX7 195 yX7_mix, Cond.static yX7_mix, Cond.code yX7_mix cX7_mix 4 (some .long), Cond.constantLong RX7 244 (31), Cond.methodLink RX7 199 yX7_sumReel, Cond.instanceMethod yX7_sumReel, Cond.selects RX7 yX7_sumReel yX7_sumReel, Cond.code yX7_sumReel cX7_sumReel 8 (some .long), Cond.methodLink RX7 209 yX7_reel, Cond.methodLink RX7 212 yX7_spliceAt, Cond.methodLink RX7 203 yX6_settingNumbered, Cond.methodLink RX7 206 yX7_program, Cond.methodLink RX7 192 yX7_sumShow, Cond.instanceMethod yX7_sumShow, Cond.selects RX7 yX7_sumShow yX7_sumShow, Cond.code yX7_sumShow cX7_sumShow 7 (some .long), Cond.methodLink RX7 216 yX7_tell, Cond.methodLink RX7 219 yX7_projector, Cond.methodLink RX7 222 yX7_task, Cond.methodLink RL 106 yX8_checksum, Cond.instanceMethod yX8_checksum, Cond.selects RX8 yX8_checksum yX8_checksum]
def wsL_law_r34 : List Cond := [Cond.code yX8_checksum cX8_checksum 5 (some .long), Cond.constantLong RX8 179 (139), Cond.methodLink RX8 181 yX8_more, Cond.static yX8_more, Cond.code yX8_more cX8_more 3 (some .long), Cond.constantLong RX8 177 (31)]
def wsL_law : List Cond := (wsL_law_r1 ++ (wsL_law_r2 ++ (wsL_law_r3 ++ (wsL_law_r4 ++ (wsL_law_r5 ++ (wsL_law_r6 ++ (wsL_law_r7 ++ (wsL_law_r8 ++ (wsL_law_r9 ++ (wsL_law_r10 ++ (wsL_law_r11 ++ (wsL_law_r12 ++ (wsL_law_r13 ++ (wsL_law_r14 ++ (wsL_law_r15 ++ (wsL_law_r16 ++ (wsL_law_r17 ++ (wsL_law_r18 ++ (wsL_law_r19 ++ (wsL_law_r20 ++ (wsL_law_r21 ++ (wsL_law_r22 ++ (wsL_law_r23 ++ (wsL_law_r24 ++ (wsL_law_r25 ++ (wsL_law_r26 ++ (wsL_law_r27 ++ (wsL_law_r28 ++ (wsL_law_r29 ++ (wsL_law_r30 ++ (wsL_law_r31 ++ (wsL_law_r32 ++ (wsL_law_r33 ++ wsL_law_r34))))))))))))))))))))))))))))))))) ++ wsX70 ++ wsX80 ++ wsX40 ++ wsX10 ++ wsX60 ++ wsX50 ++ wsX30 ++ wsX00 ++ wsX20 ++ ([] : List Cond)
theorem inJ9 : ∀ w ∈ wsJ90, w ∈ lw_tbl := by decide +kernel
theorem inJ10 : ∀ w ∈ wsJ100, w ∈ lw_tbl := by decide +kernel
theorem dJ9_max_7cf53_0 : decode cJ9_max_7cf53 0 = .ok (.iload_n 0, 1) := by decide +kernel
theorem dJ9_max_7cf53_1 : decode cJ9_max_7cf53 1 = .ok (.iload_n 1, 1) := by decide +kernel
theorem dJ9_max_7cf53_2 : decode cJ9_max_7cf53 2 = .ok (.if_icmp .lt 7, 3) := by decide +kernel
theorem dJ9_max_7cf53_5 : decode cJ9_max_7cf53 5 = .ok (.iload_n 0, 1) := by decide +kernel
theorem dJ9_max_7cf53_6 : decode cJ9_max_7cf53 6 = .ok (.goto 4, 3) := by decide +kernel
theorem dJ9_max_7cf53_9 : decode cJ9_max_7cf53 9 = .ok (.iload_n 1, 1) := by decide +kernel
theorem dJ9_max_7cf53_10 : decode cJ9_max_7cf53 10 = .ok (.ireturn, 1) := by decide +kernel
theorem dJ9_min_7cf53_0 : decode cJ9_min_7cf53 0 = .ok (.iload_n 0, 1) := by decide +kernel
theorem dJ9_min_7cf53_1 : decode cJ9_min_7cf53 1 = .ok (.iload_n 1, 1) := by decide +kernel
theorem dJ9_min_7cf53_2 : decode cJ9_min_7cf53 2 = .ok (.if_icmp .gt 7, 3) := by decide +kernel
theorem dJ9_min_7cf53_5 : decode cJ9_min_7cf53 5 = .ok (.iload_n 0, 1) := by decide +kernel
theorem dJ9_min_7cf53_6 : decode cJ9_min_7cf53 6 = .ok (.goto 4, 3) := by decide +kernel
theorem dJ9_min_7cf53_9 : decode cJ9_min_7cf53 9 = .ok (.iload_n 1, 1) := by decide +kernel
theorem dJ9_min_7cf53_10 : decode cJ9_min_7cf53 10 = .ok (.ireturn, 1) := by decide +kernel
abbrev vwCl : List vw_C := [(RX0, TX0, 6), (RX1, TX1, 6), (RX2, TX2, 3), (RX3, TX3, 4), (RX4, TX4, 2), (RX5, TX5, 12), (RX6, TX6, 5), (RX7, TX7, 4), (RX8, TX8, 15)]
end
section
/-! ===== numbers: an int of the machine is rc_o of a whole number ===== -/
abbrev rc_M : Type := Nat → Int → Int
def rc_o (z : Int) : Int32 := Int32.ofInt z
def rc_R (z : Int) : Prop := -2147483648 ≤ z ∧ z < 2147483648
theorem rc_t {z : Int} (h : rc_R z) : (rc_o z).toInt = z := by
  obtain ⟨h1, h2⟩ := h
  exact Int32.toInt_ofInt_of_le (by omega) (by omega)
theorem rc_lt {a b : Int} (ha : rc_R a) (hb : rc_R b) : rc_o a < rc_o b ↔ a < b := by rw [Int32.lt_iff_toInt_lt, rc_t ha, rc_t hb]
theorem rc_le {a b : Int} (ha : rc_R a) (hb : rc_R b) : rc_o a ≤ rc_o b ↔ a ≤ b := by rw [Int32.le_iff_toInt_le, rc_t ha, rc_t hb]
theorem rc_eq {a b : Int} (ha : rc_R a) (hb : rc_R b) : rc_o a = rc_o b ↔ a = b := by rw [← Int32.toInt_inj, rc_t ha, rc_t hb]
theorem rc_R0 : rc_R 0 := ⟨by decide, by decide⟩
theorem rc_0 : (0 : Int32) = rc_o 0 := rfl
theorem rc_sur (x : Int32) : rc_o x.toInt = x := Int32.ofInt_toInt x
theorem rc_Rx (x : Int32) : rc_R x.toInt := by
  have h1 := x.le_toInt
  have h2 := x.toInt_lt
  exact ⟨by omega, by omega⟩
theorem rc_cl {z : Int} (h : 0 ≤ z) (h2 : z < 2147483648) : (rc_o z).toNatClampNeg = z.toNat := Int32.toNatClampNeg_ofInt_of_le (by omega) (by omega)
theorem rc_in {z : Int} {n : Nat} (hn : n < 2147483648) (h : 0 ≤ z ∧ z < n) : vp_in (rc_o z) n := by
  rw [vp_in_iff, rc_t ⟨by omega, by omega⟩]
  exact ⟨h.1, h.2⟩
theorem rc_add (a b : Int) : rc_o a + rc_o b = rc_o (a + b) := (Int32.ofInt_add a b).symm
theorem rc_sub (a b : Int) : rc_o a - rc_o b = rc_o (a - b) := (Int32.ofInt_sub a b).symm
theorem rc_mul (a b : Int) : rc_o a * rc_o b = rc_o (a * b) := (Int32.ofInt_mul a b).symm
theorem rc_neg (a : Int) : -(rc_o a) = rc_o (-a) := (Int32.ofInt_neg a).symm
theorem rc_div {a b : Int} (ha : 0 ≤ a ∧ a < 2147483648) (hb : 0 < b ∧ b < 2147483648) : rc_o a / rc_o b = rc_o (a / b) := by
  have h0 : 0 ≤ a / b := Int.ediv_nonneg ha.1 (by omega)
  have h1 : a / b ≤ a := Int.ediv_le_self b ha.1
  apply Int32.toInt_inj.mp
  rw [Int32.toInt_div_of_ne_left, rc_t ⟨by omega, by omega⟩, rc_t ⟨by omega, by omega⟩, rc_t ⟨by omega, by omega⟩, Int.tdiv_eq_ediv_of_nonneg ha.1]
  intro h
  have h2 := congrArg Int32.toInt h
  rw [rc_t ⟨by omega, by omega⟩] at h2
  have h3 : Int32.minValue.toInt = -2147483648 := by decide
  omega
theorem rc_rem {a b : Int} (ha : 0 ≤ a ∧ a < 2147483648) (hb : 0 < b ∧ b < 2147483648) : rc_o a - rc_o a / rc_o b * rc_o b = rc_o (a % b) := by
  rw [rc_div ha hb, rc_mul, rc_sub, Int.emod_def, Int.mul_comm]
theorem rc_nz {b : Int} (hb : 0 < b ∧ b < 2147483648) : ¬ rc_o b = 0 := by
  rw [rc_0, rc_eq ⟨by omega, by omega⟩ rc_R0]
  omega
theorem rc_max {x y : Int} (hx : rc_R x) (hy : rc_R y) : (if rc_o x < rc_o y then rc_o y else rc_o x) = rc_o (max x y) := by
  by_cases h : x < y
  · rw [if_pos ((rc_lt hx hy).mpr h), show max x y = y by omega]
  · rw [if_neg (fun q => h ((rc_lt hx hy).mp q)), show max x y = x by omega]
theorem rc_min {x y : Int} (hx : rc_R x) (hy : rc_R y) : (if rc_o y < rc_o x then rc_o y else rc_o x) = rc_o (min x y) := by
  by_cases h : y < x
  · rw [if_pos ((rc_lt hy hx).mpr h), show min x y = y by omega]
  · rw [if_neg (fun q => h ((rc_lt hy hx).mp q)), show min x y = x by omega]
/-! ===== memory ===== -/
def rc_u (f : Int → Int) (k x : Int) : Int → Int := fun j => if j = k then x else f j
def rc_w (I : rc_M) (a : Nat) (f : Int → Int) : rc_M := fun b => if b = a then f else I b
def rc_s (I : rc_M) (a : Nat) (k x : Int) : rc_M := rc_w I a (rc_u (I a) k x)
theorem rc_w_s (I : rc_M) (a : Nat) (f : Int → Int) : rc_w I a f a = f := by simp [rc_w]
theorem rc_w_n (I : rc_M) {a b : Nat} (f : Int → Int) (h : b ≠ a) : rc_w I a f b = I b := by simp [rc_w, h]
theorem rc_w_w (I : rc_M) (a : Nat) (f g : Int → Int) : rc_w (rc_w I a f) a g = rc_w I a g := by
  funext b
  by_cases h : b = a
  · simp [rc_w, h]
  · simp [rc_w, h]
theorem rc_w_id (I : rc_M) (a : Nat) : rc_w I a (I a) = I := by
  funext b
  by_cases h : b = a
  · simp [rc_w, h]
  · simp [rc_w, h]
theorem rc_u_s (f : Int → Int) (k x : Int) : rc_u f k x k = x := by simp [rc_u]
theorem rc_u_n (f : Int → Int) {k j : Int} (x : Int) (h : j ≠ k) : rc_u f k x j = f j := by simp [rc_u, h]
/-! ===== worlds: classes' numbers, array classes, addresses, what a cell of an address is ===== -/
def rc_G : Type := va_G × (ClassId × ClassId × ClassId × ClassId) × List Nat × (Nat → (Int → Int) → va_E)
def rc_D (G : rc_G) : va_G := G.1
def rc_cI (G : rc_G) : ClassId := G.2.1.1
def rc_cZ (G : rc_G) : ClassId := G.2.1.2.1
def rc_cE (G : rc_G) : ClassId := G.2.1.2.2.1
def rc_cM (G : rc_G) : ClassId := G.2.1.2.2.2
def rc_L (G : rc_G) : List Nat := G.2.2.1
def rc_h (G : rc_G) : Nat → (Int → Int) → va_E := G.2.2.2
def rc_ty (G : rc_G) : List (ClassId × FieldType) := [(rc_cI G, .int), (rc_cZ G, .boolean), (rc_cE G, .object "ReelChanger$Reel"), (rc_cM G, .object "ReelChanger$Room")]
def rc_f (G : rc_G) (I : rc_M) : Nat → va_E := fun a => rc_h G a (I a)
def rc_A (G : rc_G) : Nat → Prop := fun q => q ∈ rc_L G
def rc_P (G : rc_G) (I : rc_M) (H : Heap) : Prop := va_P (rc_D G) vwCl (va_pl (rc_L G) (rc_f G I)) H
def rc_is (G : rc_G) (a : Nat) (shp : (Int → Int) → va_E) : Prop := a ∈ rc_L G ∧ ∀ d, rc_h G a d = shp d
theorem rc_get {L : List Nat} {f : Nat → va_E} {a : Nat} (h : a ∈ L) : ∃ k : Nat, (va_pl L f)[k]? = some (a, f a) := va_pl_get (X := []) h
theorem rc_Dd {L : List Nat} {f : Nat → va_E} {A : Nat → Prop} (hn : L.Nodup) (hA : ∀ a ∈ L, A a) : va_D A (va_pl L f) := by
  have key : ∀ (k : Nat) (q : Nat × va_E), (va_pl L f)[k]? = some q → L[k]? = some q.1 := by
    intro k q hk
    simp only [va_pl, List.getElem?_map] at hk
    cases hb : L[k]? with
    | none => rw [hb] at hk; cases hk
    | some b => rw [hb] at hk; cases hk; rfl
  refine ⟨fun i j p q hi hj e => ?_, fun k q hk => hA _ (List.mem_of_getElem? (key k q hk))⟩
  have h1 := key i p hi
  have h2 := key j q hj
  rw [e] at h1
  obtain ⟨a1, a2⟩ := List.getElem?_eq_some_iff.mp h1
  obtain ⟨b1, b2⟩ := List.getElem?_eq_some_iff.mp h2
  have hp := List.pairwise_iff_getElem.mp hn
  rcases Nat.lt_trichotomy i j with h | h | h
  · exact absurd (a2.trans b2.symm) (hp i j a1 b1 h)
  · exact h
  · exact absurd (b2.trans a2.symm) (hp j i b1 a1 h)
theorem rc_pset {L : List Nat} {f g : Nat → va_E} {A : Nat → Prop} {a k : Nat} {e : va_E} (hn : L.Nodup) (hA : ∀ a ∈ L, A a) (h : a ∈ L) (hk : (va_pl L f)[k]? = some (a, f a)) (hg : ∀ b, b ∈ L → va_up f a e b = g b) : (va_pl L f).set k (a, e) = va_pl L g := by
  have h1 := va_pl_set (X := []) (e := e) (rc_Dd (f := f) hn hA) h hk
  refine h1.trans ?_
  show va_pl L _ = _
  exact List.map_congr_left (fun b hb => by rw [hg b hb])
theorem rc_fw (G : rc_G) (I : rc_M) (a : Nat) (d : Int → Int) (e : va_E) (h : rc_h G a d = e) : ∀ b, b ∈ rc_L G → va_up (rc_f G I) a e b = rc_f G (rc_w I a d) b := by
  intro b _
  by_cases hb : b = a
  · subst hb
    rw [va_up_self]
    show e = rc_h G b (rc_w I b d b)
    rw [rc_w_s, h]
  · rw [va_up_ne _ _ hb]
    show rc_h G b (I b) = rc_h G b (rc_w I a d b)
    rw [rc_w_n _ _ hb]
/-! ===== the static tables ===== -/
def rc_tab (l : List Int) (j : Int) : Int := l.getD j.toNat 0
def rc_lo : Int → Int := rc_tab [1, 1, 0, 1, 1, 1, 1, 0]
def rc_hi : Int → Int := rc_tab [90, 99, 50, 200, 50, 200, 500, 20]
def rc_fi : Int → Int := rc_tab [40, 60, 20, 20, 10, 30, 100, 4]
def rc_S1 (n : String) (f : Int → Int) (A : Nat → Prop) (U : State) (H : Heap) : Prop := ∃ t : Nat, va_Z "ReelChanger$Stock" n "[I" (.ref t) A U H ∧ va_T .int t 8 (fun j => .int (rc_o (f j))) A U H
def rc_St (A : Nat → Prop) (U : State) (H : Heap) : Prop := rc_S1 "LEAST_VALUES" rc_lo A U H ∧ rc_S1 "MOST_VALUES" rc_hi A U H ∧ rc_S1 "FIRST_VALUES" rc_fi A U H
theorem rc_S1.go {n : String} {f : Int → Int} {A B : Nat → Prop} {u U : State} {H H1 : Heap} (h : rc_S1 n f A u H) (hvm : u.vm.Alike U.vm) (hq : ∀ a : Nat, a < H.size → ¬ A a → H1[a]? = H[a]?) (hAB : ∀ q, B q → A q) : rc_S1 n f B U H1 := by
  obtain ⟨t, h1, h2⟩ := h
  exact ⟨t, ((va_Z.moved hvm h1).kept hq).narrow hAB, ((va_T.moved hvm h2).kept hq).narrow hAB⟩
theorem rc_St.go {A B : Nat → Prop} {u U : State} {H H1 : Heap} (h : rc_St A u H) (hvm : u.vm.Alike U.vm) (hq : ∀ a : Nat, a < H.size → ¬ A a → H1[a]? = H[a]?) (hAB : ∀ q, B q → A q) : rc_St B U H1 :=
  ⟨h.1.go hvm hq hAB, h.2.1.go hvm hq hAB, h.2.2.go hvm hq hAB⟩
/-! ===== contracts ===== -/
def rc_B (G : rc_G) (I : rc_M) (U : State) : Prop := rc_P G I U.heap ∧ va_K (rc_D G) vwCl (rc_ty G) U ∧ (rc_L G).Nodup ∧ rc_St (rc_A G) U U.heap
def rc_QI (G : rc_G) (post : Int → rc_M → Prop) : Array Value → State → Outcome → State → Prop := va_Qi (fun (r : Int32) (u : rc_M) => ∃ z : Int, r = rc_o z ∧ post z u) (fun u t => rc_P G u t.heap) (rc_A G)
def rc_QL (G : rc_G) (post : Int64 → rc_M → Prop) : Array Value → State → Outcome → State → Prop := va_Ql (fun (r : Int64) (u : rc_M) => post r u) (fun u t => rc_P G u t.heap) (rc_A G)
def rc_QV (G : rc_G) (post : rc_M → Prop) : Array Value → State → Outcome → State → Prop := va_Qv (fun (u : rc_M) => post u) (fun u t => rc_P G u t.heap) (rc_A G)
def rc_QQ (G : rc_G) (post : Option Nat → rc_M → Prop) : Array Value → State → Outcome → State → Prop := va_Qq (fun (r : Option Nat) (u : rc_M) => post r u) (fun u t => rc_P G u t.heap) (rc_A G)
def rc_CI (l : Launch) (y : MethodName) (ws : List Cond) (rm : Room) (G : rc_G) (av : List Value) (I : rc_M) (post : Int → rc_M → Prop) : Prop := Met l y ws rm (va_Pc av (rc_B G I)) (rc_QI G post) 0 0 (rc_A G)
def rc_CL (l : Launch) (y : MethodName) (ws : List Cond) (rm : Room) (G : rc_G) (av : List Value) (I : rc_M) (post : Int64 → rc_M → Prop) : Prop := Met l y ws rm (va_Pc av (rc_B G I)) (rc_QL G post) 0 0 (rc_A G)
def rc_CV (l : Launch) (y : MethodName) (ws : List Cond) (rm : Room) (G : rc_G) (av : List Value) (I : rc_M) (post : rc_M → Prop) : Prop := Met l y ws rm (va_Pc av (rc_B G I)) (rc_QV G post) 0 0 (rc_A G)
def rc_CQ (l : Launch) (y : MethodName) (ws : List Cond) (rm : Room) (G : rc_G) (av : List Value) (I : rc_M) (post : Option Nat → rc_M → Prop) : Prop := Met l y ws rm (va_Pc av (rc_B G I)) (rc_QQ G post) 0 0 (rc_A G)
theorem rc_blind (G : rc_G) (I : rc_M) (av : List Value) : FrameBlind (va_Pc av (rc_B G I)) := by
  intro a U g mk q
  obtain ⟨q0, q1, q2, q3, q4⟩ := q
  exact ⟨q0, q1, va_K.moved (u := U) (U := U.calling g mk a) (Vm.Alike.refl U.vm) q2, q3, q4.go (u := U) (U := U.calling g mk a) (Vm.Alike.refl U.vm) (fun _ _ _ => rfl) (fun _ h => h)⟩
/-- what is fixed in a method's body -/
def rc_X (p : Program) (s : State) (m : MethodId) (args : Array Value) (meth : Method) (c : Code) (cc : ByteArray) (nL : Nat) (Ts : List Cond) (own : String) (G : rc_G) (A : Nat → Prop) : Prop :=
  CallFix p m c cc nL s args Ts own ∧ va_K (rc_D G) vwCl (rc_ty G) s ∧ (rc_L G).Nodup ∧ (∀ a, a ∈ rc_L G → A a) ∧ rc_St A s s.heap ∧ meth.locks = false
/-- from here the machine comes to its goal: at pc, with these locals, this stack, this memory -/
def rc_g (p : Program) (l : Launch) (e : Env) (R : Room) (s : State) (m : MethodId) (args : Array Value) (below : List Frame) (meth : Method) (c : Code) (cells slots : Nat) (Q : State → Prop) (nL : Nat) (G : rc_G) (A : Nat → Prop) (pc : Nat) (lv : List (Nat × Value)) (st : List Value) (I : rc_M) : Prop :=
  ∀ (H : Heap) (locs : List Loc) (ls : Array Slot), lv_has ls nL lv → rc_P G I H → va_S A s.heap H locs → W p l e R s m args below meth c H locs cells slots Q (F0 m pc ls st)
section RC
variable {p : Program} {l : Launch} {e : Env} {R : Room} {s : State} {m : MethodId} {args : Array Value} {below : List Frame} {meth : Method} {c : Code} {cells slots : Nat} {Q : State → Prop}
variable {cc : ByteArray} {nL : Nat} {Ts : List Cond} {own : String} {G : rc_G} {A : Nat → Prop} {pc : Nat} {lv lv' : List (Nat × Value)} {st : List Value} {I : rc_M}
theorem rc_iconst (X : rc_X p s m args meth c cc nL Ts own G A) {n : Int} (hd : decode cc pc = .ok (.iconst n, 1))
    (kk : rc_g p l e R s m args below meth c cells slots Q nL G A (pc + 1) lv (.int (rc_o n) :: st) I) : rc_g p l e R s m args below meth c cells slots Q nL G A pc lv st I :=
  fun H locs ls hl hP hS => lv_iconst X.1.1 X.1.2.1 hd rfl (kk H locs ls hl hP hS)
theorem rc_bipush (X : rc_X p s m args meth c cc nL Ts own G A) {n : Int} (hd : decode cc pc = .ok (.bipush n, 2)) (hv : (Int8.ofInt n).toInt32 = rc_o n)
    (kk : rc_g p l e R s m args below meth c cells slots Q nL G A (pc + 2) lv (.int (rc_o n) :: st) I) : rc_g p l e R s m args below meth c cells slots Q nL G A pc lv st I :=
  fun H locs ls hl hP hS => lv_bipush X.1.1 X.1.2.1 hd hv (kk H locs ls hl hP hS)
theorem rc_sipush (X : rc_X p s m args meth c cc nL Ts own G A) {n : Int} (hd : decode cc pc = .ok (.sipush n, 3)) (hv : (Int16.ofInt n).toInt32 = rc_o n)
    (kk : rc_g p l e R s m args below meth c cells slots Q nL G A (pc + 3) lv (.int (rc_o n) :: st) I) : rc_g p l e R s m args below meth c cells slots Q nL G A pc lv st I :=
  fun H locs ls hl hP hS => lv_sipush X.1.1 X.1.2.1 hd hv (kk H locs ls hl hP hS)
theorem rc_ldc (X : rc_X p s m args meth c cc nL Ts own G A) {idx : Nat} {n : Int} {v : Int32} (hw : Cond.constant own idx v ∈ Ts) (hv : v = rc_o n) (hd : decode cc pc = .ok (.ldc idx, 2))
    (kk : rc_g p l e R s m args below meth c cells slots Q nL G A (pc + 2) lv (.int (rc_o n) :: st) I) : rc_g p l e R s m args below meth c cells slots Q nL G A pc lv st I :=
  fun H locs ls hl hP hS => by subst hv; exact lv_ldc X.1.1 X.1.2.1 X.1.2.2.2.1 (X.1.2.2.2.2 _ hw) hd (kk H locs ls hl hP hS)
theorem rc_ldc2 (X : rc_X p s m args meth c cc nL Ts own G A) {idx : Nat} {v : Int64} (hw : Cond.constantLong own idx v ∈ Ts) (hd : decode cc pc = .ok (.ldc2_w idx, 3))
    (kk : rc_g p l e R s m args below meth c cells slots Q nL G A (pc + 3) lv (.long v :: st) I) : rc_g p l e R s m args below meth c cells slots Q nL G A pc lv st I :=
  fun H locs ls hl hP hS => lv_ldc2 X.1.1 X.1.2.1 X.1.2.2.2.1 (X.1.2.2.2.2 _ hw) hd (kk H locs ls hl hP hS)
theorem rc_iload_n (X : rc_X p s m args meth c cc nL Ts own G A) {k : Fin 4} {i : Nat} {x : Int32} (hd : decode cc pc = .ok (.iload_n k, 1)) (hi : (k : Nat) = i) (j : Nat) (hj : lv[j]? = some (i, .int x))
    (kk : rc_g p l e R s m args below meth c cells slots Q nL G A (pc + 1) lv (.int x :: st) I) : rc_g p l e R s m args below meth c cells slots Q nL G A pc lv st I :=
  fun H locs ls hl hP hS => lv_iload_n X.1.1 X.1.2.1 hd hi (lv_at hl j hj) (kk H locs ls hl hP hS)
theorem rc_iload (X : rc_X p s m args meth c cc nL Ts own G A) {i : Nat} {x : Int32} (hd : decode cc pc = .ok (.iload i, 2)) (j : Nat) (hj : lv[j]? = some (i, .int x))
    (kk : rc_g p l e R s m args below meth c cells slots Q nL G A (pc + 2) lv (.int x :: st) I) : rc_g p l e R s m args below meth c cells slots Q nL G A pc lv st I :=
  fun H locs ls hl hP hS => lv_iload X.1.1 X.1.2.1 hd (lv_at hl j hj) (kk H locs ls hl hP hS)
theorem rc_lload_n (X : rc_X p s m args meth c cc nL Ts own G A) {k : Fin 4} {i : Nat} {x : Int64} (hd : decode cc pc = .ok (.lload_n k, 1)) (hi : (k : Nat) = i) (j : Nat) (hj : lv[j]? = some (i, .long x))
    (kk : rc_g p l e R s m args below meth c cells slots Q nL G A (pc + 1) lv (.long x :: st) I) : rc_g p l e R s m args below meth c cells slots Q nL G A pc lv st I :=
  fun H locs ls hl hP hS => lv_lload_n X.1.1 X.1.2.1 hd hi (lv_at hl j hj) (kk H locs ls hl hP hS)
theorem rc_lload (X : rc_X p s m args meth c cc nL Ts own G A) {i : Nat} {x : Int64} (hd : decode cc pc = .ok (.lload i, 2)) (j : Nat) (hj : lv[j]? = some (i, .long x))
    (kk : rc_g p l e R s m args below meth c cells slots Q nL G A (pc + 2) lv (.long x :: st) I) : rc_g p l e R s m args below meth c cells slots Q nL G A pc lv st I :=
  fun H locs ls hl hP hS => lv_lload X.1.1 X.1.2.1 hd (lv_at hl j hj) (kk H locs ls hl hP hS)
theorem rc_aload_n (X : rc_X p s m args meth c cc nL Ts own G A) {k : Fin 4} {i x : Nat} (hd : decode cc pc = .ok (.aload_n k, 1)) (hi : (k : Nat) = i) (j : Nat) (hj : lv[j]? = some (i, .ref x))
    (kk : rc_g p l e R s m args below meth c cells slots Q nL G A (pc + 1) lv (.ref x :: st) I) : rc_g p l e R s m args below meth c cells slots Q nL G A pc lv st I :=
  fun H locs ls hl hP hS => lv_aload_n X.1.1 X.1.2.1 hd hi (lv_at hl j hj) (kk H locs ls hl hP hS)
theorem rc_aload (X : rc_X p s m args meth c cc nL Ts own G A) {i x : Nat} (hd : decode cc pc = .ok (.aload i, 2)) (j : Nat) (hj : lv[j]? = some (i, .ref x))
    (kk : rc_g p l e R s m args below meth c cells slots Q nL G A (pc + 2) lv (.ref x :: st) I) : rc_g p l e R s m args below meth c cells slots Q nL G A pc lv st I :=
  fun H locs ls hl hP hS => lv_aload X.1.1 X.1.2.1 hd (lv_at hl j hj) (kk H locs ls hl hP hS)
theorem rc_aload_nN (X : rc_X p s m args meth c cc nL Ts own G A) {k : Fin 4} {i : Nat} (hd : decode cc pc = .ok (.aload_n k, 1)) (hi : (k : Nat) = i) (j : Nat) (hj : lv[j]? = some (i, .null))
    (kk : rc_g p l e R s m args below meth c cells slots Q nL G A (pc + 1) lv (.null :: st) I) : rc_g p l e R s m args below meth c cells slots Q nL G A pc lv st I :=
  fun H locs ls hl hP hS => lv_aload_nN X.1.1 X.1.2.1 hd hi (lv_at hl j hj) (kk H locs ls hl hP hS)
theorem rc_aloadN (X : rc_X p s m args meth c cc nL Ts own G A) {i : Nat} (hd : decode cc pc = .ok (.aload i, 2)) (j : Nat) (hj : lv[j]? = some (i, .null))
    (kk : rc_g p l e R s m args below meth c cells slots Q nL G A (pc + 2) lv (.null :: st) I) : rc_g p l e R s m args below meth c cells slots Q nL G A pc lv st I :=
  fun H locs ls hl hP hS => lv_aloadN X.1.1 X.1.2.1 hd (lv_at hl j hj) (kk H locs ls hl hP hS)
theorem rc_istore_n (X : rc_X p s m args meth c cc nL Ts own G A) {k : Fin 4} {i : Nat} {x : Int32} (lv' : List (Nat × Value)) (hd : decode cc pc = .ok (.istore_n k, 1)) (hi : (k : Nat) = i) (hn : i < nL) (hl' : (i, Value.int x) :: lv.filter (fun q => !(q.1 == i) && !(q.1 + 1 == i && q.2.category == 2)) = lv')
    (kk : rc_g p l e R s m args below meth c cells slots Q nL G A (pc + 1) lv' st I) : rc_g p l e R s m args below meth c cells slots Q nL G A pc lv (.int x :: st) I :=
  fun H locs _ hl hP hS => lv_istore_n X.1.1 X.1.2.1 hd hi hl hn hl' (fun ls hl => kk H locs ls hl hP hS)
theorem rc_istore (X : rc_X p s m args meth c cc nL Ts own G A) {i : Nat} {x : Int32} (lv' : List (Nat × Value)) (hd : decode cc pc = .ok (.istore i, 2)) (hn : i < nL) (hl' : (i, Value.int x) :: lv.filter (fun q => !(q.1 == i) && !(q.1 + 1 == i && q.2.category == 2)) = lv')
    (kk : rc_g p l e R s m args below meth c cells slots Q nL G A (pc + 2) lv' st I) : rc_g p l e R s m args below meth c cells slots Q nL G A pc lv (.int x :: st) I :=
  fun H locs _ hl hP hS => lv_istore X.1.1 X.1.2.1 hd hl hn hl' (fun ls hl => kk H locs ls hl hP hS)
theorem rc_lstore_n (X : rc_X p s m args meth c cc nL Ts own G A) {k : Fin 4} {i : Nat} {x : Int64} (lv' : List (Nat × Value)) (hd : decode cc pc = .ok (.lstore_n k, 1)) (hi : (k : Nat) = i) (hn : i + 1 < nL) (hl' : (i, Value.long x) :: lv.filter (fun q => !(q.1 == i) && (!(q.1 == i + 1) && !(q.1 + 1 == i && q.2.category == 2))) = lv')
    (kk : rc_g p l e R s m args below meth c cells slots Q nL G A (pc + 1) lv' st I) : rc_g p l e R s m args below meth c cells slots Q nL G A pc lv (.long x :: st) I :=
  fun H locs _ hl hP hS => lv_lstore_n X.1.1 X.1.2.1 hd hi hl hn hl' (fun ls hl => kk H locs ls hl hP hS)
theorem rc_lstore (X : rc_X p s m args meth c cc nL Ts own G A) {i : Nat} {x : Int64} (lv' : List (Nat × Value)) (hd : decode cc pc = .ok (.lstore i, 2)) (hn : i + 1 < nL) (hl' : (i, Value.long x) :: lv.filter (fun q => !(q.1 == i) && (!(q.1 == i + 1) && !(q.1 + 1 == i && q.2.category == 2))) = lv')
    (kk : rc_g p l e R s m args below meth c cells slots Q nL G A (pc + 2) lv' st I) : rc_g p l e R s m args below meth c cells slots Q nL G A pc lv (.long x :: st) I :=
  fun H locs _ hl hP hS => lv_lstore X.1.1 X.1.2.1 hd hl hn hl' (fun ls hl => kk H locs ls hl hP hS)
theorem rc_astore_n (X : rc_X p s m args meth c cc nL Ts own G A) {k : Fin 4} {i x : Nat} (lv' : List (Nat × Value)) (hd : decode cc pc = .ok (.astore_n k, 1)) (hi : (k : Nat) = i) (hn : i < nL) (hl' : (i, Value.ref x) :: lv.filter (fun q => !(q.1 == i) && !(q.1 + 1 == i && q.2.category == 2)) = lv')
    (kk : rc_g p l e R s m args below meth c cells slots Q nL G A (pc + 1) lv' st I) : rc_g p l e R s m args below meth c cells slots Q nL G A pc lv (.ref x :: st) I :=
  fun H locs _ hl hP hS => lv_astore_n X.1.1 X.1.2.1 hd hi hl hn hl' (fun ls hl => kk H locs ls hl hP hS)
theorem rc_astore (X : rc_X p s m args meth c cc nL Ts own G A) {i x : Nat} (lv' : List (Nat × Value)) (hd : decode cc pc = .ok (.astore i, 2)) (hn : i < nL) (hl' : (i, Value.ref x) :: lv.filter (fun q => !(q.1 == i) && !(q.1 + 1 == i && q.2.category == 2)) = lv')
    (kk : rc_g p l e R s m args below meth c cells slots Q nL G A (pc + 2) lv' st I) : rc_g p l e R s m args below meth c cells slots Q nL G A pc lv (.ref x :: st) I :=
  fun H locs _ hl hP hS => lv_astore X.1.1 X.1.2.1 hd hl hn hl' (fun ls hl => kk H locs ls hl hP hS)
theorem rc_astore_nN (X : rc_X p s m args meth c cc nL Ts own G A) {k : Fin 4} {i : Nat} (lv' : List (Nat × Value)) (hd : decode cc pc = .ok (.astore_n k, 1)) (hi : (k : Nat) = i) (hn : i < nL) (hl' : (i, Value.null) :: lv.filter (fun q => !(q.1 == i) && !(q.1 + 1 == i && q.2.category == 2)) = lv')
    (kk : rc_g p l e R s m args below meth c cells slots Q nL G A (pc + 1) lv' st I) : rc_g p l e R s m args below meth c cells slots Q nL G A pc lv (.null :: st) I :=
  fun H locs _ hl hP hS => lv_astore_nN X.1.1 X.1.2.1 hd hi hl hn hl' (fun ls hl => kk H locs ls hl hP hS)
theorem rc_astoreN (X : rc_X p s m args meth c cc nL Ts own G A) {i : Nat} (lv' : List (Nat × Value)) (hd : decode cc pc = .ok (.astore i, 2)) (hn : i < nL) (hl' : (i, Value.null) :: lv.filter (fun q => !(q.1 == i) && !(q.1 + 1 == i && q.2.category == 2)) = lv')
    (kk : rc_g p l e R s m args below meth c cells slots Q nL G A (pc + 2) lv' st I) : rc_g p l e R s m args below meth c cells slots Q nL G A pc lv (.null :: st) I :=
  fun H locs _ hl hP hS => lv_astoreN X.1.1 X.1.2.1 hd hl hn hl' (fun ls hl => kk H locs ls hl hP hS)
theorem rc_iinc (X : rc_X p s m args meth c cc nL Ts own G A) {i : Nat} {n x : Int} (lv' : List (Nat × Value)) (hd : decode cc pc = .ok (.iinc i n, 3)) (j : Nat) (hj : lv[j]? = some (i, .int (rc_o x))) (hn : i < nL) (hl' : (i, Value.int (rc_o (x + n))) :: lv.filter (fun q => !(q.1 == i) && !(q.1 + 1 == i && q.2.category == 2)) = lv')
    (kk : rc_g p l e R s m args below meth c cells slots Q nL G A (pc + 3) lv' st I) : rc_g p l e R s m args below meth c cells slots Q nL G A pc lv st I :=
  fun H locs _ hl hP hS => lv_iinc X.1.1 X.1.2.1 hd hl hj (rc_add x n) hn hl' (fun ls hl => kk H locs ls hl hP hS)
theorem rc_iadd (X : rc_X p s m args meth c cc nL Ts own G A) {x y : Int} (hd : decode cc pc = .ok (.iadd, 1))
    (kk : rc_g p l e R s m args below meth c cells slots Q nL G A (pc + 1) lv (.int (rc_o (x + y)) :: st) I) : rc_g p l e R s m args below meth c cells slots Q nL G A pc lv (.int (rc_o y) :: .int (rc_o x) :: st) I :=
  fun H locs ls hl hP hS => lv_iadd X.1.1 X.1.2.1 hd (by rw [rc_add]; exact kk H locs ls hl hP hS)
theorem rc_isub (X : rc_X p s m args meth c cc nL Ts own G A) {x y : Int} (hd : decode cc pc = .ok (.isub, 1))
    (kk : rc_g p l e R s m args below meth c cells slots Q nL G A (pc + 1) lv (.int (rc_o (x - y)) :: st) I) : rc_g p l e R s m args below meth c cells slots Q nL G A pc lv (.int (rc_o y) :: .int (rc_o x) :: st) I :=
  fun H locs ls hl hP hS => lv_isub X.1.1 X.1.2.1 hd (by rw [rc_sub]; exact kk H locs ls hl hP hS)
theorem rc_imul (X : rc_X p s m args meth c cc nL Ts own G A) {x y : Int} (hd : decode cc pc = .ok (.imul, 1))
    (kk : rc_g p l e R s m args below meth c cells slots Q nL G A (pc + 1) lv (.int (rc_o (x * y)) :: st) I) : rc_g p l e R s m args below meth c cells slots Q nL G A pc lv (.int (rc_o y) :: .int (rc_o x) :: st) I :=
  fun H locs ls hl hP hS => lv_imul X.1.1 X.1.2.1 hd (by rw [rc_mul]; exact kk H locs ls hl hP hS)
theorem rc_ineg (X : rc_X p s m args meth c cc nL Ts own G A) {x : Int} (hd : decode cc pc = .ok (.ineg, 1))
    (kk : rc_g p l e R s m args below meth c cells slots Q nL G A (pc + 1) lv (.int (rc_o (-x)) :: st) I) : rc_g p l e R s m args below meth c cells slots Q nL G A pc lv (.int (rc_o x) :: st) I :=
  fun H locs ls hl hP hS => lv_ineg X.1.1 X.1.2.1 hd (by
    have h := kk H locs ls hl hP hS
    rw [← rc_neg] at h
    first | exact h | (rw [show (0 : Int32) - rc_o x = -(rc_o x) by simp]; exact h))
theorem rc_idiv (X : rc_X p s m args meth c cc nL Ts own G A) {x y : Int} (hd : decode cc pc = .ok (.idiv, 1)) (hx : 0 ≤ x ∧ x < 2147483648) (hy : 0 < y ∧ y < 2147483648)
    (kk : rc_g p l e R s m args below meth c cells slots Q nL G A (pc + 1) lv (.int (rc_o (x / y)) :: st) I) : rc_g p l e R s m args below meth c cells slots Q nL G A pc lv (.int (rc_o y) :: .int (rc_o x) :: st) I :=
  fun H locs ls hl hP hS => lv_idiv X.1.1 X.1.2.1 hd (rc_nz hy) (by rw [rc_div hx hy]; exact kk H locs ls hl hP hS)
theorem rc_irem (X : rc_X p s m args meth c cc nL Ts own G A) {x y : Int} (hd : decode cc pc = .ok (.irem, 1)) (hx : 0 ≤ x ∧ x < 2147483648) (hy : 0 < y ∧ y < 2147483648)
    (kk : rc_g p l e R s m args below meth c cells slots Q nL G A (pc + 1) lv (.int (rc_o (x % y)) :: st) I) : rc_g p l e R s m args below meth c cells slots Q nL G A pc lv (.int (rc_o y) :: .int (rc_o x) :: st) I :=
  fun H locs ls hl hP hS => lv_irem X.1.1 X.1.2.1 hd (rc_nz hy) (by rw [rc_rem hx hy]; exact kk H locs ls hl hP hS)
theorem rc_i2l (X : rc_X p s m args meth c cc nL Ts own G A) {x : Int} (hd : decode cc pc = .ok (.i2l, 1))
    (kk : rc_g p l e R s m args below meth c cells slots Q nL G A (pc + 1) lv (.long (rc_o x).toInt64 :: st) I) : rc_g p l e R s m args below meth c cells slots Q nL G A pc lv (.int (rc_o x) :: st) I :=
  fun H locs ls hl hP hS => lv_i2l X.1.1 X.1.2.1 hd rfl (kk H locs ls hl hP hS)
theorem rc_ladd (X : rc_X p s m args meth c cc nL Ts own G A) {x y : Int64} (hd : decode cc pc = .ok (.ladd, 1))
    (kk : rc_g p l e R s m args below meth c cells slots Q nL G A (pc + 1) lv (.long (x + y) :: st) I) : rc_g p l e R s m args below meth c cells slots Q nL G A pc lv (.long y :: .long x :: st) I :=
  fun H locs ls hl hP hS => lv_ladd X.1.1 X.1.2.1 hd (kk H locs ls hl hP hS)
theorem rc_lmul (X : rc_X p s m args meth c cc nL Ts own G A) {x y : Int64} (hd : decode cc pc = .ok (.lmul, 1))
    (kk : rc_g p l e R s m args below meth c cells slots Q nL G A (pc + 1) lv (.long (x * y) :: st) I) : rc_g p l e R s m args below meth c cells slots Q nL G A pc lv (.long y :: .long x :: st) I :=
  fun H locs ls hl hP hS => lv_lmul X.1.1 X.1.2.1 hd (kk H locs ls hl hP hS)
theorem rc_dup (X : rc_X p s m args meth c cc nL Ts own G A) {v : Value} (hd : decode cc pc = .ok (.dup, 1)) (hv : v.category = 1)
    (kk : rc_g p l e R s m args below meth c cells slots Q nL G A (pc + 1) lv (v :: v :: st) I) : rc_g p l e R s m args below meth c cells slots Q nL G A pc lv (v :: st) I :=
  fun H locs ls hl hP hS => lv_dup X.1.1 X.1.2.1 hd hv (kk H locs ls hl hP hS)
theorem rc_dup2 (X : rc_X p s m args meth c cc nL Ts own G A) {v w : Value} (hd : decode cc pc = .ok (.dup2, 1)) (hv : v.category = 1) (hw : w.category = 1)
    (kk : rc_g p l e R s m args below meth c cells slots Q nL G A (pc + 1) lv (v :: w :: v :: w :: st) I) : rc_g p l e R s m args below meth c cells slots Q nL G A pc lv (v :: w :: st) I :=
  fun H locs ls hl hP hS => lv_dup2_11 X.1.1 X.1.2.1 hd hv hw (kk H locs ls hl hP hS)
theorem rc_pop (X : rc_X p s m args meth c cc nL Ts own G A) {v : Value} (hd : decode cc pc = .ok (.pop, 1)) (hv : v.category = 1)
    (kk : rc_g p l e R s m args below meth c cells slots Q nL G A (pc + 1) lv st I) : rc_g p l e R s m args below meth c cells slots Q nL G A pc lv (v :: st) I :=
  fun H locs ls hl hP hS => lv_pop X.1.1 X.1.2.1 hd hv (kk H locs ls hl hP hS)
theorem rc_goto (X : rc_X p s m args meth c cc nL Ts own G A) {off : Int} (tgt : Nat) (hd : decode cc pc = .ok (.goto off, 3)) (ht : (pc : Int) + off = (tgt : Int))
    (kk : rc_g p l e R s m args below meth c cells slots Q nL G A tgt lv st I) : rc_g p l e R s m args below meth c cells slots Q nL G A pc lv st I :=
  fun H locs ls hl hP hS => lv_goto X.1.1 X.1.2.1 hd ht (kk H locs ls hl hP hS)
theorem rc_subl (lv' : List (Nat × Value)) (ks : List Nat) (hk : lv_pick lv ks = lv') (kk : rc_g p l e R s m args below meth c cells slots Q nL G A pc lv' st I) : rc_g p l e R s m args below meth c cells slots Q nL G A pc lv st I :=
  fun H locs ls hl hP hS => kk H locs ls (lv_sub hl ks hk) hP hS
theorem rc_null (X : rc_X p s m args meth c cc nL Ts own G A) (hd : decode cc pc = .ok (.aconst_null, 1))
    (kk : rc_g p l e R s m args below meth c cells slots Q nL G A (pc + 1) lv (.null :: st) I) : rc_g p l e R s m args below meth c cells slots Q nL G A pc lv st I :=
  fun H locs ls hl hP hS => lv_null X.1.1 X.1.2.1 hd (kk H locs ls hl hP hS)
theorem rc_nn (X : rc_X p s m args meth c cc nL Ts own G A) {x : Nat} {off : Int} (tgt : Nat) (hd : decode cc pc = .ok (.ifnonnull off, 3)) (ht : (pc : Int) + off = (tgt : Int))
    (kk : rc_g p l e R s m args below meth c cells slots Q nL G A tgt lv st I) : rc_g p l e R s m args below meth c cells slots Q nL G A pc lv (.ref x :: st) I :=
  fun H locs ls hl hP hS => lv_ifnonnull X.1.1 X.1.2.1 hd ht (kk H locs ls hl hP hS)
theorem rc_nnN (X : rc_X p s m args meth c cc nL Ts own G A) {off : Int} (hd : decode cc pc = .ok (.ifnonnull off, 3))
    (kk : rc_g p l e R s m args below meth c cells slots Q nL G A (pc + 3) lv st I) : rc_g p l e R s m args below meth c cells slots Q nL G A pc lv (.null :: st) I :=
  fun H locs ls hl hP hS => lv_ifnonnullN X.1.1 X.1.2.1 hd (kk H locs ls hl hP hS)
theorem rc_nu (X : rc_X p s m args meth c cc nL Ts own G A) {x : Nat} {off : Int} (hd : decode cc pc = .ok (.ifnull off, 3))
    (kk : rc_g p l e R s m args below meth c cells slots Q nL G A (pc + 3) lv st I) : rc_g p l e R s m args below meth c cells slots Q nL G A pc lv (.ref x :: st) I :=
  fun H locs ls hl hP hS => lv_ifnull X.1.1 X.1.2.1 hd (kk H locs ls hl hP hS)
theorem rc_nuN (X : rc_X p s m args meth c cc nL Ts own G A) {off : Int} (tgt : Nat) (hd : decode cc pc = .ok (.ifnull off, 3)) (ht : (pc : Int) + off = (tgt : Int))
    (kk : rc_g p l e R s m args below meth c cells slots Q nL G A tgt lv st I) : rc_g p l e R s m args below meth c cells slots Q nL G A pc lv (.null :: st) I :=
  fun H locs ls hl hP hS => lv_ifnullN X.1.1 X.1.2.1 hd ht (kk H locs ls hl hP hS)
theorem rc_if_eq (X : rc_X p s m args meth c cc nL Ts own G A) {x off : Int} (tgt : Nat) (hd : decode cc pc = .ok (.ifCond .eq off, 3)) (ht : (pc : Int) + off = (tgt : Int)) (hx : rc_R x)
    (kt : x = 0 → rc_g p l e R s m args below meth c cells slots Q nL G A tgt lv st I) (kf : ¬ x = 0 → rc_g p l e R s m args below meth c cells slots Q nL G A (pc + 3) lv st I) : rc_g p l e R s m args below meth c cells slots Q nL G A pc lv (.int (rc_o x) :: st) I :=
  fun H locs ls hl hP hS => lv_if_eq X.1.1 X.1.2.1 hd ht (fun h => kt ((rc_eq hx rc_R0).mp h) H locs ls hl hP hS) (fun h => kf (fun q => h ((rc_eq hx rc_R0).mpr q)) H locs ls hl hP hS)
theorem rc_if_ne (X : rc_X p s m args meth c cc nL Ts own G A) {x off : Int} (tgt : Nat) (hd : decode cc pc = .ok (.ifCond .ne off, 3)) (ht : (pc : Int) + off = (tgt : Int)) (hx : rc_R x)
    (kt : ¬ x = 0 → rc_g p l e R s m args below meth c cells slots Q nL G A tgt lv st I) (kf : x = 0 → rc_g p l e R s m args below meth c cells slots Q nL G A (pc + 3) lv st I) : rc_g p l e R s m args below meth c cells slots Q nL G A pc lv (.int (rc_o x) :: st) I :=
  fun H locs ls hl hP hS => lv_if_ne X.1.1 X.1.2.1 hd ht (fun h => kt (fun q => h ((rc_eq hx rc_R0).mpr q)) H locs ls hl hP hS) (fun h => kf ((rc_eq hx rc_R0).mp h) H locs ls hl hP hS)
theorem rc_if_lt (X : rc_X p s m args meth c cc nL Ts own G A) {x off : Int} (tgt : Nat) (hd : decode cc pc = .ok (.ifCond .lt off, 3)) (ht : (pc : Int) + off = (tgt : Int)) (hx : rc_R x)
    (kt : x < 0 → rc_g p l e R s m args below meth c cells slots Q nL G A tgt lv st I) (kf : ¬ x < 0 → rc_g p l e R s m args below meth c cells slots Q nL G A (pc + 3) lv st I) : rc_g p l e R s m args below meth c cells slots Q nL G A pc lv (.int (rc_o x) :: st) I :=
  fun H locs ls hl hP hS => lv_if_lt X.1.1 X.1.2.1 hd ht (fun h => kt ((rc_lt hx rc_R0).mp h) H locs ls hl hP hS) (fun h => kf (fun q => h ((rc_lt hx rc_R0).mpr q)) H locs ls hl hP hS)
theorem rc_if_ge (X : rc_X p s m args meth c cc nL Ts own G A) {x off : Int} (tgt : Nat) (hd : decode cc pc = .ok (.ifCond .ge off, 3)) (ht : (pc : Int) + off = (tgt : Int)) (hx : rc_R x)
    (kt : 0 ≤ x → rc_g p l e R s m args below meth c cells slots Q nL G A tgt lv st I) (kf : ¬ 0 ≤ x → rc_g p l e R s m args below meth c cells slots Q nL G A (pc + 3) lv st I) : rc_g p l e R s m args below meth c cells slots Q nL G A pc lv (.int (rc_o x) :: st) I :=
  fun H locs ls hl hP hS => lv_if_ge X.1.1 X.1.2.1 hd ht (fun h => kt ((rc_le rc_R0 hx).mp h) H locs ls hl hP hS) (fun h => kf (fun q => h ((rc_le rc_R0 hx).mpr q)) H locs ls hl hP hS)
theorem rc_if_gt (X : rc_X p s m args meth c cc nL Ts own G A) {x off : Int} (tgt : Nat) (hd : decode cc pc = .ok (.ifCond .gt off, 3)) (ht : (pc : Int) + off = (tgt : Int)) (hx : rc_R x)
    (kt : 0 < x → rc_g p l e R s m args below meth c cells slots Q nL G A tgt lv st I) (kf : ¬ 0 < x → rc_g p l e R s m args below meth c cells slots Q nL G A (pc + 3) lv st I) : rc_g p l e R s m args below meth c cells slots Q nL G A pc lv (.int (rc_o x) :: st) I :=
  fun H locs ls hl hP hS => lv_if_gt X.1.1 X.1.2.1 hd ht (fun h => kt ((rc_lt rc_R0 hx).mp h) H locs ls hl hP hS) (fun h => kf (fun q => h ((rc_lt rc_R0 hx).mpr q)) H locs ls hl hP hS)
theorem rc_if_le (X : rc_X p s m args meth c cc nL Ts own G A) {x off : Int} (tgt : Nat) (hd : decode cc pc = .ok (.ifCond .le off, 3)) (ht : (pc : Int) + off = (tgt : Int)) (hx : rc_R x)
    (kt : x ≤ 0 → rc_g p l e R s m args below meth c cells slots Q nL G A tgt lv st I) (kf : ¬ x ≤ 0 → rc_g p l e R s m args below meth c cells slots Q nL G A (pc + 3) lv st I) : rc_g p l e R s m args below meth c cells slots Q nL G A pc lv (.int (rc_o x) :: st) I :=
  fun H locs ls hl hP hS => lv_if_le X.1.1 X.1.2.1 hd ht (fun h => kt ((rc_le hx rc_R0).mp h) H locs ls hl hP hS) (fun h => kf (fun q => h ((rc_le hx rc_R0).mpr q)) H locs ls hl hP hS)
theorem rc_ic_eq (X : rc_X p s m args meth c cc nL Ts own G A) {x y off : Int} (tgt : Nat) (hd : decode cc pc = .ok (.if_icmp .eq off, 3)) (ht : (pc : Int) + off = (tgt : Int)) (hx : rc_R x) (hy : rc_R y)
    (kt : x = y → rc_g p l e R s m args below meth c cells slots Q nL G A tgt lv st I) (kf : ¬ x = y → rc_g p l e R s m args below meth c cells slots Q nL G A (pc + 3) lv st I) : rc_g p l e R s m args below meth c cells slots Q nL G A pc lv (.int (rc_o y) :: .int (rc_o x) :: st) I :=
  fun H locs ls hl hP hS => lv_icmp_eq X.1.1 X.1.2.1 hd ht (fun h => kt ((rc_eq hx hy).mp h) H locs ls hl hP hS) (fun h => kf (fun q => h ((rc_eq hx hy).mpr q)) H locs ls hl hP hS)
theorem rc_ic_ne (X : rc_X p s m args meth c cc nL Ts own G A) {x y off : Int} (tgt : Nat) (hd : decode cc pc = .ok (.if_icmp .ne off, 3)) (ht : (pc : Int) + off = (tgt : Int)) (hx : rc_R x) (hy : rc_R y)
    (kt : ¬ x = y → rc_g p l e R s m args below meth c cells slots Q nL G A tgt lv st I) (kf : x = y → rc_g p l e R s m args below meth c cells slots Q nL G A (pc + 3) lv st I) : rc_g p l e R s m args below meth c cells slots Q nL G A pc lv (.int (rc_o y) :: .int (rc_o x) :: st) I :=
  fun H locs ls hl hP hS => lv_icmp_ne X.1.1 X.1.2.1 hd ht (fun h => kt (fun q => h ((rc_eq hx hy).mpr q)) H locs ls hl hP hS) (fun h => kf ((rc_eq hx hy).mp h) H locs ls hl hP hS)
theorem rc_ic_lt (X : rc_X p s m args meth c cc nL Ts own G A) {x y off : Int} (tgt : Nat) (hd : decode cc pc = .ok (.if_icmp .lt off, 3)) (ht : (pc : Int) + off = (tgt : Int)) (hx : rc_R x) (hy : rc_R y)
    (kt : x < y → rc_g p l e R s m args below meth c cells slots Q nL G A tgt lv st I) (kf : ¬ x < y → rc_g p l e R s m args below meth c cells slots Q nL G A (pc + 3) lv st I) : rc_g p l e R s m args below meth c cells slots Q nL G A pc lv (.int (rc_o y) :: .int (rc_o x) :: st) I :=
  fun H locs ls hl hP hS => lv_icmp_lt X.1.1 X.1.2.1 hd ht (fun h => kt ((rc_lt hx hy).mp h) H locs ls hl hP hS) (fun h => kf (fun q => h ((rc_lt hx hy).mpr q)) H locs ls hl hP hS)
theorem rc_ic_ge (X : rc_X p s m args meth c cc nL Ts own G A) {x y off : Int} (tgt : Nat) (hd : decode cc pc = .ok (.if_icmp .ge off, 3)) (ht : (pc : Int) + off = (tgt : Int)) (hx : rc_R x) (hy : rc_R y)
    (kt : y ≤ x → rc_g p l e R s m args below meth c cells slots Q nL G A tgt lv st I) (kf : ¬ y ≤ x → rc_g p l e R s m args below meth c cells slots Q nL G A (pc + 3) lv st I) : rc_g p l e R s m args below meth c cells slots Q nL G A pc lv (.int (rc_o y) :: .int (rc_o x) :: st) I :=
  fun H locs ls hl hP hS => lv_icmp_ge X.1.1 X.1.2.1 hd ht (fun h => kt ((rc_le hy hx).mp h) H locs ls hl hP hS) (fun h => kf (fun q => h ((rc_le hy hx).mpr q)) H locs ls hl hP hS)
theorem rc_ic_gt (X : rc_X p s m args meth c cc nL Ts own G A) {x y off : Int} (tgt : Nat) (hd : decode cc pc = .ok (.if_icmp .gt off, 3)) (ht : (pc : Int) + off = (tgt : Int)) (hx : rc_R x) (hy : rc_R y)
    (kt : y < x → rc_g p l e R s m args below meth c cells slots Q nL G A tgt lv st I) (kf : ¬ y < x → rc_g p l e R s m args below meth c cells slots Q nL G A (pc + 3) lv st I) : rc_g p l e R s m args below meth c cells slots Q nL G A pc lv (.int (rc_o y) :: .int (rc_o x) :: st) I :=
  fun H locs ls hl hP hS => lv_icmp_gt X.1.1 X.1.2.1 hd ht (fun h => kt ((rc_lt hy hx).mp h) H locs ls hl hP hS) (fun h => kf (fun q => h ((rc_lt hy hx).mpr q)) H locs ls hl hP hS)
theorem rc_ic_le (X : rc_X p s m args meth c cc nL Ts own G A) {x y off : Int} (tgt : Nat) (hd : decode cc pc = .ok (.if_icmp .le off, 3)) (ht : (pc : Int) + off = (tgt : Int)) (hx : rc_R x) (hy : rc_R y)
    (kt : x ≤ y → rc_g p l e R s m args below meth c cells slots Q nL G A tgt lv st I) (kf : ¬ x ≤ y → rc_g p l e R s m args below meth c cells slots Q nL G A (pc + 3) lv st I) : rc_g p l e R s m args below meth c cells slots Q nL G A pc lv (.int (rc_o y) :: .int (rc_o x) :: st) I :=
  fun H locs ls hl hP hS => lv_icmp_le X.1.1 X.1.2.1 hd ht (fun h => kt ((rc_le hx hy).mp h) H locs ls hl hP hS) (fun h => kf (fun q => h ((rc_le hx hy).mpr q)) H locs ls hl hP hS)
theorem rc_tsAt (X : rc_X p s m args meth c cc nL Ts own G A) {dflt lo hi off x : Int} {offs : Array Int} {len : Nat} (tgt : Nat) (v : Int) (hd : decode cc pc = .ok (.tableswitch dflt lo hi offs, len)) (hx : rc_R x) (hv : x = v) (h1 : ¬ v < lo) (h2 : ¬ hi < v) (ho : offs[(v - lo).toNat]? = some off) (ht : (pc : Int) + off = (tgt : Int))
    (kk : rc_g p l e R s m args below meth c cells slots Q nL G A tgt lv st I) : rc_g p l e R s m args below meth c cells slots Q nL G A pc lv (.int (rc_o x) :: st) I :=
  fun H locs ls hl hP hS => by
    subst hv
    exact lv_tableIn X.1.1 X.1.2.1 hd (by rw [rc_t hx]; exact h1) (by rw [rc_t hx]; exact h2) (by rw [rc_t hx]; exact ho) ht (kk H locs ls hl hP hS)
theorem rc_tsOut (X : rc_X p s m args meth c cc nL Ts own G A) {dflt lo hi x : Int} {offs : Array Int} {len : Nat} (tgt : Nat) (hd : decode cc pc = .ok (.tableswitch dflt lo hi offs, len)) (hx : rc_R x) (h : x < lo ∨ hi < x) (ht : (pc : Int) + dflt = (tgt : Int))
    (kk : rc_g p l e R s m args below meth c cells slots Q nL G A tgt lv st I) : rc_g p l e R s m args below meth c cells slots Q nL G A pc lv (.int (rc_o x) :: st) I :=
  fun H locs ls hl hP hS => lv_tableOut X.1.1 X.1.2.1 hd (by rw [rc_t hx]; exact h) ht (kk H locs ls hl hP hS)
theorem rc_look (X : rc_X p s m args meth c cc nL Ts own G A) {dflt off x : Int} {ps : Array (Int × Int)} {len : Nat} (tgt : Nat) (hd : decode cc pc = .ok (.lookupswitch dflt ps, len)) (hp : (ps.toList.zip (ps.toList.drop 1)).all (fun (a, next) => a.1 < next.1) = true) (hx : rc_R x) (ho : Op.lookupswitch.offset ps.toList dflt x = off) (ht : (pc : Int) + off = (tgt : Int))
    (kk : rc_g p l e R s m args below meth c cells slots Q nL G A tgt lv st I) : rc_g p l e R s m args below meth c cells slots Q nL G A pc lv (.int (rc_o x) :: st) I :=
  fun H locs ls hl hP hS => lv_lookup X.1.1 X.1.2.1 hd hp (by rw [rc_t hx]; exact ho) ht (kk H locs ls hl hP hS)
end RC
end
section
/-! ===== shapes of arrays ===== -/
def rc_sI (G : rc_G) (n : Nat) : (Int → Int) → va_E := fun d => .inl (rc_cI G, n, .inl (fun j : Nat => rc_o (d j)))
def rc_sZ (G : rc_G) (n : Nat) : (Int → Int) → va_E := fun d => .inl (rc_cZ G, n, .inl (fun j : Nat => rc_o (d j)))
def rc_sE (G : rc_G) (a : Nat) : (Int → Int) → va_E := fun _ => .inl (rc_cE G, 10, .inr (.inr (.inr (.inr (fun j : Nat => some (a + 3 + 3 * j))))))
def rc_rd (z : Int) : Option Nat := if z ≤ 0 then none else some z.toNat
def rc_sM (G : rc_G) : (Int → Int) → va_E := fun d => .inl (rc_cM G, 2, .inr (.inr (.inr (.inr (fun j : Nat => rc_rd (d j))))))
theorem rc_row {d : Int → Int} {i x : Int} {n : Nat} (hi : 0 ≤ i ∧ i < n) (hn : n < 2147483648) : (fun j : Nat => rc_o (rc_u d i x j)) = upd (fun j : Nat => rc_o (d j)) (rc_o i).toNatClampNeg (rc_o x) := by
  funext j
  rw [rc_cl hi.1 (by omega)]
  unfold upd rc_u
  by_cases h : j = i.toNat
  · rw [if_pos (by omega), if_pos h]
  · rw [if_neg (by omega), if_neg h]
theorem rc_nz1 {x : Int} (h : x = 0 ∨ x = 1) : vp_nar .boolean (rc_o x) = rc_o x := by
  rcases h with rfl | rfl <;> decide +kernel
theorem rc_nz2 {x : Int} (h : x = 0 ∨ x = 1) : narrow .boolean (.int (rc_o x)) = .int (rc_o x) := by
  rcases h with rfl | rfl <;> decide +kernel
theorem rc_nz3 {x : Int} (h : x = 0 ∨ x = 1) : fits .boolean (.int (rc_o x)) = true := by
  rcases h with rfl | rfl <;> decide +kernel
def rc_cpy (I : rc_M) (a b : Nat) (sp dp n : Int) : rc_M := rc_w I b (fun j => if dp ≤ j ∧ j < dp + n then I a (sp + (j - dp)) else I b j)
theorem rc_cpyrow {f g : Int → Int} {sp dp n : Int} (h1 : 0 ≤ sp ∧ sp < 2147483648) (h2 : 0 ≤ dp ∧ dp < 2147483648) (h3 : 0 ≤ n ∧ n < 2147483648) :
    (fun j : Nat => rc_o (if dp ≤ (j : Int) ∧ (j : Int) < dp + n then f (sp + (j - dp)) else g j)) = va_cpy (fun j : Nat => rc_o (f j)) (fun j : Nat => rc_o (g j)) (rc_o sp).toNatClampNeg (rc_o dp).toNatClampNeg (rc_o n).toNatClampNeg := by
  funext j
  rw [rc_cl h1.1 h1.2, rc_cl h2.1 h2.2, rc_cl h3.1 h3.2]
  unfold va_cpy
  by_cases h : dp ≤ (j : Int) ∧ (j : Int) < dp + n
  · rw [if_pos h, if_pos (by omega), show sp + ((j : Int) - dp) = ((sp.toNat + (j - dp.toNat) : Nat) : Int) by omega]
  · rw [if_neg h, if_neg (by omega)]
section RC2
variable {p : Program} {l : Launch} {e : Env} {R : Room} {s : State} {m : MethodId} {args : Array Value} {below : List Frame} {meth : Method} {c : Code} {cells slots : Nat} {Q : State → Prop}
variable {cc : ByteArray} {nL : Nat} {Ts : List Cond} {own : String} {G : rc_G} {A : Nat → Prop} {pc : Nat} {lv lv' : List (Nat × Value)} {st : List Value} {I : rc_M}
theorem rc_iald (X : rc_X p s m args meth c cc nL Ts own G A) {a n : Nat} {i : Int} (T : rc_is G a (rc_sI G n)) (hn : n < 2147483648) (hd : decode cc pc = .ok (.iaload, 1)) (hi : 0 ≤ i ∧ i < n)
    (kk : rc_g p l e R s m args below meth c cells slots Q nL G A (pc + 1) lv (.int (rc_o (I a i)) :: st) I) : rc_g p l e R s m args below meth c cells slots Q nL G A pc lv (.int (rc_o i) :: .ref a :: st) I := by
  intro H locs ls hl hP hS
  obtain ⟨k, hk⟩ := rc_get (f := rc_f G I) T.1
  have hk' : (va_pl (rc_L G) (rc_f G I))[k]? = some (a, rc_sI G n (I a)) := hk.trans (congrArg (fun e => some (a, e)) (T.2 (I a)))
  have h := kk H locs ls hl hP hS
  have e1 : rc_o (I a (((rc_o i).toNatClampNeg : Nat) : Int)) = rc_o (I a i) := by rw [rc_cl hi.1 (by omega), Int.toNat_of_nonneg hi.1]
  rw [← e1] at h
  exact va_iald X.1.1 X.1.2.1 X.2.1 hP k 0 hk' rfl (rc_in hn hi) hd h
theorem rc_zald (X : rc_X p s m args meth c cc nL Ts own G A) {a n : Nat} {i : Int} (T : rc_is G a (rc_sZ G n)) (hn : n < 2147483648) (hd : decode cc pc = .ok (.baload, 1)) (hi : 0 ≤ i ∧ i < n)
    (kk : rc_g p l e R s m args below meth c cells slots Q nL G A (pc + 1) lv (.int (rc_o (I a i)) :: st) I) : rc_g p l e R s m args below meth c cells slots Q nL G A pc lv (.int (rc_o i) :: .ref a :: st) I := by
  intro H locs ls hl hP hS
  obtain ⟨k, hk⟩ := rc_get (f := rc_f G I) T.1
  have hk' : (va_pl (rc_L G) (rc_f G I))[k]? = some (a, rc_sZ G n (I a)) := hk.trans (congrArg (fun e => some (a, e)) (T.2 (I a)))
  have h := kk H locs ls hl hP hS
  have e1 : rc_o (I a (((rc_o i).toNatClampNeg : Nat) : Int)) = rc_o (I a i) := by rw [rc_cl hi.1 (by omega), Int.toNat_of_nonneg hi.1]
  rw [← e1] at h
  exact va_zald X.1.1 X.1.2.1 X.2.1 hP k 1 hk' rfl (rc_in hn hi) hd h
theorem rc_iast (X : rc_X p s m args meth c cc nL Ts own G A) {a n : Nat} {i x : Int} (T : rc_is G a (rc_sI G n)) (hn : n < 2147483648) (hd : decode cc pc = .ok (.iastore, 1)) (hi : 0 ≤ i ∧ i < n)
    (kk : ∀ I1, I1 = rc_s I a i x → rc_g p l e R s m args below meth c cells slots Q nL G A (pc + 1) lv st I1) : rc_g p l e R s m args below meth c cells slots Q nL G A pc lv (.int (rc_o x) :: .int (rc_o i) :: .ref a :: st) I := by
  intro H locs ls hl hP hS
  obtain ⟨k, hk⟩ := rc_get (f := rc_f G I) T.1
  have hk' : (va_pl (rc_L G) (rc_f G I))[k]? = some (a, rc_sI G n (I a)) := hk.trans (congrArg (fun e => some (a, e)) (T.2 (I a)))
  refine va_iast X.1.1 X.1.2.1 X.2.1 hP (rc_Dd X.2.2.1 X.2.2.2.1) hS k 0 hk' rfl (rc_in hn hi) hd (fun H1 locs1 hP1 _ hS1 => kk _ rfl H1 locs1 ls hl ?_ hS1)
  have e1 : rc_h G a (rc_u (I a) i x) = .inl (rc_cI G, n, .inl (upd (fun j : Nat => rc_o (I a j)) (rc_o i).toNatClampNeg (rc_o x))) := by
    rw [T.2, ← rc_row hi hn]; rfl
  rw [rc_pset X.2.2.1 X.2.2.2.1 T.1 hk (rc_fw G I a (rc_u (I a) i x) _ e1)] at hP1
  exact hP1
theorem rc_zast (X : rc_X p s m args meth c cc nL Ts own G A) {a n : Nat} {i x : Int} (T : rc_is G a (rc_sZ G n)) (hn : n < 2147483648) (hd : decode cc pc = .ok (.bastore, 1)) (hi : 0 ≤ i ∧ i < n) (hx : x = 0 ∨ x = 1)
    (kk : ∀ I1, I1 = rc_s I a i x → rc_g p l e R s m args below meth c cells slots Q nL G A (pc + 1) lv st I1) : rc_g p l e R s m args below meth c cells slots Q nL G A pc lv (.int (rc_o x) :: .int (rc_o i) :: .ref a :: st) I := by
  intro H locs ls hl hP hS
  obtain ⟨k, hk⟩ := rc_get (f := rc_f G I) T.1
  have hk' : (va_pl (rc_L G) (rc_f G I))[k]? = some (a, rc_sZ G n (I a)) := hk.trans (congrArg (fun e => some (a, e)) (T.2 (I a)))
  refine va_zast X.1.1 X.1.2.1 X.2.1 hP (rc_Dd X.2.2.1 X.2.2.2.1) hS k 1 hk' rfl (rc_in hn hi) hd (fun H1 locs1 hP1 _ hS1 => kk _ rfl H1 locs1 ls hl ?_ hS1)
  have e1 : rc_h G a (rc_u (I a) i x) = .inl (rc_cZ G, n, .inl (upd (fun j : Nat => rc_o (I a j)) (rc_o i).toNatClampNeg (vp_nar .boolean (rc_o x)))) := by
    rw [T.2, rc_nz1 hx, ← rc_row hi hn]; rfl
  rw [rc_pset X.2.2.1 X.2.2.2.1 T.1 hk (rc_fw G I a (rc_u (I a) i x) _ e1)] at hP1
  exact hP1
theorem rc_alen (X : rc_X p s m args meth c cc nL Ts own G A) {a n : Nat} (T : rc_is G a (rc_sI G n)) (hd : decode cc pc = .ok (.arraylength, 1))
    (kk : rc_g p l e R s m args below meth c cells slots Q nL G A (pc + 1) lv (.int (rc_o (n : Int)) :: st) I) : rc_g p l e R s m args below meth c cells slots Q nL G A pc lv (.ref a :: st) I := by
  intro H locs ls hl hP hS
  obtain ⟨k, hk⟩ := rc_get (f := rc_f G I) T.1
  have hk' : (va_pl (rc_L G) (rc_f G I))[k]? = some (a, rc_sI G n (I a)) := hk.trans (congrArg (fun e => some (a, e)) (T.2 (I a)))
  exact va_alen X.1.1 X.1.2.1 X.2.1 hP k 0 hk' rfl (show Int32.ofNat n = rc_o (n : Int) from (Int32.ofInt_eq_ofNat).symm) hd (kk H locs ls hl hP hS)
theorem rc_reld (X : rc_X p s m args meth c cc nL Ts own G A) {a : Nat} {i : Int} (T : rc_is G a (rc_sE G a)) (hd : decode cc pc = .ok (.aaload, 1)) (hi : 0 ≤ i ∧ i < 10)
    (kk : rc_g p l e R s m args below meth c cells slots Q nL G A (pc + 1) lv (.ref (a + 3 + 3 * i.toNat) :: st) I) : rc_g p l e R s m args below meth c cells slots Q nL G A pc lv (.int (rc_o i) :: .ref a :: st) I := by
  intro H locs ls hl hP hS
  obtain ⟨k, hk⟩ := rc_get (f := rc_f G I) T.1
  have hk' : (va_pl (rc_L G) (rc_f G I))[k]? = some (a, rc_sE G a (I a)) := hk.trans (congrArg (fun e => some (a, e)) (T.2 (I a)))
  have h := kk H locs ls hl hP hS
  rw [show i.toNat = (rc_o i).toNatClampNeg by rw [rc_cl hi.1 (by omega)]] at h
  exact va_aldq X.1.1 X.1.2.1 X.2.1 hP k 2 hk' rfl (rc_in (by decide) hi) hd h
theorem rc_sltd (X : rc_X p s m args meth c cc nL Ts own G A) {a : Nat} {i : Int} (T : rc_is G a (rc_sM G)) (hd : decode cc pc = .ok (.aaload, 1)) (hi : 0 ≤ i ∧ i < 2)
    (k0 : I a i ≤ 0 → rc_g p l e R s m args below meth c cells slots Q nL G A (pc + 1) lv (.null :: st) I) (k1 : 0 < I a i → rc_g p l e R s m args below meth c cells slots Q nL G A (pc + 1) lv (.ref (I a i).toNat :: st) I) : rc_g p l e R s m args below meth c cells slots Q nL G A pc lv (.int (rc_o i) :: .ref a :: st) I := by
  intro H locs ls hl hP hS
  obtain ⟨k, hk⟩ := rc_get (f := rc_f G I) T.1
  have hk' : (va_pl (rc_L G) (rc_f G I))[k]? = some (a, rc_sM G (I a)) := hk.trans (congrArg (fun e => some (a, e)) (T.2 (I a)))
  refine va_aldq X.1.1 X.1.2.1 X.2.1 hP k 3 hk' rfl (rc_in (by decide) hi) hd ?_
  rw [rc_cl hi.1 (by omega), Int.toNat_of_nonneg hi.1]
  by_cases h : I a i ≤ 0
  · rw [show rc_rd (I a i) = none from if_pos h]
    exact k0 h H locs ls hl hP hS
  · rw [show rc_rd (I a i) = some (I a i).toNat from if_neg h]
    exact k1 (by omega) H locs ls hl hP hS
theorem rc_acopy (X : rc_X p s m args meth c cc nL Ts own G A) {a b na nb idx : Nat} {sp dp n : Int} (Ta : rc_is G a (rc_sI G na)) (Tb : rc_is G b (rc_sI G nb)) (hna : na < 2147483648) (hnb : nb < 2147483648)
    (hw : Cond.methodLink own idx arraycopyName ∈ Ts) (hw2 : Cond.native arraycopyName ∈ Ts) (hw3 : Cond.static arraycopyName ∈ Ts) (hw4 : Cond.initialized "java/lang/System" ∈ Ts)
    (hfr : 1 ≤ R.frames) (hlo : (st.map fun v => v.category).sum + (nativeFrameWords "java/lang/System" "arraycopy" 5 + 11) ≤ R.locals) (hd : decode cc pc = .ok (.invokestatic idx, 3))
    (h1 : 0 ≤ sp) (h2 : 0 ≤ dp) (h3 : 0 ≤ n) (h4 : sp + n ≤ na) (h5 : dp + n ≤ nb)
    (kk : ∀ I1, I1 = rc_cpy I a b sp dp n → rc_g p l e R s m args below meth c cells slots Q nL G A (pc + 3) lv st I1) : rc_g p l e R s m args below meth c cells slots Q nL G A pc lv (.int (rc_o n) :: .int (rc_o dp) :: .ref b :: .int (rc_o sp) :: .ref a :: st) I := by
  intro H locs ls hl hP hS
  obtain ⟨k, hk⟩ := rc_get (f := rc_f G I) Ta.1
  have hk' : (va_pl (rc_L G) (rc_f G I))[k]? = some (a, rc_sI G na (I a)) := hk.trans (congrArg (fun e => some (a, e)) (Ta.2 (I a)))
  obtain ⟨j, hj⟩ := rc_get (f := rc_f G I) Tb.1
  have hj' : (va_pl (rc_L G) (rc_f G I))[j]? = some (b, rc_sI G nb (I b)) := hj.trans (congrArg (fun e => some (b, e)) (Tb.2 (I b)))
  have ng : ∀ {z : Int}, 0 ≤ z → z < 2147483648 → ¬ rc_o z < 0 := fun {z} q1 q2 => by
    rw [rc_0, rc_lt ⟨by omega, by omega⟩ rc_R0]; omega
  refine va_copyi X.1.1 X.1.2.1 (X.1.2.2.1.trans hl.1.symm) X.1.2.2.2.1 (X.1.2.2.2.2 _ hw) (X.1.2.2.2.2 _ hw2) (X.1.2.2.2.2 _ hw3) (X.1.2.2.2.2 _ hw4) X.2.1 hP (rc_Dd X.2.2.1 X.2.2.2.1) hS k j 0 0 hk' hj' rfl rfl rfl
    (ng h1 (by omega)) (ng h2 (by omega)) (ng h3 (by omega)) (by rw [rc_cl h1 (by omega), rc_cl h3 (by omega)]; omega) (by rw [rc_cl h2 (by omega), rc_cl h3 (by omega)]; omega) (fun _ _ => rfl) hfr hlo hd
    (fun H1 locs1 hP1 _ hS1 => kk _ rfl H1 locs1 ls hl ?_ hS1)
  have e1 : rc_h G b (fun j => if dp ≤ j ∧ j < dp + n then I a (sp + (j - dp)) else I b j) = .inl (rc_cI G, nb, .inl (va_cpy (fun j : Nat => rc_o (I a j)) (fun j : Nat => rc_o (I b j)) (rc_o sp).toNatClampNeg (rc_o dp).toNatClampNeg (rc_o n).toNatClampNeg)) := by
    rw [Tb.2, ← rc_cpyrow ⟨h1, by omega⟩ ⟨h2, by omega⟩ ⟨h3, by omega⟩]; rfl
  rw [rc_pset X.2.2.1 X.2.2.2.1 Tb.1 hj (rc_fw G I b _ _ e1)] at hP1
  exact hP1
theorem rc_gst (X : rc_X p s m args meth c cc nL Ts own G A) {n : String} {f : Int → Int} {idx : Nat} (hs : rc_S1 n f A s s.heap) (hw : Cond.fieldLink own idx "ReelChanger$Stock" n "[I" ∈ Ts) (hd : decode cc pc = .ok (.getstatic idx, 3))
    (kk : ∀ t : Nat, va_T .int t 8 (fun j => .int (rc_o (f j))) A s s.heap → rc_g p l e R s m args below meth c cells slots Q nL G A (pc + 3) lv (.ref t :: st) I) : rc_g p l e R s m args below meth c cells slots Q nL G A pc lv st I := by
  intro H locs ls hl hP hS
  obtain ⟨t, hZ, hT⟩ := hs
  exact va_gets X.1.1 X.1.2.1 hZ hS X.1.2.2.2.1 (X.1.2.2.2.2 _ hw) (fun _ h => h) hd (kk t hT H locs ls hl hP hS)
theorem rc_tld (X : rc_X p s m args meth c cc nL Ts own G A) {t : Nat} {f : Int → Int} {i : Int} (hT : va_T .int t 8 (fun j => .int (rc_o (f j))) A s s.heap) (hd : decode cc pc = .ok (.iaload, 1)) (hi : 0 ≤ i ∧ i < 8)
    (kk : rc_g p l e R s m args below meth c cells slots Q nL G A (pc + 1) lv (.int (rc_o (f i)) :: st) I) : rc_g p l e R s m args below meth c cells slots Q nL G A pc lv (.int (rc_o i) :: .ref t :: st) I := by
  intro H locs ls hl hP hS
  exact va_ti X.1.1 X.1.2.1 hT hS (rc_in (by decide) hi) (by
    show Value.int (rc_o (f (((rc_o i).toNatClampNeg : Nat) : Int))) = _
    rw [rc_cl hi.1 (by omega), Int.toNat_of_nonneg hi.1]) hd (kk H locs ls hl hP hS)
theorem rc_mmax (X : rc_X p s m args meth c cc nL Ts own G A) {idx : Nat} {x y : Int} (hw : Cond.methodLink own idx Lib.Math.max.name ∈ Ts) (hw2 : Cond.static Lib.Math.max.name ∈ Ts) (hw3 : Cond.initialized "java/lang/Math" ∈ Ts) (hw4 : Cond.code Lib.Math.max.name Lib.Math.max.code 2 (some .int) ∈ Ts)
    (hfr : 1 ≤ R.frames) (hlo : (st.map fun v => v.category).sum + 13 ≤ R.locals) (hc : cells ≤ R.cells) (hs : slots ≤ R.slots) (hd : decode cc pc = .ok (.invokestatic idx, 3)) (hx : rc_R x) (hy : rc_R y)
    (kk : rc_g p l e R s m args below meth c cells slots Q nL G A (pc + 3) lv (.int (rc_o (max x y)) :: st) I) : rc_g p l e R s m args below meth c cells slots Q nL G A pc lv (.int (rc_o y) :: .int (rc_o x) :: st) I := by
  intro H locs ls hl hP hS
  have h := kk H locs ls hl hP hS
  rw [← rc_max hx hy] at h
  exact va_mmax X.1.1 X.1.2.1 (X.1.2.2.1.trans hl.1.symm) X.1.2.2.2.1 (X.1.2.2.2.2 _ hw) (X.1.2.2.2.2 _ hw2) (X.1.2.2.2.2 _ hw3) (X.1.2.2.2.2 _ hw4) hfr hlo hc hs hd h
theorem rc_mmin (X : rc_X p s m args meth c cc nL Ts own G A) {idx : Nat} {x y : Int} (hw : Cond.methodLink own idx Lib.Math.min.name ∈ Ts) (hw2 : Cond.static Lib.Math.min.name ∈ Ts) (hw3 : Cond.initialized "java/lang/Math" ∈ Ts) (hw4 : Cond.code Lib.Math.min.name Lib.Math.min.code 2 (some .int) ∈ Ts)
    (hfr : 1 ≤ R.frames) (hlo : (st.map fun v => v.category).sum + 13 ≤ R.locals) (hc : cells ≤ R.cells) (hs : slots ≤ R.slots) (hd : decode cc pc = .ok (.invokestatic idx, 3)) (hx : rc_R x) (hy : rc_R y)
    (kk : rc_g p l e R s m args below meth c cells slots Q nL G A (pc + 3) lv (.int (rc_o (min x y)) :: st) I) : rc_g p l e R s m args below meth c cells slots Q nL G A pc lv (.int (rc_o y) :: .int (rc_o x) :: st) I := by
  intro H locs ls hl hP hS
  have h := kk H locs ls hl hP hS
  rw [← rc_min hx hy] at h
  exact va_mmin X.1.1 X.1.2.1 (X.1.2.2.1.trans hl.1.symm) X.1.2.2.2.1 (X.1.2.2.2.2 _ hw) (X.1.2.2.2.2 _ hw2) (X.1.2.2.2.2 _ hw3) (X.1.2.2.2.2 _ hw4) hfr hlo hc hs hd h
/-- a field of ours is read -/
theorem rc_fget (X : rc_X p s m args meth c cc nL Ts own G A) {a ci N k idx : Nat} {fs : (Int → Int) → List Value} {C : String} {T : u_T} {v : Value} (hT : rc_is G a (fun d => .inr (ci, fs d))) (hc : vwCl[ci]? = some (C, T, N)) (hin : ∀ w ∈ u_ws C T N, w ∈ Ts) (hk : k < N)
    (hw : Cond.fieldLink own idx (T k).1 (T k).2.1 (T k).2.2.1 ∈ Ts) (hv : (fs (I a))[k]? = some v) (hd : decode cc pc = .ok (.getfield idx, 3))
    (kk : rc_g p l e R s m args below meth c cells slots Q nL G A (pc + 3) lv (v :: st) I) : rc_g p l e R s m args below meth c cells slots Q nL G A pc lv (.ref a :: st) I := by
  intro H locs ls hl hP hS
  obtain ⟨q, hq⟩ := rc_get (f := rc_f G I) hT.1
  have hq' : (va_pl (rc_L G) (rc_f G I))[q]? = some (a, .inr (ci, fs (I a))) := hq.trans (congrArg (fun e => some (a, e)) (hT.2 (I a)))
  exact va_get X.1.1 X.1.2.1 X.1.2.2.2.2 hin X.1.2.2.2.1 X.2.1 hP q hq' hc k hk (X.1.2.2.2.2 _ hw) (fun _ h => h) hv hd (kk H locs ls hl hP hS)
/-- a field of ours that holds an int is written -/
theorem rc_fput (X : rc_X p s m args meth c cc nL Ts own G A) {a ci N k idx : Nat} {fs : (Int → Int) → List Value} {C : String} {T : u_T} {x : Int} {ty : FieldType} (hT : rc_is G a (fun d => .inr (ci, fs d))) (hc : vwCl[ci]? = some (C, T, N)) (hin : ∀ w ∈ u_ws C T N, w ∈ Ts)
    (ty0 : Nat → FieldType) (hty : ∀ k, k < N → parseFieldDescriptor (T k).2.2.1 = some (ty0 k)) (hnm : ∀ a, a < N → ∀ b, b < N → a ≠ b → (T a).2.1 ≠ (T b).2.1) (hk : k < N)
    (hw : Cond.fieldLink own idx (T k).1 (T k).2.1 (T k).2.2.1 ∈ Ts) (hfin : (T k).2.2.2 = false) (htk : ty0 k = ty) (hn : narrow ty (.int (rc_o x)) = .int (rc_o x)) (hfit : fits ty (.int (rc_o x)) = true) (hl : k < (fs (I a)).length)
    (hset : (fs (I a)).set k (.int (rc_o x)) = fs (rc_u (I a) k x)) (hd : decode cc pc = .ok (.putfield idx, 3))
    (kk : ∀ I1, I1 = rc_s I a k x → rc_g p l e R s m args below meth c cells slots Q nL G A (pc + 3) lv st I1) : rc_g p l e R s m args below meth c cells slots Q nL G A pc lv (.int (rc_o x) :: .ref a :: st) I := by
  intro H locs ls hll hP hS
  obtain ⟨q, hq⟩ := rc_get (f := rc_f G I) hT.1
  have hq' : (va_pl (rc_L G) (rc_f G I))[q]? = some (a, .inr (ci, fs (I a))) := hq.trans (congrArg (fun e => some (a, e)) (hT.2 (I a)))
  refine va_put X.1.1 X.1.2.1 X.1.2.2.2.2 hin ty0 hty hnm X.1.2.2.2.1 X.2.1 hP (rc_Dd X.2.2.1 X.2.2.2.1) hS q hq' hc k hk (X.1.2.2.2.2 _ hw) (fun _ h => h) hfin ((hty k hk).trans (congrArg some htk)) hn hfit hl hd (fun H1 locs1 hP1 _ hS1 => kk _ rfl H1 locs1 ls hll ?_ hS1)
  have e1 : rc_h G a (rc_u (I a) k x) = .inr (ci, (fs (I a)).set k (.int (rc_o x))) := by rw [hT.2, hset]
  rw [rc_pset X.2.2.1 X.2.2.2.1 hT.1 hq (rc_fw G I a (rc_u (I a) k x) _ e1)] at hP1
  exact hP1
/-! ===== ends ===== -/
theorem rc_iret (X : rc_X p s m args meth c cc nL Ts own G (rc_A G)) (hr : meth.sig.returnType = some .int) {z : Int} {post : Int → rc_M → Prop} (hd : decode cc pc = .ok (.ireturn, 1)) (h : post z I) :
    rc_g p l e R s m args below meth c cells slots (MQ below (rc_QI G post) args s cells slots (rc_A G)) nL G (rc_A G) pc lv [.int (rc_o z)] I :=
  fun _ _ _ _ hP hS => W.iret X.1.1 X.1.2.1 hr (fun t ht _ => ⟨⟨rc_o z, I, rfl, ⟨z, rfl, h⟩, by show rc_P G I t.heap; rw [ht]; exact hP⟩, hS.F ht⟩) hS.2.2 hd X.2.2.2.2.2
theorem rc_zret (X : rc_X p s m args meth c cc nL Ts own G (rc_A G)) (hr : meth.sig.returnType = some .boolean) {z : Int} {post : Int → rc_M → Prop} (hd : decode cc pc = .ok (.ireturn, 1)) (hz : z = 0 ∨ z = 1) (h : post z I) :
    rc_g p l e R s m args below meth c cells slots (MQ below (rc_QI G post) args s cells slots (rc_A G)) nL G (rc_A G) pc lv [.int (rc_o z)] I :=
  fun _ _ _ _ hP hS => W.zret X.1.1 X.1.2.1 hr (rc_nz2 hz) (fun t ht _ => ⟨⟨rc_o z, I, rfl, ⟨z, rfl, h⟩, by show rc_P G I t.heap; rw [ht]; exact hP⟩, hS.F ht⟩) hS.2.2 hd X.2.2.2.2.2
theorem rc_lret (X : rc_X p s m args meth c cc nL Ts own G (rc_A G)) (hr : meth.sig.returnType = some .long) {z : Int64} {post : Int64 → rc_M → Prop} (hd : decode cc pc = .ok (.lreturn, 1)) (h : post z I) :
    rc_g p l e R s m args below meth c cells slots (MQ below (rc_QL G post) args s cells slots (rc_A G)) nL G (rc_A G) pc lv [.long z] I :=
  fun _ _ _ _ hP hS => W.lret X.1.1 X.1.2.1 hr (fun t ht _ => ⟨⟨z, I, rfl, h, by show rc_P G I t.heap; rw [ht]; exact hP⟩, hS.F ht⟩) hS.2.2 hd X.2.2.2.2.2
theorem rc_vret (X : rc_X p s m args meth c cc nL Ts own G (rc_A G)) (hr : meth.sig.returnType = none) {post : rc_M → Prop} (hd : decode cc pc = .ok (.return_, 1)) (h : post I) :
    rc_g p l e R s m args below meth c cells slots (MQ below (rc_QV G post) args s cells slots (rc_A G)) nL G (rc_A G) pc lv [] I :=
  fun _ _ _ _ hP hS => W.vret X.1.1 X.1.2.1 hr (fun t ht _ => ⟨⟨I, rfl, h, by show rc_P G I t.heap; rw [ht]; exact hP⟩, hS.F ht⟩) hS.2.2 hd X.2.2.2.2.2
theorem rc_aret (X : rc_X p s m args meth c cc nL Ts own G (rc_A G)) {C : String} (hr : meth.sig.returnType = some (.object C)) (r : Option Nat) {post : Option Nat → rc_M → Prop} (hd : decode cc pc = .ok (.areturn, 1)) (h : post r I) :
    rc_g p l e R s m args below meth c cells slots (MQ below (rc_QQ G post) args s cells slots (rc_A G)) nL G (rc_A G) pc lv [va_rf r] I :=
  fun _ _ _ _ hP hS => W.aret X.1.1 X.1.2.1 hr (Or.inl ⟨C, rfl⟩) (va_rf_or r) (fun t ht _ => ⟨⟨r, I, rfl, h, by show rc_P G I t.heap; rw [ht]; exact hP⟩, hS.F ht⟩) hS.2.2 hd X.2.2.2.2.2
/-! ===== calls ===== -/
theorem rc_pre (X : rc_X p s m args meth c cc nL Ts own G A) {H : Heap} {locs : List Loc} (hS : va_S A s.heap H locs) (hP : rc_P G I H) (av : List Value) : ∀ U : State, U.heap = H → s.WarmedH U.vm → va_Pc av (rc_B G I) av.toArray U :=
  fun U hU hW => ⟨rfl, by rw [hU]; exact hP, va_K.moved hW.alike X.2.1, X.2.2.1, by rw [hU]; exact X.2.2.2.2.1.go hW.alike hS.2.1 X.2.2.2.1⟩
theorem rc_recv (X : rc_X p s m args meth c cc nL Ts own G A) {b ci : Nat} {fs : (Int → Int) → List Value} {r : vw_C} (hb : rc_is G b (fun d => .inr (ci, fs d))) (hc : vwCl[ci]? = some r) : ∀ H : Heap, rc_P G I H → ∃ cell : Cell, H[b]? = some cell ∧ cell.vm.isStatics = false ∧ s.vm.findClass r.1 = some cell.cls := by
  intro H hP
  obtain ⟨q, hq⟩ := rc_get (f := rc_f G I) hb.1
  exact va_recv X.2.1 hP hc (hq.trans (congrArg (fun e => some (b, e)) (hb.2 (I b))))
variable {y : MethodName} {bytes : ByteArray} {maxL n index : Nat} {ret : Option FieldType} {ws ws' : List Cond} {rm : Room} {C : String} {b : Nat} {As rest : List Value}
theorem rc_cVI (X : rc_X p s m args meth c cc nL Ts own G A) {post : Int → rc_M → Prop} (hM : rc_CI l y ws rm G (.ref b :: As) I post) (gd : GoodIn Ts (wsV own index C y ws)) (hw : ws = Cond.code y bytes maxL ret :: ws') (hrm : rm.cells = 0 ∧ rm.slots = 0)
    (hy : y.cls = C ∧ y.cls ≠ "java/lang/invoke/MethodHandle" ∧ y.cls ≠ "java/lang/invoke/VarHandle" ∧ (parseMethodDescriptor y.desc).map (fun d => d.parameters.length) = some n) (hR : rm.frames + 1 ≤ R.frames ∧ 8 + (maxL + 11) + rm.locals ≤ R.locals)
    (hrecv : ∀ H : Heap, rc_P G I H → ∃ cell : Cell, H[b]? = some cell ∧ cell.vm.isStatics = false ∧ s.vm.findClass C = some cell.cls) (hn : As.length = n) (hst : st = As.reverse ++ .ref b :: rest) (hW : (rest.map fun v => v.category).sum ≤ 8) (hd : decode cc pc = .ok (.invokevirtual index, 3)) (hcs : cells ≤ R.cells ∧ slots ≤ R.slots)
    (kk : ∀ (z : Int) (I1 : rc_M), post z I1 → rc_g p l e R s m args below meth c cells slots Q nL G A (pc + 3) lv (.int (rc_o z) :: rest) I1) : rc_g p l e R s m args below meth c cells slots Q nL G A pc lv st I := by
  intro H locs ls hl hP hS
  subst hst
  refine va_calli (va_runV (As := As) (rest := rest) X.1 hM (cwV n X.1.2.2.2.2 gd hw hrm.1 hrm.2 hy hR) ⟨rc_blind G I _, hrecv H hP, rc_pre X hS hP _⟩ rfl hn hl.1 rfl (lv_room hW) hd hcs) hS (fun q _ h => X.2.2.2.1 q h) X.2.2.2.1 (fun r u t H1 locs1 ht _ hw' hB _ _ hS1 => ?_)
  obtain ⟨z, rfl, hp⟩ := hw'
  exact kk z u hp H1 locs1 ls hl (by rw [← ht]; exact hB) hS1
theorem rc_cVL (X : rc_X p s m args meth c cc nL Ts own G A) {post : Int64 → rc_M → Prop} (hM : rc_CL l y ws rm G (.ref b :: As) I post) (gd : GoodIn Ts (wsV own index C y ws)) (hw : ws = Cond.code y bytes maxL ret :: ws') (hrm : rm.cells = 0 ∧ rm.slots = 0)
    (hy : y.cls = C ∧ y.cls ≠ "java/lang/invoke/MethodHandle" ∧ y.cls ≠ "java/lang/invoke/VarHandle" ∧ (parseMethodDescriptor y.desc).map (fun d => d.parameters.length) = some n) (hR : rm.frames + 1 ≤ R.frames ∧ 8 + (maxL + 11) + rm.locals ≤ R.locals)
    (hrecv : ∀ H : Heap, rc_P G I H → ∃ cell : Cell, H[b]? = some cell ∧ cell.vm.isStatics = false ∧ s.vm.findClass C = some cell.cls) (hn : As.length = n) (hst : st = As.reverse ++ .ref b :: rest) (hW : (rest.map fun v => v.category).sum ≤ 8) (hd : decode cc pc = .ok (.invokevirtual index, 3)) (hcs : cells ≤ R.cells ∧ slots ≤ R.slots)
    (kk : ∀ (z : Int64) (I1 : rc_M), post z I1 → rc_g p l e R s m args below meth c cells slots Q nL G A (pc + 3) lv (.long z :: rest) I1) : rc_g p l e R s m args below meth c cells slots Q nL G A pc lv st I := by
  intro H locs ls hl hP hS
  subst hst
  exact va_calll (va_runV (As := As) (rest := rest) X.1 hM (cwV n X.1.2.2.2.2 gd hw hrm.1 hrm.2 hy hR) ⟨rc_blind G I _, hrecv H hP, rc_pre X hS hP _⟩ rfl hn hl.1 rfl (lv_room hW) hd hcs) hS (fun q _ h => X.2.2.2.1 q h) X.2.2.2.1 (fun r u t H1 locs1 ht _ hw' hB _ _ hS1 => kk r u hw' H1 locs1 ls hl (by rw [← ht]; exact hB) hS1)
theorem rc_cVV (X : rc_X p s m args meth c cc nL Ts own G A) {post : rc_M → Prop} (hM : rc_CV l y ws rm G (.ref b :: As) I post) (gd : GoodIn Ts (wsV own index C y ws)) (hw : ws = Cond.code y bytes maxL ret :: ws') (hrm : rm.cells = 0 ∧ rm.slots = 0)
    (hy : y.cls = C ∧ y.cls ≠ "java/lang/invoke/MethodHandle" ∧ y.cls ≠ "java/lang/invoke/VarHandle" ∧ (parseMethodDescriptor y.desc).map (fun d => d.parameters.length) = some n) (hR : rm.frames + 1 ≤ R.frames ∧ 8 + (maxL + 11) + rm.locals ≤ R.locals)
    (hrecv : ∀ H : Heap, rc_P G I H → ∃ cell : Cell, H[b]? = some cell ∧ cell.vm.isStatics = false ∧ s.vm.findClass C = some cell.cls) (hn : As.length = n) (hst : st = As.reverse ++ .ref b :: rest) (hW : (rest.map fun v => v.category).sum ≤ 8) (hd : decode cc pc = .ok (.invokevirtual index, 3)) (hcs : cells ≤ R.cells ∧ slots ≤ R.slots)
    (kk : ∀ (I1 : rc_M), post I1 → rc_g p l e R s m args below meth c cells slots Q nL G A (pc + 3) lv rest I1) : rc_g p l e R s m args below meth c cells slots Q nL G A pc lv st I := by
  intro H locs ls hl hP hS
  subst hst
  exact va_callv (va_runV (As := As) (rest := rest) X.1 hM (cwV n X.1.2.2.2.2 gd hw hrm.1 hrm.2 hy hR) ⟨rc_blind G I _, hrecv H hP, rc_pre X hS hP _⟩ rfl hn hl.1 rfl (lv_room hW) hd hcs) hS (fun q _ h => X.2.2.2.1 q h) X.2.2.2.1 (fun u t H1 locs1 ht _ hw' hB _ _ hS1 => kk u hw' H1 locs1 ls hl (by rw [← ht]; exact hB) hS1)
theorem rc_cVQ (X : rc_X p s m args meth c cc nL Ts own G A) {post : Option Nat → rc_M → Prop} (hM : rc_CQ l y ws rm G (.ref b :: As) I post) (gd : GoodIn Ts (wsV own index C y ws)) (hw : ws = Cond.code y bytes maxL ret :: ws') (hrm : rm.cells = 0 ∧ rm.slots = 0)
    (hy : y.cls = C ∧ y.cls ≠ "java/lang/invoke/MethodHandle" ∧ y.cls ≠ "java/lang/invoke/VarHandle" ∧ (parseMethodDescriptor y.desc).map (fun d => d.parameters.length) = some n) (hR : rm.frames + 1 ≤ R.frames ∧ 8 + (maxL + 11) + rm.locals ≤ R.locals)
    (hrecv : ∀ H : Heap, rc_P G I H → ∃ cell : Cell, H[b]? = some cell ∧ cell.vm.isStatics = false ∧ s.vm.findClass C = some cell.cls) (hn : As.length = n) (hst : st = As.reverse ++ .ref b :: rest) (hW : (rest.map fun v => v.category).sum ≤ 8) (hd : decode cc pc = .ok (.invokevirtual index, 3)) (hcs : cells ≤ R.cells ∧ slots ≤ R.slots)
    (kk : ∀ (z : Option Nat) (I1 : rc_M), post z I1 → rc_g p l e R s m args below meth c cells slots Q nL G A (pc + 3) lv (va_rf z :: rest) I1) : rc_g p l e R s m args below meth c cells slots Q nL G A pc lv st I := by
  intro H locs ls hl hP hS
  subst hst
  exact va_callq (va_runV (As := As) (rest := rest) X.1 hM (cwV n X.1.2.2.2.2 gd hw hrm.1 hrm.2 hy hR) ⟨rc_blind G I _, hrecv H hP, rc_pre X hS hP _⟩ rfl hn hl.1 rfl (lv_room hW) hd hcs) hS (fun q _ h => X.2.2.2.1 q h) X.2.2.2.1 (fun r u t H1 locs1 ht _ hw' hB _ _ hS1 => kk r u hw' H1 locs1 ls hl (by rw [← ht]; exact hB) hS1)
theorem rc_cSI (X : rc_X p s m args meth c cc nL Ts own G A) {post : Int → rc_M → Prop} (hM : rc_CI l y ws rm G As I post) (gd : GoodIn Ts (va_wsS own index y ws)) (hw : ws = Cond.code y bytes maxL ret :: ws') (hrm : rm.cells = 0 ∧ rm.slots = 0)
    (hy : y.cls = C ∧ y.cls ≠ "java/lang/invoke/MethodHandle" ∧ y.cls ≠ "java/lang/invoke/VarHandle" ∧ (parseMethodDescriptor y.desc).map (fun d => d.parameters.length) = some n) (hR : rm.frames + 1 ≤ R.frames ∧ 8 + (maxL + 11) + rm.locals ≤ R.locals)
    (hn : As.length = n) (hst : st = As.reverse ++ rest) (hW : (rest.map fun v => v.category).sum ≤ 8) (hd : decode cc pc = .ok (.invokestatic index, 3)) (hcs : cells ≤ R.cells ∧ slots ≤ R.slots)
    (kk : ∀ (z : Int) (I1 : rc_M), post z I1 → rc_g p l e R s m args below meth c cells slots Q nL G A (pc + 3) lv (.int (rc_o z) :: rest) I1) : rc_g p l e R s m args below meth c cells slots Q nL G A pc lv st I := by
  intro H locs ls hl hP hS
  subst hst
  refine va_calli (va_runS (As := As) (rest := rest) X.1 hM (va_cwS n X.1.2.2.2.2 gd hw hrm.1 hrm.2 hy.2 hR) ⟨rc_blind G I _, rc_pre X hS hP _⟩ rfl hn hl.1 rfl (lv_room hW) hd hcs) hS (fun q _ h => X.2.2.2.1 q h) X.2.2.2.1 (fun r u t H1 locs1 ht _ hw' hB _ _ hS1 => ?_)
  obtain ⟨z, rfl, hp⟩ := hw'
  exact kk z u hp H1 locs1 ls hl (by rw [← ht]; exact hB) hS1
theorem rc_cSL (X : rc_X p s m args meth c cc nL Ts own G A) {post : Int64 → rc_M → Prop} (hM : rc_CL l y ws rm G As I post) (gd : GoodIn Ts (va_wsS own index y ws)) (hw : ws = Cond.code y bytes maxL ret :: ws') (hrm : rm.cells = 0 ∧ rm.slots = 0)
    (hy : y.cls = C ∧ y.cls ≠ "java/lang/invoke/MethodHandle" ∧ y.cls ≠ "java/lang/invoke/VarHandle" ∧ (parseMethodDescriptor y.desc).map (fun d => d.parameters.length) = some n) (hR : rm.frames + 1 ≤ R.frames ∧ 8 + (maxL + 11) + rm.locals ≤ R.locals)
    (hn : As.length = n) (hst : st = As.reverse ++ rest) (hW : (rest.map fun v => v.category).sum ≤ 8) (hd : decode cc pc = .ok (.invokestatic index, 3)) (hcs : cells ≤ R.cells ∧ slots ≤ R.slots)
    (kk : ∀ (z : Int64) (I1 : rc_M), post z I1 → rc_g p l e R s m args below meth c cells slots Q nL G A (pc + 3) lv (.long z :: rest) I1) : rc_g p l e R s m args below meth c cells slots Q nL G A pc lv st I := by
  intro H locs ls hl hP hS
  subst hst
  exact va_calll (va_runS (As := As) (rest := rest) X.1 hM (va_cwS n X.1.2.2.2.2 gd hw hrm.1 hrm.2 hy.2 hR) ⟨rc_blind G I _, rc_pre X hS hP _⟩ rfl hn hl.1 rfl (lv_room hW) hd hcs) hS (fun q _ h => X.2.2.2.1 q h) X.2.2.2.1 (fun r u t H1 locs1 ht _ hw' hB _ _ hS1 => kk r u hw' H1 locs1 ls hl (by rw [← ht]; exact hB) hS1)
theorem rc_cSV (X : rc_X p s m args meth c cc nL Ts own G A) {post : rc_M → Prop} (hM : rc_CV l y ws rm G As I post) (gd : GoodIn Ts (va_wsS own index y ws)) (hw : ws = Cond.code y bytes maxL ret :: ws') (hrm : rm.cells = 0 ∧ rm.slots = 0)
    (hy : y.cls = C ∧ y.cls ≠ "java/lang/invoke/MethodHandle" ∧ y.cls ≠ "java/lang/invoke/VarHandle" ∧ (parseMethodDescriptor y.desc).map (fun d => d.parameters.length) = some n) (hR : rm.frames + 1 ≤ R.frames ∧ 8 + (maxL + 11) + rm.locals ≤ R.locals)
    (hn : As.length = n) (hst : st = As.reverse ++ rest) (hW : (rest.map fun v => v.category).sum ≤ 8) (hd : decode cc pc = .ok (.invokestatic index, 3)) (hcs : cells ≤ R.cells ∧ slots ≤ R.slots)
    (kk : ∀ (I1 : rc_M), post I1 → rc_g p l e R s m args below meth c cells slots Q nL G A (pc + 3) lv rest I1) : rc_g p l e R s m args below meth c cells slots Q nL G A pc lv st I := by
  intro H locs ls hl hP hS
  subst hst
  exact va_callv (va_runS (As := As) (rest := rest) X.1 hM (va_cwS n X.1.2.2.2.2 gd hw hrm.1 hrm.2 hy.2 hR) ⟨rc_blind G I _, rc_pre X hS hP _⟩ rfl hn hl.1 rfl (lv_room hW) hd hcs) hS (fun q _ h => X.2.2.2.1 q h) X.2.2.2.1 (fun u t H1 locs1 ht _ hw' hB _ _ hS1 => kk u hw' H1 locs1 ls hl (by rw [← ht]; exact hB) hS1)
end RC2
/-! ===== a contract out of its body ===== -/
section RC3
variable {l : Launch} {y : MethodName} {ws ws' : List Cond} {rm : Room} {cc : ByteArray} {maxL : Nat} {G : rc_G} {av : List Value} {I : rc_M} {own : String} {lv0 : List (Nat × Value)}
theorem rc_body {ret : Option FieldType} {Qc : Array Value → State → Outcome → State → Prop} (hy : plainName y.cls = true) (hw : ws = Cond.code y cc maxL ret :: ws') (hown : y.cls = own) (hlen : (lg_sl av).length ≤ maxL) (hlv : lv_args 0 av = lv0)
    (body : ∀ (p : Program) (e : Env) (s : State) (m : MethodId) (below : List Frame) (meth : Method) (c : Code), rc_X p s m av.toArray meth c cc maxL ws own G (rc_A G) → meth.sig.returnType = ret →
      rc_g p l e rm s m av.toArray below meth c 0 0 (MQ below Qc av.toArray s 0 0 (rc_A G)) maxL G (rc_A G) 0 lv0 [] I) : Met l y ws rm (va_Pc av (rc_B G I)) Qc 0 0 (rc_A G) := by
  refine Met.ofW (cc := cc) (maxL := maxL) (ret := ret) hy hw ?_
  intro p e s m args below meth c s₁ B hml hv
  obtain ⟨rfl, hP, hK, hn, hSt⟩ := hv
  have X : rc_X p s m av.toArray meth c cc maxL ws own G (rc_A G) := ⟨⟨B.exec, B.bytes, hml, by rw [← hown]; exact findClass_of_methodNamed B.named, atoms_spec (ws := ws) B.pre⟩, hK, hn, fun _ h => h, hSt, B.notSynchronized⟩
  have hl := lv_entry av (n := maxL) hlen
  rw [lg_entry_eq]
  generalize (lg_sl av ++ List.replicate (maxL - (lg_sl av).length) Slot.unset).toArray = ls at hl ⊢
  exact body p e s m below meth c X B.returns s.heap [] ls (by rw [← hlv]; exact hl) hP va_S.rf
end RC3
end
section
def fdX0 (a : Nat) (d : Int → Int) : List Value := [.int (rc_o (d 0)), .int (rc_o (d 1)), .int (rc_o (d 2)), .int (rc_o (d 3)), .ref (a + 1), .ref (a + 2)]
abbrev shX0 (a : Nat) : (Int → Int) → va_E := fun d => .inr (0, fdX0 a d)
def fdX1 (a : Nat) (d : Int → Int) : List Value := [.int (rc_o (d 0)), .ref (a + 1), .int (rc_o (d 2)), .int (rc_o (d 3)), .ref (a + 2), .ref (a + 3)]
abbrev shX1 (a : Nat) : (Int → Int) → va_E := fun d => .inr (1, fdX1 a d)
def fdX2 (_ : Nat) (d : Int → Int) : List Value := [.int (rc_o (d 0)), .int (rc_o (d 1)), .int (rc_o (d 2))]
abbrev shX2 (a : Nat) : (Int → Int) → va_E := fun d => .inr (2, fdX2 a d)
def fdX3 (a : Nat) (d : Int → Int) : List Value := [.int (rc_o (d 0)), .int (rc_o (d 1)), .ref (a + 1), .ref (a + 2)]
abbrev shX3 (a : Nat) : (Int → Int) → va_E := fun d => .inr (3, fdX3 a d)
def fdX4 (a : Nat) (d : Int → Int) : List Value := [.ref (a + 1), .ref (a + 35)]
abbrev shX4 (a : Nat) : (Int → Int) → va_E := fun d => .inr (4, fdX4 a d)
def fdX5 (a : Nat) (d : Int → Int) : List Value := [.int (rc_o (d 0)), .int (rc_o (d 1)), .int (rc_o (d 2)), .int (rc_o (d 3)), .int (rc_o (d 4)), .int (rc_o (d 5)), .ref (a + 1), .int (rc_o (d 7)), .int (rc_o (d 8)), .int (rc_o (d 9)), .ref (a + 4), .ref (a + 5)]
abbrev shX5 (a : Nat) : (Int → Int) → va_E := fun d => .inr (5, fdX5 a d)
def fdX6 (a : Nat) (d : Int → Int) : List Value := [.int (rc_o (d 0)), .int (rc_o (d 1)), .ref (a + 1), .ref (a + 2), .ref (a + 3)]
abbrev shX6 (a : Nat) : (Int → Int) → va_E := fun d => .inr (6, fdX6 a d)
def fdX7 (a : Nat) (d : Int → Int) : List Value := [.ref (a + 1), .ref (a + 42), .ref (a + 83), .ref (a + 84)]
abbrev shX7 (a : Nat) : (Int → Int) → va_E := fun d => .inr (7, fdX7 a d)
def fdX8 (a : Nat) (d : Int → Int) : List Value := [.ref (a + 1), .ref (a + 2), .ref (a + 3), .ref (a + 4), .ref (a + 5), .ref (a + 6), .ref (a + 7), .ref (a + 8), .int (rc_o (d 8)), .int (rc_o (d 9)), .int (rc_o (d 10)), .ref (a + 9), .ref (a + 10), .ref (a + 11), .ref (a + 12)]
abbrev shX8 (a : Nat) : (Int → Int) → va_E := fun d => .inr (8, fdX8 a d)
def kX0 (G : rc_G) (a : Nat) : Prop := rc_is G a (shX0 a) ∧ rc_is G (a + 1) (rc_sI G 8) ∧ rc_is G (a + 2) (rc_sI G 8)
def kX1 (G : rc_G) (a : Nat) : Prop := rc_is G a (shX1 a) ∧ rc_is G (a + 1) (rc_sI G 12) ∧ rc_is G (a + 2) (rc_sI G 60) ∧ rc_is G (a + 3) (rc_sI G 3)
def kX2 (G : rc_G) (a : Nat) : Prop := rc_is G a (shX2 a) ∧ True
def kX3 (G : rc_G) (a : Nat) : Prop := rc_is G a (shX3 a) ∧ rc_is G (a + 1) (rc_sI G 6) ∧ rc_is G (a + 2) (rc_sI G 6)
def kX8 (G : rc_G) (a : Nat) : Prop := rc_is G a (shX8 a) ∧ rc_is G (a + 1) (rc_sI G 199) ∧ rc_is G (a + 2) (rc_sI G 199) ∧ rc_is G (a + 3) (rc_sI G 398) ∧ rc_is G (a + 4) (rc_sZ G 2) ∧ rc_is G (a + 5) (rc_sI G 8) ∧ rc_is G (a + 6) (rc_sI G 8) ∧ rc_is G (a + 7) (rc_sI G 8) ∧ rc_is G (a + 8) (rc_sI G 60) ∧ rc_is G (a + 9) (rc_sZ G 4) ∧ rc_is G (a + 10) (rc_sI G 3) ∧ rc_is G (a + 11) (rc_sI G 3) ∧ rc_is G (a + 12) (rc_sI G 12)
def kX5 (G : rc_G) (a : Nat) : Prop := rc_is G a (shX5 a) ∧ kX0 G (a + 1) ∧ kX2 G (a + 4) ∧ kX2 G (a + 5)
def kX6 (G : rc_G) (a : Nat) : Prop := rc_is G a (shX6 a) ∧ rc_is G (a + 1) (rc_sE G (a + 1)) ∧ rc_is G (a + 2) (rc_sI G 8) ∧ rc_is G (a + 3) (rc_sI G 12) ∧ (∀ i : Nat, i < 10 → kX3 G (a + 1 + 3 + 3 * i))
def kX4 (G : rc_G) (a : Nat) : Prop := rc_is G a (shX4 a) ∧ kX6 G (a + 1) ∧ kX5 G (a + 35)
def kX7 (G : rc_G) (a : Nat) : Prop := rc_is G a (shX7 a) ∧ kX4 G (a + 1) ∧ kX4 G (a + 42) ∧ rc_is G (a + 83) (rc_sM G) ∧ kX1 G (a + 84)
section GF
variable {p : Program} {l : Launch} {e : Env} {R : Room} {s : State} {m : MethodId} {args : Array Value} {below : List Frame} {meth : Method} {c : Code} {cells slots : Nat} {Q : State → Prop}
variable {cc : ByteArray} {nL : Nat} {Ts : List Cond} {own : String} {G : rc_G} {A : Nat → Prop} {pc : Nat} {lv : List (Nat × Value)} {st : List Value} {I : rc_M} {a idx : Nat}
theorem gfX0_ticksLeft (X : rc_X p s m args meth c cc nL Ts own G A) (T : rc_is G a (shX0 a)) (hin : ∀ w ∈ wsX00, w ∈ Ts) (hw : Cond.fieldLink own idx "ReelChanger$Operator" "ticksLeft" "I" ∈ Ts) (hd : decode cc pc = .ok (.getfield idx, 3)) (kk : rc_g p l e R s m args below meth c cells slots Q nL G A (pc + 3) lv (.int (rc_o (I a 0)) :: st) I) : rc_g p l e R s m args below meth c cells slots Q nL G A pc lv (.ref a :: st) I := rc_fget (T := TX0) (k := 0) X T rfl hin (by decide) hw rfl hd kk
theorem pfX0_ticksLeft (X : rc_X p s m args meth c cc nL Ts own G A) {x : Int} (T : rc_is G a (shX0 a)) (hin : ∀ w ∈ wsX00, w ∈ Ts) (hw : Cond.fieldLink own idx "ReelChanger$Operator" "ticksLeft" "I" ∈ Ts) (hd : decode cc pc = .ok (.putfield idx, 3)) (kk : ∀ I1, I1 = rc_s I a 0 x → rc_g p l e R s m args below meth c cells slots Q nL G A (pc + 3) lv st I1) : rc_g p l e R s m args below meth c cells slots Q nL G A pc lv (.int (rc_o x) :: .ref a :: st) I := rc_fput (T := TX0) (k := 0) (ty := .int) X T rfl hin tyX0 tyX0_ok nmX0 (by decide) hw rfl rfl rfl rfl (Nat.le_of_ble_eq_true rfl) rfl hd kk
theorem gfX0_rowCount (X : rc_X p s m args meth c cc nL Ts own G A) (T : rc_is G a (shX0 a)) (hin : ∀ w ∈ wsX00, w ∈ Ts) (hw : Cond.fieldLink own idx "ReelChanger$Operator" "rowCount" "I" ∈ Ts) (hd : decode cc pc = .ok (.getfield idx, 3)) (kk : rc_g p l e R s m args below meth c cells slots Q nL G A (pc + 3) lv (.int (rc_o (I a 1)) :: st) I) : rc_g p l e R s m args below meth c cells slots Q nL G A pc lv (.ref a :: st) I := rc_fget (T := TX0) (k := 1) X T rfl hin (by decide) hw rfl hd kk
theorem pfX0_rowCount (X : rc_X p s m args meth c cc nL Ts own G A) {x : Int} (T : rc_is G a (shX0 a)) (hin : ∀ w ∈ wsX00, w ∈ Ts) (hw : Cond.fieldLink own idx "ReelChanger$Operator" "rowCount" "I" ∈ Ts) (hd : decode cc pc = .ok (.putfield idx, 3)) (kk : ∀ I1, I1 = rc_s I a 1 x → rc_g p l e R s m args below meth c cells slots Q nL G A (pc + 3) lv st I1) : rc_g p l e R s m args below meth c cells slots Q nL G A pc lv (.int (rc_o x) :: .ref a :: st) I := rc_fput (T := TX0) (k := 1) (ty := .int) X T rfl hin tyX0 tyX0_ok nmX0 (by decide) hw rfl rfl rfl rfl (Nat.le_of_ble_eq_true rfl) rfl hd kk
theorem gfX0_workKind (X : rc_X p s m args meth c cc nL Ts own G A) (T : rc_is G a (shX0 a)) (hin : ∀ w ∈ wsX00, w ∈ Ts) (hw : Cond.fieldLink own idx "ReelChanger$Operator" "workKind" "I" ∈ Ts) (hd : decode cc pc = .ok (.getfield idx, 3)) (kk : rc_g p l e R s m args below meth c cells slots Q nL G A (pc + 3) lv (.int (rc_o (I a 2)) :: st) I) : rc_g p l e R s m args below meth c cells slots Q nL G A pc lv (.ref a :: st) I := rc_fget (T := TX0) (k := 2) X T rfl hin (by decide) hw rfl hd kk
theorem pfX0_workKind (X : rc_X p s m args meth c cc nL Ts own G A) {x : Int} (T : rc_is G a (shX0 a)) (hin : ∀ w ∈ wsX00, w ∈ Ts) (hw : Cond.fieldLink own idx "ReelChanger$Operator" "workKind" "I" ∈ Ts) (hd : decode cc pc = .ok (.putfield idx, 3)) (kk : ∀ I1, I1 = rc_s I a 2 x → rc_g p l e R s m args below meth c cells slots Q nL G A (pc + 3) lv st I1) : rc_g p l e R s m args below meth c cells slots Q nL G A pc lv (.int (rc_o x) :: .ref a :: st) I := rc_fput (T := TX0) (k := 2) (ty := .int) X T rfl hin tyX0 tyX0_ok nmX0 (by decide) hw rfl rfl rfl rfl (Nat.le_of_ble_eq_true rfl) rfl hd kk
theorem gfX0_workProjector (X : rc_X p s m args meth c cc nL Ts own G A) (T : rc_is G a (shX0 a)) (hin : ∀ w ∈ wsX00, w ∈ Ts) (hw : Cond.fieldLink own idx "ReelChanger$Operator" "workProjector" "I" ∈ Ts) (hd : decode cc pc = .ok (.getfield idx, 3)) (kk : rc_g p l e R s m args below meth c cells slots Q nL G A (pc + 3) lv (.int (rc_o (I a 3)) :: st) I) : rc_g p l e R s m args below meth c cells slots Q nL G A pc lv (.ref a :: st) I := rc_fget (T := TX0) (k := 3) X T rfl hin (by decide) hw rfl hd kk
theorem pfX0_workProjector (X : rc_X p s m args meth c cc nL Ts own G A) {x : Int} (T : rc_is G a (shX0 a)) (hin : ∀ w ∈ wsX00, w ∈ Ts) (hw : Cond.fieldLink own idx "ReelChanger$Operator" "workProjector" "I" ∈ Ts) (hd : decode cc pc = .ok (.putfield idx, 3)) (kk : ∀ I1, I1 = rc_s I a 3 x → rc_g p l e R s m args below meth c cells slots Q nL G A (pc + 3) lv st I1) : rc_g p l e R s m args below meth c cells slots Q nL G A pc lv (.int (rc_o x) :: .ref a :: st) I := rc_fput (T := TX0) (k := 3) (ty := .int) X T rfl hin tyX0 tyX0_ok nmX0 (by decide) hw rfl rfl rfl rfl (Nat.le_of_ble_eq_true rfl) rfl hd kk
theorem gfX0_kinds (X : rc_X p s m args meth c cc nL Ts own G A) (T : rc_is G a (shX0 a)) (hin : ∀ w ∈ wsX00, w ∈ Ts) (hw : Cond.fieldLink own idx "ReelChanger$Operator" "kinds" "[I" ∈ Ts) (hd : decode cc pc = .ok (.getfield idx, 3)) (kk : rc_g p l e R s m args below meth c cells slots Q nL G A (pc + 3) lv (.ref (a + 1) :: st) I) : rc_g p l e R s m args below meth c cells slots Q nL G A pc lv (.ref a :: st) I := rc_fget (T := TX0) (k := 4) X T rfl hin (by decide) hw rfl hd kk
theorem gfX0_projectors (X : rc_X p s m args meth c cc nL Ts own G A) (T : rc_is G a (shX0 a)) (hin : ∀ w ∈ wsX00, w ∈ Ts) (hw : Cond.fieldLink own idx "ReelChanger$Operator" "projectors" "[I" ∈ Ts) (hd : decode cc pc = .ok (.getfield idx, 3)) (kk : rc_g p l e R s m args below meth c cells slots Q nL G A (pc + 3) lv (.ref (a + 2) :: st) I) : rc_g p l e R s m args below meth c cells slots Q nL G A pc lv (.ref a :: st) I := rc_fget (T := TX0) (k := 5) X T rfl hin (by decide) hw rfl hd kk
theorem gfX1_depth (X : rc_X p s m args meth c cc nL Ts own G A) (T : rc_is G a (shX1 a)) (hin : ∀ w ∈ wsX10, w ∈ Ts) (hw : Cond.fieldLink own idx "ReelChanger$ProgramText" "depth" "I" ∈ Ts) (hd : decode cc pc = .ok (.getfield idx, 3)) (kk : rc_g p l e R s m args below meth c cells slots Q nL G A (pc + 3) lv (.int (rc_o (I a 0)) :: st) I) : rc_g p l e R s m args below meth c cells slots Q nL G A pc lv (.ref a :: st) I := rc_fget (T := TX1) (k := 0) X T rfl hin (by decide) hw rfl hd kk
theorem pfX1_depth (X : rc_X p s m args meth c cc nL Ts own G A) {x : Int} (T : rc_is G a (shX1 a)) (hin : ∀ w ∈ wsX10, w ∈ Ts) (hw : Cond.fieldLink own idx "ReelChanger$ProgramText" "depth" "I" ∈ Ts) (hd : decode cc pc = .ok (.putfield idx, 3)) (kk : ∀ I1, I1 = rc_s I a 0 x → rc_g p l e R s m args below meth c cells slots Q nL G A (pc + 3) lv st I1) : rc_g p l e R s m args below meth c cells slots Q nL G A pc lv (.int (rc_o x) :: .ref a :: st) I := rc_fput (T := TX1) (k := 0) (ty := .int) X T rfl hin tyX1 tyX1_ok nmX1 (by decide) hw rfl rfl rfl rfl (Nat.le_of_ble_eq_true rfl) rfl hd kk
theorem gfX1_expanded (X : rc_X p s m args meth c cc nL Ts own G A) (T : rc_is G a (shX1 a)) (hin : ∀ w ∈ wsX10, w ∈ Ts) (hw : Cond.fieldLink own idx "ReelChanger$ProgramText" "expanded" "[I" ∈ Ts) (hd : decode cc pc = .ok (.getfield idx, 3)) (kk : rc_g p l e R s m args below meth c cells slots Q nL G A (pc + 3) lv (.ref (a + 1) :: st) I) : rc_g p l e R s m args below meth c cells slots Q nL G A pc lv (.ref a :: st) I := rc_fget (T := TX1) (k := 1) X T rfl hin (by decide) hw rfl hd kk
theorem gfX1_length (X : rc_X p s m args meth c cc nL Ts own G A) (T : rc_is G a (shX1 a)) (hin : ∀ w ∈ wsX10, w ∈ Ts) (hw : Cond.fieldLink own idx "ReelChanger$ProgramText" "length" "I" ∈ Ts) (hd : decode cc pc = .ok (.getfield idx, 3)) (kk : rc_g p l e R s m args below meth c cells slots Q nL G A (pc + 3) lv (.int (rc_o (I a 2)) :: st) I) : rc_g p l e R s m args below meth c cells slots Q nL G A pc lv (.ref a :: st) I := rc_fget (T := TX1) (k := 2) X T rfl hin (by decide) hw rfl hd kk
theorem pfX1_length (X : rc_X p s m args meth c cc nL Ts own G A) {x : Int} (T : rc_is G a (shX1 a)) (hin : ∀ w ∈ wsX10, w ∈ Ts) (hw : Cond.fieldLink own idx "ReelChanger$ProgramText" "length" "I" ∈ Ts) (hd : decode cc pc = .ok (.putfield idx, 3)) (kk : ∀ I1, I1 = rc_s I a 2 x → rc_g p l e R s m args below meth c cells slots Q nL G A (pc + 3) lv st I1) : rc_g p l e R s m args below meth c cells slots Q nL G A pc lv (.int (rc_o x) :: .ref a :: st) I := rc_fput (T := TX1) (k := 2) (ty := .int) X T rfl hin tyX1 tyX1_ok nmX1 (by decide) hw rfl rfl rfl rfl (Nat.le_of_ble_eq_true rfl) rfl hd kk
theorem gfX1_standing (X : rc_X p s m args meth c cc nL Ts own G A) (T : rc_is G a (shX1 a)) (hin : ∀ w ∈ wsX10, w ∈ Ts) (hw : Cond.fieldLink own idx "ReelChanger$ProgramText" "standing" "I" ∈ Ts) (hd : decode cc pc = .ok (.getfield idx, 3)) (kk : rc_g p l e R s m args below meth c cells slots Q nL G A (pc + 3) lv (.int (rc_o (I a 3)) :: st) I) : rc_g p l e R s m args below meth c cells slots Q nL G A pc lv (.ref a :: st) I := rc_fget (T := TX1) (k := 3) X T rfl hin (by decide) hw rfl hd kk
theorem pfX1_standing (X : rc_X p s m args meth c cc nL Ts own G A) {x : Int} (T : rc_is G a (shX1 a)) (hin : ∀ w ∈ wsX10, w ∈ Ts) (hw : Cond.fieldLink own idx "ReelChanger$ProgramText" "standing" "I" ∈ Ts) (hd : decode cc pc = .ok (.putfield idx, 3)) (kk : ∀ I1, I1 = rc_s I a 3 x → rc_g p l e R s m args below meth c cells slots Q nL G A (pc + 3) lv st I1) : rc_g p l e R s m args below meth c cells slots Q nL G A pc lv (.int (rc_o x) :: .ref a :: st) I := rc_fput (T := TX1) (k := 3) (ty := .int) X T rfl hin tyX1 tyX1_ok nmX1 (by decide) hw rfl rfl rfl rfl (Nat.le_of_ble_eq_true rfl) rfl hd kk
theorem gfX1_letters (X : rc_X p s m args meth c cc nL Ts own G A) (T : rc_is G a (shX1 a)) (hin : ∀ w ∈ wsX10, w ∈ Ts) (hw : Cond.fieldLink own idx "ReelChanger$ProgramText" "letters" "[I" ∈ Ts) (hd : decode cc pc = .ok (.getfield idx, 3)) (kk : rc_g p l e R s m args below meth c cells slots Q nL G A (pc + 3) lv (.ref (a + 2) :: st) I) : rc_g p l e R s m args below meth c cells slots Q nL G A pc lv (.ref a :: st) I := rc_fget (T := TX1) (k := 4) X T rfl hin (by decide) hw rfl hd kk
theorem gfX1_groupStarts (X : rc_X p s m args meth c cc nL Ts own G A) (T : rc_is G a (shX1 a)) (hin : ∀ w ∈ wsX10, w ∈ Ts) (hw : Cond.fieldLink own idx "ReelChanger$ProgramText" "groupStarts" "[I" ∈ Ts) (hd : decode cc pc = .ok (.getfield idx, 3)) (kk : rc_g p l e R s m args below meth c cells slots Q nL G A (pc + 3) lv (.ref (a + 3) :: st) I) : rc_g p l e R s m args below meth c cells slots Q nL G A pc lv (.ref a :: st) I := rc_fget (T := TX1) (k := 5) X T rfl hin (by decide) hw rfl hd kk
theorem gfX2_state (X : rc_X p s m args meth c cc nL Ts own G A) (T : rc_is G a (shX2 a)) (hin : ∀ w ∈ wsX20, w ∈ Ts) (hw : Cond.fieldLink own idx "ReelChanger$Projector" "state" "I" ∈ Ts) (hd : decode cc pc = .ok (.getfield idx, 3)) (kk : rc_g p l e R s m args below meth c cells slots Q nL G A (pc + 3) lv (.int (rc_o (I a 0)) :: st) I) : rc_g p l e R s m args below meth c cells slots Q nL G A pc lv (.ref a :: st) I := rc_fget (T := TX2) (k := 0) X T rfl hin (by decide) hw rfl hd kk
theorem pfX2_state (X : rc_X p s m args meth c cc nL Ts own G A) {x : Int} (T : rc_is G a (shX2 a)) (hin : ∀ w ∈ wsX20, w ∈ Ts) (hw : Cond.fieldLink own idx "ReelChanger$Projector" "state" "I" ∈ Ts) (hd : decode cc pc = .ok (.putfield idx, 3)) (kk : ∀ I1, I1 = rc_s I a 0 x → rc_g p l e R s m args below meth c cells slots Q nL G A (pc + 3) lv st I1) : rc_g p l e R s m args below meth c cells slots Q nL G A pc lv (.int (rc_o x) :: .ref a :: st) I := rc_fput (T := TX2) (k := 0) (ty := .int) X T rfl hin tyX2 tyX2_ok nmX2 (by decide) hw rfl rfl rfl rfl (Nat.le_of_ble_eq_true rfl) rfl hd kk
theorem gfX2_place (X : rc_X p s m args meth c cc nL Ts own G A) (T : rc_is G a (shX2 a)) (hin : ∀ w ∈ wsX20, w ∈ Ts) (hw : Cond.fieldLink own idx "ReelChanger$Projector" "place" "I" ∈ Ts) (hd : decode cc pc = .ok (.getfield idx, 3)) (kk : rc_g p l e R s m args below meth c cells slots Q nL G A (pc + 3) lv (.int (rc_o (I a 1)) :: st) I) : rc_g p l e R s m args below meth c cells slots Q nL G A pc lv (.ref a :: st) I := rc_fget (T := TX2) (k := 1) X T rfl hin (by decide) hw rfl hd kk
theorem pfX2_place (X : rc_X p s m args meth c cc nL Ts own G A) {x : Int} (T : rc_is G a (shX2 a)) (hin : ∀ w ∈ wsX20, w ∈ Ts) (hw : Cond.fieldLink own idx "ReelChanger$Projector" "place" "I" ∈ Ts) (hd : decode cc pc = .ok (.putfield idx, 3)) (kk : ∀ I1, I1 = rc_s I a 1 x → rc_g p l e R s m args below meth c cells slots Q nL G A (pc + 3) lv st I1) : rc_g p l e R s m args below meth c cells slots Q nL G A pc lv (.int (rc_o x) :: .ref a :: st) I := rc_fput (T := TX2) (k := 1) (ty := .int) X T rfl hin tyX2 tyX2_ok nmX2 (by decide) hw rfl rfl rfl rfl (Nat.le_of_ble_eq_true rfl) rfl hd kk
theorem gfX2_frame (X : rc_X p s m args meth c cc nL Ts own G A) (T : rc_is G a (shX2 a)) (hin : ∀ w ∈ wsX20, w ∈ Ts) (hw : Cond.fieldLink own idx "ReelChanger$Projector" "frame" "I" ∈ Ts) (hd : decode cc pc = .ok (.getfield idx, 3)) (kk : rc_g p l e R s m args below meth c cells slots Q nL G A (pc + 3) lv (.int (rc_o (I a 2)) :: st) I) : rc_g p l e R s m args below meth c cells slots Q nL G A pc lv (.ref a :: st) I := rc_fget (T := TX2) (k := 2) X T rfl hin (by decide) hw rfl hd kk
theorem pfX2_frame (X : rc_X p s m args meth c cc nL Ts own G A) {x : Int} (T : rc_is G a (shX2 a)) (hin : ∀ w ∈ wsX20, w ∈ Ts) (hw : Cond.fieldLink own idx "ReelChanger$Projector" "frame" "I" ∈ Ts) (hd : decode cc pc = .ok (.putfield idx, 3)) (kk : ∀ I1, I1 = rc_s I a 2 x → rc_g p l e R s m args below meth c cells slots Q nL G A (pc + 3) lv st I1) : rc_g p l e R s m args below meth c cells slots Q nL G A pc lv (.int (rc_o x) :: .ref a :: st) I := rc_fput (T := TX2) (k := 2) (ty := .int) X T rfl hin tyX2 tyX2_ok nmX2 (by decide) hw rfl rfl rfl rfl (Nat.le_of_ble_eq_true rfl) rfl hd kk
theorem gfX3_length (X : rc_X p s m args meth c cc nL Ts own G A) (T : rc_is G a (shX3 a)) (hin : ∀ w ∈ wsX30, w ∈ Ts) (hw : Cond.fieldLink own idx "ReelChanger$Reel" "length" "I" ∈ Ts) (hd : decode cc pc = .ok (.getfield idx, 3)) (kk : rc_g p l e R s m args below meth c cells slots Q nL G A (pc + 3) lv (.int (rc_o (I a 0)) :: st) I) : rc_g p l e R s m args below meth c cells slots Q nL G A pc lv (.ref a :: st) I := rc_fget (T := TX3) (k := 0) X T rfl hin (by decide) hw rfl hd kk
theorem pfX3_length (X : rc_X p s m args meth c cc nL Ts own G A) {x : Int} (T : rc_is G a (shX3 a)) (hin : ∀ w ∈ wsX30, w ∈ Ts) (hw : Cond.fieldLink own idx "ReelChanger$Reel" "length" "I" ∈ Ts) (hd : decode cc pc = .ok (.putfield idx, 3)) (kk : ∀ I1, I1 = rc_s I a 0 x → rc_g p l e R s m args below meth c cells slots Q nL G A (pc + 3) lv st I1) : rc_g p l e R s m args below meth c cells slots Q nL G A pc lv (.int (rc_o x) :: .ref a :: st) I := rc_fput (T := TX3) (k := 0) (ty := .int) X T rfl hin tyX3 tyX3_ok nmX3 (by decide) hw rfl rfl rfl rfl (Nat.le_of_ble_eq_true rfl) rfl hd kk
theorem gfX3_spliceCount (X : rc_X p s m args meth c cc nL Ts own G A) (T : rc_is G a (shX3 a)) (hin : ∀ w ∈ wsX30, w ∈ Ts) (hw : Cond.fieldLink own idx "ReelChanger$Reel" "spliceCount" "I" ∈ Ts) (hd : decode cc pc = .ok (.getfield idx, 3)) (kk : rc_g p l e R s m args below meth c cells slots Q nL G A (pc + 3) lv (.int (rc_o (I a 1)) :: st) I) : rc_g p l e R s m args below meth c cells slots Q nL G A pc lv (.ref a :: st) I := rc_fget (T := TX3) (k := 1) X T rfl hin (by decide) hw rfl hd kk
theorem pfX3_spliceCount (X : rc_X p s m args meth c cc nL Ts own G A) {x : Int} (T : rc_is G a (shX3 a)) (hin : ∀ w ∈ wsX30, w ∈ Ts) (hw : Cond.fieldLink own idx "ReelChanger$Reel" "spliceCount" "I" ∈ Ts) (hd : decode cc pc = .ok (.putfield idx, 3)) (kk : ∀ I1, I1 = rc_s I a 1 x → rc_g p l e R s m args below meth c cells slots Q nL G A (pc + 3) lv st I1) : rc_g p l e R s m args below meth c cells slots Q nL G A pc lv (.int (rc_o x) :: .ref a :: st) I := rc_fput (T := TX3) (k := 1) (ty := .int) X T rfl hin tyX3 tyX3_ok nmX3 (by decide) hw rfl rfl rfl rfl (Nat.le_of_ble_eq_true rfl) rfl hd kk
theorem gfX3_frames (X : rc_X p s m args meth c cc nL Ts own G A) (T : rc_is G a (shX3 a)) (hin : ∀ w ∈ wsX30, w ∈ Ts) (hw : Cond.fieldLink own idx "ReelChanger$Reel" "frames" "[I" ∈ Ts) (hd : decode cc pc = .ok (.getfield idx, 3)) (kk : rc_g p l e R s m args below meth c cells slots Q nL G A (pc + 3) lv (.ref (a + 1) :: st) I) : rc_g p l e R s m args below meth c cells slots Q nL G A pc lv (.ref a :: st) I := rc_fget (T := TX3) (k := 2) X T rfl hin (by decide) hw rfl hd kk
theorem gfX3_strengths (X : rc_X p s m args meth c cc nL Ts own G A) (T : rc_is G a (shX3 a)) (hin : ∀ w ∈ wsX30, w ∈ Ts) (hw : Cond.fieldLink own idx "ReelChanger$Reel" "strengths" "[I" ∈ Ts) (hd : decode cc pc = .ok (.getfield idx, 3)) (kk : rc_g p l e R s m args below meth c cells slots Q nL G A (pc + 3) lv (.ref (a + 2) :: st) I) : rc_g p l e R s m args below meth c cells slots Q nL G A pc lv (.ref a :: st) I := rc_fget (T := TX3) (k := 3) X T rfl hin (by decide) hw rfl hd kk
theorem gfX4_stock (X : rc_X p s m args meth c cc nL Ts own G A) (T : rc_is G a (shX4 a)) (hin : ∀ w ∈ wsX40, w ∈ Ts) (hw : Cond.fieldLink own idx "ReelChanger$Room" "stock" "LReelChanger$Stock;" ∈ Ts) (hd : decode cc pc = .ok (.getfield idx, 3)) (kk : rc_g p l e R s m args below meth c cells slots Q nL G A (pc + 3) lv (.ref (a + 1) :: st) I) : rc_g p l e R s m args below meth c cells slots Q nL G A pc lv (.ref a :: st) I := rc_fget (T := TX4) (k := 0) X T rfl hin (by decide) hw rfl hd kk
theorem gfX4_show (X : rc_X p s m args meth c cc nL Ts own G A) (T : rc_is G a (shX4 a)) (hin : ∀ w ∈ wsX40, w ∈ Ts) (hw : Cond.fieldLink own idx "ReelChanger$Room" "show" "LReelChanger$Show;" ∈ Ts) (hd : decode cc pc = .ok (.getfield idx, 3)) (kk : rc_g p l e R s m args below meth c cells slots Q nL G A (pc + 3) lv (.ref (a + 35) :: st) I) : rc_g p l e R s m args below meth c cells slots Q nL G A pc lv (.ref a :: st) I := rc_fget (T := TX4) (k := 1) X T rfl hin (by decide) hw rfl hd kk
theorem gfX5_running (X : rc_X p s m args meth c cc nL Ts own G A) (T : rc_is G a (shX5 a)) (hin : ∀ w ∈ wsX50, w ∈ Ts) (hw : Cond.fieldLink own idx "ReelChanger$Show" "running" "Z" ∈ Ts) (hd : decode cc pc = .ok (.getfield idx, 3)) (kk : rc_g p l e R s m args below meth c cells slots Q nL G A (pc + 3) lv (.int (rc_o (I a 0)) :: st) I) : rc_g p l e R s m args below meth c cells slots Q nL G A pc lv (.ref a :: st) I := rc_fget (T := TX5) (k := 0) X T rfl hin (by decide) hw rfl hd kk
theorem pfX5_running (X : rc_X p s m args meth c cc nL Ts own G A) {x : Int} (T : rc_is G a (shX5 a)) (hin : ∀ w ∈ wsX50, w ∈ Ts) (hw : Cond.fieldLink own idx "ReelChanger$Show" "running" "Z" ∈ Ts) (hd : decode cc pc = .ok (.putfield idx, 3)) (hx : x = 0 ∨ x = 1) (kk : ∀ I1, I1 = rc_s I a 0 x → rc_g p l e R s m args below meth c cells slots Q nL G A (pc + 3) lv st I1) : rc_g p l e R s m args below meth c cells slots Q nL G A pc lv (.int (rc_o x) :: .ref a :: st) I := rc_fput (T := TX5) (k := 0) (ty := .boolean) X T rfl hin tyX5 tyX5_ok nmX5 (by decide) hw rfl rfl (rc_nz2 hx) (rc_nz3 hx) (Nat.le_of_ble_eq_true rfl) rfl hd kk
theorem gfX5_time (X : rc_X p s m args meth c cc nL Ts own G A) (T : rc_is G a (shX5 a)) (hin : ∀ w ∈ wsX50, w ∈ Ts) (hw : Cond.fieldLink own idx "ReelChanger$Show" "time" "I" ∈ Ts) (hd : decode cc pc = .ok (.getfield idx, 3)) (kk : rc_g p l e R s m args below meth c cells slots Q nL G A (pc + 3) lv (.int (rc_o (I a 1)) :: st) I) : rc_g p l e R s m args below meth c cells slots Q nL G A pc lv (.ref a :: st) I := rc_fget (T := TX5) (k := 1) X T rfl hin (by decide) hw rfl hd kk
theorem pfX5_time (X : rc_X p s m args meth c cc nL Ts own G A) {x : Int} (T : rc_is G a (shX5 a)) (hin : ∀ w ∈ wsX50, w ∈ Ts) (hw : Cond.fieldLink own idx "ReelChanger$Show" "time" "I" ∈ Ts) (hd : decode cc pc = .ok (.putfield idx, 3)) (kk : ∀ I1, I1 = rc_s I a 1 x → rc_g p l e R s m args below meth c cells slots Q nL G A (pc + 3) lv st I1) : rc_g p l e R s m args below meth c cells slots Q nL G A pc lv (.int (rc_o x) :: .ref a :: st) I := rc_fput (T := TX5) (k := 1) (ty := .int) X T rfl hin tyX5 tyX5_ok nmX5 (by decide) hw rfl rfl rfl rfl (Nat.le_of_ble_eq_true rfl) rfl hd kk
theorem gfX5_dark (X : rc_X p s m args meth c cc nL Ts own G A) (T : rc_is G a (shX5 a)) (hin : ∀ w ∈ wsX50, w ∈ Ts) (hw : Cond.fieldLink own idx "ReelChanger$Show" "dark" "I" ∈ Ts) (hd : decode cc pc = .ok (.getfield idx, 3)) (kk : rc_g p l e R s m args below meth c cells slots Q nL G A (pc + 3) lv (.int (rc_o (I a 2)) :: st) I) : rc_g p l e R s m args below meth c cells slots Q nL G A pc lv (.ref a :: st) I := rc_fget (T := TX5) (k := 2) X T rfl hin (by decide) hw rfl hd kk
theorem pfX5_dark (X : rc_X p s m args meth c cc nL Ts own G A) {x : Int} (T : rc_is G a (shX5 a)) (hin : ∀ w ∈ wsX50, w ∈ Ts) (hw : Cond.fieldLink own idx "ReelChanger$Show" "dark" "I" ∈ Ts) (hd : decode cc pc = .ok (.putfield idx, 3)) (kk : ∀ I1, I1 = rc_s I a 2 x → rc_g p l e R s m args below meth c cells slots Q nL G A (pc + 3) lv st I1) : rc_g p l e R s m args below meth c cells slots Q nL G A pc lv (.int (rc_o x) :: .ref a :: st) I := rc_fput (T := TX5) (k := 2) (ty := .int) X T rfl hin tyX5 tyX5_ok nmX5 (by decide) hw rfl rfl rfl rfl (Nat.le_of_ble_eq_true rfl) rfl hd kk
theorem gfX5_missed (X : rc_X p s m args meth c cc nL Ts own G A) (T : rc_is G a (shX5 a)) (hin : ∀ w ∈ wsX50, w ∈ Ts) (hw : Cond.fieldLink own idx "ReelChanger$Show" "missed" "I" ∈ Ts) (hd : decode cc pc = .ok (.getfield idx, 3)) (kk : rc_g p l e R s m args below meth c cells slots Q nL G A (pc + 3) lv (.int (rc_o (I a 3)) :: st) I) : rc_g p l e R s m args below meth c cells slots Q nL G A pc lv (.ref a :: st) I := rc_fget (T := TX5) (k := 3) X T rfl hin (by decide) hw rfl hd kk
theorem pfX5_missed (X : rc_X p s m args meth c cc nL Ts own G A) {x : Int} (T : rc_is G a (shX5 a)) (hin : ∀ w ∈ wsX50, w ∈ Ts) (hw : Cond.fieldLink own idx "ReelChanger$Show" "missed" "I" ∈ Ts) (hd : decode cc pc = .ok (.putfield idx, 3)) (kk : ∀ I1, I1 = rc_s I a 3 x → rc_g p l e R s m args below meth c cells slots Q nL G A (pc + 3) lv st I1) : rc_g p l e R s m args below meth c cells slots Q nL G A pc lv (.int (rc_o x) :: .ref a :: st) I := rc_fput (T := TX5) (k := 3) (ty := .int) X T rfl hin tyX5 tyX5_ok nmX5 (by decide) hw rfl rfl rfl rfl (Nat.le_of_ble_eq_true rfl) rfl hd kk
theorem gfX5_late (X : rc_X p s m args meth c cc nL Ts own G A) (T : rc_is G a (shX5 a)) (hin : ∀ w ∈ wsX50, w ∈ Ts) (hw : Cond.fieldLink own idx "ReelChanger$Show" "late" "I" ∈ Ts) (hd : decode cc pc = .ok (.getfield idx, 3)) (kk : rc_g p l e R s m args below meth c cells slots Q nL G A (pc + 3) lv (.int (rc_o (I a 4)) :: st) I) : rc_g p l e R s m args below meth c cells slots Q nL G A pc lv (.ref a :: st) I := rc_fget (T := TX5) (k := 4) X T rfl hin (by decide) hw rfl hd kk
theorem pfX5_late (X : rc_X p s m args meth c cc nL Ts own G A) {x : Int} (T : rc_is G a (shX5 a)) (hin : ∀ w ∈ wsX50, w ∈ Ts) (hw : Cond.fieldLink own idx "ReelChanger$Show" "late" "I" ∈ Ts) (hd : decode cc pc = .ok (.putfield idx, 3)) (kk : ∀ I1, I1 = rc_s I a 4 x → rc_g p l e R s m args below meth c cells slots Q nL G A (pc + 3) lv st I1) : rc_g p l e R s m args below meth c cells slots Q nL G A pc lv (.int (rc_o x) :: .ref a :: st) I := rc_fput (T := TX5) (k := 4) (ty := .int) X T rfl hin tyX5 tyX5_ok nmX5 (by decide) hw rfl rfl rfl rfl (Nat.le_of_ble_eq_true rfl) rfl hd kk
theorem gfX5_breaks (X : rc_X p s m args meth c cc nL Ts own G A) (T : rc_is G a (shX5 a)) (hin : ∀ w ∈ wsX50, w ∈ Ts) (hw : Cond.fieldLink own idx "ReelChanger$Show" "breaks" "I" ∈ Ts) (hd : decode cc pc = .ok (.getfield idx, 3)) (kk : rc_g p l e R s m args below meth c cells slots Q nL G A (pc + 3) lv (.int (rc_o (I a 5)) :: st) I) : rc_g p l e R s m args below meth c cells slots Q nL G A pc lv (.ref a :: st) I := rc_fget (T := TX5) (k := 5) X T rfl hin (by decide) hw rfl hd kk
theorem pfX5_breaks (X : rc_X p s m args meth c cc nL Ts own G A) {x : Int} (T : rc_is G a (shX5 a)) (hin : ∀ w ∈ wsX50, w ∈ Ts) (hw : Cond.fieldLink own idx "ReelChanger$Show" "breaks" "I" ∈ Ts) (hd : decode cc pc = .ok (.putfield idx, 3)) (kk : ∀ I1, I1 = rc_s I a 5 x → rc_g p l e R s m args below meth c cells slots Q nL G A (pc + 3) lv st I1) : rc_g p l e R s m args below meth c cells slots Q nL G A pc lv (.int (rc_o x) :: .ref a :: st) I := rc_fput (T := TX5) (k := 5) (ty := .int) X T rfl hin tyX5 tyX5_ok nmX5 (by decide) hw rfl rfl rfl rfl (Nat.le_of_ble_eq_true rfl) rfl hd kk
theorem gfX5_operator (X : rc_X p s m args meth c cc nL Ts own G A) (T : rc_is G a (shX5 a)) (hin : ∀ w ∈ wsX50, w ∈ Ts) (hw : Cond.fieldLink own idx "ReelChanger$Show" "operator" "LReelChanger$Operator;" ∈ Ts) (hd : decode cc pc = .ok (.getfield idx, 3)) (kk : rc_g p l e R s m args below meth c cells slots Q nL G A (pc + 3) lv (.ref (a + 1) :: st) I) : rc_g p l e R s m args below meth c cells slots Q nL G A pc lv (.ref a :: st) I := rc_fget (T := TX5) (k := 6) X T rfl hin (by decide) hw rfl hd kk
theorem gfX5_front (X : rc_X p s m args meth c cc nL Ts own G A) (T : rc_is G a (shX5 a)) (hin : ∀ w ∈ wsX50, w ∈ Ts) (hw : Cond.fieldLink own idx "ReelChanger$Show" "front" "I" ∈ Ts) (hd : decode cc pc = .ok (.getfield idx, 3)) (kk : rc_g p l e R s m args below meth c cells slots Q nL G A (pc + 3) lv (.int (rc_o (I a 7)) :: st) I) : rc_g p l e R s m args below meth c cells slots Q nL G A pc lv (.ref a :: st) I := rc_fget (T := TX5) (k := 7) X T rfl hin (by decide) hw rfl hd kk
theorem pfX5_front (X : rc_X p s m args meth c cc nL Ts own G A) {x : Int} (T : rc_is G a (shX5 a)) (hin : ∀ w ∈ wsX50, w ∈ Ts) (hw : Cond.fieldLink own idx "ReelChanger$Show" "front" "I" ∈ Ts) (hd : decode cc pc = .ok (.putfield idx, 3)) (kk : ∀ I1, I1 = rc_s I a 7 x → rc_g p l e R s m args below meth c cells slots Q nL G A (pc + 3) lv st I1) : rc_g p l e R s m args below meth c cells slots Q nL G A pc lv (.int (rc_o x) :: .ref a :: st) I := rc_fput (T := TX5) (k := 7) (ty := .int) X T rfl hin tyX5 tyX5_ok nmX5 (by decide) hw rfl rfl rfl rfl (Nat.le_of_ble_eq_true rfl) rfl hd kk
theorem gfX5_threaded (X : rc_X p s m args meth c cc nL Ts own G A) (T : rc_is G a (shX5 a)) (hin : ∀ w ∈ wsX50, w ∈ Ts) (hw : Cond.fieldLink own idx "ReelChanger$Show" "threaded" "I" ∈ Ts) (hd : decode cc pc = .ok (.getfield idx, 3)) (kk : rc_g p l e R s m args below meth c cells slots Q nL G A (pc + 3) lv (.int (rc_o (I a 8)) :: st) I) : rc_g p l e R s m args below meth c cells slots Q nL G A pc lv (.ref a :: st) I := rc_fget (T := TX5) (k := 8) X T rfl hin (by decide) hw rfl hd kk
theorem pfX5_threaded (X : rc_X p s m args meth c cc nL Ts own G A) {x : Int} (T : rc_is G a (shX5 a)) (hin : ∀ w ∈ wsX50, w ∈ Ts) (hw : Cond.fieldLink own idx "ReelChanger$Show" "threaded" "I" ∈ Ts) (hd : decode cc pc = .ok (.putfield idx, 3)) (kk : ∀ I1, I1 = rc_s I a 8 x → rc_g p l e R s m args below meth c cells slots Q nL G A (pc + 3) lv st I1) : rc_g p l e R s m args below meth c cells slots Q nL G A pc lv (.int (rc_o x) :: .ref a :: st) I := rc_fput (T := TX5) (k := 8) (ty := .int) X T rfl hin tyX5 tyX5_ok nmX5 (by decide) hw rfl rfl rfl rfl (Nat.le_of_ble_eq_true rfl) rfl hd kk
theorem gfX5_ranOut (X : rc_X p s m args meth c cc nL Ts own G A) (T : rc_is G a (shX5 a)) (hin : ∀ w ∈ wsX50, w ∈ Ts) (hw : Cond.fieldLink own idx "ReelChanger$Show" "ranOut" "Z" ∈ Ts) (hd : decode cc pc = .ok (.getfield idx, 3)) (kk : rc_g p l e R s m args below meth c cells slots Q nL G A (pc + 3) lv (.int (rc_o (I a 9)) :: st) I) : rc_g p l e R s m args below meth c cells slots Q nL G A pc lv (.ref a :: st) I := rc_fget (T := TX5) (k := 9) X T rfl hin (by decide) hw rfl hd kk
theorem pfX5_ranOut (X : rc_X p s m args meth c cc nL Ts own G A) {x : Int} (T : rc_is G a (shX5 a)) (hin : ∀ w ∈ wsX50, w ∈ Ts) (hw : Cond.fieldLink own idx "ReelChanger$Show" "ranOut" "Z" ∈ Ts) (hd : decode cc pc = .ok (.putfield idx, 3)) (hx : x = 0 ∨ x = 1) (kk : ∀ I1, I1 = rc_s I a 9 x → rc_g p l e R s m args below meth c cells slots Q nL G A (pc + 3) lv st I1) : rc_g p l e R s m args below meth c cells slots Q nL G A pc lv (.int (rc_o x) :: .ref a :: st) I := rc_fput (T := TX5) (k := 9) (ty := .boolean) X T rfl hin tyX5 tyX5_ok nmX5 (by decide) hw rfl rfl (rc_nz2 hx) (rc_nz3 hx) (Nat.le_of_ble_eq_true rfl) rfl hd kk
theorem gfX5_first (X : rc_X p s m args meth c cc nL Ts own G A) (T : rc_is G a (shX5 a)) (hin : ∀ w ∈ wsX50, w ∈ Ts) (hw : Cond.fieldLink own idx "ReelChanger$Show" "first" "LReelChanger$Projector;" ∈ Ts) (hd : decode cc pc = .ok (.getfield idx, 3)) (kk : rc_g p l e R s m args below meth c cells slots Q nL G A (pc + 3) lv (.ref (a + 4) :: st) I) : rc_g p l e R s m args below meth c cells slots Q nL G A pc lv (.ref a :: st) I := rc_fget (T := TX5) (k := 10) X T rfl hin (by decide) hw rfl hd kk
theorem gfX5_second (X : rc_X p s m args meth c cc nL Ts own G A) (T : rc_is G a (shX5 a)) (hin : ∀ w ∈ wsX50, w ∈ Ts) (hw : Cond.fieldLink own idx "ReelChanger$Show" "second" "LReelChanger$Projector;" ∈ Ts) (hd : decode cc pc = .ok (.getfield idx, 3)) (kk : rc_g p l e R s m args below meth c cells slots Q nL G A (pc + 3) lv (.ref (a + 5) :: st) I) : rc_g p l e R s m args below meth c cells slots Q nL G A pc lv (.ref a :: st) I := rc_fget (T := TX5) (k := 11) X T rfl hin (by decide) hw rfl hd kk
theorem gfX6_reelCount (X : rc_X p s m args meth c cc nL Ts own G A) (T : rc_is G a (shX6 a)) (hin : ∀ w ∈ wsX60, w ∈ Ts) (hw : Cond.fieldLink own idx "ReelChanger$Stock" "reelCount" "I" ∈ Ts) (hd : decode cc pc = .ok (.getfield idx, 3)) (kk : rc_g p l e R s m args below meth c cells slots Q nL G A (pc + 3) lv (.int (rc_o (I a 0)) :: st) I) : rc_g p l e R s m args below meth c cells slots Q nL G A pc lv (.ref a :: st) I := rc_fget (T := TX6) (k := 0) X T rfl hin (by decide) hw rfl hd kk
theorem pfX6_reelCount (X : rc_X p s m args meth c cc nL Ts own G A) {x : Int} (T : rc_is G a (shX6 a)) (hin : ∀ w ∈ wsX60, w ∈ Ts) (hw : Cond.fieldLink own idx "ReelChanger$Stock" "reelCount" "I" ∈ Ts) (hd : decode cc pc = .ok (.putfield idx, 3)) (kk : ∀ I1, I1 = rc_s I a 0 x → rc_g p l e R s m args below meth c cells slots Q nL G A (pc + 3) lv st I1) : rc_g p l e R s m args below meth c cells slots Q nL G A pc lv (.int (rc_o x) :: .ref a :: st) I := rc_fput (T := TX6) (k := 0) (ty := .int) X T rfl hin tyX6 tyX6_ok nmX6 (by decide) hw rfl rfl rfl rfl (Nat.le_of_ble_eq_true rfl) rfl hd kk
theorem gfX6_placeCount (X : rc_X p s m args meth c cc nL Ts own G A) (T : rc_is G a (shX6 a)) (hin : ∀ w ∈ wsX60, w ∈ Ts) (hw : Cond.fieldLink own idx "ReelChanger$Stock" "placeCount" "I" ∈ Ts) (hd : decode cc pc = .ok (.getfield idx, 3)) (kk : rc_g p l e R s m args below meth c cells slots Q nL G A (pc + 3) lv (.int (rc_o (I a 1)) :: st) I) : rc_g p l e R s m args below meth c cells slots Q nL G A pc lv (.ref a :: st) I := rc_fget (T := TX6) (k := 1) X T rfl hin (by decide) hw rfl hd kk
theorem pfX6_placeCount (X : rc_X p s m args meth c cc nL Ts own G A) {x : Int} (T : rc_is G a (shX6 a)) (hin : ∀ w ∈ wsX60, w ∈ Ts) (hw : Cond.fieldLink own idx "ReelChanger$Stock" "placeCount" "I" ∈ Ts) (hd : decode cc pc = .ok (.putfield idx, 3)) (kk : ∀ I1, I1 = rc_s I a 1 x → rc_g p l e R s m args below meth c cells slots Q nL G A (pc + 3) lv st I1) : rc_g p l e R s m args below meth c cells slots Q nL G A pc lv (.int (rc_o x) :: .ref a :: st) I := rc_fput (T := TX6) (k := 1) (ty := .int) X T rfl hin tyX6 tyX6_ok nmX6 (by decide) hw rfl rfl rfl rfl (Nat.le_of_ble_eq_true rfl) rfl hd kk
theorem gfX6_reels (X : rc_X p s m args meth c cc nL Ts own G A) (T : rc_is G a (shX6 a)) (hin : ∀ w ∈ wsX60, w ∈ Ts) (hw : Cond.fieldLink own idx "ReelChanger$Stock" "reels" "[LReelChanger$Reel;" ∈ Ts) (hd : decode cc pc = .ok (.getfield idx, 3)) (kk : rc_g p l e R s m args below meth c cells slots Q nL G A (pc + 3) lv (.ref (a + 1) :: st) I) : rc_g p l e R s m args below meth c cells slots Q nL G A pc lv (.ref a :: st) I := rc_fget (T := TX6) (k := 2) X T rfl hin (by decide) hw rfl hd kk
theorem gfX6_settings (X : rc_X p s m args meth c cc nL Ts own G A) (T : rc_is G a (shX6 a)) (hin : ∀ w ∈ wsX60, w ∈ Ts) (hw : Cond.fieldLink own idx "ReelChanger$Stock" "settings" "[I" ∈ Ts) (hd : decode cc pc = .ok (.getfield idx, 3)) (kk : rc_g p l e R s m args below meth c cells slots Q nL G A (pc + 3) lv (.ref (a + 2) :: st) I) : rc_g p l e R s m args below meth c cells slots Q nL G A pc lv (.ref a :: st) I := rc_fget (T := TX6) (k := 3) X T rfl hin (by decide) hw rfl hd kk
theorem gfX6_places (X : rc_X p s m args meth c cc nL Ts own G A) (T : rc_is G a (shX6 a)) (hin : ∀ w ∈ wsX60, w ∈ Ts) (hw : Cond.fieldLink own idx "ReelChanger$Stock" "places" "[I" ∈ Ts) (hd : decode cc pc = .ok (.getfield idx, 3)) (kk : rc_g p l e R s m args below meth c cells slots Q nL G A (pc + 3) lv (.ref (a + 3) :: st) I) : rc_g p l e R s m args below meth c cells slots Q nL G A pc lv (.ref a :: st) I := rc_fget (T := TX6) (k := 4) X T rfl hin (by decide) hw rfl hd kk
theorem gfX7_room (X : rc_X p s m args meth c cc nL Ts own G A) (T : rc_is G a (shX7 a)) (hin : ∀ w ∈ wsX70, w ∈ Ts) (hw : Cond.fieldLink own idx "ReelChanger" "room" "LReelChanger$Room;" ∈ Ts) (hd : decode cc pc = .ok (.getfield idx, 3)) (kk : rc_g p l e R s m args below meth c cells slots Q nL G A (pc + 3) lv (.ref (a + 1) :: st) I) : rc_g p l e R s m args below meth c cells slots Q nL G A pc lv (.ref a :: st) I := rc_fget (T := TX7) (k := 0) X T rfl hin (by decide) hw rfl hd kk
theorem gfX7_trial (X : rc_X p s m args meth c cc nL Ts own G A) (T : rc_is G a (shX7 a)) (hin : ∀ w ∈ wsX70, w ∈ Ts) (hw : Cond.fieldLink own idx "ReelChanger" "trial" "LReelChanger$Room;" ∈ Ts) (hd : decode cc pc = .ok (.getfield idx, 3)) (kk : rc_g p l e R s m args below meth c cells slots Q nL G A (pc + 3) lv (.ref (a + 42) :: st) I) : rc_g p l e R s m args below meth c cells slots Q nL G A pc lv (.ref a :: st) I := rc_fget (T := TX7) (k := 1) X T rfl hin (by decide) hw rfl hd kk
theorem gfX7_slots (X : rc_X p s m args meth c cc nL Ts own G A) (T : rc_is G a (shX7 a)) (hin : ∀ w ∈ wsX70, w ∈ Ts) (hw : Cond.fieldLink own idx "ReelChanger" "slots" "[LReelChanger$Room;" ∈ Ts) (hd : decode cc pc = .ok (.getfield idx, 3)) (kk : rc_g p l e R s m args below meth c cells slots Q nL G A (pc + 3) lv (.ref (a + 83) :: st) I) : rc_g p l e R s m args below meth c cells slots Q nL G A pc lv (.ref a :: st) I := rc_fget (T := TX7) (k := 2) X T rfl hin (by decide) hw rfl hd kk
theorem gfX7_text (X : rc_X p s m args meth c cc nL Ts own G A) (T : rc_is G a (shX7 a)) (hin : ∀ w ∈ wsX70, w ∈ Ts) (hw : Cond.fieldLink own idx "ReelChanger" "text" "LReelChanger$ProgramText;" ∈ Ts) (hd : decode cc pc = .ok (.getfield idx, 3)) (kk : rc_g p l e R s m args below meth c cells slots Q nL G A (pc + 3) lv (.ref (a + 84) :: st) I) : rc_g p l e R s m args below meth c cells slots Q nL G A pc lv (.ref a :: st) I := rc_fget (T := TX7) (k := 3) X T rfl hin (by decide) hw rfl hd kk
theorem gfX8_v (X : rc_X p s m args meth c cc nL Ts own G A) (T : rc_is G a (shX8 a)) (hin : ∀ w ∈ wsX80, w ∈ Ts) (hw : Cond.fieldLink own idx "ReelChangerModel" "v" "[I" ∈ Ts) (hd : decode cc pc = .ok (.getfield idx, 3)) (kk : rc_g p l e R s m args below meth c cells slots Q nL G A (pc + 3) lv (.ref (a + 1) :: st) I) : rc_g p l e R s m args below meth c cells slots Q nL G A pc lv (.ref a :: st) I := rc_fget (T := TX8) (k := 0) X T rfl hin (by decide) hw rfl hd kk
theorem gfX8_spare (X : rc_X p s m args meth c cc nL Ts own G A) (T : rc_is G a (shX8 a)) (hin : ∀ w ∈ wsX80, w ∈ Ts) (hw : Cond.fieldLink own idx "ReelChangerModel" "spare" "[I" ∈ Ts) (hd : decode cc pc = .ok (.getfield idx, 3)) (kk : rc_g p l e R s m args below meth c cells slots Q nL G A (pc + 3) lv (.ref (a + 2) :: st) I) : rc_g p l e R s m args below meth c cells slots Q nL G A pc lv (.ref a :: st) I := rc_fget (T := TX8) (k := 1) X T rfl hin (by decide) hw rfl hd kk
theorem gfX8_kept (X : rc_X p s m args meth c cc nL Ts own G A) (T : rc_is G a (shX8 a)) (hin : ∀ w ∈ wsX80, w ∈ Ts) (hw : Cond.fieldLink own idx "ReelChangerModel" "kept" "[I" ∈ Ts) (hd : decode cc pc = .ok (.getfield idx, 3)) (kk : rc_g p l e R s m args below meth c cells slots Q nL G A (pc + 3) lv (.ref (a + 3) :: st) I) : rc_g p l e R s m args below meth c cells slots Q nL G A pc lv (.ref a :: st) I := rc_fget (T := TX8) (k := 2) X T rfl hin (by decide) hw rfl hd kk
theorem gfX8_isKept (X : rc_X p s m args meth c cc nL Ts own G A) (T : rc_is G a (shX8 a)) (hin : ∀ w ∈ wsX80, w ∈ Ts) (hw : Cond.fieldLink own idx "ReelChangerModel" "isKept" "[Z" ∈ Ts) (hd : decode cc pc = .ok (.getfield idx, 3)) (kk : rc_g p l e R s m args below meth c cells slots Q nL G A (pc + 3) lv (.ref (a + 4) :: st) I) : rc_g p l e R s m args below meth c cells slots Q nL G A pc lv (.ref a :: st) I := rc_fget (T := TX8) (k := 3) X T rfl hin (by decide) hw rfl hd kk
theorem gfX8_lows (X : rc_X p s m args meth c cc nL Ts own G A) (T : rc_is G a (shX8 a)) (hin : ∀ w ∈ wsX80, w ∈ Ts) (hw : Cond.fieldLink own idx "ReelChangerModel" "lows" "[I" ∈ Ts) (hd : decode cc pc = .ok (.getfield idx, 3)) (kk : rc_g p l e R s m args below meth c cells slots Q nL G A (pc + 3) lv (.ref (a + 5) :: st) I) : rc_g p l e R s m args below meth c cells slots Q nL G A pc lv (.ref a :: st) I := rc_fget (T := TX8) (k := 4) X T rfl hin (by decide) hw rfl hd kk
theorem gfX8_highs (X : rc_X p s m args meth c cc nL Ts own G A) (T : rc_is G a (shX8 a)) (hin : ∀ w ∈ wsX80, w ∈ Ts) (hw : Cond.fieldLink own idx "ReelChangerModel" "highs" "[I" ∈ Ts) (hd : decode cc pc = .ok (.getfield idx, 3)) (kk : rc_g p l e R s m args below meth c cells slots Q nL G A (pc + 3) lv (.ref (a + 6) :: st) I) : rc_g p l e R s m args below meth c cells slots Q nL G A pc lv (.ref a :: st) I := rc_fget (T := TX8) (k := 5) X T rfl hin (by decide) hw rfl hd kk
theorem gfX8_firsts (X : rc_X p s m args meth c cc nL Ts own G A) (T : rc_is G a (shX8 a)) (hin : ∀ w ∈ wsX80, w ∈ Ts) (hw : Cond.fieldLink own idx "ReelChangerModel" "firsts" "[I" ∈ Ts) (hd : decode cc pc = .ok (.getfield idx, 3)) (kk : rc_g p l e R s m args below meth c cells slots Q nL G A (pc + 3) lv (.ref (a + 7) :: st) I) : rc_g p l e R s m args below meth c cells slots Q nL G A pc lv (.ref a :: st) I := rc_fget (T := TX8) (k := 6) X T rfl hin (by decide) hw rfl hd kk
theorem gfX8_text (X : rc_X p s m args meth c cc nL Ts own G A) (T : rc_is G a (shX8 a)) (hin : ∀ w ∈ wsX80, w ∈ Ts) (hw : Cond.fieldLink own idx "ReelChangerModel" "text" "[I" ∈ Ts) (hd : decode cc pc = .ok (.getfield idx, 3)) (kk : rc_g p l e R s m args below meth c cells slots Q nL G A (pc + 3) lv (.ref (a + 8) :: st) I) : rc_g p l e R s m args below meth c cells slots Q nL G A pc lv (.ref a :: st) I := rc_fget (T := TX8) (k := 7) X T rfl hin (by decide) hw rfl hd kk
theorem gfX8_length (X : rc_X p s m args meth c cc nL Ts own G A) (T : rc_is G a (shX8 a)) (hin : ∀ w ∈ wsX80, w ∈ Ts) (hw : Cond.fieldLink own idx "ReelChangerModel" "length" "I" ∈ Ts) (hd : decode cc pc = .ok (.getfield idx, 3)) (kk : rc_g p l e R s m args below meth c cells slots Q nL G A (pc + 3) lv (.int (rc_o (I a 8)) :: st) I) : rc_g p l e R s m args below meth c cells slots Q nL G A pc lv (.ref a :: st) I := rc_fget (T := TX8) (k := 8) X T rfl hin (by decide) hw rfl hd kk
theorem pfX8_length (X : rc_X p s m args meth c cc nL Ts own G A) {x : Int} (T : rc_is G a (shX8 a)) (hin : ∀ w ∈ wsX80, w ∈ Ts) (hw : Cond.fieldLink own idx "ReelChangerModel" "length" "I" ∈ Ts) (hd : decode cc pc = .ok (.putfield idx, 3)) (kk : ∀ I1, I1 = rc_s I a 8 x → rc_g p l e R s m args below meth c cells slots Q nL G A (pc + 3) lv st I1) : rc_g p l e R s m args below meth c cells slots Q nL G A pc lv (.int (rc_o x) :: .ref a :: st) I := rc_fput (T := TX8) (k := 8) (ty := .int) X T rfl hin tyX8 tyX8_ok nmX8 (by decide) hw rfl rfl rfl rfl (Nat.le_of_ble_eq_true rfl) rfl hd kk
theorem gfX8_place (X : rc_X p s m args meth c cc nL Ts own G A) (T : rc_is G a (shX8 a)) (hin : ∀ w ∈ wsX80, w ∈ Ts) (hw : Cond.fieldLink own idx "ReelChangerModel" "place" "I" ∈ Ts) (hd : decode cc pc = .ok (.getfield idx, 3)) (kk : rc_g p l e R s m args below meth c cells slots Q nL G A (pc + 3) lv (.int (rc_o (I a 9)) :: st) I) : rc_g p l e R s m args below meth c cells slots Q nL G A pc lv (.ref a :: st) I := rc_fget (T := TX8) (k := 9) X T rfl hin (by decide) hw rfl hd kk
theorem pfX8_place (X : rc_X p s m args meth c cc nL Ts own G A) {x : Int} (T : rc_is G a (shX8 a)) (hin : ∀ w ∈ wsX80, w ∈ Ts) (hw : Cond.fieldLink own idx "ReelChangerModel" "place" "I" ∈ Ts) (hd : decode cc pc = .ok (.putfield idx, 3)) (kk : ∀ I1, I1 = rc_s I a 9 x → rc_g p l e R s m args below meth c cells slots Q nL G A (pc + 3) lv st I1) : rc_g p l e R s m args below meth c cells slots Q nL G A pc lv (.int (rc_o x) :: .ref a :: st) I := rc_fput (T := TX8) (k := 9) (ty := .int) X T rfl hin tyX8 tyX8_ok nmX8 (by decide) hw rfl rfl rfl rfl (Nat.le_of_ble_eq_true rfl) rfl hd kk
theorem gfX8_depth (X : rc_X p s m args meth c cc nL Ts own G A) (T : rc_is G a (shX8 a)) (hin : ∀ w ∈ wsX80, w ∈ Ts) (hw : Cond.fieldLink own idx "ReelChangerModel" "depth" "I" ∈ Ts) (hd : decode cc pc = .ok (.getfield idx, 3)) (kk : rc_g p l e R s m args below meth c cells slots Q nL G A (pc + 3) lv (.int (rc_o (I a 10)) :: st) I) : rc_g p l e R s m args below meth c cells slots Q nL G A pc lv (.ref a :: st) I := rc_fget (T := TX8) (k := 10) X T rfl hin (by decide) hw rfl hd kk
theorem pfX8_depth (X : rc_X p s m args meth c cc nL Ts own G A) {x : Int} (T : rc_is G a (shX8 a)) (hin : ∀ w ∈ wsX80, w ∈ Ts) (hw : Cond.fieldLink own idx "ReelChangerModel" "depth" "I" ∈ Ts) (hd : decode cc pc = .ok (.putfield idx, 3)) (kk : ∀ I1, I1 = rc_s I a 10 x → rc_g p l e R s m args below meth c cells slots Q nL G A (pc + 3) lv st I1) : rc_g p l e R s m args below meth c cells slots Q nL G A pc lv (.int (rc_o x) :: .ref a :: st) I := rc_fput (T := TX8) (k := 10) (ty := .int) X T rfl hin tyX8 tyX8_ok nmX8 (by decide) hw rfl rfl rfl rfl (Nat.le_of_ble_eq_true rfl) rfl hd kk
theorem gfX8_isFilled (X : rc_X p s m args meth c cc nL Ts own G A) (T : rc_is G a (shX8 a)) (hin : ∀ w ∈ wsX80, w ∈ Ts) (hw : Cond.fieldLink own idx "ReelChangerModel" "isFilled" "[Z" ∈ Ts) (hd : decode cc pc = .ok (.getfield idx, 3)) (kk : rc_g p l e R s m args below meth c cells slots Q nL G A (pc + 3) lv (.ref (a + 9) :: st) I) : rc_g p l e R s m args below meth c cells slots Q nL G A pc lv (.ref a :: st) I := rc_fget (T := TX8) (k := 11) X T rfl hin (by decide) hw rfl hd kk
theorem gfX8_begins (X : rc_X p s m args meth c cc nL Ts own G A) (T : rc_is G a (shX8 a)) (hin : ∀ w ∈ wsX80, w ∈ Ts) (hw : Cond.fieldLink own idx "ReelChangerModel" "begins" "[I" ∈ Ts) (hd : decode cc pc = .ok (.getfield idx, 3)) (kk : rc_g p l e R s m args below meth c cells slots Q nL G A (pc + 3) lv (.ref (a + 10) :: st) I) : rc_g p l e R s m args below meth c cells slots Q nL G A pc lv (.ref a :: st) I := rc_fget (T := TX8) (k := 12) X T rfl hin (by decide) hw rfl hd kk
theorem gfX8_times (X : rc_X p s m args meth c cc nL Ts own G A) (T : rc_is G a (shX8 a)) (hin : ∀ w ∈ wsX80, w ∈ Ts) (hw : Cond.fieldLink own idx "ReelChangerModel" "times" "[I" ∈ Ts) (hd : decode cc pc = .ok (.getfield idx, 3)) (kk : rc_g p l e R s m args below meth c cells slots Q nL G A (pc + 3) lv (.ref (a + 11) :: st) I) : rc_g p l e R s m args below meth c cells slots Q nL G A pc lv (.ref a :: st) I := rc_fget (T := TX8) (k := 13) X T rfl hin (by decide) hw rfl hd kk
theorem gfX8_told (X : rc_X p s m args meth c cc nL Ts own G A) (T : rc_is G a (shX8 a)) (hin : ∀ w ∈ wsX80, w ∈ Ts) (hw : Cond.fieldLink own idx "ReelChangerModel" "told" "[I" ∈ Ts) (hd : decode cc pc = .ok (.getfield idx, 3)) (kk : rc_g p l e R s m args below meth c cells slots Q nL G A (pc + 3) lv (.ref (a + 12) :: st) I) : rc_g p l e R s m args below meth c cells slots Q nL G A pc lv (.ref a :: st) I := rc_fget (T := TX8) (k := 14) X T rfl hin (by decide) hw rfl hd kk
theorem rc_qs {q : Nat} (kk : rc_g p l e R s m args below meth c cells slots Q nL G A pc lv (.ref q :: st) I) : rc_g p l e R s m args below meth c cells slots Q nL G A pc lv (va_rf (some q) :: st) I := kk
theorem rc_qn (kk : rc_g p l e R s m args below meth c cells slots Q nL G A pc lv (.null :: st) I) : rc_g p l e R s m args below meth c cells slots Q nL G A pc lv (va_rf none :: st) I := kk
end GF
theorem rc_b8 (n : Int) (h : -128 ≤ n ∧ n < 128) : (Int8.ofInt n).toInt32 = rc_o n := by
  apply Int32.toInt_inj.mp
  rw [rc_t ⟨by omega, by omega⟩, Int8.toInt_toInt32, Int8.toInt_ofInt_of_le (by omega) (by omega)]
theorem rc_b16 (n : Int) (h : -32768 ≤ n ∧ n < 32768) : (Int16.ofInt n).toInt32 = rc_o n := by
  apply Int32.toInt_inj.mp
  rw [rc_t ⟨by omega, by omega⟩, Int16.toInt_toInt32, Int16.toInt_ofInt_of_le (by omega) (by omega)]
theorem rc_tn {i : Int} {n : Nat} (h : 0 ≤ i ∧ i < n) : i.toNat < n := by omega
end
section
theorem dX0_init_0 : decode cX0_init 0 = .ok (.aload_n 0, 1) := by decide +kernel
theorem dX0_init_1 : decode cX0_init 1 = .ok (.invokespecial 3, 3) := by decide +kernel
theorem dX0_init_4 : decode cX0_init 4 = .ok (.aload_n 0, 1) := by decide +kernel
theorem dX0_init_5 : decode cX0_init 5 = .ok (.bipush 8, 2) := by decide +kernel
theorem dX0_init_7 : decode cX0_init 7 = .ok (.newarray .int, 2) := by decide +kernel
theorem dX0_init_9 : decode cX0_init 9 = .ok (.putfield 11, 3) := by decide +kernel
theorem dX0_init_12 : decode cX0_init 12 = .ok (.aload_n 0, 1) := by decide +kernel
theorem dX0_init_13 : decode cX0_init 13 = .ok (.bipush 8, 2) := by decide +kernel
theorem dX0_init_15 : decode cX0_init 15 = .ok (.newarray .int, 2) := by decide +kernel
theorem dX0_init_17 : decode cX0_init 17 = .ok (.putfield 15, 3) := by decide +kernel
theorem dX0_init_20 : decode cX0_init 20 = .ok (.return_, 1) := by decide +kernel
theorem dX0_copyFrom_0 : decode cX0_copyFrom 0 = .ok (.aload_n 0, 1) := by decide +kernel
theorem dX0_copyFrom_1 : decode cX0_copyFrom 1 = .ok (.aload_n 1, 1) := by decide +kernel
theorem dX0_copyFrom_2 : decode cX0_copyFrom 2 = .ok (.getfield 18, 3) := by decide +kernel
theorem dX0_copyFrom_5 : decode cX0_copyFrom 5 = .ok (.putfield 18, 3) := by decide +kernel
theorem dX0_copyFrom_8 : decode cX0_copyFrom 8 = .ok (.aload_n 0, 1) := by decide +kernel
theorem dX0_copyFrom_9 : decode cX0_copyFrom 9 = .ok (.aload_n 1, 1) := by decide +kernel
theorem dX0_copyFrom_10 : decode cX0_copyFrom 10 = .ok (.getfield 22, 3) := by decide +kernel
theorem dX0_copyFrom_13 : decode cX0_copyFrom 13 = .ok (.putfield 22, 3) := by decide +kernel
theorem dX0_copyFrom_16 : decode cX0_copyFrom 16 = .ok (.aload_n 0, 1) := by decide +kernel
theorem dX0_copyFrom_17 : decode cX0_copyFrom 17 = .ok (.aload_n 1, 1) := by decide +kernel
theorem dX0_copyFrom_18 : decode cX0_copyFrom 18 = .ok (.getfield 25, 3) := by decide +kernel
theorem dX0_copyFrom_21 : decode cX0_copyFrom 21 = .ok (.putfield 25, 3) := by decide +kernel
theorem dX0_copyFrom_24 : decode cX0_copyFrom 24 = .ok (.aload_n 0, 1) := by decide +kernel
theorem dX0_copyFrom_25 : decode cX0_copyFrom 25 = .ok (.aload_n 1, 1) := by decide +kernel
theorem dX0_copyFrom_26 : decode cX0_copyFrom 26 = .ok (.getfield 28, 3) := by decide +kernel
theorem dX0_copyFrom_29 : decode cX0_copyFrom 29 = .ok (.putfield 28, 3) := by decide +kernel
theorem dX0_copyFrom_32 : decode cX0_copyFrom 32 = .ok (.aload_n 1, 1) := by decide +kernel
theorem dX0_copyFrom_33 : decode cX0_copyFrom 33 = .ok (.getfield 11, 3) := by decide +kernel
theorem dX0_copyFrom_36 : decode cX0_copyFrom 36 = .ok (.iconst 0, 1) := by decide +kernel
theorem dX0_copyFrom_37 : decode cX0_copyFrom 37 = .ok (.aload_n 0, 1) := by decide +kernel
theorem dX0_copyFrom_38 : decode cX0_copyFrom 38 = .ok (.getfield 11, 3) := by decide +kernel
theorem dX0_copyFrom_41 : decode cX0_copyFrom 41 = .ok (.iconst 0, 1) := by decide +kernel
theorem dX0_copyFrom_42 : decode cX0_copyFrom 42 = .ok (.bipush 8, 2) := by decide +kernel
theorem dX0_copyFrom_44 : decode cX0_copyFrom 44 = .ok (.invokestatic 31, 3) := by decide +kernel
theorem dX0_copyFrom_47 : decode cX0_copyFrom 47 = .ok (.aload_n 1, 1) := by decide +kernel
theorem dX0_copyFrom_48 : decode cX0_copyFrom 48 = .ok (.getfield 15, 3) := by decide +kernel
theorem dX0_copyFrom_51 : decode cX0_copyFrom 51 = .ok (.iconst 0, 1) := by decide +kernel
theorem dX0_copyFrom_52 : decode cX0_copyFrom 52 = .ok (.aload_n 0, 1) := by decide +kernel
theorem dX0_copyFrom_53 : decode cX0_copyFrom 53 = .ok (.getfield 15, 3) := by decide +kernel
theorem dX0_copyFrom_56 : decode cX0_copyFrom 56 = .ok (.iconst 0, 1) := by decide +kernel
theorem dX0_copyFrom_57 : decode cX0_copyFrom 57 = .ok (.bipush 8, 2) := by decide +kernel
theorem dX0_copyFrom_59 : decode cX0_copyFrom 59 = .ok (.invokestatic 31, 3) := by decide +kernel
theorem dX0_copyFrom_62 : decode cX0_copyFrom 62 = .ok (.return_, 1) := by decide +kernel
theorem dX0_dropAll_0 : decode cX0_dropAll 0 = .ok (.aload_n 0, 1) := by decide +kernel
theorem dX0_dropAll_1 : decode cX0_dropAll 1 = .ok (.iconst 0, 1) := by decide +kernel
theorem dX0_dropAll_2 : decode cX0_dropAll 2 = .ok (.putfield 18, 3) := by decide +kernel
theorem dX0_dropAll_5 : decode cX0_dropAll 5 = .ok (.aload_n 0, 1) := by decide +kernel
theorem dX0_dropAll_6 : decode cX0_dropAll 6 = .ok (.iconst 0, 1) := by decide +kernel
theorem dX0_dropAll_7 : decode cX0_dropAll 7 = .ok (.putfield 22, 3) := by decide +kernel
theorem dX0_dropAll_10 : decode cX0_dropAll 10 = .ok (.return_, 1) := by decide +kernel
theorem dX0_isWorking_0 : decode cX0_isWorking 0 = .ok (.aload_n 0, 1) := by decide +kernel
theorem dX0_isWorking_1 : decode cX0_isWorking 1 = .ok (.getfield 18, 3) := by decide +kernel
theorem dX0_isWorking_4 : decode cX0_isWorking 4 = .ok (.ifCond .le 7, 3) := by decide +kernel
theorem dX0_isWorking_7 : decode cX0_isWorking 7 = .ok (.iconst 1, 1) := by decide +kernel
theorem dX0_isWorking_8 : decode cX0_isWorking 8 = .ok (.goto 4, 3) := by decide +kernel
theorem dX0_isWorking_11 : decode cX0_isWorking 11 = .ok (.iconst 0, 1) := by decide +kernel
theorem dX0_isWorking_12 : decode cX0_isWorking 12 = .ok (.ireturn, 1) := by decide +kernel
theorem dX0_hasTask_0 : decode cX0_hasTask 0 = .ok (.iload_n 1, 1) := by decide +kernel
theorem dX0_hasTask_1 : decode cX0_hasTask 1 = .ok (.ifCond .ne 18, 3) := by decide +kernel
theorem dX0_hasTask_4 : decode cX0_hasTask 4 = .ok (.aload_n 0, 1) := by decide +kernel
theorem dX0_hasTask_5 : decode cX0_hasTask 5 = .ok (.getfield 18, 3) := by decide +kernel
theorem dX0_hasTask_8 : decode cX0_hasTask 8 = .ok (.ifCond .le 7, 3) := by decide +kernel
theorem dX0_hasTask_11 : decode cX0_hasTask 11 = .ok (.iconst 1, 1) := by decide +kernel
theorem dX0_hasTask_12 : decode cX0_hasTask 12 = .ok (.goto 30, 3) := by decide +kernel
theorem dX0_hasTask_15 : decode cX0_hasTask 15 = .ok (.iconst 0, 1) := by decide +kernel
theorem dX0_hasTask_16 : decode cX0_hasTask 16 = .ok (.goto 26, 3) := by decide +kernel
theorem dX0_hasTask_19 : decode cX0_hasTask 19 = .ok (.iload_n 1, 1) := by decide +kernel
theorem dX0_hasTask_20 : decode cX0_hasTask 20 = .ok (.ifCond .le 21, 3) := by decide +kernel
theorem dX0_hasTask_23 : decode cX0_hasTask 23 = .ok (.iload_n 1, 1) := by decide +kernel
theorem dX0_hasTask_24 : decode cX0_hasTask 24 = .ok (.aload_n 0, 1) := by decide +kernel
theorem dX0_hasTask_25 : decode cX0_hasTask 25 = .ok (.getfield 22, 3) := by decide +kernel
theorem dX0_hasTask_28 : decode cX0_hasTask 28 = .ok (.if_icmp .gt 13, 3) := by decide +kernel
theorem dX0_hasTask_31 : decode cX0_hasTask 31 = .ok (.iload_n 1, 1) := by decide +kernel
theorem dX0_hasTask_32 : decode cX0_hasTask 32 = .ok (.bipush 8, 2) := by decide +kernel
theorem dX0_hasTask_34 : decode cX0_hasTask 34 = .ok (.if_icmp .gt 7, 3) := by decide +kernel
theorem dX0_hasTask_37 : decode cX0_hasTask 37 = .ok (.iconst 1, 1) := by decide +kernel
theorem dX0_hasTask_38 : decode cX0_hasTask 38 = .ok (.goto 4, 3) := by decide +kernel
theorem dX0_hasTask_41 : decode cX0_hasTask 41 = .ok (.iconst 0, 1) := by decide +kernel
theorem dX0_hasTask_42 : decode cX0_hasTask 42 = .ok (.ireturn, 1) := by decide +kernel
set_option maxRecDepth 20000 in
theorem ggX0_kindOf_X0_hasTask : GoodIn wsX0_kindOf wsX0_hasTask := goodIn_r _ [8, 9, 10, 11, 12, 13, 14, 15, 16] (by decide +kernel) (by decide +kernel)
set_option maxRecDepth 20000 in
theorem gX0_kindOf_X0_hasTask : GoodIn wsX0_kindOf (wsV RX0 37 RX0 yX0_hasTask wsX0_hasTask) := goodIn_app (goodIn_of _ (by decide +kernel)) ggX0_kindOf_X0_hasTask
theorem dX0_kindOf_0 : decode cX0_kindOf 0 = .ok (.aload_n 0, 1) := by decide +kernel
theorem dX0_kindOf_1 : decode cX0_kindOf 1 = .ok (.iload_n 1, 1) := by decide +kernel
theorem dX0_kindOf_2 : decode cX0_kindOf 2 = .ok (.invokevirtual 37, 3) := by decide +kernel
theorem dX0_kindOf_5 : decode cX0_kindOf 5 = .ok (.ifCond .ne 6, 3) := by decide +kernel
theorem dX0_kindOf_8 : decode cX0_kindOf 8 = .ok (.ldc 41, 2) := by decide +kernel
theorem dX0_kindOf_10 : decode cX0_kindOf 10 = .ok (.ireturn, 1) := by decide +kernel
theorem dX0_kindOf_11 : decode cX0_kindOf 11 = .ok (.iload_n 1, 1) := by decide +kernel
theorem dX0_kindOf_12 : decode cX0_kindOf 12 = .ok (.ifCond .ne 10, 3) := by decide +kernel
theorem dX0_kindOf_15 : decode cX0_kindOf 15 = .ok (.aload_n 0, 1) := by decide +kernel
theorem dX0_kindOf_16 : decode cX0_kindOf 16 = .ok (.getfield 25, 3) := by decide +kernel
theorem dX0_kindOf_19 : decode cX0_kindOf 19 = .ok (.goto 11, 3) := by decide +kernel
theorem dX0_kindOf_22 : decode cX0_kindOf 22 = .ok (.aload_n 0, 1) := by decide +kernel
theorem dX0_kindOf_23 : decode cX0_kindOf 23 = .ok (.getfield 11, 3) := by decide +kernel
theorem dX0_kindOf_26 : decode cX0_kindOf 26 = .ok (.iload_n 1, 1) := by decide +kernel
theorem dX0_kindOf_27 : decode cX0_kindOf 27 = .ok (.iconst 1, 1) := by decide +kernel
theorem dX0_kindOf_28 : decode cX0_kindOf 28 = .ok (.isub, 1) := by decide +kernel
theorem dX0_kindOf_29 : decode cX0_kindOf 29 = .ok (.iaload, 1) := by decide +kernel
theorem dX0_kindOf_30 : decode cX0_kindOf 30 = .ok (.ireturn, 1) := by decide +kernel
set_option maxRecDepth 20000 in
theorem ggX0_projectorOf_X0_hasTask : GoodIn wsX0_projectorOf wsX0_hasTask := goodIn_r _ [8, 9, 10, 11, 12, 13, 14, 15, 16] (by decide +kernel) (by decide +kernel)
set_option maxRecDepth 20000 in
theorem gX0_projectorOf_X0_hasTask : GoodIn wsX0_projectorOf (wsV RX0 37 RX0 yX0_hasTask wsX0_hasTask) := goodIn_app (goodIn_of _ (by decide +kernel)) ggX0_projectorOf_X0_hasTask
theorem dX0_projectorOf_0 : decode cX0_projectorOf 0 = .ok (.aload_n 0, 1) := by decide +kernel
theorem dX0_projectorOf_1 : decode cX0_projectorOf 1 = .ok (.iload_n 1, 1) := by decide +kernel
theorem dX0_projectorOf_2 : decode cX0_projectorOf 2 = .ok (.invokevirtual 37, 3) := by decide +kernel
theorem dX0_projectorOf_5 : decode cX0_projectorOf 5 = .ok (.ifCond .ne 6, 3) := by decide +kernel
theorem dX0_projectorOf_8 : decode cX0_projectorOf 8 = .ok (.ldc 41, 2) := by decide +kernel
theorem dX0_projectorOf_10 : decode cX0_projectorOf 10 = .ok (.ireturn, 1) := by decide +kernel
theorem dX0_projectorOf_11 : decode cX0_projectorOf 11 = .ok (.iload_n 1, 1) := by decide +kernel
theorem dX0_projectorOf_12 : decode cX0_projectorOf 12 = .ok (.ifCond .ne 10, 3) := by decide +kernel
theorem dX0_projectorOf_15 : decode cX0_projectorOf 15 = .ok (.aload_n 0, 1) := by decide +kernel
theorem dX0_projectorOf_16 : decode cX0_projectorOf 16 = .ok (.getfield 28, 3) := by decide +kernel
theorem dX0_projectorOf_19 : decode cX0_projectorOf 19 = .ok (.goto 11, 3) := by decide +kernel
theorem dX0_projectorOf_22 : decode cX0_projectorOf 22 = .ok (.aload_n 0, 1) := by decide +kernel
theorem dX0_projectorOf_23 : decode cX0_projectorOf 23 = .ok (.getfield 15, 3) := by decide +kernel
theorem dX0_projectorOf_26 : decode cX0_projectorOf 26 = .ok (.iload_n 1, 1) := by decide +kernel
theorem dX0_projectorOf_27 : decode cX0_projectorOf 27 = .ok (.iconst 1, 1) := by decide +kernel
theorem dX0_projectorOf_28 : decode cX0_projectorOf 28 = .ok (.isub, 1) := by decide +kernel
theorem dX0_projectorOf_29 : decode cX0_projectorOf 29 = .ok (.iaload, 1) := by decide +kernel
theorem dX0_projectorOf_30 : decode cX0_projectorOf 30 = .ok (.ireturn, 1) := by decide +kernel
set_option maxRecDepth 20000 in
theorem ggX0_threadTasks_X0_kindOf : GoodIn wsX0_threadTasks wsX0_kindOf := goodIn_r _ [5, 6, 7, 8, 9, 10, 11, 4, 12, 13, 14, 15, 16, 17, 18, 19, 20] (by decide +kernel) (by decide +kernel)
set_option maxRecDepth 20000 in
theorem gX0_threadTasks_X0_kindOf : GoodIn wsX0_threadTasks (wsV RX0 42 RX0 yX0_kindOf wsX0_kindOf) := goodIn_app (goodIn_of _ (by decide +kernel)) ggX0_threadTasks_X0_kindOf
theorem dX0_threadTasks_0 : decode cX0_threadTasks 0 = .ok (.iconst 0, 1) := by decide +kernel
theorem dX0_threadTasks_1 : decode cX0_threadTasks 1 = .ok (.istore_n 1, 1) := by decide +kernel
theorem dX0_threadTasks_2 : decode cX0_threadTasks 2 = .ok (.iconst 0, 1) := by decide +kernel
theorem dX0_threadTasks_3 : decode cX0_threadTasks 3 = .ok (.istore_n 2, 1) := by decide +kernel
theorem dX0_threadTasks_4 : decode cX0_threadTasks 4 = .ok (.iload_n 2, 1) := by decide +kernel
theorem dX0_threadTasks_5 : decode cX0_threadTasks 5 = .ok (.bipush 8, 2) := by decide +kernel
theorem dX0_threadTasks_7 : decode cX0_threadTasks 7 = .ok (.if_icmp .gt 21, 3) := by decide +kernel
theorem dX0_threadTasks_10 : decode cX0_threadTasks 10 = .ok (.aload_n 0, 1) := by decide +kernel
theorem dX0_threadTasks_11 : decode cX0_threadTasks 11 = .ok (.iload_n 2, 1) := by decide +kernel
theorem dX0_threadTasks_12 : decode cX0_threadTasks 12 = .ok (.invokevirtual 42, 3) := by decide +kernel
theorem dX0_threadTasks_15 : decode cX0_threadTasks 15 = .ok (.iconst 1, 1) := by decide +kernel
theorem dX0_threadTasks_16 : decode cX0_threadTasks 16 = .ok (.if_icmp .ne 6, 3) := by decide +kernel
theorem dX0_threadTasks_19 : decode cX0_threadTasks 19 = .ok (.iinc 1 1, 3) := by decide +kernel
theorem dX0_threadTasks_22 : decode cX0_threadTasks 22 = .ok (.iinc 2 1, 3) := by decide +kernel
theorem dX0_threadTasks_25 : decode cX0_threadTasks 25 = .ok (.goto (-21), 3) := by decide +kernel
theorem dX0_threadTasks_28 : decode cX0_threadTasks 28 = .ok (.iload_n 1, 1) := by decide +kernel
theorem dX0_threadTasks_29 : decode cX0_threadTasks 29 = .ok (.ireturn, 1) := by decide +kernel
theorem dX0_addLast_0 : decode cX0_addLast 0 = .ok (.aload_n 0, 1) := by decide +kernel
theorem dX0_addLast_1 : decode cX0_addLast 1 = .ok (.getfield 22, 3) := by decide +kernel
theorem dX0_addLast_4 : decode cX0_addLast 4 = .ok (.bipush 8, 2) := by decide +kernel
theorem dX0_addLast_6 : decode cX0_addLast 6 = .ok (.if_icmp .ge 33, 3) := by decide +kernel
theorem dX0_addLast_9 : decode cX0_addLast 9 = .ok (.aload_n 0, 1) := by decide +kernel
theorem dX0_addLast_10 : decode cX0_addLast 10 = .ok (.getfield 11, 3) := by decide +kernel
theorem dX0_addLast_13 : decode cX0_addLast 13 = .ok (.aload_n 0, 1) := by decide +kernel
theorem dX0_addLast_14 : decode cX0_addLast 14 = .ok (.getfield 22, 3) := by decide +kernel
theorem dX0_addLast_17 : decode cX0_addLast 17 = .ok (.iload_n 1, 1) := by decide +kernel
theorem dX0_addLast_18 : decode cX0_addLast 18 = .ok (.iastore, 1) := by decide +kernel
theorem dX0_addLast_19 : decode cX0_addLast 19 = .ok (.aload_n 0, 1) := by decide +kernel
theorem dX0_addLast_20 : decode cX0_addLast 20 = .ok (.getfield 15, 3) := by decide +kernel
theorem dX0_addLast_23 : decode cX0_addLast 23 = .ok (.aload_n 0, 1) := by decide +kernel
theorem dX0_addLast_24 : decode cX0_addLast 24 = .ok (.getfield 22, 3) := by decide +kernel
theorem dX0_addLast_27 : decode cX0_addLast 27 = .ok (.iload_n 2, 1) := by decide +kernel
theorem dX0_addLast_28 : decode cX0_addLast 28 = .ok (.iastore, 1) := by decide +kernel
theorem dX0_addLast_29 : decode cX0_addLast 29 = .ok (.aload_n 0, 1) := by decide +kernel
theorem dX0_addLast_30 : decode cX0_addLast 30 = .ok (.dup, 1) := by decide +kernel
theorem dX0_addLast_31 : decode cX0_addLast 31 = .ok (.getfield 22, 3) := by decide +kernel
theorem dX0_addLast_34 : decode cX0_addLast 34 = .ok (.iconst 1, 1) := by decide +kernel
theorem dX0_addLast_35 : decode cX0_addLast 35 = .ok (.iadd, 1) := by decide +kernel
theorem dX0_addLast_36 : decode cX0_addLast 36 = .ok (.putfield 22, 3) := by decide +kernel
theorem dX0_addLast_39 : decode cX0_addLast 39 = .ok (.return_, 1) := by decide +kernel
theorem dX0_addFirst_0 : decode cX0_addFirst 0 = .ok (.aload_n 0, 1) := by decide +kernel
theorem dX0_addFirst_1 : decode cX0_addFirst 1 = .ok (.getfield 22, 3) := by decide +kernel
theorem dX0_addFirst_4 : decode cX0_addFirst 4 = .ok (.bipush 8, 2) := by decide +kernel
theorem dX0_addFirst_6 : decode cX0_addFirst 6 = .ok (.if_icmp .ge 61, 3) := by decide +kernel
theorem dX0_addFirst_9 : decode cX0_addFirst 9 = .ok (.aload_n 0, 1) := by decide +kernel
theorem dX0_addFirst_10 : decode cX0_addFirst 10 = .ok (.getfield 11, 3) := by decide +kernel
theorem dX0_addFirst_13 : decode cX0_addFirst 13 = .ok (.iconst 0, 1) := by decide +kernel
theorem dX0_addFirst_14 : decode cX0_addFirst 14 = .ok (.aload_n 0, 1) := by decide +kernel
theorem dX0_addFirst_15 : decode cX0_addFirst 15 = .ok (.getfield 11, 3) := by decide +kernel
theorem dX0_addFirst_18 : decode cX0_addFirst 18 = .ok (.iconst 1, 1) := by decide +kernel
theorem dX0_addFirst_19 : decode cX0_addFirst 19 = .ok (.aload_n 0, 1) := by decide +kernel
theorem dX0_addFirst_20 : decode cX0_addFirst 20 = .ok (.getfield 22, 3) := by decide +kernel
theorem dX0_addFirst_23 : decode cX0_addFirst 23 = .ok (.invokestatic 31, 3) := by decide +kernel
theorem dX0_addFirst_26 : decode cX0_addFirst 26 = .ok (.aload_n 0, 1) := by decide +kernel
theorem dX0_addFirst_27 : decode cX0_addFirst 27 = .ok (.getfield 15, 3) := by decide +kernel
theorem dX0_addFirst_30 : decode cX0_addFirst 30 = .ok (.iconst 0, 1) := by decide +kernel
theorem dX0_addFirst_31 : decode cX0_addFirst 31 = .ok (.aload_n 0, 1) := by decide +kernel
theorem dX0_addFirst_32 : decode cX0_addFirst 32 = .ok (.getfield 15, 3) := by decide +kernel
theorem dX0_addFirst_35 : decode cX0_addFirst 35 = .ok (.iconst 1, 1) := by decide +kernel
theorem dX0_addFirst_36 : decode cX0_addFirst 36 = .ok (.aload_n 0, 1) := by decide +kernel
theorem dX0_addFirst_37 : decode cX0_addFirst 37 = .ok (.getfield 22, 3) := by decide +kernel
theorem dX0_addFirst_40 : decode cX0_addFirst 40 = .ok (.invokestatic 31, 3) := by decide +kernel
theorem dX0_addFirst_43 : decode cX0_addFirst 43 = .ok (.aload_n 0, 1) := by decide +kernel
theorem dX0_addFirst_44 : decode cX0_addFirst 44 = .ok (.getfield 11, 3) := by decide +kernel
theorem dX0_addFirst_47 : decode cX0_addFirst 47 = .ok (.iconst 0, 1) := by decide +kernel
theorem dX0_addFirst_48 : decode cX0_addFirst 48 = .ok (.iload_n 1, 1) := by decide +kernel
theorem dX0_addFirst_49 : decode cX0_addFirst 49 = .ok (.iastore, 1) := by decide +kernel
theorem dX0_addFirst_50 : decode cX0_addFirst 50 = .ok (.aload_n 0, 1) := by decide +kernel
theorem dX0_addFirst_51 : decode cX0_addFirst 51 = .ok (.getfield 15, 3) := by decide +kernel
theorem dX0_addFirst_54 : decode cX0_addFirst 54 = .ok (.iconst 0, 1) := by decide +kernel
theorem dX0_addFirst_55 : decode cX0_addFirst 55 = .ok (.iload_n 2, 1) := by decide +kernel
theorem dX0_addFirst_56 : decode cX0_addFirst 56 = .ok (.iastore, 1) := by decide +kernel
theorem dX0_addFirst_57 : decode cX0_addFirst 57 = .ok (.aload_n 0, 1) := by decide +kernel
theorem dX0_addFirst_58 : decode cX0_addFirst 58 = .ok (.dup, 1) := by decide +kernel
theorem dX0_addFirst_59 : decode cX0_addFirst 59 = .ok (.getfield 22, 3) := by decide +kernel
theorem dX0_addFirst_62 : decode cX0_addFirst 62 = .ok (.iconst 1, 1) := by decide +kernel
theorem dX0_addFirst_63 : decode cX0_addFirst 63 = .ok (.iadd, 1) := by decide +kernel
theorem dX0_addFirst_64 : decode cX0_addFirst 64 = .ok (.putfield 22, 3) := by decide +kernel
theorem dX0_addFirst_67 : decode cX0_addFirst 67 = .ok (.return_, 1) := by decide +kernel
theorem dX0_takeUp_0 : decode cX0_takeUp 0 = .ok (.aload_n 0, 1) := by decide +kernel
theorem dX0_takeUp_1 : decode cX0_takeUp 1 = .ok (.getfield 22, 3) := by decide +kernel
theorem dX0_takeUp_4 : decode cX0_takeUp 4 = .ok (.ifCond .le 72, 3) := by decide +kernel
theorem dX0_takeUp_7 : decode cX0_takeUp 7 = .ok (.aload_n 0, 1) := by decide +kernel
theorem dX0_takeUp_8 : decode cX0_takeUp 8 = .ok (.aload_n 0, 1) := by decide +kernel
theorem dX0_takeUp_9 : decode cX0_takeUp 9 = .ok (.getfield 11, 3) := by decide +kernel
theorem dX0_takeUp_12 : decode cX0_takeUp 12 = .ok (.iconst 0, 1) := by decide +kernel
theorem dX0_takeUp_13 : decode cX0_takeUp 13 = .ok (.iaload, 1) := by decide +kernel
theorem dX0_takeUp_14 : decode cX0_takeUp 14 = .ok (.putfield 25, 3) := by decide +kernel
theorem dX0_takeUp_17 : decode cX0_takeUp 17 = .ok (.aload_n 0, 1) := by decide +kernel
theorem dX0_takeUp_18 : decode cX0_takeUp 18 = .ok (.aload_n 0, 1) := by decide +kernel
theorem dX0_takeUp_19 : decode cX0_takeUp 19 = .ok (.getfield 15, 3) := by decide +kernel
theorem dX0_takeUp_22 : decode cX0_takeUp 22 = .ok (.iconst 0, 1) := by decide +kernel
theorem dX0_takeUp_23 : decode cX0_takeUp 23 = .ok (.iaload, 1) := by decide +kernel
theorem dX0_takeUp_24 : decode cX0_takeUp 24 = .ok (.putfield 28, 3) := by decide +kernel
theorem dX0_takeUp_27 : decode cX0_takeUp 27 = .ok (.aload_n 0, 1) := by decide +kernel
theorem dX0_takeUp_28 : decode cX0_takeUp 28 = .ok (.iload_n 1, 1) := by decide +kernel
theorem dX0_takeUp_29 : decode cX0_takeUp 29 = .ok (.putfield 18, 3) := by decide +kernel
theorem dX0_takeUp_32 : decode cX0_takeUp 32 = .ok (.aload_n 0, 1) := by decide +kernel
theorem dX0_takeUp_33 : decode cX0_takeUp 33 = .ok (.dup, 1) := by decide +kernel
theorem dX0_takeUp_34 : decode cX0_takeUp 34 = .ok (.getfield 22, 3) := by decide +kernel
theorem dX0_takeUp_37 : decode cX0_takeUp 37 = .ok (.iconst 1, 1) := by decide +kernel
theorem dX0_takeUp_38 : decode cX0_takeUp 38 = .ok (.isub, 1) := by decide +kernel
theorem dX0_takeUp_39 : decode cX0_takeUp 39 = .ok (.putfield 22, 3) := by decide +kernel
theorem dX0_takeUp_42 : decode cX0_takeUp 42 = .ok (.aload_n 0, 1) := by decide +kernel
theorem dX0_takeUp_43 : decode cX0_takeUp 43 = .ok (.getfield 11, 3) := by decide +kernel
theorem dX0_takeUp_46 : decode cX0_takeUp 46 = .ok (.iconst 1, 1) := by decide +kernel
theorem dX0_takeUp_47 : decode cX0_takeUp 47 = .ok (.aload_n 0, 1) := by decide +kernel
theorem dX0_takeUp_48 : decode cX0_takeUp 48 = .ok (.getfield 11, 3) := by decide +kernel
theorem dX0_takeUp_51 : decode cX0_takeUp 51 = .ok (.iconst 0, 1) := by decide +kernel
theorem dX0_takeUp_52 : decode cX0_takeUp 52 = .ok (.aload_n 0, 1) := by decide +kernel
theorem dX0_takeUp_53 : decode cX0_takeUp 53 = .ok (.getfield 22, 3) := by decide +kernel
theorem dX0_takeUp_56 : decode cX0_takeUp 56 = .ok (.invokestatic 31, 3) := by decide +kernel
theorem dX0_takeUp_59 : decode cX0_takeUp 59 = .ok (.aload_n 0, 1) := by decide +kernel
theorem dX0_takeUp_60 : decode cX0_takeUp 60 = .ok (.getfield 15, 3) := by decide +kernel
theorem dX0_takeUp_63 : decode cX0_takeUp 63 = .ok (.iconst 1, 1) := by decide +kernel
theorem dX0_takeUp_64 : decode cX0_takeUp 64 = .ok (.aload_n 0, 1) := by decide +kernel
theorem dX0_takeUp_65 : decode cX0_takeUp 65 = .ok (.getfield 15, 3) := by decide +kernel
theorem dX0_takeUp_68 : decode cX0_takeUp 68 = .ok (.iconst 0, 1) := by decide +kernel
theorem dX0_takeUp_69 : decode cX0_takeUp 69 = .ok (.aload_n 0, 1) := by decide +kernel
theorem dX0_takeUp_70 : decode cX0_takeUp 70 = .ok (.getfield 22, 3) := by decide +kernel
theorem dX0_takeUp_73 : decode cX0_takeUp 73 = .ok (.invokestatic 31, 3) := by decide +kernel
theorem dX0_takeUp_76 : decode cX0_takeUp 76 = .ok (.return_, 1) := by decide +kernel
theorem dX1_init_0 : decode cX1_init 0 = .ok (.aload_n 0, 1) := by decide +kernel
theorem dX1_init_1 : decode cX1_init 1 = .ok (.invokespecial 3, 3) := by decide +kernel
theorem dX1_init_4 : decode cX1_init 4 = .ok (.aload_n 0, 1) := by decide +kernel
theorem dX1_init_5 : decode cX1_init 5 = .ok (.bipush 12, 2) := by decide +kernel
theorem dX1_init_7 : decode cX1_init 7 = .ok (.newarray .int, 2) := by decide +kernel
theorem dX1_init_9 : decode cX1_init 9 = .ok (.putfield 11, 3) := by decide +kernel
theorem dX1_init_12 : decode cX1_init 12 = .ok (.aload_n 0, 1) := by decide +kernel
theorem dX1_init_13 : decode cX1_init 13 = .ok (.bipush 60, 2) := by decide +kernel
theorem dX1_init_15 : decode cX1_init 15 = .ok (.newarray .int, 2) := by decide +kernel
theorem dX1_init_17 : decode cX1_init 17 = .ok (.putfield 17, 3) := by decide +kernel
theorem dX1_init_20 : decode cX1_init 20 = .ok (.aload_n 0, 1) := by decide +kernel
theorem dX1_init_21 : decode cX1_init 21 = .ok (.iconst 3, 1) := by decide +kernel
theorem dX1_init_22 : decode cX1_init 22 = .ok (.newarray .int, 2) := by decide +kernel
theorem dX1_init_24 : decode cX1_init 24 = .ok (.putfield 20, 3) := by decide +kernel
theorem dX1_init_27 : decode cX1_init 27 = .ok (.return_, 1) := by decide +kernel
theorem dX1_add_0 : decode cX1_add 0 = .ok (.aload_n 0, 1) := by decide +kernel
theorem dX1_add_1 : decode cX1_add 1 = .ok (.getfield 23, 3) := by decide +kernel
theorem dX1_add_4 : decode cX1_add 4 = .ok (.bipush 60, 2) := by decide +kernel
theorem dX1_add_6 : decode cX1_add 6 = .ok (.if_icmp .lt 6, 3) := by decide +kernel
theorem dX1_add_9 : decode cX1_add 9 = .ok (.ldc 27, 2) := by decide +kernel
theorem dX1_add_11 : decode cX1_add 11 = .ok (.ireturn, 1) := by decide +kernel
theorem dX1_add_12 : decode cX1_add 12 = .ok (.aload_n 0, 1) := by decide +kernel
theorem dX1_add_13 : decode cX1_add 13 = .ok (.getfield 17, 3) := by decide +kernel
theorem dX1_add_16 : decode cX1_add 16 = .ok (.aload_n 0, 1) := by decide +kernel
theorem dX1_add_17 : decode cX1_add 17 = .ok (.getfield 23, 3) := by decide +kernel
theorem dX1_add_20 : decode cX1_add 20 = .ok (.iload_n 1, 1) := by decide +kernel
theorem dX1_add_21 : decode cX1_add 21 = .ok (.iastore, 1) := by decide +kernel
theorem dX1_add_22 : decode cX1_add 22 = .ok (.aload_n 0, 1) := by decide +kernel
theorem dX1_add_23 : decode cX1_add 23 = .ok (.dup, 1) := by decide +kernel
theorem dX1_add_24 : decode cX1_add 24 = .ok (.getfield 23, 3) := by decide +kernel
theorem dX1_add_27 : decode cX1_add 27 = .ok (.iconst 1, 1) := by decide +kernel
theorem dX1_add_28 : decode cX1_add 28 = .ok (.iadd, 1) := by decide +kernel
theorem dX1_add_29 : decode cX1_add 29 = .ok (.putfield 23, 3) := by decide +kernel
theorem dX1_add_32 : decode cX1_add 32 = .ok (.aload_n 0, 1) := by decide +kernel
theorem dX1_add_33 : decode cX1_add 33 = .ok (.getfield 23, 3) := by decide +kernel
theorem dX1_add_36 : decode cX1_add 36 = .ok (.ireturn, 1) := by decide +kernel
theorem dX1_empty_0 : decode cX1_empty 0 = .ok (.aload_n 0, 1) := by decide +kernel
theorem dX1_empty_1 : decode cX1_empty 1 = .ok (.getfield 23, 3) := by decide +kernel
theorem dX1_empty_4 : decode cX1_empty 4 = .ok (.istore_n 1, 1) := by decide +kernel
theorem dX1_empty_5 : decode cX1_empty 5 = .ok (.aload_n 0, 1) := by decide +kernel
theorem dX1_empty_6 : decode cX1_empty 6 = .ok (.iconst 0, 1) := by decide +kernel
theorem dX1_empty_7 : decode cX1_empty 7 = .ok (.putfield 23, 3) := by decide +kernel
theorem dX1_empty_10 : decode cX1_empty 10 = .ok (.iload_n 1, 1) := by decide +kernel
theorem dX1_empty_11 : decode cX1_empty 11 = .ok (.ireturn, 1) := by decide +kernel
set_option maxRecDepth 20000 in
theorem ggX1_findFault_X1_standingBehind : GoodIn wsX1_findFault wsX1_standingBehind := goodIn_r _ [10, 2, 5, 1, 14, 15, 16, 17, 18, 19] (by decide +kernel) (by decide +kernel)
set_option maxRecDepth 20000 in
theorem gX1_findFault_X1_standingBehind : GoodIn wsX1_findFault (wsV RX1 34 RX1 yX1_standingBehind wsX1_standingBehind) := goodIn_app (goodIn_of _ (by decide +kernel)) ggX1_findFault_X1_standingBehind
set_option maxRecDepth 20000 in
theorem ggX1_findFault_X1_depthChange : GoodIn wsX1_findFault wsX1_depthChange := goodIn_r _ [13] (by decide +kernel) (by decide +kernel)
set_option maxRecDepth 20000 in
theorem gX1_findFault_X1_depthChange : GoodIn wsX1_findFault (va_wsS RX1 39 yX1_depthChange wsX1_depthChange) := goodIn_app (goodIn_of _ (by decide +kernel)) ggX1_findFault_X1_depthChange
theorem dX1_findFault_0 : decode cX1_findFault 0 = .ok (.aload_n 0, 1) := by decide +kernel
theorem dX1_findFault_1 : decode cX1_findFault 1 = .ok (.iconst 0, 1) := by decide +kernel
theorem dX1_findFault_2 : decode cX1_findFault 2 = .ok (.putfield 28, 3) := by decide +kernel
theorem dX1_findFault_5 : decode cX1_findFault 5 = .ok (.aload_n 0, 1) := by decide +kernel
theorem dX1_findFault_6 : decode cX1_findFault 6 = .ok (.iconst 0, 1) := by decide +kernel
theorem dX1_findFault_7 : decode cX1_findFault 7 = .ok (.putfield 31, 3) := by decide +kernel
theorem dX1_findFault_10 : decode cX1_findFault 10 = .ok (.iconst 0, 1) := by decide +kernel
theorem dX1_findFault_11 : decode cX1_findFault 11 = .ok (.istore_n 2, 1) := by decide +kernel
theorem dX1_findFault_12 : decode cX1_findFault 12 = .ok (.iload_n 2, 1) := by decide +kernel
theorem dX1_findFault_13 : decode cX1_findFault 13 = .ok (.aload_n 0, 1) := by decide +kernel
theorem dX1_findFault_14 : decode cX1_findFault 14 = .ok (.getfield 23, 3) := by decide +kernel
theorem dX1_findFault_17 : decode cX1_findFault 17 = .ok (.if_icmp .ge 58, 3) := by decide +kernel
theorem dX1_findFault_20 : decode cX1_findFault 20 = .ok (.iload_n 2, 1) := by decide +kernel
theorem dX1_findFault_21 : decode cX1_findFault 21 = .ok (.bipush 60, 2) := by decide +kernel
theorem dX1_findFault_23 : decode cX1_findFault 23 = .ok (.if_icmp .ge 52, 3) := by decide +kernel
theorem dX1_findFault_26 : decode cX1_findFault 26 = .ok (.aload_n 0, 1) := by decide +kernel
theorem dX1_findFault_27 : decode cX1_findFault 27 = .ok (.aload_n 0, 1) := by decide +kernel
theorem dX1_findFault_28 : decode cX1_findFault 28 = .ok (.getfield 17, 3) := by decide +kernel
theorem dX1_findFault_31 : decode cX1_findFault 31 = .ok (.iload_n 2, 1) := by decide +kernel
theorem dX1_findFault_32 : decode cX1_findFault 32 = .ok (.iaload, 1) := by decide +kernel
theorem dX1_findFault_33 : decode cX1_findFault 33 = .ok (.iload_n 1, 1) := by decide +kernel
theorem dX1_findFault_34 : decode cX1_findFault 34 = .ok (.invokevirtual 34, 3) := by decide +kernel
theorem dX1_findFault_37 : decode cX1_findFault 37 = .ok (.istore_n 3, 1) := by decide +kernel
theorem dX1_findFault_38 : decode cX1_findFault 38 = .ok (.iload_n 3, 1) := by decide +kernel
theorem dX1_findFault_39 : decode cX1_findFault 39 = .ok (.ldc 38, 2) := by decide +kernel
theorem dX1_findFault_41 : decode cX1_findFault 41 = .ok (.if_icmp .ne 5, 3) := by decide +kernel
theorem dX1_findFault_44 : decode cX1_findFault 44 = .ok (.iload_n 2, 1) := by decide +kernel
theorem dX1_findFault_45 : decode cX1_findFault 45 = .ok (.ireturn, 1) := by decide +kernel
theorem dX1_findFault_46 : decode cX1_findFault 46 = .ok (.aload_n 0, 1) := by decide +kernel
theorem dX1_findFault_47 : decode cX1_findFault 47 = .ok (.iload_n 3, 1) := by decide +kernel
theorem dX1_findFault_48 : decode cX1_findFault 48 = .ok (.putfield 31, 3) := by decide +kernel
theorem dX1_findFault_51 : decode cX1_findFault 51 = .ok (.aload_n 0, 1) := by decide +kernel
theorem dX1_findFault_52 : decode cX1_findFault 52 = .ok (.dup, 1) := by decide +kernel
theorem dX1_findFault_53 : decode cX1_findFault 53 = .ok (.getfield 28, 3) := by decide +kernel
theorem dX1_findFault_56 : decode cX1_findFault 56 = .ok (.aload_n 0, 1) := by decide +kernel
theorem dX1_findFault_57 : decode cX1_findFault 57 = .ok (.getfield 17, 3) := by decide +kernel
theorem dX1_findFault_60 : decode cX1_findFault 60 = .ok (.iload_n 2, 1) := by decide +kernel
theorem dX1_findFault_61 : decode cX1_findFault 61 = .ok (.iaload, 1) := by decide +kernel
theorem dX1_findFault_62 : decode cX1_findFault 62 = .ok (.invokestatic 39, 3) := by decide +kernel
theorem dX1_findFault_65 : decode cX1_findFault 65 = .ok (.iadd, 1) := by decide +kernel
theorem dX1_findFault_66 : decode cX1_findFault 66 = .ok (.putfield 28, 3) := by decide +kernel
theorem dX1_findFault_69 : decode cX1_findFault 69 = .ok (.iinc 2 1, 3) := by decide +kernel
theorem dX1_findFault_72 : decode cX1_findFault 72 = .ok (.goto (-60), 3) := by decide +kernel
theorem dX1_findFault_75 : decode cX1_findFault 75 = .ok (.aload_n 0, 1) := by decide +kernel
theorem dX1_findFault_76 : decode cX1_findFault 76 = .ok (.getfield 28, 3) := by decide +kernel
theorem dX1_findFault_79 : decode cX1_findFault 79 = .ok (.ifCond .ne 23, 3) := by decide +kernel
theorem dX1_findFault_82 : decode cX1_findFault 82 = .ok (.aload_n 0, 1) := by decide +kernel
theorem dX1_findFault_83 : decode cX1_findFault 83 = .ok (.getfield 31, 3) := by decide +kernel
theorem dX1_findFault_86 : decode cX1_findFault 86 = .ok (.iconst 1, 1) := by decide +kernel
theorem dX1_findFault_87 : decode cX1_findFault 87 = .ok (.if_icmp .eq 11, 3) := by decide +kernel
theorem dX1_findFault_90 : decode cX1_findFault 90 = .ok (.aload_n 0, 1) := by decide +kernel
theorem dX1_findFault_91 : decode cX1_findFault 91 = .ok (.getfield 31, 3) := by decide +kernel
theorem dX1_findFault_94 : decode cX1_findFault 94 = .ok (.iconst 2, 1) := by decide +kernel
theorem dX1_findFault_95 : decode cX1_findFault 95 = .ok (.if_icmp .ne 7, 3) := by decide +kernel
theorem dX1_findFault_98 : decode cX1_findFault 98 = .ok (.iconst 1, 1) := by decide +kernel
theorem dX1_findFault_99 : decode cX1_findFault 99 = .ok (.goto 4, 3) := by decide +kernel
theorem dX1_findFault_102 : decode cX1_findFault 102 = .ok (.iconst 0, 1) := by decide +kernel
theorem dX1_findFault_103 : decode cX1_findFault 103 = .ok (.istore_n 2, 1) := by decide +kernel
theorem dX1_findFault_104 : decode cX1_findFault 104 = .ok (.iload_n 2, 1) := by decide +kernel
theorem dX1_findFault_105 : decode cX1_findFault 105 = .ok (.ifCond .eq 8, 3) := by decide +kernel
theorem dX1_findFault_108 : decode cX1_findFault 108 = .ok (.ldc 38, 2) := by decide +kernel
theorem dX1_findFault_110 : decode cX1_findFault 110 = .ok (.goto 7, 3) := by decide +kernel
theorem dX1_findFault_113 : decode cX1_findFault 113 = .ok (.aload_n 0, 1) := by decide +kernel
theorem dX1_findFault_114 : decode cX1_findFault 114 = .ok (.getfield 23, 3) := by decide +kernel
theorem dX1_findFault_117 : decode cX1_findFault 117 = .ok (.ireturn, 1) := by decide +kernel
theorem dX1_standingBehind_0 : decode cX1_standingBehind 0 = .ok (.aload_n 0, 1) := by decide +kernel
theorem dX1_standingBehind_1 : decode cX1_standingBehind 1 = .ok (.getfield 31, 3) := by decide +kernel
theorem dX1_standingBehind_4 : decode cX1_standingBehind 4 = .ok (.iconst 3, 1) := by decide +kernel
theorem dX1_standingBehind_5 : decode cX1_standingBehind 5 = .ok (.if_icmp .ne 22, 3) := by decide +kernel
theorem dX1_standingBehind_8 : decode cX1_standingBehind 8 = .ok (.iload_n 1, 1) := by decide +kernel
theorem dX1_standingBehind_9 : decode cX1_standingBehind 9 = .ok (.bipush 50, 2) := by decide +kernel
theorem dX1_standingBehind_11 : decode cX1_standingBehind 11 = .ok (.if_icmp .lt 13, 3) := by decide +kernel
theorem dX1_standingBehind_14 : decode cX1_standingBehind 14 = .ok (.iload_n 1, 1) := by decide +kernel
theorem dX1_standingBehind_15 : decode cX1_standingBehind 15 = .ok (.bipush 57, 2) := by decide +kernel
theorem dX1_standingBehind_17 : decode cX1_standingBehind 17 = .ok (.if_icmp .gt 7, 3) := by decide +kernel
theorem dX1_standingBehind_20 : decode cX1_standingBehind 20 = .ok (.iconst 1, 1) := by decide +kernel
theorem dX1_standingBehind_21 : decode cX1_standingBehind 21 = .ok (.goto 5, 3) := by decide +kernel
theorem dX1_standingBehind_24 : decode cX1_standingBehind 24 = .ok (.ldc 38, 2) := by decide +kernel
theorem dX1_standingBehind_26 : decode cX1_standingBehind 26 = .ok (.ireturn, 1) := by decide +kernel
theorem dX1_standingBehind_27 : decode cX1_standingBehind 27 = .ok (.iload_n 1, 1) := by decide +kernel
theorem dX1_standingBehind_28 : decode cX1_standingBehind 28 = .ok (.bipush 48, 2) := by decide +kernel
theorem dX1_standingBehind_30 : decode cX1_standingBehind 30 = .ok (.if_icmp .lt 24, 3) := by decide +kernel
theorem dX1_standingBehind_33 : decode cX1_standingBehind 33 = .ok (.iload_n 1, 1) := by decide +kernel
theorem dX1_standingBehind_34 : decode cX1_standingBehind 34 = .ok (.bipush 57, 2) := by decide +kernel
theorem dX1_standingBehind_36 : decode cX1_standingBehind 36 = .ok (.if_icmp .gt 18, 3) := by decide +kernel
theorem dX1_standingBehind_39 : decode cX1_standingBehind 39 = .ok (.iload_n 1, 1) := by decide +kernel
theorem dX1_standingBehind_40 : decode cX1_standingBehind 40 = .ok (.bipush 48, 2) := by decide +kernel
theorem dX1_standingBehind_42 : decode cX1_standingBehind 42 = .ok (.isub, 1) := by decide +kernel
theorem dX1_standingBehind_43 : decode cX1_standingBehind 43 = .ok (.iload_n 2, 1) := by decide +kernel
theorem dX1_standingBehind_44 : decode cX1_standingBehind 44 = .ok (.if_icmp .ge 7, 3) := by decide +kernel
theorem dX1_standingBehind_47 : decode cX1_standingBehind 47 = .ok (.iconst 1, 1) := by decide +kernel
theorem dX1_standingBehind_48 : decode cX1_standingBehind 48 = .ok (.goto 5, 3) := by decide +kernel
theorem dX1_standingBehind_51 : decode cX1_standingBehind 51 = .ok (.ldc 38, 2) := by decide +kernel
theorem dX1_standingBehind_53 : decode cX1_standingBehind 53 = .ok (.ireturn, 1) := by decide +kernel
theorem dX1_standingBehind_54 : decode cX1_standingBehind 54 = .ok (.iload_n 1, 1) := by decide +kernel
theorem dX1_standingBehind_55 : decode cX1_standingBehind 55 = .ok (.lookupswitch 84 #[(40, 33), (41, 48), (120, 69)], 33) := by decide +kernel
theorem dX1_standingBehind_88 : decode cX1_standingBehind 88 = .ok (.aload_n 0, 1) := by decide +kernel
theorem dX1_standingBehind_89 : decode cX1_standingBehind 89 = .ok (.getfield 28, 3) := by decide +kernel
theorem dX1_standingBehind_92 : decode cX1_standingBehind 92 = .ok (.iconst 3, 1) := by decide +kernel
theorem dX1_standingBehind_93 : decode cX1_standingBehind 93 = .ok (.if_icmp .ge 7, 3) := by decide +kernel
theorem dX1_standingBehind_96 : decode cX1_standingBehind 96 = .ok (.iconst 0, 1) := by decide +kernel
theorem dX1_standingBehind_97 : decode cX1_standingBehind 97 = .ok (.goto 5, 3) := by decide +kernel
theorem dX1_standingBehind_100 : decode cX1_standingBehind 100 = .ok (.ldc 38, 2) := by decide +kernel
theorem dX1_standingBehind_102 : decode cX1_standingBehind 102 = .ok (.ireturn, 1) := by decide +kernel
theorem dX1_standingBehind_103 : decode cX1_standingBehind 103 = .ok (.aload_n 0, 1) := by decide +kernel
theorem dX1_standingBehind_104 : decode cX1_standingBehind 104 = .ok (.getfield 28, 3) := by decide +kernel
theorem dX1_standingBehind_107 : decode cX1_standingBehind 107 = .ok (.ifCond .le 14, 3) := by decide +kernel
theorem dX1_standingBehind_110 : decode cX1_standingBehind 110 = .ok (.aload_n 0, 1) := by decide +kernel
theorem dX1_standingBehind_111 : decode cX1_standingBehind 111 = .ok (.getfield 31, 3) := by decide +kernel
theorem dX1_standingBehind_114 : decode cX1_standingBehind 114 = .ok (.ifCond .eq 7, 3) := by decide +kernel
theorem dX1_standingBehind_117 : decode cX1_standingBehind 117 = .ok (.iconst 2, 1) := by decide +kernel
theorem dX1_standingBehind_118 : decode cX1_standingBehind 118 = .ok (.goto 5, 3) := by decide +kernel
theorem dX1_standingBehind_121 : decode cX1_standingBehind 121 = .ok (.ldc 38, 2) := by decide +kernel
theorem dX1_standingBehind_123 : decode cX1_standingBehind 123 = .ok (.ireturn, 1) := by decide +kernel
theorem dX1_standingBehind_124 : decode cX1_standingBehind 124 = .ok (.aload_n 0, 1) := by decide +kernel
theorem dX1_standingBehind_125 : decode cX1_standingBehind 125 = .ok (.getfield 31, 3) := by decide +kernel
theorem dX1_standingBehind_128 : decode cX1_standingBehind 128 = .ok (.iconst 2, 1) := by decide +kernel
theorem dX1_standingBehind_129 : decode cX1_standingBehind 129 = .ok (.if_icmp .ne 7, 3) := by decide +kernel
theorem dX1_standingBehind_132 : decode cX1_standingBehind 132 = .ok (.iconst 3, 1) := by decide +kernel
theorem dX1_standingBehind_133 : decode cX1_standingBehind 133 = .ok (.goto 5, 3) := by decide +kernel
theorem dX1_standingBehind_136 : decode cX1_standingBehind 136 = .ok (.ldc 38, 2) := by decide +kernel
theorem dX1_standingBehind_138 : decode cX1_standingBehind 138 = .ok (.ireturn, 1) := by decide +kernel
theorem dX1_standingBehind_139 : decode cX1_standingBehind 139 = .ok (.ldc 38, 2) := by decide +kernel
theorem dX1_standingBehind_141 : decode cX1_standingBehind 141 = .ok (.ireturn, 1) := by decide +kernel
theorem dX1_depthChange_0 : decode cX1_depthChange 0 = .ok (.iload_n 0, 1) := by decide +kernel
theorem dX1_depthChange_1 : decode cX1_depthChange 1 = .ok (.bipush 40, 2) := by decide +kernel
theorem dX1_depthChange_3 : decode cX1_depthChange 3 = .ok (.if_icmp .ne 7, 3) := by decide +kernel
theorem dX1_depthChange_6 : decode cX1_depthChange 6 = .ok (.iconst 1, 1) := by decide +kernel
theorem dX1_depthChange_7 : decode cX1_depthChange 7 = .ok (.goto 14, 3) := by decide +kernel
theorem dX1_depthChange_10 : decode cX1_depthChange 10 = .ok (.iload_n 0, 1) := by decide +kernel
theorem dX1_depthChange_11 : decode cX1_depthChange 11 = .ok (.bipush 41, 2) := by decide +kernel
theorem dX1_depthChange_13 : decode cX1_depthChange 13 = .ok (.if_icmp .ne 7, 3) := by decide +kernel
theorem dX1_depthChange_16 : decode cX1_depthChange 16 = .ok (.iconst (-1), 1) := by decide +kernel
theorem dX1_depthChange_17 : decode cX1_depthChange 17 = .ok (.goto 4, 3) := by decide +kernel
theorem dX1_depthChange_20 : decode cX1_depthChange 20 = .ok (.iconst 0, 1) := by decide +kernel
theorem dX1_depthChange_21 : decode cX1_depthChange 21 = .ok (.ireturn, 1) := by decide +kernel
set_option maxRecDepth 20000 in
theorem ggX1_expand_X1_repeatGroup : GoodIn wsX1_expand wsX1_repeatGroup := goodIn_r _ [9, 10, 11, 12, 13, 14, 2, 15, 16, 17, 8, 18, 19, 20, 21, 22, 23, 24] (by decide +kernel) (by decide +kernel)
set_option maxRecDepth 20000 in
theorem gX1_expand_X1_repeatGroup : GoodIn wsX1_expand (wsV RX1 43 RX1 yX1_repeatGroup wsX1_repeatGroup) := goodIn_app (goodIn_of _ (by decide +kernel)) ggX1_expand_X1_repeatGroup
set_option maxRecDepth 20000 in
theorem ggX1_expand_X1_addReel : GoodIn wsX1_expand wsX1_addReel := goodIn_r _ [18, 14, 2, 19, 20, 21, 22, 23, 24] (by decide +kernel) (by decide +kernel)
set_option maxRecDepth 20000 in
theorem gX1_expand_X1_addReel : GoodIn wsX1_expand (wsV RX1 47 RX1 yX1_addReel wsX1_addReel) := goodIn_app (goodIn_of _ (by decide +kernel)) ggX1_expand_X1_addReel
theorem dX1_expand_0 : decode cX1_expand 0 = .ok (.iconst 0, 1) := by decide +kernel
theorem dX1_expand_1 : decode cX1_expand 1 = .ok (.istore_n 1, 1) := by decide +kernel
theorem dX1_expand_2 : decode cX1_expand 2 = .ok (.iconst 0, 1) := by decide +kernel
theorem dX1_expand_3 : decode cX1_expand 3 = .ok (.istore_n 2, 1) := by decide +kernel
theorem dX1_expand_4 : decode cX1_expand 4 = .ok (.iconst 0, 1) := by decide +kernel
theorem dX1_expand_5 : decode cX1_expand 5 = .ok (.istore_n 3, 1) := by decide +kernel
theorem dX1_expand_6 : decode cX1_expand 6 = .ok (.iconst 0, 1) := by decide +kernel
theorem dX1_expand_7 : decode cX1_expand 7 = .ok (.istore 4, 2) := by decide +kernel
theorem dX1_expand_9 : decode cX1_expand 9 = .ok (.iconst 0, 1) := by decide +kernel
theorem dX1_expand_10 : decode cX1_expand 10 = .ok (.istore 5, 2) := by decide +kernel
theorem dX1_expand_12 : decode cX1_expand 12 = .ok (.iload 5, 2) := by decide +kernel
theorem dX1_expand_14 : decode cX1_expand 14 = .ok (.aload_n 0, 1) := by decide +kernel
theorem dX1_expand_15 : decode cX1_expand 15 = .ok (.getfield 23, 3) := by decide +kernel
theorem dX1_expand_18 : decode cX1_expand 18 = .ok (.if_icmp .ge 127, 3) := by decide +kernel
theorem dX1_expand_21 : decode cX1_expand 21 = .ok (.iload 5, 2) := by decide +kernel
theorem dX1_expand_23 : decode cX1_expand 23 = .ok (.bipush 60, 2) := by decide +kernel
theorem dX1_expand_25 : decode cX1_expand 25 = .ok (.if_icmp .ge 120, 3) := by decide +kernel
theorem dX1_expand_28 : decode cX1_expand 28 = .ok (.iload_n 1, 1) := by decide +kernel
theorem dX1_expand_29 : decode cX1_expand 29 = .ok (.ldc 27, 2) := by decide +kernel
theorem dX1_expand_31 : decode cX1_expand 31 = .ok (.if_icmp .eq 114, 3) := by decide +kernel
theorem dX1_expand_34 : decode cX1_expand 34 = .ok (.aload_n 0, 1) := by decide +kernel
theorem dX1_expand_35 : decode cX1_expand 35 = .ok (.getfield 17, 3) := by decide +kernel
theorem dX1_expand_38 : decode cX1_expand 38 = .ok (.iload 5, 2) := by decide +kernel
theorem dX1_expand_40 : decode cX1_expand 40 = .ok (.iaload, 1) := by decide +kernel
theorem dX1_expand_41 : decode cX1_expand 41 = .ok (.istore 6, 2) := by decide +kernel
theorem dX1_expand_43 : decode cX1_expand 43 = .ok (.iload 6, 2) := by decide +kernel
theorem dX1_expand_45 : decode cX1_expand 45 = .ok (.bipush 40, 2) := by decide +kernel
theorem dX1_expand_47 : decode cX1_expand 47 = .ok (.if_icmp .ne 21, 3) := by decide +kernel
theorem dX1_expand_50 : decode cX1_expand 50 = .ok (.iload_n 2, 1) := by decide +kernel
theorem dX1_expand_51 : decode cX1_expand 51 = .ok (.iconst 3, 1) := by decide +kernel
theorem dX1_expand_52 : decode cX1_expand 52 = .ok (.if_icmp .ge 87, 3) := by decide +kernel
theorem dX1_expand_55 : decode cX1_expand 55 = .ok (.aload_n 0, 1) := by decide +kernel
theorem dX1_expand_56 : decode cX1_expand 56 = .ok (.getfield 20, 3) := by decide +kernel
theorem dX1_expand_59 : decode cX1_expand 59 = .ok (.iload_n 2, 1) := by decide +kernel
theorem dX1_expand_60 : decode cX1_expand 60 = .ok (.iload_n 1, 1) := by decide +kernel
theorem dX1_expand_61 : decode cX1_expand 61 = .ok (.iastore, 1) := by decide +kernel
theorem dX1_expand_62 : decode cX1_expand 62 = .ok (.iinc 2 1, 3) := by decide +kernel
theorem dX1_expand_65 : decode cX1_expand 65 = .ok (.goto 74, 3) := by decide +kernel
theorem dX1_expand_68 : decode cX1_expand 68 = .ok (.iload 6, 2) := by decide +kernel
theorem dX1_expand_70 : decode cX1_expand 70 = .ok (.bipush 41, 2) := by decide +kernel
theorem dX1_expand_72 : decode cX1_expand 72 = .ok (.if_icmp .ne 20, 3) := by decide +kernel
theorem dX1_expand_75 : decode cX1_expand 75 = .ok (.iload_n 2, 1) := by decide +kernel
theorem dX1_expand_76 : decode cX1_expand 76 = .ok (.ifCond .le 63, 3) := by decide +kernel
theorem dX1_expand_79 : decode cX1_expand 79 = .ok (.iinc 2 (-1), 3) := by decide +kernel
theorem dX1_expand_82 : decode cX1_expand 82 = .ok (.aload_n 0, 1) := by decide +kernel
theorem dX1_expand_83 : decode cX1_expand 83 = .ok (.getfield 20, 3) := by decide +kernel
theorem dX1_expand_86 : decode cX1_expand 86 = .ok (.iload_n 2, 1) := by decide +kernel
theorem dX1_expand_87 : decode cX1_expand 87 = .ok (.iaload, 1) := by decide +kernel
theorem dX1_expand_88 : decode cX1_expand 88 = .ok (.istore_n 3, 1) := by decide +kernel
theorem dX1_expand_89 : decode cX1_expand 89 = .ok (.goto 50, 3) := by decide +kernel
theorem dX1_expand_92 : decode cX1_expand 92 = .ok (.iload 6, 2) := by decide +kernel
theorem dX1_expand_94 : decode cX1_expand 94 = .ok (.bipush 120, 2) := by decide +kernel
theorem dX1_expand_96 : decode cX1_expand 96 = .ok (.if_icmp .ne 9, 3) := by decide +kernel
theorem dX1_expand_99 : decode cX1_expand 99 = .ok (.iconst 1, 1) := by decide +kernel
theorem dX1_expand_100 : decode cX1_expand 100 = .ok (.istore 4, 2) := by decide +kernel
theorem dX1_expand_102 : decode cX1_expand 102 = .ok (.goto 37, 3) := by decide +kernel
theorem dX1_expand_105 : decode cX1_expand 105 = .ok (.iload 4, 2) := by decide +kernel
theorem dX1_expand_107 : decode cX1_expand 107 = .ok (.ifCond .eq 21, 3) := by decide +kernel
theorem dX1_expand_110 : decode cX1_expand 110 = .ok (.aload_n 0, 1) := by decide +kernel
theorem dX1_expand_111 : decode cX1_expand 111 = .ok (.iload_n 3, 1) := by decide +kernel
theorem dX1_expand_112 : decode cX1_expand 112 = .ok (.iload_n 1, 1) := by decide +kernel
theorem dX1_expand_113 : decode cX1_expand 113 = .ok (.iload 6, 2) := by decide +kernel
theorem dX1_expand_115 : decode cX1_expand 115 = .ok (.bipush 48, 2) := by decide +kernel
theorem dX1_expand_117 : decode cX1_expand 117 = .ok (.isub, 1) := by decide +kernel
theorem dX1_expand_118 : decode cX1_expand 118 = .ok (.invokevirtual 43, 3) := by decide +kernel
theorem dX1_expand_121 : decode cX1_expand 121 = .ok (.istore_n 1, 1) := by decide +kernel
theorem dX1_expand_122 : decode cX1_expand 122 = .ok (.iconst 0, 1) := by decide +kernel
theorem dX1_expand_123 : decode cX1_expand 123 = .ok (.istore 4, 2) := by decide +kernel
theorem dX1_expand_125 : decode cX1_expand 125 = .ok (.goto 14, 3) := by decide +kernel
theorem dX1_expand_128 : decode cX1_expand 128 = .ok (.aload_n 0, 1) := by decide +kernel
theorem dX1_expand_129 : decode cX1_expand 129 = .ok (.iload 6, 2) := by decide +kernel
theorem dX1_expand_131 : decode cX1_expand 131 = .ok (.bipush 48, 2) := by decide +kernel
theorem dX1_expand_133 : decode cX1_expand 133 = .ok (.isub, 1) := by decide +kernel
theorem dX1_expand_134 : decode cX1_expand 134 = .ok (.iload_n 1, 1) := by decide +kernel
theorem dX1_expand_135 : decode cX1_expand 135 = .ok (.invokevirtual 47, 3) := by decide +kernel
theorem dX1_expand_138 : decode cX1_expand 138 = .ok (.istore_n 1, 1) := by decide +kernel
theorem dX1_expand_139 : decode cX1_expand 139 = .ok (.iinc 5 1, 3) := by decide +kernel
theorem dX1_expand_142 : decode cX1_expand 142 = .ok (.goto (-130), 3) := by decide +kernel
theorem dX1_expand_145 : decode cX1_expand 145 = .ok (.iload_n 1, 1) := by decide +kernel
theorem dX1_expand_146 : decode cX1_expand 146 = .ok (.ireturn, 1) := by decide +kernel
theorem dX1_addReel_0 : decode cX1_addReel 0 = .ok (.iload_n 2, 1) := by decide +kernel
theorem dX1_addReel_1 : decode cX1_addReel 1 = .ok (.ifCond .lt 12, 3) := by decide +kernel
theorem dX1_addReel_4 : decode cX1_addReel 4 = .ok (.iload_n 2, 1) := by decide +kernel
theorem dX1_addReel_5 : decode cX1_addReel 5 = .ok (.aload_n 0, 1) := by decide +kernel
theorem dX1_addReel_6 : decode cX1_addReel 6 = .ok (.getfield 11, 3) := by decide +kernel
theorem dX1_addReel_9 : decode cX1_addReel 9 = .ok (.arraylength, 1) := by decide +kernel
theorem dX1_addReel_10 : decode cX1_addReel 10 = .ok (.if_icmp .lt 6, 3) := by decide +kernel
theorem dX1_addReel_13 : decode cX1_addReel 13 = .ok (.ldc 27, 2) := by decide +kernel
theorem dX1_addReel_15 : decode cX1_addReel 15 = .ok (.ireturn, 1) := by decide +kernel
theorem dX1_addReel_16 : decode cX1_addReel 16 = .ok (.aload_n 0, 1) := by decide +kernel
theorem dX1_addReel_17 : decode cX1_addReel 17 = .ok (.getfield 11, 3) := by decide +kernel
theorem dX1_addReel_20 : decode cX1_addReel 20 = .ok (.iload_n 2, 1) := by decide +kernel
theorem dX1_addReel_21 : decode cX1_addReel 21 = .ok (.iload_n 1, 1) := by decide +kernel
theorem dX1_addReel_22 : decode cX1_addReel 22 = .ok (.iastore, 1) := by decide +kernel
theorem dX1_addReel_23 : decode cX1_addReel 23 = .ok (.iload_n 2, 1) := by decide +kernel
theorem dX1_addReel_24 : decode cX1_addReel 24 = .ok (.iconst 1, 1) := by decide +kernel
theorem dX1_addReel_25 : decode cX1_addReel 25 = .ok (.iadd, 1) := by decide +kernel
theorem dX1_addReel_26 : decode cX1_addReel 26 = .ok (.ireturn, 1) := by decide +kernel
set_option maxRecDepth 20000 in
theorem ggX1_repeatGroup_X1_addReel : GoodIn wsX1_repeatGroup wsX1_addReel := goodIn_r _ [11, 5, 6, 12, 13, 14, 15, 16, 17] (by decide +kernel) (by decide +kernel)
set_option maxRecDepth 20000 in
theorem gX1_repeatGroup_X1_addReel : GoodIn wsX1_repeatGroup (wsV RX1 47 RX1 yX1_addReel wsX1_addReel) := goodIn_app (goodIn_of _ (by decide +kernel)) ggX1_repeatGroup_X1_addReel
theorem dX1_repeatGroup_0 : decode cX1_repeatGroup 0 = .ok (.iload_n 2, 1) := by decide +kernel
theorem dX1_repeatGroup_1 : decode cX1_repeatGroup 1 = .ok (.istore 4, 2) := by decide +kernel
theorem dX1_repeatGroup_3 : decode cX1_repeatGroup 3 = .ok (.iload_n 1, 1) := by decide +kernel
theorem dX1_repeatGroup_4 : decode cX1_repeatGroup 4 = .ok (.iload_n 2, 1) := by decide +kernel
theorem dX1_repeatGroup_5 : decode cX1_repeatGroup 5 = .ok (.iload_n 1, 1) := by decide +kernel
theorem dX1_repeatGroup_6 : decode cX1_repeatGroup 6 = .ok (.isub, 1) := by decide +kernel
theorem dX1_repeatGroup_7 : decode cX1_repeatGroup 7 = .ok (.iload_n 3, 1) := by decide +kernel
theorem dX1_repeatGroup_8 : decode cX1_repeatGroup 8 = .ok (.iconst 1, 1) := by decide +kernel
theorem dX1_repeatGroup_9 : decode cX1_repeatGroup 9 = .ok (.isub, 1) := by decide +kernel
theorem dX1_repeatGroup_10 : decode cX1_repeatGroup 10 = .ok (.imul, 1) := by decide +kernel
theorem dX1_repeatGroup_11 : decode cX1_repeatGroup 11 = .ok (.iadd, 1) := by decide +kernel
theorem dX1_repeatGroup_12 : decode cX1_repeatGroup 12 = .ok (.istore 5, 2) := by decide +kernel
theorem dX1_repeatGroup_14 : decode cX1_repeatGroup 14 = .ok (.iconst 0, 1) := by decide +kernel
theorem dX1_repeatGroup_15 : decode cX1_repeatGroup 15 = .ok (.iload_n 1, 1) := by decide +kernel
theorem dX1_repeatGroup_16 : decode cX1_repeatGroup 16 = .ok (.invokestatic 50, 3) := by decide +kernel
theorem dX1_repeatGroup_19 : decode cX1_repeatGroup 19 = .ok (.istore 6, 2) := by decide +kernel
theorem dX1_repeatGroup_21 : decode cX1_repeatGroup 21 = .ok (.iload 6, 2) := by decide +kernel
theorem dX1_repeatGroup_23 : decode cX1_repeatGroup 23 = .ok (.iload 5, 2) := by decide +kernel
theorem dX1_repeatGroup_25 : decode cX1_repeatGroup 25 = .ok (.if_icmp .ge 41, 3) := by decide +kernel
theorem dX1_repeatGroup_28 : decode cX1_repeatGroup 28 = .ok (.iload 6, 2) := by decide +kernel
theorem dX1_repeatGroup_30 : decode cX1_repeatGroup 30 = .ok (.aload_n 0, 1) := by decide +kernel
theorem dX1_repeatGroup_31 : decode cX1_repeatGroup 31 = .ok (.getfield 11, 3) := by decide +kernel
theorem dX1_repeatGroup_34 : decode cX1_repeatGroup 34 = .ok (.arraylength, 1) := by decide +kernel
theorem dX1_repeatGroup_35 : decode cX1_repeatGroup 35 = .ok (.if_icmp .ge 31, 3) := by decide +kernel
theorem dX1_repeatGroup_38 : decode cX1_repeatGroup 38 = .ok (.iload 4, 2) := by decide +kernel
theorem dX1_repeatGroup_40 : decode cX1_repeatGroup 40 = .ok (.ldc 27, 2) := by decide +kernel
theorem dX1_repeatGroup_42 : decode cX1_repeatGroup 42 = .ok (.if_icmp .eq 24, 3) := by decide +kernel
theorem dX1_repeatGroup_45 : decode cX1_repeatGroup 45 = .ok (.aload_n 0, 1) := by decide +kernel
theorem dX1_repeatGroup_46 : decode cX1_repeatGroup 46 = .ok (.aload_n 0, 1) := by decide +kernel
theorem dX1_repeatGroup_47 : decode cX1_repeatGroup 47 = .ok (.getfield 11, 3) := by decide +kernel
theorem dX1_repeatGroup_50 : decode cX1_repeatGroup 50 = .ok (.iload 6, 2) := by decide +kernel
theorem dX1_repeatGroup_52 : decode cX1_repeatGroup 52 = .ok (.iaload, 1) := by decide +kernel
theorem dX1_repeatGroup_53 : decode cX1_repeatGroup 53 = .ok (.iload 4, 2) := by decide +kernel
theorem dX1_repeatGroup_55 : decode cX1_repeatGroup 55 = .ok (.invokevirtual 47, 3) := by decide +kernel
theorem dX1_repeatGroup_58 : decode cX1_repeatGroup 58 = .ok (.istore 4, 2) := by decide +kernel
theorem dX1_repeatGroup_60 : decode cX1_repeatGroup 60 = .ok (.iinc 6 1, 3) := by decide +kernel
theorem dX1_repeatGroup_63 : decode cX1_repeatGroup 63 = .ok (.goto (-42), 3) := by decide +kernel
theorem dX1_repeatGroup_66 : decode cX1_repeatGroup 66 = .ok (.iload 4, 2) := by decide +kernel
theorem dX1_repeatGroup_68 : decode cX1_repeatGroup 68 = .ok (.ireturn, 1) := by decide +kernel
theorem dX2_init_0 : decode cX2_init 0 = .ok (.aload_n 0, 1) := by decide +kernel
theorem dX2_init_1 : decode cX2_init 1 = .ok (.invokespecial 3, 3) := by decide +kernel
theorem dX2_init_4 : decode cX2_init 4 = .ok (.return_, 1) := by decide +kernel
theorem dX2_copyFrom_0 : decode cX2_copyFrom 0 = .ok (.aload_n 0, 1) := by decide +kernel
theorem dX2_copyFrom_1 : decode cX2_copyFrom 1 = .ok (.aload_n 1, 1) := by decide +kernel
theorem dX2_copyFrom_2 : decode cX2_copyFrom 2 = .ok (.getfield 9, 3) := by decide +kernel
theorem dX2_copyFrom_5 : decode cX2_copyFrom 5 = .ok (.putfield 9, 3) := by decide +kernel
theorem dX2_copyFrom_8 : decode cX2_copyFrom 8 = .ok (.aload_n 0, 1) := by decide +kernel
theorem dX2_copyFrom_9 : decode cX2_copyFrom 9 = .ok (.aload_n 1, 1) := by decide +kernel
theorem dX2_copyFrom_10 : decode cX2_copyFrom 10 = .ok (.getfield 15, 3) := by decide +kernel
theorem dX2_copyFrom_13 : decode cX2_copyFrom 13 = .ok (.putfield 15, 3) := by decide +kernel
theorem dX2_copyFrom_16 : decode cX2_copyFrom 16 = .ok (.aload_n 0, 1) := by decide +kernel
theorem dX2_copyFrom_17 : decode cX2_copyFrom 17 = .ok (.aload_n 1, 1) := by decide +kernel
theorem dX2_copyFrom_18 : decode cX2_copyFrom 18 = .ok (.getfield 18, 3) := by decide +kernel
theorem dX2_copyFrom_21 : decode cX2_copyFrom 21 = .ok (.putfield 18, 3) := by decide +kernel
theorem dX2_copyFrom_24 : decode cX2_copyFrom 24 = .ok (.return_, 1) := by decide +kernel
theorem dX2_thread_0 : decode cX2_thread 0 = .ok (.aload_n 0, 1) := by decide +kernel
theorem dX2_thread_1 : decode cX2_thread 1 = .ok (.iconst 1, 1) := by decide +kernel
theorem dX2_thread_2 : decode cX2_thread 2 = .ok (.putfield 9, 3) := by decide +kernel
theorem dX2_thread_5 : decode cX2_thread 5 = .ok (.aload_n 0, 1) := by decide +kernel
theorem dX2_thread_6 : decode cX2_thread 6 = .ok (.iload_n 1, 1) := by decide +kernel
theorem dX2_thread_7 : decode cX2_thread 7 = .ok (.putfield 15, 3) := by decide +kernel
theorem dX2_thread_10 : decode cX2_thread 10 = .ok (.return_, 1) := by decide +kernel
theorem dX2_start_0 : decode cX2_start 0 = .ok (.aload_n 0, 1) := by decide +kernel
theorem dX2_start_1 : decode cX2_start 1 = .ok (.iconst 2, 1) := by decide +kernel
theorem dX2_start_2 : decode cX2_start 2 = .ok (.putfield 9, 3) := by decide +kernel
theorem dX2_start_5 : decode cX2_start 5 = .ok (.aload_n 0, 1) := by decide +kernel
theorem dX2_start_6 : decode cX2_start 6 = .ok (.iload_n 1, 1) := by decide +kernel
theorem dX2_start_7 : decode cX2_start 7 = .ok (.putfield 18, 3) := by decide +kernel
theorem dX2_start_10 : decode cX2_start 10 = .ok (.return_, 1) := by decide +kernel
theorem dX2_isAtFrame_0 : decode cX2_isAtFrame 0 = .ok (.aload_n 0, 1) := by decide +kernel
theorem dX2_isAtFrame_1 : decode cX2_isAtFrame 1 = .ok (.getfield 9, 3) := by decide +kernel
theorem dX2_isAtFrame_4 : decode cX2_isAtFrame 4 = .ok (.iconst 2, 1) := by decide +kernel
theorem dX2_isAtFrame_5 : decode cX2_isAtFrame 5 = .ok (.if_icmp .eq 19, 3) := by decide +kernel
theorem dX2_isAtFrame_8 : decode cX2_isAtFrame 8 = .ok (.aload_n 0, 1) := by decide +kernel
theorem dX2_isAtFrame_9 : decode cX2_isAtFrame 9 = .ok (.getfield 9, 3) := by decide +kernel
theorem dX2_isAtFrame_12 : decode cX2_isAtFrame 12 = .ok (.iconst 3, 1) := by decide +kernel
theorem dX2_isAtFrame_13 : decode cX2_isAtFrame 13 = .ok (.if_icmp .eq 11, 3) := by decide +kernel
theorem dX2_isAtFrame_16 : decode cX2_isAtFrame 16 = .ok (.aload_n 0, 1) := by decide +kernel
theorem dX2_isAtFrame_17 : decode cX2_isAtFrame 17 = .ok (.getfield 9, 3) := by decide +kernel
theorem dX2_isAtFrame_20 : decode cX2_isAtFrame 20 = .ok (.iconst 5, 1) := by decide +kernel
theorem dX2_isAtFrame_21 : decode cX2_isAtFrame 21 = .ok (.if_icmp .ne 7, 3) := by decide +kernel
theorem dX2_isAtFrame_24 : decode cX2_isAtFrame 24 = .ok (.iconst 1, 1) := by decide +kernel
theorem dX2_isAtFrame_25 : decode cX2_isAtFrame 25 = .ok (.goto 4, 3) := by decide +kernel
theorem dX2_isAtFrame_28 : decode cX2_isAtFrame 28 = .ok (.iconst 0, 1) := by decide +kernel
theorem dX2_isAtFrame_29 : decode cX2_isAtFrame 29 = .ok (.ireturn, 1) := by decide +kernel
theorem dX2_isMoving_0 : decode cX2_isMoving 0 = .ok (.aload_n 0, 1) := by decide +kernel
theorem dX2_isMoving_1 : decode cX2_isMoving 1 = .ok (.getfield 9, 3) := by decide +kernel
theorem dX2_isMoving_4 : decode cX2_isMoving 4 = .ok (.iconst 2, 1) := by decide +kernel
theorem dX2_isMoving_5 : decode cX2_isMoving 5 = .ok (.if_icmp .eq 11, 3) := by decide +kernel
theorem dX2_isMoving_8 : decode cX2_isMoving 8 = .ok (.aload_n 0, 1) := by decide +kernel
theorem dX2_isMoving_9 : decode cX2_isMoving 9 = .ok (.getfield 9, 3) := by decide +kernel
theorem dX2_isMoving_12 : decode cX2_isMoving 12 = .ok (.iconst 3, 1) := by decide +kernel
theorem dX2_isMoving_13 : decode cX2_isMoving 13 = .ok (.if_icmp .ne 7, 3) := by decide +kernel
theorem dX2_isMoving_16 : decode cX2_isMoving 16 = .ok (.iconst 1, 1) := by decide +kernel
theorem dX2_isMoving_17 : decode cX2_isMoving 17 = .ok (.goto 4, 3) := by decide +kernel
theorem dX2_isMoving_20 : decode cX2_isMoving 20 = .ok (.iconst 0, 1) := by decide +kernel
theorem dX2_isMoving_21 : decode cX2_isMoving 21 = .ok (.ireturn, 1) := by decide +kernel
theorem dX3_init_0 : decode cX3_init 0 = .ok (.aload_n 0, 1) := by decide +kernel
theorem dX3_init_1 : decode cX3_init 1 = .ok (.invokespecial 3, 3) := by decide +kernel
theorem dX3_init_4 : decode cX3_init 4 = .ok (.aload_n 0, 1) := by decide +kernel
theorem dX3_init_5 : decode cX3_init 5 = .ok (.bipush 6, 2) := by decide +kernel
theorem dX3_init_7 : decode cX3_init 7 = .ok (.newarray .int, 2) := by decide +kernel
theorem dX3_init_9 : decode cX3_init 9 = .ok (.putfield 11, 3) := by decide +kernel
theorem dX3_init_12 : decode cX3_init 12 = .ok (.aload_n 0, 1) := by decide +kernel
theorem dX3_init_13 : decode cX3_init 13 = .ok (.bipush 6, 2) := by decide +kernel
theorem dX3_init_15 : decode cX3_init 15 = .ok (.newarray .int, 2) := by decide +kernel
theorem dX3_init_17 : decode cX3_init 17 = .ok (.putfield 15, 3) := by decide +kernel
theorem dX3_init_20 : decode cX3_init 20 = .ok (.return_, 1) := by decide +kernel
theorem dX3_renew_0 : decode cX3_renew 0 = .ok (.aload_n 0, 1) := by decide +kernel
theorem dX3_renew_1 : decode cX3_renew 1 = .ok (.iload_n 1, 1) := by decide +kernel
theorem dX3_renew_2 : decode cX3_renew 2 = .ok (.putfield 18, 3) := by decide +kernel
theorem dX3_renew_5 : decode cX3_renew 5 = .ok (.aload_n 0, 1) := by decide +kernel
theorem dX3_renew_6 : decode cX3_renew 6 = .ok (.iconst 0, 1) := by decide +kernel
theorem dX3_renew_7 : decode cX3_renew 7 = .ok (.putfield 22, 3) := by decide +kernel
theorem dX3_renew_10 : decode cX3_renew 10 = .ok (.return_, 1) := by decide +kernel
theorem dX3_copyFrom_0 : decode cX3_copyFrom 0 = .ok (.aload_n 0, 1) := by decide +kernel
theorem dX3_copyFrom_1 : decode cX3_copyFrom 1 = .ok (.aload_n 1, 1) := by decide +kernel
theorem dX3_copyFrom_2 : decode cX3_copyFrom 2 = .ok (.getfield 18, 3) := by decide +kernel
theorem dX3_copyFrom_5 : decode cX3_copyFrom 5 = .ok (.putfield 18, 3) := by decide +kernel
theorem dX3_copyFrom_8 : decode cX3_copyFrom 8 = .ok (.aload_n 0, 1) := by decide +kernel
theorem dX3_copyFrom_9 : decode cX3_copyFrom 9 = .ok (.aload_n 1, 1) := by decide +kernel
theorem dX3_copyFrom_10 : decode cX3_copyFrom 10 = .ok (.getfield 22, 3) := by decide +kernel
theorem dX3_copyFrom_13 : decode cX3_copyFrom 13 = .ok (.putfield 22, 3) := by decide +kernel
theorem dX3_copyFrom_16 : decode cX3_copyFrom 16 = .ok (.aload_n 1, 1) := by decide +kernel
theorem dX3_copyFrom_17 : decode cX3_copyFrom 17 = .ok (.getfield 11, 3) := by decide +kernel
theorem dX3_copyFrom_20 : decode cX3_copyFrom 20 = .ok (.iconst 0, 1) := by decide +kernel
theorem dX3_copyFrom_21 : decode cX3_copyFrom 21 = .ok (.aload_n 0, 1) := by decide +kernel
theorem dX3_copyFrom_22 : decode cX3_copyFrom 22 = .ok (.getfield 11, 3) := by decide +kernel
theorem dX3_copyFrom_25 : decode cX3_copyFrom 25 = .ok (.iconst 0, 1) := by decide +kernel
theorem dX3_copyFrom_26 : decode cX3_copyFrom 26 = .ok (.bipush 6, 2) := by decide +kernel
theorem dX3_copyFrom_28 : decode cX3_copyFrom 28 = .ok (.invokestatic 25, 3) := by decide +kernel
theorem dX3_copyFrom_31 : decode cX3_copyFrom 31 = .ok (.aload_n 1, 1) := by decide +kernel
theorem dX3_copyFrom_32 : decode cX3_copyFrom 32 = .ok (.getfield 15, 3) := by decide +kernel
theorem dX3_copyFrom_35 : decode cX3_copyFrom 35 = .ok (.iconst 0, 1) := by decide +kernel
theorem dX3_copyFrom_36 : decode cX3_copyFrom 36 = .ok (.aload_n 0, 1) := by decide +kernel
theorem dX3_copyFrom_37 : decode cX3_copyFrom 37 = .ok (.getfield 15, 3) := by decide +kernel
theorem dX3_copyFrom_40 : decode cX3_copyFrom 40 = .ok (.iconst 0, 1) := by decide +kernel
theorem dX3_copyFrom_41 : decode cX3_copyFrom 41 = .ok (.bipush 6, 2) := by decide +kernel
theorem dX3_copyFrom_43 : decode cX3_copyFrom 43 = .ok (.invokestatic 25, 3) := by decide +kernel
theorem dX3_copyFrom_46 : decode cX3_copyFrom 46 = .ok (.return_, 1) := by decide +kernel
theorem dX3_hasSplice_0 : decode cX3_hasSplice 0 = .ok (.iload_n 1, 1) := by decide +kernel
theorem dX3_hasSplice_1 : decode cX3_hasSplice 1 = .ok (.ifCond .lt 21, 3) := by decide +kernel
theorem dX3_hasSplice_4 : decode cX3_hasSplice 4 = .ok (.iload_n 1, 1) := by decide +kernel
theorem dX3_hasSplice_5 : decode cX3_hasSplice 5 = .ok (.aload_n 0, 1) := by decide +kernel
theorem dX3_hasSplice_6 : decode cX3_hasSplice 6 = .ok (.getfield 22, 3) := by decide +kernel
theorem dX3_hasSplice_9 : decode cX3_hasSplice 9 = .ok (.if_icmp .ge 13, 3) := by decide +kernel
theorem dX3_hasSplice_12 : decode cX3_hasSplice 12 = .ok (.iload_n 1, 1) := by decide +kernel
theorem dX3_hasSplice_13 : decode cX3_hasSplice 13 = .ok (.bipush 6, 2) := by decide +kernel
theorem dX3_hasSplice_15 : decode cX3_hasSplice 15 = .ok (.if_icmp .ge 7, 3) := by decide +kernel
theorem dX3_hasSplice_18 : decode cX3_hasSplice 18 = .ok (.iconst 1, 1) := by decide +kernel
theorem dX3_hasSplice_19 : decode cX3_hasSplice 19 = .ok (.goto 4, 3) := by decide +kernel
theorem dX3_hasSplice_22 : decode cX3_hasSplice 22 = .ok (.iconst 0, 1) := by decide +kernel
theorem dX3_hasSplice_23 : decode cX3_hasSplice 23 = .ok (.ireturn, 1) := by decide +kernel
theorem dX3_spliceOfFrame_0 : decode cX3_spliceOfFrame 0 = .ok (.iconst 0, 1) := by decide +kernel
theorem dX3_spliceOfFrame_1 : decode cX3_spliceOfFrame 1 = .ok (.istore_n 2, 1) := by decide +kernel
theorem dX3_spliceOfFrame_2 : decode cX3_spliceOfFrame 2 = .ok (.iload_n 2, 1) := by decide +kernel
theorem dX3_spliceOfFrame_3 : decode cX3_spliceOfFrame 3 = .ok (.aload_n 0, 1) := by decide +kernel
theorem dX3_spliceOfFrame_4 : decode cX3_spliceOfFrame 4 = .ok (.getfield 22, 3) := by decide +kernel
theorem dX3_spliceOfFrame_7 : decode cX3_spliceOfFrame 7 = .ok (.if_icmp .ge 27, 3) := by decide +kernel
theorem dX3_spliceOfFrame_10 : decode cX3_spliceOfFrame 10 = .ok (.iload_n 2, 1) := by decide +kernel
theorem dX3_spliceOfFrame_11 : decode cX3_spliceOfFrame 11 = .ok (.bipush 6, 2) := by decide +kernel
theorem dX3_spliceOfFrame_13 : decode cX3_spliceOfFrame 13 = .ok (.if_icmp .ge 21, 3) := by decide +kernel
theorem dX3_spliceOfFrame_16 : decode cX3_spliceOfFrame 16 = .ok (.aload_n 0, 1) := by decide +kernel
theorem dX3_spliceOfFrame_17 : decode cX3_spliceOfFrame 17 = .ok (.getfield 11, 3) := by decide +kernel
theorem dX3_spliceOfFrame_20 : decode cX3_spliceOfFrame 20 = .ok (.iload_n 2, 1) := by decide +kernel
theorem dX3_spliceOfFrame_21 : decode cX3_spliceOfFrame 21 = .ok (.iaload, 1) := by decide +kernel
theorem dX3_spliceOfFrame_22 : decode cX3_spliceOfFrame 22 = .ok (.iload_n 1, 1) := by decide +kernel
theorem dX3_spliceOfFrame_23 : decode cX3_spliceOfFrame 23 = .ok (.if_icmp .ne 5, 3) := by decide +kernel
theorem dX3_spliceOfFrame_26 : decode cX3_spliceOfFrame 26 = .ok (.iload_n 2, 1) := by decide +kernel
theorem dX3_spliceOfFrame_27 : decode cX3_spliceOfFrame 27 = .ok (.ireturn, 1) := by decide +kernel
theorem dX3_spliceOfFrame_28 : decode cX3_spliceOfFrame 28 = .ok (.iinc 2 1, 3) := by decide +kernel
theorem dX3_spliceOfFrame_31 : decode cX3_spliceOfFrame 31 = .ok (.goto (-29), 3) := by decide +kernel
theorem dX3_spliceOfFrame_34 : decode cX3_spliceOfFrame 34 = .ok (.ldc 31, 2) := by decide +kernel
theorem dX3_spliceOfFrame_36 : decode cX3_spliceOfFrame 36 = .ok (.ireturn, 1) := by decide +kernel
set_option maxRecDepth 20000 in
theorem ggX3_join_X3_spliceOfFrame : GoodIn wsX3_join wsX3_spliceOfFrame := goodIn_r _ [9, 2, 4, 10, 15, 16, 17, 18] (by decide +kernel) (by decide +kernel)
set_option maxRecDepth 20000 in
theorem gX3_join_X3_spliceOfFrame : GoodIn wsX3_join (wsV RX3 32 RX3 yX3_spliceOfFrame wsX3_spliceOfFrame) := goodIn_app (goodIn_of _ (by decide +kernel)) ggX3_join_X3_spliceOfFrame
set_option maxRecDepth 20000 in
theorem ggX3_join_X3_hasSplice : GoodIn wsX3_join wsX3_hasSplice := goodIn_r _ [14, 2, 15, 16, 17, 18] (by decide +kernel) (by decide +kernel)
set_option maxRecDepth 20000 in
theorem gX3_join_X3_hasSplice : GoodIn wsX3_join (wsV RX3 36 RX3 yX3_hasSplice wsX3_hasSplice) := goodIn_app (goodIn_of _ (by decide +kernel)) ggX3_join_X3_hasSplice
theorem dX3_join_0 : decode cX3_join 0 = .ok (.aload_n 0, 1) := by decide +kernel
theorem dX3_join_1 : decode cX3_join 1 = .ok (.iload_n 1, 1) := by decide +kernel
theorem dX3_join_2 : decode cX3_join 2 = .ok (.invokevirtual 32, 3) := by decide +kernel
theorem dX3_join_5 : decode cX3_join 5 = .ok (.istore_n 3, 1) := by decide +kernel
theorem dX3_join_6 : decode cX3_join 6 = .ok (.aload_n 0, 1) := by decide +kernel
theorem dX3_join_7 : decode cX3_join 7 = .ok (.iload_n 3, 1) := by decide +kernel
theorem dX3_join_8 : decode cX3_join 8 = .ok (.invokevirtual 36, 3) := by decide +kernel
theorem dX3_join_11 : decode cX3_join 11 = .ok (.ifCond .eq 15, 3) := by decide +kernel
theorem dX3_join_14 : decode cX3_join 14 = .ok (.aload_n 0, 1) := by decide +kernel
theorem dX3_join_15 : decode cX3_join 15 = .ok (.getfield 15, 3) := by decide +kernel
theorem dX3_join_18 : decode cX3_join 18 = .ok (.iload_n 3, 1) := by decide +kernel
theorem dX3_join_19 : decode cX3_join 19 = .ok (.iload_n 2, 1) := by decide +kernel
theorem dX3_join_20 : decode cX3_join 20 = .ok (.iastore, 1) := by decide +kernel
theorem dX3_join_21 : decode cX3_join 21 = .ok (.aload_n 0, 1) := by decide +kernel
theorem dX3_join_22 : decode cX3_join 22 = .ok (.getfield 22, 3) := by decide +kernel
theorem dX3_join_25 : decode cX3_join 25 = .ok (.ireturn, 1) := by decide +kernel
theorem dX3_join_26 : decode cX3_join 26 = .ok (.aload_n 0, 1) := by decide +kernel
theorem dX3_join_27 : decode cX3_join 27 = .ok (.getfield 22, 3) := by decide +kernel
theorem dX3_join_30 : decode cX3_join 30 = .ok (.bipush 6, 2) := by decide +kernel
theorem dX3_join_32 : decode cX3_join 32 = .ok (.if_icmp .lt 6, 3) := by decide +kernel
theorem dX3_join_35 : decode cX3_join 35 = .ok (.ldc 40, 2) := by decide +kernel
theorem dX3_join_37 : decode cX3_join 37 = .ok (.ireturn, 1) := by decide +kernel
theorem dX3_join_38 : decode cX3_join 38 = .ok (.aload_n 0, 1) := by decide +kernel
theorem dX3_join_39 : decode cX3_join 39 = .ok (.getfield 22, 3) := by decide +kernel
theorem dX3_join_42 : decode cX3_join 42 = .ok (.istore 4, 2) := by decide +kernel
theorem dX3_join_44 : decode cX3_join 44 = .ok (.iload 4, 2) := by decide +kernel
theorem dX3_join_46 : decode cX3_join 46 = .ok (.ifCond .le 54, 3) := by decide +kernel
theorem dX3_join_49 : decode cX3_join 49 = .ok (.aload_n 0, 1) := by decide +kernel
theorem dX3_join_50 : decode cX3_join 50 = .ok (.getfield 11, 3) := by decide +kernel
theorem dX3_join_53 : decode cX3_join 53 = .ok (.iload 4, 2) := by decide +kernel
theorem dX3_join_55 : decode cX3_join 55 = .ok (.iconst 1, 1) := by decide +kernel
theorem dX3_join_56 : decode cX3_join 56 = .ok (.isub, 1) := by decide +kernel
theorem dX3_join_57 : decode cX3_join 57 = .ok (.iaload, 1) := by decide +kernel
theorem dX3_join_58 : decode cX3_join 58 = .ok (.iload_n 1, 1) := by decide +kernel
theorem dX3_join_59 : decode cX3_join 59 = .ok (.if_icmp .le 41, 3) := by decide +kernel
theorem dX3_join_62 : decode cX3_join 62 = .ok (.aload_n 0, 1) := by decide +kernel
theorem dX3_join_63 : decode cX3_join 63 = .ok (.getfield 11, 3) := by decide +kernel
theorem dX3_join_66 : decode cX3_join 66 = .ok (.iload 4, 2) := by decide +kernel
theorem dX3_join_68 : decode cX3_join 68 = .ok (.aload_n 0, 1) := by decide +kernel
theorem dX3_join_69 : decode cX3_join 69 = .ok (.getfield 11, 3) := by decide +kernel
theorem dX3_join_72 : decode cX3_join 72 = .ok (.iload 4, 2) := by decide +kernel
theorem dX3_join_74 : decode cX3_join 74 = .ok (.iconst 1, 1) := by decide +kernel
theorem dX3_join_75 : decode cX3_join 75 = .ok (.isub, 1) := by decide +kernel
theorem dX3_join_76 : decode cX3_join 76 = .ok (.iaload, 1) := by decide +kernel
theorem dX3_join_77 : decode cX3_join 77 = .ok (.iastore, 1) := by decide +kernel
theorem dX3_join_78 : decode cX3_join 78 = .ok (.aload_n 0, 1) := by decide +kernel
theorem dX3_join_79 : decode cX3_join 79 = .ok (.getfield 15, 3) := by decide +kernel
theorem dX3_join_82 : decode cX3_join 82 = .ok (.iload 4, 2) := by decide +kernel
theorem dX3_join_84 : decode cX3_join 84 = .ok (.aload_n 0, 1) := by decide +kernel
theorem dX3_join_85 : decode cX3_join 85 = .ok (.getfield 15, 3) := by decide +kernel
theorem dX3_join_88 : decode cX3_join 88 = .ok (.iload 4, 2) := by decide +kernel
theorem dX3_join_90 : decode cX3_join 90 = .ok (.iconst 1, 1) := by decide +kernel
theorem dX3_join_91 : decode cX3_join 91 = .ok (.isub, 1) := by decide +kernel
theorem dX3_join_92 : decode cX3_join 92 = .ok (.iaload, 1) := by decide +kernel
theorem dX3_join_93 : decode cX3_join 93 = .ok (.iastore, 1) := by decide +kernel
theorem dX3_join_94 : decode cX3_join 94 = .ok (.iinc 4 (-1), 3) := by decide +kernel
theorem dX3_join_97 : decode cX3_join 97 = .ok (.goto (-53), 3) := by decide +kernel
theorem dX3_join_100 : decode cX3_join 100 = .ok (.aload_n 0, 1) := by decide +kernel
theorem dX3_join_101 : decode cX3_join 101 = .ok (.getfield 11, 3) := by decide +kernel
theorem dX3_join_104 : decode cX3_join 104 = .ok (.iload 4, 2) := by decide +kernel
theorem dX3_join_106 : decode cX3_join 106 = .ok (.iload_n 1, 1) := by decide +kernel
theorem dX3_join_107 : decode cX3_join 107 = .ok (.iastore, 1) := by decide +kernel
theorem dX3_join_108 : decode cX3_join 108 = .ok (.aload_n 0, 1) := by decide +kernel
theorem dX3_join_109 : decode cX3_join 109 = .ok (.getfield 15, 3) := by decide +kernel
theorem dX3_join_112 : decode cX3_join 112 = .ok (.iload 4, 2) := by decide +kernel
theorem dX3_join_114 : decode cX3_join 114 = .ok (.iload_n 2, 1) := by decide +kernel
theorem dX3_join_115 : decode cX3_join 115 = .ok (.iastore, 1) := by decide +kernel
theorem dX3_join_116 : decode cX3_join 116 = .ok (.aload_n 0, 1) := by decide +kernel
theorem dX3_join_117 : decode cX3_join 117 = .ok (.dup, 1) := by decide +kernel
theorem dX3_join_118 : decode cX3_join 118 = .ok (.getfield 22, 3) := by decide +kernel
theorem dX3_join_121 : decode cX3_join 121 = .ok (.iconst 1, 1) := by decide +kernel
theorem dX3_join_122 : decode cX3_join 122 = .ok (.iadd, 1) := by decide +kernel
theorem dX3_join_123 : decode cX3_join 123 = .ok (.putfield 22, 3) := by decide +kernel
theorem dX3_join_126 : decode cX3_join 126 = .ok (.aload_n 0, 1) := by decide +kernel
theorem dX3_join_127 : decode cX3_join 127 = .ok (.getfield 22, 3) := by decide +kernel
theorem dX3_join_130 : decode cX3_join 130 = .ok (.ireturn, 1) := by decide +kernel
theorem dX3_removeWeaker_0 : decode cX3_removeWeaker 0 = .ok (.aload_n 0, 1) := by decide +kernel
theorem dX3_removeWeaker_1 : decode cX3_removeWeaker 1 = .ok (.getfield 22, 3) := by decide +kernel
theorem dX3_removeWeaker_4 : decode cX3_removeWeaker 4 = .ok (.istore_n 2, 1) := by decide +kernel
theorem dX3_removeWeaker_5 : decode cX3_removeWeaker 5 = .ok (.iconst 0, 1) := by decide +kernel
theorem dX3_removeWeaker_6 : decode cX3_removeWeaker 6 = .ok (.istore_n 3, 1) := by decide +kernel
theorem dX3_removeWeaker_7 : decode cX3_removeWeaker 7 = .ok (.iconst 0, 1) := by decide +kernel
theorem dX3_removeWeaker_8 : decode cX3_removeWeaker 8 = .ok (.istore 4, 2) := by decide +kernel
theorem dX3_removeWeaker_10 : decode cX3_removeWeaker 10 = .ok (.iload 4, 2) := by decide +kernel
theorem dX3_removeWeaker_12 : decode cX3_removeWeaker 12 = .ok (.aload_n 0, 1) := by decide +kernel
theorem dX3_removeWeaker_13 : decode cX3_removeWeaker 13 = .ok (.getfield 22, 3) := by decide +kernel
theorem dX3_removeWeaker_16 : decode cX3_removeWeaker 16 = .ok (.if_icmp .ge 56, 3) := by decide +kernel
theorem dX3_removeWeaker_19 : decode cX3_removeWeaker 19 = .ok (.iload 4, 2) := by decide +kernel
theorem dX3_removeWeaker_21 : decode cX3_removeWeaker 21 = .ok (.bipush 6, 2) := by decide +kernel
theorem dX3_removeWeaker_23 : decode cX3_removeWeaker 23 = .ok (.if_icmp .ge 49, 3) := by decide +kernel
theorem dX3_removeWeaker_26 : decode cX3_removeWeaker 26 = .ok (.aload_n 0, 1) := by decide +kernel
theorem dX3_removeWeaker_27 : decode cX3_removeWeaker 27 = .ok (.getfield 15, 3) := by decide +kernel
theorem dX3_removeWeaker_30 : decode cX3_removeWeaker 30 = .ok (.iload 4, 2) := by decide +kernel
theorem dX3_removeWeaker_32 : decode cX3_removeWeaker 32 = .ok (.iaload, 1) := by decide +kernel
theorem dX3_removeWeaker_33 : decode cX3_removeWeaker 33 = .ok (.iload_n 1, 1) := by decide +kernel
theorem dX3_removeWeaker_34 : decode cX3_removeWeaker 34 = .ok (.if_icmp .lt 32, 3) := by decide +kernel
theorem dX3_removeWeaker_37 : decode cX3_removeWeaker 37 = .ok (.aload_n 0, 1) := by decide +kernel
theorem dX3_removeWeaker_38 : decode cX3_removeWeaker 38 = .ok (.getfield 11, 3) := by decide +kernel
theorem dX3_removeWeaker_41 : decode cX3_removeWeaker 41 = .ok (.iload_n 3, 1) := by decide +kernel
theorem dX3_removeWeaker_42 : decode cX3_removeWeaker 42 = .ok (.aload_n 0, 1) := by decide +kernel
theorem dX3_removeWeaker_43 : decode cX3_removeWeaker 43 = .ok (.getfield 11, 3) := by decide +kernel
theorem dX3_removeWeaker_46 : decode cX3_removeWeaker 46 = .ok (.iload 4, 2) := by decide +kernel
theorem dX3_removeWeaker_48 : decode cX3_removeWeaker 48 = .ok (.iaload, 1) := by decide +kernel
theorem dX3_removeWeaker_49 : decode cX3_removeWeaker 49 = .ok (.iastore, 1) := by decide +kernel
theorem dX3_removeWeaker_50 : decode cX3_removeWeaker 50 = .ok (.aload_n 0, 1) := by decide +kernel
theorem dX3_removeWeaker_51 : decode cX3_removeWeaker 51 = .ok (.getfield 15, 3) := by decide +kernel
theorem dX3_removeWeaker_54 : decode cX3_removeWeaker 54 = .ok (.iload_n 3, 1) := by decide +kernel
theorem dX3_removeWeaker_55 : decode cX3_removeWeaker 55 = .ok (.aload_n 0, 1) := by decide +kernel
theorem dX3_removeWeaker_56 : decode cX3_removeWeaker 56 = .ok (.getfield 15, 3) := by decide +kernel
theorem dX3_removeWeaker_59 : decode cX3_removeWeaker 59 = .ok (.iload 4, 2) := by decide +kernel
theorem dX3_removeWeaker_61 : decode cX3_removeWeaker 61 = .ok (.iaload, 1) := by decide +kernel
theorem dX3_removeWeaker_62 : decode cX3_removeWeaker 62 = .ok (.iastore, 1) := by decide +kernel
theorem dX3_removeWeaker_63 : decode cX3_removeWeaker 63 = .ok (.iinc 3 1, 3) := by decide +kernel
theorem dX3_removeWeaker_66 : decode cX3_removeWeaker 66 = .ok (.iinc 4 1, 3) := by decide +kernel
theorem dX3_removeWeaker_69 : decode cX3_removeWeaker 69 = .ok (.goto (-59), 3) := by decide +kernel
theorem dX3_removeWeaker_72 : decode cX3_removeWeaker 72 = .ok (.aload_n 0, 1) := by decide +kernel
theorem dX3_removeWeaker_73 : decode cX3_removeWeaker 73 = .ok (.iload_n 3, 1) := by decide +kernel
theorem dX3_removeWeaker_74 : decode cX3_removeWeaker 74 = .ok (.putfield 22, 3) := by decide +kernel
theorem dX3_removeWeaker_77 : decode cX3_removeWeaker 77 = .ok (.iload_n 2, 1) := by decide +kernel
theorem dX3_removeWeaker_78 : decode cX3_removeWeaker 78 = .ok (.iload_n 3, 1) := by decide +kernel
theorem dX3_removeWeaker_79 : decode cX3_removeWeaker 79 = .ok (.isub, 1) := by decide +kernel
theorem dX3_removeWeaker_80 : decode cX3_removeWeaker 80 = .ok (.ireturn, 1) := by decide +kernel
theorem dX3_leastStrength_0 : decode cX3_leastStrength 0 = .ok (.ldc 31, 2) := by decide +kernel
theorem dX3_leastStrength_2 : decode cX3_leastStrength 2 = .ok (.istore_n 1, 1) := by decide +kernel
theorem dX3_leastStrength_3 : decode cX3_leastStrength 3 = .ok (.iconst 0, 1) := by decide +kernel
theorem dX3_leastStrength_4 : decode cX3_leastStrength 4 = .ok (.istore_n 2, 1) := by decide +kernel
theorem dX3_leastStrength_5 : decode cX3_leastStrength 5 = .ok (.iload_n 2, 1) := by decide +kernel
theorem dX3_leastStrength_6 : decode cX3_leastStrength 6 = .ok (.aload_n 0, 1) := by decide +kernel
theorem dX3_leastStrength_7 : decode cX3_leastStrength 7 = .ok (.getfield 22, 3) := by decide +kernel
theorem dX3_leastStrength_10 : decode cX3_leastStrength 10 = .ok (.if_icmp .ge 38, 3) := by decide +kernel
theorem dX3_leastStrength_13 : decode cX3_leastStrength 13 = .ok (.iload_n 2, 1) := by decide +kernel
theorem dX3_leastStrength_14 : decode cX3_leastStrength 14 = .ok (.bipush 6, 2) := by decide +kernel
theorem dX3_leastStrength_16 : decode cX3_leastStrength 16 = .ok (.if_icmp .ge 32, 3) := by decide +kernel
theorem dX3_leastStrength_19 : decode cX3_leastStrength 19 = .ok (.iload_n 1, 1) := by decide +kernel
theorem dX3_leastStrength_20 : decode cX3_leastStrength 20 = .ok (.ldc 31, 2) := by decide +kernel
theorem dX3_leastStrength_22 : decode cX3_leastStrength 22 = .ok (.if_icmp .eq 13, 3) := by decide +kernel
theorem dX3_leastStrength_25 : decode cX3_leastStrength 25 = .ok (.aload_n 0, 1) := by decide +kernel
theorem dX3_leastStrength_26 : decode cX3_leastStrength 26 = .ok (.getfield 15, 3) := by decide +kernel
theorem dX3_leastStrength_29 : decode cX3_leastStrength 29 = .ok (.iload_n 2, 1) := by decide +kernel
theorem dX3_leastStrength_30 : decode cX3_leastStrength 30 = .ok (.iaload, 1) := by decide +kernel
theorem dX3_leastStrength_31 : decode cX3_leastStrength 31 = .ok (.iload_n 1, 1) := by decide +kernel
theorem dX3_leastStrength_32 : decode cX3_leastStrength 32 = .ok (.if_icmp .ge 10, 3) := by decide +kernel
theorem dX3_leastStrength_35 : decode cX3_leastStrength 35 = .ok (.aload_n 0, 1) := by decide +kernel
theorem dX3_leastStrength_36 : decode cX3_leastStrength 36 = .ok (.getfield 15, 3) := by decide +kernel
theorem dX3_leastStrength_39 : decode cX3_leastStrength 39 = .ok (.iload_n 2, 1) := by decide +kernel
theorem dX3_leastStrength_40 : decode cX3_leastStrength 40 = .ok (.iaload, 1) := by decide +kernel
theorem dX3_leastStrength_41 : decode cX3_leastStrength 41 = .ok (.istore_n 1, 1) := by decide +kernel
theorem dX3_leastStrength_42 : decode cX3_leastStrength 42 = .ok (.iinc 2 1, 3) := by decide +kernel
theorem dX3_leastStrength_45 : decode cX3_leastStrength 45 = .ok (.goto (-40), 3) := by decide +kernel
theorem dX3_leastStrength_48 : decode cX3_leastStrength 48 = .ok (.iload_n 1, 1) := by decide +kernel
theorem dX3_leastStrength_49 : decode cX3_leastStrength 49 = .ok (.ireturn, 1) := by decide +kernel
set_option maxRecDepth 20000 in
theorem ggX3_breaksAt_X3_spliceOfFrame : GoodIn wsX3_breaksAt wsX3_spliceOfFrame := goodIn_r _ [10, 11, 12, 13, 18, 19, 20, 21] (by decide +kernel) (by decide +kernel)
set_option maxRecDepth 20000 in
theorem gX3_breaksAt_X3_spliceOfFrame : GoodIn wsX3_breaksAt (wsV RX3 32 RX3 yX3_spliceOfFrame wsX3_spliceOfFrame) := goodIn_app (goodIn_of _ (by decide +kernel)) ggX3_breaksAt_X3_spliceOfFrame
set_option maxRecDepth 20000 in
theorem ggX3_breaksAt_X3_hasSplice : GoodIn wsX3_breaksAt wsX3_hasSplice := goodIn_r _ [17, 11, 18, 19, 20, 21] (by decide +kernel) (by decide +kernel)
set_option maxRecDepth 20000 in
theorem gX3_breaksAt_X3_hasSplice : GoodIn wsX3_breaksAt (wsV RX3 36 RX3 yX3_hasSplice wsX3_hasSplice) := goodIn_app (goodIn_of _ (by decide +kernel)) ggX3_breaksAt_X3_hasSplice
theorem dX3_breaksAt_0 : decode cX3_breaksAt 0 = .ok (.aload_n 0, 1) := by decide +kernel
theorem dX3_breaksAt_1 : decode cX3_breaksAt 1 = .ok (.iload_n 1, 1) := by decide +kernel
theorem dX3_breaksAt_2 : decode cX3_breaksAt 2 = .ok (.invokevirtual 32, 3) := by decide +kernel
theorem dX3_breaksAt_5 : decode cX3_breaksAt 5 = .ok (.istore_n 2, 1) := by decide +kernel
theorem dX3_breaksAt_6 : decode cX3_breaksAt 6 = .ok (.aload_n 0, 1) := by decide +kernel
theorem dX3_breaksAt_7 : decode cX3_breaksAt 7 = .ok (.iload_n 2, 1) := by decide +kernel
theorem dX3_breaksAt_8 : decode cX3_breaksAt 8 = .ok (.invokevirtual 36, 3) := by decide +kernel
theorem dX3_breaksAt_11 : decode cX3_breaksAt 11 = .ok (.ifCond .ne 5, 3) := by decide +kernel
theorem dX3_breaksAt_14 : decode cX3_breaksAt 14 = .ok (.iconst 0, 1) := by decide +kernel
theorem dX3_breaksAt_15 : decode cX3_breaksAt 15 = .ok (.ireturn, 1) := by decide +kernel
theorem dX3_breaksAt_16 : decode cX3_breaksAt 16 = .ok (.aload_n 0, 1) := by decide +kernel
theorem dX3_breaksAt_17 : decode cX3_breaksAt 17 = .ok (.getfield 15, 3) := by decide +kernel
theorem dX3_breaksAt_20 : decode cX3_breaksAt 20 = .ok (.iload_n 2, 1) := by decide +kernel
theorem dX3_breaksAt_21 : decode cX3_breaksAt 21 = .ok (.iconst 0, 1) := by decide +kernel
theorem dX3_breaksAt_22 : decode cX3_breaksAt 22 = .ok (.aload_n 0, 1) := by decide +kernel
theorem dX3_breaksAt_23 : decode cX3_breaksAt 23 = .ok (.getfield 15, 3) := by decide +kernel
theorem dX3_breaksAt_26 : decode cX3_breaksAt 26 = .ok (.iload_n 2, 1) := by decide +kernel
theorem dX3_breaksAt_27 : decode cX3_breaksAt 27 = .ok (.iaload, 1) := by decide +kernel
theorem dX3_breaksAt_28 : decode cX3_breaksAt 28 = .ok (.iconst 1, 1) := by decide +kernel
theorem dX3_breaksAt_29 : decode cX3_breaksAt 29 = .ok (.isub, 1) := by decide +kernel
theorem dX3_breaksAt_30 : decode cX3_breaksAt 30 = .ok (.invokestatic 41, 3) := by decide +kernel
theorem dX3_breaksAt_33 : decode cX3_breaksAt 33 = .ok (.iastore, 1) := by decide +kernel
theorem dX3_breaksAt_34 : decode cX3_breaksAt 34 = .ok (.aload_n 0, 1) := by decide +kernel
theorem dX3_breaksAt_35 : decode cX3_breaksAt 35 = .ok (.getfield 15, 3) := by decide +kernel
theorem dX3_breaksAt_38 : decode cX3_breaksAt 38 = .ok (.iload_n 2, 1) := by decide +kernel
theorem dX3_breaksAt_39 : decode cX3_breaksAt 39 = .ok (.iaload, 1) := by decide +kernel
theorem dX3_breaksAt_40 : decode cX3_breaksAt 40 = .ok (.ifCond .ne 7, 3) := by decide +kernel
theorem dX3_breaksAt_43 : decode cX3_breaksAt 43 = .ok (.iconst 1, 1) := by decide +kernel
theorem dX3_breaksAt_44 : decode cX3_breaksAt 44 = .ok (.goto 4, 3) := by decide +kernel
theorem dX3_breaksAt_47 : decode cX3_breaksAt 47 = .ok (.iconst 0, 1) := by decide +kernel
theorem dX3_breaksAt_48 : decode cX3_breaksAt 48 = .ok (.ireturn, 1) := by decide +kernel
set_option maxRecDepth 20000 in
theorem ggX3_repairAt_X3_spliceOfFrame : GoodIn wsX3_repairAt wsX3_spliceOfFrame := goodIn_r _ [6, 7, 8, 9, 14, 15, 16, 17] (by decide +kernel) (by decide +kernel)
set_option maxRecDepth 20000 in
theorem gX3_repairAt_X3_spliceOfFrame : GoodIn wsX3_repairAt (wsV RX3 32 RX3 yX3_spliceOfFrame wsX3_spliceOfFrame) := goodIn_app (goodIn_of _ (by decide +kernel)) ggX3_repairAt_X3_spliceOfFrame
set_option maxRecDepth 20000 in
theorem ggX3_repairAt_X3_hasSplice : GoodIn wsX3_repairAt wsX3_hasSplice := goodIn_r _ [13, 7, 14, 15, 16, 17] (by decide +kernel) (by decide +kernel)
set_option maxRecDepth 20000 in
theorem gX3_repairAt_X3_hasSplice : GoodIn wsX3_repairAt (wsV RX3 36 RX3 yX3_hasSplice wsX3_hasSplice) := goodIn_app (goodIn_of _ (by decide +kernel)) ggX3_repairAt_X3_hasSplice
theorem dX3_repairAt_0 : decode cX3_repairAt 0 = .ok (.aload_n 0, 1) := by decide +kernel
theorem dX3_repairAt_1 : decode cX3_repairAt 1 = .ok (.iload_n 1, 1) := by decide +kernel
theorem dX3_repairAt_2 : decode cX3_repairAt 2 = .ok (.invokevirtual 32, 3) := by decide +kernel
theorem dX3_repairAt_5 : decode cX3_repairAt 5 = .ok (.istore_n 2, 1) := by decide +kernel
theorem dX3_repairAt_6 : decode cX3_repairAt 6 = .ok (.aload_n 0, 1) := by decide +kernel
theorem dX3_repairAt_7 : decode cX3_repairAt 7 = .ok (.iload_n 2, 1) := by decide +kernel
theorem dX3_repairAt_8 : decode cX3_repairAt 8 = .ok (.invokevirtual 36, 3) := by decide +kernel
theorem dX3_repairAt_11 : decode cX3_repairAt 11 = .ok (.ifCond .eq 11, 3) := by decide +kernel
theorem dX3_repairAt_14 : decode cX3_repairAt 14 = .ok (.aload_n 0, 1) := by decide +kernel
theorem dX3_repairAt_15 : decode cX3_repairAt 15 = .ok (.getfield 15, 3) := by decide +kernel
theorem dX3_repairAt_18 : decode cX3_repairAt 18 = .ok (.iload_n 2, 1) := by decide +kernel
theorem dX3_repairAt_19 : decode cX3_repairAt 19 = .ok (.bipush 9, 2) := by decide +kernel
theorem dX3_repairAt_21 : decode cX3_repairAt 21 = .ok (.iastore, 1) := by decide +kernel
theorem dX3_repairAt_22 : decode cX3_repairAt 22 = .ok (.return_, 1) := by decide +kernel
set_option maxRecDepth 20000 in
theorem ggX4_init_X6_init : GoodIn wsX4_init wsX6_init := goodIn_r _ [14, 15, 2, 3, 16, 17, 18, 19, 20, 21, 22, 23, 24, 25, 26, 27, 28, 29, 30, 31, 32, 53, 54, 55, 56, 57, 72, 73, 74, 75] (by decide +kernel) (by decide +kernel)
set_option maxRecDepth 20000 in
theorem gX4_init_X6_init : GoodIn wsX4_init (wsX6_init) := ggX4_init_X6_init
set_option maxRecDepth 20000 in
theorem ggX4_init_X5_init : GoodIn wsX4_init wsX5_init := goodIn_r _ [34, 35, 2, 3, 36, 37, 38, 39, 40, 41, 42, 43, 44, 45, 46, 47, 18, 48, 49, 50, 51, 52, 76, 77, 78, 79, 80, 81, 60, 61, 62, 63, 64, 65, 66, 67, 68, 69, 70, 71, 82, 83, 84] (by decide +kernel) (by decide +kernel)
set_option maxRecDepth 20000 in
theorem gX4_init_X5_init_n18 : GoodIn wsX4_init (wsX5_init) := ggX4_init_X5_init
theorem dX4_init_0 : decode cX4_init 0 = .ok (.aload_n 0, 1) := by decide +kernel
theorem dX4_init_1 : decode cX4_init 1 = .ok (.invokespecial 1, 3) := by decide +kernel
theorem dX4_init_4 : decode cX4_init 4 = .ok (.aload_n 0, 1) := by decide +kernel
theorem dX4_init_5 : decode cX4_init 5 = .ok (.new 7, 3) := by decide +kernel
theorem dX4_init_8 : decode cX4_init 8 = .ok (.dup, 1) := by decide +kernel
theorem dX4_init_9 : decode cX4_init 9 = .ok (.invokespecial 9, 3) := by decide +kernel
theorem dX4_init_12 : decode cX4_init 12 = .ok (.putfield 10, 3) := by decide +kernel
theorem dX4_init_15 : decode cX4_init 15 = .ok (.aload_n 0, 1) := by decide +kernel
theorem dX4_init_16 : decode cX4_init 16 = .ok (.new 16, 3) := by decide +kernel
theorem dX4_init_19 : decode cX4_init 19 = .ok (.dup, 1) := by decide +kernel
theorem dX4_init_20 : decode cX4_init 20 = .ok (.invokespecial 18, 3) := by decide +kernel
theorem dX4_init_23 : decode cX4_init 23 = .ok (.putfield 19, 3) := by decide +kernel
theorem dX4_init_26 : decode cX4_init 26 = .ok (.return_, 1) := by decide +kernel
set_option maxRecDepth 20000 in
theorem ggX4_copyFrom_X6_copyFrom : GoodIn wsX4_copyFrom wsX6_copyFrom := goodIn_r _ [7, 8, 9, 10, 11, 12, 13, 14, 15, 16, 17, 18, 19, 20, 21, 22, 23, 24, 25, 26, 27, 28, 29, 6, 30, 31, 32, 33, 34, 74, 75, 76, 77, 78, 79, 80, 81, 82] (by decide +kernel) (by decide +kernel)
set_option maxRecDepth 20000 in
theorem gX4_copyFrom_X6_copyFrom : GoodIn wsX4_copyFrom (wsV RX4 23 RX6 yX6_copyFrom wsX6_copyFrom) := goodIn_app (goodIn_of _ (by decide +kernel)) ggX4_copyFrom_X6_copyFrom
set_option maxRecDepth 20000 in
theorem ggX4_copyFrom_X5_copyFrom : GoodIn wsX4_copyFrom wsX5_copyFrom := goodIn_r _ [39, 40, 41, 42, 43, 44, 45, 46, 47, 48, 49, 50, 51, 52, 53, 54, 55, 56, 57, 58, 59, 60, 61, 62, 12, 13, 14, 63, 64, 65, 66, 67, 68, 69, 70, 71, 83, 84, 85, 86, 87, 88, 89, 90, 91, 92, 93, 94, 95, 96, 97, 98, 99, 100, 101, 102, 103] (by decide +kernel) (by decide +kernel)
set_option maxRecDepth 20000 in
theorem gX4_copyFrom_X5_copyFrom : GoodIn wsX4_copyFrom (wsV RX4 27 RX5 yX5_copyFrom wsX5_copyFrom) := goodIn_app (goodIn_of _ (by decide +kernel)) ggX4_copyFrom_X5_copyFrom
theorem dX4_copyFrom_0 : decode cX4_copyFrom 0 = .ok (.aload_n 0, 1) := by decide +kernel
theorem dX4_copyFrom_1 : decode cX4_copyFrom 1 = .ok (.getfield 10, 3) := by decide +kernel
theorem dX4_copyFrom_4 : decode cX4_copyFrom 4 = .ok (.aload_n 1, 1) := by decide +kernel
theorem dX4_copyFrom_5 : decode cX4_copyFrom 5 = .ok (.getfield 10, 3) := by decide +kernel
theorem dX4_copyFrom_8 : decode cX4_copyFrom 8 = .ok (.invokevirtual 23, 3) := by decide +kernel
theorem dX4_copyFrom_11 : decode cX4_copyFrom 11 = .ok (.aload_n 0, 1) := by decide +kernel
theorem dX4_copyFrom_12 : decode cX4_copyFrom 12 = .ok (.getfield 19, 3) := by decide +kernel
theorem dX4_copyFrom_15 : decode cX4_copyFrom 15 = .ok (.aload_n 1, 1) := by decide +kernel
theorem dX4_copyFrom_16 : decode cX4_copyFrom 16 = .ok (.getfield 19, 3) := by decide +kernel
theorem dX4_copyFrom_19 : decode cX4_copyFrom 19 = .ok (.invokevirtual 27, 3) := by decide +kernel
theorem dX4_copyFrom_22 : decode cX4_copyFrom 22 = .ok (.return_, 1) := by decide +kernel
set_option maxRecDepth 20000 in
theorem ggX5_init_X0_init : GoodIn wsX5_init wsX0_init := goodIn_r _ [14, 15, 2, 3, 16, 17, 18, 22, 23, 24, 25, 26, 27] (by decide +kernel) (by decide +kernel)
set_option maxRecDepth 20000 in
theorem gX5_init_X0_init_n11 : GoodIn wsX5_init (wsX0_init) := ggX5_init_X0_init
set_option maxRecDepth 20000 in
theorem ggX5_init_X2_init : GoodIn wsX5_init wsX2_init := goodIn_r _ [20, 21, 2, 3] (by decide +kernel) (by decide +kernel)
set_option maxRecDepth 20000 in
theorem gX5_init_X2_init_n20 : GoodIn wsX5_init (wsX2_init) := ggX5_init_X2_init
theorem dX5_init_0 : decode cX5_init 0 = .ok (.aload_n 0, 1) := by decide +kernel
theorem dX5_init_1 : decode cX5_init 1 = .ok (.invokespecial 3, 3) := by decide +kernel
theorem dX5_init_4 : decode cX5_init 4 = .ok (.aload_n 0, 1) := by decide +kernel
theorem dX5_init_5 : decode cX5_init 5 = .ok (.new 9, 3) := by decide +kernel
theorem dX5_init_8 : decode cX5_init 8 = .ok (.dup, 1) := by decide +kernel
theorem dX5_init_9 : decode cX5_init 9 = .ok (.invokespecial 11, 3) := by decide +kernel
theorem dX5_init_12 : decode cX5_init 12 = .ok (.putfield 12, 3) := by decide +kernel
theorem dX5_init_15 : decode cX5_init 15 = .ok (.aload_n 0, 1) := by decide +kernel
theorem dX5_init_16 : decode cX5_init 16 = .ok (.new 18, 3) := by decide +kernel
theorem dX5_init_19 : decode cX5_init 19 = .ok (.dup, 1) := by decide +kernel
theorem dX5_init_20 : decode cX5_init 20 = .ok (.invokespecial 20, 3) := by decide +kernel
theorem dX5_init_23 : decode cX5_init 23 = .ok (.putfield 21, 3) := by decide +kernel
theorem dX5_init_26 : decode cX5_init 26 = .ok (.aload_n 0, 1) := by decide +kernel
theorem dX5_init_27 : decode cX5_init 27 = .ok (.new 18, 3) := by decide +kernel
theorem dX5_init_30 : decode cX5_init 30 = .ok (.dup, 1) := by decide +kernel
theorem dX5_init_31 : decode cX5_init 31 = .ok (.invokespecial 20, 3) := by decide +kernel
theorem dX5_init_34 : decode cX5_init 34 = .ok (.putfield 25, 3) := by decide +kernel
theorem dX5_init_37 : decode cX5_init 37 = .ok (.return_, 1) := by decide +kernel
set_option maxRecDepth 20000 in
theorem ggX5_copyFrom_X0_copyFrom : GoodIn wsX5_copyFrom wsX0_copyFrom := goodIn_r _ [17, 18, 19, 20, 21, 22, 23, 24, 25, 26, 27, 48, 49, 50, 51, 52, 53] (by decide +kernel) (by decide +kernel)
set_option maxRecDepth 20000 in
theorem gX5_copyFrom_X0_copyFrom : GoodIn wsX5_copyFrom (wsV RX5 48 RX0 yX0_copyFrom wsX0_copyFrom) := goodIn_app (goodIn_of _ (by decide +kernel)) ggX5_copyFrom_X0_copyFrom
set_option maxRecDepth 20000 in
theorem ggX5_copyFrom_X2_copyFrom : GoodIn wsX5_copyFrom wsX2_copyFrom := goodIn_r _ [32, 33, 34, 35, 54, 55, 56] (by decide +kernel) (by decide +kernel)
set_option maxRecDepth 20000 in
theorem gX5_copyFrom_X2_copyFrom : GoodIn wsX5_copyFrom (wsV RX5 61 RX2 yX2_copyFrom wsX2_copyFrom) := goodIn_app (goodIn_of _ (by decide +kernel)) ggX5_copyFrom_X2_copyFrom
theorem dX5_copyFrom_0 : decode cX5_copyFrom 0 = .ok (.aload_n 0, 1) := by decide +kernel
theorem dX5_copyFrom_1 : decode cX5_copyFrom 1 = .ok (.aload_n 1, 1) := by decide +kernel
theorem dX5_copyFrom_2 : decode cX5_copyFrom 2 = .ok (.getfield 28, 3) := by decide +kernel
theorem dX5_copyFrom_5 : decode cX5_copyFrom 5 = .ok (.putfield 28, 3) := by decide +kernel
theorem dX5_copyFrom_8 : decode cX5_copyFrom 8 = .ok (.aload_n 0, 1) := by decide +kernel
theorem dX5_copyFrom_9 : decode cX5_copyFrom 9 = .ok (.aload_n 1, 1) := by decide +kernel
theorem dX5_copyFrom_10 : decode cX5_copyFrom 10 = .ok (.getfield 32, 3) := by decide +kernel
theorem dX5_copyFrom_13 : decode cX5_copyFrom 13 = .ok (.putfield 32, 3) := by decide +kernel
theorem dX5_copyFrom_16 : decode cX5_copyFrom 16 = .ok (.aload_n 0, 1) := by decide +kernel
theorem dX5_copyFrom_17 : decode cX5_copyFrom 17 = .ok (.aload_n 1, 1) := by decide +kernel
theorem dX5_copyFrom_18 : decode cX5_copyFrom 18 = .ok (.getfield 36, 3) := by decide +kernel
theorem dX5_copyFrom_21 : decode cX5_copyFrom 21 = .ok (.putfield 36, 3) := by decide +kernel
theorem dX5_copyFrom_24 : decode cX5_copyFrom 24 = .ok (.aload_n 0, 1) := by decide +kernel
theorem dX5_copyFrom_25 : decode cX5_copyFrom 25 = .ok (.aload_n 1, 1) := by decide +kernel
theorem dX5_copyFrom_26 : decode cX5_copyFrom 26 = .ok (.getfield 39, 3) := by decide +kernel
theorem dX5_copyFrom_29 : decode cX5_copyFrom 29 = .ok (.putfield 39, 3) := by decide +kernel
theorem dX5_copyFrom_32 : decode cX5_copyFrom 32 = .ok (.aload_n 0, 1) := by decide +kernel
theorem dX5_copyFrom_33 : decode cX5_copyFrom 33 = .ok (.aload_n 1, 1) := by decide +kernel
theorem dX5_copyFrom_34 : decode cX5_copyFrom 34 = .ok (.getfield 42, 3) := by decide +kernel
theorem dX5_copyFrom_37 : decode cX5_copyFrom 37 = .ok (.putfield 42, 3) := by decide +kernel
theorem dX5_copyFrom_40 : decode cX5_copyFrom 40 = .ok (.aload_n 0, 1) := by decide +kernel
theorem dX5_copyFrom_41 : decode cX5_copyFrom 41 = .ok (.aload_n 1, 1) := by decide +kernel
theorem dX5_copyFrom_42 : decode cX5_copyFrom 42 = .ok (.getfield 45, 3) := by decide +kernel
theorem dX5_copyFrom_45 : decode cX5_copyFrom 45 = .ok (.putfield 45, 3) := by decide +kernel
theorem dX5_copyFrom_48 : decode cX5_copyFrom 48 = .ok (.aload_n 0, 1) := by decide +kernel
theorem dX5_copyFrom_49 : decode cX5_copyFrom 49 = .ok (.getfield 12, 3) := by decide +kernel
theorem dX5_copyFrom_52 : decode cX5_copyFrom 52 = .ok (.aload_n 1, 1) := by decide +kernel
theorem dX5_copyFrom_53 : decode cX5_copyFrom 53 = .ok (.getfield 12, 3) := by decide +kernel
theorem dX5_copyFrom_56 : decode cX5_copyFrom 56 = .ok (.invokevirtual 48, 3) := by decide +kernel
theorem dX5_copyFrom_59 : decode cX5_copyFrom 59 = .ok (.aload_n 0, 1) := by decide +kernel
theorem dX5_copyFrom_60 : decode cX5_copyFrom 60 = .ok (.aload_n 1, 1) := by decide +kernel
theorem dX5_copyFrom_61 : decode cX5_copyFrom 61 = .ok (.getfield 52, 3) := by decide +kernel
theorem dX5_copyFrom_64 : decode cX5_copyFrom 64 = .ok (.putfield 52, 3) := by decide +kernel
theorem dX5_copyFrom_67 : decode cX5_copyFrom 67 = .ok (.aload_n 0, 1) := by decide +kernel
theorem dX5_copyFrom_68 : decode cX5_copyFrom 68 = .ok (.aload_n 1, 1) := by decide +kernel
theorem dX5_copyFrom_69 : decode cX5_copyFrom 69 = .ok (.getfield 55, 3) := by decide +kernel
theorem dX5_copyFrom_72 : decode cX5_copyFrom 72 = .ok (.putfield 55, 3) := by decide +kernel
theorem dX5_copyFrom_75 : decode cX5_copyFrom 75 = .ok (.aload_n 0, 1) := by decide +kernel
theorem dX5_copyFrom_76 : decode cX5_copyFrom 76 = .ok (.aload_n 1, 1) := by decide +kernel
theorem dX5_copyFrom_77 : decode cX5_copyFrom 77 = .ok (.getfield 58, 3) := by decide +kernel
theorem dX5_copyFrom_80 : decode cX5_copyFrom 80 = .ok (.putfield 58, 3) := by decide +kernel
theorem dX5_copyFrom_83 : decode cX5_copyFrom 83 = .ok (.aload_n 0, 1) := by decide +kernel
theorem dX5_copyFrom_84 : decode cX5_copyFrom 84 = .ok (.getfield 21, 3) := by decide +kernel
theorem dX5_copyFrom_87 : decode cX5_copyFrom 87 = .ok (.aload_n 1, 1) := by decide +kernel
theorem dX5_copyFrom_88 : decode cX5_copyFrom 88 = .ok (.getfield 21, 3) := by decide +kernel
theorem dX5_copyFrom_91 : decode cX5_copyFrom 91 = .ok (.invokevirtual 61, 3) := by decide +kernel
theorem dX5_copyFrom_94 : decode cX5_copyFrom 94 = .ok (.aload_n 0, 1) := by decide +kernel
theorem dX5_copyFrom_95 : decode cX5_copyFrom 95 = .ok (.getfield 25, 3) := by decide +kernel
theorem dX5_copyFrom_98 : decode cX5_copyFrom 98 = .ok (.aload_n 1, 1) := by decide +kernel
theorem dX5_copyFrom_99 : decode cX5_copyFrom 99 = .ok (.getfield 25, 3) := by decide +kernel
theorem dX5_copyFrom_102 : decode cX5_copyFrom 102 = .ok (.invokevirtual 61, 3) := by decide +kernel
theorem dX5_copyFrom_105 : decode cX5_copyFrom 105 = .ok (.return_, 1) := by decide +kernel
theorem dX5_projectorNumbered_0 : decode cX5_projectorNumbered 0 = .ok (.iload_n 1, 1) := by decide +kernel
theorem dX5_projectorNumbered_1 : decode cX5_projectorNumbered 1 = .ok (.ifCond .ne 10, 3) := by decide +kernel
theorem dX5_projectorNumbered_4 : decode cX5_projectorNumbered 4 = .ok (.aload_n 0, 1) := by decide +kernel
theorem dX5_projectorNumbered_5 : decode cX5_projectorNumbered 5 = .ok (.getfield 21, 3) := by decide +kernel
theorem dX5_projectorNumbered_8 : decode cX5_projectorNumbered 8 = .ok (.goto 7, 3) := by decide +kernel
theorem dX5_projectorNumbered_11 : decode cX5_projectorNumbered 11 = .ok (.aload_n 0, 1) := by decide +kernel
theorem dX5_projectorNumbered_12 : decode cX5_projectorNumbered 12 = .ok (.getfield 25, 3) := by decide +kernel
theorem dX5_projectorNumbered_15 : decode cX5_projectorNumbered 15 = .ok (.areturn, 1) := by decide +kernel
theorem dX5_count_0 : decode cX5_count 0 = .ok (.iload_n 1, 1) := by decide +kernel
theorem dX5_count_1 : decode cX5_count 1 = .ok (.tableswitch 119 0 9 #[55, 68, 73, 78, 83, 88, 93, 98, 103, 111], 55) := by decide +kernel
theorem dX5_count_56 : decode cX5_count 56 = .ok (.aload_n 0, 1) := by decide +kernel
theorem dX5_count_57 : decode cX5_count 57 = .ok (.getfield 28, 3) := by decide +kernel
theorem dX5_count_60 : decode cX5_count 60 = .ok (.ifCond .eq 7, 3) := by decide +kernel
theorem dX5_count_63 : decode cX5_count 63 = .ok (.iconst 1, 1) := by decide +kernel
theorem dX5_count_64 : decode cX5_count 64 = .ok (.goto 4, 3) := by decide +kernel
theorem dX5_count_67 : decode cX5_count 67 = .ok (.iconst 0, 1) := by decide +kernel
theorem dX5_count_68 : decode cX5_count 68 = .ok (.ireturn, 1) := by decide +kernel
theorem dX5_count_69 : decode cX5_count 69 = .ok (.aload_n 0, 1) := by decide +kernel
theorem dX5_count_70 : decode cX5_count 70 = .ok (.getfield 32, 3) := by decide +kernel
theorem dX5_count_73 : decode cX5_count 73 = .ok (.ireturn, 1) := by decide +kernel
theorem dX5_count_74 : decode cX5_count 74 = .ok (.aload_n 0, 1) := by decide +kernel
theorem dX5_count_75 : decode cX5_count 75 = .ok (.getfield 52, 3) := by decide +kernel
theorem dX5_count_78 : decode cX5_count 78 = .ok (.ireturn, 1) := by decide +kernel
theorem dX5_count_79 : decode cX5_count 79 = .ok (.aload_n 0, 1) := by decide +kernel
theorem dX5_count_80 : decode cX5_count 80 = .ok (.getfield 36, 3) := by decide +kernel
theorem dX5_count_83 : decode cX5_count 83 = .ok (.ireturn, 1) := by decide +kernel
theorem dX5_count_84 : decode cX5_count 84 = .ok (.aload_n 0, 1) := by decide +kernel
theorem dX5_count_85 : decode cX5_count 85 = .ok (.getfield 39, 3) := by decide +kernel
theorem dX5_count_88 : decode cX5_count 88 = .ok (.ireturn, 1) := by decide +kernel
theorem dX5_count_89 : decode cX5_count 89 = .ok (.aload_n 0, 1) := by decide +kernel
theorem dX5_count_90 : decode cX5_count 90 = .ok (.getfield 42, 3) := by decide +kernel
theorem dX5_count_93 : decode cX5_count 93 = .ok (.ireturn, 1) := by decide +kernel
theorem dX5_count_94 : decode cX5_count 94 = .ok (.aload_n 0, 1) := by decide +kernel
theorem dX5_count_95 : decode cX5_count 95 = .ok (.getfield 45, 3) := by decide +kernel
theorem dX5_count_98 : decode cX5_count 98 = .ok (.ireturn, 1) := by decide +kernel
theorem dX5_count_99 : decode cX5_count 99 = .ok (.aload_n 0, 1) := by decide +kernel
theorem dX5_count_100 : decode cX5_count 100 = .ok (.getfield 55, 3) := by decide +kernel
theorem dX5_count_103 : decode cX5_count 103 = .ok (.ireturn, 1) := by decide +kernel
theorem dX5_count_104 : decode cX5_count 104 = .ok (.aload_n 0, 1) := by decide +kernel
theorem dX5_count_105 : decode cX5_count 105 = .ok (.getfield 12, 3) := by decide +kernel
theorem dX5_count_108 : decode cX5_count 108 = .ok (.getfield 64, 3) := by decide +kernel
theorem dX5_count_111 : decode cX5_count 111 = .ok (.ireturn, 1) := by decide +kernel
theorem dX5_count_112 : decode cX5_count 112 = .ok (.aload_n 0, 1) := by decide +kernel
theorem dX5_count_113 : decode cX5_count 113 = .ok (.getfield 12, 3) := by decide +kernel
theorem dX5_count_116 : decode cX5_count 116 = .ok (.getfield 67, 3) := by decide +kernel
theorem dX5_count_119 : decode cX5_count 119 = .ok (.ireturn, 1) := by decide +kernel
theorem dX5_count_120 : decode cX5_count 120 = .ok (.ldc 70, 2) := by decide +kernel
theorem dX5_count_122 : decode cX5_count 122 = .ok (.ireturn, 1) := by decide +kernel
set_option maxRecDepth 20000 in
theorem ggX5_open_X0_dropAll : GoodIn wsX5_open wsX0_dropAll := goodIn_r _ [20, 21, 22, 50, 51, 52, 53, 54, 55] (by decide +kernel) (by decide +kernel)
set_option maxRecDepth 20000 in
theorem gX5_open_X0_dropAll : GoodIn wsX5_open (wsV RX5 71 RX0 yX0_dropAll wsX0_dropAll) := goodIn_app (goodIn_of _ (by decide +kernel)) ggX5_open_X0_dropAll
set_option maxRecDepth 20000 in
theorem ggX5_open_X2_thread : GoodIn wsX5_open wsX2_thread := goodIn_r _ [27, 28, 29, 42, 43, 44] (by decide +kernel) (by decide +kernel)
set_option maxRecDepth 20000 in
theorem gX5_open_X2_thread : GoodIn wsX5_open (wsV RX5 74 RX2 yX2_thread wsX2_thread) := goodIn_app (goodIn_of _ (by decide +kernel)) ggX5_open_X2_thread
theorem dX5_open_0 : decode cX5_open 0 = .ok (.aload_n 0, 1) := by decide +kernel
theorem dX5_open_1 : decode cX5_open 1 = .ok (.iconst 1, 1) := by decide +kernel
theorem dX5_open_2 : decode cX5_open 2 = .ok (.putfield 28, 3) := by decide +kernel
theorem dX5_open_5 : decode cX5_open 5 = .ok (.aload_n 0, 1) := by decide +kernel
theorem dX5_open_6 : decode cX5_open 6 = .ok (.iconst 0, 1) := by decide +kernel
theorem dX5_open_7 : decode cX5_open 7 = .ok (.putfield 32, 3) := by decide +kernel
theorem dX5_open_10 : decode cX5_open 10 = .ok (.aload_n 0, 1) := by decide +kernel
theorem dX5_open_11 : decode cX5_open 11 = .ok (.iconst 0, 1) := by decide +kernel
theorem dX5_open_12 : decode cX5_open 12 = .ok (.putfield 36, 3) := by decide +kernel
theorem dX5_open_15 : decode cX5_open 15 = .ok (.aload_n 0, 1) := by decide +kernel
theorem dX5_open_16 : decode cX5_open 16 = .ok (.iconst 0, 1) := by decide +kernel
theorem dX5_open_17 : decode cX5_open 17 = .ok (.putfield 39, 3) := by decide +kernel
theorem dX5_open_20 : decode cX5_open 20 = .ok (.aload_n 0, 1) := by decide +kernel
theorem dX5_open_21 : decode cX5_open 21 = .ok (.iconst 0, 1) := by decide +kernel
theorem dX5_open_22 : decode cX5_open 22 = .ok (.putfield 42, 3) := by decide +kernel
theorem dX5_open_25 : decode cX5_open 25 = .ok (.aload_n 0, 1) := by decide +kernel
theorem dX5_open_26 : decode cX5_open 26 = .ok (.iconst 0, 1) := by decide +kernel
theorem dX5_open_27 : decode cX5_open 27 = .ok (.putfield 45, 3) := by decide +kernel
theorem dX5_open_30 : decode cX5_open 30 = .ok (.aload_n 0, 1) := by decide +kernel
theorem dX5_open_31 : decode cX5_open 31 = .ok (.iconst 0, 1) := by decide +kernel
theorem dX5_open_32 : decode cX5_open 32 = .ok (.putfield 52, 3) := by decide +kernel
theorem dX5_open_35 : decode cX5_open 35 = .ok (.aload_n 0, 1) := by decide +kernel
theorem dX5_open_36 : decode cX5_open 36 = .ok (.iconst 0, 1) := by decide +kernel
theorem dX5_open_37 : decode cX5_open 37 = .ok (.putfield 58, 3) := by decide +kernel
theorem dX5_open_40 : decode cX5_open 40 = .ok (.aload_n 0, 1) := by decide +kernel
theorem dX5_open_41 : decode cX5_open 41 = .ok (.getfield 12, 3) := by decide +kernel
theorem dX5_open_44 : decode cX5_open 44 = .ok (.invokevirtual 71, 3) := by decide +kernel
theorem dX5_open_47 : decode cX5_open 47 = .ok (.aload_n 0, 1) := by decide +kernel
theorem dX5_open_48 : decode cX5_open 48 = .ok (.getfield 21, 3) := by decide +kernel
theorem dX5_open_51 : decode cX5_open 51 = .ok (.iconst 0, 1) := by decide +kernel
theorem dX5_open_52 : decode cX5_open 52 = .ok (.invokevirtual 74, 3) := by decide +kernel
theorem dX5_open_55 : decode cX5_open 55 = .ok (.aload_n 0, 1) := by decide +kernel
theorem dX5_open_56 : decode cX5_open 56 = .ok (.getfield 21, 3) := by decide +kernel
theorem dX5_open_59 : decode cX5_open 59 = .ok (.iconst 3, 1) := by decide +kernel
theorem dX5_open_60 : decode cX5_open 60 = .ok (.putfield 78, 3) := by decide +kernel
theorem dX5_open_63 : decode cX5_open 63 = .ok (.aload_n 0, 1) := by decide +kernel
theorem dX5_open_64 : decode cX5_open 64 = .ok (.getfield 21, 3) := by decide +kernel
theorem dX5_open_67 : decode cX5_open 67 = .ok (.iconst 0, 1) := by decide +kernel
theorem dX5_open_68 : decode cX5_open 68 = .ok (.putfield 81, 3) := by decide +kernel
theorem dX5_open_71 : decode cX5_open 71 = .ok (.aload_n 0, 1) := by decide +kernel
theorem dX5_open_72 : decode cX5_open 72 = .ok (.getfield 25, 3) := by decide +kernel
theorem dX5_open_75 : decode cX5_open 75 = .ok (.iconst 0, 1) := by decide +kernel
theorem dX5_open_76 : decode cX5_open 76 = .ok (.putfield 78, 3) := by decide +kernel
theorem dX5_open_79 : decode cX5_open 79 = .ok (.aload_n 0, 1) := by decide +kernel
theorem dX5_open_80 : decode cX5_open 80 = .ok (.iconst 1, 1) := by decide +kernel
theorem dX5_open_81 : decode cX5_open 81 = .ok (.putfield 55, 3) := by decide +kernel
theorem dX5_open_84 : decode cX5_open 84 = .ok (.aload_n 1, 1) := by decide +kernel
theorem dX5_open_85 : decode cX5_open 85 = .ok (.getfield 84, 3) := by decide +kernel
theorem dX5_open_88 : decode cX5_open 88 = .ok (.iconst 1, 1) := by decide +kernel
theorem dX5_open_89 : decode cX5_open 89 = .ok (.if_icmp .le 16, 3) := by decide +kernel
theorem dX5_open_92 : decode cX5_open 92 = .ok (.aload_n 0, 1) := by decide +kernel
theorem dX5_open_93 : decode cX5_open 93 = .ok (.getfield 25, 3) := by decide +kernel
theorem dX5_open_96 : decode cX5_open 96 = .ok (.iconst 1, 1) := by decide +kernel
theorem dX5_open_97 : decode cX5_open 97 = .ok (.invokevirtual 74, 3) := by decide +kernel
theorem dX5_open_100 : decode cX5_open 100 = .ok (.aload_n 0, 1) := by decide +kernel
theorem dX5_open_101 : decode cX5_open 101 = .ok (.iconst 2, 1) := by decide +kernel
theorem dX5_open_102 : decode cX5_open 102 = .ok (.putfield 55, 3) := by decide +kernel
theorem dX5_open_105 : decode cX5_open 105 = .ok (.return_, 1) := by decide +kernel
set_option maxRecDepth 20000 in
theorem ggX5_run_X5_work : GoodIn wsX5_run wsX5_work := goodIn_r _ [9, 10, 11, 12, 13, 14, 15, 16, 17, 18, 19, 20, 21, 8, 22, 23, 24, 25, 26, 27, 28, 29, 30, 3, 4, 31, 32, 33, 34, 35, 36, 37, 38, 39, 40, 41, 2, 42, 43, 44, 45, 46, 47, 48, 49, 50, 51, 52, 53, 54, 55, 56, 57, 58, 59, 60, 61, 62, 63, 64, 65, 66, 67, 68, 69, 70, 71, 72, 73, 74, 75, 76, 77, 78, 79, 80, 81, 82, 83, 84, 85, 86, 87, 88, 89, 90, 91, 92, 93, 94, 95, 96, 97, 98, 99, 100, 101, 102, 103, 104, 105, 106, 107, 108, 109, 110, 111, 112, 113, 114, 115, 116, 117, 118, 119, 120, 121, 122, 123, 200, 201, 202, 203, 204, 205, 206, 207, 208, 209, 210, 211, 215, 216, 217, 218, 219, 220, 212, 213, 214, 221, 222, 223, 224, 225, 226, 227, 228, 229] (by decide +kernel) (by decide +kernel)
set_option maxRecDepth 20000 in
theorem gX5_run_X5_work : GoodIn wsX5_run (wsV RX5 89 RX5 yX5_work wsX5_work) := goodIn_app (goodIn_of _ (by decide +kernel)) ggX5_run_X5_work
set_option maxRecDepth 20000 in
theorem ggX5_run_X5_frontProjector : GoodIn wsX5_run wsX5_frontProjector := goodIn_r _ [127, 128, 27, 28, 29, 8, 30, 3, 4, 200, 201, 202, 203, 204, 205, 206, 207, 208, 209, 210, 211] (by decide +kernel) (by decide +kernel)
set_option maxRecDepth 20000 in
theorem gX5_run_X5_frontProjector : GoodIn wsX5_run (wsV RX5 93 RX5 yX5_frontProjector wsX5_frontProjector) := goodIn_app (goodIn_of _ (by decide +kernel)) ggX5_run_X5_frontProjector
set_option maxRecDepth 20000 in
theorem ggX5_run_X6_reelAtPlace : GoodIn wsX5_run wsX6_reelAtPlace := goodIn_r _ [52, 53, 54, 55, 51, 56, 57, 58, 59, 60, 61, 62, 63, 64, 65, 225, 226, 227, 228, 229] (by decide +kernel) (by decide +kernel)
set_option maxRecDepth 20000 in
theorem gX5_run_X6_reelAtPlace : GoodIn wsX5_run (wsV RX5 100 RX6 yX6_reelAtPlace wsX6_reelAtPlace) := goodIn_app (goodIn_of _ (by decide +kernel)) ggX5_run_X6_reelAtPlace
set_option maxRecDepth 20000 in
theorem ggX5_run_X5_startBack : GoodIn wsX5_run wsX5_startBack := goodIn_r _ [132, 25, 133, 134, 135, 136, 8, 137, 128, 27, 28, 29, 30, 3, 4, 138, 139, 140, 141, 142, 42, 43, 124, 125, 126, 127, 83, 84, 85, 51, 86, 87, 59, 143, 144, 145, 34, 146, 36, 147, 212, 213, 214, 200, 201, 202, 203, 204, 205, 206, 207, 208, 209, 210, 211, 221, 222, 223, 224, 225, 226, 227, 228, 229] (by decide +kernel) (by decide +kernel)
set_option maxRecDepth 20000 in
theorem gX5_run_X5_startBack : GoodIn wsX5_run (wsV RX5 104 RX5 yX5_startBack wsX5_startBack) := goodIn_app (goodIn_of _ (by decide +kernel)) ggX5_run_X5_startBack
set_option maxRecDepth 20000 in
theorem ggX5_run_X5_goOn : GoodIn wsX5_run wsX5_goOn := goodIn_r _ [150, 42, 151, 152, 153, 34, 154, 36, 212, 213, 214] (by decide +kernel) (by decide +kernel)
set_option maxRecDepth 20000 in
theorem gX5_run_X5_goOn : GoodIn wsX5_run (va_wsS RX5 108 yX5_goOn wsX5_goOn) := goodIn_app (goodIn_of _ (by decide +kernel)) ggX5_run_X5_goOn
set_option maxRecDepth 20000 in
theorem ggX5_run_X5_wearSplice : GoodIn wsX5_run wsX5_wearSplice := goodIn_r _ [158, 25, 42, 159, 10, 128, 124, 125, 126, 8, 127, 27, 28, 29, 30, 3, 4, 160, 161, 162, 69, 163, 71, 164, 165, 46, 166, 72, 73, 74, 75, 76, 77, 78, 79, 80, 81, 82, 167, 168, 169, 16, 170, 103, 98, 120, 121, 122, 123, 109, 134, 135, 136, 137, 212, 213, 214, 200, 201, 202, 203, 204, 205, 206, 207, 208, 209, 210, 211, 221, 222, 223, 224, 215, 216, 217, 218, 219, 220] (by decide +kernel) (by decide +kernel)
set_option maxRecDepth 20000 in
theorem gX5_run_X5_wearSplice : GoodIn wsX5_run (wsV RX5 111 RX5 yX5_wearSplice wsX5_wearSplice) := goodIn_app (goodIn_of _ (by decide +kernel)) ggX5_run_X5_wearSplice
set_option maxRecDepth 20000 in
theorem ggX5_run_X5_runOut : GoodIn wsX5_run wsX5_runOut := goodIn_r _ [174, 2, 175, 25, 42, 43, 142, 1, 124, 125, 126, 8, 127, 128, 27, 28, 29, 30, 3, 4, 83, 84, 85, 51, 86, 87, 59, 176, 177, 178, 179, 10, 26, 180, 181, 182, 16, 183, 103, 98, 109, 184, 185, 186, 187, 188, 93, 94, 95, 96, 97, 99, 100, 101, 102, 18, 212, 213, 214, 225, 226, 227, 228, 229, 221, 222, 223, 224, 200, 201, 202, 203, 204, 205, 206, 207, 208, 209, 210, 211, 215, 216, 217, 218, 219, 220] (by decide +kernel) (by decide +kernel)
set_option maxRecDepth 20000 in
theorem gX5_run_X5_runOut : GoodIn wsX5_run (wsV RX5 115 RX5 yX5_runOut wsX5_runOut) := goodIn_app (goodIn_of _ (by decide +kernel)) ggX5_run_X5_runOut
set_option maxRecDepth 20000 in
theorem ggX5_run_X5_changeOver : GoodIn wsX5_run wsX5_changeOver := goodIn_r _ [192, 142, 1, 25, 42, 193, 128, 134, 135, 136, 8, 137, 27, 28, 29, 30, 3, 4, 200, 201, 202, 203, 204, 205, 206, 207, 208, 209, 210, 211, 212, 213, 214] (by decide +kernel) (by decide +kernel)
set_option maxRecDepth 20000 in
theorem gX5_run_X5_changeOver : GoodIn wsX5_run (wsV RX5 118 RX5 yX5_changeOver wsX5_changeOver) := goodIn_app (goodIn_of _ (by decide +kernel)) ggX5_run_X5_changeOver
set_option maxRecDepth 20000 in
theorem ggX5_run_X5_countTick : GoodIn wsX5_run wsX5_countTick := goodIn_r _ [197, 198, 1, 25, 199, 124, 125, 126, 8, 127, 128, 27, 28, 29, 30, 3, 4, 200, 201, 202, 203, 204, 205, 206, 207, 208, 209, 210, 211, 212, 213, 214] (by decide +kernel) (by decide +kernel)
set_option maxRecDepth 20000 in
theorem gX5_run_X5_countTick : GoodIn wsX5_run (wsV RX5 121 RX5 yX5_countTick wsX5_countTick) := goodIn_app (goodIn_of _ (by decide +kernel)) ggX5_run_X5_countTick
theorem dX5_run_0 : decode cX5_run 0 = .ok (.iconst 0, 1) := by decide +kernel
theorem dX5_run_1 : decode cX5_run 1 = .ok (.istore_n 3, 1) := by decide +kernel
theorem dX5_run_2 : decode cX5_run 2 = .ok (.iload_n 3, 1) := by decide +kernel
theorem dX5_run_3 : decode cX5_run 3 = .ok (.iload_n 2, 1) := by decide +kernel
theorem dX5_run_4 : decode cX5_run 4 = .ok (.if_icmp .ge 81, 3) := by decide +kernel
theorem dX5_run_7 : decode cX5_run 7 = .ok (.aload_n 0, 1) := by decide +kernel
theorem dX5_run_8 : decode cX5_run 8 = .ok (.getfield 28, 3) := by decide +kernel
theorem dX5_run_11 : decode cX5_run 11 = .ok (.ifCond .eq 74, 3) := by decide +kernel
theorem dX5_run_14 : decode cX5_run 14 = .ok (.aload_n 0, 1) := by decide +kernel
theorem dX5_run_15 : decode cX5_run 15 = .ok (.aload_n 1, 1) := by decide +kernel
theorem dX5_run_16 : decode cX5_run 16 = .ok (.invokevirtual 89, 3) := by decide +kernel
theorem dX5_run_19 : decode cX5_run 19 = .ok (.aload_n 1, 1) := by decide +kernel
theorem dX5_run_20 : decode cX5_run 20 = .ok (.aload_n 0, 1) := by decide +kernel
theorem dX5_run_21 : decode cX5_run 21 = .ok (.invokevirtual 93, 3) := by decide +kernel
theorem dX5_run_24 : decode cX5_run 24 = .ok (.getfield 97, 3) := by decide +kernel
theorem dX5_run_27 : decode cX5_run 27 = .ok (.invokevirtual 100, 3) := by decide +kernel
theorem dX5_run_30 : decode cX5_run 30 = .ok (.astore 4, 2) := by decide +kernel
theorem dX5_run_32 : decode cX5_run 32 = .ok (.aload 4, 2) := by decide +kernel
theorem dX5_run_34 : decode cX5_run 34 = .ok (.ifnull 37, 3) := by decide +kernel
theorem dX5_run_37 : decode cX5_run 37 = .ok (.aload_n 0, 1) := by decide +kernel
theorem dX5_run_38 : decode cX5_run 38 = .ok (.aload_n 1, 1) := by decide +kernel
theorem dX5_run_39 : decode cX5_run 39 = .ok (.aload 4, 2) := by decide +kernel
theorem dX5_run_41 : decode cX5_run 41 = .ok (.invokevirtual 104, 3) := by decide +kernel
theorem dX5_run_44 : decode cX5_run 44 = .ok (.aload_n 0, 1) := by decide +kernel
theorem dX5_run_45 : decode cX5_run 45 = .ok (.getfield 21, 3) := by decide +kernel
theorem dX5_run_48 : decode cX5_run 48 = .ok (.invokestatic 108, 3) := by decide +kernel
theorem dX5_run_51 : decode cX5_run 51 = .ok (.aload_n 0, 1) := by decide +kernel
theorem dX5_run_52 : decode cX5_run 52 = .ok (.getfield 25, 3) := by decide +kernel
theorem dX5_run_55 : decode cX5_run 55 = .ok (.invokestatic 108, 3) := by decide +kernel
theorem dX5_run_58 : decode cX5_run 58 = .ok (.aload_n 0, 1) := by decide +kernel
theorem dX5_run_59 : decode cX5_run 59 = .ok (.aload 4, 2) := by decide +kernel
theorem dX5_run_61 : decode cX5_run 61 = .ok (.invokevirtual 111, 3) := by decide +kernel
theorem dX5_run_64 : decode cX5_run 64 = .ok (.aload_n 0, 1) := by decide +kernel
theorem dX5_run_65 : decode cX5_run 65 = .ok (.aload_n 1, 1) := by decide +kernel
theorem dX5_run_66 : decode cX5_run 66 = .ok (.aload 4, 2) := by decide +kernel
theorem dX5_run_68 : decode cX5_run 68 = .ok (.invokevirtual 115, 3) := by decide +kernel
theorem dX5_run_71 : decode cX5_run 71 = .ok (.aload_n 0, 1) := by decide +kernel
theorem dX5_run_72 : decode cX5_run 72 = .ok (.invokevirtual 118, 3) := by decide +kernel
theorem dX5_run_75 : decode cX5_run 75 = .ok (.aload_n 0, 1) := by decide +kernel
theorem dX5_run_76 : decode cX5_run 76 = .ok (.invokevirtual 121, 3) := by decide +kernel
theorem dX5_run_79 : decode cX5_run 79 = .ok (.iinc 3 1, 3) := by decide +kernel
theorem dX5_run_82 : decode cX5_run 82 = .ok (.goto (-80), 3) := by decide +kernel
theorem dX5_run_85 : decode cX5_run 85 = .ok (.iload_n 3, 1) := by decide +kernel
theorem dX5_run_86 : decode cX5_run 86 = .ok (.ireturn, 1) := by decide +kernel
set_option maxRecDepth 20000 in
theorem ggX5_frontProjector_X5_projectorNumbered : GoodIn wsX5_frontProjector wsX5_projectorNumbered := goodIn_r _ [6, 7, 8, 9, 10, 11, 12, 13, 14, 15, 16, 17, 18, 19, 20] (by decide +kernel) (by decide +kernel)
set_option maxRecDepth 20000 in
theorem gX5_frontProjector_X5_projectorNumbered : GoodIn wsX5_frontProjector (wsV RX5 124 RX5 yX5_projectorNumbered wsX5_projectorNumbered) := goodIn_app (goodIn_of _ (by decide +kernel)) ggX5_frontProjector_X5_projectorNumbered
theorem dX5_frontProjector_0 : decode cX5_frontProjector 0 = .ok (.aload_n 0, 1) := by decide +kernel
theorem dX5_frontProjector_1 : decode cX5_frontProjector 1 = .ok (.aload_n 0, 1) := by decide +kernel
theorem dX5_frontProjector_2 : decode cX5_frontProjector 2 = .ok (.getfield 52, 3) := by decide +kernel
theorem dX5_frontProjector_5 : decode cX5_frontProjector 5 = .ok (.invokevirtual 124, 3) := by decide +kernel
theorem dX5_frontProjector_8 : decode cX5_frontProjector 8 = .ok (.areturn, 1) := by decide +kernel
set_option maxRecDepth 20000 in
theorem ggX5_backProjector_X5_projectorNumbered : GoodIn wsX5_backProjector wsX5_projectorNumbered := goodIn_r _ [6, 7, 8, 9, 10, 11, 12, 13, 14, 15, 16, 17, 18, 19, 20] (by decide +kernel) (by decide +kernel)
set_option maxRecDepth 20000 in
theorem gX5_backProjector_X5_projectorNumbered : GoodIn wsX5_backProjector (wsV RX5 124 RX5 yX5_projectorNumbered wsX5_projectorNumbered) := goodIn_app (goodIn_of _ (by decide +kernel)) ggX5_backProjector_X5_projectorNumbered
theorem dX5_backProjector_0 : decode cX5_backProjector 0 = .ok (.aload_n 0, 1) := by decide +kernel
theorem dX5_backProjector_1 : decode cX5_backProjector 1 = .ok (.iconst 1, 1) := by decide +kernel
theorem dX5_backProjector_2 : decode cX5_backProjector 2 = .ok (.aload_n 0, 1) := by decide +kernel
theorem dX5_backProjector_3 : decode cX5_backProjector 3 = .ok (.getfield 52, 3) := by decide +kernel
theorem dX5_backProjector_6 : decode cX5_backProjector 6 = .ok (.isub, 1) := by decide +kernel
theorem dX5_backProjector_7 : decode cX5_backProjector 7 = .ok (.invokevirtual 124, 3) := by decide +kernel
theorem dX5_backProjector_10 : decode cX5_backProjector 10 = .ok (.areturn, 1) := by decide +kernel
set_option maxRecDepth 20000 in
theorem ggX5_work_X0_isWorking : GoodIn wsX5_work wsX0_isWorking := goodIn_r _ [8, 9, 131, 132, 133, 134, 135, 136] (by decide +kernel) (by decide +kernel)
set_option maxRecDepth 20000 in
theorem gX5_work_X0_isWorking : GoodIn wsX5_work (wsV RX5 128 RX0 yX0_isWorking wsX0_isWorking) := goodIn_app (goodIn_of _ (by decide +kernel)) ggX5_work_X0_isWorking
set_option maxRecDepth 20000 in
theorem ggX5_work_X5_finishTask : GoodIn wsX5_work wsX5_finishTask := goodIn_r _ [14, 1, 15, 16, 17, 18, 19, 20, 21, 13, 22, 23, 24, 25, 26, 27, 28, 29, 30, 31, 32, 33, 34, 35, 36, 37, 38, 39, 40, 41, 42, 43, 44, 45, 46, 47, 48, 49, 50, 51, 52, 53, 54, 55, 56, 57, 58, 59, 60, 61, 62, 63, 64, 65, 66, 67, 68, 69, 70, 71, 72, 73, 74, 75, 76, 77, 78, 79, 80, 81, 82, 119, 120, 121, 122, 123, 124, 125, 126, 127, 128, 129, 130, 131, 132, 133, 134, 135, 136, 137, 138, 139, 140, 141, 142, 143, 144, 145, 146, 147, 148] (by decide +kernel) (by decide +kernel)
set_option maxRecDepth 20000 in
theorem gX5_work_X5_finishTask : GoodIn wsX5_work (wsV RX5 132 RX5 yX5_finishTask wsX5_finishTask) := goodIn_app (goodIn_of _ (by decide +kernel)) ggX5_work_X5_finishTask
set_option maxRecDepth 20000 in
theorem ggX5_work_X5_ticksOfFirstTask : GoodIn wsX5_work wsX5_ticksOfFirstTask := goodIn_r _ [86, 1, 36, 87, 88, 89, 7, 90, 91, 92, 93, 94, 95, 96, 97, 9, 98, 99, 100, 101, 102, 103, 104, 19, 20, 21, 13, 22, 23, 24, 105, 106, 107, 46, 108, 82, 109, 110, 44, 45, 47, 48, 49, 50, 51, 52, 53, 54, 55, 56, 57, 58, 59, 60, 78, 79, 80, 81, 119, 120, 121, 122, 123, 124, 125, 126, 127, 128, 129, 130, 137, 138, 139, 131, 132, 133, 134, 135, 136, 144, 145, 146, 147, 148, 140, 141, 142, 143] (by decide +kernel) (by decide +kernel)
set_option maxRecDepth 20000 in
theorem gX5_work_X5_ticksOfFirstTask : GoodIn wsX5_work (wsV RX5 135 RX5 yX5_ticksOfFirstTask wsX5_ticksOfFirstTask) := goodIn_app (goodIn_of _ (by decide +kernel)) ggX5_work_X5_ticksOfFirstTask
set_option maxRecDepth 20000 in
theorem ggX5_work_X0_takeUp : GoodIn wsX5_work wsX0_takeUp := goodIn_r _ [114, 98, 93, 92, 104, 103, 9, 115, 116, 117, 118, 131, 132, 133, 134, 135, 136] (by decide +kernel) (by decide +kernel)
set_option maxRecDepth 20000 in
theorem gX5_work_X0_takeUp : GoodIn wsX5_work (wsV RX5 139 RX0 yX0_takeUp wsX0_takeUp) := goodIn_app (goodIn_of _ (by decide +kernel)) ggX5_work_X0_takeUp
theorem dX5_work_0 : decode cX5_work 0 = .ok (.aload_n 0, 1) := by decide +kernel
theorem dX5_work_1 : decode cX5_work 1 = .ok (.getfield 12, 3) := by decide +kernel
theorem dX5_work_4 : decode cX5_work 4 = .ok (.invokevirtual 128, 3) := by decide +kernel
theorem dX5_work_7 : decode cX5_work 7 = .ok (.ifCond .eq 34, 3) := by decide +kernel
theorem dX5_work_10 : decode cX5_work 10 = .ok (.aload_n 0, 1) := by decide +kernel
theorem dX5_work_11 : decode cX5_work 11 = .ok (.getfield 12, 3) := by decide +kernel
theorem dX5_work_14 : decode cX5_work 14 = .ok (.dup, 1) := by decide +kernel
theorem dX5_work_15 : decode cX5_work 15 = .ok (.getfield 67, 3) := by decide +kernel
theorem dX5_work_18 : decode cX5_work 18 = .ok (.iconst 1, 1) := by decide +kernel
theorem dX5_work_19 : decode cX5_work 19 = .ok (.isub, 1) := by decide +kernel
theorem dX5_work_20 : decode cX5_work 20 = .ok (.putfield 67, 3) := by decide +kernel
theorem dX5_work_23 : decode cX5_work 23 = .ok (.aload_n 0, 1) := by decide +kernel
theorem dX5_work_24 : decode cX5_work 24 = .ok (.getfield 12, 3) := by decide +kernel
theorem dX5_work_27 : decode cX5_work 27 = .ok (.invokevirtual 128, 3) := by decide +kernel
theorem dX5_work_30 : decode cX5_work 30 = .ok (.ifCond .ne 33, 3) := by decide +kernel
theorem dX5_work_33 : decode cX5_work 33 = .ok (.aload_n 0, 1) := by decide +kernel
theorem dX5_work_34 : decode cX5_work 34 = .ok (.aload_n 1, 1) := by decide +kernel
theorem dX5_work_35 : decode cX5_work 35 = .ok (.invokevirtual 132, 3) := by decide +kernel
theorem dX5_work_38 : decode cX5_work 38 = .ok (.goto 25, 3) := by decide +kernel
theorem dX5_work_41 : decode cX5_work 41 = .ok (.aload_n 0, 1) := by decide +kernel
theorem dX5_work_42 : decode cX5_work 42 = .ok (.getfield 12, 3) := by decide +kernel
theorem dX5_work_45 : decode cX5_work 45 = .ok (.getfield 64, 3) := by decide +kernel
theorem dX5_work_48 : decode cX5_work 48 = .ok (.ifCond .le 15, 3) := by decide +kernel
theorem dX5_work_51 : decode cX5_work 51 = .ok (.aload_n 0, 1) := by decide +kernel
theorem dX5_work_52 : decode cX5_work 52 = .ok (.getfield 12, 3) := by decide +kernel
theorem dX5_work_55 : decode cX5_work 55 = .ok (.aload_n 0, 1) := by decide +kernel
theorem dX5_work_56 : decode cX5_work 56 = .ok (.aload_n 1, 1) := by decide +kernel
theorem dX5_work_57 : decode cX5_work 57 = .ok (.invokevirtual 135, 3) := by decide +kernel
theorem dX5_work_60 : decode cX5_work 60 = .ok (.invokevirtual 139, 3) := by decide +kernel
theorem dX5_work_63 : decode cX5_work 63 = .ok (.return_, 1) := by decide +kernel
set_option maxRecDepth 20000 in
theorem ggX5_ticksOfFirstTask_X0_kindOf : GoodIn wsX5_ticksOfFirstTask wsX0_kindOf := goodIn_r _ [7, 8, 9, 10, 11, 12, 13, 6, 14, 15, 16, 73, 74, 75, 76, 77, 78] (by decide +kernel) (by decide +kernel)
set_option maxRecDepth 20000 in
theorem gX5_ticksOfFirstTask_X0_kindOf : GoodIn wsX5_ticksOfFirstTask (wsV RX5 142 RX0 yX0_kindOf wsX0_kindOf) := goodIn_app (goodIn_of _ (by decide +kernel)) ggX5_ticksOfFirstTask_X0_kindOf
set_option maxRecDepth 20000 in
theorem ggX5_ticksOfFirstTask_X0_projectorOf : GoodIn wsX5_ticksOfFirstTask wsX0_projectorOf := goodIn_r _ [20, 8, 21, 22, 11, 12, 13, 6, 14, 15, 16, 73, 74, 75, 76, 77, 78] (by decide +kernel) (by decide +kernel)
set_option maxRecDepth 20000 in
theorem gX5_ticksOfFirstTask_X0_projectorOf : GoodIn wsX5_ticksOfFirstTask (wsV RX5 146 RX0 yX0_projectorOf wsX0_projectorOf) := goodIn_app (goodIn_of _ (by decide +kernel)) ggX5_ticksOfFirstTask_X0_projectorOf
set_option maxRecDepth 20000 in
theorem ggX5_ticksOfFirstTask_X5_projectorNumbered : GoodIn wsX5_ticksOfFirstTask wsX5_projectorNumbered := goodIn_r _ [27, 28, 29, 58, 59, 60, 61, 62, 63, 64, 65, 66, 67, 68, 69] (by decide +kernel) (by decide +kernel)
set_option maxRecDepth 20000 in
theorem gX5_ticksOfFirstTask_X5_projectorNumbered : GoodIn wsX5_ticksOfFirstTask (wsV RX5 124 RX5 yX5_projectorNumbered wsX5_projectorNumbered) := goodIn_app (goodIn_of _ (by decide +kernel)) ggX5_ticksOfFirstTask_X5_projectorNumbered
set_option maxRecDepth 20000 in
theorem ggX5_ticksOfFirstTask_X6_clearingTime : GoodIn wsX5_ticksOfFirstTask wsX6_clearingTime := goodIn_r _ [34, 35, 36, 37, 38, 39, 33, 40, 41, 42, 43, 44, 45, 46, 47, 48, 49, 50, 51, 52, 53, 79, 80, 81, 82, 83, 84, 85, 86, 87] (by decide +kernel) (by decide +kernel)
set_option maxRecDepth 20000 in
theorem gX5_ticksOfFirstTask_X6_clearingTime : GoodIn wsX5_ticksOfFirstTask (wsV RX5 149 RX6 yX6_clearingTime wsX6_clearingTime) := goodIn_app (goodIn_of _ (by decide +kernel)) ggX5_ticksOfFirstTask_X6_clearingTime
set_option maxRecDepth 20000 in
theorem ggX5_ticksOfFirstTask_X6_settingNumbered : GoodIn wsX5_ticksOfFirstTask wsX6_settingNumbered := goodIn_r _ [57, 35, 47, 79, 80, 81, 82, 83] (by decide +kernel) (by decide +kernel)
set_option maxRecDepth 20000 in
theorem gX5_ticksOfFirstTask_X6_settingNumbered : GoodIn wsX5_ticksOfFirstTask (wsV RX5 152 RX6 yX6_settingNumbered wsX6_settingNumbered) := goodIn_app (goodIn_of _ (by decide +kernel)) ggX5_ticksOfFirstTask_X6_settingNumbered
theorem dX5_ticksOfFirstTask_0 : decode cX5_ticksOfFirstTask 0 = .ok (.aload_n 0, 1) := by decide +kernel
theorem dX5_ticksOfFirstTask_1 : decode cX5_ticksOfFirstTask 1 = .ok (.getfield 12, 3) := by decide +kernel
theorem dX5_ticksOfFirstTask_4 : decode cX5_ticksOfFirstTask 4 = .ok (.iconst 1, 1) := by decide +kernel
theorem dX5_ticksOfFirstTask_5 : decode cX5_ticksOfFirstTask 5 = .ok (.invokevirtual 142, 3) := by decide +kernel
theorem dX5_ticksOfFirstTask_8 : decode cX5_ticksOfFirstTask 8 = .ok (.lookupswitch 54 #[(0, 28), (1, 48)], 28) := by decide +kernel
theorem dX5_ticksOfFirstTask_36 : decode cX5_ticksOfFirstTask 36 = .ok (.aload_n 1, 1) := by decide +kernel
theorem dX5_ticksOfFirstTask_37 : decode cX5_ticksOfFirstTask 37 = .ok (.aload_n 0, 1) := by decide +kernel
theorem dX5_ticksOfFirstTask_38 : decode cX5_ticksOfFirstTask 38 = .ok (.aload_n 0, 1) := by decide +kernel
theorem dX5_ticksOfFirstTask_39 : decode cX5_ticksOfFirstTask 39 = .ok (.getfield 12, 3) := by decide +kernel
theorem dX5_ticksOfFirstTask_42 : decode cX5_ticksOfFirstTask 42 = .ok (.iconst 1, 1) := by decide +kernel
theorem dX5_ticksOfFirstTask_43 : decode cX5_ticksOfFirstTask 43 = .ok (.invokevirtual 146, 3) := by decide +kernel
theorem dX5_ticksOfFirstTask_46 : decode cX5_ticksOfFirstTask 46 = .ok (.invokevirtual 124, 3) := by decide +kernel
theorem dX5_ticksOfFirstTask_49 : decode cX5_ticksOfFirstTask 49 = .ok (.getfield 97, 3) := by decide +kernel
theorem dX5_ticksOfFirstTask_52 : decode cX5_ticksOfFirstTask 52 = .ok (.invokevirtual 149, 3) := by decide +kernel
theorem dX5_ticksOfFirstTask_55 : decode cX5_ticksOfFirstTask 55 = .ok (.ireturn, 1) := by decide +kernel
theorem dX5_ticksOfFirstTask_56 : decode cX5_ticksOfFirstTask 56 = .ok (.aload_n 1, 1) := by decide +kernel
theorem dX5_ticksOfFirstTask_57 : decode cX5_ticksOfFirstTask 57 = .ok (.iconst 5, 1) := by decide +kernel
theorem dX5_ticksOfFirstTask_58 : decode cX5_ticksOfFirstTask 58 = .ok (.invokevirtual 152, 3) := by decide +kernel
theorem dX5_ticksOfFirstTask_61 : decode cX5_ticksOfFirstTask 61 = .ok (.ireturn, 1) := by decide +kernel
theorem dX5_ticksOfFirstTask_62 : decode cX5_ticksOfFirstTask 62 = .ok (.aload_n 1, 1) := by decide +kernel
theorem dX5_ticksOfFirstTask_63 : decode cX5_ticksOfFirstTask 63 = .ok (.bipush 6, 2) := by decide +kernel
theorem dX5_ticksOfFirstTask_65 : decode cX5_ticksOfFirstTask 65 = .ok (.invokevirtual 152, 3) := by decide +kernel
theorem dX5_ticksOfFirstTask_68 : decode cX5_ticksOfFirstTask 68 = .ok (.ireturn, 1) := by decide +kernel
set_option maxRecDepth 20000 in
theorem ggX5_finishTask_X5_projectorNumbered : GoodIn wsX5_finishTask wsX5_projectorNumbered := goodIn_r _ [10, 11, 12, 71, 72, 73, 74, 75, 76, 77, 78, 79, 80, 81, 82] (by decide +kernel) (by decide +kernel)
set_option maxRecDepth 20000 in
theorem gX5_finishTask_X5_projectorNumbered : GoodIn wsX5_finishTask (wsV RX5 124 RX5 yX5_projectorNumbered wsX5_projectorNumbered) := goodIn_app (goodIn_of _ (by decide +kernel)) ggX5_finishTask_X5_projectorNumbered
set_option maxRecDepth 20000 in
theorem ggX5_finishTask_X2_thread : GoodIn wsX5_finishTask wsX2_thread := goodIn_r _ [17, 18, 19, 89, 90, 91] (by decide +kernel) (by decide +kernel)
set_option maxRecDepth 20000 in
theorem gX5_finishTask_X2_thread : GoodIn wsX5_finishTask (wsV RX5 74 RX2 yX2_thread wsX2_thread) := goodIn_app (goodIn_of _ (by decide +kernel)) ggX5_finishTask_X2_thread
set_option maxRecDepth 20000 in
theorem ggX5_finishTask_X5_finishRepair : GoodIn wsX5_finishTask wsX5_finishRepair := goodIn_r _ [23, 24, 25, 26, 27, 28, 29, 30, 4, 31, 32, 33, 34, 35, 36, 37, 38, 39, 40, 41, 42, 43, 44, 45, 46, 47, 48, 49, 50, 51, 52, 53, 54, 55, 56, 57, 58, 59, 60, 61, 62, 63, 64, 65, 66, 67, 68, 69, 70, 89, 90, 91, 92, 93, 94, 95, 96, 97, 98, 99, 100] (by decide +kernel) (by decide +kernel)
set_option maxRecDepth 20000 in
theorem gX5_finishTask_X5_finishRepair : GoodIn wsX5_finishTask (wsV RX5 161 RX5 yX5_finishRepair wsX5_finishRepair) := goodIn_app (goodIn_of _ (by decide +kernel)) ggX5_finishTask_X5_finishRepair
theorem dX5_finishTask_0 : decode cX5_finishTask 0 = .ok (.aload_n 0, 1) := by decide +kernel
theorem dX5_finishTask_1 : decode cX5_finishTask 1 = .ok (.aload_n 0, 1) := by decide +kernel
theorem dX5_finishTask_2 : decode cX5_finishTask 2 = .ok (.getfield 12, 3) := by decide +kernel
theorem dX5_finishTask_5 : decode cX5_finishTask 5 = .ok (.getfield 155, 3) := by decide +kernel
theorem dX5_finishTask_8 : decode cX5_finishTask 8 = .ok (.invokevirtual 124, 3) := by decide +kernel
theorem dX5_finishTask_11 : decode cX5_finishTask 11 = .ok (.astore_n 2, 1) := by decide +kernel
theorem dX5_finishTask_12 : decode cX5_finishTask 12 = .ok (.aload_n 0, 1) := by decide +kernel
theorem dX5_finishTask_13 : decode cX5_finishTask 13 = .ok (.getfield 12, 3) := by decide +kernel
theorem dX5_finishTask_16 : decode cX5_finishTask 16 = .ok (.getfield 158, 3) := by decide +kernel
theorem dX5_finishTask_19 : decode cX5_finishTask 19 = .ok (.lookupswitch 54 #[(0, 25), (1, 33)], 25) := by decide +kernel
theorem dX5_finishTask_44 : decode cX5_finishTask 44 = .ok (.aload_n 2, 1) := by decide +kernel
theorem dX5_finishTask_45 : decode cX5_finishTask 45 = .ok (.iconst 0, 1) := by decide +kernel
theorem dX5_finishTask_46 : decode cX5_finishTask 46 = .ok (.putfield 78, 3) := by decide +kernel
theorem dX5_finishTask_49 : decode cX5_finishTask 49 = .ok (.goto 30, 3) := by decide +kernel
theorem dX5_finishTask_52 : decode cX5_finishTask 52 = .ok (.aload_n 2, 1) := by decide +kernel
theorem dX5_finishTask_53 : decode cX5_finishTask 53 = .ok (.aload_n 0, 1) := by decide +kernel
theorem dX5_finishTask_54 : decode cX5_finishTask 54 = .ok (.getfield 55, 3) := by decide +kernel
theorem dX5_finishTask_57 : decode cX5_finishTask 57 = .ok (.invokevirtual 74, 3) := by decide +kernel
theorem dX5_finishTask_60 : decode cX5_finishTask 60 = .ok (.aload_n 0, 1) := by decide +kernel
theorem dX5_finishTask_61 : decode cX5_finishTask 61 = .ok (.dup, 1) := by decide +kernel
theorem dX5_finishTask_62 : decode cX5_finishTask 62 = .ok (.getfield 55, 3) := by decide +kernel
theorem dX5_finishTask_65 : decode cX5_finishTask 65 = .ok (.iconst 1, 1) := by decide +kernel
theorem dX5_finishTask_66 : decode cX5_finishTask 66 = .ok (.iadd, 1) := by decide +kernel
theorem dX5_finishTask_67 : decode cX5_finishTask 67 = .ok (.putfield 55, 3) := by decide +kernel
theorem dX5_finishTask_70 : decode cX5_finishTask 70 = .ok (.goto 9, 3) := by decide +kernel
theorem dX5_finishTask_73 : decode cX5_finishTask 73 = .ok (.aload_n 0, 1) := by decide +kernel
theorem dX5_finishTask_74 : decode cX5_finishTask 74 = .ok (.aload_n 2, 1) := by decide +kernel
theorem dX5_finishTask_75 : decode cX5_finishTask 75 = .ok (.aload_n 1, 1) := by decide +kernel
theorem dX5_finishTask_76 : decode cX5_finishTask 76 = .ok (.invokevirtual 161, 3) := by decide +kernel
theorem dX5_finishTask_79 : decode cX5_finishTask 79 = .ok (.return_, 1) := by decide +kernel
set_option maxRecDepth 20000 in
theorem ggX5_finishRepair_X6_reelAtPlace : GoodIn wsX5_finishRepair wsX6_reelAtPlace := goodIn_r _ [13, 14, 15, 16, 12, 17, 18, 19, 20, 21, 22, 23, 24, 25, 26, 56, 57, 58, 59, 60] (by decide +kernel) (by decide +kernel)
set_option maxRecDepth 20000 in
theorem gX5_finishRepair_X6_reelAtPlace : GoodIn wsX5_finishRepair (wsV RX5 100 RX6 yX6_reelAtPlace wsX6_reelAtPlace) := goodIn_app (goodIn_of _ (by decide +kernel)) ggX5_finishRepair_X6_reelAtPlace
set_option maxRecDepth 20000 in
theorem ggX5_finishRepair_X3_repairAt : GoodIn wsX5_finishRepair wsX3_repairAt := goodIn_r _ [31, 32, 33, 34, 35, 30, 36, 37, 38, 39, 40, 41, 42, 43, 52, 53, 54, 55] (by decide +kernel) (by decide +kernel)
set_option maxRecDepth 20000 in
theorem gX5_finishRepair_X3_repairAt : GoodIn wsX5_finishRepair (wsV RX5 165 RX3 yX3_repairAt wsX3_repairAt) := goodIn_app (goodIn_of _ (by decide +kernel)) ggX5_finishRepair_X3_repairAt
set_option maxRecDepth 20000 in
theorem ggX5_finishRepair_X6_settingNumbered : GoodIn wsX5_finishRepair wsX6_settingNumbered := goodIn_r _ [47, 48, 20, 56, 57, 58, 59, 60] (by decide +kernel) (by decide +kernel)
set_option maxRecDepth 20000 in
theorem gX5_finishRepair_X6_settingNumbered : GoodIn wsX5_finishRepair (wsV RX5 152 RX6 yX6_settingNumbered wsX6_settingNumbered) := goodIn_app (goodIn_of _ (by decide +kernel)) ggX5_finishRepair_X6_settingNumbered
theorem dX5_finishRepair_0 : decode cX5_finishRepair 0 = .ok (.aload_n 2, 1) := by decide +kernel
theorem dX5_finishRepair_1 : decode cX5_finishRepair 1 = .ok (.aload_n 1, 1) := by decide +kernel
theorem dX5_finishRepair_2 : decode cX5_finishRepair 2 = .ok (.getfield 97, 3) := by decide +kernel
theorem dX5_finishRepair_5 : decode cX5_finishRepair 5 = .ok (.invokevirtual 100, 3) := by decide +kernel
theorem dX5_finishRepair_8 : decode cX5_finishRepair 8 = .ok (.astore_n 3, 1) := by decide +kernel
theorem dX5_finishRepair_9 : decode cX5_finishRepair 9 = .ok (.aload_n 3, 1) := by decide +kernel
theorem dX5_finishRepair_10 : decode cX5_finishRepair 10 = .ok (.ifnull 42, 3) := by decide +kernel
theorem dX5_finishRepair_13 : decode cX5_finishRepair 13 = .ok (.aload_n 3, 1) := by decide +kernel
theorem dX5_finishRepair_14 : decode cX5_finishRepair 14 = .ok (.aload_n 1, 1) := by decide +kernel
theorem dX5_finishRepair_15 : decode cX5_finishRepair 15 = .ok (.getfield 81, 3) := by decide +kernel
theorem dX5_finishRepair_18 : decode cX5_finishRepair 18 = .ok (.invokevirtual 165, 3) := by decide +kernel
theorem dX5_finishRepair_21 : decode cX5_finishRepair 21 = .ok (.aload_n 1, 1) := by decide +kernel
theorem dX5_finishRepair_22 : decode cX5_finishRepair 22 = .ok (.getfield 81, 3) := by decide +kernel
theorem dX5_finishRepair_25 : decode cX5_finishRepair 25 = .ok (.aload_n 2, 1) := by decide +kernel
theorem dX5_finishRepair_26 : decode cX5_finishRepair 26 = .ok (.bipush 7, 2) := by decide +kernel
theorem dX5_finishRepair_28 : decode cX5_finishRepair 28 = .ok (.invokevirtual 152, 3) := by decide +kernel
theorem dX5_finishRepair_31 : decode cX5_finishRepair 31 = .ok (.iadd, 1) := by decide +kernel
theorem dX5_finishRepair_32 : decode cX5_finishRepair 32 = .ok (.istore 4, 2) := by decide +kernel
theorem dX5_finishRepair_34 : decode cX5_finishRepair 34 = .ok (.aload_n 1, 1) := by decide +kernel
theorem dX5_finishRepair_35 : decode cX5_finishRepair 35 = .ok (.iload 4, 2) := by decide +kernel
theorem dX5_finishRepair_37 : decode cX5_finishRepair 37 = .ok (.aload_n 3, 1) := by decide +kernel
theorem dX5_finishRepair_38 : decode cX5_finishRepair 38 = .ok (.getfield 170, 3) := by decide +kernel
theorem dX5_finishRepair_41 : decode cX5_finishRepair 41 = .ok (.invokestatic 173, 3) := by decide +kernel
theorem dX5_finishRepair_44 : decode cX5_finishRepair 44 = .ok (.putfield 81, 3) := by decide +kernel
theorem dX5_finishRepair_47 : decode cX5_finishRepair 47 = .ok (.aload_n 1, 1) := by decide +kernel
theorem dX5_finishRepair_48 : decode cX5_finishRepair 48 = .ok (.iconst 3, 1) := by decide +kernel
theorem dX5_finishRepair_49 : decode cX5_finishRepair 49 = .ok (.putfield 78, 3) := by decide +kernel
theorem dX5_finishRepair_52 : decode cX5_finishRepair 52 = .ok (.return_, 1) := by decide +kernel
set_option maxRecDepth 20000 in
theorem ggX5_startBack_X5_backProjector : GoodIn wsX5_startBack wsX5_backProjector := goodIn_r _ [7, 8, 9, 10, 11, 6, 12, 13, 14, 43, 44, 45, 46, 47, 48, 49, 50, 51, 52, 53, 54] (by decide +kernel) (by decide +kernel)
set_option maxRecDepth 20000 in
theorem gX5_startBack_X5_backProjector : GoodIn wsX5_startBack (wsV RX5 179 RX5 yX5_backProjector wsX5_backProjector) := goodIn_app (goodIn_of _ (by decide +kernel)) ggX5_startBack_X5_backProjector
set_option maxRecDepth 20000 in
theorem ggX5_startBack_X5_framesBehindMark : GoodIn wsX5_startBack wsX5_framesBehindMark := goodIn_r _ [18, 19, 1, 20, 21, 22, 23, 24, 6, 25, 8, 9, 10, 11, 12, 13, 14, 26, 27, 28, 29, 30, 31, 32, 43, 44, 45, 46, 47, 48, 49, 50, 51, 52, 53, 54, 40, 41, 42, 55, 56, 57, 58, 59, 60, 61, 62, 63] (by decide +kernel) (by decide +kernel)
set_option maxRecDepth 20000 in
theorem gX5_startBack_X5_framesBehindMark : GoodIn wsX5_startBack (wsV RX5 182 RX5 yX5_framesBehindMark wsX5_framesBehindMark) := goodIn_app (goodIn_of _ (by decide +kernel)) ggX5_startBack_X5_framesBehindMark
set_option maxRecDepth 20000 in
theorem ggX5_startBack_X6_settingNumbered : GoodIn wsX5_startBack wsX6_settingNumbered := goodIn_r _ [30, 31, 32, 59, 60, 61, 62, 63] (by decide +kernel) (by decide +kernel)
set_option maxRecDepth 20000 in
theorem gX5_startBack_X6_settingNumbered : GoodIn wsX5_startBack (wsV RX5 152 RX6 yX6_settingNumbered wsX6_settingNumbered) := goodIn_app (goodIn_of _ (by decide +kernel)) ggX5_startBack_X6_settingNumbered
set_option maxRecDepth 20000 in
theorem ggX5_startBack_X2_start : GoodIn wsX5_startBack wsX2_start := goodIn_r _ [37, 38, 39, 40, 41, 42] (by decide +kernel) (by decide +kernel)
set_option maxRecDepth 20000 in
theorem gX5_startBack_X2_start : GoodIn wsX5_startBack (wsV RX5 186 RX2 yX2_start wsX2_start) := goodIn_app (goodIn_of _ (by decide +kernel)) ggX5_startBack_X2_start
theorem dX5_startBack_0 : decode cX5_startBack 0 = .ok (.aload_n 0, 1) := by decide +kernel
theorem dX5_startBack_1 : decode cX5_startBack 1 = .ok (.invokevirtual 179, 3) := by decide +kernel
theorem dX5_startBack_4 : decode cX5_startBack 4 = .ok (.astore_n 3, 1) := by decide +kernel
theorem dX5_startBack_5 : decode cX5_startBack 5 = .ok (.aload_n 3, 1) := by decide +kernel
theorem dX5_startBack_6 : decode cX5_startBack 6 = .ok (.getfield 78, 3) := by decide +kernel
theorem dX5_startBack_9 : decode cX5_startBack 9 = .ok (.iconst 1, 1) := by decide +kernel
theorem dX5_startBack_10 : decode cX5_startBack 10 = .ok (.if_icmp .eq 4, 3) := by decide +kernel
theorem dX5_startBack_13 : decode cX5_startBack 13 = .ok (.return_, 1) := by decide +kernel
theorem dX5_startBack_14 : decode cX5_startBack 14 = .ok (.aload_n 0, 1) := by decide +kernel
theorem dX5_startBack_15 : decode cX5_startBack 15 = .ok (.aload_n 1, 1) := by decide +kernel
theorem dX5_startBack_16 : decode cX5_startBack 16 = .ok (.aload_n 2, 1) := by decide +kernel
theorem dX5_startBack_17 : decode cX5_startBack 17 = .ok (.invokevirtual 182, 3) := by decide +kernel
theorem dX5_startBack_20 : decode cX5_startBack 20 = .ok (.istore 4, 2) := by decide +kernel
theorem dX5_startBack_22 : decode cX5_startBack 22 = .ok (.iload 4, 2) := by decide +kernel
theorem dX5_startBack_24 : decode cX5_startBack 24 = .ok (.ifCond .lt 28, 3) := by decide +kernel
theorem dX5_startBack_27 : decode cX5_startBack 27 = .ok (.aload_n 3, 1) := by decide +kernel
theorem dX5_startBack_28 : decode cX5_startBack 28 = .ok (.aload_n 1, 1) := by decide +kernel
theorem dX5_startBack_29 : decode cX5_startBack 29 = .ok (.iconst 0, 1) := by decide +kernel
theorem dX5_startBack_30 : decode cX5_startBack 30 = .ok (.invokevirtual 152, 3) := by decide +kernel
theorem dX5_startBack_33 : decode cX5_startBack 33 = .ok (.ineg, 1) := by decide +kernel
theorem dX5_startBack_34 : decode cX5_startBack 34 = .ok (.invokevirtual 186, 3) := by decide +kernel
theorem dX5_startBack_37 : decode cX5_startBack 37 = .ok (.iload 4, 2) := by decide +kernel
theorem dX5_startBack_39 : decode cX5_startBack 39 = .ok (.ifCond .le 13, 3) := by decide +kernel
theorem dX5_startBack_42 : decode cX5_startBack 42 = .ok (.aload_n 0, 1) := by decide +kernel
theorem dX5_startBack_43 : decode cX5_startBack 43 = .ok (.dup, 1) := by decide +kernel
theorem dX5_startBack_44 : decode cX5_startBack 44 = .ok (.getfield 42, 3) := by decide +kernel
theorem dX5_startBack_47 : decode cX5_startBack 47 = .ok (.iconst 1, 1) := by decide +kernel
theorem dX5_startBack_48 : decode cX5_startBack 48 = .ok (.iadd, 1) := by decide +kernel
theorem dX5_startBack_49 : decode cX5_startBack 49 = .ok (.putfield 42, 3) := by decide +kernel
theorem dX5_startBack_52 : decode cX5_startBack 52 = .ok (.return_, 1) := by decide +kernel
set_option maxRecDepth 20000 in
theorem ggX5_framesBehindMark_X5_frontProjector : GoodIn wsX5_framesBehindMark wsX5_frontProjector := goodIn_r _ [9, 10, 11, 12, 13, 8, 14, 15, 16, 24, 25, 26, 27, 28, 29, 30, 31, 32, 33, 34, 35] (by decide +kernel) (by decide +kernel)
set_option maxRecDepth 20000 in
theorem gX5_framesBehindMark_X5_frontProjector : GoodIn wsX5_framesBehindMark (wsV RX5 93 RX5 yX5_frontProjector wsX5_frontProjector) := goodIn_app (goodIn_of _ (by decide +kernel)) ggX5_framesBehindMark_X5_frontProjector
set_option maxRecDepth 20000 in
theorem ggX5_framesBehindMark_X6_settingNumbered : GoodIn wsX5_framesBehindMark wsX6_settingNumbered := goodIn_r _ [21, 22, 23, 43, 44, 45, 46, 47] (by decide +kernel) (by decide +kernel)
set_option maxRecDepth 20000 in
theorem gX5_framesBehindMark_X6_settingNumbered : GoodIn wsX5_framesBehindMark (wsV RX5 152 RX6 yX6_settingNumbered wsX6_settingNumbered) := goodIn_app (goodIn_of _ (by decide +kernel)) ggX5_framesBehindMark_X6_settingNumbered
theorem dX5_framesBehindMark_0 : decode cX5_framesBehindMark 0 = .ok (.aload_n 0, 1) := by decide +kernel
theorem dX5_framesBehindMark_1 : decode cX5_framesBehindMark 1 = .ok (.getfield 58, 3) := by decide +kernel
theorem dX5_framesBehindMark_4 : decode cX5_framesBehindMark 4 = .ok (.ifCond .eq 5, 3) := by decide +kernel
theorem dX5_framesBehindMark_7 : decode cX5_framesBehindMark 7 = .ok (.iconst 1, 1) := by decide +kernel
theorem dX5_framesBehindMark_8 : decode cX5_framesBehindMark 8 = .ok (.ireturn, 1) := by decide +kernel
theorem dX5_framesBehindMark_9 : decode cX5_framesBehindMark 9 = .ok (.aload_n 0, 1) := by decide +kernel
theorem dX5_framesBehindMark_10 : decode cX5_framesBehindMark 10 = .ok (.invokevirtual 93, 3) := by decide +kernel
theorem dX5_framesBehindMark_13 : decode cX5_framesBehindMark 13 = .ok (.getfield 78, 3) := by decide +kernel
theorem dX5_framesBehindMark_16 : decode cX5_framesBehindMark 16 = .ok (.iconst 3, 1) := by decide +kernel
theorem dX5_framesBehindMark_17 : decode cX5_framesBehindMark 17 = .ok (.if_icmp .eq 5, 3) := by decide +kernel
theorem dX5_framesBehindMark_20 : decode cX5_framesBehindMark 20 = .ok (.iconst (-1), 1) := by decide +kernel
theorem dX5_framesBehindMark_21 : decode cX5_framesBehindMark 21 = .ok (.ireturn, 1) := by decide +kernel
theorem dX5_framesBehindMark_22 : decode cX5_framesBehindMark 22 = .ok (.aload_n 0, 1) := by decide +kernel
theorem dX5_framesBehindMark_23 : decode cX5_framesBehindMark 23 = .ok (.invokevirtual 93, 3) := by decide +kernel
theorem dX5_framesBehindMark_26 : decode cX5_framesBehindMark 26 = .ok (.getfield 81, 3) := by decide +kernel
theorem dX5_framesBehindMark_29 : decode cX5_framesBehindMark 29 = .ok (.aload_n 2, 1) := by decide +kernel
theorem dX5_framesBehindMark_30 : decode cX5_framesBehindMark 30 = .ok (.getfield 170, 3) := by decide +kernel
theorem dX5_framesBehindMark_33 : decode cX5_framesBehindMark 33 = .ok (.aload_n 1, 1) := by decide +kernel
theorem dX5_framesBehindMark_34 : decode cX5_framesBehindMark 34 = .ok (.iconst 1, 1) := by decide +kernel
theorem dX5_framesBehindMark_35 : decode cX5_framesBehindMark 35 = .ok (.invokevirtual 152, 3) := by decide +kernel
theorem dX5_framesBehindMark_38 : decode cX5_framesBehindMark 38 = .ok (.isub, 1) := by decide +kernel
theorem dX5_framesBehindMark_39 : decode cX5_framesBehindMark 39 = .ok (.isub, 1) := by decide +kernel
theorem dX5_framesBehindMark_40 : decode cX5_framesBehindMark 40 = .ok (.ireturn, 1) := by decide +kernel
set_option maxRecDepth 20000 in
theorem ggX5_goOn_X2_isMoving : GoodIn wsX5_goOn wsX2_isMoving := goodIn_r _ [6, 7, 8, 9, 10] (by decide +kernel) (by decide +kernel)
set_option maxRecDepth 20000 in
theorem gX5_goOn_X2_isMoving : GoodIn wsX5_goOn (wsV RX5 189 RX2 yX2_isMoving wsX2_isMoving) := goodIn_app (goodIn_of _ (by decide +kernel)) ggX5_goOn_X2_isMoving
theorem dX5_goOn_0 : decode cX5_goOn 0 = .ok (.aload_n 0, 1) := by decide +kernel
theorem dX5_goOn_1 : decode cX5_goOn 1 = .ok (.invokevirtual 189, 3) := by decide +kernel
theorem dX5_goOn_4 : decode cX5_goOn 4 = .ok (.ifCond .eq 13, 3) := by decide +kernel
theorem dX5_goOn_7 : decode cX5_goOn 7 = .ok (.aload_n 0, 1) := by decide +kernel
theorem dX5_goOn_8 : decode cX5_goOn 8 = .ok (.dup, 1) := by decide +kernel
theorem dX5_goOn_9 : decode cX5_goOn 9 = .ok (.getfield 81, 3) := by decide +kernel
theorem dX5_goOn_12 : decode cX5_goOn 12 = .ok (.iconst 1, 1) := by decide +kernel
theorem dX5_goOn_13 : decode cX5_goOn 13 = .ok (.iadd, 1) := by decide +kernel
theorem dX5_goOn_14 : decode cX5_goOn 14 = .ok (.putfield 81, 3) := by decide +kernel
theorem dX5_goOn_17 : decode cX5_goOn 17 = .ok (.return_, 1) := by decide +kernel
set_option maxRecDepth 20000 in
theorem ggX5_wearSplice_X5_frontProjector : GoodIn wsX5_wearSplice wsX5_frontProjector := goodIn_r _ [10, 5, 11, 12, 13, 9, 14, 15, 16, 57, 58, 59, 60, 61, 62, 63, 64, 65, 66, 67, 68] (by decide +kernel) (by decide +kernel)
set_option maxRecDepth 20000 in
theorem gX5_wearSplice_X5_frontProjector : GoodIn wsX5_wearSplice (wsV RX5 93 RX5 yX5_frontProjector wsX5_frontProjector) := goodIn_app (goodIn_of _ (by decide +kernel)) ggX5_wearSplice_X5_frontProjector
set_option maxRecDepth 20000 in
theorem ggX5_wearSplice_X3_breaksAt : GoodIn wsX5_wearSplice wsX3_breaksAt := goodIn_r _ [21, 22, 23, 24, 25, 26, 27, 28, 29, 20, 30, 31, 32, 33, 34, 35, 36, 37, 69, 70, 71, 72] (by decide +kernel) (by decide +kernel)
set_option maxRecDepth 20000 in
theorem gX5_wearSplice_X3_breaksAt : GoodIn wsX5_wearSplice (wsV RX5 192 RX3 yX3_breaksAt wsX3_breaksAt) := goodIn_app (goodIn_of _ (by decide +kernel)) ggX5_wearSplice_X3_breaksAt
set_option maxRecDepth 20000 in
theorem ggX5_wearSplice_X0_addFirst : GoodIn wsX5_wearSplice wsX0_addFirst := goodIn_r _ [42, 43, 44, 45, 46, 47, 48, 49, 73, 74, 75, 76, 77, 78] (by decide +kernel) (by decide +kernel)
set_option maxRecDepth 20000 in
theorem gX5_wearSplice_X0_addFirst : GoodIn wsX5_wearSplice (wsV RX5 196 RX0 yX0_addFirst wsX0_addFirst) := goodIn_app (goodIn_of _ (by decide +kernel)) ggX5_wearSplice_X0_addFirst
set_option maxRecDepth 20000 in
theorem ggX5_wearSplice_X5_backProjector : GoodIn wsX5_wearSplice wsX5_backProjector := goodIn_r _ [53, 5, 11, 12, 13, 9, 14, 15, 16, 57, 58, 59, 60, 61, 62, 63, 64, 65, 66, 67, 68] (by decide +kernel) (by decide +kernel)
set_option maxRecDepth 20000 in
theorem gX5_wearSplice_X5_backProjector : GoodIn wsX5_wearSplice (wsV RX5 179 RX5 yX5_backProjector wsX5_backProjector) := goodIn_app (goodIn_of _ (by decide +kernel)) ggX5_wearSplice_X5_backProjector
theorem dX5_wearSplice_0 : decode cX5_wearSplice 0 = .ok (.aload_n 0, 1) := by decide +kernel
theorem dX5_wearSplice_1 : decode cX5_wearSplice 1 = .ok (.invokevirtual 93, 3) := by decide +kernel
theorem dX5_wearSplice_4 : decode cX5_wearSplice 4 = .ok (.astore_n 2, 1) := by decide +kernel
theorem dX5_wearSplice_5 : decode cX5_wearSplice 5 = .ok (.aload_n 2, 1) := by decide +kernel
theorem dX5_wearSplice_6 : decode cX5_wearSplice 6 = .ok (.getfield 78, 3) := by decide +kernel
theorem dX5_wearSplice_9 : decode cX5_wearSplice 9 = .ok (.iconst 3, 1) := by decide +kernel
theorem dX5_wearSplice_10 : decode cX5_wearSplice 10 = .ok (.if_icmp .ne 14, 3) := by decide +kernel
theorem dX5_wearSplice_13 : decode cX5_wearSplice 13 = .ok (.aload_n 1, 1) := by decide +kernel
theorem dX5_wearSplice_14 : decode cX5_wearSplice 14 = .ok (.aload_n 2, 1) := by decide +kernel
theorem dX5_wearSplice_15 : decode cX5_wearSplice 15 = .ok (.getfield 81, 3) := by decide +kernel
theorem dX5_wearSplice_18 : decode cX5_wearSplice 18 = .ok (.invokevirtual 192, 3) := by decide +kernel
theorem dX5_wearSplice_21 : decode cX5_wearSplice 21 = .ok (.ifCond .ne 4, 3) := by decide +kernel
theorem dX5_wearSplice_24 : decode cX5_wearSplice 24 = .ok (.return_, 1) := by decide +kernel
theorem dX5_wearSplice_25 : decode cX5_wearSplice 25 = .ok (.aload_n 2, 1) := by decide +kernel
theorem dX5_wearSplice_26 : decode cX5_wearSplice 26 = .ok (.iconst 5, 1) := by decide +kernel
theorem dX5_wearSplice_27 : decode cX5_wearSplice 27 = .ok (.putfield 78, 3) := by decide +kernel
theorem dX5_wearSplice_30 : decode cX5_wearSplice 30 = .ok (.aload_n 0, 1) := by decide +kernel
theorem dX5_wearSplice_31 : decode cX5_wearSplice 31 = .ok (.dup, 1) := by decide +kernel
theorem dX5_wearSplice_32 : decode cX5_wearSplice 32 = .ok (.getfield 45, 3) := by decide +kernel
theorem dX5_wearSplice_35 : decode cX5_wearSplice 35 = .ok (.iconst 1, 1) := by decide +kernel
theorem dX5_wearSplice_36 : decode cX5_wearSplice 36 = .ok (.iadd, 1) := by decide +kernel
theorem dX5_wearSplice_37 : decode cX5_wearSplice 37 = .ok (.putfield 45, 3) := by decide +kernel
theorem dX5_wearSplice_40 : decode cX5_wearSplice 40 = .ok (.aload_n 0, 1) := by decide +kernel
theorem dX5_wearSplice_41 : decode cX5_wearSplice 41 = .ok (.getfield 12, 3) := by decide +kernel
theorem dX5_wearSplice_44 : decode cX5_wearSplice 44 = .ok (.iconst 2, 1) := by decide +kernel
theorem dX5_wearSplice_45 : decode cX5_wearSplice 45 = .ok (.aload_n 0, 1) := by decide +kernel
theorem dX5_wearSplice_46 : decode cX5_wearSplice 46 = .ok (.getfield 52, 3) := by decide +kernel
theorem dX5_wearSplice_49 : decode cX5_wearSplice 49 = .ok (.invokevirtual 196, 3) := by decide +kernel
theorem dX5_wearSplice_52 : decode cX5_wearSplice 52 = .ok (.aload_n 0, 1) := by decide +kernel
theorem dX5_wearSplice_53 : decode cX5_wearSplice 53 = .ok (.invokevirtual 179, 3) := by decide +kernel
theorem dX5_wearSplice_56 : decode cX5_wearSplice 56 = .ok (.getfield 78, 3) := by decide +kernel
theorem dX5_wearSplice_59 : decode cX5_wearSplice 59 = .ok (.iconst 2, 1) := by decide +kernel
theorem dX5_wearSplice_60 : decode cX5_wearSplice 60 = .ok (.if_icmp .ne 11, 3) := by decide +kernel
theorem dX5_wearSplice_63 : decode cX5_wearSplice 63 = .ok (.aload_n 0, 1) := by decide +kernel
theorem dX5_wearSplice_64 : decode cX5_wearSplice 64 = .ok (.invokevirtual 179, 3) := by decide +kernel
theorem dX5_wearSplice_67 : decode cX5_wearSplice 67 = .ok (.iconst 1, 1) := by decide +kernel
theorem dX5_wearSplice_68 : decode cX5_wearSplice 68 = .ok (.putfield 78, 3) := by decide +kernel
theorem dX5_wearSplice_71 : decode cX5_wearSplice 71 = .ok (.return_, 1) := by decide +kernel
set_option maxRecDepth 20000 in
theorem ggX5_runOut_X5_frontProjector : GoodIn wsX5_runOut wsX5_frontProjector := goodIn_r _ [12, 13, 14, 15, 16, 11, 17, 18, 19, 68, 69, 70, 71, 72, 73, 74, 75, 76, 77, 78, 79] (by decide +kernel) (by decide +kernel)
set_option maxRecDepth 20000 in
theorem gX5_runOut_X5_frontProjector : GoodIn wsX5_runOut (wsV RX5 93 RX5 yX5_frontProjector wsX5_frontProjector) := goodIn_app (goodIn_of _ (by decide +kernel)) ggX5_runOut_X5_frontProjector
set_option maxRecDepth 20000 in
theorem ggX5_runOut_X6_settingNumbered : GoodIn wsX5_runOut wsX6_settingNumbered := goodIn_r _ [24, 25, 26, 59, 60, 61, 62, 63] (by decide +kernel) (by decide +kernel)
set_option maxRecDepth 20000 in
theorem gX5_runOut_X6_settingNumbered : GoodIn wsX5_runOut (wsV RX5 152 RX6 yX6_settingNumbered wsX6_settingNumbered) := goodIn_app (goodIn_of _ (by decide +kernel)) ggX5_runOut_X6_settingNumbered
set_option maxRecDepth 20000 in
theorem ggX5_runOut_X5_orderNextReel : GoodIn wsX5_runOut wsX5_orderNextReel := goodIn_r _ [30, 31, 13, 2, 32, 33, 34, 35, 36, 37, 38, 39, 40, 41, 42, 43, 44, 45, 46, 47, 48, 49, 50, 51, 52, 53, 54, 55, 68, 69, 70, 71, 72, 73, 74, 75, 76, 77, 78, 79, 59, 60, 61, 62, 63, 80, 81, 82, 83, 84, 85] (by decide +kernel) (by decide +kernel)
set_option maxRecDepth 20000 in
theorem gX5_runOut_X5_orderNextReel : GoodIn wsX5_runOut (wsV RX5 200 RX5 yX5_orderNextReel wsX5_orderNextReel) := goodIn_app (goodIn_of _ (by decide +kernel)) ggX5_runOut_X5_orderNextReel
theorem dX5_runOut_0 : decode cX5_runOut 0 = .ok (.aload_n 0, 1) := by decide +kernel
theorem dX5_runOut_1 : decode cX5_runOut 1 = .ok (.invokevirtual 93, 3) := by decide +kernel
theorem dX5_runOut_4 : decode cX5_runOut 4 = .ok (.astore_n 3, 1) := by decide +kernel
theorem dX5_runOut_5 : decode cX5_runOut 5 = .ok (.aload_n 3, 1) := by decide +kernel
theorem dX5_runOut_6 : decode cX5_runOut 6 = .ok (.getfield 97, 3) := by decide +kernel
theorem dX5_runOut_9 : decode cX5_runOut 9 = .ok (.aload_n 1, 1) := by decide +kernel
theorem dX5_runOut_10 : decode cX5_runOut 10 = .ok (.getfield 84, 3) := by decide +kernel
theorem dX5_runOut_13 : decode cX5_runOut 13 = .ok (.iconst 1, 1) := by decide +kernel
theorem dX5_runOut_14 : decode cX5_runOut 14 = .ok (.isub, 1) := by decide +kernel
theorem dX5_runOut_15 : decode cX5_runOut 15 = .ok (.if_icmp .ne 7, 3) := by decide +kernel
theorem dX5_runOut_18 : decode cX5_runOut 18 = .ok (.iconst 1, 1) := by decide +kernel
theorem dX5_runOut_19 : decode cX5_runOut 19 = .ok (.goto 4, 3) := by decide +kernel
theorem dX5_runOut_22 : decode cX5_runOut 22 = .ok (.iconst 0, 1) := by decide +kernel
theorem dX5_runOut_23 : decode cX5_runOut 23 = .ok (.istore 4, 2) := by decide +kernel
theorem dX5_runOut_25 : decode cX5_runOut 25 = .ok (.iload 4, 2) := by decide +kernel
theorem dX5_runOut_27 : decode cX5_runOut 27 = .ok (.ifCond .eq 7, 3) := by decide +kernel
theorem dX5_runOut_30 : decode cX5_runOut 30 = .ok (.iconst 0, 1) := by decide +kernel
theorem dX5_runOut_31 : decode cX5_runOut 31 = .ok (.goto 8, 3) := by decide +kernel
theorem dX5_runOut_34 : decode cX5_runOut 34 = .ok (.aload_n 1, 1) := by decide +kernel
theorem dX5_runOut_35 : decode cX5_runOut 35 = .ok (.iconst 2, 1) := by decide +kernel
theorem dX5_runOut_36 : decode cX5_runOut 36 = .ok (.invokevirtual 152, 3) := by decide +kernel
theorem dX5_runOut_39 : decode cX5_runOut 39 = .ok (.istore 5, 2) := by decide +kernel
theorem dX5_runOut_41 : decode cX5_runOut 41 = .ok (.aload_n 3, 1) := by decide +kernel
theorem dX5_runOut_42 : decode cX5_runOut 42 = .ok (.getfield 78, 3) := by decide +kernel
theorem dX5_runOut_45 : decode cX5_runOut 45 = .ok (.iconst 3, 1) := by decide +kernel
theorem dX5_runOut_46 : decode cX5_runOut 46 = .ok (.if_icmp .ne 17, 3) := by decide +kernel
theorem dX5_runOut_49 : decode cX5_runOut 49 = .ok (.aload_n 3, 1) := by decide +kernel
theorem dX5_runOut_50 : decode cX5_runOut 50 = .ok (.getfield 81, 3) := by decide +kernel
theorem dX5_runOut_53 : decode cX5_runOut 53 = .ok (.aload_n 2, 1) := by decide +kernel
theorem dX5_runOut_54 : decode cX5_runOut 54 = .ok (.getfield 170, 3) := by decide +kernel
theorem dX5_runOut_57 : decode cX5_runOut 57 = .ok (.iload 5, 2) := by decide +kernel
theorem dX5_runOut_59 : decode cX5_runOut 59 = .ok (.isub, 1) := by decide +kernel
theorem dX5_runOut_60 : decode cX5_runOut 60 = .ok (.if_icmp .ge 4, 3) := by decide +kernel
theorem dX5_runOut_63 : decode cX5_runOut 63 = .ok (.return_, 1) := by decide +kernel
theorem dX5_runOut_64 : decode cX5_runOut 64 = .ok (.aload_n 3, 1) := by decide +kernel
theorem dX5_runOut_65 : decode cX5_runOut 65 = .ok (.iconst 4, 1) := by decide +kernel
theorem dX5_runOut_66 : decode cX5_runOut 66 = .ok (.putfield 78, 3) := by decide +kernel
theorem dX5_runOut_69 : decode cX5_runOut 69 = .ok (.aload_n 0, 1) := by decide +kernel
theorem dX5_runOut_70 : decode cX5_runOut 70 = .ok (.iconst 1, 1) := by decide +kernel
theorem dX5_runOut_71 : decode cX5_runOut 71 = .ok (.putfield 58, 3) := by decide +kernel
theorem dX5_runOut_74 : decode cX5_runOut 74 = .ok (.iload 4, 2) := by decide +kernel
theorem dX5_runOut_76 : decode cX5_runOut 76 = .ok (.ifCond .eq 11, 3) := by decide +kernel
theorem dX5_runOut_79 : decode cX5_runOut 79 = .ok (.aload_n 0, 1) := by decide +kernel
theorem dX5_runOut_80 : decode cX5_runOut 80 = .ok (.iconst 0, 1) := by decide +kernel
theorem dX5_runOut_81 : decode cX5_runOut 81 = .ok (.putfield 28, 3) := by decide +kernel
theorem dX5_runOut_84 : decode cX5_runOut 84 = .ok (.goto 8, 3) := by decide +kernel
theorem dX5_runOut_87 : decode cX5_runOut 87 = .ok (.aload_n 0, 1) := by decide +kernel
theorem dX5_runOut_88 : decode cX5_runOut 88 = .ok (.aload_n 1, 1) := by decide +kernel
theorem dX5_runOut_89 : decode cX5_runOut 89 = .ok (.invokevirtual 200, 3) := by decide +kernel
theorem dX5_runOut_92 : decode cX5_runOut 92 = .ok (.return_, 1) := by decide +kernel
set_option maxRecDepth 20000 in
theorem ggX5_orderNextReel_X0_addLast : GoodIn wsX5_orderNextReel wsX0_addLast := goodIn_r _ [9, 10, 11, 12, 45, 46, 47, 48, 49, 50] (by decide +kernel) (by decide +kernel)
set_option maxRecDepth 20000 in
theorem gX5_orderNextReel_X0_addLast : GoodIn wsX5_orderNextReel (wsV RX5 203 RX0 yX0_addLast wsX0_addLast) := goodIn_app (goodIn_of _ (by decide +kernel)) ggX5_orderNextReel_X0_addLast
set_option maxRecDepth 20000 in
theorem ggX5_orderNextReel_X0_threadTasks : GoodIn wsX5_orderNextReel wsX0_threadTasks := goodIn_r _ [16, 17, 18, 19, 8, 20, 21, 22, 11, 23, 24, 25, 26, 27, 10, 45, 46, 47, 48, 49, 50] (by decide +kernel) (by decide +kernel)
set_option maxRecDepth 20000 in
theorem gX5_orderNextReel_X0_threadTasks : GoodIn wsX5_orderNextReel (wsV RX5 206 RX0 yX0_threadTasks wsX0_threadTasks) := goodIn_app (goodIn_of _ (by decide +kernel)) ggX5_orderNextReel_X0_threadTasks
theorem dX5_orderNextReel_0 : decode cX5_orderNextReel 0 = .ok (.aload_n 0, 1) := by decide +kernel
theorem dX5_orderNextReel_1 : decode cX5_orderNextReel 1 = .ok (.getfield 12, 3) := by decide +kernel
theorem dX5_orderNextReel_4 : decode cX5_orderNextReel 4 = .ok (.iconst 0, 1) := by decide +kernel
theorem dX5_orderNextReel_5 : decode cX5_orderNextReel 5 = .ok (.aload_n 0, 1) := by decide +kernel
theorem dX5_orderNextReel_6 : decode cX5_orderNextReel 6 = .ok (.getfield 52, 3) := by decide +kernel
theorem dX5_orderNextReel_9 : decode cX5_orderNextReel 9 = .ok (.invokevirtual 203, 3) := by decide +kernel
theorem dX5_orderNextReel_12 : decode cX5_orderNextReel 12 = .ok (.aload_n 1, 1) := by decide +kernel
theorem dX5_orderNextReel_13 : decode cX5_orderNextReel 13 = .ok (.getfield 84, 3) := by decide +kernel
theorem dX5_orderNextReel_16 : decode cX5_orderNextReel 16 = .ok (.aload_n 0, 1) := by decide +kernel
theorem dX5_orderNextReel_17 : decode cX5_orderNextReel 17 = .ok (.getfield 55, 3) := by decide +kernel
theorem dX5_orderNextReel_20 : decode cX5_orderNextReel 20 = .ok (.isub, 1) := by decide +kernel
theorem dX5_orderNextReel_21 : decode cX5_orderNextReel 21 = .ok (.aload_n 0, 1) := by decide +kernel
theorem dX5_orderNextReel_22 : decode cX5_orderNextReel 22 = .ok (.getfield 12, 3) := by decide +kernel
theorem dX5_orderNextReel_25 : decode cX5_orderNextReel 25 = .ok (.invokevirtual 206, 3) := by decide +kernel
theorem dX5_orderNextReel_28 : decode cX5_orderNextReel 28 = .ok (.if_icmp .le 15, 3) := by decide +kernel
theorem dX5_orderNextReel_31 : decode cX5_orderNextReel 31 = .ok (.aload_n 0, 1) := by decide +kernel
theorem dX5_orderNextReel_32 : decode cX5_orderNextReel 32 = .ok (.getfield 12, 3) := by decide +kernel
theorem dX5_orderNextReel_35 : decode cX5_orderNextReel 35 = .ok (.iconst 1, 1) := by decide +kernel
theorem dX5_orderNextReel_36 : decode cX5_orderNextReel 36 = .ok (.aload_n 0, 1) := by decide +kernel
theorem dX5_orderNextReel_37 : decode cX5_orderNextReel 37 = .ok (.getfield 52, 3) := by decide +kernel
theorem dX5_orderNextReel_40 : decode cX5_orderNextReel 40 = .ok (.invokevirtual 203, 3) := by decide +kernel
theorem dX5_orderNextReel_43 : decode cX5_orderNextReel 43 = .ok (.return_, 1) := by decide +kernel
set_option maxRecDepth 20000 in
theorem ggX5_changeOver_X5_backProjector : GoodIn wsX5_changeOver wsX5_backProjector := goodIn_r _ [11, 6, 12, 13, 14, 10, 15, 16, 17, 18, 19, 20, 21, 22, 23, 24, 25, 26, 27, 28, 29] (by decide +kernel) (by decide +kernel)
set_option maxRecDepth 20000 in
theorem gX5_changeOver_X5_backProjector : GoodIn wsX5_changeOver (wsV RX5 179 RX5 yX5_backProjector wsX5_backProjector) := goodIn_app (goodIn_of _ (by decide +kernel)) ggX5_changeOver_X5_backProjector
theorem dX5_changeOver_0 : decode cX5_changeOver 0 = .ok (.aload_n 0, 1) := by decide +kernel
theorem dX5_changeOver_1 : decode cX5_changeOver 1 = .ok (.invokevirtual 179, 3) := by decide +kernel
theorem dX5_changeOver_4 : decode cX5_changeOver 4 = .ok (.astore_n 1, 1) := by decide +kernel
theorem dX5_changeOver_5 : decode cX5_changeOver 5 = .ok (.aload_n 0, 1) := by decide +kernel
theorem dX5_changeOver_6 : decode cX5_changeOver 6 = .ok (.getfield 58, 3) := by decide +kernel
theorem dX5_changeOver_9 : decode cX5_changeOver 9 = .ok (.ifCond .eq 58, 3) := by decide +kernel
theorem dX5_changeOver_12 : decode cX5_changeOver 12 = .ok (.aload_n 0, 1) := by decide +kernel
theorem dX5_changeOver_13 : decode cX5_changeOver 13 = .ok (.getfield 28, 3) := by decide +kernel
theorem dX5_changeOver_16 : decode cX5_changeOver 16 = .ok (.ifCond .eq 51, 3) := by decide +kernel
theorem dX5_changeOver_19 : decode cX5_changeOver 19 = .ok (.aload_n 1, 1) := by decide +kernel
theorem dX5_changeOver_20 : decode cX5_changeOver 20 = .ok (.getfield 78, 3) := by decide +kernel
theorem dX5_changeOver_23 : decode cX5_changeOver 23 = .ok (.iconst 2, 1) := by decide +kernel
theorem dX5_changeOver_24 : decode cX5_changeOver 24 = .ok (.if_icmp .ne 43, 3) := by decide +kernel
theorem dX5_changeOver_27 : decode cX5_changeOver 27 = .ok (.aload_n 1, 1) := by decide +kernel
theorem dX5_changeOver_28 : decode cX5_changeOver 28 = .ok (.getfield 81, 3) := by decide +kernel
theorem dX5_changeOver_31 : decode cX5_changeOver 31 = .ok (.ifCond .lt 36, 3) := by decide +kernel
theorem dX5_changeOver_34 : decode cX5_changeOver 34 = .ok (.aload_n 1, 1) := by decide +kernel
theorem dX5_changeOver_35 : decode cX5_changeOver 35 = .ok (.iconst 3, 1) := by decide +kernel
theorem dX5_changeOver_36 : decode cX5_changeOver 36 = .ok (.putfield 78, 3) := by decide +kernel
theorem dX5_changeOver_39 : decode cX5_changeOver 39 = .ok (.aload_n 0, 1) := by decide +kernel
theorem dX5_changeOver_40 : decode cX5_changeOver 40 = .ok (.dup, 1) := by decide +kernel
theorem dX5_changeOver_41 : decode cX5_changeOver 41 = .ok (.getfield 39, 3) := by decide +kernel
theorem dX5_changeOver_44 : decode cX5_changeOver 44 = .ok (.aload_n 1, 1) := by decide +kernel
theorem dX5_changeOver_45 : decode cX5_changeOver 45 = .ok (.getfield 81, 3) := by decide +kernel
theorem dX5_changeOver_48 : decode cX5_changeOver 48 = .ok (.iadd, 1) := by decide +kernel
theorem dX5_changeOver_49 : decode cX5_changeOver 49 = .ok (.putfield 39, 3) := by decide +kernel
theorem dX5_changeOver_52 : decode cX5_changeOver 52 = .ok (.aload_n 0, 1) := by decide +kernel
theorem dX5_changeOver_53 : decode cX5_changeOver 53 = .ok (.iconst 1, 1) := by decide +kernel
theorem dX5_changeOver_54 : decode cX5_changeOver 54 = .ok (.aload_n 0, 1) := by decide +kernel
theorem dX5_changeOver_55 : decode cX5_changeOver 55 = .ok (.getfield 52, 3) := by decide +kernel
theorem dX5_changeOver_58 : decode cX5_changeOver 58 = .ok (.isub, 1) := by decide +kernel
theorem dX5_changeOver_59 : decode cX5_changeOver 59 = .ok (.putfield 52, 3) := by decide +kernel
theorem dX5_changeOver_62 : decode cX5_changeOver 62 = .ok (.aload_n 0, 1) := by decide +kernel
theorem dX5_changeOver_63 : decode cX5_changeOver 63 = .ok (.iconst 0, 1) := by decide +kernel
theorem dX5_changeOver_64 : decode cX5_changeOver 64 = .ok (.putfield 58, 3) := by decide +kernel
theorem dX5_changeOver_67 : decode cX5_changeOver 67 = .ok (.return_, 1) := by decide +kernel
set_option maxRecDepth 20000 in
theorem ggX5_countTick_X5_frontProjector : GoodIn wsX5_countTick wsX5_frontProjector := goodIn_r _ [9, 10, 11, 12, 13, 8, 14, 15, 16, 17, 18, 19, 20, 21, 22, 23, 24, 25, 26, 27, 28] (by decide +kernel) (by decide +kernel)
set_option maxRecDepth 20000 in
theorem gX5_countTick_X5_frontProjector : GoodIn wsX5_countTick (wsV RX5 93 RX5 yX5_frontProjector wsX5_frontProjector) := goodIn_app (goodIn_of _ (by decide +kernel)) ggX5_countTick_X5_frontProjector
theorem dX5_countTick_0 : decode cX5_countTick 0 = .ok (.aload_n 0, 1) := by decide +kernel
theorem dX5_countTick_1 : decode cX5_countTick 1 = .ok (.dup, 1) := by decide +kernel
theorem dX5_countTick_2 : decode cX5_countTick 2 = .ok (.getfield 32, 3) := by decide +kernel
theorem dX5_countTick_5 : decode cX5_countTick 5 = .ok (.iconst 1, 1) := by decide +kernel
theorem dX5_countTick_6 : decode cX5_countTick 6 = .ok (.iadd, 1) := by decide +kernel
theorem dX5_countTick_7 : decode cX5_countTick 7 = .ok (.putfield 32, 3) := by decide +kernel
theorem dX5_countTick_10 : decode cX5_countTick 10 = .ok (.aload_n 0, 1) := by decide +kernel
theorem dX5_countTick_11 : decode cX5_countTick 11 = .ok (.getfield 28, 3) := by decide +kernel
theorem dX5_countTick_14 : decode cX5_countTick 14 = .ok (.ifCond .eq 24, 3) := by decide +kernel
theorem dX5_countTick_17 : decode cX5_countTick 17 = .ok (.aload_n 0, 1) := by decide +kernel
theorem dX5_countTick_18 : decode cX5_countTick 18 = .ok (.invokevirtual 93, 3) := by decide +kernel
theorem dX5_countTick_21 : decode cX5_countTick 21 = .ok (.getfield 78, 3) := by decide +kernel
theorem dX5_countTick_24 : decode cX5_countTick 24 = .ok (.iconst 3, 1) := by decide +kernel
theorem dX5_countTick_25 : decode cX5_countTick 25 = .ok (.if_icmp .eq 13, 3) := by decide +kernel
theorem dX5_countTick_28 : decode cX5_countTick 28 = .ok (.aload_n 0, 1) := by decide +kernel
theorem dX5_countTick_29 : decode cX5_countTick 29 = .ok (.dup, 1) := by decide +kernel
theorem dX5_countTick_30 : decode cX5_countTick 30 = .ok (.getfield 36, 3) := by decide +kernel
theorem dX5_countTick_33 : decode cX5_countTick 33 = .ok (.iconst 1, 1) := by decide +kernel
theorem dX5_countTick_34 : decode cX5_countTick 34 = .ok (.iadd, 1) := by decide +kernel
theorem dX5_countTick_35 : decode cX5_countTick 35 = .ok (.putfield 36, 3) := by decide +kernel
theorem dX5_countTick_38 : decode cX5_countTick 38 = .ok (.return_, 1) := by decide +kernel
set_option maxRecDepth 20000 in
theorem ggX6_init_X3_init : GoodIn wsX6_init wsX3_init := goodIn_r _ [17, 18, 2, 3, 6, 19, 20, 26, 27, 28, 29] (by decide +kernel) (by decide +kernel)
set_option maxRecDepth 20000 in
theorem gX6_init_X3_init_n24 : GoodIn wsX6_init (wsX3_init) := ggX6_init_X3_init
theorem dX6_init_0 : decode cX6_init 0 = .ok (.aload_n 0, 1) := by decide +kernel
theorem dX6_init_1 : decode cX6_init 1 = .ok (.invokespecial 3, 3) := by decide +kernel
theorem dX6_init_4 : decode cX6_init 4 = .ok (.aload_n 0, 1) := by decide +kernel
theorem dX6_init_5 : decode cX6_init 5 = .ok (.bipush 10, 2) := by decide +kernel
theorem dX6_init_7 : decode cX6_init 7 = .ok (.anewarray 11, 3) := by decide +kernel
theorem dX6_init_10 : decode cX6_init 10 = .ok (.putfield 13, 3) := by decide +kernel
theorem dX6_init_13 : decode cX6_init 13 = .ok (.aload_n 0, 1) := by decide +kernel
theorem dX6_init_14 : decode cX6_init 14 = .ok (.bipush 8, 2) := by decide +kernel
theorem dX6_init_16 : decode cX6_init 16 = .ok (.newarray .int, 2) := by decide +kernel
theorem dX6_init_18 : decode cX6_init 18 = .ok (.putfield 17, 3) := by decide +kernel
theorem dX6_init_21 : decode cX6_init 21 = .ok (.aload_n 0, 1) := by decide +kernel
theorem dX6_init_22 : decode cX6_init 22 = .ok (.bipush 12, 2) := by decide +kernel
theorem dX6_init_24 : decode cX6_init 24 = .ok (.newarray .int, 2) := by decide +kernel
theorem dX6_init_26 : decode cX6_init 26 = .ok (.putfield 21, 3) := by decide +kernel
theorem dX6_init_29 : decode cX6_init 29 = .ok (.iconst 0, 1) := by decide +kernel
theorem dX6_init_30 : decode cX6_init 30 = .ok (.istore_n 1, 1) := by decide +kernel
theorem dX6_init_31 : decode cX6_init 31 = .ok (.iload_n 1, 1) := by decide +kernel
theorem dX6_init_32 : decode cX6_init 32 = .ok (.bipush 10, 2) := by decide +kernel
theorem dX6_init_34 : decode cX6_init 34 = .ok (.if_icmp .ge 22, 3) := by decide +kernel
theorem dX6_init_37 : decode cX6_init 37 = .ok (.aload_n 0, 1) := by decide +kernel
theorem dX6_init_38 : decode cX6_init 38 = .ok (.getfield 13, 3) := by decide +kernel
theorem dX6_init_41 : decode cX6_init 41 = .ok (.iload_n 1, 1) := by decide +kernel
theorem dX6_init_42 : decode cX6_init 42 = .ok (.new 11, 3) := by decide +kernel
theorem dX6_init_45 : decode cX6_init 45 = .ok (.dup, 1) := by decide +kernel
theorem dX6_init_46 : decode cX6_init 46 = .ok (.invokespecial 24, 3) := by decide +kernel
theorem dX6_init_49 : decode cX6_init 49 = .ok (.aastore, 1) := by decide +kernel
theorem dX6_init_50 : decode cX6_init 50 = .ok (.iinc 1 1, 3) := by decide +kernel
theorem dX6_init_53 : decode cX6_init 53 = .ok (.goto (-22), 3) := by decide +kernel
theorem dX6_init_56 : decode cX6_init 56 = .ok (.getstatic 25, 3) := by decide +kernel
theorem dX6_init_59 : decode cX6_init 59 = .ok (.iconst 0, 1) := by decide +kernel
theorem dX6_init_60 : decode cX6_init 60 = .ok (.aload_n 0, 1) := by decide +kernel
theorem dX6_init_61 : decode cX6_init 61 = .ok (.getfield 17, 3) := by decide +kernel
theorem dX6_init_64 : decode cX6_init 64 = .ok (.iconst 0, 1) := by decide +kernel
theorem dX6_init_65 : decode cX6_init 65 = .ok (.bipush 8, 2) := by decide +kernel
theorem dX6_init_67 : decode cX6_init 67 = .ok (.invokestatic 28, 3) := by decide +kernel
theorem dX6_init_70 : decode cX6_init 70 = .ok (.return_, 1) := by decide +kernel
set_option maxRecDepth 20000 in
theorem ggX6_copyFrom_X3_copyFrom : GoodIn wsX6_copyFrom wsX3_copyFrom := goodIn_r _ [14, 15, 16, 17, 18, 5, 6, 7, 19, 34, 35, 36, 37] (by decide +kernel) (by decide +kernel)
set_option maxRecDepth 20000 in
theorem gX6_copyFrom_X3_copyFrom : GoodIn wsX6_copyFrom (wsV RX6 38 RX3 yX3_copyFrom wsX3_copyFrom) := goodIn_app (goodIn_of _ (by decide +kernel)) ggX6_copyFrom_X3_copyFrom
set_option maxRecDepth 20000 in
theorem ggX6_copyFrom_X6_takeProgram : GoodIn wsX6_copyFrom wsX6_takeProgram := goodIn_r _ [24, 25, 26, 27, 28, 9, 8, 29, 30, 31, 32, 33] (by decide +kernel) (by decide +kernel)
set_option maxRecDepth 20000 in
theorem gX6_copyFrom_X6_takeProgram : GoodIn wsX6_copyFrom (wsV RX6 45 RX6 yX6_takeProgram wsX6_takeProgram) := goodIn_app (goodIn_of _ (by decide +kernel)) ggX6_copyFrom_X6_takeProgram
theorem dX6_copyFrom_0 : decode cX6_copyFrom 0 = .ok (.aload_n 0, 1) := by decide +kernel
theorem dX6_copyFrom_1 : decode cX6_copyFrom 1 = .ok (.aload_n 1, 1) := by decide +kernel
theorem dX6_copyFrom_2 : decode cX6_copyFrom 2 = .ok (.getfield 34, 3) := by decide +kernel
theorem dX6_copyFrom_5 : decode cX6_copyFrom 5 = .ok (.putfield 34, 3) := by decide +kernel
theorem dX6_copyFrom_8 : decode cX6_copyFrom 8 = .ok (.iconst 0, 1) := by decide +kernel
theorem dX6_copyFrom_9 : decode cX6_copyFrom 9 = .ok (.istore_n 2, 1) := by decide +kernel
theorem dX6_copyFrom_10 : decode cX6_copyFrom 10 = .ok (.iload_n 2, 1) := by decide +kernel
theorem dX6_copyFrom_11 : decode cX6_copyFrom 11 = .ok (.bipush 10, 2) := by decide +kernel
theorem dX6_copyFrom_13 : decode cX6_copyFrom 13 = .ok (.if_icmp .ge 39, 3) := by decide +kernel
theorem dX6_copyFrom_16 : decode cX6_copyFrom 16 = .ok (.aload_n 1, 1) := by decide +kernel
theorem dX6_copyFrom_17 : decode cX6_copyFrom 17 = .ok (.getfield 13, 3) := by decide +kernel
theorem dX6_copyFrom_20 : decode cX6_copyFrom 20 = .ok (.iload_n 2, 1) := by decide +kernel
theorem dX6_copyFrom_21 : decode cX6_copyFrom 21 = .ok (.aaload, 1) := by decide +kernel
theorem dX6_copyFrom_22 : decode cX6_copyFrom 22 = .ok (.astore_n 3, 1) := by decide +kernel
theorem dX6_copyFrom_23 : decode cX6_copyFrom 23 = .ok (.aload_n 0, 1) := by decide +kernel
theorem dX6_copyFrom_24 : decode cX6_copyFrom 24 = .ok (.getfield 13, 3) := by decide +kernel
theorem dX6_copyFrom_27 : decode cX6_copyFrom 27 = .ok (.iload_n 2, 1) := by decide +kernel
theorem dX6_copyFrom_28 : decode cX6_copyFrom 28 = .ok (.aaload, 1) := by decide +kernel
theorem dX6_copyFrom_29 : decode cX6_copyFrom 29 = .ok (.ifnull 17, 3) := by decide +kernel
theorem dX6_copyFrom_32 : decode cX6_copyFrom 32 = .ok (.aload_n 3, 1) := by decide +kernel
theorem dX6_copyFrom_33 : decode cX6_copyFrom 33 = .ok (.ifnull 13, 3) := by decide +kernel
theorem dX6_copyFrom_36 : decode cX6_copyFrom 36 = .ok (.aload_n 0, 1) := by decide +kernel
theorem dX6_copyFrom_37 : decode cX6_copyFrom 37 = .ok (.getfield 13, 3) := by decide +kernel
theorem dX6_copyFrom_40 : decode cX6_copyFrom 40 = .ok (.iload_n 2, 1) := by decide +kernel
theorem dX6_copyFrom_41 : decode cX6_copyFrom 41 = .ok (.aaload, 1) := by decide +kernel
theorem dX6_copyFrom_42 : decode cX6_copyFrom 42 = .ok (.aload_n 3, 1) := by decide +kernel
theorem dX6_copyFrom_43 : decode cX6_copyFrom 43 = .ok (.invokevirtual 38, 3) := by decide +kernel
theorem dX6_copyFrom_46 : decode cX6_copyFrom 46 = .ok (.iinc 2 1, 3) := by decide +kernel
theorem dX6_copyFrom_49 : decode cX6_copyFrom 49 = .ok (.goto (-39), 3) := by decide +kernel
theorem dX6_copyFrom_52 : decode cX6_copyFrom 52 = .ok (.aload_n 1, 1) := by decide +kernel
theorem dX6_copyFrom_53 : decode cX6_copyFrom 53 = .ok (.getfield 17, 3) := by decide +kernel
theorem dX6_copyFrom_56 : decode cX6_copyFrom 56 = .ok (.iconst 0, 1) := by decide +kernel
theorem dX6_copyFrom_57 : decode cX6_copyFrom 57 = .ok (.aload_n 0, 1) := by decide +kernel
theorem dX6_copyFrom_58 : decode cX6_copyFrom 58 = .ok (.getfield 17, 3) := by decide +kernel
theorem dX6_copyFrom_61 : decode cX6_copyFrom 61 = .ok (.iconst 0, 1) := by decide +kernel
theorem dX6_copyFrom_62 : decode cX6_copyFrom 62 = .ok (.bipush 8, 2) := by decide +kernel
theorem dX6_copyFrom_64 : decode cX6_copyFrom 64 = .ok (.invokestatic 28, 3) := by decide +kernel
theorem dX6_copyFrom_67 : decode cX6_copyFrom 67 = .ok (.aload_n 0, 1) := by decide +kernel
theorem dX6_copyFrom_68 : decode cX6_copyFrom 68 = .ok (.aload_n 1, 1) := by decide +kernel
theorem dX6_copyFrom_69 : decode cX6_copyFrom 69 = .ok (.getfield 21, 3) := by decide +kernel
theorem dX6_copyFrom_72 : decode cX6_copyFrom 72 = .ok (.aload_n 1, 1) := by decide +kernel
theorem dX6_copyFrom_73 : decode cX6_copyFrom 73 = .ok (.getfield 42, 3) := by decide +kernel
theorem dX6_copyFrom_76 : decode cX6_copyFrom 76 = .ok (.invokevirtual 45, 3) := by decide +kernel
theorem dX6_copyFrom_79 : decode cX6_copyFrom 79 = .ok (.return_, 1) := by decide +kernel
set_option maxRecDepth 20000 in
theorem ggX6_addReel_X6_reelNumbered : GoodIn wsX6_addReel wsX6_reelNumbered := goodIn_r _ [7, 1, 8, 16, 17, 18, 19, 20] (by decide +kernel) (by decide +kernel)
set_option maxRecDepth 20000 in
theorem gX6_addReel_X6_reelNumbered : GoodIn wsX6_addReel (wsV RX6 50 RX6 yX6_reelNumbered wsX6_reelNumbered) := goodIn_app (goodIn_of _ (by decide +kernel)) ggX6_addReel_X6_reelNumbered
set_option maxRecDepth 20000 in
theorem ggX6_addReel_X3_renew : GoodIn wsX6_addReel wsX3_renew := goodIn_r _ [13, 14, 15, 21, 22, 23, 24] (by decide +kernel) (by decide +kernel)
set_option maxRecDepth 20000 in
theorem gX6_addReel_X3_renew : GoodIn wsX6_addReel (wsV RX6 54 RX3 yX3_renew wsX3_renew) := goodIn_app (goodIn_of _ (by decide +kernel)) ggX6_addReel_X3_renew
theorem dX6_addReel_0 : decode cX6_addReel 0 = .ok (.aload_n 0, 1) := by decide +kernel
theorem dX6_addReel_1 : decode cX6_addReel 1 = .ok (.getfield 34, 3) := by decide +kernel
theorem dX6_addReel_4 : decode cX6_addReel 4 = .ok (.bipush 10, 2) := by decide +kernel
theorem dX6_addReel_6 : decode cX6_addReel 6 = .ok (.if_icmp .lt 6, 3) := by decide +kernel
theorem dX6_addReel_9 : decode cX6_addReel 9 = .ok (.ldc 49, 2) := by decide +kernel
theorem dX6_addReel_11 : decode cX6_addReel 11 = .ok (.ireturn, 1) := by decide +kernel
theorem dX6_addReel_12 : decode cX6_addReel 12 = .ok (.aload_n 0, 1) := by decide +kernel
theorem dX6_addReel_13 : decode cX6_addReel 13 = .ok (.getfield 34, 3) := by decide +kernel
theorem dX6_addReel_16 : decode cX6_addReel 16 = .ok (.istore_n 2, 1) := by decide +kernel
theorem dX6_addReel_17 : decode cX6_addReel 17 = .ok (.aload_n 0, 1) := by decide +kernel
theorem dX6_addReel_18 : decode cX6_addReel 18 = .ok (.dup, 1) := by decide +kernel
theorem dX6_addReel_19 : decode cX6_addReel 19 = .ok (.getfield 34, 3) := by decide +kernel
theorem dX6_addReel_22 : decode cX6_addReel 22 = .ok (.iconst 1, 1) := by decide +kernel
theorem dX6_addReel_23 : decode cX6_addReel 23 = .ok (.iadd, 1) := by decide +kernel
theorem dX6_addReel_24 : decode cX6_addReel 24 = .ok (.putfield 34, 3) := by decide +kernel
theorem dX6_addReel_27 : decode cX6_addReel 27 = .ok (.aload_n 0, 1) := by decide +kernel
theorem dX6_addReel_28 : decode cX6_addReel 28 = .ok (.iload_n 2, 1) := by decide +kernel
theorem dX6_addReel_29 : decode cX6_addReel 29 = .ok (.invokevirtual 50, 3) := by decide +kernel
theorem dX6_addReel_32 : decode cX6_addReel 32 = .ok (.astore_n 3, 1) := by decide +kernel
theorem dX6_addReel_33 : decode cX6_addReel 33 = .ok (.aload_n 3, 1) := by decide +kernel
theorem dX6_addReel_34 : decode cX6_addReel 34 = .ok (.ifnull 8, 3) := by decide +kernel
theorem dX6_addReel_37 : decode cX6_addReel 37 = .ok (.aload_n 3, 1) := by decide +kernel
theorem dX6_addReel_38 : decode cX6_addReel 38 = .ok (.iload_n 1, 1) := by decide +kernel
theorem dX6_addReel_39 : decode cX6_addReel 39 = .ok (.invokevirtual 54, 3) := by decide +kernel
theorem dX6_addReel_42 : decode cX6_addReel 42 = .ok (.iload_n 2, 1) := by decide +kernel
theorem dX6_addReel_43 : decode cX6_addReel 43 = .ok (.ireturn, 1) := by decide +kernel
theorem dX6_reelNumbered_0 : decode cX6_reelNumbered 0 = .ok (.iload_n 1, 1) := by decide +kernel
theorem dX6_reelNumbered_1 : decode cX6_reelNumbered 1 = .ok (.ifCond .lt 26, 3) := by decide +kernel
theorem dX6_reelNumbered_4 : decode cX6_reelNumbered 4 = .ok (.iload_n 1, 1) := by decide +kernel
theorem dX6_reelNumbered_5 : decode cX6_reelNumbered 5 = .ok (.aload_n 0, 1) := by decide +kernel
theorem dX6_reelNumbered_6 : decode cX6_reelNumbered 6 = .ok (.getfield 34, 3) := by decide +kernel
theorem dX6_reelNumbered_9 : decode cX6_reelNumbered 9 = .ok (.if_icmp .ge 18, 3) := by decide +kernel
theorem dX6_reelNumbered_12 : decode cX6_reelNumbered 12 = .ok (.iload_n 1, 1) := by decide +kernel
theorem dX6_reelNumbered_13 : decode cX6_reelNumbered 13 = .ok (.bipush 10, 2) := by decide +kernel
theorem dX6_reelNumbered_15 : decode cX6_reelNumbered 15 = .ok (.if_icmp .ge 12, 3) := by decide +kernel
theorem dX6_reelNumbered_18 : decode cX6_reelNumbered 18 = .ok (.aload_n 0, 1) := by decide +kernel
theorem dX6_reelNumbered_19 : decode cX6_reelNumbered 19 = .ok (.getfield 13, 3) := by decide +kernel
theorem dX6_reelNumbered_22 : decode cX6_reelNumbered 22 = .ok (.iload_n 1, 1) := by decide +kernel
theorem dX6_reelNumbered_23 : decode cX6_reelNumbered 23 = .ok (.aaload, 1) := by decide +kernel
theorem dX6_reelNumbered_24 : decode cX6_reelNumbered 24 = .ok (.goto 4, 3) := by decide +kernel
theorem dX6_reelNumbered_27 : decode cX6_reelNumbered 27 = .ok (.aconst_null, 1) := by decide +kernel
theorem dX6_reelNumbered_28 : decode cX6_reelNumbered 28 = .ok (.areturn, 1) := by decide +kernel
theorem dX6_isSettingValue_0 : decode cX6_isSettingValue 0 = .ok (.iload_n 0, 1) := by decide +kernel
theorem dX6_isSettingValue_1 : decode cX6_isSettingValue 1 = .ok (.ifCond .lt 31, 3) := by decide +kernel
theorem dX6_isSettingValue_4 : decode cX6_isSettingValue 4 = .ok (.iload_n 0, 1) := by decide +kernel
theorem dX6_isSettingValue_5 : decode cX6_isSettingValue 5 = .ok (.bipush 8, 2) := by decide +kernel
theorem dX6_isSettingValue_7 : decode cX6_isSettingValue 7 = .ok (.if_icmp .ge 25, 3) := by decide +kernel
theorem dX6_isSettingValue_10 : decode cX6_isSettingValue 10 = .ok (.iload_n 1, 1) := by decide +kernel
theorem dX6_isSettingValue_11 : decode cX6_isSettingValue 11 = .ok (.getstatic 58, 3) := by decide +kernel
theorem dX6_isSettingValue_14 : decode cX6_isSettingValue 14 = .ok (.iload_n 0, 1) := by decide +kernel
theorem dX6_isSettingValue_15 : decode cX6_isSettingValue 15 = .ok (.iaload, 1) := by decide +kernel
theorem dX6_isSettingValue_16 : decode cX6_isSettingValue 16 = .ok (.if_icmp .lt 16, 3) := by decide +kernel
theorem dX6_isSettingValue_19 : decode cX6_isSettingValue 19 = .ok (.iload_n 1, 1) := by decide +kernel
theorem dX6_isSettingValue_20 : decode cX6_isSettingValue 20 = .ok (.getstatic 61, 3) := by decide +kernel
theorem dX6_isSettingValue_23 : decode cX6_isSettingValue 23 = .ok (.iload_n 0, 1) := by decide +kernel
theorem dX6_isSettingValue_24 : decode cX6_isSettingValue 24 = .ok (.iaload, 1) := by decide +kernel
theorem dX6_isSettingValue_25 : decode cX6_isSettingValue 25 = .ok (.if_icmp .gt 7, 3) := by decide +kernel
theorem dX6_isSettingValue_28 : decode cX6_isSettingValue 28 = .ok (.iconst 1, 1) := by decide +kernel
theorem dX6_isSettingValue_29 : decode cX6_isSettingValue 29 = .ok (.goto 4, 3) := by decide +kernel
theorem dX6_isSettingValue_32 : decode cX6_isSettingValue 32 = .ok (.iconst 0, 1) := by decide +kernel
theorem dX6_isSettingValue_33 : decode cX6_isSettingValue 33 = .ok (.ireturn, 1) := by decide +kernel
theorem dX6_settingNumbered_0 : decode cX6_settingNumbered 0 = .ok (.iload_n 1, 1) := by decide +kernel
theorem dX6_settingNumbered_1 : decode cX6_settingNumbered 1 = .ok (.ifCond .lt 18, 3) := by decide +kernel
theorem dX6_settingNumbered_4 : decode cX6_settingNumbered 4 = .ok (.iload_n 1, 1) := by decide +kernel
theorem dX6_settingNumbered_5 : decode cX6_settingNumbered 5 = .ok (.bipush 8, 2) := by decide +kernel
theorem dX6_settingNumbered_7 : decode cX6_settingNumbered 7 = .ok (.if_icmp .ge 12, 3) := by decide +kernel
theorem dX6_settingNumbered_10 : decode cX6_settingNumbered 10 = .ok (.aload_n 0, 1) := by decide +kernel
theorem dX6_settingNumbered_11 : decode cX6_settingNumbered 11 = .ok (.getfield 17, 3) := by decide +kernel
theorem dX6_settingNumbered_14 : decode cX6_settingNumbered 14 = .ok (.iload_n 1, 1) := by decide +kernel
theorem dX6_settingNumbered_15 : decode cX6_settingNumbered 15 = .ok (.iaload, 1) := by decide +kernel
theorem dX6_settingNumbered_16 : decode cX6_settingNumbered 16 = .ok (.goto 5, 3) := by decide +kernel
theorem dX6_settingNumbered_19 : decode cX6_settingNumbered 19 = .ok (.ldc 64, 2) := by decide +kernel
theorem dX6_settingNumbered_21 : decode cX6_settingNumbered 21 = .ok (.ireturn, 1) := by decide +kernel
set_option maxRecDepth 20000 in
theorem ggX6_changeSetting_X6_settingNumbered : GoodIn wsX6_changeSetting wsX6_settingNumbered := goodIn_r _ [6, 1, 7, 13, 14, 15, 16, 17] (by decide +kernel) (by decide +kernel)
set_option maxRecDepth 20000 in
theorem gX6_changeSetting_X6_settingNumbered : GoodIn wsX6_changeSetting (wsV RX6 65 RX6 yX6_settingNumbered wsX6_settingNumbered) := goodIn_app (goodIn_of _ (by decide +kernel)) ggX6_changeSetting_X6_settingNumbered
set_option maxRecDepth 20000 in
theorem ggX6_changeSetting_X6_isSettingValue : GoodIn wsX6_changeSetting wsX6_isSettingValue := goodIn_r _ [10, 11, 12] (by decide +kernel) (by decide +kernel)
set_option maxRecDepth 20000 in
theorem gX6_changeSetting_X6_isSettingValue : GoodIn wsX6_changeSetting (va_wsS RX6 69 yX6_isSettingValue wsX6_isSettingValue) := goodIn_app (goodIn_of _ (by decide +kernel)) ggX6_changeSetting_X6_isSettingValue
theorem dX6_changeSetting_0 : decode cX6_changeSetting 0 = .ok (.aload_n 0, 1) := by decide +kernel
theorem dX6_changeSetting_1 : decode cX6_changeSetting 1 = .ok (.iload_n 1, 1) := by decide +kernel
theorem dX6_changeSetting_2 : decode cX6_changeSetting 2 = .ok (.invokevirtual 65, 3) := by decide +kernel
theorem dX6_changeSetting_5 : decode cX6_changeSetting 5 = .ok (.istore_n 3, 1) := by decide +kernel
theorem dX6_changeSetting_6 : decode cX6_changeSetting 6 = .ok (.iload_n 1, 1) := by decide +kernel
theorem dX6_changeSetting_7 : decode cX6_changeSetting 7 = .ok (.iload_n 2, 1) := by decide +kernel
theorem dX6_changeSetting_8 : decode cX6_changeSetting 8 = .ok (.invokestatic 69, 3) := by decide +kernel
theorem dX6_changeSetting_11 : decode cX6_changeSetting 11 = .ok (.ifCond .eq 10, 3) := by decide +kernel
theorem dX6_changeSetting_14 : decode cX6_changeSetting 14 = .ok (.aload_n 0, 1) := by decide +kernel
theorem dX6_changeSetting_15 : decode cX6_changeSetting 15 = .ok (.getfield 17, 3) := by decide +kernel
theorem dX6_changeSetting_18 : decode cX6_changeSetting 18 = .ok (.iload_n 1, 1) := by decide +kernel
theorem dX6_changeSetting_19 : decode cX6_changeSetting 19 = .ok (.iload_n 2, 1) := by decide +kernel
theorem dX6_changeSetting_20 : decode cX6_changeSetting 20 = .ok (.iastore, 1) := by decide +kernel
theorem dX6_changeSetting_21 : decode cX6_changeSetting 21 = .ok (.iload_n 3, 1) := by decide +kernel
theorem dX6_changeSetting_22 : decode cX6_changeSetting 22 = .ok (.ireturn, 1) := by decide +kernel
theorem dX6_takeProgram_0 : decode cX6_takeProgram 0 = .ok (.aload_n 0, 1) := by decide +kernel
theorem dX6_takeProgram_1 : decode cX6_takeProgram 1 = .ok (.iload_n 2, 1) := by decide +kernel
theorem dX6_takeProgram_2 : decode cX6_takeProgram 2 = .ok (.bipush 12, 2) := by decide +kernel
theorem dX6_takeProgram_4 : decode cX6_takeProgram 4 = .ok (.invokestatic 73, 3) := by decide +kernel
theorem dX6_takeProgram_7 : decode cX6_takeProgram 7 = .ok (.putfield 42, 3) := by decide +kernel
theorem dX6_takeProgram_10 : decode cX6_takeProgram 10 = .ok (.iconst 0, 1) := by decide +kernel
theorem dX6_takeProgram_11 : decode cX6_takeProgram 11 = .ok (.istore_n 3, 1) := by decide +kernel
theorem dX6_takeProgram_12 : decode cX6_takeProgram 12 = .ok (.iload_n 3, 1) := by decide +kernel
theorem dX6_takeProgram_13 : decode cX6_takeProgram 13 = .ok (.aload_n 0, 1) := by decide +kernel
theorem dX6_takeProgram_14 : decode cX6_takeProgram 14 = .ok (.getfield 42, 3) := by decide +kernel
theorem dX6_takeProgram_17 : decode cX6_takeProgram 17 = .ok (.if_icmp .ge 24, 3) := by decide +kernel
theorem dX6_takeProgram_20 : decode cX6_takeProgram 20 = .ok (.iload_n 3, 1) := by decide +kernel
theorem dX6_takeProgram_21 : decode cX6_takeProgram 21 = .ok (.aload_n 1, 1) := by decide +kernel
theorem dX6_takeProgram_22 : decode cX6_takeProgram 22 = .ok (.arraylength, 1) := by decide +kernel
theorem dX6_takeProgram_23 : decode cX6_takeProgram 23 = .ok (.if_icmp .ge 18, 3) := by decide +kernel
theorem dX6_takeProgram_26 : decode cX6_takeProgram 26 = .ok (.aload_n 0, 1) := by decide +kernel
theorem dX6_takeProgram_27 : decode cX6_takeProgram 27 = .ok (.getfield 21, 3) := by decide +kernel
theorem dX6_takeProgram_30 : decode cX6_takeProgram 30 = .ok (.iload_n 3, 1) := by decide +kernel
theorem dX6_takeProgram_31 : decode cX6_takeProgram 31 = .ok (.aload_n 1, 1) := by decide +kernel
theorem dX6_takeProgram_32 : decode cX6_takeProgram 32 = .ok (.iload_n 3, 1) := by decide +kernel
theorem dX6_takeProgram_33 : decode cX6_takeProgram 33 = .ok (.iaload, 1) := by decide +kernel
theorem dX6_takeProgram_34 : decode cX6_takeProgram 34 = .ok (.iastore, 1) := by decide +kernel
theorem dX6_takeProgram_35 : decode cX6_takeProgram 35 = .ok (.iinc 3 1, 3) := by decide +kernel
theorem dX6_takeProgram_38 : decode cX6_takeProgram 38 = .ok (.goto (-26), 3) := by decide +kernel
theorem dX6_takeProgram_41 : decode cX6_takeProgram 41 = .ok (.return_, 1) := by decide +kernel
theorem dX6_numberAtPlace_0 : decode cX6_numberAtPlace 0 = .ok (.iload_n 1, 1) := by decide +kernel
theorem dX6_numberAtPlace_1 : decode cX6_numberAtPlace 1 = .ok (.ifCond .lt 26, 3) := by decide +kernel
theorem dX6_numberAtPlace_4 : decode cX6_numberAtPlace 4 = .ok (.iload_n 1, 1) := by decide +kernel
theorem dX6_numberAtPlace_5 : decode cX6_numberAtPlace 5 = .ok (.aload_n 0, 1) := by decide +kernel
theorem dX6_numberAtPlace_6 : decode cX6_numberAtPlace 6 = .ok (.getfield 42, 3) := by decide +kernel
theorem dX6_numberAtPlace_9 : decode cX6_numberAtPlace 9 = .ok (.if_icmp .ge 18, 3) := by decide +kernel
theorem dX6_numberAtPlace_12 : decode cX6_numberAtPlace 12 = .ok (.iload_n 1, 1) := by decide +kernel
theorem dX6_numberAtPlace_13 : decode cX6_numberAtPlace 13 = .ok (.bipush 12, 2) := by decide +kernel
theorem dX6_numberAtPlace_15 : decode cX6_numberAtPlace 15 = .ok (.if_icmp .ge 12, 3) := by decide +kernel
theorem dX6_numberAtPlace_18 : decode cX6_numberAtPlace 18 = .ok (.aload_n 0, 1) := by decide +kernel
theorem dX6_numberAtPlace_19 : decode cX6_numberAtPlace 19 = .ok (.getfield 21, 3) := by decide +kernel
theorem dX6_numberAtPlace_22 : decode cX6_numberAtPlace 22 = .ok (.iload_n 1, 1) := by decide +kernel
theorem dX6_numberAtPlace_23 : decode cX6_numberAtPlace 23 = .ok (.iaload, 1) := by decide +kernel
theorem dX6_numberAtPlace_24 : decode cX6_numberAtPlace 24 = .ok (.goto 5, 3) := by decide +kernel
theorem dX6_numberAtPlace_27 : decode cX6_numberAtPlace 27 = .ok (.ldc 64, 2) := by decide +kernel
theorem dX6_numberAtPlace_29 : decode cX6_numberAtPlace 29 = .ok (.ireturn, 1) := by decide +kernel
set_option maxRecDepth 20000 in
theorem ggX6_reelAtPlace_X6_numberAtPlace : GoodIn wsX6_reelAtPlace wsX6_numberAtPlace := goodIn_r _ [5, 6, 7, 8, 15, 16, 17, 18, 19] (by decide +kernel) (by decide +kernel)
set_option maxRecDepth 20000 in
theorem gX6_reelAtPlace_X6_numberAtPlace : GoodIn wsX6_reelAtPlace (wsV RX6 79 RX6 yX6_numberAtPlace wsX6_numberAtPlace) := goodIn_app (goodIn_of _ (by decide +kernel)) ggX6_reelAtPlace_X6_numberAtPlace
set_option maxRecDepth 20000 in
theorem ggX6_reelAtPlace_X6_reelNumbered : GoodIn wsX6_reelAtPlace wsX6_reelNumbered := goodIn_r _ [12, 13, 14, 15, 16, 17, 18, 19] (by decide +kernel) (by decide +kernel)
set_option maxRecDepth 20000 in
theorem gX6_reelAtPlace_X6_reelNumbered : GoodIn wsX6_reelAtPlace (wsV RX6 50 RX6 yX6_reelNumbered wsX6_reelNumbered) := goodIn_app (goodIn_of _ (by decide +kernel)) ggX6_reelAtPlace_X6_reelNumbered
theorem dX6_reelAtPlace_0 : decode cX6_reelAtPlace 0 = .ok (.aload_n 0, 1) := by decide +kernel
theorem dX6_reelAtPlace_1 : decode cX6_reelAtPlace 1 = .ok (.aload_n 0, 1) := by decide +kernel
theorem dX6_reelAtPlace_2 : decode cX6_reelAtPlace 2 = .ok (.iload_n 1, 1) := by decide +kernel
theorem dX6_reelAtPlace_3 : decode cX6_reelAtPlace 3 = .ok (.invokevirtual 79, 3) := by decide +kernel
theorem dX6_reelAtPlace_6 : decode cX6_reelAtPlace 6 = .ok (.invokevirtual 50, 3) := by decide +kernel
theorem dX6_reelAtPlace_9 : decode cX6_reelAtPlace 9 = .ok (.areturn, 1) := by decide +kernel
set_option maxRecDepth 20000 in
theorem ggX6_clearingTime_X6_reelAtPlace : GoodIn wsX6_clearingTime wsX6_reelAtPlace := goodIn_r _ [7, 8, 9, 10, 6, 11, 12, 13, 14, 15, 16, 17, 18, 19, 20, 21, 22, 23, 24, 25] (by decide +kernel) (by decide +kernel)
set_option maxRecDepth 20000 in
theorem gX6_clearingTime_X6_reelAtPlace : GoodIn wsX6_clearingTime (wsV RX6 82 RX6 yX6_reelAtPlace wsX6_reelAtPlace) := goodIn_app (goodIn_of _ (by decide +kernel)) ggX6_clearingTime_X6_reelAtPlace
theorem dX6_clearingTime_0 : decode cX6_clearingTime 0 = .ok (.aload_n 0, 1) := by decide +kernel
theorem dX6_clearingTime_1 : decode cX6_clearingTime 1 = .ok (.iload_n 1, 1) := by decide +kernel
theorem dX6_clearingTime_2 : decode cX6_clearingTime 2 = .ok (.invokevirtual 82, 3) := by decide +kernel
theorem dX6_clearingTime_5 : decode cX6_clearingTime 5 = .ok (.astore_n 2, 1) := by decide +kernel
theorem dX6_clearingTime_6 : decode cX6_clearingTime 6 = .ok (.aload_n 0, 1) := by decide +kernel
theorem dX6_clearingTime_7 : decode cX6_clearingTime 7 = .ok (.getfield 17, 3) := by decide +kernel
theorem dX6_clearingTime_10 : decode cX6_clearingTime 10 = .ok (.iconst 4, 1) := by decide +kernel
theorem dX6_clearingTime_11 : decode cX6_clearingTime 11 = .ok (.iaload, 1) := by decide +kernel
theorem dX6_clearingTime_12 : decode cX6_clearingTime 12 = .ok (.istore_n 3, 1) := by decide +kernel
theorem dX6_clearingTime_13 : decode cX6_clearingTime 13 = .ok (.aload_n 2, 1) := by decide +kernel
theorem dX6_clearingTime_14 : decode cX6_clearingTime 14 = .ok (.ifnull 8, 3) := by decide +kernel
theorem dX6_clearingTime_17 : decode cX6_clearingTime 17 = .ok (.iload_n 3, 1) := by decide +kernel
theorem dX6_clearingTime_18 : decode cX6_clearingTime 18 = .ok (.iconst 1, 1) := by decide +kernel
theorem dX6_clearingTime_19 : decode cX6_clearingTime 19 = .ok (.if_icmp .ge 10, 3) := by decide +kernel
theorem dX6_clearingTime_22 : decode cX6_clearingTime 22 = .ok (.aload_n 0, 1) := by decide +kernel
theorem dX6_clearingTime_23 : decode cX6_clearingTime 23 = .ok (.getfield 17, 3) := by decide +kernel
theorem dX6_clearingTime_26 : decode cX6_clearingTime 26 = .ok (.iconst 3, 1) := by decide +kernel
theorem dX6_clearingTime_27 : decode cX6_clearingTime 27 = .ok (.iaload, 1) := by decide +kernel
theorem dX6_clearingTime_28 : decode cX6_clearingTime 28 = .ok (.ireturn, 1) := by decide +kernel
theorem dX6_clearingTime_29 : decode cX6_clearingTime 29 = .ok (.aload_n 0, 1) := by decide +kernel
theorem dX6_clearingTime_30 : decode cX6_clearingTime 30 = .ok (.getfield 17, 3) := by decide +kernel
theorem dX6_clearingTime_33 : decode cX6_clearingTime 33 = .ok (.iconst 3, 1) := by decide +kernel
theorem dX6_clearingTime_34 : decode cX6_clearingTime 34 = .ok (.iaload, 1) := by decide +kernel
theorem dX6_clearingTime_35 : decode cX6_clearingTime 35 = .ok (.aload_n 2, 1) := by decide +kernel
theorem dX6_clearingTime_36 : decode cX6_clearingTime 36 = .ok (.getfield 85, 3) := by decide +kernel
theorem dX6_clearingTime_39 : decode cX6_clearingTime 39 = .ok (.iload_n 3, 1) := by decide +kernel
theorem dX6_clearingTime_40 : decode cX6_clearingTime 40 = .ok (.iadd, 1) := by decide +kernel
theorem dX6_clearingTime_41 : decode cX6_clearingTime 41 = .ok (.iconst 1, 1) := by decide +kernel
theorem dX6_clearingTime_42 : decode cX6_clearingTime 42 = .ok (.isub, 1) := by decide +kernel
theorem dX6_clearingTime_43 : decode cX6_clearingTime 43 = .ok (.iload_n 3, 1) := by decide +kernel
theorem dX6_clearingTime_44 : decode cX6_clearingTime 44 = .ok (.idiv, 1) := by decide +kernel
theorem dX6_clearingTime_45 : decode cX6_clearingTime 45 = .ok (.iadd, 1) := by decide +kernel
theorem dX6_clearingTime_46 : decode cX6_clearingTime 46 = .ok (.ireturn, 1) := by decide +kernel
end
section
/-! X0_dropAll -/
abbrev rmX0_dropAll : Room := { frames := 0, cells := 0, slots := 0, locals := 0 }
theorem dyX0_dropAll : yX0_dropAll.cls = RX0 ∧ yX0_dropAll.cls ≠ "java/lang/invoke/MethodHandle" ∧ yX0_dropAll.cls ≠ "java/lang/invoke/VarHandle" ∧ (parseMethodDescriptor yX0_dropAll.desc).map (fun d => d.parameters.length) = some 0 := ⟨rfl, by decide +kernel, by decide +kernel, by decide +kernel⟩
theorem qX0_dropAll_1 : Cond.fieldLink RX0 18 "ReelChanger$Operator" "ticksLeft" "I" ∈ wsX0_dropAll := List.mem_of_getElem? (i := 1) (by decide +kernel)
theorem nX0_dropAll_X0 : ∀ w ∈ wsX00, w ∈ wsX0_dropAll := fun w h => List.mem_cons_of_mem _ (List.mem_append_right _ (h))
theorem qX0_dropAll_2 : Cond.fieldLink RX0 22 "ReelChanger$Operator" "rowCount" "I" ∈ wsX0_dropAll := List.mem_of_getElem? (i := 2) (by decide +kernel)
def wX0_dropAll (G : rc_G) (a0 : Nat) (I : rc_M) (post : rc_M → Prop) : Prop :=
  ∀ I1, I1 = rc_s I a0 0 0 → ∀ I2, I2 = rc_s I1 a0 1 0 → post I2
set_option maxRecDepth 100000 in
set_option maxHeartbeats 4000000 in
theorem gX0_dropAll_0 {p : Program} {l : Launch} {e : Env} {s : State} {m : MethodId} {below : List Frame} {meth : Method} {c : Code} {G : rc_G} {a0 : Nat} {I : rc_M} {post : rc_M → Prop}  (X : rc_X p s m ([.ref a0] : List Value).toArray meth c cX0_dropAll 1 wsX0_dropAll RX0 G (rc_A G)) (hr : meth.sig.returnType = none) (T0 : kX0 G a0)  (h : wX0_dropAll G a0 I post) : rc_g p l e rmX0_dropAll s m ([.ref a0] : List Value).toArray below meth c 0 0 (MQ below (rc_QV G post) ([.ref a0] : List Value).toArray s 0 0 (rc_A G)) 1 G (rc_A G) 0 [(0, .ref a0)] [] I := by
  unfold wX0_dropAll at h
  refine rc_aload_n X dX0_dropAll_0 rfl 0 rfl ?_
  refine rc_iconst X dX0_dropAll_1 ?_
  refine pfX0_ticksLeft X T0.1 nX0_dropAll_X0 qX0_dropAll_1 dX0_dropAll_2 (fun I1 e1 => ?_)
  have h := h I1 e1
  refine rc_aload_n X dX0_dropAll_5 rfl 0 rfl ?_
  refine rc_iconst X dX0_dropAll_6 ?_
  refine pfX0_rowCount X T0.1 nX0_dropAll_X0 qX0_dropAll_2 dX0_dropAll_7 (fun I2 e2 => ?_)
  have h := h I2 e2
  exact rc_vret X hr dX0_dropAll_10 h
theorem mX0_dropAll {l : Launch} {G : rc_G} {a0 : Nat} {I : rc_M} {post : rc_M → Prop} (T0 : kX0 G a0) (h : wX0_dropAll G a0 I post) : rc_CV l yX0_dropAll wsX0_dropAll rmX0_dropAll G [.ref a0] I post :=
  rc_body (by decide +kernel) rfl rfl (Nat.le_of_ble_eq_true rfl) rfl (fun p e s m below meth c X hr => gX0_dropAll_0 X hr T0 h)
/-! X0_isWorking -/
abbrev rmX0_isWorking : Room := { frames := 0, cells := 0, slots := 0, locals := 0 }
theorem dyX0_isWorking : yX0_isWorking.cls = RX0 ∧ yX0_isWorking.cls ≠ "java/lang/invoke/MethodHandle" ∧ yX0_isWorking.cls ≠ "java/lang/invoke/VarHandle" ∧ (parseMethodDescriptor yX0_isWorking.desc).map (fun d => d.parameters.length) = some 0 := ⟨rfl, by decide +kernel, by decide +kernel, by decide +kernel⟩
theorem qX0_isWorking_1 : Cond.fieldLink RX0 18 "ReelChanger$Operator" "ticksLeft" "I" ∈ wsX0_isWorking := List.mem_of_getElem? (i := 1) (by decide +kernel)
theorem nX0_isWorking_X0 : ∀ w ∈ wsX00, w ∈ wsX0_isWorking := fun w h => List.mem_cons_of_mem _ (List.mem_append_right _ (h))
def wX0_isWorking (G : rc_G) (a0 : Nat) (I : rc_M) (post : Int → rc_M → Prop) : Prop :=
  rc_R (I a0 0) ∧ (((I a0 0) ≤ 0 → post 0 I) ∧ (¬ (I a0 0) ≤ 0 → post 1 I))
set_option maxRecDepth 100000 in
set_option maxHeartbeats 4000000 in
theorem gX0_isWorking_0 {p : Program} {l : Launch} {e : Env} {s : State} {m : MethodId} {below : List Frame} {meth : Method} {c : Code} {G : rc_G} {a0 : Nat} {I : rc_M} {post : Int → rc_M → Prop}  (X : rc_X p s m ([.ref a0] : List Value).toArray meth c cX0_isWorking 1 wsX0_isWorking RX0 G (rc_A G)) (hr : meth.sig.returnType = some .boolean) (T0 : kX0 G a0)  (h : wX0_isWorking G a0 I post) : rc_g p l e rmX0_isWorking s m ([.ref a0] : List Value).toArray below meth c 0 0 (MQ below (rc_QI G post) ([.ref a0] : List Value).toArray s 0 0 (rc_A G)) 1 G (rc_A G) 0 [(0, .ref a0)] [] I := by
  unfold wX0_isWorking at h
  refine rc_aload_n X dX0_isWorking_0 rfl 0 rfl ?_
  refine gfX0_ticksLeft X T0.1 nX0_isWorking_X0 qX0_isWorking_1 dX0_isWorking_1 ?_
  obtain ⟨c1, h⟩ := h
  refine rc_if_le X 11 dX0_isWorking_4 (by decide) c1 (fun c2 => ?_) (fun c2 => ?_)
  · have h := h.1 c2
    refine rc_iconst X dX0_isWorking_11 ?_
    exact rc_zret X hr dX0_isWorking_12 (Or.inl rfl) h
  · have h := h.2 c2
    refine rc_iconst X dX0_isWorking_7 ?_
    refine rc_goto X 12 dX0_isWorking_8 (by decide) ?_
    exact rc_zret X hr dX0_isWorking_12 (Or.inr rfl) h
theorem mX0_isWorking {l : Launch} {G : rc_G} {a0 : Nat} {I : rc_M} {post : Int → rc_M → Prop} (T0 : kX0 G a0) (h : wX0_isWorking G a0 I post) : rc_CI l yX0_isWorking wsX0_isWorking rmX0_isWorking G [.ref a0] I post :=
  rc_body (by decide +kernel) rfl rfl (Nat.le_of_ble_eq_true rfl) rfl (fun p e s m below meth c X hr => gX0_isWorking_0 X hr T0 h)
/-! X0_hasTask -/
abbrev rmX0_hasTask : Room := { frames := 0, cells := 0, slots := 0, locals := 0 }
theorem dyX0_hasTask : yX0_hasTask.cls = RX0 ∧ yX0_hasTask.cls ≠ "java/lang/invoke/MethodHandle" ∧ yX0_hasTask.cls ≠ "java/lang/invoke/VarHandle" ∧ (parseMethodDescriptor yX0_hasTask.desc).map (fun d => d.parameters.length) = some 1 := ⟨rfl, by decide +kernel, by decide +kernel, by decide +kernel⟩
theorem qX0_hasTask_2 : Cond.fieldLink RX0 22 "ReelChanger$Operator" "rowCount" "I" ∈ wsX0_hasTask := List.mem_of_getElem? (i := 2) (by decide +kernel)
theorem nX0_hasTask_X0 : ∀ w ∈ wsX00, w ∈ wsX0_hasTask := fun w h => List.mem_cons_of_mem _ (List.mem_append_right _ (h))
theorem qX0_hasTask_1 : Cond.fieldLink RX0 18 "ReelChanger$Operator" "ticksLeft" "I" ∈ wsX0_hasTask := List.mem_of_getElem? (i := 1) (by decide +kernel)
def wX0_hasTask (G : rc_G) (a0 : Nat) (a1 : Int) (I : rc_M) (post : Int → rc_M → Prop) : Prop :=
  rc_R a1 ∧ ((¬ a1 = 0 → rc_R a1 ∧ ((a1 ≤ 0 → post 0 I) ∧ (¬ a1 ≤ 0 → rc_R a1 ∧ (rc_R (I a0 1) ∧ (((I a0 1) < a1 → post 0 I) ∧ (¬ (I a0 1) < a1 → rc_R a1 ∧ ((8 < a1 → post 0 I) ∧ (¬ 8 < a1 → post 1 I)))))))) ∧ (a1 = 0 → rc_R (I a0 0) ∧ (((I a0 0) ≤ 0 → post 0 I) ∧ (¬ (I a0 0) ≤ 0 → post 1 I))))
set_option maxRecDepth 100000 in
set_option maxHeartbeats 4000000 in
theorem gX0_hasTask_0 {p : Program} {l : Launch} {e : Env} {s : State} {m : MethodId} {below : List Frame} {meth : Method} {c : Code} {G : rc_G} {a0 : Nat} {a1 : Int} {I : rc_M} {post : Int → rc_M → Prop}  (X : rc_X p s m ([.ref a0, .int (rc_o a1)] : List Value).toArray meth c cX0_hasTask 2 wsX0_hasTask RX0 G (rc_A G)) (hr : meth.sig.returnType = some .boolean) (T0 : kX0 G a0)  (h : wX0_hasTask G a0 a1 I post) : rc_g p l e rmX0_hasTask s m ([.ref a0, .int (rc_o a1)] : List Value).toArray below meth c 0 0 (MQ below (rc_QI G post) ([.ref a0, .int (rc_o a1)] : List Value).toArray s 0 0 (rc_A G)) 2 G (rc_A G) 0 [(0, .ref a0), (1, .int (rc_o a1))] [] I := by
  unfold wX0_hasTask at h
  refine rc_iload_n X dX0_hasTask_0 rfl 1 rfl ?_
  obtain ⟨c1, h⟩ := h
  refine rc_if_ne X 19 dX0_hasTask_1 (by decide) c1 (fun c2 => ?_) (fun c2 => ?_)
  · have h := h.1 c2
    refine rc_iload_n X dX0_hasTask_19 rfl 1 rfl ?_
    obtain ⟨c3, h⟩ := h
    refine rc_if_le X 41 dX0_hasTask_20 (by decide) c3 (fun c4 => ?_) (fun c4 => ?_)
    · have h := h.1 c4
      refine rc_iconst X dX0_hasTask_41 ?_
      exact rc_zret X hr dX0_hasTask_42 (Or.inl rfl) h
    · have h := h.2 c4
      refine rc_iload_n X dX0_hasTask_23 rfl 1 rfl ?_
      refine rc_aload_n X dX0_hasTask_24 rfl 0 rfl ?_
      refine gfX0_rowCount X T0.1 nX0_hasTask_X0 qX0_hasTask_2 dX0_hasTask_25 ?_
      obtain ⟨c5, h⟩ := h
      obtain ⟨c6, h⟩ := h
      refine rc_ic_gt X 41 dX0_hasTask_28 (by decide) c5 c6 (fun c7 => ?_) (fun c7 => ?_)
      · have h := h.1 c7
        refine rc_iconst X dX0_hasTask_41 ?_
        exact rc_zret X hr dX0_hasTask_42 (Or.inl rfl) h
      · have h := h.2 c7
        refine rc_iload_n X dX0_hasTask_31 rfl 1 rfl ?_
        refine rc_bipush X dX0_hasTask_32 (rc_b8 _ ⟨by decide, by decide⟩) ?_
        obtain ⟨c8, h⟩ := h
        refine rc_ic_gt X 41 dX0_hasTask_34 (by decide) c8 ⟨by decide, by decide⟩ (fun c9 => ?_) (fun c9 => ?_)
        · have h := h.1 c9
          refine rc_iconst X dX0_hasTask_41 ?_
          exact rc_zret X hr dX0_hasTask_42 (Or.inl rfl) h
        · have h := h.2 c9
          refine rc_iconst X dX0_hasTask_37 ?_
          refine rc_goto X 42 dX0_hasTask_38 (by decide) ?_
          exact rc_zret X hr dX0_hasTask_42 (Or.inr rfl) h
  · have h := h.2 c2
    refine rc_aload_n X dX0_hasTask_4 rfl 0 rfl ?_
    refine gfX0_ticksLeft X T0.1 nX0_hasTask_X0 qX0_hasTask_1 dX0_hasTask_5 ?_
    obtain ⟨c10, h⟩ := h
    refine rc_if_le X 15 dX0_hasTask_8 (by decide) c10 (fun c11 => ?_) (fun c11 => ?_)
    · have h := h.1 c11
      refine rc_iconst X dX0_hasTask_15 ?_
      refine rc_goto X 42 dX0_hasTask_16 (by decide) ?_
      exact rc_zret X hr dX0_hasTask_42 (Or.inl rfl) h
    · have h := h.2 c11
      refine rc_iconst X dX0_hasTask_11 ?_
      refine rc_goto X 42 dX0_hasTask_12 (by decide) ?_
      exact rc_zret X hr dX0_hasTask_42 (Or.inr rfl) h
theorem mX0_hasTask {l : Launch} {G : rc_G} {a0 : Nat} {a1 : Int} {I : rc_M} {post : Int → rc_M → Prop} (T0 : kX0 G a0) (h : wX0_hasTask G a0 a1 I post) : rc_CI l yX0_hasTask wsX0_hasTask rmX0_hasTask G [.ref a0, .int (rc_o a1)] I post :=
  rc_body (by decide +kernel) rfl rfl (Nat.le_of_ble_eq_true rfl) rfl (fun p e s m below meth c X hr => gX0_hasTask_0 X hr T0 h)
/-! X0_kindOf -/
abbrev rmX0_kindOf : Room := { frames := 1, cells := 0, slots := 0, locals := 21 }
theorem dyX0_kindOf : yX0_kindOf.cls = RX0 ∧ yX0_kindOf.cls ≠ "java/lang/invoke/MethodHandle" ∧ yX0_kindOf.cls ≠ "java/lang/invoke/VarHandle" ∧ (parseMethodDescriptor yX0_kindOf.desc).map (fun d => d.parameters.length) = some 1 := ⟨rfl, by decide +kernel, by decide +kernel, by decide +kernel⟩
theorem qX0_kindOf_3 : Cond.fieldLink RX0 11 "ReelChanger$Operator" "kinds" "[I" ∈ wsX0_kindOf := List.mem_of_getElem? (i := 3) (by decide +kernel)
theorem nX0_kindOf_X0 : ∀ w ∈ wsX00, w ∈ wsX0_kindOf := fun w h => List.mem_cons_of_mem _ (List.mem_append_right _ (h))
theorem qX0_kindOf_2 : Cond.fieldLink RX0 25 "ReelChanger$Operator" "workKind" "I" ∈ wsX0_kindOf := List.mem_of_getElem? (i := 2) (by decide +kernel)
theorem qX0_kindOf_1 : Cond.constant RX0 41 (-100005) ∈ wsX0_kindOf := List.mem_of_getElem? (i := 1) (by decide +kernel)
def wX0_kindOf (G : rc_G) (a0 : Nat) (a1 : Int) (I : rc_M) (post : Int → rc_M → Prop) : Prop :=
  wX0_hasTask G a0 a1 I (fun r2 I1 => rc_R r2 ∧ ((¬ r2 = 0 → rc_R a1 ∧ ((¬ a1 = 0 → (0 ≤ a1 - 1 ∧ a1 - 1 < 8) ∧ (post (I1 (a0 + 1) (a1 - 1)) I1)) ∧ (a1 = 0 → post (I1 a0 2) I1))) ∧ (r2 = 0 → post (-100005) I1)))
set_option maxRecDepth 100000 in
set_option maxHeartbeats 4000000 in
theorem gX0_kindOf_0 {p : Program} {l : Launch} {e : Env} {s : State} {m : MethodId} {below : List Frame} {meth : Method} {c : Code} {G : rc_G} {a0 : Nat} {a1 : Int} {I : rc_M} {post : Int → rc_M → Prop}  (X : rc_X p s m ([.ref a0, .int (rc_o a1)] : List Value).toArray meth c cX0_kindOf 2 wsX0_kindOf RX0 G (rc_A G)) (hr : meth.sig.returnType = some .int) (T0 : kX0 G a0)  (h : wX0_kindOf G a0 a1 I post) : rc_g p l e rmX0_kindOf s m ([.ref a0, .int (rc_o a1)] : List Value).toArray below meth c 0 0 (MQ below (rc_QI G post) ([.ref a0, .int (rc_o a1)] : List Value).toArray s 0 0 (rc_A G)) 2 G (rc_A G) 0 [(0, .ref a0), (1, .int (rc_o a1))] [] I := by
  unfold wX0_kindOf at h
  refine rc_aload_n X dX0_kindOf_0 rfl 0 rfl ?_
  refine rc_iload_n X dX0_kindOf_1 rfl 1 rfl ?_
  refine rc_cVI (rest := []) X (mX0_hasTask T0 h) gX0_kindOf_X0_hasTask rfl ⟨rfl, rfl⟩ dyX0_hasTask ⟨Nat.le_of_ble_eq_true rfl, Nat.le_of_ble_eq_true rfl⟩ (rc_recv X T0.1 rfl) rfl rfl (Nat.le_of_ble_eq_true rfl) dX0_kindOf_2 ⟨Nat.zero_le _, Nat.zero_le _⟩ (fun r2 I1 h => ?_)
  obtain ⟨c3, h⟩ := h
  refine rc_if_ne X 11 dX0_kindOf_5 (by decide) c3 (fun c4 => ?_) (fun c4 => ?_)
  · have h := h.1 c4
    refine rc_iload_n X dX0_kindOf_11 rfl 1 rfl ?_
    obtain ⟨c5, h⟩ := h
    refine rc_if_ne X 22 dX0_kindOf_12 (by decide) c5 (fun c6 => ?_) (fun c6 => ?_)
    · have h := h.1 c6
      refine rc_aload_n X dX0_kindOf_22 rfl 0 rfl ?_
      refine gfX0_kinds X T0.1 nX0_kindOf_X0 qX0_kindOf_3 dX0_kindOf_23 ?_
      refine rc_iload_n X dX0_kindOf_26 rfl 1 rfl ?_
      refine rc_iconst X dX0_kindOf_27 ?_
      refine rc_isub X dX0_kindOf_28 ?_
      obtain ⟨c7, h⟩ := h
      refine rc_iald X T0.2.1 (by decide) dX0_kindOf_29 c7 ?_
      exact rc_iret X hr dX0_kindOf_30 h
    · have h := h.2 c6
      refine rc_aload_n X dX0_kindOf_15 rfl 0 rfl ?_
      refine gfX0_workKind X T0.1 nX0_kindOf_X0 qX0_kindOf_2 dX0_kindOf_16 ?_
      refine rc_goto X 30 dX0_kindOf_19 (by decide) ?_
      exact rc_iret X hr dX0_kindOf_30 h
  · have h := h.2 c4
    refine rc_ldc (n := (-100005)) X qX0_kindOf_1 (by decide +kernel) dX0_kindOf_8 ?_
    exact rc_iret X hr dX0_kindOf_10 h
theorem mX0_kindOf {l : Launch} {G : rc_G} {a0 : Nat} {a1 : Int} {I : rc_M} {post : Int → rc_M → Prop} (T0 : kX0 G a0) (h : wX0_kindOf G a0 a1 I post) : rc_CI l yX0_kindOf wsX0_kindOf rmX0_kindOf G [.ref a0, .int (rc_o a1)] I post :=
  rc_body (by decide +kernel) rfl rfl (Nat.le_of_ble_eq_true rfl) rfl (fun p e s m below meth c X hr => gX0_kindOf_0 X hr T0 h)
/-! X0_projectorOf -/
abbrev rmX0_projectorOf : Room := { frames := 1, cells := 0, slots := 0, locals := 21 }
theorem dyX0_projectorOf : yX0_projectorOf.cls = RX0 ∧ yX0_projectorOf.cls ≠ "java/lang/invoke/MethodHandle" ∧ yX0_projectorOf.cls ≠ "java/lang/invoke/VarHandle" ∧ (parseMethodDescriptor yX0_projectorOf.desc).map (fun d => d.parameters.length) = some 1 := ⟨rfl, by decide +kernel, by decide +kernel, by decide +kernel⟩
theorem qX0_projectorOf_3 : Cond.fieldLink RX0 15 "ReelChanger$Operator" "projectors" "[I" ∈ wsX0_projectorOf := List.mem_of_getElem? (i := 3) (by decide +kernel)
theorem nX0_projectorOf_X0 : ∀ w ∈ wsX00, w ∈ wsX0_projectorOf := fun w h => List.mem_cons_of_mem _ (List.mem_append_right _ (h))
theorem qX0_projectorOf_2 : Cond.fieldLink RX0 28 "ReelChanger$Operator" "workProjector" "I" ∈ wsX0_projectorOf := List.mem_of_getElem? (i := 2) (by decide +kernel)
theorem qX0_projectorOf_1 : Cond.constant RX0 41 (-100005) ∈ wsX0_projectorOf := List.mem_of_getElem? (i := 1) (by decide +kernel)
def wX0_projectorOf (G : rc_G) (a0 : Nat) (a1 : Int) (I : rc_M) (post : Int → rc_M → Prop) : Prop :=
  wX0_hasTask G a0 a1 I (fun r2 I1 => rc_R r2 ∧ ((¬ r2 = 0 → rc_R a1 ∧ ((¬ a1 = 0 → (0 ≤ a1 - 1 ∧ a1 - 1 < 8) ∧ (post (I1 (a0 + 2) (a1 - 1)) I1)) ∧ (a1 = 0 → post (I1 a0 3) I1))) ∧ (r2 = 0 → post (-100005) I1)))
set_option maxRecDepth 100000 in
set_option maxHeartbeats 4000000 in
theorem gX0_projectorOf_0 {p : Program} {l : Launch} {e : Env} {s : State} {m : MethodId} {below : List Frame} {meth : Method} {c : Code} {G : rc_G} {a0 : Nat} {a1 : Int} {I : rc_M} {post : Int → rc_M → Prop}  (X : rc_X p s m ([.ref a0, .int (rc_o a1)] : List Value).toArray meth c cX0_projectorOf 2 wsX0_projectorOf RX0 G (rc_A G)) (hr : meth.sig.returnType = some .int) (T0 : kX0 G a0)  (h : wX0_projectorOf G a0 a1 I post) : rc_g p l e rmX0_projectorOf s m ([.ref a0, .int (rc_o a1)] : List Value).toArray below meth c 0 0 (MQ below (rc_QI G post) ([.ref a0, .int (rc_o a1)] : List Value).toArray s 0 0 (rc_A G)) 2 G (rc_A G) 0 [(0, .ref a0), (1, .int (rc_o a1))] [] I := by
  unfold wX0_projectorOf at h
  refine rc_aload_n X dX0_projectorOf_0 rfl 0 rfl ?_
  refine rc_iload_n X dX0_projectorOf_1 rfl 1 rfl ?_
  refine rc_cVI (rest := []) X (mX0_hasTask T0 h) gX0_projectorOf_X0_hasTask rfl ⟨rfl, rfl⟩ dyX0_hasTask ⟨Nat.le_of_ble_eq_true rfl, Nat.le_of_ble_eq_true rfl⟩ (rc_recv X T0.1 rfl) rfl rfl (Nat.le_of_ble_eq_true rfl) dX0_projectorOf_2 ⟨Nat.zero_le _, Nat.zero_le _⟩ (fun r2 I1 h => ?_)
  obtain ⟨c3, h⟩ := h
  refine rc_if_ne X 11 dX0_projectorOf_5 (by decide) c3 (fun c4 => ?_) (fun c4 => ?_)
  · have h := h.1 c4
    refine rc_iload_n X dX0_projectorOf_11 rfl 1 rfl ?_
    obtain ⟨c5, h⟩ := h
    refine rc_if_ne X 22 dX0_projectorOf_12 (by decide) c5 (fun c6 => ?_) (fun c6 => ?_)
    · have h := h.1 c6
      refine rc_aload_n X dX0_projectorOf_22 rfl 0 rfl ?_
      refine gfX0_projectors X T0.1 nX0_projectorOf_X0 qX0_projectorOf_3 dX0_projectorOf_23 ?_
      refine rc_iload_n X dX0_projectorOf_26 rfl 1 rfl ?_
      refine rc_iconst X dX0_projectorOf_27 ?_
      refine rc_isub X dX0_projectorOf_28 ?_
      obtain ⟨c7, h⟩ := h
      refine rc_iald X T0.2.2 (by decide) dX0_projectorOf_29 c7 ?_
      exact rc_iret X hr dX0_projectorOf_30 h
    · have h := h.2 c6
      refine rc_aload_n X dX0_projectorOf_15 rfl 0 rfl ?_
      refine gfX0_workProjector X T0.1 nX0_projectorOf_X0 qX0_projectorOf_2 dX0_projectorOf_16 ?_
      refine rc_goto X 30 dX0_projectorOf_19 (by decide) ?_
      exact rc_iret X hr dX0_projectorOf_30 h
  · have h := h.2 c4
    refine rc_ldc (n := (-100005)) X qX0_projectorOf_1 (by decide +kernel) dX0_projectorOf_8 ?_
    exact rc_iret X hr dX0_projectorOf_10 h
theorem mX0_projectorOf {l : Launch} {G : rc_G} {a0 : Nat} {a1 : Int} {I : rc_M} {post : Int → rc_M → Prop} (T0 : kX0 G a0) (h : wX0_projectorOf G a0 a1 I post) : rc_CI l yX0_projectorOf wsX0_projectorOf rmX0_projectorOf G [.ref a0, .int (rc_o a1)] I post :=
  rc_body (by decide +kernel) rfl rfl (Nat.le_of_ble_eq_true rfl) rfl (fun p e s m below meth c X hr => gX0_projectorOf_0 X hr T0 h)
/-! X0_takeUp -/
abbrev rmX0_takeUp : Room := { frames := 1, cells := 0, slots := 0, locals := 60 }
theorem dyX0_takeUp : yX0_takeUp.cls = RX0 ∧ yX0_takeUp.cls ≠ "java/lang/invoke/MethodHandle" ∧ yX0_takeUp.cls ≠ "java/lang/invoke/VarHandle" ∧ (parseMethodDescriptor yX0_takeUp.desc).map (fun d => d.parameters.length) = some 1 := ⟨rfl, by decide +kernel, by decide +kernel, by decide +kernel⟩
theorem qX0_takeUp_1 : Cond.fieldLink RX0 22 "ReelChanger$Operator" "rowCount" "I" ∈ wsX0_takeUp := List.mem_of_getElem? (i := 1) (by decide +kernel)
theorem nX0_takeUp_X0 : ∀ w ∈ wsX00, w ∈ wsX0_takeUp := fun w h => List.mem_cons_of_mem _ (List.mem_append_right _ (h))
theorem qX0_takeUp_2 : Cond.fieldLink RX0 11 "ReelChanger$Operator" "kinds" "[I" ∈ wsX0_takeUp := List.mem_of_getElem? (i := 2) (by decide +kernel)
theorem qX0_takeUp_3 : Cond.fieldLink RX0 25 "ReelChanger$Operator" "workKind" "I" ∈ wsX0_takeUp := List.mem_of_getElem? (i := 3) (by decide +kernel)
theorem qX0_takeUp_4 : Cond.fieldLink RX0 15 "ReelChanger$Operator" "projectors" "[I" ∈ wsX0_takeUp := List.mem_of_getElem? (i := 4) (by decide +kernel)
theorem qX0_takeUp_5 : Cond.fieldLink RX0 28 "ReelChanger$Operator" "workProjector" "I" ∈ wsX0_takeUp := List.mem_of_getElem? (i := 5) (by decide +kernel)
theorem qX0_takeUp_6 : Cond.fieldLink RX0 18 "ReelChanger$Operator" "ticksLeft" "I" ∈ wsX0_takeUp := List.mem_of_getElem? (i := 6) (by decide +kernel)
theorem qX0_takeUp_7 : Cond.methodLink RX0 31 arraycopyName ∈ wsX0_takeUp := List.mem_of_getElem? (i := 7) (by decide +kernel)
theorem qX0_takeUp_8 : Cond.native arraycopyName ∈ wsX0_takeUp := List.mem_of_getElem? (i := 8) (by decide +kernel)
theorem qX0_takeUp_9 : Cond.static arraycopyName ∈ wsX0_takeUp := List.mem_of_getElem? (i := 9) (by decide +kernel)
theorem qX0_takeUp_10 : Cond.initialized "java/lang/System" ∈ wsX0_takeUp := List.mem_of_getElem? (i := 10) (by decide +kernel)
def wX0_takeUp (G : rc_G) (a0 : Nat) (a1 : Int) (I : rc_M) (post : rc_M → Prop) : Prop :=
  rc_R (I a0 1) ∧ (((I a0 1) ≤ 0 → post I) ∧ (¬ (I a0 1) ≤ 0 → ∀ I3, I3 = rc_s I a0 2 (I (a0 + 1) 0) → ∀ I4, I4 = rc_s I3 a0 3 (I3 (a0 + 2) 0) → ∀ I5, I5 = rc_s I4 a0 0 a1 → ∀ I6, I6 = rc_s I5 a0 1 ((I5 a0 1) - 1) → ((0 : Int) ≤ 1 ∧ (0 : Int) ≤ 0 ∧ (0 : Int) ≤ (I6 a0 1) ∧ (1 + (I6 a0 1) : Int) ≤ 8 ∧ (0 + (I6 a0 1) : Int) ≤ 8) ∧ (∀ I8, I8 = rc_cpy I6 (a0 + 1) (a0 + 1) 1 0 (I6 a0 1) → ((0 : Int) ≤ 1 ∧ (0 : Int) ≤ 0 ∧ (0 : Int) ≤ (I8 a0 1) ∧ (1 + (I8 a0 1) : Int) ≤ 8 ∧ (0 + (I8 a0 1) : Int) ≤ 8) ∧ (∀ I10, I10 = rc_cpy I8 (a0 + 2) (a0 + 2) 1 0 (I8 a0 1) → post I10))))
set_option maxRecDepth 100000 in
set_option maxHeartbeats 4000000 in
theorem gX0_takeUp_0 {p : Program} {l : Launch} {e : Env} {s : State} {m : MethodId} {below : List Frame} {meth : Method} {c : Code} {G : rc_G} {a0 : Nat} {a1 : Int} {I : rc_M} {post : rc_M → Prop}  (X : rc_X p s m ([.ref a0, .int (rc_o a1)] : List Value).toArray meth c cX0_takeUp 2 wsX0_takeUp RX0 G (rc_A G)) (hr : meth.sig.returnType = none) (T0 : kX0 G a0)  (h : wX0_takeUp G a0 a1 I post) : rc_g p l e rmX0_takeUp s m ([.ref a0, .int (rc_o a1)] : List Value).toArray below meth c 0 0 (MQ below (rc_QV G post) ([.ref a0, .int (rc_o a1)] : List Value).toArray s 0 0 (rc_A G)) 2 G (rc_A G) 0 [(0, .ref a0), (1, .int (rc_o a1))] [] I := by
  unfold wX0_takeUp at h
  refine rc_aload_n X dX0_takeUp_0 rfl 0 rfl ?_
  refine gfX0_rowCount X T0.1 nX0_takeUp_X0 qX0_takeUp_1 dX0_takeUp_1 ?_
  obtain ⟨c1, h⟩ := h
  refine rc_if_le X 76 dX0_takeUp_4 (by decide) c1 (fun c2 => ?_) (fun c2 => ?_)
  · have h := h.1 c2
    exact rc_vret X hr dX0_takeUp_76 h
  · have h := h.2 c2
    refine rc_aload_n X dX0_takeUp_7 rfl 0 rfl ?_
    refine rc_aload_n X dX0_takeUp_8 rfl 0 rfl ?_
    refine gfX0_kinds X T0.1 nX0_takeUp_X0 qX0_takeUp_2 dX0_takeUp_9 ?_
    refine rc_iconst X dX0_takeUp_12 ?_
    refine rc_iald X T0.2.1 (by decide) dX0_takeUp_13 ⟨by decide, by decide⟩ ?_
    refine pfX0_workKind X T0.1 nX0_takeUp_X0 qX0_takeUp_3 dX0_takeUp_14 (fun I3 e3 => ?_)
    have h := h I3 e3
    refine rc_aload_n X dX0_takeUp_17 rfl 0 rfl ?_
    refine rc_aload_n X dX0_takeUp_18 rfl 0 rfl ?_
    refine gfX0_projectors X T0.1 nX0_takeUp_X0 qX0_takeUp_4 dX0_takeUp_19 ?_
    refine rc_iconst X dX0_takeUp_22 ?_
    refine rc_iald X T0.2.2 (by decide) dX0_takeUp_23 ⟨by decide, by decide⟩ ?_
    refine pfX0_workProjector X T0.1 nX0_takeUp_X0 qX0_takeUp_5 dX0_takeUp_24 (fun I4 e4 => ?_)
    have h := h I4 e4
    refine rc_aload_n X dX0_takeUp_27 rfl 0 rfl ?_
    refine rc_iload_n X dX0_takeUp_28 rfl 1 rfl ?_
    refine pfX0_ticksLeft X T0.1 nX0_takeUp_X0 qX0_takeUp_6 dX0_takeUp_29 (fun I5 e5 => ?_)
    have h := h I5 e5
    refine rc_aload_n X dX0_takeUp_32 rfl 0 rfl ?_
    refine rc_dup X dX0_takeUp_33 rfl ?_
    refine gfX0_rowCount X T0.1 nX0_takeUp_X0 qX0_takeUp_1 dX0_takeUp_34 ?_
    refine rc_iconst X dX0_takeUp_37 ?_
    refine rc_isub X dX0_takeUp_38 ?_
    refine pfX0_rowCount X T0.1 nX0_takeUp_X0 qX0_takeUp_1 dX0_takeUp_39 (fun I6 e6 => ?_)
    have h := h I6 e6
    refine rc_aload_n X dX0_takeUp_42 rfl 0 rfl ?_
    refine gfX0_kinds X T0.1 nX0_takeUp_X0 qX0_takeUp_2 dX0_takeUp_43 ?_
    refine rc_iconst X dX0_takeUp_46 ?_
    refine rc_aload_n X dX0_takeUp_47 rfl 0 rfl ?_
    refine gfX0_kinds X T0.1 nX0_takeUp_X0 qX0_takeUp_2 dX0_takeUp_48 ?_
    refine rc_iconst X dX0_takeUp_51 ?_
    refine rc_aload_n X dX0_takeUp_52 rfl 0 rfl ?_
    refine gfX0_rowCount X T0.1 nX0_takeUp_X0 qX0_takeUp_1 dX0_takeUp_53 ?_
    obtain ⟨c7, h⟩ := h
    refine rc_acopy X T0.2.1 T0.2.1 (by decide) (by decide) qX0_takeUp_7 qX0_takeUp_8 qX0_takeUp_9 qX0_takeUp_10 (Nat.le_of_ble_eq_true rfl) (by decide +kernel) dX0_takeUp_56 c7.1 c7.2.1 c7.2.2.1 c7.2.2.2.1 c7.2.2.2.2 (fun I8 e8 => ?_)
    have h := h I8 e8
    refine rc_aload_n X dX0_takeUp_59 rfl 0 rfl ?_
    refine gfX0_projectors X T0.1 nX0_takeUp_X0 qX0_takeUp_4 dX0_takeUp_60 ?_
    refine rc_iconst X dX0_takeUp_63 ?_
    refine rc_aload_n X dX0_takeUp_64 rfl 0 rfl ?_
    refine gfX0_projectors X T0.1 nX0_takeUp_X0 qX0_takeUp_4 dX0_takeUp_65 ?_
    refine rc_iconst X dX0_takeUp_68 ?_
    refine rc_aload_n X dX0_takeUp_69 rfl 0 rfl ?_
    refine gfX0_rowCount X T0.1 nX0_takeUp_X0 qX0_takeUp_1 dX0_takeUp_70 ?_
    obtain ⟨c9, h⟩ := h
    refine rc_acopy X T0.2.2 T0.2.2 (by decide) (by decide) qX0_takeUp_7 qX0_takeUp_8 qX0_takeUp_9 qX0_takeUp_10 (Nat.le_of_ble_eq_true rfl) (by decide +kernel) dX0_takeUp_73 c9.1 c9.2.1 c9.2.2.1 c9.2.2.2.1 c9.2.2.2.2 (fun I10 e10 => ?_)
    have h := h I10 e10
    exact rc_vret X hr dX0_takeUp_76 h
theorem mX0_takeUp {l : Launch} {G : rc_G} {a0 : Nat} {a1 : Int} {I : rc_M} {post : rc_M → Prop} (T0 : kX0 G a0) (h : wX0_takeUp G a0 a1 I post) : rc_CV l yX0_takeUp wsX0_takeUp rmX0_takeUp G [.ref a0, .int (rc_o a1)] I post :=
  rc_body (by decide +kernel) rfl rfl (Nat.le_of_ble_eq_true rfl) rfl (fun p e s m below meth c X hr => gX0_takeUp_0 X hr T0 h)
/-! X0_addFirst -/
abbrev rmX0_addFirst : Room := { frames := 1, cells := 0, slots := 0, locals := 60 }
theorem dyX0_addFirst : yX0_addFirst.cls = RX0 ∧ yX0_addFirst.cls ≠ "java/lang/invoke/MethodHandle" ∧ yX0_addFirst.cls ≠ "java/lang/invoke/VarHandle" ∧ (parseMethodDescriptor yX0_addFirst.desc).map (fun d => d.parameters.length) = some 2 := ⟨rfl, by decide +kernel, by decide +kernel, by decide +kernel⟩
theorem qX0_addFirst_1 : Cond.fieldLink RX0 22 "ReelChanger$Operator" "rowCount" "I" ∈ wsX0_addFirst := List.mem_of_getElem? (i := 1) (by decide +kernel)
theorem nX0_addFirst_X0 : ∀ w ∈ wsX00, w ∈ wsX0_addFirst := fun w h => List.mem_cons_of_mem _ (List.mem_append_right _ (h))
theorem qX0_addFirst_2 : Cond.fieldLink RX0 11 "ReelChanger$Operator" "kinds" "[I" ∈ wsX0_addFirst := List.mem_of_getElem? (i := 2) (by decide +kernel)
theorem qX0_addFirst_3 : Cond.methodLink RX0 31 arraycopyName ∈ wsX0_addFirst := List.mem_of_getElem? (i := 3) (by decide +kernel)
theorem qX0_addFirst_4 : Cond.native arraycopyName ∈ wsX0_addFirst := List.mem_of_getElem? (i := 4) (by decide +kernel)
theorem qX0_addFirst_5 : Cond.static arraycopyName ∈ wsX0_addFirst := List.mem_of_getElem? (i := 5) (by decide +kernel)
theorem qX0_addFirst_6 : Cond.initialized "java/lang/System" ∈ wsX0_addFirst := List.mem_of_getElem? (i := 6) (by decide +kernel)
theorem qX0_addFirst_7 : Cond.fieldLink RX0 15 "ReelChanger$Operator" "projectors" "[I" ∈ wsX0_addFirst := List.mem_of_getElem? (i := 7) (by decide +kernel)
def wX0_addFirst (G : rc_G) (a0 : Nat) (a1 : Int) (a2 : Int) (I : rc_M) (post : rc_M → Prop) : Prop :=
  rc_R (I a0 1) ∧ ((8 ≤ (I a0 1) → post I) ∧ (¬ 8 ≤ (I a0 1) → ((0 : Int) ≤ 0 ∧ (0 : Int) ≤ 1 ∧ (0 : Int) ≤ (I a0 1) ∧ (0 + (I a0 1) : Int) ≤ 8 ∧ (1 + (I a0 1) : Int) ≤ 8) ∧ (∀ I4, I4 = rc_cpy I (a0 + 1) (a0 + 1) 0 1 (I a0 1) → ((0 : Int) ≤ 0 ∧ (0 : Int) ≤ 1 ∧ (0 : Int) ≤ (I4 a0 1) ∧ (0 + (I4 a0 1) : Int) ≤ 8 ∧ (1 + (I4 a0 1) : Int) ≤ 8) ∧ (∀ I6, I6 = rc_cpy I4 (a0 + 2) (a0 + 2) 0 1 (I4 a0 1) → ∀ I7, I7 = rc_s I6 (a0 + 1) 0 a1 → ∀ I8, I8 = rc_s I7 (a0 + 2) 0 a2 → ∀ I9, I9 = rc_s I8 a0 1 ((I8 a0 1) + 1) → post I9))))
set_option maxRecDepth 100000 in
set_option maxHeartbeats 4000000 in
theorem gX0_addFirst_0 {p : Program} {l : Launch} {e : Env} {s : State} {m : MethodId} {below : List Frame} {meth : Method} {c : Code} {G : rc_G} {a0 : Nat} {a1 : Int} {a2 : Int} {I : rc_M} {post : rc_M → Prop}  (X : rc_X p s m ([.ref a0, .int (rc_o a1), .int (rc_o a2)] : List Value).toArray meth c cX0_addFirst 3 wsX0_addFirst RX0 G (rc_A G)) (hr : meth.sig.returnType = none) (T0 : kX0 G a0)  (h : wX0_addFirst G a0 a1 a2 I post) : rc_g p l e rmX0_addFirst s m ([.ref a0, .int (rc_o a1), .int (rc_o a2)] : List Value).toArray below meth c 0 0 (MQ below (rc_QV G post) ([.ref a0, .int (rc_o a1), .int (rc_o a2)] : List Value).toArray s 0 0 (rc_A G)) 3 G (rc_A G) 0 [(0, .ref a0), (1, .int (rc_o a1)), (2, .int (rc_o a2))] [] I := by
  unfold wX0_addFirst at h
  refine rc_aload_n X dX0_addFirst_0 rfl 0 rfl ?_
  refine gfX0_rowCount X T0.1 nX0_addFirst_X0 qX0_addFirst_1 dX0_addFirst_1 ?_
  refine rc_bipush X dX0_addFirst_4 (rc_b8 _ ⟨by decide, by decide⟩) ?_
  obtain ⟨c1, h⟩ := h
  refine rc_ic_ge X 67 dX0_addFirst_6 (by decide) c1 ⟨by decide, by decide⟩ (fun c2 => ?_) (fun c2 => ?_)
  · have h := h.1 c2
    exact rc_vret X hr dX0_addFirst_67 h
  · have h := h.2 c2
    refine rc_aload_n X dX0_addFirst_9 rfl 0 rfl ?_
    refine gfX0_kinds X T0.1 nX0_addFirst_X0 qX0_addFirst_2 dX0_addFirst_10 ?_
    refine rc_iconst X dX0_addFirst_13 ?_
    refine rc_aload_n X dX0_addFirst_14 rfl 0 rfl ?_
    refine gfX0_kinds X T0.1 nX0_addFirst_X0 qX0_addFirst_2 dX0_addFirst_15 ?_
    refine rc_iconst X dX0_addFirst_18 ?_
    refine rc_aload_n X dX0_addFirst_19 rfl 0 rfl ?_
    refine gfX0_rowCount X T0.1 nX0_addFirst_X0 qX0_addFirst_1 dX0_addFirst_20 ?_
    obtain ⟨c3, h⟩ := h
    refine rc_acopy X T0.2.1 T0.2.1 (by decide) (by decide) qX0_addFirst_3 qX0_addFirst_4 qX0_addFirst_5 qX0_addFirst_6 (Nat.le_of_ble_eq_true rfl) (by decide +kernel) dX0_addFirst_23 c3.1 c3.2.1 c3.2.2.1 c3.2.2.2.1 c3.2.2.2.2 (fun I4 e4 => ?_)
    have h := h I4 e4
    refine rc_aload_n X dX0_addFirst_26 rfl 0 rfl ?_
    refine gfX0_projectors X T0.1 nX0_addFirst_X0 qX0_addFirst_7 dX0_addFirst_27 ?_
    refine rc_iconst X dX0_addFirst_30 ?_
    refine rc_aload_n X dX0_addFirst_31 rfl 0 rfl ?_
    refine gfX0_projectors X T0.1 nX0_addFirst_X0 qX0_addFirst_7 dX0_addFirst_32 ?_
    refine rc_iconst X dX0_addFirst_35 ?_
    refine rc_aload_n X dX0_addFirst_36 rfl 0 rfl ?_
    refine gfX0_rowCount X T0.1 nX0_addFirst_X0 qX0_addFirst_1 dX0_addFirst_37 ?_
    obtain ⟨c5, h⟩ := h
    refine rc_acopy X T0.2.2 T0.2.2 (by decide) (by decide) qX0_addFirst_3 qX0_addFirst_4 qX0_addFirst_5 qX0_addFirst_6 (Nat.le_of_ble_eq_true rfl) (by decide +kernel) dX0_addFirst_40 c5.1 c5.2.1 c5.2.2.1 c5.2.2.2.1 c5.2.2.2.2 (fun I6 e6 => ?_)
    have h := h I6 e6
    refine rc_aload_n X dX0_addFirst_43 rfl 0 rfl ?_
    refine gfX0_kinds X T0.1 nX0_addFirst_X0 qX0_addFirst_2 dX0_addFirst_44 ?_
    refine rc_iconst X dX0_addFirst_47 ?_
    refine rc_iload_n X dX0_addFirst_48 rfl 1 rfl ?_
    refine rc_iast X T0.2.1 (by decide) dX0_addFirst_49 ⟨by decide, by decide⟩ (fun I7 e7 => ?_)
    have h := h I7 e7
    refine rc_aload_n X dX0_addFirst_50 rfl 0 rfl ?_
    refine gfX0_projectors X T0.1 nX0_addFirst_X0 qX0_addFirst_7 dX0_addFirst_51 ?_
    refine rc_iconst X dX0_addFirst_54 ?_
    refine rc_iload_n X dX0_addFirst_55 rfl 2 rfl ?_
    refine rc_iast X T0.2.2 (by decide) dX0_addFirst_56 ⟨by decide, by decide⟩ (fun I8 e8 => ?_)
    have h := h I8 e8
    refine rc_aload_n X dX0_addFirst_57 rfl 0 rfl ?_
    refine rc_dup X dX0_addFirst_58 rfl ?_
    refine gfX0_rowCount X T0.1 nX0_addFirst_X0 qX0_addFirst_1 dX0_addFirst_59 ?_
    refine rc_iconst X dX0_addFirst_62 ?_
    refine rc_iadd X dX0_addFirst_63 ?_
    refine pfX0_rowCount X T0.1 nX0_addFirst_X0 qX0_addFirst_1 dX0_addFirst_64 (fun I9 e9 => ?_)
    have h := h I9 e9
    exact rc_vret X hr dX0_addFirst_67 h
theorem mX0_addFirst {l : Launch} {G : rc_G} {a0 : Nat} {a1 : Int} {a2 : Int} {I : rc_M} {post : rc_M → Prop} (T0 : kX0 G a0) (h : wX0_addFirst G a0 a1 a2 I post) : rc_CV l yX0_addFirst wsX0_addFirst rmX0_addFirst G [.ref a0, .int (rc_o a1), .int (rc_o a2)] I post :=
  rc_body (by decide +kernel) rfl rfl (Nat.le_of_ble_eq_true rfl) rfl (fun p e s m below meth c X hr => gX0_addFirst_0 X hr T0 h)
/-! X0_addLast -/
abbrev rmX0_addLast : Room := { frames := 0, cells := 0, slots := 0, locals := 0 }
theorem dyX0_addLast : yX0_addLast.cls = RX0 ∧ yX0_addLast.cls ≠ "java/lang/invoke/MethodHandle" ∧ yX0_addLast.cls ≠ "java/lang/invoke/VarHandle" ∧ (parseMethodDescriptor yX0_addLast.desc).map (fun d => d.parameters.length) = some 2 := ⟨rfl, by decide +kernel, by decide +kernel, by decide +kernel⟩
theorem qX0_addLast_1 : Cond.fieldLink RX0 22 "ReelChanger$Operator" "rowCount" "I" ∈ wsX0_addLast := List.mem_of_getElem? (i := 1) (by decide +kernel)
theorem nX0_addLast_X0 : ∀ w ∈ wsX00, w ∈ wsX0_addLast := fun w h => List.mem_cons_of_mem _ (List.mem_append_right _ (h))
theorem qX0_addLast_2 : Cond.fieldLink RX0 11 "ReelChanger$Operator" "kinds" "[I" ∈ wsX0_addLast := List.mem_of_getElem? (i := 2) (by decide +kernel)
theorem qX0_addLast_3 : Cond.fieldLink RX0 15 "ReelChanger$Operator" "projectors" "[I" ∈ wsX0_addLast := List.mem_of_getElem? (i := 3) (by decide +kernel)
def wX0_addLast (G : rc_G) (a0 : Nat) (a1 : Int) (a2 : Int) (I : rc_M) (post : rc_M → Prop) : Prop :=
  rc_R (I a0 1) ∧ ((8 ≤ (I a0 1) → post I) ∧ (¬ 8 ≤ (I a0 1) → (0 ≤ I a0 1 ∧ I a0 1 < 8) ∧ (∀ I4, I4 = rc_s I (a0 + 1) (I a0 1) a1 → (0 ≤ I4 a0 1 ∧ I4 a0 1 < 8) ∧ (∀ I6, I6 = rc_s I4 (a0 + 2) (I4 a0 1) a2 → ∀ I7, I7 = rc_s I6 a0 1 ((I6 a0 1) + 1) → post I7))))
set_option maxRecDepth 100000 in
set_option maxHeartbeats 4000000 in
theorem gX0_addLast_0 {p : Program} {l : Launch} {e : Env} {s : State} {m : MethodId} {below : List Frame} {meth : Method} {c : Code} {G : rc_G} {a0 : Nat} {a1 : Int} {a2 : Int} {I : rc_M} {post : rc_M → Prop}  (X : rc_X p s m ([.ref a0, .int (rc_o a1), .int (rc_o a2)] : List Value).toArray meth c cX0_addLast 3 wsX0_addLast RX0 G (rc_A G)) (hr : meth.sig.returnType = none) (T0 : kX0 G a0)  (h : wX0_addLast G a0 a1 a2 I post) : rc_g p l e rmX0_addLast s m ([.ref a0, .int (rc_o a1), .int (rc_o a2)] : List Value).toArray below meth c 0 0 (MQ below (rc_QV G post) ([.ref a0, .int (rc_o a1), .int (rc_o a2)] : List Value).toArray s 0 0 (rc_A G)) 3 G (rc_A G) 0 [(0, .ref a0), (1, .int (rc_o a1)), (2, .int (rc_o a2))] [] I := by
  unfold wX0_addLast at h
  refine rc_aload_n X dX0_addLast_0 rfl 0 rfl ?_
  refine gfX0_rowCount X T0.1 nX0_addLast_X0 qX0_addLast_1 dX0_addLast_1 ?_
  refine rc_bipush X dX0_addLast_4 (rc_b8 _ ⟨by decide, by decide⟩) ?_
  obtain ⟨c1, h⟩ := h
  refine rc_ic_ge X 39 dX0_addLast_6 (by decide) c1 ⟨by decide, by decide⟩ (fun c2 => ?_) (fun c2 => ?_)
  · have h := h.1 c2
    exact rc_vret X hr dX0_addLast_39 h
  · have h := h.2 c2
    refine rc_aload_n X dX0_addLast_9 rfl 0 rfl ?_
    refine gfX0_kinds X T0.1 nX0_addLast_X0 qX0_addLast_2 dX0_addLast_10 ?_
    refine rc_aload_n X dX0_addLast_13 rfl 0 rfl ?_
    refine gfX0_rowCount X T0.1 nX0_addLast_X0 qX0_addLast_1 dX0_addLast_14 ?_
    refine rc_iload_n X dX0_addLast_17 rfl 1 rfl ?_
    obtain ⟨c3, h⟩ := h
    refine rc_iast X T0.2.1 (by decide) dX0_addLast_18 c3 (fun I4 e4 => ?_)
    have h := h I4 e4
    refine rc_aload_n X dX0_addLast_19 rfl 0 rfl ?_
    refine gfX0_projectors X T0.1 nX0_addLast_X0 qX0_addLast_3 dX0_addLast_20 ?_
    refine rc_aload_n X dX0_addLast_23 rfl 0 rfl ?_
    refine gfX0_rowCount X T0.1 nX0_addLast_X0 qX0_addLast_1 dX0_addLast_24 ?_
    refine rc_iload_n X dX0_addLast_27 rfl 2 rfl ?_
    obtain ⟨c5, h⟩ := h
    refine rc_iast X T0.2.2 (by decide) dX0_addLast_28 c5 (fun I6 e6 => ?_)
    have h := h I6 e6
    refine rc_aload_n X dX0_addLast_29 rfl 0 rfl ?_
    refine rc_dup X dX0_addLast_30 rfl ?_
    refine gfX0_rowCount X T0.1 nX0_addLast_X0 qX0_addLast_1 dX0_addLast_31 ?_
    refine rc_iconst X dX0_addLast_34 ?_
    refine rc_iadd X dX0_addLast_35 ?_
    refine pfX0_rowCount X T0.1 nX0_addLast_X0 qX0_addLast_1 dX0_addLast_36 (fun I7 e7 => ?_)
    have h := h I7 e7
    exact rc_vret X hr dX0_addLast_39 h
theorem mX0_addLast {l : Launch} {G : rc_G} {a0 : Nat} {a1 : Int} {a2 : Int} {I : rc_M} {post : rc_M → Prop} (T0 : kX0 G a0) (h : wX0_addLast G a0 a1 a2 I post) : rc_CV l yX0_addLast wsX0_addLast rmX0_addLast G [.ref a0, .int (rc_o a1), .int (rc_o a2)] I post :=
  rc_body (by decide +kernel) rfl rfl (Nat.le_of_ble_eq_true rfl) rfl (fun p e s m below meth c X hr => gX0_addLast_0 X hr T0 h)
/-! X0_threadTasks -/
abbrev rmX0_threadTasks : Room := { frames := 2, cells := 0, slots := 0, locals := 42 }
theorem dyX0_threadTasks : yX0_threadTasks.cls = RX0 ∧ yX0_threadTasks.cls ≠ "java/lang/invoke/MethodHandle" ∧ yX0_threadTasks.cls ≠ "java/lang/invoke/VarHandle" ∧ (parseMethodDescriptor yX0_threadTasks.desc).map (fun d => d.parameters.length) = some 0 := ⟨rfl, by decide +kernel, by decide +kernel, by decide +kernel⟩
def wX0_threadTasks_22 (G : rc_G) (post : Int → rc_M → Prop) (a0 : Nat) (k4 : Int → Int → rc_M → Prop) (x1 : Int) (x2 : Int) (I : rc_M) : Prop :=
  k4 x1 (x2 + 1) I
set_option maxRecDepth 100000 in
set_option maxHeartbeats 4000000 in
theorem gX0_threadTasks_22 {p : Program} {l : Launch} {e : Env} {s : State} {m : MethodId} {below : List Frame} {meth : Method} {c : Code} {G : rc_G} {a0 : Nat} {I : rc_M} {post : Int → rc_M → Prop} {k4 : Int → Int → rc_M → Prop} {x1 : Int} {x2 : Int} (X : rc_X p s m ([.ref a0] : List Value).toArray meth c cX0_threadTasks 3 wsX0_threadTasks RX0 G (rc_A G)) (hr : meth.sig.returnType = some .int) (T0 : kX0 G a0) (hk4 : ∀ (x1 : Int) (x2 : Int) (J : rc_M), k4 x1 x2 J → rc_g p l e rmX0_threadTasks s m ([.ref a0] : List Value).toArray below meth c 0 0 (MQ below (rc_QI G post) ([.ref a0] : List Value).toArray s 0 0 (rc_A G)) 3 G (rc_A G) 4 [(0, .ref a0), (1, .int (rc_o x1)), (2, .int (rc_o x2))] [] J)  (h : wX0_threadTasks_22 G post a0 k4 x1 x2 I) : rc_g p l e rmX0_threadTasks s m ([.ref a0] : List Value).toArray below meth c 0 0 (MQ below (rc_QI G post) ([.ref a0] : List Value).toArray s 0 0 (rc_A G)) 3 G (rc_A G) 22 [(0, .ref a0), (1, .int (rc_o x1)), (2, .int (rc_o x2))] [] I := by
  unfold wX0_threadTasks_22 at h
  refine rc_iinc X [(2, .int (rc_o (x2 + 1))), (0, .ref a0), (1, .int (rc_o x1))] dX0_threadTasks_22 2 rfl (by decide) rfl ?_
  refine rc_goto X 4 dX0_threadTasks_25 (by decide) ?_
  refine rc_subl [(0, .ref a0), (1, .int (rc_o x1)), (2, .int (rc_o (x2 + 1)))] [1, 2, 0] rfl ?_
  exact hk4 _ _ _ h
def wX0_threadTasks_4 (G : rc_G) (post : Int → rc_M → Prop) (a0 : Nat) (k4 : Int → Int → rc_M → Prop) (x1 : Int) (x2 : Int) (I : rc_M) : Prop :=
  rc_R x2 ∧ ((8 < x2 → post x1 I) ∧ (¬ 8 < x2 → wX0_kindOf G a0 x2 I (fun r4 I3 => rc_R r4 ∧ ((¬ r4 = 1 → wX0_threadTasks_22 G post a0 k4 x1 x2 I3) ∧ (r4 = 1 → wX0_threadTasks_22 G post a0 k4 (x1 + 1) x2 I3)))))
set_option maxRecDepth 100000 in
set_option maxHeartbeats 4000000 in
theorem gX0_threadTasks_4 {p : Program} {l : Launch} {e : Env} {s : State} {m : MethodId} {below : List Frame} {meth : Method} {c : Code} {G : rc_G} {a0 : Nat} {I : rc_M} {post : Int → rc_M → Prop} {k4 : Int → Int → rc_M → Prop} {x1 : Int} {x2 : Int} (X : rc_X p s m ([.ref a0] : List Value).toArray meth c cX0_threadTasks 3 wsX0_threadTasks RX0 G (rc_A G)) (hr : meth.sig.returnType = some .int) (T0 : kX0 G a0) (hk4 : ∀ (x1 : Int) (x2 : Int) (J : rc_M), k4 x1 x2 J → rc_g p l e rmX0_threadTasks s m ([.ref a0] : List Value).toArray below meth c 0 0 (MQ below (rc_QI G post) ([.ref a0] : List Value).toArray s 0 0 (rc_A G)) 3 G (rc_A G) 4 [(0, .ref a0), (1, .int (rc_o x1)), (2, .int (rc_o x2))] [] J)  (h : wX0_threadTasks_4 G post a0 k4 x1 x2 I) : rc_g p l e rmX0_threadTasks s m ([.ref a0] : List Value).toArray below meth c 0 0 (MQ below (rc_QI G post) ([.ref a0] : List Value).toArray s 0 0 (rc_A G)) 3 G (rc_A G) 4 [(0, .ref a0), (1, .int (rc_o x1)), (2, .int (rc_o x2))] [] I := by
  unfold wX0_threadTasks_4 at h
  refine rc_iload_n X dX0_threadTasks_4 rfl 2 rfl ?_
  refine rc_bipush X dX0_threadTasks_5 (rc_b8 _ ⟨by decide, by decide⟩) ?_
  obtain ⟨c1, h⟩ := h
  refine rc_ic_gt X 28 dX0_threadTasks_7 (by decide) c1 ⟨by decide, by decide⟩ (fun c2 => ?_) (fun c2 => ?_)
  · have h := h.1 c2
    refine rc_iload_n X dX0_threadTasks_28 rfl 1 rfl ?_
    exact rc_iret X hr dX0_threadTasks_29 h
  · have h := h.2 c2
    refine rc_aload_n X dX0_threadTasks_10 rfl 0 rfl ?_
    refine rc_iload_n X dX0_threadTasks_11 rfl 2 rfl ?_
    refine rc_cVI (rest := []) X (mX0_kindOf T0 h) gX0_threadTasks_X0_kindOf rfl ⟨rfl, rfl⟩ dyX0_kindOf ⟨Nat.le_of_ble_eq_true rfl, Nat.le_of_ble_eq_true rfl⟩ (rc_recv X T0.1 rfl) rfl rfl (Nat.le_of_ble_eq_true rfl) dX0_threadTasks_12 ⟨Nat.zero_le _, Nat.zero_le _⟩ (fun r4 I3 h => ?_)
    refine rc_iconst X dX0_threadTasks_15 ?_
    obtain ⟨c5, h⟩ := h
    refine rc_ic_ne X 22 dX0_threadTasks_16 (by decide) c5 ⟨by decide, by decide⟩ (fun c6 => ?_) (fun c6 => ?_)
    · have h := h.1 c6
      refine rc_subl [(0, .ref a0), (1, .int (rc_o x1)), (2, .int (rc_o x2))] [0, 1, 2] rfl ?_
      exact gX0_threadTasks_22 X hr T0 hk4  h
    · have h := h.2 c6
      refine rc_iinc X [(1, .int (rc_o (x1 + 1))), (0, .ref a0), (2, .int (rc_o x2))] dX0_threadTasks_19 1 rfl (by decide) rfl ?_
      refine rc_subl [(0, .ref a0), (1, .int (rc_o (x1 + 1))), (2, .int (rc_o x2))] [1, 0, 2] rfl ?_
      exact gX0_threadTasks_22 X hr T0 hk4  h
noncomputable def rX0_threadTasks_4 (G : rc_G) (post : Int → rc_M → Prop) (a0 : Nat)  (n : Nat) : Int → Int → rc_M → Prop :=
  Nat.rec (motive := fun _ => Int → Int → rc_M → Prop) (fun _ _ _ => False) (fun _ ih => wX0_threadTasks_4 G post a0  ih) n
set_option maxRecDepth 100000 in
set_option maxHeartbeats 4000000 in
theorem sX0_threadTasks_4 {p : Program} {l : Launch} {e : Env} {s : State} {m : MethodId} {below : List Frame} {meth : Method} {c : Code} {G : rc_G} {a0 : Nat} {I : rc_M} {post : Int → rc_M → Prop}  {n : Nat} {x1 : Int} {x2 : Int} (X : rc_X p s m ([.ref a0] : List Value).toArray meth c cX0_threadTasks 3 wsX0_threadTasks RX0 G (rc_A G)) (hr : meth.sig.returnType = some .int) (T0 : kX0 G a0)  (h : rX0_threadTasks_4 G post a0  n x1 x2 I) : rc_g p l e rmX0_threadTasks s m ([.ref a0] : List Value).toArray below meth c 0 0 (MQ below (rc_QI G post) ([.ref a0] : List Value).toArray s 0 0 (rc_A G)) 3 G (rc_A G) 4 [(0, .ref a0), (1, .int (rc_o x1)), (2, .int (rc_o x2))] [] I := by
  induction n generalizing x1 x2 I with
  | zero => exact h.elim
  | succ n ih => exact gX0_threadTasks_4 (k4 := rX0_threadTasks_4 G post a0  n) X hr T0  (fun x1 x2 J h2 => ih h2) h
def wX0_threadTasks (G : rc_G) (a0 : Nat) (I : rc_M) (post : Int → rc_M → Prop) : Prop :=
  ∃ n, rX0_threadTasks_4 G post a0  n 0 0 I
set_option maxRecDepth 100000 in
set_option maxHeartbeats 4000000 in
theorem gX0_threadTasks_0 {p : Program} {l : Launch} {e : Env} {s : State} {m : MethodId} {below : List Frame} {meth : Method} {c : Code} {G : rc_G} {a0 : Nat} {I : rc_M} {post : Int → rc_M → Prop}  (X : rc_X p s m ([.ref a0] : List Value).toArray meth c cX0_threadTasks 3 wsX0_threadTasks RX0 G (rc_A G)) (hr : meth.sig.returnType = some .int) (T0 : kX0 G a0)  (h : wX0_threadTasks G a0 I post) : rc_g p l e rmX0_threadTasks s m ([.ref a0] : List Value).toArray below meth c 0 0 (MQ below (rc_QI G post) ([.ref a0] : List Value).toArray s 0 0 (rc_A G)) 3 G (rc_A G) 0 [(0, .ref a0)] [] I := by
  unfold wX0_threadTasks at h
  refine rc_iconst X dX0_threadTasks_0 ?_
  refine rc_istore_n X [(1, .int (rc_o 0)), (0, .ref a0)] dX0_threadTasks_1 rfl (by decide) rfl ?_
  refine rc_iconst X dX0_threadTasks_2 ?_
  refine rc_istore_n X [(2, .int (rc_o 0)), (1, .int (rc_o 0)), (0, .ref a0)] dX0_threadTasks_3 rfl (by decide) rfl ?_
  refine rc_subl [(0, .ref a0), (1, .int (rc_o 0)), (2, .int (rc_o 0))] [2, 1, 0] rfl ?_
  obtain ⟨n, h⟩ := h
  exact sX0_threadTasks_4 X hr T0  h
theorem mX0_threadTasks {l : Launch} {G : rc_G} {a0 : Nat} {I : rc_M} {post : Int → rc_M → Prop} (T0 : kX0 G a0) (h : wX0_threadTasks G a0 I post) : rc_CI l yX0_threadTasks wsX0_threadTasks rmX0_threadTasks G [.ref a0] I post :=
  rc_body (by decide +kernel) rfl rfl (Nat.le_of_ble_eq_true rfl) rfl (fun p e s m below meth c X hr => gX0_threadTasks_0 X hr T0 h)
/-! X0_copyFrom -/
abbrev rmX0_copyFrom : Room := { frames := 1, cells := 0, slots := 0, locals := 60 }
theorem dyX0_copyFrom : yX0_copyFrom.cls = RX0 ∧ yX0_copyFrom.cls ≠ "java/lang/invoke/MethodHandle" ∧ yX0_copyFrom.cls ≠ "java/lang/invoke/VarHandle" ∧ (parseMethodDescriptor yX0_copyFrom.desc).map (fun d => d.parameters.length) = some 1 := ⟨rfl, by decide +kernel, by decide +kernel, by decide +kernel⟩
theorem qX0_copyFrom_1 : Cond.fieldLink RX0 18 "ReelChanger$Operator" "ticksLeft" "I" ∈ wsX0_copyFrom := List.mem_of_getElem? (i := 1) (by decide +kernel)
theorem nX0_copyFrom_X0 : ∀ w ∈ wsX00, w ∈ wsX0_copyFrom := fun w h => List.mem_cons_of_mem _ (List.mem_append_right _ (h))
theorem qX0_copyFrom_2 : Cond.fieldLink RX0 22 "ReelChanger$Operator" "rowCount" "I" ∈ wsX0_copyFrom := List.mem_of_getElem? (i := 2) (by decide +kernel)
theorem qX0_copyFrom_3 : Cond.fieldLink RX0 25 "ReelChanger$Operator" "workKind" "I" ∈ wsX0_copyFrom := List.mem_of_getElem? (i := 3) (by decide +kernel)
theorem qX0_copyFrom_4 : Cond.fieldLink RX0 28 "ReelChanger$Operator" "workProjector" "I" ∈ wsX0_copyFrom := List.mem_of_getElem? (i := 4) (by decide +kernel)
theorem qX0_copyFrom_5 : Cond.fieldLink RX0 11 "ReelChanger$Operator" "kinds" "[I" ∈ wsX0_copyFrom := List.mem_of_getElem? (i := 5) (by decide +kernel)
theorem qX0_copyFrom_6 : Cond.methodLink RX0 31 arraycopyName ∈ wsX0_copyFrom := List.mem_of_getElem? (i := 6) (by decide +kernel)
theorem qX0_copyFrom_7 : Cond.native arraycopyName ∈ wsX0_copyFrom := List.mem_of_getElem? (i := 7) (by decide +kernel)
theorem qX0_copyFrom_8 : Cond.static arraycopyName ∈ wsX0_copyFrom := List.mem_of_getElem? (i := 8) (by decide +kernel)
theorem qX0_copyFrom_9 : Cond.initialized "java/lang/System" ∈ wsX0_copyFrom := List.mem_of_getElem? (i := 9) (by decide +kernel)
theorem qX0_copyFrom_10 : Cond.fieldLink RX0 15 "ReelChanger$Operator" "projectors" "[I" ∈ wsX0_copyFrom := List.mem_of_getElem? (i := 10) (by decide +kernel)
def wX0_copyFrom (G : rc_G) (a0 : Nat) (a1 : Nat) (I : rc_M) (post : rc_M → Prop) : Prop :=
  ∀ I1, I1 = rc_s I a0 0 (I a1 0) → ∀ I2, I2 = rc_s I1 a0 1 (I1 a1 1) → ∀ I3, I3 = rc_s I2 a0 2 (I2 a1 2) → ∀ I4, I4 = rc_s I3 a0 3 (I3 a1 3) → ((0 : Int) ≤ 0 ∧ (0 : Int) ≤ 0 ∧ (0 : Int) ≤ 8 ∧ (0 + 8 : Int) ≤ 8 ∧ (0 + 8 : Int) ≤ 8) ∧ (∀ I6, I6 = rc_cpy I4 (a1 + 1) (a0 + 1) 0 0 8 → ((0 : Int) ≤ 0 ∧ (0 : Int) ≤ 0 ∧ (0 : Int) ≤ 8 ∧ (0 + 8 : Int) ≤ 8 ∧ (0 + 8 : Int) ≤ 8) ∧ (∀ I8, I8 = rc_cpy I6 (a1 + 2) (a0 + 2) 0 0 8 → post I8))
set_option maxRecDepth 100000 in
set_option maxHeartbeats 4000000 in
theorem gX0_copyFrom_0 {p : Program} {l : Launch} {e : Env} {s : State} {m : MethodId} {below : List Frame} {meth : Method} {c : Code} {G : rc_G} {a0 : Nat} {a1 : Nat} {I : rc_M} {post : rc_M → Prop}  (X : rc_X p s m ([.ref a0, .ref a1] : List Value).toArray meth c cX0_copyFrom 2 wsX0_copyFrom RX0 G (rc_A G)) (hr : meth.sig.returnType = none) (T0 : kX0 G a0) (T1 : kX0 G a1)  (h : wX0_copyFrom G a0 a1 I post) : rc_g p l e rmX0_copyFrom s m ([.ref a0, .ref a1] : List Value).toArray below meth c 0 0 (MQ below (rc_QV G post) ([.ref a0, .ref a1] : List Value).toArray s 0 0 (rc_A G)) 2 G (rc_A G) 0 [(0, .ref a0), (1, .ref a1)] [] I := by
  unfold wX0_copyFrom at h
  refine rc_aload_n X dX0_copyFrom_0 rfl 0 rfl ?_
  refine rc_aload_n X dX0_copyFrom_1 rfl 1 rfl ?_
  refine gfX0_ticksLeft X T1.1 nX0_copyFrom_X0 qX0_copyFrom_1 dX0_copyFrom_2 ?_
  refine pfX0_ticksLeft X T0.1 nX0_copyFrom_X0 qX0_copyFrom_1 dX0_copyFrom_5 (fun I1 e1 => ?_)
  have h := h I1 e1
  refine rc_aload_n X dX0_copyFrom_8 rfl 0 rfl ?_
  refine rc_aload_n X dX0_copyFrom_9 rfl 1 rfl ?_
  refine gfX0_rowCount X T1.1 nX0_copyFrom_X0 qX0_copyFrom_2 dX0_copyFrom_10 ?_
  refine pfX0_rowCount X T0.1 nX0_copyFrom_X0 qX0_copyFrom_2 dX0_copyFrom_13 (fun I2 e2 => ?_)
  have h := h I2 e2
  refine rc_aload_n X dX0_copyFrom_16 rfl 0 rfl ?_
  refine rc_aload_n X dX0_copyFrom_17 rfl 1 rfl ?_
  refine gfX0_workKind X T1.1 nX0_copyFrom_X0 qX0_copyFrom_3 dX0_copyFrom_18 ?_
  refine pfX0_workKind X T0.1 nX0_copyFrom_X0 qX0_copyFrom_3 dX0_copyFrom_21 (fun I3 e3 => ?_)
  have h := h I3 e3
  refine rc_aload_n X dX0_copyFrom_24 rfl 0 rfl ?_
  refine rc_aload_n X dX0_copyFrom_25 rfl 1 rfl ?_
  refine gfX0_workProjector X T1.1 nX0_copyFrom_X0 qX0_copyFrom_4 dX0_copyFrom_26 ?_
  refine pfX0_workProjector X T0.1 nX0_copyFrom_X0 qX0_copyFrom_4 dX0_copyFrom_29 (fun I4 e4 => ?_)
  have h := h I4 e4
  refine rc_aload_n X dX0_copyFrom_32 rfl 1 rfl ?_
  refine gfX0_kinds X T1.1 nX0_copyFrom_X0 qX0_copyFrom_5 dX0_copyFrom_33 ?_
  refine rc_iconst X dX0_copyFrom_36 ?_
  refine rc_aload_n X dX0_copyFrom_37 rfl 0 rfl ?_
  refine gfX0_kinds X T0.1 nX0_copyFrom_X0 qX0_copyFrom_5 dX0_copyFrom_38 ?_
  refine rc_iconst X dX0_copyFrom_41 ?_
  refine rc_bipush X dX0_copyFrom_42 (rc_b8 _ ⟨by decide, by decide⟩) ?_
  obtain ⟨c5, h⟩ := h
  refine rc_acopy X T1.2.1 T0.2.1 (by decide) (by decide) qX0_copyFrom_6 qX0_copyFrom_7 qX0_copyFrom_8 qX0_copyFrom_9 (Nat.le_of_ble_eq_true rfl) (by decide +kernel) dX0_copyFrom_44 c5.1 c5.2.1 c5.2.2.1 c5.2.2.2.1 c5.2.2.2.2 (fun I6 e6 => ?_)
  have h := h I6 e6
  refine rc_aload_n X dX0_copyFrom_47 rfl 1 rfl ?_
  refine gfX0_projectors X T1.1 nX0_copyFrom_X0 qX0_copyFrom_10 dX0_copyFrom_48 ?_
  refine rc_iconst X dX0_copyFrom_51 ?_
  refine rc_aload_n X dX0_copyFrom_52 rfl 0 rfl ?_
  refine gfX0_projectors X T0.1 nX0_copyFrom_X0 qX0_copyFrom_10 dX0_copyFrom_53 ?_
  refine rc_iconst X dX0_copyFrom_56 ?_
  refine rc_bipush X dX0_copyFrom_57 (rc_b8 _ ⟨by decide, by decide⟩) ?_
  obtain ⟨c7, h⟩ := h
  refine rc_acopy X T1.2.2 T0.2.2 (by decide) (by decide) qX0_copyFrom_6 qX0_copyFrom_7 qX0_copyFrom_8 qX0_copyFrom_9 (Nat.le_of_ble_eq_true rfl) (by decide +kernel) dX0_copyFrom_59 c7.1 c7.2.1 c7.2.2.1 c7.2.2.2.1 c7.2.2.2.2 (fun I8 e8 => ?_)
  have h := h I8 e8
  exact rc_vret X hr dX0_copyFrom_62 h
theorem mX0_copyFrom {l : Launch} {G : rc_G} {a0 : Nat} {a1 : Nat} {I : rc_M} {post : rc_M → Prop} (T0 : kX0 G a0) (T1 : kX0 G a1) (h : wX0_copyFrom G a0 a1 I post) : rc_CV l yX0_copyFrom wsX0_copyFrom rmX0_copyFrom G [.ref a0, .ref a1] I post :=
  rc_body (by decide +kernel) rfl rfl (Nat.le_of_ble_eq_true rfl) rfl (fun p e s m below meth c X hr => gX0_copyFrom_0 X hr T0 T1 h)
end
