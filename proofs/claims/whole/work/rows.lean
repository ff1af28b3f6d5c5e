section
-- ===== PART A: goes FIRST, ahead of the names: the tables' words, and 'selects' of the private methods out of them =====
/-- a private method of a class that the tables say can be made, by its rows of tables_1 -/
def lw_okq (q : MethodName × Nat) : Prop := (q.1.cls ≠ "java/lang/invoke/MethodHandle" ∧ q.1.cls ≠ "java/lang/invoke/VarHandle") ∧ Cond.instantiable q.1.cls q.2 ∈ tables_1 ∧ Cond.privateMethod q.1 ∈ tables_1 ∧ Cond.instanceMethod q.1 ∈ tables_1
theorem lw_p0 : lw_okq (⟨"NumberedLoops$Shape", "layCells", "()V"⟩, 14) := ⟨⟨by decide +kernel, by decide +kernel⟩, List.mem_of_getElem? (i := 51) (by decide +kernel), List.mem_of_getElem? (i := 240) (by decide +kernel), List.mem_of_getElem? (i := 241) (by decide +kernel)⟩
theorem lw_p1 : lw_okq (⟨"NumberedLoops$Shape", "lying", "(II)I"⟩, 14) := ⟨⟨by decide +kernel, by decide +kernel⟩, List.mem_of_getElem? (i := 51) (by decide +kernel), List.mem_of_getElem? (i := 244) (by decide +kernel), List.mem_of_getElem? (i := 245) (by decide +kernel)⟩
theorem lw_p2 : lw_okq (⟨"NumberedLoops$Shape", "layCellSide", "(III)V"⟩, 14) := ⟨⟨by decide +kernel, by decide +kernel⟩, List.mem_of_getElem? (i := 51) (by decide +kernel), List.mem_of_getElem? (i := 248) (by decide +kernel), List.mem_of_getElem? (i := 249) (by decide +kernel)⟩
theorem lw_p3 : lw_okq (⟨"NumberedLoops$Shape", "standing", "(II)I"⟩, 14) := ⟨⟨by decide +kernel, by decide +kernel⟩, List.mem_of_getElem? (i := 51) (by decide +kernel), List.mem_of_getElem? (i := 268) (by decide +kernel), List.mem_of_getElem? (i := 269) (by decide +kernel)⟩
theorem lw_p4 : lw_okq (⟨"NumberedLoops$Shape", "layPoints", "()V"⟩, 14) := ⟨⟨by decide +kernel, by decide +kernel⟩, List.mem_of_getElem? (i := 51) (by decide +kernel), List.mem_of_getElem? (i := 279) (by decide +kernel), List.mem_of_getElem? (i := 280) (by decide +kernel)⟩
theorem lw_p5 : lw_okq (⟨"NumberedLoops$Shape", "layPointSide", "(III)V"⟩, 14) := ⟨⟨by decide +kernel, by decide +kernel⟩, List.mem_of_getElem? (i := 51) (by decide +kernel), List.mem_of_getElem? (i := 283) (by decide +kernel), List.mem_of_getElem? (i := 284) (by decide +kernel)⟩
theorem lw_p6 : lw_okq (⟨"NumberedLoops$Shape", "layBesides", "()V"⟩, 14) := ⟨⟨by decide +kernel, by decide +kernel⟩, List.mem_of_getElem? (i := 51) (by decide +kernel), List.mem_of_getElem? (i := 291) (by decide +kernel), List.mem_of_getElem? (i := 292) (by decide +kernel)⟩
theorem lw_p7 : lw_okq (⟨"NumberedLoops$Shape", "laySettled", "()V"⟩, 14) := ⟨⟨by decide +kernel, by decide +kernel⟩, List.mem_of_getElem? (i := 51) (by decide +kernel), List.mem_of_getElem? (i := 299) (by decide +kernel), List.mem_of_getElem? (i := 300) (by decide +kernel)⟩
theorem lw_p8 : lw_okq (⟨"NumberedLoops$Shape", "layCorners", "()V"⟩, 14) := ⟨⟨by decide +kernel, by decide +kernel⟩, List.mem_of_getElem? (i := 51) (by decide +kernel), List.mem_of_getElem? (i := 310) (by decide +kernel), List.mem_of_getElem? (i := 311) (by decide +kernel)⟩
theorem lw_p9 : lw_okq (⟨"NumberedLoops$Text", "endsRow", "(I)Z"⟩, 5) := ⟨⟨by decide +kernel, by decide +kernel⟩, List.mem_of_getElem? (i := 24) (by decide +kernel), List.mem_of_getElem? (i := 370) (by decide +kernel), List.mem_of_getElem? (i := 371) (by decide +kernel)⟩
theorem lw_p10 : lw_okq (⟨"NumberedLoops$Text", "fitsRow", "(I)Z"⟩, 5) := ⟨⟨by decide +kernel, by decide +kernel⟩, List.mem_of_getElem? (i := 24) (by decide +kernel), List.mem_of_getElem? (i := 374) (by decide +kernel), List.mem_of_getElem? (i := 375) (by decide +kernel)⟩
theorem lw_p11 : lw_okq (⟨"NumberedLoops", "beforeChange", "()V"⟩, 9) := ⟨⟨by decide +kernel, by decide +kernel⟩, List.mem_of_getElem? (i := 16) (by decide +kernel), List.mem_of_getElem? (i := 441) (by decide +kernel), List.mem_of_getElem? (i := 442) (by decide +kernel)⟩
theorem lw_p12 : lw_okq (⟨"NumberedLoops$Rules", "lookAtCell", "(IJ)V"⟩, 6) := ⟨⟨by decide +kernel, by decide +kernel⟩, List.mem_of_getElem? (i := 174) (by decide +kernel), List.mem_of_getElem? (i := 475) (by decide +kernel), List.mem_of_getElem? (i := 476) (by decide +kernel)⟩
theorem lw_p13 : lw_okq (⟨"NumberedLoops$Rules", "openOf", "(J)J"⟩, 6) := ⟨⟨by decide +kernel, by decide +kernel⟩, List.mem_of_getElem? (i := 174) (by decide +kernel), List.mem_of_getElem? (i := 479) (by decide +kernel), List.mem_of_getElem? (i := 480) (by decide +kernel)⟩
theorem lw_p14 : lw_okq (⟨"NumberedLoops$Rules", "tell", "(IJ)V"⟩, 6) := ⟨⟨by decide +kernel, by decide +kernel⟩, List.mem_of_getElem? (i := 174) (by decide +kernel), List.mem_of_getElem? (i := 490) (by decide +kernel), List.mem_of_getElem? (i := 491) (by decide +kernel)⟩
theorem lw_p15 : lw_okq (⟨"NumberedLoops$Rules", "lookAtPoint", "(J)V"⟩, 6) := ⟨⟨by decide +kernel, by decide +kernel⟩, List.mem_of_getElem? (i := 174) (by decide +kernel), List.mem_of_getElem? (i := 495) (by decide +kernel), List.mem_of_getElem? (i := 496) (by decide +kernel)⟩
def lw_privs_1 : List (MethodName × Nat) := [(⟨"NumberedLoops$Shape", "layCells", "()V"⟩, 14), (⟨"NumberedLoops$Shape", "lying", "(II)I"⟩, 14), (⟨"NumberedLoops$Shape", "layCellSide", "(III)V"⟩, 14), (⟨"NumberedLoops$Shape", "standing", "(II)I"⟩, 14), (⟨"NumberedLoops$Shape", "layPoints", "()V"⟩, 14), (⟨"NumberedLoops$Shape", "layPointSide", "(III)V"⟩, 14), (⟨"NumberedLoops$Shape", "layBesides", "()V"⟩, 14), (⟨"NumberedLoops$Shape", "laySettled", "()V"⟩, 14), (⟨"NumberedLoops$Shape", "layCorners", "()V"⟩, 14), (⟨"NumberedLoops$Text", "endsRow", "(I)Z"⟩, 5), (⟨"NumberedLoops$Text", "fitsRow", "(I)Z"⟩, 5), (⟨"NumberedLoops", "beforeChange", "()V"⟩, 9), (⟨"NumberedLoops$Rules", "lookAtCell", "(IJ)V"⟩, 6), (⟨"NumberedLoops$Rules", "openOf", "(J)J"⟩, 6), (⟨"NumberedLoops$Rules", "tell", "(IJ)V"⟩, 6), (⟨"NumberedLoops$Rules", "lookAtPoint", "(J)V"⟩, 6)]
theorem lw_r1 : ∀ q ∈ lw_privs_1, lw_okq q := List.forall_mem_cons.mpr ⟨lw_p0, List.forall_mem_cons.mpr ⟨lw_p1, List.forall_mem_cons.mpr ⟨lw_p2, List.forall_mem_cons.mpr ⟨lw_p3, List.forall_mem_cons.mpr ⟨lw_p4, List.forall_mem_cons.mpr ⟨lw_p5, List.forall_mem_cons.mpr ⟨lw_p6, List.forall_mem_cons.mpr ⟨lw_p7, List.forall_mem_cons.mpr ⟨lw_p8, List.forall_mem_cons.mpr ⟨lw_p9, List.forall_mem_cons.mpr ⟨lw_p10, List.forall_mem_cons.mpr ⟨lw_p11, List.forall_mem_cons.mpr ⟨lw_p12, List.forall_mem_cons.mpr ⟨lw_p13, List.forall_mem_cons.mpr ⟨lw_p14, List.forall_mem_cons.mpr ⟨lw_p15, fun _ h => absurd h List.not_mem_nil⟩⟩⟩⟩⟩⟩⟩⟩⟩⟩⟩⟩⟩⟩⟩⟩
theorem lw_p16 : lw_okq (⟨"NumberedLoops$Rules", "lookAtChain", "(II)V"⟩, 6) := ⟨⟨by decide +kernel, by decide +kernel⟩, List.mem_of_getElem? (i := 174) (by decide +kernel), List.mem_of_getElem? (i := 500) (by decide +kernel), List.mem_of_getElem? (i := 501) (by decide +kernel)⟩
theorem lw_p17 : lw_okq (⟨"NumberedLoops$Rules", "othersThan", "(J)Z"⟩, 6) := ⟨⟨by decide +kernel, by decide +kernel⟩, List.mem_of_getElem? (i := 174) (by decide +kernel), List.mem_of_getElem? (i := 516) (by decide +kernel), List.mem_of_getElem? (i := 517) (by decide +kernel)⟩
theorem lw_p18 : lw_okq (⟨"NumberedLoops$Rules", "isClosed", "(J)Z"⟩, 6) := ⟨⟨by decide +kernel, by decide +kernel⟩, List.mem_of_getElem? (i := 174) (by decide +kernel), List.mem_of_getElem? (i := 520) (by decide +kernel), List.mem_of_getElem? (i := 521) (by decide +kernel)⟩
theorem lw_p19 : lw_okq (⟨"NumberedLoops$Rules", "chainThatWouldClose", "(I)J"⟩, 6) := ⟨⟨by decide +kernel, by decide +kernel⟩, List.mem_of_getElem? (i := 174) (by decide +kernel), List.mem_of_getElem? (i := 524) (by decide +kernel), List.mem_of_getElem? (i := 525) (by decide +kernel)⟩
theorem lw_p20 : lw_okq (⟨"NumberedLoops$Rules", "missesNumber", "(J)Z"⟩, 6) := ⟨⟨by decide +kernel, by decide +kernel⟩, List.mem_of_getElem? (i := 174) (by decide +kernel), List.mem_of_getElem? (i := 531) (by decide +kernel), List.mem_of_getElem? (i := 532) (by decide +kernel)⟩
theorem lw_p21 : lw_okq (⟨"NumberedLoops$Rules", "lookAtHands", "(II)V"⟩, 6) := ⟨⟨by decide +kernel, by decide +kernel⟩, List.mem_of_getElem? (i := 174) (by decide +kernel), List.mem_of_getElem? (i := 535) (by decide +kernel), List.mem_of_getElem? (i := 536) (by decide +kernel)⟩
theorem lw_p22 : lw_okq (⟨"NumberedLoops$Rules", "waysPast", "(I)I"⟩, 6) := ⟨⟨by decide +kernel, by decide +kernel⟩, List.mem_of_getElem? (i := 174) (by decide +kernel), List.mem_of_getElem? (i := 539) (by decide +kernel), List.mem_of_getElem? (i := 540) (by decide +kernel)⟩
theorem lw_p23 : lw_okq (⟨"NumberedLoops$Rules", "nextOnWay", "(IJ)J"⟩, 6) := ⟨⟨by decide +kernel, by decide +kernel⟩, List.mem_of_getElem? (i := 174) (by decide +kernel), List.mem_of_getElem? (i := 544) (by decide +kernel), List.mem_of_getElem? (i := 545) (by decide +kernel)⟩
theorem lw_p24 : lw_okq (⟨"NumberedLoops", "follow", "()I"⟩, 9) := ⟨⟨by decide +kernel, by decide +kernel⟩, List.mem_of_getElem? (i := 16) (by decide +kernel), List.mem_of_getElem? (i := 548) (by decide +kernel), List.mem_of_getElem? (i := 549) (by decide +kernel)⟩
theorem lw_p25 : lw_okq (⟨"NumberedLoops", "searchLoops", "()V"⟩, 9) := ⟨⟨by decide +kernel, by decide +kernel⟩, List.mem_of_getElem? (i := 16) (by decide +kernel), List.mem_of_getElem? (i := 590) (by decide +kernel), List.mem_of_getElem? (i := 591) (by decide +kernel)⟩
theorem lw_p26 : lw_okq (⟨"NumberedLoops$Loops", "takeRing", "(J)V"⟩, 6) := ⟨⟨by decide +kernel, by decide +kernel⟩, List.mem_of_getElem? (i := 203) (by decide +kernel), List.mem_of_getElem? (i := 602) (by decide +kernel), List.mem_of_getElem? (i := 603) (by decide +kernel)⟩
theorem lw_p27 : lw_okq (⟨"NumberedLoops$Loops", "fits", "(IJ)Z"⟩, 6) := ⟨⟨by decide +kernel, by decide +kernel⟩, List.mem_of_getElem? (i := 203) (by decide +kernel), List.mem_of_getElem? (i := 611) (by decide +kernel), List.mem_of_getElem? (i := 612) (by decide +kernel)⟩
theorem lw_p28 : lw_okq (⟨"NumberedLoops$Loops", "fitsNumber", "(IJJ)Z"⟩, 6) := ⟨⟨by decide +kernel, by decide +kernel⟩, List.mem_of_getElem? (i := 203) (by decide +kernel), List.mem_of_getElem? (i := 623) (by decide +kernel), List.mem_of_getElem? (i := 624) (by decide +kernel)⟩
theorem lw_p29 : lw_okq (⟨"NumberedLoops", "openSides", "()I"⟩, 9) := ⟨⟨by decide +kernel, by decide +kernel⟩, List.mem_of_getElem? (i := 16) (by decide +kernel), List.mem_of_getElem? (i := 681) (by decide +kernel), List.mem_of_getElem? (i := 682) (by decide +kernel)⟩
theorem lw_p30 : lw_okq (⟨"NumberedLoops", "cellsWithNumber", "()I"⟩, 9) := ⟨⟨by decide +kernel, by decide +kernel⟩, List.mem_of_getElem? (i := 16) (by decide +kernel), List.mem_of_getElem? (i := 699) (by decide +kernel), List.mem_of_getElem? (i := 700) (by decide +kernel)⟩
theorem lw_p31 : lw_okq (⟨"NumberedLoopsModel", "laysGrid", "()V"⟩, 29) := ⟨⟨by decide +kernel, by decide +kernel⟩, List.mem_of_getElem? (i := 703) (by decide +kernel), List.mem_of_getElem? (i := 710) (by decide +kernel), List.mem_of_getElem? (i := 711) (by decide +kernel)⟩
def lw_privs_2 : List (MethodName × Nat) := [(⟨"NumberedLoops$Rules", "lookAtChain", "(II)V"⟩, 6), (⟨"NumberedLoops$Rules", "othersThan", "(J)Z"⟩, 6), (⟨"NumberedLoops$Rules", "isClosed", "(J)Z"⟩, 6), (⟨"NumberedLoops$Rules", "chainThatWouldClose", "(I)J"⟩, 6), (⟨"NumberedLoops$Rules", "missesNumber", "(J)Z"⟩, 6), (⟨"NumberedLoops$Rules", "lookAtHands", "(II)V"⟩, 6), (⟨"NumberedLoops$Rules", "waysPast", "(I)I"⟩, 6), (⟨"NumberedLoops$Rules", "nextOnWay", "(IJ)J"⟩, 6), (⟨"NumberedLoops", "follow", "()I"⟩, 9), (⟨"NumberedLoops", "searchLoops", "()V"⟩, 9), (⟨"NumberedLoops$Loops", "takeRing", "(J)V"⟩, 6), (⟨"NumberedLoops$Loops", "fits", "(IJ)Z"⟩, 6), (⟨"NumberedLoops$Loops", "fitsNumber", "(IJJ)Z"⟩, 6), (⟨"NumberedLoops", "openSides", "()I"⟩, 9), (⟨"NumberedLoops", "cellsWithNumber", "()I"⟩, 9), (⟨"NumberedLoopsModel", "laysGrid", "()V"⟩, 29)]
theorem lw_r2 : ∀ q ∈ lw_privs_2, lw_okq q := List.forall_mem_cons.mpr ⟨lw_p16, List.forall_mem_cons.mpr ⟨lw_p17, List.forall_mem_cons.mpr ⟨lw_p18, List.forall_mem_cons.mpr ⟨lw_p19, List.forall_mem_cons.mpr ⟨lw_p20, List.forall_mem_cons.mpr ⟨lw_p21, List.forall_mem_cons.mpr ⟨lw_p22, List.forall_mem_cons.mpr ⟨lw_p23, List.forall_mem_cons.mpr ⟨lw_p24, List.forall_mem_cons.mpr ⟨lw_p25, List.forall_mem_cons.mpr ⟨lw_p26, List.forall_mem_cons.mpr ⟨lw_p27, List.forall_mem_cons.mpr ⟨lw_p28, List.forall_mem_cons.mpr ⟨lw_p29, List.forall_mem_cons.mpr ⟨lw_p30, List.forall_mem_cons.mpr ⟨lw_p31, fun _ h => absurd h List.not_mem_nil⟩⟩⟩⟩⟩⟩⟩⟩⟩⟩⟩⟩⟩⟩⟩⟩
theorem lw_p32 : lw_okq (⟨"NumberedLoopsModel", "lying", "(II)I"⟩, 29) := ⟨⟨by decide +kernel, by decide +kernel⟩, List.mem_of_getElem? (i := 703) (by decide +kernel), List.mem_of_getElem? (i := 714) (by decide +kernel), List.mem_of_getElem? (i := 715) (by decide +kernel)⟩
theorem lw_p33 : lw_okq (⟨"NumberedLoopsModel", "cellAt", "(II)I"⟩, 29) := ⟨⟨by decide +kernel, by decide +kernel⟩, List.mem_of_getElem? (i := 703) (by decide +kernel), List.mem_of_getElem? (i := 718) (by decide +kernel), List.mem_of_getElem? (i := 719) (by decide +kernel)⟩
theorem lw_p34 : lw_okq (⟨"NumberedLoopsModel", "joins", "(IIIII)V"⟩, 29) := ⟨⟨by decide +kernel, by decide +kernel⟩, List.mem_of_getElem? (i := 703) (by decide +kernel), List.mem_of_getElem? (i := 725) (by decide +kernel), List.mem_of_getElem? (i := 726) (by decide +kernel)⟩
theorem lw_p35 : lw_okq (⟨"NumberedLoopsModel", "standing", "(II)I"⟩, 29) := ⟨⟨by decide +kernel, by decide +kernel⟩, List.mem_of_getElem? (i := 703) (by decide +kernel), List.mem_of_getElem? (i := 729) (by decide +kernel), List.mem_of_getElem? (i := 730) (by decide +kernel)⟩
theorem lw_p36 : lw_okq (⟨"NumberedLoopsModel", "reads", "()Z"⟩, 29) := ⟨⟨by decide +kernel, by decide +kernel⟩, List.mem_of_getElem? (i := 703) (by decide +kernel), List.mem_of_getElem? (i := 835) (by decide +kernel), List.mem_of_getElem? (i := 836) (by decide +kernel)⟩
theorem lw_p37 : lw_okq (⟨"NumberedLoopsModel", "isMore", "()Z"⟩, 29) := ⟨⟨by decide +kernel, by decide +kernel⟩, List.mem_of_getElem? (i := 703) (by decide +kernel), List.mem_of_getElem? (i := 839) (by decide +kernel), List.mem_of_getElem? (i := 840) (by decide +kernel)⟩
theorem lw_p38 : lw_okq (⟨"NumberedLoopsModel", "readsRow", "()Z"⟩, 29) := ⟨⟨by decide +kernel, by decide +kernel⟩, List.mem_of_getElem? (i := 703) (by decide +kernel), List.mem_of_getElem? (i := 843) (by decide +kernel), List.mem_of_getElem? (i := 844) (by decide +kernel)⟩
theorem lw_p39 : lw_okq (⟨"NumberedLoopsModel", "isSign", "()Z"⟩, 29) := ⟨⟨by decide +kernel, by decide +kernel⟩, List.mem_of_getElem? (i := 703) (by decide +kernel), List.mem_of_getElem? (i := 847) (by decide +kernel), List.mem_of_getElem? (i := 848) (by decide +kernel)⟩
theorem lw_p40 : lw_okq (⟨"NumberedLoopsModel", "isCell", "(I)Z"⟩, 29) := ⟨⟨by decide +kernel, by decide +kernel⟩, List.mem_of_getElem? (i := 703) (by decide +kernel), List.mem_of_getElem? (i := 857) (by decide +kernel), List.mem_of_getElem? (i := 858) (by decide +kernel)⟩
theorem lw_p41 : lw_okq (⟨"NumberedLoopsModel", "numberAt", "(I)I"⟩, 29) := ⟨⟨by decide +kernel, by decide +kernel⟩, List.mem_of_getElem? (i := 703) (by decide +kernel), List.mem_of_getElem? (i := 861) (by decide +kernel), List.mem_of_getElem? (i := 862) (by decide +kernel)⟩
theorem lw_p42 : lw_okq (⟨"NumberedLoopsModel", "isSide", "(I)Z"⟩, 29) := ⟨⟨by decide +kernel, by decide +kernel⟩, List.mem_of_getElem? (i := 703) (by decide +kernel), List.mem_of_getElem? (i := 870) (by decide +kernel), List.mem_of_getElem? (i := 871) (by decide +kernel)⟩
theorem lw_p43 : lw_okq (⟨"NumberedLoopsModel", "points", "()I"⟩, 29) := ⟨⟨by decide +kernel, by decide +kernel⟩, List.mem_of_getElem? (i := 703) (by decide +kernel), List.mem_of_getElem? (i := 881) (by decide +kernel), List.mem_of_getElem? (i := 882) (by decide +kernel)⟩
theorem lw_p44 : lw_okq (⟨"NumberedLoopsModel", "sideOfCell", "(II)I"⟩, 29) := ⟨⟨by decide +kernel, by decide +kernel⟩, List.mem_of_getElem? (i := 703) (by decide +kernel), List.mem_of_getElem? (i := 886) (by decide +kernel), List.mem_of_getElem? (i := 887) (by decide +kernel)⟩
theorem lw_p45 : lw_okq (⟨"NumberedLoopsModel", "sideOfPoint", "(II)I"⟩, 29) := ⟨⟨by decide +kernel, by decide +kernel⟩, List.mem_of_getElem? (i := 703) (by decide +kernel), List.mem_of_getElem? (i := 890) (by decide +kernel), List.mem_of_getElem? (i := 891) (by decide +kernel)⟩
theorem lw_p46 : lw_okq (⟨"NumberedLoopsModel", "minds", "()V"⟩, 29) := ⟨⟨by decide +kernel, by decide +kernel⟩, List.mem_of_getElem? (i := 703) (by decide +kernel), List.mem_of_getElem? (i := 900) (by decide +kernel), List.mem_of_getElem? (i := 901) (by decide +kernel)⟩
theorem lw_p47 : lw_okq (⟨"NumberedLoopsModel", "sets", "(JI)V"⟩, 29) := ⟨⟨by decide +kernel, by decide +kernel⟩, List.mem_of_getElem? (i := 703) (by decide +kernel), List.mem_of_getElem? (i := 904) (by decide +kernel), List.mem_of_getElem? (i := 905) (by decide +kernel)⟩
def lw_privs_3 : List (MethodName × Nat) := [(⟨"NumberedLoopsModel", "lying", "(II)I"⟩, 29), (⟨"NumberedLoopsModel", "cellAt", "(II)I"⟩, 29), (⟨"NumberedLoopsModel", "joins", "(IIIII)V"⟩, 29), (⟨"NumberedLoopsModel", "standing", "(II)I"⟩, 29), (⟨"NumberedLoopsModel", "reads", "()Z"⟩, 29), (⟨"NumberedLoopsModel", "isMore", "()Z"⟩, 29), (⟨"NumberedLoopsModel", "readsRow", "()Z"⟩, 29), (⟨"NumberedLoopsModel", "isSign", "()Z"⟩, 29), (⟨"NumberedLoopsModel", "isCell", "(I)Z"⟩, 29), (⟨"NumberedLoopsModel", "numberAt", "(I)I"⟩, 29), (⟨"NumberedLoopsModel", "isSide", "(I)Z"⟩, 29), (⟨"NumberedLoopsModel", "points", "()I"⟩, 29), (⟨"NumberedLoopsModel", "sideOfCell", "(II)I"⟩, 29), (⟨"NumberedLoopsModel", "sideOfPoint", "(II)I"⟩, 29), (⟨"NumberedLoopsModel", "minds", "()V"⟩, 29), (⟨"NumberedLoopsModel", "sets", "(JI)V"⟩, 29)]
theorem lw_r3 : ∀ q ∈ lw_privs_3, lw_okq q := List.forall_mem_cons.mpr ⟨lw_p32, List.forall_mem_cons.mpr ⟨lw_p33, List.forall_mem_cons.mpr ⟨lw_p34, List.forall_mem_cons.mpr ⟨lw_p35, List.forall_mem_cons.mpr ⟨lw_p36, List.forall_mem_cons.mpr ⟨lw_p37, List.forall_mem_cons.mpr ⟨lw_p38, List.forall_mem_cons.mpr ⟨lw_p39, List.forall_mem_cons.mpr ⟨lw_p40, List.forall_mem_cons.mpr ⟨lw_p41, List.forall_mem_cons.mpr ⟨lw_p42, List.forall_mem_cons.mpr ⟨lw_p43, List.forall_mem_cons.mpr ⟨lw_p44, List.forall_mem_cons.mpr ⟨lw_p45, List.forall_mem_cons.mpr ⟨lw_p46, List.forall_mem_cons.mpr ⟨lw_p47, fun _ h => absurd h List.not_mem_nil⟩⟩⟩⟩⟩⟩⟩⟩⟩⟩⟩⟩⟩⟩⟩⟩
theorem lw_p48 : lw_okq (⟨"NumberedLoopsModel", "becomes", "(IJ)V"⟩, 29) := ⟨⟨by decide +kernel, by decide +kernel⟩, List.mem_of_getElem? (i := 703) (by decide +kernel), List.mem_of_getElem? (i := 914) (by decide +kernel), List.mem_of_getElem? (i := 915) (by decide +kernel)⟩
theorem lw_p49 : lw_okq (⟨"NumberedLoopsModel", "hints", "()V"⟩, 29) := ⟨⟨by decide +kernel, by decide +kernel⟩, List.mem_of_getElem? (i := 703) (by decide +kernel), List.mem_of_getElem? (i := 922) (by decide +kernel), List.mem_of_getElem? (i := 923) (by decide +kernel)⟩
theorem lw_p50 : lw_okq (⟨"NumberedLoopsModel", "isAt", "(II)Z"⟩, 29) := ⟨⟨by decide +kernel, by decide +kernel⟩, List.mem_of_getElem? (i := 703) (by decide +kernel), List.mem_of_getElem? (i := 926) (by decide +kernel), List.mem_of_getElem? (i := 927) (by decide +kernel)⟩
theorem lw_p51 : lw_okq (⟨"NumberedLoopsModel", "atCells", "(I)Z"⟩, 29) := ⟨⟨by decide +kernel, by decide +kernel⟩, List.mem_of_getElem? (i := 703) (by decide +kernel), List.mem_of_getElem? (i := 930) (by decide +kernel), List.mem_of_getElem? (i := 931) (by decide +kernel)⟩
theorem lw_p52 : lw_okq (⟨"NumberedLoopsModel", "open", "()J"⟩, 29) := ⟨⟨by decide +kernel, by decide +kernel⟩, List.mem_of_getElem? (i := 703) (by decide +kernel), List.mem_of_getElem? (i := 937) (by decide +kernel), List.mem_of_getElem? (i := 938) (by decide +kernel)⟩
theorem lw_p53 : lw_okq (⟨"NumberedLoopsModel", "all", "()J"⟩, 29) := ⟨⟨by decide +kernel, by decide +kernel⟩, List.mem_of_getElem? (i := 703) (by decide +kernel), List.mem_of_getElem? (i := 941) (by decide +kernel), List.mem_of_getElem? (i := 942) (by decide +kernel)⟩
theorem lw_p54 : lw_okq (⟨"NumberedLoopsModel", "finds", "(IIIJ)Z"⟩, 29) := ⟨⟨by decide +kernel, by decide +kernel⟩, List.mem_of_getElem? (i := 703) (by decide +kernel), List.mem_of_getElem? (i := 945) (by decide +kernel), List.mem_of_getElem? (i := 946) (by decide +kernel)⟩
theorem lw_p55 : lw_okq (⟨"NumberedLoopsModel", "atPoints", "(I)Z"⟩, 29) := ⟨⟨by decide +kernel, by decide +kernel⟩, List.mem_of_getElem? (i := 703) (by decide +kernel), List.mem_of_getElem? (i := 949) (by decide +kernel), List.mem_of_getElem? (i := 950) (by decide +kernel)⟩
theorem lw_p56 : lw_okq (⟨"NumberedLoopsModel", "atChains", "(I)Z"⟩, 29) := ⟨⟨by decide +kernel, by decide +kernel⟩, List.mem_of_getElem? (i := 703) (by decide +kernel), List.mem_of_getElem? (i := 953) (by decide +kernel), List.mem_of_getElem? (i := 954) (by decide +kernel)⟩
theorem lw_p57 : lw_okq (⟨"NumberedLoopsModel", "chain", "(JJ)J"⟩, 29) := ⟨⟨by decide +kernel, by decide +kernel⟩, List.mem_of_getElem? (i := 703) (by decide +kernel), List.mem_of_getElem? (i := 957) (by decide +kernel), List.mem_of_getElem? (i := 958) (by decide +kernel)⟩
theorem lw_p58 : lw_okq (⟨"NumberedLoopsModel", "isClosed", "(J)Z"⟩, 29) := ⟨⟨by decide +kernel, by decide +kernel⟩, List.mem_of_getElem? (i := 703) (by decide +kernel), List.mem_of_getElem? (i := 961) (by decide +kernel), List.mem_of_getElem? (i := 962) (by decide +kernel)⟩
theorem lw_p59 : lw_okq (⟨"NumberedLoopsModel", "isAmiss", "(J)Z"⟩, 29) := ⟨⟨by decide +kernel, by decide +kernel⟩, List.mem_of_getElem? (i := 703) (by decide +kernel), List.mem_of_getElem? (i := 965) (by decide +kernel), List.mem_of_getElem? (i := 966) (by decide +kernel)⟩
theorem lw_p60 : lw_okq (⟨"NumberedLoopsModel", "atHands", "(I)Z"⟩, 29) := ⟨⟨by decide +kernel, by decide +kernel⟩, List.mem_of_getElem? (i := 703) (by decide +kernel), List.mem_of_getElem? (i := 969) (by decide +kernel), List.mem_of_getElem? (i := 970) (by decide +kernel)⟩
theorem lw_p61 : lw_okq (⟨"NumberedLoopsModel", "tells", "(I)I"⟩, 29) := ⟨⟨by decide +kernel, by decide +kernel⟩, List.mem_of_getElem? (i := 703) (by decide +kernel), List.mem_of_getElem? (i := 973) (by decide +kernel), List.mem_of_getElem? (i := 974) (by decide +kernel)⟩
theorem lw_p62 : lw_okq (⟨"NumberedLoopsModel", "manyBut", "(II)I"⟩, 29) := ⟨⟨by decide +kernel, by decide +kernel⟩, List.mem_of_getElem? (i := 703) (by decide +kernel), List.mem_of_getElem? (i := 1001) (by decide +kernel), List.mem_of_getElem? (i := 1002) (by decide +kernel)⟩
theorem lw_p63 : lw_okq (⟨"NumberedLoopsModel", "laysRings", "()V"⟩, 29) := ⟨⟨by decide +kernel, by decide +kernel⟩, List.mem_of_getElem? (i := 703) (by decide +kernel), List.mem_of_getElem? (i := 1005) (by decide +kernel), List.mem_of_getElem? (i := 1006) (by decide +kernel)⟩
def lw_privs_4 : List (MethodName × Nat) := [(⟨"NumberedLoopsModel", "becomes", "(IJ)V"⟩, 29), (⟨"NumberedLoopsModel", "hints", "()V"⟩, 29), (⟨"NumberedLoopsModel", "isAt", "(II)Z"⟩, 29), (⟨"NumberedLoopsModel", "atCells", "(I)Z"⟩, 29), (⟨"NumberedLoopsModel", "open", "()J"⟩, 29), (⟨"NumberedLoopsModel", "all", "()J"⟩, 29), (⟨"NumberedLoopsModel", "finds", "(IIIJ)Z"⟩, 29), (⟨"NumberedLoopsModel", "atPoints", "(I)Z"⟩, 29), (⟨"NumberedLoopsModel", "atChains", "(I)Z"⟩, 29), (⟨"NumberedLoopsModel", "chain", "(JJ)J"⟩, 29), (⟨"NumberedLoopsModel", "isClosed", "(J)Z"⟩, 29), (⟨"NumberedLoopsModel", "isAmiss", "(J)Z"⟩, 29), (⟨"NumberedLoopsModel", "atHands", "(I)Z"⟩, 29), (⟨"NumberedLoopsModel", "tells", "(I)I"⟩, 29), (⟨"NumberedLoopsModel", "manyBut", "(II)I"⟩, 29), (⟨"NumberedLoopsModel", "laysRings", "()V"⟩, 29)]
theorem lw_r4 : ∀ q ∈ lw_privs_4, lw_okq q := List.forall_mem_cons.mpr ⟨lw_p48, List.forall_mem_cons.mpr ⟨lw_p49, List.forall_mem_cons.mpr ⟨lw_p50, List.forall_mem_cons.mpr ⟨lw_p51, List.forall_mem_cons.mpr ⟨lw_p52, List.forall_mem_cons.mpr ⟨lw_p53, List.forall_mem_cons.mpr ⟨lw_p54, List.forall_mem_cons.mpr ⟨lw_p55, List.forall_mem_cons.mpr ⟨lw_p56, List.forall_mem_cons.mpr ⟨lw_p57, List.forall_mem_cons.mpr ⟨lw_p58, List.forall_mem_cons.mpr ⟨lw_p59, List.forall_mem_cons.mpr ⟨lw_p60, List.forall_mem_cons.mpr ⟨lw_p61, List.forall_mem_cons.mpr ⟨lw_p62, List.forall_mem_cons.mpr ⟨lw_p63, fun _ h => absurd h List.not_mem_nil⟩⟩⟩⟩⟩⟩⟩⟩⟩⟩⟩⟩⟩⟩⟩⟩
theorem lw_p64 : lw_okq (⟨"NumberedLoopsModel", "around", "(I)J"⟩, 29) := ⟨⟨by decide +kernel, by decide +kernel⟩, List.mem_of_getElem? (i := 703) (by decide +kernel), List.mem_of_getElem? (i := 1009) (by decide +kernel), List.mem_of_getElem? (i := 1010) (by decide +kernel)⟩
theorem lw_p65 : lw_okq (⟨"NumberedLoopsModel", "isRing", "(J)Z"⟩, 29) := ⟨⟨by decide +kernel, by decide +kernel⟩, List.mem_of_getElem? (i := 703) (by decide +kernel), List.mem_of_getElem? (i := 1013) (by decide +kernel), List.mem_of_getElem? (i := 1014) (by decide +kernel)⟩
theorem lw_p66 : lw_okq (⟨"NumberedLoopsModel", "fits", "(JI)Z"⟩, 29) := ⟨⟨by decide +kernel, by decide +kernel⟩, List.mem_of_getElem? (i := 703) (by decide +kernel), List.mem_of_getElem? (i := 1017) (by decide +kernel), List.mem_of_getElem? (i := 1018) (by decide +kernel)⟩
theorem lw_p67 : lw_okq (⟨"NumberedLoopsModel", "loopAt", "(I)J"⟩, 29) := ⟨⟨by decide +kernel, by decide +kernel⟩, List.mem_of_getElem? (i := 703) (by decide +kernel), List.mem_of_getElem? (i := 1026) (by decide +kernel), List.mem_of_getElem? (i := 1027) (by decide +kernel)⟩
theorem lw_p68 : lw_okq (⟨"NumberedLoopsModel", "numbered", "()I"⟩, 29) := ⟨⟨by decide +kernel, by decide +kernel⟩, List.mem_of_getElem? (i := 703) (by decide +kernel), List.mem_of_getElem? (i := 1059) (by decide +kernel), List.mem_of_getElem? (i := 1060) (by decide +kernel)⟩
def lw_privs_5 : List (MethodName × Nat) := [(⟨"NumberedLoopsModel", "around", "(I)J"⟩, 29), (⟨"NumberedLoopsModel", "isRing", "(J)Z"⟩, 29), (⟨"NumberedLoopsModel", "fits", "(JI)Z"⟩, 29), (⟨"NumberedLoopsModel", "loopAt", "(I)J"⟩, 29), (⟨"NumberedLoopsModel", "numbered", "()I"⟩, 29)]
theorem lw_r5 : ∀ q ∈ lw_privs_5, lw_okq q := List.forall_mem_cons.mpr ⟨lw_p64, List.forall_mem_cons.mpr ⟨lw_p65, List.forall_mem_cons.mpr ⟨lw_p66, List.forall_mem_cons.mpr ⟨lw_p67, List.forall_mem_cons.mpr ⟨lw_p68, fun _ h => absurd h List.not_mem_nil⟩⟩⟩⟩⟩
def lw_privs : List (MethodName × Nat) := lw_privs_1 ++ (lw_privs_2 ++ (lw_privs_3 ++ (lw_privs_4 ++ (lw_privs_5))))
def lw_tbl : List Cond := k2_sels lw_privs ++ tables_1
theorem lw_privs_ok : ∀ q ∈ lw_privs, lw_okq q := by
  show ∀ q ∈ lw_privs_1 ++ (lw_privs_2 ++ (lw_privs_3 ++ (lw_privs_4 ++ (lw_privs_5)))), lw_okq q
  exact List.forall_mem_append.mpr ⟨lw_r1, List.forall_mem_append.mpr ⟨lw_r2, List.forall_mem_append.mpr ⟨lw_r3, List.forall_mem_append.mpr ⟨lw_r4, lw_r5⟩⟩⟩⟩
-- ===== end of PART A; then your names; then what follows =====
end
section
def RX0 : String := "NumberedLoops$Board"
def TX0 : u_T := fun k => match k with
  | 0 => ("NumberedLoops$Board", "lines", "J", false)
  | 1 => ("NumberedLoops$Board", "blanks", "J", false)
  | _ => ("NumberedLoops$Board", "numbers", "J", false)
def tyX0 : Nat → FieldType := fun k => match k with
  | 0 => .long
  | 1 => .long
  | _ => .long
abbrev wsX00 : List Cond := u_ws RX0 TX0 3
theorem nmX0 : ∀ a, a < 3 → ∀ b, b < 3 → a ≠ b → (TX0 a).2.1 ≠ (TX0 b).2.1 := by decide +kernel
theorem tyX0_ok : ∀ k, k < 3 → parseFieldDescriptor (TX0 k).2.2.1 = some (tyX0 k) := by decide +kernel
abbrev cX0_init : ByteArray := prog_2_method_1_code
def yX0_init : MethodName := ⟨RX0, "<init>", "()V"⟩
abbrev cX0_become : ByteArray := prog_2_method_2_code
def yX0_become : MethodName := ⟨RX0, "become", "(JJJ)V"⟩
abbrev cX0_stateOf : ByteArray := prog_2_method_3_code
def yX0_stateOf : MethodName := ⟨RX0, "stateOf", "(I)I"⟩
abbrev cX0_mark : ByteArray := prog_2_method_4_code
def yX0_mark : MethodName := ⟨RX0, "mark", "(II)V"⟩
abbrev cX0_numberOf : ByteArray := prog_2_method_5_code
def yX0_numberOf : MethodName := ⟨RX0, "numberOf", "(I)I"⟩
abbrev cX0_numberIn : ByteArray := prog_2_method_6_code
def yX0_numberIn : MethodName := ⟨RX0, "numberIn", "(JI)I"⟩
abbrev cX0_withNumber : ByteArray := prog_2_method_7_code
def yX0_withNumber : MethodName := ⟨RX0, "withNumber", "(JII)J"⟩
def RX1 : String := "NumberedLoops$Loops"
def TX1 : u_T := fun k => match k with
  | 0 => ("NumberedLoops$Loops", "shape", "LNumberedLoops$Shape;", true)
  | 1 => ("NumberedLoops$Loops", "rings", "[J", true)
  | 2 => ("NumberedLoops$Loops", "lines", "J", false)
  | 3 => ("NumberedLoops$Loops", "blanks", "J", false)
  | 4 => ("NumberedLoops$Loops", "numbers", "J", false)
  | _ => ("NumberedLoops$Loops", "size", "I", false)
def tyX1 : Nat → FieldType := fun k => match k with
  | 0 => .object "NumberedLoops$Shape"
  | 1 => .array .long
  | 2 => .long
  | 3 => .long
  | 4 => .long
  | _ => .int
abbrev wsX10 : List Cond := u_ws RX1 TX1 6
theorem nmX1 : ∀ a, a < 6 → ∀ b, b < 6 → a ≠ b → (TX1 a).2.1 ≠ (TX1 b).2.1 := by decide +kernel
theorem tyX1_ok : ∀ k, k < 6 → parseFieldDescriptor (TX1 k).2.2.1 = some (tyX1 k) := by decide +kernel
abbrev cX1_init : ByteArray := prog_3_method_1_code
def yX1_init : MethodName := ⟨RX1, "<init>", "(LNumberedLoops$Shape;I)V"⟩
abbrev cX1_search : ByteArray := prog_3_method_2_code
def yX1_search : MethodName := ⟨RX1, "search", "(JJJ)V"⟩
abbrev cX1_ring : ByteArray := prog_3_method_3_code
def yX1_ring : MethodName := ⟨RX1, "ring", "(I)J"⟩
abbrev cX1_inAll : ByteArray := prog_3_method_4_code
def yX1_inAll : MethodName := ⟨RX1, "inAll", "()J"⟩
abbrev cX1_inNone : ByteArray := prog_3_method_5_code
def yX1_inNone : MethodName := ⟨RX1, "inNone", "()J"⟩
abbrev cX1_howManyHave : ByteArray := prog_3_method_6_code
def yX1_howManyHave : MethodName := ⟨RX1, "howManyHave", "(I)I"⟩
abbrev cX1_decide : ByteArray := prog_3_method_7_code
def yX1_decide : MethodName := ⟨RX1, "decide", "(LNumberedLoops$Loops;IJ)V"⟩
abbrev cX1_takeRing : ByteArray := prog_3_method_8_code
def yX1_takeRing : MethodName := ⟨RX1, "takeRing", "(J)V"⟩
abbrev cX1_fits : ByteArray := prog_3_method_9_code
def yX1_fits : MethodName := ⟨RX1, "fits", "(IJ)Z"⟩
abbrev cX1_fitsNumber : ByteArray := prog_3_method_10_code
def yX1_fitsNumber : MethodName := ⟨RX1, "fitsNumber", "(IJJ)Z"⟩
def RX2 : String := "NumberedLoops$Past"
def TX2 : u_T := fun k => match k with
  | 0 => ("NumberedLoops$Past", "shelf", "LNumberedLoops$Shelf;", true)
  | 1 => ("NumberedLoops$Past", "next", "I", false)
  | _ => ("NumberedLoops$Past", "size", "I", false)
def tyX2 : Nat → FieldType := fun k => match k with
  | 0 => .object "NumberedLoops$Shelf"
  | 1 => .int
  | _ => .int
abbrev wsX20 : List Cond := u_ws RX2 TX2 3
theorem nmX2 : ∀ a, a < 3 → ∀ b, b < 3 → a ≠ b → (TX2 a).2.1 ≠ (TX2 b).2.1 := by decide +kernel
theorem tyX2_ok : ∀ k, k < 3 → parseFieldDescriptor (TX2 k).2.2.1 = some (tyX2 k) := by decide +kernel
abbrev cX2_init : ByteArray := prog_4_method_1_code
def yX2_init : MethodName := ⟨RX2, "<init>", "()V"⟩
abbrev cX2_remember : ByteArray := prog_4_method_2_code
def yX2_remember : MethodName := ⟨RX2, "remember", "(LNumberedLoops$Board;)V"⟩
abbrev cX2_giveLatest : ByteArray := prog_4_method_3_code
def yX2_giveLatest : MethodName := ⟨RX2, "giveLatest", "(LNumberedLoops$Board;)V"⟩
abbrev cX2_forget : ByteArray := prog_4_method_4_code
def yX2_forget : MethodName := ⟨RX2, "forget", "()V"⟩
def RX3 : String := "NumberedLoops$Rules"
def TX3 : u_T := fun k => match k with
  | 0 => ("NumberedLoops$Rules", "shape", "LNumberedLoops$Shape;", true)
  | 1 => ("NumberedLoops$Rules", "board", "LNumberedLoops$Board;", true)
  | 2 => ("NumberedLoops$Rules", "kind", "I", false)
  | 3 => ("NumberedLoops$Rules", "rule", "I", false)
  | 4 => ("NumberedLoops$Rules", "place", "I", false)
  | _ => ("NumberedLoops$Rules", "told", "J", false)
def tyX3 : Nat → FieldType := fun k => match k with
  | 0 => .object "NumberedLoops$Shape"
  | 1 => .object "NumberedLoops$Board"
  | 2 => .int
  | 3 => .int
  | 4 => .int
  | _ => .long
abbrev wsX30 : List Cond := u_ws RX3 TX3 6
theorem nmX3 : ∀ a, a < 6 → ∀ b, b < 6 → a ≠ b → (TX3 a).2.1 ≠ (TX3 b).2.1 := by decide +kernel
theorem tyX3_ok : ∀ k, k < 6 → parseFieldDescriptor (TX3 k).2.2.1 = some (tyX3 k) := by decide +kernel
abbrev cX3_init : ByteArray := prog_5_method_1_code
def yX3_init : MethodName := ⟨RX3, "<init>", "(LNumberedLoops$Shape;LNumberedLoops$Board;)V"⟩
abbrev cX3_tells : ByteArray := prog_5_method_2_code
def yX3_tells : MethodName := ⟨RX3, "tells", "()Z"⟩
abbrev cX3_seek : ByteArray := prog_5_method_3_code
def yX3_seek : MethodName := ⟨RX3, "seek", "()V"⟩
abbrev cX3_lookAtCell : ByteArray := prog_5_method_4_code
def yX3_lookAtCell : MethodName := ⟨RX3, "lookAtCell", "(IJ)V"⟩
abbrev cX3_lookAtPoint : ByteArray := prog_5_method_5_code
def yX3_lookAtPoint : MethodName := ⟨RX3, "lookAtPoint", "(J)V"⟩
abbrev cX3_lookAtChain : ByteArray := prog_5_method_6_code
def yX3_lookAtChain : MethodName := ⟨RX3, "lookAtChain", "(II)V"⟩
abbrev cX3_othersThan : ByteArray := prog_5_method_7_code
def yX3_othersThan : MethodName := ⟨RX3, "othersThan", "(J)Z"⟩
abbrev cX3_isClosed : ByteArray := prog_5_method_8_code
def yX3_isClosed : MethodName := ⟨RX3, "isClosed", "(J)Z"⟩
abbrev cX3_chainThatWouldClose : ByteArray := prog_5_method_9_code
def yX3_chainThatWouldClose : MethodName := ⟨RX3, "chainThatWouldClose", "(I)J"⟩
abbrev cX3_missesNumber : ByteArray := prog_5_method_10_code
def yX3_missesNumber : MethodName := ⟨RX3, "missesNumber", "(J)Z"⟩
abbrev cX3_lookAtHands : ByteArray := prog_5_method_11_code
def yX3_lookAtHands : MethodName := ⟨RX3, "lookAtHands", "(II)V"⟩
abbrev cX3_waysPast : ByteArray := prog_5_method_12_code
def yX3_waysPast : MethodName := ⟨RX3, "waysPast", "(I)I"⟩
abbrev cX3_nextOnWay : ByteArray := prog_5_method_13_code
def yX3_nextOnWay : MethodName := ⟨RX3, "nextOnWay", "(IJ)J"⟩
abbrev cX3_openOf : ByteArray := prog_5_method_14_code
def yX3_openOf : MethodName := ⟨RX3, "openOf", "(J)J"⟩
abbrev cX3_tell : ByteArray := prog_5_method_15_code
def yX3_tell : MethodName := ⟨RX3, "tell", "(IJ)V"⟩
def RX4 : String := "NumberedLoops$Shape"
def TX4 : u_T := fun k => match k with
  | 0 => ("NumberedLoops$Shape", "width", "I", false)
  | 1 => ("NumberedLoops$Shape", "height", "I", false)
  | 2 => ("NumberedLoops$Shape", "cells", "I", false)
  | 3 => ("NumberedLoops$Shape", "points", "I", false)
  | 4 => ("NumberedLoops$Shape", "sides", "I", false)
  | 5 => ("NumberedLoops$Shape", "cellSides", "[I", true)
  | 6 => ("NumberedLoops$Shape", "pointSides", "[I", true)
  | 7 => ("NumberedLoops$Shape", "hands", "[I", true)
  | 8 => ("NumberedLoops$Shape", "ends", "[I", true)
  | 9 => ("NumberedLoops$Shape", "round", "[J", true)
  | 10 => ("NumberedLoops$Shape", "meeting", "[J", true)
  | 11 => ("NumberedLoops$Shape", "besides", "[J", true)
  | 12 => ("NumberedLoops$Shape", "settled", "[J", true)
  | _ => ("NumberedLoops$Shape", "corner", "[J", true)
def tyX4 : Nat → FieldType := fun k => match k with
  | 0 => .int
  | 1 => .int
  | 2 => .int
  | 3 => .int
  | 4 => .int
  | 5 => .array .int
  | 6 => .array .int
  | 7 => .array .int
  | 8 => .array .int
  | 9 => .array .long
  | 10 => .array .long
  | 11 => .array .long
  | 12 => .array .long
  | _ => .array .long
abbrev wsX40 : List Cond := u_ws RX4 TX4 14
theorem nmX4 : ∀ a, a < 14 → ∀ b, b < 14 → a ≠ b → (TX4 a).2.1 ≠ (TX4 b).2.1 := by decide +kernel
theorem tyX4_ok : ∀ k, k < 14 → parseFieldDescriptor (TX4 k).2.2.1 = some (tyX4 k) := by decide +kernel
abbrev cX4_init : ByteArray := prog_6_method_1_code
def yX4_init : MethodName := ⟨RX4, "<init>", "()V"⟩
abbrev cX4_become : ByteArray := prog_6_method_2_code
def yX4_become : MethodName := ⟨RX4, "become", "(II)V"⟩
abbrev cX4_layCells : ByteArray := prog_6_method_3_code
def yX4_layCells : MethodName := ⟨RX4, "layCells", "()V"⟩
abbrev cX4_layPoints : ByteArray := prog_6_method_4_code
def yX4_layPoints : MethodName := ⟨RX4, "layPoints", "()V"⟩
abbrev cX4_lying : ByteArray := prog_6_method_5_code
def yX4_lying : MethodName := ⟨RX4, "lying", "(II)I"⟩
abbrev cX4_standing : ByteArray := prog_6_method_6_code
def yX4_standing : MethodName := ⟨RX4, "standing", "(II)I"⟩
abbrev cX4_layCellSide : ByteArray := prog_6_method_7_code
def yX4_layCellSide : MethodName := ⟨RX4, "layCellSide", "(III)V"⟩
abbrev cX4_layPointSide : ByteArray := prog_6_method_8_code
def yX4_layPointSide : MethodName := ⟨RX4, "layPointSide", "(III)V"⟩
abbrev cX4_firstOrSecond : ByteArray := prog_6_method_9_code
def yX4_firstOrSecond : MethodName := ⟨RX4, "firstOrSecond", "(I)I"⟩
abbrev cX4_layBesides : ByteArray := prog_6_method_10_code
def yX4_layBesides : MethodName := ⟨RX4, "layBesides", "()V"⟩
abbrev cX4_laySettled : ByteArray := prog_6_method_11_code
def yX4_laySettled : MethodName := ⟨RX4, "laySettled", "()V"⟩
abbrev cX4_layCorners : ByteArray := prog_6_method_12_code
def yX4_layCorners : MethodName := ⟨RX4, "layCorners", "()V"⟩
abbrev cX4_hasCell : ByteArray := prog_6_method_13_code
def yX4_hasCell : MethodName := ⟨RX4, "hasCell", "(I)Z"⟩
abbrev cX4_hasPoint : ByteArray := prog_6_method_14_code
def yX4_hasPoint : MethodName := ⟨RX4, "hasPoint", "(I)Z"⟩
abbrev cX4_hasSide : ByteArray := prog_6_method_15_code
def yX4_hasSide : MethodName := ⟨RX4, "hasSide", "(I)Z"⟩
abbrev cX4_sideOfCell : ByteArray := prog_6_method_16_code
def yX4_sideOfCell : MethodName := ⟨RX4, "sideOfCell", "(II)I"⟩
abbrev cX4_sideOfPoint : ByteArray := prog_6_method_17_code
def yX4_sideOfPoint : MethodName := ⟨RX4, "sideOfPoint", "(II)I"⟩
abbrev cX4_hand : ByteArray := prog_6_method_18_code
def yX4_hand : MethodName := ⟨RX4, "hand", "(II)I"⟩
abbrev cX4_end : ByteArray := prog_6_method_19_code
def yX4_end : MethodName := ⟨RX4, "end", "(II)I"⟩
abbrev cX4_roundCell : ByteArray := prog_6_method_20_code
def yX4_roundCell : MethodName := ⟨RX4, "roundCell", "(I)J"⟩
abbrev cX4_atPoint : ByteArray := prog_6_method_21_code
def yX4_atPoint : MethodName := ⟨RX4, "atPoint", "(I)J"⟩
abbrev cX4_settledFrom : ByteArray := prog_6_method_22_code
def yX4_settledFrom : MethodName := ⟨RX4, "settledFrom", "(I)J"⟩
abbrev cX4_atCorner : ByteArray := prog_6_method_23_code
def yX4_atCorner : MethodName := ⟨RX4, "atCorner", "(I)J"⟩
abbrev cX4_allSides : ByteArray := prog_6_method_24_code
def yX4_allSides : MethodName := ⟨RX4, "allSides", "()J"⟩
abbrev cX4_chainOf : ByteArray := prog_6_method_25_code
def yX4_chainOf : MethodName := ⟨RX4, "chainOf", "(JI)J"⟩
abbrev cX4_cellsWithin : ByteArray := prog_6_method_26_code
def yX4_cellsWithin : MethodName := ⟨RX4, "cellsWithin", "(J)I"⟩
def RX5 : String := "NumberedLoops$Shelf"
def TX5 : u_T := fun k => match k with
  | 0 => ("NumberedLoops$Shelf", "lines", "[J", true)
  | 1 => ("NumberedLoops$Shelf", "blanks", "[J", true)
  | 2 => ("NumberedLoops$Shelf", "numbers", "[J", true)
  | _ => ("NumberedLoops$Shelf", "kept", "[I", true)
def tyX5 : Nat → FieldType := fun k => match k with
  | 0 => .array .long
  | 1 => .array .long
  | 2 => .array .long
  | _ => .array .int
abbrev wsX50 : List Cond := u_ws RX5 TX5 4
theorem nmX5 : ∀ a, a < 4 → ∀ b, b < 4 → a ≠ b → (TX5 a).2.1 ≠ (TX5 b).2.1 := by decide +kernel
theorem tyX5_ok : ∀ k, k < 4 → parseFieldDescriptor (TX5 k).2.2.1 = some (tyX5 k) := by decide +kernel
abbrev cX5_init : ByteArray := prog_7_method_1_code
def yX5_init : MethodName := ⟨RX5, "<init>", "(I)V"⟩
abbrev cX5_has : ByteArray := prog_7_method_2_code
def yX5_has : MethodName := ⟨RX5, "has", "(I)Z"⟩
abbrev cX5_store : ByteArray := prog_7_method_3_code
def yX5_store : MethodName := ⟨RX5, "store", "(ILNumberedLoops$Board;)V"⟩
abbrev cX5_give : ByteArray := prog_7_method_4_code
def yX5_give : MethodName := ⟨RX5, "give", "(ILNumberedLoops$Board;)V"⟩
abbrev cX5_forget : ByteArray := prog_7_method_5_code
def yX5_forget : MethodName := ⟨RX5, "forget", "()V"⟩
def RX6 : String := "NumberedLoops$Text"
def TX6 : u_T := fun k => match k with
  | 0 => ("NumberedLoops$Text", "letters", "[I", true)
  | 1 => ("NumberedLoops$Text", "length", "I", false)
  | 2 => ("NumberedLoops$Text", "rows", "I", false)
  | 3 => ("NumberedLoops$Text", "width", "I", false)
  | _ => ("NumberedLoops$Text", "told", "J", false)
def tyX6 : Nat → FieldType := fun k => match k with
  | 0 => .array .int
  | 1 => .int
  | 2 => .int
  | 3 => .int
  | _ => .long
abbrev wsX60 : List Cond := u_ws RX6 TX6 5
theorem nmX6 : ∀ a, a < 5 → ∀ b, b < 5 → a ≠ b → (TX6 a).2.1 ≠ (TX6 b).2.1 := by decide +kernel
theorem tyX6_ok : ∀ k, k < 5 → parseFieldDescriptor (TX6 k).2.2.1 = some (tyX6 k) := by decide +kernel
abbrev cX6_init : ByteArray := prog_8_method_1_code
def yX6_init : MethodName := ⟨RX6, "<init>", "()V"⟩
abbrev cX6_takes : ByteArray := prog_8_method_2_code
def yX6_takes : MethodName := ⟨RX6, "takes", "(I)Z"⟩
abbrev cX6_read : ByteArray := prog_8_method_3_code
def yX6_read : MethodName := ⟨RX6, "read", "()I"⟩
abbrev cX6_endsRow : ByteArray := prog_8_method_4_code
def yX6_endsRow : MethodName := ⟨RX6, "endsRow", "(I)Z"⟩
abbrev cX6_fitsRow : ByteArray := prog_8_method_5_code
def yX6_fitsRow : MethodName := ⟨RX6, "fitsRow", "(I)Z"⟩
abbrev cX6_numberOfSign : ByteArray := prog_8_method_6_code
def yX6_numberOfSign : MethodName := ⟨RX6, "numberOfSign", "(I)I"⟩
def RX7 : String := "NumberedLoops"
def TX7 : u_T := fun k => match k with
  | 0 => ("NumberedLoops", "text", "LNumberedLoops$Text;", true)
  | 1 => ("NumberedLoops", "shape", "LNumberedLoops$Shape;", true)
  | 2 => ("NumberedLoops", "board", "LNumberedLoops$Board;", true)
  | 3 => ("NumberedLoops", "past", "LNumberedLoops$Past;", true)
  | 4 => ("NumberedLoops", "images", "LNumberedLoops$Shelf;", true)
  | 5 => ("NumberedLoops", "rules", "LNumberedLoops$Rules;", true)
  | 6 => ("NumberedLoops", "loops", "LNumberedLoops$Loops;", true)
  | 7 => ("NumberedLoops", "probe", "LNumberedLoops$Loops;", true)
  | _ => ("NumberedLoops", "searched", "Z", false)
def tyX7 : Nat → FieldType := fun k => match k with
  | 0 => .object "NumberedLoops$Text"
  | 1 => .object "NumberedLoops$Shape"
  | 2 => .object "NumberedLoops$Board"
  | 3 => .object "NumberedLoops$Past"
  | 4 => .object "NumberedLoops$Shelf"
  | 5 => .object "NumberedLoops$Rules"
  | 6 => .object "NumberedLoops$Loops"
  | 7 => .object "NumberedLoops$Loops"
  | _ => .boolean
abbrev wsX70 : List Cond := u_ws RX7 TX7 9
theorem nmX7 : ∀ a, a < 9 → ∀ b, b < 9 → a ≠ b → (TX7 a).2.1 ≠ (TX7 b).2.1 := by decide +kernel
theorem tyX7_ok : ∀ k, k < 9 → parseFieldDescriptor (TX7 k).2.2.1 = some (tyX7 k) := by decide +kernel
abbrev cX7_init : ByteArray := prog_1_method_1_code
def yX7_init : MethodName := ⟨RX7, "<init>", "()V"⟩
abbrev cX7_type : ByteArray := prog_1_method_2_code
def yX7_type : MethodName := ⟨RX7, "type", "(I)I"⟩
abbrev cX7_clear : ByteArray := prog_1_method_3_code
def yX7_clear : MethodName := ⟨RX7, "clear", "()I"⟩
abbrev cX7_grid : ByteArray := prog_1_method_4_code
def yX7_grid : MethodName := ⟨RX7, "grid", "()I"⟩
abbrev cX7_number : ByteArray := prog_1_method_5_code
def yX7_number : MethodName := ⟨RX7, "number", "(I)I"⟩
abbrev cX7_side : ByteArray := prog_1_method_6_code
def yX7_side : MethodName := ⟨RX7, "side", "(I)I"⟩
abbrev cX7_sideOf : ByteArray := prog_1_method_7_code
def yX7_sideOf : MethodName := ⟨RX7, "sideOf", "(III)I"⟩
abbrev cX7_marks : ByteArray := prog_1_method_8_code
def yX7_marks : MethodName := ⟨RX7, "marks", "(II)I"⟩
abbrev cX7_numbers : ByteArray := prog_1_method_9_code
def yX7_numbers : MethodName := ⟨RX7, "numbers", "(II)I"⟩
abbrev cX7_step : ByteArray := prog_1_method_10_code
def yX7_step : MethodName := ⟨RX7, "step", "()I"⟩
abbrev cX7_spreads : ByteArray := prog_1_method_11_code
def yX7_spreads : MethodName := ⟨RX7, "spreads", "()I"⟩
abbrev cX7_undo : ByteArray := prog_1_method_12_code
def yX7_undo : MethodName := ⟨RX7, "undo", "()I"⟩
abbrev cX7_hint : ByteArray := prog_1_method_13_code
def yX7_hint : MethodName := ⟨RX7, "hint", "(I)I"⟩
abbrev cX7_hinted : ByteArray := prog_1_method_14_code
def yX7_hinted : MethodName := ⟨RX7, "hinted", "()J"⟩
abbrev cX7_many : ByteArray := prog_1_method_15_code
def yX7_many : MethodName := ⟨RX7, "many", "(I)I"⟩
abbrev cX7_loop : ByteArray := prog_1_method_16_code
def yX7_loop : MethodName := ⟨RX7, "loop", "(I)J"⟩
abbrev cX7_forced : ByteArray := prog_1_method_17_code
def yX7_forced : MethodName := ⟨RX7, "forced", "(I)J"⟩
abbrev cX7_inside : ByteArray := prog_1_method_18_code
def yX7_inside : MethodName := ⟨RX7, "inside", "(I)I"⟩
abbrev cX7_numbersThat : ByteArray := prog_1_method_19_code
def yX7_numbersThat : MethodName := ⟨RX7, "numbersThat", "(I)I"⟩
abbrev cX7_tryNext : ByteArray := prog_1_method_20_code
def yX7_tryNext : MethodName := ⟨RX7, "tryNext", "()I"⟩
abbrev cX7_keep : ByteArray := prog_1_method_21_code
def yX7_keep : MethodName := ⟨RX7, "keep", "(I)I"⟩
abbrev cX7_back : ByteArray := prog_1_method_22_code
def yX7_back : MethodName := ⟨RX7, "back", "(I)I"⟩
abbrev cX7_count : ByteArray := prog_1_method_23_code
def yX7_count : MethodName := ⟨RX7, "count", "(I)I"⟩
abbrev cX7_beforeChange : ByteArray := prog_1_method_24_code
def yX7_beforeChange : MethodName := ⟨RX7, "beforeChange", "()V"⟩
abbrev cX7_follow : ByteArray := prog_1_method_25_code
def yX7_follow : MethodName := ⟨RX7, "follow", "()I"⟩
abbrev cX7_searchLoops : ByteArray := prog_1_method_26_code
def yX7_searchLoops : MethodName := ⟨RX7, "searchLoops", "()V"⟩
abbrev cX7_openSides : ByteArray := prog_1_method_27_code
def yX7_openSides : MethodName := ⟨RX7, "openSides", "()I"⟩
abbrev cX7_cellsWithNumber : ByteArray := prog_1_method_28_code
def yX7_cellsWithNumber : MethodName := ⟨RX7, "cellsWithNumber", "()I"⟩
abbrev cX7_at : ByteArray := prog_1_method_29_code
def yX7_at : MethodName := ⟨RX7, "at", "([II)I"⟩
abbrev cX7_at_ : ByteArray := prog_1_method_30_code
def yX7_at_ : MethodName := ⟨RX7, "at", "([JI)J"⟩
abbrev cX7_put : ByteArray := prog_1_method_31_code
def yX7_put : MethodName := ⟨RX7, "put", "([III)V"⟩
abbrev cX7_put_ : ByteArray := prog_1_method_32_code
def yX7_put_ : MethodName := ⟨RX7, "put", "([JIJ)V"⟩
abbrev cX7_bit : ByteArray := prog_1_method_33_code
def yX7_bit : MethodName := ⟨RX7, "bit", "(I)J"⟩
def RX8 : String := "NumberedLoopsModel"
def TX8 : u_T := fun k => match k with
  | 0 => ("NumberedLoopsModel", "numbers", "J", false)
  | 1 => ("NumberedLoopsModel", "lines", "J", false)
  | 2 => ("NumberedLoopsModel", "blanks", "J", false)
  | 3 => ("NumberedLoopsModel", "width", "I", false)
  | 4 => ("NumberedLoopsModel", "height", "I", false)
  | 5 => ("NumberedLoopsModel", "cells", "I", false)
  | 6 => ("NumberedLoopsModel", "sides", "I", false)
  | 7 => ("NumberedLoopsModel", "atCell", "[J", true)
  | 8 => ("NumberedLoopsModel", "atPoint", "[J", true)
  | 9 => ("NumberedLoopsModel", "handOf", "[I", true)
  | 10 => ("NumberedLoopsModel", "text", "[I", true)
  | 11 => ("NumberedLoopsModel", "letters", "I", false)
  | 12 => ("NumberedLoopsModel", "past", "[J", true)
  | 13 => ("NumberedLoopsModel", "undos", "I", false)
  | 14 => ("NumberedLoopsModel", "images", "[J", true)
  | 15 => ("NumberedLoopsModel", "isKept", "[Z", true)
  | 16 => ("NumberedLoopsModel", "here", "I", false)
  | 17 => ("NumberedLoopsModel", "rows", "I", false)
  | 18 => ("NumberedLoopsModel", "wide", "I", false)
  | 19 => ("NumberedLoopsModel", "told", "J", false)
  | 20 => ("NumberedLoopsModel", "hintIs", "I", false)
  | 21 => ("NumberedLoopsModel", "hintRule", "I", false)
  | 22 => ("NumberedLoopsModel", "hintPlace", "I", false)
  | 23 => ("NumberedLoopsModel", "hintSides", "J", false)
  | 24 => ("NumberedLoopsModel", "ring", "[J", true)
  | 25 => ("NumberedLoopsModel", "rings", "I", false)
  | 26 => ("NumberedLoopsModel", "ringsWide", "I", false)
  | 27 => ("NumberedLoopsModel", "ringsHigh", "I", false)
  | _ => ("NumberedLoopsModel", "with", "[I", true)
def tyX8 : Nat → FieldType := fun k => match k with
  | 0 => .long
  | 1 => .long
  | 2 => .long
  | 3 => .int
  | 4 => .int
  | 5 => .int
  | 6 => .int
  | 7 => .array .long
  | 8 => .array .long
  | 9 => .array .int
  | 10 => .array .int
  | 11 => .int
  | 12 => .array .long
  | 13 => .int
  | 14 => .array .long
  | 15 => .array .boolean
  | 16 => .int
  | 17 => .int
  | 18 => .int
  | 19 => .long
  | 20 => .int
  | 21 => .int
  | 22 => .int
  | 23 => .long
  | 24 => .array .long
  | 25 => .int
  | 26 => .int
  | 27 => .int
  | _ => .array .int
abbrev wsX80 : List Cond := u_ws RX8 TX8 29
theorem nmX8 : ∀ a, a < 29 → ∀ b, b < 29 → a ≠ b → (TX8 a).2.1 ≠ (TX8 b).2.1 := by decide +kernel
theorem tyX8_ok : ∀ k, k < 29 → parseFieldDescriptor (TX8 k).2.2.1 = some (tyX8 k) := by decide +kernel
abbrev cX8_init : ByteArray := prog_10_method_1_code
def yX8_init : MethodName := ⟨RX8, "<init>", "()V"⟩
abbrev cX8_in : ByteArray := prog_10_method_3_code
def yX8_in : MethodName := ⟨RX8, "in", "(JJJ)Z"⟩
abbrev cX8_has : ByteArray := prog_10_method_4_code
def yX8_has : MethodName := ⟨RX8, "has", "(JI)Z"⟩
abbrev cX8_ones : ByteArray := prog_10_method_5_code
def yX8_ones : MethodName := ⟨RX8, "ones", "(J)I"⟩
abbrev cX8_points : ByteArray := prog_10_method_6_code
def yX8_points : MethodName := ⟨RX8, "points", "()I"⟩
abbrev cX8_lying : ByteArray := prog_10_method_7_code
def yX8_lying : MethodName := ⟨RX8, "lying", "(II)I"⟩
abbrev cX8_standing : ByteArray := prog_10_method_8_code
def yX8_standing : MethodName := ⟨RX8, "standing", "(II)I"⟩
abbrev cX8_cellAt : ByteArray := prog_10_method_9_code
def yX8_cellAt : MethodName := ⟨RX8, "cellAt", "(II)I"⟩
abbrev cX8_joins : ByteArray := prog_10_method_10_code
def yX8_joins : MethodName := ⟨RX8, "joins", "(IIIII)V"⟩
abbrev cX8_laysGrid : ByteArray := prog_10_method_11_code
def yX8_laysGrid : MethodName := ⟨RX8, "laysGrid", "()V"⟩
abbrev cX8_all : ByteArray := prog_10_method_12_code
def yX8_all : MethodName := ⟨RX8, "all", "()J"⟩
abbrev cX8_open : ByteArray := prog_10_method_13_code
def yX8_open : MethodName := ⟨RX8, "open", "()J"⟩
abbrev cX8_numberAt : ByteArray := prog_10_method_14_code
def yX8_numberAt : MethodName := ⟨RX8, "numberAt", "(I)I"⟩
abbrev cX8_isMore : ByteArray := prog_10_method_15_code
def yX8_isMore : MethodName := ⟨RX8, "isMore", "()Z"⟩
abbrev cX8_isSign : ByteArray := prog_10_method_16_code
def yX8_isSign : MethodName := ⟨RX8, "isSign", "()Z"⟩
abbrev cX8_readsRow : ByteArray := prog_10_method_17_code
def yX8_readsRow : MethodName := ⟨RX8, "readsRow", "()Z"⟩
abbrev cX8_reads : ByteArray := prog_10_method_18_code
def yX8_reads : MethodName := ⟨RX8, "reads", "()Z"⟩
abbrev cX8_type : ByteArray := prog_10_method_19_code
def yX8_type : MethodName := ⟨RX8, "type", "(I)I"⟩
abbrev cX8_clear : ByteArray := prog_10_method_20_code
def yX8_clear : MethodName := ⟨RX8, "clear", "()I"⟩
abbrev cX8_grid : ByteArray := prog_10_method_21_code
def yX8_grid : MethodName := ⟨RX8, "grid", "()I"⟩
abbrev cX8_isCell : ByteArray := prog_10_method_22_code
def yX8_isCell : MethodName := ⟨RX8, "isCell", "(I)Z"⟩
abbrev cX8_isSide : ByteArray := prog_10_method_23_code
def yX8_isSide : MethodName := ⟨RX8, "isSide", "(I)Z"⟩
abbrev cX8_number : ByteArray := prog_10_method_24_code
def yX8_number : MethodName := ⟨RX8, "number", "(I)I"⟩
abbrev cX8_side : ByteArray := prog_10_method_25_code
def yX8_side : MethodName := ⟨RX8, "side", "(I)I"⟩
abbrev cX8_sideOfCell : ByteArray := prog_10_method_26_code
def yX8_sideOfCell : MethodName := ⟨RX8, "sideOfCell", "(II)I"⟩
abbrev cX8_sideOfPoint : ByteArray := prog_10_method_27_code
def yX8_sideOfPoint : MethodName := ⟨RX8, "sideOfPoint", "(II)I"⟩
abbrev cX8_sideOf : ByteArray := prog_10_method_28_code
def yX8_sideOf : MethodName := ⟨RX8, "sideOf", "(III)I"⟩
abbrev cX8_minds : ByteArray := prog_10_method_29_code
def yX8_minds : MethodName := ⟨RX8, "minds", "()V"⟩
abbrev cX8_sets : ByteArray := prog_10_method_30_code
def yX8_sets : MethodName := ⟨RX8, "sets", "(JI)V"⟩
abbrev cX8_becomes : ByteArray := prog_10_method_31_code
def yX8_becomes : MethodName := ⟨RX8, "becomes", "(IJ)V"⟩
abbrev cX8_marks : ByteArray := prog_10_method_32_code
def yX8_marks : MethodName := ⟨RX8, "marks", "(II)I"⟩
abbrev cX8_numbers : ByteArray := prog_10_method_33_code
def yX8_numbers : MethodName := ⟨RX8, "numbers", "(II)I"⟩
abbrev cX8_finds : ByteArray := prog_10_method_34_code
def yX8_finds : MethodName := ⟨RX8, "finds", "(IIIJ)Z"⟩
abbrev cX8_atCells : ByteArray := prog_10_method_35_code
def yX8_atCells : MethodName := ⟨RX8, "atCells", "(I)Z"⟩
abbrev cX8_atPoints : ByteArray := prog_10_method_36_code
def yX8_atPoints : MethodName := ⟨RX8, "atPoints", "(I)Z"⟩
abbrev cX8_chain : ByteArray := prog_10_method_37_code
def yX8_chain : MethodName := ⟨RX8, "chain", "(JJ)J"⟩
abbrev cX8_isClosed : ByteArray := prog_10_method_38_code
def yX8_isClosed : MethodName := ⟨RX8, "isClosed", "(J)Z"⟩
abbrev cX8_isAmiss : ByteArray := prog_10_method_39_code
def yX8_isAmiss : MethodName := ⟨RX8, "isAmiss", "(J)Z"⟩
abbrev cX8_atChains : ByteArray := prog_10_method_40_code
def yX8_atChains : MethodName := ⟨RX8, "atChains", "(I)Z"⟩
abbrev cX8_tells : ByteArray := prog_10_method_41_code
def yX8_tells : MethodName := ⟨RX8, "tells", "(I)I"⟩
abbrev cX8_goes : ByteArray := prog_10_method_42_code
def yX8_goes : MethodName := ⟨RX8, "goes", "(JIIZ)J"⟩
abbrev cX8_atHands : ByteArray := prog_10_method_43_code
def yX8_atHands : MethodName := ⟨RX8, "atHands", "(I)Z"⟩
abbrev cX8_isAt : ByteArray := prog_10_method_44_code
def yX8_isAt : MethodName := ⟨RX8, "isAt", "(II)Z"⟩
abbrev cX8_hints : ByteArray := prog_10_method_45_code
def yX8_hints : MethodName := ⟨RX8, "hints", "()V"⟩
abbrev cX8_step : ByteArray := prog_10_method_46_code
def yX8_step : MethodName := ⟨RX8, "step", "()I"⟩
abbrev cX8_spreads : ByteArray := prog_10_method_47_code
def yX8_spreads : MethodName := ⟨RX8, "spreads", "()I"⟩
abbrev cX8_undo : ByteArray := prog_10_method_48_code
def yX8_undo : MethodName := ⟨RX8, "undo", "()I"⟩
abbrev cX8_hint : ByteArray := prog_10_method_49_code
def yX8_hint : MethodName := ⟨RX8, "hint", "(I)I"⟩
abbrev cX8_hinted : ByteArray := prog_10_method_50_code
def yX8_hinted : MethodName := ⟨RX8, "hinted", "()J"⟩
abbrev cX8_around : ByteArray := prog_10_method_51_code
def yX8_around : MethodName := ⟨RX8, "around", "(I)J"⟩
abbrev cX8_isRing : ByteArray := prog_10_method_52_code
def yX8_isRing : MethodName := ⟨RX8, "isRing", "(J)Z"⟩
abbrev cX8_laysRings : ByteArray := prog_10_method_53_code
def yX8_laysRings : MethodName := ⟨RX8, "laysRings", "()V"⟩
abbrev cX8_fits : ByteArray := prog_10_method_54_code
def yX8_fits : MethodName := ⟨RX8, "fits", "(JI)Z"⟩
abbrev cX8_manyBut : ByteArray := prog_10_method_55_code
def yX8_manyBut : MethodName := ⟨RX8, "manyBut", "(II)I"⟩
abbrev cX8_many : ByteArray := prog_10_method_56_code
def yX8_many : MethodName := ⟨RX8, "many", "(I)I"⟩
abbrev cX8_loopAt : ByteArray := prog_10_method_57_code
def yX8_loopAt : MethodName := ⟨RX8, "loopAt", "(I)J"⟩
abbrev cX8_loop : ByteArray := prog_10_method_58_code
def yX8_loop : MethodName := ⟨RX8, "loop", "(I)J"⟩
abbrev cX8_forced : ByteArray := prog_10_method_59_code
def yX8_forced : MethodName := ⟨RX8, "forced", "(I)J"⟩
abbrev cX8_inside : ByteArray := prog_10_method_60_code
def yX8_inside : MethodName := ⟨RX8, "inside", "(I)I"⟩
abbrev cX8_numbersThat : ByteArray := prog_10_method_61_code
def yX8_numbersThat : MethodName := ⟨RX8, "numbersThat", "(I)I"⟩
abbrev cX8_tryNext : ByteArray := prog_10_method_62_code
def yX8_tryNext : MethodName := ⟨RX8, "tryNext", "()I"⟩
abbrev cX8_keep : ByteArray := prog_10_method_63_code
def yX8_keep : MethodName := ⟨RX8, "keep", "(I)I"⟩
abbrev cX8_back : ByteArray := prog_10_method_64_code
def yX8_back : MethodName := ⟨RX8, "back", "(I)I"⟩
abbrev cX8_numbered : ByteArray := prog_10_method_65_code
def yX8_numbered : MethodName := ⟨RX8, "numbered", "()I"⟩
abbrev cX8_count : ByteArray := prog_10_method_66_code
def yX8_count : MethodName := ⟨RX8, "count", "(I)I"⟩
def RJ6 : String := "java/lang/Integer"
def TJ6 : u_T := fun k => match k with
  | _ => ("", "", "", false)
def tyJ6 : Nat → FieldType := fun k => match k with
  | _ => .int
abbrev wsJ60 : List Cond := u_ws RJ6 TJ6 0
theorem nmJ6 : ∀ a, a < 0 → ∀ b, b < 0 → a ≠ b → (TJ6 a).2.1 ≠ (TJ6 b).2.1 := by decide +kernel
theorem tyJ6_ok : ∀ k, k < 0 → parseFieldDescriptor (TJ6 k).2.2.1 = some (tyJ6 k) := by decide +kernel
abbrev cJ6_numberOfTrailingZeros_0f7a4 : ByteArray := prog_11_method_48_code
def yJ6_numberOfTrailingZeros_0f7a4 : MethodName := ⟨RJ6, "numberOfTrailingZeros", "(I)I"⟩
def RJ13 : String := "java/lang/Long"
def TJ13 : u_T := fun k => match k with
  | _ => ("", "", "", false)
def tyJ13 : Nat → FieldType := fun k => match k with
  | _ => .int
abbrev wsJ130 : List Cond := u_ws RJ13 TJ13 0
theorem nmJ13 : ∀ a, a < 0 → ∀ b, b < 0 → a ≠ b → (TJ13 a).2.1 ≠ (TJ13 b).2.1 := by decide +kernel
theorem tyJ13_ok : ∀ k, k < 0 → parseFieldDescriptor (TJ13 k).2.2.1 = some (tyJ13 k) := by decide +kernel
abbrev cJ13_numberOfTrailingZeros_95d88 : ByteArray := prog_12_method_49_code
def yJ13_numberOfTrailingZeros_95d88 : MethodName := ⟨RJ13, "numberOfTrailingZeros", "(J)I"⟩
abbrev cJ13_bitCount_95d88 : ByteArray := prog_12_method_50_code
def yJ13_bitCount_95d88 : MethodName := ⟨RJ13, "bitCount", "(J)I"⟩
def RJ9 : String := "java/lang/Math"
def TJ9 : u_T := fun k => match k with
  | _ => ("", "", "", false)
def tyJ9 : Nat → FieldType := fun k => match k with
  | _ => .int
abbrev wsJ90 : List Cond := u_ws RJ9 TJ9 0
theorem nmJ9 : ∀ a, a < 0 → ∀ b, b < 0 → a ≠ b → (TJ9 a).2.1 ≠ (TJ9 b).2.1 := by decide +kernel
theorem tyJ9_ok : ∀ k, k < 0 → parseFieldDescriptor (TJ9 k).2.2.1 = some (tyJ9 k) := by decide +kernel
abbrev cJ9_max_7cf53 : ByteArray := prog_13_method_65_code
def yJ9_max_7cf53 : MethodName := ⟨RJ9, "max", "(II)I"⟩
abbrev cJ9_min_7cf53 : ByteArray := prog_13_method_69_code
def yJ9_min_7cf53 : MethodName := ⟨RJ9, "min", "(II)I"⟩
def RJ7 : String := "java/util/Arrays"
def TJ7 : u_T := fun k => match k with
  | _ => ("", "", "", false)
def tyJ7 : Nat → FieldType := fun k => match k with
  | _ => .int
abbrev wsJ70 : List Cond := u_ws RJ7 TJ7 0
theorem nmJ7 : ∀ a, a < 0 → ∀ b, b < 0 → a ≠ b → (TJ7 a).2.1 ≠ (TJ7 b).2.1 := by decide +kernel
theorem tyJ7_ok : ∀ k, k < 0 → parseFieldDescriptor (TJ7 k).2.2.1 = some (tyJ7 k) := by decide +kernel
abbrev cJ7_fill_d0a16 : ByteArray := prog_15_method_101_code
def yJ7_fill_d0a16 : MethodName := ⟨RJ7, "fill", "([JJ)V"⟩
abbrev cJ7_fill_53178 : ByteArray := prog_15_method_103_code
def yJ7_fill_53178 : MethodName := ⟨RJ7, "fill", "([II)V"⟩
def RL : String := "NumberedLoopsLaw"
abbrev cL_law : ByteArray := code
def yL_law : MethodName := ⟨RL, "law", "([I)Z"⟩
abbrev vwCl : List vw_C := [(RX0, TX0, 3), (RX1, TX1, 6), (RX2, TX2, 3), (RX3, TX3, 6), (RX4, TX4, 14), (RX5, TX5, 4), (RX6, TX6, 5), (RX7, TX7, 9), (RX8, TX8, 29)]
end
section
theorem dX0_init_0 : decode cX0_init 0 = .ok (.aload_n 0, 1) := by decide +kernel
theorem dX0_init_1 : decode cX0_init 1 = .ok (.invokespecial 3, 3) := by decide +kernel
theorem dX0_init_4 : decode cX0_init 4 = .ok (.aload_n 0, 1) := by decide +kernel
theorem dX0_init_5 : decode cX0_init 5 = .ok (.lconst 0, 1) := by decide +kernel
theorem dX0_init_6 : decode cX0_init 6 = .ok (.putfield 9, 3) := by decide +kernel
theorem dX0_init_9 : decode cX0_init 9 = .ok (.aload_n 0, 1) := by decide +kernel
theorem dX0_init_10 : decode cX0_init 10 = .ok (.lconst 0, 1) := by decide +kernel
theorem dX0_init_11 : decode cX0_init 11 = .ok (.putfield 15, 3) := by decide +kernel
theorem dX0_init_14 : decode cX0_init 14 = .ok (.aload_n 0, 1) := by decide +kernel
theorem dX0_init_15 : decode cX0_init 15 = .ok (.lconst 0, 1) := by decide +kernel
theorem dX0_init_16 : decode cX0_init 16 = .ok (.putfield 18, 3) := by decide +kernel
theorem dX0_init_19 : decode cX0_init 19 = .ok (.return_, 1) := by decide +kernel
theorem dX0_become_0 : decode cX0_become 0 = .ok (.aload_n 0, 1) := by decide +kernel
theorem dX0_become_1 : decode cX0_become 1 = .ok (.lload_n 1, 1) := by decide +kernel
theorem dX0_become_2 : decode cX0_become 2 = .ok (.putfield 9, 3) := by decide +kernel
theorem dX0_become_5 : decode cX0_become 5 = .ok (.aload_n 0, 1) := by decide +kernel
theorem dX0_become_6 : decode cX0_become 6 = .ok (.lload_n 3, 1) := by decide +kernel
theorem dX0_become_7 : decode cX0_become 7 = .ok (.putfield 15, 3) := by decide +kernel
theorem dX0_become_10 : decode cX0_become 10 = .ok (.aload_n 0, 1) := by decide +kernel
theorem dX0_become_11 : decode cX0_become 11 = .ok (.lload 5, 2) := by decide +kernel
theorem dX0_become_13 : decode cX0_become 13 = .ok (.putfield 18, 3) := by decide +kernel
theorem dX0_become_16 : decode cX0_become 16 = .ok (.return_, 1) := by decide +kernel
theorem dX0_stateOf_0 : decode cX0_stateOf 0 = .ok (.aload_n 0, 1) := by decide +kernel
theorem dX0_stateOf_1 : decode cX0_stateOf 1 = .ok (.getfield 9, 3) := by decide +kernel
theorem dX0_stateOf_4 : decode cX0_stateOf 4 = .ok (.iload_n 1, 1) := by decide +kernel
theorem dX0_stateOf_5 : decode cX0_stateOf 5 = .ok (.invokestatic 21, 3) := by decide +kernel
theorem dX0_stateOf_8 : decode cX0_stateOf 8 = .ok (.land, 1) := by decide +kernel
theorem dX0_stateOf_9 : decode cX0_stateOf 9 = .ok (.lconst 0, 1) := by decide +kernel
theorem dX0_stateOf_10 : decode cX0_stateOf 10 = .ok (.lcmp, 1) := by decide +kernel
theorem dX0_stateOf_11 : decode cX0_stateOf 11 = .ok (.ifCond .eq 5, 3) := by decide +kernel
theorem dX0_stateOf_14 : decode cX0_stateOf 14 = .ok (.iconst 1, 1) := by decide +kernel
theorem dX0_stateOf_15 : decode cX0_stateOf 15 = .ok (.ireturn, 1) := by decide +kernel
theorem dX0_stateOf_16 : decode cX0_stateOf 16 = .ok (.aload_n 0, 1) := by decide +kernel
theorem dX0_stateOf_17 : decode cX0_stateOf 17 = .ok (.getfield 15, 3) := by decide +kernel
theorem dX0_stateOf_20 : decode cX0_stateOf 20 = .ok (.iload_n 1, 1) := by decide +kernel
theorem dX0_stateOf_21 : decode cX0_stateOf 21 = .ok (.invokestatic 21, 3) := by decide +kernel
theorem dX0_stateOf_24 : decode cX0_stateOf 24 = .ok (.land, 1) := by decide +kernel
theorem dX0_stateOf_25 : decode cX0_stateOf 25 = .ok (.lconst 0, 1) := by decide +kernel
theorem dX0_stateOf_26 : decode cX0_stateOf 26 = .ok (.lcmp, 1) := by decide +kernel
theorem dX0_stateOf_27 : decode cX0_stateOf 27 = .ok (.ifCond .eq 7, 3) := by decide +kernel
theorem dX0_stateOf_30 : decode cX0_stateOf 30 = .ok (.iconst 2, 1) := by decide +kernel
theorem dX0_stateOf_31 : decode cX0_stateOf 31 = .ok (.goto 4, 3) := by decide +kernel
theorem dX0_stateOf_34 : decode cX0_stateOf 34 = .ok (.iconst 0, 1) := by decide +kernel
theorem dX0_stateOf_35 : decode cX0_stateOf 35 = .ok (.ireturn, 1) := by decide +kernel
theorem dX0_mark_0 : decode cX0_mark 0 = .ok (.aload_n 0, 1) := by decide +kernel
theorem dX0_mark_1 : decode cX0_mark 1 = .ok (.dup, 1) := by decide +kernel
theorem dX0_mark_2 : decode cX0_mark 2 = .ok (.getfield 9, 3) := by decide +kernel
theorem dX0_mark_5 : decode cX0_mark 5 = .ok (.iload_n 1, 1) := by decide +kernel
theorem dX0_mark_6 : decode cX0_mark 6 = .ok (.invokestatic 21, 3) := by decide +kernel
theorem dX0_mark_9 : decode cX0_mark 9 = .ok (.ldc2_w 25, 3) := by decide +kernel
theorem dX0_mark_12 : decode cX0_mark 12 = .ok (.lxor, 1) := by decide +kernel
theorem dX0_mark_13 : decode cX0_mark 13 = .ok (.land, 1) := by decide +kernel
theorem dX0_mark_14 : decode cX0_mark 14 = .ok (.putfield 9, 3) := by decide +kernel
theorem dX0_mark_17 : decode cX0_mark 17 = .ok (.aload_n 0, 1) := by decide +kernel
theorem dX0_mark_18 : decode cX0_mark 18 = .ok (.dup, 1) := by decide +kernel
theorem dX0_mark_19 : decode cX0_mark 19 = .ok (.getfield 15, 3) := by decide +kernel
theorem dX0_mark_22 : decode cX0_mark 22 = .ok (.iload_n 1, 1) := by decide +kernel
theorem dX0_mark_23 : decode cX0_mark 23 = .ok (.invokestatic 21, 3) := by decide +kernel
theorem dX0_mark_26 : decode cX0_mark 26 = .ok (.ldc2_w 25, 3) := by decide +kernel
theorem dX0_mark_29 : decode cX0_mark 29 = .ok (.lxor, 1) := by decide +kernel
theorem dX0_mark_30 : decode cX0_mark 30 = .ok (.land, 1) := by decide +kernel
theorem dX0_mark_31 : decode cX0_mark 31 = .ok (.putfield 15, 3) := by decide +kernel
theorem dX0_mark_34 : decode cX0_mark 34 = .ok (.iload_n 2, 1) := by decide +kernel
theorem dX0_mark_35 : decode cX0_mark 35 = .ok (.iconst 1, 1) := by decide +kernel
theorem dX0_mark_36 : decode cX0_mark 36 = .ok (.if_icmp .ne 19, 3) := by decide +kernel
theorem dX0_mark_39 : decode cX0_mark 39 = .ok (.aload_n 0, 1) := by decide +kernel
theorem dX0_mark_40 : decode cX0_mark 40 = .ok (.dup, 1) := by decide +kernel
theorem dX0_mark_41 : decode cX0_mark 41 = .ok (.getfield 9, 3) := by decide +kernel
theorem dX0_mark_44 : decode cX0_mark 44 = .ok (.iload_n 1, 1) := by decide +kernel
theorem dX0_mark_45 : decode cX0_mark 45 = .ok (.invokestatic 21, 3) := by decide +kernel
theorem dX0_mark_48 : decode cX0_mark 48 = .ok (.lor, 1) := by decide +kernel
theorem dX0_mark_49 : decode cX0_mark 49 = .ok (.putfield 9, 3) := by decide +kernel
theorem dX0_mark_52 : decode cX0_mark 52 = .ok (.goto 21, 3) := by decide +kernel
theorem dX0_mark_55 : decode cX0_mark 55 = .ok (.iload_n 2, 1) := by decide +kernel
theorem dX0_mark_56 : decode cX0_mark 56 = .ok (.iconst 2, 1) := by decide +kernel
theorem dX0_mark_57 : decode cX0_mark 57 = .ok (.if_icmp .ne 16, 3) := by decide +kernel
theorem dX0_mark_60 : decode cX0_mark 60 = .ok (.aload_n 0, 1) := by decide +kernel
theorem dX0_mark_61 : decode cX0_mark 61 = .ok (.dup, 1) := by decide +kernel
theorem dX0_mark_62 : decode cX0_mark 62 = .ok (.getfield 15, 3) := by decide +kernel
theorem dX0_mark_65 : decode cX0_mark 65 = .ok (.iload_n 1, 1) := by decide +kernel
theorem dX0_mark_66 : decode cX0_mark 66 = .ok (.invokestatic 21, 3) := by decide +kernel
theorem dX0_mark_69 : decode cX0_mark 69 = .ok (.lor, 1) := by decide +kernel
theorem dX0_mark_70 : decode cX0_mark 70 = .ok (.putfield 15, 3) := by decide +kernel
theorem dX0_mark_73 : decode cX0_mark 73 = .ok (.return_, 1) := by decide +kernel
theorem dX0_numberOf_0 : decode cX0_numberOf 0 = .ok (.aload_n 0, 1) := by decide +kernel
theorem dX0_numberOf_1 : decode cX0_numberOf 1 = .ok (.getfield 18, 3) := by decide +kernel
theorem dX0_numberOf_4 : decode cX0_numberOf 4 = .ok (.iload_n 1, 1) := by decide +kernel
theorem dX0_numberOf_5 : decode cX0_numberOf 5 = .ok (.invokestatic 27, 3) := by decide +kernel
theorem dX0_numberOf_8 : decode cX0_numberOf 8 = .ok (.ireturn, 1) := by decide +kernel
theorem dX0_numberIn_0 : decode cX0_numberIn 0 = .ok (.lload_n 0, 1) := by decide +kernel
theorem dX0_numberIn_1 : decode cX0_numberIn 1 = .ok (.iconst 4, 1) := by decide +kernel
theorem dX0_numberIn_2 : decode cX0_numberIn 2 = .ok (.iload_n 2, 1) := by decide +kernel
theorem dX0_numberIn_3 : decode cX0_numberIn 3 = .ok (.imul, 1) := by decide +kernel
theorem dX0_numberIn_4 : decode cX0_numberIn 4 = .ok (.lushr, 1) := by decide +kernel
theorem dX0_numberIn_5 : decode cX0_numberIn 5 = .ok (.ldc2_w 31, 3) := by decide +kernel
theorem dX0_numberIn_8 : decode cX0_numberIn 8 = .ok (.land, 1) := by decide +kernel
theorem dX0_numberIn_9 : decode cX0_numberIn 9 = .ok (.l2i, 1) := by decide +kernel
theorem dX0_numberIn_10 : decode cX0_numberIn 10 = .ok (.iconst 1, 1) := by decide +kernel
theorem dX0_numberIn_11 : decode cX0_numberIn 11 = .ok (.isub, 1) := by decide +kernel
theorem dX0_numberIn_12 : decode cX0_numberIn 12 = .ok (.ireturn, 1) := by decide +kernel
theorem dX0_withNumber_0 : decode cX0_withNumber 0 = .ok (.lload_n 0, 1) := by decide +kernel
theorem dX0_withNumber_1 : decode cX0_withNumber 1 = .ok (.ldc2_w 31, 3) := by decide +kernel
theorem dX0_withNumber_4 : decode cX0_withNumber 4 = .ok (.iconst 4, 1) := by decide +kernel
theorem dX0_withNumber_5 : decode cX0_withNumber 5 = .ok (.iload_n 2, 1) := by decide +kernel
theorem dX0_withNumber_6 : decode cX0_withNumber 6 = .ok (.imul, 1) := by decide +kernel
theorem dX0_withNumber_7 : decode cX0_withNumber 7 = .ok (.lshl, 1) := by decide +kernel
theorem dX0_withNumber_8 : decode cX0_withNumber 8 = .ok (.ldc2_w 25, 3) := by decide +kernel
theorem dX0_withNumber_11 : decode cX0_withNumber 11 = .ok (.lxor, 1) := by decide +kernel
theorem dX0_withNumber_12 : decode cX0_withNumber 12 = .ok (.land, 1) := by decide +kernel
theorem dX0_withNumber_13 : decode cX0_withNumber 13 = .ok (.lstore 4, 2) := by decide +kernel
theorem dX0_withNumber_15 : decode cX0_withNumber 15 = .ok (.lload 4, 2) := by decide +kernel
theorem dX0_withNumber_17 : decode cX0_withNumber 17 = .ok (.iload_n 3, 1) := by decide +kernel
theorem dX0_withNumber_18 : decode cX0_withNumber 18 = .ok (.iconst 1, 1) := by decide +kernel
theorem dX0_withNumber_19 : decode cX0_withNumber 19 = .ok (.iadd, 1) := by decide +kernel
theorem dX0_withNumber_20 : decode cX0_withNumber 20 = .ok (.i2l, 1) := by decide +kernel
theorem dX0_withNumber_21 : decode cX0_withNumber 21 = .ok (.iconst 4, 1) := by decide +kernel
theorem dX0_withNumber_22 : decode cX0_withNumber 22 = .ok (.iload_n 2, 1) := by decide +kernel
theorem dX0_withNumber_23 : decode cX0_withNumber 23 = .ok (.imul, 1) := by decide +kernel
theorem dX0_withNumber_24 : decode cX0_withNumber 24 = .ok (.lshl, 1) := by decide +kernel
theorem dX0_withNumber_25 : decode cX0_withNumber 25 = .ok (.lor, 1) := by decide +kernel
theorem dX0_withNumber_26 : decode cX0_withNumber 26 = .ok (.lreturn, 1) := by decide +kernel
theorem dX1_init_0 : decode cX1_init 0 = .ok (.aload_n 0, 1) := by decide +kernel
theorem dX1_init_1 : decode cX1_init 1 = .ok (.invokespecial 3, 3) := by decide +kernel
theorem dX1_init_4 : decode cX1_init 4 = .ok (.aload_n 0, 1) := by decide +kernel
theorem dX1_init_5 : decode cX1_init 5 = .ok (.lconst 0, 1) := by decide +kernel
theorem dX1_init_6 : decode cX1_init 6 = .ok (.putfield 9, 3) := by decide +kernel
theorem dX1_init_9 : decode cX1_init 9 = .ok (.aload_n 0, 1) := by decide +kernel
theorem dX1_init_10 : decode cX1_init 10 = .ok (.lconst 0, 1) := by decide +kernel
theorem dX1_init_11 : decode cX1_init 11 = .ok (.putfield 15, 3) := by decide +kernel
theorem dX1_init_14 : decode cX1_init 14 = .ok (.aload_n 0, 1) := by decide +kernel
theorem dX1_init_15 : decode cX1_init 15 = .ok (.lconst 0, 1) := by decide +kernel
theorem dX1_init_16 : decode cX1_init 16 = .ok (.putfield 18, 3) := by decide +kernel
theorem dX1_init_19 : decode cX1_init 19 = .ok (.aload_n 0, 1) := by decide +kernel
theorem dX1_init_20 : decode cX1_init 20 = .ok (.iconst 0, 1) := by decide +kernel
theorem dX1_init_21 : decode cX1_init 21 = .ok (.putfield 21, 3) := by decide +kernel
theorem dX1_init_24 : decode cX1_init 24 = .ok (.aload_n 0, 1) := by decide +kernel
theorem dX1_init_25 : decode cX1_init 25 = .ok (.aload_n 1, 1) := by decide +kernel
theorem dX1_init_26 : decode cX1_init 26 = .ok (.putfield 25, 3) := by decide +kernel
theorem dX1_init_29 : decode cX1_init 29 = .ok (.aload_n 0, 1) := by decide +kernel
theorem dX1_init_30 : decode cX1_init 30 = .ok (.iload_n 2, 1) := by decide +kernel
theorem dX1_init_31 : decode cX1_init 31 = .ok (.iconst 0, 1) := by decide +kernel
theorem dX1_init_32 : decode cX1_init 32 = .ok (.invokestatic 29, 3) := by decide +kernel
theorem dX1_init_35 : decode cX1_init 35 = .ok (.newarray .long, 2) := by decide +kernel
theorem dX1_init_37 : decode cX1_init 37 = .ok (.putfield 35, 3) := by decide +kernel
theorem dX1_init_40 : decode cX1_init 40 = .ok (.return_, 1) := by decide +kernel
theorem dX1_search_0 : decode cX1_search 0 = .ok (.aload_n 0, 1) := by decide +kernel
theorem dX1_search_1 : decode cX1_search 1 = .ok (.lload_n 1, 1) := by decide +kernel
theorem dX1_search_2 : decode cX1_search 2 = .ok (.putfield 9, 3) := by decide +kernel
theorem dX1_search_5 : decode cX1_search 5 = .ok (.aload_n 0, 1) := by decide +kernel
theorem dX1_search_6 : decode cX1_search 6 = .ok (.lload_n 3, 1) := by decide +kernel
theorem dX1_search_7 : decode cX1_search 7 = .ok (.putfield 15, 3) := by decide +kernel
theorem dX1_search_10 : decode cX1_search 10 = .ok (.aload_n 0, 1) := by decide +kernel
theorem dX1_search_11 : decode cX1_search 11 = .ok (.lload 5, 2) := by decide +kernel
theorem dX1_search_13 : decode cX1_search 13 = .ok (.putfield 18, 3) := by decide +kernel
theorem dX1_search_16 : decode cX1_search 16 = .ok (.aload_n 0, 1) := by decide +kernel
theorem dX1_search_17 : decode cX1_search 17 = .ok (.iconst 0, 1) := by decide +kernel
theorem dX1_search_18 : decode cX1_search 18 = .ok (.putfield 21, 3) := by decide +kernel
theorem dX1_search_21 : decode cX1_search 21 = .ok (.aload_n 0, 1) := by decide +kernel
theorem dX1_search_22 : decode cX1_search 22 = .ok (.aload_n 0, 1) := by decide +kernel
theorem dX1_search_23 : decode cX1_search 23 = .ok (.getfield 25, 3) := by decide +kernel
theorem dX1_search_26 : decode cX1_search 26 = .ok (.getfield 39, 3) := by decide +kernel
theorem dX1_search_29 : decode cX1_search 29 = .ok (.bipush 16, 2) := by decide +kernel
theorem dX1_search_31 : decode cX1_search 31 = .ok (.invokestatic 44, 3) := by decide +kernel
theorem dX1_search_34 : decode cX1_search 34 = .ok (.iconst 1, 1) := by decide +kernel
theorem dX1_search_35 : decode cX1_search 35 = .ok (.isub, 1) := by decide +kernel
theorem dX1_search_36 : decode cX1_search 36 = .ok (.lconst 0, 1) := by decide +kernel
theorem dX1_search_37 : decode cX1_search 37 = .ok (.invokestatic 47, 3) := by decide +kernel
theorem dX1_search_40 : decode cX1_search 40 = .ok (.return_, 1) := by decide +kernel
theorem dX1_ring_0 : decode cX1_ring 0 = .ok (.aload_n 0, 1) := by decide +kernel
theorem dX1_ring_1 : decode cX1_ring 1 = .ok (.getfield 35, 3) := by decide +kernel
theorem dX1_ring_4 : decode cX1_ring 4 = .ok (.iload_n 1, 1) := by decide +kernel
theorem dX1_ring_5 : decode cX1_ring 5 = .ok (.invokestatic 51, 3) := by decide +kernel
theorem dX1_ring_8 : decode cX1_ring 8 = .ok (.lreturn, 1) := by decide +kernel
theorem dX1_inAll_0 : decode cX1_inAll 0 = .ok (.aload_n 0, 1) := by decide +kernel
theorem dX1_inAll_1 : decode cX1_inAll 1 = .ok (.getfield 25, 3) := by decide +kernel
theorem dX1_inAll_4 : decode cX1_inAll 4 = .ok (.invokevirtual 55, 3) := by decide +kernel
theorem dX1_inAll_7 : decode cX1_inAll 7 = .ok (.lstore_n 1, 1) := by decide +kernel
theorem dX1_inAll_8 : decode cX1_inAll 8 = .ok (.iconst 0, 1) := by decide +kernel
theorem dX1_inAll_9 : decode cX1_inAll 9 = .ok (.istore_n 3, 1) := by decide +kernel
theorem dX1_inAll_10 : decode cX1_inAll 10 = .ok (.iload_n 3, 1) := by decide +kernel
theorem dX1_inAll_11 : decode cX1_inAll 11 = .ok (.aload_n 0, 1) := by decide +kernel
theorem dX1_inAll_12 : decode cX1_inAll 12 = .ok (.getfield 21, 3) := by decide +kernel
theorem dX1_inAll_15 : decode cX1_inAll 15 = .ok (.if_icmp .ge 27, 3) := by decide +kernel
theorem dX1_inAll_18 : decode cX1_inAll 18 = .ok (.iload_n 3, 1) := by decide +kernel
theorem dX1_inAll_19 : decode cX1_inAll 19 = .ok (.aload_n 0, 1) := by decide +kernel
theorem dX1_inAll_20 : decode cX1_inAll 20 = .ok (.getfield 35, 3) := by decide +kernel
theorem dX1_inAll_23 : decode cX1_inAll 23 = .ok (.arraylength, 1) := by decide +kernel
theorem dX1_inAll_24 : decode cX1_inAll 24 = .ok (.if_icmp .ge 18, 3) := by decide +kernel
theorem dX1_inAll_27 : decode cX1_inAll 27 = .ok (.lload_n 1, 1) := by decide +kernel
theorem dX1_inAll_28 : decode cX1_inAll 28 = .ok (.aload_n 0, 1) := by decide +kernel
theorem dX1_inAll_29 : decode cX1_inAll 29 = .ok (.getfield 35, 3) := by decide +kernel
theorem dX1_inAll_32 : decode cX1_inAll 32 = .ok (.iload_n 3, 1) := by decide +kernel
theorem dX1_inAll_33 : decode cX1_inAll 33 = .ok (.laload, 1) := by decide +kernel
theorem dX1_inAll_34 : decode cX1_inAll 34 = .ok (.land, 1) := by decide +kernel
theorem dX1_inAll_35 : decode cX1_inAll 35 = .ok (.lstore_n 1, 1) := by decide +kernel
theorem dX1_inAll_36 : decode cX1_inAll 36 = .ok (.iinc 3 1, 3) := by decide +kernel
theorem dX1_inAll_39 : decode cX1_inAll 39 = .ok (.goto (-29), 3) := by decide +kernel
theorem dX1_inAll_42 : decode cX1_inAll 42 = .ok (.lload_n 1, 1) := by decide +kernel
theorem dX1_inAll_43 : decode cX1_inAll 43 = .ok (.lreturn, 1) := by decide +kernel
theorem dX1_inNone_0 : decode cX1_inNone 0 = .ok (.lconst 0, 1) := by decide +kernel
theorem dX1_inNone_1 : decode cX1_inNone 1 = .ok (.lstore_n 1, 1) := by decide +kernel
theorem dX1_inNone_2 : decode cX1_inNone 2 = .ok (.iconst 0, 1) := by decide +kernel
theorem dX1_inNone_3 : decode cX1_inNone 3 = .ok (.istore_n 3, 1) := by decide +kernel
theorem dX1_inNone_4 : decode cX1_inNone 4 = .ok (.iload_n 3, 1) := by decide +kernel
theorem dX1_inNone_5 : decode cX1_inNone 5 = .ok (.aload_n 0, 1) := by decide +kernel
theorem dX1_inNone_6 : decode cX1_inNone 6 = .ok (.getfield 21, 3) := by decide +kernel
theorem dX1_inNone_9 : decode cX1_inNone 9 = .ok (.if_icmp .ge 27, 3) := by decide +kernel
theorem dX1_inNone_12 : decode cX1_inNone 12 = .ok (.iload_n 3, 1) := by decide +kernel
theorem dX1_inNone_13 : decode cX1_inNone 13 = .ok (.aload_n 0, 1) := by decide +kernel
theorem dX1_inNone_14 : decode cX1_inNone 14 = .ok (.getfield 35, 3) := by decide +kernel
theorem dX1_inNone_17 : decode cX1_inNone 17 = .ok (.arraylength, 1) := by decide +kernel
theorem dX1_inNone_18 : decode cX1_inNone 18 = .ok (.if_icmp .ge 18, 3) := by decide +kernel
theorem dX1_inNone_21 : decode cX1_inNone 21 = .ok (.lload_n 1, 1) := by decide +kernel
theorem dX1_inNone_22 : decode cX1_inNone 22 = .ok (.aload_n 0, 1) := by decide +kernel
theorem dX1_inNone_23 : decode cX1_inNone 23 = .ok (.getfield 35, 3) := by decide +kernel
theorem dX1_inNone_26 : decode cX1_inNone 26 = .ok (.iload_n 3, 1) := by decide +kernel
theorem dX1_inNone_27 : decode cX1_inNone 27 = .ok (.laload, 1) := by decide +kernel
theorem dX1_inNone_28 : decode cX1_inNone 28 = .ok (.lor, 1) := by decide +kernel
theorem dX1_inNone_29 : decode cX1_inNone 29 = .ok (.lstore_n 1, 1) := by decide +kernel
theorem dX1_inNone_30 : decode cX1_inNone 30 = .ok (.iinc 3 1, 3) := by decide +kernel
theorem dX1_inNone_33 : decode cX1_inNone 33 = .ok (.goto (-29), 3) := by decide +kernel
theorem dX1_inNone_36 : decode cX1_inNone 36 = .ok (.aload_n 0, 1) := by decide +kernel
theorem dX1_inNone_37 : decode cX1_inNone 37 = .ok (.getfield 25, 3) := by decide +kernel
theorem dX1_inNone_40 : decode cX1_inNone 40 = .ok (.invokevirtual 55, 3) := by decide +kernel
theorem dX1_inNone_43 : decode cX1_inNone 43 = .ok (.lload_n 1, 1) := by decide +kernel
theorem dX1_inNone_44 : decode cX1_inNone 44 = .ok (.ldc2_w 59, 3) := by decide +kernel
theorem dX1_inNone_47 : decode cX1_inNone 47 = .ok (.lxor, 1) := by decide +kernel
theorem dX1_inNone_48 : decode cX1_inNone 48 = .ok (.land, 1) := by decide +kernel
theorem dX1_inNone_49 : decode cX1_inNone 49 = .ok (.lreturn, 1) := by decide +kernel
theorem dX1_howManyHave_0 : decode cX1_howManyHave 0 = .ok (.iconst 0, 1) := by decide +kernel
theorem dX1_howManyHave_1 : decode cX1_howManyHave 1 = .ok (.istore_n 2, 1) := by decide +kernel
theorem dX1_howManyHave_2 : decode cX1_howManyHave 2 = .ok (.iconst 0, 1) := by decide +kernel
theorem dX1_howManyHave_3 : decode cX1_howManyHave 3 = .ok (.istore_n 3, 1) := by decide +kernel
theorem dX1_howManyHave_4 : decode cX1_howManyHave 4 = .ok (.iload_n 3, 1) := by decide +kernel
theorem dX1_howManyHave_5 : decode cX1_howManyHave 5 = .ok (.aload_n 0, 1) := by decide +kernel
theorem dX1_howManyHave_6 : decode cX1_howManyHave 6 = .ok (.getfield 21, 3) := by decide +kernel
theorem dX1_howManyHave_9 : decode cX1_howManyHave 9 = .ok (.if_icmp .ge 32, 3) := by decide +kernel
theorem dX1_howManyHave_12 : decode cX1_howManyHave 12 = .ok (.iload_n 3, 1) := by decide +kernel
theorem dX1_howManyHave_13 : decode cX1_howManyHave 13 = .ok (.aload_n 0, 1) := by decide +kernel
theorem dX1_howManyHave_14 : decode cX1_howManyHave 14 = .ok (.getfield 35, 3) := by decide +kernel
theorem dX1_howManyHave_17 : decode cX1_howManyHave 17 = .ok (.arraylength, 1) := by decide +kernel
theorem dX1_howManyHave_18 : decode cX1_howManyHave 18 = .ok (.if_icmp .ge 23, 3) := by decide +kernel
theorem dX1_howManyHave_21 : decode cX1_howManyHave 21 = .ok (.iload_n 2, 1) := by decide +kernel
theorem dX1_howManyHave_22 : decode cX1_howManyHave 22 = .ok (.aload_n 0, 1) := by decide +kernel
theorem dX1_howManyHave_23 : decode cX1_howManyHave 23 = .ok (.getfield 35, 3) := by decide +kernel
theorem dX1_howManyHave_26 : decode cX1_howManyHave 26 = .ok (.iload_n 3, 1) := by decide +kernel
theorem dX1_howManyHave_27 : decode cX1_howManyHave 27 = .ok (.laload, 1) := by decide +kernel
theorem dX1_howManyHave_28 : decode cX1_howManyHave 28 = .ok (.iload_n 1, 1) := by decide +kernel
theorem dX1_howManyHave_29 : decode cX1_howManyHave 29 = .ok (.lushr, 1) := by decide +kernel
theorem dX1_howManyHave_30 : decode cX1_howManyHave 30 = .ok (.lconst 1, 1) := by decide +kernel
theorem dX1_howManyHave_31 : decode cX1_howManyHave 31 = .ok (.land, 1) := by decide +kernel
theorem dX1_howManyHave_32 : decode cX1_howManyHave 32 = .ok (.l2i, 1) := by decide +kernel
theorem dX1_howManyHave_33 : decode cX1_howManyHave 33 = .ok (.iadd, 1) := by decide +kernel
theorem dX1_howManyHave_34 : decode cX1_howManyHave 34 = .ok (.istore_n 2, 1) := by decide +kernel
theorem dX1_howManyHave_35 : decode cX1_howManyHave 35 = .ok (.iinc 3 1, 3) := by decide +kernel
theorem dX1_howManyHave_38 : decode cX1_howManyHave 38 = .ok (.goto (-34), 3) := by decide +kernel
theorem dX1_howManyHave_41 : decode cX1_howManyHave 41 = .ok (.iload_n 2, 1) := by decide +kernel
theorem dX1_howManyHave_42 : decode cX1_howManyHave 42 = .ok (.ireturn, 1) := by decide +kernel
theorem dX1_decide_0 : decode cX1_decide 0 = .ok (.aload_n 0, 1) := by decide +kernel
theorem dX1_decide_1 : decode cX1_decide 1 = .ok (.getfield 21, 3) := by decide +kernel
theorem dX1_decide_4 : decode cX1_decide 4 = .ok (.aload_n 0, 1) := by decide +kernel
theorem dX1_decide_5 : decode cX1_decide 5 = .ok (.getfield 35, 3) := by decide +kernel
theorem dX1_decide_8 : decode cX1_decide 8 = .ok (.arraylength, 1) := by decide +kernel
theorem dX1_decide_9 : decode cX1_decide 9 = .ok (.if_icmp .lt 4, 3) := by decide +kernel
theorem dX1_decide_12 : decode cX1_decide 12 = .ok (.return_, 1) := by decide +kernel
theorem dX1_decide_13 : decode cX1_decide 13 = .ok (.iload_n 1, 1) := by decide +kernel
theorem dX1_decide_14 : decode cX1_decide 14 = .ok (.ifCond .ge 9, 3) := by decide +kernel
theorem dX1_decide_17 : decode cX1_decide 17 = .ok (.aload_n 0, 1) := by decide +kernel
theorem dX1_decide_18 : decode cX1_decide 18 = .ok (.lload_n 2, 1) := by decide +kernel
theorem dX1_decide_19 : decode cX1_decide 19 = .ok (.invokevirtual 61, 3) := by decide +kernel
theorem dX1_decide_22 : decode cX1_decide 22 = .ok (.return_, 1) := by decide +kernel
theorem dX1_decide_23 : decode cX1_decide 23 = .ok (.aload_n 0, 1) := by decide +kernel
theorem dX1_decide_24 : decode cX1_decide 24 = .ok (.getfield 25, 3) := by decide +kernel
theorem dX1_decide_27 : decode cX1_decide 27 = .ok (.astore 4, 2) := by decide +kernel
theorem dX1_decide_29 : decode cX1_decide 29 = .ok (.lload_n 2, 1) := by decide +kernel
theorem dX1_decide_30 : decode cX1_decide 30 = .ok (.aload 4, 2) := by decide +kernel
theorem dX1_decide_32 : decode cX1_decide 32 = .ok (.iload_n 1, 1) := by decide +kernel
theorem dX1_decide_33 : decode cX1_decide 33 = .ok (.invokevirtual 65, 3) := by decide +kernel
theorem dX1_decide_36 : decode cX1_decide 36 = .ok (.lxor, 1) := by decide +kernel
theorem dX1_decide_37 : decode cX1_decide 37 = .ok (.lstore 5, 2) := by decide +kernel
theorem dX1_decide_39 : decode cX1_decide 39 = .ok (.lload_n 2, 1) := by decide +kernel
theorem dX1_decide_40 : decode cX1_decide 40 = .ok (.aload 4, 2) := by decide +kernel
theorem dX1_decide_42 : decode cX1_decide 42 = .ok (.iload_n 1, 1) := by decide +kernel
theorem dX1_decide_43 : decode cX1_decide 43 = .ok (.iconst 3, 1) := by decide +kernel
theorem dX1_decide_44 : decode cX1_decide 44 = .ok (.invokevirtual 69, 3) := by decide +kernel
theorem dX1_decide_47 : decode cX1_decide 47 = .ok (.invokestatic 72, 3) := by decide +kernel
theorem dX1_decide_50 : decode cX1_decide 50 = .ok (.land, 1) := by decide +kernel
theorem dX1_decide_51 : decode cX1_decide 51 = .ok (.lconst 0, 1) := by decide +kernel
theorem dX1_decide_52 : decode cX1_decide 52 = .ok (.lcmp, 1) := by decide +kernel
theorem dX1_decide_53 : decode cX1_decide 53 = .ok (.ifCond .eq 7, 3) := by decide +kernel
theorem dX1_decide_56 : decode cX1_decide 56 = .ok (.iconst 1, 1) := by decide +kernel
theorem dX1_decide_57 : decode cX1_decide 57 = .ok (.goto 4, 3) := by decide +kernel
theorem dX1_decide_60 : decode cX1_decide 60 = .ok (.iconst 0, 1) := by decide +kernel
theorem dX1_decide_61 : decode cX1_decide 61 = .ok (.istore 7, 2) := by decide +kernel
theorem dX1_decide_63 : decode cX1_decide 63 = .ok (.iload 7, 2) := by decide +kernel
theorem dX1_decide_65 : decode cX1_decide 65 = .ok (.ifCond .eq 8, 3) := by decide +kernel
theorem dX1_decide_68 : decode cX1_decide 68 = .ok (.lload 5, 2) := by decide +kernel
theorem dX1_decide_70 : decode cX1_decide 70 = .ok (.goto 4, 3) := by decide +kernel
theorem dX1_decide_73 : decode cX1_decide 73 = .ok (.lload_n 2, 1) := by decide +kernel
theorem dX1_decide_74 : decode cX1_decide 74 = .ok (.lstore 8, 2) := by decide +kernel
theorem dX1_decide_76 : decode cX1_decide 76 = .ok (.iload 7, 2) := by decide +kernel
theorem dX1_decide_78 : decode cX1_decide 78 = .ok (.ifCond .eq 7, 3) := by decide +kernel
theorem dX1_decide_81 : decode cX1_decide 81 = .ok (.lload_n 2, 1) := by decide +kernel
theorem dX1_decide_82 : decode cX1_decide 82 = .ok (.goto 5, 3) := by decide +kernel
theorem dX1_decide_85 : decode cX1_decide 85 = .ok (.lload 5, 2) := by decide +kernel
theorem dX1_decide_87 : decode cX1_decide 87 = .ok (.lstore 10, 2) := by decide +kernel
theorem dX1_decide_89 : decode cX1_decide 89 = .ok (.aload_n 0, 1) := by decide +kernel
theorem dX1_decide_90 : decode cX1_decide 90 = .ok (.iload_n 1, 1) := by decide +kernel
theorem dX1_decide_91 : decode cX1_decide 91 = .ok (.lload 8, 2) := by decide +kernel
theorem dX1_decide_93 : decode cX1_decide 93 = .ok (.invokevirtual 75, 3) := by decide +kernel
theorem dX1_decide_96 : decode cX1_decide 96 = .ok (.ifCond .eq 12, 3) := by decide +kernel
theorem dX1_decide_99 : decode cX1_decide 99 = .ok (.aload_n 0, 1) := by decide +kernel
theorem dX1_decide_100 : decode cX1_decide 100 = .ok (.iload_n 1, 1) := by decide +kernel
theorem dX1_decide_101 : decode cX1_decide 101 = .ok (.iconst 1, 1) := by decide +kernel
theorem dX1_decide_102 : decode cX1_decide 102 = .ok (.isub, 1) := by decide +kernel
theorem dX1_decide_103 : decode cX1_decide 103 = .ok (.lload 8, 2) := by decide +kernel
theorem dX1_decide_105 : decode cX1_decide 105 = .ok (.invokestatic 47, 3) := by decide +kernel
theorem dX1_decide_108 : decode cX1_decide 108 = .ok (.aload_n 0, 1) := by decide +kernel
theorem dX1_decide_109 : decode cX1_decide 109 = .ok (.iload_n 1, 1) := by decide +kernel
theorem dX1_decide_110 : decode cX1_decide 110 = .ok (.lload 10, 2) := by decide +kernel
theorem dX1_decide_112 : decode cX1_decide 112 = .ok (.invokevirtual 75, 3) := by decide +kernel
theorem dX1_decide_115 : decode cX1_decide 115 = .ok (.ifCond .eq 12, 3) := by decide +kernel
theorem dX1_decide_118 : decode cX1_decide 118 = .ok (.aload_n 0, 1) := by decide +kernel
theorem dX1_decide_119 : decode cX1_decide 119 = .ok (.iload_n 1, 1) := by decide +kernel
theorem dX1_decide_120 : decode cX1_decide 120 = .ok (.iconst 1, 1) := by decide +kernel
theorem dX1_decide_121 : decode cX1_decide 121 = .ok (.isub, 1) := by decide +kernel
theorem dX1_decide_122 : decode cX1_decide 122 = .ok (.lload 10, 2) := by decide +kernel
theorem dX1_decide_124 : decode cX1_decide 124 = .ok (.invokestatic 47, 3) := by decide +kernel
theorem dX1_decide_127 : decode cX1_decide 127 = .ok (.return_, 1) := by decide +kernel
theorem dX1_takeRing_0 : decode cX1_takeRing 0 = .ok (.lload_n 1, 1) := by decide +kernel
theorem dX1_takeRing_1 : decode cX1_takeRing 1 = .ok (.lconst 0, 1) := by decide +kernel
theorem dX1_takeRing_2 : decode cX1_takeRing 2 = .ok (.lcmp, 1) := by decide +kernel
theorem dX1_takeRing_3 : decode cX1_takeRing 3 = .ok (.ifCond .eq 24, 3) := by decide +kernel
theorem dX1_takeRing_6 : decode cX1_takeRing 6 = .ok (.aload_n 0, 1) := by decide +kernel
theorem dX1_takeRing_7 : decode cX1_takeRing 7 = .ok (.getfield 25, 3) := by decide +kernel
theorem dX1_takeRing_10 : decode cX1_takeRing 10 = .ok (.lload_n 1, 1) := by decide +kernel
theorem dX1_takeRing_11 : decode cX1_takeRing 11 = .ok (.lload_n 1, 1) := by decide +kernel
theorem dX1_takeRing_12 : decode cX1_takeRing 12 = .ok (.invokestatic 79, 3) := by decide +kernel
theorem dX1_takeRing_15 : decode cX1_takeRing 15 = .ok (.invokevirtual 85, 3) := by decide +kernel
theorem dX1_takeRing_18 : decode cX1_takeRing 18 = .ok (.lload_n 1, 1) := by decide +kernel
theorem dX1_takeRing_19 : decode cX1_takeRing 19 = .ok (.lcmp, 1) := by decide +kernel
theorem dX1_takeRing_20 : decode cX1_takeRing 20 = .ok (.ifCond .ne 7, 3) := by decide +kernel
theorem dX1_takeRing_23 : decode cX1_takeRing 23 = .ok (.iconst 1, 1) := by decide +kernel
theorem dX1_takeRing_24 : decode cX1_takeRing 24 = .ok (.goto 4, 3) := by decide +kernel
theorem dX1_takeRing_27 : decode cX1_takeRing 27 = .ok (.iconst 0, 1) := by decide +kernel
theorem dX1_takeRing_28 : decode cX1_takeRing 28 = .ok (.istore_n 3, 1) := by decide +kernel
theorem dX1_takeRing_29 : decode cX1_takeRing 29 = .ok (.iload_n 3, 1) := by decide +kernel
theorem dX1_takeRing_30 : decode cX1_takeRing 30 = .ok (.ifCond .eq 42, 3) := by decide +kernel
theorem dX1_takeRing_33 : decode cX1_takeRing 33 = .ok (.aload_n 0, 1) := by decide +kernel
theorem dX1_takeRing_34 : decode cX1_takeRing 34 = .ok (.getfield 21, 3) := by decide +kernel
theorem dX1_takeRing_37 : decode cX1_takeRing 37 = .ok (.ifCond .lt 35, 3) := by decide +kernel
theorem dX1_takeRing_40 : decode cX1_takeRing 40 = .ok (.aload_n 0, 1) := by decide +kernel
theorem dX1_takeRing_41 : decode cX1_takeRing 41 = .ok (.getfield 21, 3) := by decide +kernel
theorem dX1_takeRing_44 : decode cX1_takeRing 44 = .ok (.aload_n 0, 1) := by decide +kernel
theorem dX1_takeRing_45 : decode cX1_takeRing 45 = .ok (.getfield 35, 3) := by decide +kernel
theorem dX1_takeRing_48 : decode cX1_takeRing 48 = .ok (.arraylength, 1) := by decide +kernel
theorem dX1_takeRing_49 : decode cX1_takeRing 49 = .ok (.if_icmp .ge 23, 3) := by decide +kernel
theorem dX1_takeRing_52 : decode cX1_takeRing 52 = .ok (.aload_n 0, 1) := by decide +kernel
theorem dX1_takeRing_53 : decode cX1_takeRing 53 = .ok (.getfield 35, 3) := by decide +kernel
theorem dX1_takeRing_56 : decode cX1_takeRing 56 = .ok (.aload_n 0, 1) := by decide +kernel
theorem dX1_takeRing_57 : decode cX1_takeRing 57 = .ok (.getfield 21, 3) := by decide +kernel
theorem dX1_takeRing_60 : decode cX1_takeRing 60 = .ok (.lload_n 1, 1) := by decide +kernel
theorem dX1_takeRing_61 : decode cX1_takeRing 61 = .ok (.lastore, 1) := by decide +kernel
theorem dX1_takeRing_62 : decode cX1_takeRing 62 = .ok (.aload_n 0, 1) := by decide +kernel
theorem dX1_takeRing_63 : decode cX1_takeRing 63 = .ok (.dup, 1) := by decide +kernel
theorem dX1_takeRing_64 : decode cX1_takeRing 64 = .ok (.getfield 21, 3) := by decide +kernel
theorem dX1_takeRing_67 : decode cX1_takeRing 67 = .ok (.iconst 1, 1) := by decide +kernel
theorem dX1_takeRing_68 : decode cX1_takeRing 68 = .ok (.iadd, 1) := by decide +kernel
theorem dX1_takeRing_69 : decode cX1_takeRing 69 = .ok (.putfield 21, 3) := by decide +kernel
theorem dX1_takeRing_72 : decode cX1_takeRing 72 = .ok (.return_, 1) := by decide +kernel
theorem dX1_fits_0 : decode cX1_fits 0 = .ok (.aload_n 0, 1) := by decide +kernel
theorem dX1_fits_1 : decode cX1_fits 1 = .ok (.getfield 25, 3) := by decide +kernel
theorem dX1_fits_4 : decode cX1_fits 4 = .ok (.iload_n 1, 1) := by decide +kernel
theorem dX1_fits_5 : decode cX1_fits 5 = .ok (.invokevirtual 89, 3) := by decide +kernel
theorem dX1_fits_8 : decode cX1_fits 8 = .ok (.lstore 4, 2) := by decide +kernel
theorem dX1_fits_10 : decode cX1_fits 10 = .ok (.lload_n 2, 1) := by decide +kernel
theorem dX1_fits_11 : decode cX1_fits 11 = .ok (.lload 4, 2) := by decide +kernel
theorem dX1_fits_13 : decode cX1_fits 13 = .ok (.land, 1) := by decide +kernel
theorem dX1_fits_14 : decode cX1_fits 14 = .ok (.aload_n 0, 1) := by decide +kernel
theorem dX1_fits_15 : decode cX1_fits 15 = .ok (.getfield 15, 3) := by decide +kernel
theorem dX1_fits_18 : decode cX1_fits 18 = .ok (.land, 1) := by decide +kernel
theorem dX1_fits_19 : decode cX1_fits 19 = .ok (.lconst 0, 1) := by decide +kernel
theorem dX1_fits_20 : decode cX1_fits 20 = .ok (.lcmp, 1) := by decide +kernel
theorem dX1_fits_21 : decode cX1_fits 21 = .ok (.ifCond .ne 21, 3) := by decide +kernel
theorem dX1_fits_24 : decode cX1_fits 24 = .ok (.lload_n 2, 1) := by decide +kernel
theorem dX1_fits_25 : decode cX1_fits 25 = .ok (.ldc2_w 59, 3) := by decide +kernel
theorem dX1_fits_28 : decode cX1_fits 28 = .ok (.lxor, 1) := by decide +kernel
theorem dX1_fits_29 : decode cX1_fits 29 = .ok (.lload 4, 2) := by decide +kernel
theorem dX1_fits_31 : decode cX1_fits 31 = .ok (.land, 1) := by decide +kernel
theorem dX1_fits_32 : decode cX1_fits 32 = .ok (.aload_n 0, 1) := by decide +kernel
theorem dX1_fits_33 : decode cX1_fits 33 = .ok (.getfield 9, 3) := by decide +kernel
theorem dX1_fits_36 : decode cX1_fits 36 = .ok (.land, 1) := by decide +kernel
theorem dX1_fits_37 : decode cX1_fits 37 = .ok (.lconst 0, 1) := by decide +kernel
theorem dX1_fits_38 : decode cX1_fits 38 = .ok (.lcmp, 1) := by decide +kernel
theorem dX1_fits_39 : decode cX1_fits 39 = .ok (.ifCond .eq 5, 3) := by decide +kernel
theorem dX1_fits_42 : decode cX1_fits 42 = .ok (.iconst 0, 1) := by decide +kernel
theorem dX1_fits_43 : decode cX1_fits 43 = .ok (.ireturn, 1) := by decide +kernel
theorem dX1_fits_44 : decode cX1_fits 44 = .ok (.lload_n 2, 1) := by decide +kernel
theorem dX1_fits_45 : decode cX1_fits 45 = .ok (.aload_n 0, 1) := by decide +kernel
theorem dX1_fits_46 : decode cX1_fits 46 = .ok (.getfield 25, 3) := by decide +kernel
theorem dX1_fits_49 : decode cX1_fits 49 = .ok (.iload_n 1, 1) := by decide +kernel
theorem dX1_fits_50 : decode cX1_fits 50 = .ok (.invokevirtual 92, 3) := by decide +kernel
theorem dX1_fits_53 : decode cX1_fits 53 = .ok (.land, 1) := by decide +kernel
theorem dX1_fits_54 : decode cX1_fits 54 = .ok (.invokestatic 95, 3) := by decide +kernel
theorem dX1_fits_57 : decode cX1_fits 57 = .ok (.iconst 2, 1) := by decide +kernel
theorem dX1_fits_58 : decode cX1_fits 58 = .ok (.if_icmp .le 5, 3) := by decide +kernel
theorem dX1_fits_61 : decode cX1_fits 61 = .ok (.iconst 0, 1) := by decide +kernel
theorem dX1_fits_62 : decode cX1_fits 62 = .ok (.ireturn, 1) := by decide +kernel
theorem dX1_fits_63 : decode cX1_fits 63 = .ok (.aload_n 0, 1) := by decide +kernel
theorem dX1_fits_64 : decode cX1_fits 64 = .ok (.getfield 18, 3) := by decide +kernel
theorem dX1_fits_67 : decode cX1_fits 67 = .ok (.lconst 0, 1) := by decide +kernel
theorem dX1_fits_68 : decode cX1_fits 68 = .ok (.lcmp, 1) := by decide +kernel
theorem dX1_fits_69 : decode cX1_fits 69 = .ok (.ifCond .ne 5, 3) := by decide +kernel
theorem dX1_fits_72 : decode cX1_fits 72 = .ok (.iconst 1, 1) := by decide +kernel
theorem dX1_fits_73 : decode cX1_fits 73 = .ok (.ireturn, 1) := by decide +kernel
theorem dX1_fits_74 : decode cX1_fits 74 = .ok (.aload_n 0, 1) := by decide +kernel
theorem dX1_fits_75 : decode cX1_fits 75 = .ok (.getfield 25, 3) := by decide +kernel
theorem dX1_fits_78 : decode cX1_fits 78 = .ok (.aload_n 0, 1) := by decide +kernel
theorem dX1_fits_79 : decode cX1_fits 79 = .ok (.getfield 25, 3) := by decide +kernel
theorem dX1_fits_82 : decode cX1_fits 82 = .ok (.iload_n 1, 1) := by decide +kernel
theorem dX1_fits_83 : decode cX1_fits 83 = .ok (.iconst 1, 1) := by decide +kernel
theorem dX1_fits_84 : decode cX1_fits 84 = .ok (.invokevirtual 69, 3) := by decide +kernel
theorem dX1_fits_87 : decode cX1_fits 87 = .ok (.iconst 1, 1) := by decide +kernel
theorem dX1_fits_88 : decode cX1_fits 88 = .ok (.invokevirtual 98, 3) := by decide +kernel
theorem dX1_fits_91 : decode cX1_fits 91 = .ok (.istore 6, 2) := by decide +kernel
theorem dX1_fits_93 : decode cX1_fits 93 = .ok (.aload_n 0, 1) := by decide +kernel
theorem dX1_fits_94 : decode cX1_fits 94 = .ok (.getfield 25, 3) := by decide +kernel
theorem dX1_fits_97 : decode cX1_fits 97 = .ok (.aload_n 0, 1) := by decide +kernel
theorem dX1_fits_98 : decode cX1_fits 98 = .ok (.getfield 25, 3) := by decide +kernel
theorem dX1_fits_101 : decode cX1_fits 101 = .ok (.iload_n 1, 1) := by decide +kernel
theorem dX1_fits_102 : decode cX1_fits 102 = .ok (.iconst 3, 1) := by decide +kernel
theorem dX1_fits_103 : decode cX1_fits 103 = .ok (.invokevirtual 69, 3) := by decide +kernel
theorem dX1_fits_106 : decode cX1_fits 106 = .ok (.iconst 1, 1) := by decide +kernel
theorem dX1_fits_107 : decode cX1_fits 107 = .ok (.invokevirtual 98, 3) := by decide +kernel
theorem dX1_fits_110 : decode cX1_fits 110 = .ok (.istore 7, 2) := by decide +kernel
theorem dX1_fits_112 : decode cX1_fits 112 = .ok (.aload_n 0, 1) := by decide +kernel
theorem dX1_fits_113 : decode cX1_fits 113 = .ok (.iload_n 1, 1) := by decide +kernel
theorem dX1_fits_114 : decode cX1_fits 114 = .ok (.lload_n 2, 1) := by decide +kernel
theorem dX1_fits_115 : decode cX1_fits 115 = .ok (.lload 4, 2) := by decide +kernel
theorem dX1_fits_117 : decode cX1_fits 117 = .ok (.invokevirtual 101, 3) := by decide +kernel
theorem dX1_fits_120 : decode cX1_fits 120 = .ok (.ifCond .eq 31, 3) := by decide +kernel
theorem dX1_fits_123 : decode cX1_fits 123 = .ok (.aload_n 0, 1) := by decide +kernel
theorem dX1_fits_124 : decode cX1_fits 124 = .ok (.iload 6, 2) := by decide +kernel
theorem dX1_fits_126 : decode cX1_fits 126 = .ok (.lload_n 2, 1) := by decide +kernel
theorem dX1_fits_127 : decode cX1_fits 127 = .ok (.lload 4, 2) := by decide +kernel
theorem dX1_fits_129 : decode cX1_fits 129 = .ok (.invokevirtual 101, 3) := by decide +kernel
theorem dX1_fits_132 : decode cX1_fits 132 = .ok (.ifCond .eq 19, 3) := by decide +kernel
theorem dX1_fits_135 : decode cX1_fits 135 = .ok (.aload_n 0, 1) := by decide +kernel
theorem dX1_fits_136 : decode cX1_fits 136 = .ok (.iload 7, 2) := by decide +kernel
theorem dX1_fits_138 : decode cX1_fits 138 = .ok (.lload_n 2, 1) := by decide +kernel
theorem dX1_fits_139 : decode cX1_fits 139 = .ok (.lload 4, 2) := by decide +kernel
theorem dX1_fits_141 : decode cX1_fits 141 = .ok (.invokevirtual 101, 3) := by decide +kernel
theorem dX1_fits_144 : decode cX1_fits 144 = .ok (.ifCond .eq 7, 3) := by decide +kernel
theorem dX1_fits_147 : decode cX1_fits 147 = .ok (.iconst 1, 1) := by decide +kernel
theorem dX1_fits_148 : decode cX1_fits 148 = .ok (.goto 4, 3) := by decide +kernel
theorem dX1_fits_151 : decode cX1_fits 151 = .ok (.iconst 0, 1) := by decide +kernel
theorem dX1_fits_152 : decode cX1_fits 152 = .ok (.ireturn, 1) := by decide +kernel
theorem dX1_fitsNumber_0 : decode cX1_fitsNumber 0 = .ok (.iload_n 1, 1) := by decide +kernel
theorem dX1_fitsNumber_1 : decode cX1_fitsNumber 1 = .ok (.bipush 16, 2) := by decide +kernel
theorem dX1_fitsNumber_3 : decode cX1_fitsNumber 3 = .ok (.if_icmp .ge 14, 3) := by decide +kernel
theorem dX1_fitsNumber_6 : decode cX1_fitsNumber 6 = .ok (.aload_n 0, 1) := by decide +kernel
theorem dX1_fitsNumber_7 : decode cX1_fitsNumber 7 = .ok (.getfield 18, 3) := by decide +kernel
theorem dX1_fitsNumber_10 : decode cX1_fitsNumber 10 = .ok (.iload_n 1, 1) := by decide +kernel
theorem dX1_fitsNumber_11 : decode cX1_fitsNumber 11 = .ok (.invokestatic 105, 3) := by decide +kernel
theorem dX1_fitsNumber_14 : decode cX1_fitsNumber 14 = .ok (.goto 4, 3) := by decide +kernel
theorem dX1_fitsNumber_17 : decode cX1_fitsNumber 17 = .ok (.iconst (-1), 1) := by decide +kernel
theorem dX1_fitsNumber_18 : decode cX1_fitsNumber 18 = .ok (.istore 6, 2) := by decide +kernel
theorem dX1_fitsNumber_20 : decode cX1_fitsNumber 20 = .ok (.iload 6, 2) := by decide +kernel
theorem dX1_fitsNumber_22 : decode cX1_fitsNumber 22 = .ok (.ifCond .ge 5, 3) := by decide +kernel
theorem dX1_fitsNumber_25 : decode cX1_fitsNumber 25 = .ok (.iconst 1, 1) := by decide +kernel
theorem dX1_fitsNumber_26 : decode cX1_fitsNumber 26 = .ok (.ireturn, 1) := by decide +kernel
theorem dX1_fitsNumber_27 : decode cX1_fitsNumber 27 = .ok (.aload_n 0, 1) := by decide +kernel
theorem dX1_fitsNumber_28 : decode cX1_fitsNumber 28 = .ok (.getfield 25, 3) := by decide +kernel
theorem dX1_fitsNumber_31 : decode cX1_fitsNumber 31 = .ok (.iload_n 1, 1) := by decide +kernel
theorem dX1_fitsNumber_32 : decode cX1_fitsNumber 32 = .ok (.invokevirtual 65, 3) := by decide +kernel
theorem dX1_fitsNumber_35 : decode cX1_fitsNumber 35 = .ok (.lstore 7, 2) := by decide +kernel
theorem dX1_fitsNumber_37 : decode cX1_fitsNumber 37 = .ok (.lload 7, 2) := by decide +kernel
theorem dX1_fitsNumber_39 : decode cX1_fitsNumber 39 = .ok (.lload 4, 2) := by decide +kernel
theorem dX1_fitsNumber_41 : decode cX1_fitsNumber 41 = .ok (.land, 1) := by decide +kernel
theorem dX1_fitsNumber_42 : decode cX1_fitsNumber 42 = .ok (.lload_n 2, 1) := by decide +kernel
theorem dX1_fitsNumber_43 : decode cX1_fitsNumber 43 = .ok (.land, 1) := by decide +kernel
theorem dX1_fitsNumber_44 : decode cX1_fitsNumber 44 = .ok (.invokestatic 95, 3) := by decide +kernel
theorem dX1_fitsNumber_47 : decode cX1_fitsNumber 47 = .ok (.istore 9, 2) := by decide +kernel
theorem dX1_fitsNumber_49 : decode cX1_fitsNumber 49 = .ok (.lload 7, 2) := by decide +kernel
theorem dX1_fitsNumber_51 : decode cX1_fitsNumber 51 = .ok (.lload 4, 2) := by decide +kernel
theorem dX1_fitsNumber_53 : decode cX1_fitsNumber 53 = .ok (.ldc2_w 59, 3) := by decide +kernel
theorem dX1_fitsNumber_56 : decode cX1_fitsNumber 56 = .ok (.lxor, 1) := by decide +kernel
theorem dX1_fitsNumber_57 : decode cX1_fitsNumber 57 = .ok (.land, 1) := by decide +kernel
theorem dX1_fitsNumber_58 : decode cX1_fitsNumber 58 = .ok (.invokestatic 95, 3) := by decide +kernel
theorem dX1_fitsNumber_61 : decode cX1_fitsNumber 61 = .ok (.istore 10, 2) := by decide +kernel
theorem dX1_fitsNumber_63 : decode cX1_fitsNumber 63 = .ok (.iload 9, 2) := by decide +kernel
theorem dX1_fitsNumber_65 : decode cX1_fitsNumber 65 = .ok (.iload 6, 2) := by decide +kernel
theorem dX1_fitsNumber_67 : decode cX1_fitsNumber 67 = .ok (.if_icmp .gt 17, 3) := by decide +kernel
theorem dX1_fitsNumber_70 : decode cX1_fitsNumber 70 = .ok (.iload 6, 2) := by decide +kernel
theorem dX1_fitsNumber_72 : decode cX1_fitsNumber 72 = .ok (.iload 9, 2) := by decide +kernel
theorem dX1_fitsNumber_74 : decode cX1_fitsNumber 74 = .ok (.iload 10, 2) := by decide +kernel
theorem dX1_fitsNumber_76 : decode cX1_fitsNumber 76 = .ok (.iadd, 1) := by decide +kernel
theorem dX1_fitsNumber_77 : decode cX1_fitsNumber 77 = .ok (.if_icmp .gt 7, 3) := by decide +kernel
theorem dX1_fitsNumber_80 : decode cX1_fitsNumber 80 = .ok (.iconst 1, 1) := by decide +kernel
theorem dX1_fitsNumber_81 : decode cX1_fitsNumber 81 = .ok (.goto 4, 3) := by decide +kernel
theorem dX1_fitsNumber_84 : decode cX1_fitsNumber 84 = .ok (.iconst 0, 1) := by decide +kernel
theorem dX1_fitsNumber_85 : decode cX1_fitsNumber 85 = .ok (.ireturn, 1) := by decide +kernel
theorem dX2_init_0 : decode cX2_init 0 = .ok (.aload_n 0, 1) := by decide +kernel
theorem dX2_init_1 : decode cX2_init 1 = .ok (.invokespecial 3, 3) := by decide +kernel
theorem dX2_init_4 : decode cX2_init 4 = .ok (.aload_n 0, 1) := by decide +kernel
theorem dX2_init_5 : decode cX2_init 5 = .ok (.new 9, 3) := by decide +kernel
theorem dX2_init_8 : decode cX2_init 8 = .ok (.dup, 1) := by decide +kernel
theorem dX2_init_9 : decode cX2_init 9 = .ok (.bipush 10, 2) := by decide +kernel
theorem dX2_init_11 : decode cX2_init 11 = .ok (.invokespecial 11, 3) := by decide +kernel
theorem dX2_init_14 : decode cX2_init 14 = .ok (.putfield 14, 3) := by decide +kernel
theorem dX2_init_17 : decode cX2_init 17 = .ok (.aload_n 0, 1) := by decide +kernel
theorem dX2_init_18 : decode cX2_init 18 = .ok (.iconst 0, 1) := by decide +kernel
theorem dX2_init_19 : decode cX2_init 19 = .ok (.putfield 20, 3) := by decide +kernel
theorem dX2_init_22 : decode cX2_init 22 = .ok (.aload_n 0, 1) := by decide +kernel
theorem dX2_init_23 : decode cX2_init 23 = .ok (.iconst 0, 1) := by decide +kernel
theorem dX2_init_24 : decode cX2_init 24 = .ok (.putfield 24, 3) := by decide +kernel
theorem dX2_init_27 : decode cX2_init 27 = .ok (.return_, 1) := by decide +kernel
theorem dX2_remember_0 : decode cX2_remember 0 = .ok (.aload_n 0, 1) := by decide +kernel
theorem dX2_remember_1 : decode cX2_remember 1 = .ok (.getfield 14, 3) := by decide +kernel
theorem dX2_remember_4 : decode cX2_remember 4 = .ok (.aload_n 0, 1) := by decide +kernel
theorem dX2_remember_5 : decode cX2_remember 5 = .ok (.getfield 20, 3) := by decide +kernel
theorem dX2_remember_8 : decode cX2_remember 8 = .ok (.aload_n 1, 1) := by decide +kernel
theorem dX2_remember_9 : decode cX2_remember 9 = .ok (.invokevirtual 27, 3) := by decide +kernel
theorem dX2_remember_12 : decode cX2_remember 12 = .ok (.aload_n 0, 1) := by decide +kernel
theorem dX2_remember_13 : decode cX2_remember 13 = .ok (.aload_n 0, 1) := by decide +kernel
theorem dX2_remember_14 : decode cX2_remember 14 = .ok (.getfield 20, 3) := by decide +kernel
theorem dX2_remember_17 : decode cX2_remember 17 = .ok (.iconst 1, 1) := by decide +kernel
theorem dX2_remember_18 : decode cX2_remember 18 = .ok (.iadd, 1) := by decide +kernel
theorem dX2_remember_19 : decode cX2_remember 19 = .ok (.bipush 10, 2) := by decide +kernel
theorem dX2_remember_21 : decode cX2_remember 21 = .ok (.if_icmp .ge 12, 3) := by decide +kernel
theorem dX2_remember_24 : decode cX2_remember 24 = .ok (.aload_n 0, 1) := by decide +kernel
theorem dX2_remember_25 : decode cX2_remember 25 = .ok (.getfield 20, 3) := by decide +kernel
theorem dX2_remember_28 : decode cX2_remember 28 = .ok (.iconst 1, 1) := by decide +kernel
theorem dX2_remember_29 : decode cX2_remember 29 = .ok (.iadd, 1) := by decide +kernel
theorem dX2_remember_30 : decode cX2_remember 30 = .ok (.goto 4, 3) := by decide +kernel
theorem dX2_remember_33 : decode cX2_remember 33 = .ok (.iconst 0, 1) := by decide +kernel
theorem dX2_remember_34 : decode cX2_remember 34 = .ok (.putfield 20, 3) := by decide +kernel
theorem dX2_remember_37 : decode cX2_remember 37 = .ok (.aload_n 0, 1) := by decide +kernel
theorem dX2_remember_38 : decode cX2_remember 38 = .ok (.aload_n 0, 1) := by decide +kernel
theorem dX2_remember_39 : decode cX2_remember 39 = .ok (.getfield 24, 3) := by decide +kernel
theorem dX2_remember_42 : decode cX2_remember 42 = .ok (.iconst 1, 1) := by decide +kernel
theorem dX2_remember_43 : decode cX2_remember 43 = .ok (.iadd, 1) := by decide +kernel
theorem dX2_remember_44 : decode cX2_remember 44 = .ok (.bipush 10, 2) := by decide +kernel
theorem dX2_remember_46 : decode cX2_remember 46 = .ok (.invokestatic 31, 3) := by decide +kernel
theorem dX2_remember_49 : decode cX2_remember 49 = .ok (.putfield 24, 3) := by decide +kernel
theorem dX2_remember_52 : decode cX2_remember 52 = .ok (.return_, 1) := by decide +kernel
theorem dX2_giveLatest_0 : decode cX2_giveLatest 0 = .ok (.aload_n 0, 1) := by decide +kernel
theorem dX2_giveLatest_1 : decode cX2_giveLatest 1 = .ok (.aload_n 0, 1) := by decide +kernel
theorem dX2_giveLatest_2 : decode cX2_giveLatest 2 = .ok (.getfield 20, 3) := by decide +kernel
theorem dX2_giveLatest_5 : decode cX2_giveLatest 5 = .ok (.ifCond .le 12, 3) := by decide +kernel
theorem dX2_giveLatest_8 : decode cX2_giveLatest 8 = .ok (.aload_n 0, 1) := by decide +kernel
theorem dX2_giveLatest_9 : decode cX2_giveLatest 9 = .ok (.getfield 20, 3) := by decide +kernel
theorem dX2_giveLatest_12 : decode cX2_giveLatest 12 = .ok (.iconst 1, 1) := by decide +kernel
theorem dX2_giveLatest_13 : decode cX2_giveLatest 13 = .ok (.isub, 1) := by decide +kernel
theorem dX2_giveLatest_14 : decode cX2_giveLatest 14 = .ok (.goto 5, 3) := by decide +kernel
theorem dX2_giveLatest_17 : decode cX2_giveLatest 17 = .ok (.bipush 9, 2) := by decide +kernel
theorem dX2_giveLatest_19 : decode cX2_giveLatest 19 = .ok (.putfield 20, 3) := by decide +kernel
theorem dX2_giveLatest_22 : decode cX2_giveLatest 22 = .ok (.aload_n 0, 1) := by decide +kernel
theorem dX2_giveLatest_23 : decode cX2_giveLatest 23 = .ok (.aload_n 0, 1) := by decide +kernel
theorem dX2_giveLatest_24 : decode cX2_giveLatest 24 = .ok (.getfield 24, 3) := by decide +kernel
theorem dX2_giveLatest_27 : decode cX2_giveLatest 27 = .ok (.iconst 1, 1) := by decide +kernel
theorem dX2_giveLatest_28 : decode cX2_giveLatest 28 = .ok (.isub, 1) := by decide +kernel
theorem dX2_giveLatest_29 : decode cX2_giveLatest 29 = .ok (.iconst 0, 1) := by decide +kernel
theorem dX2_giveLatest_30 : decode cX2_giveLatest 30 = .ok (.invokestatic 37, 3) := by decide +kernel
theorem dX2_giveLatest_33 : decode cX2_giveLatest 33 = .ok (.putfield 24, 3) := by decide +kernel
theorem dX2_giveLatest_36 : decode cX2_giveLatest 36 = .ok (.aload_n 0, 1) := by decide +kernel
theorem dX2_giveLatest_37 : decode cX2_giveLatest 37 = .ok (.getfield 14, 3) := by decide +kernel
theorem dX2_giveLatest_40 : decode cX2_giveLatest 40 = .ok (.aload_n 0, 1) := by decide +kernel
theorem dX2_giveLatest_41 : decode cX2_giveLatest 41 = .ok (.getfield 20, 3) := by decide +kernel
theorem dX2_giveLatest_44 : decode cX2_giveLatest 44 = .ok (.aload_n 1, 1) := by decide +kernel
theorem dX2_giveLatest_45 : decode cX2_giveLatest 45 = .ok (.invokevirtual 40, 3) := by decide +kernel
theorem dX2_giveLatest_48 : decode cX2_giveLatest 48 = .ok (.return_, 1) := by decide +kernel
theorem dX2_forget_0 : decode cX2_forget 0 = .ok (.aload_n 0, 1) := by decide +kernel
theorem dX2_forget_1 : decode cX2_forget 1 = .ok (.iconst 0, 1) := by decide +kernel
theorem dX2_forget_2 : decode cX2_forget 2 = .ok (.putfield 24, 3) := by decide +kernel
theorem dX2_forget_5 : decode cX2_forget 5 = .ok (.return_, 1) := by decide +kernel
theorem dX3_init_0 : decode cX3_init 0 = .ok (.aload_n 0, 1) := by decide +kernel
theorem dX3_init_1 : decode cX3_init 1 = .ok (.invokespecial 3, 3) := by decide +kernel
theorem dX3_init_4 : decode cX3_init 4 = .ok (.aload_n 0, 1) := by decide +kernel
theorem dX3_init_5 : decode cX3_init 5 = .ok (.iconst 0, 1) := by decide +kernel
theorem dX3_init_6 : decode cX3_init 6 = .ok (.putfield 11, 3) := by decide +kernel
theorem dX3_init_9 : decode cX3_init 9 = .ok (.aload_n 0, 1) := by decide +kernel
theorem dX3_init_10 : decode cX3_init 10 = .ok (.iconst 0, 1) := by decide +kernel
theorem dX3_init_11 : decode cX3_init 11 = .ok (.putfield 15, 3) := by decide +kernel
theorem dX3_init_14 : decode cX3_init 14 = .ok (.aload_n 0, 1) := by decide +kernel
theorem dX3_init_15 : decode cX3_init 15 = .ok (.iconst 0, 1) := by decide +kernel
theorem dX3_init_16 : decode cX3_init 16 = .ok (.putfield 18, 3) := by decide +kernel
theorem dX3_init_19 : decode cX3_init 19 = .ok (.aload_n 0, 1) := by decide +kernel
theorem dX3_init_20 : decode cX3_init 20 = .ok (.lconst 0, 1) := by decide +kernel
theorem dX3_init_21 : decode cX3_init 21 = .ok (.putfield 21, 3) := by decide +kernel
theorem dX3_init_24 : decode cX3_init 24 = .ok (.aload_n 0, 1) := by decide +kernel
theorem dX3_init_25 : decode cX3_init 25 = .ok (.aload_n 1, 1) := by decide +kernel
theorem dX3_init_26 : decode cX3_init 26 = .ok (.putfield 25, 3) := by decide +kernel
theorem dX3_init_29 : decode cX3_init 29 = .ok (.aload_n 0, 1) := by decide +kernel
theorem dX3_init_30 : decode cX3_init 30 = .ok (.aload_n 2, 1) := by decide +kernel
theorem dX3_init_31 : decode cX3_init 31 = .ok (.putfield 29, 3) := by decide +kernel
theorem dX3_init_34 : decode cX3_init 34 = .ok (.return_, 1) := by decide +kernel
theorem dX3_tells_0 : decode cX3_tells 0 = .ok (.aload_n 0, 1) := by decide +kernel
theorem dX3_tells_1 : decode cX3_tells 1 = .ok (.getfield 11, 3) := by decide +kernel
theorem dX3_tells_4 : decode cX3_tells 4 = .ok (.iconst 1, 1) := by decide +kernel
theorem dX3_tells_5 : decode cX3_tells 5 = .ok (.if_icmp .eq 11, 3) := by decide +kernel
theorem dX3_tells_8 : decode cX3_tells 8 = .ok (.aload_n 0, 1) := by decide +kernel
theorem dX3_tells_9 : decode cX3_tells 9 = .ok (.getfield 11, 3) := by decide +kernel
theorem dX3_tells_12 : decode cX3_tells 12 = .ok (.iconst 2, 1) := by decide +kernel
theorem dX3_tells_13 : decode cX3_tells 13 = .ok (.if_icmp .ne 7, 3) := by decide +kernel
theorem dX3_tells_16 : decode cX3_tells 16 = .ok (.iconst 1, 1) := by decide +kernel
theorem dX3_tells_17 : decode cX3_tells 17 = .ok (.goto 4, 3) := by decide +kernel
theorem dX3_tells_20 : decode cX3_tells 20 = .ok (.iconst 0, 1) := by decide +kernel
theorem dX3_tells_21 : decode cX3_tells 21 = .ok (.ireturn, 1) := by decide +kernel
theorem dX3_seek_0 : decode cX3_seek 0 = .ok (.aload_n 0, 1) := by decide +kernel
theorem dX3_seek_1 : decode cX3_seek 1 = .ok (.iconst 0, 1) := by decide +kernel
theorem dX3_seek_2 : decode cX3_seek 2 = .ok (.putfield 11, 3) := by decide +kernel
theorem dX3_seek_5 : decode cX3_seek 5 = .ok (.aload_n 0, 1) := by decide +kernel
theorem dX3_seek_6 : decode cX3_seek 6 = .ok (.lconst 0, 1) := by decide +kernel
theorem dX3_seek_7 : decode cX3_seek 7 = .ok (.putfield 21, 3) := by decide +kernel
theorem dX3_seek_10 : decode cX3_seek 10 = .ok (.aload_n 0, 1) := by decide +kernel
theorem dX3_seek_11 : decode cX3_seek 11 = .ok (.iconst 0, 1) := by decide +kernel
theorem dX3_seek_12 : decode cX3_seek 12 = .ok (.putfield 15, 3) := by decide +kernel
theorem dX3_seek_15 : decode cX3_seek 15 = .ok (.iconst 0, 1) := by decide +kernel
theorem dX3_seek_16 : decode cX3_seek 16 = .ok (.istore_n 1, 1) := by decide +kernel
theorem dX3_seek_17 : decode cX3_seek 17 = .ok (.iload_n 1, 1) := by decide +kernel
theorem dX3_seek_18 : decode cX3_seek 18 = .ok (.aload_n 0, 1) := by decide +kernel
theorem dX3_seek_19 : decode cX3_seek 19 = .ok (.getfield 25, 3) := by decide +kernel
theorem dX3_seek_22 : decode cX3_seek 22 = .ok (.getfield 33, 3) := by decide +kernel
theorem dX3_seek_25 : decode cX3_seek 25 = .ok (.if_icmp .ge 41, 3) := by decide +kernel
theorem dX3_seek_28 : decode cX3_seek 28 = .ok (.aload_n 0, 1) := by decide +kernel
theorem dX3_seek_29 : decode cX3_seek 29 = .ok (.getfield 11, 3) := by decide +kernel
theorem dX3_seek_32 : decode cX3_seek 32 = .ok (.ifCond .ne 34, 3) := by decide +kernel
theorem dX3_seek_35 : decode cX3_seek 35 = .ok (.aload_n 0, 1) := by decide +kernel
theorem dX3_seek_36 : decode cX3_seek 36 = .ok (.iload_n 1, 1) := by decide +kernel
theorem dX3_seek_37 : decode cX3_seek 37 = .ok (.putfield 18, 3) := by decide +kernel
theorem dX3_seek_40 : decode cX3_seek 40 = .ok (.aload_n 0, 1) := by decide +kernel
theorem dX3_seek_41 : decode cX3_seek 41 = .ok (.aload_n 0, 1) := by decide +kernel
theorem dX3_seek_42 : decode cX3_seek 42 = .ok (.getfield 29, 3) := by decide +kernel
theorem dX3_seek_45 : decode cX3_seek 45 = .ok (.iload_n 1, 1) := by decide +kernel
theorem dX3_seek_46 : decode cX3_seek 46 = .ok (.invokevirtual 38, 3) := by decide +kernel
theorem dX3_seek_49 : decode cX3_seek 49 = .ok (.aload_n 0, 1) := by decide +kernel
theorem dX3_seek_50 : decode cX3_seek 50 = .ok (.getfield 25, 3) := by decide +kernel
theorem dX3_seek_53 : decode cX3_seek 53 = .ok (.iload_n 1, 1) := by decide +kernel
theorem dX3_seek_54 : decode cX3_seek 54 = .ok (.invokevirtual 44, 3) := by decide +kernel
theorem dX3_seek_57 : decode cX3_seek 57 = .ok (.invokevirtual 48, 3) := by decide +kernel
theorem dX3_seek_60 : decode cX3_seek 60 = .ok (.iinc 1 1, 3) := by decide +kernel
theorem dX3_seek_63 : decode cX3_seek 63 = .ok (.goto (-46), 3) := by decide +kernel
theorem dX3_seek_66 : decode cX3_seek 66 = .ok (.aload_n 0, 1) := by decide +kernel
theorem dX3_seek_67 : decode cX3_seek 67 = .ok (.getfield 11, 3) := by decide +kernel
theorem dX3_seek_70 : decode cX3_seek 70 = .ok (.ifCond .ne 8, 3) := by decide +kernel
theorem dX3_seek_73 : decode cX3_seek 73 = .ok (.aload_n 0, 1) := by decide +kernel
theorem dX3_seek_74 : decode cX3_seek 74 = .ok (.iconst 1, 1) := by decide +kernel
theorem dX3_seek_75 : decode cX3_seek 75 = .ok (.putfield 15, 3) := by decide +kernel
theorem dX3_seek_78 : decode cX3_seek 78 = .ok (.iconst 0, 1) := by decide +kernel
theorem dX3_seek_79 : decode cX3_seek 79 = .ok (.istore_n 1, 1) := by decide +kernel
theorem dX3_seek_80 : decode cX3_seek 80 = .ok (.iload_n 1, 1) := by decide +kernel
theorem dX3_seek_81 : decode cX3_seek 81 = .ok (.aload_n 0, 1) := by decide +kernel
theorem dX3_seek_82 : decode cX3_seek 82 = .ok (.getfield 25, 3) := by decide +kernel
theorem dX3_seek_85 : decode cX3_seek 85 = .ok (.getfield 52, 3) := by decide +kernel
theorem dX3_seek_88 : decode cX3_seek 88 = .ok (.if_icmp .ge 33, 3) := by decide +kernel
theorem dX3_seek_91 : decode cX3_seek 91 = .ok (.aload_n 0, 1) := by decide +kernel
theorem dX3_seek_92 : decode cX3_seek 92 = .ok (.getfield 11, 3) := by decide +kernel
theorem dX3_seek_95 : decode cX3_seek 95 = .ok (.ifCond .ne 26, 3) := by decide +kernel
theorem dX3_seek_98 : decode cX3_seek 98 = .ok (.aload_n 0, 1) := by decide +kernel
theorem dX3_seek_99 : decode cX3_seek 99 = .ok (.iload_n 1, 1) := by decide +kernel
theorem dX3_seek_100 : decode cX3_seek 100 = .ok (.putfield 18, 3) := by decide +kernel
theorem dX3_seek_103 : decode cX3_seek 103 = .ok (.aload_n 0, 1) := by decide +kernel
theorem dX3_seek_104 : decode cX3_seek 104 = .ok (.aload_n 0, 1) := by decide +kernel
theorem dX3_seek_105 : decode cX3_seek 105 = .ok (.getfield 25, 3) := by decide +kernel
theorem dX3_seek_108 : decode cX3_seek 108 = .ok (.iload_n 1, 1) := by decide +kernel
theorem dX3_seek_109 : decode cX3_seek 109 = .ok (.invokevirtual 55, 3) := by decide +kernel
theorem dX3_seek_112 : decode cX3_seek 112 = .ok (.invokevirtual 58, 3) := by decide +kernel
theorem dX3_seek_115 : decode cX3_seek 115 = .ok (.iinc 1 1, 3) := by decide +kernel
theorem dX3_seek_118 : decode cX3_seek 118 = .ok (.goto (-38), 3) := by decide +kernel
theorem dX3_seek_121 : decode cX3_seek 121 = .ok (.aload_n 0, 1) := by decide +kernel
theorem dX3_seek_122 : decode cX3_seek 122 = .ok (.getfield 11, 3) := by decide +kernel
theorem dX3_seek_125 : decode cX3_seek 125 = .ok (.ifCond .ne 8, 3) := by decide +kernel
theorem dX3_seek_128 : decode cX3_seek 128 = .ok (.aload_n 0, 1) := by decide +kernel
theorem dX3_seek_129 : decode cX3_seek 129 = .ok (.iconst 2, 1) := by decide +kernel
theorem dX3_seek_130 : decode cX3_seek 130 = .ok (.putfield 15, 3) := by decide +kernel
theorem dX3_seek_133 : decode cX3_seek 133 = .ok (.iconst 0, 1) := by decide +kernel
theorem dX3_seek_134 : decode cX3_seek 134 = .ok (.istore_n 1, 1) := by decide +kernel
theorem dX3_seek_135 : decode cX3_seek 135 = .ok (.iload_n 1, 1) := by decide +kernel
theorem dX3_seek_136 : decode cX3_seek 136 = .ok (.aload_n 0, 1) := by decide +kernel
theorem dX3_seek_137 : decode cX3_seek 137 = .ok (.getfield 25, 3) := by decide +kernel
theorem dX3_seek_140 : decode cX3_seek 140 = .ok (.getfield 62, 3) := by decide +kernel
theorem dX3_seek_143 : decode cX3_seek 143 = .ok (.if_icmp .ge 34, 3) := by decide +kernel
theorem dX3_seek_146 : decode cX3_seek 146 = .ok (.aload_n 0, 1) := by decide +kernel
theorem dX3_seek_147 : decode cX3_seek 147 = .ok (.getfield 11, 3) := by decide +kernel
theorem dX3_seek_150 : decode cX3_seek 150 = .ok (.ifCond .ne 27, 3) := by decide +kernel
theorem dX3_seek_153 : decode cX3_seek 153 = .ok (.aload_n 0, 1) := by decide +kernel
theorem dX3_seek_154 : decode cX3_seek 154 = .ok (.iload_n 1, 1) := by decide +kernel
theorem dX3_seek_155 : decode cX3_seek 155 = .ok (.putfield 18, 3) := by decide +kernel
theorem dX3_seek_158 : decode cX3_seek 158 = .ok (.aload_n 0, 1) := by decide +kernel
theorem dX3_seek_159 : decode cX3_seek 159 = .ok (.iload_n 1, 1) := by decide +kernel
theorem dX3_seek_160 : decode cX3_seek 160 = .ok (.aload_n 0, 1) := by decide +kernel
theorem dX3_seek_161 : decode cX3_seek 161 = .ok (.getfield 29, 3) := by decide +kernel
theorem dX3_seek_164 : decode cX3_seek 164 = .ok (.iload_n 1, 1) := by decide +kernel
theorem dX3_seek_165 : decode cX3_seek 165 = .ok (.invokevirtual 65, 3) := by decide +kernel
theorem dX3_seek_168 : decode cX3_seek 168 = .ok (.invokevirtual 68, 3) := by decide +kernel
theorem dX3_seek_171 : decode cX3_seek 171 = .ok (.iinc 1 1, 3) := by decide +kernel
theorem dX3_seek_174 : decode cX3_seek 174 = .ok (.goto (-39), 3) := by decide +kernel
theorem dX3_seek_177 : decode cX3_seek 177 = .ok (.aload_n 0, 1) := by decide +kernel
theorem dX3_seek_178 : decode cX3_seek 178 = .ok (.getfield 11, 3) := by decide +kernel
theorem dX3_seek_181 : decode cX3_seek 181 = .ok (.ifCond .ne 8, 3) := by decide +kernel
theorem dX3_seek_184 : decode cX3_seek 184 = .ok (.aload_n 0, 1) := by decide +kernel
theorem dX3_seek_185 : decode cX3_seek 185 = .ok (.iconst 3, 1) := by decide +kernel
theorem dX3_seek_186 : decode cX3_seek 186 = .ok (.putfield 15, 3) := by decide +kernel
theorem dX3_seek_189 : decode cX3_seek 189 = .ok (.iconst 0, 1) := by decide +kernel
theorem dX3_seek_190 : decode cX3_seek 190 = .ok (.istore_n 1, 1) := by decide +kernel
theorem dX3_seek_191 : decode cX3_seek 191 = .ok (.iload_n 1, 1) := by decide +kernel
theorem dX3_seek_192 : decode cX3_seek 192 = .ok (.aload_n 0, 1) := by decide +kernel
theorem dX3_seek_193 : decode cX3_seek 193 = .ok (.getfield 25, 3) := by decide +kernel
theorem dX3_seek_196 : decode cX3_seek 196 = .ok (.getfield 62, 3) := by decide +kernel
theorem dX3_seek_199 : decode cX3_seek 199 = .ok (.if_icmp .ge 34, 3) := by decide +kernel
theorem dX3_seek_202 : decode cX3_seek 202 = .ok (.aload_n 0, 1) := by decide +kernel
theorem dX3_seek_203 : decode cX3_seek 203 = .ok (.getfield 11, 3) := by decide +kernel
theorem dX3_seek_206 : decode cX3_seek 206 = .ok (.ifCond .ne 27, 3) := by decide +kernel
theorem dX3_seek_209 : decode cX3_seek 209 = .ok (.aload_n 0, 1) := by decide +kernel
theorem dX3_seek_210 : decode cX3_seek 210 = .ok (.iload_n 1, 1) := by decide +kernel
theorem dX3_seek_211 : decode cX3_seek 211 = .ok (.putfield 18, 3) := by decide +kernel
theorem dX3_seek_214 : decode cX3_seek 214 = .ok (.aload_n 0, 1) := by decide +kernel
theorem dX3_seek_215 : decode cX3_seek 215 = .ok (.iload_n 1, 1) := by decide +kernel
theorem dX3_seek_216 : decode cX3_seek 216 = .ok (.aload_n 0, 1) := by decide +kernel
theorem dX3_seek_217 : decode cX3_seek 217 = .ok (.getfield 29, 3) := by decide +kernel
theorem dX3_seek_220 : decode cX3_seek 220 = .ok (.iload_n 1, 1) := by decide +kernel
theorem dX3_seek_221 : decode cX3_seek 221 = .ok (.invokevirtual 65, 3) := by decide +kernel
theorem dX3_seek_224 : decode cX3_seek 224 = .ok (.invokevirtual 72, 3) := by decide +kernel
theorem dX3_seek_227 : decode cX3_seek 227 = .ok (.iinc 1 1, 3) := by decide +kernel
theorem dX3_seek_230 : decode cX3_seek 230 = .ok (.goto (-39), 3) := by decide +kernel
theorem dX3_seek_233 : decode cX3_seek 233 = .ok (.return_, 1) := by decide +kernel
theorem dX3_lookAtCell_0 : decode cX3_lookAtCell 0 = .ok (.iload_n 1, 1) := by decide +kernel
theorem dX3_lookAtCell_1 : decode cX3_lookAtCell 1 = .ok (.ifCond .ge 4, 3) := by decide +kernel
theorem dX3_lookAtCell_4 : decode cX3_lookAtCell 4 = .ok (.return_, 1) := by decide +kernel
theorem dX3_lookAtCell_5 : decode cX3_lookAtCell 5 = .ok (.aload_n 0, 1) := by decide +kernel
theorem dX3_lookAtCell_6 : decode cX3_lookAtCell 6 = .ok (.lload_n 2, 1) := by decide +kernel
theorem dX3_lookAtCell_7 : decode cX3_lookAtCell 7 = .ok (.invokevirtual 75, 3) := by decide +kernel
theorem dX3_lookAtCell_10 : decode cX3_lookAtCell 10 = .ok (.lstore 4, 2) := by decide +kernel
theorem dX3_lookAtCell_12 : decode cX3_lookAtCell 12 = .ok (.lload_n 2, 1) := by decide +kernel
theorem dX3_lookAtCell_13 : decode cX3_lookAtCell 13 = .ok (.aload_n 0, 1) := by decide +kernel
theorem dX3_lookAtCell_14 : decode cX3_lookAtCell 14 = .ok (.getfield 29, 3) := by decide +kernel
theorem dX3_lookAtCell_17 : decode cX3_lookAtCell 17 = .ok (.getfield 79, 3) := by decide +kernel
theorem dX3_lookAtCell_20 : decode cX3_lookAtCell 20 = .ok (.land, 1) := by decide +kernel
theorem dX3_lookAtCell_21 : decode cX3_lookAtCell 21 = .ok (.invokestatic 82, 3) := by decide +kernel
theorem dX3_lookAtCell_24 : decode cX3_lookAtCell 24 = .ok (.istore 6, 2) := by decide +kernel
theorem dX3_lookAtCell_26 : decode cX3_lookAtCell 26 = .ok (.lload 4, 2) := by decide +kernel
theorem dX3_lookAtCell_28 : decode cX3_lookAtCell 28 = .ok (.invokestatic 82, 3) := by decide +kernel
theorem dX3_lookAtCell_31 : decode cX3_lookAtCell 31 = .ok (.istore 7, 2) := by decide +kernel
theorem dX3_lookAtCell_33 : decode cX3_lookAtCell 33 = .ok (.iload 6, 2) := by decide +kernel
theorem dX3_lookAtCell_35 : decode cX3_lookAtCell 35 = .ok (.iload_n 1, 1) := by decide +kernel
theorem dX3_lookAtCell_36 : decode cX3_lookAtCell 36 = .ok (.if_icmp .gt 12, 3) := by decide +kernel
theorem dX3_lookAtCell_39 : decode cX3_lookAtCell 39 = .ok (.iload 6, 2) := by decide +kernel
theorem dX3_lookAtCell_41 : decode cX3_lookAtCell 41 = .ok (.iload 7, 2) := by decide +kernel
theorem dX3_lookAtCell_43 : decode cX3_lookAtCell 43 = .ok (.iadd, 1) := by decide +kernel
theorem dX3_lookAtCell_44 : decode cX3_lookAtCell 44 = .ok (.iload_n 1, 1) := by decide +kernel
theorem dX3_lookAtCell_45 : decode cX3_lookAtCell 45 = .ok (.if_icmp .ge 11, 3) := by decide +kernel
theorem dX3_lookAtCell_48 : decode cX3_lookAtCell 48 = .ok (.aload_n 0, 1) := by decide +kernel
theorem dX3_lookAtCell_49 : decode cX3_lookAtCell 49 = .ok (.iconst 3, 1) := by decide +kernel
theorem dX3_lookAtCell_50 : decode cX3_lookAtCell 50 = .ok (.putfield 11, 3) := by decide +kernel
theorem dX3_lookAtCell_53 : decode cX3_lookAtCell 53 = .ok (.goto 45, 3) := by decide +kernel
theorem dX3_lookAtCell_56 : decode cX3_lookAtCell 56 = .ok (.iload 7, 2) := by decide +kernel
theorem dX3_lookAtCell_58 : decode cX3_lookAtCell 58 = .ok (.ifCond .le 19, 3) := by decide +kernel
theorem dX3_lookAtCell_61 : decode cX3_lookAtCell 61 = .ok (.iload 6, 2) := by decide +kernel
theorem dX3_lookAtCell_63 : decode cX3_lookAtCell 63 = .ok (.iload_n 1, 1) := by decide +kernel
theorem dX3_lookAtCell_64 : decode cX3_lookAtCell 64 = .ok (.if_icmp .ne 13, 3) := by decide +kernel
theorem dX3_lookAtCell_67 : decode cX3_lookAtCell 67 = .ok (.aload_n 0, 1) := by decide +kernel
theorem dX3_lookAtCell_68 : decode cX3_lookAtCell 68 = .ok (.iconst 1, 1) := by decide +kernel
theorem dX3_lookAtCell_69 : decode cX3_lookAtCell 69 = .ok (.lload 4, 2) := by decide +kernel
theorem dX3_lookAtCell_71 : decode cX3_lookAtCell 71 = .ok (.invokevirtual 88, 3) := by decide +kernel
theorem dX3_lookAtCell_74 : decode cX3_lookAtCell 74 = .ok (.goto 24, 3) := by decide +kernel
theorem dX3_lookAtCell_77 : decode cX3_lookAtCell 77 = .ok (.iload 7, 2) := by decide +kernel
theorem dX3_lookAtCell_79 : decode cX3_lookAtCell 79 = .ok (.ifCond .le 19, 3) := by decide +kernel
theorem dX3_lookAtCell_82 : decode cX3_lookAtCell 82 = .ok (.iload 6, 2) := by decide +kernel
theorem dX3_lookAtCell_84 : decode cX3_lookAtCell 84 = .ok (.iload 7, 2) := by decide +kernel
theorem dX3_lookAtCell_86 : decode cX3_lookAtCell 86 = .ok (.iadd, 1) := by decide +kernel
theorem dX3_lookAtCell_87 : decode cX3_lookAtCell 87 = .ok (.iload_n 1, 1) := by decide +kernel
theorem dX3_lookAtCell_88 : decode cX3_lookAtCell 88 = .ok (.if_icmp .ne 10, 3) := by decide +kernel
theorem dX3_lookAtCell_91 : decode cX3_lookAtCell 91 = .ok (.aload_n 0, 1) := by decide +kernel
theorem dX3_lookAtCell_92 : decode cX3_lookAtCell 92 = .ok (.iconst 2, 1) := by decide +kernel
theorem dX3_lookAtCell_93 : decode cX3_lookAtCell 93 = .ok (.lload 4, 2) := by decide +kernel
theorem dX3_lookAtCell_95 : decode cX3_lookAtCell 95 = .ok (.invokevirtual 88, 3) := by decide +kernel
theorem dX3_lookAtCell_98 : decode cX3_lookAtCell 98 = .ok (.return_, 1) := by decide +kernel
theorem dX3_lookAtPoint_0 : decode cX3_lookAtPoint 0 = .ok (.aload_n 0, 1) := by decide +kernel
theorem dX3_lookAtPoint_1 : decode cX3_lookAtPoint 1 = .ok (.lload_n 1, 1) := by decide +kernel
theorem dX3_lookAtPoint_2 : decode cX3_lookAtPoint 2 = .ok (.invokevirtual 75, 3) := by decide +kernel
theorem dX3_lookAtPoint_5 : decode cX3_lookAtPoint 5 = .ok (.lstore_n 3, 1) := by decide +kernel
theorem dX3_lookAtPoint_6 : decode cX3_lookAtPoint 6 = .ok (.lload_n 1, 1) := by decide +kernel
theorem dX3_lookAtPoint_7 : decode cX3_lookAtPoint 7 = .ok (.aload_n 0, 1) := by decide +kernel
theorem dX3_lookAtPoint_8 : decode cX3_lookAtPoint 8 = .ok (.getfield 29, 3) := by decide +kernel
theorem dX3_lookAtPoint_11 : decode cX3_lookAtPoint 11 = .ok (.getfield 79, 3) := by decide +kernel
theorem dX3_lookAtPoint_14 : decode cX3_lookAtPoint 14 = .ok (.land, 1) := by decide +kernel
theorem dX3_lookAtPoint_15 : decode cX3_lookAtPoint 15 = .ok (.invokestatic 82, 3) := by decide +kernel
theorem dX3_lookAtPoint_18 : decode cX3_lookAtPoint 18 = .ok (.istore 5, 2) := by decide +kernel
theorem dX3_lookAtPoint_20 : decode cX3_lookAtPoint 20 = .ok (.lload_n 3, 1) := by decide +kernel
theorem dX3_lookAtPoint_21 : decode cX3_lookAtPoint 21 = .ok (.invokestatic 82, 3) := by decide +kernel
theorem dX3_lookAtPoint_24 : decode cX3_lookAtPoint 24 = .ok (.istore 6, 2) := by decide +kernel
theorem dX3_lookAtPoint_26 : decode cX3_lookAtPoint 26 = .ok (.iload 5, 2) := by decide +kernel
theorem dX3_lookAtPoint_28 : decode cX3_lookAtPoint 28 = .ok (.iconst 2, 1) := by decide +kernel
theorem dX3_lookAtPoint_29 : decode cX3_lookAtPoint 29 = .ok (.if_icmp .gt 14, 3) := by decide +kernel
theorem dX3_lookAtPoint_32 : decode cX3_lookAtPoint 32 = .ok (.iload 5, 2) := by decide +kernel
theorem dX3_lookAtPoint_34 : decode cX3_lookAtPoint 34 = .ok (.iconst 1, 1) := by decide +kernel
theorem dX3_lookAtPoint_35 : decode cX3_lookAtPoint 35 = .ok (.if_icmp .ne 16, 3) := by decide +kernel
theorem dX3_lookAtPoint_38 : decode cX3_lookAtPoint 38 = .ok (.iload 6, 2) := by decide +kernel
theorem dX3_lookAtPoint_40 : decode cX3_lookAtPoint 40 = .ok (.ifCond .ne 11, 3) := by decide +kernel
theorem dX3_lookAtPoint_43 : decode cX3_lookAtPoint 43 = .ok (.aload_n 0, 1) := by decide +kernel
theorem dX3_lookAtPoint_44 : decode cX3_lookAtPoint 44 = .ok (.iconst 3, 1) := by decide +kernel
theorem dX3_lookAtPoint_45 : decode cX3_lookAtPoint 45 = .ok (.putfield 11, 3) := by decide +kernel
theorem dX3_lookAtPoint_48 : decode cX3_lookAtPoint 48 = .ok (.goto 52, 3) := by decide +kernel
theorem dX3_lookAtPoint_51 : decode cX3_lookAtPoint 51 = .ok (.iload 5, 2) := by decide +kernel
theorem dX3_lookAtPoint_53 : decode cX3_lookAtPoint 53 = .ok (.iconst 2, 1) := by decide +kernel
theorem dX3_lookAtPoint_54 : decode cX3_lookAtPoint 54 = .ok (.if_icmp .ne 8, 3) := by decide +kernel
theorem dX3_lookAtPoint_57 : decode cX3_lookAtPoint 57 = .ok (.iload 6, 2) := by decide +kernel
theorem dX3_lookAtPoint_59 : decode cX3_lookAtPoint 59 = .ok (.ifCond .gt 14, 3) := by decide +kernel
theorem dX3_lookAtPoint_62 : decode cX3_lookAtPoint 62 = .ok (.iload 5, 2) := by decide +kernel
theorem dX3_lookAtPoint_64 : decode cX3_lookAtPoint 64 = .ok (.ifCond .ne 18, 3) := by decide +kernel
theorem dX3_lookAtPoint_67 : decode cX3_lookAtPoint 67 = .ok (.iload 6, 2) := by decide +kernel
theorem dX3_lookAtPoint_69 : decode cX3_lookAtPoint 69 = .ok (.iconst 1, 1) := by decide +kernel
theorem dX3_lookAtPoint_70 : decode cX3_lookAtPoint 70 = .ok (.if_icmp .ne 12, 3) := by decide +kernel
theorem dX3_lookAtPoint_73 : decode cX3_lookAtPoint 73 = .ok (.aload_n 0, 1) := by decide +kernel
theorem dX3_lookAtPoint_74 : decode cX3_lookAtPoint 74 = .ok (.iconst 1, 1) := by decide +kernel
theorem dX3_lookAtPoint_75 : decode cX3_lookAtPoint 75 = .ok (.lload_n 3, 1) := by decide +kernel
theorem dX3_lookAtPoint_76 : decode cX3_lookAtPoint 76 = .ok (.invokevirtual 88, 3) := by decide +kernel
theorem dX3_lookAtPoint_79 : decode cX3_lookAtPoint 79 = .ok (.goto 21, 3) := by decide +kernel
theorem dX3_lookAtPoint_82 : decode cX3_lookAtPoint 82 = .ok (.iload 5, 2) := by decide +kernel
theorem dX3_lookAtPoint_84 : decode cX3_lookAtPoint 84 = .ok (.iconst 1, 1) := by decide +kernel
theorem dX3_lookAtPoint_85 : decode cX3_lookAtPoint 85 = .ok (.if_icmp .ne 15, 3) := by decide +kernel
theorem dX3_lookAtPoint_88 : decode cX3_lookAtPoint 88 = .ok (.iload 6, 2) := by decide +kernel
theorem dX3_lookAtPoint_90 : decode cX3_lookAtPoint 90 = .ok (.iconst 1, 1) := by decide +kernel
theorem dX3_lookAtPoint_91 : decode cX3_lookAtPoint 91 = .ok (.if_icmp .ne 9, 3) := by decide +kernel
theorem dX3_lookAtPoint_94 : decode cX3_lookAtPoint 94 = .ok (.aload_n 0, 1) := by decide +kernel
theorem dX3_lookAtPoint_95 : decode cX3_lookAtPoint 95 = .ok (.iconst 2, 1) := by decide +kernel
theorem dX3_lookAtPoint_96 : decode cX3_lookAtPoint 96 = .ok (.lload_n 3, 1) := by decide +kernel
theorem dX3_lookAtPoint_97 : decode cX3_lookAtPoint 97 = .ok (.invokevirtual 88, 3) := by decide +kernel
theorem dX3_lookAtPoint_100 : decode cX3_lookAtPoint 100 = .ok (.return_, 1) := by decide +kernel
theorem dX3_lookAtChain_0 : decode cX3_lookAtChain 0 = .ok (.iload_n 2, 1) := by decide +kernel
theorem dX3_lookAtChain_1 : decode cX3_lookAtChain 1 = .ok (.iconst 1, 1) := by decide +kernel
theorem dX3_lookAtChain_2 : decode cX3_lookAtChain 2 = .ok (.if_icmp .ne 43, 3) := by decide +kernel
theorem dX3_lookAtChain_5 : decode cX3_lookAtChain 5 = .ok (.aload_n 0, 1) := by decide +kernel
theorem dX3_lookAtChain_6 : decode cX3_lookAtChain 6 = .ok (.getfield 25, 3) := by decide +kernel
theorem dX3_lookAtChain_9 : decode cX3_lookAtChain 9 = .ok (.aload_n 0, 1) := by decide +kernel
theorem dX3_lookAtChain_10 : decode cX3_lookAtChain 10 = .ok (.getfield 29, 3) := by decide +kernel
theorem dX3_lookAtChain_13 : decode cX3_lookAtChain 13 = .ok (.getfield 79, 3) := by decide +kernel
theorem dX3_lookAtChain_16 : decode cX3_lookAtChain 16 = .ok (.iload_n 1, 1) := by decide +kernel
theorem dX3_lookAtChain_17 : decode cX3_lookAtChain 17 = .ok (.invokevirtual 91, 3) := by decide +kernel
theorem dX3_lookAtChain_20 : decode cX3_lookAtChain 20 = .ok (.lstore_n 3, 1) := by decide +kernel
theorem dX3_lookAtChain_21 : decode cX3_lookAtChain 21 = .ok (.aload_n 0, 1) := by decide +kernel
theorem dX3_lookAtChain_22 : decode cX3_lookAtChain 22 = .ok (.lload_n 3, 1) := by decide +kernel
theorem dX3_lookAtChain_23 : decode cX3_lookAtChain 23 = .ok (.invokevirtual 95, 3) := by decide +kernel
theorem dX3_lookAtChain_26 : decode cX3_lookAtChain 26 = .ok (.ifCond .eq 16, 3) := by decide +kernel
theorem dX3_lookAtChain_29 : decode cX3_lookAtChain 29 = .ok (.aload_n 0, 1) := by decide +kernel
theorem dX3_lookAtChain_30 : decode cX3_lookAtChain 30 = .ok (.lload_n 3, 1) := by decide +kernel
theorem dX3_lookAtChain_31 : decode cX3_lookAtChain 31 = .ok (.invokevirtual 99, 3) := by decide +kernel
theorem dX3_lookAtChain_34 : decode cX3_lookAtChain 34 = .ok (.ifCond .eq 8, 3) := by decide +kernel
theorem dX3_lookAtChain_37 : decode cX3_lookAtChain 37 = .ok (.aload_n 0, 1) := by decide +kernel
theorem dX3_lookAtChain_38 : decode cX3_lookAtChain 38 = .ok (.iconst 3, 1) := by decide +kernel
theorem dX3_lookAtChain_39 : decode cX3_lookAtChain 39 = .ok (.putfield 11, 3) := by decide +kernel
theorem dX3_lookAtChain_42 : decode cX3_lookAtChain 42 = .ok (.goto 55, 3) := by decide +kernel
theorem dX3_lookAtChain_45 : decode cX3_lookAtChain 45 = .ok (.iload_n 2, 1) := by decide +kernel
theorem dX3_lookAtChain_46 : decode cX3_lookAtChain 46 = .ok (.ifCond .ne 51, 3) := by decide +kernel
theorem dX3_lookAtChain_49 : decode cX3_lookAtChain 49 = .ok (.aload_n 0, 1) := by decide +kernel
theorem dX3_lookAtChain_50 : decode cX3_lookAtChain 50 = .ok (.iload_n 1, 1) := by decide +kernel
theorem dX3_lookAtChain_51 : decode cX3_lookAtChain 51 = .ok (.invokevirtual 102, 3) := by decide +kernel
theorem dX3_lookAtChain_54 : decode cX3_lookAtChain 54 = .ok (.lstore_n 3, 1) := by decide +kernel
theorem dX3_lookAtChain_55 : decode cX3_lookAtChain 55 = .ok (.lload_n 3, 1) := by decide +kernel
theorem dX3_lookAtChain_56 : decode cX3_lookAtChain 56 = .ok (.lconst 0, 1) := by decide +kernel
theorem dX3_lookAtChain_57 : decode cX3_lookAtChain 57 = .ok (.lcmp, 1) := by decide +kernel
theorem dX3_lookAtChain_58 : decode cX3_lookAtChain 58 = .ok (.ifCond .eq 39, 3) := by decide +kernel
theorem dX3_lookAtChain_61 : decode cX3_lookAtChain 61 = .ok (.aload_n 0, 1) := by decide +kernel
theorem dX3_lookAtChain_62 : decode cX3_lookAtChain 62 = .ok (.lload_n 3, 1) := by decide +kernel
theorem dX3_lookAtChain_63 : decode cX3_lookAtChain 63 = .ok (.invokevirtual 95, 3) := by decide +kernel
theorem dX3_lookAtChain_66 : decode cX3_lookAtChain 66 = .ok (.ifCond .ne 22, 3) := by decide +kernel
theorem dX3_lookAtChain_69 : decode cX3_lookAtChain 69 = .ok (.aload_n 0, 1) := by decide +kernel
theorem dX3_lookAtChain_70 : decode cX3_lookAtChain 70 = .ok (.aload_n 0, 1) := by decide +kernel
theorem dX3_lookAtChain_71 : decode cX3_lookAtChain 71 = .ok (.getfield 29, 3) := by decide +kernel
theorem dX3_lookAtChain_74 : decode cX3_lookAtChain 74 = .ok (.getfield 79, 3) := by decide +kernel
theorem dX3_lookAtChain_77 : decode cX3_lookAtChain 77 = .ok (.iload_n 1, 1) := by decide +kernel
theorem dX3_lookAtChain_78 : decode cX3_lookAtChain 78 = .ok (.invokestatic 105, 3) := by decide +kernel
theorem dX3_lookAtChain_81 : decode cX3_lookAtChain 81 = .ok (.lor, 1) := by decide +kernel
theorem dX3_lookAtChain_82 : decode cX3_lookAtChain 82 = .ok (.invokevirtual 108, 3) := by decide +kernel
theorem dX3_lookAtChain_85 : decode cX3_lookAtChain 85 = .ok (.ifCond .eq 12, 3) := by decide +kernel
theorem dX3_lookAtChain_88 : decode cX3_lookAtChain 88 = .ok (.aload_n 0, 1) := by decide +kernel
theorem dX3_lookAtChain_89 : decode cX3_lookAtChain 89 = .ok (.iconst 1, 1) := by decide +kernel
theorem dX3_lookAtChain_90 : decode cX3_lookAtChain 90 = .ok (.iload_n 1, 1) := by decide +kernel
theorem dX3_lookAtChain_91 : decode cX3_lookAtChain 91 = .ok (.invokestatic 105, 3) := by decide +kernel
theorem dX3_lookAtChain_94 : decode cX3_lookAtChain 94 = .ok (.invokevirtual 88, 3) := by decide +kernel
theorem dX3_lookAtChain_97 : decode cX3_lookAtChain 97 = .ok (.return_, 1) := by decide +kernel
theorem dX3_othersThan_0 : decode cX3_othersThan 0 = .ok (.aload_n 0, 1) := by decide +kernel
theorem dX3_othersThan_1 : decode cX3_othersThan 1 = .ok (.getfield 29, 3) := by decide +kernel
theorem dX3_othersThan_4 : decode cX3_othersThan 4 = .ok (.getfield 79, 3) := by decide +kernel
theorem dX3_othersThan_7 : decode cX3_othersThan 7 = .ok (.lload_n 1, 1) := by decide +kernel
theorem dX3_othersThan_8 : decode cX3_othersThan 8 = .ok (.ldc2_w 111, 3) := by decide +kernel
theorem dX3_othersThan_11 : decode cX3_othersThan 11 = .ok (.lxor, 1) := by decide +kernel
theorem dX3_othersThan_12 : decode cX3_othersThan 12 = .ok (.land, 1) := by decide +kernel
theorem dX3_othersThan_13 : decode cX3_othersThan 13 = .ok (.lconst 0, 1) := by decide +kernel
theorem dX3_othersThan_14 : decode cX3_othersThan 14 = .ok (.lcmp, 1) := by decide +kernel
theorem dX3_othersThan_15 : decode cX3_othersThan 15 = .ok (.ifCond .eq 7, 3) := by decide +kernel
theorem dX3_othersThan_18 : decode cX3_othersThan 18 = .ok (.iconst 1, 1) := by decide +kernel
theorem dX3_othersThan_19 : decode cX3_othersThan 19 = .ok (.goto 4, 3) := by decide +kernel
theorem dX3_othersThan_22 : decode cX3_othersThan 22 = .ok (.iconst 0, 1) := by decide +kernel
theorem dX3_othersThan_23 : decode cX3_othersThan 23 = .ok (.ireturn, 1) := by decide +kernel
theorem dX3_isClosed_0 : decode cX3_isClosed 0 = .ok (.iconst 0, 1) := by decide +kernel
theorem dX3_isClosed_1 : decode cX3_isClosed 1 = .ok (.istore_n 3, 1) := by decide +kernel
theorem dX3_isClosed_2 : decode cX3_isClosed 2 = .ok (.iload_n 3, 1) := by decide +kernel
theorem dX3_isClosed_3 : decode cX3_isClosed 3 = .ok (.aload_n 0, 1) := by decide +kernel
theorem dX3_isClosed_4 : decode cX3_isClosed 4 = .ok (.getfield 25, 3) := by decide +kernel
theorem dX3_isClosed_7 : decode cX3_isClosed 7 = .ok (.getfield 52, 3) := by decide +kernel
theorem dX3_isClosed_10 : decode cX3_isClosed 10 = .ok (.if_icmp .ge 47, 3) := by decide +kernel
theorem dX3_isClosed_13 : decode cX3_isClosed 13 = .ok (.aload_n 0, 1) := by decide +kernel
theorem dX3_isClosed_14 : decode cX3_isClosed 14 = .ok (.getfield 25, 3) := by decide +kernel
theorem dX3_isClosed_17 : decode cX3_isClosed 17 = .ok (.iload_n 3, 1) := by decide +kernel
theorem dX3_isClosed_18 : decode cX3_isClosed 18 = .ok (.invokevirtual 55, 3) := by decide +kernel
theorem dX3_isClosed_21 : decode cX3_isClosed 21 = .ok (.lstore 4, 2) := by decide +kernel
theorem dX3_isClosed_23 : decode cX3_isClosed 23 = .ok (.lload 4, 2) := by decide +kernel
theorem dX3_isClosed_25 : decode cX3_isClosed 25 = .ok (.lload_n 1, 1) := by decide +kernel
theorem dX3_isClosed_26 : decode cX3_isClosed 26 = .ok (.land, 1) := by decide +kernel
theorem dX3_isClosed_27 : decode cX3_isClosed 27 = .ok (.lconst 0, 1) := by decide +kernel
theorem dX3_isClosed_28 : decode cX3_isClosed 28 = .ok (.lcmp, 1) := by decide +kernel
theorem dX3_isClosed_29 : decode cX3_isClosed 29 = .ok (.ifCond .eq 22, 3) := by decide +kernel
theorem dX3_isClosed_32 : decode cX3_isClosed 32 = .ok (.lload 4, 2) := by decide +kernel
theorem dX3_isClosed_34 : decode cX3_isClosed 34 = .ok (.aload_n 0, 1) := by decide +kernel
theorem dX3_isClosed_35 : decode cX3_isClosed 35 = .ok (.getfield 29, 3) := by decide +kernel
theorem dX3_isClosed_38 : decode cX3_isClosed 38 = .ok (.getfield 79, 3) := by decide +kernel
theorem dX3_isClosed_41 : decode cX3_isClosed 41 = .ok (.land, 1) := by decide +kernel
theorem dX3_isClosed_42 : decode cX3_isClosed 42 = .ok (.invokestatic 82, 3) := by decide +kernel
theorem dX3_isClosed_45 : decode cX3_isClosed 45 = .ok (.iconst 2, 1) := by decide +kernel
theorem dX3_isClosed_46 : decode cX3_isClosed 46 = .ok (.if_icmp .eq 5, 3) := by decide +kernel
theorem dX3_isClosed_49 : decode cX3_isClosed 49 = .ok (.iconst 0, 1) := by decide +kernel
theorem dX3_isClosed_50 : decode cX3_isClosed 50 = .ok (.ireturn, 1) := by decide +kernel
theorem dX3_isClosed_51 : decode cX3_isClosed 51 = .ok (.iinc 3 1, 3) := by decide +kernel
theorem dX3_isClosed_54 : decode cX3_isClosed 54 = .ok (.goto (-52), 3) := by decide +kernel
theorem dX3_isClosed_57 : decode cX3_isClosed 57 = .ok (.iconst 1, 1) := by decide +kernel
theorem dX3_isClosed_58 : decode cX3_isClosed 58 = .ok (.ireturn, 1) := by decide +kernel
theorem dX3_chainThatWouldClose_0 : decode cX3_chainThatWouldClose 0 = .ok (.aload_n 0, 1) := by decide +kernel
theorem dX3_chainThatWouldClose_1 : decode cX3_chainThatWouldClose 1 = .ok (.getfield 25, 3) := by decide +kernel
theorem dX3_chainThatWouldClose_4 : decode cX3_chainThatWouldClose 4 = .ok (.aload_n 0, 1) := by decide +kernel
theorem dX3_chainThatWouldClose_5 : decode cX3_chainThatWouldClose 5 = .ok (.getfield 25, 3) := by decide +kernel
theorem dX3_chainThatWouldClose_8 : decode cX3_chainThatWouldClose 8 = .ok (.iload_n 1, 1) := by decide +kernel
theorem dX3_chainThatWouldClose_9 : decode cX3_chainThatWouldClose 9 = .ok (.iconst 0, 1) := by decide +kernel
theorem dX3_chainThatWouldClose_10 : decode cX3_chainThatWouldClose 10 = .ok (.invokevirtual 113, 3) := by decide +kernel
theorem dX3_chainThatWouldClose_13 : decode cX3_chainThatWouldClose 13 = .ok (.invokevirtual 55, 3) := by decide +kernel
theorem dX3_chainThatWouldClose_16 : decode cX3_chainThatWouldClose 16 = .ok (.aload_n 0, 1) := by decide +kernel
theorem dX3_chainThatWouldClose_17 : decode cX3_chainThatWouldClose 17 = .ok (.getfield 29, 3) := by decide +kernel
theorem dX3_chainThatWouldClose_20 : decode cX3_chainThatWouldClose 20 = .ok (.getfield 79, 3) := by decide +kernel
theorem dX3_chainThatWouldClose_23 : decode cX3_chainThatWouldClose 23 = .ok (.land, 1) := by decide +kernel
theorem dX3_chainThatWouldClose_24 : decode cX3_chainThatWouldClose 24 = .ok (.lstore_n 2, 1) := by decide +kernel
theorem dX3_chainThatWouldClose_25 : decode cX3_chainThatWouldClose 25 = .ok (.aload_n 0, 1) := by decide +kernel
theorem dX3_chainThatWouldClose_26 : decode cX3_chainThatWouldClose 26 = .ok (.getfield 25, 3) := by decide +kernel
theorem dX3_chainThatWouldClose_29 : decode cX3_chainThatWouldClose 29 = .ok (.aload_n 0, 1) := by decide +kernel
theorem dX3_chainThatWouldClose_30 : decode cX3_chainThatWouldClose 30 = .ok (.getfield 25, 3) := by decide +kernel
theorem dX3_chainThatWouldClose_33 : decode cX3_chainThatWouldClose 33 = .ok (.iload_n 1, 1) := by decide +kernel
theorem dX3_chainThatWouldClose_34 : decode cX3_chainThatWouldClose 34 = .ok (.iconst 1, 1) := by decide +kernel
theorem dX3_chainThatWouldClose_35 : decode cX3_chainThatWouldClose 35 = .ok (.invokevirtual 113, 3) := by decide +kernel
theorem dX3_chainThatWouldClose_38 : decode cX3_chainThatWouldClose 38 = .ok (.invokevirtual 55, 3) := by decide +kernel
theorem dX3_chainThatWouldClose_41 : decode cX3_chainThatWouldClose 41 = .ok (.aload_n 0, 1) := by decide +kernel
theorem dX3_chainThatWouldClose_42 : decode cX3_chainThatWouldClose 42 = .ok (.getfield 29, 3) := by decide +kernel
theorem dX3_chainThatWouldClose_45 : decode cX3_chainThatWouldClose 45 = .ok (.getfield 79, 3) := by decide +kernel
theorem dX3_chainThatWouldClose_48 : decode cX3_chainThatWouldClose 48 = .ok (.land, 1) := by decide +kernel
theorem dX3_chainThatWouldClose_49 : decode cX3_chainThatWouldClose 49 = .ok (.lstore 4, 2) := by decide +kernel
theorem dX3_chainThatWouldClose_51 : decode cX3_chainThatWouldClose 51 = .ok (.lload_n 2, 1) := by decide +kernel
theorem dX3_chainThatWouldClose_52 : decode cX3_chainThatWouldClose 52 = .ok (.lconst 0, 1) := by decide +kernel
theorem dX3_chainThatWouldClose_53 : decode cX3_chainThatWouldClose 53 = .ok (.lcmp, 1) := by decide +kernel
theorem dX3_chainThatWouldClose_54 : decode cX3_chainThatWouldClose 54 = .ok (.ifCond .eq 10, 3) := by decide +kernel
theorem dX3_chainThatWouldClose_57 : decode cX3_chainThatWouldClose 57 = .ok (.lload 4, 2) := by decide +kernel
theorem dX3_chainThatWouldClose_59 : decode cX3_chainThatWouldClose 59 = .ok (.lconst 0, 1) := by decide +kernel
theorem dX3_chainThatWouldClose_60 : decode cX3_chainThatWouldClose 60 = .ok (.lcmp, 1) := by decide +kernel
theorem dX3_chainThatWouldClose_61 : decode cX3_chainThatWouldClose 61 = .ok (.ifCond .ne 5, 3) := by decide +kernel
theorem dX3_chainThatWouldClose_64 : decode cX3_chainThatWouldClose 64 = .ok (.lconst 0, 1) := by decide +kernel
theorem dX3_chainThatWouldClose_65 : decode cX3_chainThatWouldClose 65 = .ok (.lreturn, 1) := by decide +kernel
theorem dX3_chainThatWouldClose_66 : decode cX3_chainThatWouldClose 66 = .ok (.aload_n 0, 1) := by decide +kernel
theorem dX3_chainThatWouldClose_67 : decode cX3_chainThatWouldClose 67 = .ok (.getfield 25, 3) := by decide +kernel
theorem dX3_chainThatWouldClose_70 : decode cX3_chainThatWouldClose 70 = .ok (.aload_n 0, 1) := by decide +kernel
theorem dX3_chainThatWouldClose_71 : decode cX3_chainThatWouldClose 71 = .ok (.getfield 29, 3) := by decide +kernel
theorem dX3_chainThatWouldClose_74 : decode cX3_chainThatWouldClose 74 = .ok (.getfield 79, 3) := by decide +kernel
theorem dX3_chainThatWouldClose_77 : decode cX3_chainThatWouldClose 77 = .ok (.lload_n 2, 1) := by decide +kernel
theorem dX3_chainThatWouldClose_78 : decode cX3_chainThatWouldClose 78 = .ok (.invokestatic 117, 3) := by decide +kernel
theorem dX3_chainThatWouldClose_81 : decode cX3_chainThatWouldClose 81 = .ok (.invokevirtual 91, 3) := by decide +kernel
theorem dX3_chainThatWouldClose_84 : decode cX3_chainThatWouldClose 84 = .ok (.lstore 6, 2) := by decide +kernel
theorem dX3_chainThatWouldClose_86 : decode cX3_chainThatWouldClose 86 = .ok (.lload 6, 2) := by decide +kernel
theorem dX3_chainThatWouldClose_88 : decode cX3_chainThatWouldClose 88 = .ok (.lload 4, 2) := by decide +kernel
theorem dX3_chainThatWouldClose_90 : decode cX3_chainThatWouldClose 90 = .ok (.land, 1) := by decide +kernel
theorem dX3_chainThatWouldClose_91 : decode cX3_chainThatWouldClose 91 = .ok (.lconst 0, 1) := by decide +kernel
theorem dX3_chainThatWouldClose_92 : decode cX3_chainThatWouldClose 92 = .ok (.lcmp, 1) := by decide +kernel
theorem dX3_chainThatWouldClose_93 : decode cX3_chainThatWouldClose 93 = .ok (.ifCond .eq 8, 3) := by decide +kernel
theorem dX3_chainThatWouldClose_96 : decode cX3_chainThatWouldClose 96 = .ok (.lload 6, 2) := by decide +kernel
theorem dX3_chainThatWouldClose_98 : decode cX3_chainThatWouldClose 98 = .ok (.goto 4, 3) := by decide +kernel
theorem dX3_chainThatWouldClose_101 : decode cX3_chainThatWouldClose 101 = .ok (.lconst 0, 1) := by decide +kernel
theorem dX3_chainThatWouldClose_102 : decode cX3_chainThatWouldClose 102 = .ok (.lreturn, 1) := by decide +kernel
theorem dX3_missesNumber_0 : decode cX3_missesNumber 0 = .ok (.iconst 0, 1) := by decide +kernel
theorem dX3_missesNumber_1 : decode cX3_missesNumber 1 = .ok (.istore_n 3, 1) := by decide +kernel
theorem dX3_missesNumber_2 : decode cX3_missesNumber 2 = .ok (.iload_n 3, 1) := by decide +kernel
theorem dX3_missesNumber_3 : decode cX3_missesNumber 3 = .ok (.aload_n 0, 1) := by decide +kernel
theorem dX3_missesNumber_4 : decode cX3_missesNumber 4 = .ok (.getfield 25, 3) := by decide +kernel
theorem dX3_missesNumber_7 : decode cX3_missesNumber 7 = .ok (.getfield 33, 3) := by decide +kernel
theorem dX3_missesNumber_10 : decode cX3_missesNumber 10 = .ok (.if_icmp .ge 44, 3) := by decide +kernel
theorem dX3_missesNumber_13 : decode cX3_missesNumber 13 = .ok (.aload_n 0, 1) := by decide +kernel
theorem dX3_missesNumber_14 : decode cX3_missesNumber 14 = .ok (.getfield 29, 3) := by decide +kernel
theorem dX3_missesNumber_17 : decode cX3_missesNumber 17 = .ok (.iload_n 3, 1) := by decide +kernel
theorem dX3_missesNumber_18 : decode cX3_missesNumber 18 = .ok (.invokevirtual 38, 3) := by decide +kernel
theorem dX3_missesNumber_21 : decode cX3_missesNumber 21 = .ok (.istore 4, 2) := by decide +kernel
theorem dX3_missesNumber_23 : decode cX3_missesNumber 23 = .ok (.iload 4, 2) := by decide +kernel
theorem dX3_missesNumber_25 : decode cX3_missesNumber 25 = .ok (.ifCond .lt 23, 3) := by decide +kernel
theorem dX3_missesNumber_28 : decode cX3_missesNumber 28 = .ok (.aload_n 0, 1) := by decide +kernel
theorem dX3_missesNumber_29 : decode cX3_missesNumber 29 = .ok (.getfield 25, 3) := by decide +kernel
theorem dX3_missesNumber_32 : decode cX3_missesNumber 32 = .ok (.iload_n 3, 1) := by decide +kernel
theorem dX3_missesNumber_33 : decode cX3_missesNumber 33 = .ok (.invokevirtual 44, 3) := by decide +kernel
theorem dX3_missesNumber_36 : decode cX3_missesNumber 36 = .ok (.lload_n 1, 1) := by decide +kernel
theorem dX3_missesNumber_37 : decode cX3_missesNumber 37 = .ok (.land, 1) := by decide +kernel
theorem dX3_missesNumber_38 : decode cX3_missesNumber 38 = .ok (.invokestatic 82, 3) := by decide +kernel
theorem dX3_missesNumber_41 : decode cX3_missesNumber 41 = .ok (.iload 4, 2) := by decide +kernel
theorem dX3_missesNumber_43 : decode cX3_missesNumber 43 = .ok (.if_icmp .eq 5, 3) := by decide +kernel
theorem dX3_missesNumber_46 : decode cX3_missesNumber 46 = .ok (.iconst 1, 1) := by decide +kernel
theorem dX3_missesNumber_47 : decode cX3_missesNumber 47 = .ok (.ireturn, 1) := by decide +kernel
theorem dX3_missesNumber_48 : decode cX3_missesNumber 48 = .ok (.iinc 3 1, 3) := by decide +kernel
theorem dX3_missesNumber_51 : decode cX3_missesNumber 51 = .ok (.goto (-49), 3) := by decide +kernel
theorem dX3_missesNumber_54 : decode cX3_missesNumber 54 = .ok (.iconst 0, 1) := by decide +kernel
theorem dX3_missesNumber_55 : decode cX3_missesNumber 55 = .ok (.ireturn, 1) := by decide +kernel
theorem dX3_lookAtHands_0 : decode cX3_lookAtHands 0 = .ok (.aload_n 0, 1) := by decide +kernel
theorem dX3_lookAtHands_1 : decode cX3_lookAtHands 1 = .ok (.iload_n 1, 1) := by decide +kernel
theorem dX3_lookAtHands_2 : decode cX3_lookAtHands 2 = .ok (.invokevirtual 120, 3) := by decide +kernel
theorem dX3_lookAtHands_5 : decode cX3_lookAtHands 5 = .ok (.istore_n 3, 1) := by decide +kernel
theorem dX3_lookAtHands_6 : decode cX3_lookAtHands 6 = .ok (.iload_n 2, 1) := by decide +kernel
theorem dX3_lookAtHands_7 : decode cX3_lookAtHands 7 = .ok (.ifCond .ne 37, 3) := by decide +kernel
theorem dX3_lookAtHands_10 : decode cX3_lookAtHands 10 = .ok (.iload_n 3, 1) := by decide +kernel
theorem dX3_lookAtHands_11 : decode cX3_lookAtHands 11 = .ok (.iconst 2, 1) := by decide +kernel
theorem dX3_lookAtHands_12 : decode cX3_lookAtHands 12 = .ok (.if_icmp .ne 15, 3) := by decide +kernel
theorem dX3_lookAtHands_15 : decode cX3_lookAtHands 15 = .ok (.aload_n 0, 1) := by decide +kernel
theorem dX3_lookAtHands_16 : decode cX3_lookAtHands 16 = .ok (.iconst 2, 1) := by decide +kernel
theorem dX3_lookAtHands_17 : decode cX3_lookAtHands 17 = .ok (.iload_n 1, 1) := by decide +kernel
theorem dX3_lookAtHands_18 : decode cX3_lookAtHands 18 = .ok (.invokestatic 105, 3) := by decide +kernel
theorem dX3_lookAtHands_21 : decode cX3_lookAtHands 21 = .ok (.invokevirtual 88, 3) := by decide +kernel
theorem dX3_lookAtHands_24 : decode cX3_lookAtHands 24 = .ok (.goto 40, 3) := by decide +kernel
theorem dX3_lookAtHands_27 : decode cX3_lookAtHands 27 = .ok (.iload_n 3, 1) := by decide +kernel
theorem dX3_lookAtHands_28 : decode cX3_lookAtHands 28 = .ok (.iconst 1, 1) := by decide +kernel
theorem dX3_lookAtHands_29 : decode cX3_lookAtHands 29 = .ok (.if_icmp .ne 35, 3) := by decide +kernel
theorem dX3_lookAtHands_32 : decode cX3_lookAtHands 32 = .ok (.aload_n 0, 1) := by decide +kernel
theorem dX3_lookAtHands_33 : decode cX3_lookAtHands 33 = .ok (.iconst 1, 1) := by decide +kernel
theorem dX3_lookAtHands_34 : decode cX3_lookAtHands 34 = .ok (.iload_n 1, 1) := by decide +kernel
theorem dX3_lookAtHands_35 : decode cX3_lookAtHands 35 = .ok (.invokestatic 105, 3) := by decide +kernel
theorem dX3_lookAtHands_38 : decode cX3_lookAtHands 38 = .ok (.invokevirtual 88, 3) := by decide +kernel
theorem dX3_lookAtHands_41 : decode cX3_lookAtHands 41 = .ok (.goto 23, 3) := by decide +kernel
theorem dX3_lookAtHands_44 : decode cX3_lookAtHands 44 = .ok (.iload_n 3, 1) := by decide +kernel
theorem dX3_lookAtHands_45 : decode cX3_lookAtHands 45 = .ok (.iload_n 2, 1) := by decide +kernel
theorem dX3_lookAtHands_46 : decode cX3_lookAtHands 46 = .ok (.iconst 1, 1) := by decide +kernel
theorem dX3_lookAtHands_47 : decode cX3_lookAtHands 47 = .ok (.if_icmp .ne 7, 3) := by decide +kernel
theorem dX3_lookAtHands_50 : decode cX3_lookAtHands 50 = .ok (.iconst 1, 1) := by decide +kernel
theorem dX3_lookAtHands_51 : decode cX3_lookAtHands 51 = .ok (.goto 4, 3) := by decide +kernel
theorem dX3_lookAtHands_54 : decode cX3_lookAtHands 54 = .ok (.iconst 2, 1) := by decide +kernel
theorem dX3_lookAtHands_55 : decode cX3_lookAtHands 55 = .ok (.iand, 1) := by decide +kernel
theorem dX3_lookAtHands_56 : decode cX3_lookAtHands 56 = .ok (.ifCond .eq 8, 3) := by decide +kernel
theorem dX3_lookAtHands_59 : decode cX3_lookAtHands 59 = .ok (.aload_n 0, 1) := by decide +kernel
theorem dX3_lookAtHands_60 : decode cX3_lookAtHands 60 = .ok (.iconst 3, 1) := by decide +kernel
theorem dX3_lookAtHands_61 : decode cX3_lookAtHands 61 = .ok (.putfield 11, 3) := by decide +kernel
theorem dX3_lookAtHands_64 : decode cX3_lookAtHands 64 = .ok (.return_, 1) := by decide +kernel
theorem dX3_waysPast_0 : decode cX3_waysPast 0 = .ok (.aload_n 0, 1) := by decide +kernel
theorem dX3_waysPast_1 : decode cX3_waysPast 1 = .ok (.getfield 29, 3) := by decide +kernel
theorem dX3_waysPast_4 : decode cX3_waysPast 4 = .ok (.getfield 79, 3) := by decide +kernel
theorem dX3_waysPast_7 : decode cX3_waysPast 7 = .ok (.aload_n 0, 1) := by decide +kernel
theorem dX3_waysPast_8 : decode cX3_waysPast 8 = .ok (.getfield 29, 3) := by decide +kernel
theorem dX3_waysPast_11 : decode cX3_waysPast 11 = .ok (.getfield 123, 3) := by decide +kernel
theorem dX3_waysPast_14 : decode cX3_waysPast 14 = .ok (.lor, 1) := by decide +kernel
theorem dX3_waysPast_15 : decode cX3_waysPast 15 = .ok (.iload_n 1, 1) := by decide +kernel
theorem dX3_waysPast_16 : decode cX3_waysPast 16 = .ok (.invokestatic 105, 3) := by decide +kernel
theorem dX3_waysPast_19 : decode cX3_waysPast 19 = .ok (.ldc2_w 111, 3) := by decide +kernel
theorem dX3_waysPast_22 : decode cX3_waysPast 22 = .ok (.lxor, 1) := by decide +kernel
theorem dX3_waysPast_23 : decode cX3_waysPast 23 = .ok (.land, 1) := by decide +kernel
theorem dX3_waysPast_24 : decode cX3_waysPast 24 = .ok (.lstore_n 2, 1) := by decide +kernel
theorem dX3_waysPast_25 : decode cX3_waysPast 25 = .ok (.aload_n 0, 1) := by decide +kernel
theorem dX3_waysPast_26 : decode cX3_waysPast 26 = .ok (.getfield 25, 3) := by decide +kernel
theorem dX3_waysPast_29 : decode cX3_waysPast 29 = .ok (.iload_n 1, 1) := by decide +kernel
theorem dX3_waysPast_30 : decode cX3_waysPast 30 = .ok (.iconst 0, 1) := by decide +kernel
theorem dX3_waysPast_31 : decode cX3_waysPast 31 = .ok (.invokevirtual 126, 3) := by decide +kernel
theorem dX3_waysPast_34 : decode cX3_waysPast 34 = .ok (.invokestatic 105, 3) := by decide +kernel
theorem dX3_waysPast_37 : decode cX3_waysPast 37 = .ok (.lstore 4, 2) := by decide +kernel
theorem dX3_waysPast_39 : decode cX3_waysPast 39 = .ok (.lload 4, 2) := by decide +kernel
theorem dX3_waysPast_41 : decode cX3_waysPast 41 = .ok (.lstore 6, 2) := by decide +kernel
theorem dX3_waysPast_43 : decode cX3_waysPast 43 = .ok (.iconst 0, 1) := by decide +kernel
theorem dX3_waysPast_44 : decode cX3_waysPast 44 = .ok (.istore 8, 2) := by decide +kernel
theorem dX3_waysPast_46 : decode cX3_waysPast 46 = .ok (.iload 8, 2) := by decide +kernel
theorem dX3_waysPast_48 : decode cX3_waysPast 48 = .ok (.bipush 64, 2) := by decide +kernel
theorem dX3_waysPast_50 : decode cX3_waysPast 50 = .ok (.if_icmp .ge 63, 3) := by decide +kernel
theorem dX3_waysPast_53 : decode cX3_waysPast 53 = .ok (.lload 6, 2) := by decide +kernel
theorem dX3_waysPast_55 : decode cX3_waysPast 55 = .ok (.lconst 0, 1) := by decide +kernel
theorem dX3_waysPast_56 : decode cX3_waysPast 56 = .ok (.lcmp, 1) := by decide +kernel
theorem dX3_waysPast_57 : decode cX3_waysPast 57 = .ok (.ifCond .eq 56, 3) := by decide +kernel
theorem dX3_waysPast_60 : decode cX3_waysPast 60 = .ok (.lload 6, 2) := by decide +kernel
theorem dX3_waysPast_62 : decode cX3_waysPast 62 = .ok (.invokestatic 117, 3) := by decide +kernel
theorem dX3_waysPast_65 : decode cX3_waysPast 65 = .ok (.istore 9, 2) := by decide +kernel
theorem dX3_waysPast_67 : decode cX3_waysPast 67 = .ok (.aload_n 0, 1) := by decide +kernel
theorem dX3_waysPast_68 : decode cX3_waysPast 68 = .ok (.iload 9, 2) := by decide +kernel
theorem dX3_waysPast_70 : decode cX3_waysPast 70 = .ok (.lload_n 2, 1) := by decide +kernel
theorem dX3_waysPast_71 : decode cX3_waysPast 71 = .ok (.invokevirtual 129, 3) := by decide +kernel
theorem dX3_waysPast_74 : decode cX3_waysPast 74 = .ok (.lload 4, 2) := by decide +kernel
theorem dX3_waysPast_76 : decode cX3_waysPast 76 = .ok (.ldc2_w 111, 3) := by decide +kernel
theorem dX3_waysPast_79 : decode cX3_waysPast 79 = .ok (.lxor, 1) := by decide +kernel
theorem dX3_waysPast_80 : decode cX3_waysPast 80 = .ok (.land, 1) := by decide +kernel
theorem dX3_waysPast_81 : decode cX3_waysPast 81 = .ok (.lstore 10, 2) := by decide +kernel
theorem dX3_waysPast_83 : decode cX3_waysPast 83 = .ok (.lload 4, 2) := by decide +kernel
theorem dX3_waysPast_85 : decode cX3_waysPast 85 = .ok (.lload 10, 2) := by decide +kernel
theorem dX3_waysPast_87 : decode cX3_waysPast 87 = .ok (.lor, 1) := by decide +kernel
theorem dX3_waysPast_88 : decode cX3_waysPast 88 = .ok (.lstore 4, 2) := by decide +kernel
theorem dX3_waysPast_90 : decode cX3_waysPast 90 = .ok (.lload 6, 2) := by decide +kernel
theorem dX3_waysPast_92 : decode cX3_waysPast 92 = .ok (.iload 9, 2) := by decide +kernel
theorem dX3_waysPast_94 : decode cX3_waysPast 94 = .ok (.invokestatic 105, 3) := by decide +kernel
theorem dX3_waysPast_97 : decode cX3_waysPast 97 = .ok (.ldc2_w 111, 3) := by decide +kernel
theorem dX3_waysPast_100 : decode cX3_waysPast 100 = .ok (.lxor, 1) := by decide +kernel
theorem dX3_waysPast_101 : decode cX3_waysPast 101 = .ok (.land, 1) := by decide +kernel
theorem dX3_waysPast_102 : decode cX3_waysPast 102 = .ok (.lload 10, 2) := by decide +kernel
theorem dX3_waysPast_104 : decode cX3_waysPast 104 = .ok (.lor, 1) := by decide +kernel
theorem dX3_waysPast_105 : decode cX3_waysPast 105 = .ok (.lstore 6, 2) := by decide +kernel
theorem dX3_waysPast_107 : decode cX3_waysPast 107 = .ok (.iinc 8 1, 3) := by decide +kernel
theorem dX3_waysPast_110 : decode cX3_waysPast 110 = .ok (.goto (-64), 3) := by decide +kernel
theorem dX3_waysPast_113 : decode cX3_waysPast 113 = .ok (.aload_n 0, 1) := by decide +kernel
theorem dX3_waysPast_114 : decode cX3_waysPast 114 = .ok (.getfield 25, 3) := by decide +kernel
theorem dX3_waysPast_117 : decode cX3_waysPast 117 = .ok (.iload_n 1, 1) := by decide +kernel
theorem dX3_waysPast_118 : decode cX3_waysPast 118 = .ok (.iconst 1, 1) := by decide +kernel
theorem dX3_waysPast_119 : decode cX3_waysPast 119 = .ok (.invokevirtual 126, 3) := by decide +kernel
theorem dX3_waysPast_122 : decode cX3_waysPast 122 = .ok (.istore 8, 2) := by decide +kernel
theorem dX3_waysPast_124 : decode cX3_waysPast 124 = .ok (.lload 4, 2) := by decide +kernel
theorem dX3_waysPast_126 : decode cX3_waysPast 126 = .ok (.iload 8, 2) := by decide +kernel
theorem dX3_waysPast_128 : decode cX3_waysPast 128 = .ok (.invokestatic 105, 3) := by decide +kernel
theorem dX3_waysPast_131 : decode cX3_waysPast 131 = .ok (.land, 1) := by decide +kernel
theorem dX3_waysPast_132 : decode cX3_waysPast 132 = .ok (.lconst 0, 1) := by decide +kernel
theorem dX3_waysPast_133 : decode cX3_waysPast 133 = .ok (.lcmp, 1) := by decide +kernel
theorem dX3_waysPast_134 : decode cX3_waysPast 134 = .ok (.ifCond .eq 7, 3) := by decide +kernel
theorem dX3_waysPast_137 : decode cX3_waysPast 137 = .ok (.iconst 1, 1) := by decide +kernel
theorem dX3_waysPast_138 : decode cX3_waysPast 138 = .ok (.goto 4, 3) := by decide +kernel
theorem dX3_waysPast_141 : decode cX3_waysPast 141 = .ok (.iconst 0, 1) := by decide +kernel
theorem dX3_waysPast_142 : decode cX3_waysPast 142 = .ok (.istore 9, 2) := by decide +kernel
theorem dX3_waysPast_144 : decode cX3_waysPast 144 = .ok (.lload 4, 2) := by decide +kernel
theorem dX3_waysPast_146 : decode cX3_waysPast 146 = .ok (.iload 8, 2) := by decide +kernel
theorem dX3_waysPast_148 : decode cX3_waysPast 148 = .ok (.bipush 32, 2) := by decide +kernel
theorem dX3_waysPast_150 : decode cX3_waysPast 150 = .ok (.iadd, 1) := by decide +kernel
theorem dX3_waysPast_151 : decode cX3_waysPast 151 = .ok (.invokestatic 105, 3) := by decide +kernel
theorem dX3_waysPast_154 : decode cX3_waysPast 154 = .ok (.land, 1) := by decide +kernel
theorem dX3_waysPast_155 : decode cX3_waysPast 155 = .ok (.lconst 0, 1) := by decide +kernel
theorem dX3_waysPast_156 : decode cX3_waysPast 156 = .ok (.lcmp, 1) := by decide +kernel
theorem dX3_waysPast_157 : decode cX3_waysPast 157 = .ok (.ifCond .eq 7, 3) := by decide +kernel
theorem dX3_waysPast_160 : decode cX3_waysPast 160 = .ok (.iconst 2, 1) := by decide +kernel
theorem dX3_waysPast_161 : decode cX3_waysPast 161 = .ok (.goto 4, 3) := by decide +kernel
theorem dX3_waysPast_164 : decode cX3_waysPast 164 = .ok (.iconst 0, 1) := by decide +kernel
theorem dX3_waysPast_165 : decode cX3_waysPast 165 = .ok (.istore 10, 2) := by decide +kernel
theorem dX3_waysPast_167 : decode cX3_waysPast 167 = .ok (.iload 9, 2) := by decide +kernel
theorem dX3_waysPast_169 : decode cX3_waysPast 169 = .ok (.iload 10, 2) := by decide +kernel
theorem dX3_waysPast_171 : decode cX3_waysPast 171 = .ok (.ior, 1) := by decide +kernel
theorem dX3_waysPast_172 : decode cX3_waysPast 172 = .ok (.ireturn, 1) := by decide +kernel
theorem dX3_nextOnWay_0 : decode cX3_nextOnWay 0 = .ok (.iload_n 1, 1) := by decide +kernel
theorem dX3_nextOnWay_1 : decode cX3_nextOnWay 1 = .ok (.bipush 32, 2) := by decide +kernel
theorem dX3_nextOnWay_3 : decode cX3_nextOnWay 3 = .ok (.if_icmp .ge 7, 3) := by decide +kernel
theorem dX3_nextOnWay_6 : decode cX3_nextOnWay 6 = .ok (.iload_n 1, 1) := by decide +kernel
theorem dX3_nextOnWay_7 : decode cX3_nextOnWay 7 = .ok (.goto 7, 3) := by decide +kernel
theorem dX3_nextOnWay_10 : decode cX3_nextOnWay 10 = .ok (.iload_n 1, 1) := by decide +kernel
theorem dX3_nextOnWay_11 : decode cX3_nextOnWay 11 = .ok (.bipush 32, 2) := by decide +kernel
theorem dX3_nextOnWay_13 : decode cX3_nextOnWay 13 = .ok (.isub, 1) := by decide +kernel
theorem dX3_nextOnWay_14 : decode cX3_nextOnWay 14 = .ok (.istore 4, 2) := by decide +kernel
theorem dX3_nextOnWay_16 : decode cX3_nextOnWay 16 = .ok (.iload_n 1, 1) := by decide +kernel
theorem dX3_nextOnWay_17 : decode cX3_nextOnWay 17 = .ok (.iload 4, 2) := by decide +kernel
theorem dX3_nextOnWay_19 : decode cX3_nextOnWay 19 = .ok (.isub, 1) := by decide +kernel
theorem dX3_nextOnWay_20 : decode cX3_nextOnWay 20 = .ok (.istore 5, 2) := by decide +kernel
theorem dX3_nextOnWay_22 : decode cX3_nextOnWay 22 = .ok (.lconst 0, 1) := by decide +kernel
theorem dX3_nextOnWay_23 : decode cX3_nextOnWay 23 = .ok (.lstore 6, 2) := by decide +kernel
theorem dX3_nextOnWay_25 : decode cX3_nextOnWay 25 = .ok (.aload_n 0, 1) := by decide +kernel
theorem dX3_nextOnWay_26 : decode cX3_nextOnWay 26 = .ok (.getfield 25, 3) := by decide +kernel
theorem dX3_nextOnWay_29 : decode cX3_nextOnWay 29 = .ok (.iload 4, 2) := by decide +kernel
theorem dX3_nextOnWay_31 : decode cX3_nextOnWay 31 = .ok (.invokevirtual 44, 3) := by decide +kernel
theorem dX3_nextOnWay_34 : decode cX3_nextOnWay 34 = .ok (.lload_n 2, 1) := by decide +kernel
theorem dX3_nextOnWay_35 : decode cX3_nextOnWay 35 = .ok (.land, 1) := by decide +kernel
theorem dX3_nextOnWay_36 : decode cX3_nextOnWay 36 = .ok (.lstore 8, 2) := by decide +kernel
theorem dX3_nextOnWay_38 : decode cX3_nextOnWay 38 = .ok (.iconst 0, 1) := by decide +kernel
theorem dX3_nextOnWay_39 : decode cX3_nextOnWay 39 = .ok (.istore 10, 2) := by decide +kernel
theorem dX3_nextOnWay_41 : decode cX3_nextOnWay 41 = .ok (.iload 10, 2) := by decide +kernel
theorem dX3_nextOnWay_43 : decode cX3_nextOnWay 43 = .ok (.bipush 40, 2) := by decide +kernel
theorem dX3_nextOnWay_45 : decode cX3_nextOnWay 45 = .ok (.if_icmp .ge 128, 3) := by decide +kernel
theorem dX3_nextOnWay_48 : decode cX3_nextOnWay 48 = .ok (.lload 8, 2) := by decide +kernel
theorem dX3_nextOnWay_50 : decode cX3_nextOnWay 50 = .ok (.lconst 0, 1) := by decide +kernel
theorem dX3_nextOnWay_51 : decode cX3_nextOnWay 51 = .ok (.lcmp, 1) := by decide +kernel
theorem dX3_nextOnWay_52 : decode cX3_nextOnWay 52 = .ok (.ifCond .eq 121, 3) := by decide +kernel
theorem dX3_nextOnWay_55 : decode cX3_nextOnWay 55 = .ok (.lload 8, 2) := by decide +kernel
theorem dX3_nextOnWay_57 : decode cX3_nextOnWay 57 = .ok (.invokestatic 117, 3) := by decide +kernel
theorem dX3_nextOnWay_60 : decode cX3_nextOnWay 60 = .ok (.istore 11, 2) := by decide +kernel
theorem dX3_nextOnWay_62 : decode cX3_nextOnWay 62 = .ok (.lload 8, 2) := by decide +kernel
theorem dX3_nextOnWay_64 : decode cX3_nextOnWay 64 = .ok (.iload 11, 2) := by decide +kernel
theorem dX3_nextOnWay_66 : decode cX3_nextOnWay 66 = .ok (.invokestatic 105, 3) := by decide +kernel
theorem dX3_nextOnWay_69 : decode cX3_nextOnWay 69 = .ok (.ldc2_w 111, 3) := by decide +kernel
theorem dX3_nextOnWay_72 : decode cX3_nextOnWay 72 = .ok (.lxor, 1) := by decide +kernel
theorem dX3_nextOnWay_73 : decode cX3_nextOnWay 73 = .ok (.land, 1) := by decide +kernel
theorem dX3_nextOnWay_74 : decode cX3_nextOnWay 74 = .ok (.lstore 8, 2) := by decide +kernel
theorem dX3_nextOnWay_76 : decode cX3_nextOnWay 76 = .ok (.aload_n 0, 1) := by decide +kernel
theorem dX3_nextOnWay_77 : decode cX3_nextOnWay 77 = .ok (.getfield 25, 3) := by decide +kernel
theorem dX3_nextOnWay_80 : decode cX3_nextOnWay 80 = .ok (.iload 11, 2) := by decide +kernel
theorem dX3_nextOnWay_82 : decode cX3_nextOnWay 82 = .ok (.iconst 0, 1) := by decide +kernel
theorem dX3_nextOnWay_83 : decode cX3_nextOnWay 83 = .ok (.invokevirtual 126, 3) := by decide +kernel
theorem dX3_nextOnWay_86 : decode cX3_nextOnWay 86 = .ok (.iload 4, 2) := by decide +kernel
theorem dX3_nextOnWay_88 : decode cX3_nextOnWay 88 = .ok (.if_icmp .ne 16, 3) := by decide +kernel
theorem dX3_nextOnWay_91 : decode cX3_nextOnWay 91 = .ok (.aload_n 0, 1) := by decide +kernel
theorem dX3_nextOnWay_92 : decode cX3_nextOnWay 92 = .ok (.getfield 25, 3) := by decide +kernel
theorem dX3_nextOnWay_95 : decode cX3_nextOnWay 95 = .ok (.iload 11, 2) := by decide +kernel
theorem dX3_nextOnWay_97 : decode cX3_nextOnWay 97 = .ok (.iconst 1, 1) := by decide +kernel
theorem dX3_nextOnWay_98 : decode cX3_nextOnWay 98 = .ok (.invokevirtual 126, 3) := by decide +kernel
theorem dX3_nextOnWay_101 : decode cX3_nextOnWay 101 = .ok (.goto 13, 3) := by decide +kernel
theorem dX3_nextOnWay_104 : decode cX3_nextOnWay 104 = .ok (.aload_n 0, 1) := by decide +kernel
theorem dX3_nextOnWay_105 : decode cX3_nextOnWay 105 = .ok (.getfield 25, 3) := by decide +kernel
theorem dX3_nextOnWay_108 : decode cX3_nextOnWay 108 = .ok (.iload 11, 2) := by decide +kernel
theorem dX3_nextOnWay_110 : decode cX3_nextOnWay 110 = .ok (.iconst 0, 1) := by decide +kernel
theorem dX3_nextOnWay_111 : decode cX3_nextOnWay 111 = .ok (.invokevirtual 126, 3) := by decide +kernel
theorem dX3_nextOnWay_114 : decode cX3_nextOnWay 114 = .ok (.istore 12, 2) := by decide +kernel
theorem dX3_nextOnWay_116 : decode cX3_nextOnWay 116 = .ok (.aload_n 0, 1) := by decide +kernel
theorem dX3_nextOnWay_117 : decode cX3_nextOnWay 117 = .ok (.getfield 29, 3) := by decide +kernel
theorem dX3_nextOnWay_120 : decode cX3_nextOnWay 120 = .ok (.getfield 79, 3) := by decide +kernel
theorem dX3_nextOnWay_123 : decode cX3_nextOnWay 123 = .ok (.iload 11, 2) := by decide +kernel
theorem dX3_nextOnWay_125 : decode cX3_nextOnWay 125 = .ok (.invokestatic 105, 3) := by decide +kernel
theorem dX3_nextOnWay_128 : decode cX3_nextOnWay 128 = .ok (.land, 1) := by decide +kernel
theorem dX3_nextOnWay_129 : decode cX3_nextOnWay 129 = .ok (.lconst 0, 1) := by decide +kernel
theorem dX3_nextOnWay_130 : decode cX3_nextOnWay 130 = .ok (.lcmp, 1) := by decide +kernel
theorem dX3_nextOnWay_131 : decode cX3_nextOnWay 131 = .ok (.ifCond .eq 7, 3) := by decide +kernel
theorem dX3_nextOnWay_134 : decode cX3_nextOnWay 134 = .ok (.iconst 1, 1) := by decide +kernel
theorem dX3_nextOnWay_135 : decode cX3_nextOnWay 135 = .ok (.goto 4, 3) := by decide +kernel
theorem dX3_nextOnWay_138 : decode cX3_nextOnWay 138 = .ok (.iconst 0, 1) := by decide +kernel
theorem dX3_nextOnWay_139 : decode cX3_nextOnWay 139 = .ok (.istore 13, 2) := by decide +kernel
theorem dX3_nextOnWay_141 : decode cX3_nextOnWay 141 = .ok (.lload 6, 2) := by decide +kernel
theorem dX3_nextOnWay_143 : decode cX3_nextOnWay 143 = .ok (.iload 12, 2) := by decide +kernel
theorem dX3_nextOnWay_145 : decode cX3_nextOnWay 145 = .ok (.iload 13, 2) := by decide +kernel
theorem dX3_nextOnWay_147 : decode cX3_nextOnWay 147 = .ok (.ifCond .eq 11, 3) := by decide +kernel
theorem dX3_nextOnWay_150 : decode cX3_nextOnWay 150 = .ok (.bipush 32, 2) := by decide +kernel
theorem dX3_nextOnWay_152 : decode cX3_nextOnWay 152 = .ok (.iload 5, 2) := by decide +kernel
theorem dX3_nextOnWay_154 : decode cX3_nextOnWay 154 = .ok (.isub, 1) := by decide +kernel
theorem dX3_nextOnWay_155 : decode cX3_nextOnWay 155 = .ok (.goto 5, 3) := by decide +kernel
theorem dX3_nextOnWay_158 : decode cX3_nextOnWay 158 = .ok (.iload 5, 2) := by decide +kernel
theorem dX3_nextOnWay_160 : decode cX3_nextOnWay 160 = .ok (.iadd, 1) := by decide +kernel
theorem dX3_nextOnWay_161 : decode cX3_nextOnWay 161 = .ok (.invokestatic 105, 3) := by decide +kernel
theorem dX3_nextOnWay_164 : decode cX3_nextOnWay 164 = .ok (.lor, 1) := by decide +kernel
theorem dX3_nextOnWay_165 : decode cX3_nextOnWay 165 = .ok (.lstore 6, 2) := by decide +kernel
theorem dX3_nextOnWay_167 : decode cX3_nextOnWay 167 = .ok (.iinc 10 1, 3) := by decide +kernel
theorem dX3_nextOnWay_170 : decode cX3_nextOnWay 170 = .ok (.goto (-129), 3) := by decide +kernel
theorem dX3_nextOnWay_173 : decode cX3_nextOnWay 173 = .ok (.lload 6, 2) := by decide +kernel
theorem dX3_nextOnWay_175 : decode cX3_nextOnWay 175 = .ok (.lreturn, 1) := by decide +kernel
theorem dX3_openOf_0 : decode cX3_openOf 0 = .ok (.lload_n 1, 1) := by decide +kernel
theorem dX3_openOf_1 : decode cX3_openOf 1 = .ok (.aload_n 0, 1) := by decide +kernel
theorem dX3_openOf_2 : decode cX3_openOf 2 = .ok (.getfield 29, 3) := by decide +kernel
theorem dX3_openOf_5 : decode cX3_openOf 5 = .ok (.getfield 79, 3) := by decide +kernel
theorem dX3_openOf_8 : decode cX3_openOf 8 = .ok (.ldc2_w 111, 3) := by decide +kernel
theorem dX3_openOf_11 : decode cX3_openOf 11 = .ok (.lxor, 1) := by decide +kernel
theorem dX3_openOf_12 : decode cX3_openOf 12 = .ok (.land, 1) := by decide +kernel
theorem dX3_openOf_13 : decode cX3_openOf 13 = .ok (.aload_n 0, 1) := by decide +kernel
theorem dX3_openOf_14 : decode cX3_openOf 14 = .ok (.getfield 29, 3) := by decide +kernel
theorem dX3_openOf_17 : decode cX3_openOf 17 = .ok (.getfield 123, 3) := by decide +kernel
theorem dX3_openOf_20 : decode cX3_openOf 20 = .ok (.ldc2_w 111, 3) := by decide +kernel
theorem dX3_openOf_23 : decode cX3_openOf 23 = .ok (.lxor, 1) := by decide +kernel
theorem dX3_openOf_24 : decode cX3_openOf 24 = .ok (.land, 1) := by decide +kernel
theorem dX3_openOf_25 : decode cX3_openOf 25 = .ok (.lreturn, 1) := by decide +kernel
theorem dX3_tell_0 : decode cX3_tell 0 = .ok (.aload_n 0, 1) := by decide +kernel
theorem dX3_tell_1 : decode cX3_tell 1 = .ok (.iload_n 1, 1) := by decide +kernel
theorem dX3_tell_2 : decode cX3_tell 2 = .ok (.putfield 11, 3) := by decide +kernel
theorem dX3_tell_5 : decode cX3_tell 5 = .ok (.aload_n 0, 1) := by decide +kernel
theorem dX3_tell_6 : decode cX3_tell 6 = .ok (.lload_n 2, 1) := by decide +kernel
theorem dX3_tell_7 : decode cX3_tell 7 = .ok (.putfield 21, 3) := by decide +kernel
theorem dX3_tell_10 : decode cX3_tell 10 = .ok (.return_, 1) := by decide +kernel
theorem dX4_init_0 : decode cX4_init 0 = .ok (.aload_n 0, 1) := by decide +kernel
theorem dX4_init_1 : decode cX4_init 1 = .ok (.invokespecial 3, 3) := by decide +kernel
theorem dX4_init_4 : decode cX4_init 4 = .ok (.aload_n 0, 1) := by decide +kernel
theorem dX4_init_5 : decode cX4_init 5 = .ok (.iconst 0, 1) := by decide +kernel
theorem dX4_init_6 : decode cX4_init 6 = .ok (.putfield 9, 3) := by decide +kernel
theorem dX4_init_9 : decode cX4_init 9 = .ok (.aload_n 0, 1) := by decide +kernel
theorem dX4_init_10 : decode cX4_init 10 = .ok (.iconst 0, 1) := by decide +kernel
theorem dX4_init_11 : decode cX4_init 11 = .ok (.putfield 15, 3) := by decide +kernel
theorem dX4_init_14 : decode cX4_init 14 = .ok (.aload_n 0, 1) := by decide +kernel
theorem dX4_init_15 : decode cX4_init 15 = .ok (.iconst 0, 1) := by decide +kernel
theorem dX4_init_16 : decode cX4_init 16 = .ok (.putfield 18, 3) := by decide +kernel
theorem dX4_init_19 : decode cX4_init 19 = .ok (.aload_n 0, 1) := by decide +kernel
theorem dX4_init_20 : decode cX4_init 20 = .ok (.iconst 0, 1) := by decide +kernel
theorem dX4_init_21 : decode cX4_init 21 = .ok (.putfield 21, 3) := by decide +kernel
theorem dX4_init_24 : decode cX4_init 24 = .ok (.aload_n 0, 1) := by decide +kernel
theorem dX4_init_25 : decode cX4_init 25 = .ok (.iconst 0, 1) := by decide +kernel
theorem dX4_init_26 : decode cX4_init 26 = .ok (.putfield 24, 3) := by decide +kernel
theorem dX4_init_29 : decode cX4_init 29 = .ok (.aload_n 0, 1) := by decide +kernel
theorem dX4_init_30 : decode cX4_init 30 = .ok (.bipush 64, 2) := by decide +kernel
theorem dX4_init_32 : decode cX4_init 32 = .ok (.newarray .int, 2) := by decide +kernel
theorem dX4_init_34 : decode cX4_init 34 = .ok (.putfield 27, 3) := by decide +kernel
theorem dX4_init_37 : decode cX4_init 37 = .ok (.aload_n 0, 1) := by decide +kernel
theorem dX4_init_38 : decode cX4_init 38 = .ok (.bipush 100, 2) := by decide +kernel
theorem dX4_init_40 : decode cX4_init 40 = .ok (.newarray .int, 2) := by decide +kernel
theorem dX4_init_42 : decode cX4_init 42 = .ok (.putfield 31, 3) := by decide +kernel
theorem dX4_init_45 : decode cX4_init 45 = .ok (.aload_n 0, 1) := by decide +kernel
theorem dX4_init_46 : decode cX4_init 46 = .ok (.bipush 80, 2) := by decide +kernel
theorem dX4_init_48 : decode cX4_init 48 = .ok (.newarray .int, 2) := by decide +kernel
theorem dX4_init_50 : decode cX4_init 50 = .ok (.putfield 34, 3) := by decide +kernel
theorem dX4_init_53 : decode cX4_init 53 = .ok (.aload_n 0, 1) := by decide +kernel
theorem dX4_init_54 : decode cX4_init 54 = .ok (.bipush 80, 2) := by decide +kernel
theorem dX4_init_56 : decode cX4_init 56 = .ok (.newarray .int, 2) := by decide +kernel
theorem dX4_init_58 : decode cX4_init 58 = .ok (.putfield 37, 3) := by decide +kernel
theorem dX4_init_61 : decode cX4_init 61 = .ok (.aload_n 0, 1) := by decide +kernel
theorem dX4_init_62 : decode cX4_init 62 = .ok (.bipush 17, 2) := by decide +kernel
theorem dX4_init_64 : decode cX4_init 64 = .ok (.newarray .long, 2) := by decide +kernel
theorem dX4_init_66 : decode cX4_init 66 = .ok (.putfield 40, 3) := by decide +kernel
theorem dX4_init_69 : decode cX4_init 69 = .ok (.aload_n 0, 1) := by decide +kernel
theorem dX4_init_70 : decode cX4_init 70 = .ok (.bipush 25, 2) := by decide +kernel
theorem dX4_init_72 : decode cX4_init 72 = .ok (.newarray .long, 2) := by decide +kernel
theorem dX4_init_74 : decode cX4_init 74 = .ok (.putfield 44, 3) := by decide +kernel
theorem dX4_init_77 : decode cX4_init 77 = .ok (.aload_n 0, 1) := by decide +kernel
theorem dX4_init_78 : decode cX4_init 78 = .ok (.bipush 40, 2) := by decide +kernel
theorem dX4_init_80 : decode cX4_init 80 = .ok (.newarray .long, 2) := by decide +kernel
theorem dX4_init_82 : decode cX4_init 82 = .ok (.putfield 47, 3) := by decide +kernel
theorem dX4_init_85 : decode cX4_init 85 = .ok (.aload_n 0, 1) := by decide +kernel
theorem dX4_init_86 : decode cX4_init 86 = .ok (.bipush 16, 2) := by decide +kernel
theorem dX4_init_88 : decode cX4_init 88 = .ok (.newarray .long, 2) := by decide +kernel
theorem dX4_init_90 : decode cX4_init 90 = .ok (.putfield 50, 3) := by decide +kernel
theorem dX4_init_93 : decode cX4_init 93 = .ok (.aload_n 0, 1) := by decide +kernel
theorem dX4_init_94 : decode cX4_init 94 = .ok (.bipush 16, 2) := by decide +kernel
theorem dX4_init_96 : decode cX4_init 96 = .ok (.newarray .long, 2) := by decide +kernel
theorem dX4_init_98 : decode cX4_init 98 = .ok (.putfield 53, 3) := by decide +kernel
theorem dX4_init_101 : decode cX4_init 101 = .ok (.return_, 1) := by decide +kernel
theorem dX4_become_0 : decode cX4_become 0 = .ok (.aload_n 0, 1) := by decide +kernel
theorem dX4_become_1 : decode cX4_become 1 = .ok (.iload_n 1, 1) := by decide +kernel
theorem dX4_become_2 : decode cX4_become 2 = .ok (.putfield 9, 3) := by decide +kernel
theorem dX4_become_5 : decode cX4_become 5 = .ok (.aload_n 0, 1) := by decide +kernel
theorem dX4_become_6 : decode cX4_become 6 = .ok (.iload_n 2, 1) := by decide +kernel
theorem dX4_become_7 : decode cX4_become 7 = .ok (.putfield 15, 3) := by decide +kernel
theorem dX4_become_10 : decode cX4_become 10 = .ok (.aload_n 0, 1) := by decide +kernel
theorem dX4_become_11 : decode cX4_become 11 = .ok (.aload_n 0, 1) := by decide +kernel
theorem dX4_become_12 : decode cX4_become 12 = .ok (.getfield 9, 3) := by decide +kernel
theorem dX4_become_15 : decode cX4_become 15 = .ok (.aload_n 0, 1) := by decide +kernel
theorem dX4_become_16 : decode cX4_become 16 = .ok (.getfield 15, 3) := by decide +kernel
theorem dX4_become_19 : decode cX4_become 19 = .ok (.imul, 1) := by decide +kernel
theorem dX4_become_20 : decode cX4_become 20 = .ok (.putfield 18, 3) := by decide +kernel
theorem dX4_become_23 : decode cX4_become 23 = .ok (.aload_n 0, 1) := by decide +kernel
theorem dX4_become_24 : decode cX4_become 24 = .ok (.aload_n 0, 1) := by decide +kernel
theorem dX4_become_25 : decode cX4_become 25 = .ok (.getfield 9, 3) := by decide +kernel
theorem dX4_become_28 : decode cX4_become 28 = .ok (.iconst 1, 1) := by decide +kernel
theorem dX4_become_29 : decode cX4_become 29 = .ok (.iadd, 1) := by decide +kernel
theorem dX4_become_30 : decode cX4_become 30 = .ok (.aload_n 0, 1) := by decide +kernel
theorem dX4_become_31 : decode cX4_become 31 = .ok (.getfield 15, 3) := by decide +kernel
theorem dX4_become_34 : decode cX4_become 34 = .ok (.iconst 1, 1) := by decide +kernel
theorem dX4_become_35 : decode cX4_become 35 = .ok (.iadd, 1) := by decide +kernel
theorem dX4_become_36 : decode cX4_become 36 = .ok (.imul, 1) := by decide +kernel
theorem dX4_become_37 : decode cX4_become 37 = .ok (.putfield 21, 3) := by decide +kernel
theorem dX4_become_40 : decode cX4_become 40 = .ok (.aload_n 0, 1) := by decide +kernel
theorem dX4_become_41 : decode cX4_become 41 = .ok (.aload_n 0, 1) := by decide +kernel
theorem dX4_become_42 : decode cX4_become 42 = .ok (.getfield 9, 3) := by decide +kernel
theorem dX4_become_45 : decode cX4_become 45 = .ok (.aload_n 0, 1) := by decide +kernel
theorem dX4_become_46 : decode cX4_become 46 = .ok (.getfield 15, 3) := by decide +kernel
theorem dX4_become_49 : decode cX4_become 49 = .ok (.iconst 1, 1) := by decide +kernel
theorem dX4_become_50 : decode cX4_become 50 = .ok (.iadd, 1) := by decide +kernel
theorem dX4_become_51 : decode cX4_become 51 = .ok (.imul, 1) := by decide +kernel
theorem dX4_become_52 : decode cX4_become 52 = .ok (.aload_n 0, 1) := by decide +kernel
theorem dX4_become_53 : decode cX4_become 53 = .ok (.getfield 9, 3) := by decide +kernel
theorem dX4_become_56 : decode cX4_become 56 = .ok (.iconst 1, 1) := by decide +kernel
theorem dX4_become_57 : decode cX4_become 57 = .ok (.iadd, 1) := by decide +kernel
theorem dX4_become_58 : decode cX4_become 58 = .ok (.aload_n 0, 1) := by decide +kernel
theorem dX4_become_59 : decode cX4_become 59 = .ok (.getfield 15, 3) := by decide +kernel
theorem dX4_become_62 : decode cX4_become 62 = .ok (.imul, 1) := by decide +kernel
theorem dX4_become_63 : decode cX4_become 63 = .ok (.iadd, 1) := by decide +kernel
theorem dX4_become_64 : decode cX4_become 64 = .ok (.putfield 24, 3) := by decide +kernel
theorem dX4_become_67 : decode cX4_become 67 = .ok (.aload_n 0, 1) := by decide +kernel
theorem dX4_become_68 : decode cX4_become 68 = .ok (.getfield 34, 3) := by decide +kernel
theorem dX4_become_71 : decode cX4_become 71 = .ok (.bipush 16, 2) := by decide +kernel
theorem dX4_become_73 : decode cX4_become 73 = .ok (.invokestatic 56, 3) := by decide +kernel
theorem dX4_become_76 : decode cX4_become 76 = .ok (.aload_n 0, 1) := by decide +kernel
theorem dX4_become_77 : decode cX4_become 77 = .ok (.getfield 40, 3) := by decide +kernel
theorem dX4_become_80 : decode cX4_become 80 = .ok (.lconst 0, 1) := by decide +kernel
theorem dX4_become_81 : decode cX4_become 81 = .ok (.invokestatic 62, 3) := by decide +kernel
theorem dX4_become_84 : decode cX4_become 84 = .ok (.aload_n 0, 1) := by decide +kernel
theorem dX4_become_85 : decode cX4_become 85 = .ok (.getfield 44, 3) := by decide +kernel
theorem dX4_become_88 : decode cX4_become 88 = .ok (.lconst 0, 1) := by decide +kernel
theorem dX4_become_89 : decode cX4_become 89 = .ok (.invokestatic 62, 3) := by decide +kernel
theorem dX4_become_92 : decode cX4_become 92 = .ok (.aload_n 0, 1) := by decide +kernel
theorem dX4_become_93 : decode cX4_become 93 = .ok (.getfield 47, 3) := by decide +kernel
theorem dX4_become_96 : decode cX4_become 96 = .ok (.lconst 0, 1) := by decide +kernel
theorem dX4_become_97 : decode cX4_become 97 = .ok (.invokestatic 62, 3) := by decide +kernel
theorem dX4_become_100 : decode cX4_become 100 = .ok (.aload_n 0, 1) := by decide +kernel
theorem dX4_become_101 : decode cX4_become 101 = .ok (.getfield 50, 3) := by decide +kernel
theorem dX4_become_104 : decode cX4_become 104 = .ok (.lconst 0, 1) := by decide +kernel
theorem dX4_become_105 : decode cX4_become 105 = .ok (.invokestatic 62, 3) := by decide +kernel
theorem dX4_become_108 : decode cX4_become 108 = .ok (.aload_n 0, 1) := by decide +kernel
theorem dX4_become_109 : decode cX4_become 109 = .ok (.invokevirtual 65, 3) := by decide +kernel
theorem dX4_become_112 : decode cX4_become 112 = .ok (.aload_n 0, 1) := by decide +kernel
theorem dX4_become_113 : decode cX4_become 113 = .ok (.invokevirtual 68, 3) := by decide +kernel
theorem dX4_become_116 : decode cX4_become 116 = .ok (.aload_n 0, 1) := by decide +kernel
theorem dX4_become_117 : decode cX4_become 117 = .ok (.invokevirtual 71, 3) := by decide +kernel
theorem dX4_become_120 : decode cX4_become 120 = .ok (.aload_n 0, 1) := by decide +kernel
theorem dX4_become_121 : decode cX4_become 121 = .ok (.invokevirtual 74, 3) := by decide +kernel
theorem dX4_become_124 : decode cX4_become 124 = .ok (.aload_n 0, 1) := by decide +kernel
theorem dX4_become_125 : decode cX4_become 125 = .ok (.invokevirtual 77, 3) := by decide +kernel
theorem dX4_become_128 : decode cX4_become 128 = .ok (.return_, 1) := by decide +kernel
theorem dX4_layCells_0 : decode cX4_layCells 0 = .ok (.iconst 0, 1) := by decide +kernel
theorem dX4_layCells_1 : decode cX4_layCells 1 = .ok (.istore_n 1, 1) := by decide +kernel
theorem dX4_layCells_2 : decode cX4_layCells 2 = .ok (.iload_n 1, 1) := by decide +kernel
theorem dX4_layCells_3 : decode cX4_layCells 3 = .ok (.aload_n 0, 1) := by decide +kernel
theorem dX4_layCells_4 : decode cX4_layCells 4 = .ok (.getfield 15, 3) := by decide +kernel
theorem dX4_layCells_7 : decode cX4_layCells 7 = .ok (.if_icmp .ge 86, 3) := by decide +kernel
theorem dX4_layCells_10 : decode cX4_layCells 10 = .ok (.iconst 0, 1) := by decide +kernel
theorem dX4_layCells_11 : decode cX4_layCells 11 = .ok (.istore_n 2, 1) := by decide +kernel
theorem dX4_layCells_12 : decode cX4_layCells 12 = .ok (.iload_n 2, 1) := by decide +kernel
theorem dX4_layCells_13 : decode cX4_layCells 13 = .ok (.aload_n 0, 1) := by decide +kernel
theorem dX4_layCells_14 : decode cX4_layCells 14 = .ok (.getfield 9, 3) := by decide +kernel
theorem dX4_layCells_17 : decode cX4_layCells 17 = .ok (.if_icmp .ge 70, 3) := by decide +kernel
theorem dX4_layCells_20 : decode cX4_layCells 20 = .ok (.iload_n 1, 1) := by decide +kernel
theorem dX4_layCells_21 : decode cX4_layCells 21 = .ok (.aload_n 0, 1) := by decide +kernel
theorem dX4_layCells_22 : decode cX4_layCells 22 = .ok (.getfield 9, 3) := by decide +kernel
theorem dX4_layCells_25 : decode cX4_layCells 25 = .ok (.imul, 1) := by decide +kernel
theorem dX4_layCells_26 : decode cX4_layCells 26 = .ok (.iload_n 2, 1) := by decide +kernel
theorem dX4_layCells_27 : decode cX4_layCells 27 = .ok (.iadd, 1) := by decide +kernel
theorem dX4_layCells_28 : decode cX4_layCells 28 = .ok (.istore_n 3, 1) := by decide +kernel
theorem dX4_layCells_29 : decode cX4_layCells 29 = .ok (.aload_n 0, 1) := by decide +kernel
theorem dX4_layCells_30 : decode cX4_layCells 30 = .ok (.iload_n 3, 1) := by decide +kernel
theorem dX4_layCells_31 : decode cX4_layCells 31 = .ok (.iconst 0, 1) := by decide +kernel
theorem dX4_layCells_32 : decode cX4_layCells 32 = .ok (.aload_n 0, 1) := by decide +kernel
theorem dX4_layCells_33 : decode cX4_layCells 33 = .ok (.iload_n 2, 1) := by decide +kernel
theorem dX4_layCells_34 : decode cX4_layCells 34 = .ok (.iload_n 1, 1) := by decide +kernel
theorem dX4_layCells_35 : decode cX4_layCells 35 = .ok (.invokevirtual 80, 3) := by decide +kernel
theorem dX4_layCells_38 : decode cX4_layCells 38 = .ok (.invokevirtual 84, 3) := by decide +kernel
theorem dX4_layCells_41 : decode cX4_layCells 41 = .ok (.aload_n 0, 1) := by decide +kernel
theorem dX4_layCells_42 : decode cX4_layCells 42 = .ok (.iload_n 3, 1) := by decide +kernel
theorem dX4_layCells_43 : decode cX4_layCells 43 = .ok (.iconst 1, 1) := by decide +kernel
theorem dX4_layCells_44 : decode cX4_layCells 44 = .ok (.aload_n 0, 1) := by decide +kernel
theorem dX4_layCells_45 : decode cX4_layCells 45 = .ok (.iload_n 2, 1) := by decide +kernel
theorem dX4_layCells_46 : decode cX4_layCells 46 = .ok (.iload_n 1, 1) := by decide +kernel
theorem dX4_layCells_47 : decode cX4_layCells 47 = .ok (.iconst 1, 1) := by decide +kernel
theorem dX4_layCells_48 : decode cX4_layCells 48 = .ok (.iadd, 1) := by decide +kernel
theorem dX4_layCells_49 : decode cX4_layCells 49 = .ok (.invokevirtual 80, 3) := by decide +kernel
theorem dX4_layCells_52 : decode cX4_layCells 52 = .ok (.invokevirtual 84, 3) := by decide +kernel
theorem dX4_layCells_55 : decode cX4_layCells 55 = .ok (.aload_n 0, 1) := by decide +kernel
theorem dX4_layCells_56 : decode cX4_layCells 56 = .ok (.iload_n 3, 1) := by decide +kernel
theorem dX4_layCells_57 : decode cX4_layCells 57 = .ok (.iconst 2, 1) := by decide +kernel
theorem dX4_layCells_58 : decode cX4_layCells 58 = .ok (.aload_n 0, 1) := by decide +kernel
theorem dX4_layCells_59 : decode cX4_layCells 59 = .ok (.iload_n 2, 1) := by decide +kernel
theorem dX4_layCells_60 : decode cX4_layCells 60 = .ok (.iload_n 1, 1) := by decide +kernel
theorem dX4_layCells_61 : decode cX4_layCells 61 = .ok (.invokevirtual 88, 3) := by decide +kernel
theorem dX4_layCells_64 : decode cX4_layCells 64 = .ok (.invokevirtual 84, 3) := by decide +kernel
theorem dX4_layCells_67 : decode cX4_layCells 67 = .ok (.aload_n 0, 1) := by decide +kernel
theorem dX4_layCells_68 : decode cX4_layCells 68 = .ok (.iload_n 3, 1) := by decide +kernel
theorem dX4_layCells_69 : decode cX4_layCells 69 = .ok (.iconst 3, 1) := by decide +kernel
theorem dX4_layCells_70 : decode cX4_layCells 70 = .ok (.aload_n 0, 1) := by decide +kernel
theorem dX4_layCells_71 : decode cX4_layCells 71 = .ok (.iload_n 2, 1) := by decide +kernel
theorem dX4_layCells_72 : decode cX4_layCells 72 = .ok (.iconst 1, 1) := by decide +kernel
theorem dX4_layCells_73 : decode cX4_layCells 73 = .ok (.iadd, 1) := by decide +kernel
theorem dX4_layCells_74 : decode cX4_layCells 74 = .ok (.iload_n 1, 1) := by decide +kernel
theorem dX4_layCells_75 : decode cX4_layCells 75 = .ok (.invokevirtual 88, 3) := by decide +kernel
theorem dX4_layCells_78 : decode cX4_layCells 78 = .ok (.invokevirtual 84, 3) := by decide +kernel
theorem dX4_layCells_81 : decode cX4_layCells 81 = .ok (.iinc 2 1, 3) := by decide +kernel
theorem dX4_layCells_84 : decode cX4_layCells 84 = .ok (.goto (-72), 3) := by decide +kernel
theorem dX4_layCells_87 : decode cX4_layCells 87 = .ok (.iinc 1 1, 3) := by decide +kernel
theorem dX4_layCells_90 : decode cX4_layCells 90 = .ok (.goto (-88), 3) := by decide +kernel
theorem dX4_layCells_93 : decode cX4_layCells 93 = .ok (.iconst 0, 1) := by decide +kernel
theorem dX4_layCells_94 : decode cX4_layCells 94 = .ok (.istore_n 1, 1) := by decide +kernel
theorem dX4_layCells_95 : decode cX4_layCells 95 = .ok (.iload_n 1, 1) := by decide +kernel
theorem dX4_layCells_96 : decode cX4_layCells 96 = .ok (.aload_n 0, 1) := by decide +kernel
theorem dX4_layCells_97 : decode cX4_layCells 97 = .ok (.getfield 24, 3) := by decide +kernel
theorem dX4_layCells_100 : decode cX4_layCells 100 = .ok (.if_icmp .ge 51, 3) := by decide +kernel
theorem dX4_layCells_103 : decode cX4_layCells 103 = .ok (.aload_n 0, 1) := by decide +kernel
theorem dX4_layCells_104 : decode cX4_layCells 104 = .ok (.iload_n 1, 1) := by decide +kernel
theorem dX4_layCells_105 : decode cX4_layCells 105 = .ok (.iconst 0, 1) := by decide +kernel
theorem dX4_layCells_106 : decode cX4_layCells 106 = .ok (.invokevirtual 91, 3) := by decide +kernel
theorem dX4_layCells_109 : decode cX4_layCells 109 = .ok (.bipush 16, 2) := by decide +kernel
theorem dX4_layCells_111 : decode cX4_layCells 111 = .ok (.if_icmp .eq 14, 3) := by decide +kernel
theorem dX4_layCells_114 : decode cX4_layCells 114 = .ok (.aload_n 0, 1) := by decide +kernel
theorem dX4_layCells_115 : decode cX4_layCells 115 = .ok (.iload_n 1, 1) := by decide +kernel
theorem dX4_layCells_116 : decode cX4_layCells 116 = .ok (.iconst 1, 1) := by decide +kernel
theorem dX4_layCells_117 : decode cX4_layCells 117 = .ok (.invokevirtual 91, 3) := by decide +kernel
theorem dX4_layCells_120 : decode cX4_layCells 120 = .ok (.bipush 16, 2) := by decide +kernel
theorem dX4_layCells_122 : decode cX4_layCells 122 = .ok (.if_icmp .ne 23, 3) := by decide +kernel
theorem dX4_layCells_125 : decode cX4_layCells 125 = .ok (.aload_n 0, 1) := by decide +kernel
theorem dX4_layCells_126 : decode cX4_layCells 126 = .ok (.getfield 40, 3) := by decide +kernel
theorem dX4_layCells_129 : decode cX4_layCells 129 = .ok (.bipush 16, 2) := by decide +kernel
theorem dX4_layCells_131 : decode cX4_layCells 131 = .ok (.aload_n 0, 1) := by decide +kernel
theorem dX4_layCells_132 : decode cX4_layCells 132 = .ok (.bipush 16, 2) := by decide +kernel
theorem dX4_layCells_134 : decode cX4_layCells 134 = .ok (.invokevirtual 94, 3) := by decide +kernel
theorem dX4_layCells_137 : decode cX4_layCells 137 = .ok (.iload_n 1, 1) := by decide +kernel
theorem dX4_layCells_138 : decode cX4_layCells 138 = .ok (.invokestatic 98, 3) := by decide +kernel
theorem dX4_layCells_141 : decode cX4_layCells 141 = .ok (.lor, 1) := by decide +kernel
theorem dX4_layCells_142 : decode cX4_layCells 142 = .ok (.invokestatic 101, 3) := by decide +kernel
theorem dX4_layCells_145 : decode cX4_layCells 145 = .ok (.iinc 1 1, 3) := by decide +kernel
theorem dX4_layCells_148 : decode cX4_layCells 148 = .ok (.goto (-53), 3) := by decide +kernel
theorem dX4_layCells_151 : decode cX4_layCells 151 = .ok (.return_, 1) := by decide +kernel
theorem dX4_layPoints_0 : decode cX4_layPoints 0 = .ok (.iconst 0, 1) := by decide +kernel
theorem dX4_layPoints_1 : decode cX4_layPoints 1 = .ok (.istore_n 1, 1) := by decide +kernel
theorem dX4_layPoints_2 : decode cX4_layPoints 2 = .ok (.iload_n 1, 1) := by decide +kernel
theorem dX4_layPoints_3 : decode cX4_layPoints 3 = .ok (.aload_n 0, 1) := by decide +kernel
theorem dX4_layPoints_4 : decode cX4_layPoints 4 = .ok (.getfield 15, 3) := by decide +kernel
theorem dX4_layPoints_7 : decode cX4_layPoints 7 = .ok (.if_icmp .gt 132, 3) := by decide +kernel
theorem dX4_layPoints_10 : decode cX4_layPoints 10 = .ok (.iconst 0, 1) := by decide +kernel
theorem dX4_layPoints_11 : decode cX4_layPoints 11 = .ok (.istore_n 2, 1) := by decide +kernel
theorem dX4_layPoints_12 : decode cX4_layPoints 12 = .ok (.iload_n 2, 1) := by decide +kernel
theorem dX4_layPoints_13 : decode cX4_layPoints 13 = .ok (.aload_n 0, 1) := by decide +kernel
theorem dX4_layPoints_14 : decode cX4_layPoints 14 = .ok (.getfield 9, 3) := by decide +kernel
theorem dX4_layPoints_17 : decode cX4_layPoints 17 = .ok (.if_icmp .gt 116, 3) := by decide +kernel
theorem dX4_layPoints_20 : decode cX4_layPoints 20 = .ok (.iload_n 1, 1) := by decide +kernel
theorem dX4_layPoints_21 : decode cX4_layPoints 21 = .ok (.aload_n 0, 1) := by decide +kernel
theorem dX4_layPoints_22 : decode cX4_layPoints 22 = .ok (.getfield 9, 3) := by decide +kernel
theorem dX4_layPoints_25 : decode cX4_layPoints 25 = .ok (.iconst 1, 1) := by decide +kernel
theorem dX4_layPoints_26 : decode cX4_layPoints 26 = .ok (.iadd, 1) := by decide +kernel
theorem dX4_layPoints_27 : decode cX4_layPoints 27 = .ok (.imul, 1) := by decide +kernel
theorem dX4_layPoints_28 : decode cX4_layPoints 28 = .ok (.iload_n 2, 1) := by decide +kernel
theorem dX4_layPoints_29 : decode cX4_layPoints 29 = .ok (.iadd, 1) := by decide +kernel
theorem dX4_layPoints_30 : decode cX4_layPoints 30 = .ok (.istore_n 3, 1) := by decide +kernel
theorem dX4_layPoints_31 : decode cX4_layPoints 31 = .ok (.aload_n 0, 1) := by decide +kernel
theorem dX4_layPoints_32 : decode cX4_layPoints 32 = .ok (.iload_n 3, 1) := by decide +kernel
theorem dX4_layPoints_33 : decode cX4_layPoints 33 = .ok (.iconst 0, 1) := by decide +kernel
theorem dX4_layPoints_34 : decode cX4_layPoints 34 = .ok (.iload_n 2, 1) := by decide +kernel
theorem dX4_layPoints_35 : decode cX4_layPoints 35 = .ok (.ifCond .le 14, 3) := by decide +kernel
theorem dX4_layPoints_38 : decode cX4_layPoints 38 = .ok (.aload_n 0, 1) := by decide +kernel
theorem dX4_layPoints_39 : decode cX4_layPoints 39 = .ok (.iload_n 2, 1) := by decide +kernel
theorem dX4_layPoints_40 : decode cX4_layPoints 40 = .ok (.iconst 1, 1) := by decide +kernel
theorem dX4_layPoints_41 : decode cX4_layPoints 41 = .ok (.isub, 1) := by decide +kernel
theorem dX4_layPoints_42 : decode cX4_layPoints 42 = .ok (.iload_n 1, 1) := by decide +kernel
theorem dX4_layPoints_43 : decode cX4_layPoints 43 = .ok (.invokevirtual 80, 3) := by decide +kernel
theorem dX4_layPoints_46 : decode cX4_layPoints 46 = .ok (.goto 5, 3) := by decide +kernel
theorem dX4_layPoints_49 : decode cX4_layPoints 49 = .ok (.bipush (-9), 2) := by decide +kernel
theorem dX4_layPoints_51 : decode cX4_layPoints 51 = .ok (.invokevirtual 105, 3) := by decide +kernel
theorem dX4_layPoints_54 : decode cX4_layPoints 54 = .ok (.aload_n 0, 1) := by decide +kernel
theorem dX4_layPoints_55 : decode cX4_layPoints 55 = .ok (.iload_n 3, 1) := by decide +kernel
theorem dX4_layPoints_56 : decode cX4_layPoints 56 = .ok (.iconst 1, 1) := by decide +kernel
theorem dX4_layPoints_57 : decode cX4_layPoints 57 = .ok (.iload_n 2, 1) := by decide +kernel
theorem dX4_layPoints_58 : decode cX4_layPoints 58 = .ok (.aload_n 0, 1) := by decide +kernel
theorem dX4_layPoints_59 : decode cX4_layPoints 59 = .ok (.getfield 9, 3) := by decide +kernel
theorem dX4_layPoints_62 : decode cX4_layPoints 62 = .ok (.if_icmp .ge 12, 3) := by decide +kernel
theorem dX4_layPoints_65 : decode cX4_layPoints 65 = .ok (.aload_n 0, 1) := by decide +kernel
theorem dX4_layPoints_66 : decode cX4_layPoints 66 = .ok (.iload_n 2, 1) := by decide +kernel
theorem dX4_layPoints_67 : decode cX4_layPoints 67 = .ok (.iload_n 1, 1) := by decide +kernel
theorem dX4_layPoints_68 : decode cX4_layPoints 68 = .ok (.invokevirtual 80, 3) := by decide +kernel
theorem dX4_layPoints_71 : decode cX4_layPoints 71 = .ok (.goto 5, 3) := by decide +kernel
theorem dX4_layPoints_74 : decode cX4_layPoints 74 = .ok (.bipush (-9), 2) := by decide +kernel
theorem dX4_layPoints_76 : decode cX4_layPoints 76 = .ok (.invokevirtual 105, 3) := by decide +kernel
theorem dX4_layPoints_79 : decode cX4_layPoints 79 = .ok (.aload_n 0, 1) := by decide +kernel
theorem dX4_layPoints_80 : decode cX4_layPoints 80 = .ok (.iload_n 3, 1) := by decide +kernel
theorem dX4_layPoints_81 : decode cX4_layPoints 81 = .ok (.iconst 2, 1) := by decide +kernel
theorem dX4_layPoints_82 : decode cX4_layPoints 82 = .ok (.iload_n 1, 1) := by decide +kernel
theorem dX4_layPoints_83 : decode cX4_layPoints 83 = .ok (.ifCond .le 14, 3) := by decide +kernel
theorem dX4_layPoints_86 : decode cX4_layPoints 86 = .ok (.aload_n 0, 1) := by decide +kernel
theorem dX4_layPoints_87 : decode cX4_layPoints 87 = .ok (.iload_n 2, 1) := by decide +kernel
theorem dX4_layPoints_88 : decode cX4_layPoints 88 = .ok (.iload_n 1, 1) := by decide +kernel
theorem dX4_layPoints_89 : decode cX4_layPoints 89 = .ok (.iconst 1, 1) := by decide +kernel
theorem dX4_layPoints_90 : decode cX4_layPoints 90 = .ok (.isub, 1) := by decide +kernel
theorem dX4_layPoints_91 : decode cX4_layPoints 91 = .ok (.invokevirtual 88, 3) := by decide +kernel
theorem dX4_layPoints_94 : decode cX4_layPoints 94 = .ok (.goto 5, 3) := by decide +kernel
theorem dX4_layPoints_97 : decode cX4_layPoints 97 = .ok (.bipush (-9), 2) := by decide +kernel
theorem dX4_layPoints_99 : decode cX4_layPoints 99 = .ok (.invokevirtual 105, 3) := by decide +kernel
theorem dX4_layPoints_102 : decode cX4_layPoints 102 = .ok (.aload_n 0, 1) := by decide +kernel
theorem dX4_layPoints_103 : decode cX4_layPoints 103 = .ok (.iload_n 3, 1) := by decide +kernel
theorem dX4_layPoints_104 : decode cX4_layPoints 104 = .ok (.iconst 3, 1) := by decide +kernel
theorem dX4_layPoints_105 : decode cX4_layPoints 105 = .ok (.iload_n 1, 1) := by decide +kernel
theorem dX4_layPoints_106 : decode cX4_layPoints 106 = .ok (.aload_n 0, 1) := by decide +kernel
theorem dX4_layPoints_107 : decode cX4_layPoints 107 = .ok (.getfield 15, 3) := by decide +kernel
theorem dX4_layPoints_110 : decode cX4_layPoints 110 = .ok (.if_icmp .ge 12, 3) := by decide +kernel
theorem dX4_layPoints_113 : decode cX4_layPoints 113 = .ok (.aload_n 0, 1) := by decide +kernel
theorem dX4_layPoints_114 : decode cX4_layPoints 114 = .ok (.iload_n 2, 1) := by decide +kernel
theorem dX4_layPoints_115 : decode cX4_layPoints 115 = .ok (.iload_n 1, 1) := by decide +kernel
theorem dX4_layPoints_116 : decode cX4_layPoints 116 = .ok (.invokevirtual 88, 3) := by decide +kernel
theorem dX4_layPoints_119 : decode cX4_layPoints 119 = .ok (.goto 5, 3) := by decide +kernel
theorem dX4_layPoints_122 : decode cX4_layPoints 122 = .ok (.bipush (-9), 2) := by decide +kernel
theorem dX4_layPoints_124 : decode cX4_layPoints 124 = .ok (.invokevirtual 105, 3) := by decide +kernel
theorem dX4_layPoints_127 : decode cX4_layPoints 127 = .ok (.iinc 2 1, 3) := by decide +kernel
theorem dX4_layPoints_130 : decode cX4_layPoints 130 = .ok (.goto (-118), 3) := by decide +kernel
theorem dX4_layPoints_133 : decode cX4_layPoints 133 = .ok (.iinc 1 1, 3) := by decide +kernel
theorem dX4_layPoints_136 : decode cX4_layPoints 136 = .ok (.goto (-134), 3) := by decide +kernel
theorem dX4_layPoints_139 : decode cX4_layPoints 139 = .ok (.return_, 1) := by decide +kernel
theorem dX4_lying_0 : decode cX4_lying 0 = .ok (.iload_n 2, 1) := by decide +kernel
theorem dX4_lying_1 : decode cX4_lying 1 = .ok (.aload_n 0, 1) := by decide +kernel
theorem dX4_lying_2 : decode cX4_lying 2 = .ok (.getfield 9, 3) := by decide +kernel
theorem dX4_lying_5 : decode cX4_lying 5 = .ok (.imul, 1) := by decide +kernel
theorem dX4_lying_6 : decode cX4_lying 6 = .ok (.iload_n 1, 1) := by decide +kernel
theorem dX4_lying_7 : decode cX4_lying 7 = .ok (.iadd, 1) := by decide +kernel
theorem dX4_lying_8 : decode cX4_lying 8 = .ok (.ireturn, 1) := by decide +kernel
theorem dX4_standing_0 : decode cX4_standing 0 = .ok (.aload_n 0, 1) := by decide +kernel
theorem dX4_standing_1 : decode cX4_standing 1 = .ok (.getfield 9, 3) := by decide +kernel
theorem dX4_standing_4 : decode cX4_standing 4 = .ok (.aload_n 0, 1) := by decide +kernel
theorem dX4_standing_5 : decode cX4_standing 5 = .ok (.getfield 15, 3) := by decide +kernel
theorem dX4_standing_8 : decode cX4_standing 8 = .ok (.iconst 1, 1) := by decide +kernel
theorem dX4_standing_9 : decode cX4_standing 9 = .ok (.iadd, 1) := by decide +kernel
theorem dX4_standing_10 : decode cX4_standing 10 = .ok (.imul, 1) := by decide +kernel
theorem dX4_standing_11 : decode cX4_standing 11 = .ok (.iload_n 2, 1) := by decide +kernel
theorem dX4_standing_12 : decode cX4_standing 12 = .ok (.aload_n 0, 1) := by decide +kernel
theorem dX4_standing_13 : decode cX4_standing 13 = .ok (.getfield 9, 3) := by decide +kernel
theorem dX4_standing_16 : decode cX4_standing 16 = .ok (.iconst 1, 1) := by decide +kernel
theorem dX4_standing_17 : decode cX4_standing 17 = .ok (.iadd, 1) := by decide +kernel
theorem dX4_standing_18 : decode cX4_standing 18 = .ok (.imul, 1) := by decide +kernel
theorem dX4_standing_19 : decode cX4_standing 19 = .ok (.iadd, 1) := by decide +kernel
theorem dX4_standing_20 : decode cX4_standing 20 = .ok (.iload_n 1, 1) := by decide +kernel
theorem dX4_standing_21 : decode cX4_standing 21 = .ok (.iadd, 1) := by decide +kernel
theorem dX4_standing_22 : decode cX4_standing 22 = .ok (.ireturn, 1) := by decide +kernel
theorem dX4_layCellSide_0 : decode cX4_layCellSide 0 = .ok (.aload_n 0, 1) := by decide +kernel
theorem dX4_layCellSide_1 : decode cX4_layCellSide 1 = .ok (.getfield 27, 3) := by decide +kernel
theorem dX4_layCellSide_4 : decode cX4_layCellSide 4 = .ok (.iload_n 1, 1) := by decide +kernel
theorem dX4_layCellSide_5 : decode cX4_layCellSide 5 = .ok (.iconst 4, 1) := by decide +kernel
theorem dX4_layCellSide_6 : decode cX4_layCellSide 6 = .ok (.imul, 1) := by decide +kernel
theorem dX4_layCellSide_7 : decode cX4_layCellSide 7 = .ok (.iload_n 2, 1) := by decide +kernel
theorem dX4_layCellSide_8 : decode cX4_layCellSide 8 = .ok (.iadd, 1) := by decide +kernel
theorem dX4_layCellSide_9 : decode cX4_layCellSide 9 = .ok (.iload_n 3, 1) := by decide +kernel
theorem dX4_layCellSide_10 : decode cX4_layCellSide 10 = .ok (.invokestatic 108, 3) := by decide +kernel
theorem dX4_layCellSide_13 : decode cX4_layCellSide 13 = .ok (.aload_n 0, 1) := by decide +kernel
theorem dX4_layCellSide_14 : decode cX4_layCellSide 14 = .ok (.getfield 40, 3) := by decide +kernel
theorem dX4_layCellSide_17 : decode cX4_layCellSide 17 = .ok (.iload_n 1, 1) := by decide +kernel
theorem dX4_layCellSide_18 : decode cX4_layCellSide 18 = .ok (.aload_n 0, 1) := by decide +kernel
theorem dX4_layCellSide_19 : decode cX4_layCellSide 19 = .ok (.iload_n 1, 1) := by decide +kernel
theorem dX4_layCellSide_20 : decode cX4_layCellSide 20 = .ok (.invokevirtual 94, 3) := by decide +kernel
theorem dX4_layCellSide_23 : decode cX4_layCellSide 23 = .ok (.iload_n 3, 1) := by decide +kernel
theorem dX4_layCellSide_24 : decode cX4_layCellSide 24 = .ok (.invokestatic 98, 3) := by decide +kernel
theorem dX4_layCellSide_27 : decode cX4_layCellSide 27 = .ok (.lor, 1) := by decide +kernel
theorem dX4_layCellSide_28 : decode cX4_layCellSide 28 = .ok (.invokestatic 101, 3) := by decide +kernel
theorem dX4_layCellSide_31 : decode cX4_layCellSide 31 = .ok (.aload_n 0, 1) := by decide +kernel
theorem dX4_layCellSide_32 : decode cX4_layCellSide 32 = .ok (.getfield 34, 3) := by decide +kernel
theorem dX4_layCellSide_35 : decode cX4_layCellSide 35 = .ok (.iload_n 3, 1) := by decide +kernel
theorem dX4_layCellSide_36 : decode cX4_layCellSide 36 = .ok (.iconst 2, 1) := by decide +kernel
theorem dX4_layCellSide_37 : decode cX4_layCellSide 37 = .ok (.imul, 1) := by decide +kernel
theorem dX4_layCellSide_38 : decode cX4_layCellSide 38 = .ok (.iload_n 2, 1) := by decide +kernel
theorem dX4_layCellSide_39 : decode cX4_layCellSide 39 = .ok (.invokestatic 111, 3) := by decide +kernel
end
section
theorem dX4_layCellSide_42 : decode cX4_layCellSide 42 = .ok (.iadd, 1) := by decide +kernel
theorem dX4_layCellSide_43 : decode cX4_layCellSide 43 = .ok (.iload_n 1, 1) := by decide +kernel
theorem dX4_layCellSide_44 : decode cX4_layCellSide 44 = .ok (.invokestatic 108, 3) := by decide +kernel
theorem dX4_layCellSide_47 : decode cX4_layCellSide 47 = .ok (.return_, 1) := by decide +kernel
theorem dX4_layPointSide_0 : decode cX4_layPointSide 0 = .ok (.aload_n 0, 1) := by decide +kernel
theorem dX4_layPointSide_1 : decode cX4_layPointSide 1 = .ok (.getfield 31, 3) := by decide +kernel
theorem dX4_layPointSide_4 : decode cX4_layPointSide 4 = .ok (.iload_n 1, 1) := by decide +kernel
theorem dX4_layPointSide_5 : decode cX4_layPointSide 5 = .ok (.iconst 4, 1) := by decide +kernel
theorem dX4_layPointSide_6 : decode cX4_layPointSide 6 = .ok (.imul, 1) := by decide +kernel
theorem dX4_layPointSide_7 : decode cX4_layPointSide 7 = .ok (.iload_n 2, 1) := by decide +kernel
theorem dX4_layPointSide_8 : decode cX4_layPointSide 8 = .ok (.iadd, 1) := by decide +kernel
theorem dX4_layPointSide_9 : decode cX4_layPointSide 9 = .ok (.iload_n 3, 1) := by decide +kernel
theorem dX4_layPointSide_10 : decode cX4_layPointSide 10 = .ok (.invokestatic 108, 3) := by decide +kernel
theorem dX4_layPointSide_13 : decode cX4_layPointSide 13 = .ok (.iload_n 3, 1) := by decide +kernel
theorem dX4_layPointSide_14 : decode cX4_layPointSide 14 = .ok (.bipush (-9), 2) := by decide +kernel
theorem dX4_layPointSide_16 : decode cX4_layPointSide 16 = .ok (.if_icmp .eq 37, 3) := by decide +kernel
theorem dX4_layPointSide_19 : decode cX4_layPointSide 19 = .ok (.aload_n 0, 1) := by decide +kernel
theorem dX4_layPointSide_20 : decode cX4_layPointSide 20 = .ok (.getfield 44, 3) := by decide +kernel
theorem dX4_layPointSide_23 : decode cX4_layPointSide 23 = .ok (.iload_n 1, 1) := by decide +kernel
theorem dX4_layPointSide_24 : decode cX4_layPointSide 24 = .ok (.aload_n 0, 1) := by decide +kernel
theorem dX4_layPointSide_25 : decode cX4_layPointSide 25 = .ok (.iload_n 1, 1) := by decide +kernel
theorem dX4_layPointSide_26 : decode cX4_layPointSide 26 = .ok (.invokevirtual 115, 3) := by decide +kernel
theorem dX4_layPointSide_29 : decode cX4_layPointSide 29 = .ok (.iload_n 3, 1) := by decide +kernel
theorem dX4_layPointSide_30 : decode cX4_layPointSide 30 = .ok (.invokestatic 98, 3) := by decide +kernel
theorem dX4_layPointSide_33 : decode cX4_layPointSide 33 = .ok (.lor, 1) := by decide +kernel
theorem dX4_layPointSide_34 : decode cX4_layPointSide 34 = .ok (.invokestatic 101, 3) := by decide +kernel
theorem dX4_layPointSide_37 : decode cX4_layPointSide 37 = .ok (.aload_n 0, 1) := by decide +kernel
theorem dX4_layPointSide_38 : decode cX4_layPointSide 38 = .ok (.getfield 37, 3) := by decide +kernel
theorem dX4_layPointSide_41 : decode cX4_layPointSide 41 = .ok (.iload_n 3, 1) := by decide +kernel
theorem dX4_layPointSide_42 : decode cX4_layPointSide 42 = .ok (.iconst 2, 1) := by decide +kernel
theorem dX4_layPointSide_43 : decode cX4_layPointSide 43 = .ok (.imul, 1) := by decide +kernel
theorem dX4_layPointSide_44 : decode cX4_layPointSide 44 = .ok (.iload_n 2, 1) := by decide +kernel
theorem dX4_layPointSide_45 : decode cX4_layPointSide 45 = .ok (.invokestatic 111, 3) := by decide +kernel
theorem dX4_layPointSide_48 : decode cX4_layPointSide 48 = .ok (.iadd, 1) := by decide +kernel
theorem dX4_layPointSide_49 : decode cX4_layPointSide 49 = .ok (.iload_n 1, 1) := by decide +kernel
theorem dX4_layPointSide_50 : decode cX4_layPointSide 50 = .ok (.invokestatic 108, 3) := by decide +kernel
theorem dX4_layPointSide_53 : decode cX4_layPointSide 53 = .ok (.return_, 1) := by decide +kernel
theorem dX4_firstOrSecond_0 : decode cX4_firstOrSecond 0 = .ok (.iload_n 0, 1) := by decide +kernel
theorem dX4_firstOrSecond_1 : decode cX4_firstOrSecond 1 = .ok (.ifCond .eq 8, 3) := by decide +kernel
theorem dX4_firstOrSecond_4 : decode cX4_firstOrSecond 4 = .ok (.iload_n 0, 1) := by decide +kernel
theorem dX4_firstOrSecond_5 : decode cX4_firstOrSecond 5 = .ok (.iconst 2, 1) := by decide +kernel
theorem dX4_firstOrSecond_6 : decode cX4_firstOrSecond 6 = .ok (.if_icmp .ne 7, 3) := by decide +kernel
theorem dX4_firstOrSecond_9 : decode cX4_firstOrSecond 9 = .ok (.iconst 1, 1) := by decide +kernel
theorem dX4_firstOrSecond_10 : decode cX4_firstOrSecond 10 = .ok (.goto 4, 3) := by decide +kernel
theorem dX4_firstOrSecond_13 : decode cX4_firstOrSecond 13 = .ok (.iconst 0, 1) := by decide +kernel
theorem dX4_firstOrSecond_14 : decode cX4_firstOrSecond 14 = .ok (.ireturn, 1) := by decide +kernel
theorem dX4_layBesides_0 : decode cX4_layBesides 0 = .ok (.iconst 0, 1) := by decide +kernel
theorem dX4_layBesides_1 : decode cX4_layBesides 1 = .ok (.istore_n 1, 1) := by decide +kernel
theorem dX4_layBesides_2 : decode cX4_layBesides 2 = .ok (.iload_n 1, 1) := by decide +kernel
theorem dX4_layBesides_3 : decode cX4_layBesides 3 = .ok (.aload_n 0, 1) := by decide +kernel
theorem dX4_layBesides_4 : decode cX4_layBesides 4 = .ok (.getfield 24, 3) := by decide +kernel
theorem dX4_layBesides_7 : decode cX4_layBesides 7 = .ok (.if_icmp .ge 38, 3) := by decide +kernel
theorem dX4_layBesides_10 : decode cX4_layBesides 10 = .ok (.aload_n 0, 1) := by decide +kernel
theorem dX4_layBesides_11 : decode cX4_layBesides 11 = .ok (.getfield 47, 3) := by decide +kernel
theorem dX4_layBesides_14 : decode cX4_layBesides 14 = .ok (.iload_n 1, 1) := by decide +kernel
theorem dX4_layBesides_15 : decode cX4_layBesides 15 = .ok (.aload_n 0, 1) := by decide +kernel
theorem dX4_layBesides_16 : decode cX4_layBesides 16 = .ok (.aload_n 0, 1) := by decide +kernel
theorem dX4_layBesides_17 : decode cX4_layBesides 17 = .ok (.iload_n 1, 1) := by decide +kernel
theorem dX4_layBesides_18 : decode cX4_layBesides 18 = .ok (.iconst 0, 1) := by decide +kernel
theorem dX4_layBesides_19 : decode cX4_layBesides 19 = .ok (.invokevirtual 118, 3) := by decide +kernel
theorem dX4_layBesides_22 : decode cX4_layBesides 22 = .ok (.invokevirtual 115, 3) := by decide +kernel
theorem dX4_layBesides_25 : decode cX4_layBesides 25 = .ok (.aload_n 0, 1) := by decide +kernel
theorem dX4_layBesides_26 : decode cX4_layBesides 26 = .ok (.aload_n 0, 1) := by decide +kernel
theorem dX4_layBesides_27 : decode cX4_layBesides 27 = .ok (.iload_n 1, 1) := by decide +kernel
theorem dX4_layBesides_28 : decode cX4_layBesides 28 = .ok (.iconst 1, 1) := by decide +kernel
theorem dX4_layBesides_29 : decode cX4_layBesides 29 = .ok (.invokevirtual 118, 3) := by decide +kernel
theorem dX4_layBesides_32 : decode cX4_layBesides 32 = .ok (.invokevirtual 115, 3) := by decide +kernel
theorem dX4_layBesides_35 : decode cX4_layBesides 35 = .ok (.lor, 1) := by decide +kernel
theorem dX4_layBesides_36 : decode cX4_layBesides 36 = .ok (.invokestatic 101, 3) := by decide +kernel
theorem dX4_layBesides_39 : decode cX4_layBesides 39 = .ok (.iinc 1 1, 3) := by decide +kernel
theorem dX4_layBesides_42 : decode cX4_layBesides 42 = .ok (.goto (-40), 3) := by decide +kernel
theorem dX4_layBesides_45 : decode cX4_layBesides 45 = .ok (.return_, 1) := by decide +kernel
theorem dX4_laySettled_0 : decode cX4_laySettled 0 = .ok (.iconst 0, 1) := by decide +kernel
theorem dX4_laySettled_1 : decode cX4_laySettled 1 = .ok (.istore_n 1, 1) := by decide +kernel
theorem dX4_laySettled_2 : decode cX4_laySettled 2 = .ok (.iload_n 1, 1) := by decide +kernel
theorem dX4_laySettled_3 : decode cX4_laySettled 3 = .ok (.aload_n 0, 1) := by decide +kernel
theorem dX4_laySettled_4 : decode cX4_laySettled 4 = .ok (.getfield 24, 3) := by decide +kernel
theorem dX4_laySettled_7 : decode cX4_laySettled 7 = .ok (.if_icmp .ge 64, 3) := by decide +kernel
theorem dX4_laySettled_10 : decode cX4_laySettled 10 = .ok (.aload_n 0, 1) := by decide +kernel
theorem dX4_laySettled_11 : decode cX4_laySettled 11 = .ok (.iload_n 1, 1) := by decide +kernel
theorem dX4_laySettled_12 : decode cX4_laySettled 12 = .ok (.iconst 0, 1) := by decide +kernel
theorem dX4_laySettled_13 : decode cX4_laySettled 13 = .ok (.invokevirtual 91, 3) := by decide +kernel
theorem dX4_laySettled_16 : decode cX4_laySettled 16 = .ok (.aload_n 0, 1) := by decide +kernel
theorem dX4_laySettled_17 : decode cX4_laySettled 17 = .ok (.iload_n 1, 1) := by decide +kernel
theorem dX4_laySettled_18 : decode cX4_laySettled 18 = .ok (.iconst 1, 1) := by decide +kernel
theorem dX4_laySettled_19 : decode cX4_laySettled 19 = .ok (.invokevirtual 91, 3) := by decide +kernel
theorem dX4_laySettled_22 : decode cX4_laySettled 22 = .ok (.invokestatic 121, 3) := by decide +kernel
theorem dX4_laySettled_25 : decode cX4_laySettled 25 = .ok (.istore_n 2, 1) := by decide +kernel
theorem dX4_laySettled_26 : decode cX4_laySettled 26 = .ok (.iconst 0, 1) := by decide +kernel
theorem dX4_laySettled_27 : decode cX4_laySettled 27 = .ok (.istore_n 3, 1) := by decide +kernel
theorem dX4_laySettled_28 : decode cX4_laySettled 28 = .ok (.iload_n 3, 1) := by decide +kernel
theorem dX4_laySettled_29 : decode cX4_laySettled 29 = .ok (.iload_n 2, 1) := by decide +kernel
theorem dX4_laySettled_30 : decode cX4_laySettled 30 = .ok (.if_icmp .gt 35, 3) := by decide +kernel
theorem dX4_laySettled_33 : decode cX4_laySettled 33 = .ok (.iload_n 3, 1) := by decide +kernel
theorem dX4_laySettled_34 : decode cX4_laySettled 34 = .ok (.aload_n 0, 1) := by decide +kernel
theorem dX4_laySettled_35 : decode cX4_laySettled 35 = .ok (.getfield 18, 3) := by decide +kernel
theorem dX4_laySettled_38 : decode cX4_laySettled 38 = .ok (.if_icmp .ge 27, 3) := by decide +kernel
theorem dX4_laySettled_41 : decode cX4_laySettled 41 = .ok (.aload_n 0, 1) := by decide +kernel
theorem dX4_laySettled_42 : decode cX4_laySettled 42 = .ok (.getfield 50, 3) := by decide +kernel
theorem dX4_laySettled_45 : decode cX4_laySettled 45 = .ok (.iload_n 3, 1) := by decide +kernel
theorem dX4_laySettled_46 : decode cX4_laySettled 46 = .ok (.aload_n 0, 1) := by decide +kernel
theorem dX4_laySettled_47 : decode cX4_laySettled 47 = .ok (.iload_n 3, 1) := by decide +kernel
theorem dX4_laySettled_48 : decode cX4_laySettled 48 = .ok (.invokevirtual 126, 3) := by decide +kernel
theorem dX4_laySettled_51 : decode cX4_laySettled 51 = .ok (.iload_n 1, 1) := by decide +kernel
theorem dX4_laySettled_52 : decode cX4_laySettled 52 = .ok (.invokestatic 98, 3) := by decide +kernel
theorem dX4_laySettled_55 : decode cX4_laySettled 55 = .ok (.lor, 1) := by decide +kernel
theorem dX4_laySettled_56 : decode cX4_laySettled 56 = .ok (.invokestatic 101, 3) := by decide +kernel
theorem dX4_laySettled_59 : decode cX4_laySettled 59 = .ok (.iinc 3 1, 3) := by decide +kernel
theorem dX4_laySettled_62 : decode cX4_laySettled 62 = .ok (.goto (-34), 3) := by decide +kernel
theorem dX4_laySettled_65 : decode cX4_laySettled 65 = .ok (.iinc 1 1, 3) := by decide +kernel
theorem dX4_laySettled_68 : decode cX4_laySettled 68 = .ok (.goto (-66), 3) := by decide +kernel
theorem dX4_laySettled_71 : decode cX4_laySettled 71 = .ok (.return_, 1) := by decide +kernel
theorem dX4_layCorners_0 : decode cX4_layCorners 0 = .ok (.iconst 0, 1) := by decide +kernel
theorem dX4_layCorners_1 : decode cX4_layCorners 1 = .ok (.istore_n 1, 1) := by decide +kernel
theorem dX4_layCorners_2 : decode cX4_layCorners 2 = .ok (.iload_n 1, 1) := by decide +kernel
theorem dX4_layCorners_3 : decode cX4_layCorners 3 = .ok (.aload_n 0, 1) := by decide +kernel
theorem dX4_layCorners_4 : decode cX4_layCorners 4 = .ok (.getfield 18, 3) := by decide +kernel
theorem dX4_layCorners_7 : decode cX4_layCorners 7 = .ok (.if_icmp .ge 32, 3) := by decide +kernel
theorem dX4_layCorners_10 : decode cX4_layCorners 10 = .ok (.aload_n 0, 1) := by decide +kernel
theorem dX4_layCorners_11 : decode cX4_layCorners 11 = .ok (.getfield 53, 3) := by decide +kernel
theorem dX4_layCorners_14 : decode cX4_layCorners 14 = .ok (.iload_n 1, 1) := by decide +kernel
theorem dX4_layCorners_15 : decode cX4_layCorners 15 = .ok (.aload_n 0, 1) := by decide +kernel
theorem dX4_layCorners_16 : decode cX4_layCorners 16 = .ok (.aload_n 0, 1) := by decide +kernel
theorem dX4_layCorners_17 : decode cX4_layCorners 17 = .ok (.aload_n 0, 1) := by decide +kernel
theorem dX4_layCorners_18 : decode cX4_layCorners 18 = .ok (.iload_n 1, 1) := by decide +kernel
theorem dX4_layCorners_19 : decode cX4_layCorners 19 = .ok (.iconst 1, 1) := by decide +kernel
theorem dX4_layCorners_20 : decode cX4_layCorners 20 = .ok (.invokevirtual 129, 3) := by decide +kernel
theorem dX4_layCorners_23 : decode cX4_layCorners 23 = .ok (.iconst 1, 1) := by decide +kernel
theorem dX4_layCorners_24 : decode cX4_layCorners 24 = .ok (.invokevirtual 118, 3) := by decide +kernel
theorem dX4_layCorners_27 : decode cX4_layCorners 27 = .ok (.invokevirtual 115, 3) := by decide +kernel
theorem dX4_layCorners_30 : decode cX4_layCorners 30 = .ok (.invokestatic 101, 3) := by decide +kernel
theorem dX4_layCorners_33 : decode cX4_layCorners 33 = .ok (.iinc 1 1, 3) := by decide +kernel
theorem dX4_layCorners_36 : decode cX4_layCorners 36 = .ok (.goto (-34), 3) := by decide +kernel
theorem dX4_layCorners_39 : decode cX4_layCorners 39 = .ok (.return_, 1) := by decide +kernel
theorem dX4_hasCell_0 : decode cX4_hasCell 0 = .ok (.iload_n 1, 1) := by decide +kernel
theorem dX4_hasCell_1 : decode cX4_hasCell 1 = .ok (.ifCond .lt 15, 3) := by decide +kernel
theorem dX4_hasCell_4 : decode cX4_hasCell 4 = .ok (.iload_n 1, 1) := by decide +kernel
theorem dX4_hasCell_5 : decode cX4_hasCell 5 = .ok (.aload_n 0, 1) := by decide +kernel
theorem dX4_hasCell_6 : decode cX4_hasCell 6 = .ok (.getfield 18, 3) := by decide +kernel
theorem dX4_hasCell_9 : decode cX4_hasCell 9 = .ok (.if_icmp .ge 7, 3) := by decide +kernel
theorem dX4_hasCell_12 : decode cX4_hasCell 12 = .ok (.iconst 1, 1) := by decide +kernel
theorem dX4_hasCell_13 : decode cX4_hasCell 13 = .ok (.goto 4, 3) := by decide +kernel
theorem dX4_hasCell_16 : decode cX4_hasCell 16 = .ok (.iconst 0, 1) := by decide +kernel
theorem dX4_hasCell_17 : decode cX4_hasCell 17 = .ok (.ireturn, 1) := by decide +kernel
theorem dX4_hasPoint_0 : decode cX4_hasPoint 0 = .ok (.iload_n 1, 1) := by decide +kernel
theorem dX4_hasPoint_1 : decode cX4_hasPoint 1 = .ok (.ifCond .lt 15, 3) := by decide +kernel
theorem dX4_hasPoint_4 : decode cX4_hasPoint 4 = .ok (.iload_n 1, 1) := by decide +kernel
theorem dX4_hasPoint_5 : decode cX4_hasPoint 5 = .ok (.aload_n 0, 1) := by decide +kernel
theorem dX4_hasPoint_6 : decode cX4_hasPoint 6 = .ok (.getfield 21, 3) := by decide +kernel
theorem dX4_hasPoint_9 : decode cX4_hasPoint 9 = .ok (.if_icmp .ge 7, 3) := by decide +kernel
theorem dX4_hasPoint_12 : decode cX4_hasPoint 12 = .ok (.iconst 1, 1) := by decide +kernel
theorem dX4_hasPoint_13 : decode cX4_hasPoint 13 = .ok (.goto 4, 3) := by decide +kernel
theorem dX4_hasPoint_16 : decode cX4_hasPoint 16 = .ok (.iconst 0, 1) := by decide +kernel
theorem dX4_hasPoint_17 : decode cX4_hasPoint 17 = .ok (.ireturn, 1) := by decide +kernel
theorem dX4_hasSide_0 : decode cX4_hasSide 0 = .ok (.iload_n 1, 1) := by decide +kernel
theorem dX4_hasSide_1 : decode cX4_hasSide 1 = .ok (.ifCond .lt 15, 3) := by decide +kernel
theorem dX4_hasSide_4 : decode cX4_hasSide 4 = .ok (.iload_n 1, 1) := by decide +kernel
theorem dX4_hasSide_5 : decode cX4_hasSide 5 = .ok (.aload_n 0, 1) := by decide +kernel
theorem dX4_hasSide_6 : decode cX4_hasSide 6 = .ok (.getfield 24, 3) := by decide +kernel
theorem dX4_hasSide_9 : decode cX4_hasSide 9 = .ok (.if_icmp .ge 7, 3) := by decide +kernel
theorem dX4_hasSide_12 : decode cX4_hasSide 12 = .ok (.iconst 1, 1) := by decide +kernel
theorem dX4_hasSide_13 : decode cX4_hasSide 13 = .ok (.goto 4, 3) := by decide +kernel
theorem dX4_hasSide_16 : decode cX4_hasSide 16 = .ok (.iconst 0, 1) := by decide +kernel
theorem dX4_hasSide_17 : decode cX4_hasSide 17 = .ok (.ireturn, 1) := by decide +kernel
theorem dX4_sideOfCell_0 : decode cX4_sideOfCell 0 = .ok (.aload_n 0, 1) := by decide +kernel
theorem dX4_sideOfCell_1 : decode cX4_sideOfCell 1 = .ok (.getfield 27, 3) := by decide +kernel
theorem dX4_sideOfCell_4 : decode cX4_sideOfCell 4 = .ok (.iload_n 1, 1) := by decide +kernel
theorem dX4_sideOfCell_5 : decode cX4_sideOfCell 5 = .ok (.iconst 4, 1) := by decide +kernel
theorem dX4_sideOfCell_6 : decode cX4_sideOfCell 6 = .ok (.imul, 1) := by decide +kernel
theorem dX4_sideOfCell_7 : decode cX4_sideOfCell 7 = .ok (.iload_n 2, 1) := by decide +kernel
theorem dX4_sideOfCell_8 : decode cX4_sideOfCell 8 = .ok (.iadd, 1) := by decide +kernel
theorem dX4_sideOfCell_9 : decode cX4_sideOfCell 9 = .ok (.invokestatic 132, 3) := by decide +kernel
theorem dX4_sideOfCell_12 : decode cX4_sideOfCell 12 = .ok (.ireturn, 1) := by decide +kernel
theorem dX4_sideOfPoint_0 : decode cX4_sideOfPoint 0 = .ok (.aload_n 0, 1) := by decide +kernel
theorem dX4_sideOfPoint_1 : decode cX4_sideOfPoint 1 = .ok (.getfield 31, 3) := by decide +kernel
theorem dX4_sideOfPoint_4 : decode cX4_sideOfPoint 4 = .ok (.iload_n 1, 1) := by decide +kernel
theorem dX4_sideOfPoint_5 : decode cX4_sideOfPoint 5 = .ok (.iconst 4, 1) := by decide +kernel
theorem dX4_sideOfPoint_6 : decode cX4_sideOfPoint 6 = .ok (.imul, 1) := by decide +kernel
theorem dX4_sideOfPoint_7 : decode cX4_sideOfPoint 7 = .ok (.iload_n 2, 1) := by decide +kernel
theorem dX4_sideOfPoint_8 : decode cX4_sideOfPoint 8 = .ok (.iadd, 1) := by decide +kernel
theorem dX4_sideOfPoint_9 : decode cX4_sideOfPoint 9 = .ok (.invokestatic 132, 3) := by decide +kernel
theorem dX4_sideOfPoint_12 : decode cX4_sideOfPoint 12 = .ok (.ireturn, 1) := by decide +kernel
theorem dX4_hand_0 : decode cX4_hand 0 = .ok (.aload_n 0, 1) := by decide +kernel
theorem dX4_hand_1 : decode cX4_hand 1 = .ok (.getfield 34, 3) := by decide +kernel
theorem dX4_hand_4 : decode cX4_hand 4 = .ok (.iload_n 1, 1) := by decide +kernel
theorem dX4_hand_5 : decode cX4_hand 5 = .ok (.iconst 2, 1) := by decide +kernel
theorem dX4_hand_6 : decode cX4_hand 6 = .ok (.imul, 1) := by decide +kernel
theorem dX4_hand_7 : decode cX4_hand 7 = .ok (.iload_n 2, 1) := by decide +kernel
theorem dX4_hand_8 : decode cX4_hand 8 = .ok (.iadd, 1) := by decide +kernel
theorem dX4_hand_9 : decode cX4_hand 9 = .ok (.invokestatic 132, 3) := by decide +kernel
theorem dX4_hand_12 : decode cX4_hand 12 = .ok (.ireturn, 1) := by decide +kernel
theorem dX4_end_0 : decode cX4_end 0 = .ok (.aload_n 0, 1) := by decide +kernel
theorem dX4_end_1 : decode cX4_end 1 = .ok (.getfield 37, 3) := by decide +kernel
theorem dX4_end_4 : decode cX4_end 4 = .ok (.iload_n 1, 1) := by decide +kernel
theorem dX4_end_5 : decode cX4_end 5 = .ok (.iconst 2, 1) := by decide +kernel
theorem dX4_end_6 : decode cX4_end 6 = .ok (.imul, 1) := by decide +kernel
theorem dX4_end_7 : decode cX4_end 7 = .ok (.iload_n 2, 1) := by decide +kernel
theorem dX4_end_8 : decode cX4_end 8 = .ok (.iadd, 1) := by decide +kernel
theorem dX4_end_9 : decode cX4_end 9 = .ok (.invokestatic 132, 3) := by decide +kernel
theorem dX4_end_12 : decode cX4_end 12 = .ok (.ireturn, 1) := by decide +kernel
theorem dX4_roundCell_0 : decode cX4_roundCell 0 = .ok (.iload_n 1, 1) := by decide +kernel
theorem dX4_roundCell_1 : decode cX4_roundCell 1 = .ok (.ifCond .lt 21, 3) := by decide +kernel
theorem dX4_roundCell_4 : decode cX4_roundCell 4 = .ok (.iload_n 1, 1) := by decide +kernel
theorem dX4_roundCell_5 : decode cX4_roundCell 5 = .ok (.aload_n 0, 1) := by decide +kernel
theorem dX4_roundCell_6 : decode cX4_roundCell 6 = .ok (.getfield 40, 3) := by decide +kernel
theorem dX4_roundCell_9 : decode cX4_roundCell 9 = .ok (.arraylength, 1) := by decide +kernel
theorem dX4_roundCell_10 : decode cX4_roundCell 10 = .ok (.if_icmp .ge 12, 3) := by decide +kernel
theorem dX4_roundCell_13 : decode cX4_roundCell 13 = .ok (.aload_n 0, 1) := by decide +kernel
theorem dX4_roundCell_14 : decode cX4_roundCell 14 = .ok (.getfield 40, 3) := by decide +kernel
theorem dX4_roundCell_17 : decode cX4_roundCell 17 = .ok (.iload_n 1, 1) := by decide +kernel
theorem dX4_roundCell_18 : decode cX4_roundCell 18 = .ok (.laload, 1) := by decide +kernel
theorem dX4_roundCell_19 : decode cX4_roundCell 19 = .ok (.goto 4, 3) := by decide +kernel
theorem dX4_roundCell_22 : decode cX4_roundCell 22 = .ok (.lconst 0, 1) := by decide +kernel
theorem dX4_roundCell_23 : decode cX4_roundCell 23 = .ok (.lreturn, 1) := by decide +kernel
theorem dX4_atPoint_0 : decode cX4_atPoint 0 = .ok (.iload_n 1, 1) := by decide +kernel
theorem dX4_atPoint_1 : decode cX4_atPoint 1 = .ok (.ifCond .lt 21, 3) := by decide +kernel
theorem dX4_atPoint_4 : decode cX4_atPoint 4 = .ok (.iload_n 1, 1) := by decide +kernel
theorem dX4_atPoint_5 : decode cX4_atPoint 5 = .ok (.aload_n 0, 1) := by decide +kernel
theorem dX4_atPoint_6 : decode cX4_atPoint 6 = .ok (.getfield 44, 3) := by decide +kernel
theorem dX4_atPoint_9 : decode cX4_atPoint 9 = .ok (.arraylength, 1) := by decide +kernel
theorem dX4_atPoint_10 : decode cX4_atPoint 10 = .ok (.if_icmp .ge 12, 3) := by decide +kernel
theorem dX4_atPoint_13 : decode cX4_atPoint 13 = .ok (.aload_n 0, 1) := by decide +kernel
theorem dX4_atPoint_14 : decode cX4_atPoint 14 = .ok (.getfield 44, 3) := by decide +kernel
theorem dX4_atPoint_17 : decode cX4_atPoint 17 = .ok (.iload_n 1, 1) := by decide +kernel
theorem dX4_atPoint_18 : decode cX4_atPoint 18 = .ok (.laload, 1) := by decide +kernel
theorem dX4_atPoint_19 : decode cX4_atPoint 19 = .ok (.goto 4, 3) := by decide +kernel
theorem dX4_atPoint_22 : decode cX4_atPoint 22 = .ok (.lconst 0, 1) := by decide +kernel
theorem dX4_atPoint_23 : decode cX4_atPoint 23 = .ok (.lreturn, 1) := by decide +kernel
theorem dX4_settledFrom_0 : decode cX4_settledFrom 0 = .ok (.iload_n 1, 1) := by decide +kernel
theorem dX4_settledFrom_1 : decode cX4_settledFrom 1 = .ok (.ifCond .lt 21, 3) := by decide +kernel
theorem dX4_settledFrom_4 : decode cX4_settledFrom 4 = .ok (.iload_n 1, 1) := by decide +kernel
theorem dX4_settledFrom_5 : decode cX4_settledFrom 5 = .ok (.aload_n 0, 1) := by decide +kernel
theorem dX4_settledFrom_6 : decode cX4_settledFrom 6 = .ok (.getfield 50, 3) := by decide +kernel
theorem dX4_settledFrom_9 : decode cX4_settledFrom 9 = .ok (.arraylength, 1) := by decide +kernel
theorem dX4_settledFrom_10 : decode cX4_settledFrom 10 = .ok (.if_icmp .ge 12, 3) := by decide +kernel
theorem dX4_settledFrom_13 : decode cX4_settledFrom 13 = .ok (.aload_n 0, 1) := by decide +kernel
theorem dX4_settledFrom_14 : decode cX4_settledFrom 14 = .ok (.getfield 50, 3) := by decide +kernel
theorem dX4_settledFrom_17 : decode cX4_settledFrom 17 = .ok (.iload_n 1, 1) := by decide +kernel
theorem dX4_settledFrom_18 : decode cX4_settledFrom 18 = .ok (.laload, 1) := by decide +kernel
theorem dX4_settledFrom_19 : decode cX4_settledFrom 19 = .ok (.goto 4, 3) := by decide +kernel
theorem dX4_settledFrom_22 : decode cX4_settledFrom 22 = .ok (.lconst 0, 1) := by decide +kernel
theorem dX4_settledFrom_23 : decode cX4_settledFrom 23 = .ok (.lreturn, 1) := by decide +kernel
theorem dX4_atCorner_0 : decode cX4_atCorner 0 = .ok (.iload_n 1, 1) := by decide +kernel
theorem dX4_atCorner_1 : decode cX4_atCorner 1 = .ok (.ifCond .lt 21, 3) := by decide +kernel
theorem dX4_atCorner_4 : decode cX4_atCorner 4 = .ok (.iload_n 1, 1) := by decide +kernel
theorem dX4_atCorner_5 : decode cX4_atCorner 5 = .ok (.aload_n 0, 1) := by decide +kernel
theorem dX4_atCorner_6 : decode cX4_atCorner 6 = .ok (.getfield 53, 3) := by decide +kernel
theorem dX4_atCorner_9 : decode cX4_atCorner 9 = .ok (.arraylength, 1) := by decide +kernel
theorem dX4_atCorner_10 : decode cX4_atCorner 10 = .ok (.if_icmp .ge 12, 3) := by decide +kernel
theorem dX4_atCorner_13 : decode cX4_atCorner 13 = .ok (.aload_n 0, 1) := by decide +kernel
theorem dX4_atCorner_14 : decode cX4_atCorner 14 = .ok (.getfield 53, 3) := by decide +kernel
theorem dX4_atCorner_17 : decode cX4_atCorner 17 = .ok (.iload_n 1, 1) := by decide +kernel
theorem dX4_atCorner_18 : decode cX4_atCorner 18 = .ok (.laload, 1) := by decide +kernel
theorem dX4_atCorner_19 : decode cX4_atCorner 19 = .ok (.goto 4, 3) := by decide +kernel
theorem dX4_atCorner_22 : decode cX4_atCorner 22 = .ok (.lconst 0, 1) := by decide +kernel
theorem dX4_atCorner_23 : decode cX4_atCorner 23 = .ok (.lreturn, 1) := by decide +kernel
theorem dX4_allSides_0 : decode cX4_allSides 0 = .ok (.aload_n 0, 1) := by decide +kernel
theorem dX4_allSides_1 : decode cX4_allSides 1 = .ok (.getfield 24, 3) := by decide +kernel
theorem dX4_allSides_4 : decode cX4_allSides 4 = .ok (.invokestatic 98, 3) := by decide +kernel
theorem dX4_allSides_7 : decode cX4_allSides 7 = .ok (.lconst 1, 1) := by decide +kernel
theorem dX4_allSides_8 : decode cX4_allSides 8 = .ok (.lsub, 1) := by decide +kernel
theorem dX4_allSides_9 : decode cX4_allSides 9 = .ok (.lreturn, 1) := by decide +kernel
theorem dX4_chainOf_0 : decode cX4_chainOf 0 = .ok (.iload_n 3, 1) := by decide +kernel
theorem dX4_chainOf_1 : decode cX4_chainOf 1 = .ok (.invokestatic 98, 3) := by decide +kernel
theorem dX4_chainOf_4 : decode cX4_chainOf 4 = .ok (.lstore 4, 2) := by decide +kernel
theorem dX4_chainOf_6 : decode cX4_chainOf 6 = .ok (.lload 4, 2) := by decide +kernel
theorem dX4_chainOf_8 : decode cX4_chainOf 8 = .ok (.lstore 6, 2) := by decide +kernel
theorem dX4_chainOf_10 : decode cX4_chainOf 10 = .ok (.iconst 0, 1) := by decide +kernel
theorem dX4_chainOf_11 : decode cX4_chainOf 11 = .ok (.istore 8, 2) := by decide +kernel
theorem dX4_chainOf_13 : decode cX4_chainOf 13 = .ok (.iload 8, 2) := by decide +kernel
theorem dX4_chainOf_15 : decode cX4_chainOf 15 = .ok (.bipush 40, 2) := by decide +kernel
theorem dX4_chainOf_17 : decode cX4_chainOf 17 = .ok (.if_icmp .ge 74, 3) := by decide +kernel
theorem dX4_chainOf_20 : decode cX4_chainOf 20 = .ok (.lload 6, 2) := by decide +kernel
theorem dX4_chainOf_22 : decode cX4_chainOf 22 = .ok (.lconst 0, 1) := by decide +kernel
theorem dX4_chainOf_23 : decode cX4_chainOf 23 = .ok (.lcmp, 1) := by decide +kernel
theorem dX4_chainOf_24 : decode cX4_chainOf 24 = .ok (.ifCond .eq 67, 3) := by decide +kernel
theorem dX4_chainOf_27 : decode cX4_chainOf 27 = .ok (.lload 6, 2) := by decide +kernel
theorem dX4_chainOf_29 : decode cX4_chainOf 29 = .ok (.invokestatic 136, 3) := by decide +kernel
theorem dX4_chainOf_32 : decode cX4_chainOf 32 = .ok (.istore 9, 2) := by decide +kernel
theorem dX4_chainOf_34 : decode cX4_chainOf 34 = .ok (.iload 9, 2) := by decide +kernel
theorem dX4_chainOf_36 : decode cX4_chainOf 36 = .ok (.aload_n 0, 1) := by decide +kernel
theorem dX4_chainOf_37 : decode cX4_chainOf 37 = .ok (.getfield 47, 3) := by decide +kernel
theorem dX4_chainOf_40 : decode cX4_chainOf 40 = .ok (.arraylength, 1) := by decide +kernel
theorem dX4_chainOf_41 : decode cX4_chainOf 41 = .ok (.if_icmp .ge 22, 3) := by decide +kernel
theorem dX4_chainOf_44 : decode cX4_chainOf 44 = .ok (.aload_n 0, 1) := by decide +kernel
theorem dX4_chainOf_45 : decode cX4_chainOf 45 = .ok (.getfield 47, 3) := by decide +kernel
theorem dX4_chainOf_48 : decode cX4_chainOf 48 = .ok (.iload 9, 2) := by decide +kernel
theorem dX4_chainOf_50 : decode cX4_chainOf 50 = .ok (.laload, 1) := by decide +kernel
theorem dX4_chainOf_51 : decode cX4_chainOf 51 = .ok (.lload_n 1, 1) := by decide +kernel
theorem dX4_chainOf_52 : decode cX4_chainOf 52 = .ok (.land, 1) := by decide +kernel
theorem dX4_chainOf_53 : decode cX4_chainOf 53 = .ok (.lload 4, 2) := by decide +kernel
theorem dX4_chainOf_55 : decode cX4_chainOf 55 = .ok (.ldc2_w 142, 3) := by decide +kernel
theorem dX4_chainOf_58 : decode cX4_chainOf 58 = .ok (.lxor, 1) := by decide +kernel
theorem dX4_chainOf_59 : decode cX4_chainOf 59 = .ok (.land, 1) := by decide +kernel
theorem dX4_chainOf_60 : decode cX4_chainOf 60 = .ok (.goto 4, 3) := by decide +kernel
theorem dX4_chainOf_63 : decode cX4_chainOf 63 = .ok (.lconst 0, 1) := by decide +kernel
theorem dX4_chainOf_64 : decode cX4_chainOf 64 = .ok (.lstore 10, 2) := by decide +kernel
theorem dX4_chainOf_66 : decode cX4_chainOf 66 = .ok (.lload 4, 2) := by decide +kernel
theorem dX4_chainOf_68 : decode cX4_chainOf 68 = .ok (.lload 10, 2) := by decide +kernel
theorem dX4_chainOf_70 : decode cX4_chainOf 70 = .ok (.lor, 1) := by decide +kernel
theorem dX4_chainOf_71 : decode cX4_chainOf 71 = .ok (.lstore 4, 2) := by decide +kernel
theorem dX4_chainOf_73 : decode cX4_chainOf 73 = .ok (.lload 6, 2) := by decide +kernel
theorem dX4_chainOf_75 : decode cX4_chainOf 75 = .ok (.lload 6, 2) := by decide +kernel
theorem dX4_chainOf_77 : decode cX4_chainOf 77 = .ok (.lconst 1, 1) := by decide +kernel
theorem dX4_chainOf_78 : decode cX4_chainOf 78 = .ok (.lsub, 1) := by decide +kernel
theorem dX4_chainOf_79 : decode cX4_chainOf 79 = .ok (.land, 1) := by decide +kernel
theorem dX4_chainOf_80 : decode cX4_chainOf 80 = .ok (.lload 10, 2) := by decide +kernel
theorem dX4_chainOf_82 : decode cX4_chainOf 82 = .ok (.lor, 1) := by decide +kernel
theorem dX4_chainOf_83 : decode cX4_chainOf 83 = .ok (.lstore 6, 2) := by decide +kernel
theorem dX4_chainOf_85 : decode cX4_chainOf 85 = .ok (.iinc 8 1, 3) := by decide +kernel
theorem dX4_chainOf_88 : decode cX4_chainOf 88 = .ok (.goto (-75), 3) := by decide +kernel
theorem dX4_chainOf_91 : decode cX4_chainOf 91 = .ok (.lload 4, 2) := by decide +kernel
theorem dX4_chainOf_93 : decode cX4_chainOf 93 = .ok (.lreturn, 1) := by decide +kernel
theorem dX4_cellsWithin_0 : decode cX4_cellsWithin 0 = .ok (.iconst 0, 1) := by decide +kernel
theorem dX4_cellsWithin_1 : decode cX4_cellsWithin 1 = .ok (.istore_n 3, 1) := by decide +kernel
theorem dX4_cellsWithin_2 : decode cX4_cellsWithin 2 = .ok (.iconst 0, 1) := by decide +kernel
theorem dX4_cellsWithin_3 : decode cX4_cellsWithin 3 = .ok (.istore 4, 2) := by decide +kernel
theorem dX4_cellsWithin_5 : decode cX4_cellsWithin 5 = .ok (.iload 4, 2) := by decide +kernel
theorem dX4_cellsWithin_7 : decode cX4_cellsWithin 7 = .ok (.aload_n 0, 1) := by decide +kernel
theorem dX4_cellsWithin_8 : decode cX4_cellsWithin 8 = .ok (.getfield 15, 3) := by decide +kernel
theorem dX4_cellsWithin_11 : decode cX4_cellsWithin 11 = .ok (.if_icmp .ge 80, 3) := by decide +kernel
theorem dX4_cellsWithin_14 : decode cX4_cellsWithin 14 = .ok (.iconst 0, 1) := by decide +kernel
theorem dX4_cellsWithin_15 : decode cX4_cellsWithin 15 = .ok (.istore 5, 2) := by decide +kernel
theorem dX4_cellsWithin_17 : decode cX4_cellsWithin 17 = .ok (.iconst 0, 1) := by decide +kernel
theorem dX4_cellsWithin_18 : decode cX4_cellsWithin 18 = .ok (.istore 6, 2) := by decide +kernel
theorem dX4_cellsWithin_20 : decode cX4_cellsWithin 20 = .ok (.iload 6, 2) := by decide +kernel
theorem dX4_cellsWithin_22 : decode cX4_cellsWithin 22 = .ok (.aload_n 0, 1) := by decide +kernel
theorem dX4_cellsWithin_23 : decode cX4_cellsWithin 23 = .ok (.getfield 9, 3) := by decide +kernel
theorem dX4_cellsWithin_26 : decode cX4_cellsWithin 26 = .ok (.if_icmp .ge 59, 3) := by decide +kernel
theorem dX4_cellsWithin_29 : decode cX4_cellsWithin 29 = .ok (.lload_n 1, 1) := by decide +kernel
theorem dX4_cellsWithin_30 : decode cX4_cellsWithin 30 = .ok (.aload_n 0, 1) := by decide +kernel
theorem dX4_cellsWithin_31 : decode cX4_cellsWithin 31 = .ok (.iload 6, 2) := by decide +kernel
theorem dX4_cellsWithin_33 : decode cX4_cellsWithin 33 = .ok (.iload 4, 2) := by decide +kernel
theorem dX4_cellsWithin_35 : decode cX4_cellsWithin 35 = .ok (.invokevirtual 88, 3) := by decide +kernel
theorem dX4_cellsWithin_38 : decode cX4_cellsWithin 38 = .ok (.invokestatic 98, 3) := by decide +kernel
theorem dX4_cellsWithin_41 : decode cX4_cellsWithin 41 = .ok (.land, 1) := by decide +kernel
theorem dX4_cellsWithin_42 : decode cX4_cellsWithin 42 = .ok (.lconst 0, 1) := by decide +kernel
theorem dX4_cellsWithin_43 : decode cX4_cellsWithin 43 = .ok (.lcmp, 1) := by decide +kernel
theorem dX4_cellsWithin_44 : decode cX4_cellsWithin 44 = .ok (.ifCond .eq 15, 3) := by decide +kernel
theorem dX4_cellsWithin_47 : decode cX4_cellsWithin 47 = .ok (.iload 5, 2) := by decide +kernel
theorem dX4_cellsWithin_49 : decode cX4_cellsWithin 49 = .ok (.ifCond .ne 7, 3) := by decide +kernel
theorem dX4_cellsWithin_52 : decode cX4_cellsWithin 52 = .ok (.iconst 1, 1) := by decide +kernel
theorem dX4_cellsWithin_53 : decode cX4_cellsWithin 53 = .ok (.goto 4, 3) := by decide +kernel
theorem dX4_cellsWithin_56 : decode cX4_cellsWithin 56 = .ok (.iconst 0, 1) := by decide +kernel
theorem dX4_cellsWithin_57 : decode cX4_cellsWithin 57 = .ok (.istore 5, 2) := by decide +kernel
theorem dX4_cellsWithin_59 : decode cX4_cellsWithin 59 = .ok (.iload 5, 2) := by decide +kernel
theorem dX4_cellsWithin_61 : decode cX4_cellsWithin 61 = .ok (.ifCond .eq 18, 3) := by decide +kernel
theorem dX4_cellsWithin_64 : decode cX4_cellsWithin 64 = .ok (.iload_n 3, 1) := by decide +kernel
theorem dX4_cellsWithin_65 : decode cX4_cellsWithin 65 = .ok (.iconst 1, 1) := by decide +kernel
theorem dX4_cellsWithin_66 : decode cX4_cellsWithin 66 = .ok (.iload 4, 2) := by decide +kernel
theorem dX4_cellsWithin_68 : decode cX4_cellsWithin 68 = .ok (.aload_n 0, 1) := by decide +kernel
theorem dX4_cellsWithin_69 : decode cX4_cellsWithin 69 = .ok (.getfield 9, 3) := by decide +kernel
theorem dX4_cellsWithin_72 : decode cX4_cellsWithin 72 = .ok (.imul, 1) := by decide +kernel
theorem dX4_cellsWithin_73 : decode cX4_cellsWithin 73 = .ok (.iload 6, 2) := by decide +kernel
theorem dX4_cellsWithin_75 : decode cX4_cellsWithin 75 = .ok (.iadd, 1) := by decide +kernel
theorem dX4_cellsWithin_76 : decode cX4_cellsWithin 76 = .ok (.ishl, 1) := by decide +kernel
theorem dX4_cellsWithin_77 : decode cX4_cellsWithin 77 = .ok (.ior, 1) := by decide +kernel
theorem dX4_cellsWithin_78 : decode cX4_cellsWithin 78 = .ok (.istore_n 3, 1) := by decide +kernel
theorem dX4_cellsWithin_79 : decode cX4_cellsWithin 79 = .ok (.iinc 6 1, 3) := by decide +kernel
theorem dX4_cellsWithin_82 : decode cX4_cellsWithin 82 = .ok (.goto (-62), 3) := by decide +kernel
theorem dX4_cellsWithin_85 : decode cX4_cellsWithin 85 = .ok (.iinc 4 1, 3) := by decide +kernel
theorem dX4_cellsWithin_88 : decode cX4_cellsWithin 88 = .ok (.goto (-83), 3) := by decide +kernel
theorem dX4_cellsWithin_91 : decode cX4_cellsWithin 91 = .ok (.iload_n 3, 1) := by decide +kernel
theorem dX4_cellsWithin_92 : decode cX4_cellsWithin 92 = .ok (.ireturn, 1) := by decide +kernel
theorem dX5_init_0 : decode cX5_init 0 = .ok (.aload_n 0, 1) := by decide +kernel
theorem dX5_init_1 : decode cX5_init 1 = .ok (.invokespecial 1, 3) := by decide +kernel
theorem dX5_init_4 : decode cX5_init 4 = .ok (.iload_n 1, 1) := by decide +kernel
theorem dX5_init_5 : decode cX5_init 5 = .ok (.iconst 0, 1) := by decide +kernel
theorem dX5_init_6 : decode cX5_init 6 = .ok (.invokestatic 7, 3) := by decide +kernel
theorem dX5_init_9 : decode cX5_init 9 = .ok (.istore_n 2, 1) := by decide +kernel
theorem dX5_init_10 : decode cX5_init 10 = .ok (.aload_n 0, 1) := by decide +kernel
theorem dX5_init_11 : decode cX5_init 11 = .ok (.iload_n 2, 1) := by decide +kernel
theorem dX5_init_12 : decode cX5_init 12 = .ok (.newarray .long, 2) := by decide +kernel
theorem dX5_init_14 : decode cX5_init 14 = .ok (.putfield 13, 3) := by decide +kernel
theorem dX5_init_17 : decode cX5_init 17 = .ok (.aload_n 0, 1) := by decide +kernel
theorem dX5_init_18 : decode cX5_init 18 = .ok (.iload_n 2, 1) := by decide +kernel
theorem dX5_init_19 : decode cX5_init 19 = .ok (.newarray .long, 2) := by decide +kernel
theorem dX5_init_21 : decode cX5_init 21 = .ok (.putfield 19, 3) := by decide +kernel
theorem dX5_init_24 : decode cX5_init 24 = .ok (.aload_n 0, 1) := by decide +kernel
theorem dX5_init_25 : decode cX5_init 25 = .ok (.iload_n 2, 1) := by decide +kernel
theorem dX5_init_26 : decode cX5_init 26 = .ok (.newarray .long, 2) := by decide +kernel
theorem dX5_init_28 : decode cX5_init 28 = .ok (.putfield 22, 3) := by decide +kernel
theorem dX5_init_31 : decode cX5_init 31 = .ok (.aload_n 0, 1) := by decide +kernel
theorem dX5_init_32 : decode cX5_init 32 = .ok (.iload_n 2, 1) := by decide +kernel
theorem dX5_init_33 : decode cX5_init 33 = .ok (.newarray .int, 2) := by decide +kernel
theorem dX5_init_35 : decode cX5_init 35 = .ok (.putfield 25, 3) := by decide +kernel
theorem dX5_init_38 : decode cX5_init 38 = .ok (.return_, 1) := by decide +kernel
theorem dX5_has_0 : decode cX5_has 0 = .ok (.aload_n 0, 1) := by decide +kernel
theorem dX5_has_1 : decode cX5_has 1 = .ok (.getfield 25, 3) := by decide +kernel
theorem dX5_has_4 : decode cX5_has 4 = .ok (.iload_n 1, 1) := by decide +kernel
theorem dX5_has_5 : decode cX5_has 5 = .ok (.invokestatic 29, 3) := by decide +kernel
theorem dX5_has_8 : decode cX5_has 8 = .ok (.iconst 1, 1) := by decide +kernel
theorem dX5_has_9 : decode cX5_has 9 = .ok (.if_icmp .ne 7, 3) := by decide +kernel
theorem dX5_has_12 : decode cX5_has 12 = .ok (.iconst 1, 1) := by decide +kernel
theorem dX5_has_13 : decode cX5_has 13 = .ok (.goto 4, 3) := by decide +kernel
theorem dX5_has_16 : decode cX5_has 16 = .ok (.iconst 0, 1) := by decide +kernel
theorem dX5_has_17 : decode cX5_has 17 = .ok (.ireturn, 1) := by decide +kernel
theorem dX5_store_0 : decode cX5_store 0 = .ok (.aload_n 0, 1) := by decide +kernel
theorem dX5_store_1 : decode cX5_store 1 = .ok (.getfield 13, 3) := by decide +kernel
theorem dX5_store_4 : decode cX5_store 4 = .ok (.iload_n 1, 1) := by decide +kernel
theorem dX5_store_5 : decode cX5_store 5 = .ok (.aload_n 2, 1) := by decide +kernel
theorem dX5_store_6 : decode cX5_store 6 = .ok (.getfield 35, 3) := by decide +kernel
theorem dX5_store_9 : decode cX5_store 9 = .ok (.invokestatic 40, 3) := by decide +kernel
theorem dX5_store_12 : decode cX5_store 12 = .ok (.aload_n 0, 1) := by decide +kernel
theorem dX5_store_13 : decode cX5_store 13 = .ok (.getfield 19, 3) := by decide +kernel
theorem dX5_store_16 : decode cX5_store 16 = .ok (.iload_n 1, 1) := by decide +kernel
theorem dX5_store_17 : decode cX5_store 17 = .ok (.aload_n 2, 1) := by decide +kernel
theorem dX5_store_18 : decode cX5_store 18 = .ok (.getfield 44, 3) := by decide +kernel
theorem dX5_store_21 : decode cX5_store 21 = .ok (.invokestatic 40, 3) := by decide +kernel
theorem dX5_store_24 : decode cX5_store 24 = .ok (.aload_n 0, 1) := by decide +kernel
theorem dX5_store_25 : decode cX5_store 25 = .ok (.getfield 22, 3) := by decide +kernel
theorem dX5_store_28 : decode cX5_store 28 = .ok (.iload_n 1, 1) := by decide +kernel
theorem dX5_store_29 : decode cX5_store 29 = .ok (.aload_n 2, 1) := by decide +kernel
theorem dX5_store_30 : decode cX5_store 30 = .ok (.getfield 46, 3) := by decide +kernel
theorem dX5_store_33 : decode cX5_store 33 = .ok (.invokestatic 40, 3) := by decide +kernel
theorem dX5_store_36 : decode cX5_store 36 = .ok (.aload_n 0, 1) := by decide +kernel
theorem dX5_store_37 : decode cX5_store 37 = .ok (.getfield 25, 3) := by decide +kernel
theorem dX5_store_40 : decode cX5_store 40 = .ok (.iload_n 1, 1) := by decide +kernel
theorem dX5_store_41 : decode cX5_store 41 = .ok (.iconst 1, 1) := by decide +kernel
theorem dX5_store_42 : decode cX5_store 42 = .ok (.invokestatic 48, 3) := by decide +kernel
theorem dX5_store_45 : decode cX5_store 45 = .ok (.return_, 1) := by decide +kernel
theorem dX5_give_0 : decode cX5_give 0 = .ok (.aload_n 2, 1) := by decide +kernel
theorem dX5_give_1 : decode cX5_give 1 = .ok (.aload_n 0, 1) := by decide +kernel
theorem dX5_give_2 : decode cX5_give 2 = .ok (.getfield 13, 3) := by decide +kernel
theorem dX5_give_5 : decode cX5_give 5 = .ok (.iload_n 1, 1) := by decide +kernel
theorem dX5_give_6 : decode cX5_give 6 = .ok (.invokestatic 51, 3) := by decide +kernel
theorem dX5_give_9 : decode cX5_give 9 = .ok (.aload_n 0, 1) := by decide +kernel
theorem dX5_give_10 : decode cX5_give 10 = .ok (.getfield 19, 3) := by decide +kernel
theorem dX5_give_13 : decode cX5_give 13 = .ok (.iload_n 1, 1) := by decide +kernel
theorem dX5_give_14 : decode cX5_give 14 = .ok (.invokestatic 51, 3) := by decide +kernel
theorem dX5_give_17 : decode cX5_give 17 = .ok (.aload_n 0, 1) := by decide +kernel
theorem dX5_give_18 : decode cX5_give 18 = .ok (.getfield 22, 3) := by decide +kernel
theorem dX5_give_21 : decode cX5_give 21 = .ok (.iload_n 1, 1) := by decide +kernel
theorem dX5_give_22 : decode cX5_give 22 = .ok (.invokestatic 51, 3) := by decide +kernel
theorem dX5_give_25 : decode cX5_give 25 = .ok (.invokevirtual 54, 3) := by decide +kernel
theorem dX5_give_28 : decode cX5_give 28 = .ok (.return_, 1) := by decide +kernel
theorem dX5_forget_0 : decode cX5_forget 0 = .ok (.aload_n 0, 1) := by decide +kernel
theorem dX5_forget_1 : decode cX5_forget 1 = .ok (.getfield 25, 3) := by decide +kernel
theorem dX5_forget_4 : decode cX5_forget 4 = .ok (.iconst 0, 1) := by decide +kernel
theorem dX5_forget_5 : decode cX5_forget 5 = .ok (.invokestatic 58, 3) := by decide +kernel
theorem dX5_forget_8 : decode cX5_forget 8 = .ok (.return_, 1) := by decide +kernel
theorem dX6_init_0 : decode cX6_init 0 = .ok (.aload_n 0, 1) := by decide +kernel
theorem dX6_init_1 : decode cX6_init 1 = .ok (.invokespecial 3, 3) := by decide +kernel
theorem dX6_init_4 : decode cX6_init 4 = .ok (.aload_n 0, 1) := by decide +kernel
theorem dX6_init_5 : decode cX6_init 5 = .ok (.bipush 40, 2) := by decide +kernel
theorem dX6_init_7 : decode cX6_init 7 = .ok (.newarray .int, 2) := by decide +kernel
theorem dX6_init_9 : decode cX6_init 9 = .ok (.putfield 11, 3) := by decide +kernel
theorem dX6_init_12 : decode cX6_init 12 = .ok (.aload_n 0, 1) := by decide +kernel
theorem dX6_init_13 : decode cX6_init 13 = .ok (.iconst 0, 1) := by decide +kernel
theorem dX6_init_14 : decode cX6_init 14 = .ok (.putfield 15, 3) := by decide +kernel
theorem dX6_init_17 : decode cX6_init 17 = .ok (.aload_n 0, 1) := by decide +kernel
theorem dX6_init_18 : decode cX6_init 18 = .ok (.iconst 0, 1) := by decide +kernel
theorem dX6_init_19 : decode cX6_init 19 = .ok (.putfield 19, 3) := by decide +kernel
theorem dX6_init_22 : decode cX6_init 22 = .ok (.aload_n 0, 1) := by decide +kernel
theorem dX6_init_23 : decode cX6_init 23 = .ok (.iconst 0, 1) := by decide +kernel
theorem dX6_init_24 : decode cX6_init 24 = .ok (.putfield 22, 3) := by decide +kernel
theorem dX6_init_27 : decode cX6_init 27 = .ok (.aload_n 0, 1) := by decide +kernel
theorem dX6_init_28 : decode cX6_init 28 = .ok (.lconst 0, 1) := by decide +kernel
theorem dX6_init_29 : decode cX6_init 29 = .ok (.putfield 25, 3) := by decide +kernel
theorem dX6_init_32 : decode cX6_init 32 = .ok (.return_, 1) := by decide +kernel
theorem dX6_takes_0 : decode cX6_takes 0 = .ok (.aload_n 0, 1) := by decide +kernel
theorem dX6_takes_1 : decode cX6_takes 1 = .ok (.getfield 15, 3) := by decide +kernel
theorem dX6_takes_4 : decode cX6_takes 4 = .ok (.ifCond .lt 15, 3) := by decide +kernel
theorem dX6_takes_7 : decode cX6_takes 7 = .ok (.aload_n 0, 1) := by decide +kernel
theorem dX6_takes_8 : decode cX6_takes 8 = .ok (.getfield 15, 3) := by decide +kernel
theorem dX6_takes_11 : decode cX6_takes 11 = .ok (.aload_n 0, 1) := by decide +kernel
theorem dX6_takes_12 : decode cX6_takes 12 = .ok (.getfield 11, 3) := by decide +kernel
theorem dX6_takes_15 : decode cX6_takes 15 = .ok (.arraylength, 1) := by decide +kernel
theorem dX6_takes_16 : decode cX6_takes 16 = .ok (.if_icmp .lt 5, 3) := by decide +kernel
theorem dX6_takes_19 : decode cX6_takes 19 = .ok (.iconst 0, 1) := by decide +kernel
theorem dX6_takes_20 : decode cX6_takes 20 = .ok (.ireturn, 1) := by decide +kernel
theorem dX6_takes_21 : decode cX6_takes 21 = .ok (.aload_n 0, 1) := by decide +kernel
theorem dX6_takes_22 : decode cX6_takes 22 = .ok (.getfield 11, 3) := by decide +kernel
theorem dX6_takes_25 : decode cX6_takes 25 = .ok (.aload_n 0, 1) := by decide +kernel
theorem dX6_takes_26 : decode cX6_takes 26 = .ok (.getfield 15, 3) := by decide +kernel
theorem dX6_takes_29 : decode cX6_takes 29 = .ok (.iload_n 1, 1) := by decide +kernel
theorem dX6_takes_30 : decode cX6_takes 30 = .ok (.iastore, 1) := by decide +kernel
theorem dX6_takes_31 : decode cX6_takes 31 = .ok (.aload_n 0, 1) := by decide +kernel
theorem dX6_takes_32 : decode cX6_takes 32 = .ok (.dup, 1) := by decide +kernel
theorem dX6_takes_33 : decode cX6_takes 33 = .ok (.getfield 15, 3) := by decide +kernel
theorem dX6_takes_36 : decode cX6_takes 36 = .ok (.iconst 1, 1) := by decide +kernel
theorem dX6_takes_37 : decode cX6_takes 37 = .ok (.iadd, 1) := by decide +kernel
theorem dX6_takes_38 : decode cX6_takes 38 = .ok (.putfield 15, 3) := by decide +kernel
theorem dX6_takes_41 : decode cX6_takes 41 = .ok (.iconst 1, 1) := by decide +kernel
theorem dX6_takes_42 : decode cX6_takes 42 = .ok (.ireturn, 1) := by decide +kernel
theorem dX6_read_0 : decode cX6_read 0 = .ok (.aload_n 0, 1) := by decide +kernel
theorem dX6_read_1 : decode cX6_read 1 = .ok (.iconst 0, 1) := by decide +kernel
theorem dX6_read_2 : decode cX6_read 2 = .ok (.putfield 19, 3) := by decide +kernel
theorem dX6_read_5 : decode cX6_read 5 = .ok (.aload_n 0, 1) := by decide +kernel
theorem dX6_read_6 : decode cX6_read 6 = .ok (.iconst 0, 1) := by decide +kernel
theorem dX6_read_7 : decode cX6_read 7 = .ok (.putfield 22, 3) := by decide +kernel
theorem dX6_read_10 : decode cX6_read 10 = .ok (.aload_n 0, 1) := by decide +kernel
theorem dX6_read_11 : decode cX6_read 11 = .ok (.lconst 0, 1) := by decide +kernel
theorem dX6_read_12 : decode cX6_read 12 = .ok (.putfield 25, 3) := by decide +kernel
theorem dX6_read_15 : decode cX6_read 15 = .ok (.iconst 0, 1) := by decide +kernel
theorem dX6_read_16 : decode cX6_read 16 = .ok (.istore_n 1, 1) := by decide +kernel
theorem dX6_read_17 : decode cX6_read 17 = .ok (.iconst 0, 1) := by decide +kernel
theorem dX6_read_18 : decode cX6_read 18 = .ok (.istore_n 2, 1) := by decide +kernel
theorem dX6_read_19 : decode cX6_read 19 = .ok (.iconst 0, 1) := by decide +kernel
theorem dX6_read_20 : decode cX6_read 20 = .ok (.istore_n 3, 1) := by decide +kernel
theorem dX6_read_21 : decode cX6_read 21 = .ok (.iload_n 3, 1) := by decide +kernel
theorem dX6_read_22 : decode cX6_read 22 = .ok (.aload_n 0, 1) := by decide +kernel
theorem dX6_read_23 : decode cX6_read 23 = .ok (.getfield 15, 3) := by decide +kernel
theorem dX6_read_26 : decode cX6_read 26 = .ok (.if_icmp .ge 111, 3) := by decide +kernel
theorem dX6_read_29 : decode cX6_read 29 = .ok (.aload_n 0, 1) := by decide +kernel
theorem dX6_read_30 : decode cX6_read 30 = .ok (.getfield 11, 3) := by decide +kernel
theorem dX6_read_33 : decode cX6_read 33 = .ok (.iload_n 3, 1) := by decide +kernel
theorem dX6_read_34 : decode cX6_read 34 = .ok (.invokestatic 29, 3) := by decide +kernel
theorem dX6_read_37 : decode cX6_read 37 = .ok (.istore 4, 2) := by decide +kernel
theorem dX6_read_39 : decode cX6_read 39 = .ok (.iload 4, 2) := by decide +kernel
theorem dX6_read_41 : decode cX6_read 41 = .ok (.bipush 32, 2) := by decide +kernel
theorem dX6_read_43 : decode cX6_read 43 = .ok (.if_icmp .ne 6, 3) := by decide +kernel
theorem dX6_read_46 : decode cX6_read 46 = .ok (.goto 85, 3) := by decide +kernel
theorem dX6_read_49 : decode cX6_read 49 = .ok (.iload 4, 2) := by decide +kernel
theorem dX6_read_51 : decode cX6_read 51 = .ok (.invokestatic 33, 3) := by decide +kernel
theorem dX6_read_54 : decode cX6_read 54 = .ok (.istore 5, 2) := by decide +kernel
theorem dX6_read_56 : decode cX6_read 56 = .ok (.iload 4, 2) := by decide +kernel
theorem dX6_read_58 : decode cX6_read 58 = .ok (.bipush 59, 2) := by decide +kernel
theorem dX6_read_60 : decode cX6_read 60 = .ok (.if_icmp .ne 31, 3) := by decide +kernel
theorem dX6_read_63 : decode cX6_read 63 = .ok (.aload_n 0, 1) := by decide +kernel
theorem dX6_read_64 : decode cX6_read 64 = .ok (.iload_n 2, 1) := by decide +kernel
theorem dX6_read_65 : decode cX6_read 65 = .ok (.invokevirtual 37, 3) := by decide +kernel
theorem dX6_read_68 : decode cX6_read 68 = .ok (.ifCond .eq 23, 3) := by decide +kernel
theorem dX6_read_71 : decode cX6_read 71 = .ok (.aload_n 0, 1) := by decide +kernel
theorem dX6_read_72 : decode cX6_read 72 = .ok (.iload_n 2, 1) := by decide +kernel
theorem dX6_read_73 : decode cX6_read 73 = .ok (.putfield 22, 3) := by decide +kernel
theorem dX6_read_76 : decode cX6_read 76 = .ok (.aload_n 0, 1) := by decide +kernel
theorem dX6_read_77 : decode cX6_read 77 = .ok (.dup, 1) := by decide +kernel
theorem dX6_read_78 : decode cX6_read 78 = .ok (.getfield 19, 3) := by decide +kernel
theorem dX6_read_81 : decode cX6_read 81 = .ok (.iconst 1, 1) := by decide +kernel
theorem dX6_read_82 : decode cX6_read 82 = .ok (.iadd, 1) := by decide +kernel
theorem dX6_read_83 : decode cX6_read 83 = .ok (.putfield 19, 3) := by decide +kernel
theorem dX6_read_86 : decode cX6_read 86 = .ok (.iconst 0, 1) := by decide +kernel
theorem dX6_read_87 : decode cX6_read 87 = .ok (.istore_n 2, 1) := by decide +kernel
theorem dX6_read_88 : decode cX6_read 88 = .ok (.goto 43, 3) := by decide +kernel
theorem dX6_read_91 : decode cX6_read 91 = .ok (.iload 5, 2) := by decide +kernel
theorem dX6_read_93 : decode cX6_read 93 = .ok (.bipush (-2), 2) := by decide +kernel
theorem dX6_read_95 : decode cX6_read 95 = .ok (.if_icmp .eq 34, 3) := by decide +kernel
theorem dX6_read_98 : decode cX6_read 98 = .ok (.aload_n 0, 1) := by decide +kernel
theorem dX6_read_99 : decode cX6_read 99 = .ok (.iload_n 2, 1) := by decide +kernel
theorem dX6_read_100 : decode cX6_read 100 = .ok (.invokevirtual 41, 3) := by decide +kernel
theorem dX6_read_103 : decode cX6_read 103 = .ok (.ifCond .eq 26, 3) := by decide +kernel
theorem dX6_read_106 : decode cX6_read 106 = .ok (.aload_n 0, 1) := by decide +kernel
theorem dX6_read_107 : decode cX6_read 107 = .ok (.aload_n 0, 1) := by decide +kernel
theorem dX6_read_108 : decode cX6_read 108 = .ok (.getfield 25, 3) := by decide +kernel
theorem dX6_read_111 : decode cX6_read 111 = .ok (.iload_n 1, 1) := by decide +kernel
theorem dX6_read_112 : decode cX6_read 112 = .ok (.iload 5, 2) := by decide +kernel
theorem dX6_read_114 : decode cX6_read 114 = .ok (.invokestatic 44, 3) := by decide +kernel
theorem dX6_read_117 : decode cX6_read 117 = .ok (.putfield 25, 3) := by decide +kernel
theorem dX6_read_120 : decode cX6_read 120 = .ok (.iinc 1 1, 3) := by decide +kernel
theorem dX6_read_123 : decode cX6_read 123 = .ok (.iinc 2 1, 3) := by decide +kernel
theorem dX6_read_126 : decode cX6_read 126 = .ok (.goto 5, 3) := by decide +kernel
theorem dX6_read_129 : decode cX6_read 129 = .ok (.iload_n 3, 1) := by decide +kernel
theorem dX6_read_130 : decode cX6_read 130 = .ok (.ireturn, 1) := by decide +kernel
theorem dX6_read_131 : decode cX6_read 131 = .ok (.iinc 3 1, 3) := by decide +kernel
theorem dX6_read_134 : decode cX6_read 134 = .ok (.goto (-113), 3) := by decide +kernel
theorem dX6_read_137 : decode cX6_read 137 = .ok (.aload_n 0, 1) := by decide +kernel
theorem dX6_read_138 : decode cX6_read 138 = .ok (.getfield 19, 3) := by decide +kernel
theorem dX6_read_141 : decode cX6_read 141 = .ok (.ifCond .eq 7, 3) := by decide +kernel
theorem dX6_read_144 : decode cX6_read 144 = .ok (.iload_n 2, 1) := by decide +kernel
theorem dX6_read_145 : decode cX6_read 145 = .ok (.ifCond .le 10, 3) := by decide +kernel
theorem dX6_read_148 : decode cX6_read 148 = .ok (.aload_n 0, 1) := by decide +kernel
theorem dX6_read_149 : decode cX6_read 149 = .ok (.getfield 15, 3) := by decide +kernel
theorem dX6_read_152 : decode cX6_read 152 = .ok (.goto 4, 3) := by decide +kernel
theorem dX6_read_155 : decode cX6_read 155 = .ok (.iconst (-1), 1) := by decide +kernel
theorem dX6_read_156 : decode cX6_read 156 = .ok (.ireturn, 1) := by decide +kernel
theorem dX6_endsRow_0 : decode cX6_endsRow 0 = .ok (.iload_n 1, 1) := by decide +kernel
theorem dX6_endsRow_1 : decode cX6_endsRow 1 = .ok (.ifCond .le 22, 3) := by decide +kernel
theorem dX6_endsRow_4 : decode cX6_endsRow 4 = .ok (.aload_n 0, 1) := by decide +kernel
theorem dX6_endsRow_5 : decode cX6_endsRow 5 = .ok (.getfield 19, 3) := by decide +kernel
theorem dX6_endsRow_8 : decode cX6_endsRow 8 = .ok (.ifCond .eq 11, 3) := by decide +kernel
theorem dX6_endsRow_11 : decode cX6_endsRow 11 = .ok (.iload_n 1, 1) := by decide +kernel
theorem dX6_endsRow_12 : decode cX6_endsRow 12 = .ok (.aload_n 0, 1) := by decide +kernel
theorem dX6_endsRow_13 : decode cX6_endsRow 13 = .ok (.getfield 22, 3) := by decide +kernel
theorem dX6_endsRow_16 : decode cX6_endsRow 16 = .ok (.if_icmp .ne 7, 3) := by decide +kernel
theorem dX6_endsRow_19 : decode cX6_endsRow 19 = .ok (.iconst 1, 1) := by decide +kernel
theorem dX6_endsRow_20 : decode cX6_endsRow 20 = .ok (.goto 4, 3) := by decide +kernel
theorem dX6_endsRow_23 : decode cX6_endsRow 23 = .ok (.iconst 0, 1) := by decide +kernel
theorem dX6_endsRow_24 : decode cX6_endsRow 24 = .ok (.ireturn, 1) := by decide +kernel
theorem dX6_fitsRow_0 : decode cX6_fitsRow 0 = .ok (.aload_n 0, 1) := by decide +kernel
theorem dX6_fitsRow_1 : decode cX6_fitsRow 1 = .ok (.getfield 19, 3) := by decide +kernel
theorem dX6_fitsRow_4 : decode cX6_fitsRow 4 = .ok (.iconst 4, 1) := by decide +kernel
theorem dX6_fitsRow_5 : decode cX6_fitsRow 5 = .ok (.if_icmp .ge 26, 3) := by decide +kernel
theorem dX6_fitsRow_8 : decode cX6_fitsRow 8 = .ok (.iload_n 1, 1) := by decide +kernel
theorem dX6_fitsRow_9 : decode cX6_fitsRow 9 = .ok (.aload_n 0, 1) := by decide +kernel
theorem dX6_fitsRow_10 : decode cX6_fitsRow 10 = .ok (.getfield 19, 3) := by decide +kernel
theorem dX6_fitsRow_13 : decode cX6_fitsRow 13 = .ok (.ifCond .ne 7, 3) := by decide +kernel
theorem dX6_fitsRow_16 : decode cX6_fitsRow 16 = .ok (.iconst 4, 1) := by decide +kernel
theorem dX6_fitsRow_17 : decode cX6_fitsRow 17 = .ok (.goto 7, 3) := by decide +kernel
theorem dX6_fitsRow_20 : decode cX6_fitsRow 20 = .ok (.aload_n 0, 1) := by decide +kernel
theorem dX6_fitsRow_21 : decode cX6_fitsRow 21 = .ok (.getfield 22, 3) := by decide +kernel
theorem dX6_fitsRow_24 : decode cX6_fitsRow 24 = .ok (.if_icmp .ge 7, 3) := by decide +kernel
theorem dX6_fitsRow_27 : decode cX6_fitsRow 27 = .ok (.iconst 1, 1) := by decide +kernel
theorem dX6_fitsRow_28 : decode cX6_fitsRow 28 = .ok (.goto 4, 3) := by decide +kernel
theorem dX6_fitsRow_31 : decode cX6_fitsRow 31 = .ok (.iconst 0, 1) := by decide +kernel
theorem dX6_fitsRow_32 : decode cX6_fitsRow 32 = .ok (.ireturn, 1) := by decide +kernel
theorem dX6_numberOfSign_0 : decode cX6_numberOfSign 0 = .ok (.iload_n 0, 1) := by decide +kernel
theorem dX6_numberOfSign_1 : decode cX6_numberOfSign 1 = .ok (.bipush 46, 2) := by decide +kernel
theorem dX6_numberOfSign_3 : decode cX6_numberOfSign 3 = .ok (.if_icmp .ne 5, 3) := by decide +kernel
theorem dX6_numberOfSign_6 : decode cX6_numberOfSign 6 = .ok (.iconst (-1), 1) := by decide +kernel
theorem dX6_numberOfSign_7 : decode cX6_numberOfSign 7 = .ok (.ireturn, 1) := by decide +kernel
theorem dX6_numberOfSign_8 : decode cX6_numberOfSign 8 = .ok (.iload_n 0, 1) := by decide +kernel
theorem dX6_numberOfSign_9 : decode cX6_numberOfSign 9 = .ok (.bipush 48, 2) := by decide +kernel
theorem dX6_numberOfSign_11 : decode cX6_numberOfSign 11 = .ok (.if_icmp .lt 16, 3) := by decide +kernel
theorem dX6_numberOfSign_14 : decode cX6_numberOfSign 14 = .ok (.iload_n 0, 1) := by decide +kernel
theorem dX6_numberOfSign_15 : decode cX6_numberOfSign 15 = .ok (.bipush 52, 2) := by decide +kernel
theorem dX6_numberOfSign_17 : decode cX6_numberOfSign 17 = .ok (.if_icmp .gt 10, 3) := by decide +kernel
theorem dX6_numberOfSign_20 : decode cX6_numberOfSign 20 = .ok (.iload_n 0, 1) := by decide +kernel
theorem dX6_numberOfSign_21 : decode cX6_numberOfSign 21 = .ok (.bipush 48, 2) := by decide +kernel
theorem dX6_numberOfSign_23 : decode cX6_numberOfSign 23 = .ok (.isub, 1) := by decide +kernel
theorem dX6_numberOfSign_24 : decode cX6_numberOfSign 24 = .ok (.goto 5, 3) := by decide +kernel
theorem dX6_numberOfSign_27 : decode cX6_numberOfSign 27 = .ok (.bipush (-2), 2) := by decide +kernel
theorem dX6_numberOfSign_29 : decode cX6_numberOfSign 29 = .ok (.ireturn, 1) := by decide +kernel
theorem dX7_init_0 : decode cX7_init 0 = .ok (.aload_n 0, 1) := by decide +kernel
theorem dX7_init_1 : decode cX7_init 1 = .ok (.invokespecial 1, 3) := by decide +kernel
theorem dX7_init_4 : decode cX7_init 4 = .ok (.aload_n 0, 1) := by decide +kernel
theorem dX7_init_5 : decode cX7_init 5 = .ok (.new 7, 3) := by decide +kernel
theorem dX7_init_8 : decode cX7_init 8 = .ok (.dup, 1) := by decide +kernel
theorem dX7_init_9 : decode cX7_init 9 = .ok (.invokespecial 9, 3) := by decide +kernel
theorem dX7_init_12 : decode cX7_init 12 = .ok (.putfield 10, 3) := by decide +kernel
theorem dX7_init_15 : decode cX7_init 15 = .ok (.aload_n 0, 1) := by decide +kernel
theorem dX7_init_16 : decode cX7_init 16 = .ok (.new 16, 3) := by decide +kernel
theorem dX7_init_19 : decode cX7_init 19 = .ok (.dup, 1) := by decide +kernel
theorem dX7_init_20 : decode cX7_init 20 = .ok (.invokespecial 18, 3) := by decide +kernel
theorem dX7_init_23 : decode cX7_init 23 = .ok (.putfield 19, 3) := by decide +kernel
theorem dX7_init_26 : decode cX7_init 26 = .ok (.aload_n 0, 1) := by decide +kernel
theorem dX7_init_27 : decode cX7_init 27 = .ok (.new 23, 3) := by decide +kernel
theorem dX7_init_30 : decode cX7_init 30 = .ok (.dup, 1) := by decide +kernel
theorem dX7_init_31 : decode cX7_init 31 = .ok (.invokespecial 25, 3) := by decide +kernel
theorem dX7_init_34 : decode cX7_init 34 = .ok (.putfield 26, 3) := by decide +kernel
theorem dX7_init_37 : decode cX7_init 37 = .ok (.aload_n 0, 1) := by decide +kernel
theorem dX7_init_38 : decode cX7_init 38 = .ok (.new 30, 3) := by decide +kernel
theorem dX7_init_41 : decode cX7_init 41 = .ok (.dup, 1) := by decide +kernel
theorem dX7_init_42 : decode cX7_init 42 = .ok (.invokespecial 32, 3) := by decide +kernel
theorem dX7_init_45 : decode cX7_init 45 = .ok (.putfield 33, 3) := by decide +kernel
theorem dX7_init_48 : decode cX7_init 48 = .ok (.aload_n 0, 1) := by decide +kernel
theorem dX7_init_49 : decode cX7_init 49 = .ok (.new 37, 3) := by decide +kernel
theorem dX7_init_52 : decode cX7_init 52 = .ok (.dup, 1) := by decide +kernel
theorem dX7_init_53 : decode cX7_init 53 = .ok (.iconst 2, 1) := by decide +kernel
theorem dX7_init_54 : decode cX7_init 54 = .ok (.invokespecial 39, 3) := by decide +kernel
theorem dX7_init_57 : decode cX7_init 57 = .ok (.putfield 42, 3) := by decide +kernel
theorem dX7_init_60 : decode cX7_init 60 = .ok (.aload_n 0, 1) := by decide +kernel
theorem dX7_init_61 : decode cX7_init 61 = .ok (.new 46, 3) := by decide +kernel
theorem dX7_init_64 : decode cX7_init 64 = .ok (.dup, 1) := by decide +kernel
theorem dX7_init_65 : decode cX7_init 65 = .ok (.aload_n 0, 1) := by decide +kernel
theorem dX7_init_66 : decode cX7_init 66 = .ok (.getfield 19, 3) := by decide +kernel
theorem dX7_init_69 : decode cX7_init 69 = .ok (.aload_n 0, 1) := by decide +kernel
theorem dX7_init_70 : decode cX7_init 70 = .ok (.getfield 26, 3) := by decide +kernel
theorem dX7_init_73 : decode cX7_init 73 = .ok (.invokespecial 48, 3) := by decide +kernel
theorem dX7_init_76 : decode cX7_init 76 = .ok (.putfield 51, 3) := by decide +kernel
theorem dX7_init_79 : decode cX7_init 79 = .ok (.aload_n 0, 1) := by decide +kernel
theorem dX7_init_80 : decode cX7_init 80 = .ok (.new 55, 3) := by decide +kernel
theorem dX7_init_83 : decode cX7_init 83 = .ok (.dup, 1) := by decide +kernel
theorem dX7_init_84 : decode cX7_init 84 = .ok (.aload_n 0, 1) := by decide +kernel
theorem dX7_init_85 : decode cX7_init 85 = .ok (.getfield 19, 3) := by decide +kernel
theorem dX7_init_88 : decode cX7_init 88 = .ok (.sipush 10000, 3) := by decide +kernel
theorem dX7_init_91 : decode cX7_init 91 = .ok (.invokespecial 57, 3) := by decide +kernel
theorem dX7_init_94 : decode cX7_init 94 = .ok (.putfield 60, 3) := by decide +kernel
theorem dX7_init_97 : decode cX7_init 97 = .ok (.aload_n 0, 1) := by decide +kernel
theorem dX7_init_98 : decode cX7_init 98 = .ok (.new 55, 3) := by decide +kernel
theorem dX7_init_101 : decode cX7_init 101 = .ok (.dup, 1) := by decide +kernel
theorem dX7_init_102 : decode cX7_init 102 = .ok (.aload_n 0, 1) := by decide +kernel
theorem dX7_init_103 : decode cX7_init 103 = .ok (.getfield 19, 3) := by decide +kernel
theorem dX7_init_106 : decode cX7_init 106 = .ok (.iconst 2, 1) := by decide +kernel
theorem dX7_init_107 : decode cX7_init 107 = .ok (.invokespecial 57, 3) := by decide +kernel
theorem dX7_init_110 : decode cX7_init 110 = .ok (.putfield 64, 3) := by decide +kernel
theorem dX7_init_113 : decode cX7_init 113 = .ok (.aload_n 0, 1) := by decide +kernel
theorem dX7_init_114 : decode cX7_init 114 = .ok (.iconst 0, 1) := by decide +kernel
theorem dX7_init_115 : decode cX7_init 115 = .ok (.putfield 67, 3) := by decide +kernel
theorem dX7_init_118 : decode cX7_init 118 = .ok (.aload_n 0, 1) := by decide +kernel
theorem dX7_init_119 : decode cX7_init 119 = .ok (.getfield 19, 3) := by decide +kernel
theorem dX7_init_122 : decode cX7_init 122 = .ok (.iconst 2, 1) := by decide +kernel
theorem dX7_init_123 : decode cX7_init 123 = .ok (.iconst 2, 1) := by decide +kernel
theorem dX7_init_124 : decode cX7_init 124 = .ok (.invokevirtual 71, 3) := by decide +kernel
theorem dX7_init_127 : decode cX7_init 127 = .ok (.return_, 1) := by decide +kernel
theorem dX7_type_0 : decode cX7_type 0 = .ok (.iload_n 1, 1) := by decide +kernel
theorem dX7_type_1 : decode cX7_type 1 = .ok (.ifCond .lt 10, 3) := by decide +kernel
theorem dX7_type_4 : decode cX7_type 4 = .ok (.iload_n 1, 1) := by decide +kernel
theorem dX7_type_5 : decode cX7_type 5 = .ok (.sipush 255, 3) := by decide +kernel
theorem dX7_type_8 : decode cX7_type 8 = .ok (.if_icmp .le 5, 3) := by decide +kernel
theorem dX7_type_11 : decode cX7_type 11 = .ok (.iconst (-1), 1) := by decide +kernel
theorem dX7_type_12 : decode cX7_type 12 = .ok (.ireturn, 1) := by decide +kernel
theorem dX7_type_13 : decode cX7_type 13 = .ok (.aload_n 0, 1) := by decide +kernel
theorem dX7_type_14 : decode cX7_type 14 = .ok (.getfield 10, 3) := by decide +kernel
theorem dX7_type_17 : decode cX7_type 17 = .ok (.iload_n 1, 1) := by decide +kernel
theorem dX7_type_18 : decode cX7_type 18 = .ok (.invokevirtual 75, 3) := by decide +kernel
theorem dX7_type_21 : decode cX7_type 21 = .ok (.ifCond .eq 13, 3) := by decide +kernel
theorem dX7_type_24 : decode cX7_type 24 = .ok (.aload_n 0, 1) := by decide +kernel
theorem dX7_type_25 : decode cX7_type 25 = .ok (.getfield 10, 3) := by decide +kernel
theorem dX7_type_28 : decode cX7_type 28 = .ok (.getfield 79, 3) := by decide +kernel
theorem dX7_type_31 : decode cX7_type 31 = .ok (.goto 5, 3) := by decide +kernel
theorem dX7_type_34 : decode cX7_type 34 = .ok (.bipush (-3), 2) := by decide +kernel
theorem dX7_type_36 : decode cX7_type 36 = .ok (.ireturn, 1) := by decide +kernel
theorem dX7_clear_0 : decode cX7_clear 0 = .ok (.aload_n 0, 1) := by decide +kernel
theorem dX7_clear_1 : decode cX7_clear 1 = .ok (.getfield 10, 3) := by decide +kernel
theorem dX7_clear_4 : decode cX7_clear 4 = .ok (.getfield 79, 3) := by decide +kernel
theorem dX7_clear_7 : decode cX7_clear 7 = .ok (.istore_n 1, 1) := by decide +kernel
theorem dX7_clear_8 : decode cX7_clear 8 = .ok (.aload_n 0, 1) := by decide +kernel
theorem dX7_clear_9 : decode cX7_clear 9 = .ok (.getfield 10, 3) := by decide +kernel
theorem dX7_clear_12 : decode cX7_clear 12 = .ok (.iconst 0, 1) := by decide +kernel
theorem dX7_clear_13 : decode cX7_clear 13 = .ok (.putfield 79, 3) := by decide +kernel
theorem dX7_clear_16 : decode cX7_clear 16 = .ok (.iload_n 1, 1) := by decide +kernel
theorem dX7_clear_17 : decode cX7_clear 17 = .ok (.ireturn, 1) := by decide +kernel
theorem dX7_grid_0 : decode cX7_grid 0 = .ok (.aload_n 0, 1) := by decide +kernel
theorem dX7_grid_1 : decode cX7_grid 1 = .ok (.getfield 10, 3) := by decide +kernel
theorem dX7_grid_4 : decode cX7_grid 4 = .ok (.invokevirtual 83, 3) := by decide +kernel
theorem dX7_grid_7 : decode cX7_grid 7 = .ok (.istore_n 1, 1) := by decide +kernel
theorem dX7_grid_8 : decode cX7_grid 8 = .ok (.iload_n 1, 1) := by decide +kernel
theorem dX7_grid_9 : decode cX7_grid 9 = .ok (.iconst (-1), 1) := by decide +kernel
theorem dX7_grid_10 : decode cX7_grid 10 = .ok (.if_icmp .eq 8, 3) := by decide +kernel
theorem dX7_grid_13 : decode cX7_grid 13 = .ok (.bipush (-10), 2) := by decide +kernel
theorem dX7_grid_15 : decode cX7_grid 15 = .ok (.iload_n 1, 1) := by decide +kernel
theorem dX7_grid_16 : decode cX7_grid 16 = .ok (.isub, 1) := by decide +kernel
theorem dX7_grid_17 : decode cX7_grid 17 = .ok (.ireturn, 1) := by decide +kernel
theorem dX7_grid_18 : decode cX7_grid 18 = .ok (.aload_n 0, 1) := by decide +kernel
theorem dX7_grid_19 : decode cX7_grid 19 = .ok (.getfield 19, 3) := by decide +kernel
theorem dX7_grid_22 : decode cX7_grid 22 = .ok (.aload_n 0, 1) := by decide +kernel
theorem dX7_grid_23 : decode cX7_grid 23 = .ok (.getfield 10, 3) := by decide +kernel
theorem dX7_grid_26 : decode cX7_grid 26 = .ok (.getfield 87, 3) := by decide +kernel
theorem dX7_grid_29 : decode cX7_grid 29 = .ok (.aload_n 0, 1) := by decide +kernel
theorem dX7_grid_30 : decode cX7_grid 30 = .ok (.getfield 10, 3) := by decide +kernel
theorem dX7_grid_33 : decode cX7_grid 33 = .ok (.getfield 90, 3) := by decide +kernel
theorem dX7_grid_36 : decode cX7_grid 36 = .ok (.invokevirtual 71, 3) := by decide +kernel
theorem dX7_grid_39 : decode cX7_grid 39 = .ok (.aload_n 0, 1) := by decide +kernel
theorem dX7_grid_40 : decode cX7_grid 40 = .ok (.getfield 26, 3) := by decide +kernel
theorem dX7_grid_43 : decode cX7_grid 43 = .ok (.lconst 0, 1) := by decide +kernel
theorem dX7_grid_44 : decode cX7_grid 44 = .ok (.lconst 0, 1) := by decide +kernel
theorem dX7_grid_45 : decode cX7_grid 45 = .ok (.aload_n 0, 1) := by decide +kernel
theorem dX7_grid_46 : decode cX7_grid 46 = .ok (.getfield 10, 3) := by decide +kernel
theorem dX7_grid_49 : decode cX7_grid 49 = .ok (.getfield 93, 3) := by decide +kernel
theorem dX7_grid_52 : decode cX7_grid 52 = .ok (.invokevirtual 97, 3) := by decide +kernel
theorem dX7_grid_55 : decode cX7_grid 55 = .ok (.aload_n 0, 1) := by decide +kernel
theorem dX7_grid_56 : decode cX7_grid 56 = .ok (.getfield 33, 3) := by decide +kernel
theorem dX7_grid_59 : decode cX7_grid 59 = .ok (.invokevirtual 100, 3) := by decide +kernel
theorem dX7_grid_62 : decode cX7_grid 62 = .ok (.aload_n 0, 1) := by decide +kernel
theorem dX7_grid_63 : decode cX7_grid 63 = .ok (.getfield 42, 3) := by decide +kernel
theorem dX7_grid_66 : decode cX7_grid 66 = .ok (.invokevirtual 103, 3) := by decide +kernel
theorem dX7_grid_69 : decode cX7_grid 69 = .ok (.aload_n 0, 1) := by decide +kernel
theorem dX7_grid_70 : decode cX7_grid 70 = .ok (.getfield 10, 3) := by decide +kernel
theorem dX7_grid_73 : decode cX7_grid 73 = .ok (.iconst 0, 1) := by decide +kernel
theorem dX7_grid_74 : decode cX7_grid 74 = .ok (.putfield 79, 3) := by decide +kernel
theorem dX7_grid_77 : decode cX7_grid 77 = .ok (.aload_n 0, 1) := by decide +kernel
theorem dX7_grid_78 : decode cX7_grid 78 = .ok (.iconst 0, 1) := by decide +kernel
theorem dX7_grid_79 : decode cX7_grid 79 = .ok (.putfield 67, 3) := by decide +kernel
theorem dX7_grid_82 : decode cX7_grid 82 = .ok (.aload_n 0, 1) := by decide +kernel
theorem dX7_grid_83 : decode cX7_grid 83 = .ok (.getfield 19, 3) := by decide +kernel
theorem dX7_grid_86 : decode cX7_grid 86 = .ok (.getfield 104, 3) := by decide +kernel
theorem dX7_grid_89 : decode cX7_grid 89 = .ok (.ireturn, 1) := by decide +kernel
theorem dX7_number_0 : decode cX7_number 0 = .ok (.aload_n 0, 1) := by decide +kernel
theorem dX7_number_1 : decode cX7_number 1 = .ok (.getfield 19, 3) := by decide +kernel
theorem dX7_number_4 : decode cX7_number 4 = .ok (.iload_n 1, 1) := by decide +kernel
theorem dX7_number_5 : decode cX7_number 5 = .ok (.invokevirtual 107, 3) := by decide +kernel
theorem dX7_number_8 : decode cX7_number 8 = .ok (.ifCond .ne 5, 3) := by decide +kernel
theorem dX7_number_11 : decode cX7_number 11 = .ok (.iconst (-1), 1) := by decide +kernel
theorem dX7_number_12 : decode cX7_number 12 = .ok (.ireturn, 1) := by decide +kernel
theorem dX7_number_13 : decode cX7_number 13 = .ok (.aload_n 0, 1) := by decide +kernel
theorem dX7_number_14 : decode cX7_number 14 = .ok (.getfield 26, 3) := by decide +kernel
theorem dX7_number_17 : decode cX7_number 17 = .ok (.iload_n 1, 1) := by decide +kernel
theorem dX7_number_18 : decode cX7_number 18 = .ok (.invokevirtual 110, 3) := by decide +kernel
theorem dX7_number_21 : decode cX7_number 21 = .ok (.istore_n 2, 1) := by decide +kernel
theorem dX7_number_22 : decode cX7_number 22 = .ok (.iload_n 2, 1) := by decide +kernel
theorem dX7_number_23 : decode cX7_number 23 = .ok (.ifCond .ge 8, 3) := by decide +kernel
theorem dX7_number_26 : decode cX7_number 26 = .ok (.bipush (-9), 2) := by decide +kernel
theorem dX7_number_28 : decode cX7_number 28 = .ok (.goto 4, 3) := by decide +kernel
theorem dX7_number_31 : decode cX7_number 31 = .ok (.iload_n 2, 1) := by decide +kernel
theorem dX7_number_32 : decode cX7_number 32 = .ok (.ireturn, 1) := by decide +kernel
theorem dX7_side_0 : decode cX7_side 0 = .ok (.aload_n 0, 1) := by decide +kernel
theorem dX7_side_1 : decode cX7_side 1 = .ok (.getfield 19, 3) := by decide +kernel
theorem dX7_side_4 : decode cX7_side 4 = .ok (.iload_n 1, 1) := by decide +kernel
theorem dX7_side_5 : decode cX7_side 5 = .ok (.invokevirtual 114, 3) := by decide +kernel
theorem dX7_side_8 : decode cX7_side 8 = .ok (.ifCond .eq 14, 3) := by decide +kernel
theorem dX7_side_11 : decode cX7_side 11 = .ok (.aload_n 0, 1) := by decide +kernel
theorem dX7_side_12 : decode cX7_side 12 = .ok (.getfield 26, 3) := by decide +kernel
theorem dX7_side_15 : decode cX7_side 15 = .ok (.iload_n 1, 1) := by decide +kernel
theorem dX7_side_16 : decode cX7_side 16 = .ok (.invokevirtual 117, 3) := by decide +kernel
theorem dX7_side_19 : decode cX7_side 19 = .ok (.goto 4, 3) := by decide +kernel
theorem dX7_side_22 : decode cX7_side 22 = .ok (.iconst (-1), 1) := by decide +kernel
theorem dX7_side_23 : decode cX7_side 23 = .ok (.ireturn, 1) := by decide +kernel
theorem dX7_sideOf_0 : decode cX7_sideOf 0 = .ok (.iload_n 3, 1) := by decide +kernel
theorem dX7_sideOf_1 : decode cX7_sideOf 1 = .ok (.ifCond .lt 8, 3) := by decide +kernel
theorem dX7_sideOf_4 : decode cX7_sideOf 4 = .ok (.iload_n 3, 1) := by decide +kernel
theorem dX7_sideOf_5 : decode cX7_sideOf 5 = .ok (.iconst 3, 1) := by decide +kernel
theorem dX7_sideOf_6 : decode cX7_sideOf 6 = .ok (.if_icmp .le 5, 3) := by decide +kernel
theorem dX7_sideOf_9 : decode cX7_sideOf 9 = .ok (.iconst (-1), 1) := by decide +kernel
theorem dX7_sideOf_10 : decode cX7_sideOf 10 = .ok (.ireturn, 1) := by decide +kernel
theorem dX7_sideOf_11 : decode cX7_sideOf 11 = .ok (.iload_n 1, 1) := by decide +kernel
theorem dX7_sideOf_12 : decode cX7_sideOf 12 = .ok (.ifCond .ne 28, 3) := by decide +kernel
theorem dX7_sideOf_15 : decode cX7_sideOf 15 = .ok (.aload_n 0, 1) := by decide +kernel
theorem dX7_sideOf_16 : decode cX7_sideOf 16 = .ok (.getfield 19, 3) := by decide +kernel
theorem dX7_sideOf_19 : decode cX7_sideOf 19 = .ok (.iload_n 2, 1) := by decide +kernel
theorem dX7_sideOf_20 : decode cX7_sideOf 20 = .ok (.invokevirtual 107, 3) := by decide +kernel
theorem dX7_sideOf_23 : decode cX7_sideOf 23 = .ok (.ifCond .eq 15, 3) := by decide +kernel
theorem dX7_sideOf_26 : decode cX7_sideOf 26 = .ok (.aload_n 0, 1) := by decide +kernel
theorem dX7_sideOf_27 : decode cX7_sideOf 27 = .ok (.getfield 19, 3) := by decide +kernel
theorem dX7_sideOf_30 : decode cX7_sideOf 30 = .ok (.iload_n 2, 1) := by decide +kernel
theorem dX7_sideOf_31 : decode cX7_sideOf 31 = .ok (.iload_n 3, 1) := by decide +kernel
theorem dX7_sideOf_32 : decode cX7_sideOf 32 = .ok (.invokevirtual 120, 3) := by decide +kernel
theorem dX7_sideOf_35 : decode cX7_sideOf 35 = .ok (.goto 4, 3) := by decide +kernel
theorem dX7_sideOf_38 : decode cX7_sideOf 38 = .ok (.iconst (-1), 1) := by decide +kernel
theorem dX7_sideOf_39 : decode cX7_sideOf 39 = .ok (.ireturn, 1) := by decide +kernel
theorem dX7_sideOf_40 : decode cX7_sideOf 40 = .ok (.iload_n 1, 1) := by decide +kernel
theorem dX7_sideOf_41 : decode cX7_sideOf 41 = .ok (.iconst 1, 1) := by decide +kernel
theorem dX7_sideOf_42 : decode cX7_sideOf 42 = .ok (.if_icmp .ne 28, 3) := by decide +kernel
theorem dX7_sideOf_45 : decode cX7_sideOf 45 = .ok (.aload_n 0, 1) := by decide +kernel
theorem dX7_sideOf_46 : decode cX7_sideOf 46 = .ok (.getfield 19, 3) := by decide +kernel
theorem dX7_sideOf_49 : decode cX7_sideOf 49 = .ok (.iload_n 2, 1) := by decide +kernel
theorem dX7_sideOf_50 : decode cX7_sideOf 50 = .ok (.invokevirtual 124, 3) := by decide +kernel
theorem dX7_sideOf_53 : decode cX7_sideOf 53 = .ok (.ifCond .eq 15, 3) := by decide +kernel
theorem dX7_sideOf_56 : decode cX7_sideOf 56 = .ok (.aload_n 0, 1) := by decide +kernel
theorem dX7_sideOf_57 : decode cX7_sideOf 57 = .ok (.getfield 19, 3) := by decide +kernel
theorem dX7_sideOf_60 : decode cX7_sideOf 60 = .ok (.iload_n 2, 1) := by decide +kernel
theorem dX7_sideOf_61 : decode cX7_sideOf 61 = .ok (.iload_n 3, 1) := by decide +kernel
theorem dX7_sideOf_62 : decode cX7_sideOf 62 = .ok (.invokevirtual 127, 3) := by decide +kernel
theorem dX7_sideOf_65 : decode cX7_sideOf 65 = .ok (.goto 4, 3) := by decide +kernel
theorem dX7_sideOf_68 : decode cX7_sideOf 68 = .ok (.iconst (-1), 1) := by decide +kernel
theorem dX7_sideOf_69 : decode cX7_sideOf 69 = .ok (.ireturn, 1) := by decide +kernel
theorem dX7_sideOf_70 : decode cX7_sideOf 70 = .ok (.iconst (-1), 1) := by decide +kernel
theorem dX7_sideOf_71 : decode cX7_sideOf 71 = .ok (.ireturn, 1) := by decide +kernel
theorem dX7_marks_0 : decode cX7_marks 0 = .ok (.aload_n 0, 1) := by decide +kernel
theorem dX7_marks_1 : decode cX7_marks 1 = .ok (.getfield 19, 3) := by decide +kernel
theorem dX7_marks_4 : decode cX7_marks 4 = .ok (.iload_n 1, 1) := by decide +kernel
theorem dX7_marks_5 : decode cX7_marks 5 = .ok (.invokevirtual 114, 3) := by decide +kernel
theorem dX7_marks_8 : decode cX7_marks 8 = .ok (.ifCond .eq 12, 3) := by decide +kernel
theorem dX7_marks_11 : decode cX7_marks 11 = .ok (.iload_n 2, 1) := by decide +kernel
theorem dX7_marks_12 : decode cX7_marks 12 = .ok (.ifCond .lt 8, 3) := by decide +kernel
theorem dX7_marks_15 : decode cX7_marks 15 = .ok (.iload_n 2, 1) := by decide +kernel
theorem dX7_marks_16 : decode cX7_marks 16 = .ok (.iconst 2, 1) := by decide +kernel
theorem dX7_marks_17 : decode cX7_marks 17 = .ok (.if_icmp .le 5, 3) := by decide +kernel
theorem dX7_marks_20 : decode cX7_marks 20 = .ok (.iconst (-1), 1) := by decide +kernel
theorem dX7_marks_21 : decode cX7_marks 21 = .ok (.ireturn, 1) := by decide +kernel
theorem dX7_marks_22 : decode cX7_marks 22 = .ok (.aload_n 0, 1) := by decide +kernel
theorem dX7_marks_23 : decode cX7_marks 23 = .ok (.getfield 26, 3) := by decide +kernel
theorem dX7_marks_26 : decode cX7_marks 26 = .ok (.iload_n 1, 1) := by decide +kernel
theorem dX7_marks_27 : decode cX7_marks 27 = .ok (.invokevirtual 117, 3) := by decide +kernel
theorem dX7_marks_30 : decode cX7_marks 30 = .ok (.istore_n 3, 1) := by decide +kernel
theorem dX7_marks_31 : decode cX7_marks 31 = .ok (.iload_n 3, 1) := by decide +kernel
theorem dX7_marks_32 : decode cX7_marks 32 = .ok (.iload_n 2, 1) := by decide +kernel
theorem dX7_marks_33 : decode cX7_marks 33 = .ok (.if_icmp .ne 6, 3) := by decide +kernel
theorem dX7_marks_36 : decode cX7_marks 36 = .ok (.bipush (-2), 2) := by decide +kernel
theorem dX7_marks_38 : decode cX7_marks 38 = .ok (.ireturn, 1) := by decide +kernel
theorem dX7_marks_39 : decode cX7_marks 39 = .ok (.aload_n 0, 1) := by decide +kernel
theorem dX7_marks_40 : decode cX7_marks 40 = .ok (.invokevirtual 130, 3) := by decide +kernel
theorem dX7_marks_43 : decode cX7_marks 43 = .ok (.aload_n 0, 1) := by decide +kernel
theorem dX7_marks_44 : decode cX7_marks 44 = .ok (.getfield 26, 3) := by decide +kernel
theorem dX7_marks_47 : decode cX7_marks 47 = .ok (.iload_n 1, 1) := by decide +kernel
theorem dX7_marks_48 : decode cX7_marks 48 = .ok (.iload_n 2, 1) := by decide +kernel
theorem dX7_marks_49 : decode cX7_marks 49 = .ok (.invokevirtual 133, 3) := by decide +kernel
theorem dX7_marks_52 : decode cX7_marks 52 = .ok (.iload_n 3, 1) := by decide +kernel
theorem dX7_marks_53 : decode cX7_marks 53 = .ok (.ireturn, 1) := by decide +kernel
theorem dX7_numbers_0 : decode cX7_numbers 0 = .ok (.aload_n 0, 1) := by decide +kernel
theorem dX7_numbers_1 : decode cX7_numbers 1 = .ok (.getfield 19, 3) := by decide +kernel
theorem dX7_numbers_4 : decode cX7_numbers 4 = .ok (.iload_n 1, 1) := by decide +kernel
theorem dX7_numbers_5 : decode cX7_numbers 5 = .ok (.invokevirtual 107, 3) := by decide +kernel
theorem dX7_numbers_8 : decode cX7_numbers 8 = .ok (.ifCond .eq 13, 3) := by decide +kernel
theorem dX7_numbers_11 : decode cX7_numbers 11 = .ok (.iload_n 2, 1) := by decide +kernel
theorem dX7_numbers_12 : decode cX7_numbers 12 = .ok (.iconst (-1), 1) := by decide +kernel
theorem dX7_numbers_13 : decode cX7_numbers 13 = .ok (.if_icmp .lt 8, 3) := by decide +kernel
theorem dX7_numbers_16 : decode cX7_numbers 16 = .ok (.iload_n 2, 1) := by decide +kernel
theorem dX7_numbers_17 : decode cX7_numbers 17 = .ok (.iconst 4, 1) := by decide +kernel
theorem dX7_numbers_18 : decode cX7_numbers 18 = .ok (.if_icmp .le 5, 3) := by decide +kernel
theorem dX7_numbers_21 : decode cX7_numbers 21 = .ok (.iconst (-1), 1) := by decide +kernel
theorem dX7_numbers_22 : decode cX7_numbers 22 = .ok (.ireturn, 1) := by decide +kernel
theorem dX7_numbers_23 : decode cX7_numbers 23 = .ok (.aload_n 0, 1) := by decide +kernel
theorem dX7_numbers_24 : decode cX7_numbers 24 = .ok (.getfield 26, 3) := by decide +kernel
theorem dX7_numbers_27 : decode cX7_numbers 27 = .ok (.iload_n 1, 1) := by decide +kernel
theorem dX7_numbers_28 : decode cX7_numbers 28 = .ok (.invokevirtual 110, 3) := by decide +kernel
theorem dX7_numbers_31 : decode cX7_numbers 31 = .ok (.iload_n 2, 1) := by decide +kernel
theorem dX7_numbers_32 : decode cX7_numbers 32 = .ok (.if_icmp .ne 6, 3) := by decide +kernel
theorem dX7_numbers_35 : decode cX7_numbers 35 = .ok (.bipush (-2), 2) := by decide +kernel
theorem dX7_numbers_37 : decode cX7_numbers 37 = .ok (.ireturn, 1) := by decide +kernel
theorem dX7_numbers_38 : decode cX7_numbers 38 = .ok (.aload_n 0, 1) := by decide +kernel
theorem dX7_numbers_39 : decode cX7_numbers 39 = .ok (.invokevirtual 130, 3) := by decide +kernel
theorem dX7_numbers_42 : decode cX7_numbers 42 = .ok (.aload_n 0, 1) := by decide +kernel
theorem dX7_numbers_43 : decode cX7_numbers 43 = .ok (.getfield 26, 3) := by decide +kernel
theorem dX7_numbers_46 : decode cX7_numbers 46 = .ok (.aload_n 0, 1) := by decide +kernel
theorem dX7_numbers_47 : decode cX7_numbers 47 = .ok (.getfield 26, 3) := by decide +kernel
theorem dX7_numbers_50 : decode cX7_numbers 50 = .ok (.getfield 136, 3) := by decide +kernel
theorem dX7_numbers_53 : decode cX7_numbers 53 = .ok (.iload_n 1, 1) := by decide +kernel
theorem dX7_numbers_54 : decode cX7_numbers 54 = .ok (.iload_n 2, 1) := by decide +kernel
theorem dX7_numbers_55 : decode cX7_numbers 55 = .ok (.invokestatic 139, 3) := by decide +kernel
theorem dX7_numbers_58 : decode cX7_numbers 58 = .ok (.putfield 136, 3) := by decide +kernel
theorem dX7_numbers_61 : decode cX7_numbers 61 = .ok (.iconst 1, 1) := by decide +kernel
theorem dX7_numbers_62 : decode cX7_numbers 62 = .ok (.ireturn, 1) := by decide +kernel
theorem dX7_step_0 : decode cX7_step 0 = .ok (.aload_n 0, 1) := by decide +kernel
theorem dX7_step_1 : decode cX7_step 1 = .ok (.getfield 51, 3) := by decide +kernel
theorem dX7_step_4 : decode cX7_step 4 = .ok (.invokevirtual 143, 3) := by decide +kernel
theorem dX7_step_7 : decode cX7_step 7 = .ok (.aload_n 0, 1) := by decide +kernel
theorem dX7_step_8 : decode cX7_step 8 = .ok (.getfield 51, 3) := by decide +kernel
theorem dX7_step_11 : decode cX7_step 11 = .ok (.getfield 146, 3) := by decide +kernel
theorem dX7_step_14 : decode cX7_step 14 = .ok (.ifCond .ne 6, 3) := by decide +kernel
theorem dX7_step_17 : decode cX7_step 17 = .ok (.bipush (-2), 2) := by decide +kernel
theorem dX7_step_19 : decode cX7_step 19 = .ok (.ireturn, 1) := by decide +kernel
theorem dX7_step_20 : decode cX7_step 20 = .ok (.aload_n 0, 1) := by decide +kernel
theorem dX7_step_21 : decode cX7_step 21 = .ok (.getfield 51, 3) := by decide +kernel
theorem dX7_step_24 : decode cX7_step 24 = .ok (.getfield 146, 3) := by decide +kernel
theorem dX7_step_27 : decode cX7_step 27 = .ok (.iconst 3, 1) := by decide +kernel
theorem dX7_step_28 : decode cX7_step 28 = .ok (.if_icmp .ne 6, 3) := by decide +kernel
theorem dX7_step_31 : decode cX7_step 31 = .ok (.bipush (-4), 2) := by decide +kernel
theorem dX7_step_33 : decode cX7_step 33 = .ok (.ireturn, 1) := by decide +kernel
theorem dX7_step_34 : decode cX7_step 34 = .ok (.aload_n 0, 1) := by decide +kernel
theorem dX7_step_35 : decode cX7_step 35 = .ok (.invokevirtual 130, 3) := by decide +kernel
theorem dX7_step_38 : decode cX7_step 38 = .ok (.aload_n 0, 1) := by decide +kernel
theorem dX7_step_39 : decode cX7_step 39 = .ok (.invokevirtual 149, 3) := by decide +kernel
theorem dX7_step_42 : decode cX7_step 42 = .ok (.ireturn, 1) := by decide +kernel
theorem dX7_spreads_0 : decode cX7_spreads 0 = .ok (.aload_n 0, 1) := by decide +kernel
theorem dX7_spreads_1 : decode cX7_spreads 1 = .ok (.invokevirtual 130, 3) := by decide +kernel
theorem dX7_spreads_4 : decode cX7_spreads 4 = .ok (.iconst 0, 1) := by decide +kernel
theorem dX7_spreads_5 : decode cX7_spreads 5 = .ok (.istore_n 1, 1) := by decide +kernel
theorem dX7_spreads_6 : decode cX7_spreads 6 = .ok (.iconst 0, 1) := by decide +kernel
theorem dX7_spreads_7 : decode cX7_spreads 7 = .ok (.istore_n 2, 1) := by decide +kernel
theorem dX7_spreads_8 : decode cX7_spreads 8 = .ok (.iload_n 2, 1) := by decide +kernel
theorem dX7_spreads_9 : decode cX7_spreads 9 = .ok (.bipush 40, 2) := by decide +kernel
theorem dX7_spreads_11 : decode cX7_spreads 11 = .ok (.if_icmp .gt 36, 3) := by decide +kernel
theorem dX7_spreads_14 : decode cX7_spreads 14 = .ok (.aload_n 0, 1) := by decide +kernel
theorem dX7_spreads_15 : decode cX7_spreads 15 = .ok (.getfield 51, 3) := by decide +kernel
theorem dX7_spreads_18 : decode cX7_spreads 18 = .ok (.invokevirtual 143, 3) := by decide +kernel
theorem dX7_spreads_21 : decode cX7_spreads 21 = .ok (.aload_n 0, 1) := by decide +kernel
theorem dX7_spreads_22 : decode cX7_spreads 22 = .ok (.getfield 51, 3) := by decide +kernel
theorem dX7_spreads_25 : decode cX7_spreads 25 = .ok (.invokevirtual 152, 3) := by decide +kernel
theorem dX7_spreads_28 : decode cX7_spreads 28 = .ok (.ifCond .ne 6, 3) := by decide +kernel
theorem dX7_spreads_31 : decode cX7_spreads 31 = .ok (.goto 16, 3) := by decide +kernel
theorem dX7_spreads_34 : decode cX7_spreads 34 = .ok (.iload_n 1, 1) := by decide +kernel
theorem dX7_spreads_35 : decode cX7_spreads 35 = .ok (.aload_n 0, 1) := by decide +kernel
theorem dX7_spreads_36 : decode cX7_spreads 36 = .ok (.invokevirtual 149, 3) := by decide +kernel
theorem dX7_spreads_39 : decode cX7_spreads 39 = .ok (.iadd, 1) := by decide +kernel
theorem dX7_spreads_40 : decode cX7_spreads 40 = .ok (.istore_n 1, 1) := by decide +kernel
theorem dX7_spreads_41 : decode cX7_spreads 41 = .ok (.iinc 2 1, 3) := by decide +kernel
theorem dX7_spreads_44 : decode cX7_spreads 44 = .ok (.goto (-36), 3) := by decide +kernel
theorem dX7_spreads_47 : decode cX7_spreads 47 = .ok (.iload_n 1, 1) := by decide +kernel
theorem dX7_spreads_48 : decode cX7_spreads 48 = .ok (.ireturn, 1) := by decide +kernel
theorem dX7_undo_0 : decode cX7_undo 0 = .ok (.aload_n 0, 1) := by decide +kernel
theorem dX7_undo_1 : decode cX7_undo 1 = .ok (.getfield 33, 3) := by decide +kernel
theorem dX7_undo_4 : decode cX7_undo 4 = .ok (.getfield 156, 3) := by decide +kernel
theorem dX7_undo_7 : decode cX7_undo 7 = .ok (.ifCond .ne 6, 3) := by decide +kernel
theorem dX7_undo_10 : decode cX7_undo 10 = .ok (.bipush (-2), 2) := by decide +kernel
theorem dX7_undo_12 : decode cX7_undo 12 = .ok (.ireturn, 1) := by decide +kernel
theorem dX7_undo_13 : decode cX7_undo 13 = .ok (.aload_n 0, 1) := by decide +kernel
theorem dX7_undo_14 : decode cX7_undo 14 = .ok (.getfield 33, 3) := by decide +kernel
theorem dX7_undo_17 : decode cX7_undo 17 = .ok (.aload_n 0, 1) := by decide +kernel
theorem dX7_undo_18 : decode cX7_undo 18 = .ok (.getfield 26, 3) := by decide +kernel
theorem dX7_undo_21 : decode cX7_undo 21 = .ok (.invokevirtual 159, 3) := by decide +kernel
theorem dX7_undo_24 : decode cX7_undo 24 = .ok (.aload_n 0, 1) := by decide +kernel
theorem dX7_undo_25 : decode cX7_undo 25 = .ok (.iconst 0, 1) := by decide +kernel
theorem dX7_undo_26 : decode cX7_undo 26 = .ok (.putfield 67, 3) := by decide +kernel
theorem dX7_undo_29 : decode cX7_undo 29 = .ok (.aload_n 0, 1) := by decide +kernel
theorem dX7_undo_30 : decode cX7_undo 30 = .ok (.getfield 33, 3) := by decide +kernel
theorem dX7_undo_33 : decode cX7_undo 33 = .ok (.getfield 156, 3) := by decide +kernel
theorem dX7_undo_36 : decode cX7_undo 36 = .ok (.ireturn, 1) := by decide +kernel
theorem dX7_hint_0 : decode cX7_hint 0 = .ok (.iload_n 1, 1) := by decide +kernel
theorem dX7_hint_1 : decode cX7_hint 1 = .ok (.ifCond .lt 8, 3) := by decide +kernel
theorem dX7_hint_4 : decode cX7_hint 4 = .ok (.iload_n 1, 1) := by decide +kernel
theorem dX7_hint_5 : decode cX7_hint 5 = .ok (.iconst 3, 1) := by decide +kernel
theorem dX7_hint_6 : decode cX7_hint 6 = .ok (.if_icmp .le 5, 3) := by decide +kernel
theorem dX7_hint_9 : decode cX7_hint 9 = .ok (.iconst (-1), 1) := by decide +kernel
theorem dX7_hint_10 : decode cX7_hint 10 = .ok (.ireturn, 1) := by decide +kernel
theorem dX7_hint_11 : decode cX7_hint 11 = .ok (.aload_n 0, 1) := by decide +kernel
theorem dX7_hint_12 : decode cX7_hint 12 = .ok (.getfield 51, 3) := by decide +kernel
theorem dX7_hint_15 : decode cX7_hint 15 = .ok (.invokevirtual 143, 3) := by decide +kernel
theorem dX7_hint_18 : decode cX7_hint 18 = .ok (.iload_n 1, 1) := by decide +kernel
theorem dX7_hint_19 : decode cX7_hint 19 = .ok (.ifCond .ne 11, 3) := by decide +kernel
theorem dX7_hint_22 : decode cX7_hint 22 = .ok (.aload_n 0, 1) := by decide +kernel
theorem dX7_hint_23 : decode cX7_hint 23 = .ok (.getfield 51, 3) := by decide +kernel
theorem dX7_hint_26 : decode cX7_hint 26 = .ok (.getfield 146, 3) := by decide +kernel
theorem dX7_hint_29 : decode cX7_hint 29 = .ok (.ireturn, 1) := by decide +kernel
theorem dX7_hint_30 : decode cX7_hint 30 = .ok (.aload_n 0, 1) := by decide +kernel
theorem dX7_hint_31 : decode cX7_hint 31 = .ok (.getfield 51, 3) := by decide +kernel
theorem dX7_hint_34 : decode cX7_hint 34 = .ok (.getfield 146, 3) := by decide +kernel
theorem dX7_hint_37 : decode cX7_hint 37 = .ok (.ifCond .ne 6, 3) := by decide +kernel
theorem dX7_hint_40 : decode cX7_hint 40 = .ok (.bipush (-9), 2) := by decide +kernel
theorem dX7_hint_42 : decode cX7_hint 42 = .ok (.ireturn, 1) := by decide +kernel
theorem dX7_hint_43 : decode cX7_hint 43 = .ok (.iload_n 1, 1) := by decide +kernel
theorem dX7_hint_44 : decode cX7_hint 44 = .ok (.iconst 1, 1) := by decide +kernel
theorem dX7_hint_45 : decode cX7_hint 45 = .ok (.if_icmp .ne 11, 3) := by decide +kernel
theorem dX7_hint_48 : decode cX7_hint 48 = .ok (.aload_n 0, 1) := by decide +kernel
theorem dX7_hint_49 : decode cX7_hint 49 = .ok (.getfield 51, 3) := by decide +kernel
theorem dX7_hint_52 : decode cX7_hint 52 = .ok (.getfield 163, 3) := by decide +kernel
theorem dX7_hint_55 : decode cX7_hint 55 = .ok (.ireturn, 1) := by decide +kernel
theorem dX7_hint_56 : decode cX7_hint 56 = .ok (.iload_n 1, 1) := by decide +kernel
theorem dX7_hint_57 : decode cX7_hint 57 = .ok (.iconst 2, 1) := by decide +kernel
theorem dX7_hint_58 : decode cX7_hint 58 = .ok (.if_icmp .ne 11, 3) := by decide +kernel
theorem dX7_hint_61 : decode cX7_hint 61 = .ok (.aload_n 0, 1) := by decide +kernel
theorem dX7_hint_62 : decode cX7_hint 62 = .ok (.getfield 51, 3) := by decide +kernel
theorem dX7_hint_65 : decode cX7_hint 65 = .ok (.getfield 166, 3) := by decide +kernel
theorem dX7_hint_68 : decode cX7_hint 68 = .ok (.ireturn, 1) := by decide +kernel
theorem dX7_hint_69 : decode cX7_hint 69 = .ok (.aload_n 0, 1) := by decide +kernel
theorem dX7_hint_70 : decode cX7_hint 70 = .ok (.getfield 51, 3) := by decide +kernel
theorem dX7_hint_73 : decode cX7_hint 73 = .ok (.invokevirtual 152, 3) := by decide +kernel
theorem dX7_hint_76 : decode cX7_hint 76 = .ok (.ifCond .eq 16, 3) := by decide +kernel
theorem dX7_hint_79 : decode cX7_hint 79 = .ok (.aload_n 0, 1) := by decide +kernel
theorem dX7_hint_80 : decode cX7_hint 80 = .ok (.getfield 51, 3) := by decide +kernel
theorem dX7_hint_83 : decode cX7_hint 83 = .ok (.getfield 169, 3) := by decide +kernel
theorem dX7_hint_86 : decode cX7_hint 86 = .ok (.invokestatic 170, 3) := by decide +kernel
theorem dX7_hint_89 : decode cX7_hint 89 = .ok (.goto 5, 3) := by decide +kernel
theorem dX7_hint_92 : decode cX7_hint 92 = .ok (.bipush (-9), 2) := by decide +kernel
theorem dX7_hint_94 : decode cX7_hint 94 = .ok (.ireturn, 1) := by decide +kernel
theorem dX7_hinted_0 : decode cX7_hinted 0 = .ok (.aload_n 0, 1) := by decide +kernel
theorem dX7_hinted_1 : decode cX7_hinted 1 = .ok (.getfield 51, 3) := by decide +kernel
theorem dX7_hinted_4 : decode cX7_hinted 4 = .ok (.invokevirtual 143, 3) := by decide +kernel
theorem dX7_hinted_7 : decode cX7_hinted 7 = .ok (.aload_n 0, 1) := by decide +kernel
theorem dX7_hinted_8 : decode cX7_hinted 8 = .ok (.getfield 51, 3) := by decide +kernel
theorem dX7_hinted_11 : decode cX7_hinted 11 = .ok (.invokevirtual 152, 3) := by decide +kernel
theorem dX7_hinted_14 : decode cX7_hinted 14 = .ok (.ifCond .eq 13, 3) := by decide +kernel
theorem dX7_hinted_17 : decode cX7_hinted 17 = .ok (.aload_n 0, 1) := by decide +kernel
theorem dX7_hinted_18 : decode cX7_hinted 18 = .ok (.getfield 51, 3) := by decide +kernel
theorem dX7_hinted_21 : decode cX7_hinted 21 = .ok (.getfield 169, 3) := by decide +kernel
theorem dX7_hinted_24 : decode cX7_hinted 24 = .ok (.goto 4, 3) := by decide +kernel
theorem dX7_hinted_27 : decode cX7_hinted 27 = .ok (.lconst 0, 1) := by decide +kernel
theorem dX7_hinted_28 : decode cX7_hinted 28 = .ok (.lreturn, 1) := by decide +kernel
theorem dX7_many_0 : decode cX7_many 0 = .ok (.iload_n 1, 1) := by decide +kernel
theorem dX7_many_1 : decode cX7_many 1 = .ok (.iconst 1, 1) := by decide +kernel
theorem dX7_many_2 : decode cX7_many 2 = .ok (.if_icmp .lt 10, 3) := by decide +kernel
theorem dX7_many_5 : decode cX7_many 5 = .ok (.iload_n 1, 1) := by decide +kernel
theorem dX7_many_6 : decode cX7_many 6 = .ok (.sipush 10000, 3) := by decide +kernel
theorem dX7_many_9 : decode cX7_many 9 = .ok (.if_icmp .le 5, 3) := by decide +kernel
theorem dX7_many_12 : decode cX7_many 12 = .ok (.iconst (-1), 1) := by decide +kernel
theorem dX7_many_13 : decode cX7_many 13 = .ok (.ireturn, 1) := by decide +kernel
theorem dX7_many_14 : decode cX7_many 14 = .ok (.aload_n 0, 1) := by decide +kernel
theorem dX7_many_15 : decode cX7_many 15 = .ok (.invokevirtual 176, 3) := by decide +kernel
theorem dX7_many_18 : decode cX7_many 18 = .ok (.aload_n 0, 1) := by decide +kernel
theorem dX7_many_19 : decode cX7_many 19 = .ok (.getfield 60, 3) := by decide +kernel
theorem dX7_many_22 : decode cX7_many 22 = .ok (.getfield 179, 3) := by decide +kernel
theorem dX7_many_25 : decode cX7_many 25 = .ok (.iload_n 1, 1) := by decide +kernel
theorem dX7_many_26 : decode cX7_many 26 = .ok (.invokestatic 180, 3) := by decide +kernel
theorem dX7_many_29 : decode cX7_many 29 = .ok (.ireturn, 1) := by decide +kernel
theorem dX7_loop_0 : decode cX7_loop 0 = .ok (.iload_n 1, 1) := by decide +kernel
theorem dX7_loop_1 : decode cX7_loop 1 = .ok (.ifCond .lt 10, 3) := by decide +kernel
theorem dX7_loop_4 : decode cX7_loop 4 = .ok (.iload_n 1, 1) := by decide +kernel
theorem dX7_loop_5 : decode cX7_loop 5 = .ok (.sipush 10000, 3) := by decide +kernel
theorem dX7_loop_8 : decode cX7_loop 8 = .ok (.if_icmp .lt 7, 3) := by decide +kernel
theorem dX7_loop_11 : decode cX7_loop 11 = .ok (.ldc2_w 185, 3) := by decide +kernel
theorem dX7_loop_14 : decode cX7_loop 14 = .ok (.lreturn, 1) := by decide +kernel
theorem dX7_loop_15 : decode cX7_loop 15 = .ok (.aload_n 0, 1) := by decide +kernel
theorem dX7_loop_16 : decode cX7_loop 16 = .ok (.invokevirtual 176, 3) := by decide +kernel
theorem dX7_loop_19 : decode cX7_loop 19 = .ok (.iload_n 1, 1) := by decide +kernel
theorem dX7_loop_20 : decode cX7_loop 20 = .ok (.aload_n 0, 1) := by decide +kernel
theorem dX7_loop_21 : decode cX7_loop 21 = .ok (.getfield 60, 3) := by decide +kernel
theorem dX7_loop_24 : decode cX7_loop 24 = .ok (.getfield 179, 3) := by decide +kernel
theorem dX7_loop_27 : decode cX7_loop 27 = .ok (.if_icmp .ge 14, 3) := by decide +kernel
theorem dX7_loop_30 : decode cX7_loop 30 = .ok (.aload_n 0, 1) := by decide +kernel
theorem dX7_loop_31 : decode cX7_loop 31 = .ok (.getfield 60, 3) := by decide +kernel
theorem dX7_loop_34 : decode cX7_loop 34 = .ok (.iload_n 1, 1) := by decide +kernel
theorem dX7_loop_35 : decode cX7_loop 35 = .ok (.invokevirtual 187, 3) := by decide +kernel
theorem dX7_loop_38 : decode cX7_loop 38 = .ok (.goto 6, 3) := by decide +kernel
theorem dX7_loop_41 : decode cX7_loop 41 = .ok (.ldc2_w 191, 3) := by decide +kernel
theorem dX7_loop_44 : decode cX7_loop 44 = .ok (.lreturn, 1) := by decide +kernel
theorem dX7_forced_0 : decode cX7_forced 0 = .ok (.iload_n 1, 1) := by decide +kernel
theorem dX7_forced_1 : decode cX7_forced 1 = .ok (.ifCond .lt 8, 3) := by decide +kernel
theorem dX7_forced_4 : decode cX7_forced 4 = .ok (.iload_n 1, 1) := by decide +kernel
theorem dX7_forced_5 : decode cX7_forced 5 = .ok (.iconst 1, 1) := by decide +kernel
theorem dX7_forced_6 : decode cX7_forced 6 = .ok (.if_icmp .le 7, 3) := by decide +kernel
theorem dX7_forced_9 : decode cX7_forced 9 = .ok (.ldc2_w 185, 3) := by decide +kernel
theorem dX7_forced_12 : decode cX7_forced 12 = .ok (.lreturn, 1) := by decide +kernel
theorem dX7_forced_13 : decode cX7_forced 13 = .ok (.aload_n 0, 1) := by decide +kernel
theorem dX7_forced_14 : decode cX7_forced 14 = .ok (.invokevirtual 176, 3) := by decide +kernel
theorem dX7_forced_17 : decode cX7_forced 17 = .ok (.aload_n 0, 1) := by decide +kernel
theorem dX7_forced_18 : decode cX7_forced 18 = .ok (.getfield 60, 3) := by decide +kernel
theorem dX7_forced_21 : decode cX7_forced 21 = .ok (.getfield 179, 3) := by decide +kernel
theorem dX7_forced_24 : decode cX7_forced 24 = .ok (.ifCond .ne 7, 3) := by decide +kernel
theorem dX7_forced_27 : decode cX7_forced 27 = .ok (.ldc2_w 191, 3) := by decide +kernel
theorem dX7_forced_30 : decode cX7_forced 30 = .ok (.lreturn, 1) := by decide +kernel
theorem dX7_forced_31 : decode cX7_forced 31 = .ok (.iload_n 1, 1) := by decide +kernel
theorem dX7_forced_32 : decode cX7_forced 32 = .ok (.ifCond .ne 13, 3) := by decide +kernel
theorem dX7_forced_35 : decode cX7_forced 35 = .ok (.aload_n 0, 1) := by decide +kernel
theorem dX7_forced_36 : decode cX7_forced 36 = .ok (.getfield 60, 3) := by decide +kernel
theorem dX7_forced_39 : decode cX7_forced 39 = .ok (.invokevirtual 193, 3) := by decide +kernel
theorem dX7_forced_42 : decode cX7_forced 42 = .ok (.goto 10, 3) := by decide +kernel
theorem dX7_forced_45 : decode cX7_forced 45 = .ok (.aload_n 0, 1) := by decide +kernel
theorem dX7_forced_46 : decode cX7_forced 46 = .ok (.getfield 60, 3) := by decide +kernel
theorem dX7_forced_49 : decode cX7_forced 49 = .ok (.invokevirtual 197, 3) := by decide +kernel
theorem dX7_forced_52 : decode cX7_forced 52 = .ok (.lreturn, 1) := by decide +kernel
theorem dX7_inside_0 : decode cX7_inside 0 = .ok (.iload_n 1, 1) := by decide +kernel
theorem dX7_inside_1 : decode cX7_inside 1 = .ok (.ifCond .lt 10, 3) := by decide +kernel
theorem dX7_inside_4 : decode cX7_inside 4 = .ok (.iload_n 1, 1) := by decide +kernel
theorem dX7_inside_5 : decode cX7_inside 5 = .ok (.sipush 10000, 3) := by decide +kernel
theorem dX7_inside_8 : decode cX7_inside 8 = .ok (.if_icmp .lt 5, 3) := by decide +kernel
theorem dX7_inside_11 : decode cX7_inside 11 = .ok (.iconst (-1), 1) := by decide +kernel
theorem dX7_inside_12 : decode cX7_inside 12 = .ok (.ireturn, 1) := by decide +kernel
theorem dX7_inside_13 : decode cX7_inside 13 = .ok (.aload_n 0, 1) := by decide +kernel
theorem dX7_inside_14 : decode cX7_inside 14 = .ok (.invokevirtual 176, 3) := by decide +kernel
theorem dX7_inside_17 : decode cX7_inside 17 = .ok (.iload_n 1, 1) := by decide +kernel
theorem dX7_inside_18 : decode cX7_inside 18 = .ok (.aload_n 0, 1) := by decide +kernel
theorem dX7_inside_19 : decode cX7_inside 19 = .ok (.getfield 60, 3) := by decide +kernel
theorem dX7_inside_22 : decode cX7_inside 22 = .ok (.getfield 179, 3) := by decide +kernel
theorem dX7_inside_25 : decode cX7_inside 25 = .ok (.if_icmp .ge 21, 3) := by decide +kernel
theorem dX7_inside_28 : decode cX7_inside 28 = .ok (.aload_n 0, 1) := by decide +kernel
theorem dX7_inside_29 : decode cX7_inside 29 = .ok (.getfield 19, 3) := by decide +kernel
theorem dX7_inside_32 : decode cX7_inside 32 = .ok (.aload_n 0, 1) := by decide +kernel
theorem dX7_inside_33 : decode cX7_inside 33 = .ok (.getfield 60, 3) := by decide +kernel
theorem dX7_inside_36 : decode cX7_inside 36 = .ok (.iload_n 1, 1) := by decide +kernel
theorem dX7_inside_37 : decode cX7_inside 37 = .ok (.invokevirtual 187, 3) := by decide +kernel
theorem dX7_inside_40 : decode cX7_inside 40 = .ok (.invokevirtual 200, 3) := by decide +kernel
theorem dX7_inside_43 : decode cX7_inside 43 = .ok (.goto 5, 3) := by decide +kernel
theorem dX7_inside_46 : decode cX7_inside 46 = .ok (.bipush (-9), 2) := by decide +kernel
theorem dX7_inside_48 : decode cX7_inside 48 = .ok (.ireturn, 1) := by decide +kernel
theorem dX7_numbersThat_0 : decode cX7_numbersThat 0 = .ok (.iload_n 1, 1) := by decide +kernel
theorem dX7_numbersThat_1 : decode cX7_numbersThat 1 = .ok (.ifCond .lt 8, 3) := by decide +kernel
theorem dX7_numbersThat_4 : decode cX7_numbersThat 4 = .ok (.iload_n 1, 1) := by decide +kernel
theorem dX7_numbersThat_5 : decode cX7_numbersThat 5 = .ok (.iconst 1, 1) := by decide +kernel
theorem dX7_numbersThat_6 : decode cX7_numbersThat 6 = .ok (.if_icmp .le 5, 3) := by decide +kernel
theorem dX7_numbersThat_9 : decode cX7_numbersThat 9 = .ok (.iconst (-1), 1) := by decide +kernel
theorem dX7_numbersThat_10 : decode cX7_numbersThat 10 = .ok (.ireturn, 1) := by decide +kernel
theorem dX7_numbersThat_11 : decode cX7_numbersThat 11 = .ok (.aload_n 0, 1) := by decide +kernel
theorem dX7_numbersThat_12 : decode cX7_numbersThat 12 = .ok (.invokevirtual 176, 3) := by decide +kernel
theorem dX7_numbersThat_15 : decode cX7_numbersThat 15 = .ok (.iload_n 1, 1) := by decide +kernel
theorem dX7_numbersThat_16 : decode cX7_numbersThat 16 = .ok (.ifCond .ne 7, 3) := by decide +kernel
theorem dX7_numbersThat_19 : decode cX7_numbersThat 19 = .ok (.iconst 1, 1) := by decide +kernel
theorem dX7_numbersThat_20 : decode cX7_numbersThat 20 = .ok (.goto 4, 3) := by decide +kernel
theorem dX7_numbersThat_23 : decode cX7_numbersThat 23 = .ok (.iconst 0, 1) := by decide +kernel
theorem dX7_numbersThat_24 : decode cX7_numbersThat 24 = .ok (.istore_n 2, 1) := by decide +kernel
theorem dX7_numbersThat_25 : decode cX7_numbersThat 25 = .ok (.aload_n 0, 1) := by decide +kernel
theorem dX7_numbersThat_26 : decode cX7_numbersThat 26 = .ok (.getfield 60, 3) := by decide +kernel
theorem dX7_numbersThat_29 : decode cX7_numbersThat 29 = .ok (.getfield 179, 3) := by decide +kernel
theorem dX7_numbersThat_32 : decode cX7_numbersThat 32 = .ok (.iload_n 2, 1) := by decide +kernel
theorem dX7_numbersThat_33 : decode cX7_numbersThat 33 = .ok (.if_icmp .eq 5, 3) := by decide +kernel
theorem dX7_numbersThat_36 : decode cX7_numbersThat 36 = .ok (.iconst 0, 1) := by decide +kernel
theorem dX7_numbersThat_37 : decode cX7_numbersThat 37 = .ok (.ireturn, 1) := by decide +kernel
theorem dX7_numbersThat_38 : decode cX7_numbersThat 38 = .ok (.iconst 0, 1) := by decide +kernel
theorem dX7_numbersThat_39 : decode cX7_numbersThat 39 = .ok (.istore_n 3, 1) := by decide +kernel
theorem dX7_numbersThat_40 : decode cX7_numbersThat 40 = .ok (.iconst 0, 1) := by decide +kernel
theorem dX7_numbersThat_41 : decode cX7_numbersThat 41 = .ok (.istore 4, 2) := by decide +kernel
theorem dX7_numbersThat_43 : decode cX7_numbersThat 43 = .ok (.iload 4, 2) := by decide +kernel
theorem dX7_numbersThat_45 : decode cX7_numbersThat 45 = .ok (.aload_n 0, 1) := by decide +kernel
theorem dX7_numbersThat_46 : decode cX7_numbersThat 46 = .ok (.getfield 19, 3) := by decide +kernel
theorem dX7_numbersThat_49 : decode cX7_numbersThat 49 = .ok (.getfield 203, 3) := by decide +kernel
theorem dX7_numbersThat_52 : decode cX7_numbersThat 52 = .ok (.if_icmp .ge 93, 3) := by decide +kernel
theorem dX7_numbersThat_55 : decode cX7_numbersThat 55 = .ok (.aload_n 0, 1) := by decide +kernel
theorem dX7_numbersThat_56 : decode cX7_numbersThat 56 = .ok (.getfield 26, 3) := by decide +kernel
theorem dX7_numbersThat_59 : decode cX7_numbersThat 59 = .ok (.iload 4, 2) := by decide +kernel
theorem dX7_numbersThat_61 : decode cX7_numbersThat 61 = .ok (.invokevirtual 110, 3) := by decide +kernel
theorem dX7_numbersThat_64 : decode cX7_numbersThat 64 = .ok (.ifCond .ge 6, 3) := by decide +kernel
theorem dX7_numbersThat_67 : decode cX7_numbersThat 67 = .ok (.goto 72, 3) := by decide +kernel
theorem dX7_numbersThat_70 : decode cX7_numbersThat 70 = .ok (.aload_n 0, 1) := by decide +kernel
theorem dX7_numbersThat_71 : decode cX7_numbersThat 71 = .ok (.getfield 64, 3) := by decide +kernel
theorem dX7_numbersThat_74 : decode cX7_numbersThat 74 = .ok (.aload_n 0, 1) := by decide +kernel
theorem dX7_numbersThat_75 : decode cX7_numbersThat 75 = .ok (.getfield 26, 3) := by decide +kernel
theorem dX7_numbersThat_78 : decode cX7_numbersThat 78 = .ok (.getfield 206, 3) := by decide +kernel
theorem dX7_numbersThat_81 : decode cX7_numbersThat 81 = .ok (.aload_n 0, 1) := by decide +kernel
theorem dX7_numbersThat_82 : decode cX7_numbersThat 82 = .ok (.getfield 26, 3) := by decide +kernel
theorem dX7_numbersThat_85 : decode cX7_numbersThat 85 = .ok (.getfield 209, 3) := by decide +kernel
theorem dX7_numbersThat_88 : decode cX7_numbersThat 88 = .ok (.aload_n 0, 1) := by decide +kernel
theorem dX7_numbersThat_89 : decode cX7_numbersThat 89 = .ok (.getfield 26, 3) := by decide +kernel
theorem dX7_numbersThat_92 : decode cX7_numbersThat 92 = .ok (.getfield 136, 3) := by decide +kernel
theorem dX7_numbersThat_95 : decode cX7_numbersThat 95 = .ok (.iload 4, 2) := by decide +kernel
theorem dX7_numbersThat_97 : decode cX7_numbersThat 97 = .ok (.iconst (-1), 1) := by decide +kernel
theorem dX7_numbersThat_98 : decode cX7_numbersThat 98 = .ok (.invokestatic 139, 3) := by decide +kernel
theorem dX7_numbersThat_101 : decode cX7_numbersThat 101 = .ok (.invokevirtual 212, 3) := by decide +kernel
theorem dX7_numbersThat_104 : decode cX7_numbersThat 104 = .ok (.iload_n 1, 1) := by decide +kernel
theorem dX7_numbersThat_105 : decode cX7_numbersThat 105 = .ok (.ifCond .ne 17, 3) := by decide +kernel
theorem dX7_numbersThat_108 : decode cX7_numbersThat 108 = .ok (.aload_n 0, 1) := by decide +kernel
theorem dX7_numbersThat_109 : decode cX7_numbersThat 109 = .ok (.getfield 64, 3) := by decide +kernel
theorem dX7_numbersThat_112 : decode cX7_numbersThat 112 = .ok (.getfield 179, 3) := by decide +kernel
theorem dX7_numbersThat_115 : decode cX7_numbersThat 115 = .ok (.iconst 1, 1) := by decide +kernel
theorem dX7_numbersThat_116 : decode cX7_numbersThat 116 = .ok (.if_icmp .ne 23, 3) := by decide +kernel
theorem dX7_numbersThat_119 : decode cX7_numbersThat 119 = .ok (.goto 13, 3) := by decide +kernel
theorem dX7_numbersThat_122 : decode cX7_numbersThat 122 = .ok (.aload_n 0, 1) := by decide +kernel
theorem dX7_numbersThat_123 : decode cX7_numbersThat 123 = .ok (.getfield 64, 3) := by decide +kernel
theorem dX7_numbersThat_126 : decode cX7_numbersThat 126 = .ok (.getfield 179, 3) := by decide +kernel
theorem dX7_numbersThat_129 : decode cX7_numbersThat 129 = .ok (.ifCond .le 10, 3) := by decide +kernel
theorem dX7_numbersThat_132 : decode cX7_numbersThat 132 = .ok (.iload_n 3, 1) := by decide +kernel
theorem dX7_numbersThat_133 : decode cX7_numbersThat 133 = .ok (.iconst 1, 1) := by decide +kernel
theorem dX7_numbersThat_134 : decode cX7_numbersThat 134 = .ok (.iload 4, 2) := by decide +kernel
theorem dX7_numbersThat_136 : decode cX7_numbersThat 136 = .ok (.ishl, 1) := by decide +kernel
theorem dX7_numbersThat_137 : decode cX7_numbersThat 137 = .ok (.ior, 1) := by decide +kernel
theorem dX7_numbersThat_138 : decode cX7_numbersThat 138 = .ok (.istore_n 3, 1) := by decide +kernel
theorem dX7_numbersThat_139 : decode cX7_numbersThat 139 = .ok (.iinc 4 1, 3) := by decide +kernel
theorem dX7_numbersThat_142 : decode cX7_numbersThat 142 = .ok (.goto (-99), 3) := by decide +kernel
theorem dX7_numbersThat_145 : decode cX7_numbersThat 145 = .ok (.iload_n 3, 1) := by decide +kernel
theorem dX7_numbersThat_146 : decode cX7_numbersThat 146 = .ok (.ireturn, 1) := by decide +kernel
theorem dX7_tryNext_0 : decode cX7_tryNext 0 = .ok (.aload_n 0, 1) := by decide +kernel
theorem dX7_tryNext_1 : decode cX7_tryNext 1 = .ok (.invokevirtual 176, 3) := by decide +kernel
theorem dX7_tryNext_4 : decode cX7_tryNext 4 = .ok (.bipush (-9), 2) := by decide +kernel
theorem dX7_tryNext_6 : decode cX7_tryNext 6 = .ok (.istore_n 1, 1) := by decide +kernel
theorem dX7_tryNext_7 : decode cX7_tryNext 7 = .ok (.iconst 0, 1) := by decide +kernel
theorem dX7_tryNext_8 : decode cX7_tryNext 8 = .ok (.istore_n 2, 1) := by decide +kernel
theorem dX7_tryNext_9 : decode cX7_tryNext 9 = .ok (.iconst 0, 1) := by decide +kernel
theorem dX7_tryNext_10 : decode cX7_tryNext 10 = .ok (.istore_n 3, 1) := by decide +kernel
theorem dX7_tryNext_11 : decode cX7_tryNext 11 = .ok (.iload_n 3, 1) := by decide +kernel
theorem dX7_tryNext_12 : decode cX7_tryNext 12 = .ok (.aload_n 0, 1) := by decide +kernel
theorem dX7_tryNext_13 : decode cX7_tryNext 13 = .ok (.getfield 19, 3) := by decide +kernel
theorem dX7_tryNext_16 : decode cX7_tryNext 16 = .ok (.getfield 215, 3) := by decide +kernel
theorem dX7_tryNext_19 : decode cX7_tryNext 19 = .ok (.if_icmp .ge 61, 3) := by decide +kernel
theorem dX7_tryNext_22 : decode cX7_tryNext 22 = .ok (.aload_n 0, 1) := by decide +kernel
theorem dX7_tryNext_23 : decode cX7_tryNext 23 = .ok (.getfield 26, 3) := by decide +kernel
theorem dX7_tryNext_26 : decode cX7_tryNext 26 = .ok (.iload_n 3, 1) := by decide +kernel
theorem dX7_tryNext_27 : decode cX7_tryNext 27 = .ok (.invokevirtual 117, 3) := by decide +kernel
theorem dX7_tryNext_30 : decode cX7_tryNext 30 = .ok (.ifCond .eq 6, 3) := by decide +kernel
theorem dX7_tryNext_33 : decode cX7_tryNext 33 = .ok (.goto 41, 3) := by decide +kernel
theorem dX7_tryNext_36 : decode cX7_tryNext 36 = .ok (.aload_n 0, 1) := by decide +kernel
theorem dX7_tryNext_37 : decode cX7_tryNext 37 = .ok (.getfield 60, 3) := by decide +kernel
theorem dX7_tryNext_40 : decode cX7_tryNext 40 = .ok (.iload_n 3, 1) := by decide +kernel
theorem dX7_tryNext_41 : decode cX7_tryNext 41 = .ok (.invokevirtual 218, 3) := by decide +kernel
theorem dX7_tryNext_44 : decode cX7_tryNext 44 = .ok (.istore 4, 2) := by decide +kernel
theorem dX7_tryNext_46 : decode cX7_tryNext 46 = .ok (.iload 4, 2) := by decide +kernel
theorem dX7_tryNext_48 : decode cX7_tryNext 48 = .ok (.aload_n 0, 1) := by decide +kernel
theorem dX7_tryNext_49 : decode cX7_tryNext 49 = .ok (.getfield 60, 3) := by decide +kernel
theorem dX7_tryNext_52 : decode cX7_tryNext 52 = .ok (.getfield 179, 3) := by decide +kernel
theorem dX7_tryNext_55 : decode cX7_tryNext 55 = .ok (.iload 4, 2) := by decide +kernel
theorem dX7_tryNext_57 : decode cX7_tryNext 57 = .ok (.isub, 1) := by decide +kernel
theorem dX7_tryNext_58 : decode cX7_tryNext 58 = .ok (.invokestatic 180, 3) := by decide +kernel
theorem dX7_tryNext_61 : decode cX7_tryNext 61 = .ok (.istore 5, 2) := by decide +kernel
theorem dX7_tryNext_63 : decode cX7_tryNext 63 = .ok (.iload 5, 2) := by decide +kernel
theorem dX7_tryNext_65 : decode cX7_tryNext 65 = .ok (.iload_n 2, 1) := by decide +kernel
theorem dX7_tryNext_66 : decode cX7_tryNext 66 = .ok (.if_icmp .le 8, 3) := by decide +kernel
theorem dX7_tryNext_69 : decode cX7_tryNext 69 = .ok (.iload 5, 2) := by decide +kernel
theorem dX7_tryNext_71 : decode cX7_tryNext 71 = .ok (.istore_n 2, 1) := by decide +kernel
theorem dX7_tryNext_72 : decode cX7_tryNext 72 = .ok (.iload_n 3, 1) := by decide +kernel
theorem dX7_tryNext_73 : decode cX7_tryNext 73 = .ok (.istore_n 1, 1) := by decide +kernel
theorem dX7_tryNext_74 : decode cX7_tryNext 74 = .ok (.iinc 3 1, 3) := by decide +kernel
theorem dX7_tryNext_77 : decode cX7_tryNext 77 = .ok (.goto (-66), 3) := by decide +kernel
theorem dX7_tryNext_80 : decode cX7_tryNext 80 = .ok (.iload_n 1, 1) := by decide +kernel
theorem dX7_tryNext_81 : decode cX7_tryNext 81 = .ok (.ireturn, 1) := by decide +kernel
theorem dX7_keep_0 : decode cX7_keep 0 = .ok (.iload_n 1, 1) := by decide +kernel
theorem dX7_keep_1 : decode cX7_keep 1 = .ok (.ifCond .lt 8, 3) := by decide +kernel
theorem dX7_keep_4 : decode cX7_keep 4 = .ok (.iload_n 1, 1) := by decide +kernel
theorem dX7_keep_5 : decode cX7_keep 5 = .ok (.iconst 2, 1) := by decide +kernel
theorem dX7_keep_6 : decode cX7_keep 6 = .ok (.if_icmp .lt 5, 3) := by decide +kernel
theorem dX7_keep_9 : decode cX7_keep 9 = .ok (.iconst (-1), 1) := by decide +kernel
theorem dX7_keep_10 : decode cX7_keep 10 = .ok (.ireturn, 1) := by decide +kernel
theorem dX7_keep_11 : decode cX7_keep 11 = .ok (.aload_n 0, 1) := by decide +kernel
theorem dX7_keep_12 : decode cX7_keep 12 = .ok (.getfield 42, 3) := by decide +kernel
theorem dX7_keep_15 : decode cX7_keep 15 = .ok (.iload_n 1, 1) := by decide +kernel
theorem dX7_keep_16 : decode cX7_keep 16 = .ok (.aload_n 0, 1) := by decide +kernel
theorem dX7_keep_17 : decode cX7_keep 17 = .ok (.getfield 26, 3) := by decide +kernel
theorem dX7_keep_20 : decode cX7_keep 20 = .ok (.invokevirtual 221, 3) := by decide +kernel
theorem dX7_keep_23 : decode cX7_keep 23 = .ok (.aload_n 0, 1) := by decide +kernel
theorem dX7_keep_24 : decode cX7_keep 24 = .ok (.invokevirtual 225, 3) := by decide +kernel
theorem dX7_keep_27 : decode cX7_keep 27 = .ok (.ireturn, 1) := by decide +kernel
theorem dX7_back_0 : decode cX7_back 0 = .ok (.iload_n 1, 1) := by decide +kernel
theorem dX7_back_1 : decode cX7_back 1 = .ok (.ifCond .lt 8, 3) := by decide +kernel
theorem dX7_back_4 : decode cX7_back 4 = .ok (.iload_n 1, 1) := by decide +kernel
theorem dX7_back_5 : decode cX7_back 5 = .ok (.iconst 2, 1) := by decide +kernel
theorem dX7_back_6 : decode cX7_back 6 = .ok (.if_icmp .lt 5, 3) := by decide +kernel
theorem dX7_back_9 : decode cX7_back 9 = .ok (.iconst (-1), 1) := by decide +kernel
theorem dX7_back_10 : decode cX7_back 10 = .ok (.ireturn, 1) := by decide +kernel
theorem dX7_back_11 : decode cX7_back 11 = .ok (.aload_n 0, 1) := by decide +kernel
theorem dX7_back_12 : decode cX7_back 12 = .ok (.getfield 42, 3) := by decide +kernel
theorem dX7_back_15 : decode cX7_back 15 = .ok (.iload_n 1, 1) := by decide +kernel
theorem dX7_back_16 : decode cX7_back 16 = .ok (.invokevirtual 228, 3) := by decide +kernel
theorem dX7_back_19 : decode cX7_back 19 = .ok (.ifCond .ne 6, 3) := by decide +kernel
theorem dX7_back_22 : decode cX7_back 22 = .ok (.bipush (-2), 2) := by decide +kernel
theorem dX7_back_24 : decode cX7_back 24 = .ok (.ireturn, 1) := by decide +kernel
theorem dX7_back_25 : decode cX7_back 25 = .ok (.aload_n 0, 1) := by decide +kernel
theorem dX7_back_26 : decode cX7_back 26 = .ok (.getfield 42, 3) := by decide +kernel
theorem dX7_back_29 : decode cX7_back 29 = .ok (.iload_n 1, 1) := by decide +kernel
theorem dX7_back_30 : decode cX7_back 30 = .ok (.aload_n 0, 1) := by decide +kernel
theorem dX7_back_31 : decode cX7_back 31 = .ok (.getfield 26, 3) := by decide +kernel
theorem dX7_back_34 : decode cX7_back 34 = .ok (.invokevirtual 231, 3) := by decide +kernel
theorem dX7_back_37 : decode cX7_back 37 = .ok (.aload_n 0, 1) := by decide +kernel
theorem dX7_back_38 : decode cX7_back 38 = .ok (.getfield 33, 3) := by decide +kernel
theorem dX7_back_41 : decode cX7_back 41 = .ok (.invokevirtual 100, 3) := by decide +kernel
theorem dX7_back_44 : decode cX7_back 44 = .ok (.aload_n 0, 1) := by decide +kernel
theorem dX7_back_45 : decode cX7_back 45 = .ok (.iconst 0, 1) := by decide +kernel
theorem dX7_back_46 : decode cX7_back 46 = .ok (.putfield 67, 3) := by decide +kernel
theorem dX7_back_49 : decode cX7_back 49 = .ok (.aload_n 0, 1) := by decide +kernel
theorem dX7_back_50 : decode cX7_back 50 = .ok (.invokevirtual 225, 3) := by decide +kernel
theorem dX7_back_53 : decode cX7_back 53 = .ok (.ireturn, 1) := by decide +kernel
theorem dX7_count_0 : decode cX7_count 0 = .ok (.iload_n 1, 1) := by decide +kernel
theorem dX7_count_1 : decode cX7_count 1 = .ok (.tableswitch 114 0 7 #[47, 55, 63, 71, 82, 93, 98, 106], 47) := by decide +kernel
theorem dX7_count_48 : decode cX7_count 48 = .ok (.aload_n 0, 1) := by decide +kernel
theorem dX7_count_49 : decode cX7_count 49 = .ok (.getfield 19, 3) := by decide +kernel
theorem dX7_count_52 : decode cX7_count 52 = .ok (.getfield 234, 3) := by decide +kernel
theorem dX7_count_55 : decode cX7_count 55 = .ok (.ireturn, 1) := by decide +kernel
theorem dX7_count_56 : decode cX7_count 56 = .ok (.aload_n 0, 1) := by decide +kernel
theorem dX7_count_57 : decode cX7_count 57 = .ok (.getfield 19, 3) := by decide +kernel
theorem dX7_count_60 : decode cX7_count 60 = .ok (.getfield 104, 3) := by decide +kernel
theorem dX7_count_63 : decode cX7_count 63 = .ok (.ireturn, 1) := by decide +kernel
theorem dX7_count_64 : decode cX7_count 64 = .ok (.aload_n 0, 1) := by decide +kernel
theorem dX7_count_65 : decode cX7_count 65 = .ok (.getfield 19, 3) := by decide +kernel
theorem dX7_count_68 : decode cX7_count 68 = .ok (.getfield 215, 3) := by decide +kernel
theorem dX7_count_71 : decode cX7_count 71 = .ok (.ireturn, 1) := by decide +kernel
theorem dX7_count_72 : decode cX7_count 72 = .ok (.aload_n 0, 1) := by decide +kernel
theorem dX7_count_73 : decode cX7_count 73 = .ok (.getfield 26, 3) := by decide +kernel
theorem dX7_count_76 : decode cX7_count 76 = .ok (.getfield 206, 3) := by decide +kernel
theorem dX7_count_79 : decode cX7_count 79 = .ok (.invokestatic 170, 3) := by decide +kernel
theorem dX7_count_82 : decode cX7_count 82 = .ok (.ireturn, 1) := by decide +kernel
theorem dX7_count_83 : decode cX7_count 83 = .ok (.aload_n 0, 1) := by decide +kernel
theorem dX7_count_84 : decode cX7_count 84 = .ok (.getfield 26, 3) := by decide +kernel
theorem dX7_count_87 : decode cX7_count 87 = .ok (.getfield 209, 3) := by decide +kernel
theorem dX7_count_90 : decode cX7_count 90 = .ok (.invokestatic 170, 3) := by decide +kernel
theorem dX7_count_93 : decode cX7_count 93 = .ok (.ireturn, 1) := by decide +kernel
theorem dX7_count_94 : decode cX7_count 94 = .ok (.aload_n 0, 1) := by decide +kernel
theorem dX7_count_95 : decode cX7_count 95 = .ok (.invokevirtual 235, 3) := by decide +kernel
theorem dX7_count_98 : decode cX7_count 98 = .ok (.ireturn, 1) := by decide +kernel
theorem dX7_count_99 : decode cX7_count 99 = .ok (.aload_n 0, 1) := by decide +kernel
theorem dX7_count_100 : decode cX7_count 100 = .ok (.getfield 10, 3) := by decide +kernel
theorem dX7_count_103 : decode cX7_count 103 = .ok (.getfield 79, 3) := by decide +kernel
theorem dX7_count_106 : decode cX7_count 106 = .ok (.ireturn, 1) := by decide +kernel
theorem dX7_count_107 : decode cX7_count 107 = .ok (.aload_n 0, 1) := by decide +kernel
theorem dX7_count_108 : decode cX7_count 108 = .ok (.getfield 33, 3) := by decide +kernel
theorem dX7_count_111 : decode cX7_count 111 = .ok (.getfield 156, 3) := by decide +kernel
theorem dX7_count_114 : decode cX7_count 114 = .ok (.ireturn, 1) := by decide +kernel
theorem dX7_count_115 : decode cX7_count 115 = .ok (.iconst (-1), 1) := by decide +kernel
theorem dX7_count_116 : decode cX7_count 116 = .ok (.ireturn, 1) := by decide +kernel
theorem dX7_beforeChange_0 : decode cX7_beforeChange 0 = .ok (.aload_n 0, 1) := by decide +kernel
theorem dX7_beforeChange_1 : decode cX7_beforeChange 1 = .ok (.getfield 33, 3) := by decide +kernel
theorem dX7_beforeChange_4 : decode cX7_beforeChange 4 = .ok (.aload_n 0, 1) := by decide +kernel
theorem dX7_beforeChange_5 : decode cX7_beforeChange 5 = .ok (.getfield 26, 3) := by decide +kernel
theorem dX7_beforeChange_8 : decode cX7_beforeChange 8 = .ok (.invokevirtual 238, 3) := by decide +kernel
theorem dX7_beforeChange_11 : decode cX7_beforeChange 11 = .ok (.aload_n 0, 1) := by decide +kernel
theorem dX7_beforeChange_12 : decode cX7_beforeChange 12 = .ok (.iconst 0, 1) := by decide +kernel
theorem dX7_beforeChange_13 : decode cX7_beforeChange 13 = .ok (.putfield 67, 3) := by decide +kernel
theorem dX7_beforeChange_16 : decode cX7_beforeChange 16 = .ok (.return_, 1) := by decide +kernel
theorem dX7_follow_0 : decode cX7_follow 0 = .ok (.aload_n 0, 1) := by decide +kernel
theorem dX7_follow_1 : decode cX7_follow 1 = .ok (.getfield 51, 3) := by decide +kernel
theorem dX7_follow_4 : decode cX7_follow 4 = .ok (.getfield 146, 3) := by decide +kernel
theorem dX7_follow_7 : decode cX7_follow 7 = .ok (.iconst 2, 1) := by decide +kernel
theorem dX7_follow_8 : decode cX7_follow 8 = .ok (.if_icmp .ne 25, 3) := by decide +kernel
theorem dX7_follow_11 : decode cX7_follow 11 = .ok (.aload_n 0, 1) := by decide +kernel
theorem dX7_follow_12 : decode cX7_follow 12 = .ok (.getfield 26, 3) := by decide +kernel
theorem dX7_follow_15 : decode cX7_follow 15 = .ok (.dup, 1) := by decide +kernel
theorem dX7_follow_16 : decode cX7_follow 16 = .ok (.getfield 206, 3) := by decide +kernel
theorem dX7_follow_19 : decode cX7_follow 19 = .ok (.aload_n 0, 1) := by decide +kernel
theorem dX7_follow_20 : decode cX7_follow 20 = .ok (.getfield 51, 3) := by decide +kernel
theorem dX7_follow_23 : decode cX7_follow 23 = .ok (.getfield 169, 3) := by decide +kernel
theorem dX7_follow_26 : decode cX7_follow 26 = .ok (.lor, 1) := by decide +kernel
theorem dX7_follow_27 : decode cX7_follow 27 = .ok (.putfield 206, 3) := by decide +kernel
theorem dX7_follow_30 : decode cX7_follow 30 = .ok (.goto 22, 3) := by decide +kernel
theorem dX7_follow_33 : decode cX7_follow 33 = .ok (.aload_n 0, 1) := by decide +kernel
theorem dX7_follow_34 : decode cX7_follow 34 = .ok (.getfield 26, 3) := by decide +kernel
theorem dX7_follow_37 : decode cX7_follow 37 = .ok (.dup, 1) := by decide +kernel
theorem dX7_follow_38 : decode cX7_follow 38 = .ok (.getfield 209, 3) := by decide +kernel
theorem dX7_follow_41 : decode cX7_follow 41 = .ok (.aload_n 0, 1) := by decide +kernel
theorem dX7_follow_42 : decode cX7_follow 42 = .ok (.getfield 51, 3) := by decide +kernel
theorem dX7_follow_45 : decode cX7_follow 45 = .ok (.getfield 169, 3) := by decide +kernel
theorem dX7_follow_48 : decode cX7_follow 48 = .ok (.lor, 1) := by decide +kernel
theorem dX7_follow_49 : decode cX7_follow 49 = .ok (.putfield 209, 3) := by decide +kernel
theorem dX7_follow_52 : decode cX7_follow 52 = .ok (.aload_n 0, 1) := by decide +kernel
theorem dX7_follow_53 : decode cX7_follow 53 = .ok (.getfield 51, 3) := by decide +kernel
theorem dX7_follow_56 : decode cX7_follow 56 = .ok (.getfield 169, 3) := by decide +kernel
theorem dX7_follow_59 : decode cX7_follow 59 = .ok (.invokestatic 170, 3) := by decide +kernel
theorem dX7_follow_62 : decode cX7_follow 62 = .ok (.ireturn, 1) := by decide +kernel
theorem dX7_searchLoops_0 : decode cX7_searchLoops 0 = .ok (.aload_n 0, 1) := by decide +kernel
theorem dX7_searchLoops_1 : decode cX7_searchLoops 1 = .ok (.getfield 67, 3) := by decide +kernel
theorem dX7_searchLoops_4 : decode cX7_searchLoops 4 = .ok (.ifCond .ne 36, 3) := by decide +kernel
theorem dX7_searchLoops_7 : decode cX7_searchLoops 7 = .ok (.aload_n 0, 1) := by decide +kernel
theorem dX7_searchLoops_8 : decode cX7_searchLoops 8 = .ok (.getfield 60, 3) := by decide +kernel
theorem dX7_searchLoops_11 : decode cX7_searchLoops 11 = .ok (.aload_n 0, 1) := by decide +kernel
theorem dX7_searchLoops_12 : decode cX7_searchLoops 12 = .ok (.getfield 26, 3) := by decide +kernel
theorem dX7_searchLoops_15 : decode cX7_searchLoops 15 = .ok (.getfield 206, 3) := by decide +kernel
theorem dX7_searchLoops_18 : decode cX7_searchLoops 18 = .ok (.aload_n 0, 1) := by decide +kernel
theorem dX7_searchLoops_19 : decode cX7_searchLoops 19 = .ok (.getfield 26, 3) := by decide +kernel
theorem dX7_searchLoops_22 : decode cX7_searchLoops 22 = .ok (.getfield 209, 3) := by decide +kernel
theorem dX7_searchLoops_25 : decode cX7_searchLoops 25 = .ok (.aload_n 0, 1) := by decide +kernel
theorem dX7_searchLoops_26 : decode cX7_searchLoops 26 = .ok (.getfield 26, 3) := by decide +kernel
theorem dX7_searchLoops_29 : decode cX7_searchLoops 29 = .ok (.getfield 136, 3) := by decide +kernel
theorem dX7_searchLoops_32 : decode cX7_searchLoops 32 = .ok (.invokevirtual 212, 3) := by decide +kernel
theorem dX7_searchLoops_35 : decode cX7_searchLoops 35 = .ok (.aload_n 0, 1) := by decide +kernel
theorem dX7_searchLoops_36 : decode cX7_searchLoops 36 = .ok (.iconst 1, 1) := by decide +kernel
theorem dX7_searchLoops_37 : decode cX7_searchLoops 37 = .ok (.putfield 67, 3) := by decide +kernel
theorem dX7_searchLoops_40 : decode cX7_searchLoops 40 = .ok (.return_, 1) := by decide +kernel
theorem dX7_openSides_0 : decode cX7_openSides 0 = .ok (.aload_n 0, 1) := by decide +kernel
theorem dX7_openSides_1 : decode cX7_openSides 1 = .ok (.getfield 19, 3) := by decide +kernel
theorem dX7_openSides_4 : decode cX7_openSides 4 = .ok (.getfield 215, 3) := by decide +kernel
theorem dX7_openSides_7 : decode cX7_openSides 7 = .ok (.aload_n 0, 1) := by decide +kernel
theorem dX7_openSides_8 : decode cX7_openSides 8 = .ok (.getfield 26, 3) := by decide +kernel
theorem dX7_openSides_11 : decode cX7_openSides 11 = .ok (.getfield 206, 3) := by decide +kernel
theorem dX7_openSides_14 : decode cX7_openSides 14 = .ok (.invokestatic 170, 3) := by decide +kernel
theorem dX7_openSides_17 : decode cX7_openSides 17 = .ok (.isub, 1) := by decide +kernel
theorem dX7_openSides_18 : decode cX7_openSides 18 = .ok (.aload_n 0, 1) := by decide +kernel
theorem dX7_openSides_19 : decode cX7_openSides 19 = .ok (.getfield 26, 3) := by decide +kernel
theorem dX7_openSides_22 : decode cX7_openSides 22 = .ok (.getfield 209, 3) := by decide +kernel
theorem dX7_openSides_25 : decode cX7_openSides 25 = .ok (.invokestatic 170, 3) := by decide +kernel
theorem dX7_openSides_28 : decode cX7_openSides 28 = .ok (.isub, 1) := by decide +kernel
theorem dX7_openSides_29 : decode cX7_openSides 29 = .ok (.ireturn, 1) := by decide +kernel
theorem dX7_cellsWithNumber_0 : decode cX7_cellsWithNumber 0 = .ok (.iconst 0, 1) := by decide +kernel
theorem dX7_cellsWithNumber_1 : decode cX7_cellsWithNumber 1 = .ok (.istore_n 1, 1) := by decide +kernel
theorem dX7_cellsWithNumber_2 : decode cX7_cellsWithNumber 2 = .ok (.iconst 0, 1) := by decide +kernel
theorem dX7_cellsWithNumber_3 : decode cX7_cellsWithNumber 3 = .ok (.istore_n 2, 1) := by decide +kernel
theorem dX7_cellsWithNumber_4 : decode cX7_cellsWithNumber 4 = .ok (.iload_n 2, 1) := by decide +kernel
theorem dX7_cellsWithNumber_5 : decode cX7_cellsWithNumber 5 = .ok (.aload_n 0, 1) := by decide +kernel
theorem dX7_cellsWithNumber_6 : decode cX7_cellsWithNumber 6 = .ok (.getfield 19, 3) := by decide +kernel
theorem dX7_cellsWithNumber_9 : decode cX7_cellsWithNumber 9 = .ok (.getfield 203, 3) := by decide +kernel
theorem dX7_cellsWithNumber_12 : decode cX7_cellsWithNumber 12 = .ok (.if_icmp .ge 23, 3) := by decide +kernel
theorem dX7_cellsWithNumber_15 : decode cX7_cellsWithNumber 15 = .ok (.aload_n 0, 1) := by decide +kernel
theorem dX7_cellsWithNumber_16 : decode cX7_cellsWithNumber 16 = .ok (.getfield 26, 3) := by decide +kernel
theorem dX7_cellsWithNumber_19 : decode cX7_cellsWithNumber 19 = .ok (.iload_n 2, 1) := by decide +kernel
theorem dX7_cellsWithNumber_20 : decode cX7_cellsWithNumber 20 = .ok (.invokevirtual 110, 3) := by decide +kernel
theorem dX7_cellsWithNumber_23 : decode cX7_cellsWithNumber 23 = .ok (.ifCond .lt 6, 3) := by decide +kernel
theorem dX7_cellsWithNumber_26 : decode cX7_cellsWithNumber 26 = .ok (.iinc 1 1, 3) := by decide +kernel
theorem dX7_cellsWithNumber_29 : decode cX7_cellsWithNumber 29 = .ok (.iinc 2 1, 3) := by decide +kernel
theorem dX7_cellsWithNumber_32 : decode cX7_cellsWithNumber 32 = .ok (.goto (-28), 3) := by decide +kernel
theorem dX7_cellsWithNumber_35 : decode cX7_cellsWithNumber 35 = .ok (.iload_n 1, 1) := by decide +kernel
theorem dX7_cellsWithNumber_36 : decode cX7_cellsWithNumber 36 = .ok (.ireturn, 1) := by decide +kernel
theorem dX7_at_0 : decode cX7_at 0 = .ok (.iload_n 1, 1) := by decide +kernel
theorem dX7_at_1 : decode cX7_at 1 = .ok (.ifCond .lt 15, 3) := by decide +kernel
theorem dX7_at_4 : decode cX7_at 4 = .ok (.iload_n 1, 1) := by decide +kernel
theorem dX7_at_5 : decode cX7_at 5 = .ok (.aload_n 0, 1) := by decide +kernel
theorem dX7_at_6 : decode cX7_at 6 = .ok (.arraylength, 1) := by decide +kernel
theorem dX7_at_7 : decode cX7_at 7 = .ok (.if_icmp .ge 9, 3) := by decide +kernel
theorem dX7_at_10 : decode cX7_at 10 = .ok (.aload_n 0, 1) := by decide +kernel
theorem dX7_at_11 : decode cX7_at 11 = .ok (.iload_n 1, 1) := by decide +kernel
theorem dX7_at_12 : decode cX7_at 12 = .ok (.iaload, 1) := by decide +kernel
theorem dX7_at_13 : decode cX7_at 13 = .ok (.goto 5, 3) := by decide +kernel
theorem dX7_at_16 : decode cX7_at 16 = .ok (.bipush (-9), 2) := by decide +kernel
theorem dX7_at_18 : decode cX7_at 18 = .ok (.ireturn, 1) := by decide +kernel
theorem dX7_at__0 : decode cX7_at_ 0 = .ok (.iload_n 1, 1) := by decide +kernel
theorem dX7_at__1 : decode cX7_at_ 1 = .ok (.ifCond .lt 15, 3) := by decide +kernel
theorem dX7_at__4 : decode cX7_at_ 4 = .ok (.iload_n 1, 1) := by decide +kernel
theorem dX7_at__5 : decode cX7_at_ 5 = .ok (.aload_n 0, 1) := by decide +kernel
theorem dX7_at__6 : decode cX7_at_ 6 = .ok (.arraylength, 1) := by decide +kernel
theorem dX7_at__7 : decode cX7_at_ 7 = .ok (.if_icmp .ge 9, 3) := by decide +kernel
theorem dX7_at__10 : decode cX7_at_ 10 = .ok (.aload_n 0, 1) := by decide +kernel
theorem dX7_at__11 : decode cX7_at_ 11 = .ok (.iload_n 1, 1) := by decide +kernel
theorem dX7_at__12 : decode cX7_at_ 12 = .ok (.laload, 1) := by decide +kernel
theorem dX7_at__13 : decode cX7_at_ 13 = .ok (.goto 4, 3) := by decide +kernel
theorem dX7_at__16 : decode cX7_at_ 16 = .ok (.lconst 0, 1) := by decide +kernel
theorem dX7_at__17 : decode cX7_at_ 17 = .ok (.lreturn, 1) := by decide +kernel
theorem dX7_put_0 : decode cX7_put 0 = .ok (.iload_n 1, 1) := by decide +kernel
theorem dX7_put_1 : decode cX7_put 1 = .ok (.ifCond .lt 13, 3) := by decide +kernel
theorem dX7_put_4 : decode cX7_put 4 = .ok (.iload_n 1, 1) := by decide +kernel
theorem dX7_put_5 : decode cX7_put 5 = .ok (.aload_n 0, 1) := by decide +kernel
theorem dX7_put_6 : decode cX7_put 6 = .ok (.arraylength, 1) := by decide +kernel
theorem dX7_put_7 : decode cX7_put 7 = .ok (.if_icmp .ge 7, 3) := by decide +kernel
theorem dX7_put_10 : decode cX7_put 10 = .ok (.aload_n 0, 1) := by decide +kernel
theorem dX7_put_11 : decode cX7_put 11 = .ok (.iload_n 1, 1) := by decide +kernel
theorem dX7_put_12 : decode cX7_put 12 = .ok (.iload_n 2, 1) := by decide +kernel
theorem dX7_put_13 : decode cX7_put 13 = .ok (.iastore, 1) := by decide +kernel
theorem dX7_put_14 : decode cX7_put 14 = .ok (.return_, 1) := by decide +kernel
theorem dX7_put__0 : decode cX7_put_ 0 = .ok (.iload_n 1, 1) := by decide +kernel
theorem dX7_put__1 : decode cX7_put_ 1 = .ok (.ifCond .lt 13, 3) := by decide +kernel
theorem dX7_put__4 : decode cX7_put_ 4 = .ok (.iload_n 1, 1) := by decide +kernel
theorem dX7_put__5 : decode cX7_put_ 5 = .ok (.aload_n 0, 1) := by decide +kernel
theorem dX7_put__6 : decode cX7_put_ 6 = .ok (.arraylength, 1) := by decide +kernel
theorem dX7_put__7 : decode cX7_put_ 7 = .ok (.if_icmp .ge 7, 3) := by decide +kernel
theorem dX7_put__10 : decode cX7_put_ 10 = .ok (.aload_n 0, 1) := by decide +kernel
theorem dX7_put__11 : decode cX7_put_ 11 = .ok (.iload_n 1, 1) := by decide +kernel
theorem dX7_put__12 : decode cX7_put_ 12 = .ok (.lload_n 2, 1) := by decide +kernel
theorem dX7_put__13 : decode cX7_put_ 13 = .ok (.lastore, 1) := by decide +kernel
theorem dX7_put__14 : decode cX7_put_ 14 = .ok (.return_, 1) := by decide +kernel
theorem dX7_bit_0 : decode cX7_bit 0 = .ok (.lconst 1, 1) := by decide +kernel
theorem dX7_bit_1 : decode cX7_bit 1 = .ok (.iload_n 0, 1) := by decide +kernel
theorem dX7_bit_2 : decode cX7_bit 2 = .ok (.lshl, 1) := by decide +kernel
theorem dX7_bit_3 : decode cX7_bit 3 = .ok (.lreturn, 1) := by decide +kernel
theorem dX8_init_0 : decode cX8_init 0 = .ok (.aload_n 0, 1) := by decide +kernel
theorem dX8_init_1 : decode cX8_init 1 = .ok (.invokespecial 1, 3) := by decide +kernel
theorem dX8_init_4 : decode cX8_init 4 = .ok (.aload_n 0, 1) := by decide +kernel
theorem dX8_init_5 : decode cX8_init 5 = .ok (.iconst 2, 1) := by decide +kernel
theorem dX8_init_6 : decode cX8_init 6 = .ok (.putfield 7, 3) := by decide +kernel
theorem dX8_init_9 : decode cX8_init 9 = .ok (.aload_n 0, 1) := by decide +kernel
theorem dX8_init_10 : decode cX8_init 10 = .ok (.iconst 2, 1) := by decide +kernel
theorem dX8_init_11 : decode cX8_init 11 = .ok (.putfield 13, 3) := by decide +kernel
theorem dX8_init_14 : decode cX8_init 14 = .ok (.aload_n 0, 1) := by decide +kernel
theorem dX8_init_15 : decode cX8_init 15 = .ok (.iconst 4, 1) := by decide +kernel
theorem dX8_init_16 : decode cX8_init 16 = .ok (.putfield 16, 3) := by decide +kernel
theorem dX8_init_19 : decode cX8_init 19 = .ok (.aload_n 0, 1) := by decide +kernel
theorem dX8_init_20 : decode cX8_init 20 = .ok (.bipush 12, 2) := by decide +kernel
theorem dX8_init_22 : decode cX8_init 22 = .ok (.putfield 19, 3) := by decide +kernel
theorem dX8_init_25 : decode cX8_init 25 = .ok (.aload_n 0, 1) := by decide +kernel
theorem dX8_init_26 : decode cX8_init 26 = .ok (.bipush 16, 2) := by decide +kernel
theorem dX8_init_28 : decode cX8_init 28 = .ok (.newarray .long, 2) := by decide +kernel
theorem dX8_init_30 : decode cX8_init 30 = .ok (.putfield 22, 3) := by decide +kernel
theorem dX8_init_33 : decode cX8_init 33 = .ok (.aload_n 0, 1) := by decide +kernel
theorem dX8_init_34 : decode cX8_init 34 = .ok (.bipush 25, 2) := by decide +kernel
theorem dX8_init_36 : decode cX8_init 36 = .ok (.newarray .long, 2) := by decide +kernel
theorem dX8_init_38 : decode cX8_init 38 = .ok (.putfield 26, 3) := by decide +kernel
theorem dX8_init_41 : decode cX8_init 41 = .ok (.aload_n 0, 1) := by decide +kernel
theorem dX8_init_42 : decode cX8_init 42 = .ok (.bipush 80, 2) := by decide +kernel
theorem dX8_init_44 : decode cX8_init 44 = .ok (.newarray .int, 2) := by decide +kernel
theorem dX8_init_46 : decode cX8_init 46 = .ok (.putfield 29, 3) := by decide +kernel
theorem dX8_init_49 : decode cX8_init 49 = .ok (.aload_n 0, 1) := by decide +kernel
theorem dX8_init_50 : decode cX8_init 50 = .ok (.bipush 40, 2) := by decide +kernel
theorem dX8_init_52 : decode cX8_init 52 = .ok (.newarray .int, 2) := by decide +kernel
theorem dX8_init_54 : decode cX8_init 54 = .ok (.putfield 33, 3) := by decide +kernel
theorem dX8_init_57 : decode cX8_init 57 = .ok (.aload_n 0, 1) := by decide +kernel
theorem dX8_init_58 : decode cX8_init 58 = .ok (.bipush 30, 2) := by decide +kernel
theorem dX8_init_60 : decode cX8_init 60 = .ok (.newarray .long, 2) := by decide +kernel
theorem dX8_init_62 : decode cX8_init 62 = .ok (.putfield 36, 3) := by decide +kernel
theorem dX8_init_65 : decode cX8_init 65 = .ok (.aload_n 0, 1) := by decide +kernel
theorem dX8_init_66 : decode cX8_init 66 = .ok (.bipush 6, 2) := by decide +kernel
theorem dX8_init_68 : decode cX8_init 68 = .ok (.newarray .long, 2) := by decide +kernel
theorem dX8_init_70 : decode cX8_init 70 = .ok (.putfield 39, 3) := by decide +kernel
theorem dX8_init_73 : decode cX8_init 73 = .ok (.aload_n 0, 1) := by decide +kernel
theorem dX8_init_74 : decode cX8_init 74 = .ok (.iconst 2, 1) := by decide +kernel
theorem dX8_init_75 : decode cX8_init 75 = .ok (.newarray .boolean, 2) := by decide +kernel
theorem dX8_init_77 : decode cX8_init 77 = .ok (.putfield 42, 3) := by decide +kernel
theorem dX8_init_80 : decode cX8_init 80 = .ok (.aload_n 0, 1) := by decide +kernel
theorem dX8_init_81 : decode cX8_init 81 = .ok (.sipush 9400, 3) := by decide +kernel
theorem dX8_init_84 : decode cX8_init 84 = .ok (.newarray .long, 2) := by decide +kernel
theorem dX8_init_86 : decode cX8_init 86 = .ok (.putfield 46, 3) := by decide +kernel
theorem dX8_init_89 : decode cX8_init 89 = .ok (.aload_n 0, 1) := by decide +kernel
theorem dX8_init_90 : decode cX8_init 90 = .ok (.bipush 40, 2) := by decide +kernel
theorem dX8_init_92 : decode cX8_init 92 = .ok (.newarray .int, 2) := by decide +kernel
theorem dX8_init_94 : decode cX8_init 94 = .ok (.putfield 49, 3) := by decide +kernel
theorem dX8_init_97 : decode cX8_init 97 = .ok (.aload_n 0, 1) := by decide +kernel
theorem dX8_init_98 : decode cX8_init 98 = .ok (.lconst 0, 1) := by decide +kernel
theorem dX8_init_99 : decode cX8_init 99 = .ok (.putfield 52, 3) := by decide +kernel
theorem dX8_init_102 : decode cX8_init 102 = .ok (.iconst 0, 1) := by decide +kernel
theorem dX8_init_103 : decode cX8_init 103 = .ok (.istore_n 1, 1) := by decide +kernel
theorem dX8_init_104 : decode cX8_init 104 = .ok (.iload_n 1, 1) := by decide +kernel
theorem dX8_init_105 : decode cX8_init 105 = .ok (.bipush 16, 2) := by decide +kernel
theorem dX8_init_107 : decode cX8_init 107 = .ok (.if_icmp .ge 25, 3) := by decide +kernel
theorem dX8_init_110 : decode cX8_init 110 = .ok (.aload_n 0, 1) := by decide +kernel
theorem dX8_init_111 : decode cX8_init 111 = .ok (.dup, 1) := by decide +kernel
theorem dX8_init_112 : decode cX8_init 112 = .ok (.getfield 52, 3) := by decide +kernel
theorem dX8_init_115 : decode cX8_init 115 = .ok (.ldc2_w 56, 3) := by decide +kernel
theorem dX8_init_118 : decode cX8_init 118 = .ok (.iconst 3, 1) := by decide +kernel
theorem dX8_init_119 : decode cX8_init 119 = .ok (.iload_n 1, 1) := by decide +kernel
theorem dX8_init_120 : decode cX8_init 120 = .ok (.imul, 1) := by decide +kernel
theorem dX8_init_121 : decode cX8_init 121 = .ok (.lshl, 1) := by decide +kernel
theorem dX8_init_122 : decode cX8_init 122 = .ok (.lor, 1) := by decide +kernel
theorem dX8_init_123 : decode cX8_init 123 = .ok (.putfield 52, 3) := by decide +kernel
theorem dX8_init_126 : decode cX8_init 126 = .ok (.iinc 1 1, 3) := by decide +kernel
theorem dX8_init_129 : decode cX8_init 129 = .ok (.goto (-25), 3) := by decide +kernel
theorem dX8_init_132 : decode cX8_init 132 = .ok (.aload_n 0, 1) := by decide +kernel
theorem dX8_init_133 : decode cX8_init 133 = .ok (.invokevirtual 58, 3) := by decide +kernel
theorem dX8_init_136 : decode cX8_init 136 = .ok (.return_, 1) := by decide +kernel
theorem dX8_in_0 : decode cX8_in 0 = .ok (.lload_n 0, 1) := by decide +kernel
theorem dX8_in_1 : decode cX8_in 1 = .ok (.lload_n 2, 1) := by decide +kernel
theorem dX8_in_2 : decode cX8_in 2 = .ok (.lcmp, 1) := by decide +kernel
theorem dX8_in_3 : decode cX8_in 3 = .ok (.ifCond .lt 14, 3) := by decide +kernel
theorem dX8_in_6 : decode cX8_in 6 = .ok (.lload_n 0, 1) := by decide +kernel
theorem dX8_in_7 : decode cX8_in 7 = .ok (.lload 4, 2) := by decide +kernel
theorem dX8_in_9 : decode cX8_in 9 = .ok (.lcmp, 1) := by decide +kernel
theorem dX8_in_10 : decode cX8_in 10 = .ok (.ifCond .gt 7, 3) := by decide +kernel
theorem dX8_in_13 : decode cX8_in 13 = .ok (.iconst 1, 1) := by decide +kernel
theorem dX8_in_14 : decode cX8_in 14 = .ok (.goto 4, 3) := by decide +kernel
theorem dX8_in_17 : decode cX8_in 17 = .ok (.iconst 0, 1) := by decide +kernel
theorem dX8_in_18 : decode cX8_in 18 = .ok (.ireturn, 1) := by decide +kernel
theorem dX8_has_0 : decode cX8_has 0 = .ok (.lload_n 0, 1) := by decide +kernel
theorem dX8_has_1 : decode cX8_has 1 = .ok (.iload_n 2, 1) := by decide +kernel
theorem dX8_has_2 : decode cX8_has 2 = .ok (.lshr, 1) := by decide +kernel
theorem dX8_has_3 : decode cX8_has 3 = .ok (.lconst 1, 1) := by decide +kernel
theorem dX8_has_4 : decode cX8_has 4 = .ok (.land, 1) := by decide +kernel
theorem dX8_has_5 : decode cX8_has 5 = .ok (.lconst 1, 1) := by decide +kernel
theorem dX8_has_6 : decode cX8_has 6 = .ok (.lcmp, 1) := by decide +kernel
theorem dX8_has_7 : decode cX8_has 7 = .ok (.ifCond .ne 7, 3) := by decide +kernel
theorem dX8_has_10 : decode cX8_has 10 = .ok (.iconst 1, 1) := by decide +kernel
theorem dX8_has_11 : decode cX8_has 11 = .ok (.goto 4, 3) := by decide +kernel
theorem dX8_has_14 : decode cX8_has 14 = .ok (.iconst 0, 1) := by decide +kernel
theorem dX8_has_15 : decode cX8_has 15 = .ok (.ireturn, 1) := by decide +kernel
theorem dX8_ones_0 : decode cX8_ones 0 = .ok (.iconst 0, 1) := by decide +kernel
theorem dX8_ones_1 : decode cX8_ones 1 = .ok (.istore_n 2, 1) := by decide +kernel
theorem dX8_ones_2 : decode cX8_ones 2 = .ok (.lload_n 0, 1) := by decide +kernel
theorem dX8_ones_3 : decode cX8_ones 3 = .ok (.lstore_n 3, 1) := by decide +kernel
theorem dX8_ones_4 : decode cX8_ones 4 = .ok (.lload_n 3, 1) := by decide +kernel
theorem dX8_ones_5 : decode cX8_ones 5 = .ok (.lconst 0, 1) := by decide +kernel
theorem dX8_ones_6 : decode cX8_ones 6 = .ok (.lcmp, 1) := by decide +kernel
theorem dX8_ones_7 : decode cX8_ones 7 = .ok (.ifCond .eq 15, 3) := by decide +kernel
theorem dX8_ones_10 : decode cX8_ones 10 = .ok (.iinc 2 1, 3) := by decide +kernel
theorem dX8_ones_13 : decode cX8_ones 13 = .ok (.lload_n 3, 1) := by decide +kernel
theorem dX8_ones_14 : decode cX8_ones 14 = .ok (.lload_n 3, 1) := by decide +kernel
theorem dX8_ones_15 : decode cX8_ones 15 = .ok (.lconst 1, 1) := by decide +kernel
theorem dX8_ones_16 : decode cX8_ones 16 = .ok (.lsub, 1) := by decide +kernel
theorem dX8_ones_17 : decode cX8_ones 17 = .ok (.land, 1) := by decide +kernel
theorem dX8_ones_18 : decode cX8_ones 18 = .ok (.lstore_n 3, 1) := by decide +kernel
theorem dX8_ones_19 : decode cX8_ones 19 = .ok (.goto (-15), 3) := by decide +kernel
theorem dX8_ones_22 : decode cX8_ones 22 = .ok (.iload_n 2, 1) := by decide +kernel
theorem dX8_ones_23 : decode cX8_ones 23 = .ok (.ireturn, 1) := by decide +kernel
theorem dX8_points_0 : decode cX8_points 0 = .ok (.aload_n 0, 1) := by decide +kernel
theorem dX8_points_1 : decode cX8_points 1 = .ok (.getfield 7, 3) := by decide +kernel
theorem dX8_points_4 : decode cX8_points 4 = .ok (.iconst 1, 1) := by decide +kernel
theorem dX8_points_5 : decode cX8_points 5 = .ok (.iadd, 1) := by decide +kernel
theorem dX8_points_6 : decode cX8_points 6 = .ok (.aload_n 0, 1) := by decide +kernel
theorem dX8_points_7 : decode cX8_points 7 = .ok (.getfield 13, 3) := by decide +kernel
theorem dX8_points_10 : decode cX8_points 10 = .ok (.iconst 1, 1) := by decide +kernel
theorem dX8_points_11 : decode cX8_points 11 = .ok (.iadd, 1) := by decide +kernel
theorem dX8_points_12 : decode cX8_points 12 = .ok (.imul, 1) := by decide +kernel
theorem dX8_points_13 : decode cX8_points 13 = .ok (.ireturn, 1) := by decide +kernel
theorem dX8_lying_0 : decode cX8_lying 0 = .ok (.iload_n 2, 1) := by decide +kernel
theorem dX8_lying_1 : decode cX8_lying 1 = .ok (.aload_n 0, 1) := by decide +kernel
theorem dX8_lying_2 : decode cX8_lying 2 = .ok (.getfield 7, 3) := by decide +kernel
theorem dX8_lying_5 : decode cX8_lying 5 = .ok (.imul, 1) := by decide +kernel
theorem dX8_lying_6 : decode cX8_lying 6 = .ok (.iload_n 1, 1) := by decide +kernel
theorem dX8_lying_7 : decode cX8_lying 7 = .ok (.iadd, 1) := by decide +kernel
theorem dX8_lying_8 : decode cX8_lying 8 = .ok (.ireturn, 1) := by decide +kernel
theorem dX8_standing_0 : decode cX8_standing 0 = .ok (.aload_n 0, 1) := by decide +kernel
theorem dX8_standing_1 : decode cX8_standing 1 = .ok (.getfield 7, 3) := by decide +kernel
theorem dX8_standing_4 : decode cX8_standing 4 = .ok (.aload_n 0, 1) := by decide +kernel
theorem dX8_standing_5 : decode cX8_standing 5 = .ok (.getfield 13, 3) := by decide +kernel
theorem dX8_standing_8 : decode cX8_standing 8 = .ok (.iconst 1, 1) := by decide +kernel
theorem dX8_standing_9 : decode cX8_standing 9 = .ok (.iadd, 1) := by decide +kernel
theorem dX8_standing_10 : decode cX8_standing 10 = .ok (.imul, 1) := by decide +kernel
theorem dX8_standing_11 : decode cX8_standing 11 = .ok (.iload_n 2, 1) := by decide +kernel
theorem dX8_standing_12 : decode cX8_standing 12 = .ok (.aload_n 0, 1) := by decide +kernel
theorem dX8_standing_13 : decode cX8_standing 13 = .ok (.getfield 7, 3) := by decide +kernel
theorem dX8_standing_16 : decode cX8_standing 16 = .ok (.iconst 1, 1) := by decide +kernel
theorem dX8_standing_17 : decode cX8_standing 17 = .ok (.iadd, 1) := by decide +kernel
theorem dX8_standing_18 : decode cX8_standing 18 = .ok (.imul, 1) := by decide +kernel
theorem dX8_standing_19 : decode cX8_standing 19 = .ok (.iadd, 1) := by decide +kernel
theorem dX8_standing_20 : decode cX8_standing 20 = .ok (.iload_n 1, 1) := by decide +kernel
theorem dX8_standing_21 : decode cX8_standing 21 = .ok (.iadd, 1) := by decide +kernel
theorem dX8_standing_22 : decode cX8_standing 22 = .ok (.ireturn, 1) := by decide +kernel
theorem dX8_cellAt_0 : decode cX8_cellAt 0 = .ok (.iload_n 1, 1) := by decide +kernel
theorem dX8_cellAt_1 : decode cX8_cellAt 1 = .ok (.i2l, 1) := by decide +kernel
theorem dX8_cellAt_2 : decode cX8_cellAt 2 = .ok (.lconst 0, 1) := by decide +kernel
theorem dX8_cellAt_3 : decode cX8_cellAt 3 = .ok (.aload_n 0, 1) := by decide +kernel
theorem dX8_cellAt_4 : decode cX8_cellAt 4 = .ok (.getfield 7, 3) := by decide +kernel
theorem dX8_cellAt_7 : decode cX8_cellAt 7 = .ok (.iconst 1, 1) := by decide +kernel
theorem dX8_cellAt_8 : decode cX8_cellAt 8 = .ok (.isub, 1) := by decide +kernel
theorem dX8_cellAt_9 : decode cX8_cellAt 9 = .ok (.i2l, 1) := by decide +kernel
theorem dX8_cellAt_10 : decode cX8_cellAt 10 = .ok (.invokestatic 61, 3) := by decide +kernel
theorem dX8_cellAt_13 : decode cX8_cellAt 13 = .ok (.ifCond .eq 30, 3) := by decide +kernel
theorem dX8_cellAt_16 : decode cX8_cellAt 16 = .ok (.iload_n 2, 1) := by decide +kernel
theorem dX8_cellAt_17 : decode cX8_cellAt 17 = .ok (.i2l, 1) := by decide +kernel
theorem dX8_cellAt_18 : decode cX8_cellAt 18 = .ok (.lconst 0, 1) := by decide +kernel
theorem dX8_cellAt_19 : decode cX8_cellAt 19 = .ok (.aload_n 0, 1) := by decide +kernel
theorem dX8_cellAt_20 : decode cX8_cellAt 20 = .ok (.getfield 13, 3) := by decide +kernel
theorem dX8_cellAt_23 : decode cX8_cellAt 23 = .ok (.iconst 1, 1) := by decide +kernel
theorem dX8_cellAt_24 : decode cX8_cellAt 24 = .ok (.isub, 1) := by decide +kernel
theorem dX8_cellAt_25 : decode cX8_cellAt 25 = .ok (.i2l, 1) := by decide +kernel
end
section
theorem dX8_cellAt_26 : decode cX8_cellAt 26 = .ok (.invokestatic 61, 3) := by decide +kernel
theorem dX8_cellAt_29 : decode cX8_cellAt 29 = .ok (.ifCond .eq 14, 3) := by decide +kernel
theorem dX8_cellAt_32 : decode cX8_cellAt 32 = .ok (.iload_n 2, 1) := by decide +kernel
theorem dX8_cellAt_33 : decode cX8_cellAt 33 = .ok (.aload_n 0, 1) := by decide +kernel
theorem dX8_cellAt_34 : decode cX8_cellAt 34 = .ok (.getfield 7, 3) := by decide +kernel
theorem dX8_cellAt_37 : decode cX8_cellAt 37 = .ok (.imul, 1) := by decide +kernel
theorem dX8_cellAt_38 : decode cX8_cellAt 38 = .ok (.iload_n 1, 1) := by decide +kernel
theorem dX8_cellAt_39 : decode cX8_cellAt 39 = .ok (.iadd, 1) := by decide +kernel
theorem dX8_cellAt_40 : decode cX8_cellAt 40 = .ok (.goto 5, 3) := by decide +kernel
theorem dX8_cellAt_43 : decode cX8_cellAt 43 = .ok (.bipush 16, 2) := by decide +kernel
theorem dX8_cellAt_45 : decode cX8_cellAt 45 = .ok (.ireturn, 1) := by decide +kernel
theorem dX8_joins_0 : decode cX8_joins 0 = .ok (.aload_n 0, 1) := by decide +kernel
theorem dX8_joins_1 : decode cX8_joins 1 = .ok (.getfield 29, 3) := by decide +kernel
theorem dX8_joins_4 : decode cX8_joins 4 = .ok (.iconst 2, 1) := by decide +kernel
theorem dX8_joins_5 : decode cX8_joins 5 = .ok (.iload_n 1, 1) := by decide +kernel
theorem dX8_joins_6 : decode cX8_joins 6 = .ok (.imul, 1) := by decide +kernel
theorem dX8_joins_7 : decode cX8_joins 7 = .ok (.iload_n 2, 1) := by decide +kernel
theorem dX8_joins_8 : decode cX8_joins 8 = .ok (.iastore, 1) := by decide +kernel
theorem dX8_joins_9 : decode cX8_joins 9 = .ok (.aload_n 0, 1) := by decide +kernel
theorem dX8_joins_10 : decode cX8_joins 10 = .ok (.getfield 29, 3) := by decide +kernel
theorem dX8_joins_13 : decode cX8_joins 13 = .ok (.iconst 2, 1) := by decide +kernel
theorem dX8_joins_14 : decode cX8_joins 14 = .ok (.iload_n 1, 1) := by decide +kernel
theorem dX8_joins_15 : decode cX8_joins 15 = .ok (.imul, 1) := by decide +kernel
theorem dX8_joins_16 : decode cX8_joins 16 = .ok (.iconst 1, 1) := by decide +kernel
theorem dX8_joins_17 : decode cX8_joins 17 = .ok (.iadd, 1) := by decide +kernel
theorem dX8_joins_18 : decode cX8_joins 18 = .ok (.iload_n 3, 1) := by decide +kernel
theorem dX8_joins_19 : decode cX8_joins 19 = .ok (.iastore, 1) := by decide +kernel
theorem dX8_joins_20 : decode cX8_joins 20 = .ok (.aload_n 0, 1) := by decide +kernel
theorem dX8_joins_21 : decode cX8_joins 21 = .ok (.getfield 26, 3) := by decide +kernel
theorem dX8_joins_24 : decode cX8_joins 24 = .ok (.iload 4, 2) := by decide +kernel
theorem dX8_joins_26 : decode cX8_joins 26 = .ok (.dup2, 1) := by decide +kernel
theorem dX8_joins_27 : decode cX8_joins 27 = .ok (.laload, 1) := by decide +kernel
theorem dX8_joins_28 : decode cX8_joins 28 = .ok (.lconst 1, 1) := by decide +kernel
theorem dX8_joins_29 : decode cX8_joins 29 = .ok (.iload_n 1, 1) := by decide +kernel
theorem dX8_joins_30 : decode cX8_joins 30 = .ok (.lshl, 1) := by decide +kernel
theorem dX8_joins_31 : decode cX8_joins 31 = .ok (.lor, 1) := by decide +kernel
theorem dX8_joins_32 : decode cX8_joins 32 = .ok (.lastore, 1) := by decide +kernel
theorem dX8_joins_33 : decode cX8_joins 33 = .ok (.aload_n 0, 1) := by decide +kernel
theorem dX8_joins_34 : decode cX8_joins 34 = .ok (.getfield 26, 3) := by decide +kernel
theorem dX8_joins_37 : decode cX8_joins 37 = .ok (.iload 5, 2) := by decide +kernel
theorem dX8_joins_39 : decode cX8_joins 39 = .ok (.dup2, 1) := by decide +kernel
theorem dX8_joins_40 : decode cX8_joins 40 = .ok (.laload, 1) := by decide +kernel
theorem dX8_joins_41 : decode cX8_joins 41 = .ok (.lconst 1, 1) := by decide +kernel
theorem dX8_joins_42 : decode cX8_joins 42 = .ok (.iload_n 1, 1) := by decide +kernel
theorem dX8_joins_43 : decode cX8_joins 43 = .ok (.lshl, 1) := by decide +kernel
theorem dX8_joins_44 : decode cX8_joins 44 = .ok (.lor, 1) := by decide +kernel
theorem dX8_joins_45 : decode cX8_joins 45 = .ok (.lastore, 1) := by decide +kernel
theorem dX8_joins_46 : decode cX8_joins 46 = .ok (.iload_n 2, 1) := by decide +kernel
theorem dX8_joins_47 : decode cX8_joins 47 = .ok (.bipush 16, 2) := by decide +kernel
theorem dX8_joins_49 : decode cX8_joins 49 = .ok (.if_icmp .ge 15, 3) := by decide +kernel
theorem dX8_joins_52 : decode cX8_joins 52 = .ok (.aload_n 0, 1) := by decide +kernel
theorem dX8_joins_53 : decode cX8_joins 53 = .ok (.getfield 22, 3) := by decide +kernel
theorem dX8_joins_56 : decode cX8_joins 56 = .ok (.iload_n 2, 1) := by decide +kernel
theorem dX8_joins_57 : decode cX8_joins 57 = .ok (.dup2, 1) := by decide +kernel
theorem dX8_joins_58 : decode cX8_joins 58 = .ok (.laload, 1) := by decide +kernel
theorem dX8_joins_59 : decode cX8_joins 59 = .ok (.lconst 1, 1) := by decide +kernel
theorem dX8_joins_60 : decode cX8_joins 60 = .ok (.iload_n 1, 1) := by decide +kernel
theorem dX8_joins_61 : decode cX8_joins 61 = .ok (.lshl, 1) := by decide +kernel
theorem dX8_joins_62 : decode cX8_joins 62 = .ok (.lor, 1) := by decide +kernel
theorem dX8_joins_63 : decode cX8_joins 63 = .ok (.lastore, 1) := by decide +kernel
theorem dX8_joins_64 : decode cX8_joins 64 = .ok (.iload_n 3, 1) := by decide +kernel
theorem dX8_joins_65 : decode cX8_joins 65 = .ok (.bipush 16, 2) := by decide +kernel
theorem dX8_joins_67 : decode cX8_joins 67 = .ok (.if_icmp .ge 15, 3) := by decide +kernel
theorem dX8_joins_70 : decode cX8_joins 70 = .ok (.aload_n 0, 1) := by decide +kernel
theorem dX8_joins_71 : decode cX8_joins 71 = .ok (.getfield 22, 3) := by decide +kernel
theorem dX8_joins_74 : decode cX8_joins 74 = .ok (.iload_n 3, 1) := by decide +kernel
theorem dX8_joins_75 : decode cX8_joins 75 = .ok (.dup2, 1) := by decide +kernel
theorem dX8_joins_76 : decode cX8_joins 76 = .ok (.laload, 1) := by decide +kernel
theorem dX8_joins_77 : decode cX8_joins 77 = .ok (.lconst 1, 1) := by decide +kernel
theorem dX8_joins_78 : decode cX8_joins 78 = .ok (.iload_n 1, 1) := by decide +kernel
theorem dX8_joins_79 : decode cX8_joins 79 = .ok (.lshl, 1) := by decide +kernel
theorem dX8_joins_80 : decode cX8_joins 80 = .ok (.lor, 1) := by decide +kernel
theorem dX8_joins_81 : decode cX8_joins 81 = .ok (.lastore, 1) := by decide +kernel
theorem dX8_joins_82 : decode cX8_joins 82 = .ok (.return_, 1) := by decide +kernel
theorem dX8_laysGrid_0 : decode cX8_laysGrid 0 = .ok (.aload_n 0, 1) := by decide +kernel
theorem dX8_laysGrid_1 : decode cX8_laysGrid 1 = .ok (.aload_n 0, 1) := by decide +kernel
theorem dX8_laysGrid_2 : decode cX8_laysGrid 2 = .ok (.getfield 7, 3) := by decide +kernel
theorem dX8_laysGrid_5 : decode cX8_laysGrid 5 = .ok (.aload_n 0, 1) := by decide +kernel
theorem dX8_laysGrid_6 : decode cX8_laysGrid 6 = .ok (.getfield 13, 3) := by decide +kernel
theorem dX8_laysGrid_9 : decode cX8_laysGrid 9 = .ok (.imul, 1) := by decide +kernel
theorem dX8_laysGrid_10 : decode cX8_laysGrid 10 = .ok (.putfield 16, 3) := by decide +kernel
theorem dX8_laysGrid_13 : decode cX8_laysGrid 13 = .ok (.aload_n 0, 1) := by decide +kernel
theorem dX8_laysGrid_14 : decode cX8_laysGrid 14 = .ok (.iconst 2, 1) := by decide +kernel
theorem dX8_laysGrid_15 : decode cX8_laysGrid 15 = .ok (.aload_n 0, 1) := by decide +kernel
theorem dX8_laysGrid_16 : decode cX8_laysGrid 16 = .ok (.getfield 16, 3) := by decide +kernel
theorem dX8_laysGrid_19 : decode cX8_laysGrid 19 = .ok (.imul, 1) := by decide +kernel
theorem dX8_laysGrid_20 : decode cX8_laysGrid 20 = .ok (.aload_n 0, 1) := by decide +kernel
theorem dX8_laysGrid_21 : decode cX8_laysGrid 21 = .ok (.getfield 7, 3) := by decide +kernel
theorem dX8_laysGrid_24 : decode cX8_laysGrid 24 = .ok (.iadd, 1) := by decide +kernel
theorem dX8_laysGrid_25 : decode cX8_laysGrid 25 = .ok (.aload_n 0, 1) := by decide +kernel
theorem dX8_laysGrid_26 : decode cX8_laysGrid 26 = .ok (.getfield 13, 3) := by decide +kernel
theorem dX8_laysGrid_29 : decode cX8_laysGrid 29 = .ok (.iadd, 1) := by decide +kernel
theorem dX8_laysGrid_30 : decode cX8_laysGrid 30 = .ok (.putfield 19, 3) := by decide +kernel
theorem dX8_laysGrid_33 : decode cX8_laysGrid 33 = .ok (.iconst 0, 1) := by decide +kernel
theorem dX8_laysGrid_34 : decode cX8_laysGrid 34 = .ok (.istore_n 1, 1) := by decide +kernel
theorem dX8_laysGrid_35 : decode cX8_laysGrid 35 = .ok (.iload_n 1, 1) := by decide +kernel
theorem dX8_laysGrid_36 : decode cX8_laysGrid 36 = .ok (.bipush 25, 2) := by decide +kernel
theorem dX8_laysGrid_38 : decode cX8_laysGrid 38 = .ok (.if_icmp .ge 33, 3) := by decide +kernel
theorem dX8_laysGrid_41 : decode cX8_laysGrid 41 = .ok (.aload_n 0, 1) := by decide +kernel
theorem dX8_laysGrid_42 : decode cX8_laysGrid 42 = .ok (.getfield 26, 3) := by decide +kernel
theorem dX8_laysGrid_45 : decode cX8_laysGrid 45 = .ok (.iload_n 1, 1) := by decide +kernel
theorem dX8_laysGrid_46 : decode cX8_laysGrid 46 = .ok (.lconst 0, 1) := by decide +kernel
theorem dX8_laysGrid_47 : decode cX8_laysGrid 47 = .ok (.lastore, 1) := by decide +kernel
theorem dX8_laysGrid_48 : decode cX8_laysGrid 48 = .ok (.aload_n 0, 1) := by decide +kernel
theorem dX8_laysGrid_49 : decode cX8_laysGrid 49 = .ok (.getfield 22, 3) := by decide +kernel
theorem dX8_laysGrid_52 : decode cX8_laysGrid 52 = .ok (.iload_n 1, 1) := by decide +kernel
theorem dX8_laysGrid_53 : decode cX8_laysGrid 53 = .ok (.bipush 16, 2) := by decide +kernel
theorem dX8_laysGrid_55 : decode cX8_laysGrid 55 = .ok (.if_icmp .ge 7, 3) := by decide +kernel
theorem dX8_laysGrid_58 : decode cX8_laysGrid 58 = .ok (.iload_n 1, 1) := by decide +kernel
theorem dX8_laysGrid_59 : decode cX8_laysGrid 59 = .ok (.goto 4, 3) := by decide +kernel
theorem dX8_laysGrid_62 : decode cX8_laysGrid 62 = .ok (.iconst 0, 1) := by decide +kernel
theorem dX8_laysGrid_63 : decode cX8_laysGrid 63 = .ok (.lconst 0, 1) := by decide +kernel
theorem dX8_laysGrid_64 : decode cX8_laysGrid 64 = .ok (.lastore, 1) := by decide +kernel
theorem dX8_laysGrid_65 : decode cX8_laysGrid 65 = .ok (.iinc 1 1, 3) := by decide +kernel
theorem dX8_laysGrid_68 : decode cX8_laysGrid 68 = .ok (.goto (-33), 3) := by decide +kernel
theorem dX8_laysGrid_71 : decode cX8_laysGrid 71 = .ok (.iconst 0, 1) := by decide +kernel
theorem dX8_laysGrid_72 : decode cX8_laysGrid 72 = .ok (.istore_n 1, 1) := by decide +kernel
theorem dX8_laysGrid_73 : decode cX8_laysGrid 73 = .ok (.iload_n 1, 1) := by decide +kernel
theorem dX8_laysGrid_74 : decode cX8_laysGrid 74 = .ok (.aload_n 0, 1) := by decide +kernel
theorem dX8_laysGrid_75 : decode cX8_laysGrid 75 = .ok (.getfield 13, 3) := by decide +kernel
theorem dX8_laysGrid_78 : decode cX8_laysGrid 78 = .ok (.if_icmp .gt 71, 3) := by decide +kernel
theorem dX8_laysGrid_81 : decode cX8_laysGrid 81 = .ok (.iconst 0, 1) := by decide +kernel
theorem dX8_laysGrid_82 : decode cX8_laysGrid 82 = .ok (.istore_n 2, 1) := by decide +kernel
theorem dX8_laysGrid_83 : decode cX8_laysGrid 83 = .ok (.iload_n 2, 1) := by decide +kernel
theorem dX8_laysGrid_84 : decode cX8_laysGrid 84 = .ok (.aload_n 0, 1) := by decide +kernel
theorem dX8_laysGrid_85 : decode cX8_laysGrid 85 = .ok (.getfield 7, 3) := by decide +kernel
theorem dX8_laysGrid_88 : decode cX8_laysGrid 88 = .ok (.if_icmp .ge 55, 3) := by decide +kernel
theorem dX8_laysGrid_91 : decode cX8_laysGrid 91 = .ok (.aload_n 0, 1) := by decide +kernel
theorem dX8_laysGrid_92 : decode cX8_laysGrid 92 = .ok (.aload_n 0, 1) := by decide +kernel
theorem dX8_laysGrid_93 : decode cX8_laysGrid 93 = .ok (.iload_n 2, 1) := by decide +kernel
theorem dX8_laysGrid_94 : decode cX8_laysGrid 94 = .ok (.iload_n 1, 1) := by decide +kernel
theorem dX8_laysGrid_95 : decode cX8_laysGrid 95 = .ok (.invokevirtual 65, 3) := by decide +kernel
theorem dX8_laysGrid_98 : decode cX8_laysGrid 98 = .ok (.aload_n 0, 1) := by decide +kernel
theorem dX8_laysGrid_99 : decode cX8_laysGrid 99 = .ok (.iload_n 2, 1) := by decide +kernel
theorem dX8_laysGrid_100 : decode cX8_laysGrid 100 = .ok (.iload_n 1, 1) := by decide +kernel
theorem dX8_laysGrid_101 : decode cX8_laysGrid 101 = .ok (.iconst 1, 1) := by decide +kernel
theorem dX8_laysGrid_102 : decode cX8_laysGrid 102 = .ok (.isub, 1) := by decide +kernel
theorem dX8_laysGrid_103 : decode cX8_laysGrid 103 = .ok (.invokevirtual 69, 3) := by decide +kernel
theorem dX8_laysGrid_106 : decode cX8_laysGrid 106 = .ok (.aload_n 0, 1) := by decide +kernel
theorem dX8_laysGrid_107 : decode cX8_laysGrid 107 = .ok (.iload_n 2, 1) := by decide +kernel
theorem dX8_laysGrid_108 : decode cX8_laysGrid 108 = .ok (.iload_n 1, 1) := by decide +kernel
theorem dX8_laysGrid_109 : decode cX8_laysGrid 109 = .ok (.invokevirtual 69, 3) := by decide +kernel
theorem dX8_laysGrid_112 : decode cX8_laysGrid 112 = .ok (.iload_n 1, 1) := by decide +kernel
theorem dX8_laysGrid_113 : decode cX8_laysGrid 113 = .ok (.aload_n 0, 1) := by decide +kernel
theorem dX8_laysGrid_114 : decode cX8_laysGrid 114 = .ok (.getfield 7, 3) := by decide +kernel
theorem dX8_laysGrid_117 : decode cX8_laysGrid 117 = .ok (.iconst 1, 1) := by decide +kernel
theorem dX8_laysGrid_118 : decode cX8_laysGrid 118 = .ok (.iadd, 1) := by decide +kernel
theorem dX8_laysGrid_119 : decode cX8_laysGrid 119 = .ok (.imul, 1) := by decide +kernel
theorem dX8_laysGrid_120 : decode cX8_laysGrid 120 = .ok (.iload_n 2, 1) := by decide +kernel
theorem dX8_laysGrid_121 : decode cX8_laysGrid 121 = .ok (.iadd, 1) := by decide +kernel
theorem dX8_laysGrid_122 : decode cX8_laysGrid 122 = .ok (.iload_n 1, 1) := by decide +kernel
theorem dX8_laysGrid_123 : decode cX8_laysGrid 123 = .ok (.aload_n 0, 1) := by decide +kernel
theorem dX8_laysGrid_124 : decode cX8_laysGrid 124 = .ok (.getfield 7, 3) := by decide +kernel
theorem dX8_laysGrid_127 : decode cX8_laysGrid 127 = .ok (.iconst 1, 1) := by decide +kernel
theorem dX8_laysGrid_128 : decode cX8_laysGrid 128 = .ok (.iadd, 1) := by decide +kernel
theorem dX8_laysGrid_129 : decode cX8_laysGrid 129 = .ok (.imul, 1) := by decide +kernel
theorem dX8_laysGrid_130 : decode cX8_laysGrid 130 = .ok (.iload_n 2, 1) := by decide +kernel
theorem dX8_laysGrid_131 : decode cX8_laysGrid 131 = .ok (.iadd, 1) := by decide +kernel
theorem dX8_laysGrid_132 : decode cX8_laysGrid 132 = .ok (.iconst 1, 1) := by decide +kernel
theorem dX8_laysGrid_133 : decode cX8_laysGrid 133 = .ok (.iadd, 1) := by decide +kernel
theorem dX8_laysGrid_134 : decode cX8_laysGrid 134 = .ok (.invokevirtual 72, 3) := by decide +kernel
theorem dX8_laysGrid_137 : decode cX8_laysGrid 137 = .ok (.iinc 2 1, 3) := by decide +kernel
theorem dX8_laysGrid_140 : decode cX8_laysGrid 140 = .ok (.goto (-57), 3) := by decide +kernel
theorem dX8_laysGrid_143 : decode cX8_laysGrid 143 = .ok (.iinc 1 1, 3) := by decide +kernel
theorem dX8_laysGrid_146 : decode cX8_laysGrid 146 = .ok (.goto (-73), 3) := by decide +kernel
theorem dX8_laysGrid_149 : decode cX8_laysGrid 149 = .ok (.iconst 0, 1) := by decide +kernel
theorem dX8_laysGrid_150 : decode cX8_laysGrid 150 = .ok (.istore_n 1, 1) := by decide +kernel
theorem dX8_laysGrid_151 : decode cX8_laysGrid 151 = .ok (.iload_n 1, 1) := by decide +kernel
theorem dX8_laysGrid_152 : decode cX8_laysGrid 152 = .ok (.aload_n 0, 1) := by decide +kernel
theorem dX8_laysGrid_153 : decode cX8_laysGrid 153 = .ok (.getfield 13, 3) := by decide +kernel
theorem dX8_laysGrid_156 : decode cX8_laysGrid 156 = .ok (.if_icmp .ge 71, 3) := by decide +kernel
theorem dX8_laysGrid_159 : decode cX8_laysGrid 159 = .ok (.iconst 0, 1) := by decide +kernel
theorem dX8_laysGrid_160 : decode cX8_laysGrid 160 = .ok (.istore_n 2, 1) := by decide +kernel
theorem dX8_laysGrid_161 : decode cX8_laysGrid 161 = .ok (.iload_n 2, 1) := by decide +kernel
theorem dX8_laysGrid_162 : decode cX8_laysGrid 162 = .ok (.aload_n 0, 1) := by decide +kernel
theorem dX8_laysGrid_163 : decode cX8_laysGrid 163 = .ok (.getfield 7, 3) := by decide +kernel
theorem dX8_laysGrid_166 : decode cX8_laysGrid 166 = .ok (.if_icmp .gt 55, 3) := by decide +kernel
theorem dX8_laysGrid_169 : decode cX8_laysGrid 169 = .ok (.aload_n 0, 1) := by decide +kernel
theorem dX8_laysGrid_170 : decode cX8_laysGrid 170 = .ok (.aload_n 0, 1) := by decide +kernel
theorem dX8_laysGrid_171 : decode cX8_laysGrid 171 = .ok (.iload_n 2, 1) := by decide +kernel
theorem dX8_laysGrid_172 : decode cX8_laysGrid 172 = .ok (.iload_n 1, 1) := by decide +kernel
theorem dX8_laysGrid_173 : decode cX8_laysGrid 173 = .ok (.invokevirtual 76, 3) := by decide +kernel
theorem dX8_laysGrid_176 : decode cX8_laysGrid 176 = .ok (.aload_n 0, 1) := by decide +kernel
theorem dX8_laysGrid_177 : decode cX8_laysGrid 177 = .ok (.iload_n 2, 1) := by decide +kernel
theorem dX8_laysGrid_178 : decode cX8_laysGrid 178 = .ok (.iconst 1, 1) := by decide +kernel
theorem dX8_laysGrid_179 : decode cX8_laysGrid 179 = .ok (.isub, 1) := by decide +kernel
theorem dX8_laysGrid_180 : decode cX8_laysGrid 180 = .ok (.iload_n 1, 1) := by decide +kernel
theorem dX8_laysGrid_181 : decode cX8_laysGrid 181 = .ok (.invokevirtual 69, 3) := by decide +kernel
theorem dX8_laysGrid_184 : decode cX8_laysGrid 184 = .ok (.aload_n 0, 1) := by decide +kernel
theorem dX8_laysGrid_185 : decode cX8_laysGrid 185 = .ok (.iload_n 2, 1) := by decide +kernel
theorem dX8_laysGrid_186 : decode cX8_laysGrid 186 = .ok (.iload_n 1, 1) := by decide +kernel
theorem dX8_laysGrid_187 : decode cX8_laysGrid 187 = .ok (.invokevirtual 69, 3) := by decide +kernel
theorem dX8_laysGrid_190 : decode cX8_laysGrid 190 = .ok (.iload_n 1, 1) := by decide +kernel
theorem dX8_laysGrid_191 : decode cX8_laysGrid 191 = .ok (.aload_n 0, 1) := by decide +kernel
theorem dX8_laysGrid_192 : decode cX8_laysGrid 192 = .ok (.getfield 7, 3) := by decide +kernel
theorem dX8_laysGrid_195 : decode cX8_laysGrid 195 = .ok (.iconst 1, 1) := by decide +kernel
theorem dX8_laysGrid_196 : decode cX8_laysGrid 196 = .ok (.iadd, 1) := by decide +kernel
theorem dX8_laysGrid_197 : decode cX8_laysGrid 197 = .ok (.imul, 1) := by decide +kernel
theorem dX8_laysGrid_198 : decode cX8_laysGrid 198 = .ok (.iload_n 2, 1) := by decide +kernel
theorem dX8_laysGrid_199 : decode cX8_laysGrid 199 = .ok (.iadd, 1) := by decide +kernel
theorem dX8_laysGrid_200 : decode cX8_laysGrid 200 = .ok (.iload_n 1, 1) := by decide +kernel
theorem dX8_laysGrid_201 : decode cX8_laysGrid 201 = .ok (.iconst 1, 1) := by decide +kernel
theorem dX8_laysGrid_202 : decode cX8_laysGrid 202 = .ok (.iadd, 1) := by decide +kernel
theorem dX8_laysGrid_203 : decode cX8_laysGrid 203 = .ok (.aload_n 0, 1) := by decide +kernel
theorem dX8_laysGrid_204 : decode cX8_laysGrid 204 = .ok (.getfield 7, 3) := by decide +kernel
theorem dX8_laysGrid_207 : decode cX8_laysGrid 207 = .ok (.iconst 1, 1) := by decide +kernel
theorem dX8_laysGrid_208 : decode cX8_laysGrid 208 = .ok (.iadd, 1) := by decide +kernel
theorem dX8_laysGrid_209 : decode cX8_laysGrid 209 = .ok (.imul, 1) := by decide +kernel
theorem dX8_laysGrid_210 : decode cX8_laysGrid 210 = .ok (.iload_n 2, 1) := by decide +kernel
theorem dX8_laysGrid_211 : decode cX8_laysGrid 211 = .ok (.iadd, 1) := by decide +kernel
theorem dX8_laysGrid_212 : decode cX8_laysGrid 212 = .ok (.invokevirtual 72, 3) := by decide +kernel
theorem dX8_laysGrid_215 : decode cX8_laysGrid 215 = .ok (.iinc 2 1, 3) := by decide +kernel
theorem dX8_laysGrid_218 : decode cX8_laysGrid 218 = .ok (.goto (-57), 3) := by decide +kernel
theorem dX8_laysGrid_221 : decode cX8_laysGrid 221 = .ok (.iinc 1 1, 3) := by decide +kernel
theorem dX8_laysGrid_224 : decode cX8_laysGrid 224 = .ok (.goto (-73), 3) := by decide +kernel
theorem dX8_laysGrid_227 : decode cX8_laysGrid 227 = .ok (.return_, 1) := by decide +kernel
theorem dX8_all_0 : decode cX8_all 0 = .ok (.lconst 1, 1) := by decide +kernel
theorem dX8_all_1 : decode cX8_all 1 = .ok (.aload_n 0, 1) := by decide +kernel
theorem dX8_all_2 : decode cX8_all 2 = .ok (.getfield 19, 3) := by decide +kernel
theorem dX8_all_5 : decode cX8_all 5 = .ok (.lshl, 1) := by decide +kernel
theorem dX8_all_6 : decode cX8_all 6 = .ok (.lconst 1, 1) := by decide +kernel
theorem dX8_all_7 : decode cX8_all 7 = .ok (.lsub, 1) := by decide +kernel
theorem dX8_all_8 : decode cX8_all 8 = .ok (.lreturn, 1) := by decide +kernel
theorem dX8_open_0 : decode cX8_open 0 = .ok (.aload_n 0, 1) := by decide +kernel
theorem dX8_open_1 : decode cX8_open 1 = .ok (.invokevirtual 79, 3) := by decide +kernel
theorem dX8_open_4 : decode cX8_open 4 = .ok (.aload_n 0, 1) := by decide +kernel
theorem dX8_open_5 : decode cX8_open 5 = .ok (.getfield 83, 3) := by decide +kernel
theorem dX8_open_8 : decode cX8_open 8 = .ok (.ldc2_w 86, 3) := by decide +kernel
theorem dX8_open_11 : decode cX8_open 11 = .ok (.lxor, 1) := by decide +kernel
theorem dX8_open_12 : decode cX8_open 12 = .ok (.land, 1) := by decide +kernel
theorem dX8_open_13 : decode cX8_open 13 = .ok (.aload_n 0, 1) := by decide +kernel
theorem dX8_open_14 : decode cX8_open 14 = .ok (.getfield 88, 3) := by decide +kernel
theorem dX8_open_17 : decode cX8_open 17 = .ok (.ldc2_w 86, 3) := by decide +kernel
theorem dX8_open_20 : decode cX8_open 20 = .ok (.lxor, 1) := by decide +kernel
theorem dX8_open_21 : decode cX8_open 21 = .ok (.land, 1) := by decide +kernel
theorem dX8_open_22 : decode cX8_open 22 = .ok (.lreturn, 1) := by decide +kernel
theorem dX8_numberAt_0 : decode cX8_numberAt 0 = .ok (.aload_n 0, 1) := by decide +kernel
theorem dX8_numberAt_1 : decode cX8_numberAt 1 = .ok (.getfield 52, 3) := by decide +kernel
theorem dX8_numberAt_4 : decode cX8_numberAt 4 = .ok (.iconst 3, 1) := by decide +kernel
theorem dX8_numberAt_5 : decode cX8_numberAt 5 = .ok (.iload_n 1, 1) := by decide +kernel
theorem dX8_numberAt_6 : decode cX8_numberAt 6 = .ok (.imul, 1) := by decide +kernel
theorem dX8_numberAt_7 : decode cX8_numberAt 7 = .ok (.lshr, 1) := by decide +kernel
theorem dX8_numberAt_8 : decode cX8_numberAt 8 = .ok (.ldc2_w 91, 3) := by decide +kernel
theorem dX8_numberAt_11 : decode cX8_numberAt 11 = .ok (.land, 1) := by decide +kernel
theorem dX8_numberAt_12 : decode cX8_numberAt 12 = .ok (.l2i, 1) := by decide +kernel
theorem dX8_numberAt_13 : decode cX8_numberAt 13 = .ok (.ireturn, 1) := by decide +kernel
theorem dX8_isMore_0 : decode cX8_isMore 0 = .ok (.aload_n 0, 1) := by decide +kernel
theorem dX8_isMore_1 : decode cX8_isMore 1 = .ok (.getfield 93, 3) := by decide +kernel
theorem dX8_isMore_4 : decode cX8_isMore 4 = .ok (.aload_n 0, 1) := by decide +kernel
theorem dX8_isMore_5 : decode cX8_isMore 5 = .ok (.getfield 96, 3) := by decide +kernel
theorem dX8_isMore_8 : decode cX8_isMore 8 = .ok (.if_icmp .ge 30, 3) := by decide +kernel
theorem dX8_isMore_11 : decode cX8_isMore 11 = .ok (.aload_n 0, 1) := by decide +kernel
theorem dX8_isMore_12 : decode cX8_isMore 12 = .ok (.getfield 33, 3) := by decide +kernel
theorem dX8_isMore_15 : decode cX8_isMore 15 = .ok (.aload_n 0, 1) := by decide +kernel
theorem dX8_isMore_16 : decode cX8_isMore 16 = .ok (.getfield 93, 3) := by decide +kernel
theorem dX8_isMore_19 : decode cX8_isMore 19 = .ok (.iaload, 1) := by decide +kernel
theorem dX8_isMore_20 : decode cX8_isMore 20 = .ok (.bipush 32, 2) := by decide +kernel
theorem dX8_isMore_22 : decode cX8_isMore 22 = .ok (.if_icmp .ne 16, 3) := by decide +kernel
theorem dX8_isMore_25 : decode cX8_isMore 25 = .ok (.aload_n 0, 1) := by decide +kernel
theorem dX8_isMore_26 : decode cX8_isMore 26 = .ok (.dup, 1) := by decide +kernel
theorem dX8_isMore_27 : decode cX8_isMore 27 = .ok (.getfield 93, 3) := by decide +kernel
theorem dX8_isMore_30 : decode cX8_isMore 30 = .ok (.iconst 1, 1) := by decide +kernel
theorem dX8_isMore_31 : decode cX8_isMore 31 = .ok (.iadd, 1) := by decide +kernel
theorem dX8_isMore_32 : decode cX8_isMore 32 = .ok (.putfield 93, 3) := by decide +kernel
theorem dX8_isMore_35 : decode cX8_isMore 35 = .ok (.goto (-35), 3) := by decide +kernel
theorem dX8_isMore_38 : decode cX8_isMore 38 = .ok (.aload_n 0, 1) := by decide +kernel
theorem dX8_isMore_39 : decode cX8_isMore 39 = .ok (.getfield 93, 3) := by decide +kernel
theorem dX8_isMore_42 : decode cX8_isMore 42 = .ok (.aload_n 0, 1) := by decide +kernel
theorem dX8_isMore_43 : decode cX8_isMore 43 = .ok (.getfield 96, 3) := by decide +kernel
theorem dX8_isMore_46 : decode cX8_isMore 46 = .ok (.if_icmp .ge 7, 3) := by decide +kernel
theorem dX8_isMore_49 : decode cX8_isMore 49 = .ok (.iconst 1, 1) := by decide +kernel
theorem dX8_isMore_50 : decode cX8_isMore 50 = .ok (.goto 4, 3) := by decide +kernel
theorem dX8_isMore_53 : decode cX8_isMore 53 = .ok (.iconst 0, 1) := by decide +kernel
theorem dX8_isMore_54 : decode cX8_isMore 54 = .ok (.ireturn, 1) := by decide +kernel
theorem dX8_isSign_0 : decode cX8_isSign 0 = .ok (.aload_n 0, 1) := by decide +kernel
theorem dX8_isSign_1 : decode cX8_isSign 1 = .ok (.invokevirtual 99, 3) := by decide +kernel
theorem dX8_isSign_4 : decode cX8_isSign 4 = .ok (.ifCond .eq 43, 3) := by decide +kernel
theorem dX8_isSign_7 : decode cX8_isSign 7 = .ok (.aload_n 0, 1) := by decide +kernel
theorem dX8_isSign_8 : decode cX8_isSign 8 = .ok (.getfield 33, 3) := by decide +kernel
theorem dX8_isSign_11 : decode cX8_isSign 11 = .ok (.aload_n 0, 1) := by decide +kernel
theorem dX8_isSign_12 : decode cX8_isSign 12 = .ok (.getfield 93, 3) := by decide +kernel
theorem dX8_isSign_15 : decode cX8_isSign 15 = .ok (.iaload, 1) := by decide +kernel
theorem dX8_isSign_16 : decode cX8_isSign 16 = .ok (.i2l, 1) := by decide +kernel
theorem dX8_isSign_17 : decode cX8_isSign 17 = .ok (.ldc2_w 103, 3) := by decide +kernel
theorem dX8_isSign_20 : decode cX8_isSign 20 = .ok (.ldc2_w 105, 3) := by decide +kernel
theorem dX8_isSign_23 : decode cX8_isSign 23 = .ok (.invokestatic 61, 3) := by decide +kernel
theorem dX8_isSign_26 : decode cX8_isSign 26 = .ok (.ifCond .ne 17, 3) := by decide +kernel
theorem dX8_isSign_29 : decode cX8_isSign 29 = .ok (.aload_n 0, 1) := by decide +kernel
theorem dX8_isSign_30 : decode cX8_isSign 30 = .ok (.getfield 33, 3) := by decide +kernel
theorem dX8_isSign_33 : decode cX8_isSign 33 = .ok (.aload_n 0, 1) := by decide +kernel
theorem dX8_isSign_34 : decode cX8_isSign 34 = .ok (.getfield 93, 3) := by decide +kernel
theorem dX8_isSign_37 : decode cX8_isSign 37 = .ok (.iaload, 1) := by decide +kernel
theorem dX8_isSign_38 : decode cX8_isSign 38 = .ok (.bipush 46, 2) := by decide +kernel
theorem dX8_isSign_40 : decode cX8_isSign 40 = .ok (.if_icmp .ne 7, 3) := by decide +kernel
theorem dX8_isSign_43 : decode cX8_isSign 43 = .ok (.iconst 1, 1) := by decide +kernel
theorem dX8_isSign_44 : decode cX8_isSign 44 = .ok (.goto 4, 3) := by decide +kernel
theorem dX8_isSign_47 : decode cX8_isSign 47 = .ok (.iconst 0, 1) := by decide +kernel
theorem dX8_isSign_48 : decode cX8_isSign 48 = .ok (.ireturn, 1) := by decide +kernel
theorem dX8_readsRow_0 : decode cX8_readsRow 0 = .ok (.iconst 0, 1) := by decide +kernel
theorem dX8_readsRow_1 : decode cX8_readsRow 1 = .ok (.istore_n 1, 1) := by decide +kernel
theorem dX8_readsRow_2 : decode cX8_readsRow 2 = .ok (.aload_n 0, 1) := by decide +kernel
theorem dX8_readsRow_3 : decode cX8_readsRow 3 = .ok (.invokevirtual 107, 3) := by decide +kernel
theorem dX8_readsRow_6 : decode cX8_readsRow 6 = .ok (.ifCond .eq 107, 3) := by decide +kernel
theorem dX8_readsRow_9 : decode cX8_readsRow 9 = .ok (.iload_n 1, 1) := by decide +kernel
theorem dX8_readsRow_10 : decode cX8_readsRow 10 = .ok (.aload_n 0, 1) := by decide +kernel
theorem dX8_readsRow_11 : decode cX8_readsRow 11 = .ok (.getfield 110, 3) := by decide +kernel
theorem dX8_readsRow_14 : decode cX8_readsRow 14 = .ok (.ifCond .ne 7, 3) := by decide +kernel
theorem dX8_readsRow_17 : decode cX8_readsRow 17 = .ok (.iconst 4, 1) := by decide +kernel
theorem dX8_readsRow_18 : decode cX8_readsRow 18 = .ok (.goto 7, 3) := by decide +kernel
theorem dX8_readsRow_21 : decode cX8_readsRow 21 = .ok (.aload_n 0, 1) := by decide +kernel
theorem dX8_readsRow_22 : decode cX8_readsRow 22 = .ok (.getfield 113, 3) := by decide +kernel
theorem dX8_readsRow_25 : decode cX8_readsRow 25 = .ok (.if_icmp .ge 88, 3) := by decide +kernel
theorem dX8_readsRow_28 : decode cX8_readsRow 28 = .ok (.aload_n 0, 1) := by decide +kernel
theorem dX8_readsRow_29 : decode cX8_readsRow 29 = .ok (.getfield 33, 3) := by decide +kernel
theorem dX8_readsRow_32 : decode cX8_readsRow 32 = .ok (.aload_n 0, 1) := by decide +kernel
theorem dX8_readsRow_33 : decode cX8_readsRow 33 = .ok (.getfield 93, 3) := by decide +kernel
theorem dX8_readsRow_36 : decode cX8_readsRow 36 = .ok (.iaload, 1) := by decide +kernel
theorem dX8_readsRow_37 : decode cX8_readsRow 37 = .ok (.bipush 46, 2) := by decide +kernel
theorem dX8_readsRow_39 : decode cX8_readsRow 39 = .ok (.if_icmp .ne 9, 3) := by decide +kernel
theorem dX8_readsRow_42 : decode cX8_readsRow 42 = .ok (.ldc2_w 56, 3) := by decide +kernel
theorem dX8_readsRow_45 : decode cX8_readsRow 45 = .ok (.goto 16, 3) := by decide +kernel
theorem dX8_readsRow_48 : decode cX8_readsRow 48 = .ok (.aload_n 0, 1) := by decide +kernel
theorem dX8_readsRow_49 : decode cX8_readsRow 49 = .ok (.getfield 33, 3) := by decide +kernel
theorem dX8_readsRow_52 : decode cX8_readsRow 52 = .ok (.aload_n 0, 1) := by decide +kernel
theorem dX8_readsRow_53 : decode cX8_readsRow 53 = .ok (.getfield 93, 3) := by decide +kernel
theorem dX8_readsRow_56 : decode cX8_readsRow 56 = .ok (.iaload, 1) := by decide +kernel
theorem dX8_readsRow_57 : decode cX8_readsRow 57 = .ok (.bipush 48, 2) := by decide +kernel
theorem dX8_readsRow_59 : decode cX8_readsRow 59 = .ok (.isub, 1) := by decide +kernel
theorem dX8_readsRow_60 : decode cX8_readsRow 60 = .ok (.i2l, 1) := by decide +kernel
theorem dX8_readsRow_61 : decode cX8_readsRow 61 = .ok (.lstore_n 2, 1) := by decide +kernel
theorem dX8_readsRow_62 : decode cX8_readsRow 62 = .ok (.aload_n 0, 1) := by decide +kernel
theorem dX8_readsRow_63 : decode cX8_readsRow 63 = .ok (.dup, 1) := by decide +kernel
theorem dX8_readsRow_64 : decode cX8_readsRow 64 = .ok (.getfield 116, 3) := by decide +kernel
theorem dX8_readsRow_67 : decode cX8_readsRow 67 = .ok (.lload_n 2, 1) := by decide +kernel
theorem dX8_readsRow_68 : decode cX8_readsRow 68 = .ok (.iconst 3, 1) := by decide +kernel
theorem dX8_readsRow_69 : decode cX8_readsRow 69 = .ok (.aload_n 0, 1) := by decide +kernel
theorem dX8_readsRow_70 : decode cX8_readsRow 70 = .ok (.getfield 110, 3) := by decide +kernel
theorem dX8_readsRow_73 : decode cX8_readsRow 73 = .ok (.ifCond .ne 7, 3) := by decide +kernel
theorem dX8_readsRow_76 : decode cX8_readsRow 76 = .ok (.iload_n 1, 1) := by decide +kernel
theorem dX8_readsRow_77 : decode cX8_readsRow 77 = .ok (.goto 14, 3) := by decide +kernel
theorem dX8_readsRow_80 : decode cX8_readsRow 80 = .ok (.aload_n 0, 1) := by decide +kernel
theorem dX8_readsRow_81 : decode cX8_readsRow 81 = .ok (.getfield 113, 3) := by decide +kernel
theorem dX8_readsRow_84 : decode cX8_readsRow 84 = .ok (.aload_n 0, 1) := by decide +kernel
theorem dX8_readsRow_85 : decode cX8_readsRow 85 = .ok (.getfield 110, 3) := by decide +kernel
theorem dX8_readsRow_88 : decode cX8_readsRow 88 = .ok (.imul, 1) := by decide +kernel
theorem dX8_readsRow_89 : decode cX8_readsRow 89 = .ok (.iload_n 1, 1) := by decide +kernel
theorem dX8_readsRow_90 : decode cX8_readsRow 90 = .ok (.iadd, 1) := by decide +kernel
theorem dX8_readsRow_91 : decode cX8_readsRow 91 = .ok (.imul, 1) := by decide +kernel
theorem dX8_readsRow_92 : decode cX8_readsRow 92 = .ok (.lshl, 1) := by decide +kernel
theorem dX8_readsRow_93 : decode cX8_readsRow 93 = .ok (.lor, 1) := by decide +kernel
theorem dX8_readsRow_94 : decode cX8_readsRow 94 = .ok (.putfield 116, 3) := by decide +kernel
theorem dX8_readsRow_97 : decode cX8_readsRow 97 = .ok (.iinc 1 1, 3) := by decide +kernel
theorem dX8_readsRow_100 : decode cX8_readsRow 100 = .ok (.aload_n 0, 1) := by decide +kernel
theorem dX8_readsRow_101 : decode cX8_readsRow 101 = .ok (.dup, 1) := by decide +kernel
theorem dX8_readsRow_102 : decode cX8_readsRow 102 = .ok (.getfield 93, 3) := by decide +kernel
theorem dX8_readsRow_105 : decode cX8_readsRow 105 = .ok (.iconst 1, 1) := by decide +kernel
theorem dX8_readsRow_106 : decode cX8_readsRow 106 = .ok (.iadd, 1) := by decide +kernel
theorem dX8_readsRow_107 : decode cX8_readsRow 107 = .ok (.putfield 93, 3) := by decide +kernel
theorem dX8_readsRow_110 : decode cX8_readsRow 110 = .ok (.goto (-108), 3) := by decide +kernel
theorem dX8_readsRow_113 : decode cX8_readsRow 113 = .ok (.aload_n 0, 1) := by decide +kernel
theorem dX8_readsRow_114 : decode cX8_readsRow 114 = .ok (.invokevirtual 99, 3) := by decide +kernel
theorem dX8_readsRow_117 : decode cX8_readsRow 117 = .ok (.ifCond .eq 40, 3) := by decide +kernel
theorem dX8_readsRow_120 : decode cX8_readsRow 120 = .ok (.aload_n 0, 1) := by decide +kernel
theorem dX8_readsRow_121 : decode cX8_readsRow 121 = .ok (.getfield 33, 3) := by decide +kernel
theorem dX8_readsRow_124 : decode cX8_readsRow 124 = .ok (.aload_n 0, 1) := by decide +kernel
theorem dX8_readsRow_125 : decode cX8_readsRow 125 = .ok (.getfield 93, 3) := by decide +kernel
theorem dX8_readsRow_128 : decode cX8_readsRow 128 = .ok (.iaload, 1) := by decide +kernel
theorem dX8_readsRow_129 : decode cX8_readsRow 129 = .ok (.bipush 59, 2) := by decide +kernel
theorem dX8_readsRow_131 : decode cX8_readsRow 131 = .ok (.if_icmp .ne 26, 3) := by decide +kernel
theorem dX8_readsRow_134 : decode cX8_readsRow 134 = .ok (.iload_n 1, 1) := by decide +kernel
theorem dX8_readsRow_135 : decode cX8_readsRow 135 = .ok (.ifCond .le 22, 3) := by decide +kernel
theorem dX8_readsRow_138 : decode cX8_readsRow 138 = .ok (.aload_n 0, 1) := by decide +kernel
theorem dX8_readsRow_139 : decode cX8_readsRow 139 = .ok (.getfield 110, 3) := by decide +kernel
theorem dX8_readsRow_142 : decode cX8_readsRow 142 = .ok (.ifCond .eq 11, 3) := by decide +kernel
theorem dX8_readsRow_145 : decode cX8_readsRow 145 = .ok (.iload_n 1, 1) := by decide +kernel
theorem dX8_readsRow_146 : decode cX8_readsRow 146 = .ok (.aload_n 0, 1) := by decide +kernel
theorem dX8_readsRow_147 : decode cX8_readsRow 147 = .ok (.getfield 113, 3) := by decide +kernel
theorem dX8_readsRow_150 : decode cX8_readsRow 150 = .ok (.if_icmp .ne 7, 3) := by decide +kernel
theorem dX8_readsRow_153 : decode cX8_readsRow 153 = .ok (.iconst 1, 1) := by decide +kernel
theorem dX8_readsRow_154 : decode cX8_readsRow 154 = .ok (.goto 4, 3) := by decide +kernel
theorem dX8_readsRow_157 : decode cX8_readsRow 157 = .ok (.iconst 0, 1) := by decide +kernel
theorem dX8_readsRow_158 : decode cX8_readsRow 158 = .ok (.istore_n 2, 1) := by decide +kernel
theorem dX8_readsRow_159 : decode cX8_readsRow 159 = .ok (.iload_n 2, 1) := by decide +kernel
theorem dX8_readsRow_160 : decode cX8_readsRow 160 = .ok (.ifCond .eq 28, 3) := by decide +kernel
theorem dX8_readsRow_163 : decode cX8_readsRow 163 = .ok (.aload_n 0, 1) := by decide +kernel
theorem dX8_readsRow_164 : decode cX8_readsRow 164 = .ok (.iload_n 1, 1) := by decide +kernel
theorem dX8_readsRow_165 : decode cX8_readsRow 165 = .ok (.putfield 113, 3) := by decide +kernel
theorem dX8_readsRow_168 : decode cX8_readsRow 168 = .ok (.aload_n 0, 1) := by decide +kernel
theorem dX8_readsRow_169 : decode cX8_readsRow 169 = .ok (.dup, 1) := by decide +kernel
theorem dX8_readsRow_170 : decode cX8_readsRow 170 = .ok (.getfield 110, 3) := by decide +kernel
theorem dX8_readsRow_173 : decode cX8_readsRow 173 = .ok (.iconst 1, 1) := by decide +kernel
theorem dX8_readsRow_174 : decode cX8_readsRow 174 = .ok (.iadd, 1) := by decide +kernel
theorem dX8_readsRow_175 : decode cX8_readsRow 175 = .ok (.putfield 110, 3) := by decide +kernel
theorem dX8_readsRow_178 : decode cX8_readsRow 178 = .ok (.aload_n 0, 1) := by decide +kernel
theorem dX8_readsRow_179 : decode cX8_readsRow 179 = .ok (.dup, 1) := by decide +kernel
theorem dX8_readsRow_180 : decode cX8_readsRow 180 = .ok (.getfield 93, 3) := by decide +kernel
theorem dX8_readsRow_183 : decode cX8_readsRow 183 = .ok (.iconst 1, 1) := by decide +kernel
theorem dX8_readsRow_184 : decode cX8_readsRow 184 = .ok (.iadd, 1) := by decide +kernel
theorem dX8_readsRow_185 : decode cX8_readsRow 185 = .ok (.putfield 93, 3) := by decide +kernel
theorem dX8_readsRow_188 : decode cX8_readsRow 188 = .ok (.iload_n 2, 1) := by decide +kernel
theorem dX8_readsRow_189 : decode cX8_readsRow 189 = .ok (.ireturn, 1) := by decide +kernel
theorem dX8_reads_0 : decode cX8_reads 0 = .ok (.aload_n 0, 1) := by decide +kernel
theorem dX8_reads_1 : decode cX8_reads 1 = .ok (.iconst 0, 1) := by decide +kernel
theorem dX8_reads_2 : decode cX8_reads 2 = .ok (.putfield 93, 3) := by decide +kernel
theorem dX8_reads_5 : decode cX8_reads 5 = .ok (.aload_n 0, 1) := by decide +kernel
theorem dX8_reads_6 : decode cX8_reads 6 = .ok (.iconst 0, 1) := by decide +kernel
theorem dX8_reads_7 : decode cX8_reads 7 = .ok (.putfield 110, 3) := by decide +kernel
theorem dX8_reads_10 : decode cX8_reads 10 = .ok (.aload_n 0, 1) := by decide +kernel
theorem dX8_reads_11 : decode cX8_reads 11 = .ok (.iconst 0, 1) := by decide +kernel
theorem dX8_reads_12 : decode cX8_reads 12 = .ok (.putfield 113, 3) := by decide +kernel
theorem dX8_reads_15 : decode cX8_reads 15 = .ok (.aload_n 0, 1) := by decide +kernel
theorem dX8_reads_16 : decode cX8_reads 16 = .ok (.lconst 0, 1) := by decide +kernel
theorem dX8_reads_17 : decode cX8_reads 17 = .ok (.putfield 116, 3) := by decide +kernel
theorem dX8_reads_20 : decode cX8_reads 20 = .ok (.aload_n 0, 1) := by decide +kernel
theorem dX8_reads_21 : decode cX8_reads 21 = .ok (.invokevirtual 99, 3) := by decide +kernel
theorem dX8_reads_24 : decode cX8_reads 24 = .ok (.istore_n 1, 1) := by decide +kernel
theorem dX8_reads_25 : decode cX8_reads 25 = .ok (.iload_n 1, 1) := by decide +kernel
theorem dX8_reads_26 : decode cX8_reads 26 = .ok (.ifCond .eq 34, 3) := by decide +kernel
theorem dX8_reads_29 : decode cX8_reads 29 = .ok (.aload_n 0, 1) := by decide +kernel
theorem dX8_reads_30 : decode cX8_reads 30 = .ok (.invokevirtual 99, 3) := by decide +kernel
theorem dX8_reads_33 : decode cX8_reads 33 = .ok (.ifCond .eq 27, 3) := by decide +kernel
theorem dX8_reads_36 : decode cX8_reads 36 = .ok (.aload_n 0, 1) := by decide +kernel
theorem dX8_reads_37 : decode cX8_reads 37 = .ok (.getfield 110, 3) := by decide +kernel
theorem dX8_reads_40 : decode cX8_reads 40 = .ok (.iconst 4, 1) := by decide +kernel
theorem dX8_reads_41 : decode cX8_reads 41 = .ok (.if_icmp .ge 14, 3) := by decide +kernel
theorem dX8_reads_44 : decode cX8_reads 44 = .ok (.aload_n 0, 1) := by decide +kernel
theorem dX8_reads_45 : decode cX8_reads 45 = .ok (.invokevirtual 119, 3) := by decide +kernel
theorem dX8_reads_48 : decode cX8_reads 48 = .ok (.ifCond .eq 7, 3) := by decide +kernel
theorem dX8_reads_51 : decode cX8_reads 51 = .ok (.iconst 1, 1) := by decide +kernel
theorem dX8_reads_52 : decode cX8_reads 52 = .ok (.goto 4, 3) := by decide +kernel
theorem dX8_reads_55 : decode cX8_reads 55 = .ok (.iconst 0, 1) := by decide +kernel
theorem dX8_reads_56 : decode cX8_reads 56 = .ok (.istore_n 1, 1) := by decide +kernel
theorem dX8_reads_57 : decode cX8_reads 57 = .ok (.goto (-32), 3) := by decide +kernel
theorem dX8_reads_60 : decode cX8_reads 60 = .ok (.iload_n 1, 1) := by decide +kernel
theorem dX8_reads_61 : decode cX8_reads 61 = .ok (.ireturn, 1) := by decide +kernel
theorem dX8_type_0 : decode cX8_type 0 = .ok (.iload_n 1, 1) := by decide +kernel
theorem dX8_type_1 : decode cX8_type 1 = .ok (.i2l, 1) := by decide +kernel
theorem dX8_type_2 : decode cX8_type 2 = .ok (.lconst 0, 1) := by decide +kernel
theorem dX8_type_3 : decode cX8_type 3 = .ok (.ldc2_w 122, 3) := by decide +kernel
theorem dX8_type_6 : decode cX8_type 6 = .ok (.invokestatic 61, 3) := by decide +kernel
theorem dX8_type_9 : decode cX8_type 9 = .ok (.ifCond .ne 5, 3) := by decide +kernel
theorem dX8_type_12 : decode cX8_type 12 = .ok (.iconst (-1), 1) := by decide +kernel
theorem dX8_type_13 : decode cX8_type 13 = .ok (.ireturn, 1) := by decide +kernel
theorem dX8_type_14 : decode cX8_type 14 = .ok (.aload_n 0, 1) := by decide +kernel
theorem dX8_type_15 : decode cX8_type 15 = .ok (.getfield 96, 3) := by decide +kernel
theorem dX8_type_18 : decode cX8_type 18 = .ok (.bipush 40, 2) := by decide +kernel
theorem dX8_type_20 : decode cX8_type 20 = .ok (.if_icmp .ne 6, 3) := by decide +kernel
theorem dX8_type_23 : decode cX8_type 23 = .ok (.bipush (-3), 2) := by decide +kernel
theorem dX8_type_25 : decode cX8_type 25 = .ok (.ireturn, 1) := by decide +kernel
theorem dX8_type_26 : decode cX8_type 26 = .ok (.aload_n 0, 1) := by decide +kernel
theorem dX8_type_27 : decode cX8_type 27 = .ok (.getfield 33, 3) := by decide +kernel
theorem dX8_type_30 : decode cX8_type 30 = .ok (.aload_n 0, 1) := by decide +kernel
theorem dX8_type_31 : decode cX8_type 31 = .ok (.getfield 96, 3) := by decide +kernel
theorem dX8_type_34 : decode cX8_type 34 = .ok (.iload_n 1, 1) := by decide +kernel
theorem dX8_type_35 : decode cX8_type 35 = .ok (.iastore, 1) := by decide +kernel
theorem dX8_type_36 : decode cX8_type 36 = .ok (.aload_n 0, 1) := by decide +kernel
theorem dX8_type_37 : decode cX8_type 37 = .ok (.dup, 1) := by decide +kernel
theorem dX8_type_38 : decode cX8_type 38 = .ok (.getfield 96, 3) := by decide +kernel
theorem dX8_type_41 : decode cX8_type 41 = .ok (.iconst 1, 1) := by decide +kernel
theorem dX8_type_42 : decode cX8_type 42 = .ok (.iadd, 1) := by decide +kernel
theorem dX8_type_43 : decode cX8_type 43 = .ok (.putfield 96, 3) := by decide +kernel
theorem dX8_type_46 : decode cX8_type 46 = .ok (.aload_n 0, 1) := by decide +kernel
theorem dX8_type_47 : decode cX8_type 47 = .ok (.getfield 96, 3) := by decide +kernel
theorem dX8_type_50 : decode cX8_type 50 = .ok (.ireturn, 1) := by decide +kernel
theorem dX8_clear_0 : decode cX8_clear 0 = .ok (.aload_n 0, 1) := by decide +kernel
theorem dX8_clear_1 : decode cX8_clear 1 = .ok (.getfield 96, 3) := by decide +kernel
theorem dX8_clear_4 : decode cX8_clear 4 = .ok (.istore_n 1, 1) := by decide +kernel
theorem dX8_clear_5 : decode cX8_clear 5 = .ok (.aload_n 0, 1) := by decide +kernel
theorem dX8_clear_6 : decode cX8_clear 6 = .ok (.iconst 0, 1) := by decide +kernel
theorem dX8_clear_7 : decode cX8_clear 7 = .ok (.putfield 96, 3) := by decide +kernel
theorem dX8_clear_10 : decode cX8_clear 10 = .ok (.iload_n 1, 1) := by decide +kernel
theorem dX8_clear_11 : decode cX8_clear 11 = .ok (.ireturn, 1) := by decide +kernel
theorem dX8_grid_0 : decode cX8_grid 0 = .ok (.aload_n 0, 1) := by decide +kernel
theorem dX8_grid_1 : decode cX8_grid 1 = .ok (.invokevirtual 124, 3) := by decide +kernel
theorem dX8_grid_4 : decode cX8_grid 4 = .ok (.ifCond .ne 11, 3) := by decide +kernel
theorem dX8_grid_7 : decode cX8_grid 7 = .ok (.bipush (-10), 2) := by decide +kernel
theorem dX8_grid_9 : decode cX8_grid 9 = .ok (.aload_n 0, 1) := by decide +kernel
theorem dX8_grid_10 : decode cX8_grid 10 = .ok (.getfield 93, 3) := by decide +kernel
theorem dX8_grid_13 : decode cX8_grid 13 = .ok (.isub, 1) := by decide +kernel
theorem dX8_grid_14 : decode cX8_grid 14 = .ok (.ireturn, 1) := by decide +kernel
theorem dX8_grid_15 : decode cX8_grid 15 = .ok (.aload_n 0, 1) := by decide +kernel
theorem dX8_grid_16 : decode cX8_grid 16 = .ok (.aload_n 0, 1) := by decide +kernel
theorem dX8_grid_17 : decode cX8_grid 17 = .ok (.getfield 113, 3) := by decide +kernel
theorem dX8_grid_20 : decode cX8_grid 20 = .ok (.putfield 7, 3) := by decide +kernel
theorem dX8_grid_23 : decode cX8_grid 23 = .ok (.aload_n 0, 1) := by decide +kernel
theorem dX8_grid_24 : decode cX8_grid 24 = .ok (.aload_n 0, 1) := by decide +kernel
theorem dX8_grid_25 : decode cX8_grid 25 = .ok (.getfield 110, 3) := by decide +kernel
theorem dX8_grid_28 : decode cX8_grid 28 = .ok (.putfield 13, 3) := by decide +kernel
theorem dX8_grid_31 : decode cX8_grid 31 = .ok (.aload_n 0, 1) := by decide +kernel
theorem dX8_grid_32 : decode cX8_grid 32 = .ok (.invokevirtual 58, 3) := by decide +kernel
theorem dX8_grid_35 : decode cX8_grid 35 = .ok (.aload_n 0, 1) := by decide +kernel
theorem dX8_grid_36 : decode cX8_grid 36 = .ok (.aload_n 0, 1) := by decide +kernel
theorem dX8_grid_37 : decode cX8_grid 37 = .ok (.getfield 116, 3) := by decide +kernel
theorem dX8_grid_40 : decode cX8_grid 40 = .ok (.putfield 52, 3) := by decide +kernel
theorem dX8_grid_43 : decode cX8_grid 43 = .ok (.aload_n 0, 1) := by decide +kernel
theorem dX8_grid_44 : decode cX8_grid 44 = .ok (.getfield 16, 3) := by decide +kernel
theorem dX8_grid_47 : decode cX8_grid 47 = .ok (.istore_n 1, 1) := by decide +kernel
theorem dX8_grid_48 : decode cX8_grid 48 = .ok (.iload_n 1, 1) := by decide +kernel
theorem dX8_grid_49 : decode cX8_grid 49 = .ok (.bipush 16, 2) := by decide +kernel
theorem dX8_grid_51 : decode cX8_grid 51 = .ok (.if_icmp .ge 25, 3) := by decide +kernel
theorem dX8_grid_54 : decode cX8_grid 54 = .ok (.aload_n 0, 1) := by decide +kernel
theorem dX8_grid_55 : decode cX8_grid 55 = .ok (.dup, 1) := by decide +kernel
theorem dX8_grid_56 : decode cX8_grid 56 = .ok (.getfield 52, 3) := by decide +kernel
theorem dX8_grid_59 : decode cX8_grid 59 = .ok (.ldc2_w 56, 3) := by decide +kernel
theorem dX8_grid_62 : decode cX8_grid 62 = .ok (.iconst 3, 1) := by decide +kernel
theorem dX8_grid_63 : decode cX8_grid 63 = .ok (.iload_n 1, 1) := by decide +kernel
theorem dX8_grid_64 : decode cX8_grid 64 = .ok (.imul, 1) := by decide +kernel
theorem dX8_grid_65 : decode cX8_grid 65 = .ok (.lshl, 1) := by decide +kernel
theorem dX8_grid_66 : decode cX8_grid 66 = .ok (.lor, 1) := by decide +kernel
theorem dX8_grid_67 : decode cX8_grid 67 = .ok (.putfield 52, 3) := by decide +kernel
theorem dX8_grid_70 : decode cX8_grid 70 = .ok (.iinc 1 1, 3) := by decide +kernel
theorem dX8_grid_73 : decode cX8_grid 73 = .ok (.goto (-25), 3) := by decide +kernel
theorem dX8_grid_76 : decode cX8_grid 76 = .ok (.aload_n 0, 1) := by decide +kernel
theorem dX8_grid_77 : decode cX8_grid 77 = .ok (.lconst 0, 1) := by decide +kernel
theorem dX8_grid_78 : decode cX8_grid 78 = .ok (.putfield 83, 3) := by decide +kernel
theorem dX8_grid_81 : decode cX8_grid 81 = .ok (.aload_n 0, 1) := by decide +kernel
theorem dX8_grid_82 : decode cX8_grid 82 = .ok (.lconst 0, 1) := by decide +kernel
theorem dX8_grid_83 : decode cX8_grid 83 = .ok (.putfield 88, 3) := by decide +kernel
theorem dX8_grid_86 : decode cX8_grid 86 = .ok (.aload_n 0, 1) := by decide +kernel
theorem dX8_grid_87 : decode cX8_grid 87 = .ok (.iconst 0, 1) := by decide +kernel
theorem dX8_grid_88 : decode cX8_grid 88 = .ok (.putfield 96, 3) := by decide +kernel
theorem dX8_grid_91 : decode cX8_grid 91 = .ok (.aload_n 0, 1) := by decide +kernel
theorem dX8_grid_92 : decode cX8_grid 92 = .ok (.iconst 0, 1) := by decide +kernel
theorem dX8_grid_93 : decode cX8_grid 93 = .ok (.putfield 127, 3) := by decide +kernel
theorem dX8_grid_96 : decode cX8_grid 96 = .ok (.aload_n 0, 1) := by decide +kernel
theorem dX8_grid_97 : decode cX8_grid 97 = .ok (.getfield 42, 3) := by decide +kernel
theorem dX8_grid_100 : decode cX8_grid 100 = .ok (.iconst 0, 1) := by decide +kernel
theorem dX8_grid_101 : decode cX8_grid 101 = .ok (.iconst 0, 1) := by decide +kernel
theorem dX8_grid_102 : decode cX8_grid 102 = .ok (.bastore, 1) := by decide +kernel
theorem dX8_grid_103 : decode cX8_grid 103 = .ok (.aload_n 0, 1) := by decide +kernel
theorem dX8_grid_104 : decode cX8_grid 104 = .ok (.getfield 42, 3) := by decide +kernel
theorem dX8_grid_107 : decode cX8_grid 107 = .ok (.iconst 1, 1) := by decide +kernel
theorem dX8_grid_108 : decode cX8_grid 108 = .ok (.iconst 0, 1) := by decide +kernel
theorem dX8_grid_109 : decode cX8_grid 109 = .ok (.bastore, 1) := by decide +kernel
theorem dX8_grid_110 : decode cX8_grid 110 = .ok (.aload_n 0, 1) := by decide +kernel
theorem dX8_grid_111 : decode cX8_grid 111 = .ok (.getfield 110, 3) := by decide +kernel
theorem dX8_grid_114 : decode cX8_grid 114 = .ok (.ireturn, 1) := by decide +kernel
theorem dX8_isCell_0 : decode cX8_isCell 0 = .ok (.iload_n 1, 1) := by decide +kernel
theorem dX8_isCell_1 : decode cX8_isCell 1 = .ok (.i2l, 1) := by decide +kernel
theorem dX8_isCell_2 : decode cX8_isCell 2 = .ok (.lconst 0, 1) := by decide +kernel
theorem dX8_isCell_3 : decode cX8_isCell 3 = .ok (.aload_n 0, 1) := by decide +kernel
theorem dX8_isCell_4 : decode cX8_isCell 4 = .ok (.getfield 16, 3) := by decide +kernel
theorem dX8_isCell_7 : decode cX8_isCell 7 = .ok (.iconst 1, 1) := by decide +kernel
theorem dX8_isCell_8 : decode cX8_isCell 8 = .ok (.isub, 1) := by decide +kernel
theorem dX8_isCell_9 : decode cX8_isCell 9 = .ok (.i2l, 1) := by decide +kernel
theorem dX8_isCell_10 : decode cX8_isCell 10 = .ok (.invokestatic 61, 3) := by decide +kernel
theorem dX8_isCell_13 : decode cX8_isCell 13 = .ok (.ireturn, 1) := by decide +kernel
theorem dX8_isSide_0 : decode cX8_isSide 0 = .ok (.iload_n 1, 1) := by decide +kernel
theorem dX8_isSide_1 : decode cX8_isSide 1 = .ok (.i2l, 1) := by decide +kernel
theorem dX8_isSide_2 : decode cX8_isSide 2 = .ok (.lconst 0, 1) := by decide +kernel
theorem dX8_isSide_3 : decode cX8_isSide 3 = .ok (.aload_n 0, 1) := by decide +kernel
theorem dX8_isSide_4 : decode cX8_isSide 4 = .ok (.getfield 19, 3) := by decide +kernel
theorem dX8_isSide_7 : decode cX8_isSide 7 = .ok (.iconst 1, 1) := by decide +kernel
theorem dX8_isSide_8 : decode cX8_isSide 8 = .ok (.isub, 1) := by decide +kernel
theorem dX8_isSide_9 : decode cX8_isSide 9 = .ok (.i2l, 1) := by decide +kernel
theorem dX8_isSide_10 : decode cX8_isSide 10 = .ok (.invokestatic 61, 3) := by decide +kernel
theorem dX8_isSide_13 : decode cX8_isSide 13 = .ok (.ireturn, 1) := by decide +kernel
theorem dX8_number_0 : decode cX8_number 0 = .ok (.aload_n 0, 1) := by decide +kernel
theorem dX8_number_1 : decode cX8_number 1 = .ok (.iload_n 1, 1) := by decide +kernel
theorem dX8_number_2 : decode cX8_number 2 = .ok (.invokevirtual 130, 3) := by decide +kernel
theorem dX8_number_5 : decode cX8_number 5 = .ok (.ifCond .ne 7, 3) := by decide +kernel
theorem dX8_number_8 : decode cX8_number 8 = .ok (.iconst (-1), 1) := by decide +kernel
theorem dX8_number_9 : decode cX8_number 9 = .ok (.goto 22, 3) := by decide +kernel
theorem dX8_number_12 : decode cX8_number 12 = .ok (.aload_n 0, 1) := by decide +kernel
theorem dX8_number_13 : decode cX8_number 13 = .ok (.iload_n 1, 1) := by decide +kernel
theorem dX8_number_14 : decode cX8_number 14 = .ok (.invokevirtual 134, 3) := by decide +kernel
theorem dX8_number_17 : decode cX8_number 17 = .ok (.iconst 5, 1) := by decide +kernel
theorem dX8_number_18 : decode cX8_number 18 = .ok (.if_icmp .ne 8, 3) := by decide +kernel
theorem dX8_number_21 : decode cX8_number 21 = .ok (.bipush (-9), 2) := by decide +kernel
theorem dX8_number_23 : decode cX8_number 23 = .ok (.goto 8, 3) := by decide +kernel
theorem dX8_number_26 : decode cX8_number 26 = .ok (.aload_n 0, 1) := by decide +kernel
theorem dX8_number_27 : decode cX8_number 27 = .ok (.iload_n 1, 1) := by decide +kernel
theorem dX8_number_28 : decode cX8_number 28 = .ok (.invokevirtual 134, 3) := by decide +kernel
theorem dX8_number_31 : decode cX8_number 31 = .ok (.ireturn, 1) := by decide +kernel
theorem dX8_side_0 : decode cX8_side 0 = .ok (.aload_n 0, 1) := by decide +kernel
theorem dX8_side_1 : decode cX8_side 1 = .ok (.iload_n 1, 1) := by decide +kernel
theorem dX8_side_2 : decode cX8_side 2 = .ok (.invokevirtual 138, 3) := by decide +kernel
theorem dX8_side_5 : decode cX8_side 5 = .ok (.ifCond .ne 7, 3) := by decide +kernel
theorem dX8_side_8 : decode cX8_side 8 = .ok (.iconst (-1), 1) := by decide +kernel
theorem dX8_side_9 : decode cX8_side 9 = .ok (.goto 34, 3) := by decide +kernel
theorem dX8_side_12 : decode cX8_side 12 = .ok (.aload_n 0, 1) := by decide +kernel
theorem dX8_side_13 : decode cX8_side 13 = .ok (.getfield 83, 3) := by decide +kernel
theorem dX8_side_16 : decode cX8_side 16 = .ok (.iload_n 1, 1) := by decide +kernel
theorem dX8_side_17 : decode cX8_side 17 = .ok (.invokestatic 141, 3) := by decide +kernel
theorem dX8_side_20 : decode cX8_side 20 = .ok (.ifCond .eq 7, 3) := by decide +kernel
theorem dX8_side_23 : decode cX8_side 23 = .ok (.iconst 1, 1) := by decide +kernel
theorem dX8_side_24 : decode cX8_side 24 = .ok (.goto 19, 3) := by decide +kernel
theorem dX8_side_27 : decode cX8_side 27 = .ok (.aload_n 0, 1) := by decide +kernel
theorem dX8_side_28 : decode cX8_side 28 = .ok (.getfield 88, 3) := by decide +kernel
theorem dX8_side_31 : decode cX8_side 31 = .ok (.iload_n 1, 1) := by decide +kernel
theorem dX8_side_32 : decode cX8_side 32 = .ok (.invokestatic 141, 3) := by decide +kernel
theorem dX8_side_35 : decode cX8_side 35 = .ok (.ifCond .eq 7, 3) := by decide +kernel
theorem dX8_side_38 : decode cX8_side 38 = .ok (.iconst 2, 1) := by decide +kernel
theorem dX8_side_39 : decode cX8_side 39 = .ok (.goto 4, 3) := by decide +kernel
theorem dX8_side_42 : decode cX8_side 42 = .ok (.iconst 0, 1) := by decide +kernel
theorem dX8_side_43 : decode cX8_side 43 = .ok (.ireturn, 1) := by decide +kernel
theorem dX8_sideOfCell_0 : decode cX8_sideOfCell 0 = .ok (.iload_n 1, 1) := by decide +kernel
theorem dX8_sideOfCell_1 : decode cX8_sideOfCell 1 = .ok (.aload_n 0, 1) := by decide +kernel
theorem dX8_sideOfCell_2 : decode cX8_sideOfCell 2 = .ok (.getfield 7, 3) := by decide +kernel
theorem dX8_sideOfCell_5 : decode cX8_sideOfCell 5 = .ok (.irem, 1) := by decide +kernel
theorem dX8_sideOfCell_6 : decode cX8_sideOfCell 6 = .ok (.istore_n 3, 1) := by decide +kernel
theorem dX8_sideOfCell_7 : decode cX8_sideOfCell 7 = .ok (.iload_n 1, 1) := by decide +kernel
theorem dX8_sideOfCell_8 : decode cX8_sideOfCell 8 = .ok (.aload_n 0, 1) := by decide +kernel
theorem dX8_sideOfCell_9 : decode cX8_sideOfCell 9 = .ok (.getfield 7, 3) := by decide +kernel
theorem dX8_sideOfCell_12 : decode cX8_sideOfCell 12 = .ok (.idiv, 1) := by decide +kernel
theorem dX8_sideOfCell_13 : decode cX8_sideOfCell 13 = .ok (.istore 4, 2) := by decide +kernel
theorem dX8_sideOfCell_15 : decode cX8_sideOfCell 15 = .ok (.iload_n 2, 1) := by decide +kernel
theorem dX8_sideOfCell_16 : decode cX8_sideOfCell 16 = .ok (.ifCond .ne 13, 3) := by decide +kernel
theorem dX8_sideOfCell_19 : decode cX8_sideOfCell 19 = .ok (.aload_n 0, 1) := by decide +kernel
theorem dX8_sideOfCell_20 : decode cX8_sideOfCell 20 = .ok (.iload_n 3, 1) := by decide +kernel
theorem dX8_sideOfCell_21 : decode cX8_sideOfCell 21 = .ok (.iload 4, 2) := by decide +kernel
theorem dX8_sideOfCell_23 : decode cX8_sideOfCell 23 = .ok (.invokevirtual 65, 3) := by decide +kernel
theorem dX8_sideOfCell_26 : decode cX8_sideOfCell 26 = .ok (.goto 44, 3) := by decide +kernel
theorem dX8_sideOfCell_29 : decode cX8_sideOfCell 29 = .ok (.iload_n 2, 1) := by decide +kernel
theorem dX8_sideOfCell_30 : decode cX8_sideOfCell 30 = .ok (.iconst 1, 1) := by decide +kernel
theorem dX8_sideOfCell_31 : decode cX8_sideOfCell 31 = .ok (.if_icmp .ne 15, 3) := by decide +kernel
theorem dX8_sideOfCell_34 : decode cX8_sideOfCell 34 = .ok (.aload_n 0, 1) := by decide +kernel
theorem dX8_sideOfCell_35 : decode cX8_sideOfCell 35 = .ok (.iload_n 3, 1) := by decide +kernel
theorem dX8_sideOfCell_36 : decode cX8_sideOfCell 36 = .ok (.iload 4, 2) := by decide +kernel
theorem dX8_sideOfCell_38 : decode cX8_sideOfCell 38 = .ok (.iconst 1, 1) := by decide +kernel
theorem dX8_sideOfCell_39 : decode cX8_sideOfCell 39 = .ok (.iadd, 1) := by decide +kernel
theorem dX8_sideOfCell_40 : decode cX8_sideOfCell 40 = .ok (.invokevirtual 65, 3) := by decide +kernel
theorem dX8_sideOfCell_43 : decode cX8_sideOfCell 43 = .ok (.goto 27, 3) := by decide +kernel
theorem dX8_sideOfCell_46 : decode cX8_sideOfCell 46 = .ok (.iload_n 2, 1) := by decide +kernel
theorem dX8_sideOfCell_47 : decode cX8_sideOfCell 47 = .ok (.iconst 2, 1) := by decide +kernel
theorem dX8_sideOfCell_48 : decode cX8_sideOfCell 48 = .ok (.if_icmp .ne 13, 3) := by decide +kernel
theorem dX8_sideOfCell_51 : decode cX8_sideOfCell 51 = .ok (.aload_n 0, 1) := by decide +kernel
theorem dX8_sideOfCell_52 : decode cX8_sideOfCell 52 = .ok (.iload_n 3, 1) := by decide +kernel
theorem dX8_sideOfCell_53 : decode cX8_sideOfCell 53 = .ok (.iload 4, 2) := by decide +kernel
theorem dX8_sideOfCell_55 : decode cX8_sideOfCell 55 = .ok (.invokevirtual 76, 3) := by decide +kernel
theorem dX8_sideOfCell_58 : decode cX8_sideOfCell 58 = .ok (.goto 12, 3) := by decide +kernel
theorem dX8_sideOfCell_61 : decode cX8_sideOfCell 61 = .ok (.aload_n 0, 1) := by decide +kernel
theorem dX8_sideOfCell_62 : decode cX8_sideOfCell 62 = .ok (.iload_n 3, 1) := by decide +kernel
theorem dX8_sideOfCell_63 : decode cX8_sideOfCell 63 = .ok (.iconst 1, 1) := by decide +kernel
theorem dX8_sideOfCell_64 : decode cX8_sideOfCell 64 = .ok (.iadd, 1) := by decide +kernel
theorem dX8_sideOfCell_65 : decode cX8_sideOfCell 65 = .ok (.iload 4, 2) := by decide +kernel
theorem dX8_sideOfCell_67 : decode cX8_sideOfCell 67 = .ok (.invokevirtual 76, 3) := by decide +kernel
theorem dX8_sideOfCell_70 : decode cX8_sideOfCell 70 = .ok (.ireturn, 1) := by decide +kernel
theorem dX8_sideOfPoint_0 : decode cX8_sideOfPoint 0 = .ok (.iload_n 1, 1) := by decide +kernel
theorem dX8_sideOfPoint_1 : decode cX8_sideOfPoint 1 = .ok (.aload_n 0, 1) := by decide +kernel
theorem dX8_sideOfPoint_2 : decode cX8_sideOfPoint 2 = .ok (.getfield 7, 3) := by decide +kernel
theorem dX8_sideOfPoint_5 : decode cX8_sideOfPoint 5 = .ok (.iconst 1, 1) := by decide +kernel
theorem dX8_sideOfPoint_6 : decode cX8_sideOfPoint 6 = .ok (.iadd, 1) := by decide +kernel
theorem dX8_sideOfPoint_7 : decode cX8_sideOfPoint 7 = .ok (.irem, 1) := by decide +kernel
theorem dX8_sideOfPoint_8 : decode cX8_sideOfPoint 8 = .ok (.istore_n 3, 1) := by decide +kernel
theorem dX8_sideOfPoint_9 : decode cX8_sideOfPoint 9 = .ok (.iload_n 1, 1) := by decide +kernel
theorem dX8_sideOfPoint_10 : decode cX8_sideOfPoint 10 = .ok (.aload_n 0, 1) := by decide +kernel
theorem dX8_sideOfPoint_11 : decode cX8_sideOfPoint 11 = .ok (.getfield 7, 3) := by decide +kernel
theorem dX8_sideOfPoint_14 : decode cX8_sideOfPoint 14 = .ok (.iconst 1, 1) := by decide +kernel
theorem dX8_sideOfPoint_15 : decode cX8_sideOfPoint 15 = .ok (.iadd, 1) := by decide +kernel
theorem dX8_sideOfPoint_16 : decode cX8_sideOfPoint 16 = .ok (.idiv, 1) := by decide +kernel
theorem dX8_sideOfPoint_17 : decode cX8_sideOfPoint 17 = .ok (.istore 4, 2) := by decide +kernel
theorem dX8_sideOfPoint_19 : decode cX8_sideOfPoint 19 = .ok (.iload_n 2, 1) := by decide +kernel
theorem dX8_sideOfPoint_20 : decode cX8_sideOfPoint 20 = .ok (.tableswitch 88 0 2 #[28, 47, 68], 28) := by decide +kernel
theorem dX8_sideOfPoint_48 : decode cX8_sideOfPoint 48 = .ok (.iload_n 3, 1) := by decide +kernel
theorem dX8_sideOfPoint_49 : decode cX8_sideOfPoint 49 = .ok (.ifCond .le 15, 3) := by decide +kernel
theorem dX8_sideOfPoint_52 : decode cX8_sideOfPoint 52 = .ok (.aload_n 0, 1) := by decide +kernel
theorem dX8_sideOfPoint_53 : decode cX8_sideOfPoint 53 = .ok (.iload_n 3, 1) := by decide +kernel
theorem dX8_sideOfPoint_54 : decode cX8_sideOfPoint 54 = .ok (.iconst 1, 1) := by decide +kernel
theorem dX8_sideOfPoint_55 : decode cX8_sideOfPoint 55 = .ok (.isub, 1) := by decide +kernel
theorem dX8_sideOfPoint_56 : decode cX8_sideOfPoint 56 = .ok (.iload 4, 2) := by decide +kernel
theorem dX8_sideOfPoint_58 : decode cX8_sideOfPoint 58 = .ok (.invokevirtual 65, 3) := by decide +kernel
theorem dX8_sideOfPoint_61 : decode cX8_sideOfPoint 61 = .ok (.goto 5, 3) := by decide +kernel
theorem dX8_sideOfPoint_64 : decode cX8_sideOfPoint 64 = .ok (.bipush (-9), 2) := by decide +kernel
theorem dX8_sideOfPoint_66 : decode cX8_sideOfPoint 66 = .ok (.ireturn, 1) := by decide +kernel
theorem dX8_sideOfPoint_67 : decode cX8_sideOfPoint 67 = .ok (.iload_n 3, 1) := by decide +kernel
theorem dX8_sideOfPoint_68 : decode cX8_sideOfPoint 68 = .ok (.aload_n 0, 1) := by decide +kernel
theorem dX8_sideOfPoint_69 : decode cX8_sideOfPoint 69 = .ok (.getfield 7, 3) := by decide +kernel
theorem dX8_sideOfPoint_72 : decode cX8_sideOfPoint 72 = .ok (.if_icmp .ge 13, 3) := by decide +kernel
theorem dX8_sideOfPoint_75 : decode cX8_sideOfPoint 75 = .ok (.aload_n 0, 1) := by decide +kernel
theorem dX8_sideOfPoint_76 : decode cX8_sideOfPoint 76 = .ok (.iload_n 3, 1) := by decide +kernel
theorem dX8_sideOfPoint_77 : decode cX8_sideOfPoint 77 = .ok (.iload 4, 2) := by decide +kernel
theorem dX8_sideOfPoint_79 : decode cX8_sideOfPoint 79 = .ok (.invokevirtual 65, 3) := by decide +kernel
theorem dX8_sideOfPoint_82 : decode cX8_sideOfPoint 82 = .ok (.goto 5, 3) := by decide +kernel
theorem dX8_sideOfPoint_85 : decode cX8_sideOfPoint 85 = .ok (.bipush (-9), 2) := by decide +kernel
theorem dX8_sideOfPoint_87 : decode cX8_sideOfPoint 87 = .ok (.ireturn, 1) := by decide +kernel
theorem dX8_sideOfPoint_88 : decode cX8_sideOfPoint 88 = .ok (.iload 4, 2) := by decide +kernel
theorem dX8_sideOfPoint_90 : decode cX8_sideOfPoint 90 = .ok (.ifCond .le 15, 3) := by decide +kernel
theorem dX8_sideOfPoint_93 : decode cX8_sideOfPoint 93 = .ok (.aload_n 0, 1) := by decide +kernel
theorem dX8_sideOfPoint_94 : decode cX8_sideOfPoint 94 = .ok (.iload_n 3, 1) := by decide +kernel
theorem dX8_sideOfPoint_95 : decode cX8_sideOfPoint 95 = .ok (.iload 4, 2) := by decide +kernel
theorem dX8_sideOfPoint_97 : decode cX8_sideOfPoint 97 = .ok (.iconst 1, 1) := by decide +kernel
theorem dX8_sideOfPoint_98 : decode cX8_sideOfPoint 98 = .ok (.isub, 1) := by decide +kernel
theorem dX8_sideOfPoint_99 : decode cX8_sideOfPoint 99 = .ok (.invokevirtual 76, 3) := by decide +kernel
theorem dX8_sideOfPoint_102 : decode cX8_sideOfPoint 102 = .ok (.goto 5, 3) := by decide +kernel
theorem dX8_sideOfPoint_105 : decode cX8_sideOfPoint 105 = .ok (.bipush (-9), 2) := by decide +kernel
theorem dX8_sideOfPoint_107 : decode cX8_sideOfPoint 107 = .ok (.ireturn, 1) := by decide +kernel
theorem dX8_sideOfPoint_108 : decode cX8_sideOfPoint 108 = .ok (.iload 4, 2) := by decide +kernel
theorem dX8_sideOfPoint_110 : decode cX8_sideOfPoint 110 = .ok (.aload_n 0, 1) := by decide +kernel
theorem dX8_sideOfPoint_111 : decode cX8_sideOfPoint 111 = .ok (.getfield 13, 3) := by decide +kernel
theorem dX8_sideOfPoint_114 : decode cX8_sideOfPoint 114 = .ok (.if_icmp .ge 13, 3) := by decide +kernel
theorem dX8_sideOfPoint_117 : decode cX8_sideOfPoint 117 = .ok (.aload_n 0, 1) := by decide +kernel
theorem dX8_sideOfPoint_118 : decode cX8_sideOfPoint 118 = .ok (.iload_n 3, 1) := by decide +kernel
theorem dX8_sideOfPoint_119 : decode cX8_sideOfPoint 119 = .ok (.iload 4, 2) := by decide +kernel
theorem dX8_sideOfPoint_121 : decode cX8_sideOfPoint 121 = .ok (.invokevirtual 76, 3) := by decide +kernel
theorem dX8_sideOfPoint_124 : decode cX8_sideOfPoint 124 = .ok (.goto 5, 3) := by decide +kernel
theorem dX8_sideOfPoint_127 : decode cX8_sideOfPoint 127 = .ok (.bipush (-9), 2) := by decide +kernel
theorem dX8_sideOfPoint_129 : decode cX8_sideOfPoint 129 = .ok (.ireturn, 1) := by decide +kernel
theorem dX8_sideOf_0 : decode cX8_sideOf 0 = .ok (.iload_n 1, 1) := by decide +kernel
theorem dX8_sideOf_1 : decode cX8_sideOf 1 = .ok (.i2l, 1) := by decide +kernel
theorem dX8_sideOf_2 : decode cX8_sideOf 2 = .ok (.lconst 0, 1) := by decide +kernel
theorem dX8_sideOf_3 : decode cX8_sideOf 3 = .ok (.lconst 1, 1) := by decide +kernel
theorem dX8_sideOf_4 : decode cX8_sideOf 4 = .ok (.invokestatic 61, 3) := by decide +kernel
theorem dX8_sideOf_7 : decode cX8_sideOf 7 = .ok (.ifCond .eq 42, 3) := by decide +kernel
theorem dX8_sideOf_10 : decode cX8_sideOf 10 = .ok (.iload_n 2, 1) := by decide +kernel
theorem dX8_sideOf_11 : decode cX8_sideOf 11 = .ok (.i2l, 1) := by decide +kernel
theorem dX8_sideOf_12 : decode cX8_sideOf 12 = .ok (.lconst 0, 1) := by decide +kernel
theorem dX8_sideOf_13 : decode cX8_sideOf 13 = .ok (.iload_n 1, 1) := by decide +kernel
theorem dX8_sideOf_14 : decode cX8_sideOf 14 = .ok (.ifCond .ne 10, 3) := by decide +kernel
theorem dX8_sideOf_17 : decode cX8_sideOf 17 = .ok (.aload_n 0, 1) := by decide +kernel
theorem dX8_sideOf_18 : decode cX8_sideOf 18 = .ok (.getfield 16, 3) := by decide +kernel
theorem dX8_sideOf_21 : decode cX8_sideOf 21 = .ok (.goto 7, 3) := by decide +kernel
theorem dX8_sideOf_24 : decode cX8_sideOf 24 = .ok (.aload_n 0, 1) := by decide +kernel
theorem dX8_sideOf_25 : decode cX8_sideOf 25 = .ok (.invokevirtual 145, 3) := by decide +kernel
theorem dX8_sideOf_28 : decode cX8_sideOf 28 = .ok (.iconst 1, 1) := by decide +kernel
theorem dX8_sideOf_29 : decode cX8_sideOf 29 = .ok (.isub, 1) := by decide +kernel
theorem dX8_sideOf_30 : decode cX8_sideOf 30 = .ok (.i2l, 1) := by decide +kernel
theorem dX8_sideOf_31 : decode cX8_sideOf 31 = .ok (.invokestatic 61, 3) := by decide +kernel
theorem dX8_sideOf_34 : decode cX8_sideOf 34 = .ok (.ifCond .eq 15, 3) := by decide +kernel
theorem dX8_sideOf_37 : decode cX8_sideOf 37 = .ok (.iload_n 3, 1) := by decide +kernel
theorem dX8_sideOf_38 : decode cX8_sideOf 38 = .ok (.i2l, 1) := by decide +kernel
theorem dX8_sideOf_39 : decode cX8_sideOf 39 = .ok (.lconst 0, 1) := by decide +kernel
theorem dX8_sideOf_40 : decode cX8_sideOf 40 = .ok (.ldc2_w 149, 3) := by decide +kernel
theorem dX8_sideOf_43 : decode cX8_sideOf 43 = .ok (.invokestatic 61, 3) := by decide +kernel
theorem dX8_sideOf_46 : decode cX8_sideOf 46 = .ok (.ifCond .ne 5, 3) := by decide +kernel
theorem dX8_sideOf_49 : decode cX8_sideOf 49 = .ok (.iconst (-1), 1) := by decide +kernel
theorem dX8_sideOf_50 : decode cX8_sideOf 50 = .ok (.ireturn, 1) := by decide +kernel
theorem dX8_sideOf_51 : decode cX8_sideOf 51 = .ok (.iload_n 1, 1) := by decide +kernel
theorem dX8_sideOf_52 : decode cX8_sideOf 52 = .ok (.ifCond .ne 12, 3) := by decide +kernel
theorem dX8_sideOf_55 : decode cX8_sideOf 55 = .ok (.aload_n 0, 1) := by decide +kernel
theorem dX8_sideOf_56 : decode cX8_sideOf 56 = .ok (.iload_n 2, 1) := by decide +kernel
theorem dX8_sideOf_57 : decode cX8_sideOf 57 = .ok (.iload_n 3, 1) := by decide +kernel
theorem dX8_sideOf_58 : decode cX8_sideOf 58 = .ok (.invokevirtual 151, 3) := by decide +kernel
theorem dX8_sideOf_61 : decode cX8_sideOf 61 = .ok (.goto 9, 3) := by decide +kernel
theorem dX8_sideOf_64 : decode cX8_sideOf 64 = .ok (.aload_n 0, 1) := by decide +kernel
theorem dX8_sideOf_65 : decode cX8_sideOf 65 = .ok (.iload_n 2, 1) := by decide +kernel
theorem dX8_sideOf_66 : decode cX8_sideOf 66 = .ok (.iload_n 3, 1) := by decide +kernel
theorem dX8_sideOf_67 : decode cX8_sideOf 67 = .ok (.invokevirtual 154, 3) := by decide +kernel
theorem dX8_sideOf_70 : decode cX8_sideOf 70 = .ok (.ireturn, 1) := by decide +kernel
theorem dX8_minds_0 : decode cX8_minds 0 = .ok (.aload_n 0, 1) := by decide +kernel
theorem dX8_minds_1 : decode cX8_minds 1 = .ok (.getfield 127, 3) := by decide +kernel
theorem dX8_minds_4 : decode cX8_minds 4 = .ok (.bipush 10, 2) := by decide +kernel
theorem dX8_minds_6 : decode cX8_minds 6 = .ok (.if_icmp .ne 41, 3) := by decide +kernel
theorem dX8_minds_9 : decode cX8_minds 9 = .ok (.iconst 0, 1) := by decide +kernel
theorem dX8_minds_10 : decode cX8_minds 10 = .ok (.istore_n 1, 1) := by decide +kernel
theorem dX8_minds_11 : decode cX8_minds 11 = .ok (.iload_n 1, 1) := by decide +kernel
theorem dX8_minds_12 : decode cX8_minds 12 = .ok (.bipush 27, 2) := by decide +kernel
theorem dX8_minds_14 : decode cX8_minds 14 = .ok (.if_icmp .ge 23, 3) := by decide +kernel
theorem dX8_minds_17 : decode cX8_minds 17 = .ok (.aload_n 0, 1) := by decide +kernel
theorem dX8_minds_18 : decode cX8_minds 18 = .ok (.getfield 36, 3) := by decide +kernel
theorem dX8_minds_21 : decode cX8_minds 21 = .ok (.iload_n 1, 1) := by decide +kernel
theorem dX8_minds_22 : decode cX8_minds 22 = .ok (.aload_n 0, 1) := by decide +kernel
theorem dX8_minds_23 : decode cX8_minds 23 = .ok (.getfield 36, 3) := by decide +kernel
theorem dX8_minds_26 : decode cX8_minds 26 = .ok (.iload_n 1, 1) := by decide +kernel
theorem dX8_minds_27 : decode cX8_minds 27 = .ok (.iconst 3, 1) := by decide +kernel
theorem dX8_minds_28 : decode cX8_minds 28 = .ok (.iadd, 1) := by decide +kernel
theorem dX8_minds_29 : decode cX8_minds 29 = .ok (.laload, 1) := by decide +kernel
theorem dX8_minds_30 : decode cX8_minds 30 = .ok (.lastore, 1) := by decide +kernel
theorem dX8_minds_31 : decode cX8_minds 31 = .ok (.iinc 1 1, 3) := by decide +kernel
theorem dX8_minds_34 : decode cX8_minds 34 = .ok (.goto (-23), 3) := by decide +kernel
theorem dX8_minds_37 : decode cX8_minds 37 = .ok (.aload_n 0, 1) := by decide +kernel
theorem dX8_minds_38 : decode cX8_minds 38 = .ok (.dup, 1) := by decide +kernel
theorem dX8_minds_39 : decode cX8_minds 39 = .ok (.getfield 127, 3) := by decide +kernel
theorem dX8_minds_42 : decode cX8_minds 42 = .ok (.iconst 1, 1) := by decide +kernel
theorem dX8_minds_43 : decode cX8_minds 43 = .ok (.isub, 1) := by decide +kernel
theorem dX8_minds_44 : decode cX8_minds 44 = .ok (.putfield 127, 3) := by decide +kernel
theorem dX8_minds_47 : decode cX8_minds 47 = .ok (.aload_n 0, 1) := by decide +kernel
theorem dX8_minds_48 : decode cX8_minds 48 = .ok (.getfield 36, 3) := by decide +kernel
theorem dX8_minds_51 : decode cX8_minds 51 = .ok (.iconst 3, 1) := by decide +kernel
theorem dX8_minds_52 : decode cX8_minds 52 = .ok (.aload_n 0, 1) := by decide +kernel
theorem dX8_minds_53 : decode cX8_minds 53 = .ok (.getfield 127, 3) := by decide +kernel
theorem dX8_minds_56 : decode cX8_minds 56 = .ok (.imul, 1) := by decide +kernel
theorem dX8_minds_57 : decode cX8_minds 57 = .ok (.aload_n 0, 1) := by decide +kernel
theorem dX8_minds_58 : decode cX8_minds 58 = .ok (.getfield 52, 3) := by decide +kernel
theorem dX8_minds_61 : decode cX8_minds 61 = .ok (.lastore, 1) := by decide +kernel
theorem dX8_minds_62 : decode cX8_minds 62 = .ok (.aload_n 0, 1) := by decide +kernel
theorem dX8_minds_63 : decode cX8_minds 63 = .ok (.getfield 36, 3) := by decide +kernel
theorem dX8_minds_66 : decode cX8_minds 66 = .ok (.iconst 3, 1) := by decide +kernel
theorem dX8_minds_67 : decode cX8_minds 67 = .ok (.aload_n 0, 1) := by decide +kernel
theorem dX8_minds_68 : decode cX8_minds 68 = .ok (.getfield 127, 3) := by decide +kernel
theorem dX8_minds_71 : decode cX8_minds 71 = .ok (.imul, 1) := by decide +kernel
theorem dX8_minds_72 : decode cX8_minds 72 = .ok (.iconst 1, 1) := by decide +kernel
theorem dX8_minds_73 : decode cX8_minds 73 = .ok (.iadd, 1) := by decide +kernel
theorem dX8_minds_74 : decode cX8_minds 74 = .ok (.aload_n 0, 1) := by decide +kernel
theorem dX8_minds_75 : decode cX8_minds 75 = .ok (.getfield 83, 3) := by decide +kernel
theorem dX8_minds_78 : decode cX8_minds 78 = .ok (.lastore, 1) := by decide +kernel
theorem dX8_minds_79 : decode cX8_minds 79 = .ok (.aload_n 0, 1) := by decide +kernel
theorem dX8_minds_80 : decode cX8_minds 80 = .ok (.getfield 36, 3) := by decide +kernel
theorem dX8_minds_83 : decode cX8_minds 83 = .ok (.iconst 3, 1) := by decide +kernel
theorem dX8_minds_84 : decode cX8_minds 84 = .ok (.aload_n 0, 1) := by decide +kernel
theorem dX8_minds_85 : decode cX8_minds 85 = .ok (.getfield 127, 3) := by decide +kernel
theorem dX8_minds_88 : decode cX8_minds 88 = .ok (.imul, 1) := by decide +kernel
theorem dX8_minds_89 : decode cX8_minds 89 = .ok (.iconst 2, 1) := by decide +kernel
theorem dX8_minds_90 : decode cX8_minds 90 = .ok (.iadd, 1) := by decide +kernel
theorem dX8_minds_91 : decode cX8_minds 91 = .ok (.aload_n 0, 1) := by decide +kernel
theorem dX8_minds_92 : decode cX8_minds 92 = .ok (.getfield 88, 3) := by decide +kernel
theorem dX8_minds_95 : decode cX8_minds 95 = .ok (.lastore, 1) := by decide +kernel
theorem dX8_minds_96 : decode cX8_minds 96 = .ok (.aload_n 0, 1) := by decide +kernel
theorem dX8_minds_97 : decode cX8_minds 97 = .ok (.dup, 1) := by decide +kernel
theorem dX8_minds_98 : decode cX8_minds 98 = .ok (.getfield 127, 3) := by decide +kernel
theorem dX8_minds_101 : decode cX8_minds 101 = .ok (.iconst 1, 1) := by decide +kernel
theorem dX8_minds_102 : decode cX8_minds 102 = .ok (.iadd, 1) := by decide +kernel
theorem dX8_minds_103 : decode cX8_minds 103 = .ok (.putfield 127, 3) := by decide +kernel
theorem dX8_minds_106 : decode cX8_minds 106 = .ok (.return_, 1) := by decide +kernel
theorem dX8_sets_0 : decode cX8_sets 0 = .ok (.aload_n 0, 1) := by decide +kernel
theorem dX8_sets_1 : decode cX8_sets 1 = .ok (.iload_n 3, 1) := by decide +kernel
theorem dX8_sets_2 : decode cX8_sets 2 = .ok (.iconst 1, 1) := by decide +kernel
theorem dX8_sets_3 : decode cX8_sets 3 = .ok (.if_icmp .ne 12, 3) := by decide +kernel
theorem dX8_sets_6 : decode cX8_sets 6 = .ok (.aload_n 0, 1) := by decide +kernel
theorem dX8_sets_7 : decode cX8_sets 7 = .ok (.getfield 83, 3) := by decide +kernel
theorem dX8_sets_10 : decode cX8_sets 10 = .ok (.lload_n 1, 1) := by decide +kernel
theorem dX8_sets_11 : decode cX8_sets 11 = .ok (.lor, 1) := by decide +kernel
theorem dX8_sets_12 : decode cX8_sets 12 = .ok (.goto 13, 3) := by decide +kernel
theorem dX8_sets_15 : decode cX8_sets 15 = .ok (.aload_n 0, 1) := by decide +kernel
theorem dX8_sets_16 : decode cX8_sets 16 = .ok (.getfield 83, 3) := by decide +kernel
theorem dX8_sets_19 : decode cX8_sets 19 = .ok (.lload_n 1, 1) := by decide +kernel
theorem dX8_sets_20 : decode cX8_sets 20 = .ok (.ldc2_w 86, 3) := by decide +kernel
theorem dX8_sets_23 : decode cX8_sets 23 = .ok (.lxor, 1) := by decide +kernel
theorem dX8_sets_24 : decode cX8_sets 24 = .ok (.land, 1) := by decide +kernel
theorem dX8_sets_25 : decode cX8_sets 25 = .ok (.putfield 83, 3) := by decide +kernel
theorem dX8_sets_28 : decode cX8_sets 28 = .ok (.aload_n 0, 1) := by decide +kernel
theorem dX8_sets_29 : decode cX8_sets 29 = .ok (.iload_n 3, 1) := by decide +kernel
theorem dX8_sets_30 : decode cX8_sets 30 = .ok (.iconst 2, 1) := by decide +kernel
theorem dX8_sets_31 : decode cX8_sets 31 = .ok (.if_icmp .ne 12, 3) := by decide +kernel
theorem dX8_sets_34 : decode cX8_sets 34 = .ok (.aload_n 0, 1) := by decide +kernel
theorem dX8_sets_35 : decode cX8_sets 35 = .ok (.getfield 88, 3) := by decide +kernel
theorem dX8_sets_38 : decode cX8_sets 38 = .ok (.lload_n 1, 1) := by decide +kernel
theorem dX8_sets_39 : decode cX8_sets 39 = .ok (.lor, 1) := by decide +kernel
theorem dX8_sets_40 : decode cX8_sets 40 = .ok (.goto 13, 3) := by decide +kernel
theorem dX8_sets_43 : decode cX8_sets 43 = .ok (.aload_n 0, 1) := by decide +kernel
theorem dX8_sets_44 : decode cX8_sets 44 = .ok (.getfield 88, 3) := by decide +kernel
theorem dX8_sets_47 : decode cX8_sets 47 = .ok (.lload_n 1, 1) := by decide +kernel
theorem dX8_sets_48 : decode cX8_sets 48 = .ok (.ldc2_w 86, 3) := by decide +kernel
theorem dX8_sets_51 : decode cX8_sets 51 = .ok (.lxor, 1) := by decide +kernel
theorem dX8_sets_52 : decode cX8_sets 52 = .ok (.land, 1) := by decide +kernel
theorem dX8_sets_53 : decode cX8_sets 53 = .ok (.putfield 88, 3) := by decide +kernel
theorem dX8_sets_56 : decode cX8_sets 56 = .ok (.return_, 1) := by decide +kernel
theorem dX8_becomes_0 : decode cX8_becomes 0 = .ok (.aload_n 0, 1) := by decide +kernel
theorem dX8_becomes_1 : decode cX8_becomes 1 = .ok (.aload_n 0, 1) := by decide +kernel
theorem dX8_becomes_2 : decode cX8_becomes 2 = .ok (.getfield 52, 3) := by decide +kernel
theorem dX8_becomes_5 : decode cX8_becomes 5 = .ok (.ldc2_w 91, 3) := by decide +kernel
theorem dX8_becomes_8 : decode cX8_becomes 8 = .ok (.iconst 3, 1) := by decide +kernel
theorem dX8_becomes_9 : decode cX8_becomes 9 = .ok (.iload_n 1, 1) := by decide +kernel
theorem dX8_becomes_10 : decode cX8_becomes 10 = .ok (.imul, 1) := by decide +kernel
theorem dX8_becomes_11 : decode cX8_becomes 11 = .ok (.lshl, 1) := by decide +kernel
theorem dX8_becomes_12 : decode cX8_becomes 12 = .ok (.ldc2_w 86, 3) := by decide +kernel
theorem dX8_becomes_15 : decode cX8_becomes 15 = .ok (.lxor, 1) := by decide +kernel
theorem dX8_becomes_16 : decode cX8_becomes 16 = .ok (.land, 1) := by decide +kernel
theorem dX8_becomes_17 : decode cX8_becomes 17 = .ok (.lload_n 2, 1) := by decide +kernel
theorem dX8_becomes_18 : decode cX8_becomes 18 = .ok (.iconst 3, 1) := by decide +kernel
theorem dX8_becomes_19 : decode cX8_becomes 19 = .ok (.iload_n 1, 1) := by decide +kernel
theorem dX8_becomes_20 : decode cX8_becomes 20 = .ok (.imul, 1) := by decide +kernel
theorem dX8_becomes_21 : decode cX8_becomes 21 = .ok (.lshl, 1) := by decide +kernel
theorem dX8_becomes_22 : decode cX8_becomes 22 = .ok (.lor, 1) := by decide +kernel
theorem dX8_becomes_23 : decode cX8_becomes 23 = .ok (.putfield 52, 3) := by decide +kernel
theorem dX8_becomes_26 : decode cX8_becomes 26 = .ok (.return_, 1) := by decide +kernel
theorem dX8_marks_0 : decode cX8_marks 0 = .ok (.aload_n 0, 1) := by decide +kernel
theorem dX8_marks_1 : decode cX8_marks 1 = .ok (.iload_n 1, 1) := by decide +kernel
theorem dX8_marks_2 : decode cX8_marks 2 = .ok (.invokevirtual 138, 3) := by decide +kernel
theorem dX8_marks_5 : decode cX8_marks 5 = .ok (.ifCond .eq 15, 3) := by decide +kernel
theorem dX8_marks_8 : decode cX8_marks 8 = .ok (.iload_n 2, 1) := by decide +kernel
theorem dX8_marks_9 : decode cX8_marks 9 = .ok (.i2l, 1) := by decide +kernel
theorem dX8_marks_10 : decode cX8_marks 10 = .ok (.lconst 0, 1) := by decide +kernel
theorem dX8_marks_11 : decode cX8_marks 11 = .ok (.ldc2_w 157, 3) := by decide +kernel
theorem dX8_marks_14 : decode cX8_marks 14 = .ok (.invokestatic 61, 3) := by decide +kernel
theorem dX8_marks_17 : decode cX8_marks 17 = .ok (.ifCond .ne 5, 3) := by decide +kernel
theorem dX8_marks_20 : decode cX8_marks 20 = .ok (.iconst (-1), 1) := by decide +kernel
theorem dX8_marks_21 : decode cX8_marks 21 = .ok (.ireturn, 1) := by decide +kernel
theorem dX8_marks_22 : decode cX8_marks 22 = .ok (.aload_n 0, 1) := by decide +kernel
theorem dX8_marks_23 : decode cX8_marks 23 = .ok (.iload_n 1, 1) := by decide +kernel
theorem dX8_marks_24 : decode cX8_marks 24 = .ok (.invokevirtual 159, 3) := by decide +kernel
theorem dX8_marks_27 : decode cX8_marks 27 = .ok (.istore_n 3, 1) := by decide +kernel
theorem dX8_marks_28 : decode cX8_marks 28 = .ok (.iload_n 3, 1) := by decide +kernel
theorem dX8_marks_29 : decode cX8_marks 29 = .ok (.iload_n 2, 1) := by decide +kernel
theorem dX8_marks_30 : decode cX8_marks 30 = .ok (.if_icmp .ne 6, 3) := by decide +kernel
theorem dX8_marks_33 : decode cX8_marks 33 = .ok (.bipush (-2), 2) := by decide +kernel
theorem dX8_marks_35 : decode cX8_marks 35 = .ok (.ireturn, 1) := by decide +kernel
theorem dX8_marks_36 : decode cX8_marks 36 = .ok (.aload_n 0, 1) := by decide +kernel
theorem dX8_marks_37 : decode cX8_marks 37 = .ok (.invokevirtual 162, 3) := by decide +kernel
theorem dX8_marks_40 : decode cX8_marks 40 = .ok (.aload_n 0, 1) := by decide +kernel
theorem dX8_marks_41 : decode cX8_marks 41 = .ok (.lconst 1, 1) := by decide +kernel
theorem dX8_marks_42 : decode cX8_marks 42 = .ok (.iload_n 1, 1) := by decide +kernel
theorem dX8_marks_43 : decode cX8_marks 43 = .ok (.lshl, 1) := by decide +kernel
theorem dX8_marks_44 : decode cX8_marks 44 = .ok (.iload_n 2, 1) := by decide +kernel
theorem dX8_marks_45 : decode cX8_marks 45 = .ok (.invokevirtual 165, 3) := by decide +kernel
theorem dX8_marks_48 : decode cX8_marks 48 = .ok (.iload_n 3, 1) := by decide +kernel
theorem dX8_marks_49 : decode cX8_marks 49 = .ok (.ireturn, 1) := by decide +kernel
theorem dX8_numbers_0 : decode cX8_numbers 0 = .ok (.aload_n 0, 1) := by decide +kernel
theorem dX8_numbers_1 : decode cX8_numbers 1 = .ok (.iload_n 1, 1) := by decide +kernel
theorem dX8_numbers_2 : decode cX8_numbers 2 = .ok (.invokevirtual 130, 3) := by decide +kernel
theorem dX8_numbers_5 : decode cX8_numbers 5 = .ok (.ifCond .eq 17, 3) := by decide +kernel
theorem dX8_numbers_8 : decode cX8_numbers 8 = .ok (.iload_n 2, 1) := by decide +kernel
theorem dX8_numbers_9 : decode cX8_numbers 9 = .ok (.i2l, 1) := by decide +kernel
theorem dX8_numbers_10 : decode cX8_numbers 10 = .ok (.ldc2_w 86, 3) := by decide +kernel
theorem dX8_numbers_13 : decode cX8_numbers 13 = .ok (.ldc2_w 169, 3) := by decide +kernel
theorem dX8_numbers_16 : decode cX8_numbers 16 = .ok (.invokestatic 61, 3) := by decide +kernel
theorem dX8_numbers_19 : decode cX8_numbers 19 = .ok (.ifCond .ne 5, 3) := by decide +kernel
theorem dX8_numbers_22 : decode cX8_numbers 22 = .ok (.iconst (-1), 1) := by decide +kernel
theorem dX8_numbers_23 : decode cX8_numbers 23 = .ok (.ireturn, 1) := by decide +kernel
theorem dX8_numbers_24 : decode cX8_numbers 24 = .ok (.iload_n 2, 1) := by decide +kernel
theorem dX8_numbers_25 : decode cX8_numbers 25 = .ok (.ifCond .ge 7, 3) := by decide +kernel
theorem dX8_numbers_28 : decode cX8_numbers 28 = .ok (.iconst 5, 1) := by decide +kernel
theorem dX8_numbers_29 : decode cX8_numbers 29 = .ok (.goto 4, 3) := by decide +kernel
theorem dX8_numbers_32 : decode cX8_numbers 32 = .ok (.iload_n 2, 1) := by decide +kernel
theorem dX8_numbers_33 : decode cX8_numbers 33 = .ok (.istore_n 3, 1) := by decide +kernel
theorem dX8_numbers_34 : decode cX8_numbers 34 = .ok (.aload_n 0, 1) := by decide +kernel
theorem dX8_numbers_35 : decode cX8_numbers 35 = .ok (.iload_n 1, 1) := by decide +kernel
theorem dX8_numbers_36 : decode cX8_numbers 36 = .ok (.invokevirtual 134, 3) := by decide +kernel
theorem dX8_numbers_39 : decode cX8_numbers 39 = .ok (.iload_n 3, 1) := by decide +kernel
theorem dX8_numbers_40 : decode cX8_numbers 40 = .ok (.if_icmp .ne 6, 3) := by decide +kernel
theorem dX8_numbers_43 : decode cX8_numbers 43 = .ok (.bipush (-2), 2) := by decide +kernel
theorem dX8_numbers_45 : decode cX8_numbers 45 = .ok (.ireturn, 1) := by decide +kernel
theorem dX8_numbers_46 : decode cX8_numbers 46 = .ok (.aload_n 0, 1) := by decide +kernel
theorem dX8_numbers_47 : decode cX8_numbers 47 = .ok (.invokevirtual 162, 3) := by decide +kernel
theorem dX8_numbers_50 : decode cX8_numbers 50 = .ok (.aload_n 0, 1) := by decide +kernel
theorem dX8_numbers_51 : decode cX8_numbers 51 = .ok (.iload_n 1, 1) := by decide +kernel
theorem dX8_numbers_52 : decode cX8_numbers 52 = .ok (.iload_n 3, 1) := by decide +kernel
theorem dX8_numbers_53 : decode cX8_numbers 53 = .ok (.i2l, 1) := by decide +kernel
theorem dX8_numbers_54 : decode cX8_numbers 54 = .ok (.invokevirtual 171, 3) := by decide +kernel
theorem dX8_numbers_57 : decode cX8_numbers 57 = .ok (.iconst 1, 1) := by decide +kernel
theorem dX8_numbers_58 : decode cX8_numbers 58 = .ok (.ireturn, 1) := by decide +kernel
theorem dX8_finds_0 : decode cX8_finds 0 = .ok (.aload_n 0, 1) := by decide +kernel
theorem dX8_finds_1 : decode cX8_finds 1 = .ok (.iload_n 3, 1) := by decide +kernel
theorem dX8_finds_2 : decode cX8_finds 2 = .ok (.putfield 175, 3) := by decide +kernel
theorem dX8_finds_5 : decode cX8_finds 5 = .ok (.aload_n 0, 1) := by decide +kernel
theorem dX8_finds_6 : decode cX8_finds 6 = .ok (.iload_n 1, 1) := by decide +kernel
theorem dX8_finds_7 : decode cX8_finds 7 = .ok (.putfield 178, 3) := by decide +kernel
theorem dX8_finds_10 : decode cX8_finds 10 = .ok (.aload_n 0, 1) := by decide +kernel
theorem dX8_finds_11 : decode cX8_finds 11 = .ok (.iload_n 2, 1) := by decide +kernel
theorem dX8_finds_12 : decode cX8_finds 12 = .ok (.putfield 181, 3) := by decide +kernel
theorem dX8_finds_15 : decode cX8_finds 15 = .ok (.aload_n 0, 1) := by decide +kernel
theorem dX8_finds_16 : decode cX8_finds 16 = .ok (.iload_n 3, 1) := by decide +kernel
theorem dX8_finds_17 : decode cX8_finds 17 = .ok (.iconst 3, 1) := by decide +kernel
theorem dX8_finds_18 : decode cX8_finds 18 = .ok (.if_icmp .ne 7, 3) := by decide +kernel
theorem dX8_finds_21 : decode cX8_finds 21 = .ok (.lconst 0, 1) := by decide +kernel
theorem dX8_finds_22 : decode cX8_finds 22 = .ok (.goto 5, 3) := by decide +kernel
theorem dX8_finds_25 : decode cX8_finds 25 = .ok (.lload 4, 2) := by decide +kernel
theorem dX8_finds_27 : decode cX8_finds 27 = .ok (.putfield 184, 3) := by decide +kernel
theorem dX8_finds_30 : decode cX8_finds 30 = .ok (.iload_n 3, 1) := by decide +kernel
theorem dX8_finds_31 : decode cX8_finds 31 = .ok (.ifCond .eq 7, 3) := by decide +kernel
theorem dX8_finds_34 : decode cX8_finds 34 = .ok (.iconst 1, 1) := by decide +kernel
theorem dX8_finds_35 : decode cX8_finds 35 = .ok (.goto 4, 3) := by decide +kernel
theorem dX8_finds_38 : decode cX8_finds 38 = .ok (.iconst 0, 1) := by decide +kernel
theorem dX8_finds_39 : decode cX8_finds 39 = .ok (.ireturn, 1) := by decide +kernel
theorem dX8_atCells_0 : decode cX8_atCells 0 = .ok (.aload_n 0, 1) := by decide +kernel
theorem dX8_atCells_1 : decode cX8_atCells 1 = .ok (.iload_n 1, 1) := by decide +kernel
theorem dX8_atCells_2 : decode cX8_atCells 2 = .ok (.invokevirtual 134, 3) := by decide +kernel
theorem dX8_atCells_5 : decode cX8_atCells 5 = .ok (.istore_n 2, 1) := by decide +kernel
theorem dX8_atCells_6 : decode cX8_atCells 6 = .ok (.aload_n 0, 1) := by decide +kernel
theorem dX8_atCells_7 : decode cX8_atCells 7 = .ok (.getfield 22, 3) := by decide +kernel
theorem dX8_atCells_10 : decode cX8_atCells 10 = .ok (.iload_n 1, 1) := by decide +kernel
theorem dX8_atCells_11 : decode cX8_atCells 11 = .ok (.laload, 1) := by decide +kernel
theorem dX8_atCells_12 : decode cX8_atCells 12 = .ok (.aload_n 0, 1) := by decide +kernel
theorem dX8_atCells_13 : decode cX8_atCells 13 = .ok (.getfield 83, 3) := by decide +kernel
theorem dX8_atCells_16 : decode cX8_atCells 16 = .ok (.land, 1) := by decide +kernel
theorem dX8_atCells_17 : decode cX8_atCells 17 = .ok (.invokestatic 187, 3) := by decide +kernel
theorem dX8_atCells_20 : decode cX8_atCells 20 = .ok (.istore_n 3, 1) := by decide +kernel
theorem dX8_atCells_21 : decode cX8_atCells 21 = .ok (.aload_n 0, 1) := by decide +kernel
theorem dX8_atCells_22 : decode cX8_atCells 22 = .ok (.getfield 22, 3) := by decide +kernel
theorem dX8_atCells_25 : decode cX8_atCells 25 = .ok (.iload_n 1, 1) := by decide +kernel
theorem dX8_atCells_26 : decode cX8_atCells 26 = .ok (.laload, 1) := by decide +kernel
theorem dX8_atCells_27 : decode cX8_atCells 27 = .ok (.aload_n 0, 1) := by decide +kernel
theorem dX8_atCells_28 : decode cX8_atCells 28 = .ok (.invokevirtual 191, 3) := by decide +kernel
theorem dX8_atCells_31 : decode cX8_atCells 31 = .ok (.land, 1) := by decide +kernel
theorem dX8_atCells_32 : decode cX8_atCells 32 = .ok (.lstore 4, 2) := by decide +kernel
theorem dX8_atCells_34 : decode cX8_atCells 34 = .ok (.lload 4, 2) := by decide +kernel
theorem dX8_atCells_36 : decode cX8_atCells 36 = .ok (.invokestatic 187, 3) := by decide +kernel
theorem dX8_atCells_39 : decode cX8_atCells 39 = .ok (.istore 6, 2) := by decide +kernel
theorem dX8_atCells_41 : decode cX8_atCells 41 = .ok (.iload_n 2, 1) := by decide +kernel
theorem dX8_atCells_42 : decode cX8_atCells 42 = .ok (.iconst 5, 1) := by decide +kernel
theorem dX8_atCells_43 : decode cX8_atCells 43 = .ok (.if_icmp .ne 5, 3) := by decide +kernel
theorem dX8_atCells_46 : decode cX8_atCells 46 = .ok (.iconst 0, 1) := by decide +kernel
theorem dX8_atCells_47 : decode cX8_atCells 47 = .ok (.ireturn, 1) := by decide +kernel
theorem dX8_atCells_48 : decode cX8_atCells 48 = .ok (.aload_n 0, 1) := by decide +kernel
theorem dX8_atCells_49 : decode cX8_atCells 49 = .ok (.iconst 0, 1) := by decide +kernel
theorem dX8_atCells_50 : decode cX8_atCells 50 = .ok (.iload_n 1, 1) := by decide +kernel
theorem dX8_atCells_51 : decode cX8_atCells 51 = .ok (.iload_n 3, 1) := by decide +kernel
theorem dX8_atCells_52 : decode cX8_atCells 52 = .ok (.iload_n 2, 1) := by decide +kernel
theorem dX8_atCells_53 : decode cX8_atCells 53 = .ok (.if_icmp .gt 11, 3) := by decide +kernel
theorem dX8_atCells_56 : decode cX8_atCells 56 = .ok (.iload_n 3, 1) := by decide +kernel
theorem dX8_atCells_57 : decode cX8_atCells 57 = .ok (.iload 6, 2) := by decide +kernel
theorem dX8_atCells_59 : decode cX8_atCells 59 = .ok (.iadd, 1) := by decide +kernel
theorem dX8_atCells_60 : decode cX8_atCells 60 = .ok (.iload_n 2, 1) := by decide +kernel
theorem dX8_atCells_61 : decode cX8_atCells 61 = .ok (.if_icmp .ge 7, 3) := by decide +kernel
theorem dX8_atCells_64 : decode cX8_atCells 64 = .ok (.iconst 3, 1) := by decide +kernel
theorem dX8_atCells_65 : decode cX8_atCells 65 = .ok (.goto 34, 3) := by decide +kernel
theorem dX8_atCells_68 : decode cX8_atCells 68 = .ok (.iload 6, 2) := by decide +kernel
theorem dX8_atCells_70 : decode cX8_atCells 70 = .ok (.ifCond .ne 7, 3) := by decide +kernel
theorem dX8_atCells_73 : decode cX8_atCells 73 = .ok (.iconst 0, 1) := by decide +kernel
theorem dX8_atCells_74 : decode cX8_atCells 74 = .ok (.goto 25, 3) := by decide +kernel
theorem dX8_atCells_77 : decode cX8_atCells 77 = .ok (.iload_n 3, 1) := by decide +kernel
theorem dX8_atCells_78 : decode cX8_atCells 78 = .ok (.iload_n 2, 1) := by decide +kernel
theorem dX8_atCells_79 : decode cX8_atCells 79 = .ok (.if_icmp .ne 7, 3) := by decide +kernel
theorem dX8_atCells_82 : decode cX8_atCells 82 = .ok (.iconst 1, 1) := by decide +kernel
theorem dX8_atCells_83 : decode cX8_atCells 83 = .ok (.goto 16, 3) := by decide +kernel
theorem dX8_atCells_86 : decode cX8_atCells 86 = .ok (.iload_n 3, 1) := by decide +kernel
theorem dX8_atCells_87 : decode cX8_atCells 87 = .ok (.iload 6, 2) := by decide +kernel
theorem dX8_atCells_89 : decode cX8_atCells 89 = .ok (.iadd, 1) := by decide +kernel
theorem dX8_atCells_90 : decode cX8_atCells 90 = .ok (.iload_n 2, 1) := by decide +kernel
theorem dX8_atCells_91 : decode cX8_atCells 91 = .ok (.if_icmp .ne 7, 3) := by decide +kernel
theorem dX8_atCells_94 : decode cX8_atCells 94 = .ok (.iconst 2, 1) := by decide +kernel
theorem dX8_atCells_95 : decode cX8_atCells 95 = .ok (.goto 4, 3) := by decide +kernel
theorem dX8_atCells_98 : decode cX8_atCells 98 = .ok (.iconst 0, 1) := by decide +kernel
theorem dX8_atCells_99 : decode cX8_atCells 99 = .ok (.lload 4, 2) := by decide +kernel
theorem dX8_atCells_101 : decode cX8_atCells 101 = .ok (.invokevirtual 194, 3) := by decide +kernel
theorem dX8_atCells_104 : decode cX8_atCells 104 = .ok (.ireturn, 1) := by decide +kernel
theorem dX8_atPoints_0 : decode cX8_atPoints 0 = .ok (.aload_n 0, 1) := by decide +kernel
theorem dX8_atPoints_1 : decode cX8_atPoints 1 = .ok (.getfield 26, 3) := by decide +kernel
theorem dX8_atPoints_4 : decode cX8_atPoints 4 = .ok (.iload_n 1, 1) := by decide +kernel
theorem dX8_atPoints_5 : decode cX8_atPoints 5 = .ok (.laload, 1) := by decide +kernel
theorem dX8_atPoints_6 : decode cX8_atPoints 6 = .ok (.aload_n 0, 1) := by decide +kernel
theorem dX8_atPoints_7 : decode cX8_atPoints 7 = .ok (.getfield 83, 3) := by decide +kernel
theorem dX8_atPoints_10 : decode cX8_atPoints 10 = .ok (.land, 1) := by decide +kernel
theorem dX8_atPoints_11 : decode cX8_atPoints 11 = .ok (.invokestatic 187, 3) := by decide +kernel
theorem dX8_atPoints_14 : decode cX8_atPoints 14 = .ok (.istore_n 2, 1) := by decide +kernel
theorem dX8_atPoints_15 : decode cX8_atPoints 15 = .ok (.aload_n 0, 1) := by decide +kernel
theorem dX8_atPoints_16 : decode cX8_atPoints 16 = .ok (.getfield 26, 3) := by decide +kernel
theorem dX8_atPoints_19 : decode cX8_atPoints 19 = .ok (.iload_n 1, 1) := by decide +kernel
theorem dX8_atPoints_20 : decode cX8_atPoints 20 = .ok (.laload, 1) := by decide +kernel
theorem dX8_atPoints_21 : decode cX8_atPoints 21 = .ok (.aload_n 0, 1) := by decide +kernel
theorem dX8_atPoints_22 : decode cX8_atPoints 22 = .ok (.invokevirtual 191, 3) := by decide +kernel
theorem dX8_atPoints_25 : decode cX8_atPoints 25 = .ok (.land, 1) := by decide +kernel
theorem dX8_atPoints_26 : decode cX8_atPoints 26 = .ok (.lstore_n 3, 1) := by decide +kernel
theorem dX8_atPoints_27 : decode cX8_atPoints 27 = .ok (.lload_n 3, 1) := by decide +kernel
theorem dX8_atPoints_28 : decode cX8_atPoints 28 = .ok (.invokestatic 187, 3) := by decide +kernel
theorem dX8_atPoints_31 : decode cX8_atPoints 31 = .ok (.istore 5, 2) := by decide +kernel
theorem dX8_atPoints_33 : decode cX8_atPoints 33 = .ok (.aload_n 0, 1) := by decide +kernel
theorem dX8_atPoints_34 : decode cX8_atPoints 34 = .ok (.iconst 1, 1) := by decide +kernel
theorem dX8_atPoints_35 : decode cX8_atPoints 35 = .ok (.iload_n 1, 1) := by decide +kernel
theorem dX8_atPoints_36 : decode cX8_atPoints 36 = .ok (.iload_n 2, 1) := by decide +kernel
theorem dX8_atPoints_37 : decode cX8_atPoints 37 = .ok (.iconst 2, 1) := by decide +kernel
theorem dX8_atPoints_38 : decode cX8_atPoints 38 = .ok (.if_icmp .gt 13, 3) := by decide +kernel
theorem dX8_atPoints_41 : decode cX8_atPoints 41 = .ok (.iload_n 2, 1) := by decide +kernel
theorem dX8_atPoints_42 : decode cX8_atPoints 42 = .ok (.iconst 1, 1) := by decide +kernel
theorem dX8_atPoints_43 : decode cX8_atPoints 43 = .ok (.if_icmp .ne 12, 3) := by decide +kernel
theorem dX8_atPoints_46 : decode cX8_atPoints 46 = .ok (.iload 5, 2) := by decide +kernel
theorem dX8_atPoints_48 : decode cX8_atPoints 48 = .ok (.ifCond .ne 7, 3) := by decide +kernel
theorem dX8_atPoints_51 : decode cX8_atPoints 51 = .ok (.iconst 3, 1) := by decide +kernel
theorem dX8_atPoints_52 : decode cX8_atPoints 52 = .ok (.goto 43, 3) := by decide +kernel
theorem dX8_atPoints_55 : decode cX8_atPoints 55 = .ok (.iload_n 2, 1) := by decide +kernel
theorem dX8_atPoints_56 : decode cX8_atPoints 56 = .ok (.iconst 2, 1) := by decide +kernel
theorem dX8_atPoints_57 : decode cX8_atPoints 57 = .ok (.if_icmp .ne 8, 3) := by decide +kernel
theorem dX8_atPoints_60 : decode cX8_atPoints 60 = .ok (.iload 5, 2) := by decide +kernel
theorem dX8_atPoints_62 : decode cX8_atPoints 62 = .ok (.ifCond .gt 13, 3) := by decide +kernel
theorem dX8_atPoints_65 : decode cX8_atPoints 65 = .ok (.iload_n 2, 1) := by decide +kernel
theorem dX8_atPoints_66 : decode cX8_atPoints 66 = .ok (.ifCond .ne 13, 3) := by decide +kernel
theorem dX8_atPoints_69 : decode cX8_atPoints 69 = .ok (.iload 5, 2) := by decide +kernel
theorem dX8_atPoints_71 : decode cX8_atPoints 71 = .ok (.iconst 1, 1) := by decide +kernel
theorem dX8_atPoints_72 : decode cX8_atPoints 72 = .ok (.if_icmp .ne 7, 3) := by decide +kernel
theorem dX8_atPoints_75 : decode cX8_atPoints 75 = .ok (.iconst 1, 1) := by decide +kernel
theorem dX8_atPoints_76 : decode cX8_atPoints 76 = .ok (.goto 19, 3) := by decide +kernel
theorem dX8_atPoints_79 : decode cX8_atPoints 79 = .ok (.iload_n 2, 1) := by decide +kernel
theorem dX8_atPoints_80 : decode cX8_atPoints 80 = .ok (.iconst 1, 1) := by decide +kernel
theorem dX8_atPoints_81 : decode cX8_atPoints 81 = .ok (.if_icmp .ne 13, 3) := by decide +kernel
theorem dX8_atPoints_84 : decode cX8_atPoints 84 = .ok (.iload 5, 2) := by decide +kernel
theorem dX8_atPoints_86 : decode cX8_atPoints 86 = .ok (.iconst 1, 1) := by decide +kernel
theorem dX8_atPoints_87 : decode cX8_atPoints 87 = .ok (.if_icmp .ne 7, 3) := by decide +kernel
theorem dX8_atPoints_90 : decode cX8_atPoints 90 = .ok (.iconst 2, 1) := by decide +kernel
theorem dX8_atPoints_91 : decode cX8_atPoints 91 = .ok (.goto 4, 3) := by decide +kernel
theorem dX8_atPoints_94 : decode cX8_atPoints 94 = .ok (.iconst 0, 1) := by decide +kernel
theorem dX8_atPoints_95 : decode cX8_atPoints 95 = .ok (.lload_n 3, 1) := by decide +kernel
theorem dX8_atPoints_96 : decode cX8_atPoints 96 = .ok (.invokevirtual 194, 3) := by decide +kernel
theorem dX8_atPoints_99 : decode cX8_atPoints 99 = .ok (.ireturn, 1) := by decide +kernel
theorem dX8_chain_0 : decode cX8_chain 0 = .ok (.lload_n 1, 1) := by decide +kernel
theorem dX8_chain_1 : decode cX8_chain 1 = .ok (.lstore 5, 2) := by decide +kernel
theorem dX8_chain_3 : decode cX8_chain 3 = .ok (.lconst 0, 1) := by decide +kernel
theorem dX8_chain_4 : decode cX8_chain 4 = .ok (.lstore 7, 2) := by decide +kernel
theorem dX8_chain_6 : decode cX8_chain 6 = .ok (.lload 7, 2) := by decide +kernel
theorem dX8_chain_8 : decode cX8_chain 8 = .ok (.lload 5, 2) := by decide +kernel
theorem dX8_chain_10 : decode cX8_chain 10 = .ok (.lcmp, 1) := by decide +kernel
theorem dX8_chain_11 : decode cX8_chain 11 = .ok (.ifCond .eq 61, 3) := by decide +kernel
theorem dX8_chain_14 : decode cX8_chain 14 = .ok (.lload 5, 2) := by decide +kernel
theorem dX8_chain_16 : decode cX8_chain 16 = .ok (.lstore 7, 2) := by decide +kernel
theorem dX8_chain_18 : decode cX8_chain 18 = .ok (.iconst 0, 1) := by decide +kernel
theorem dX8_chain_19 : decode cX8_chain 19 = .ok (.istore 9, 2) := by decide +kernel
theorem dX8_chain_21 : decode cX8_chain 21 = .ok (.iload 9, 2) := by decide +kernel
theorem dX8_chain_23 : decode cX8_chain 23 = .ok (.aload_n 0, 1) := by decide +kernel
theorem dX8_chain_24 : decode cX8_chain 24 = .ok (.invokevirtual 145, 3) := by decide +kernel
theorem dX8_chain_27 : decode cX8_chain 27 = .ok (.if_icmp .ge 42, 3) := by decide +kernel
theorem dX8_chain_30 : decode cX8_chain 30 = .ok (.lload 5, 2) := by decide +kernel
theorem dX8_chain_32 : decode cX8_chain 32 = .ok (.aload_n 0, 1) := by decide +kernel
theorem dX8_chain_33 : decode cX8_chain 33 = .ok (.getfield 26, 3) := by decide +kernel
theorem dX8_chain_36 : decode cX8_chain 36 = .ok (.iload 9, 2) := by decide +kernel
theorem dX8_chain_38 : decode cX8_chain 38 = .ok (.laload, 1) := by decide +kernel
theorem dX8_chain_39 : decode cX8_chain 39 = .ok (.lload 5, 2) := by decide +kernel
theorem dX8_chain_41 : decode cX8_chain 41 = .ok (.land, 1) := by decide +kernel
theorem dX8_chain_42 : decode cX8_chain 42 = .ok (.lconst 0, 1) := by decide +kernel
theorem dX8_chain_43 : decode cX8_chain 43 = .ok (.lcmp, 1) := by decide +kernel
theorem dX8_chain_44 : decode cX8_chain 44 = .ok (.ifCond .ne 7, 3) := by decide +kernel
theorem dX8_chain_47 : decode cX8_chain 47 = .ok (.lconst 0, 1) := by decide +kernel
theorem dX8_chain_48 : decode cX8_chain 48 = .ok (.goto 12, 3) := by decide +kernel
theorem dX8_chain_51 : decode cX8_chain 51 = .ok (.aload_n 0, 1) := by decide +kernel
theorem dX8_chain_52 : decode cX8_chain 52 = .ok (.getfield 26, 3) := by decide +kernel
theorem dX8_chain_55 : decode cX8_chain 55 = .ok (.iload 9, 2) := by decide +kernel
theorem dX8_chain_57 : decode cX8_chain 57 = .ok (.laload, 1) := by decide +kernel
theorem dX8_chain_58 : decode cX8_chain 58 = .ok (.lload_n 3, 1) := by decide +kernel
theorem dX8_chain_59 : decode cX8_chain 59 = .ok (.land, 1) := by decide +kernel
theorem dX8_chain_60 : decode cX8_chain 60 = .ok (.lor, 1) := by decide +kernel
theorem dX8_chain_61 : decode cX8_chain 61 = .ok (.lstore 5, 2) := by decide +kernel
theorem dX8_chain_63 : decode cX8_chain 63 = .ok (.iinc 9 1, 3) := by decide +kernel
theorem dX8_chain_66 : decode cX8_chain 66 = .ok (.goto (-45), 3) := by decide +kernel
theorem dX8_chain_69 : decode cX8_chain 69 = .ok (.goto (-63), 3) := by decide +kernel
theorem dX8_chain_72 : decode cX8_chain 72 = .ok (.lload 5, 2) := by decide +kernel
theorem dX8_chain_74 : decode cX8_chain 74 = .ok (.lreturn, 1) := by decide +kernel
theorem dX8_isClosed_0 : decode cX8_isClosed 0 = .ok (.iconst 1, 1) := by decide +kernel
theorem dX8_isClosed_1 : decode cX8_isClosed 1 = .ok (.istore_n 3, 1) := by decide +kernel
theorem dX8_isClosed_2 : decode cX8_isClosed 2 = .ok (.iconst 0, 1) := by decide +kernel
theorem dX8_isClosed_3 : decode cX8_isClosed 3 = .ok (.istore 4, 2) := by decide +kernel
theorem dX8_isClosed_5 : decode cX8_isClosed 5 = .ok (.iload 4, 2) := by decide +kernel
theorem dX8_isClosed_7 : decode cX8_isClosed 7 = .ok (.aload_n 0, 1) := by decide +kernel
theorem dX8_isClosed_8 : decode cX8_isClosed 8 = .ok (.invokevirtual 145, 3) := by decide +kernel
theorem dX8_isClosed_11 : decode cX8_isClosed 11 = .ok (.if_icmp .ge 52, 3) := by decide +kernel
theorem dX8_isClosed_14 : decode cX8_isClosed 14 = .ok (.iload_n 3, 1) := by decide +kernel
theorem dX8_isClosed_15 : decode cX8_isClosed 15 = .ok (.ifCond .eq 40, 3) := by decide +kernel
theorem dX8_isClosed_18 : decode cX8_isClosed 18 = .ok (.aload_n 0, 1) := by decide +kernel
theorem dX8_isClosed_19 : decode cX8_isClosed 19 = .ok (.getfield 26, 3) := by decide +kernel
theorem dX8_isClosed_22 : decode cX8_isClosed 22 = .ok (.iload 4, 2) := by decide +kernel
theorem dX8_isClosed_24 : decode cX8_isClosed 24 = .ok (.laload, 1) := by decide +kernel
theorem dX8_isClosed_25 : decode cX8_isClosed 25 = .ok (.lload_n 1, 1) := by decide +kernel
theorem dX8_isClosed_26 : decode cX8_isClosed 26 = .ok (.land, 1) := by decide +kernel
theorem dX8_isClosed_27 : decode cX8_isClosed 27 = .ok (.lconst 0, 1) := by decide +kernel
theorem dX8_isClosed_28 : decode cX8_isClosed 28 = .ok (.lcmp, 1) := by decide +kernel
theorem dX8_isClosed_29 : decode cX8_isClosed 29 = .ok (.ifCond .eq 22, 3) := by decide +kernel
theorem dX8_isClosed_32 : decode cX8_isClosed 32 = .ok (.aload_n 0, 1) := by decide +kernel
theorem dX8_isClosed_33 : decode cX8_isClosed 33 = .ok (.getfield 26, 3) := by decide +kernel
theorem dX8_isClosed_36 : decode cX8_isClosed 36 = .ok (.iload 4, 2) := by decide +kernel
theorem dX8_isClosed_38 : decode cX8_isClosed 38 = .ok (.laload, 1) := by decide +kernel
theorem dX8_isClosed_39 : decode cX8_isClosed 39 = .ok (.aload_n 0, 1) := by decide +kernel
theorem dX8_isClosed_40 : decode cX8_isClosed 40 = .ok (.getfield 83, 3) := by decide +kernel
theorem dX8_isClosed_43 : decode cX8_isClosed 43 = .ok (.land, 1) := by decide +kernel
theorem dX8_isClosed_44 : decode cX8_isClosed 44 = .ok (.invokestatic 187, 3) := by decide +kernel
theorem dX8_isClosed_47 : decode cX8_isClosed 47 = .ok (.iconst 2, 1) := by decide +kernel
theorem dX8_isClosed_48 : decode cX8_isClosed 48 = .ok (.if_icmp .ne 7, 3) := by decide +kernel
theorem dX8_isClosed_51 : decode cX8_isClosed 51 = .ok (.iconst 1, 1) := by decide +kernel
theorem dX8_isClosed_52 : decode cX8_isClosed 52 = .ok (.goto 4, 3) := by decide +kernel
theorem dX8_isClosed_55 : decode cX8_isClosed 55 = .ok (.iconst 0, 1) := by decide +kernel
theorem dX8_isClosed_56 : decode cX8_isClosed 56 = .ok (.istore_n 3, 1) := by decide +kernel
theorem dX8_isClosed_57 : decode cX8_isClosed 57 = .ok (.iinc 4 1, 3) := by decide +kernel
theorem dX8_isClosed_60 : decode cX8_isClosed 60 = .ok (.goto (-55), 3) := by decide +kernel
theorem dX8_isClosed_63 : decode cX8_isClosed 63 = .ok (.iload_n 3, 1) := by decide +kernel
theorem dX8_isClosed_64 : decode cX8_isClosed 64 = .ok (.ireturn, 1) := by decide +kernel
theorem dX8_isAmiss_0 : decode cX8_isAmiss 0 = .ok (.iconst 0, 1) := by decide +kernel
theorem dX8_isAmiss_1 : decode cX8_isAmiss 1 = .ok (.istore_n 3, 1) := by decide +kernel
theorem dX8_isAmiss_2 : decode cX8_isAmiss 2 = .ok (.iconst 0, 1) := by decide +kernel
theorem dX8_isAmiss_3 : decode cX8_isAmiss 3 = .ok (.istore 4, 2) := by decide +kernel
theorem dX8_isAmiss_5 : decode cX8_isAmiss 5 = .ok (.iload 4, 2) := by decide +kernel
theorem dX8_isAmiss_7 : decode cX8_isAmiss 7 = .ok (.aload_n 0, 1) := by decide +kernel
theorem dX8_isAmiss_8 : decode cX8_isAmiss 8 = .ok (.getfield 16, 3) := by decide +kernel
theorem dX8_isAmiss_11 : decode cX8_isAmiss 11 = .ok (.if_icmp .ge 55, 3) := by decide +kernel
theorem dX8_isAmiss_14 : decode cX8_isAmiss 14 = .ok (.iload_n 3, 1) := by decide +kernel
theorem dX8_isAmiss_15 : decode cX8_isAmiss 15 = .ok (.ifCond .ne 39, 3) := by decide +kernel
theorem dX8_isAmiss_18 : decode cX8_isAmiss 18 = .ok (.aload_n 0, 1) := by decide +kernel
theorem dX8_isAmiss_19 : decode cX8_isAmiss 19 = .ok (.iload 4, 2) := by decide +kernel
theorem dX8_isAmiss_21 : decode cX8_isAmiss 21 = .ok (.invokevirtual 134, 3) := by decide +kernel
theorem dX8_isAmiss_24 : decode cX8_isAmiss 24 = .ok (.iconst 5, 1) := by decide +kernel
theorem dX8_isAmiss_25 : decode cX8_isAmiss 25 = .ok (.if_icmp .ge 33, 3) := by decide +kernel
theorem dX8_isAmiss_28 : decode cX8_isAmiss 28 = .ok (.aload_n 0, 1) := by decide +kernel
theorem dX8_isAmiss_29 : decode cX8_isAmiss 29 = .ok (.getfield 22, 3) := by decide +kernel
theorem dX8_isAmiss_32 : decode cX8_isAmiss 32 = .ok (.iload 4, 2) := by decide +kernel
theorem dX8_isAmiss_34 : decode cX8_isAmiss 34 = .ok (.laload, 1) := by decide +kernel
theorem dX8_isAmiss_35 : decode cX8_isAmiss 35 = .ok (.aload_n 0, 1) := by decide +kernel
theorem dX8_isAmiss_36 : decode cX8_isAmiss 36 = .ok (.getfield 83, 3) := by decide +kernel
theorem dX8_isAmiss_39 : decode cX8_isAmiss 39 = .ok (.lload_n 1, 1) := by decide +kernel
theorem dX8_isAmiss_40 : decode cX8_isAmiss 40 = .ok (.lor, 1) := by decide +kernel
theorem dX8_isAmiss_41 : decode cX8_isAmiss 41 = .ok (.land, 1) := by decide +kernel
theorem dX8_isAmiss_42 : decode cX8_isAmiss 42 = .ok (.invokestatic 187, 3) := by decide +kernel
theorem dX8_isAmiss_45 : decode cX8_isAmiss 45 = .ok (.aload_n 0, 1) := by decide +kernel
theorem dX8_isAmiss_46 : decode cX8_isAmiss 46 = .ok (.iload 4, 2) := by decide +kernel
theorem dX8_isAmiss_48 : decode cX8_isAmiss 48 = .ok (.invokevirtual 134, 3) := by decide +kernel
theorem dX8_isAmiss_51 : decode cX8_isAmiss 51 = .ok (.if_icmp .eq 7, 3) := by decide +kernel
theorem dX8_isAmiss_54 : decode cX8_isAmiss 54 = .ok (.iconst 1, 1) := by decide +kernel
theorem dX8_isAmiss_55 : decode cX8_isAmiss 55 = .ok (.goto 4, 3) := by decide +kernel
theorem dX8_isAmiss_58 : decode cX8_isAmiss 58 = .ok (.iconst 0, 1) := by decide +kernel
theorem dX8_isAmiss_59 : decode cX8_isAmiss 59 = .ok (.istore_n 3, 1) := by decide +kernel
theorem dX8_isAmiss_60 : decode cX8_isAmiss 60 = .ok (.iinc 4 1, 3) := by decide +kernel
theorem dX8_isAmiss_63 : decode cX8_isAmiss 63 = .ok (.goto (-58), 3) := by decide +kernel
theorem dX8_isAmiss_66 : decode cX8_isAmiss 66 = .ok (.iload_n 3, 1) := by decide +kernel
theorem dX8_isAmiss_67 : decode cX8_isAmiss 67 = .ok (.ireturn, 1) := by decide +kernel
theorem dX8_atChains_0 : decode cX8_atChains 0 = .ok (.lconst 1, 1) := by decide +kernel
theorem dX8_atChains_1 : decode cX8_atChains 1 = .ok (.iload_n 1, 1) := by decide +kernel
theorem dX8_atChains_2 : decode cX8_atChains 2 = .ok (.lshl, 1) := by decide +kernel
theorem dX8_atChains_3 : decode cX8_atChains 3 = .ok (.lstore_n 2, 1) := by decide +kernel
theorem dX8_atChains_4 : decode cX8_atChains 4 = .ok (.aload_n 0, 1) := by decide +kernel
theorem dX8_atChains_5 : decode cX8_atChains 5 = .ok (.getfield 83, 3) := by decide +kernel
theorem dX8_atChains_8 : decode cX8_atChains 8 = .ok (.lload_n 2, 1) := by decide +kernel
theorem dX8_atChains_9 : decode cX8_atChains 9 = .ok (.land, 1) := by decide +kernel
theorem dX8_atChains_10 : decode cX8_atChains 10 = .ok (.lconst 0, 1) := by decide +kernel
theorem dX8_atChains_11 : decode cX8_atChains 11 = .ok (.lcmp, 1) := by decide +kernel
theorem dX8_atChains_12 : decode cX8_atChains 12 = .ok (.ifCond .eq 46, 3) := by decide +kernel
theorem dX8_atChains_15 : decode cX8_atChains 15 = .ok (.aload_n 0, 1) := by decide +kernel
theorem dX8_atChains_16 : decode cX8_atChains 16 = .ok (.lload_n 2, 1) := by decide +kernel
theorem dX8_atChains_17 : decode cX8_atChains 17 = .ok (.aload_n 0, 1) := by decide +kernel
theorem dX8_atChains_18 : decode cX8_atChains 18 = .ok (.getfield 83, 3) := by decide +kernel
theorem dX8_atChains_21 : decode cX8_atChains 21 = .ok (.invokevirtual 198, 3) := by decide +kernel
theorem dX8_atChains_24 : decode cX8_atChains 24 = .ok (.lstore 4, 2) := by decide +kernel
theorem dX8_atChains_26 : decode cX8_atChains 26 = .ok (.aload_n 0, 1) := by decide +kernel
theorem dX8_atChains_27 : decode cX8_atChains 27 = .ok (.iconst 2, 1) := by decide +kernel
theorem dX8_atChains_28 : decode cX8_atChains 28 = .ok (.iload_n 1, 1) := by decide +kernel
theorem dX8_atChains_29 : decode cX8_atChains 29 = .ok (.lload 4, 2) := by decide +kernel
theorem dX8_atChains_31 : decode cX8_atChains 31 = .ok (.aload_n 0, 1) := by decide +kernel
theorem dX8_atChains_32 : decode cX8_atChains 32 = .ok (.getfield 83, 3) := by decide +kernel
theorem dX8_atChains_35 : decode cX8_atChains 35 = .ok (.lcmp, 1) := by decide +kernel
theorem dX8_atChains_36 : decode cX8_atChains 36 = .ok (.ifCond .eq 16, 3) := by decide +kernel
theorem dX8_atChains_39 : decode cX8_atChains 39 = .ok (.aload_n 0, 1) := by decide +kernel
theorem dX8_atChains_40 : decode cX8_atChains 40 = .ok (.lload 4, 2) := by decide +kernel
theorem dX8_atChains_42 : decode cX8_atChains 42 = .ok (.invokevirtual 202, 3) := by decide +kernel
theorem dX8_atChains_45 : decode cX8_atChains 45 = .ok (.ifCond .eq 7, 3) := by decide +kernel
theorem dX8_atChains_48 : decode cX8_atChains 48 = .ok (.iconst 3, 1) := by decide +kernel
theorem dX8_atChains_49 : decode cX8_atChains 49 = .ok (.goto 4, 3) := by decide +kernel
theorem dX8_atChains_52 : decode cX8_atChains 52 = .ok (.iconst 0, 1) := by decide +kernel
theorem dX8_atChains_53 : decode cX8_atChains 53 = .ok (.lconst 0, 1) := by decide +kernel
theorem dX8_atChains_54 : decode cX8_atChains 54 = .ok (.invokevirtual 194, 3) := by decide +kernel
theorem dX8_atChains_57 : decode cX8_atChains 57 = .ok (.ireturn, 1) := by decide +kernel
theorem dX8_atChains_58 : decode cX8_atChains 58 = .ok (.aload_n 0, 1) := by decide +kernel
theorem dX8_atChains_59 : decode cX8_atChains 59 = .ok (.getfield 88, 3) := by decide +kernel
theorem dX8_atChains_62 : decode cX8_atChains 62 = .ok (.lload_n 2, 1) := by decide +kernel
theorem dX8_atChains_63 : decode cX8_atChains 63 = .ok (.land, 1) := by decide +kernel
theorem dX8_atChains_64 : decode cX8_atChains 64 = .ok (.lconst 0, 1) := by decide +kernel
theorem dX8_atChains_65 : decode cX8_atChains 65 = .ok (.lcmp, 1) := by decide +kernel
theorem dX8_atChains_66 : decode cX8_atChains 66 = .ok (.ifCond .eq 5, 3) := by decide +kernel
theorem dX8_atChains_69 : decode cX8_atChains 69 = .ok (.iconst 0, 1) := by decide +kernel
theorem dX8_atChains_70 : decode cX8_atChains 70 = .ok (.ireturn, 1) := by decide +kernel
theorem dX8_atChains_71 : decode cX8_atChains 71 = .ok (.lconst 0, 1) := by decide +kernel
theorem dX8_atChains_72 : decode cX8_atChains 72 = .ok (.lstore 4, 2) := by decide +kernel
theorem dX8_atChains_74 : decode cX8_atChains 74 = .ok (.lconst 0, 1) := by decide +kernel
theorem dX8_atChains_75 : decode cX8_atChains 75 = .ok (.lstore 6, 2) := by decide +kernel
theorem dX8_atChains_77 : decode cX8_atChains 77 = .ok (.iconst 0, 1) := by decide +kernel
theorem dX8_atChains_78 : decode cX8_atChains 78 = .ok (.istore 8, 2) := by decide +kernel
theorem dX8_atChains_80 : decode cX8_atChains 80 = .ok (.iload 8, 2) := by decide +kernel
theorem dX8_atChains_82 : decode cX8_atChains 82 = .ok (.aload_n 0, 1) := by decide +kernel
theorem dX8_atChains_83 : decode cX8_atChains 83 = .ok (.invokevirtual 145, 3) := by decide +kernel
theorem dX8_atChains_86 : decode cX8_atChains 86 = .ok (.if_icmp .ge 77, 3) := by decide +kernel
theorem dX8_atChains_89 : decode cX8_atChains 89 = .ok (.aload_n 0, 1) := by decide +kernel
theorem dX8_atChains_90 : decode cX8_atChains 90 = .ok (.getfield 26, 3) := by decide +kernel
theorem dX8_atChains_93 : decode cX8_atChains 93 = .ok (.iload 8, 2) := by decide +kernel
theorem dX8_atChains_95 : decode cX8_atChains 95 = .ok (.laload, 1) := by decide +kernel
theorem dX8_atChains_96 : decode cX8_atChains 96 = .ok (.lload_n 2, 1) := by decide +kernel
theorem dX8_atChains_97 : decode cX8_atChains 97 = .ok (.land, 1) := by decide +kernel
theorem dX8_atChains_98 : decode cX8_atChains 98 = .ok (.lconst 0, 1) := by decide +kernel
theorem dX8_atChains_99 : decode cX8_atChains 99 = .ok (.lcmp, 1) := by decide +kernel
theorem dX8_atChains_100 : decode cX8_atChains 100 = .ok (.ifCond .eq 57, 3) := by decide +kernel
theorem dX8_atChains_103 : decode cX8_atChains 103 = .ok (.lload 4, 2) := by decide +kernel
theorem dX8_atChains_105 : decode cX8_atChains 105 = .ok (.lconst 0, 1) := by decide +kernel
theorem dX8_atChains_106 : decode cX8_atChains 106 = .ok (.lcmp, 1) := by decide +kernel
theorem dX8_atChains_107 : decode cX8_atChains 107 = .ok (.ifCond .ne 8, 3) := by decide +kernel
theorem dX8_atChains_110 : decode cX8_atChains 110 = .ok (.lload 6, 2) := by decide +kernel
theorem dX8_atChains_112 : decode cX8_atChains 112 = .ok (.goto 15, 3) := by decide +kernel
theorem dX8_atChains_115 : decode cX8_atChains 115 = .ok (.aload_n 0, 1) := by decide +kernel
theorem dX8_atChains_116 : decode cX8_atChains 116 = .ok (.getfield 26, 3) := by decide +kernel
theorem dX8_atChains_119 : decode cX8_atChains 119 = .ok (.iload 8, 2) := by decide +kernel
theorem dX8_atChains_121 : decode cX8_atChains 121 = .ok (.laload, 1) := by decide +kernel
theorem dX8_atChains_122 : decode cX8_atChains 122 = .ok (.aload_n 0, 1) := by decide +kernel
theorem dX8_atChains_123 : decode cX8_atChains 123 = .ok (.getfield 83, 3) := by decide +kernel
theorem dX8_atChains_126 : decode cX8_atChains 126 = .ok (.land, 1) := by decide +kernel
theorem dX8_atChains_127 : decode cX8_atChains 127 = .ok (.lstore 6, 2) := by decide +kernel
theorem dX8_atChains_129 : decode cX8_atChains 129 = .ok (.lload 4, 2) := by decide +kernel
theorem dX8_atChains_131 : decode cX8_atChains 131 = .ok (.lconst 0, 1) := by decide +kernel
theorem dX8_atChains_132 : decode cX8_atChains 132 = .ok (.lcmp, 1) := by decide +kernel
theorem dX8_atChains_133 : decode cX8_atChains 133 = .ok (.ifCond .ne 20, 3) := by decide +kernel
theorem dX8_atChains_136 : decode cX8_atChains 136 = .ok (.aload_n 0, 1) := by decide +kernel
theorem dX8_atChains_137 : decode cX8_atChains 137 = .ok (.getfield 26, 3) := by decide +kernel
theorem dX8_atChains_140 : decode cX8_atChains 140 = .ok (.iload 8, 2) := by decide +kernel
theorem dX8_atChains_142 : decode cX8_atChains 142 = .ok (.laload, 1) := by decide +kernel
theorem dX8_atChains_143 : decode cX8_atChains 143 = .ok (.aload_n 0, 1) := by decide +kernel
theorem dX8_atChains_144 : decode cX8_atChains 144 = .ok (.getfield 83, 3) := by decide +kernel
theorem dX8_atChains_147 : decode cX8_atChains 147 = .ok (.land, 1) := by decide +kernel
theorem dX8_atChains_148 : decode cX8_atChains 148 = .ok (.lload_n 2, 1) := by decide +kernel
theorem dX8_atChains_149 : decode cX8_atChains 149 = .ok (.lor, 1) := by decide +kernel
theorem dX8_atChains_150 : decode cX8_atChains 150 = .ok (.goto 5, 3) := by decide +kernel
theorem dX8_atChains_153 : decode cX8_atChains 153 = .ok (.lload 4, 2) := by decide +kernel
theorem dX8_atChains_155 : decode cX8_atChains 155 = .ok (.lstore 4, 2) := by decide +kernel
theorem dX8_atChains_157 : decode cX8_atChains 157 = .ok (.iinc 8 1, 3) := by decide +kernel
theorem dX8_atChains_160 : decode cX8_atChains 160 = .ok (.goto (-80), 3) := by decide +kernel
theorem dX8_atChains_163 : decode cX8_atChains 163 = .ok (.lload 4, 2) := by decide +kernel
theorem dX8_atChains_165 : decode cX8_atChains 165 = .ok (.lload_n 2, 1) := by decide +kernel
theorem dX8_atChains_166 : decode cX8_atChains 166 = .ok (.ldc2_w 86, 3) := by decide +kernel
theorem dX8_atChains_169 : decode cX8_atChains 169 = .ok (.lxor, 1) := by decide +kernel
theorem dX8_atChains_170 : decode cX8_atChains 170 = .ok (.land, 1) := by decide +kernel
theorem dX8_atChains_171 : decode cX8_atChains 171 = .ok (.lstore 4, 2) := by decide +kernel
theorem dX8_atChains_173 : decode cX8_atChains 173 = .ok (.lload 4, 2) := by decide +kernel
theorem dX8_atChains_175 : decode cX8_atChains 175 = .ok (.lconst 0, 1) := by decide +kernel
theorem dX8_atChains_176 : decode cX8_atChains 176 = .ok (.lcmp, 1) := by decide +kernel
theorem dX8_atChains_177 : decode cX8_atChains 177 = .ok (.ifCond .eq 10, 3) := by decide +kernel
theorem dX8_atChains_180 : decode cX8_atChains 180 = .ok (.lload 6, 2) := by decide +kernel
theorem dX8_atChains_182 : decode cX8_atChains 182 = .ok (.lconst 0, 1) := by decide +kernel
theorem dX8_atChains_183 : decode cX8_atChains 183 = .ok (.lcmp, 1) := by decide +kernel
theorem dX8_atChains_184 : decode cX8_atChains 184 = .ok (.ifCond .ne 5, 3) := by decide +kernel
theorem dX8_atChains_187 : decode cX8_atChains 187 = .ok (.iconst 0, 1) := by decide +kernel
theorem dX8_atChains_188 : decode cX8_atChains 188 = .ok (.ireturn, 1) := by decide +kernel
theorem dX8_atChains_189 : decode cX8_atChains 189 = .ok (.aload_n 0, 1) := by decide +kernel
theorem dX8_atChains_190 : decode cX8_atChains 190 = .ok (.lload 4, 2) := by decide +kernel
theorem dX8_atChains_192 : decode cX8_atChains 192 = .ok (.aload_n 0, 1) := by decide +kernel
theorem dX8_atChains_193 : decode cX8_atChains 193 = .ok (.getfield 83, 3) := by decide +kernel
theorem dX8_atChains_196 : decode cX8_atChains 196 = .ok (.invokevirtual 198, 3) := by decide +kernel
theorem dX8_atChains_199 : decode cX8_atChains 199 = .ok (.lstore 8, 2) := by decide +kernel
theorem dX8_atChains_201 : decode cX8_atChains 201 = .ok (.lload 8, 2) := by decide +kernel
theorem dX8_atChains_203 : decode cX8_atChains 203 = .ok (.lload 6, 2) := by decide +kernel
theorem dX8_atChains_205 : decode cX8_atChains 205 = .ok (.land, 1) := by decide +kernel
theorem dX8_atChains_206 : decode cX8_atChains 206 = .ok (.lconst 0, 1) := by decide +kernel
theorem dX8_atChains_207 : decode cX8_atChains 207 = .ok (.lcmp, 1) := by decide +kernel
theorem dX8_atChains_208 : decode cX8_atChains 208 = .ok (.ifCond .eq 25, 3) := by decide +kernel
theorem dX8_atChains_211 : decode cX8_atChains 211 = .ok (.lload 8, 2) := by decide +kernel
theorem dX8_atChains_213 : decode cX8_atChains 213 = .ok (.aload_n 0, 1) := by decide +kernel
theorem dX8_atChains_214 : decode cX8_atChains 214 = .ok (.getfield 83, 3) := by decide +kernel
theorem dX8_atChains_217 : decode cX8_atChains 217 = .ok (.lcmp, 1) := by decide +kernel
theorem dX8_atChains_218 : decode cX8_atChains 218 = .ok (.ifCond .ne 11, 3) := by decide +kernel
theorem dX8_atChains_221 : decode cX8_atChains 221 = .ok (.aload_n 0, 1) := by decide +kernel
theorem dX8_atChains_222 : decode cX8_atChains 222 = .ok (.lload_n 2, 1) := by decide +kernel
theorem dX8_atChains_223 : decode cX8_atChains 223 = .ok (.invokevirtual 206, 3) := by decide +kernel
theorem dX8_atChains_226 : decode cX8_atChains 226 = .ok (.ifCond .eq 7, 3) := by decide +kernel
theorem dX8_atChains_229 : decode cX8_atChains 229 = .ok (.iconst 1, 1) := by decide +kernel
theorem dX8_atChains_230 : decode cX8_atChains 230 = .ok (.goto 4, 3) := by decide +kernel
theorem dX8_atChains_233 : decode cX8_atChains 233 = .ok (.iconst 0, 1) := by decide +kernel
theorem dX8_atChains_234 : decode cX8_atChains 234 = .ok (.istore 10, 2) := by decide +kernel
theorem dX8_atChains_236 : decode cX8_atChains 236 = .ok (.aload_n 0, 1) := by decide +kernel
theorem dX8_atChains_237 : decode cX8_atChains 237 = .ok (.iconst 2, 1) := by decide +kernel
theorem dX8_atChains_238 : decode cX8_atChains 238 = .ok (.iload_n 1, 1) := by decide +kernel
theorem dX8_atChains_239 : decode cX8_atChains 239 = .ok (.iload 10, 2) := by decide +kernel
theorem dX8_atChains_241 : decode cX8_atChains 241 = .ok (.ifCond .eq 7, 3) := by decide +kernel
theorem dX8_atChains_244 : decode cX8_atChains 244 = .ok (.iconst 1, 1) := by decide +kernel
theorem dX8_atChains_245 : decode cX8_atChains 245 = .ok (.goto 4, 3) := by decide +kernel
theorem dX8_atChains_248 : decode cX8_atChains 248 = .ok (.iconst 0, 1) := by decide +kernel
theorem dX8_atChains_249 : decode cX8_atChains 249 = .ok (.lload_n 2, 1) := by decide +kernel
theorem dX8_atChains_250 : decode cX8_atChains 250 = .ok (.invokevirtual 194, 3) := by decide +kernel
theorem dX8_atChains_253 : decode cX8_atChains 253 = .ok (.ireturn, 1) := by decide +kernel
theorem dX8_tells_0 : decode cX8_tells 0 = .ok (.lconst 1, 1) := by decide +kernel
theorem dX8_tells_1 : decode cX8_tells 1 = .ok (.aload_n 0, 1) := by decide +kernel
theorem dX8_tells_2 : decode cX8_tells 2 = .ok (.getfield 29, 3) := by decide +kernel
theorem dX8_tells_5 : decode cX8_tells 5 = .ok (.iconst 2, 1) := by decide +kernel
theorem dX8_tells_6 : decode cX8_tells 6 = .ok (.iload_n 1, 1) := by decide +kernel
theorem dX8_tells_7 : decode cX8_tells 7 = .ok (.imul, 1) := by decide +kernel
theorem dX8_tells_8 : decode cX8_tells 8 = .ok (.iaload, 1) := by decide +kernel
theorem dX8_tells_9 : decode cX8_tells 9 = .ok (.lshl, 1) := by decide +kernel
theorem dX8_tells_10 : decode cX8_tells 10 = .ok (.lstore_n 2, 1) := by decide +kernel
theorem dX8_tells_11 : decode cX8_tells 11 = .ok (.lconst 0, 1) := by decide +kernel
theorem dX8_tells_12 : decode cX8_tells 12 = .ok (.lstore 4, 2) := by decide +kernel
theorem dX8_tells_14 : decode cX8_tells 14 = .ok (.lload 4, 2) := by decide +kernel
theorem dX8_tells_16 : decode cX8_tells 16 = .ok (.lload_n 2, 1) := by decide +kernel
theorem dX8_tells_17 : decode cX8_tells 17 = .ok (.lcmp, 1) := by decide +kernel
theorem dX8_tells_18 : decode cX8_tells 18 = .ok (.ifCond .eq 120, 3) := by decide +kernel
theorem dX8_tells_21 : decode cX8_tells 21 = .ok (.lload_n 2, 1) := by decide +kernel
theorem dX8_tells_22 : decode cX8_tells 22 = .ok (.lstore 4, 2) := by decide +kernel
theorem dX8_tells_24 : decode cX8_tells 24 = .ok (.iconst 0, 1) := by decide +kernel
theorem dX8_tells_25 : decode cX8_tells 25 = .ok (.istore 6, 2) := by decide +kernel
theorem dX8_tells_27 : decode cX8_tells 27 = .ok (.iload 6, 2) := by decide +kernel
theorem dX8_tells_29 : decode cX8_tells 29 = .ok (.aload_n 0, 1) := by decide +kernel
theorem dX8_tells_30 : decode cX8_tells 30 = .ok (.getfield 19, 3) := by decide +kernel
theorem dX8_tells_33 : decode cX8_tells 33 = .ok (.if_icmp .ge 102, 3) := by decide +kernel
theorem dX8_tells_36 : decode cX8_tells 36 = .ok (.iload 6, 2) := by decide +kernel
theorem dX8_tells_38 : decode cX8_tells 38 = .ok (.iload_n 1, 1) := by decide +kernel
theorem dX8_tells_39 : decode cX8_tells 39 = .ok (.if_icmp .eq 90, 3) := by decide +kernel
theorem dX8_tells_42 : decode cX8_tells 42 = .ok (.aload_n 0, 1) := by decide +kernel
theorem dX8_tells_43 : decode cX8_tells 43 = .ok (.getfield 83, 3) := by decide +kernel
theorem dX8_tells_46 : decode cX8_tells 46 = .ok (.aload_n 0, 1) := by decide +kernel
theorem dX8_tells_47 : decode cX8_tells 47 = .ok (.getfield 88, 3) := by decide +kernel
theorem dX8_tells_50 : decode cX8_tells 50 = .ok (.lor, 1) := by decide +kernel
theorem dX8_tells_51 : decode cX8_tells 51 = .ok (.iload 6, 2) := by decide +kernel
theorem dX8_tells_53 : decode cX8_tells 53 = .ok (.invokestatic 141, 3) := by decide +kernel
theorem dX8_tells_56 : decode cX8_tells 56 = .ok (.ifCond .eq 73, 3) := by decide +kernel
theorem dX8_tells_59 : decode cX8_tells 59 = .ok (.lload_n 2, 1) := by decide +kernel
theorem dX8_tells_60 : decode cX8_tells 60 = .ok (.lload_n 2, 1) := by decide +kernel
theorem dX8_tells_61 : decode cX8_tells 61 = .ok (.aload_n 0, 1) := by decide +kernel
theorem dX8_tells_62 : decode cX8_tells 62 = .ok (.getfield 29, 3) := by decide +kernel
theorem dX8_tells_65 : decode cX8_tells 65 = .ok (.iconst 2, 1) := by decide +kernel
theorem dX8_tells_66 : decode cX8_tells 66 = .ok (.iload 6, 2) := by decide +kernel
theorem dX8_tells_68 : decode cX8_tells 68 = .ok (.imul, 1) := by decide +kernel
theorem dX8_tells_69 : decode cX8_tells 69 = .ok (.iaload, 1) := by decide +kernel
theorem dX8_tells_70 : decode cX8_tells 70 = .ok (.aload_n 0, 1) := by decide +kernel
theorem dX8_tells_71 : decode cX8_tells 71 = .ok (.getfield 29, 3) := by decide +kernel
theorem dX8_tells_74 : decode cX8_tells 74 = .ok (.iconst 2, 1) := by decide +kernel
theorem dX8_tells_75 : decode cX8_tells 75 = .ok (.iload 6, 2) := by decide +kernel
theorem dX8_tells_77 : decode cX8_tells 77 = .ok (.imul, 1) := by decide +kernel
theorem dX8_tells_78 : decode cX8_tells 78 = .ok (.iconst 1, 1) := by decide +kernel
theorem dX8_tells_79 : decode cX8_tells 79 = .ok (.iadd, 1) := by decide +kernel
theorem dX8_tells_80 : decode cX8_tells 80 = .ok (.iaload, 1) := by decide +kernel
theorem dX8_tells_81 : decode cX8_tells 81 = .ok (.aload_n 0, 1) := by decide +kernel
theorem dX8_tells_82 : decode cX8_tells 82 = .ok (.getfield 83, 3) := by decide +kernel
theorem dX8_tells_85 : decode cX8_tells 85 = .ok (.iload 6, 2) := by decide +kernel
theorem dX8_tells_87 : decode cX8_tells 87 = .ok (.invokestatic 141, 3) := by decide +kernel
theorem dX8_tells_90 : decode cX8_tells 90 = .ok (.invokestatic 209, 3) := by decide +kernel
theorem dX8_tells_93 : decode cX8_tells 93 = .ok (.lload_n 2, 1) := by decide +kernel
theorem dX8_tells_94 : decode cX8_tells 94 = .ok (.aload_n 0, 1) := by decide +kernel
theorem dX8_tells_95 : decode cX8_tells 95 = .ok (.getfield 29, 3) := by decide +kernel
theorem dX8_tells_98 : decode cX8_tells 98 = .ok (.iconst 2, 1) := by decide +kernel
theorem dX8_tells_99 : decode cX8_tells 99 = .ok (.iload 6, 2) := by decide +kernel
theorem dX8_tells_101 : decode cX8_tells 101 = .ok (.imul, 1) := by decide +kernel
theorem dX8_tells_102 : decode cX8_tells 102 = .ok (.iconst 1, 1) := by decide +kernel
theorem dX8_tells_103 : decode cX8_tells 103 = .ok (.iadd, 1) := by decide +kernel
theorem dX8_tells_104 : decode cX8_tells 104 = .ok (.iaload, 1) := by decide +kernel
theorem dX8_tells_105 : decode cX8_tells 105 = .ok (.aload_n 0, 1) := by decide +kernel
theorem dX8_tells_106 : decode cX8_tells 106 = .ok (.getfield 29, 3) := by decide +kernel
theorem dX8_tells_109 : decode cX8_tells 109 = .ok (.iconst 2, 1) := by decide +kernel
theorem dX8_tells_110 : decode cX8_tells 110 = .ok (.iload 6, 2) := by decide +kernel
theorem dX8_tells_112 : decode cX8_tells 112 = .ok (.imul, 1) := by decide +kernel
theorem dX8_tells_113 : decode cX8_tells 113 = .ok (.iaload, 1) := by decide +kernel
theorem dX8_tells_114 : decode cX8_tells 114 = .ok (.aload_n 0, 1) := by decide +kernel
theorem dX8_tells_115 : decode cX8_tells 115 = .ok (.getfield 83, 3) := by decide +kernel
theorem dX8_tells_118 : decode cX8_tells 118 = .ok (.iload 6, 2) := by decide +kernel
theorem dX8_tells_120 : decode cX8_tells 120 = .ok (.invokestatic 141, 3) := by decide +kernel
theorem dX8_tells_123 : decode cX8_tells 123 = .ok (.invokestatic 209, 3) := by decide +kernel
theorem dX8_tells_126 : decode cX8_tells 126 = .ok (.lor, 1) := by decide +kernel
theorem dX8_tells_127 : decode cX8_tells 127 = .ok (.lor, 1) := by decide +kernel
theorem dX8_tells_128 : decode cX8_tells 128 = .ok (.lstore_n 2, 1) := by decide +kernel
theorem dX8_tells_129 : decode cX8_tells 129 = .ok (.iinc 6 1, 3) := by decide +kernel
theorem dX8_tells_132 : decode cX8_tells 132 = .ok (.goto (-105), 3) := by decide +kernel
theorem dX8_tells_135 : decode cX8_tells 135 = .ok (.goto (-121), 3) := by decide +kernel
theorem dX8_tells_138 : decode cX8_tells 138 = .ok (.aload_n 0, 1) := by decide +kernel
theorem dX8_tells_139 : decode cX8_tells 139 = .ok (.getfield 29, 3) := by decide +kernel
theorem dX8_tells_142 : decode cX8_tells 142 = .ok (.iconst 2, 1) := by decide +kernel
theorem dX8_tells_143 : decode cX8_tells 143 = .ok (.iload_n 1, 1) := by decide +kernel
theorem dX8_tells_144 : decode cX8_tells 144 = .ok (.imul, 1) := by decide +kernel
theorem dX8_tells_145 : decode cX8_tells 145 = .ok (.iconst 1, 1) := by decide +kernel
theorem dX8_tells_146 : decode cX8_tells 146 = .ok (.iadd, 1) := by decide +kernel
theorem dX8_tells_147 : decode cX8_tells 147 = .ok (.iaload, 1) := by decide +kernel
theorem dX8_tells_148 : decode cX8_tells 148 = .ok (.istore 6, 2) := by decide +kernel
theorem dX8_tells_150 : decode cX8_tells 150 = .ok (.lload_n 2, 1) := by decide +kernel
theorem dX8_tells_151 : decode cX8_tells 151 = .ok (.iload 6, 2) := by decide +kernel
theorem dX8_tells_153 : decode cX8_tells 153 = .ok (.invokestatic 141, 3) := by decide +kernel
theorem dX8_tells_156 : decode cX8_tells 156 = .ok (.ifCond .eq 7, 3) := by decide +kernel
theorem dX8_tells_159 : decode cX8_tells 159 = .ok (.iconst 1, 1) := by decide +kernel
theorem dX8_tells_160 : decode cX8_tells 160 = .ok (.goto 4, 3) := by decide +kernel
theorem dX8_tells_163 : decode cX8_tells 163 = .ok (.iconst 0, 1) := by decide +kernel
theorem dX8_tells_164 : decode cX8_tells 164 = .ok (.lload_n 2, 1) := by decide +kernel
theorem dX8_tells_165 : decode cX8_tells 165 = .ok (.iload 6, 2) := by decide +kernel
theorem dX8_tells_167 : decode cX8_tells 167 = .ok (.bipush 17, 2) := by decide +kernel
theorem dX8_tells_169 : decode cX8_tells 169 = .ok (.iadd, 1) := by decide +kernel
theorem dX8_tells_170 : decode cX8_tells 170 = .ok (.invokestatic 141, 3) := by decide +kernel
theorem dX8_tells_173 : decode cX8_tells 173 = .ok (.ifCond .eq 7, 3) := by decide +kernel
theorem dX8_tells_176 : decode cX8_tells 176 = .ok (.iconst 2, 1) := by decide +kernel
theorem dX8_tells_177 : decode cX8_tells 177 = .ok (.goto 4, 3) := by decide +kernel
theorem dX8_tells_180 : decode cX8_tells 180 = .ok (.iconst 0, 1) := by decide +kernel
theorem dX8_tells_181 : decode cX8_tells 181 = .ok (.iadd, 1) := by decide +kernel
theorem dX8_tells_182 : decode cX8_tells 182 = .ok (.ireturn, 1) := by decide +kernel
theorem dX8_goes_0 : decode cX8_goes 0 = .ok (.lload_n 0, 1) := by decide +kernel
theorem dX8_goes_1 : decode cX8_goes 1 = .ok (.iload_n 2, 1) := by decide +kernel
theorem dX8_goes_2 : decode cX8_goes 2 = .ok (.invokestatic 141, 3) := by decide +kernel
theorem dX8_goes_5 : decode cX8_goes 5 = .ok (.ifCond .eq 21, 3) := by decide +kernel
theorem dX8_goes_8 : decode cX8_goes 8 = .ok (.lconst 1, 1) := by decide +kernel
theorem dX8_goes_9 : decode cX8_goes 9 = .ok (.iload 4, 2) := by decide +kernel
theorem dX8_goes_11 : decode cX8_goes 11 = .ok (.ifCond .eq 10, 3) := by decide +kernel
theorem dX8_goes_14 : decode cX8_goes 14 = .ok (.iload_n 3, 1) := by decide +kernel
theorem dX8_goes_15 : decode cX8_goes 15 = .ok (.bipush 17, 2) := by decide +kernel
theorem dX8_goes_17 : decode cX8_goes 17 = .ok (.iadd, 1) := by decide +kernel
theorem dX8_goes_18 : decode cX8_goes 18 = .ok (.goto 4, 3) := by decide +kernel
theorem dX8_goes_21 : decode cX8_goes 21 = .ok (.iload_n 3, 1) := by decide +kernel
theorem dX8_goes_22 : decode cX8_goes 22 = .ok (.lshl, 1) := by decide +kernel
theorem dX8_goes_23 : decode cX8_goes 23 = .ok (.goto 4, 3) := by decide +kernel
theorem dX8_goes_26 : decode cX8_goes 26 = .ok (.lconst 0, 1) := by decide +kernel
theorem dX8_goes_27 : decode cX8_goes 27 = .ok (.lstore 5, 2) := by decide +kernel
theorem dX8_goes_29 : decode cX8_goes 29 = .ok (.lload 5, 2) := by decide +kernel
theorem dX8_goes_31 : decode cX8_goes 31 = .ok (.lload_n 0, 1) := by decide +kernel
theorem dX8_goes_32 : decode cX8_goes 32 = .ok (.iload_n 2, 1) := by decide +kernel
theorem dX8_goes_33 : decode cX8_goes 33 = .ok (.bipush 17, 2) := by decide +kernel
theorem dX8_goes_35 : decode cX8_goes 35 = .ok (.iadd, 1) := by decide +kernel
theorem dX8_goes_36 : decode cX8_goes 36 = .ok (.invokestatic 141, 3) := by decide +kernel
theorem dX8_goes_39 : decode cX8_goes 39 = .ok (.ifCond .eq 21, 3) := by decide +kernel
theorem dX8_goes_42 : decode cX8_goes 42 = .ok (.lconst 1, 1) := by decide +kernel
theorem dX8_goes_43 : decode cX8_goes 43 = .ok (.iload 4, 2) := by decide +kernel
theorem dX8_goes_45 : decode cX8_goes 45 = .ok (.ifCond .eq 7, 3) := by decide +kernel
theorem dX8_goes_48 : decode cX8_goes 48 = .ok (.iload_n 3, 1) := by decide +kernel
theorem dX8_goes_49 : decode cX8_goes 49 = .ok (.goto 7, 3) := by decide +kernel
theorem dX8_goes_52 : decode cX8_goes 52 = .ok (.iload_n 3, 1) := by decide +kernel
theorem dX8_goes_53 : decode cX8_goes 53 = .ok (.bipush 17, 2) := by decide +kernel
theorem dX8_goes_55 : decode cX8_goes 55 = .ok (.iadd, 1) := by decide +kernel
theorem dX8_goes_56 : decode cX8_goes 56 = .ok (.lshl, 1) := by decide +kernel
theorem dX8_goes_57 : decode cX8_goes 57 = .ok (.goto 4, 3) := by decide +kernel
theorem dX8_goes_60 : decode cX8_goes 60 = .ok (.lconst 0, 1) := by decide +kernel
theorem dX8_goes_61 : decode cX8_goes 61 = .ok (.lor, 1) := by decide +kernel
theorem dX8_goes_62 : decode cX8_goes 62 = .ok (.lreturn, 1) := by decide +kernel
theorem dX8_atHands_0 : decode cX8_atHands 0 = .ok (.aload_n 0, 1) := by decide +kernel
theorem dX8_atHands_1 : decode cX8_atHands 1 = .ok (.iload_n 1, 1) := by decide +kernel
theorem dX8_atHands_2 : decode cX8_atHands 2 = .ok (.invokevirtual 213, 3) := by decide +kernel
theorem dX8_atHands_5 : decode cX8_atHands 5 = .ok (.istore_n 2, 1) := by decide +kernel
theorem dX8_atHands_6 : decode cX8_atHands 6 = .ok (.aload_n 0, 1) := by decide +kernel
theorem dX8_atHands_7 : decode cX8_atHands 7 = .ok (.getfield 83, 3) := by decide +kernel
theorem dX8_atHands_10 : decode cX8_atHands 10 = .ok (.aload_n 0, 1) := by decide +kernel
theorem dX8_atHands_11 : decode cX8_atHands 11 = .ok (.getfield 88, 3) := by decide +kernel
theorem dX8_atHands_14 : decode cX8_atHands 14 = .ok (.lor, 1) := by decide +kernel
theorem dX8_atHands_15 : decode cX8_atHands 15 = .ok (.iload_n 1, 1) := by decide +kernel
theorem dX8_atHands_16 : decode cX8_atHands 16 = .ok (.invokestatic 141, 3) := by decide +kernel
theorem dX8_atHands_19 : decode cX8_atHands 19 = .ok (.ifCond .eq 59, 3) := by decide +kernel
theorem dX8_atHands_22 : decode cX8_atHands 22 = .ok (.aload_n 0, 1) := by decide +kernel
theorem dX8_atHands_23 : decode cX8_atHands 23 = .ok (.getfield 83, 3) := by decide +kernel
theorem dX8_atHands_26 : decode cX8_atHands 26 = .ok (.iload_n 1, 1) := by decide +kernel
theorem dX8_atHands_27 : decode cX8_atHands 27 = .ok (.invokestatic 141, 3) := by decide +kernel
theorem dX8_atHands_30 : decode cX8_atHands 30 = .ok (.ifCond .eq 18, 3) := by decide +kernel
theorem dX8_atHands_33 : decode cX8_atHands 33 = .ok (.iload_n 2, 1) := by decide +kernel
theorem dX8_atHands_34 : decode cX8_atHands 34 = .ok (.iconst 1, 1) := by decide +kernel
theorem dX8_atHands_35 : decode cX8_atHands 35 = .ok (.iand, 1) := by decide +kernel
theorem dX8_atHands_36 : decode cX8_atHands 36 = .ok (.iconst 1, 1) := by decide +kernel
theorem dX8_atHands_37 : decode cX8_atHands 37 = .ok (.if_icmp .ne 7, 3) := by decide +kernel
theorem dX8_atHands_40 : decode cX8_atHands 40 = .ok (.iconst 1, 1) := by decide +kernel
theorem dX8_atHands_41 : decode cX8_atHands 41 = .ok (.goto 19, 3) := by decide +kernel
theorem dX8_atHands_44 : decode cX8_atHands 44 = .ok (.iconst 0, 1) := by decide +kernel
theorem dX8_atHands_45 : decode cX8_atHands 45 = .ok (.goto 15, 3) := by decide +kernel
theorem dX8_atHands_48 : decode cX8_atHands 48 = .ok (.iload_n 2, 1) := by decide +kernel
theorem dX8_atHands_49 : decode cX8_atHands 49 = .ok (.iconst 2, 1) := by decide +kernel
theorem dX8_atHands_50 : decode cX8_atHands 50 = .ok (.iand, 1) := by decide +kernel
theorem dX8_atHands_51 : decode cX8_atHands 51 = .ok (.iconst 2, 1) := by decide +kernel
theorem dX8_atHands_52 : decode cX8_atHands 52 = .ok (.if_icmp .ne 7, 3) := by decide +kernel
theorem dX8_atHands_55 : decode cX8_atHands 55 = .ok (.iconst 1, 1) := by decide +kernel
theorem dX8_atHands_56 : decode cX8_atHands 56 = .ok (.goto 4, 3) := by decide +kernel
theorem dX8_atHands_59 : decode cX8_atHands 59 = .ok (.iconst 0, 1) := by decide +kernel
theorem dX8_atHands_60 : decode cX8_atHands 60 = .ok (.istore_n 3, 1) := by decide +kernel
theorem dX8_atHands_61 : decode cX8_atHands 61 = .ok (.aload_n 0, 1) := by decide +kernel
theorem dX8_atHands_62 : decode cX8_atHands 62 = .ok (.iconst 3, 1) := by decide +kernel
theorem dX8_atHands_63 : decode cX8_atHands 63 = .ok (.iload_n 1, 1) := by decide +kernel
theorem dX8_atHands_64 : decode cX8_atHands 64 = .ok (.iload_n 3, 1) := by decide +kernel
theorem dX8_atHands_65 : decode cX8_atHands 65 = .ok (.ifCond .eq 7, 3) := by decide +kernel
theorem dX8_atHands_68 : decode cX8_atHands 68 = .ok (.iconst 3, 1) := by decide +kernel
theorem dX8_atHands_69 : decode cX8_atHands 69 = .ok (.goto 4, 3) := by decide +kernel
theorem dX8_atHands_72 : decode cX8_atHands 72 = .ok (.iconst 0, 1) := by decide +kernel
theorem dX8_atHands_73 : decode cX8_atHands 73 = .ok (.lconst 0, 1) := by decide +kernel
theorem dX8_atHands_74 : decode cX8_atHands 74 = .ok (.invokevirtual 194, 3) := by decide +kernel
theorem dX8_atHands_77 : decode cX8_atHands 77 = .ok (.ireturn, 1) := by decide +kernel
theorem dX8_atHands_78 : decode cX8_atHands 78 = .ok (.aload_n 0, 1) := by decide +kernel
theorem dX8_atHands_79 : decode cX8_atHands 79 = .ok (.iconst 3, 1) := by decide +kernel
theorem dX8_atHands_80 : decode cX8_atHands 80 = .ok (.iload_n 1, 1) := by decide +kernel
theorem dX8_atHands_81 : decode cX8_atHands 81 = .ok (.iload_n 2, 1) := by decide +kernel
theorem dX8_atHands_82 : decode cX8_atHands 82 = .ok (.iconst 1, 1) := by decide +kernel
theorem dX8_atHands_83 : decode cX8_atHands 83 = .ok (.if_icmp .ne 7, 3) := by decide +kernel
theorem dX8_atHands_86 : decode cX8_atHands 86 = .ok (.iconst 1, 1) := by decide +kernel
theorem dX8_atHands_87 : decode cX8_atHands 87 = .ok (.goto 13, 3) := by decide +kernel
theorem dX8_atHands_90 : decode cX8_atHands 90 = .ok (.iload_n 2, 1) := by decide +kernel
theorem dX8_atHands_91 : decode cX8_atHands 91 = .ok (.iconst 2, 1) := by decide +kernel
theorem dX8_atHands_92 : decode cX8_atHands 92 = .ok (.if_icmp .ne 7, 3) := by decide +kernel
theorem dX8_atHands_95 : decode cX8_atHands 95 = .ok (.iconst 2, 1) := by decide +kernel
theorem dX8_atHands_96 : decode cX8_atHands 96 = .ok (.goto 4, 3) := by decide +kernel
theorem dX8_atHands_99 : decode cX8_atHands 99 = .ok (.iconst 0, 1) := by decide +kernel
theorem dX8_atHands_100 : decode cX8_atHands 100 = .ok (.lconst 1, 1) := by decide +kernel
theorem dX8_atHands_101 : decode cX8_atHands 101 = .ok (.iload_n 1, 1) := by decide +kernel
theorem dX8_atHands_102 : decode cX8_atHands 102 = .ok (.lshl, 1) := by decide +kernel
theorem dX8_atHands_103 : decode cX8_atHands 103 = .ok (.invokevirtual 194, 3) := by decide +kernel
theorem dX8_atHands_106 : decode cX8_atHands 106 = .ok (.ireturn, 1) := by decide +kernel
theorem dX8_isAt_0 : decode cX8_isAt 0 = .ok (.iload_n 1, 1) := by decide +kernel
theorem dX8_isAt_1 : decode cX8_isAt 1 = .ok (.tableswitch 45 0 2 #[27, 33, 39], 27) := by decide +kernel
theorem dX8_isAt_28 : decode cX8_isAt 28 = .ok (.aload_n 0, 1) := by decide +kernel
theorem dX8_isAt_29 : decode cX8_isAt 29 = .ok (.iload_n 2, 1) := by decide +kernel
theorem dX8_isAt_30 : decode cX8_isAt 30 = .ok (.invokevirtual 216, 3) := by decide +kernel
theorem dX8_isAt_33 : decode cX8_isAt 33 = .ok (.ireturn, 1) := by decide +kernel
theorem dX8_isAt_34 : decode cX8_isAt 34 = .ok (.aload_n 0, 1) := by decide +kernel
theorem dX8_isAt_35 : decode cX8_isAt 35 = .ok (.iload_n 2, 1) := by decide +kernel
theorem dX8_isAt_36 : decode cX8_isAt 36 = .ok (.invokevirtual 219, 3) := by decide +kernel
theorem dX8_isAt_39 : decode cX8_isAt 39 = .ok (.ireturn, 1) := by decide +kernel
theorem dX8_isAt_40 : decode cX8_isAt 40 = .ok (.aload_n 0, 1) := by decide +kernel
theorem dX8_isAt_41 : decode cX8_isAt 41 = .ok (.iload_n 2, 1) := by decide +kernel
theorem dX8_isAt_42 : decode cX8_isAt 42 = .ok (.invokevirtual 222, 3) := by decide +kernel
theorem dX8_isAt_45 : decode cX8_isAt 45 = .ok (.ireturn, 1) := by decide +kernel
theorem dX8_isAt_46 : decode cX8_isAt 46 = .ok (.aload_n 0, 1) := by decide +kernel
theorem dX8_isAt_47 : decode cX8_isAt 47 = .ok (.iload_n 2, 1) := by decide +kernel
theorem dX8_isAt_48 : decode cX8_isAt 48 = .ok (.invokevirtual 225, 3) := by decide +kernel
theorem dX8_isAt_51 : decode cX8_isAt 51 = .ok (.ireturn, 1) := by decide +kernel
theorem dX8_hints_0 : decode cX8_hints 0 = .ok (.iconst 0, 1) := by decide +kernel
theorem dX8_hints_1 : decode cX8_hints 1 = .ok (.istore_n 1, 1) := by decide +kernel
theorem dX8_hints_2 : decode cX8_hints 2 = .ok (.iload_n 1, 1) := by decide +kernel
theorem dX8_hints_3 : decode cX8_hints 3 = .ok (.iconst 4, 1) := by decide +kernel
theorem dX8_hints_4 : decode cX8_hints 4 = .ok (.if_icmp .ge 60, 3) := by decide +kernel
theorem dX8_hints_7 : decode cX8_hints 7 = .ok (.iload_n 1, 1) := by decide +kernel
theorem dX8_hints_8 : decode cX8_hints 8 = .ok (.ifCond .ne 10, 3) := by decide +kernel
theorem dX8_hints_11 : decode cX8_hints 11 = .ok (.aload_n 0, 1) := by decide +kernel
theorem dX8_hints_12 : decode cX8_hints 12 = .ok (.getfield 16, 3) := by decide +kernel
theorem dX8_hints_15 : decode cX8_hints 15 = .ok (.goto 19, 3) := by decide +kernel
theorem dX8_hints_18 : decode cX8_hints 18 = .ok (.iload_n 1, 1) := by decide +kernel
theorem dX8_hints_19 : decode cX8_hints 19 = .ok (.iconst 1, 1) := by decide +kernel
theorem dX8_hints_20 : decode cX8_hints 20 = .ok (.if_icmp .ne 10, 3) := by decide +kernel
theorem dX8_hints_23 : decode cX8_hints 23 = .ok (.aload_n 0, 1) := by decide +kernel
theorem dX8_hints_24 : decode cX8_hints 24 = .ok (.invokevirtual 145, 3) := by decide +kernel
theorem dX8_hints_27 : decode cX8_hints 27 = .ok (.goto 7, 3) := by decide +kernel
theorem dX8_hints_30 : decode cX8_hints 30 = .ok (.aload_n 0, 1) := by decide +kernel
theorem dX8_hints_31 : decode cX8_hints 31 = .ok (.getfield 19, 3) := by decide +kernel
theorem dX8_hints_34 : decode cX8_hints 34 = .ok (.istore_n 2, 1) := by decide +kernel
theorem dX8_hints_35 : decode cX8_hints 35 = .ok (.iconst 0, 1) := by decide +kernel
theorem dX8_hints_36 : decode cX8_hints 36 = .ok (.istore_n 3, 1) := by decide +kernel
theorem dX8_hints_37 : decode cX8_hints 37 = .ok (.iload_n 3, 1) := by decide +kernel
theorem dX8_hints_38 : decode cX8_hints 38 = .ok (.iload_n 2, 1) := by decide +kernel
theorem dX8_hints_39 : decode cX8_hints 39 = .ok (.if_icmp .ge 19, 3) := by decide +kernel
theorem dX8_hints_42 : decode cX8_hints 42 = .ok (.aload_n 0, 1) := by decide +kernel
theorem dX8_hints_43 : decode cX8_hints 43 = .ok (.iload_n 1, 1) := by decide +kernel
theorem dX8_hints_44 : decode cX8_hints 44 = .ok (.iload_n 3, 1) := by decide +kernel
theorem dX8_hints_45 : decode cX8_hints 45 = .ok (.invokevirtual 228, 3) := by decide +kernel
theorem dX8_hints_48 : decode cX8_hints 48 = .ok (.ifCond .eq 4, 3) := by decide +kernel
theorem dX8_hints_51 : decode cX8_hints 51 = .ok (.return_, 1) := by decide +kernel
theorem dX8_hints_52 : decode cX8_hints 52 = .ok (.iinc 3 1, 3) := by decide +kernel
theorem dX8_hints_55 : decode cX8_hints 55 = .ok (.goto (-18), 3) := by decide +kernel
theorem dX8_hints_58 : decode cX8_hints 58 = .ok (.iinc 1 1, 3) := by decide +kernel
theorem dX8_hints_61 : decode cX8_hints 61 = .ok (.goto (-59), 3) := by decide +kernel
theorem dX8_hints_64 : decode cX8_hints 64 = .ok (.aload_n 0, 1) := by decide +kernel
theorem dX8_hints_65 : decode cX8_hints 65 = .ok (.iconst 0, 1) := by decide +kernel
theorem dX8_hints_66 : decode cX8_hints 66 = .ok (.putfield 175, 3) := by decide +kernel
theorem dX8_hints_69 : decode cX8_hints 69 = .ok (.aload_n 0, 1) := by decide +kernel
theorem dX8_hints_70 : decode cX8_hints 70 = .ok (.lconst 0, 1) := by decide +kernel
theorem dX8_hints_71 : decode cX8_hints 71 = .ok (.putfield 184, 3) := by decide +kernel
theorem dX8_hints_74 : decode cX8_hints 74 = .ok (.return_, 1) := by decide +kernel
theorem dX8_step_0 : decode cX8_step 0 = .ok (.aload_n 0, 1) := by decide +kernel
theorem dX8_step_1 : decode cX8_step 1 = .ok (.invokevirtual 232, 3) := by decide +kernel
theorem dX8_step_4 : decode cX8_step 4 = .ok (.aload_n 0, 1) := by decide +kernel
theorem dX8_step_5 : decode cX8_step 5 = .ok (.getfield 175, 3) := by decide +kernel
theorem dX8_step_8 : decode cX8_step 8 = .ok (.ifCond .eq 11, 3) := by decide +kernel
theorem dX8_step_11 : decode cX8_step 11 = .ok (.aload_n 0, 1) := by decide +kernel
theorem dX8_step_12 : decode cX8_step 12 = .ok (.getfield 175, 3) := by decide +kernel
end
section
theorem dX8_step_15 : decode cX8_step 15 = .ok (.iconst 3, 1) := by decide +kernel
theorem dX8_step_16 : decode cX8_step 16 = .ok (.if_icmp .ne 18, 3) := by decide +kernel
theorem dX8_step_19 : decode cX8_step 19 = .ok (.aload_n 0, 1) := by decide +kernel
theorem dX8_step_20 : decode cX8_step 20 = .ok (.getfield 175, 3) := by decide +kernel
theorem dX8_step_23 : decode cX8_step 23 = .ok (.ifCond .ne 8, 3) := by decide +kernel
theorem dX8_step_26 : decode cX8_step 26 = .ok (.bipush (-2), 2) := by decide +kernel
theorem dX8_step_28 : decode cX8_step 28 = .ok (.goto 5, 3) := by decide +kernel
theorem dX8_step_31 : decode cX8_step 31 = .ok (.bipush (-4), 2) := by decide +kernel
theorem dX8_step_33 : decode cX8_step 33 = .ok (.ireturn, 1) := by decide +kernel
theorem dX8_step_34 : decode cX8_step 34 = .ok (.aload_n 0, 1) := by decide +kernel
theorem dX8_step_35 : decode cX8_step 35 = .ok (.invokevirtual 162, 3) := by decide +kernel
theorem dX8_step_38 : decode cX8_step 38 = .ok (.aload_n 0, 1) := by decide +kernel
theorem dX8_step_39 : decode cX8_step 39 = .ok (.aload_n 0, 1) := by decide +kernel
theorem dX8_step_40 : decode cX8_step 40 = .ok (.getfield 184, 3) := by decide +kernel
theorem dX8_step_43 : decode cX8_step 43 = .ok (.aload_n 0, 1) := by decide +kernel
theorem dX8_step_44 : decode cX8_step 44 = .ok (.getfield 175, 3) := by decide +kernel
theorem dX8_step_47 : decode cX8_step 47 = .ok (.iconst 1, 1) := by decide +kernel
theorem dX8_step_48 : decode cX8_step 48 = .ok (.if_icmp .ne 7, 3) := by decide +kernel
theorem dX8_step_51 : decode cX8_step 51 = .ok (.iconst 2, 1) := by decide +kernel
theorem dX8_step_52 : decode cX8_step 52 = .ok (.goto 4, 3) := by decide +kernel
theorem dX8_step_55 : decode cX8_step 55 = .ok (.iconst 1, 1) := by decide +kernel
theorem dX8_step_56 : decode cX8_step 56 = .ok (.invokevirtual 165, 3) := by decide +kernel
theorem dX8_step_59 : decode cX8_step 59 = .ok (.aload_n 0, 1) := by decide +kernel
theorem dX8_step_60 : decode cX8_step 60 = .ok (.getfield 184, 3) := by decide +kernel
theorem dX8_step_63 : decode cX8_step 63 = .ok (.invokestatic 187, 3) := by decide +kernel
theorem dX8_step_66 : decode cX8_step 66 = .ok (.ireturn, 1) := by decide +kernel
theorem dX8_spreads_0 : decode cX8_spreads 0 = .ok (.aload_n 0, 1) := by decide +kernel
theorem dX8_spreads_1 : decode cX8_spreads 1 = .ok (.invokevirtual 162, 3) := by decide +kernel
theorem dX8_spreads_4 : decode cX8_spreads 4 = .ok (.iconst 0, 1) := by decide +kernel
theorem dX8_spreads_5 : decode cX8_spreads 5 = .ok (.istore_n 1, 1) := by decide +kernel
theorem dX8_spreads_6 : decode cX8_spreads 6 = .ok (.aload_n 0, 1) := by decide +kernel
theorem dX8_spreads_7 : decode cX8_spreads 7 = .ok (.invokevirtual 232, 3) := by decide +kernel
theorem dX8_spreads_10 : decode cX8_spreads 10 = .ok (.aload_n 0, 1) := by decide +kernel
theorem dX8_spreads_11 : decode cX8_spreads 11 = .ok (.getfield 175, 3) := by decide +kernel
theorem dX8_spreads_14 : decode cX8_spreads 14 = .ok (.iconst 1, 1) := by decide +kernel
theorem dX8_spreads_15 : decode cX8_spreads 15 = .ok (.if_icmp .eq 11, 3) := by decide +kernel
theorem dX8_spreads_18 : decode cX8_spreads 18 = .ok (.aload_n 0, 1) := by decide +kernel
theorem dX8_spreads_19 : decode cX8_spreads 19 = .ok (.getfield 175, 3) := by decide +kernel
theorem dX8_spreads_22 : decode cX8_spreads 22 = .ok (.iconst 2, 1) := by decide +kernel
theorem dX8_spreads_23 : decode cX8_spreads 23 = .ok (.if_icmp .ne 41, 3) := by decide +kernel
theorem dX8_spreads_26 : decode cX8_spreads 26 = .ok (.iload_n 1, 1) := by decide +kernel
theorem dX8_spreads_27 : decode cX8_spreads 27 = .ok (.aload_n 0, 1) := by decide +kernel
theorem dX8_spreads_28 : decode cX8_spreads 28 = .ok (.getfield 184, 3) := by decide +kernel
theorem dX8_spreads_31 : decode cX8_spreads 31 = .ok (.invokestatic 187, 3) := by decide +kernel
theorem dX8_spreads_34 : decode cX8_spreads 34 = .ok (.iadd, 1) := by decide +kernel
theorem dX8_spreads_35 : decode cX8_spreads 35 = .ok (.istore_n 1, 1) := by decide +kernel
theorem dX8_spreads_36 : decode cX8_spreads 36 = .ok (.aload_n 0, 1) := by decide +kernel
theorem dX8_spreads_37 : decode cX8_spreads 37 = .ok (.aload_n 0, 1) := by decide +kernel
theorem dX8_spreads_38 : decode cX8_spreads 38 = .ok (.getfield 184, 3) := by decide +kernel
theorem dX8_spreads_41 : decode cX8_spreads 41 = .ok (.aload_n 0, 1) := by decide +kernel
theorem dX8_spreads_42 : decode cX8_spreads 42 = .ok (.getfield 175, 3) := by decide +kernel
theorem dX8_spreads_45 : decode cX8_spreads 45 = .ok (.iconst 1, 1) := by decide +kernel
theorem dX8_spreads_46 : decode cX8_spreads 46 = .ok (.if_icmp .ne 7, 3) := by decide +kernel
theorem dX8_spreads_49 : decode cX8_spreads 49 = .ok (.iconst 2, 1) := by decide +kernel
theorem dX8_spreads_50 : decode cX8_spreads 50 = .ok (.goto 4, 3) := by decide +kernel
theorem dX8_spreads_53 : decode cX8_spreads 53 = .ok (.iconst 1, 1) := by decide +kernel
theorem dX8_spreads_54 : decode cX8_spreads 54 = .ok (.invokevirtual 165, 3) := by decide +kernel
theorem dX8_spreads_57 : decode cX8_spreads 57 = .ok (.aload_n 0, 1) := by decide +kernel
theorem dX8_spreads_58 : decode cX8_spreads 58 = .ok (.invokevirtual 232, 3) := by decide +kernel
theorem dX8_spreads_61 : decode cX8_spreads 61 = .ok (.goto (-51), 3) := by decide +kernel
theorem dX8_spreads_64 : decode cX8_spreads 64 = .ok (.iload_n 1, 1) := by decide +kernel
theorem dX8_spreads_65 : decode cX8_spreads 65 = .ok (.ireturn, 1) := by decide +kernel
theorem dX8_undo_0 : decode cX8_undo 0 = .ok (.aload_n 0, 1) := by decide +kernel
theorem dX8_undo_1 : decode cX8_undo 1 = .ok (.getfield 127, 3) := by decide +kernel
theorem dX8_undo_4 : decode cX8_undo 4 = .ok (.ifCond .ne 6, 3) := by decide +kernel
theorem dX8_undo_7 : decode cX8_undo 7 = .ok (.bipush (-2), 2) := by decide +kernel
theorem dX8_undo_9 : decode cX8_undo 9 = .ok (.ireturn, 1) := by decide +kernel
theorem dX8_undo_10 : decode cX8_undo 10 = .ok (.aload_n 0, 1) := by decide +kernel
theorem dX8_undo_11 : decode cX8_undo 11 = .ok (.dup, 1) := by decide +kernel
theorem dX8_undo_12 : decode cX8_undo 12 = .ok (.getfield 127, 3) := by decide +kernel
theorem dX8_undo_15 : decode cX8_undo 15 = .ok (.iconst 1, 1) := by decide +kernel
theorem dX8_undo_16 : decode cX8_undo 16 = .ok (.isub, 1) := by decide +kernel
theorem dX8_undo_17 : decode cX8_undo 17 = .ok (.putfield 127, 3) := by decide +kernel
theorem dX8_undo_20 : decode cX8_undo 20 = .ok (.aload_n 0, 1) := by decide +kernel
theorem dX8_undo_21 : decode cX8_undo 21 = .ok (.aload_n 0, 1) := by decide +kernel
theorem dX8_undo_22 : decode cX8_undo 22 = .ok (.getfield 36, 3) := by decide +kernel
theorem dX8_undo_25 : decode cX8_undo 25 = .ok (.iconst 3, 1) := by decide +kernel
theorem dX8_undo_26 : decode cX8_undo 26 = .ok (.aload_n 0, 1) := by decide +kernel
theorem dX8_undo_27 : decode cX8_undo 27 = .ok (.getfield 127, 3) := by decide +kernel
theorem dX8_undo_30 : decode cX8_undo 30 = .ok (.imul, 1) := by decide +kernel
theorem dX8_undo_31 : decode cX8_undo 31 = .ok (.laload, 1) := by decide +kernel
theorem dX8_undo_32 : decode cX8_undo 32 = .ok (.putfield 52, 3) := by decide +kernel
theorem dX8_undo_35 : decode cX8_undo 35 = .ok (.aload_n 0, 1) := by decide +kernel
theorem dX8_undo_36 : decode cX8_undo 36 = .ok (.aload_n 0, 1) := by decide +kernel
theorem dX8_undo_37 : decode cX8_undo 37 = .ok (.getfield 36, 3) := by decide +kernel
theorem dX8_undo_40 : decode cX8_undo 40 = .ok (.iconst 3, 1) := by decide +kernel
theorem dX8_undo_41 : decode cX8_undo 41 = .ok (.aload_n 0, 1) := by decide +kernel
theorem dX8_undo_42 : decode cX8_undo 42 = .ok (.getfield 127, 3) := by decide +kernel
theorem dX8_undo_45 : decode cX8_undo 45 = .ok (.imul, 1) := by decide +kernel
theorem dX8_undo_46 : decode cX8_undo 46 = .ok (.iconst 1, 1) := by decide +kernel
theorem dX8_undo_47 : decode cX8_undo 47 = .ok (.iadd, 1) := by decide +kernel
theorem dX8_undo_48 : decode cX8_undo 48 = .ok (.laload, 1) := by decide +kernel
theorem dX8_undo_49 : decode cX8_undo 49 = .ok (.putfield 83, 3) := by decide +kernel
theorem dX8_undo_52 : decode cX8_undo 52 = .ok (.aload_n 0, 1) := by decide +kernel
theorem dX8_undo_53 : decode cX8_undo 53 = .ok (.aload_n 0, 1) := by decide +kernel
theorem dX8_undo_54 : decode cX8_undo 54 = .ok (.getfield 36, 3) := by decide +kernel
theorem dX8_undo_57 : decode cX8_undo 57 = .ok (.iconst 3, 1) := by decide +kernel
theorem dX8_undo_58 : decode cX8_undo 58 = .ok (.aload_n 0, 1) := by decide +kernel
theorem dX8_undo_59 : decode cX8_undo 59 = .ok (.getfield 127, 3) := by decide +kernel
theorem dX8_undo_62 : decode cX8_undo 62 = .ok (.imul, 1) := by decide +kernel
theorem dX8_undo_63 : decode cX8_undo 63 = .ok (.iconst 2, 1) := by decide +kernel
theorem dX8_undo_64 : decode cX8_undo 64 = .ok (.iadd, 1) := by decide +kernel
theorem dX8_undo_65 : decode cX8_undo 65 = .ok (.laload, 1) := by decide +kernel
theorem dX8_undo_66 : decode cX8_undo 66 = .ok (.putfield 88, 3) := by decide +kernel
theorem dX8_undo_69 : decode cX8_undo 69 = .ok (.aload_n 0, 1) := by decide +kernel
theorem dX8_undo_70 : decode cX8_undo 70 = .ok (.getfield 127, 3) := by decide +kernel
theorem dX8_undo_73 : decode cX8_undo 73 = .ok (.ireturn, 1) := by decide +kernel
theorem dX8_hint_0 : decode cX8_hint 0 = .ok (.iload_n 1, 1) := by decide +kernel
theorem dX8_hint_1 : decode cX8_hint 1 = .ok (.i2l, 1) := by decide +kernel
theorem dX8_hint_2 : decode cX8_hint 2 = .ok (.lconst 0, 1) := by decide +kernel
theorem dX8_hint_3 : decode cX8_hint 3 = .ok (.ldc2_w 149, 3) := by decide +kernel
theorem dX8_hint_6 : decode cX8_hint 6 = .ok (.invokestatic 61, 3) := by decide +kernel
theorem dX8_hint_9 : decode cX8_hint 9 = .ok (.ifCond .ne 5, 3) := by decide +kernel
theorem dX8_hint_12 : decode cX8_hint 12 = .ok (.iconst (-1), 1) := by decide +kernel
theorem dX8_hint_13 : decode cX8_hint 13 = .ok (.ireturn, 1) := by decide +kernel
theorem dX8_hint_14 : decode cX8_hint 14 = .ok (.aload_n 0, 1) := by decide +kernel
theorem dX8_hint_15 : decode cX8_hint 15 = .ok (.invokevirtual 232, 3) := by decide +kernel
theorem dX8_hint_18 : decode cX8_hint 18 = .ok (.iload_n 1, 1) := by decide +kernel
theorem dX8_hint_19 : decode cX8_hint 19 = .ok (.ifCond .ne 8, 3) := by decide +kernel
theorem dX8_hint_22 : decode cX8_hint 22 = .ok (.aload_n 0, 1) := by decide +kernel
theorem dX8_hint_23 : decode cX8_hint 23 = .ok (.getfield 175, 3) := by decide +kernel
theorem dX8_hint_26 : decode cX8_hint 26 = .ok (.ireturn, 1) := by decide +kernel
theorem dX8_hint_27 : decode cX8_hint 27 = .ok (.aload_n 0, 1) := by decide +kernel
theorem dX8_hint_28 : decode cX8_hint 28 = .ok (.getfield 175, 3) := by decide +kernel
theorem dX8_hint_31 : decode cX8_hint 31 = .ok (.ifCond .ne 6, 3) := by decide +kernel
theorem dX8_hint_34 : decode cX8_hint 34 = .ok (.bipush (-9), 2) := by decide +kernel
theorem dX8_hint_36 : decode cX8_hint 36 = .ok (.ireturn, 1) := by decide +kernel
theorem dX8_hint_37 : decode cX8_hint 37 = .ok (.iload_n 1, 1) := by decide +kernel
theorem dX8_hint_38 : decode cX8_hint 38 = .ok (.iconst 1, 1) := by decide +kernel
theorem dX8_hint_39 : decode cX8_hint 39 = .ok (.if_icmp .ne 10, 3) := by decide +kernel
theorem dX8_hint_42 : decode cX8_hint 42 = .ok (.aload_n 0, 1) := by decide +kernel
theorem dX8_hint_43 : decode cX8_hint 43 = .ok (.getfield 178, 3) := by decide +kernel
theorem dX8_hint_46 : decode cX8_hint 46 = .ok (.goto 35, 3) := by decide +kernel
theorem dX8_hint_49 : decode cX8_hint 49 = .ok (.iload_n 1, 1) := by decide +kernel
theorem dX8_hint_50 : decode cX8_hint 50 = .ok (.iconst 2, 1) := by decide +kernel
theorem dX8_hint_51 : decode cX8_hint 51 = .ok (.if_icmp .ne 10, 3) := by decide +kernel
theorem dX8_hint_54 : decode cX8_hint 54 = .ok (.aload_n 0, 1) := by decide +kernel
theorem dX8_hint_55 : decode cX8_hint 55 = .ok (.getfield 181, 3) := by decide +kernel
theorem dX8_hint_58 : decode cX8_hint 58 = .ok (.goto 23, 3) := by decide +kernel
theorem dX8_hint_61 : decode cX8_hint 61 = .ok (.aload_n 0, 1) := by decide +kernel
theorem dX8_hint_62 : decode cX8_hint 62 = .ok (.getfield 175, 3) := by decide +kernel
theorem dX8_hint_65 : decode cX8_hint 65 = .ok (.iconst 3, 1) := by decide +kernel
theorem dX8_hint_66 : decode cX8_hint 66 = .ok (.if_icmp .ne 8, 3) := by decide +kernel
theorem dX8_hint_69 : decode cX8_hint 69 = .ok (.bipush (-9), 2) := by decide +kernel
theorem dX8_hint_71 : decode cX8_hint 71 = .ok (.goto 10, 3) := by decide +kernel
theorem dX8_hint_74 : decode cX8_hint 74 = .ok (.aload_n 0, 1) := by decide +kernel
theorem dX8_hint_75 : decode cX8_hint 75 = .ok (.getfield 184, 3) := by decide +kernel
theorem dX8_hint_78 : decode cX8_hint 78 = .ok (.invokestatic 187, 3) := by decide +kernel
theorem dX8_hint_81 : decode cX8_hint 81 = .ok (.ireturn, 1) := by decide +kernel
theorem dX8_hinted_0 : decode cX8_hinted 0 = .ok (.aload_n 0, 1) := by decide +kernel
theorem dX8_hinted_1 : decode cX8_hinted 1 = .ok (.invokevirtual 232, 3) := by decide +kernel
theorem dX8_hinted_4 : decode cX8_hinted 4 = .ok (.aload_n 0, 1) := by decide +kernel
theorem dX8_hinted_5 : decode cX8_hinted 5 = .ok (.getfield 184, 3) := by decide +kernel
theorem dX8_hinted_8 : decode cX8_hinted 8 = .ok (.lreturn, 1) := by decide +kernel
theorem dX8_around_0 : decode cX8_around 0 = .ok (.lconst 0, 1) := by decide +kernel
theorem dX8_around_1 : decode cX8_around 1 = .ok (.lstore_n 2, 1) := by decide +kernel
theorem dX8_around_2 : decode cX8_around 2 = .ok (.iconst 0, 1) := by decide +kernel
theorem dX8_around_3 : decode cX8_around 3 = .ok (.istore 4, 2) := by decide +kernel
theorem dX8_around_5 : decode cX8_around 5 = .ok (.iload 4, 2) := by decide +kernel
theorem dX8_around_7 : decode cX8_around 7 = .ok (.aload_n 0, 1) := by decide +kernel
theorem dX8_around_8 : decode cX8_around 8 = .ok (.getfield 19, 3) := by decide +kernel
theorem dX8_around_11 : decode cX8_around 11 = .ok (.if_icmp .ge 107, 3) := by decide +kernel
theorem dX8_around_14 : decode cX8_around 14 = .ok (.aload_n 0, 1) := by decide +kernel
theorem dX8_around_15 : decode cX8_around 15 = .ok (.getfield 29, 3) := by decide +kernel
theorem dX8_around_18 : decode cX8_around 18 = .ok (.iconst 2, 1) := by decide +kernel
theorem dX8_around_19 : decode cX8_around 19 = .ok (.iload 4, 2) := by decide +kernel
theorem dX8_around_21 : decode cX8_around 21 = .ok (.imul, 1) := by decide +kernel
theorem dX8_around_22 : decode cX8_around 22 = .ok (.iaload, 1) := by decide +kernel
theorem dX8_around_23 : decode cX8_around 23 = .ok (.bipush 16, 2) := by decide +kernel
theorem dX8_around_25 : decode cX8_around 25 = .ok (.if_icmp .ge 24, 3) := by decide +kernel
theorem dX8_around_28 : decode cX8_around 28 = .ok (.iload_n 1, 1) := by decide +kernel
theorem dX8_around_29 : decode cX8_around 29 = .ok (.i2l, 1) := by decide +kernel
theorem dX8_around_30 : decode cX8_around 30 = .ok (.aload_n 0, 1) := by decide +kernel
theorem dX8_around_31 : decode cX8_around 31 = .ok (.getfield 29, 3) := by decide +kernel
theorem dX8_around_34 : decode cX8_around 34 = .ok (.iconst 2, 1) := by decide +kernel
theorem dX8_around_35 : decode cX8_around 35 = .ok (.iload 4, 2) := by decide +kernel
theorem dX8_around_37 : decode cX8_around 37 = .ok (.imul, 1) := by decide +kernel
theorem dX8_around_38 : decode cX8_around 38 = .ok (.iaload, 1) := by decide +kernel
theorem dX8_around_39 : decode cX8_around 39 = .ok (.invokestatic 141, 3) := by decide +kernel
theorem dX8_around_42 : decode cX8_around 42 = .ok (.ifCond .eq 7, 3) := by decide +kernel
theorem dX8_around_45 : decode cX8_around 45 = .ok (.iconst 1, 1) := by decide +kernel
theorem dX8_around_46 : decode cX8_around 46 = .ok (.goto 4, 3) := by decide +kernel
theorem dX8_around_49 : decode cX8_around 49 = .ok (.iconst 0, 1) := by decide +kernel
theorem dX8_around_50 : decode cX8_around 50 = .ok (.istore 5, 2) := by decide +kernel
theorem dX8_around_52 : decode cX8_around 52 = .ok (.aload_n 0, 1) := by decide +kernel
theorem dX8_around_53 : decode cX8_around 53 = .ok (.getfield 29, 3) := by decide +kernel
theorem dX8_around_56 : decode cX8_around 56 = .ok (.iconst 2, 1) := by decide +kernel
theorem dX8_around_57 : decode cX8_around 57 = .ok (.iload 4, 2) := by decide +kernel
theorem dX8_around_59 : decode cX8_around 59 = .ok (.imul, 1) := by decide +kernel
theorem dX8_around_60 : decode cX8_around 60 = .ok (.iconst 1, 1) := by decide +kernel
theorem dX8_around_61 : decode cX8_around 61 = .ok (.iadd, 1) := by decide +kernel
theorem dX8_around_62 : decode cX8_around 62 = .ok (.iaload, 1) := by decide +kernel
theorem dX8_around_63 : decode cX8_around 63 = .ok (.bipush 16, 2) := by decide +kernel
theorem dX8_around_65 : decode cX8_around 65 = .ok (.if_icmp .ge 26, 3) := by decide +kernel
theorem dX8_around_68 : decode cX8_around 68 = .ok (.iload_n 1, 1) := by decide +kernel
theorem dX8_around_69 : decode cX8_around 69 = .ok (.i2l, 1) := by decide +kernel
theorem dX8_around_70 : decode cX8_around 70 = .ok (.aload_n 0, 1) := by decide +kernel
theorem dX8_around_71 : decode cX8_around 71 = .ok (.getfield 29, 3) := by decide +kernel
theorem dX8_around_74 : decode cX8_around 74 = .ok (.iconst 2, 1) := by decide +kernel
theorem dX8_around_75 : decode cX8_around 75 = .ok (.iload 4, 2) := by decide +kernel
theorem dX8_around_77 : decode cX8_around 77 = .ok (.imul, 1) := by decide +kernel
theorem dX8_around_78 : decode cX8_around 78 = .ok (.iconst 1, 1) := by decide +kernel
theorem dX8_around_79 : decode cX8_around 79 = .ok (.iadd, 1) := by decide +kernel
theorem dX8_around_80 : decode cX8_around 80 = .ok (.iaload, 1) := by decide +kernel
theorem dX8_around_81 : decode cX8_around 81 = .ok (.invokestatic 141, 3) := by decide +kernel
theorem dX8_around_84 : decode cX8_around 84 = .ok (.ifCond .eq 7, 3) := by decide +kernel
theorem dX8_around_87 : decode cX8_around 87 = .ok (.iconst 1, 1) := by decide +kernel
theorem dX8_around_88 : decode cX8_around 88 = .ok (.goto 4, 3) := by decide +kernel
theorem dX8_around_91 : decode cX8_around 91 = .ok (.iconst 0, 1) := by decide +kernel
theorem dX8_around_92 : decode cX8_around 92 = .ok (.istore 6, 2) := by decide +kernel
theorem dX8_around_94 : decode cX8_around 94 = .ok (.lload_n 2, 1) := by decide +kernel
theorem dX8_around_95 : decode cX8_around 95 = .ok (.iload 5, 2) := by decide +kernel
theorem dX8_around_97 : decode cX8_around 97 = .ok (.iload 6, 2) := by decide +kernel
theorem dX8_around_99 : decode cX8_around 99 = .ok (.if_icmp .eq 10, 3) := by decide +kernel
theorem dX8_around_102 : decode cX8_around 102 = .ok (.lconst 1, 1) := by decide +kernel
theorem dX8_around_103 : decode cX8_around 103 = .ok (.iload 4, 2) := by decide +kernel
theorem dX8_around_105 : decode cX8_around 105 = .ok (.lshl, 1) := by decide +kernel
theorem dX8_around_106 : decode cX8_around 106 = .ok (.goto 4, 3) := by decide +kernel
theorem dX8_around_109 : decode cX8_around 109 = .ok (.lconst 0, 1) := by decide +kernel
theorem dX8_around_110 : decode cX8_around 110 = .ok (.lor, 1) := by decide +kernel
theorem dX8_around_111 : decode cX8_around 111 = .ok (.lstore_n 2, 1) := by decide +kernel
theorem dX8_around_112 : decode cX8_around 112 = .ok (.iinc 4 1, 3) := by decide +kernel
theorem dX8_around_115 : decode cX8_around 115 = .ok (.goto (-110), 3) := by decide +kernel
theorem dX8_around_118 : decode cX8_around 118 = .ok (.lload_n 2, 1) := by decide +kernel
theorem dX8_around_119 : decode cX8_around 119 = .ok (.lreturn, 1) := by decide +kernel
theorem dX8_isRing_0 : decode cX8_isRing 0 = .ok (.iconst 1, 1) := by decide +kernel
theorem dX8_isRing_1 : decode cX8_isRing 1 = .ok (.istore_n 3, 1) := by decide +kernel
theorem dX8_isRing_2 : decode cX8_isRing 2 = .ok (.iconst 0, 1) := by decide +kernel
theorem dX8_isRing_3 : decode cX8_isRing 3 = .ok (.istore 4, 2) := by decide +kernel
theorem dX8_isRing_5 : decode cX8_isRing 5 = .ok (.iload 4, 2) := by decide +kernel
theorem dX8_isRing_7 : decode cX8_isRing 7 = .ok (.aload_n 0, 1) := by decide +kernel
theorem dX8_isRing_8 : decode cX8_isRing 8 = .ok (.invokevirtual 145, 3) := by decide +kernel
theorem dX8_isRing_11 : decode cX8_isRing 11 = .ok (.if_icmp .ge 44, 3) := by decide +kernel
theorem dX8_isRing_14 : decode cX8_isRing 14 = .ok (.iload_n 3, 1) := by decide +kernel
theorem dX8_isRing_15 : decode cX8_isRing 15 = .ok (.ifCond .eq 40, 3) := by decide +kernel
theorem dX8_isRing_18 : decode cX8_isRing 18 = .ok (.aload_n 0, 1) := by decide +kernel
theorem dX8_isRing_19 : decode cX8_isRing 19 = .ok (.getfield 26, 3) := by decide +kernel
theorem dX8_isRing_22 : decode cX8_isRing 22 = .ok (.iload 4, 2) := by decide +kernel
theorem dX8_isRing_24 : decode cX8_isRing 24 = .ok (.laload, 1) := by decide +kernel
theorem dX8_isRing_25 : decode cX8_isRing 25 = .ok (.lload_n 1, 1) := by decide +kernel
theorem dX8_isRing_26 : decode cX8_isRing 26 = .ok (.land, 1) := by decide +kernel
theorem dX8_isRing_27 : decode cX8_isRing 27 = .ok (.invokestatic 187, 3) := by decide +kernel
theorem dX8_isRing_30 : decode cX8_isRing 30 = .ok (.istore 5, 2) := by decide +kernel
theorem dX8_isRing_32 : decode cX8_isRing 32 = .ok (.iload 5, 2) := by decide +kernel
theorem dX8_isRing_34 : decode cX8_isRing 34 = .ok (.ifCond .eq 9, 3) := by decide +kernel
theorem dX8_isRing_37 : decode cX8_isRing 37 = .ok (.iload 5, 2) := by decide +kernel
theorem dX8_isRing_39 : decode cX8_isRing 39 = .ok (.iconst 2, 1) := by decide +kernel
theorem dX8_isRing_40 : decode cX8_isRing 40 = .ok (.if_icmp .ne 7, 3) := by decide +kernel
theorem dX8_isRing_43 : decode cX8_isRing 43 = .ok (.iconst 1, 1) := by decide +kernel
theorem dX8_isRing_44 : decode cX8_isRing 44 = .ok (.goto 4, 3) := by decide +kernel
theorem dX8_isRing_47 : decode cX8_isRing 47 = .ok (.iconst 0, 1) := by decide +kernel
theorem dX8_isRing_48 : decode cX8_isRing 48 = .ok (.istore_n 3, 1) := by decide +kernel
theorem dX8_isRing_49 : decode cX8_isRing 49 = .ok (.iinc 4 1, 3) := by decide +kernel
theorem dX8_isRing_52 : decode cX8_isRing 52 = .ok (.goto (-47), 3) := by decide +kernel
theorem dX8_isRing_55 : decode cX8_isRing 55 = .ok (.iload_n 3, 1) := by decide +kernel
theorem dX8_isRing_56 : decode cX8_isRing 56 = .ok (.ifCond .eq 21, 3) := by decide +kernel
theorem dX8_isRing_59 : decode cX8_isRing 59 = .ok (.aload_n 0, 1) := by decide +kernel
theorem dX8_isRing_60 : decode cX8_isRing 60 = .ok (.lload_n 1, 1) := by decide +kernel
theorem dX8_isRing_61 : decode cX8_isRing 61 = .ok (.lload_n 1, 1) := by decide +kernel
theorem dX8_isRing_62 : decode cX8_isRing 62 = .ok (.lneg, 1) := by decide +kernel
theorem dX8_isRing_63 : decode cX8_isRing 63 = .ok (.land, 1) := by decide +kernel
theorem dX8_isRing_64 : decode cX8_isRing 64 = .ok (.lload_n 1, 1) := by decide +kernel
theorem dX8_isRing_65 : decode cX8_isRing 65 = .ok (.invokevirtual 198, 3) := by decide +kernel
theorem dX8_isRing_68 : decode cX8_isRing 68 = .ok (.lload_n 1, 1) := by decide +kernel
theorem dX8_isRing_69 : decode cX8_isRing 69 = .ok (.lcmp, 1) := by decide +kernel
theorem dX8_isRing_70 : decode cX8_isRing 70 = .ok (.ifCond .ne 7, 3) := by decide +kernel
theorem dX8_isRing_73 : decode cX8_isRing 73 = .ok (.iconst 1, 1) := by decide +kernel
theorem dX8_isRing_74 : decode cX8_isRing 74 = .ok (.goto 4, 3) := by decide +kernel
theorem dX8_isRing_77 : decode cX8_isRing 77 = .ok (.iconst 0, 1) := by decide +kernel
theorem dX8_isRing_78 : decode cX8_isRing 78 = .ok (.ireturn, 1) := by decide +kernel
theorem dX8_laysRings_0 : decode cX8_laysRings 0 = .ok (.aload_n 0, 1) := by decide +kernel
theorem dX8_laysRings_1 : decode cX8_laysRings 1 = .ok (.getfield 235, 3) := by decide +kernel
theorem dX8_laysRings_4 : decode cX8_laysRings 4 = .ok (.aload_n 0, 1) := by decide +kernel
theorem dX8_laysRings_5 : decode cX8_laysRings 5 = .ok (.getfield 7, 3) := by decide +kernel
theorem dX8_laysRings_8 : decode cX8_laysRings 8 = .ok (.if_icmp .ne 15, 3) := by decide +kernel
theorem dX8_laysRings_11 : decode cX8_laysRings 11 = .ok (.aload_n 0, 1) := by decide +kernel
theorem dX8_laysRings_12 : decode cX8_laysRings 12 = .ok (.getfield 238, 3) := by decide +kernel
theorem dX8_laysRings_15 : decode cX8_laysRings 15 = .ok (.aload_n 0, 1) := by decide +kernel
theorem dX8_laysRings_16 : decode cX8_laysRings 16 = .ok (.getfield 13, 3) := by decide +kernel
theorem dX8_laysRings_19 : decode cX8_laysRings 19 = .ok (.if_icmp .ne 4, 3) := by decide +kernel
theorem dX8_laysRings_22 : decode cX8_laysRings 22 = .ok (.return_, 1) := by decide +kernel
theorem dX8_laysRings_23 : decode cX8_laysRings 23 = .ok (.aload_n 0, 1) := by decide +kernel
theorem dX8_laysRings_24 : decode cX8_laysRings 24 = .ok (.aload_n 0, 1) := by decide +kernel
theorem dX8_laysRings_25 : decode cX8_laysRings 25 = .ok (.getfield 7, 3) := by decide +kernel
theorem dX8_laysRings_28 : decode cX8_laysRings 28 = .ok (.putfield 235, 3) := by decide +kernel
theorem dX8_laysRings_31 : decode cX8_laysRings 31 = .ok (.aload_n 0, 1) := by decide +kernel
theorem dX8_laysRings_32 : decode cX8_laysRings 32 = .ok (.aload_n 0, 1) := by decide +kernel
theorem dX8_laysRings_33 : decode cX8_laysRings 33 = .ok (.getfield 13, 3) := by decide +kernel
theorem dX8_laysRings_36 : decode cX8_laysRings 36 = .ok (.putfield 238, 3) := by decide +kernel
theorem dX8_laysRings_39 : decode cX8_laysRings 39 = .ok (.aload_n 0, 1) := by decide +kernel
theorem dX8_laysRings_40 : decode cX8_laysRings 40 = .ok (.iconst 0, 1) := by decide +kernel
theorem dX8_laysRings_41 : decode cX8_laysRings 41 = .ok (.putfield 241, 3) := by decide +kernel
theorem dX8_laysRings_44 : decode cX8_laysRings 44 = .ok (.iconst 1, 1) := by decide +kernel
theorem dX8_laysRings_45 : decode cX8_laysRings 45 = .ok (.istore_n 1, 1) := by decide +kernel
theorem dX8_laysRings_46 : decode cX8_laysRings 46 = .ok (.iload_n 1, 1) := by decide +kernel
theorem dX8_laysRings_47 : decode cX8_laysRings 47 = .ok (.iconst 1, 1) := by decide +kernel
theorem dX8_laysRings_48 : decode cX8_laysRings 48 = .ok (.aload_n 0, 1) := by decide +kernel
theorem dX8_laysRings_49 : decode cX8_laysRings 49 = .ok (.getfield 16, 3) := by decide +kernel
theorem dX8_laysRings_52 : decode cX8_laysRings 52 = .ok (.ishl, 1) := by decide +kernel
theorem dX8_laysRings_53 : decode cX8_laysRings 53 = .ok (.if_icmp .ge 43, 3) := by decide +kernel
theorem dX8_laysRings_56 : decode cX8_laysRings 56 = .ok (.aload_n 0, 1) := by decide +kernel
theorem dX8_laysRings_57 : decode cX8_laysRings 57 = .ok (.iload_n 1, 1) := by decide +kernel
theorem dX8_laysRings_58 : decode cX8_laysRings 58 = .ok (.invokevirtual 244, 3) := by decide +kernel
theorem dX8_laysRings_61 : decode cX8_laysRings 61 = .ok (.lstore_n 2, 1) := by decide +kernel
theorem dX8_laysRings_62 : decode cX8_laysRings 62 = .ok (.aload_n 0, 1) := by decide +kernel
theorem dX8_laysRings_63 : decode cX8_laysRings 63 = .ok (.lload_n 2, 1) := by decide +kernel
theorem dX8_laysRings_64 : decode cX8_laysRings 64 = .ok (.invokevirtual 248, 3) := by decide +kernel
theorem dX8_laysRings_67 : decode cX8_laysRings 67 = .ok (.ifCond .eq 23, 3) := by decide +kernel
theorem dX8_laysRings_70 : decode cX8_laysRings 70 = .ok (.aload_n 0, 1) := by decide +kernel
theorem dX8_laysRings_71 : decode cX8_laysRings 71 = .ok (.getfield 46, 3) := by decide +kernel
theorem dX8_laysRings_74 : decode cX8_laysRings 74 = .ok (.aload_n 0, 1) := by decide +kernel
theorem dX8_laysRings_75 : decode cX8_laysRings 75 = .ok (.getfield 241, 3) := by decide +kernel
theorem dX8_laysRings_78 : decode cX8_laysRings 78 = .ok (.lload_n 2, 1) := by decide +kernel
theorem dX8_laysRings_79 : decode cX8_laysRings 79 = .ok (.lastore, 1) := by decide +kernel
theorem dX8_laysRings_80 : decode cX8_laysRings 80 = .ok (.aload_n 0, 1) := by decide +kernel
theorem dX8_laysRings_81 : decode cX8_laysRings 81 = .ok (.dup, 1) := by decide +kernel
theorem dX8_laysRings_82 : decode cX8_laysRings 82 = .ok (.getfield 241, 3) := by decide +kernel
theorem dX8_laysRings_85 : decode cX8_laysRings 85 = .ok (.iconst 1, 1) := by decide +kernel
theorem dX8_laysRings_86 : decode cX8_laysRings 86 = .ok (.iadd, 1) := by decide +kernel
theorem dX8_laysRings_87 : decode cX8_laysRings 87 = .ok (.putfield 241, 3) := by decide +kernel
theorem dX8_laysRings_90 : decode cX8_laysRings 90 = .ok (.iinc 1 1, 3) := by decide +kernel
theorem dX8_laysRings_93 : decode cX8_laysRings 93 = .ok (.goto (-47), 3) := by decide +kernel
theorem dX8_laysRings_96 : decode cX8_laysRings 96 = .ok (.sipush 4096, 3) := by decide +kernel
theorem dX8_laysRings_99 : decode cX8_laysRings 99 = .ok (.istore_n 1, 1) := by decide +kernel
theorem dX8_laysRings_100 : decode cX8_laysRings 100 = .ok (.iload_n 1, 1) := by decide +kernel
theorem dX8_laysRings_101 : decode cX8_laysRings 101 = .ok (.ifCond .le 89, 3) := by decide +kernel
theorem dX8_laysRings_104 : decode cX8_laysRings 104 = .ok (.iload_n 1, 1) := by decide +kernel
theorem dX8_laysRings_105 : decode cX8_laysRings 105 = .ok (.istore_n 2, 1) := by decide +kernel
theorem dX8_laysRings_106 : decode cX8_laysRings 106 = .ok (.iload_n 2, 1) := by decide +kernel
theorem dX8_laysRings_107 : decode cX8_laysRings 107 = .ok (.aload_n 0, 1) := by decide +kernel
theorem dX8_laysRings_108 : decode cX8_laysRings 108 = .ok (.getfield 241, 3) := by decide +kernel
theorem dX8_laysRings_111 : decode cX8_laysRings 111 = .ok (.if_icmp .ge 72, 3) := by decide +kernel
theorem dX8_laysRings_114 : decode cX8_laysRings 114 = .ok (.aload_n 0, 1) := by decide +kernel
theorem dX8_laysRings_115 : decode cX8_laysRings 115 = .ok (.getfield 46, 3) := by decide +kernel
theorem dX8_laysRings_118 : decode cX8_laysRings 118 = .ok (.iload_n 2, 1) := by decide +kernel
theorem dX8_laysRings_119 : decode cX8_laysRings 119 = .ok (.laload, 1) := by decide +kernel
theorem dX8_laysRings_120 : decode cX8_laysRings 120 = .ok (.lstore_n 3, 1) := by decide +kernel
theorem dX8_laysRings_121 : decode cX8_laysRings 121 = .ok (.iload_n 2, 1) := by decide +kernel
theorem dX8_laysRings_122 : decode cX8_laysRings 122 = .ok (.istore 5, 2) := by decide +kernel
theorem dX8_laysRings_124 : decode cX8_laysRings 124 = .ok (.iload 5, 2) := by decide +kernel
theorem dX8_laysRings_126 : decode cX8_laysRings 126 = .ok (.iload_n 1, 1) := by decide +kernel
theorem dX8_laysRings_127 : decode cX8_laysRings 127 = .ok (.if_icmp .lt 42, 3) := by decide +kernel
theorem dX8_laysRings_130 : decode cX8_laysRings 130 = .ok (.aload_n 0, 1) := by decide +kernel
theorem dX8_laysRings_131 : decode cX8_laysRings 131 = .ok (.getfield 46, 3) := by decide +kernel
theorem dX8_laysRings_134 : decode cX8_laysRings 134 = .ok (.iload 5, 2) := by decide +kernel
theorem dX8_laysRings_136 : decode cX8_laysRings 136 = .ok (.iload_n 1, 1) := by decide +kernel
theorem dX8_laysRings_137 : decode cX8_laysRings 137 = .ok (.isub, 1) := by decide +kernel
theorem dX8_laysRings_138 : decode cX8_laysRings 138 = .ok (.laload, 1) := by decide +kernel
theorem dX8_laysRings_139 : decode cX8_laysRings 139 = .ok (.lload_n 3, 1) := by decide +kernel
theorem dX8_laysRings_140 : decode cX8_laysRings 140 = .ok (.lcmp, 1) := by decide +kernel
theorem dX8_laysRings_141 : decode cX8_laysRings 141 = .ok (.ifCond .le 28, 3) := by decide +kernel
theorem dX8_laysRings_144 : decode cX8_laysRings 144 = .ok (.aload_n 0, 1) := by decide +kernel
theorem dX8_laysRings_145 : decode cX8_laysRings 145 = .ok (.getfield 46, 3) := by decide +kernel
theorem dX8_laysRings_148 : decode cX8_laysRings 148 = .ok (.iload 5, 2) := by decide +kernel
theorem dX8_laysRings_150 : decode cX8_laysRings 150 = .ok (.aload_n 0, 1) := by decide +kernel
theorem dX8_laysRings_151 : decode cX8_laysRings 151 = .ok (.getfield 46, 3) := by decide +kernel
theorem dX8_laysRings_154 : decode cX8_laysRings 154 = .ok (.iload 5, 2) := by decide +kernel
theorem dX8_laysRings_156 : decode cX8_laysRings 156 = .ok (.iload_n 1, 1) := by decide +kernel
theorem dX8_laysRings_157 : decode cX8_laysRings 157 = .ok (.isub, 1) := by decide +kernel
theorem dX8_laysRings_158 : decode cX8_laysRings 158 = .ok (.laload, 1) := by decide +kernel
theorem dX8_laysRings_159 : decode cX8_laysRings 159 = .ok (.lastore, 1) := by decide +kernel
theorem dX8_laysRings_160 : decode cX8_laysRings 160 = .ok (.iload 5, 2) := by decide +kernel
theorem dX8_laysRings_162 : decode cX8_laysRings 162 = .ok (.iload_n 1, 1) := by decide +kernel
theorem dX8_laysRings_163 : decode cX8_laysRings 163 = .ok (.isub, 1) := by decide +kernel
theorem dX8_laysRings_164 : decode cX8_laysRings 164 = .ok (.istore 5, 2) := by decide +kernel
theorem dX8_laysRings_166 : decode cX8_laysRings 166 = .ok (.goto (-42), 3) := by decide +kernel
theorem dX8_laysRings_169 : decode cX8_laysRings 169 = .ok (.aload_n 0, 1) := by decide +kernel
theorem dX8_laysRings_170 : decode cX8_laysRings 170 = .ok (.getfield 46, 3) := by decide +kernel
theorem dX8_laysRings_173 : decode cX8_laysRings 173 = .ok (.iload 5, 2) := by decide +kernel
theorem dX8_laysRings_175 : decode cX8_laysRings 175 = .ok (.lload_n 3, 1) := by decide +kernel
theorem dX8_laysRings_176 : decode cX8_laysRings 176 = .ok (.lastore, 1) := by decide +kernel
theorem dX8_laysRings_177 : decode cX8_laysRings 177 = .ok (.iinc 2 1, 3) := by decide +kernel
theorem dX8_laysRings_180 : decode cX8_laysRings 180 = .ok (.goto (-74), 3) := by decide +kernel
theorem dX8_laysRings_183 : decode cX8_laysRings 183 = .ok (.iload_n 1, 1) := by decide +kernel
theorem dX8_laysRings_184 : decode cX8_laysRings 184 = .ok (.iconst 2, 1) := by decide +kernel
theorem dX8_laysRings_185 : decode cX8_laysRings 185 = .ok (.idiv, 1) := by decide +kernel
theorem dX8_laysRings_186 : decode cX8_laysRings 186 = .ok (.istore_n 1, 1) := by decide +kernel
theorem dX8_laysRings_187 : decode cX8_laysRings 187 = .ok (.goto (-87), 3) := by decide +kernel
theorem dX8_laysRings_190 : decode cX8_laysRings 190 = .ok (.return_, 1) := by decide +kernel
theorem dX8_fits_0 : decode cX8_fits 0 = .ok (.aload_n 0, 1) := by decide +kernel
theorem dX8_fits_1 : decode cX8_fits 1 = .ok (.getfield 83, 3) := by decide +kernel
theorem dX8_fits_4 : decode cX8_fits 4 = .ok (.lload_n 1, 1) := by decide +kernel
theorem dX8_fits_5 : decode cX8_fits 5 = .ok (.ldc2_w 86, 3) := by decide +kernel
theorem dX8_fits_8 : decode cX8_fits 8 = .ok (.lxor, 1) := by decide +kernel
theorem dX8_fits_9 : decode cX8_fits 9 = .ok (.land, 1) := by decide +kernel
theorem dX8_fits_10 : decode cX8_fits 10 = .ok (.lconst 0, 1) := by decide +kernel
theorem dX8_fits_11 : decode cX8_fits 11 = .ok (.lcmp, 1) := by decide +kernel
theorem dX8_fits_12 : decode cX8_fits 12 = .ok (.ifCond .ne 18, 3) := by decide +kernel
theorem dX8_fits_15 : decode cX8_fits 15 = .ok (.aload_n 0, 1) := by decide +kernel
theorem dX8_fits_16 : decode cX8_fits 16 = .ok (.getfield 88, 3) := by decide +kernel
theorem dX8_fits_19 : decode cX8_fits 19 = .ok (.lload_n 1, 1) := by decide +kernel
theorem dX8_fits_20 : decode cX8_fits 20 = .ok (.land, 1) := by decide +kernel
theorem dX8_fits_21 : decode cX8_fits 21 = .ok (.lconst 0, 1) := by decide +kernel
theorem dX8_fits_22 : decode cX8_fits 22 = .ok (.lcmp, 1) := by decide +kernel
theorem dX8_fits_23 : decode cX8_fits 23 = .ok (.ifCond .ne 7, 3) := by decide +kernel
theorem dX8_fits_26 : decode cX8_fits 26 = .ok (.iconst 1, 1) := by decide +kernel
theorem dX8_fits_27 : decode cX8_fits 27 = .ok (.goto 4, 3) := by decide +kernel
theorem dX8_fits_30 : decode cX8_fits 30 = .ok (.iconst 0, 1) := by decide +kernel
theorem dX8_fits_31 : decode cX8_fits 31 = .ok (.istore 4, 2) := by decide +kernel
theorem dX8_fits_33 : decode cX8_fits 33 = .ok (.iconst 0, 1) := by decide +kernel
theorem dX8_fits_34 : decode cX8_fits 34 = .ok (.istore 5, 2) := by decide +kernel
theorem dX8_fits_36 : decode cX8_fits 36 = .ok (.iload 5, 2) := by decide +kernel
theorem dX8_fits_38 : decode cX8_fits 38 = .ok (.aload_n 0, 1) := by decide +kernel
theorem dX8_fits_39 : decode cX8_fits 39 = .ok (.getfield 16, 3) := by decide +kernel
theorem dX8_fits_42 : decode cX8_fits 42 = .ok (.if_icmp .ge 58, 3) := by decide +kernel
theorem dX8_fits_45 : decode cX8_fits 45 = .ok (.iload 4, 2) := by decide +kernel
theorem dX8_fits_47 : decode cX8_fits 47 = .ok (.ifCond .eq 53, 3) := by decide +kernel
theorem dX8_fits_50 : decode cX8_fits 50 = .ok (.iload 5, 2) := by decide +kernel
theorem dX8_fits_52 : decode cX8_fits 52 = .ok (.iload_n 3, 1) := by decide +kernel
theorem dX8_fits_53 : decode cX8_fits 53 = .ok (.if_icmp .eq 34, 3) := by decide +kernel
theorem dX8_fits_56 : decode cX8_fits 56 = .ok (.aload_n 0, 1) := by decide +kernel
theorem dX8_fits_57 : decode cX8_fits 57 = .ok (.iload 5, 2) := by decide +kernel
theorem dX8_fits_59 : decode cX8_fits 59 = .ok (.invokevirtual 134, 3) := by decide +kernel
theorem dX8_fits_62 : decode cX8_fits 62 = .ok (.iconst 5, 1) := by decide +kernel
theorem dX8_fits_63 : decode cX8_fits 63 = .ok (.if_icmp .eq 24, 3) := by decide +kernel
theorem dX8_fits_66 : decode cX8_fits 66 = .ok (.aload_n 0, 1) := by decide +kernel
theorem dX8_fits_67 : decode cX8_fits 67 = .ok (.getfield 22, 3) := by decide +kernel
theorem dX8_fits_70 : decode cX8_fits 70 = .ok (.iload 5, 2) := by decide +kernel
theorem dX8_fits_72 : decode cX8_fits 72 = .ok (.laload, 1) := by decide +kernel
theorem dX8_fits_73 : decode cX8_fits 73 = .ok (.lload_n 1, 1) := by decide +kernel
theorem dX8_fits_74 : decode cX8_fits 74 = .ok (.land, 1) := by decide +kernel
theorem dX8_fits_75 : decode cX8_fits 75 = .ok (.invokestatic 187, 3) := by decide +kernel
theorem dX8_fits_78 : decode cX8_fits 78 = .ok (.aload_n 0, 1) := by decide +kernel
theorem dX8_fits_79 : decode cX8_fits 79 = .ok (.iload 5, 2) := by decide +kernel
theorem dX8_fits_81 : decode cX8_fits 81 = .ok (.invokevirtual 134, 3) := by decide +kernel
theorem dX8_fits_84 : decode cX8_fits 84 = .ok (.if_icmp .ne 7, 3) := by decide +kernel
theorem dX8_fits_87 : decode cX8_fits 87 = .ok (.iconst 1, 1) := by decide +kernel
theorem dX8_fits_88 : decode cX8_fits 88 = .ok (.goto 4, 3) := by decide +kernel
theorem dX8_fits_91 : decode cX8_fits 91 = .ok (.iconst 0, 1) := by decide +kernel
theorem dX8_fits_92 : decode cX8_fits 92 = .ok (.istore 4, 2) := by decide +kernel
theorem dX8_fits_94 : decode cX8_fits 94 = .ok (.iinc 5 1, 3) := by decide +kernel
theorem dX8_fits_97 : decode cX8_fits 97 = .ok (.goto (-61), 3) := by decide +kernel
theorem dX8_fits_100 : decode cX8_fits 100 = .ok (.iload 4, 2) := by decide +kernel
theorem dX8_fits_102 : decode cX8_fits 102 = .ok (.ireturn, 1) := by decide +kernel
theorem dX8_manyBut_0 : decode cX8_manyBut 0 = .ok (.aload_n 0, 1) := by decide +kernel
theorem dX8_manyBut_1 : decode cX8_manyBut 1 = .ok (.invokevirtual 251, 3) := by decide +kernel
theorem dX8_manyBut_4 : decode cX8_manyBut 4 = .ok (.iconst 0, 1) := by decide +kernel
theorem dX8_manyBut_5 : decode cX8_manyBut 5 = .ok (.istore_n 3, 1) := by decide +kernel
theorem dX8_manyBut_6 : decode cX8_manyBut 6 = .ok (.iconst 0, 1) := by decide +kernel
theorem dX8_manyBut_7 : decode cX8_manyBut 7 = .ok (.istore 4, 2) := by decide +kernel
theorem dX8_manyBut_9 : decode cX8_manyBut 9 = .ok (.iload 4, 2) := by decide +kernel
theorem dX8_manyBut_11 : decode cX8_manyBut 11 = .ok (.aload_n 0, 1) := by decide +kernel
theorem dX8_manyBut_12 : decode cX8_manyBut 12 = .ok (.getfield 241, 3) := by decide +kernel
theorem dX8_manyBut_15 : decode cX8_manyBut 15 = .ok (.if_icmp .ge 37, 3) := by decide +kernel
theorem dX8_manyBut_18 : decode cX8_manyBut 18 = .ok (.iload_n 3, 1) := by decide +kernel
theorem dX8_manyBut_19 : decode cX8_manyBut 19 = .ok (.iload_n 1, 1) := by decide +kernel
theorem dX8_manyBut_20 : decode cX8_manyBut 20 = .ok (.if_icmp .ge 32, 3) := by decide +kernel
theorem dX8_manyBut_23 : decode cX8_manyBut 23 = .ok (.iload_n 3, 1) := by decide +kernel
theorem dX8_manyBut_24 : decode cX8_manyBut 24 = .ok (.aload_n 0, 1) := by decide +kernel
theorem dX8_manyBut_25 : decode cX8_manyBut 25 = .ok (.aload_n 0, 1) := by decide +kernel
theorem dX8_manyBut_26 : decode cX8_manyBut 26 = .ok (.getfield 46, 3) := by decide +kernel
theorem dX8_manyBut_29 : decode cX8_manyBut 29 = .ok (.iload 4, 2) := by decide +kernel
theorem dX8_manyBut_31 : decode cX8_manyBut 31 = .ok (.laload, 1) := by decide +kernel
theorem dX8_manyBut_32 : decode cX8_manyBut 32 = .ok (.iload_n 2, 1) := by decide +kernel
theorem dX8_manyBut_33 : decode cX8_manyBut 33 = .ok (.invokevirtual 254, 3) := by decide +kernel
theorem dX8_manyBut_36 : decode cX8_manyBut 36 = .ok (.ifCond .eq 7, 3) := by decide +kernel
theorem dX8_manyBut_39 : decode cX8_manyBut 39 = .ok (.iconst 1, 1) := by decide +kernel
theorem dX8_manyBut_40 : decode cX8_manyBut 40 = .ok (.goto 4, 3) := by decide +kernel
theorem dX8_manyBut_43 : decode cX8_manyBut 43 = .ok (.iconst 0, 1) := by decide +kernel
theorem dX8_manyBut_44 : decode cX8_manyBut 44 = .ok (.iadd, 1) := by decide +kernel
theorem dX8_manyBut_45 : decode cX8_manyBut 45 = .ok (.istore_n 3, 1) := by decide +kernel
theorem dX8_manyBut_46 : decode cX8_manyBut 46 = .ok (.iinc 4 1, 3) := by decide +kernel
theorem dX8_manyBut_49 : decode cX8_manyBut 49 = .ok (.goto (-40), 3) := by decide +kernel
theorem dX8_manyBut_52 : decode cX8_manyBut 52 = .ok (.iload_n 3, 1) := by decide +kernel
theorem dX8_manyBut_53 : decode cX8_manyBut 53 = .ok (.ireturn, 1) := by decide +kernel
theorem dX8_many_0 : decode cX8_many 0 = .ok (.iload_n 1, 1) := by decide +kernel
theorem dX8_many_1 : decode cX8_many 1 = .ok (.i2l, 1) := by decide +kernel
theorem dX8_many_2 : decode cX8_many 2 = .ok (.lconst 1, 1) := by decide +kernel
theorem dX8_many_3 : decode cX8_many 3 = .ok (.ldc2_w 257, 3) := by decide +kernel
theorem dX8_many_6 : decode cX8_many 6 = .ok (.invokestatic 61, 3) := by decide +kernel
theorem dX8_many_9 : decode cX8_many 9 = .ok (.ifCond .eq 13, 3) := by decide +kernel
theorem dX8_many_12 : decode cX8_many 12 = .ok (.aload_n 0, 1) := by decide +kernel
theorem dX8_many_13 : decode cX8_many 13 = .ok (.iload_n 1, 1) := by decide +kernel
theorem dX8_many_14 : decode cX8_many 14 = .ok (.bipush 16, 2) := by decide +kernel
theorem dX8_many_16 : decode cX8_many 16 = .ok (.invokevirtual 259, 3) := by decide +kernel
theorem dX8_many_19 : decode cX8_many 19 = .ok (.goto 4, 3) := by decide +kernel
theorem dX8_many_22 : decode cX8_many 22 = .ok (.iconst (-1), 1) := by decide +kernel
theorem dX8_many_23 : decode cX8_many 23 = .ok (.ireturn, 1) := by decide +kernel
theorem dX8_loopAt_0 : decode cX8_loopAt 0 = .ok (.aload_n 0, 1) := by decide +kernel
theorem dX8_loopAt_1 : decode cX8_loopAt 1 = .ok (.invokevirtual 251, 3) := by decide +kernel
theorem dX8_loopAt_4 : decode cX8_loopAt 4 = .ok (.iload_n 1, 1) := by decide +kernel
theorem dX8_loopAt_5 : decode cX8_loopAt 5 = .ok (.istore_n 2, 1) := by decide +kernel
theorem dX8_loopAt_6 : decode cX8_loopAt 6 = .ok (.iconst 0, 1) := by decide +kernel
theorem dX8_loopAt_7 : decode cX8_loopAt 7 = .ok (.istore_n 3, 1) := by decide +kernel
theorem dX8_loopAt_8 : decode cX8_loopAt 8 = .ok (.iload_n 3, 1) := by decide +kernel
theorem dX8_loopAt_9 : decode cX8_loopAt 9 = .ok (.aload_n 0, 1) := by decide +kernel
theorem dX8_loopAt_10 : decode cX8_loopAt 10 = .ok (.getfield 241, 3) := by decide +kernel
theorem dX8_loopAt_13 : decode cX8_loopAt 13 = .ok (.if_icmp .ge 38, 3) := by decide +kernel
theorem dX8_loopAt_16 : decode cX8_loopAt 16 = .ok (.aload_n 0, 1) := by decide +kernel
theorem dX8_loopAt_17 : decode cX8_loopAt 17 = .ok (.aload_n 0, 1) := by decide +kernel
theorem dX8_loopAt_18 : decode cX8_loopAt 18 = .ok (.getfield 46, 3) := by decide +kernel
theorem dX8_loopAt_21 : decode cX8_loopAt 21 = .ok (.iload_n 3, 1) := by decide +kernel
theorem dX8_loopAt_22 : decode cX8_loopAt 22 = .ok (.laload, 1) := by decide +kernel
theorem dX8_loopAt_23 : decode cX8_loopAt 23 = .ok (.bipush 16, 2) := by decide +kernel
theorem dX8_loopAt_25 : decode cX8_loopAt 25 = .ok (.invokevirtual 254, 3) := by decide +kernel
theorem dX8_loopAt_28 : decode cX8_loopAt 28 = .ok (.ifCond .eq 17, 3) := by decide +kernel
theorem dX8_loopAt_31 : decode cX8_loopAt 31 = .ok (.iload_n 2, 1) := by decide +kernel
theorem dX8_loopAt_32 : decode cX8_loopAt 32 = .ok (.ifCond .ne 10, 3) := by decide +kernel
theorem dX8_loopAt_35 : decode cX8_loopAt 35 = .ok (.aload_n 0, 1) := by decide +kernel
theorem dX8_loopAt_36 : decode cX8_loopAt 36 = .ok (.getfield 46, 3) := by decide +kernel
theorem dX8_loopAt_39 : decode cX8_loopAt 39 = .ok (.iload_n 3, 1) := by decide +kernel
theorem dX8_loopAt_40 : decode cX8_loopAt 40 = .ok (.laload, 1) := by decide +kernel
theorem dX8_loopAt_41 : decode cX8_loopAt 41 = .ok (.lreturn, 1) := by decide +kernel
theorem dX8_loopAt_42 : decode cX8_loopAt 42 = .ok (.iinc 2 (-1), 3) := by decide +kernel
theorem dX8_loopAt_45 : decode cX8_loopAt 45 = .ok (.iinc 3 1, 3) := by decide +kernel
theorem dX8_loopAt_48 : decode cX8_loopAt 48 = .ok (.goto (-40), 3) := by decide +kernel
theorem dX8_loopAt_51 : decode cX8_loopAt 51 = .ok (.ldc2_w 262, 3) := by decide +kernel
theorem dX8_loopAt_54 : decode cX8_loopAt 54 = .ok (.lreturn, 1) := by decide +kernel
theorem dX8_loop_0 : decode cX8_loop 0 = .ok (.iload_n 1, 1) := by decide +kernel
theorem dX8_loop_1 : decode cX8_loop 1 = .ok (.i2l, 1) := by decide +kernel
theorem dX8_loop_2 : decode cX8_loop 2 = .ok (.lconst 0, 1) := by decide +kernel
theorem dX8_loop_3 : decode cX8_loop 3 = .ok (.ldc2_w 264, 3) := by decide +kernel
theorem dX8_loop_6 : decode cX8_loop 6 = .ok (.invokestatic 61, 3) := by decide +kernel
theorem dX8_loop_9 : decode cX8_loop 9 = .ok (.ifCond .eq 11, 3) := by decide +kernel
theorem dX8_loop_12 : decode cX8_loop 12 = .ok (.aload_n 0, 1) := by decide +kernel
theorem dX8_loop_13 : decode cX8_loop 13 = .ok (.iload_n 1, 1) := by decide +kernel
theorem dX8_loop_14 : decode cX8_loop 14 = .ok (.invokevirtual 266, 3) := by decide +kernel
theorem dX8_loop_17 : decode cX8_loop 17 = .ok (.goto 6, 3) := by decide +kernel
theorem dX8_loop_20 : decode cX8_loop 20 = .ok (.ldc2_w 86, 3) := by decide +kernel
theorem dX8_loop_23 : decode cX8_loop 23 = .ok (.lreturn, 1) := by decide +kernel
theorem dX8_forced_0 : decode cX8_forced 0 = .ok (.iload_n 1, 1) := by decide +kernel
theorem dX8_forced_1 : decode cX8_forced 1 = .ok (.i2l, 1) := by decide +kernel
theorem dX8_forced_2 : decode cX8_forced 2 = .ok (.lconst 0, 1) := by decide +kernel
theorem dX8_forced_3 : decode cX8_forced 3 = .ok (.lconst 1, 1) := by decide +kernel
theorem dX8_forced_4 : decode cX8_forced 4 = .ok (.invokestatic 61, 3) := by decide +kernel
theorem dX8_forced_7 : decode cX8_forced 7 = .ok (.ifCond .ne 7, 3) := by decide +kernel
theorem dX8_forced_10 : decode cX8_forced 10 = .ok (.ldc2_w 86, 3) := by decide +kernel
theorem dX8_forced_13 : decode cX8_forced 13 = .ok (.lreturn, 1) := by decide +kernel
theorem dX8_forced_14 : decode cX8_forced 14 = .ok (.aload_n 0, 1) := by decide +kernel
theorem dX8_forced_15 : decode cX8_forced 15 = .ok (.invokevirtual 251, 3) := by decide +kernel
theorem dX8_forced_18 : decode cX8_forced 18 = .ok (.aload_n 0, 1) := by decide +kernel
theorem dX8_forced_19 : decode cX8_forced 19 = .ok (.invokevirtual 79, 3) := by decide +kernel
theorem dX8_forced_22 : decode cX8_forced 22 = .ok (.lstore_n 2, 1) := by decide +kernel
theorem dX8_forced_23 : decode cX8_forced 23 = .ok (.aload_n 0, 1) := by decide +kernel
theorem dX8_forced_24 : decode cX8_forced 24 = .ok (.invokevirtual 79, 3) := by decide +kernel
theorem dX8_forced_27 : decode cX8_forced 27 = .ok (.lstore 4, 2) := by decide +kernel
theorem dX8_forced_29 : decode cX8_forced 29 = .ok (.iconst 0, 1) := by decide +kernel
theorem dX8_forced_30 : decode cX8_forced 30 = .ok (.istore 6, 2) := by decide +kernel
theorem dX8_forced_32 : decode cX8_forced 32 = .ok (.iconst 0, 1) := by decide +kernel
theorem dX8_forced_33 : decode cX8_forced 33 = .ok (.istore 7, 2) := by decide +kernel
theorem dX8_forced_35 : decode cX8_forced 35 = .ok (.iload 7, 2) := by decide +kernel
theorem dX8_forced_37 : decode cX8_forced 37 = .ok (.aload_n 0, 1) := by decide +kernel
theorem dX8_forced_38 : decode cX8_forced 38 = .ok (.getfield 241, 3) := by decide +kernel
theorem dX8_forced_41 : decode cX8_forced 41 = .ok (.if_icmp .ge 54, 3) := by decide +kernel
theorem dX8_forced_44 : decode cX8_forced 44 = .ok (.aload_n 0, 1) := by decide +kernel
theorem dX8_forced_45 : decode cX8_forced 45 = .ok (.aload_n 0, 1) := by decide +kernel
theorem dX8_forced_46 : decode cX8_forced 46 = .ok (.getfield 46, 3) := by decide +kernel
theorem dX8_forced_49 : decode cX8_forced 49 = .ok (.iload 7, 2) := by decide +kernel
theorem dX8_forced_51 : decode cX8_forced 51 = .ok (.laload, 1) := by decide +kernel
theorem dX8_forced_52 : decode cX8_forced 52 = .ok (.bipush 16, 2) := by decide +kernel
theorem dX8_forced_54 : decode cX8_forced 54 = .ok (.invokevirtual 254, 3) := by decide +kernel
theorem dX8_forced_57 : decode cX8_forced 57 = .ok (.ifCond .eq 32, 3) := by decide +kernel
theorem dX8_forced_60 : decode cX8_forced 60 = .ok (.lload_n 2, 1) := by decide +kernel
theorem dX8_forced_61 : decode cX8_forced 61 = .ok (.aload_n 0, 1) := by decide +kernel
theorem dX8_forced_62 : decode cX8_forced 62 = .ok (.getfield 46, 3) := by decide +kernel
theorem dX8_forced_65 : decode cX8_forced 65 = .ok (.iload 7, 2) := by decide +kernel
theorem dX8_forced_67 : decode cX8_forced 67 = .ok (.laload, 1) := by decide +kernel
theorem dX8_forced_68 : decode cX8_forced 68 = .ok (.land, 1) := by decide +kernel
theorem dX8_forced_69 : decode cX8_forced 69 = .ok (.lstore_n 2, 1) := by decide +kernel
theorem dX8_forced_70 : decode cX8_forced 70 = .ok (.lload 4, 2) := by decide +kernel
theorem dX8_forced_72 : decode cX8_forced 72 = .ok (.aload_n 0, 1) := by decide +kernel
theorem dX8_forced_73 : decode cX8_forced 73 = .ok (.getfield 46, 3) := by decide +kernel
theorem dX8_forced_76 : decode cX8_forced 76 = .ok (.iload 7, 2) := by decide +kernel
theorem dX8_forced_78 : decode cX8_forced 78 = .ok (.laload, 1) := by decide +kernel
theorem dX8_forced_79 : decode cX8_forced 79 = .ok (.ldc2_w 86, 3) := by decide +kernel
theorem dX8_forced_82 : decode cX8_forced 82 = .ok (.lxor, 1) := by decide +kernel
theorem dX8_forced_83 : decode cX8_forced 83 = .ok (.land, 1) := by decide +kernel
theorem dX8_forced_84 : decode cX8_forced 84 = .ok (.lstore 4, 2) := by decide +kernel
theorem dX8_forced_86 : decode cX8_forced 86 = .ok (.iinc 6 1, 3) := by decide +kernel
theorem dX8_forced_89 : decode cX8_forced 89 = .ok (.iinc 7 1, 3) := by decide +kernel
theorem dX8_forced_92 : decode cX8_forced 92 = .ok (.goto (-57), 3) := by decide +kernel
theorem dX8_forced_95 : decode cX8_forced 95 = .ok (.iload 6, 2) := by decide +kernel
theorem dX8_forced_97 : decode cX8_forced 97 = .ok (.ifCond .ne 9, 3) := by decide +kernel
theorem dX8_forced_100 : decode cX8_forced 100 = .ok (.ldc2_w 262, 3) := by decide +kernel
theorem dX8_forced_103 : decode cX8_forced 103 = .ok (.goto 13, 3) := by decide +kernel
theorem dX8_forced_106 : decode cX8_forced 106 = .ok (.iload_n 1, 1) := by decide +kernel
theorem dX8_forced_107 : decode cX8_forced 107 = .ok (.ifCond .ne 7, 3) := by decide +kernel
theorem dX8_forced_110 : decode cX8_forced 110 = .ok (.lload_n 2, 1) := by decide +kernel
theorem dX8_forced_111 : decode cX8_forced 111 = .ok (.goto 5, 3) := by decide +kernel
theorem dX8_forced_114 : decode cX8_forced 114 = .ok (.lload 4, 2) := by decide +kernel
theorem dX8_forced_116 : decode cX8_forced 116 = .ok (.lreturn, 1) := by decide +kernel
theorem dX8_inside_0 : decode cX8_inside 0 = .ok (.iload_n 1, 1) := by decide +kernel
theorem dX8_inside_1 : decode cX8_inside 1 = .ok (.i2l, 1) := by decide +kernel
theorem dX8_inside_2 : decode cX8_inside 2 = .ok (.lconst 0, 1) := by decide +kernel
theorem dX8_inside_3 : decode cX8_inside 3 = .ok (.ldc2_w 264, 3) := by decide +kernel
theorem dX8_inside_6 : decode cX8_inside 6 = .ok (.invokestatic 61, 3) := by decide +kernel
theorem dX8_inside_9 : decode cX8_inside 9 = .ok (.ifCond .ne 5, 3) := by decide +kernel
theorem dX8_inside_12 : decode cX8_inside 12 = .ok (.iconst (-1), 1) := by decide +kernel
theorem dX8_inside_13 : decode cX8_inside 13 = .ok (.ireturn, 1) := by decide +kernel
theorem dX8_inside_14 : decode cX8_inside 14 = .ok (.aload_n 0, 1) := by decide +kernel
theorem dX8_inside_15 : decode cX8_inside 15 = .ok (.iload_n 1, 1) := by decide +kernel
theorem dX8_inside_16 : decode cX8_inside 16 = .ok (.invokevirtual 266, 3) := by decide +kernel
theorem dX8_inside_19 : decode cX8_inside 19 = .ok (.lstore_n 2, 1) := by decide +kernel
theorem dX8_inside_20 : decode cX8_inside 20 = .ok (.lload_n 2, 1) := by decide +kernel
theorem dX8_inside_21 : decode cX8_inside 21 = .ok (.lconst 0, 1) := by decide +kernel
theorem dX8_inside_22 : decode cX8_inside 22 = .ok (.lcmp, 1) := by decide +kernel
theorem dX8_inside_23 : decode cX8_inside 23 = .ok (.ifCond .ge 6, 3) := by decide +kernel
theorem dX8_inside_26 : decode cX8_inside 26 = .ok (.bipush (-9), 2) := by decide +kernel
theorem dX8_inside_28 : decode cX8_inside 28 = .ok (.ireturn, 1) := by decide +kernel
theorem dX8_inside_29 : decode cX8_inside 29 = .ok (.iconst 0, 1) := by decide +kernel
theorem dX8_inside_30 : decode cX8_inside 30 = .ok (.istore 4, 2) := by decide +kernel
theorem dX8_inside_32 : decode cX8_inside 32 = .ok (.iconst 0, 1) := by decide +kernel
theorem dX8_inside_33 : decode cX8_inside 33 = .ok (.istore 5, 2) := by decide +kernel
theorem dX8_inside_35 : decode cX8_inside 35 = .ok (.iload 5, 2) := by decide +kernel
theorem dX8_inside_37 : decode cX8_inside 37 = .ok (.aload_n 0, 1) := by decide +kernel
theorem dX8_inside_38 : decode cX8_inside 38 = .ok (.getfield 16, 3) := by decide +kernel
theorem dX8_inside_41 : decode cX8_inside 41 = .ok (.if_icmp .ge 75, 3) := by decide +kernel
theorem dX8_inside_44 : decode cX8_inside 44 = .ok (.iconst 0, 1) := by decide +kernel
theorem dX8_inside_45 : decode cX8_inside 45 = .ok (.istore 6, 2) := by decide +kernel
theorem dX8_inside_47 : decode cX8_inside 47 = .ok (.iconst 0, 1) := by decide +kernel
theorem dX8_inside_48 : decode cX8_inside 48 = .ok (.istore 7, 2) := by decide +kernel
theorem dX8_inside_50 : decode cX8_inside 50 = .ok (.iload 7, 2) := by decide +kernel
theorem dX8_inside_52 : decode cX8_inside 52 = .ok (.iload 5, 2) := by decide +kernel
theorem dX8_inside_54 : decode cX8_inside 54 = .ok (.aload_n 0, 1) := by decide +kernel
theorem dX8_inside_55 : decode cX8_inside 55 = .ok (.getfield 7, 3) := by decide +kernel
theorem dX8_inside_58 : decode cX8_inside 58 = .ok (.irem, 1) := by decide +kernel
theorem dX8_inside_59 : decode cX8_inside 59 = .ok (.if_icmp .gt 39, 3) := by decide +kernel
theorem dX8_inside_62 : decode cX8_inside 62 = .ok (.iload 6, 2) := by decide +kernel
theorem dX8_inside_64 : decode cX8_inside 64 = .ok (.lload_n 2, 1) := by decide +kernel
theorem dX8_inside_65 : decode cX8_inside 65 = .ok (.aload_n 0, 1) := by decide +kernel
theorem dX8_inside_66 : decode cX8_inside 66 = .ok (.iload 7, 2) := by decide +kernel
theorem dX8_inside_68 : decode cX8_inside 68 = .ok (.iload 5, 2) := by decide +kernel
theorem dX8_inside_70 : decode cX8_inside 70 = .ok (.aload_n 0, 1) := by decide +kernel
theorem dX8_inside_71 : decode cX8_inside 71 = .ok (.getfield 7, 3) := by decide +kernel
theorem dX8_inside_74 : decode cX8_inside 74 = .ok (.idiv, 1) := by decide +kernel
theorem dX8_inside_75 : decode cX8_inside 75 = .ok (.invokevirtual 76, 3) := by decide +kernel
theorem dX8_inside_78 : decode cX8_inside 78 = .ok (.invokestatic 141, 3) := by decide +kernel
theorem dX8_inside_81 : decode cX8_inside 81 = .ok (.ifCond .eq 7, 3) := by decide +kernel
theorem dX8_inside_84 : decode cX8_inside 84 = .ok (.iconst 1, 1) := by decide +kernel
theorem dX8_inside_85 : decode cX8_inside 85 = .ok (.goto 4, 3) := by decide +kernel
theorem dX8_inside_88 : decode cX8_inside 88 = .ok (.iconst 0, 1) := by decide +kernel
theorem dX8_inside_89 : decode cX8_inside 89 = .ok (.iadd, 1) := by decide +kernel
theorem dX8_inside_90 : decode cX8_inside 90 = .ok (.istore 6, 2) := by decide +kernel
theorem dX8_inside_92 : decode cX8_inside 92 = .ok (.iinc 7 1, 3) := by decide +kernel
theorem dX8_inside_95 : decode cX8_inside 95 = .ok (.goto (-45), 3) := by decide +kernel
theorem dX8_inside_98 : decode cX8_inside 98 = .ok (.iload 4, 2) := by decide +kernel
theorem dX8_inside_100 : decode cX8_inside 100 = .ok (.iload 6, 2) := by decide +kernel
theorem dX8_inside_102 : decode cX8_inside 102 = .ok (.iconst 2, 1) := by decide +kernel
theorem dX8_inside_103 : decode cX8_inside 103 = .ok (.irem, 1) := by decide +kernel
theorem dX8_inside_104 : decode cX8_inside 104 = .ok (.iload 5, 2) := by decide +kernel
theorem dX8_inside_106 : decode cX8_inside 106 = .ok (.ishl, 1) := by decide +kernel
theorem dX8_inside_107 : decode cX8_inside 107 = .ok (.ior, 1) := by decide +kernel
theorem dX8_inside_108 : decode cX8_inside 108 = .ok (.istore 4, 2) := by decide +kernel
theorem dX8_inside_110 : decode cX8_inside 110 = .ok (.iinc 5 1, 3) := by decide +kernel
theorem dX8_inside_113 : decode cX8_inside 113 = .ok (.goto (-78), 3) := by decide +kernel
theorem dX8_inside_116 : decode cX8_inside 116 = .ok (.iload 4, 2) := by decide +kernel
theorem dX8_inside_118 : decode cX8_inside 118 = .ok (.ireturn, 1) := by decide +kernel
theorem dX8_numbersThat_0 : decode cX8_numbersThat 0 = .ok (.iload_n 1, 1) := by decide +kernel
theorem dX8_numbersThat_1 : decode cX8_numbersThat 1 = .ok (.i2l, 1) := by decide +kernel
theorem dX8_numbersThat_2 : decode cX8_numbersThat 2 = .ok (.lconst 0, 1) := by decide +kernel
theorem dX8_numbersThat_3 : decode cX8_numbersThat 3 = .ok (.lconst 1, 1) := by decide +kernel
theorem dX8_numbersThat_4 : decode cX8_numbersThat 4 = .ok (.invokestatic 61, 3) := by decide +kernel
theorem dX8_numbersThat_7 : decode cX8_numbersThat 7 = .ok (.ifCond .ne 5, 3) := by decide +kernel
theorem dX8_numbersThat_10 : decode cX8_numbersThat 10 = .ok (.iconst (-1), 1) := by decide +kernel
theorem dX8_numbersThat_11 : decode cX8_numbersThat 11 = .ok (.ireturn, 1) := by decide +kernel
theorem dX8_numbersThat_12 : decode cX8_numbersThat 12 = .ok (.aload_n 0, 1) := by decide +kernel
theorem dX8_numbersThat_13 : decode cX8_numbersThat 13 = .ok (.iconst 2, 1) := by decide +kernel
theorem dX8_numbersThat_14 : decode cX8_numbersThat 14 = .ok (.bipush 16, 2) := by decide +kernel
theorem dX8_numbersThat_16 : decode cX8_numbersThat 16 = .ok (.invokevirtual 259, 3) := by decide +kernel
theorem dX8_numbersThat_19 : decode cX8_numbersThat 19 = .ok (.istore_n 2, 1) := by decide +kernel
theorem dX8_numbersThat_20 : decode cX8_numbersThat 20 = .ok (.iconst 0, 1) := by decide +kernel
theorem dX8_numbersThat_21 : decode cX8_numbersThat 21 = .ok (.istore_n 3, 1) := by decide +kernel
theorem dX8_numbersThat_22 : decode cX8_numbersThat 22 = .ok (.iconst 0, 1) := by decide +kernel
theorem dX8_numbersThat_23 : decode cX8_numbersThat 23 = .ok (.istore 4, 2) := by decide +kernel
theorem dX8_numbersThat_25 : decode cX8_numbersThat 25 = .ok (.iload 4, 2) := by decide +kernel
theorem dX8_numbersThat_27 : decode cX8_numbersThat 27 = .ok (.aload_n 0, 1) := by decide +kernel
theorem dX8_numbersThat_28 : decode cX8_numbersThat 28 = .ok (.getfield 16, 3) := by decide +kernel
theorem dX8_numbersThat_31 : decode cX8_numbersThat 31 = .ok (.if_icmp .ge 78, 3) := by decide +kernel
theorem dX8_numbersThat_34 : decode cX8_numbersThat 34 = .ok (.iload_n 2, 1) := by decide +kernel
theorem dX8_numbersThat_35 : decode cX8_numbersThat 35 = .ok (.iconst 1, 1) := by decide +kernel
theorem dX8_numbersThat_36 : decode cX8_numbersThat 36 = .ok (.iload_n 1, 1) := by decide +kernel
theorem dX8_numbersThat_37 : decode cX8_numbersThat 37 = .ok (.isub, 1) := by decide +kernel
theorem dX8_numbersThat_38 : decode cX8_numbersThat 38 = .ok (.if_icmp .ne 71, 3) := by decide +kernel
theorem dX8_numbersThat_41 : decode cX8_numbersThat 41 = .ok (.aload_n 0, 1) := by decide +kernel
theorem dX8_numbersThat_42 : decode cX8_numbersThat 42 = .ok (.iload 4, 2) := by decide +kernel
theorem dX8_numbersThat_44 : decode cX8_numbersThat 44 = .ok (.invokevirtual 134, 3) := by decide +kernel
theorem dX8_numbersThat_47 : decode cX8_numbersThat 47 = .ok (.iconst 5, 1) := by decide +kernel
theorem dX8_numbersThat_48 : decode cX8_numbersThat 48 = .ok (.if_icmp .ge 36, 3) := by decide +kernel
theorem dX8_numbersThat_51 : decode cX8_numbersThat 51 = .ok (.iload_n 1, 1) := by decide +kernel
theorem dX8_numbersThat_52 : decode cX8_numbersThat 52 = .ok (.ifCond .ne 17, 3) := by decide +kernel
theorem dX8_numbersThat_55 : decode cX8_numbersThat 55 = .ok (.aload_n 0, 1) := by decide +kernel
theorem dX8_numbersThat_56 : decode cX8_numbersThat 56 = .ok (.iconst 2, 1) := by decide +kernel
theorem dX8_numbersThat_57 : decode cX8_numbersThat 57 = .ok (.iload 4, 2) := by decide +kernel
theorem dX8_numbersThat_59 : decode cX8_numbersThat 59 = .ok (.invokevirtual 259, 3) := by decide +kernel
theorem dX8_numbersThat_62 : decode cX8_numbersThat 62 = .ok (.iconst 1, 1) := by decide +kernel
theorem dX8_numbersThat_63 : decode cX8_numbersThat 63 = .ok (.if_icmp .ne 21, 3) := by decide +kernel
theorem dX8_numbersThat_66 : decode cX8_numbersThat 66 = .ok (.goto 14, 3) := by decide +kernel
theorem dX8_numbersThat_69 : decode cX8_numbersThat 69 = .ok (.aload_n 0, 1) := by decide +kernel
theorem dX8_numbersThat_70 : decode cX8_numbersThat 70 = .ok (.iconst 1, 1) := by decide +kernel
theorem dX8_numbersThat_71 : decode cX8_numbersThat 71 = .ok (.iload 4, 2) := by decide +kernel
theorem dX8_numbersThat_73 : decode cX8_numbersThat 73 = .ok (.invokevirtual 259, 3) := by decide +kernel
theorem dX8_numbersThat_76 : decode cX8_numbersThat 76 = .ok (.iconst 1, 1) := by decide +kernel
theorem dX8_numbersThat_77 : decode cX8_numbersThat 77 = .ok (.if_icmp .ne 7, 3) := by decide +kernel
theorem dX8_numbersThat_80 : decode cX8_numbersThat 80 = .ok (.iconst 1, 1) := by decide +kernel
theorem dX8_numbersThat_81 : decode cX8_numbersThat 81 = .ok (.goto 4, 3) := by decide +kernel
theorem dX8_numbersThat_84 : decode cX8_numbersThat 84 = .ok (.iconst 0, 1) := by decide +kernel
theorem dX8_numbersThat_85 : decode cX8_numbersThat 85 = .ok (.istore 5, 2) := by decide +kernel
theorem dX8_numbersThat_87 : decode cX8_numbersThat 87 = .ok (.iload_n 3, 1) := by decide +kernel
theorem dX8_numbersThat_88 : decode cX8_numbersThat 88 = .ok (.iload 5, 2) := by decide +kernel
theorem dX8_numbersThat_90 : decode cX8_numbersThat 90 = .ok (.ifCond .eq 10, 3) := by decide +kernel
theorem dX8_numbersThat_93 : decode cX8_numbersThat 93 = .ok (.iconst 1, 1) := by decide +kernel
theorem dX8_numbersThat_94 : decode cX8_numbersThat 94 = .ok (.iload 4, 2) := by decide +kernel
theorem dX8_numbersThat_96 : decode cX8_numbersThat 96 = .ok (.ishl, 1) := by decide +kernel
theorem dX8_numbersThat_97 : decode cX8_numbersThat 97 = .ok (.goto 4, 3) := by decide +kernel
theorem dX8_numbersThat_100 : decode cX8_numbersThat 100 = .ok (.iconst 0, 1) := by decide +kernel
theorem dX8_numbersThat_101 : decode cX8_numbersThat 101 = .ok (.ior, 1) := by decide +kernel
theorem dX8_numbersThat_102 : decode cX8_numbersThat 102 = .ok (.istore_n 3, 1) := by decide +kernel
theorem dX8_numbersThat_103 : decode cX8_numbersThat 103 = .ok (.iinc 4 1, 3) := by decide +kernel
theorem dX8_numbersThat_106 : decode cX8_numbersThat 106 = .ok (.goto (-81), 3) := by decide +kernel
theorem dX8_numbersThat_109 : decode cX8_numbersThat 109 = .ok (.iload_n 3, 1) := by decide +kernel
theorem dX8_numbersThat_110 : decode cX8_numbersThat 110 = .ok (.ireturn, 1) := by decide +kernel
theorem dX8_tryNext_0 : decode cX8_tryNext 0 = .ok (.aload_n 0, 1) := by decide +kernel
theorem dX8_tryNext_1 : decode cX8_tryNext 1 = .ok (.invokevirtual 251, 3) := by decide +kernel
theorem dX8_tryNext_4 : decode cX8_tryNext 4 = .ok (.iconst 0, 1) := by decide +kernel
theorem dX8_tryNext_5 : decode cX8_tryNext 5 = .ok (.istore_n 1, 1) := by decide +kernel
theorem dX8_tryNext_6 : decode cX8_tryNext 6 = .ok (.iconst 0, 1) := by decide +kernel
theorem dX8_tryNext_7 : decode cX8_tryNext 7 = .ok (.istore_n 2, 1) := by decide +kernel
theorem dX8_tryNext_8 : decode cX8_tryNext 8 = .ok (.iload_n 2, 1) := by decide +kernel
theorem dX8_tryNext_9 : decode cX8_tryNext 9 = .ok (.aload_n 0, 1) := by decide +kernel
theorem dX8_tryNext_10 : decode cX8_tryNext 10 = .ok (.getfield 19, 3) := by decide +kernel
theorem dX8_tryNext_13 : decode cX8_tryNext 13 = .ok (.if_icmp .ge 16, 3) := by decide +kernel
theorem dX8_tryNext_16 : decode cX8_tryNext 16 = .ok (.aload_n 0, 1) := by decide +kernel
theorem dX8_tryNext_17 : decode cX8_tryNext 17 = .ok (.getfield 49, 3) := by decide +kernel
theorem dX8_tryNext_20 : decode cX8_tryNext 20 = .ok (.iload_n 2, 1) := by decide +kernel
theorem dX8_tryNext_21 : decode cX8_tryNext 21 = .ok (.iconst 0, 1) := by decide +kernel
theorem dX8_tryNext_22 : decode cX8_tryNext 22 = .ok (.iastore, 1) := by decide +kernel
theorem dX8_tryNext_23 : decode cX8_tryNext 23 = .ok (.iinc 2 1, 3) := by decide +kernel
theorem dX8_tryNext_26 : decode cX8_tryNext 26 = .ok (.goto (-18), 3) := by decide +kernel
theorem dX8_tryNext_29 : decode cX8_tryNext 29 = .ok (.iconst 0, 1) := by decide +kernel
theorem dX8_tryNext_30 : decode cX8_tryNext 30 = .ok (.istore_n 2, 1) := by decide +kernel
theorem dX8_tryNext_31 : decode cX8_tryNext 31 = .ok (.iload_n 2, 1) := by decide +kernel
theorem dX8_tryNext_32 : decode cX8_tryNext 32 = .ok (.aload_n 0, 1) := by decide +kernel
theorem dX8_tryNext_33 : decode cX8_tryNext 33 = .ok (.getfield 241, 3) := by decide +kernel
theorem dX8_tryNext_36 : decode cX8_tryNext 36 = .ok (.if_icmp .ge 70, 3) := by decide +kernel
theorem dX8_tryNext_39 : decode cX8_tryNext 39 = .ok (.aload_n 0, 1) := by decide +kernel
theorem dX8_tryNext_40 : decode cX8_tryNext 40 = .ok (.aload_n 0, 1) := by decide +kernel
theorem dX8_tryNext_41 : decode cX8_tryNext 41 = .ok (.getfield 46, 3) := by decide +kernel
theorem dX8_tryNext_44 : decode cX8_tryNext 44 = .ok (.iload_n 2, 1) := by decide +kernel
theorem dX8_tryNext_45 : decode cX8_tryNext 45 = .ok (.laload, 1) := by decide +kernel
theorem dX8_tryNext_46 : decode cX8_tryNext 46 = .ok (.bipush 16, 2) := by decide +kernel
theorem dX8_tryNext_48 : decode cX8_tryNext 48 = .ok (.invokevirtual 254, 3) := by decide +kernel
theorem dX8_tryNext_51 : decode cX8_tryNext 51 = .ok (.ifCond .eq 49, 3) := by decide +kernel
theorem dX8_tryNext_54 : decode cX8_tryNext 54 = .ok (.iinc 1 1, 3) := by decide +kernel
theorem dX8_tryNext_57 : decode cX8_tryNext 57 = .ok (.iconst 0, 1) := by decide +kernel
theorem dX8_tryNext_58 : decode cX8_tryNext 58 = .ok (.istore_n 3, 1) := by decide +kernel
theorem dX8_tryNext_59 : decode cX8_tryNext 59 = .ok (.iload_n 3, 1) := by decide +kernel
theorem dX8_tryNext_60 : decode cX8_tryNext 60 = .ok (.aload_n 0, 1) := by decide +kernel
theorem dX8_tryNext_61 : decode cX8_tryNext 61 = .ok (.getfield 19, 3) := by decide +kernel
theorem dX8_tryNext_64 : decode cX8_tryNext 64 = .ok (.if_icmp .ge 36, 3) := by decide +kernel
theorem dX8_tryNext_67 : decode cX8_tryNext 67 = .ok (.aload_n 0, 1) := by decide +kernel
theorem dX8_tryNext_68 : decode cX8_tryNext 68 = .ok (.getfield 49, 3) := by decide +kernel
theorem dX8_tryNext_71 : decode cX8_tryNext 71 = .ok (.iload_n 3, 1) := by decide +kernel
theorem dX8_tryNext_72 : decode cX8_tryNext 72 = .ok (.dup2, 1) := by decide +kernel
theorem dX8_tryNext_73 : decode cX8_tryNext 73 = .ok (.iaload, 1) := by decide +kernel
theorem dX8_tryNext_74 : decode cX8_tryNext 74 = .ok (.aload_n 0, 1) := by decide +kernel
theorem dX8_tryNext_75 : decode cX8_tryNext 75 = .ok (.getfield 46, 3) := by decide +kernel
theorem dX8_tryNext_78 : decode cX8_tryNext 78 = .ok (.iload_n 2, 1) := by decide +kernel
theorem dX8_tryNext_79 : decode cX8_tryNext 79 = .ok (.laload, 1) := by decide +kernel
theorem dX8_tryNext_80 : decode cX8_tryNext 80 = .ok (.iload_n 3, 1) := by decide +kernel
theorem dX8_tryNext_81 : decode cX8_tryNext 81 = .ok (.invokestatic 141, 3) := by decide +kernel
theorem dX8_tryNext_84 : decode cX8_tryNext 84 = .ok (.ifCond .eq 7, 3) := by decide +kernel
theorem dX8_tryNext_87 : decode cX8_tryNext 87 = .ok (.iconst 1, 1) := by decide +kernel
theorem dX8_tryNext_88 : decode cX8_tryNext 88 = .ok (.goto 4, 3) := by decide +kernel
theorem dX8_tryNext_91 : decode cX8_tryNext 91 = .ok (.iconst 0, 1) := by decide +kernel
theorem dX8_tryNext_92 : decode cX8_tryNext 92 = .ok (.iadd, 1) := by decide +kernel
theorem dX8_tryNext_93 : decode cX8_tryNext 93 = .ok (.iastore, 1) := by decide +kernel
theorem dX8_tryNext_94 : decode cX8_tryNext 94 = .ok (.iinc 3 1, 3) := by decide +kernel
theorem dX8_tryNext_97 : decode cX8_tryNext 97 = .ok (.goto (-38), 3) := by decide +kernel
theorem dX8_tryNext_100 : decode cX8_tryNext 100 = .ok (.iinc 2 1, 3) := by decide +kernel
theorem dX8_tryNext_103 : decode cX8_tryNext 103 = .ok (.goto (-72), 3) := by decide +kernel
theorem dX8_tryNext_106 : decode cX8_tryNext 106 = .ok (.bipush (-9), 2) := by decide +kernel
theorem dX8_tryNext_108 : decode cX8_tryNext 108 = .ok (.istore_n 2, 1) := by decide +kernel
theorem dX8_tryNext_109 : decode cX8_tryNext 109 = .ok (.iconst 0, 1) := by decide +kernel
theorem dX8_tryNext_110 : decode cX8_tryNext 110 = .ok (.istore_n 3, 1) := by decide +kernel
theorem dX8_tryNext_111 : decode cX8_tryNext 111 = .ok (.iconst 0, 1) := by decide +kernel
theorem dX8_tryNext_112 : decode cX8_tryNext 112 = .ok (.istore 4, 2) := by decide +kernel
theorem dX8_tryNext_114 : decode cX8_tryNext 114 = .ok (.iload 4, 2) := by decide +kernel
theorem dX8_tryNext_116 : decode cX8_tryNext 116 = .ok (.aload_n 0, 1) := by decide +kernel
theorem dX8_tryNext_117 : decode cX8_tryNext 117 = .ok (.getfield 19, 3) := by decide +kernel
theorem dX8_tryNext_120 : decode cX8_tryNext 120 = .ok (.if_icmp .ge 73, 3) := by decide +kernel
theorem dX8_tryNext_123 : decode cX8_tryNext 123 = .ok (.aload_n 0, 1) := by decide +kernel
theorem dX8_tryNext_124 : decode cX8_tryNext 124 = .ok (.getfield 49, 3) := by decide +kernel
theorem dX8_tryNext_127 : decode cX8_tryNext 127 = .ok (.iload 4, 2) := by decide +kernel
theorem dX8_tryNext_129 : decode cX8_tryNext 129 = .ok (.iaload, 1) := by decide +kernel
theorem dX8_tryNext_130 : decode cX8_tryNext 130 = .ok (.iload_n 1, 1) := by decide +kernel
theorem dX8_tryNext_131 : decode cX8_tryNext 131 = .ok (.aload_n 0, 1) := by decide +kernel
theorem dX8_tryNext_132 : decode cX8_tryNext 132 = .ok (.getfield 49, 3) := by decide +kernel
theorem dX8_tryNext_135 : decode cX8_tryNext 135 = .ok (.iload 4, 2) := by decide +kernel
theorem dX8_tryNext_137 : decode cX8_tryNext 137 = .ok (.iaload, 1) := by decide +kernel
theorem dX8_tryNext_138 : decode cX8_tryNext 138 = .ok (.isub, 1) := by decide +kernel
theorem dX8_tryNext_139 : decode cX8_tryNext 139 = .ok (.if_icmp .ge 13, 3) := by decide +kernel
theorem dX8_tryNext_142 : decode cX8_tryNext 142 = .ok (.aload_n 0, 1) := by decide +kernel
theorem dX8_tryNext_143 : decode cX8_tryNext 143 = .ok (.getfield 49, 3) := by decide +kernel
theorem dX8_tryNext_146 : decode cX8_tryNext 146 = .ok (.iload 4, 2) := by decide +kernel
theorem dX8_tryNext_148 : decode cX8_tryNext 148 = .ok (.iaload, 1) := by decide +kernel
theorem dX8_tryNext_149 : decode cX8_tryNext 149 = .ok (.goto 12, 3) := by decide +kernel
theorem dX8_tryNext_152 : decode cX8_tryNext 152 = .ok (.iload_n 1, 1) := by decide +kernel
theorem dX8_tryNext_153 : decode cX8_tryNext 153 = .ok (.aload_n 0, 1) := by decide +kernel
theorem dX8_tryNext_154 : decode cX8_tryNext 154 = .ok (.getfield 49, 3) := by decide +kernel
theorem dX8_tryNext_157 : decode cX8_tryNext 157 = .ok (.iload 4, 2) := by decide +kernel
theorem dX8_tryNext_159 : decode cX8_tryNext 159 = .ok (.iaload, 1) := by decide +kernel
theorem dX8_tryNext_160 : decode cX8_tryNext 160 = .ok (.isub, 1) := by decide +kernel
theorem dX8_tryNext_161 : decode cX8_tryNext 161 = .ok (.istore 5, 2) := by decide +kernel
theorem dX8_tryNext_163 : decode cX8_tryNext 163 = .ok (.aload_n 0, 1) := by decide +kernel
theorem dX8_tryNext_164 : decode cX8_tryNext 164 = .ok (.invokevirtual 191, 3) := by decide +kernel
theorem dX8_tryNext_167 : decode cX8_tryNext 167 = .ok (.iload 4, 2) := by decide +kernel
theorem dX8_tryNext_169 : decode cX8_tryNext 169 = .ok (.invokestatic 141, 3) := by decide +kernel
theorem dX8_tryNext_172 : decode cX8_tryNext 172 = .ok (.ifCond .eq 15, 3) := by decide +kernel
theorem dX8_tryNext_175 : decode cX8_tryNext 175 = .ok (.iload 5, 2) := by decide +kernel
theorem dX8_tryNext_177 : decode cX8_tryNext 177 = .ok (.iload_n 3, 1) := by decide +kernel
theorem dX8_tryNext_178 : decode cX8_tryNext 178 = .ok (.if_icmp .le 9, 3) := by decide +kernel
theorem dX8_tryNext_181 : decode cX8_tryNext 181 = .ok (.iload 4, 2) := by decide +kernel
theorem dX8_tryNext_183 : decode cX8_tryNext 183 = .ok (.istore_n 2, 1) := by decide +kernel
theorem dX8_tryNext_184 : decode cX8_tryNext 184 = .ok (.iload 5, 2) := by decide +kernel
theorem dX8_tryNext_186 : decode cX8_tryNext 186 = .ok (.istore_n 3, 1) := by decide +kernel
theorem dX8_tryNext_187 : decode cX8_tryNext 187 = .ok (.iinc 4 1, 3) := by decide +kernel
theorem dX8_tryNext_190 : decode cX8_tryNext 190 = .ok (.goto (-76), 3) := by decide +kernel
theorem dX8_tryNext_193 : decode cX8_tryNext 193 = .ok (.iload_n 2, 1) := by decide +kernel
theorem dX8_tryNext_194 : decode cX8_tryNext 194 = .ok (.ireturn, 1) := by decide +kernel
theorem dX8_keep_0 : decode cX8_keep 0 = .ok (.iload_n 1, 1) := by decide +kernel
theorem dX8_keep_1 : decode cX8_keep 1 = .ok (.i2l, 1) := by decide +kernel
theorem dX8_keep_2 : decode cX8_keep 2 = .ok (.lconst 0, 1) := by decide +kernel
theorem dX8_keep_3 : decode cX8_keep 3 = .ok (.lconst 1, 1) := by decide +kernel
theorem dX8_keep_4 : decode cX8_keep 4 = .ok (.invokestatic 61, 3) := by decide +kernel
theorem dX8_keep_7 : decode cX8_keep 7 = .ok (.ifCond .ne 5, 3) := by decide +kernel
theorem dX8_keep_10 : decode cX8_keep 10 = .ok (.iconst (-1), 1) := by decide +kernel
theorem dX8_keep_11 : decode cX8_keep 11 = .ok (.ireturn, 1) := by decide +kernel
theorem dX8_keep_12 : decode cX8_keep 12 = .ok (.aload_n 0, 1) := by decide +kernel
theorem dX8_keep_13 : decode cX8_keep 13 = .ok (.getfield 39, 3) := by decide +kernel
theorem dX8_keep_16 : decode cX8_keep 16 = .ok (.iconst 3, 1) := by decide +kernel
theorem dX8_keep_17 : decode cX8_keep 17 = .ok (.iload_n 1, 1) := by decide +kernel
theorem dX8_keep_18 : decode cX8_keep 18 = .ok (.imul, 1) := by decide +kernel
theorem dX8_keep_19 : decode cX8_keep 19 = .ok (.aload_n 0, 1) := by decide +kernel
theorem dX8_keep_20 : decode cX8_keep 20 = .ok (.getfield 52, 3) := by decide +kernel
theorem dX8_keep_23 : decode cX8_keep 23 = .ok (.lastore, 1) := by decide +kernel
theorem dX8_keep_24 : decode cX8_keep 24 = .ok (.aload_n 0, 1) := by decide +kernel
theorem dX8_keep_25 : decode cX8_keep 25 = .ok (.getfield 39, 3) := by decide +kernel
theorem dX8_keep_28 : decode cX8_keep 28 = .ok (.iconst 3, 1) := by decide +kernel
theorem dX8_keep_29 : decode cX8_keep 29 = .ok (.iload_n 1, 1) := by decide +kernel
theorem dX8_keep_30 : decode cX8_keep 30 = .ok (.imul, 1) := by decide +kernel
theorem dX8_keep_31 : decode cX8_keep 31 = .ok (.iconst 1, 1) := by decide +kernel
theorem dX8_keep_32 : decode cX8_keep 32 = .ok (.iadd, 1) := by decide +kernel
theorem dX8_keep_33 : decode cX8_keep 33 = .ok (.aload_n 0, 1) := by decide +kernel
theorem dX8_keep_34 : decode cX8_keep 34 = .ok (.getfield 83, 3) := by decide +kernel
theorem dX8_keep_37 : decode cX8_keep 37 = .ok (.lastore, 1) := by decide +kernel
theorem dX8_keep_38 : decode cX8_keep 38 = .ok (.aload_n 0, 1) := by decide +kernel
theorem dX8_keep_39 : decode cX8_keep 39 = .ok (.getfield 39, 3) := by decide +kernel
theorem dX8_keep_42 : decode cX8_keep 42 = .ok (.iconst 3, 1) := by decide +kernel
theorem dX8_keep_43 : decode cX8_keep 43 = .ok (.iload_n 1, 1) := by decide +kernel
theorem dX8_keep_44 : decode cX8_keep 44 = .ok (.imul, 1) := by decide +kernel
theorem dX8_keep_45 : decode cX8_keep 45 = .ok (.iconst 2, 1) := by decide +kernel
theorem dX8_keep_46 : decode cX8_keep 46 = .ok (.iadd, 1) := by decide +kernel
theorem dX8_keep_47 : decode cX8_keep 47 = .ok (.aload_n 0, 1) := by decide +kernel
theorem dX8_keep_48 : decode cX8_keep 48 = .ok (.getfield 88, 3) := by decide +kernel
theorem dX8_keep_51 : decode cX8_keep 51 = .ok (.lastore, 1) := by decide +kernel
theorem dX8_keep_52 : decode cX8_keep 52 = .ok (.aload_n 0, 1) := by decide +kernel
theorem dX8_keep_53 : decode cX8_keep 53 = .ok (.getfield 42, 3) := by decide +kernel
theorem dX8_keep_56 : decode cX8_keep 56 = .ok (.iload_n 1, 1) := by decide +kernel
theorem dX8_keep_57 : decode cX8_keep 57 = .ok (.iconst 1, 1) := by decide +kernel
theorem dX8_keep_58 : decode cX8_keep 58 = .ok (.bastore, 1) := by decide +kernel
theorem dX8_keep_59 : decode cX8_keep 59 = .ok (.aload_n 0, 1) := by decide +kernel
theorem dX8_keep_60 : decode cX8_keep 60 = .ok (.invokevirtual 191, 3) := by decide +kernel
theorem dX8_keep_63 : decode cX8_keep 63 = .ok (.invokestatic 187, 3) := by decide +kernel
theorem dX8_keep_66 : decode cX8_keep 66 = .ok (.ireturn, 1) := by decide +kernel
theorem dX8_back_0 : decode cX8_back 0 = .ok (.iload_n 1, 1) := by decide +kernel
theorem dX8_back_1 : decode cX8_back 1 = .ok (.i2l, 1) := by decide +kernel
theorem dX8_back_2 : decode cX8_back 2 = .ok (.lconst 0, 1) := by decide +kernel
theorem dX8_back_3 : decode cX8_back 3 = .ok (.lconst 1, 1) := by decide +kernel
theorem dX8_back_4 : decode cX8_back 4 = .ok (.invokestatic 61, 3) := by decide +kernel
theorem dX8_back_7 : decode cX8_back 7 = .ok (.ifCond .ne 5, 3) := by decide +kernel
theorem dX8_back_10 : decode cX8_back 10 = .ok (.iconst (-1), 1) := by decide +kernel
theorem dX8_back_11 : decode cX8_back 11 = .ok (.ireturn, 1) := by decide +kernel
theorem dX8_back_12 : decode cX8_back 12 = .ok (.aload_n 0, 1) := by decide +kernel
theorem dX8_back_13 : decode cX8_back 13 = .ok (.getfield 42, 3) := by decide +kernel
theorem dX8_back_16 : decode cX8_back 16 = .ok (.iload_n 1, 1) := by decide +kernel
theorem dX8_back_17 : decode cX8_back 17 = .ok (.baload, 1) := by decide +kernel
theorem dX8_back_18 : decode cX8_back 18 = .ok (.ifCond .ne 6, 3) := by decide +kernel
theorem dX8_back_21 : decode cX8_back 21 = .ok (.bipush (-2), 2) := by decide +kernel
theorem dX8_back_23 : decode cX8_back 23 = .ok (.ireturn, 1) := by decide +kernel
theorem dX8_back_24 : decode cX8_back 24 = .ok (.aload_n 0, 1) := by decide +kernel
theorem dX8_back_25 : decode cX8_back 25 = .ok (.aload_n 0, 1) := by decide +kernel
theorem dX8_back_26 : decode cX8_back 26 = .ok (.getfield 39, 3) := by decide +kernel
theorem dX8_back_29 : decode cX8_back 29 = .ok (.iconst 3, 1) := by decide +kernel
theorem dX8_back_30 : decode cX8_back 30 = .ok (.iload_n 1, 1) := by decide +kernel
theorem dX8_back_31 : decode cX8_back 31 = .ok (.imul, 1) := by decide +kernel
theorem dX8_back_32 : decode cX8_back 32 = .ok (.laload, 1) := by decide +kernel
theorem dX8_back_33 : decode cX8_back 33 = .ok (.putfield 52, 3) := by decide +kernel
theorem dX8_back_36 : decode cX8_back 36 = .ok (.aload_n 0, 1) := by decide +kernel
theorem dX8_back_37 : decode cX8_back 37 = .ok (.aload_n 0, 1) := by decide +kernel
theorem dX8_back_38 : decode cX8_back 38 = .ok (.getfield 39, 3) := by decide +kernel
theorem dX8_back_41 : decode cX8_back 41 = .ok (.iconst 3, 1) := by decide +kernel
theorem dX8_back_42 : decode cX8_back 42 = .ok (.iload_n 1, 1) := by decide +kernel
theorem dX8_back_43 : decode cX8_back 43 = .ok (.imul, 1) := by decide +kernel
theorem dX8_back_44 : decode cX8_back 44 = .ok (.iconst 1, 1) := by decide +kernel
theorem dX8_back_45 : decode cX8_back 45 = .ok (.iadd, 1) := by decide +kernel
theorem dX8_back_46 : decode cX8_back 46 = .ok (.laload, 1) := by decide +kernel
theorem dX8_back_47 : decode cX8_back 47 = .ok (.putfield 83, 3) := by decide +kernel
theorem dX8_back_50 : decode cX8_back 50 = .ok (.aload_n 0, 1) := by decide +kernel
theorem dX8_back_51 : decode cX8_back 51 = .ok (.aload_n 0, 1) := by decide +kernel
theorem dX8_back_52 : decode cX8_back 52 = .ok (.getfield 39, 3) := by decide +kernel
theorem dX8_back_55 : decode cX8_back 55 = .ok (.iconst 3, 1) := by decide +kernel
theorem dX8_back_56 : decode cX8_back 56 = .ok (.iload_n 1, 1) := by decide +kernel
theorem dX8_back_57 : decode cX8_back 57 = .ok (.imul, 1) := by decide +kernel
theorem dX8_back_58 : decode cX8_back 58 = .ok (.iconst 2, 1) := by decide +kernel
theorem dX8_back_59 : decode cX8_back 59 = .ok (.iadd, 1) := by decide +kernel
theorem dX8_back_60 : decode cX8_back 60 = .ok (.laload, 1) := by decide +kernel
theorem dX8_back_61 : decode cX8_back 61 = .ok (.putfield 88, 3) := by decide +kernel
theorem dX8_back_64 : decode cX8_back 64 = .ok (.aload_n 0, 1) := by decide +kernel
theorem dX8_back_65 : decode cX8_back 65 = .ok (.iconst 0, 1) := by decide +kernel
theorem dX8_back_66 : decode cX8_back 66 = .ok (.putfield 127, 3) := by decide +kernel
theorem dX8_back_69 : decode cX8_back 69 = .ok (.aload_n 0, 1) := by decide +kernel
theorem dX8_back_70 : decode cX8_back 70 = .ok (.invokevirtual 191, 3) := by decide +kernel
theorem dX8_back_73 : decode cX8_back 73 = .ok (.invokestatic 187, 3) := by decide +kernel
theorem dX8_back_76 : decode cX8_back 76 = .ok (.ireturn, 1) := by decide +kernel
theorem dX8_numbered_0 : decode cX8_numbered 0 = .ok (.iconst 0, 1) := by decide +kernel
theorem dX8_numbered_1 : decode cX8_numbered 1 = .ok (.istore_n 1, 1) := by decide +kernel
theorem dX8_numbered_2 : decode cX8_numbered 2 = .ok (.iconst 0, 1) := by decide +kernel
theorem dX8_numbered_3 : decode cX8_numbered 3 = .ok (.istore_n 2, 1) := by decide +kernel
theorem dX8_numbered_4 : decode cX8_numbered 4 = .ok (.iload_n 2, 1) := by decide +kernel
theorem dX8_numbered_5 : decode cX8_numbered 5 = .ok (.aload_n 0, 1) := by decide +kernel
theorem dX8_numbered_6 : decode cX8_numbered 6 = .ok (.getfield 16, 3) := by decide +kernel
theorem dX8_numbered_9 : decode cX8_numbered 9 = .ok (.if_icmp .ge 26, 3) := by decide +kernel
theorem dX8_numbered_12 : decode cX8_numbered 12 = .ok (.iload_n 1, 1) := by decide +kernel
theorem dX8_numbered_13 : decode cX8_numbered 13 = .ok (.aload_n 0, 1) := by decide +kernel
theorem dX8_numbered_14 : decode cX8_numbered 14 = .ok (.iload_n 2, 1) := by decide +kernel
theorem dX8_numbered_15 : decode cX8_numbered 15 = .ok (.invokevirtual 134, 3) := by decide +kernel
theorem dX8_numbered_18 : decode cX8_numbered 18 = .ok (.iconst 5, 1) := by decide +kernel
theorem dX8_numbered_19 : decode cX8_numbered 19 = .ok (.if_icmp .ge 7, 3) := by decide +kernel
theorem dX8_numbered_22 : decode cX8_numbered 22 = .ok (.iconst 1, 1) := by decide +kernel
theorem dX8_numbered_23 : decode cX8_numbered 23 = .ok (.goto 4, 3) := by decide +kernel
theorem dX8_numbered_26 : decode cX8_numbered 26 = .ok (.iconst 0, 1) := by decide +kernel
theorem dX8_numbered_27 : decode cX8_numbered 27 = .ok (.iadd, 1) := by decide +kernel
theorem dX8_numbered_28 : decode cX8_numbered 28 = .ok (.istore_n 1, 1) := by decide +kernel
theorem dX8_numbered_29 : decode cX8_numbered 29 = .ok (.iinc 2 1, 3) := by decide +kernel
theorem dX8_numbered_32 : decode cX8_numbered 32 = .ok (.goto (-28), 3) := by decide +kernel
theorem dX8_numbered_35 : decode cX8_numbered 35 = .ok (.iload_n 1, 1) := by decide +kernel
theorem dX8_numbered_36 : decode cX8_numbered 36 = .ok (.ireturn, 1) := by decide +kernel
theorem dX8_count_0 : decode cX8_count 0 = .ok (.iload_n 1, 1) := by decide +kernel
theorem dX8_count_1 : decode cX8_count 1 = .ok (.tableswitch 93 0 7 #[47, 52, 57, 62, 70, 78, 83, 88], 47) := by decide +kernel
theorem dX8_count_48 : decode cX8_count 48 = .ok (.aload_n 0, 1) := by decide +kernel
theorem dX8_count_49 : decode cX8_count 49 = .ok (.getfield 7, 3) := by decide +kernel
theorem dX8_count_52 : decode cX8_count 52 = .ok (.ireturn, 1) := by decide +kernel
theorem dX8_count_53 : decode cX8_count 53 = .ok (.aload_n 0, 1) := by decide +kernel
theorem dX8_count_54 : decode cX8_count 54 = .ok (.getfield 13, 3) := by decide +kernel
theorem dX8_count_57 : decode cX8_count 57 = .ok (.ireturn, 1) := by decide +kernel
theorem dX8_count_58 : decode cX8_count 58 = .ok (.aload_n 0, 1) := by decide +kernel
theorem dX8_count_59 : decode cX8_count 59 = .ok (.getfield 19, 3) := by decide +kernel
theorem dX8_count_62 : decode cX8_count 62 = .ok (.ireturn, 1) := by decide +kernel
theorem dX8_count_63 : decode cX8_count 63 = .ok (.aload_n 0, 1) := by decide +kernel
theorem dX8_count_64 : decode cX8_count 64 = .ok (.getfield 83, 3) := by decide +kernel
theorem dX8_count_67 : decode cX8_count 67 = .ok (.invokestatic 187, 3) := by decide +kernel
theorem dX8_count_70 : decode cX8_count 70 = .ok (.ireturn, 1) := by decide +kernel
theorem dX8_count_71 : decode cX8_count 71 = .ok (.aload_n 0, 1) := by decide +kernel
theorem dX8_count_72 : decode cX8_count 72 = .ok (.getfield 88, 3) := by decide +kernel
theorem dX8_count_75 : decode cX8_count 75 = .ok (.invokestatic 187, 3) := by decide +kernel
theorem dX8_count_78 : decode cX8_count 78 = .ok (.ireturn, 1) := by decide +kernel
theorem dX8_count_79 : decode cX8_count 79 = .ok (.aload_n 0, 1) := by decide +kernel
theorem dX8_count_80 : decode cX8_count 80 = .ok (.invokevirtual 269, 3) := by decide +kernel
theorem dX8_count_83 : decode cX8_count 83 = .ok (.ireturn, 1) := by decide +kernel
theorem dX8_count_84 : decode cX8_count 84 = .ok (.aload_n 0, 1) := by decide +kernel
theorem dX8_count_85 : decode cX8_count 85 = .ok (.getfield 96, 3) := by decide +kernel
theorem dX8_count_88 : decode cX8_count 88 = .ok (.ireturn, 1) := by decide +kernel
theorem dX8_count_89 : decode cX8_count 89 = .ok (.aload_n 0, 1) := by decide +kernel
theorem dX8_count_90 : decode cX8_count 90 = .ok (.getfield 127, 3) := by decide +kernel
theorem dX8_count_93 : decode cX8_count 93 = .ok (.ireturn, 1) := by decide +kernel
theorem dX8_count_94 : decode cX8_count 94 = .ok (.iconst (-1), 1) := by decide +kernel
theorem dX8_count_95 : decode cX8_count 95 = .ok (.ireturn, 1) := by decide +kernel
theorem dJ6_numberOfTrailingZeros_0f7a4_0 : decode cJ6_numberOfTrailingZeros_0f7a4 0 = .ok (.iload_n 0, 1) := by decide +kernel
theorem dJ6_numberOfTrailingZeros_0f7a4_1 : decode cJ6_numberOfTrailingZeros_0f7a4 1 = .ok (.iconst (-1), 1) := by decide +kernel
theorem dJ6_numberOfTrailingZeros_0f7a4_2 : decode cJ6_numberOfTrailingZeros_0f7a4 2 = .ok (.ixor, 1) := by decide +kernel
theorem dJ6_numberOfTrailingZeros_0f7a4_3 : decode cJ6_numberOfTrailingZeros_0f7a4 3 = .ok (.iload_n 0, 1) := by decide +kernel
theorem dJ6_numberOfTrailingZeros_0f7a4_4 : decode cJ6_numberOfTrailingZeros_0f7a4 4 = .ok (.iconst 1, 1) := by decide +kernel
theorem dJ6_numberOfTrailingZeros_0f7a4_5 : decode cJ6_numberOfTrailingZeros_0f7a4 5 = .ok (.isub, 1) := by decide +kernel
theorem dJ6_numberOfTrailingZeros_0f7a4_6 : decode cJ6_numberOfTrailingZeros_0f7a4 6 = .ok (.iand, 1) := by decide +kernel
theorem dJ6_numberOfTrailingZeros_0f7a4_7 : decode cJ6_numberOfTrailingZeros_0f7a4 7 = .ok (.istore_n 0, 1) := by decide +kernel
theorem dJ6_numberOfTrailingZeros_0f7a4_8 : decode cJ6_numberOfTrailingZeros_0f7a4 8 = .ok (.iload_n 0, 1) := by decide +kernel
theorem dJ6_numberOfTrailingZeros_0f7a4_9 : decode cJ6_numberOfTrailingZeros_0f7a4 9 = .ok (.ifCond .gt 8, 3) := by decide +kernel
theorem dJ6_numberOfTrailingZeros_0f7a4_12 : decode cJ6_numberOfTrailingZeros_0f7a4 12 = .ok (.iload_n 0, 1) := by decide +kernel
theorem dJ6_numberOfTrailingZeros_0f7a4_13 : decode cJ6_numberOfTrailingZeros_0f7a4 13 = .ok (.bipush 32, 2) := by decide +kernel
theorem dJ6_numberOfTrailingZeros_0f7a4_15 : decode cJ6_numberOfTrailingZeros_0f7a4 15 = .ok (.iand, 1) := by decide +kernel
theorem dJ6_numberOfTrailingZeros_0f7a4_16 : decode cJ6_numberOfTrailingZeros_0f7a4 16 = .ok (.ireturn, 1) := by decide +kernel
theorem dJ6_numberOfTrailingZeros_0f7a4_17 : decode cJ6_numberOfTrailingZeros_0f7a4 17 = .ok (.iconst 1, 1) := by decide +kernel
theorem dJ6_numberOfTrailingZeros_0f7a4_18 : decode cJ6_numberOfTrailingZeros_0f7a4 18 = .ok (.istore_n 1, 1) := by decide +kernel
theorem dJ6_numberOfTrailingZeros_0f7a4_19 : decode cJ6_numberOfTrailingZeros_0f7a4 19 = .ok (.iload_n 0, 1) := by decide +kernel
theorem dJ6_numberOfTrailingZeros_0f7a4_20 : decode cJ6_numberOfTrailingZeros_0f7a4 20 = .ok (.ldc_w 264, 3) := by decide +kernel
theorem dJ6_numberOfTrailingZeros_0f7a4_23 : decode cJ6_numberOfTrailingZeros_0f7a4 23 = .ok (.if_icmp .le 11, 3) := by decide +kernel
theorem dJ6_numberOfTrailingZeros_0f7a4_26 : decode cJ6_numberOfTrailingZeros_0f7a4 26 = .ok (.iinc 1 16, 3) := by decide +kernel
theorem dJ6_numberOfTrailingZeros_0f7a4_29 : decode cJ6_numberOfTrailingZeros_0f7a4 29 = .ok (.iload_n 0, 1) := by decide +kernel
theorem dJ6_numberOfTrailingZeros_0f7a4_30 : decode cJ6_numberOfTrailingZeros_0f7a4 30 = .ok (.bipush 16, 2) := by decide +kernel
theorem dJ6_numberOfTrailingZeros_0f7a4_32 : decode cJ6_numberOfTrailingZeros_0f7a4 32 = .ok (.iushr, 1) := by decide +kernel
theorem dJ6_numberOfTrailingZeros_0f7a4_33 : decode cJ6_numberOfTrailingZeros_0f7a4 33 = .ok (.istore_n 0, 1) := by decide +kernel
theorem dJ6_numberOfTrailingZeros_0f7a4_34 : decode cJ6_numberOfTrailingZeros_0f7a4 34 = .ok (.iload_n 0, 1) := by decide +kernel
theorem dJ6_numberOfTrailingZeros_0f7a4_35 : decode cJ6_numberOfTrailingZeros_0f7a4 35 = .ok (.sipush 256, 3) := by decide +kernel
theorem dJ6_numberOfTrailingZeros_0f7a4_38 : decode cJ6_numberOfTrailingZeros_0f7a4 38 = .ok (.if_icmp .le 11, 3) := by decide +kernel
theorem dJ6_numberOfTrailingZeros_0f7a4_41 : decode cJ6_numberOfTrailingZeros_0f7a4 41 = .ok (.iinc 1 8, 3) := by decide +kernel
theorem dJ6_numberOfTrailingZeros_0f7a4_44 : decode cJ6_numberOfTrailingZeros_0f7a4 44 = .ok (.iload_n 0, 1) := by decide +kernel
theorem dJ6_numberOfTrailingZeros_0f7a4_45 : decode cJ6_numberOfTrailingZeros_0f7a4 45 = .ok (.bipush 8, 2) := by decide +kernel
theorem dJ6_numberOfTrailingZeros_0f7a4_47 : decode cJ6_numberOfTrailingZeros_0f7a4 47 = .ok (.iushr, 1) := by decide +kernel
theorem dJ6_numberOfTrailingZeros_0f7a4_48 : decode cJ6_numberOfTrailingZeros_0f7a4 48 = .ok (.istore_n 0, 1) := by decide +kernel
theorem dJ6_numberOfTrailingZeros_0f7a4_49 : decode cJ6_numberOfTrailingZeros_0f7a4 49 = .ok (.iload_n 0, 1) := by decide +kernel
theorem dJ6_numberOfTrailingZeros_0f7a4_50 : decode cJ6_numberOfTrailingZeros_0f7a4 50 = .ok (.bipush 16, 2) := by decide +kernel
theorem dJ6_numberOfTrailingZeros_0f7a4_52 : decode cJ6_numberOfTrailingZeros_0f7a4 52 = .ok (.if_icmp .le 10, 3) := by decide +kernel
theorem dJ6_numberOfTrailingZeros_0f7a4_55 : decode cJ6_numberOfTrailingZeros_0f7a4 55 = .ok (.iinc 1 4, 3) := by decide +kernel
theorem dJ6_numberOfTrailingZeros_0f7a4_58 : decode cJ6_numberOfTrailingZeros_0f7a4 58 = .ok (.iload_n 0, 1) := by decide +kernel
theorem dJ6_numberOfTrailingZeros_0f7a4_59 : decode cJ6_numberOfTrailingZeros_0f7a4 59 = .ok (.iconst 4, 1) := by decide +kernel
theorem dJ6_numberOfTrailingZeros_0f7a4_60 : decode cJ6_numberOfTrailingZeros_0f7a4 60 = .ok (.iushr, 1) := by decide +kernel
theorem dJ6_numberOfTrailingZeros_0f7a4_61 : decode cJ6_numberOfTrailingZeros_0f7a4 61 = .ok (.istore_n 0, 1) := by decide +kernel
theorem dJ6_numberOfTrailingZeros_0f7a4_62 : decode cJ6_numberOfTrailingZeros_0f7a4 62 = .ok (.iload_n 0, 1) := by decide +kernel
theorem dJ6_numberOfTrailingZeros_0f7a4_63 : decode cJ6_numberOfTrailingZeros_0f7a4 63 = .ok (.iconst 4, 1) := by decide +kernel
theorem dJ6_numberOfTrailingZeros_0f7a4_64 : decode cJ6_numberOfTrailingZeros_0f7a4 64 = .ok (.if_icmp .le 10, 3) := by decide +kernel
theorem dJ6_numberOfTrailingZeros_0f7a4_67 : decode cJ6_numberOfTrailingZeros_0f7a4 67 = .ok (.iinc 1 2, 3) := by decide +kernel
theorem dJ6_numberOfTrailingZeros_0f7a4_70 : decode cJ6_numberOfTrailingZeros_0f7a4 70 = .ok (.iload_n 0, 1) := by decide +kernel
theorem dJ6_numberOfTrailingZeros_0f7a4_71 : decode cJ6_numberOfTrailingZeros_0f7a4 71 = .ok (.iconst 2, 1) := by decide +kernel
theorem dJ6_numberOfTrailingZeros_0f7a4_72 : decode cJ6_numberOfTrailingZeros_0f7a4 72 = .ok (.iushr, 1) := by decide +kernel
theorem dJ6_numberOfTrailingZeros_0f7a4_73 : decode cJ6_numberOfTrailingZeros_0f7a4 73 = .ok (.istore_n 0, 1) := by decide +kernel
theorem dJ6_numberOfTrailingZeros_0f7a4_74 : decode cJ6_numberOfTrailingZeros_0f7a4 74 = .ok (.iload_n 1, 1) := by decide +kernel
theorem dJ6_numberOfTrailingZeros_0f7a4_75 : decode cJ6_numberOfTrailingZeros_0f7a4 75 = .ok (.iload_n 0, 1) := by decide +kernel
theorem dJ6_numberOfTrailingZeros_0f7a4_76 : decode cJ6_numberOfTrailingZeros_0f7a4 76 = .ok (.iconst 1, 1) := by decide +kernel
theorem dJ6_numberOfTrailingZeros_0f7a4_77 : decode cJ6_numberOfTrailingZeros_0f7a4 77 = .ok (.iushr, 1) := by decide +kernel
theorem dJ6_numberOfTrailingZeros_0f7a4_78 : decode cJ6_numberOfTrailingZeros_0f7a4 78 = .ok (.iadd, 1) := by decide +kernel
theorem dJ6_numberOfTrailingZeros_0f7a4_79 : decode cJ6_numberOfTrailingZeros_0f7a4 79 = .ok (.ireturn, 1) := by decide +kernel
theorem dJ13_numberOfTrailingZeros_95d88_0 : decode cJ13_numberOfTrailingZeros_95d88 0 = .ok (.lload_n 0, 1) := by decide +kernel
theorem dJ13_numberOfTrailingZeros_95d88_1 : decode cJ13_numberOfTrailingZeros_95d88 1 = .ok (.l2i, 1) := by decide +kernel
theorem dJ13_numberOfTrailingZeros_95d88_2 : decode cJ13_numberOfTrailingZeros_95d88 2 = .ok (.istore_n 2, 1) := by decide +kernel
theorem dJ13_numberOfTrailingZeros_95d88_3 : decode cJ13_numberOfTrailingZeros_95d88 3 = .ok (.iload_n 2, 1) := by decide +kernel
theorem dJ13_numberOfTrailingZeros_95d88_4 : decode cJ13_numberOfTrailingZeros_95d88 4 = .ok (.ifCond .ne 17, 3) := by decide +kernel
theorem dJ13_numberOfTrailingZeros_95d88_7 : decode cJ13_numberOfTrailingZeros_95d88 7 = .ok (.bipush 32, 2) := by decide +kernel
theorem dJ13_numberOfTrailingZeros_95d88_9 : decode cJ13_numberOfTrailingZeros_95d88 9 = .ok (.lload_n 0, 1) := by decide +kernel
theorem dJ13_numberOfTrailingZeros_95d88_10 : decode cJ13_numberOfTrailingZeros_95d88 10 = .ok (.bipush 32, 2) := by decide +kernel
theorem dJ13_numberOfTrailingZeros_95d88_12 : decode cJ13_numberOfTrailingZeros_95d88 12 = .ok (.lushr, 1) := by decide +kernel
theorem dJ13_numberOfTrailingZeros_95d88_13 : decode cJ13_numberOfTrailingZeros_95d88 13 = .ok (.l2i, 1) := by decide +kernel
theorem dJ13_numberOfTrailingZeros_95d88_14 : decode cJ13_numberOfTrailingZeros_95d88 14 = .ok (.invokestatic 311, 3) := by decide +kernel
theorem dJ13_numberOfTrailingZeros_95d88_17 : decode cJ13_numberOfTrailingZeros_95d88 17 = .ok (.iadd, 1) := by decide +kernel
theorem dJ13_numberOfTrailingZeros_95d88_18 : decode cJ13_numberOfTrailingZeros_95d88 18 = .ok (.goto 7, 3) := by decide +kernel
theorem dJ13_numberOfTrailingZeros_95d88_21 : decode cJ13_numberOfTrailingZeros_95d88 21 = .ok (.iload_n 2, 1) := by decide +kernel
theorem dJ13_numberOfTrailingZeros_95d88_22 : decode cJ13_numberOfTrailingZeros_95d88 22 = .ok (.invokestatic 311, 3) := by decide +kernel
theorem dJ13_numberOfTrailingZeros_95d88_25 : decode cJ13_numberOfTrailingZeros_95d88 25 = .ok (.ireturn, 1) := by decide +kernel
theorem dJ13_bitCount_95d88_0 : decode cJ13_bitCount_95d88 0 = .ok (.lload_n 0, 1) := by decide +kernel
theorem dJ13_bitCount_95d88_1 : decode cJ13_bitCount_95d88 1 = .ok (.lload_n 0, 1) := by decide +kernel
theorem dJ13_bitCount_95d88_2 : decode cJ13_bitCount_95d88 2 = .ok (.iconst 1, 1) := by decide +kernel
theorem dJ13_bitCount_95d88_3 : decode cJ13_bitCount_95d88 3 = .ok (.lushr, 1) := by decide +kernel
theorem dJ13_bitCount_95d88_4 : decode cJ13_bitCount_95d88 4 = .ok (.ldc2_w 314, 3) := by decide +kernel
theorem dJ13_bitCount_95d88_7 : decode cJ13_bitCount_95d88 7 = .ok (.land, 1) := by decide +kernel
theorem dJ13_bitCount_95d88_8 : decode cJ13_bitCount_95d88 8 = .ok (.lsub, 1) := by decide +kernel
theorem dJ13_bitCount_95d88_9 : decode cJ13_bitCount_95d88 9 = .ok (.lstore_n 0, 1) := by decide +kernel
theorem dJ13_bitCount_95d88_10 : decode cJ13_bitCount_95d88 10 = .ok (.lload_n 0, 1) := by decide +kernel
theorem dJ13_bitCount_95d88_11 : decode cJ13_bitCount_95d88 11 = .ok (.ldc2_w 316, 3) := by decide +kernel
theorem dJ13_bitCount_95d88_14 : decode cJ13_bitCount_95d88 14 = .ok (.land, 1) := by decide +kernel
theorem dJ13_bitCount_95d88_15 : decode cJ13_bitCount_95d88 15 = .ok (.lload_n 0, 1) := by decide +kernel
theorem dJ13_bitCount_95d88_16 : decode cJ13_bitCount_95d88 16 = .ok (.iconst 2, 1) := by decide +kernel
theorem dJ13_bitCount_95d88_17 : decode cJ13_bitCount_95d88 17 = .ok (.lushr, 1) := by decide +kernel
theorem dJ13_bitCount_95d88_18 : decode cJ13_bitCount_95d88 18 = .ok (.ldc2_w 316, 3) := by decide +kernel
theorem dJ13_bitCount_95d88_21 : decode cJ13_bitCount_95d88 21 = .ok (.land, 1) := by decide +kernel
theorem dJ13_bitCount_95d88_22 : decode cJ13_bitCount_95d88 22 = .ok (.ladd, 1) := by decide +kernel
theorem dJ13_bitCount_95d88_23 : decode cJ13_bitCount_95d88 23 = .ok (.lstore_n 0, 1) := by decide +kernel
theorem dJ13_bitCount_95d88_24 : decode cJ13_bitCount_95d88 24 = .ok (.lload_n 0, 1) := by decide +kernel
theorem dJ13_bitCount_95d88_25 : decode cJ13_bitCount_95d88 25 = .ok (.lload_n 0, 1) := by decide +kernel
theorem dJ13_bitCount_95d88_26 : decode cJ13_bitCount_95d88 26 = .ok (.iconst 4, 1) := by decide +kernel
theorem dJ13_bitCount_95d88_27 : decode cJ13_bitCount_95d88 27 = .ok (.lushr, 1) := by decide +kernel
theorem dJ13_bitCount_95d88_28 : decode cJ13_bitCount_95d88 28 = .ok (.ladd, 1) := by decide +kernel
theorem dJ13_bitCount_95d88_29 : decode cJ13_bitCount_95d88 29 = .ok (.ldc2_w 318, 3) := by decide +kernel
theorem dJ13_bitCount_95d88_32 : decode cJ13_bitCount_95d88 32 = .ok (.land, 1) := by decide +kernel
theorem dJ13_bitCount_95d88_33 : decode cJ13_bitCount_95d88 33 = .ok (.lstore_n 0, 1) := by decide +kernel
theorem dJ13_bitCount_95d88_34 : decode cJ13_bitCount_95d88 34 = .ok (.lload_n 0, 1) := by decide +kernel
theorem dJ13_bitCount_95d88_35 : decode cJ13_bitCount_95d88 35 = .ok (.lload_n 0, 1) := by decide +kernel
theorem dJ13_bitCount_95d88_36 : decode cJ13_bitCount_95d88 36 = .ok (.bipush 8, 2) := by decide +kernel
theorem dJ13_bitCount_95d88_38 : decode cJ13_bitCount_95d88 38 = .ok (.lushr, 1) := by decide +kernel
theorem dJ13_bitCount_95d88_39 : decode cJ13_bitCount_95d88 39 = .ok (.ladd, 1) := by decide +kernel
theorem dJ13_bitCount_95d88_40 : decode cJ13_bitCount_95d88 40 = .ok (.lstore_n 0, 1) := by decide +kernel
theorem dJ13_bitCount_95d88_41 : decode cJ13_bitCount_95d88 41 = .ok (.lload_n 0, 1) := by decide +kernel
theorem dJ13_bitCount_95d88_42 : decode cJ13_bitCount_95d88 42 = .ok (.lload_n 0, 1) := by decide +kernel
theorem dJ13_bitCount_95d88_43 : decode cJ13_bitCount_95d88 43 = .ok (.bipush 16, 2) := by decide +kernel
theorem dJ13_bitCount_95d88_45 : decode cJ13_bitCount_95d88 45 = .ok (.lushr, 1) := by decide +kernel
theorem dJ13_bitCount_95d88_46 : decode cJ13_bitCount_95d88 46 = .ok (.ladd, 1) := by decide +kernel
theorem dJ13_bitCount_95d88_47 : decode cJ13_bitCount_95d88 47 = .ok (.lstore_n 0, 1) := by decide +kernel
theorem dJ13_bitCount_95d88_48 : decode cJ13_bitCount_95d88 48 = .ok (.lload_n 0, 1) := by decide +kernel
theorem dJ13_bitCount_95d88_49 : decode cJ13_bitCount_95d88 49 = .ok (.lload_n 0, 1) := by decide +kernel
theorem dJ13_bitCount_95d88_50 : decode cJ13_bitCount_95d88 50 = .ok (.bipush 32, 2) := by decide +kernel
theorem dJ13_bitCount_95d88_52 : decode cJ13_bitCount_95d88 52 = .ok (.lushr, 1) := by decide +kernel
theorem dJ13_bitCount_95d88_53 : decode cJ13_bitCount_95d88 53 = .ok (.ladd, 1) := by decide +kernel
theorem dJ13_bitCount_95d88_54 : decode cJ13_bitCount_95d88 54 = .ok (.lstore_n 0, 1) := by decide +kernel
theorem dJ13_bitCount_95d88_55 : decode cJ13_bitCount_95d88 55 = .ok (.lload_n 0, 1) := by decide +kernel
theorem dJ13_bitCount_95d88_56 : decode cJ13_bitCount_95d88 56 = .ok (.l2i, 1) := by decide +kernel
theorem dJ13_bitCount_95d88_57 : decode cJ13_bitCount_95d88 57 = .ok (.bipush 127, 2) := by decide +kernel
theorem dJ13_bitCount_95d88_59 : decode cJ13_bitCount_95d88 59 = .ok (.iand, 1) := by decide +kernel
theorem dJ13_bitCount_95d88_60 : decode cJ13_bitCount_95d88 60 = .ok (.ireturn, 1) := by decide +kernel
theorem dJ9_max_7cf53_0 : decode cJ9_max_7cf53 0 = .ok (.iload_n 0, 1) := by decide +kernel
theorem dJ9_max_7cf53_1 : decode cJ9_max_7cf53 1 = .ok (.iload_n 1, 1) := by decide +kernel
theorem dJ9_max_7cf53_2 : decode cJ9_max_7cf53 2 = .ok (.if_icmp .lt 7, 3) := by decide +kernel
theorem dJ9_max_7cf53_5 : decode cJ9_max_7cf53 5 = .ok (.iload_n 0, 1) := by decide +kernel
theorem dJ9_max_7cf53_6 : decode cJ9_max_7cf53 6 = .ok (.goto 4, 3) := by decide +kernel
theorem dJ9_max_7cf53_9 : decode cJ9_max_7cf53 9 = .ok (.iload_n 1, 1) := by decide +kernel
theorem dJ9_max_7cf53_10 : decode cJ9_max_7cf53 10 = .ok (.ireturn, 1) := by decide +kernel
theorem dJ9_min_7cf53_0 : decode cJ9_min_7cf53 0 = .ok (.iload_n 0, 1) := by decide +kernel
theorem dJ9_min_7cf53_1 : decode cJ9_min_7cf53 1 = .ok (.iload_n 1, 1) := by decide +kernel
theorem dJ9_min_7cf53_2 : decode cJ9_min_7cf53 2 = .ok (.if_icmp .gt 7, 3) := by decide +kernel
theorem dJ9_min_7cf53_5 : decode cJ9_min_7cf53 5 = .ok (.iload_n 0, 1) := by decide +kernel
theorem dJ9_min_7cf53_6 : decode cJ9_min_7cf53 6 = .ok (.goto 4, 3) := by decide +kernel
theorem dJ9_min_7cf53_9 : decode cJ9_min_7cf53 9 = .ok (.iload_n 1, 1) := by decide +kernel
theorem dJ9_min_7cf53_10 : decode cJ9_min_7cf53 10 = .ok (.ireturn, 1) := by decide +kernel
theorem dJ7_fill_d0a16_0 : decode cJ7_fill_d0a16 0 = .ok (.iconst 0, 1) := by decide +kernel
theorem dJ7_fill_d0a16_1 : decode cJ7_fill_d0a16 1 = .ok (.istore_n 3, 1) := by decide +kernel
theorem dJ7_fill_d0a16_2 : decode cJ7_fill_d0a16 2 = .ok (.aload_n 0, 1) := by decide +kernel
theorem dJ7_fill_d0a16_3 : decode cJ7_fill_d0a16 3 = .ok (.arraylength, 1) := by decide +kernel
theorem dJ7_fill_d0a16_4 : decode cJ7_fill_d0a16 4 = .ok (.istore 4, 2) := by decide +kernel
theorem dJ7_fill_d0a16_6 : decode cJ7_fill_d0a16 6 = .ok (.iload_n 3, 1) := by decide +kernel
theorem dJ7_fill_d0a16_7 : decode cJ7_fill_d0a16 7 = .ok (.iload 4, 2) := by decide +kernel
theorem dJ7_fill_d0a16_9 : decode cJ7_fill_d0a16 9 = .ok (.if_icmp .ge 13, 3) := by decide +kernel
theorem dJ7_fill_d0a16_12 : decode cJ7_fill_d0a16 12 = .ok (.aload_n 0, 1) := by decide +kernel
theorem dJ7_fill_d0a16_13 : decode cJ7_fill_d0a16 13 = .ok (.iload_n 3, 1) := by decide +kernel
theorem dJ7_fill_d0a16_14 : decode cJ7_fill_d0a16 14 = .ok (.lload_n 1, 1) := by decide +kernel
theorem dJ7_fill_d0a16_15 : decode cJ7_fill_d0a16 15 = .ok (.lastore, 1) := by decide +kernel
theorem dJ7_fill_d0a16_16 : decode cJ7_fill_d0a16 16 = .ok (.iinc 3 1, 3) := by decide +kernel
theorem dJ7_fill_d0a16_19 : decode cJ7_fill_d0a16 19 = .ok (.goto (-13), 3) := by decide +kernel
theorem dJ7_fill_d0a16_22 : decode cJ7_fill_d0a16 22 = .ok (.return_, 1) := by decide +kernel
theorem dJ7_fill_53178_0 : decode cJ7_fill_53178 0 = .ok (.iconst 0, 1) := by decide +kernel
theorem dJ7_fill_53178_1 : decode cJ7_fill_53178 1 = .ok (.istore_n 2, 1) := by decide +kernel
theorem dJ7_fill_53178_2 : decode cJ7_fill_53178 2 = .ok (.aload_n 0, 1) := by decide +kernel
theorem dJ7_fill_53178_3 : decode cJ7_fill_53178 3 = .ok (.arraylength, 1) := by decide +kernel
theorem dJ7_fill_53178_4 : decode cJ7_fill_53178 4 = .ok (.istore_n 3, 1) := by decide +kernel
theorem dJ7_fill_53178_5 : decode cJ7_fill_53178 5 = .ok (.iload_n 2, 1) := by decide +kernel
theorem dJ7_fill_53178_6 : decode cJ7_fill_53178 6 = .ok (.iload_n 3, 1) := by decide +kernel
theorem dJ7_fill_53178_7 : decode cJ7_fill_53178 7 = .ok (.if_icmp .ge 13, 3) := by decide +kernel
theorem dJ7_fill_53178_10 : decode cJ7_fill_53178 10 = .ok (.aload_n 0, 1) := by decide +kernel
theorem dJ7_fill_53178_11 : decode cJ7_fill_53178 11 = .ok (.iload_n 2, 1) := by decide +kernel
theorem dJ7_fill_53178_12 : decode cJ7_fill_53178 12 = .ok (.iload_n 1, 1) := by decide +kernel
theorem dJ7_fill_53178_13 : decode cJ7_fill_53178 13 = .ok (.iastore, 1) := by decide +kernel
theorem dJ7_fill_53178_14 : decode cJ7_fill_53178 14 = .ok (.iinc 2 1, 3) := by decide +kernel
theorem dJ7_fill_53178_17 : decode cJ7_fill_53178 17 = .ok (.goto (-12), 3) := by decide +kernel
theorem dJ7_fill_53178_20 : decode cJ7_fill_53178 20 = .ok (.return_, 1) := by decide +kernel
theorem dL_law_0 : decode cL_law 0 = .ok (.new 7, 3) := by decide +kernel
theorem dL_law_3 : decode cL_law 3 = .ok (.dup, 1) := by decide +kernel
theorem dL_law_4 : decode cL_law 4 = .ok (.invokespecial 9, 3) := by decide +kernel
theorem dL_law_7 : decode cL_law 7 = .ok (.astore_n 1, 1) := by decide +kernel
theorem dL_law_8 : decode cL_law 8 = .ok (.new 10, 3) := by decide +kernel
theorem dL_law_11 : decode cL_law 11 = .ok (.dup, 1) := by decide +kernel
theorem dL_law_12 : decode cL_law 12 = .ok (.invokespecial 12, 3) := by decide +kernel
theorem dL_law_15 : decode cL_law 15 = .ok (.astore_n 2, 1) := by decide +kernel
theorem dL_law_16 : decode cL_law 16 = .ok (.iconst 0, 1) := by decide +kernel
theorem dL_law_17 : decode cL_law 17 = .ok (.istore_n 3, 1) := by decide +kernel
theorem dL_law_18 : decode cL_law 18 = .ok (.iload_n 3, 1) := by decide +kernel
theorem dL_law_19 : decode cL_law 19 = .ok (.aload_n 0, 1) := by decide +kernel
theorem dL_law_20 : decode cL_law 20 = .ok (.arraylength, 1) := by decide +kernel
theorem dL_law_21 : decode cL_law 21 = .ok (.iconst 4, 1) := by decide +kernel
theorem dL_law_22 : decode cL_law 22 = .ok (.isub, 1) := by decide +kernel
theorem dL_law_23 : decode cL_law 23 = .ok (.if_icmp .gt 598, 3) := by decide +kernel
theorem dL_law_26 : decode cL_law 26 = .ok (.aload_n 0, 1) := by decide +kernel
theorem dL_law_27 : decode cL_law 27 = .ok (.iload_n 3, 1) := by decide +kernel
theorem dL_law_28 : decode cL_law 28 = .ok (.iaload, 1) := by decide +kernel
theorem dL_law_29 : decode cL_law 29 = .ok (.bipush 31, 2) := by decide +kernel
theorem dL_law_31 : decode cL_law 31 = .ok (.iand, 1) := by decide +kernel
theorem dL_law_32 : decode cL_law 32 = .ok (.tableswitch 583 0 21 #[104, 127, 140, 153, 176, 199, 242, 275, 308, 321, 334, 347, 370, 384, 407, 431, 455, 478, 501, 514, 537, 560], 104) := by decide +kernel
theorem dL_law_136 : decode cL_law 136 = .ok (.aload_n 1, 1) := by decide +kernel
theorem dL_law_137 : decode cL_law 137 = .ok (.aload_n 0, 1) := by decide +kernel
theorem dL_law_138 : decode cL_law 138 = .ok (.iload_n 3, 1) := by decide +kernel
theorem dL_law_139 : decode cL_law 139 = .ok (.iconst 1, 1) := by decide +kernel
theorem dL_law_140 : decode cL_law 140 = .ok (.iadd, 1) := by decide +kernel
theorem dL_law_141 : decode cL_law 141 = .ok (.iaload, 1) := by decide +kernel
theorem dL_law_142 : decode cL_law 142 = .ok (.invokevirtual 13, 3) := by decide +kernel
theorem dL_law_145 : decode cL_law 145 = .ok (.aload_n 2, 1) := by decide +kernel
theorem dL_law_146 : decode cL_law 146 = .ok (.aload_n 0, 1) := by decide +kernel
theorem dL_law_147 : decode cL_law 147 = .ok (.iload_n 3, 1) := by decide +kernel
theorem dL_law_148 : decode cL_law 148 = .ok (.iconst 1, 1) := by decide +kernel
theorem dL_law_149 : decode cL_law 149 = .ok (.iadd, 1) := by decide +kernel
theorem dL_law_150 : decode cL_law 150 = .ok (.iaload, 1) := by decide +kernel
theorem dL_law_151 : decode cL_law 151 = .ok (.invokevirtual 17, 3) := by decide +kernel
theorem dL_law_154 : decode cL_law 154 = .ok (.if_icmp .eq 461, 3) := by decide +kernel
theorem dL_law_157 : decode cL_law 157 = .ok (.iconst 0, 1) := by decide +kernel
theorem dL_law_158 : decode cL_law 158 = .ok (.ireturn, 1) := by decide +kernel
theorem dL_law_159 : decode cL_law 159 = .ok (.aload_n 1, 1) := by decide +kernel
theorem dL_law_160 : decode cL_law 160 = .ok (.invokevirtual 18, 3) := by decide +kernel
theorem dL_law_163 : decode cL_law 163 = .ok (.aload_n 2, 1) := by decide +kernel
theorem dL_law_164 : decode cL_law 164 = .ok (.invokevirtual 22, 3) := by decide +kernel
theorem dL_law_167 : decode cL_law 167 = .ok (.if_icmp .eq 448, 3) := by decide +kernel
theorem dL_law_170 : decode cL_law 170 = .ok (.iconst 0, 1) := by decide +kernel
theorem dL_law_171 : decode cL_law 171 = .ok (.ireturn, 1) := by decide +kernel
theorem dL_law_172 : decode cL_law 172 = .ok (.aload_n 1, 1) := by decide +kernel
theorem dL_law_173 : decode cL_law 173 = .ok (.invokevirtual 23, 3) := by decide +kernel
theorem dL_law_176 : decode cL_law 176 = .ok (.aload_n 2, 1) := by decide +kernel
theorem dL_law_177 : decode cL_law 177 = .ok (.invokevirtual 26, 3) := by decide +kernel
theorem dL_law_180 : decode cL_law 180 = .ok (.if_icmp .eq 435, 3) := by decide +kernel
theorem dL_law_183 : decode cL_law 183 = .ok (.iconst 0, 1) := by decide +kernel
theorem dL_law_184 : decode cL_law 184 = .ok (.ireturn, 1) := by decide +kernel
theorem dL_law_185 : decode cL_law 185 = .ok (.aload_n 1, 1) := by decide +kernel
theorem dL_law_186 : decode cL_law 186 = .ok (.aload_n 0, 1) := by decide +kernel
theorem dL_law_187 : decode cL_law 187 = .ok (.iload_n 3, 1) := by decide +kernel
theorem dL_law_188 : decode cL_law 188 = .ok (.iconst 1, 1) := by decide +kernel
theorem dL_law_189 : decode cL_law 189 = .ok (.iadd, 1) := by decide +kernel
theorem dL_law_190 : decode cL_law 190 = .ok (.iaload, 1) := by decide +kernel
theorem dL_law_191 : decode cL_law 191 = .ok (.invokevirtual 27, 3) := by decide +kernel
theorem dL_law_194 : decode cL_law 194 = .ok (.aload_n 2, 1) := by decide +kernel
theorem dL_law_195 : decode cL_law 195 = .ok (.aload_n 0, 1) := by decide +kernel
theorem dL_law_196 : decode cL_law 196 = .ok (.iload_n 3, 1) := by decide +kernel
theorem dL_law_197 : decode cL_law 197 = .ok (.iconst 1, 1) := by decide +kernel
theorem dL_law_198 : decode cL_law 198 = .ok (.iadd, 1) := by decide +kernel
theorem dL_law_199 : decode cL_law 199 = .ok (.iaload, 1) := by decide +kernel
theorem dL_law_200 : decode cL_law 200 = .ok (.invokevirtual 30, 3) := by decide +kernel
theorem dL_law_203 : decode cL_law 203 = .ok (.if_icmp .eq 412, 3) := by decide +kernel
theorem dL_law_206 : decode cL_law 206 = .ok (.iconst 0, 1) := by decide +kernel
theorem dL_law_207 : decode cL_law 207 = .ok (.ireturn, 1) := by decide +kernel
theorem dL_law_208 : decode cL_law 208 = .ok (.aload_n 1, 1) := by decide +kernel
theorem dL_law_209 : decode cL_law 209 = .ok (.aload_n 0, 1) := by decide +kernel
theorem dL_law_210 : decode cL_law 210 = .ok (.iload_n 3, 1) := by decide +kernel
theorem dL_law_211 : decode cL_law 211 = .ok (.iconst 1, 1) := by decide +kernel
theorem dL_law_212 : decode cL_law 212 = .ok (.iadd, 1) := by decide +kernel
theorem dL_law_213 : decode cL_law 213 = .ok (.iaload, 1) := by decide +kernel
theorem dL_law_214 : decode cL_law 214 = .ok (.invokevirtual 31, 3) := by decide +kernel
theorem dL_law_217 : decode cL_law 217 = .ok (.aload_n 2, 1) := by decide +kernel
theorem dL_law_218 : decode cL_law 218 = .ok (.aload_n 0, 1) := by decide +kernel
theorem dL_law_219 : decode cL_law 219 = .ok (.iload_n 3, 1) := by decide +kernel
theorem dL_law_220 : decode cL_law 220 = .ok (.iconst 1, 1) := by decide +kernel
theorem dL_law_221 : decode cL_law 221 = .ok (.iadd, 1) := by decide +kernel
theorem dL_law_222 : decode cL_law 222 = .ok (.iaload, 1) := by decide +kernel
theorem dL_law_223 : decode cL_law 223 = .ok (.invokevirtual 34, 3) := by decide +kernel
theorem dL_law_226 : decode cL_law 226 = .ok (.if_icmp .eq 389, 3) := by decide +kernel
theorem dL_law_229 : decode cL_law 229 = .ok (.iconst 0, 1) := by decide +kernel
theorem dL_law_230 : decode cL_law 230 = .ok (.ireturn, 1) := by decide +kernel
theorem dL_law_231 : decode cL_law 231 = .ok (.aload_n 1, 1) := by decide +kernel
theorem dL_law_232 : decode cL_law 232 = .ok (.aload_n 0, 1) := by decide +kernel
theorem dL_law_233 : decode cL_law 233 = .ok (.iload_n 3, 1) := by decide +kernel
theorem dL_law_234 : decode cL_law 234 = .ok (.iconst 1, 1) := by decide +kernel
theorem dL_law_235 : decode cL_law 235 = .ok (.iadd, 1) := by decide +kernel
theorem dL_law_236 : decode cL_law 236 = .ok (.iaload, 1) := by decide +kernel
theorem dL_law_237 : decode cL_law 237 = .ok (.aload_n 0, 1) := by decide +kernel
theorem dL_law_238 : decode cL_law 238 = .ok (.iload_n 3, 1) := by decide +kernel
theorem dL_law_239 : decode cL_law 239 = .ok (.iconst 2, 1) := by decide +kernel
theorem dL_law_240 : decode cL_law 240 = .ok (.iadd, 1) := by decide +kernel
theorem dL_law_241 : decode cL_law 241 = .ok (.iaload, 1) := by decide +kernel
theorem dL_law_242 : decode cL_law 242 = .ok (.aload_n 0, 1) := by decide +kernel
theorem dL_law_243 : decode cL_law 243 = .ok (.iload_n 3, 1) := by decide +kernel
theorem dL_law_244 : decode cL_law 244 = .ok (.iconst 3, 1) := by decide +kernel
theorem dL_law_245 : decode cL_law 245 = .ok (.iadd, 1) := by decide +kernel
theorem dL_law_246 : decode cL_law 246 = .ok (.iaload, 1) := by decide +kernel
theorem dL_law_247 : decode cL_law 247 = .ok (.invokevirtual 35, 3) := by decide +kernel
theorem dL_law_250 : decode cL_law 250 = .ok (.aload_n 2, 1) := by decide +kernel
theorem dL_law_251 : decode cL_law 251 = .ok (.aload_n 0, 1) := by decide +kernel
theorem dL_law_252 : decode cL_law 252 = .ok (.iload_n 3, 1) := by decide +kernel
theorem dL_law_253 : decode cL_law 253 = .ok (.iconst 1, 1) := by decide +kernel
theorem dL_law_254 : decode cL_law 254 = .ok (.iadd, 1) := by decide +kernel
theorem dL_law_255 : decode cL_law 255 = .ok (.iaload, 1) := by decide +kernel
theorem dL_law_256 : decode cL_law 256 = .ok (.aload_n 0, 1) := by decide +kernel
theorem dL_law_257 : decode cL_law 257 = .ok (.iload_n 3, 1) := by decide +kernel
theorem dL_law_258 : decode cL_law 258 = .ok (.iconst 2, 1) := by decide +kernel
theorem dL_law_259 : decode cL_law 259 = .ok (.iadd, 1) := by decide +kernel
theorem dL_law_260 : decode cL_law 260 = .ok (.iaload, 1) := by decide +kernel
theorem dL_law_261 : decode cL_law 261 = .ok (.aload_n 0, 1) := by decide +kernel
theorem dL_law_262 : decode cL_law 262 = .ok (.iload_n 3, 1) := by decide +kernel
theorem dL_law_263 : decode cL_law 263 = .ok (.iconst 3, 1) := by decide +kernel
theorem dL_law_264 : decode cL_law 264 = .ok (.iadd, 1) := by decide +kernel
theorem dL_law_265 : decode cL_law 265 = .ok (.iaload, 1) := by decide +kernel
theorem dL_law_266 : decode cL_law 266 = .ok (.invokevirtual 39, 3) := by decide +kernel
theorem dL_law_269 : decode cL_law 269 = .ok (.if_icmp .eq 346, 3) := by decide +kernel
theorem dL_law_272 : decode cL_law 272 = .ok (.iconst 0, 1) := by decide +kernel
theorem dL_law_273 : decode cL_law 273 = .ok (.ireturn, 1) := by decide +kernel
theorem dL_law_274 : decode cL_law 274 = .ok (.aload_n 1, 1) := by decide +kernel
theorem dL_law_275 : decode cL_law 275 = .ok (.aload_n 0, 1) := by decide +kernel
theorem dL_law_276 : decode cL_law 276 = .ok (.iload_n 3, 1) := by decide +kernel
theorem dL_law_277 : decode cL_law 277 = .ok (.iconst 1, 1) := by decide +kernel
theorem dL_law_278 : decode cL_law 278 = .ok (.iadd, 1) := by decide +kernel
theorem dL_law_279 : decode cL_law 279 = .ok (.iaload, 1) := by decide +kernel
theorem dL_law_280 : decode cL_law 280 = .ok (.aload_n 0, 1) := by decide +kernel
theorem dL_law_281 : decode cL_law 281 = .ok (.iload_n 3, 1) := by decide +kernel
theorem dL_law_282 : decode cL_law 282 = .ok (.iconst 2, 1) := by decide +kernel
theorem dL_law_283 : decode cL_law 283 = .ok (.iadd, 1) := by decide +kernel
theorem dL_law_284 : decode cL_law 284 = .ok (.iaload, 1) := by decide +kernel
theorem dL_law_285 : decode cL_law 285 = .ok (.invokevirtual 40, 3) := by decide +kernel
theorem dL_law_288 : decode cL_law 288 = .ok (.aload_n 2, 1) := by decide +kernel
theorem dL_law_289 : decode cL_law 289 = .ok (.aload_n 0, 1) := by decide +kernel
theorem dL_law_290 : decode cL_law 290 = .ok (.iload_n 3, 1) := by decide +kernel
theorem dL_law_291 : decode cL_law 291 = .ok (.iconst 1, 1) := by decide +kernel
theorem dL_law_292 : decode cL_law 292 = .ok (.iadd, 1) := by decide +kernel
theorem dL_law_293 : decode cL_law 293 = .ok (.iaload, 1) := by decide +kernel
theorem dL_law_294 : decode cL_law 294 = .ok (.aload_n 0, 1) := by decide +kernel
theorem dL_law_295 : decode cL_law 295 = .ok (.iload_n 3, 1) := by decide +kernel
theorem dL_law_296 : decode cL_law 296 = .ok (.iconst 2, 1) := by decide +kernel
theorem dL_law_297 : decode cL_law 297 = .ok (.iadd, 1) := by decide +kernel
theorem dL_law_298 : decode cL_law 298 = .ok (.iaload, 1) := by decide +kernel
theorem dL_law_299 : decode cL_law 299 = .ok (.invokevirtual 44, 3) := by decide +kernel
theorem dL_law_302 : decode cL_law 302 = .ok (.if_icmp .eq 313, 3) := by decide +kernel
theorem dL_law_305 : decode cL_law 305 = .ok (.iconst 0, 1) := by decide +kernel
theorem dL_law_306 : decode cL_law 306 = .ok (.ireturn, 1) := by decide +kernel
theorem dL_law_307 : decode cL_law 307 = .ok (.aload_n 1, 1) := by decide +kernel
theorem dL_law_308 : decode cL_law 308 = .ok (.aload_n 0, 1) := by decide +kernel
theorem dL_law_309 : decode cL_law 309 = .ok (.iload_n 3, 1) := by decide +kernel
theorem dL_law_310 : decode cL_law 310 = .ok (.iconst 1, 1) := by decide +kernel
theorem dL_law_311 : decode cL_law 311 = .ok (.iadd, 1) := by decide +kernel
theorem dL_law_312 : decode cL_law 312 = .ok (.iaload, 1) := by decide +kernel
theorem dL_law_313 : decode cL_law 313 = .ok (.aload_n 0, 1) := by decide +kernel
theorem dL_law_314 : decode cL_law 314 = .ok (.iload_n 3, 1) := by decide +kernel
theorem dL_law_315 : decode cL_law 315 = .ok (.iconst 2, 1) := by decide +kernel
theorem dL_law_316 : decode cL_law 316 = .ok (.iadd, 1) := by decide +kernel
theorem dL_law_317 : decode cL_law 317 = .ok (.iaload, 1) := by decide +kernel
theorem dL_law_318 : decode cL_law 318 = .ok (.invokevirtual 45, 3) := by decide +kernel
theorem dL_law_321 : decode cL_law 321 = .ok (.aload_n 2, 1) := by decide +kernel
theorem dL_law_322 : decode cL_law 322 = .ok (.aload_n 0, 1) := by decide +kernel
theorem dL_law_323 : decode cL_law 323 = .ok (.iload_n 3, 1) := by decide +kernel
theorem dL_law_324 : decode cL_law 324 = .ok (.iconst 1, 1) := by decide +kernel
theorem dL_law_325 : decode cL_law 325 = .ok (.iadd, 1) := by decide +kernel
theorem dL_law_326 : decode cL_law 326 = .ok (.iaload, 1) := by decide +kernel
theorem dL_law_327 : decode cL_law 327 = .ok (.aload_n 0, 1) := by decide +kernel
theorem dL_law_328 : decode cL_law 328 = .ok (.iload_n 3, 1) := by decide +kernel
theorem dL_law_329 : decode cL_law 329 = .ok (.iconst 2, 1) := by decide +kernel
theorem dL_law_330 : decode cL_law 330 = .ok (.iadd, 1) := by decide +kernel
theorem dL_law_331 : decode cL_law 331 = .ok (.iaload, 1) := by decide +kernel
theorem dL_law_332 : decode cL_law 332 = .ok (.invokevirtual 48, 3) := by decide +kernel
theorem dL_law_335 : decode cL_law 335 = .ok (.if_icmp .eq 280, 3) := by decide +kernel
theorem dL_law_338 : decode cL_law 338 = .ok (.iconst 0, 1) := by decide +kernel
theorem dL_law_339 : decode cL_law 339 = .ok (.ireturn, 1) := by decide +kernel
theorem dL_law_340 : decode cL_law 340 = .ok (.aload_n 1, 1) := by decide +kernel
theorem dL_law_341 : decode cL_law 341 = .ok (.invokevirtual 49, 3) := by decide +kernel
theorem dL_law_344 : decode cL_law 344 = .ok (.aload_n 2, 1) := by decide +kernel
theorem dL_law_345 : decode cL_law 345 = .ok (.invokevirtual 52, 3) := by decide +kernel
theorem dL_law_348 : decode cL_law 348 = .ok (.if_icmp .eq 267, 3) := by decide +kernel
theorem dL_law_351 : decode cL_law 351 = .ok (.iconst 0, 1) := by decide +kernel
theorem dL_law_352 : decode cL_law 352 = .ok (.ireturn, 1) := by decide +kernel
theorem dL_law_353 : decode cL_law 353 = .ok (.aload_n 1, 1) := by decide +kernel
theorem dL_law_354 : decode cL_law 354 = .ok (.invokevirtual 53, 3) := by decide +kernel
theorem dL_law_357 : decode cL_law 357 = .ok (.aload_n 2, 1) := by decide +kernel
theorem dL_law_358 : decode cL_law 358 = .ok (.invokevirtual 56, 3) := by decide +kernel
theorem dL_law_361 : decode cL_law 361 = .ok (.if_icmp .eq 254, 3) := by decide +kernel
theorem dL_law_364 : decode cL_law 364 = .ok (.iconst 0, 1) := by decide +kernel
theorem dL_law_365 : decode cL_law 365 = .ok (.ireturn, 1) := by decide +kernel
theorem dL_law_366 : decode cL_law 366 = .ok (.aload_n 1, 1) := by decide +kernel
theorem dL_law_367 : decode cL_law 367 = .ok (.invokevirtual 57, 3) := by decide +kernel
theorem dL_law_370 : decode cL_law 370 = .ok (.aload_n 2, 1) := by decide +kernel
theorem dL_law_371 : decode cL_law 371 = .ok (.invokevirtual 60, 3) := by decide +kernel
theorem dL_law_374 : decode cL_law 374 = .ok (.if_icmp .eq 241, 3) := by decide +kernel
theorem dL_law_377 : decode cL_law 377 = .ok (.iconst 0, 1) := by decide +kernel
theorem dL_law_378 : decode cL_law 378 = .ok (.ireturn, 1) := by decide +kernel
theorem dL_law_379 : decode cL_law 379 = .ok (.aload_n 1, 1) := by decide +kernel
theorem dL_law_380 : decode cL_law 380 = .ok (.aload_n 0, 1) := by decide +kernel
theorem dL_law_381 : decode cL_law 381 = .ok (.iload_n 3, 1) := by decide +kernel
theorem dL_law_382 : decode cL_law 382 = .ok (.iconst 1, 1) := by decide +kernel
theorem dL_law_383 : decode cL_law 383 = .ok (.iadd, 1) := by decide +kernel
theorem dL_law_384 : decode cL_law 384 = .ok (.iaload, 1) := by decide +kernel
theorem dL_law_385 : decode cL_law 385 = .ok (.invokevirtual 61, 3) := by decide +kernel
theorem dL_law_388 : decode cL_law 388 = .ok (.aload_n 2, 1) := by decide +kernel
theorem dL_law_389 : decode cL_law 389 = .ok (.aload_n 0, 1) := by decide +kernel
theorem dL_law_390 : decode cL_law 390 = .ok (.iload_n 3, 1) := by decide +kernel
theorem dL_law_391 : decode cL_law 391 = .ok (.iconst 1, 1) := by decide +kernel
theorem dL_law_392 : decode cL_law 392 = .ok (.iadd, 1) := by decide +kernel
theorem dL_law_393 : decode cL_law 393 = .ok (.iaload, 1) := by decide +kernel
theorem dL_law_394 : decode cL_law 394 = .ok (.invokevirtual 64, 3) := by decide +kernel
theorem dL_law_397 : decode cL_law 397 = .ok (.if_icmp .eq 218, 3) := by decide +kernel
theorem dL_law_400 : decode cL_law 400 = .ok (.iconst 0, 1) := by decide +kernel
theorem dL_law_401 : decode cL_law 401 = .ok (.ireturn, 1) := by decide +kernel
theorem dL_law_402 : decode cL_law 402 = .ok (.aload_n 1, 1) := by decide +kernel
theorem dL_law_403 : decode cL_law 403 = .ok (.invokevirtual 65, 3) := by decide +kernel
theorem dL_law_406 : decode cL_law 406 = .ok (.aload_n 2, 1) := by decide +kernel
theorem dL_law_407 : decode cL_law 407 = .ok (.invokevirtual 69, 3) := by decide +kernel
theorem dL_law_410 : decode cL_law 410 = .ok (.lcmp, 1) := by decide +kernel
theorem dL_law_411 : decode cL_law 411 = .ok (.ifCond .eq 204, 3) := by decide +kernel
theorem dL_law_414 : decode cL_law 414 = .ok (.iconst 0, 1) := by decide +kernel
theorem dL_law_415 : decode cL_law 415 = .ok (.ireturn, 1) := by decide +kernel
theorem dL_law_416 : decode cL_law 416 = .ok (.aload_n 1, 1) := by decide +kernel
theorem dL_law_417 : decode cL_law 417 = .ok (.aload_n 0, 1) := by decide +kernel
theorem dL_law_418 : decode cL_law 418 = .ok (.iload_n 3, 1) := by decide +kernel
theorem dL_law_419 : decode cL_law 419 = .ok (.iconst 1, 1) := by decide +kernel
theorem dL_law_420 : decode cL_law 420 = .ok (.iadd, 1) := by decide +kernel
theorem dL_law_421 : decode cL_law 421 = .ok (.iaload, 1) := by decide +kernel
theorem dL_law_422 : decode cL_law 422 = .ok (.invokevirtual 70, 3) := by decide +kernel
theorem dL_law_425 : decode cL_law 425 = .ok (.aload_n 2, 1) := by decide +kernel
theorem dL_law_426 : decode cL_law 426 = .ok (.aload_n 0, 1) := by decide +kernel
theorem dL_law_427 : decode cL_law 427 = .ok (.iload_n 3, 1) := by decide +kernel
theorem dL_law_428 : decode cL_law 428 = .ok (.iconst 1, 1) := by decide +kernel
theorem dL_law_429 : decode cL_law 429 = .ok (.iadd, 1) := by decide +kernel
theorem dL_law_430 : decode cL_law 430 = .ok (.iaload, 1) := by decide +kernel
theorem dL_law_431 : decode cL_law 431 = .ok (.invokevirtual 73, 3) := by decide +kernel
theorem dL_law_434 : decode cL_law 434 = .ok (.if_icmp .eq 181, 3) := by decide +kernel
theorem dL_law_437 : decode cL_law 437 = .ok (.iconst 0, 1) := by decide +kernel
theorem dL_law_438 : decode cL_law 438 = .ok (.ireturn, 1) := by decide +kernel
theorem dL_law_439 : decode cL_law 439 = .ok (.aload_n 1, 1) := by decide +kernel
theorem dL_law_440 : decode cL_law 440 = .ok (.aload_n 0, 1) := by decide +kernel
theorem dL_law_441 : decode cL_law 441 = .ok (.iload_n 3, 1) := by decide +kernel
theorem dL_law_442 : decode cL_law 442 = .ok (.iconst 1, 1) := by decide +kernel
theorem dL_law_443 : decode cL_law 443 = .ok (.iadd, 1) := by decide +kernel
theorem dL_law_444 : decode cL_law 444 = .ok (.iaload, 1) := by decide +kernel
theorem dL_law_445 : decode cL_law 445 = .ok (.invokevirtual 74, 3) := by decide +kernel
theorem dL_law_448 : decode cL_law 448 = .ok (.aload_n 2, 1) := by decide +kernel
theorem dL_law_449 : decode cL_law 449 = .ok (.aload_n 0, 1) := by decide +kernel
theorem dL_law_450 : decode cL_law 450 = .ok (.iload_n 3, 1) := by decide +kernel
theorem dL_law_451 : decode cL_law 451 = .ok (.iconst 1, 1) := by decide +kernel
theorem dL_law_452 : decode cL_law 452 = .ok (.iadd, 1) := by decide +kernel
theorem dL_law_453 : decode cL_law 453 = .ok (.iaload, 1) := by decide +kernel
theorem dL_law_454 : decode cL_law 454 = .ok (.invokevirtual 78, 3) := by decide +kernel
theorem dL_law_457 : decode cL_law 457 = .ok (.lcmp, 1) := by decide +kernel
theorem dL_law_458 : decode cL_law 458 = .ok (.ifCond .eq 157, 3) := by decide +kernel
theorem dL_law_461 : decode cL_law 461 = .ok (.iconst 0, 1) := by decide +kernel
theorem dL_law_462 : decode cL_law 462 = .ok (.ireturn, 1) := by decide +kernel
theorem dL_law_463 : decode cL_law 463 = .ok (.aload_n 1, 1) := by decide +kernel
theorem dL_law_464 : decode cL_law 464 = .ok (.aload_n 0, 1) := by decide +kernel
theorem dL_law_465 : decode cL_law 465 = .ok (.iload_n 3, 1) := by decide +kernel
theorem dL_law_466 : decode cL_law 466 = .ok (.iconst 1, 1) := by decide +kernel
theorem dL_law_467 : decode cL_law 467 = .ok (.iadd, 1) := by decide +kernel
theorem dL_law_468 : decode cL_law 468 = .ok (.iaload, 1) := by decide +kernel
theorem dL_law_469 : decode cL_law 469 = .ok (.invokevirtual 79, 3) := by decide +kernel
theorem dL_law_472 : decode cL_law 472 = .ok (.aload_n 2, 1) := by decide +kernel
theorem dL_law_473 : decode cL_law 473 = .ok (.aload_n 0, 1) := by decide +kernel
theorem dL_law_474 : decode cL_law 474 = .ok (.iload_n 3, 1) := by decide +kernel
theorem dL_law_475 : decode cL_law 475 = .ok (.iconst 1, 1) := by decide +kernel
theorem dL_law_476 : decode cL_law 476 = .ok (.iadd, 1) := by decide +kernel
theorem dL_law_477 : decode cL_law 477 = .ok (.iaload, 1) := by decide +kernel
theorem dL_law_478 : decode cL_law 478 = .ok (.invokevirtual 82, 3) := by decide +kernel
theorem dL_law_481 : decode cL_law 481 = .ok (.lcmp, 1) := by decide +kernel
theorem dL_law_482 : decode cL_law 482 = .ok (.ifCond .eq 133, 3) := by decide +kernel
theorem dL_law_485 : decode cL_law 485 = .ok (.iconst 0, 1) := by decide +kernel
theorem dL_law_486 : decode cL_law 486 = .ok (.ireturn, 1) := by decide +kernel
theorem dL_law_487 : decode cL_law 487 = .ok (.aload_n 1, 1) := by decide +kernel
theorem dL_law_488 : decode cL_law 488 = .ok (.aload_n 0, 1) := by decide +kernel
theorem dL_law_489 : decode cL_law 489 = .ok (.iload_n 3, 1) := by decide +kernel
theorem dL_law_490 : decode cL_law 490 = .ok (.iconst 1, 1) := by decide +kernel
theorem dL_law_491 : decode cL_law 491 = .ok (.iadd, 1) := by decide +kernel
theorem dL_law_492 : decode cL_law 492 = .ok (.iaload, 1) := by decide +kernel
theorem dL_law_493 : decode cL_law 493 = .ok (.invokevirtual 83, 3) := by decide +kernel
theorem dL_law_496 : decode cL_law 496 = .ok (.aload_n 2, 1) := by decide +kernel
theorem dL_law_497 : decode cL_law 497 = .ok (.aload_n 0, 1) := by decide +kernel
theorem dL_law_498 : decode cL_law 498 = .ok (.iload_n 3, 1) := by decide +kernel
theorem dL_law_499 : decode cL_law 499 = .ok (.iconst 1, 1) := by decide +kernel
theorem dL_law_500 : decode cL_law 500 = .ok (.iadd, 1) := by decide +kernel
theorem dL_law_501 : decode cL_law 501 = .ok (.iaload, 1) := by decide +kernel
theorem dL_law_502 : decode cL_law 502 = .ok (.invokevirtual 86, 3) := by decide +kernel
theorem dL_law_505 : decode cL_law 505 = .ok (.if_icmp .eq 110, 3) := by decide +kernel
theorem dL_law_508 : decode cL_law 508 = .ok (.iconst 0, 1) := by decide +kernel
theorem dL_law_509 : decode cL_law 509 = .ok (.ireturn, 1) := by decide +kernel
theorem dL_law_510 : decode cL_law 510 = .ok (.aload_n 1, 1) := by decide +kernel
theorem dL_law_511 : decode cL_law 511 = .ok (.aload_n 0, 1) := by decide +kernel
theorem dL_law_512 : decode cL_law 512 = .ok (.iload_n 3, 1) := by decide +kernel
theorem dL_law_513 : decode cL_law 513 = .ok (.iconst 1, 1) := by decide +kernel
theorem dL_law_514 : decode cL_law 514 = .ok (.iadd, 1) := by decide +kernel
theorem dL_law_515 : decode cL_law 515 = .ok (.iaload, 1) := by decide +kernel
theorem dL_law_516 : decode cL_law 516 = .ok (.invokevirtual 87, 3) := by decide +kernel
theorem dL_law_519 : decode cL_law 519 = .ok (.aload_n 2, 1) := by decide +kernel
theorem dL_law_520 : decode cL_law 520 = .ok (.aload_n 0, 1) := by decide +kernel
theorem dL_law_521 : decode cL_law 521 = .ok (.iload_n 3, 1) := by decide +kernel
theorem dL_law_522 : decode cL_law 522 = .ok (.iconst 1, 1) := by decide +kernel
theorem dL_law_523 : decode cL_law 523 = .ok (.iadd, 1) := by decide +kernel
theorem dL_law_524 : decode cL_law 524 = .ok (.iaload, 1) := by decide +kernel
theorem dL_law_525 : decode cL_law 525 = .ok (.invokevirtual 90, 3) := by decide +kernel
theorem dL_law_528 : decode cL_law 528 = .ok (.if_icmp .eq 87, 3) := by decide +kernel
theorem dL_law_531 : decode cL_law 531 = .ok (.iconst 0, 1) := by decide +kernel
theorem dL_law_532 : decode cL_law 532 = .ok (.ireturn, 1) := by decide +kernel
theorem dL_law_533 : decode cL_law 533 = .ok (.aload_n 1, 1) := by decide +kernel
theorem dL_law_534 : decode cL_law 534 = .ok (.invokevirtual 91, 3) := by decide +kernel
theorem dL_law_537 : decode cL_law 537 = .ok (.aload_n 2, 1) := by decide +kernel
theorem dL_law_538 : decode cL_law 538 = .ok (.invokevirtual 94, 3) := by decide +kernel
theorem dL_law_541 : decode cL_law 541 = .ok (.if_icmp .eq 74, 3) := by decide +kernel
theorem dL_law_544 : decode cL_law 544 = .ok (.iconst 0, 1) := by decide +kernel
theorem dL_law_545 : decode cL_law 545 = .ok (.ireturn, 1) := by decide +kernel
theorem dL_law_546 : decode cL_law 546 = .ok (.aload_n 1, 1) := by decide +kernel
theorem dL_law_547 : decode cL_law 547 = .ok (.aload_n 0, 1) := by decide +kernel
theorem dL_law_548 : decode cL_law 548 = .ok (.iload_n 3, 1) := by decide +kernel
theorem dL_law_549 : decode cL_law 549 = .ok (.iconst 1, 1) := by decide +kernel
theorem dL_law_550 : decode cL_law 550 = .ok (.iadd, 1) := by decide +kernel
theorem dL_law_551 : decode cL_law 551 = .ok (.iaload, 1) := by decide +kernel
theorem dL_law_552 : decode cL_law 552 = .ok (.invokevirtual 95, 3) := by decide +kernel
theorem dL_law_555 : decode cL_law 555 = .ok (.aload_n 2, 1) := by decide +kernel
theorem dL_law_556 : decode cL_law 556 = .ok (.aload_n 0, 1) := by decide +kernel
theorem dL_law_557 : decode cL_law 557 = .ok (.iload_n 3, 1) := by decide +kernel
theorem dL_law_558 : decode cL_law 558 = .ok (.iconst 1, 1) := by decide +kernel
theorem dL_law_559 : decode cL_law 559 = .ok (.iadd, 1) := by decide +kernel
theorem dL_law_560 : decode cL_law 560 = .ok (.iaload, 1) := by decide +kernel
theorem dL_law_561 : decode cL_law 561 = .ok (.invokevirtual 98, 3) := by decide +kernel
theorem dL_law_564 : decode cL_law 564 = .ok (.if_icmp .eq 51, 3) := by decide +kernel
theorem dL_law_567 : decode cL_law 567 = .ok (.iconst 0, 1) := by decide +kernel
theorem dL_law_568 : decode cL_law 568 = .ok (.ireturn, 1) := by decide +kernel
theorem dL_law_569 : decode cL_law 569 = .ok (.aload_n 1, 1) := by decide +kernel
theorem dL_law_570 : decode cL_law 570 = .ok (.aload_n 0, 1) := by decide +kernel
theorem dL_law_571 : decode cL_law 571 = .ok (.iload_n 3, 1) := by decide +kernel
theorem dL_law_572 : decode cL_law 572 = .ok (.iconst 1, 1) := by decide +kernel
theorem dL_law_573 : decode cL_law 573 = .ok (.iadd, 1) := by decide +kernel
theorem dL_law_574 : decode cL_law 574 = .ok (.iaload, 1) := by decide +kernel
theorem dL_law_575 : decode cL_law 575 = .ok (.invokevirtual 99, 3) := by decide +kernel
theorem dL_law_578 : decode cL_law 578 = .ok (.aload_n 2, 1) := by decide +kernel
theorem dL_law_579 : decode cL_law 579 = .ok (.aload_n 0, 1) := by decide +kernel
theorem dL_law_580 : decode cL_law 580 = .ok (.iload_n 3, 1) := by decide +kernel
theorem dL_law_581 : decode cL_law 581 = .ok (.iconst 1, 1) := by decide +kernel
theorem dL_law_582 : decode cL_law 582 = .ok (.iadd, 1) := by decide +kernel
theorem dL_law_583 : decode cL_law 583 = .ok (.iaload, 1) := by decide +kernel
theorem dL_law_584 : decode cL_law 584 = .ok (.invokevirtual 102, 3) := by decide +kernel
theorem dL_law_587 : decode cL_law 587 = .ok (.if_icmp .eq 28, 3) := by decide +kernel
theorem dL_law_590 : decode cL_law 590 = .ok (.iconst 0, 1) := by decide +kernel
theorem dL_law_591 : decode cL_law 591 = .ok (.ireturn, 1) := by decide +kernel
theorem dL_law_592 : decode cL_law 592 = .ok (.aload_n 1, 1) := by decide +kernel
theorem dL_law_593 : decode cL_law 593 = .ok (.aload_n 0, 1) := by decide +kernel
theorem dL_law_594 : decode cL_law 594 = .ok (.iload_n 3, 1) := by decide +kernel
theorem dL_law_595 : decode cL_law 595 = .ok (.iconst 1, 1) := by decide +kernel
theorem dL_law_596 : decode cL_law 596 = .ok (.iadd, 1) := by decide +kernel
theorem dL_law_597 : decode cL_law 597 = .ok (.iaload, 1) := by decide +kernel
theorem dL_law_598 : decode cL_law 598 = .ok (.invokevirtual 103, 3) := by decide +kernel
theorem dL_law_601 : decode cL_law 601 = .ok (.aload_n 2, 1) := by decide +kernel
theorem dL_law_602 : decode cL_law 602 = .ok (.aload_n 0, 1) := by decide +kernel
theorem dL_law_603 : decode cL_law 603 = .ok (.iload_n 3, 1) := by decide +kernel
theorem dL_law_604 : decode cL_law 604 = .ok (.iconst 1, 1) := by decide +kernel
theorem dL_law_605 : decode cL_law 605 = .ok (.iadd, 1) := by decide +kernel
theorem dL_law_606 : decode cL_law 606 = .ok (.iaload, 1) := by decide +kernel
theorem dL_law_607 : decode cL_law 607 = .ok (.invokevirtual 106, 3) := by decide +kernel
theorem dL_law_610 : decode cL_law 610 = .ok (.if_icmp .eq 5, 3) := by decide +kernel
theorem dL_law_613 : decode cL_law 613 = .ok (.iconst 0, 1) := by decide +kernel
theorem dL_law_614 : decode cL_law 614 = .ok (.ireturn, 1) := by decide +kernel
theorem dL_law_615 : decode cL_law 615 = .ok (.iinc 3 4, 3) := by decide +kernel
theorem dL_law_618 : decode cL_law 618 = .ok (.goto (-600), 3) := by decide +kernel
theorem dL_law_621 : decode cL_law 621 = .ok (.iconst 1, 1) := by decide +kernel
theorem dL_law_622 : decode cL_law 622 = .ok (.ireturn, 1) := by decide +kernel
end
section
/-! the one word list of all contracts -/
noncomputable def W0 : List Cond := lw_tbl.filter goodWord
theorem w0_mem {w : Cond} (h : w ∈ tables_1) (hg : goodWord w = true) : w ∈ W0 := List.mem_filter.mpr ⟨List.mem_append_right _ h, hg⟩
theorem w0_1 {w : Cond} {i : Nat} (h : tables_1_1[i]? = some w) (hg : goodWord w = true) : w ∈ W0 := w0_mem (List.mem_append_left _ (List.mem_of_getElem? h)) hg
theorem w0_2 {w : Cond} {i : Nat} (h : tables_1_2[i]? = some w) (hg : goodWord w = true) : w ∈ W0 := w0_mem (List.mem_append_right _ (List.mem_append_left _ (List.mem_of_getElem? h))) hg
theorem w0_3 {w : Cond} {i : Nat} (h : tables_1_3[i]? = some w) (hg : goodWord w = true) : w ∈ W0 := w0_mem (List.mem_append_right _ (List.mem_append_right _ (List.mem_append_left _ (List.mem_of_getElem? h)))) hg
theorem w0_4 {w : Cond} {i : Nat} (h : tables_1_4[i]? = some w) (hg : goodWord w = true) : w ∈ W0 := w0_mem (List.mem_append_right _ (List.mem_append_right _ (List.mem_append_right _ (List.mem_append_left _ (List.mem_of_getElem? h))))) hg
theorem w0_5 {w : Cond} {i : Nat} (h : tables_1_5[i]? = some w) (hg : goodWord w = true) : w ∈ W0 := w0_mem (List.mem_append_right _ (List.mem_append_right _ (List.mem_append_right _ (List.mem_append_right _ (List.mem_of_getElem? h))))) hg
theorem w0_sel {q : MethodName × Nat} (h : q ∈ lw_privs) : Cond.selects q.1.cls q.1 q.1 ∈ W0 := List.mem_filter.mpr ⟨List.mem_append_left _ (List.mem_map.mpr ⟨q, h, rfl⟩), rfl⟩
theorem w0_s1 {y : MethodName} {n i : Nat} {C : String} (h : lw_privs_1[i]? = some (y, n)) (hC : y.cls = C := by rfl) : Cond.selects C y y ∈ W0 := hC ▸ w0_sel (q := (y, n)) (List.mem_append_left _ (List.mem_of_getElem? h))
theorem w0_s2 {y : MethodName} {n i : Nat} {C : String} (h : lw_privs_2[i]? = some (y, n)) (hC : y.cls = C := by rfl) : Cond.selects C y y ∈ W0 := hC ▸ w0_sel (q := (y, n)) (List.mem_append_right _ (List.mem_append_left _ (List.mem_of_getElem? h)))
theorem w0_s3 {y : MethodName} {n i : Nat} {C : String} (h : lw_privs_3[i]? = some (y, n)) (hC : y.cls = C := by rfl) : Cond.selects C y y ∈ W0 := hC ▸ w0_sel (q := (y, n)) (List.mem_append_right _ (List.mem_append_right _ (List.mem_append_left _ (List.mem_of_getElem? h))))
theorem w0_s4 {y : MethodName} {n i : Nat} {C : String} (h : lw_privs_4[i]? = some (y, n)) (hC : y.cls = C := by rfl) : Cond.selects C y y ∈ W0 := hC ▸ w0_sel (q := (y, n)) (List.mem_append_right _ (List.mem_append_right _ (List.mem_append_right _ (List.mem_append_left _ (List.mem_of_getElem? h)))))
theorem w0_s5 {y : MethodName} {n i : Nat} {C : String} (h : lw_privs_5[i]? = some (y, n)) (hC : y.cls = C := by rfl) : Cond.selects C y y ∈ W0 := hC ▸ w0_sel (q := (y, n)) (List.mem_append_right _ (List.mem_append_right _ (List.mem_append_right _ (List.mem_append_right _ (List.mem_of_getElem? h)))))
theorem w0_tbl {w : Cond} (h : w ∈ W0) : w ∈ lw_tbl := (List.mem_filter.mp h).1
theorem w0_good {w : Cond} (h : w ∈ W0) : (w.onTables && w.keeps) = true ∨ ∃ ty, w = .arrayClass ty := good_of_word (List.mem_filter.mp h).2
theorem w0_all {ws : List Cond} (h : ws.all (fun w => decide (w ∈ tables_1) && goodWord w) = true) : ∀ w ∈ ws, w ∈ W0 := fun w hw => by
  have h1 := List.all_eq_true.mp h w hw
  simp only [Bool.and_eq_true, decide_eq_true_eq] at h1
  exact w0_mem h1.1 h1.2
theorem gV {own C : String} {idx m : Nat} {y : MethodName} {b : ByteArray} {r : Option FieldType} (h1 : Cond.methodLink own idx y ∈ W0) (h2 : Cond.instanceMethod y ∈ W0) (h3 : Cond.selects C y y ∈ W0) (h4 : Cond.initialized C ∈ W0) (h5 : Cond.code y b m r ∈ W0) : GoodIn W0 (wsV own idx C y (Cond.code y b m r :: W0)) := by
  intro w hw
  have hm : w ∈ W0 := by
    simp only [wsV, List.cons_append, List.nil_append, List.mem_cons] at hw
    rcases hw with rfl | rfl | rfl | rfl | rfl | h
    · exact h1
    · exact h2
    · exact h3
    · exact h4
    · exact h5
    · exact h
  exact ⟨hm, w0_good hm⟩
theorem gS {own : String} {idx m : Nat} {y : MethodName} {b : ByteArray} {r : Option FieldType} (h1 : Cond.methodLink own idx y ∈ W0) (h2 : Cond.static y ∈ W0) (h4 : Cond.initialized y.cls ∈ W0) (h5 : Cond.code y b m r ∈ W0) : GoodIn W0 (va_wsS own idx y (Cond.code y b m r :: W0)) := by
  intro w hw
  have hm : w ∈ W0 := by
    simp only [va_wsS, List.cons_append, List.nil_append, List.mem_cons] at hw
    rcases hw with rfl | rfl | rfl | rfl | h
    · exact h1
    · exact h2
    · exact h4
    · exact h5
    · exact h
  exact ⟨hm, w0_good hm⟩
theorem gN {m : Nat} {y : MethodName} {b : ByteArray} {r : Option FieldType} (h5 : Cond.code y b m r ∈ W0) : GoodIn W0 (Cond.code y b m r :: W0) := by
  intro w hw
  have hm : w ∈ W0 := by
    rcases List.mem_cons.mp hw with rfl | h
    · exact h5
    · exact h
  exact ⟨hm, w0_good hm⟩
theorem u_X0 : ∀ w ∈ u_ws RX0 TX0 3, w ∈ W0 := w0_all (by decide +kernel)
theorem u_X1 : ∀ w ∈ u_ws RX1 TX1 6, w ∈ W0 := w0_all (by decide +kernel)
theorem u_X2 : ∀ w ∈ u_ws RX2 TX2 3, w ∈ W0 := w0_all (by decide +kernel)
theorem u_X3 : ∀ w ∈ u_ws RX3 TX3 6, w ∈ W0 := w0_all (by decide +kernel)
theorem u_X4 : ∀ w ∈ u_ws RX4 TX4 14, w ∈ W0 := w0_all (by decide +kernel)
theorem u_X5 : ∀ w ∈ u_ws RX5 TX5 4, w ∈ W0 := w0_all (by decide +kernel)
theorem u_X6 : ∀ w ∈ u_ws RX6 TX6 5, w ∈ W0 := w0_all (by decide +kernel)
theorem u_X7 : ∀ w ∈ u_ws RX7 TX7 9, w ∈ W0 := w0_all (by decide +kernel)
theorem u_X8 : ∀ w ∈ u_ws RX8 TX8 29, w ∈ W0 := w0_all (by decide +kernel)
theorem q1_0 : Cond.initialized RL ∈ W0 := w0_1 (i := 0) rfl rfl
theorem q1_1 : Cond.initialized RX7 ∈ W0 := w0_1 (i := 1) rfl rfl
theorem q1_2 : Cond.initialized RX6 ∈ W0 := w0_1 (i := 2) rfl rfl
theorem q1_3 : Cond.initialized RX4 ∈ W0 := w0_1 (i := 3) rfl rfl
theorem q1_4 : Cond.initialized RX0 ∈ W0 := w0_1 (i := 4) rfl rfl
theorem q1_5 : Cond.initialized RX2 ∈ W0 := w0_1 (i := 5) rfl rfl
theorem q1_6 : Cond.initialized RX5 ∈ W0 := w0_1 (i := 6) rfl rfl
theorem q1_7 : Cond.initialized "java/lang/Math" ∈ W0 := w0_1 (i := 7) rfl rfl
theorem q1_8 : Cond.initialized RX3 ∈ W0 := w0_1 (i := 8) rfl rfl
theorem q1_9 : Cond.initialized RX1 ∈ W0 := w0_1 (i := 9) rfl rfl
theorem q1_10 : Cond.initialized RJ7 ∈ W0 := w0_1 (i := 10) rfl rfl
theorem q1_11 : Cond.initialized RX8 ∈ W0 := w0_1 (i := 11) rfl rfl
theorem q1_12 : Cond.initialized "java/lang/Number" ∈ W0 := w0_1 (i := 12) rfl rfl
theorem q1_13 : Cond.initialized RJ13 ∈ W0 := w0_1 (i := 13) rfl rfl
theorem q1_14 : Cond.initialized RJ6 ∈ W0 := w0_1 (i := 14) rfl rfl
theorem q1_15 : Cond.classLink RL 7 RX7 ∈ W0 := w0_1 (i := 15) rfl rfl
theorem q1_16 : Cond.instantiable RX7 9 ∈ W0 := w0_1 (i := 16) rfl rfl
theorem q1_17 : Cond.methodLink RL 9 yX7_init ∈ W0 := w0_1 (i := 17) rfl rfl
theorem q1_18 : Cond.instanceMethod yX7_init ∈ W0 := w0_1 (i := 18) rfl rfl
theorem q1_19 : Cond.code yX7_init cX7_init 1 none ∈ W0 := w0_1 (i := 19) rfl rfl
theorem q1_20 : Cond.methodLink RX7 1 objectInit ∈ W0 := w0_1 (i := 20) rfl rfl
theorem q1_21 : Cond.instanceMethod objectInit ∈ W0 := w0_1 (i := 21) rfl rfl
theorem q1_22 : Cond.code objectInit ⟨#[0xb1]⟩ 1 none ∈ W0 := w0_1 (i := 22) rfl rfl
theorem q1_23 : Cond.classLink RX7 7 RX6 ∈ W0 := w0_1 (i := 23) rfl rfl
theorem q1_24 : Cond.instantiable RX6 5 ∈ W0 := w0_1 (i := 24) rfl rfl
theorem q1_26 : Cond.instanceMethod yX6_init ∈ W0 := w0_1 (i := 26) rfl rfl
theorem q1_27 : Cond.code yX6_init cX6_init 1 none ∈ W0 := w0_1 (i := 27) rfl rfl
theorem q1_28 : Cond.methodLink RX6 3 objectInit ∈ W0 := w0_1 (i := 28) rfl rfl
theorem q1_29 : Cond.fieldLink RX6 11 "NumberedLoops$Text" "letters" "[I" ∈ W0 := w0_1 (i := 29) rfl rfl
theorem q1_30 : Cond.fieldLink RX6 15 "NumberedLoops$Text" "length" "I" ∈ W0 := w0_1 (i := 30) rfl rfl
theorem q1_31 : Cond.fieldLink RX7 79 "NumberedLoops$Text" "length" "I" ∈ W0 := w0_1 (i := 31) rfl rfl
theorem q1_32 : Cond.fieldLink RX6 19 "NumberedLoops$Text" "rows" "I" ∈ W0 := w0_1 (i := 32) rfl rfl
theorem q1_33 : Cond.fieldLink RX7 90 "NumberedLoops$Text" "rows" "I" ∈ W0 := w0_1 (i := 33) rfl rfl
theorem q1_34 : Cond.fieldLink RX6 22 "NumberedLoops$Text" "width" "I" ∈ W0 := w0_1 (i := 34) rfl rfl
theorem q1_35 : Cond.fieldLink RX7 87 "NumberedLoops$Text" "width" "I" ∈ W0 := w0_1 (i := 35) rfl rfl
theorem q1_36 : Cond.fieldLink RX6 25 "NumberedLoops$Text" "told" "J" ∈ W0 := w0_1 (i := 36) rfl rfl
theorem q1_37 : Cond.fieldLink RX7 93 "NumberedLoops$Text" "told" "J" ∈ W0 := w0_1 (i := 37) rfl rfl
theorem q1_49 : Cond.arrayClass .int ∈ W0 := w0_1 (i := 49) rfl rfl
theorem q1_50 : Cond.classLink RX7 16 RX4 ∈ W0 := w0_1 (i := 50) rfl rfl
theorem q1_51 : Cond.instantiable RX4 14 ∈ W0 := w0_1 (i := 51) rfl rfl
theorem q1_53 : Cond.instanceMethod yX4_init ∈ W0 := w0_1 (i := 53) rfl rfl
theorem q1_54 : Cond.code yX4_init cX4_init 1 none ∈ W0 := w0_1 (i := 54) rfl rfl
theorem q1_55 : Cond.methodLink RX4 3 objectInit ∈ W0 := w0_1 (i := 55) rfl rfl
theorem q1_56 : Cond.fieldLink RX4 9 "NumberedLoops$Shape" "width" "I" ∈ W0 := w0_1 (i := 56) rfl rfl
theorem q1_57 : Cond.fieldLink RX7 234 "NumberedLoops$Shape" "width" "I" ∈ W0 := w0_1 (i := 57) rfl rfl
theorem q1_58 : Cond.fieldLink RX4 15 "NumberedLoops$Shape" "height" "I" ∈ W0 := w0_1 (i := 58) rfl rfl
theorem q1_59 : Cond.fieldLink RX7 104 "NumberedLoops$Shape" "height" "I" ∈ W0 := w0_1 (i := 59) rfl rfl
theorem q1_60 : Cond.fieldLink RX4 18 "NumberedLoops$Shape" "cells" "I" ∈ W0 := w0_1 (i := 60) rfl rfl
theorem q1_61 : Cond.fieldLink RX1 39 "NumberedLoops$Shape" "cells" "I" ∈ W0 := w0_1 (i := 61) rfl rfl
theorem q1_62 : Cond.fieldLink RX3 33 "NumberedLoops$Shape" "cells" "I" ∈ W0 := w0_1 (i := 62) rfl rfl
theorem q1_63 : Cond.fieldLink RX7 203 "NumberedLoops$Shape" "cells" "I" ∈ W0 := w0_1 (i := 63) rfl rfl
theorem q1_64 : Cond.fieldLink RX4 21 "NumberedLoops$Shape" "points" "I" ∈ W0 := w0_1 (i := 64) rfl rfl
theorem q1_65 : Cond.fieldLink RX3 52 "NumberedLoops$Shape" "points" "I" ∈ W0 := w0_1 (i := 65) rfl rfl
theorem q1_66 : Cond.fieldLink RX4 24 "NumberedLoops$Shape" "sides" "I" ∈ W0 := w0_1 (i := 66) rfl rfl
theorem q1_67 : Cond.fieldLink RX3 62 "NumberedLoops$Shape" "sides" "I" ∈ W0 := w0_1 (i := 67) rfl rfl
theorem q1_68 : Cond.fieldLink RX7 215 "NumberedLoops$Shape" "sides" "I" ∈ W0 := w0_1 (i := 68) rfl rfl
theorem q1_69 : Cond.fieldLink RX4 27 "NumberedLoops$Shape" "cellSides" "[I" ∈ W0 := w0_1 (i := 69) rfl rfl
theorem q1_70 : Cond.fieldLink RX4 31 "NumberedLoops$Shape" "pointSides" "[I" ∈ W0 := w0_1 (i := 70) rfl rfl
theorem q1_71 : Cond.fieldLink RX4 34 "NumberedLoops$Shape" "hands" "[I" ∈ W0 := w0_1 (i := 71) rfl rfl
theorem q1_72 : Cond.fieldLink RX4 37 "NumberedLoops$Shape" "ends" "[I" ∈ W0 := w0_1 (i := 72) rfl rfl
theorem q1_73 : Cond.fieldLink RX4 40 "NumberedLoops$Shape" "round" "[J" ∈ W0 := w0_1 (i := 73) rfl rfl
theorem q1_74 : Cond.fieldLink RX4 44 "NumberedLoops$Shape" "meeting" "[J" ∈ W0 := w0_1 (i := 74) rfl rfl
theorem q1_75 : Cond.fieldLink RX4 47 "NumberedLoops$Shape" "besides" "[J" ∈ W0 := w0_1 (i := 75) rfl rfl
theorem q1_76 : Cond.fieldLink RX4 50 "NumberedLoops$Shape" "settled" "[J" ∈ W0 := w0_1 (i := 76) rfl rfl
theorem q1_77 : Cond.fieldLink RX4 53 "NumberedLoops$Shape" "corner" "[J" ∈ W0 := w0_1 (i := 77) rfl rfl
theorem q1_107 : Cond.arrayClass .long ∈ W0 := w0_1 (i := 107) rfl rfl
theorem q1_108 : Cond.classLink RX7 23 RX0 ∈ W0 := w0_1 (i := 108) rfl rfl
theorem q1_109 : Cond.instantiable RX0 3 ∈ W0 := w0_1 (i := 109) rfl rfl
theorem q1_111 : Cond.instanceMethod yX0_init ∈ W0 := w0_1 (i := 111) rfl rfl
theorem q1_112 : Cond.code yX0_init cX0_init 1 none ∈ W0 := w0_1 (i := 112) rfl rfl
theorem q1_113 : Cond.methodLink RX0 3 objectInit ∈ W0 := w0_1 (i := 113) rfl rfl
theorem q1_114 : Cond.fieldLink RX0 9 "NumberedLoops$Board" "lines" "J" ∈ W0 := w0_1 (i := 114) rfl rfl
theorem q1_115 : Cond.fieldLink RX5 35 "NumberedLoops$Board" "lines" "J" ∈ W0 := w0_1 (i := 115) rfl rfl
theorem q1_116 : Cond.fieldLink RX3 79 "NumberedLoops$Board" "lines" "J" ∈ W0 := w0_1 (i := 116) rfl rfl
theorem q1_117 : Cond.fieldLink RX7 206 "NumberedLoops$Board" "lines" "J" ∈ W0 := w0_1 (i := 117) rfl rfl
theorem q1_118 : Cond.fieldLink RX0 15 "NumberedLoops$Board" "blanks" "J" ∈ W0 := w0_1 (i := 118) rfl rfl
theorem q1_119 : Cond.fieldLink RX5 44 "NumberedLoops$Board" "blanks" "J" ∈ W0 := w0_1 (i := 119) rfl rfl
theorem q1_120 : Cond.fieldLink RX3 123 "NumberedLoops$Board" "blanks" "J" ∈ W0 := w0_1 (i := 120) rfl rfl
theorem q1_121 : Cond.fieldLink RX7 209 "NumberedLoops$Board" "blanks" "J" ∈ W0 := w0_1 (i := 121) rfl rfl
theorem q1_122 : Cond.fieldLink RX0 18 "NumberedLoops$Board" "numbers" "J" ∈ W0 := w0_1 (i := 122) rfl rfl
theorem q1_123 : Cond.fieldLink RX5 46 "NumberedLoops$Board" "numbers" "J" ∈ W0 := w0_1 (i := 123) rfl rfl
theorem q1_124 : Cond.fieldLink RX7 136 "NumberedLoops$Board" "numbers" "J" ∈ W0 := w0_1 (i := 124) rfl rfl
theorem q1_132 : Cond.classLink RX7 30 RX2 ∈ W0 := w0_1 (i := 132) rfl rfl
theorem q1_133 : Cond.instantiable RX2 3 ∈ W0 := w0_1 (i := 133) rfl rfl
theorem q1_135 : Cond.instanceMethod yX2_init ∈ W0 := w0_1 (i := 135) rfl rfl
theorem q1_136 : Cond.code yX2_init cX2_init 1 none ∈ W0 := w0_1 (i := 136) rfl rfl
theorem q1_137 : Cond.methodLink RX2 3 objectInit ∈ W0 := w0_1 (i := 137) rfl rfl
theorem q1_138 : Cond.classLink RX2 9 RX5 ∈ W0 := w0_1 (i := 138) rfl rfl
theorem q1_139 : Cond.instantiable RX5 4 ∈ W0 := w0_1 (i := 139) rfl rfl
theorem q1_140 : Cond.methodLink RX2 11 yX5_init ∈ W0 := w0_1 (i := 140) rfl rfl
theorem q1_141 : Cond.instanceMethod yX5_init ∈ W0 := w0_1 (i := 141) rfl rfl
theorem q1_142 : Cond.code yX5_init cX5_init 3 none ∈ W0 := w0_1 (i := 142) rfl rfl
theorem q1_143 : Cond.methodLink RX5 1 objectInit ∈ W0 := w0_1 (i := 143) rfl rfl
theorem q1_144 : Cond.methodLink RX5 7 yJ9_max_7cf53 ∈ W0 := w0_1 (i := 144) rfl rfl
theorem q1_145 : Cond.static yJ9_max_7cf53 ∈ W0 := w0_1 (i := 145) rfl rfl
theorem q1_146 : Cond.code yJ9_max_7cf53 Lib.Math.max.code 2 (some .int) ∈ W0 := w0_1 (i := 146) rfl rfl
theorem q1_147 : Cond.fieldLink RX5 13 "NumberedLoops$Shelf" "lines" "[J" ∈ W0 := w0_1 (i := 147) rfl rfl
theorem q1_148 : Cond.fieldLink RX5 19 "NumberedLoops$Shelf" "blanks" "[J" ∈ W0 := w0_1 (i := 148) rfl rfl
theorem q1_149 : Cond.fieldLink RX5 22 "NumberedLoops$Shelf" "numbers" "[J" ∈ W0 := w0_1 (i := 149) rfl rfl
theorem q1_150 : Cond.fieldLink RX5 25 "NumberedLoops$Shelf" "kept" "[I" ∈ W0 := w0_1 (i := 150) rfl rfl
theorem q1_160 : Cond.fieldLink RX2 14 "NumberedLoops$Past" "shelf" "LNumberedLoops$Shelf;" ∈ W0 := w0_1 (i := 160) rfl rfl
theorem q1_161 : Cond.fieldLink RX2 20 "NumberedLoops$Past" "next" "I" ∈ W0 := w0_1 (i := 161) rfl rfl
theorem q1_162 : Cond.fieldLink RX2 24 "NumberedLoops$Past" "size" "I" ∈ W0 := w0_1 (i := 162) rfl rfl
theorem q1_163 : Cond.fieldLink RX7 156 "NumberedLoops$Past" "size" "I" ∈ W0 := w0_1 (i := 163) rfl rfl
theorem q1_171 : Cond.classLink RX7 37 RX5 ∈ W0 := w0_1 (i := 171) rfl rfl
theorem q1_172 : Cond.methodLink RX7 39 yX5_init ∈ W0 := w0_1 (i := 172) rfl rfl
theorem q1_173 : Cond.classLink RX7 46 RX3 ∈ W0 := w0_1 (i := 173) rfl rfl
theorem q1_174 : Cond.instantiable RX3 6 ∈ W0 := w0_1 (i := 174) rfl rfl
theorem q1_175 : Cond.methodLink RX7 48 yX3_init ∈ W0 := w0_1 (i := 175) rfl rfl
theorem q1_176 : Cond.instanceMethod yX3_init ∈ W0 := w0_1 (i := 176) rfl rfl
theorem q1_177 : Cond.code yX3_init cX3_init 3 none ∈ W0 := w0_1 (i := 177) rfl rfl
theorem q1_178 : Cond.methodLink RX3 3 objectInit ∈ W0 := w0_1 (i := 178) rfl rfl
theorem q1_179 : Cond.fieldLink RX3 25 "NumberedLoops$Rules" "shape" "LNumberedLoops$Shape;" ∈ W0 := w0_1 (i := 179) rfl rfl
theorem q1_180 : Cond.fieldLink RX3 29 "NumberedLoops$Rules" "board" "LNumberedLoops$Board;" ∈ W0 := w0_1 (i := 180) rfl rfl
theorem q1_181 : Cond.fieldLink RX3 11 "NumberedLoops$Rules" "kind" "I" ∈ W0 := w0_1 (i := 181) rfl rfl
theorem q1_182 : Cond.fieldLink RX7 146 "NumberedLoops$Rules" "kind" "I" ∈ W0 := w0_1 (i := 182) rfl rfl
theorem q1_183 : Cond.fieldLink RX3 15 "NumberedLoops$Rules" "rule" "I" ∈ W0 := w0_1 (i := 183) rfl rfl
theorem q1_184 : Cond.fieldLink RX7 163 "NumberedLoops$Rules" "rule" "I" ∈ W0 := w0_1 (i := 184) rfl rfl
theorem q1_185 : Cond.fieldLink RX3 18 "NumberedLoops$Rules" "place" "I" ∈ W0 := w0_1 (i := 185) rfl rfl
theorem q1_186 : Cond.fieldLink RX7 166 "NumberedLoops$Rules" "place" "I" ∈ W0 := w0_1 (i := 186) rfl rfl
theorem q1_187 : Cond.fieldLink RX3 21 "NumberedLoops$Rules" "told" "J" ∈ W0 := w0_1 (i := 187) rfl rfl
theorem q1_188 : Cond.fieldLink RX7 169 "NumberedLoops$Rules" "told" "J" ∈ W0 := w0_1 (i := 188) rfl rfl
theorem q1_202 : Cond.classLink RX7 55 RX1 ∈ W0 := w0_1 (i := 202) rfl rfl
theorem q1_203 : Cond.instantiable RX1 6 ∈ W0 := w0_1 (i := 203) rfl rfl
theorem q1_204 : Cond.methodLink RX7 57 yX1_init ∈ W0 := w0_1 (i := 204) rfl rfl
theorem q1_205 : Cond.instanceMethod yX1_init ∈ W0 := w0_1 (i := 205) rfl rfl
theorem q1_206 : Cond.code yX1_init cX1_init 3 none ∈ W0 := w0_1 (i := 206) rfl rfl
theorem q1_207 : Cond.methodLink RX1 3 objectInit ∈ W0 := w0_1 (i := 207) rfl rfl
theorem q1_208 : Cond.methodLink RX1 29 yJ9_max_7cf53 ∈ W0 := w0_1 (i := 208) rfl rfl
theorem q1_209 : Cond.fieldLink RX1 25 "NumberedLoops$Loops" "shape" "LNumberedLoops$Shape;" ∈ W0 := w0_1 (i := 209) rfl rfl
theorem q1_210 : Cond.fieldLink RX1 35 "NumberedLoops$Loops" "rings" "[J" ∈ W0 := w0_1 (i := 210) rfl rfl
theorem q1_211 : Cond.fieldLink RX1 9 "NumberedLoops$Loops" "lines" "J" ∈ W0 := w0_1 (i := 211) rfl rfl
theorem q1_212 : Cond.fieldLink RX1 15 "NumberedLoops$Loops" "blanks" "J" ∈ W0 := w0_1 (i := 212) rfl rfl
theorem q1_213 : Cond.fieldLink RX1 18 "NumberedLoops$Loops" "numbers" "J" ∈ W0 := w0_1 (i := 213) rfl rfl
theorem q1_214 : Cond.fieldLink RX1 21 "NumberedLoops$Loops" "size" "I" ∈ W0 := w0_1 (i := 214) rfl rfl
theorem q1_215 : Cond.fieldLink RX7 179 "NumberedLoops$Loops" "size" "I" ∈ W0 := w0_1 (i := 215) rfl rfl
theorem q1_229 : Cond.methodLink RX7 71 yX4_become ∈ W0 := w0_1 (i := 229) rfl rfl
theorem q1_230 : Cond.instanceMethod yX4_become ∈ W0 := w0_1 (i := 230) rfl rfl
theorem q1_231 : Cond.selects RX4 yX4_become yX4_become ∈ W0 := w0_1 (i := 231) rfl rfl
theorem q1_232 : Cond.code yX4_become cX4_become 3 none ∈ W0 := w0_1 (i := 232) rfl rfl
theorem q1_233 : Cond.methodLink RX4 56 yJ7_fill_53178 ∈ W0 := w0_1 (i := 233) rfl rfl
theorem q1_234 : Cond.static yJ7_fill_53178 ∈ W0 := w0_1 (i := 234) rfl rfl
theorem q1_235 : Cond.code yJ7_fill_53178 cJ7_fill_53178 4 none ∈ W0 := w0_1 (i := 235) rfl rfl
theorem q1_236 : Cond.methodLink RX4 62 yJ7_fill_d0a16 ∈ W0 := w0_1 (i := 236) rfl rfl
theorem q1_237 : Cond.static yJ7_fill_d0a16 ∈ W0 := w0_1 (i := 237) rfl rfl
theorem q1_238 : Cond.code yJ7_fill_d0a16 cJ7_fill_d0a16 5 none ∈ W0 := w0_1 (i := 238) rfl rfl
theorem q1_239 : Cond.methodLink RX4 65 yX4_layCells ∈ W0 := w0_1 (i := 239) rfl rfl
theorem q2_1 : Cond.instanceMethod yX4_layCells ∈ W0 := w0_2 (i := 1) rfl rfl
theorem q2_2 : Cond.code yX4_layCells cX4_layCells 4 none ∈ W0 := w0_2 (i := 2) rfl rfl
theorem q2_3 : Cond.methodLink RX4 80 yX4_lying ∈ W0 := w0_2 (i := 3) rfl rfl
theorem q2_5 : Cond.instanceMethod yX4_lying ∈ W0 := w0_2 (i := 5) rfl rfl
theorem q2_6 : Cond.code yX4_lying cX4_lying 3 (some .int) ∈ W0 := w0_2 (i := 6) rfl rfl
theorem q2_7 : Cond.methodLink RX4 84 yX4_layCellSide ∈ W0 := w0_2 (i := 7) rfl rfl
theorem q2_9 : Cond.instanceMethod yX4_layCellSide ∈ W0 := w0_2 (i := 9) rfl rfl
theorem q2_10 : Cond.code yX4_layCellSide cX4_layCellSide 4 none ∈ W0 := w0_2 (i := 10) rfl rfl
theorem q2_12 : Cond.static yX7_put ∈ W0 := w0_2 (i := 12) rfl rfl
theorem q2_13 : Cond.code yX7_put cX7_put 3 none ∈ W0 := w0_2 (i := 13) rfl rfl
theorem q2_14 : Cond.methodLink RX4 94 yX4_roundCell ∈ W0 := w0_2 (i := 14) rfl rfl
theorem q2_15 : Cond.instanceMethod yX4_roundCell ∈ W0 := w0_2 (i := 15) rfl rfl
theorem q2_16 : Cond.selects RX4 yX4_roundCell yX4_roundCell ∈ W0 := w0_2 (i := 16) rfl rfl
theorem q2_17 : Cond.code yX4_roundCell cX4_roundCell 2 (some .long) ∈ W0 := w0_2 (i := 17) rfl rfl
theorem q2_19 : Cond.static yX7_bit ∈ W0 := w0_2 (i := 19) rfl rfl
theorem q2_20 : Cond.code yX7_bit cX7_bit 1 (some .long) ∈ W0 := w0_2 (i := 20) rfl rfl
theorem q2_22 : Cond.static yX7_put_ ∈ W0 := w0_2 (i := 22) rfl rfl
theorem q2_23 : Cond.code yX7_put_ cX7_put_ 4 none ∈ W0 := w0_2 (i := 23) rfl rfl
theorem q2_24 : Cond.methodLink RX4 111 yX4_firstOrSecond ∈ W0 := w0_2 (i := 24) rfl rfl
theorem q2_25 : Cond.static yX4_firstOrSecond ∈ W0 := w0_2 (i := 25) rfl rfl
theorem q2_26 : Cond.code yX4_firstOrSecond cX4_firstOrSecond 1 (some .int) ∈ W0 := w0_2 (i := 26) rfl rfl
theorem q2_27 : Cond.methodLink RX4 88 yX4_standing ∈ W0 := w0_2 (i := 27) rfl rfl
theorem q2_29 : Cond.instanceMethod yX4_standing ∈ W0 := w0_2 (i := 29) rfl rfl
theorem q2_30 : Cond.code yX4_standing cX4_standing 3 (some .int) ∈ W0 := w0_2 (i := 30) rfl rfl
theorem q2_31 : Cond.methodLink RX4 91 yX4_hand ∈ W0 := w0_2 (i := 31) rfl rfl
theorem q2_32 : Cond.instanceMethod yX4_hand ∈ W0 := w0_2 (i := 32) rfl rfl
theorem q2_33 : Cond.selects RX4 yX4_hand yX4_hand ∈ W0 := w0_2 (i := 33) rfl rfl
theorem q2_34 : Cond.code yX4_hand cX4_hand 3 (some .int) ∈ W0 := w0_2 (i := 34) rfl rfl
theorem q2_36 : Cond.static yX7_at ∈ W0 := w0_2 (i := 36) rfl rfl
theorem q2_37 : Cond.code yX7_at cX7_at 2 (some .int) ∈ W0 := w0_2 (i := 37) rfl rfl
theorem q2_38 : Cond.methodLink RX4 68 yX4_layPoints ∈ W0 := w0_2 (i := 38) rfl rfl
theorem q2_40 : Cond.instanceMethod yX4_layPoints ∈ W0 := w0_2 (i := 40) rfl rfl
theorem q2_41 : Cond.code yX4_layPoints cX4_layPoints 4 none ∈ W0 := w0_2 (i := 41) rfl rfl
theorem q2_42 : Cond.methodLink RX4 105 yX4_layPointSide ∈ W0 := w0_2 (i := 42) rfl rfl
theorem q2_44 : Cond.instanceMethod yX4_layPointSide ∈ W0 := w0_2 (i := 44) rfl rfl
theorem q2_45 : Cond.code yX4_layPointSide cX4_layPointSide 4 none ∈ W0 := w0_2 (i := 45) rfl rfl
theorem q2_46 : Cond.methodLink RX4 115 yX4_atPoint ∈ W0 := w0_2 (i := 46) rfl rfl
theorem q2_47 : Cond.instanceMethod yX4_atPoint ∈ W0 := w0_2 (i := 47) rfl rfl
theorem q2_48 : Cond.selects RX4 yX4_atPoint yX4_atPoint ∈ W0 := w0_2 (i := 48) rfl rfl
theorem q2_49 : Cond.code yX4_atPoint cX4_atPoint 2 (some .long) ∈ W0 := w0_2 (i := 49) rfl rfl
theorem q2_50 : Cond.methodLink RX4 71 yX4_layBesides ∈ W0 := w0_2 (i := 50) rfl rfl
theorem q2_52 : Cond.instanceMethod yX4_layBesides ∈ W0 := w0_2 (i := 52) rfl rfl
theorem q2_53 : Cond.code yX4_layBesides cX4_layBesides 2 none ∈ W0 := w0_2 (i := 53) rfl rfl
theorem q2_54 : Cond.methodLink RX4 118 yX4_end ∈ W0 := w0_2 (i := 54) rfl rfl
theorem q2_55 : Cond.instanceMethod yX4_end ∈ W0 := w0_2 (i := 55) rfl rfl
theorem q2_56 : Cond.selects RX4 yX4_end yX4_end ∈ W0 := w0_2 (i := 56) rfl rfl
theorem q2_57 : Cond.code yX4_end cX4_end 3 (some .int) ∈ W0 := w0_2 (i := 57) rfl rfl
theorem q2_58 : Cond.methodLink RX4 74 yX4_laySettled ∈ W0 := w0_2 (i := 58) rfl rfl
theorem q2_60 : Cond.instanceMethod yX4_laySettled ∈ W0 := w0_2 (i := 60) rfl rfl
theorem q2_61 : Cond.code yX4_laySettled cX4_laySettled 4 none ∈ W0 := w0_2 (i := 61) rfl rfl
theorem q2_62 : Cond.methodLink RX4 121 yJ9_min_7cf53 ∈ W0 := w0_2 (i := 62) rfl rfl
theorem q2_63 : Cond.static yJ9_min_7cf53 ∈ W0 := w0_2 (i := 63) rfl rfl
theorem q2_64 : Cond.code yJ9_min_7cf53 Lib.Math.min.code 2 (some .int) ∈ W0 := w0_2 (i := 64) rfl rfl
theorem q2_65 : Cond.methodLink RX4 126 yX4_settledFrom ∈ W0 := w0_2 (i := 65) rfl rfl
theorem q2_66 : Cond.instanceMethod yX4_settledFrom ∈ W0 := w0_2 (i := 66) rfl rfl
theorem q2_67 : Cond.selects RX4 yX4_settledFrom yX4_settledFrom ∈ W0 := w0_2 (i := 67) rfl rfl
theorem q2_68 : Cond.code yX4_settledFrom cX4_settledFrom 2 (some .long) ∈ W0 := w0_2 (i := 68) rfl rfl
theorem q2_69 : Cond.methodLink RX4 77 yX4_layCorners ∈ W0 := w0_2 (i := 69) rfl rfl
theorem q2_71 : Cond.instanceMethod yX4_layCorners ∈ W0 := w0_2 (i := 71) rfl rfl
theorem q2_72 : Cond.code yX4_layCorners cX4_layCorners 2 none ∈ W0 := w0_2 (i := 72) rfl rfl
theorem q2_73 : Cond.methodLink RX4 129 yX4_sideOfCell ∈ W0 := w0_2 (i := 73) rfl rfl
theorem q2_74 : Cond.instanceMethod yX4_sideOfCell ∈ W0 := w0_2 (i := 74) rfl rfl
theorem q2_75 : Cond.selects RX4 yX4_sideOfCell yX4_sideOfCell ∈ W0 := w0_2 (i := 75) rfl rfl
theorem q2_76 : Cond.code yX4_sideOfCell cX4_sideOfCell 3 (some .int) ∈ W0 := w0_2 (i := 76) rfl rfl
theorem q2_77 : Cond.fieldLink RX7 10 "NumberedLoops" "text" "LNumberedLoops$Text;" ∈ W0 := w0_2 (i := 77) rfl rfl
theorem q2_78 : Cond.fieldLink RX7 19 "NumberedLoops" "shape" "LNumberedLoops$Shape;" ∈ W0 := w0_2 (i := 78) rfl rfl
theorem q2_79 : Cond.fieldLink RX7 26 "NumberedLoops" "board" "LNumberedLoops$Board;" ∈ W0 := w0_2 (i := 79) rfl rfl
theorem q2_80 : Cond.fieldLink RX7 33 "NumberedLoops" "past" "LNumberedLoops$Past;" ∈ W0 := w0_2 (i := 80) rfl rfl
theorem q2_81 : Cond.fieldLink RX7 42 "NumberedLoops" "images" "LNumberedLoops$Shelf;" ∈ W0 := w0_2 (i := 81) rfl rfl
theorem q2_82 : Cond.fieldLink RX7 51 "NumberedLoops" "rules" "LNumberedLoops$Rules;" ∈ W0 := w0_2 (i := 82) rfl rfl
theorem q2_83 : Cond.fieldLink RX7 60 "NumberedLoops" "loops" "LNumberedLoops$Loops;" ∈ W0 := w0_2 (i := 83) rfl rfl
theorem q2_84 : Cond.fieldLink RX7 64 "NumberedLoops" "probe" "LNumberedLoops$Loops;" ∈ W0 := w0_2 (i := 84) rfl rfl
theorem q2_85 : Cond.fieldLink RX7 67 "NumberedLoops" "searched" "Z" ∈ W0 := w0_2 (i := 85) rfl rfl
theorem q2_105 : Cond.methodLink RL 13 yX7_type ∈ W0 := w0_2 (i := 105) rfl rfl
theorem q2_106 : Cond.instanceMethod yX7_type ∈ W0 := w0_2 (i := 106) rfl rfl
theorem q2_107 : Cond.selects RX7 yX7_type yX7_type ∈ W0 := w0_2 (i := 107) rfl rfl
theorem q2_108 : Cond.code yX7_type cX7_type 2 (some .int) ∈ W0 := w0_2 (i := 108) rfl rfl
theorem q2_109 : Cond.methodLink RX7 75 yX6_takes ∈ W0 := w0_2 (i := 109) rfl rfl
theorem q2_110 : Cond.instanceMethod yX6_takes ∈ W0 := w0_2 (i := 110) rfl rfl
theorem q2_111 : Cond.selects RX6 yX6_takes yX6_takes ∈ W0 := w0_2 (i := 111) rfl rfl
theorem q2_112 : Cond.code yX6_takes cX6_takes 2 (some .boolean) ∈ W0 := w0_2 (i := 112) rfl rfl
theorem q2_113 : Cond.methodLink RL 18 yX7_clear ∈ W0 := w0_2 (i := 113) rfl rfl
theorem q2_114 : Cond.instanceMethod yX7_clear ∈ W0 := w0_2 (i := 114) rfl rfl
theorem q2_115 : Cond.selects RX7 yX7_clear yX7_clear ∈ W0 := w0_2 (i := 115) rfl rfl
theorem q2_116 : Cond.code yX7_clear cX7_clear 2 (some .int) ∈ W0 := w0_2 (i := 116) rfl rfl
theorem q2_117 : Cond.methodLink RL 23 yX7_grid ∈ W0 := w0_2 (i := 117) rfl rfl
theorem q2_118 : Cond.instanceMethod yX7_grid ∈ W0 := w0_2 (i := 118) rfl rfl
theorem q2_119 : Cond.selects RX7 yX7_grid yX7_grid ∈ W0 := w0_2 (i := 119) rfl rfl
theorem q2_120 : Cond.code yX7_grid cX7_grid 2 (some .int) ∈ W0 := w0_2 (i := 120) rfl rfl
theorem q2_121 : Cond.methodLink RX7 83 yX6_read ∈ W0 := w0_2 (i := 121) rfl rfl
theorem q2_122 : Cond.instanceMethod yX6_read ∈ W0 := w0_2 (i := 122) rfl rfl
theorem q2_123 : Cond.selects RX6 yX6_read yX6_read ∈ W0 := w0_2 (i := 123) rfl rfl
theorem q2_124 : Cond.code yX6_read cX6_read 6 (some .int) ∈ W0 := w0_2 (i := 124) rfl rfl
theorem q2_126 : Cond.methodLink RX6 33 yX6_numberOfSign ∈ W0 := w0_2 (i := 126) rfl rfl
theorem q2_127 : Cond.static yX6_numberOfSign ∈ W0 := w0_2 (i := 127) rfl rfl
theorem q2_128 : Cond.code yX6_numberOfSign cX6_numberOfSign 1 (some .int) ∈ W0 := w0_2 (i := 128) rfl rfl
theorem q2_129 : Cond.methodLink RX6 37 yX6_endsRow ∈ W0 := w0_2 (i := 129) rfl rfl
theorem q2_131 : Cond.instanceMethod yX6_endsRow ∈ W0 := w0_2 (i := 131) rfl rfl
theorem q2_132 : Cond.code yX6_endsRow cX6_endsRow 2 (some .boolean) ∈ W0 := w0_2 (i := 132) rfl rfl
theorem q2_133 : Cond.methodLink RX6 41 yX6_fitsRow ∈ W0 := w0_2 (i := 133) rfl rfl
theorem q2_135 : Cond.instanceMethod yX6_fitsRow ∈ W0 := w0_2 (i := 135) rfl rfl
theorem q2_136 : Cond.code yX6_fitsRow cX6_fitsRow 2 (some .boolean) ∈ W0 := w0_2 (i := 136) rfl rfl
theorem q2_137 : Cond.methodLink RX6 44 yX0_withNumber ∈ W0 := w0_2 (i := 137) rfl rfl
theorem q2_138 : Cond.static yX0_withNumber ∈ W0 := w0_2 (i := 138) rfl rfl
theorem q2_139 : Cond.code yX0_withNumber cX0_withNumber 6 (some .long) ∈ W0 := w0_2 (i := 139) rfl rfl
theorem q2_140 : Cond.constantLong RX0 31 (15) ∈ W0 := w0_2 (i := 140) rfl rfl
theorem q2_141 : Cond.constantLong RX0 25 (-1) ∈ W0 := w0_2 (i := 141) rfl rfl
theorem q2_142 : Cond.methodLink RX7 97 yX0_become ∈ W0 := w0_2 (i := 142) rfl rfl
theorem q2_143 : Cond.instanceMethod yX0_become ∈ W0 := w0_2 (i := 143) rfl rfl
theorem q2_144 : Cond.selects RX0 yX0_become yX0_become ∈ W0 := w0_2 (i := 144) rfl rfl
theorem q2_145 : Cond.code yX0_become cX0_become 7 none ∈ W0 := w0_2 (i := 145) rfl rfl
theorem q2_146 : Cond.methodLink RX7 100 yX2_forget ∈ W0 := w0_2 (i := 146) rfl rfl
theorem q2_147 : Cond.instanceMethod yX2_forget ∈ W0 := w0_2 (i := 147) rfl rfl
theorem q2_148 : Cond.selects RX2 yX2_forget yX2_forget ∈ W0 := w0_2 (i := 148) rfl rfl
theorem q2_149 : Cond.code yX2_forget cX2_forget 1 none ∈ W0 := w0_2 (i := 149) rfl rfl
theorem q2_150 : Cond.methodLink RX7 103 yX5_forget ∈ W0 := w0_2 (i := 150) rfl rfl
theorem q2_151 : Cond.instanceMethod yX5_forget ∈ W0 := w0_2 (i := 151) rfl rfl
theorem q2_152 : Cond.selects RX5 yX5_forget yX5_forget ∈ W0 := w0_2 (i := 152) rfl rfl
theorem q2_153 : Cond.code yX5_forget cX5_forget 1 none ∈ W0 := w0_2 (i := 153) rfl rfl
theorem q2_154 : Cond.methodLink RX5 58 yJ7_fill_53178 ∈ W0 := w0_2 (i := 154) rfl rfl
theorem q2_155 : Cond.methodLink RL 27 yX7_number ∈ W0 := w0_2 (i := 155) rfl rfl
theorem q2_156 : Cond.instanceMethod yX7_number ∈ W0 := w0_2 (i := 156) rfl rfl
theorem q2_157 : Cond.selects RX7 yX7_number yX7_number ∈ W0 := w0_2 (i := 157) rfl rfl
theorem q2_158 : Cond.code yX7_number cX7_number 3 (some .int) ∈ W0 := w0_2 (i := 158) rfl rfl
theorem q2_159 : Cond.methodLink RX7 107 yX4_hasCell ∈ W0 := w0_2 (i := 159) rfl rfl
theorem q2_160 : Cond.instanceMethod yX4_hasCell ∈ W0 := w0_2 (i := 160) rfl rfl
theorem q2_161 : Cond.selects RX4 yX4_hasCell yX4_hasCell ∈ W0 := w0_2 (i := 161) rfl rfl
theorem q2_162 : Cond.code yX4_hasCell cX4_hasCell 2 (some .boolean) ∈ W0 := w0_2 (i := 162) rfl rfl
theorem q2_163 : Cond.methodLink RX7 110 yX0_numberOf ∈ W0 := w0_2 (i := 163) rfl rfl
theorem q2_164 : Cond.instanceMethod yX0_numberOf ∈ W0 := w0_2 (i := 164) rfl rfl
theorem q2_165 : Cond.selects RX0 yX0_numberOf yX0_numberOf ∈ W0 := w0_2 (i := 165) rfl rfl
theorem q2_166 : Cond.code yX0_numberOf cX0_numberOf 2 (some .int) ∈ W0 := w0_2 (i := 166) rfl rfl
theorem q2_167 : Cond.methodLink RX0 27 yX0_numberIn ∈ W0 := w0_2 (i := 167) rfl rfl
theorem q2_168 : Cond.static yX0_numberIn ∈ W0 := w0_2 (i := 168) rfl rfl
theorem q2_169 : Cond.code yX0_numberIn cX0_numberIn 3 (some .int) ∈ W0 := w0_2 (i := 169) rfl rfl
theorem q2_170 : Cond.methodLink RL 31 yX7_side ∈ W0 := w0_2 (i := 170) rfl rfl
theorem q2_171 : Cond.instanceMethod yX7_side ∈ W0 := w0_2 (i := 171) rfl rfl
theorem q2_172 : Cond.selects RX7 yX7_side yX7_side ∈ W0 := w0_2 (i := 172) rfl rfl
theorem q2_173 : Cond.code yX7_side cX7_side 2 (some .int) ∈ W0 := w0_2 (i := 173) rfl rfl
theorem q2_174 : Cond.methodLink RX7 114 yX4_hasSide ∈ W0 := w0_2 (i := 174) rfl rfl
theorem q2_175 : Cond.instanceMethod yX4_hasSide ∈ W0 := w0_2 (i := 175) rfl rfl
theorem q2_176 : Cond.selects RX4 yX4_hasSide yX4_hasSide ∈ W0 := w0_2 (i := 176) rfl rfl
theorem q2_177 : Cond.code yX4_hasSide cX4_hasSide 2 (some .boolean) ∈ W0 := w0_2 (i := 177) rfl rfl
theorem q2_178 : Cond.methodLink RX7 117 yX0_stateOf ∈ W0 := w0_2 (i := 178) rfl rfl
theorem q2_179 : Cond.instanceMethod yX0_stateOf ∈ W0 := w0_2 (i := 179) rfl rfl
theorem q2_180 : Cond.selects RX0 yX0_stateOf yX0_stateOf ∈ W0 := w0_2 (i := 180) rfl rfl
theorem q2_181 : Cond.code yX0_stateOf cX0_stateOf 2 (some .int) ∈ W0 := w0_2 (i := 181) rfl rfl
theorem q2_183 : Cond.methodLink RL 35 yX7_sideOf ∈ W0 := w0_2 (i := 183) rfl rfl
theorem q2_184 : Cond.instanceMethod yX7_sideOf ∈ W0 := w0_2 (i := 184) rfl rfl
theorem q2_185 : Cond.selects RX7 yX7_sideOf yX7_sideOf ∈ W0 := w0_2 (i := 185) rfl rfl
theorem q2_186 : Cond.code yX7_sideOf cX7_sideOf 4 (some .int) ∈ W0 := w0_2 (i := 186) rfl rfl
theorem q2_187 : Cond.methodLink RX7 120 yX4_sideOfCell ∈ W0 := w0_2 (i := 187) rfl rfl
theorem q2_188 : Cond.methodLink RX7 124 yX4_hasPoint ∈ W0 := w0_2 (i := 188) rfl rfl
theorem q2_189 : Cond.instanceMethod yX4_hasPoint ∈ W0 := w0_2 (i := 189) rfl rfl
theorem q2_190 : Cond.selects RX4 yX4_hasPoint yX4_hasPoint ∈ W0 := w0_2 (i := 190) rfl rfl
theorem q2_191 : Cond.code yX4_hasPoint cX4_hasPoint 2 (some .boolean) ∈ W0 := w0_2 (i := 191) rfl rfl
theorem q2_192 : Cond.methodLink RX7 127 yX4_sideOfPoint ∈ W0 := w0_2 (i := 192) rfl rfl
theorem q2_193 : Cond.instanceMethod yX4_sideOfPoint ∈ W0 := w0_2 (i := 193) rfl rfl
theorem q2_194 : Cond.selects RX4 yX4_sideOfPoint yX4_sideOfPoint ∈ W0 := w0_2 (i := 194) rfl rfl
theorem q2_195 : Cond.code yX4_sideOfPoint cX4_sideOfPoint 3 (some .int) ∈ W0 := w0_2 (i := 195) rfl rfl
theorem q2_196 : Cond.methodLink RL 40 yX7_marks ∈ W0 := w0_2 (i := 196) rfl rfl
theorem q2_197 : Cond.instanceMethod yX7_marks ∈ W0 := w0_2 (i := 197) rfl rfl
theorem q2_198 : Cond.selects RX7 yX7_marks yX7_marks ∈ W0 := w0_2 (i := 198) rfl rfl
theorem q2_199 : Cond.code yX7_marks cX7_marks 4 (some .int) ∈ W0 := w0_2 (i := 199) rfl rfl
theorem q2_200 : Cond.methodLink RX7 130 yX7_beforeChange ∈ W0 := w0_2 (i := 200) rfl rfl
theorem q2_202 : Cond.instanceMethod yX7_beforeChange ∈ W0 := w0_2 (i := 202) rfl rfl
theorem q2_203 : Cond.code yX7_beforeChange cX7_beforeChange 1 none ∈ W0 := w0_2 (i := 203) rfl rfl
theorem q2_204 : Cond.methodLink RX7 238 yX2_remember ∈ W0 := w0_2 (i := 204) rfl rfl
theorem q2_205 : Cond.instanceMethod yX2_remember ∈ W0 := w0_2 (i := 205) rfl rfl
theorem q2_206 : Cond.selects RX2 yX2_remember yX2_remember ∈ W0 := w0_2 (i := 206) rfl rfl
theorem q2_207 : Cond.code yX2_remember cX2_remember 2 none ∈ W0 := w0_2 (i := 207) rfl rfl
theorem q2_208 : Cond.methodLink RX2 27 yX5_store ∈ W0 := w0_2 (i := 208) rfl rfl
theorem q2_209 : Cond.instanceMethod yX5_store ∈ W0 := w0_2 (i := 209) rfl rfl
theorem q2_210 : Cond.selects RX5 yX5_store yX5_store ∈ W0 := w0_2 (i := 210) rfl rfl
theorem q2_211 : Cond.code yX5_store cX5_store 3 none ∈ W0 := w0_2 (i := 211) rfl rfl
theorem q2_214 : Cond.methodLink RX2 31 yJ9_min_7cf53 ∈ W0 := w0_2 (i := 214) rfl rfl
theorem q2_215 : Cond.methodLink RX7 133 yX0_mark ∈ W0 := w0_2 (i := 215) rfl rfl
theorem q2_216 : Cond.instanceMethod yX0_mark ∈ W0 := w0_2 (i := 216) rfl rfl
theorem q2_217 : Cond.selects RX0 yX0_mark yX0_mark ∈ W0 := w0_2 (i := 217) rfl rfl
theorem q2_218 : Cond.code yX0_mark cX0_mark 3 none ∈ W0 := w0_2 (i := 218) rfl rfl
theorem q2_219 : Cond.methodLink RL 45 yX7_numbers ∈ W0 := w0_2 (i := 219) rfl rfl
theorem q2_220 : Cond.instanceMethod yX7_numbers ∈ W0 := w0_2 (i := 220) rfl rfl
theorem q2_221 : Cond.selects RX7 yX7_numbers yX7_numbers ∈ W0 := w0_2 (i := 221) rfl rfl
theorem q2_222 : Cond.code yX7_numbers cX7_numbers 3 (some .int) ∈ W0 := w0_2 (i := 222) rfl rfl
theorem q2_223 : Cond.methodLink RX7 139 yX0_withNumber ∈ W0 := w0_2 (i := 223) rfl rfl
theorem q2_224 : Cond.methodLink RL 49 yX7_step ∈ W0 := w0_2 (i := 224) rfl rfl
theorem q2_225 : Cond.instanceMethod yX7_step ∈ W0 := w0_2 (i := 225) rfl rfl
theorem q2_226 : Cond.selects RX7 yX7_step yX7_step ∈ W0 := w0_2 (i := 226) rfl rfl
theorem q2_227 : Cond.code yX7_step cX7_step 1 (some .int) ∈ W0 := w0_2 (i := 227) rfl rfl
theorem q2_228 : Cond.methodLink RX7 143 yX3_seek ∈ W0 := w0_2 (i := 228) rfl rfl
theorem q2_229 : Cond.instanceMethod yX3_seek ∈ W0 := w0_2 (i := 229) rfl rfl
theorem q2_230 : Cond.selects RX3 yX3_seek yX3_seek ∈ W0 := w0_2 (i := 230) rfl rfl
theorem q2_231 : Cond.code yX3_seek cX3_seek 2 none ∈ W0 := w0_2 (i := 231) rfl rfl
theorem q2_232 : Cond.methodLink RX3 38 yX0_numberOf ∈ W0 := w0_2 (i := 232) rfl rfl
theorem q2_233 : Cond.methodLink RX3 44 yX4_roundCell ∈ W0 := w0_2 (i := 233) rfl rfl
theorem q2_234 : Cond.methodLink RX3 48 yX3_lookAtCell ∈ W0 := w0_2 (i := 234) rfl rfl
theorem q2_236 : Cond.instanceMethod yX3_lookAtCell ∈ W0 := w0_2 (i := 236) rfl rfl
theorem q2_237 : Cond.code yX3_lookAtCell cX3_lookAtCell 8 none ∈ W0 := w0_2 (i := 237) rfl rfl
theorem q2_238 : Cond.methodLink RX3 75 yX3_openOf ∈ W0 := w0_2 (i := 238) rfl rfl
theorem q3_0 : Cond.instanceMethod yX3_openOf ∈ W0 := w0_3 (i := 0) rfl rfl
theorem q3_1 : Cond.code yX3_openOf cX3_openOf 3 (some .long) ∈ W0 := w0_3 (i := 1) rfl rfl
theorem q3_2 : Cond.constantLong RX3 111 (-1) ∈ W0 := w0_3 (i := 2) rfl rfl
theorem q3_3 : Cond.methodLink RX3 82 yJ13_bitCount_95d88 ∈ W0 := w0_3 (i := 3) rfl rfl
theorem q3_4 : Cond.static yJ13_bitCount_95d88 ∈ W0 := w0_3 (i := 4) rfl rfl
theorem q3_5 : Cond.code yJ13_bitCount_95d88 cJ13_bitCount_95d88 2 (some .int) ∈ W0 := w0_3 (i := 5) rfl rfl
theorem q3_6 : Cond.constantLong RJ13 314 (6148914691236517205) ∈ W0 := w0_3 (i := 6) rfl rfl
theorem q3_7 : Cond.constantLong RJ13 316 (3689348814741910323) ∈ W0 := w0_3 (i := 7) rfl rfl
theorem q3_8 : Cond.constantLong RJ13 318 (1085102592571150095) ∈ W0 := w0_3 (i := 8) rfl rfl
theorem q3_9 : Cond.methodLink RX3 88 yX3_tell ∈ W0 := w0_3 (i := 9) rfl rfl
theorem q3_11 : Cond.instanceMethod yX3_tell ∈ W0 := w0_3 (i := 11) rfl rfl
theorem q3_12 : Cond.code yX3_tell cX3_tell 4 none ∈ W0 := w0_3 (i := 12) rfl rfl
theorem q3_13 : Cond.methodLink RX3 55 yX4_atPoint ∈ W0 := w0_3 (i := 13) rfl rfl
theorem q3_14 : Cond.methodLink RX3 58 yX3_lookAtPoint ∈ W0 := w0_3 (i := 14) rfl rfl
theorem q3_16 : Cond.instanceMethod yX3_lookAtPoint ∈ W0 := w0_3 (i := 16) rfl rfl
theorem q3_17 : Cond.code yX3_lookAtPoint cX3_lookAtPoint 7 none ∈ W0 := w0_3 (i := 17) rfl rfl
theorem q3_18 : Cond.methodLink RX3 65 yX0_stateOf ∈ W0 := w0_3 (i := 18) rfl rfl
theorem q3_19 : Cond.methodLink RX3 68 yX3_lookAtChain ∈ W0 := w0_3 (i := 19) rfl rfl
theorem q3_21 : Cond.instanceMethod yX3_lookAtChain ∈ W0 := w0_3 (i := 21) rfl rfl
theorem q3_22 : Cond.code yX3_lookAtChain cX3_lookAtChain 5 none ∈ W0 := w0_3 (i := 22) rfl rfl
theorem q3_23 : Cond.methodLink RX3 91 yX4_chainOf ∈ W0 := w0_3 (i := 23) rfl rfl
theorem q3_24 : Cond.instanceMethod yX4_chainOf ∈ W0 := w0_3 (i := 24) rfl rfl
theorem q3_25 : Cond.selects RX4 yX4_chainOf yX4_chainOf ∈ W0 := w0_3 (i := 25) rfl rfl
theorem q3_26 : Cond.code yX4_chainOf cX4_chainOf 12 (some .long) ∈ W0 := w0_3 (i := 26) rfl rfl
theorem q3_27 : Cond.methodLink RX4 136 yJ13_numberOfTrailingZeros_95d88 ∈ W0 := w0_3 (i := 27) rfl rfl
theorem q3_28 : Cond.static yJ13_numberOfTrailingZeros_95d88 ∈ W0 := w0_3 (i := 28) rfl rfl
theorem q3_29 : Cond.code yJ13_numberOfTrailingZeros_95d88 cJ13_numberOfTrailingZeros_95d88 3 (some .int) ∈ W0 := w0_3 (i := 29) rfl rfl
theorem q3_30 : Cond.methodLink RJ13 311 yJ6_numberOfTrailingZeros_0f7a4 ∈ W0 := w0_3 (i := 30) rfl rfl
theorem q3_31 : Cond.static yJ6_numberOfTrailingZeros_0f7a4 ∈ W0 := w0_3 (i := 31) rfl rfl
theorem q3_32 : Cond.code yJ6_numberOfTrailingZeros_0f7a4 cJ6_numberOfTrailingZeros_0f7a4 2 (some .int) ∈ W0 := w0_3 (i := 32) rfl rfl
theorem q3_33 : Cond.constant RJ6 264 (65536) ∈ W0 := w0_3 (i := 33) rfl rfl
theorem q3_34 : Cond.constantLong RX4 142 (-1) ∈ W0 := w0_3 (i := 34) rfl rfl
theorem q3_35 : Cond.methodLink RX3 95 yX3_othersThan ∈ W0 := w0_3 (i := 35) rfl rfl
theorem q3_37 : Cond.instanceMethod yX3_othersThan ∈ W0 := w0_3 (i := 37) rfl rfl
theorem q3_38 : Cond.code yX3_othersThan cX3_othersThan 3 (some .boolean) ∈ W0 := w0_3 (i := 38) rfl rfl
theorem q3_39 : Cond.methodLink RX3 99 yX3_isClosed ∈ W0 := w0_3 (i := 39) rfl rfl
theorem q3_41 : Cond.instanceMethod yX3_isClosed ∈ W0 := w0_3 (i := 41) rfl rfl
theorem q3_42 : Cond.code yX3_isClosed cX3_isClosed 6 (some .boolean) ∈ W0 := w0_3 (i := 42) rfl rfl
theorem q3_43 : Cond.methodLink RX3 102 yX3_chainThatWouldClose ∈ W0 := w0_3 (i := 43) rfl rfl
theorem q3_45 : Cond.instanceMethod yX3_chainThatWouldClose ∈ W0 := w0_3 (i := 45) rfl rfl
theorem q3_46 : Cond.code yX3_chainThatWouldClose cX3_chainThatWouldClose 8 (some .long) ∈ W0 := w0_3 (i := 46) rfl rfl
theorem q3_47 : Cond.methodLink RX3 113 yX4_end ∈ W0 := w0_3 (i := 47) rfl rfl
theorem q3_48 : Cond.methodLink RX3 117 yJ13_numberOfTrailingZeros_95d88 ∈ W0 := w0_3 (i := 48) rfl rfl
theorem q3_50 : Cond.methodLink RX3 108 yX3_missesNumber ∈ W0 := w0_3 (i := 50) rfl rfl
theorem q3_52 : Cond.instanceMethod yX3_missesNumber ∈ W0 := w0_3 (i := 52) rfl rfl
theorem q3_53 : Cond.code yX3_missesNumber cX3_missesNumber 5 (some .boolean) ∈ W0 := w0_3 (i := 53) rfl rfl
theorem q3_54 : Cond.methodLink RX3 72 yX3_lookAtHands ∈ W0 := w0_3 (i := 54) rfl rfl
theorem q3_56 : Cond.instanceMethod yX3_lookAtHands ∈ W0 := w0_3 (i := 56) rfl rfl
theorem q3_57 : Cond.code yX3_lookAtHands cX3_lookAtHands 4 none ∈ W0 := w0_3 (i := 57) rfl rfl
theorem q3_58 : Cond.methodLink RX3 120 yX3_waysPast ∈ W0 := w0_3 (i := 58) rfl rfl
theorem q3_60 : Cond.instanceMethod yX3_waysPast ∈ W0 := w0_3 (i := 60) rfl rfl
theorem q3_61 : Cond.code yX3_waysPast cX3_waysPast 12 (some .int) ∈ W0 := w0_3 (i := 61) rfl rfl
theorem q3_62 : Cond.methodLink RX3 126 yX4_hand ∈ W0 := w0_3 (i := 62) rfl rfl
theorem q3_63 : Cond.methodLink RX3 129 yX3_nextOnWay ∈ W0 := w0_3 (i := 63) rfl rfl
theorem q3_65 : Cond.instanceMethod yX3_nextOnWay ∈ W0 := w0_3 (i := 65) rfl rfl
theorem q3_66 : Cond.code yX3_nextOnWay cX3_nextOnWay 14 (some .long) ∈ W0 := w0_3 (i := 66) rfl rfl
theorem q3_67 : Cond.methodLink RX7 149 yX7_follow ∈ W0 := w0_3 (i := 67) rfl rfl
theorem q3_69 : Cond.instanceMethod yX7_follow ∈ W0 := w0_3 (i := 69) rfl rfl
theorem q3_70 : Cond.code yX7_follow cX7_follow 1 (some .int) ∈ W0 := w0_3 (i := 70) rfl rfl
theorem q3_71 : Cond.methodLink RX7 170 yJ13_bitCount_95d88 ∈ W0 := w0_3 (i := 71) rfl rfl
theorem q3_72 : Cond.methodLink RL 53 yX7_spreads ∈ W0 := w0_3 (i := 72) rfl rfl
theorem q3_73 : Cond.instanceMethod yX7_spreads ∈ W0 := w0_3 (i := 73) rfl rfl
theorem q3_74 : Cond.selects RX7 yX7_spreads yX7_spreads ∈ W0 := w0_3 (i := 74) rfl rfl
theorem q3_75 : Cond.code yX7_spreads cX7_spreads 3 (some .int) ∈ W0 := w0_3 (i := 75) rfl rfl
theorem q3_76 : Cond.methodLink RX7 152 yX3_tells ∈ W0 := w0_3 (i := 76) rfl rfl
theorem q3_77 : Cond.instanceMethod yX3_tells ∈ W0 := w0_3 (i := 77) rfl rfl
theorem q3_78 : Cond.selects RX3 yX3_tells yX3_tells ∈ W0 := w0_3 (i := 78) rfl rfl
theorem q3_79 : Cond.code yX3_tells cX3_tells 1 (some .boolean) ∈ W0 := w0_3 (i := 79) rfl rfl
theorem q3_80 : Cond.methodLink RL 57 yX7_undo ∈ W0 := w0_3 (i := 80) rfl rfl
theorem q3_81 : Cond.instanceMethod yX7_undo ∈ W0 := w0_3 (i := 81) rfl rfl
theorem q3_82 : Cond.selects RX7 yX7_undo yX7_undo ∈ W0 := w0_3 (i := 82) rfl rfl
theorem q3_83 : Cond.code yX7_undo cX7_undo 1 (some .int) ∈ W0 := w0_3 (i := 83) rfl rfl
theorem q3_84 : Cond.methodLink RX7 159 yX2_giveLatest ∈ W0 := w0_3 (i := 84) rfl rfl
theorem q3_85 : Cond.instanceMethod yX2_giveLatest ∈ W0 := w0_3 (i := 85) rfl rfl
theorem q3_86 : Cond.selects RX2 yX2_giveLatest yX2_giveLatest ∈ W0 := w0_3 (i := 86) rfl rfl
theorem q3_87 : Cond.code yX2_giveLatest cX2_giveLatest 2 none ∈ W0 := w0_3 (i := 87) rfl rfl
theorem q3_88 : Cond.methodLink RX2 37 yJ9_max_7cf53 ∈ W0 := w0_3 (i := 88) rfl rfl
theorem q3_89 : Cond.methodLink RX2 40 yX5_give ∈ W0 := w0_3 (i := 89) rfl rfl
theorem q3_90 : Cond.instanceMethod yX5_give ∈ W0 := w0_3 (i := 90) rfl rfl
theorem q3_91 : Cond.selects RX5 yX5_give yX5_give ∈ W0 := w0_3 (i := 91) rfl rfl
theorem q3_92 : Cond.code yX5_give cX5_give 3 none ∈ W0 := w0_3 (i := 92) rfl rfl
theorem q3_94 : Cond.static yX7_at_ ∈ W0 := w0_3 (i := 94) rfl rfl
theorem q3_95 : Cond.code yX7_at_ cX7_at_ 2 (some .long) ∈ W0 := w0_3 (i := 95) rfl rfl
theorem q3_96 : Cond.methodLink RX5 54 yX0_become ∈ W0 := w0_3 (i := 96) rfl rfl
theorem q3_97 : Cond.methodLink RL 61 yX7_hint ∈ W0 := w0_3 (i := 97) rfl rfl
theorem q3_98 : Cond.instanceMethod yX7_hint ∈ W0 := w0_3 (i := 98) rfl rfl
theorem q3_99 : Cond.selects RX7 yX7_hint yX7_hint ∈ W0 := w0_3 (i := 99) rfl rfl
theorem q3_100 : Cond.code yX7_hint cX7_hint 2 (some .int) ∈ W0 := w0_3 (i := 100) rfl rfl
theorem q3_101 : Cond.methodLink RL 65 yX7_hinted ∈ W0 := w0_3 (i := 101) rfl rfl
theorem q3_102 : Cond.instanceMethod yX7_hinted ∈ W0 := w0_3 (i := 102) rfl rfl
theorem q3_103 : Cond.selects RX7 yX7_hinted yX7_hinted ∈ W0 := w0_3 (i := 103) rfl rfl
theorem q3_104 : Cond.code yX7_hinted cX7_hinted 1 (some .long) ∈ W0 := w0_3 (i := 104) rfl rfl
theorem q3_105 : Cond.methodLink RL 70 yX7_many ∈ W0 := w0_3 (i := 105) rfl rfl
theorem q3_106 : Cond.instanceMethod yX7_many ∈ W0 := w0_3 (i := 106) rfl rfl
theorem q3_107 : Cond.selects RX7 yX7_many yX7_many ∈ W0 := w0_3 (i := 107) rfl rfl
theorem q3_108 : Cond.code yX7_many cX7_many 2 (some .int) ∈ W0 := w0_3 (i := 108) rfl rfl
theorem q3_109 : Cond.methodLink RX7 176 yX7_searchLoops ∈ W0 := w0_3 (i := 109) rfl rfl
theorem q3_111 : Cond.instanceMethod yX7_searchLoops ∈ W0 := w0_3 (i := 111) rfl rfl
theorem q3_112 : Cond.code yX7_searchLoops cX7_searchLoops 1 none ∈ W0 := w0_3 (i := 112) rfl rfl
theorem q3_113 : Cond.methodLink RX7 212 yX1_search ∈ W0 := w0_3 (i := 113) rfl rfl
theorem q3_114 : Cond.instanceMethod yX1_search ∈ W0 := w0_3 (i := 114) rfl rfl
theorem q3_115 : Cond.selects RX1 yX1_search yX1_search ∈ W0 := w0_3 (i := 115) rfl rfl
theorem q3_116 : Cond.code yX1_search cX1_search 7 none ∈ W0 := w0_3 (i := 116) rfl rfl
theorem q3_117 : Cond.methodLink RX1 44 yJ9_min_7cf53 ∈ W0 := w0_3 (i := 117) rfl rfl
theorem q3_118 : Cond.methodLink RX1 47 yX1_decide ∈ W0 := w0_3 (i := 118) rfl rfl
theorem q3_119 : Cond.static yX1_decide ∈ W0 := w0_3 (i := 119) rfl rfl
theorem q3_120 : Cond.code yX1_decide cX1_decide 12 none ∈ W0 := w0_3 (i := 120) rfl rfl
theorem q3_121 : Cond.methodLink RX1 61 yX1_takeRing ∈ W0 := w0_3 (i := 121) rfl rfl
theorem q3_123 : Cond.instanceMethod yX1_takeRing ∈ W0 := w0_3 (i := 123) rfl rfl
theorem q3_124 : Cond.code yX1_takeRing cX1_takeRing 4 none ∈ W0 := w0_3 (i := 124) rfl rfl
theorem q3_125 : Cond.methodLink RX1 79 yJ13_numberOfTrailingZeros_95d88 ∈ W0 := w0_3 (i := 125) rfl rfl
theorem q3_126 : Cond.methodLink RX1 85 yX4_chainOf ∈ W0 := w0_3 (i := 126) rfl rfl
theorem q3_127 : Cond.methodLink RX1 65 yX4_roundCell ∈ W0 := w0_3 (i := 127) rfl rfl
theorem q3_128 : Cond.methodLink RX1 69 yX4_sideOfCell ∈ W0 := w0_3 (i := 128) rfl rfl
theorem q3_130 : Cond.methodLink RX1 75 yX1_fits ∈ W0 := w0_3 (i := 130) rfl rfl
theorem q3_132 : Cond.instanceMethod yX1_fits ∈ W0 := w0_3 (i := 132) rfl rfl
theorem q3_133 : Cond.code yX1_fits cX1_fits 8 (some .boolean) ∈ W0 := w0_3 (i := 133) rfl rfl
theorem q3_134 : Cond.methodLink RX1 89 yX4_settledFrom ∈ W0 := w0_3 (i := 134) rfl rfl
theorem q3_135 : Cond.constantLong RX1 59 (-1) ∈ W0 := w0_3 (i := 135) rfl rfl
theorem q3_136 : Cond.methodLink RX1 92 yX4_atCorner ∈ W0 := w0_3 (i := 136) rfl rfl
theorem q3_137 : Cond.instanceMethod yX4_atCorner ∈ W0 := w0_3 (i := 137) rfl rfl
theorem q3_138 : Cond.selects RX4 yX4_atCorner yX4_atCorner ∈ W0 := w0_3 (i := 138) rfl rfl
theorem q3_139 : Cond.code yX4_atCorner cX4_atCorner 2 (some .long) ∈ W0 := w0_3 (i := 139) rfl rfl
theorem q3_140 : Cond.methodLink RX1 95 yJ13_bitCount_95d88 ∈ W0 := w0_3 (i := 140) rfl rfl
theorem q3_141 : Cond.methodLink RX1 98 yX4_hand ∈ W0 := w0_3 (i := 141) rfl rfl
theorem q3_142 : Cond.methodLink RX1 101 yX1_fitsNumber ∈ W0 := w0_3 (i := 142) rfl rfl
theorem q3_144 : Cond.instanceMethod yX1_fitsNumber ∈ W0 := w0_3 (i := 144) rfl rfl
theorem q3_145 : Cond.code yX1_fitsNumber cX1_fitsNumber 11 (some .boolean) ∈ W0 := w0_3 (i := 145) rfl rfl
theorem q3_146 : Cond.methodLink RX1 105 yX0_numberIn ∈ W0 := w0_3 (i := 146) rfl rfl
theorem q3_147 : Cond.methodLink RX7 180 yJ9_min_7cf53 ∈ W0 := w0_3 (i := 147) rfl rfl
theorem q3_148 : Cond.methodLink RL 74 yX7_loop ∈ W0 := w0_3 (i := 148) rfl rfl
theorem q3_149 : Cond.instanceMethod yX7_loop ∈ W0 := w0_3 (i := 149) rfl rfl
theorem q3_150 : Cond.selects RX7 yX7_loop yX7_loop ∈ W0 := w0_3 (i := 150) rfl rfl
theorem q3_151 : Cond.code yX7_loop cX7_loop 2 (some .long) ∈ W0 := w0_3 (i := 151) rfl rfl
theorem q3_152 : Cond.constantLong RX7 185 (-1) ∈ W0 := w0_3 (i := 152) rfl rfl
theorem q3_153 : Cond.methodLink RX7 187 yX1_ring ∈ W0 := w0_3 (i := 153) rfl rfl
theorem q3_154 : Cond.instanceMethod yX1_ring ∈ W0 := w0_3 (i := 154) rfl rfl
theorem q3_155 : Cond.selects RX1 yX1_ring yX1_ring ∈ W0 := w0_3 (i := 155) rfl rfl
theorem q3_156 : Cond.code yX1_ring cX1_ring 2 (some .long) ∈ W0 := w0_3 (i := 156) rfl rfl
theorem q3_158 : Cond.constantLong RX7 191 (-9) ∈ W0 := w0_3 (i := 158) rfl rfl
theorem q3_159 : Cond.methodLink RL 79 yX7_forced ∈ W0 := w0_3 (i := 159) rfl rfl
theorem q3_160 : Cond.instanceMethod yX7_forced ∈ W0 := w0_3 (i := 160) rfl rfl
theorem q3_161 : Cond.selects RX7 yX7_forced yX7_forced ∈ W0 := w0_3 (i := 161) rfl rfl
theorem q3_162 : Cond.code yX7_forced cX7_forced 2 (some .long) ∈ W0 := w0_3 (i := 162) rfl rfl
theorem q3_163 : Cond.methodLink RX7 193 yX1_inAll ∈ W0 := w0_3 (i := 163) rfl rfl
theorem q3_164 : Cond.instanceMethod yX1_inAll ∈ W0 := w0_3 (i := 164) rfl rfl
theorem q3_165 : Cond.selects RX1 yX1_inAll yX1_inAll ∈ W0 := w0_3 (i := 165) rfl rfl
theorem q3_166 : Cond.code yX1_inAll cX1_inAll 4 (some .long) ∈ W0 := w0_3 (i := 166) rfl rfl
theorem q3_167 : Cond.methodLink RX1 55 yX4_allSides ∈ W0 := w0_3 (i := 167) rfl rfl
theorem q3_168 : Cond.instanceMethod yX4_allSides ∈ W0 := w0_3 (i := 168) rfl rfl
theorem q3_169 : Cond.selects RX4 yX4_allSides yX4_allSides ∈ W0 := w0_3 (i := 169) rfl rfl
theorem q3_170 : Cond.code yX4_allSides cX4_allSides 1 (some .long) ∈ W0 := w0_3 (i := 170) rfl rfl
theorem q3_171 : Cond.methodLink RX7 197 yX1_inNone ∈ W0 := w0_3 (i := 171) rfl rfl
theorem q3_172 : Cond.instanceMethod yX1_inNone ∈ W0 := w0_3 (i := 172) rfl rfl
theorem q3_173 : Cond.selects RX1 yX1_inNone yX1_inNone ∈ W0 := w0_3 (i := 173) rfl rfl
theorem q3_174 : Cond.code yX1_inNone cX1_inNone 4 (some .long) ∈ W0 := w0_3 (i := 174) rfl rfl
theorem q3_175 : Cond.methodLink RL 83 yX7_inside ∈ W0 := w0_3 (i := 175) rfl rfl
theorem q3_176 : Cond.instanceMethod yX7_inside ∈ W0 := w0_3 (i := 176) rfl rfl
theorem q3_177 : Cond.selects RX7 yX7_inside yX7_inside ∈ W0 := w0_3 (i := 177) rfl rfl
theorem q3_178 : Cond.code yX7_inside cX7_inside 2 (some .int) ∈ W0 := w0_3 (i := 178) rfl rfl
theorem q3_179 : Cond.methodLink RX7 200 yX4_cellsWithin ∈ W0 := w0_3 (i := 179) rfl rfl
theorem q3_180 : Cond.instanceMethod yX4_cellsWithin ∈ W0 := w0_3 (i := 180) rfl rfl
theorem q3_181 : Cond.selects RX4 yX4_cellsWithin yX4_cellsWithin ∈ W0 := w0_3 (i := 181) rfl rfl
theorem q3_182 : Cond.code yX4_cellsWithin cX4_cellsWithin 7 (some .int) ∈ W0 := w0_3 (i := 182) rfl rfl
theorem q3_183 : Cond.methodLink RL 87 yX7_numbersThat ∈ W0 := w0_3 (i := 183) rfl rfl
theorem q3_184 : Cond.instanceMethod yX7_numbersThat ∈ W0 := w0_3 (i := 184) rfl rfl
theorem q3_185 : Cond.selects RX7 yX7_numbersThat yX7_numbersThat ∈ W0 := w0_3 (i := 185) rfl rfl
theorem q3_186 : Cond.code yX7_numbersThat cX7_numbersThat 5 (some .int) ∈ W0 := w0_3 (i := 186) rfl rfl
theorem q3_187 : Cond.methodLink RL 91 yX7_tryNext ∈ W0 := w0_3 (i := 187) rfl rfl
theorem q3_188 : Cond.instanceMethod yX7_tryNext ∈ W0 := w0_3 (i := 188) rfl rfl
theorem q3_189 : Cond.selects RX7 yX7_tryNext yX7_tryNext ∈ W0 := w0_3 (i := 189) rfl rfl
theorem q3_190 : Cond.code yX7_tryNext cX7_tryNext 6 (some .int) ∈ W0 := w0_3 (i := 190) rfl rfl
theorem q3_191 : Cond.methodLink RX7 218 yX1_howManyHave ∈ W0 := w0_3 (i := 191) rfl rfl
theorem q3_192 : Cond.instanceMethod yX1_howManyHave ∈ W0 := w0_3 (i := 192) rfl rfl
theorem q3_193 : Cond.selects RX1 yX1_howManyHave yX1_howManyHave ∈ W0 := w0_3 (i := 193) rfl rfl
theorem q3_194 : Cond.code yX1_howManyHave cX1_howManyHave 4 (some .int) ∈ W0 := w0_3 (i := 194) rfl rfl
theorem q3_195 : Cond.methodLink RL 95 yX7_keep ∈ W0 := w0_3 (i := 195) rfl rfl
theorem q3_196 : Cond.instanceMethod yX7_keep ∈ W0 := w0_3 (i := 196) rfl rfl
theorem q3_197 : Cond.selects RX7 yX7_keep yX7_keep ∈ W0 := w0_3 (i := 197) rfl rfl
theorem q3_198 : Cond.code yX7_keep cX7_keep 2 (some .int) ∈ W0 := w0_3 (i := 198) rfl rfl
theorem q3_199 : Cond.methodLink RX7 221 yX5_store ∈ W0 := w0_3 (i := 199) rfl rfl
theorem q3_200 : Cond.methodLink RX7 225 yX7_openSides ∈ W0 := w0_3 (i := 200) rfl rfl
theorem q3_202 : Cond.instanceMethod yX7_openSides ∈ W0 := w0_3 (i := 202) rfl rfl
theorem q3_203 : Cond.code yX7_openSides cX7_openSides 1 (some .int) ∈ W0 := w0_3 (i := 203) rfl rfl
theorem q3_204 : Cond.methodLink RL 99 yX7_back ∈ W0 := w0_3 (i := 204) rfl rfl
theorem q3_205 : Cond.instanceMethod yX7_back ∈ W0 := w0_3 (i := 205) rfl rfl
theorem q3_206 : Cond.selects RX7 yX7_back yX7_back ∈ W0 := w0_3 (i := 206) rfl rfl
theorem q3_207 : Cond.code yX7_back cX7_back 2 (some .int) ∈ W0 := w0_3 (i := 207) rfl rfl
theorem q3_208 : Cond.methodLink RX7 228 yX5_has ∈ W0 := w0_3 (i := 208) rfl rfl
theorem q3_209 : Cond.instanceMethod yX5_has ∈ W0 := w0_3 (i := 209) rfl rfl
theorem q3_210 : Cond.selects RX5 yX5_has yX5_has ∈ W0 := w0_3 (i := 210) rfl rfl
theorem q3_211 : Cond.code yX5_has cX5_has 2 (some .boolean) ∈ W0 := w0_3 (i := 211) rfl rfl
theorem q3_213 : Cond.methodLink RX7 231 yX5_give ∈ W0 := w0_3 (i := 213) rfl rfl
theorem q3_214 : Cond.methodLink RL 103 yX7_count ∈ W0 := w0_3 (i := 214) rfl rfl
theorem q3_215 : Cond.instanceMethod yX7_count ∈ W0 := w0_3 (i := 215) rfl rfl
theorem q3_216 : Cond.selects RX7 yX7_count yX7_count ∈ W0 := w0_3 (i := 216) rfl rfl
theorem q3_217 : Cond.code yX7_count cX7_count 2 (some .int) ∈ W0 := w0_3 (i := 217) rfl rfl
theorem q3_218 : Cond.methodLink RX7 235 yX7_cellsWithNumber ∈ W0 := w0_3 (i := 218) rfl rfl
theorem q3_220 : Cond.instanceMethod yX7_cellsWithNumber ∈ W0 := w0_3 (i := 220) rfl rfl
theorem q3_221 : Cond.code yX7_cellsWithNumber cX7_cellsWithNumber 3 (some .int) ∈ W0 := w0_3 (i := 221) rfl rfl
theorem q3_222 : Cond.classLink RL 10 RX8 ∈ W0 := w0_3 (i := 222) rfl rfl
theorem q3_223 : Cond.instantiable RX8 29 ∈ W0 := w0_3 (i := 223) rfl rfl
theorem q3_224 : Cond.methodLink RL 12 yX8_init ∈ W0 := w0_3 (i := 224) rfl rfl
theorem q3_225 : Cond.instanceMethod yX8_init ∈ W0 := w0_3 (i := 225) rfl rfl
theorem q3_226 : Cond.code yX8_init cX8_init 2 none ∈ W0 := w0_3 (i := 226) rfl rfl
theorem q3_227 : Cond.methodLink RX8 1 objectInit ∈ W0 := w0_3 (i := 227) rfl rfl
theorem q3_228 : Cond.constantLong RX8 56 (5) ∈ W0 := w0_3 (i := 228) rfl rfl
theorem q3_229 : Cond.methodLink RX8 58 yX8_laysGrid ∈ W0 := w0_3 (i := 229) rfl rfl
theorem q3_231 : Cond.instanceMethod yX8_laysGrid ∈ W0 := w0_3 (i := 231) rfl rfl
theorem q3_232 : Cond.code yX8_laysGrid cX8_laysGrid 3 none ∈ W0 := w0_3 (i := 232) rfl rfl
theorem q3_233 : Cond.methodLink RX8 65 yX8_lying ∈ W0 := w0_3 (i := 233) rfl rfl
theorem q3_235 : Cond.instanceMethod yX8_lying ∈ W0 := w0_3 (i := 235) rfl rfl
theorem q3_236 : Cond.code yX8_lying cX8_lying 3 (some .int) ∈ W0 := w0_3 (i := 236) rfl rfl
theorem q3_237 : Cond.methodLink RX8 69 yX8_cellAt ∈ W0 := w0_3 (i := 237) rfl rfl
theorem q3_239 : Cond.instanceMethod yX8_cellAt ∈ W0 := w0_3 (i := 239) rfl rfl
theorem q4_0 : Cond.code yX8_cellAt cX8_cellAt 3 (some .int) ∈ W0 := w0_4 (i := 0) rfl rfl
theorem q4_1 : Cond.methodLink RX8 61 yX8_in ∈ W0 := w0_4 (i := 1) rfl rfl
theorem q4_2 : Cond.static yX8_in ∈ W0 := w0_4 (i := 2) rfl rfl
theorem q4_3 : Cond.code yX8_in cX8_in 6 (some .boolean) ∈ W0 := w0_4 (i := 3) rfl rfl
theorem q4_4 : Cond.methodLink RX8 72 yX8_joins ∈ W0 := w0_4 (i := 4) rfl rfl
theorem q4_6 : Cond.instanceMethod yX8_joins ∈ W0 := w0_4 (i := 6) rfl rfl
theorem q4_7 : Cond.code yX8_joins cX8_joins 6 none ∈ W0 := w0_4 (i := 7) rfl rfl
theorem q4_8 : Cond.methodLink RX8 76 yX8_standing ∈ W0 := w0_4 (i := 8) rfl rfl
theorem q4_10 : Cond.instanceMethod yX8_standing ∈ W0 := w0_4 (i := 10) rfl rfl
theorem q4_11 : Cond.code yX8_standing cX8_standing 3 (some .int) ∈ W0 := w0_4 (i := 11) rfl rfl
theorem q4_12 : Cond.fieldLink RX8 52 "NumberedLoopsModel" "numbers" "J" ∈ W0 := w0_4 (i := 12) rfl rfl
theorem q4_13 : Cond.fieldLink RX8 83 "NumberedLoopsModel" "lines" "J" ∈ W0 := w0_4 (i := 13) rfl rfl
theorem q4_14 : Cond.fieldLink RX8 88 "NumberedLoopsModel" "blanks" "J" ∈ W0 := w0_4 (i := 14) rfl rfl
theorem q4_15 : Cond.fieldLink RX8 7 "NumberedLoopsModel" "width" "I" ∈ W0 := w0_4 (i := 15) rfl rfl
theorem q4_16 : Cond.fieldLink RX8 13 "NumberedLoopsModel" "height" "I" ∈ W0 := w0_4 (i := 16) rfl rfl
theorem q4_17 : Cond.fieldLink RX8 16 "NumberedLoopsModel" "cells" "I" ∈ W0 := w0_4 (i := 17) rfl rfl
theorem q4_18 : Cond.fieldLink RX8 19 "NumberedLoopsModel" "sides" "I" ∈ W0 := w0_4 (i := 18) rfl rfl
theorem q4_19 : Cond.fieldLink RX8 22 "NumberedLoopsModel" "atCell" "[J" ∈ W0 := w0_4 (i := 19) rfl rfl
theorem q4_20 : Cond.fieldLink RX8 26 "NumberedLoopsModel" "atPoint" "[J" ∈ W0 := w0_4 (i := 20) rfl rfl
theorem q4_21 : Cond.fieldLink RX8 29 "NumberedLoopsModel" "handOf" "[I" ∈ W0 := w0_4 (i := 21) rfl rfl
theorem q4_22 : Cond.fieldLink RX8 33 "NumberedLoopsModel" "text" "[I" ∈ W0 := w0_4 (i := 22) rfl rfl
theorem q4_23 : Cond.fieldLink RX8 96 "NumberedLoopsModel" "letters" "I" ∈ W0 := w0_4 (i := 23) rfl rfl
theorem q4_24 : Cond.fieldLink RX8 36 "NumberedLoopsModel" "past" "[J" ∈ W0 := w0_4 (i := 24) rfl rfl
theorem q4_25 : Cond.fieldLink RX8 127 "NumberedLoopsModel" "undos" "I" ∈ W0 := w0_4 (i := 25) rfl rfl
theorem q4_26 : Cond.fieldLink RX8 39 "NumberedLoopsModel" "images" "[J" ∈ W0 := w0_4 (i := 26) rfl rfl
theorem q4_27 : Cond.fieldLink RX8 42 "NumberedLoopsModel" "isKept" "[Z" ∈ W0 := w0_4 (i := 27) rfl rfl
theorem q4_28 : Cond.fieldLink RX8 93 "NumberedLoopsModel" "here" "I" ∈ W0 := w0_4 (i := 28) rfl rfl
theorem q4_29 : Cond.fieldLink RX8 110 "NumberedLoopsModel" "rows" "I" ∈ W0 := w0_4 (i := 29) rfl rfl
theorem q4_30 : Cond.fieldLink RX8 113 "NumberedLoopsModel" "wide" "I" ∈ W0 := w0_4 (i := 30) rfl rfl
theorem q4_31 : Cond.fieldLink RX8 116 "NumberedLoopsModel" "told" "J" ∈ W0 := w0_4 (i := 31) rfl rfl
theorem q4_32 : Cond.fieldLink RX8 175 "NumberedLoopsModel" "hintIs" "I" ∈ W0 := w0_4 (i := 32) rfl rfl
theorem q4_33 : Cond.fieldLink RX8 178 "NumberedLoopsModel" "hintRule" "I" ∈ W0 := w0_4 (i := 33) rfl rfl
theorem q4_34 : Cond.fieldLink RX8 181 "NumberedLoopsModel" "hintPlace" "I" ∈ W0 := w0_4 (i := 34) rfl rfl
theorem q4_35 : Cond.fieldLink RX8 184 "NumberedLoopsModel" "hintSides" "J" ∈ W0 := w0_4 (i := 35) rfl rfl
theorem q4_36 : Cond.fieldLink RX8 46 "NumberedLoopsModel" "ring" "[J" ∈ W0 := w0_4 (i := 36) rfl rfl
theorem q4_37 : Cond.fieldLink RX8 241 "NumberedLoopsModel" "rings" "I" ∈ W0 := w0_4 (i := 37) rfl rfl
theorem q4_38 : Cond.fieldLink RX8 235 "NumberedLoopsModel" "ringsWide" "I" ∈ W0 := w0_4 (i := 38) rfl rfl
theorem q4_39 : Cond.fieldLink RX8 238 "NumberedLoopsModel" "ringsHigh" "I" ∈ W0 := w0_4 (i := 39) rfl rfl
theorem q4_40 : Cond.fieldLink RX8 49 "NumberedLoopsModel" "with" "[I" ∈ W0 := w0_4 (i := 40) rfl rfl
theorem q4_100 : Cond.arrayClass .boolean ∈ W0 := w0_4 (i := 100) rfl rfl
theorem q4_101 : Cond.methodLink RL 17 yX8_type ∈ W0 := w0_4 (i := 101) rfl rfl
theorem q4_102 : Cond.instanceMethod yX8_type ∈ W0 := w0_4 (i := 102) rfl rfl
theorem q4_103 : Cond.selects RX8 yX8_type yX8_type ∈ W0 := w0_4 (i := 103) rfl rfl
theorem q4_104 : Cond.code yX8_type cX8_type 2 (some .int) ∈ W0 := w0_4 (i := 104) rfl rfl
theorem q4_105 : Cond.constantLong RX8 122 (255) ∈ W0 := w0_4 (i := 105) rfl rfl
theorem q4_106 : Cond.methodLink RL 22 yX8_clear ∈ W0 := w0_4 (i := 106) rfl rfl
theorem q4_107 : Cond.instanceMethod yX8_clear ∈ W0 := w0_4 (i := 107) rfl rfl
theorem q4_108 : Cond.selects RX8 yX8_clear yX8_clear ∈ W0 := w0_4 (i := 108) rfl rfl
theorem q4_109 : Cond.code yX8_clear cX8_clear 2 (some .int) ∈ W0 := w0_4 (i := 109) rfl rfl
theorem q4_110 : Cond.methodLink RL 26 yX8_grid ∈ W0 := w0_4 (i := 110) rfl rfl
theorem q4_111 : Cond.instanceMethod yX8_grid ∈ W0 := w0_4 (i := 111) rfl rfl
theorem q4_112 : Cond.selects RX8 yX8_grid yX8_grid ∈ W0 := w0_4 (i := 112) rfl rfl
theorem q4_113 : Cond.code yX8_grid cX8_grid 2 (some .int) ∈ W0 := w0_4 (i := 113) rfl rfl
theorem q4_114 : Cond.methodLink RX8 124 yX8_reads ∈ W0 := w0_4 (i := 114) rfl rfl
theorem q4_116 : Cond.instanceMethod yX8_reads ∈ W0 := w0_4 (i := 116) rfl rfl
theorem q4_117 : Cond.code yX8_reads cX8_reads 2 (some .boolean) ∈ W0 := w0_4 (i := 117) rfl rfl
theorem q4_118 : Cond.methodLink RX8 99 yX8_isMore ∈ W0 := w0_4 (i := 118) rfl rfl
theorem q4_120 : Cond.instanceMethod yX8_isMore ∈ W0 := w0_4 (i := 120) rfl rfl
theorem q4_121 : Cond.code yX8_isMore cX8_isMore 1 (some .boolean) ∈ W0 := w0_4 (i := 121) rfl rfl
theorem q4_122 : Cond.methodLink RX8 119 yX8_readsRow ∈ W0 := w0_4 (i := 122) rfl rfl
theorem q4_124 : Cond.instanceMethod yX8_readsRow ∈ W0 := w0_4 (i := 124) rfl rfl
theorem q4_125 : Cond.code yX8_readsRow cX8_readsRow 4 (some .boolean) ∈ W0 := w0_4 (i := 125) rfl rfl
theorem q4_126 : Cond.methodLink RX8 107 yX8_isSign ∈ W0 := w0_4 (i := 126) rfl rfl
theorem q4_128 : Cond.instanceMethod yX8_isSign ∈ W0 := w0_4 (i := 128) rfl rfl
theorem q4_129 : Cond.code yX8_isSign cX8_isSign 1 (some .boolean) ∈ W0 := w0_4 (i := 129) rfl rfl
theorem q4_130 : Cond.constantLong RX8 103 (48) ∈ W0 := w0_4 (i := 130) rfl rfl
theorem q4_131 : Cond.constantLong RX8 105 (52) ∈ W0 := w0_4 (i := 131) rfl rfl
theorem q4_132 : Cond.methodLink RL 30 yX8_number ∈ W0 := w0_4 (i := 132) rfl rfl
theorem q4_133 : Cond.instanceMethod yX8_number ∈ W0 := w0_4 (i := 133) rfl rfl
theorem q4_134 : Cond.selects RX8 yX8_number yX8_number ∈ W0 := w0_4 (i := 134) rfl rfl
theorem q4_135 : Cond.code yX8_number cX8_number 2 (some .int) ∈ W0 := w0_4 (i := 135) rfl rfl
theorem q4_136 : Cond.methodLink RX8 130 yX8_isCell ∈ W0 := w0_4 (i := 136) rfl rfl
theorem q4_138 : Cond.instanceMethod yX8_isCell ∈ W0 := w0_4 (i := 138) rfl rfl
theorem q4_139 : Cond.code yX8_isCell cX8_isCell 2 (some .boolean) ∈ W0 := w0_4 (i := 139) rfl rfl
theorem q4_140 : Cond.methodLink RX8 134 yX8_numberAt ∈ W0 := w0_4 (i := 140) rfl rfl
theorem q4_142 : Cond.instanceMethod yX8_numberAt ∈ W0 := w0_4 (i := 142) rfl rfl
theorem q4_143 : Cond.code yX8_numberAt cX8_numberAt 2 (some .int) ∈ W0 := w0_4 (i := 143) rfl rfl
theorem q4_144 : Cond.constantLong RX8 91 (7) ∈ W0 := w0_4 (i := 144) rfl rfl
theorem q4_145 : Cond.methodLink RL 34 yX8_side ∈ W0 := w0_4 (i := 145) rfl rfl
theorem q4_146 : Cond.instanceMethod yX8_side ∈ W0 := w0_4 (i := 146) rfl rfl
theorem q4_147 : Cond.selects RX8 yX8_side yX8_side ∈ W0 := w0_4 (i := 147) rfl rfl
theorem q4_148 : Cond.code yX8_side cX8_side 2 (some .int) ∈ W0 := w0_4 (i := 148) rfl rfl
theorem q4_149 : Cond.methodLink RX8 138 yX8_isSide ∈ W0 := w0_4 (i := 149) rfl rfl
theorem q4_151 : Cond.instanceMethod yX8_isSide ∈ W0 := w0_4 (i := 151) rfl rfl
theorem q4_152 : Cond.code yX8_isSide cX8_isSide 2 (some .boolean) ∈ W0 := w0_4 (i := 152) rfl rfl
theorem q4_153 : Cond.methodLink RX8 141 yX8_has ∈ W0 := w0_4 (i := 153) rfl rfl
theorem q4_154 : Cond.static yX8_has ∈ W0 := w0_4 (i := 154) rfl rfl
theorem q4_155 : Cond.code yX8_has cX8_has 3 (some .boolean) ∈ W0 := w0_4 (i := 155) rfl rfl
theorem q4_156 : Cond.methodLink RL 39 yX8_sideOf ∈ W0 := w0_4 (i := 156) rfl rfl
theorem q4_157 : Cond.instanceMethod yX8_sideOf ∈ W0 := w0_4 (i := 157) rfl rfl
theorem q4_158 : Cond.selects RX8 yX8_sideOf yX8_sideOf ∈ W0 := w0_4 (i := 158) rfl rfl
theorem q4_159 : Cond.code yX8_sideOf cX8_sideOf 4 (some .int) ∈ W0 := w0_4 (i := 159) rfl rfl
theorem q4_160 : Cond.methodLink RX8 145 yX8_points ∈ W0 := w0_4 (i := 160) rfl rfl
theorem q4_162 : Cond.instanceMethod yX8_points ∈ W0 := w0_4 (i := 162) rfl rfl
theorem q4_163 : Cond.code yX8_points cX8_points 1 (some .int) ∈ W0 := w0_4 (i := 163) rfl rfl
theorem q4_164 : Cond.constantLong RX8 149 (3) ∈ W0 := w0_4 (i := 164) rfl rfl
theorem q4_165 : Cond.methodLink RX8 151 yX8_sideOfCell ∈ W0 := w0_4 (i := 165) rfl rfl
theorem q4_167 : Cond.instanceMethod yX8_sideOfCell ∈ W0 := w0_4 (i := 167) rfl rfl
theorem q4_168 : Cond.code yX8_sideOfCell cX8_sideOfCell 5 (some .int) ∈ W0 := w0_4 (i := 168) rfl rfl
theorem q4_169 : Cond.methodLink RX8 154 yX8_sideOfPoint ∈ W0 := w0_4 (i := 169) rfl rfl
theorem q4_171 : Cond.instanceMethod yX8_sideOfPoint ∈ W0 := w0_4 (i := 171) rfl rfl
theorem q4_172 : Cond.code yX8_sideOfPoint cX8_sideOfPoint 5 (some .int) ∈ W0 := w0_4 (i := 172) rfl rfl
theorem q4_173 : Cond.methodLink RL 44 yX8_marks ∈ W0 := w0_4 (i := 173) rfl rfl
theorem q4_174 : Cond.instanceMethod yX8_marks ∈ W0 := w0_4 (i := 174) rfl rfl
theorem q4_175 : Cond.selects RX8 yX8_marks yX8_marks ∈ W0 := w0_4 (i := 175) rfl rfl
theorem q4_176 : Cond.code yX8_marks cX8_marks 4 (some .int) ∈ W0 := w0_4 (i := 176) rfl rfl
theorem q4_177 : Cond.constantLong RX8 157 (2) ∈ W0 := w0_4 (i := 177) rfl rfl
theorem q4_178 : Cond.methodLink RX8 159 yX8_side ∈ W0 := w0_4 (i := 178) rfl rfl
theorem q4_179 : Cond.methodLink RX8 162 yX8_minds ∈ W0 := w0_4 (i := 179) rfl rfl
theorem q4_181 : Cond.instanceMethod yX8_minds ∈ W0 := w0_4 (i := 181) rfl rfl
theorem q4_182 : Cond.code yX8_minds cX8_minds 2 none ∈ W0 := w0_4 (i := 182) rfl rfl
theorem q4_183 : Cond.methodLink RX8 165 yX8_sets ∈ W0 := w0_4 (i := 183) rfl rfl
theorem q4_185 : Cond.instanceMethod yX8_sets ∈ W0 := w0_4 (i := 185) rfl rfl
theorem q4_186 : Cond.code yX8_sets cX8_sets 4 none ∈ W0 := w0_4 (i := 186) rfl rfl
theorem q4_187 : Cond.constantLong RX8 86 (-1) ∈ W0 := w0_4 (i := 187) rfl rfl
theorem q4_188 : Cond.methodLink RL 48 yX8_numbers ∈ W0 := w0_4 (i := 188) rfl rfl
theorem q4_189 : Cond.instanceMethod yX8_numbers ∈ W0 := w0_4 (i := 189) rfl rfl
theorem q4_190 : Cond.selects RX8 yX8_numbers yX8_numbers ∈ W0 := w0_4 (i := 190) rfl rfl
theorem q4_191 : Cond.code yX8_numbers cX8_numbers 4 (some .int) ∈ W0 := w0_4 (i := 191) rfl rfl
theorem q4_192 : Cond.constantLong RX8 169 (4) ∈ W0 := w0_4 (i := 192) rfl rfl
theorem q4_193 : Cond.methodLink RX8 171 yX8_becomes ∈ W0 := w0_4 (i := 193) rfl rfl
theorem q4_195 : Cond.instanceMethod yX8_becomes ∈ W0 := w0_4 (i := 195) rfl rfl
theorem q4_196 : Cond.code yX8_becomes cX8_becomes 4 none ∈ W0 := w0_4 (i := 196) rfl rfl
theorem q4_197 : Cond.methodLink RL 52 yX8_step ∈ W0 := w0_4 (i := 197) rfl rfl
theorem q4_198 : Cond.instanceMethod yX8_step ∈ W0 := w0_4 (i := 198) rfl rfl
theorem q4_199 : Cond.selects RX8 yX8_step yX8_step ∈ W0 := w0_4 (i := 199) rfl rfl
theorem q4_200 : Cond.code yX8_step cX8_step 1 (some .int) ∈ W0 := w0_4 (i := 200) rfl rfl
theorem q4_201 : Cond.methodLink RX8 232 yX8_hints ∈ W0 := w0_4 (i := 201) rfl rfl
theorem q4_203 : Cond.instanceMethod yX8_hints ∈ W0 := w0_4 (i := 203) rfl rfl
theorem q4_204 : Cond.code yX8_hints cX8_hints 4 none ∈ W0 := w0_4 (i := 204) rfl rfl
theorem q4_205 : Cond.methodLink RX8 228 yX8_isAt ∈ W0 := w0_4 (i := 205) rfl rfl
theorem q4_207 : Cond.instanceMethod yX8_isAt ∈ W0 := w0_4 (i := 207) rfl rfl
theorem q4_208 : Cond.code yX8_isAt cX8_isAt 3 (some .boolean) ∈ W0 := w0_4 (i := 208) rfl rfl
theorem q4_209 : Cond.methodLink RX8 216 yX8_atCells ∈ W0 := w0_4 (i := 209) rfl rfl
theorem q4_211 : Cond.instanceMethod yX8_atCells ∈ W0 := w0_4 (i := 211) rfl rfl
theorem q4_212 : Cond.code yX8_atCells cX8_atCells 7 (some .boolean) ∈ W0 := w0_4 (i := 212) rfl rfl
theorem q4_213 : Cond.methodLink RX8 187 yX8_ones ∈ W0 := w0_4 (i := 213) rfl rfl
theorem q4_214 : Cond.static yX8_ones ∈ W0 := w0_4 (i := 214) rfl rfl
theorem q4_215 : Cond.code yX8_ones cX8_ones 5 (some .int) ∈ W0 := w0_4 (i := 215) rfl rfl
theorem q4_216 : Cond.methodLink RX8 191 yX8_open ∈ W0 := w0_4 (i := 216) rfl rfl
theorem q4_218 : Cond.instanceMethod yX8_open ∈ W0 := w0_4 (i := 218) rfl rfl
theorem q4_219 : Cond.code yX8_open cX8_open 1 (some .long) ∈ W0 := w0_4 (i := 219) rfl rfl
theorem q4_220 : Cond.methodLink RX8 79 yX8_all ∈ W0 := w0_4 (i := 220) rfl rfl
theorem q4_222 : Cond.instanceMethod yX8_all ∈ W0 := w0_4 (i := 222) rfl rfl
theorem q4_223 : Cond.code yX8_all cX8_all 1 (some .long) ∈ W0 := w0_4 (i := 223) rfl rfl
theorem q4_224 : Cond.methodLink RX8 194 yX8_finds ∈ W0 := w0_4 (i := 224) rfl rfl
theorem q4_226 : Cond.instanceMethod yX8_finds ∈ W0 := w0_4 (i := 226) rfl rfl
theorem q4_227 : Cond.code yX8_finds cX8_finds 6 (some .boolean) ∈ W0 := w0_4 (i := 227) rfl rfl
theorem q4_228 : Cond.methodLink RX8 219 yX8_atPoints ∈ W0 := w0_4 (i := 228) rfl rfl
theorem q4_230 : Cond.instanceMethod yX8_atPoints ∈ W0 := w0_4 (i := 230) rfl rfl
theorem q4_231 : Cond.code yX8_atPoints cX8_atPoints 6 (some .boolean) ∈ W0 := w0_4 (i := 231) rfl rfl
theorem q4_232 : Cond.methodLink RX8 222 yX8_atChains ∈ W0 := w0_4 (i := 232) rfl rfl
theorem q4_234 : Cond.instanceMethod yX8_atChains ∈ W0 := w0_4 (i := 234) rfl rfl
theorem q4_235 : Cond.code yX8_atChains cX8_atChains 11 (some .boolean) ∈ W0 := w0_4 (i := 235) rfl rfl
theorem q4_236 : Cond.methodLink RX8 198 yX8_chain ∈ W0 := w0_4 (i := 236) rfl rfl
theorem q4_238 : Cond.instanceMethod yX8_chain ∈ W0 := w0_4 (i := 238) rfl rfl
theorem q4_239 : Cond.code yX8_chain cX8_chain 10 (some .long) ∈ W0 := w0_4 (i := 239) rfl rfl
theorem q5_0 : Cond.methodLink RX8 202 yX8_isClosed ∈ W0 := w0_5 (i := 0) rfl rfl
theorem q5_2 : Cond.instanceMethod yX8_isClosed ∈ W0 := w0_5 (i := 2) rfl rfl
theorem q5_3 : Cond.code yX8_isClosed cX8_isClosed 5 (some .boolean) ∈ W0 := w0_5 (i := 3) rfl rfl
theorem q5_4 : Cond.methodLink RX8 206 yX8_isAmiss ∈ W0 := w0_5 (i := 4) rfl rfl
theorem q5_6 : Cond.instanceMethod yX8_isAmiss ∈ W0 := w0_5 (i := 6) rfl rfl
theorem q5_7 : Cond.code yX8_isAmiss cX8_isAmiss 5 (some .boolean) ∈ W0 := w0_5 (i := 7) rfl rfl
theorem q5_8 : Cond.methodLink RX8 225 yX8_atHands ∈ W0 := w0_5 (i := 8) rfl rfl
theorem q5_10 : Cond.instanceMethod yX8_atHands ∈ W0 := w0_5 (i := 10) rfl rfl
theorem q5_11 : Cond.code yX8_atHands cX8_atHands 4 (some .boolean) ∈ W0 := w0_5 (i := 11) rfl rfl
theorem q5_12 : Cond.methodLink RX8 213 yX8_tells ∈ W0 := w0_5 (i := 12) rfl rfl
theorem q5_14 : Cond.instanceMethod yX8_tells ∈ W0 := w0_5 (i := 14) rfl rfl
theorem q5_15 : Cond.code yX8_tells cX8_tells 7 (some .int) ∈ W0 := w0_5 (i := 15) rfl rfl
theorem q5_16 : Cond.methodLink RX8 209 yX8_goes ∈ W0 := w0_5 (i := 16) rfl rfl
theorem q5_17 : Cond.static yX8_goes ∈ W0 := w0_5 (i := 17) rfl rfl
theorem q5_18 : Cond.code yX8_goes cX8_goes 7 (some .long) ∈ W0 := w0_5 (i := 18) rfl rfl
theorem q5_19 : Cond.methodLink RL 56 yX8_spreads ∈ W0 := w0_5 (i := 19) rfl rfl
theorem q5_20 : Cond.instanceMethod yX8_spreads ∈ W0 := w0_5 (i := 20) rfl rfl
theorem q5_21 : Cond.selects RX8 yX8_spreads yX8_spreads ∈ W0 := w0_5 (i := 21) rfl rfl
theorem q5_22 : Cond.code yX8_spreads cX8_spreads 2 (some .int) ∈ W0 := w0_5 (i := 22) rfl rfl
theorem q5_23 : Cond.methodLink RL 60 yX8_undo ∈ W0 := w0_5 (i := 23) rfl rfl
theorem q5_24 : Cond.instanceMethod yX8_undo ∈ W0 := w0_5 (i := 24) rfl rfl
theorem q5_25 : Cond.selects RX8 yX8_undo yX8_undo ∈ W0 := w0_5 (i := 25) rfl rfl
theorem q5_26 : Cond.code yX8_undo cX8_undo 1 (some .int) ∈ W0 := w0_5 (i := 26) rfl rfl
theorem q5_27 : Cond.methodLink RL 64 yX8_hint ∈ W0 := w0_5 (i := 27) rfl rfl
theorem q5_28 : Cond.instanceMethod yX8_hint ∈ W0 := w0_5 (i := 28) rfl rfl
theorem q5_29 : Cond.selects RX8 yX8_hint yX8_hint ∈ W0 := w0_5 (i := 29) rfl rfl
theorem q5_30 : Cond.code yX8_hint cX8_hint 2 (some .int) ∈ W0 := w0_5 (i := 30) rfl rfl
theorem q5_31 : Cond.methodLink RL 69 yX8_hinted ∈ W0 := w0_5 (i := 31) rfl rfl
theorem q5_32 : Cond.instanceMethod yX8_hinted ∈ W0 := w0_5 (i := 32) rfl rfl
theorem q5_33 : Cond.selects RX8 yX8_hinted yX8_hinted ∈ W0 := w0_5 (i := 33) rfl rfl
theorem q5_34 : Cond.code yX8_hinted cX8_hinted 1 (some .long) ∈ W0 := w0_5 (i := 34) rfl rfl
theorem q5_35 : Cond.methodLink RL 73 yX8_many ∈ W0 := w0_5 (i := 35) rfl rfl
theorem q5_36 : Cond.instanceMethod yX8_many ∈ W0 := w0_5 (i := 36) rfl rfl
theorem q5_37 : Cond.selects RX8 yX8_many yX8_many ∈ W0 := w0_5 (i := 37) rfl rfl
theorem q5_38 : Cond.code yX8_many cX8_many 2 (some .int) ∈ W0 := w0_5 (i := 38) rfl rfl
theorem q5_39 : Cond.constantLong RX8 257 (10000) ∈ W0 := w0_5 (i := 39) rfl rfl
theorem q5_40 : Cond.methodLink RX8 259 yX8_manyBut ∈ W0 := w0_5 (i := 40) rfl rfl
theorem q5_42 : Cond.instanceMethod yX8_manyBut ∈ W0 := w0_5 (i := 42) rfl rfl
theorem q5_43 : Cond.code yX8_manyBut cX8_manyBut 5 (some .int) ∈ W0 := w0_5 (i := 43) rfl rfl
theorem q5_44 : Cond.methodLink RX8 251 yX8_laysRings ∈ W0 := w0_5 (i := 44) rfl rfl
theorem q5_46 : Cond.instanceMethod yX8_laysRings ∈ W0 := w0_5 (i := 46) rfl rfl
theorem q5_47 : Cond.code yX8_laysRings cX8_laysRings 6 none ∈ W0 := w0_5 (i := 47) rfl rfl
theorem q5_48 : Cond.methodLink RX8 244 yX8_around ∈ W0 := w0_5 (i := 48) rfl rfl
theorem q5_50 : Cond.instanceMethod yX8_around ∈ W0 := w0_5 (i := 50) rfl rfl
theorem q5_51 : Cond.code yX8_around cX8_around 7 (some .long) ∈ W0 := w0_5 (i := 51) rfl rfl
theorem q5_52 : Cond.methodLink RX8 248 yX8_isRing ∈ W0 := w0_5 (i := 52) rfl rfl
theorem q5_54 : Cond.instanceMethod yX8_isRing ∈ W0 := w0_5 (i := 54) rfl rfl
theorem q5_55 : Cond.code yX8_isRing cX8_isRing 6 (some .boolean) ∈ W0 := w0_5 (i := 55) rfl rfl
theorem q5_56 : Cond.methodLink RX8 254 yX8_fits ∈ W0 := w0_5 (i := 56) rfl rfl
theorem q5_58 : Cond.instanceMethod yX8_fits ∈ W0 := w0_5 (i := 58) rfl rfl
theorem q5_59 : Cond.code yX8_fits cX8_fits 6 (some .boolean) ∈ W0 := w0_5 (i := 59) rfl rfl
theorem q5_60 : Cond.methodLink RL 78 yX8_loop ∈ W0 := w0_5 (i := 60) rfl rfl
theorem q5_61 : Cond.instanceMethod yX8_loop ∈ W0 := w0_5 (i := 61) rfl rfl
theorem q5_62 : Cond.selects RX8 yX8_loop yX8_loop ∈ W0 := w0_5 (i := 62) rfl rfl
theorem q5_63 : Cond.code yX8_loop cX8_loop 2 (some .long) ∈ W0 := w0_5 (i := 63) rfl rfl
theorem q5_64 : Cond.constantLong RX8 264 (9999) ∈ W0 := w0_5 (i := 64) rfl rfl
theorem q5_65 : Cond.methodLink RX8 266 yX8_loopAt ∈ W0 := w0_5 (i := 65) rfl rfl
theorem q5_67 : Cond.instanceMethod yX8_loopAt ∈ W0 := w0_5 (i := 67) rfl rfl
theorem q5_68 : Cond.code yX8_loopAt cX8_loopAt 4 (some .long) ∈ W0 := w0_5 (i := 68) rfl rfl
theorem q5_69 : Cond.constantLong RX8 262 (-9) ∈ W0 := w0_5 (i := 69) rfl rfl
theorem q5_70 : Cond.methodLink RL 82 yX8_forced ∈ W0 := w0_5 (i := 70) rfl rfl
theorem q5_71 : Cond.instanceMethod yX8_forced ∈ W0 := w0_5 (i := 71) rfl rfl
theorem q5_72 : Cond.selects RX8 yX8_forced yX8_forced ∈ W0 := w0_5 (i := 72) rfl rfl
theorem q5_73 : Cond.code yX8_forced cX8_forced 8 (some .long) ∈ W0 := w0_5 (i := 73) rfl rfl
theorem q5_74 : Cond.methodLink RL 86 yX8_inside ∈ W0 := w0_5 (i := 74) rfl rfl
theorem q5_75 : Cond.instanceMethod yX8_inside ∈ W0 := w0_5 (i := 75) rfl rfl
theorem q5_76 : Cond.selects RX8 yX8_inside yX8_inside ∈ W0 := w0_5 (i := 76) rfl rfl
theorem q5_77 : Cond.code yX8_inside cX8_inside 8 (some .int) ∈ W0 := w0_5 (i := 77) rfl rfl
theorem q5_78 : Cond.methodLink RL 90 yX8_numbersThat ∈ W0 := w0_5 (i := 78) rfl rfl
theorem q5_79 : Cond.instanceMethod yX8_numbersThat ∈ W0 := w0_5 (i := 79) rfl rfl
theorem q5_80 : Cond.selects RX8 yX8_numbersThat yX8_numbersThat ∈ W0 := w0_5 (i := 80) rfl rfl
theorem q5_81 : Cond.code yX8_numbersThat cX8_numbersThat 6 (some .int) ∈ W0 := w0_5 (i := 81) rfl rfl
theorem q5_82 : Cond.methodLink RL 94 yX8_tryNext ∈ W0 := w0_5 (i := 82) rfl rfl
theorem q5_83 : Cond.instanceMethod yX8_tryNext ∈ W0 := w0_5 (i := 83) rfl rfl
theorem q5_84 : Cond.selects RX8 yX8_tryNext yX8_tryNext ∈ W0 := w0_5 (i := 84) rfl rfl
theorem q5_85 : Cond.code yX8_tryNext cX8_tryNext 6 (some .int) ∈ W0 := w0_5 (i := 85) rfl rfl
theorem q5_86 : Cond.methodLink RL 98 yX8_keep ∈ W0 := w0_5 (i := 86) rfl rfl
theorem q5_87 : Cond.instanceMethod yX8_keep ∈ W0 := w0_5 (i := 87) rfl rfl
theorem q5_88 : Cond.selects RX8 yX8_keep yX8_keep ∈ W0 := w0_5 (i := 88) rfl rfl
theorem q5_89 : Cond.code yX8_keep cX8_keep 2 (some .int) ∈ W0 := w0_5 (i := 89) rfl rfl
theorem q5_90 : Cond.methodLink RL 102 yX8_back ∈ W0 := w0_5 (i := 90) rfl rfl
theorem q5_91 : Cond.instanceMethod yX8_back ∈ W0 := w0_5 (i := 91) rfl rfl
theorem q5_92 : Cond.selects RX8 yX8_back yX8_back ∈ W0 := w0_5 (i := 92) rfl rfl
theorem q5_93 : Cond.code yX8_back cX8_back 2 (some .int) ∈ W0 := w0_5 (i := 93) rfl rfl
theorem q5_94 : Cond.methodLink RL 106 yX8_count ∈ W0 := w0_5 (i := 94) rfl rfl
theorem q5_95 : Cond.instanceMethod yX8_count ∈ W0 := w0_5 (i := 95) rfl rfl
theorem q5_96 : Cond.selects RX8 yX8_count yX8_count ∈ W0 := w0_5 (i := 96) rfl rfl
theorem q5_97 : Cond.code yX8_count cX8_count 2 (some .int) ∈ W0 := w0_5 (i := 97) rfl rfl
theorem q5_98 : Cond.methodLink RX8 269 yX8_numbered ∈ W0 := w0_5 (i := 98) rfl rfl
theorem q5_100 : Cond.instanceMethod yX8_numbered ∈ W0 := w0_5 (i := 100) rfl rfl
theorem q5_101 : Cond.code yX8_numbered cX8_numbered 3 (some .int) ∈ W0 := w0_5 (i := 101) rfl rfl
theorem qs1_0 : Cond.selects RX4 yX4_layCells yX4_layCells ∈ W0 := w0_s1 (i := 0) rfl
theorem qs1_1 : Cond.selects RX4 yX4_lying yX4_lying ∈ W0 := w0_s1 (i := 1) rfl
theorem qs1_2 : Cond.selects RX4 yX4_layCellSide yX4_layCellSide ∈ W0 := w0_s1 (i := 2) rfl
theorem qs1_3 : Cond.selects RX4 yX4_standing yX4_standing ∈ W0 := w0_s1 (i := 3) rfl
theorem qs1_4 : Cond.selects RX4 yX4_layPoints yX4_layPoints ∈ W0 := w0_s1 (i := 4) rfl
theorem qs1_5 : Cond.selects RX4 yX4_layPointSide yX4_layPointSide ∈ W0 := w0_s1 (i := 5) rfl
theorem qs1_6 : Cond.selects RX4 yX4_layBesides yX4_layBesides ∈ W0 := w0_s1 (i := 6) rfl
theorem qs1_7 : Cond.selects RX4 yX4_laySettled yX4_laySettled ∈ W0 := w0_s1 (i := 7) rfl
theorem qs1_8 : Cond.selects RX4 yX4_layCorners yX4_layCorners ∈ W0 := w0_s1 (i := 8) rfl
theorem qs1_9 : Cond.selects RX6 yX6_endsRow yX6_endsRow ∈ W0 := w0_s1 (i := 9) rfl
theorem qs1_10 : Cond.selects RX6 yX6_fitsRow yX6_fitsRow ∈ W0 := w0_s1 (i := 10) rfl
theorem qs1_11 : Cond.selects RX7 yX7_beforeChange yX7_beforeChange ∈ W0 := w0_s1 (i := 11) rfl
theorem qs1_12 : Cond.selects RX3 yX3_lookAtCell yX3_lookAtCell ∈ W0 := w0_s1 (i := 12) rfl
theorem qs1_13 : Cond.selects RX3 yX3_openOf yX3_openOf ∈ W0 := w0_s1 (i := 13) rfl
theorem qs1_14 : Cond.selects RX3 yX3_tell yX3_tell ∈ W0 := w0_s1 (i := 14) rfl
theorem qs1_15 : Cond.selects RX3 yX3_lookAtPoint yX3_lookAtPoint ∈ W0 := w0_s1 (i := 15) rfl
theorem qs2_0 : Cond.selects RX3 yX3_lookAtChain yX3_lookAtChain ∈ W0 := w0_s2 (i := 0) rfl
theorem qs2_1 : Cond.selects RX3 yX3_othersThan yX3_othersThan ∈ W0 := w0_s2 (i := 1) rfl
theorem qs2_2 : Cond.selects RX3 yX3_isClosed yX3_isClosed ∈ W0 := w0_s2 (i := 2) rfl
theorem qs2_3 : Cond.selects RX3 yX3_chainThatWouldClose yX3_chainThatWouldClose ∈ W0 := w0_s2 (i := 3) rfl
theorem qs2_4 : Cond.selects RX3 yX3_missesNumber yX3_missesNumber ∈ W0 := w0_s2 (i := 4) rfl
theorem qs2_5 : Cond.selects RX3 yX3_lookAtHands yX3_lookAtHands ∈ W0 := w0_s2 (i := 5) rfl
theorem qs2_6 : Cond.selects RX3 yX3_waysPast yX3_waysPast ∈ W0 := w0_s2 (i := 6) rfl
theorem qs2_7 : Cond.selects RX3 yX3_nextOnWay yX3_nextOnWay ∈ W0 := w0_s2 (i := 7) rfl
theorem qs2_8 : Cond.selects RX7 yX7_follow yX7_follow ∈ W0 := w0_s2 (i := 8) rfl
theorem qs2_9 : Cond.selects RX7 yX7_searchLoops yX7_searchLoops ∈ W0 := w0_s2 (i := 9) rfl
theorem qs2_10 : Cond.selects RX1 yX1_takeRing yX1_takeRing ∈ W0 := w0_s2 (i := 10) rfl
theorem qs2_11 : Cond.selects RX1 yX1_fits yX1_fits ∈ W0 := w0_s2 (i := 11) rfl
theorem qs2_12 : Cond.selects RX1 yX1_fitsNumber yX1_fitsNumber ∈ W0 := w0_s2 (i := 12) rfl
theorem qs2_13 : Cond.selects RX7 yX7_openSides yX7_openSides ∈ W0 := w0_s2 (i := 13) rfl
theorem qs2_14 : Cond.selects RX7 yX7_cellsWithNumber yX7_cellsWithNumber ∈ W0 := w0_s2 (i := 14) rfl
theorem qs2_15 : Cond.selects RX8 yX8_laysGrid yX8_laysGrid ∈ W0 := w0_s2 (i := 15) rfl
theorem qs3_0 : Cond.selects RX8 yX8_lying yX8_lying ∈ W0 := w0_s3 (i := 0) rfl
theorem qs3_1 : Cond.selects RX8 yX8_cellAt yX8_cellAt ∈ W0 := w0_s3 (i := 1) rfl
theorem qs3_2 : Cond.selects RX8 yX8_joins yX8_joins ∈ W0 := w0_s3 (i := 2) rfl
theorem qs3_3 : Cond.selects RX8 yX8_standing yX8_standing ∈ W0 := w0_s3 (i := 3) rfl
theorem qs3_4 : Cond.selects RX8 yX8_reads yX8_reads ∈ W0 := w0_s3 (i := 4) rfl
theorem qs3_5 : Cond.selects RX8 yX8_isMore yX8_isMore ∈ W0 := w0_s3 (i := 5) rfl
theorem qs3_6 : Cond.selects RX8 yX8_readsRow yX8_readsRow ∈ W0 := w0_s3 (i := 6) rfl
theorem qs3_7 : Cond.selects RX8 yX8_isSign yX8_isSign ∈ W0 := w0_s3 (i := 7) rfl
theorem qs3_8 : Cond.selects RX8 yX8_isCell yX8_isCell ∈ W0 := w0_s3 (i := 8) rfl
theorem qs3_9 : Cond.selects RX8 yX8_numberAt yX8_numberAt ∈ W0 := w0_s3 (i := 9) rfl
theorem qs3_10 : Cond.selects RX8 yX8_isSide yX8_isSide ∈ W0 := w0_s3 (i := 10) rfl
theorem qs3_11 : Cond.selects RX8 yX8_points yX8_points ∈ W0 := w0_s3 (i := 11) rfl
theorem qs3_12 : Cond.selects RX8 yX8_sideOfCell yX8_sideOfCell ∈ W0 := w0_s3 (i := 12) rfl
theorem qs3_13 : Cond.selects RX8 yX8_sideOfPoint yX8_sideOfPoint ∈ W0 := w0_s3 (i := 13) rfl
theorem qs3_14 : Cond.selects RX8 yX8_minds yX8_minds ∈ W0 := w0_s3 (i := 14) rfl
theorem qs3_15 : Cond.selects RX8 yX8_sets yX8_sets ∈ W0 := w0_s3 (i := 15) rfl
theorem qs4_0 : Cond.selects RX8 yX8_becomes yX8_becomes ∈ W0 := w0_s4 (i := 0) rfl
theorem qs4_1 : Cond.selects RX8 yX8_hints yX8_hints ∈ W0 := w0_s4 (i := 1) rfl
theorem qs4_2 : Cond.selects RX8 yX8_isAt yX8_isAt ∈ W0 := w0_s4 (i := 2) rfl
theorem qs4_3 : Cond.selects RX8 yX8_atCells yX8_atCells ∈ W0 := w0_s4 (i := 3) rfl
theorem qs4_4 : Cond.selects RX8 yX8_open yX8_open ∈ W0 := w0_s4 (i := 4) rfl
theorem qs4_5 : Cond.selects RX8 yX8_all yX8_all ∈ W0 := w0_s4 (i := 5) rfl
theorem qs4_6 : Cond.selects RX8 yX8_finds yX8_finds ∈ W0 := w0_s4 (i := 6) rfl
theorem qs4_7 : Cond.selects RX8 yX8_atPoints yX8_atPoints ∈ W0 := w0_s4 (i := 7) rfl
theorem qs4_8 : Cond.selects RX8 yX8_atChains yX8_atChains ∈ W0 := w0_s4 (i := 8) rfl
theorem qs4_9 : Cond.selects RX8 yX8_chain yX8_chain ∈ W0 := w0_s4 (i := 9) rfl
theorem qs4_10 : Cond.selects RX8 yX8_isClosed yX8_isClosed ∈ W0 := w0_s4 (i := 10) rfl
theorem qs4_11 : Cond.selects RX8 yX8_isAmiss yX8_isAmiss ∈ W0 := w0_s4 (i := 11) rfl
theorem qs4_12 : Cond.selects RX8 yX8_atHands yX8_atHands ∈ W0 := w0_s4 (i := 12) rfl
theorem qs4_13 : Cond.selects RX8 yX8_tells yX8_tells ∈ W0 := w0_s4 (i := 13) rfl
theorem qs4_14 : Cond.selects RX8 yX8_manyBut yX8_manyBut ∈ W0 := w0_s4 (i := 14) rfl
theorem qs4_15 : Cond.selects RX8 yX8_laysRings yX8_laysRings ∈ W0 := w0_s4 (i := 15) rfl
theorem qs5_0 : Cond.selects RX8 yX8_around yX8_around ∈ W0 := w0_s5 (i := 0) rfl
theorem qs5_1 : Cond.selects RX8 yX8_isRing yX8_isRing ∈ W0 := w0_s5 (i := 1) rfl
theorem qs5_2 : Cond.selects RX8 yX8_fits yX8_fits ∈ W0 := w0_s5 (i := 2) rfl
theorem qs5_3 : Cond.selects RX8 yX8_loopAt yX8_loopAt ∈ W0 := w0_s5 (i := 3) rfl
theorem qs5_4 : Cond.selects RX8 yX8_numbered yX8_numbered ∈ W0 := w0_s5 (i := 4) rfl
end
section
/-! own words: the world's tables, contracts of one shape, calls -/
def nwL : List Cond := [.methodLinkNest RX7 9 yX6_init "NumberedLoops", .methodLinkNest RX7 18 yX4_init "NumberedLoops", .methodLinkNest RX7 25 yX0_init "NumberedLoops", .methodLinkNest RX7 32 yX2_init "NumberedLoops", .methodLinkNest RX4 108 yX7_put "NumberedLoops", .methodLinkNest RX4 98 yX7_bit "NumberedLoops", .methodLinkNest RX4 101 yX7_put_ "NumberedLoops", .methodLinkNest RX4 132 yX7_at "NumberedLoops", .methodLinkNest RX6 29 yX7_at "NumberedLoops", .methodLinkNest RX0 21 yX7_bit "NumberedLoops", .methodLinkNest RX5 40 yX7_put_ "NumberedLoops", .methodLinkNest RX5 48 yX7_put "NumberedLoops", .methodLinkNest RX3 105 yX7_bit "NumberedLoops", .methodLinkNest RX5 51 yX7_at_ "NumberedLoops", .methodLinkNest RX1 72 yX7_bit "NumberedLoops", .methodLinkNest RX1 51 yX7_at_ "NumberedLoops", .methodLinkNest RX5 29 yX7_at "NumberedLoops"]
def nw (U : State) : Prop := ∀ w ∈ nwL, va_Nw w U
theorem nw_tab : ∀ w ∈ nwL, w.onTables = true := by decide +kernel
theorem nw.warm {s U : State} (hW : s.WarmedH U.vm) (h : nw s) : nw U := by
  intro w hw
  have h1 := h w hw
  simp only [nwL, List.mem_cons, List.not_mem_nil, or_false] at hw
  rcases hw with rfl | rfl | rfl | rfl | rfl | rfl | rfl | rfl | rfl | rfl | rfl | rfl | rfl | rfl | rfl | rfl | rfl <;> exact va_Nw.warmM hW h1
def kk (D : va_G) (cI cL cZ : ClassId) (U : State) : Prop := va_K D vwCl [(cI, .int), (cL, .long), (cZ, .boolean)] U ∧ nw U
theorem kk.warm {D : va_G} {cI cL cZ : ClassId} {s U : State} (hW : s.WarmedH U.vm) (h : kk D cI cL cZ s) : kk D cI cL cZ U := ⟨va_K.moved hW.alike h.1, h.2.warm hW⟩
theorem kk.calling {D : va_G} {cI cL cZ : ClassId} {U : State} {g : JFrame} {mk : MethodId} {a : Array Value} (h : kk D cI cL cZ U) : kk D cI cL cZ (U.calling g mk a) := ⟨va_K.moved (u := U) (U := U.calling g mk a) (Vm.Alike.refl U.vm) h.1, fun w hw => va_Nw.same (nw_tab w hw) (u := U) (U := U.calling g mk a) rfl (h.2 w hw)⟩
def pW (D : va_G) (cI cL cZ : ClassId) (ws : va_W) (U : State) : Prop := va_P D vwCl ws U.heap ∧ kk D cI cL cZ U
theorem pW.blind {D : va_G} {cI cL cZ : ClassId} {ws : va_W} {av : List Value} : FrameBlind (va_Pc av (pW D cI cL cZ ws)) := fun _ _ _ _ q => ⟨q.1, q.2.1, q.2.2.calling⟩
theorem pW.pre {D : va_G} {cI cL cZ : ClassId} {ws : va_W} {s : State} {H : Heap} (hP : va_P D vwCl ws H) (hk : kk D cI cL cZ s) {av : List Value} : ∀ U : State, U.heap = H → s.WarmedH U.vm → va_Pc av (pW D cI cL cZ ws) av.toArray U := fun U hU hW => ⟨rfl, by rw [hU]; exact hP, hk.warm hW⟩
def bz (r : Int32) : Prop := narrow .boolean (.int r) = .int r
abbrev qI (D : va_G) (A : Nat → Prop) (v : Int32) (w : va_W) : Array Value → State → Outcome → State → Prop := va_Qi (fun (r : Int32) (_ : Unit) => r = v) (fun _ t => va_P D vwCl w t.heap) A
abbrev qZ (D : va_G) (A : Nat → Prop) (v : Int32) (w : va_W) : Array Value → State → Outcome → State → Prop := va_Qi (fun (r : Int32) (_ : Unit) => r = v ∧ bz r) (fun _ t => va_P D vwCl w t.heap) A
abbrev qL (D : va_G) (A : Nat → Prop) (v : Int64) (w : va_W) : Array Value → State → Outcome → State → Prop := va_Ql (fun (r : Int64) (_ : Unit) => r = v) (fun _ t => va_P D vwCl w t.heap) A
abbrev qV (D : va_G) (A : Nat → Prop) (w : va_W) : Array Value → State → Outcome → State → Prop := va_Qv (fun (_ : Unit) => True) (fun _ t => va_P D vwCl w t.heap) A
abbrev rmS (fr lo : Nat) : Room := { frames := fr, cells := 0, slots := 0, locals := lo }
abbrev MI (l : Launch) (y : MethodName) (wy : List Cond) (fr lo : Nat) (D : va_G) (cI cL cZ : ClassId) (A : Nat → Prop) (av : List Value) (w0 : va_W) (v : Int32) (w1 : va_W) : Prop := Met l y wy (rmS fr lo) (va_Pc av (pW D cI cL cZ w0)) (qI D A v w1) 0 0 A
abbrev MZ (l : Launch) (y : MethodName) (wy : List Cond) (fr lo : Nat) (D : va_G) (cI cL cZ : ClassId) (A : Nat → Prop) (av : List Value) (w0 : va_W) (v : Int32) (w1 : va_W) : Prop := Met l y wy (rmS fr lo) (va_Pc av (pW D cI cL cZ w0)) (qZ D A v w1) 0 0 A
abbrev ML (l : Launch) (y : MethodName) (wy : List Cond) (fr lo : Nat) (D : va_G) (cI cL cZ : ClassId) (A : Nat → Prop) (av : List Value) (w0 : va_W) (v : Int64) (w1 : va_W) : Prop := Met l y wy (rmS fr lo) (va_Pc av (pW D cI cL cZ w0)) (qL D A v w1) 0 0 A
abbrev MV (l : Launch) (y : MethodName) (wy : List Cond) (fr lo : Nat) (D : va_G) (cI cL cZ : ClassId) (A : Nat → Prop) (av : List Value) (w0 w1 : va_W) : Prop := Met l y wy (rmS fr lo) (va_Pc av (pW D cI cL cZ w0)) (qV D A w1) 0 0 A
/-- what a walk stands on -/
def Cx (p : Program) (s : State) (m : MethodId) (args : Array Value) (meth : Method) (c : Code) (cc : ByteArray) (nL : Nat) (ret : Option FieldType) (Ts : List Cond) (own : String) (D : va_G) (cI cL cZ : ClassId) : Prop :=
  p.tables.exec = Jvm.exec ∧ c.code = cc ∧ c.maxLocals = nL ∧ meth.sig.returnType = ret ∧ meth.locks = false ∧ s.vm.findClass own = some m.cls ∧ (∀ w ∈ Ts, w.before args s = true) ∧ kk D cI cL cZ s
theorem mk_start {l : Launch} {y : MethodName} {ws' : List Cond} {rm : Room} {D : va_G} {cI cL cZ : ClassId} {w0 : va_W} {av : List Value} {Qc : Array Value → State → Outcome → State → Prop} {A : Addr → Prop} {cc : ByteArray} {maxL : Nat} {ret : Option FieldType}
    (hy : plainName y.cls = true) (hw : Cond.code y cc maxL ret :: ws' = Cond.code y cc maxL ret :: ws') (hn : (lg_sl av).length ≤ maxL)
    (body : ∀ (p : Program) (e : Env) (s : State) (m : MethodId) (below : List Frame) (meth : Method) (c : Code) (ls : Array Slot), Cx p s m av.toArray meth c cc maxL ret ws' y.cls D cI cL cZ → va_P D vwCl w0 s.heap → va_S A s.heap s.heap [] → lv_has ls maxL (lv_args 0 av) → W p l e rm s m av.toArray below meth c s.heap [] 0 0 (MQ below Qc av.toArray s 0 0 A) (F0 m 0 ls [])) :
    Met l y (Cond.code y cc maxL ret :: ws') rm (va_Pc av (pW D cI cL cZ w0)) Qc 0 0 A := by
  refine Met.ofW (cc := cc) (maxL := maxL) (ret := ret) hy hw ?_
  intro p e s m args below meth c s₁ B hml hv
  obtain ⟨rfl, hP, hk⟩ := hv
  rw [lg_entry_eq]
  exact body p e s m below meth c _ ⟨B.exec, B.bytes, hml, B.returns, B.notSynchronized, findClass_of_methodNamed B.named, fun w hw1 => atoms_spec (ws := Cond.code y cc maxL ret :: ws') B.pre w (List.mem_cons_of_mem _ hw1), hk⟩ hP va_S.rf (lv_entry av (n := maxL) hn)
theorem va_P.same {D : va_G} {cl : List vw_C} {ws : va_W} {H H1 : Heap} (h : va_P D cl ws H) (hk : ∀ q : Nat, q < H.size → H1[q]? = H[q]?) : va_P D cl ws H1 := fun k q hq => (h k q hq).kept (hk q.1 (h k q hq).lt)
section OW
variable {p : Program} {l : Launch} {e : Env} {R : Room} {s : State} {m : MethodId} {args : Array Value} {below : List Frame} {meth : Method} {c : Code} {H H0 : Heap} {locs : List Loc} {cells slots : Nat} {Q : State → Prop}
variable {D : va_G} {cI cL cZ : ClassId} {w0 w1 : va_W} {A A0 A1 : Nat → Prop} {pc : Nat} {ls : Array Slot} {st0 rest As : List Value} {cc bytes : ByteArray} {nL maxL n index : Nat} {ret : Option FieldType} {wy Ts : List Cond} {rm : Room} {y : MethodName} {own C host : String} {b : Addr} {a0 : Array Value}
theorem ret_i {v : Int32} (hx : p.tables.exec = Jvm.exec) (hb : c.code = cc) (hr : meth.sig.returnType = some .int) (hlocks : meth.locks = false) (hP : va_P D vwCl w1 H) (hS : va_S A s.heap H locs) (hdg : decode cc pc = .ok (.ireturn, 1)) : W p l e R s m args below meth c H locs cells slots (MQ below (qI D A v w1) args s cells slots A) (F0 m pc ls [.int v]) :=
  W.iret hx hb hr (fun t ht _ => ⟨⟨v, (), rfl, rfl, by subst ht; exact hP⟩, hS.F ht⟩) hS.2.2 hdg (hlocks := hlocks)
theorem ret_z {v : Int32} (hx : p.tables.exec = Jvm.exec) (hb : c.code = cc) (hr : meth.sig.returnType = some .boolean) (hlocks : meth.locks = false) (hz : bz v) (hP : va_P D vwCl w1 H) (hS : va_S A s.heap H locs) (hdg : decode cc pc = .ok (.ireturn, 1)) : W p l e R s m args below meth c H locs cells slots (MQ below (qZ D A v w1) args s cells slots A) (F0 m pc ls [.int v]) :=
  W.zret hx hb hr hz (fun t ht _ => ⟨⟨v, (), rfl, ⟨rfl, hz⟩, by subst ht; exact hP⟩, hS.F ht⟩) hS.2.2 hdg (hlocks := hlocks)
theorem ret_l {v : Int64} (hx : p.tables.exec = Jvm.exec) (hb : c.code = cc) (hr : meth.sig.returnType = some .long) (hlocks : meth.locks = false) (hP : va_P D vwCl w1 H) (hS : va_S A s.heap H locs) (hdg : decode cc pc = .ok (.lreturn, 1)) : W p l e R s m args below meth c H locs cells slots (MQ below (qL D A v w1) args s cells slots A) (F0 m pc ls [.long v]) :=
  W.lret hx hb hr (fun t ht _ => ⟨⟨v, (), rfl, rfl, by subst ht; exact hP⟩, hS.F ht⟩) hS.2.2 hdg (hlocks := hlocks)
theorem ret_v (hx : p.tables.exec = Jvm.exec) (hb : c.code = cc) (hr : meth.sig.returnType = none) (hlocks : meth.locks = false) (hP : va_P D vwCl w1 H) (hS : va_S A s.heap H locs) (hdg : decode cc pc = .ok (.return_, 1)) : W p l e R s m args below meth c H locs cells slots (MQ below (qV D A w1) args s cells slots A) (F0 m pc ls []) :=
  W.vret hx hb hr (fun t ht _ => ⟨⟨(), rfl, trivial, by subst ht; exact hP⟩, hS.F ht⟩) hS.2.2 hdg (hlocks := hlocks)
theorem go_i {v : Int32} (hr : va_Run p l e R s m args below meth c H locs cells slots 0 0 (F0 m pc ls st0) rest (qI D A1 v w1 a0) A1) (hS : va_S A0 H0 H locs) (hA : ∀ q, A1 q → A0 q)
    (k : ∀ (H1 : Heap) (locs1 : List Loc), va_P D vwCl w1 H1 → va_S A0 H0 H1 locs1 → W p l e R s m args below meth c H1 locs1 cells slots Q (F0 m (pc + 3) ls (.int v :: rest))) : W p l e R s m args below meth c H locs cells slots Q (F0 m pc ls st0) :=
  va_calli hr hS (fun q _ h => hA q h) hA (fun r u t H1 locs1 ht _ hw hB _ _ hS1 => by
    subst hw
    rw [ht] at hB
    exact k H1 locs1 hB hS1)
theorem go_z {v : Int32} (hr : va_Run p l e R s m args below meth c H locs cells slots 0 0 (F0 m pc ls st0) rest (qZ D A1 v w1 a0) A1) (hS : va_S A0 H0 H locs) (hA : ∀ q, A1 q → A0 q)
    (k : ∀ (H1 : Heap) (locs1 : List Loc), bz v → va_P D vwCl w1 H1 → va_S A0 H0 H1 locs1 → W p l e R s m args below meth c H1 locs1 cells slots Q (F0 m (pc + 3) ls (.int v :: rest))) : W p l e R s m args below meth c H locs cells slots Q (F0 m pc ls st0) :=
  va_calli hr hS (fun q _ h => hA q h) hA (fun r u t H1 locs1 ht _ hw hB _ _ hS1 => by
    obtain ⟨hw, hz⟩ := hw
    subst hw
    rw [ht] at hB
    exact k H1 locs1 hz hB hS1)
theorem go_l {v : Int64} (hr : va_Run p l e R s m args below meth c H locs cells slots 0 0 (F0 m pc ls st0) rest (qL D A1 v w1 a0) A1) (hS : va_S A0 H0 H locs) (hA : ∀ q, A1 q → A0 q)
    (k : ∀ (H1 : Heap) (locs1 : List Loc), va_P D vwCl w1 H1 → va_S A0 H0 H1 locs1 → W p l e R s m args below meth c H1 locs1 cells slots Q (F0 m (pc + 3) ls (.long v :: rest))) : W p l e R s m args below meth c H locs cells slots Q (F0 m pc ls st0) :=
  va_calll hr hS (fun q _ h => hA q h) hA (fun r u t H1 locs1 ht _ hw hB _ _ hS1 => by
    subst hw
    rw [ht] at hB
    exact k H1 locs1 hB hS1)
theorem go_v (hr : va_Run p l e R s m args below meth c H locs cells slots 0 0 (F0 m pc ls st0) rest (qV D A1 w1 a0) A1) (hS : va_S A0 H0 H locs) (hA : ∀ q, A1 q → A0 q)
    (k : ∀ (H1 : Heap) (locs1 : List Loc), va_P D vwCl w1 H1 → va_S A0 H0 H1 locs1 → W p l e R s m args below meth c H1 locs1 cells slots Q (F0 m (pc + 3) ls rest)) : W p l e R s m args below meth c H locs cells slots Q (F0 m pc ls st0) :=
  va_callv hr hS (fun q _ h => hA q h) hA (fun u t H1 locs1 ht _ _ hB _ _ hS1 => by
    rw [ht] at hB
    exact k H1 locs1 hB hS1)
variable {Qc : Array Value → State → Outcome → State → Prop}
/-- an instance method's run -/
theorem ru_V (S : CallFix p m c cc nL s args Ts own) (hk : kk D cI cL cZ s) (hP : va_P D vwCl w0 H) (hM : Met l y wy rm (va_Pc (.ref b :: As) (pW D cI cL cZ w0)) Qc 0 0 A1) (cw : CallW R s args own C index y bytes maxL ret wy rm 0 0 n) (hr : ∃ cellB : Cell, H[b]? = some cellB ∧ cellB.vm.isStatics = false ∧ s.vm.findClass C = some cellB.cls) (hn : As.length = n) (hsize : ls.size = nL) (hst : st0 = As.reverse ++ .ref b :: rest) (hroom : (rest.map fun v => v.category).sum ≤ 8) (hdg : decode cc pc = .ok (.invokevirtual index, 3)) (hf : cells ≤ R.cells ∧ slots ≤ R.slots) :
    va_Run p l e R s m args below meth c H locs cells slots 0 0 (F0 m pc ls st0) rest (Qc (Value.ref b :: As).toArray) A1 :=
  va_runV (As := As) (rest := rest) S hM cw ⟨pW.blind, hr, pW.pre hP hk⟩ rfl hn hsize hst (lv_room hroom) hdg hf
theorem ru_S (S : CallFix p m c cc nL s args Ts own) (hk : kk D cI cL cZ s) (hP : va_P D vwCl w0 H) (hM : Met l y wy rm (va_Pc As (pW D cI cL cZ w0)) Qc 0 0 A1) (cw : CallB R s args own index y bytes maxL ret wy rm 0 0 n ∧ (Cond.static y).before args s = true) (hn : As.length = n) (hsize : ls.size = nL) (hst : st0 = As.reverse ++ rest) (hroom : (rest.map fun v => v.category).sum ≤ 8) (hdg : decode cc pc = .ok (.invokestatic index, 3)) (hf : cells ≤ R.cells ∧ slots ≤ R.slots) :
    va_Run p l e R s m args below meth c H locs cells slots 0 0 (F0 m pc ls st0) rest (Qc As.toArray) A1 :=
  va_runS (As := As) (rest := rest) S hM cw ⟨pW.blind, pW.pre hP hk⟩ rfl hn hsize hst (lv_room hroom) hdg hf
theorem ru_N (S : CallFix p m c cc nL s args Ts own) (hk : kk D cI cL cZ s) (hP : va_P D vwCl w0 H) (hM : Met l y wy rm (va_Pc As (pW D cI cL cZ w0)) Qc 0 0 A1) (cw : va_CN R s args own index y host bytes maxL ret wy rm 0 0 n ∧ (Cond.static y).before args s = true ∧ True) (hn : As.length = n) (hsize : ls.size = nL) (hst : st0 = As.reverse ++ rest) (hroom : (rest.map fun v => v.category).sum ≤ 8) (hdg : decode cc pc = .ok (.invokestatic index, 3)) (hf : cells ≤ R.cells ∧ slots ≤ R.slots) :
    va_Run p l e R s m args below meth c H locs cells slots 0 0 (F0 m pc ls st0) rest (Qc As.toArray) A1 :=
  va_runSN (As := As) (rest := rest) S hM cw ⟨pW.blind, pW.pre hP hk⟩ rfl hn hsize hst (lv_room hroom) hdg hf
end OW
end
section
theorem nwm_X7_9 : Cond.methodLinkNest RX7 9 yX6_init "NumberedLoops" ∈ nwL := List.mem_of_getElem? (i := 0) rfl
theorem nwm_X7_18 : Cond.methodLinkNest RX7 18 yX4_init "NumberedLoops" ∈ nwL := List.mem_of_getElem? (i := 1) rfl
theorem nwm_X7_25 : Cond.methodLinkNest RX7 25 yX0_init "NumberedLoops" ∈ nwL := List.mem_of_getElem? (i := 2) rfl
theorem nwm_X7_32 : Cond.methodLinkNest RX7 32 yX2_init "NumberedLoops" ∈ nwL := List.mem_of_getElem? (i := 3) rfl
theorem nwm_X4_108 : Cond.methodLinkNest RX4 108 yX7_put "NumberedLoops" ∈ nwL := List.mem_of_getElem? (i := 4) rfl
theorem nwm_X4_98 : Cond.methodLinkNest RX4 98 yX7_bit "NumberedLoops" ∈ nwL := List.mem_of_getElem? (i := 5) rfl
theorem nwm_X4_101 : Cond.methodLinkNest RX4 101 yX7_put_ "NumberedLoops" ∈ nwL := List.mem_of_getElem? (i := 6) rfl
theorem nwm_X4_132 : Cond.methodLinkNest RX4 132 yX7_at "NumberedLoops" ∈ nwL := List.mem_of_getElem? (i := 7) rfl
theorem nwm_X6_29 : Cond.methodLinkNest RX6 29 yX7_at "NumberedLoops" ∈ nwL := List.mem_of_getElem? (i := 8) rfl
theorem nwm_X0_21 : Cond.methodLinkNest RX0 21 yX7_bit "NumberedLoops" ∈ nwL := List.mem_of_getElem? (i := 9) rfl
theorem nwm_X5_40 : Cond.methodLinkNest RX5 40 yX7_put_ "NumberedLoops" ∈ nwL := List.mem_of_getElem? (i := 10) rfl
theorem nwm_X5_48 : Cond.methodLinkNest RX5 48 yX7_put "NumberedLoops" ∈ nwL := List.mem_of_getElem? (i := 11) rfl
theorem nwm_X3_105 : Cond.methodLinkNest RX3 105 yX7_bit "NumberedLoops" ∈ nwL := List.mem_of_getElem? (i := 12) rfl
theorem nwm_X5_51 : Cond.methodLinkNest RX5 51 yX7_at_ "NumberedLoops" ∈ nwL := List.mem_of_getElem? (i := 13) rfl
theorem nwm_X1_72 : Cond.methodLinkNest RX1 72 yX7_bit "NumberedLoops" ∈ nwL := List.mem_of_getElem? (i := 14) rfl
theorem nwm_X1_51 : Cond.methodLinkNest RX1 51 yX7_at_ "NumberedLoops" ∈ nwL := List.mem_of_getElem? (i := 15) rfl
theorem nwm_X5_29 : Cond.methodLinkNest RX5 29 yX7_at "NumberedLoops" ∈ nwL := List.mem_of_getElem? (i := 16) rfl
def bd {α β : Type} (a : α) (k : α → β) : β := k a
theorem bd_eq {α β : Type} {a u : α} {k : α → β} (h : a = u) : bd a k = k u := by subst h; rfl
def ushrI (x y : Int32) : Int32 := (x.toUInt32 >>> (y.toUInt32 &&& Int32.toUInt32 31)).toInt32
def ushrL (x : Int64) (y : Int32) : Int64 := (x.toUInt64 >>> (y.toInt64.toUInt64 &&& Int64.toUInt64 63)).toInt64
def shlL (x : Int64) (y : Int32) : Int64 := x <<< (y.toInt64 &&& 63)
def shrL (x : Int64) (y : Int32) : Int64 := x >>> (y.toInt64 &&& 63)
def maxI (x y : Int32) : Int32 := if x < y then y else x
def minI (x y : Int32) : Int32 := if y < x then y else x
theorem va_D_of {ad : Nat → Nat} {n : Nat} {ws : va_W} (h : ws.map (fun q => q.1) = (List.range n).map ad) (hi : ∀ i j, i < n → j < n → ad i = ad j → i = j) : va_D (fun q => ∃ k, k < n ∧ q = ad k) ws := by
  have key : ∀ (k : Nat) (q : Nat × va_E), ws[k]? = some q → k < n ∧ q.1 = ad k := by
    intro k q hq
    have h1 : (ws.map (fun q => q.1))[k]? = some q.1 := by rw [List.getElem?_map, hq]; rfl
    rw [h, List.getElem?_map] at h1
    rcases Nat.lt_or_ge k n with hk | hk
    · rw [List.getElem?_range hk] at h1
      exact ⟨hk, (Option.some.inj h1).symm⟩
    · rw [List.getElem?_eq_none (by simpa using hk)] at h1
      cases h1
  exact ⟨fun i j p q hp hq e => hi i j (key i p hp).1 (key j q hq).1 (by rw [← (key i p hp).2, ← (key j q hq).2]; exact e), fun k q hq => ⟨k, key k q hq⟩⟩
abbrev fuU (n : Nat) (b i : Int32) : Prop := 0 < n ∧ b.toInt - i.toInt < (n : Int) ∧ 0 ≤ i.toInt
def fu (b i : Int32) : Nat := (b.toInt - i.toInt).toNat + 1
theorem fuU_0 {b i : Int32} (h : 0 ≤ i.toInt) : fuU (fu b i) b i := ⟨Nat.succ_pos _, by unfold fu; omega, h⟩
theorem i32_inc {i b : Int32} (hc : i < b) : (i + 1).toInt = i.toInt + 1 := by
  have h1 := Int32.lt_iff_toInt_lt.mp hc
  have h2 := b.toInt_lt
  have h3 := i.le_toInt
  rw [Int32.toInt_add, show (1 : Int32).toInt = 1 from rfl]
  rw [Int.bmod_eq_of_le (by omega) (by omega)]
theorem i32_lt {i b : Int32} (hc : ¬ b ≤ i) : i < b := by
  rw [Int32.lt_iff_toInt_lt]; rw [Int32.le_iff_toInt_le] at hc; omega
theorem fuU_s {n : Nat} {b i : Int32} (h : fuU (n + 1) b i) (hc : ¬ b ≤ i) : fuU n b (i + 1) := by
  obtain ⟨h1, h2, h3⟩ := h
  have h4 := Int32.lt_iff_toInt_lt.mp (i32_lt hc)
  rw [fuU, i32_inc (i32_lt hc)]
  refine ⟨by omega, by omega, by omega⟩
theorem vin_g {i : Int32} {n : Nat} (hn : n < 2 ^ 31) (h0 : 0 ≤ i.toInt) (h1 : ¬ nI n ≤ i) : vp_in i n := by
  rw [vp_in_iff]
  have h2 := Int32.lt_iff_toInt_lt.mp (i32_lt h1)
  rw [nI_toInt hn] at h2
  exact ⟨h0, h2⟩
theorem nn_of {i : Int32} (h : ¬ i < 0) : 0 ≤ i.toInt := by
  rw [Int32.lt_iff_toInt_lt, Int32.toInt_zero] at h; omega
def cw (ad : Nat → Nat) (cI cL cZ : ClassId) (c_sr t_n t_r t_w s_w s_h s_c s_p s_s p_nx p_sz r_k r_r r_p l_z q_z : Int32) (t_t b_l b_b b_n r_t l_l l_b l_n q_l q_b q_n : Int64) (t_le s_cs s_ps s_ha s_en pk ik : Nat → Int32) (s_ro s_me s_be s_se s_co pl pb pn il ib im l_a q_a : Nat → Int64) : va_W := [(ad 0, .inr (7, [.ref (ad 1), .ref (ad 3), .ref (ad 13), .ref (ad 14), .ref (ad 20), .ref (ad 25), .ref (ad 26), .ref (ad 28), .int c_sr])), (ad 1, .inr (6, [.ref (ad 2), .int t_n, .int t_r, .int t_w, .long t_t])), (ad 2, .inl (cI, 40, .inl t_le)), (ad 3, .inr (4, [.int s_w, .int s_h, .int s_c, .int s_p, .int s_s, .ref (ad 4), .ref (ad 5), .ref (ad 6), .ref (ad 7), .ref (ad 8), .ref (ad 9), .ref (ad 10), .ref (ad 11), .ref (ad 12)])), (ad 4, .inl (cI, 64, .inl s_cs)), (ad 5, .inl (cI, 100, .inl s_ps)), (ad 6, .inl (cI, 80, .inl s_ha)), (ad 7, .inl (cI, 80, .inl s_en)), (ad 8, .inl (cL, 17, .inr (.inl s_ro))), (ad 9, .inl (cL, 25, .inr (.inl s_me))), (ad 10, .inl (cL, 40, .inr (.inl s_be))), (ad 11, .inl (cL, 16, .inr (.inl s_se))), (ad 12, .inl (cL, 16, .inr (.inl s_co))), (ad 13, .inr (0, [.long b_l, .long b_b, .long b_n])), (ad 14, .inr (2, [.ref (ad 15), .int p_nx, .int p_sz])), (ad 15, .inr (5, [.ref (ad 16), .ref (ad 17), .ref (ad 18), .ref (ad 19)])), (ad 16, .inl (cL, 10, .inr (.inl pl))), (ad 17, .inl (cL, 10, .inr (.inl pb))), (ad 18, .inl (cL, 10, .inr (.inl pn))), (ad 19, .inl (cI, 10, .inl pk)), (ad 20, .inr (5, [.ref (ad 21), .ref (ad 22), .ref (ad 23), .ref (ad 24)])), (ad 21, .inl (cL, 2, .inr (.inl il))), (ad 22, .inl (cL, 2, .inr (.inl ib))), (ad 23, .inl (cL, 2, .inr (.inl im))), (ad 24, .inl (cI, 2, .inl ik)), (ad 25, .inr (3, [.ref (ad 3), .ref (ad 13), .int r_k, .int r_r, .int r_p, .long r_t])), (ad 26, .inr (1, [.ref (ad 3), .ref (ad 27), .long l_l, .long l_b, .long l_n, .int l_z])), (ad 27, .inl (cL, 10000, .inr (.inl l_a))), (ad 28, .inr (1, [.ref (ad 3), .ref (ad 29), .long q_l, .long q_b, .long q_n, .int q_z])), (ad 29, .inl (cL, 2, .inr (.inl q_a)))]
def mw (ad : Nat → Nat) (cI cL cZ : ClassId) (m_w m_h m_c m_s m_le m_un m_he m_ro m_wi m_hi m_hr m_hp m_rn m_rw m_rh : Int32) (m_n m_l m_b m_to m_hs : Int64) (m_ho m_tx m_ik m_wt : Nat → Int32) (m_ac m_ap m_pa m_im m_ri : Nat → Int64) : va_W := [(ad 0, .inr (8, [.long m_n, .long m_l, .long m_b, .int m_w, .int m_h, .int m_c, .int m_s, .ref (ad 1), .ref (ad 2), .ref (ad 3), .ref (ad 4), .int m_le, .ref (ad 5), .int m_un, .ref (ad 6), .ref (ad 7), .int m_he, .int m_ro, .int m_wi, .long m_to, .int m_hi, .int m_hr, .int m_hp, .long m_hs, .ref (ad 8), .int m_rn, .int m_rw, .int m_rh, .ref (ad 9)])), (ad 1, .inl (cL, 16, .inr (.inl m_ac))), (ad 2, .inl (cL, 25, .inr (.inl m_ap))), (ad 3, .inl (cI, 80, .inl m_ho)), (ad 4, .inl (cI, 40, .inl m_tx)), (ad 5, .inl (cL, 30, .inr (.inl m_pa))), (ad 6, .inl (cL, 6, .inr (.inl m_im))), (ad 7, .inl (cZ, 2, .inl m_ik)), (ad 8, .inl (cL, 9400, .inr (.inl m_ri))), (ad 9, .inl (cI, 40, .inl m_wt))]
def cInj (ad : Nat → Nat) : Prop := ∀ i j, i < 30 → j < 30 → ad i = ad j → i = j
def cAd (ad : Nat → Nat) : Nat → Prop := fun q => ∃ k, k < 30 ∧ q = ad k
theorem cw_D {ad : Nat → Nat} {cI cL cZ : ClassId} {c_sr t_n t_r t_w s_w s_h s_c s_p s_s p_nx p_sz r_k r_r r_p l_z q_z : Int32} {t_t b_l b_b b_n r_t l_l l_b l_n q_l q_b q_n : Int64} {t_le s_cs s_ps s_ha s_en pk ik : Nat → Int32} {s_ro s_me s_be s_se s_co pl pb pn il ib im l_a q_a : Nat → Int64} (h : cInj ad) : va_D (cAd ad) (cw ad cI cL cZ c_sr t_n t_r t_w s_w s_h s_c s_p s_s p_nx p_sz r_k r_r r_p l_z q_z t_t b_l b_b b_n r_t l_l l_b l_n q_l q_b q_n t_le s_cs s_ps s_ha s_en pk ik s_ro s_me s_be s_se s_co pl pb pn il ib im l_a q_a) := va_D_of (n := 30) rfl h
def mInj (ad : Nat → Nat) : Prop := ∀ i j, i < 10 → j < 10 → ad i = ad j → i = j
def mAd (ad : Nat → Nat) : Nat → Prop := fun q => ∃ k, k < 10 ∧ q = ad k
theorem mw_D {ad : Nat → Nat} {cI cL cZ : ClassId} {m_w m_h m_c m_s m_le m_un m_he m_ro m_wi m_hi m_hr m_hp m_rn m_rw m_rh : Int32} {m_n m_l m_b m_to m_hs : Int64} {m_ho m_tx m_ik m_wt : Nat → Int32} {m_ac m_ap m_pa m_im m_ri : Nat → Int64} (h : mInj ad) : va_D (mAd ad) (mw ad cI cL cZ m_w m_h m_c m_s m_le m_un m_he m_ro m_wi m_hi m_hr m_hp m_rn m_rw m_rh m_n m_l m_b m_to m_hs m_ho m_tx m_ik m_wt m_ac m_ap m_pa m_im m_ri) := va_D_of (n := 10) rfl h
end
section
theorem hd_X7_bit : yX7_bit.cls ≠ "java/lang/invoke/MethodHandle" ∧ yX7_bit.cls ≠ "java/lang/invoke/VarHandle" ∧ (parseMethodDescriptor yX7_bit.desc).map (fun d => d.parameters.length) = some 1 := by decide +kernel
def f_X7_bit (p0 : Int32) : Int64 := shlL 1 p0
set_option maxHeartbeats 4000000 in
set_option maxRecDepth 100000 in
theorem c_X7_bit (l : Launch) (D : va_G) (cI cL cZ : ClassId) (A : Nat → Prop) (ws : va_W) (p0 : Int32) (r : Int64) (hr : f_X7_bit p0 = r) : ML l yX7_bit (Cond.code yX7_bit cX7_bit 1 (some .long) :: W0) 0 0 D cI cL cZ A [.int p0] ws r ws := by
  refine mk_start (cc := cX7_bit) (maxL := 1) (ret := (some .long)) (by decide) rfl (Nat.le_of_ble_eq_true rfl) ?_
  intro p e s m below meth c ls C hP hS hl
  obtain ⟨hx, hb, hml, hrt, hlocks, hown, hts, hk⟩ := C
  have hown : s.vm.findClass RX7 = some m.cls := hown
  have hl : lv_has ls 1 [(0, .int p0)] := hl
  rw [f_X7_bit] at hr
  refine lv_lconst (v := 1) hx hb dX7_bit_0 (by decide) ?_
  refine lv_iload_n hx hb dX7_bit_1 rfl (lv_at hl 0 rfl) ?_
  refine lv_lshl (v := shlL 1 p0) hx hb dX7_bit_2 rfl ?_
  subst hr
  exact ret_l hx hb hrt hlocks hP hS dX7_bit_3
theorem hd_X0_numberIn : yX0_numberIn.cls ≠ "java/lang/invoke/MethodHandle" ∧ yX0_numberIn.cls ≠ "java/lang/invoke/VarHandle" ∧ (parseMethodDescriptor yX0_numberIn.desc).map (fun d => d.parameters.length) = some 2 := by decide +kernel
def f_X0_numberIn (p0 : Int64) (p2 : Int32) : Int32 := (((ushrL p0 (4 * p2)) &&& 15).toInt32) - 1
set_option maxHeartbeats 4000000 in
set_option maxRecDepth 100000 in
theorem c_X0_numberIn (l : Launch) (D : va_G) (cI cL cZ : ClassId) (A : Nat → Prop) (ws : va_W) (p0 : Int64) (p2 : Int32) (r : Int32) (hr : f_X0_numberIn p0 p2 = r) : MI l yX0_numberIn (Cond.code yX0_numberIn cX0_numberIn 3 (some .int) :: W0) 0 0 D cI cL cZ A [.long p0, .int p2] ws r ws := by
  refine mk_start (cc := cX0_numberIn) (maxL := 3) (ret := (some .int)) (by decide) rfl (Nat.le_of_ble_eq_true rfl) ?_
  intro p e s m below meth c ls C hP hS hl
  obtain ⟨hx, hb, hml, hrt, hlocks, hown, hts, hk⟩ := C
  have hown : s.vm.findClass RX0 = some m.cls := hown
  have hl : lv_has ls 3 [(0, .long p0), (2, .int p2)] := hl
  rw [f_X0_numberIn] at hr
  refine lv_lload_n hx hb dX0_numberIn_0 rfl (lv_at hl 0 rfl) ?_
  refine lv_iconst (v := 4) hx hb dX0_numberIn_1 (by decide) ?_
  refine lv_iload_n hx hb dX0_numberIn_2 rfl (lv_at hl 1 rfl) ?_
  refine lv_imul hx hb dX0_numberIn_3 ?_
  refine lv_lushr (v := ushrL p0 (4 * p2)) hx hb dX0_numberIn_4 rfl ?_
  refine lv_ldc2 hx hb hown (hts _ q2_140) dX0_numberIn_5 ?_
  refine lv_land hx hb dX0_numberIn_8 ?_
  refine lv_l2i hx hb dX0_numberIn_9 rfl ?_
  refine lv_iconst (v := 1) hx hb dX0_numberIn_10 (by decide) ?_
  refine lv_isub hx hb dX0_numberIn_11 ?_
  subst hr
  exact ret_i hx hb hrt hlocks hP hS dX0_numberIn_12
theorem hd_X0_withNumber : yX0_withNumber.cls ≠ "java/lang/invoke/MethodHandle" ∧ yX0_withNumber.cls ≠ "java/lang/invoke/VarHandle" ∧ (parseMethodDescriptor yX0_withNumber.desc).map (fun d => d.parameters.length) = some 3 := by decide +kernel
def f_X0_withNumber (p0 : Int64) (p2 : Int32) (p3 : Int32) : Int64 := (p0 &&& ((shlL 15 (4 * p2)) ^^^ ((-1)))) ||| (shlL ((p3 + 1).toInt64) (4 * p2))
set_option maxHeartbeats 4000000 in
set_option maxRecDepth 100000 in
theorem c_X0_withNumber (l : Launch) (D : va_G) (cI cL cZ : ClassId) (A : Nat → Prop) (ws : va_W) (p0 : Int64) (p2 p3 : Int32) (r : Int64) (hr : f_X0_withNumber p0 p2 p3 = r) : ML l yX0_withNumber (Cond.code yX0_withNumber cX0_withNumber 6 (some .long) :: W0) 0 0 D cI cL cZ A [.long p0, .int p2, .int p3] ws r ws := by
  refine mk_start (cc := cX0_withNumber) (maxL := 6) (ret := (some .long)) (by decide) rfl (Nat.le_of_ble_eq_true rfl) ?_
  intro p e s m below meth c ls C hP hS hl
  obtain ⟨hx, hb, hml, hrt, hlocks, hown, hts, hk⟩ := C
  have hown : s.vm.findClass RX0 = some m.cls := hown
  have hl : lv_has ls 6 [(0, .long p0), (2, .int p2), (3, .int p3)] := hl
  rw [f_X0_withNumber] at hr
  refine lv_lload_n hx hb dX0_withNumber_0 rfl (lv_at hl 0 rfl) ?_
  refine lv_ldc2 hx hb hown (hts _ q2_140) dX0_withNumber_1 ?_
  refine lv_iconst (v := 4) hx hb dX0_withNumber_4 (by decide) ?_
  refine lv_iload_n hx hb dX0_withNumber_5 rfl (lv_at hl 1 rfl) ?_
  refine lv_imul hx hb dX0_withNumber_6 ?_
  refine lv_lshl (v := shlL 15 (4 * p2)) hx hb dX0_withNumber_7 rfl ?_
  refine lv_ldc2 hx hb hown (hts _ q2_141) dX0_withNumber_8 ?_
  refine lv_lxor hx hb dX0_withNumber_11 ?_
  refine lv_land hx hb dX0_withNumber_12 ?_
  refine lv_lstore (lv' := [(4, .long (p0 &&& ((shlL 15 (4 * p2)) ^^^ ((-1))))), (0, .long p0), (2, .int p2), (3, .int p3)]) hx hb dX0_withNumber_13 hl (by decide) rfl (fun ls hl => ?_)
  refine lv_lload hx hb dX0_withNumber_15 (lv_at hl 0 rfl) ?_
  refine lv_iload_n hx hb dX0_withNumber_17 rfl (lv_at hl 3 rfl) ?_
  refine lv_iconst (v := 1) hx hb dX0_withNumber_18 (by decide) ?_
  refine lv_iadd hx hb dX0_withNumber_19 ?_
  refine lv_i2l hx hb dX0_withNumber_20 rfl ?_
  refine lv_iconst (v := 4) hx hb dX0_withNumber_21 (by decide) ?_
  refine lv_iload_n hx hb dX0_withNumber_22 rfl (lv_at hl 2 rfl) ?_
  refine lv_imul hx hb dX0_withNumber_23 ?_
  refine lv_lshl (v := shlL ((p3 + 1).toInt64) (4 * p2)) hx hb dX0_withNumber_24 rfl ?_
  refine lv_lor hx hb dX0_withNumber_25 ?_
  subst hr
  exact ret_l hx hb hrt hlocks hP hS dX0_withNumber_26
theorem hd_X4_firstOrSecond : yX4_firstOrSecond.cls ≠ "java/lang/invoke/MethodHandle" ∧ yX4_firstOrSecond.cls ≠ "java/lang/invoke/VarHandle" ∧ (parseMethodDescriptor yX4_firstOrSecond.desc).map (fun d => d.parameters.length) = some 1 := by decide +kernel
def f_X4_firstOrSecond (p0 : Int32) : Int32 := (if p0 = 0 then 1 else (if p0 = 2 then 1 else 0))
set_option maxHeartbeats 4000000 in
set_option maxRecDepth 100000 in
theorem c_X4_firstOrSecond (l : Launch) (D : va_G) (cI cL cZ : ClassId) (A : Nat → Prop) (ws : va_W) (p0 : Int32) (r : Int32) (hr : f_X4_firstOrSecond p0 = r) : MI l yX4_firstOrSecond (Cond.code yX4_firstOrSecond cX4_firstOrSecond 1 (some .int) :: W0) 0 0 D cI cL cZ A [.int p0] ws r ws := by
  refine mk_start (cc := cX4_firstOrSecond) (maxL := 1) (ret := (some .int)) (by decide) rfl (Nat.le_of_ble_eq_true rfl) ?_
  intro p e s m below meth c ls C hP hS hl
  obtain ⟨hx, hb, hml, hrt, hlocks, hown, hts, hk⟩ := C
  have hown : s.vm.findClass RX4 = some m.cls := hown
  have hl : lv_has ls 1 [(0, .int p0)] := hl
  rw [f_X4_firstOrSecond] at hr
  refine lv_iload_n hx hb dX4_firstOrSecond_0 rfl (lv_at hl 0 rfl) ?_
  refine lv_if_eq (tgt := 9) hx hb dX4_firstOrSecond_1 (by decide) (fun c1 => ?_) (fun c1 => ?_)
  · have hr := (if_pos c1).symm.trans hr
    refine lv_iconst (v := 1) hx hb dX4_firstOrSecond_9 (by decide) ?_
    refine lv_goto (tgt := 14) hx hb dX4_firstOrSecond_10 (by decide) ?_
    subst hr
    exact ret_i hx hb hrt hlocks hP hS dX4_firstOrSecond_14
  · have hr := (if_neg c1).symm.trans hr
    refine lv_iload_n hx hb dX4_firstOrSecond_4 rfl (lv_at hl 0 rfl) ?_
    refine lv_iconst (v := 2) hx hb dX4_firstOrSecond_5 (by decide) ?_
    refine lv_icmp_ne (tgt := 13) hx hb dX4_firstOrSecond_6 (by decide) (fun c6 => ?_) (fun c6 => ?_)
    · have hr := (if_neg c6).symm.trans hr
      refine lv_iconst (v := 0) hx hb dX4_firstOrSecond_13 (by decide) ?_
      subst hr
      exact ret_i hx hb hrt hlocks hP hS dX4_firstOrSecond_14
    · have hr := (if_pos c6).symm.trans hr
      refine lv_iconst (v := 1) hx hb dX4_firstOrSecond_9 (by decide) ?_
      refine lv_goto (tgt := 14) hx hb dX4_firstOrSecond_10 (by decide) ?_
      subst hr
      exact ret_i hx hb hrt hlocks hP hS dX4_firstOrSecond_14
theorem hd_X6_numberOfSign : yX6_numberOfSign.cls ≠ "java/lang/invoke/MethodHandle" ∧ yX6_numberOfSign.cls ≠ "java/lang/invoke/VarHandle" ∧ (parseMethodDescriptor yX6_numberOfSign.desc).map (fun d => d.parameters.length) = some 1 := by decide +kernel
def f_X6_numberOfSign (p0 : Int32) : Int32 := (if p0 = 46 then (-1) else (if p0 < 48 then (-2) else (if 52 < p0 then (-2) else p0 - 48)))
set_option maxHeartbeats 4000000 in
set_option maxRecDepth 100000 in
theorem c_X6_numberOfSign (l : Launch) (D : va_G) (cI cL cZ : ClassId) (A : Nat → Prop) (ws : va_W) (p0 : Int32) (r : Int32) (hr : f_X6_numberOfSign p0 = r) : MI l yX6_numberOfSign (Cond.code yX6_numberOfSign cX6_numberOfSign 1 (some .int) :: W0) 0 0 D cI cL cZ A [.int p0] ws r ws := by
  refine mk_start (cc := cX6_numberOfSign) (maxL := 1) (ret := (some .int)) (by decide) rfl (Nat.le_of_ble_eq_true rfl) ?_
  intro p e s m below meth c ls C hP hS hl
  obtain ⟨hx, hb, hml, hrt, hlocks, hown, hts, hk⟩ := C
  have hown : s.vm.findClass RX6 = some m.cls := hown
  have hl : lv_has ls 1 [(0, .int p0)] := hl
  rw [f_X6_numberOfSign] at hr
  refine lv_iload_n hx hb dX6_numberOfSign_0 rfl (lv_at hl 0 rfl) ?_
  refine lv_bipush (v := 46) hx hb dX6_numberOfSign_1 (by decide) ?_
  refine lv_icmp_ne (tgt := 8) hx hb dX6_numberOfSign_3 (by decide) (fun c3 => ?_) (fun c3 => ?_)
  · have hr := (if_neg c3).symm.trans hr
    refine lv_iload_n hx hb dX6_numberOfSign_8 rfl (lv_at hl 0 rfl) ?_
    refine lv_bipush (v := 48) hx hb dX6_numberOfSign_9 (by decide) ?_
    refine lv_icmp_lt (tgt := 27) hx hb dX6_numberOfSign_11 (by decide) (fun c11 => ?_) (fun c11 => ?_)
    · have hr := (if_pos c11).symm.trans hr
      refine lv_bipush (v := (-2)) hx hb dX6_numberOfSign_27 (by decide) ?_
      subst hr
      exact ret_i hx hb hrt hlocks hP hS dX6_numberOfSign_29
    · have hr := (if_neg c11).symm.trans hr
      refine lv_iload_n hx hb dX6_numberOfSign_14 rfl (lv_at hl 0 rfl) ?_
      refine lv_bipush (v := 52) hx hb dX6_numberOfSign_15 (by decide) ?_
      refine lv_icmp_gt (tgt := 27) hx hb dX6_numberOfSign_17 (by decide) (fun c17 => ?_) (fun c17 => ?_)
      · have hr := (if_pos c17).symm.trans hr
        refine lv_bipush (v := (-2)) hx hb dX6_numberOfSign_27 (by decide) ?_
        subst hr
        exact ret_i hx hb hrt hlocks hP hS dX6_numberOfSign_29
      · have hr := (if_neg c17).symm.trans hr
        refine lv_iload_n hx hb dX6_numberOfSign_20 rfl (lv_at hl 0 rfl) ?_
        refine lv_bipush (v := 48) hx hb dX6_numberOfSign_21 (by decide) ?_
        refine lv_isub hx hb dX6_numberOfSign_23 ?_
        refine lv_goto (tgt := 29) hx hb dX6_numberOfSign_24 (by decide) ?_
        subst hr
        exact ret_i hx hb hrt hlocks hP hS dX6_numberOfSign_29
  · have hr := (if_pos c3).symm.trans hr
    refine lv_iconst (v := (-1)) hx hb dX6_numberOfSign_6 (by decide) ?_
    subst hr
    exact ret_i hx hb hrt hlocks hP hS dX6_numberOfSign_7
theorem hd_J13_bitCount_95d88 : yJ13_bitCount_95d88.cls ≠ "java/lang/invoke/MethodHandle" ∧ yJ13_bitCount_95d88.cls ≠ "java/lang/invoke/VarHandle" ∧ (parseMethodDescriptor yJ13_bitCount_95d88.desc).map (fun d => d.parameters.length) = some 1 := by decide +kernel
def f_J13_bitCount_95d88 (p0 : Int64) : Int32 := (bd (((p0 - ((ushrL p0 1) &&& 6148914691236517205)) &&& 3689348814741910323) + ((ushrL (p0 - ((ushrL p0 1) &&& 6148914691236517205)) 2) &&& 3689348814741910323)) (fun v1 => (bd (((v1 + (ushrL v1 4)) &&& 1085102592571150095) + (ushrL ((v1 + (ushrL v1 4)) &&& 1085102592571150095) 8)) (fun v2 => (((v2 + (ushrL v2 16)) + (ushrL (v2 + (ushrL v2 16)) 32)).toInt32) &&& 127))))
set_option maxHeartbeats 4000000 in
set_option maxRecDepth 100000 in
theorem c_J13_bitCount_95d88 (l : Launch) (D : va_G) (cI cL cZ : ClassId) (A : Nat → Prop) (ws : va_W) (p0 : Int64) (r : Int32) (hr : f_J13_bitCount_95d88 p0 = r) : MI l yJ13_bitCount_95d88 (Cond.code yJ13_bitCount_95d88 cJ13_bitCount_95d88 2 (some .int) :: W0) 0 0 D cI cL cZ A [.long p0] ws r ws := by
  refine mk_start (cc := cJ13_bitCount_95d88) (maxL := 2) (ret := (some .int)) (by decide) rfl (Nat.le_of_ble_eq_true rfl) ?_
  intro p e s m below meth c ls C hP hS hl
  obtain ⟨hx, hb, hml, hrt, hlocks, hown, hts, hk⟩ := C
  have hown : s.vm.findClass RJ13 = some m.cls := hown
  have hl : lv_has ls 2 [(0, .long p0)] := hl
  rw [f_J13_bitCount_95d88] at hr
  refine lv_lload_n hx hb dJ13_bitCount_95d88_0 rfl (lv_at hl 0 rfl) ?_
  refine lv_lload_n hx hb dJ13_bitCount_95d88_1 rfl (lv_at hl 0 rfl) ?_
  refine lv_iconst (v := 1) hx hb dJ13_bitCount_95d88_2 (by decide) ?_
  refine lv_lushr (v := ushrL p0 1) hx hb dJ13_bitCount_95d88_3 rfl ?_
  refine lv_ldc2 hx hb hown (hts _ q3_6) dJ13_bitCount_95d88_4 ?_
  refine lv_land hx hb dJ13_bitCount_95d88_7 ?_
  refine lv_lsub hx hb dJ13_bitCount_95d88_8 ?_
  refine lv_lstore_n (lv' := [(0, .long (p0 - ((ushrL p0 1) &&& 6148914691236517205)))]) hx hb dJ13_bitCount_95d88_9 rfl hl (by decide) rfl (fun ls hl => ?_)
  refine lv_lload_n hx hb dJ13_bitCount_95d88_10 rfl (lv_at hl 0 rfl) ?_
  refine lv_ldc2 hx hb hown (hts _ q3_7) dJ13_bitCount_95d88_11 ?_
  refine lv_land hx hb dJ13_bitCount_95d88_14 ?_
  refine lv_lload_n hx hb dJ13_bitCount_95d88_15 rfl (lv_at hl 0 rfl) ?_
  refine lv_iconst (v := 2) hx hb dJ13_bitCount_95d88_16 (by decide) ?_
  refine lv_lushr (v := ushrL (p0 - ((ushrL p0 1) &&& 6148914691236517205)) 2) hx hb dJ13_bitCount_95d88_17 rfl ?_
  refine lv_ldc2 hx hb hown (hts _ q3_7) dJ13_bitCount_95d88_18 ?_
  refine lv_land hx hb dJ13_bitCount_95d88_21 ?_
  refine lv_ladd hx hb dJ13_bitCount_95d88_22 ?_
  refine lv_topl (fun v1 ev1 => ?_)
  have hr := (bd_eq ev1.symm).symm.trans hr
  refine lv_lstore_n (lv' := [(0, .long v1)]) hx hb dJ13_bitCount_95d88_23 rfl hl (by decide) rfl (fun ls hl => ?_)
  refine lv_lload_n hx hb dJ13_bitCount_95d88_24 rfl (lv_at hl 0 rfl) ?_
  refine lv_lload_n hx hb dJ13_bitCount_95d88_25 rfl (lv_at hl 0 rfl) ?_
  refine lv_iconst (v := 4) hx hb dJ13_bitCount_95d88_26 (by decide) ?_
  refine lv_lushr (v := ushrL v1 4) hx hb dJ13_bitCount_95d88_27 rfl ?_
  refine lv_ladd hx hb dJ13_bitCount_95d88_28 ?_
  refine lv_ldc2 hx hb hown (hts _ q3_8) dJ13_bitCount_95d88_29 ?_
  refine lv_land hx hb dJ13_bitCount_95d88_32 ?_
  refine lv_lstore_n (lv' := [(0, .long ((v1 + (ushrL v1 4)) &&& 1085102592571150095))]) hx hb dJ13_bitCount_95d88_33 rfl hl (by decide) rfl (fun ls hl => ?_)
  refine lv_lload_n hx hb dJ13_bitCount_95d88_34 rfl (lv_at hl 0 rfl) ?_
  refine lv_lload_n hx hb dJ13_bitCount_95d88_35 rfl (lv_at hl 0 rfl) ?_
  refine lv_bipush (v := 8) hx hb dJ13_bitCount_95d88_36 (by decide) ?_
  refine lv_lushr (v := ushrL ((v1 + (ushrL v1 4)) &&& 1085102592571150095) 8) hx hb dJ13_bitCount_95d88_38 rfl ?_
  refine lv_ladd hx hb dJ13_bitCount_95d88_39 ?_
  refine lv_topl (fun v2 ev2 => ?_)
  have hr := (bd_eq ev2.symm).symm.trans hr
  refine lv_lstore_n (lv' := [(0, .long v2)]) hx hb dJ13_bitCount_95d88_40 rfl hl (by decide) rfl (fun ls hl => ?_)
  refine lv_lload_n hx hb dJ13_bitCount_95d88_41 rfl (lv_at hl 0 rfl) ?_
  refine lv_lload_n hx hb dJ13_bitCount_95d88_42 rfl (lv_at hl 0 rfl) ?_
  refine lv_bipush (v := 16) hx hb dJ13_bitCount_95d88_43 (by decide) ?_
  refine lv_lushr (v := ushrL v2 16) hx hb dJ13_bitCount_95d88_45 rfl ?_
  refine lv_ladd hx hb dJ13_bitCount_95d88_46 ?_
  refine lv_lstore_n (lv' := [(0, .long (v2 + (ushrL v2 16)))]) hx hb dJ13_bitCount_95d88_47 rfl hl (by decide) rfl (fun ls hl => ?_)
  refine lv_lload_n hx hb dJ13_bitCount_95d88_48 rfl (lv_at hl 0 rfl) ?_
  refine lv_lload_n hx hb dJ13_bitCount_95d88_49 rfl (lv_at hl 0 rfl) ?_
  refine lv_bipush (v := 32) hx hb dJ13_bitCount_95d88_50 (by decide) ?_
  refine lv_lushr (v := ushrL (v2 + (ushrL v2 16)) 32) hx hb dJ13_bitCount_95d88_52 rfl ?_
  refine lv_ladd hx hb dJ13_bitCount_95d88_53 ?_
  refine lv_lstore_n (lv' := [(0, .long ((v2 + (ushrL v2 16)) + (ushrL (v2 + (ushrL v2 16)) 32)))]) hx hb dJ13_bitCount_95d88_54 rfl hl (by decide) rfl (fun ls hl => ?_)
  refine lv_lload_n hx hb dJ13_bitCount_95d88_55 rfl (lv_at hl 0 rfl) ?_
  refine lv_l2i hx hb dJ13_bitCount_95d88_56 rfl ?_
  refine lv_bipush (v := 127) hx hb dJ13_bitCount_95d88_57 (by decide) ?_
  refine lv_iand hx hb dJ13_bitCount_95d88_59 ?_
  subst hr
  exact ret_i hx hb hrt hlocks hP hS dJ13_bitCount_95d88_60
theorem hd_J6_numberOfTrailingZeros_0f7a4 : yJ6_numberOfTrailingZeros_0f7a4.cls ≠ "java/lang/invoke/MethodHandle" ∧ yJ6_numberOfTrailingZeros_0f7a4.cls ≠ "java/lang/invoke/VarHandle" ∧ (parseMethodDescriptor yJ6_numberOfTrailingZeros_0f7a4.desc).map (fun d => d.parameters.length) = some 1 := by decide +kernel
def f_J6_numberOfTrailingZeros_0f7a4 (p0 : Int32) : Int32 := (if 0 < ((p0 ^^^ ((-1))) &&& (p0 - 1)) then (if ((p0 ^^^ ((-1))) &&& (p0 - 1)) ≤ 65536 then (if ((p0 ^^^ ((-1))) &&& (p0 - 1)) ≤ 256 then (if ((p0 ^^^ ((-1))) &&& (p0 - 1)) ≤ 16 then (if ((p0 ^^^ ((-1))) &&& (p0 - 1)) ≤ 4 then 1 + (ushrI ((p0 ^^^ ((-1))) &&& (p0 - 1)) 1) else (1 + 2) + (ushrI (ushrI ((p0 ^^^ ((-1))) &&& (p0 - 1)) 2) 1)) else (if (ushrI ((p0 ^^^ ((-1))) &&& (p0 - 1)) 4) ≤ 4 then (1 + 4) + (ushrI (ushrI ((p0 ^^^ ((-1))) &&& (p0 - 1)) 4) 1) else ((1 + 4) + 2) + (ushrI (ushrI (ushrI ((p0 ^^^ ((-1))) &&& (p0 - 1)) 4) 2) 1))) else (if (ushrI ((p0 ^^^ ((-1))) &&& (p0 - 1)) 8) ≤ 16 then (if (ushrI ((p0 ^^^ ((-1))) &&& (p0 - 1)) 8) ≤ 4 then (1 + 8) + (ushrI (ushrI ((p0 ^^^ ((-1))) &&& (p0 - 1)) 8) 1) else ((1 + 8) + 2) + (ushrI (ushrI (ushrI ((p0 ^^^ ((-1))) &&& (p0 - 1)) 8) 2) 1)) else (if (ushrI (ushrI ((p0 ^^^ ((-1))) &&& (p0 - 1)) 8) 4) ≤ 4 then ((1 + 8) + 4) + (ushrI (ushrI (ushrI ((p0 ^^^ ((-1))) &&& (p0 - 1)) 8) 4) 1) else (((1 + 8) + 4) + 2) + (ushrI (ushrI (ushrI (ushrI ((p0 ^^^ ((-1))) &&& (p0 - 1)) 8) 4) 2) 1)))) else (if (ushrI ((p0 ^^^ ((-1))) &&& (p0 - 1)) 16) ≤ 256 then (if (ushrI ((p0 ^^^ ((-1))) &&& (p0 - 1)) 16) ≤ 16 then (if (ushrI ((p0 ^^^ ((-1))) &&& (p0 - 1)) 16) ≤ 4 then (1 + 16) + (ushrI (ushrI ((p0 ^^^ ((-1))) &&& (p0 - 1)) 16) 1) else ((1 + 16) + 2) + (ushrI (ushrI (ushrI ((p0 ^^^ ((-1))) &&& (p0 - 1)) 16) 2) 1)) else (if (ushrI (ushrI ((p0 ^^^ ((-1))) &&& (p0 - 1)) 16) 4) ≤ 4 then ((1 + 16) + 4) + (ushrI (ushrI (ushrI ((p0 ^^^ ((-1))) &&& (p0 - 1)) 16) 4) 1) else (((1 + 16) + 4) + 2) + (ushrI (ushrI (ushrI (ushrI ((p0 ^^^ ((-1))) &&& (p0 - 1)) 16) 4) 2) 1))) else (if (ushrI (ushrI ((p0 ^^^ ((-1))) &&& (p0 - 1)) 16) 8) ≤ 16 then (if (ushrI (ushrI ((p0 ^^^ ((-1))) &&& (p0 - 1)) 16) 8) ≤ 4 then ((1 + 16) + 8) + (ushrI (ushrI (ushrI ((p0 ^^^ ((-1))) &&& (p0 - 1)) 16) 8) 1) else (((1 + 16) + 8) + 2) + (ushrI (ushrI (ushrI (ushrI ((p0 ^^^ ((-1))) &&& (p0 - 1)) 16) 8) 2) 1)) else (if (ushrI (ushrI (ushrI ((p0 ^^^ ((-1))) &&& (p0 - 1)) 16) 8) 4) ≤ 4 then (((1 + 16) + 8) + 4) + (ushrI (ushrI (ushrI (ushrI ((p0 ^^^ ((-1))) &&& (p0 - 1)) 16) 8) 4) 1) else ((((1 + 16) + 8) + 4) + 2) + (ushrI (ushrI (ushrI (ushrI (ushrI ((p0 ^^^ ((-1))) &&& (p0 - 1)) 16) 8) 4) 2) 1))))) else ((p0 ^^^ ((-1))) &&& (p0 - 1)) &&& 32)
set_option maxHeartbeats 4000000 in
set_option maxRecDepth 100000 in
theorem c_J6_numberOfTrailingZeros_0f7a4 (l : Launch) (D : va_G) (cI cL cZ : ClassId) (A : Nat → Prop) (ws : va_W) (p0 : Int32) (r : Int32) (hr : f_J6_numberOfTrailingZeros_0f7a4 p0 = r) : MI l yJ6_numberOfTrailingZeros_0f7a4 (Cond.code yJ6_numberOfTrailingZeros_0f7a4 cJ6_numberOfTrailingZeros_0f7a4 2 (some .int) :: W0) 0 0 D cI cL cZ A [.int p0] ws r ws := by
  refine mk_start (cc := cJ6_numberOfTrailingZeros_0f7a4) (maxL := 2) (ret := (some .int)) (by decide) rfl (Nat.le_of_ble_eq_true rfl) ?_
  intro p e s m below meth c ls C hP hS hl
  obtain ⟨hx, hb, hml, hrt, hlocks, hown, hts, hk⟩ := C
  have hown : s.vm.findClass RJ6 = some m.cls := hown
  have hl : lv_has ls 2 [(0, .int p0)] := hl
  rw [f_J6_numberOfTrailingZeros_0f7a4] at hr
  refine lv_iload_n hx hb dJ6_numberOfTrailingZeros_0f7a4_0 rfl (lv_at hl 0 rfl) ?_
  refine lv_iconst (v := (-1)) hx hb dJ6_numberOfTrailingZeros_0f7a4_1 (by decide) ?_
  refine lv_ixor hx hb dJ6_numberOfTrailingZeros_0f7a4_2 ?_
  refine lv_iload_n hx hb dJ6_numberOfTrailingZeros_0f7a4_3 rfl (lv_at hl 0 rfl) ?_
  refine lv_iconst (v := 1) hx hb dJ6_numberOfTrailingZeros_0f7a4_4 (by decide) ?_
  refine lv_isub hx hb dJ6_numberOfTrailingZeros_0f7a4_5 ?_
  refine lv_iand hx hb dJ6_numberOfTrailingZeros_0f7a4_6 ?_
  refine lv_istore_n (lv' := [(0, .int ((p0 ^^^ ((-1))) &&& (p0 - 1)))]) hx hb dJ6_numberOfTrailingZeros_0f7a4_7 rfl hl (by decide) rfl (fun ls hl => ?_)
  refine lv_iload_n hx hb dJ6_numberOfTrailingZeros_0f7a4_8 rfl (lv_at hl 0 rfl) ?_
  refine lv_if_gt (tgt := 17) hx hb dJ6_numberOfTrailingZeros_0f7a4_9 (by decide) (fun c9 => ?_) (fun c9 => ?_)
  · have hr := (if_pos c9).symm.trans hr
    refine lv_iconst (v := 1) hx hb dJ6_numberOfTrailingZeros_0f7a4_17 (by decide) ?_
    refine lv_istore_n (lv' := [(1, .int 1), (0, .int ((p0 ^^^ ((-1))) &&& (p0 - 1)))]) hx hb dJ6_numberOfTrailingZeros_0f7a4_18 rfl hl (by decide) rfl (fun ls hl => ?_)
    refine lv_iload_n hx hb dJ6_numberOfTrailingZeros_0f7a4_19 rfl (lv_at hl 1 rfl) ?_
    refine lv_ldcw hx hb hown (hts _ q3_33) dJ6_numberOfTrailingZeros_0f7a4_20 ?_
    refine lv_icmp_le (tgt := 34) hx hb dJ6_numberOfTrailingZeros_0f7a4_23 (by decide) (fun c23 => ?_) (fun c23 => ?_)
    · have hr := (if_pos c23).symm.trans hr
      refine lv_iload_n hx hb dJ6_numberOfTrailingZeros_0f7a4_34 rfl (lv_at hl 1 rfl) ?_
      refine lv_sipush (v := 256) hx hb dJ6_numberOfTrailingZeros_0f7a4_35 (by decide) ?_
      refine lv_icmp_le (tgt := 49) hx hb dJ6_numberOfTrailingZeros_0f7a4_38 (by decide) (fun c38 => ?_) (fun c38 => ?_)
      · have hr := (if_pos c38).symm.trans hr
        refine lv_iload_n hx hb dJ6_numberOfTrailingZeros_0f7a4_49 rfl (lv_at hl 1 rfl) ?_
        refine lv_bipush (v := 16) hx hb dJ6_numberOfTrailingZeros_0f7a4_50 (by decide) ?_
        refine lv_icmp_le (tgt := 62) hx hb dJ6_numberOfTrailingZeros_0f7a4_52 (by decide) (fun c52 => ?_) (fun c52 => ?_)
        · have hr := (if_pos c52).symm.trans hr
          refine lv_iload_n hx hb dJ6_numberOfTrailingZeros_0f7a4_62 rfl (lv_at hl 1 rfl) ?_
          refine lv_iconst (v := 4) hx hb dJ6_numberOfTrailingZeros_0f7a4_63 (by decide) ?_
          refine lv_icmp_le (tgt := 74) hx hb dJ6_numberOfTrailingZeros_0f7a4_64 (by decide) (fun c64 => ?_) (fun c64 => ?_)
          · have hr := (if_pos c64).symm.trans hr
            refine lv_iload_n hx hb dJ6_numberOfTrailingZeros_0f7a4_74 rfl (lv_at hl 0 rfl) ?_
            refine lv_iload_n hx hb dJ6_numberOfTrailingZeros_0f7a4_75 rfl (lv_at hl 1 rfl) ?_
            refine lv_iconst (v := 1) hx hb dJ6_numberOfTrailingZeros_0f7a4_76 (by decide) ?_
            refine lv_iushr (v := ushrI ((p0 ^^^ ((-1))) &&& (p0 - 1)) 1) hx hb dJ6_numberOfTrailingZeros_0f7a4_77 rfl ?_
            refine lv_iadd hx hb dJ6_numberOfTrailingZeros_0f7a4_78 ?_
            subst hr
            exact ret_i hx hb hrt hlocks hP hS dJ6_numberOfTrailingZeros_0f7a4_79
          · have hr := (if_neg c64).symm.trans hr
            refine lv_iinc (v := 1 + 2) (lv' := [(1, .int (1 + 2)), (0, .int ((p0 ^^^ ((-1))) &&& (p0 - 1)))]) hx hb dJ6_numberOfTrailingZeros_0f7a4_67 hl (k := 0) rfl rfl (by decide) rfl (fun ls hl => ?_)
            refine lv_iload_n hx hb dJ6_numberOfTrailingZeros_0f7a4_70 rfl (lv_at hl 1 rfl) ?_
            refine lv_iconst (v := 2) hx hb dJ6_numberOfTrailingZeros_0f7a4_71 (by decide) ?_
            refine lv_iushr (v := ushrI ((p0 ^^^ ((-1))) &&& (p0 - 1)) 2) hx hb dJ6_numberOfTrailingZeros_0f7a4_72 rfl ?_
            refine lv_istore_n (lv' := [(0, .int (ushrI ((p0 ^^^ ((-1))) &&& (p0 - 1)) 2)), (1, .int (1 + 2))]) hx hb dJ6_numberOfTrailingZeros_0f7a4_73 rfl hl (by decide) rfl (fun ls hl => ?_)
            refine lv_iload_n hx hb dJ6_numberOfTrailingZeros_0f7a4_74 rfl (lv_at hl 1 rfl) ?_
            refine lv_iload_n hx hb dJ6_numberOfTrailingZeros_0f7a4_75 rfl (lv_at hl 0 rfl) ?_
            refine lv_iconst (v := 1) hx hb dJ6_numberOfTrailingZeros_0f7a4_76 (by decide) ?_
            refine lv_iushr (v := ushrI (ushrI ((p0 ^^^ ((-1))) &&& (p0 - 1)) 2) 1) hx hb dJ6_numberOfTrailingZeros_0f7a4_77 rfl ?_
            refine lv_iadd hx hb dJ6_numberOfTrailingZeros_0f7a4_78 ?_
            subst hr
            exact ret_i hx hb hrt hlocks hP hS dJ6_numberOfTrailingZeros_0f7a4_79
        · have hr := (if_neg c52).symm.trans hr
          refine lv_iinc (v := 1 + 4) (lv' := [(1, .int (1 + 4)), (0, .int ((p0 ^^^ ((-1))) &&& (p0 - 1)))]) hx hb dJ6_numberOfTrailingZeros_0f7a4_55 hl (k := 0) rfl rfl (by decide) rfl (fun ls hl => ?_)
          refine lv_iload_n hx hb dJ6_numberOfTrailingZeros_0f7a4_58 rfl (lv_at hl 1 rfl) ?_
          refine lv_iconst (v := 4) hx hb dJ6_numberOfTrailingZeros_0f7a4_59 (by decide) ?_
          refine lv_iushr (v := ushrI ((p0 ^^^ ((-1))) &&& (p0 - 1)) 4) hx hb dJ6_numberOfTrailingZeros_0f7a4_60 rfl ?_
          refine lv_istore_n (lv' := [(0, .int (ushrI ((p0 ^^^ ((-1))) &&& (p0 - 1)) 4)), (1, .int (1 + 4))]) hx hb dJ6_numberOfTrailingZeros_0f7a4_61 rfl hl (by decide) rfl (fun ls hl => ?_)
          refine lv_iload_n hx hb dJ6_numberOfTrailingZeros_0f7a4_62 rfl (lv_at hl 0 rfl) ?_
          refine lv_iconst (v := 4) hx hb dJ6_numberOfTrailingZeros_0f7a4_63 (by decide) ?_
          refine lv_icmp_le (tgt := 74) hx hb dJ6_numberOfTrailingZeros_0f7a4_64 (by decide) (fun c64 => ?_) (fun c64 => ?_)
          · have hr := (if_pos c64).symm.trans hr
            refine lv_iload_n hx hb dJ6_numberOfTrailingZeros_0f7a4_74 rfl (lv_at hl 1 rfl) ?_
            refine lv_iload_n hx hb dJ6_numberOfTrailingZeros_0f7a4_75 rfl (lv_at hl 0 rfl) ?_
            refine lv_iconst (v := 1) hx hb dJ6_numberOfTrailingZeros_0f7a4_76 (by decide) ?_
            refine lv_iushr (v := ushrI (ushrI ((p0 ^^^ ((-1))) &&& (p0 - 1)) 4) 1) hx hb dJ6_numberOfTrailingZeros_0f7a4_77 rfl ?_
            refine lv_iadd hx hb dJ6_numberOfTrailingZeros_0f7a4_78 ?_
            subst hr
            exact ret_i hx hb hrt hlocks hP hS dJ6_numberOfTrailingZeros_0f7a4_79
          · have hr := (if_neg c64).symm.trans hr
            refine lv_iinc (v := (1 + 4) + 2) (lv' := [(1, .int ((1 + 4) + 2)), (0, .int (ushrI ((p0 ^^^ ((-1))) &&& (p0 - 1)) 4))]) hx hb dJ6_numberOfTrailingZeros_0f7a4_67 hl (k := 1) rfl rfl (by decide) rfl (fun ls hl => ?_)
            refine lv_iload_n hx hb dJ6_numberOfTrailingZeros_0f7a4_70 rfl (lv_at hl 1 rfl) ?_
            refine lv_iconst (v := 2) hx hb dJ6_numberOfTrailingZeros_0f7a4_71 (by decide) ?_
            refine lv_iushr (v := ushrI (ushrI ((p0 ^^^ ((-1))) &&& (p0 - 1)) 4) 2) hx hb dJ6_numberOfTrailingZeros_0f7a4_72 rfl ?_
            refine lv_istore_n (lv' := [(0, .int (ushrI (ushrI ((p0 ^^^ ((-1))) &&& (p0 - 1)) 4) 2)), (1, .int ((1 + 4) + 2))]) hx hb dJ6_numberOfTrailingZeros_0f7a4_73 rfl hl (by decide) rfl (fun ls hl => ?_)
            refine lv_iload_n hx hb dJ6_numberOfTrailingZeros_0f7a4_74 rfl (lv_at hl 1 rfl) ?_
            refine lv_iload_n hx hb dJ6_numberOfTrailingZeros_0f7a4_75 rfl (lv_at hl 0 rfl) ?_
            refine lv_iconst (v := 1) hx hb dJ6_numberOfTrailingZeros_0f7a4_76 (by decide) ?_
            refine lv_iushr (v := ushrI (ushrI (ushrI ((p0 ^^^ ((-1))) &&& (p0 - 1)) 4) 2) 1) hx hb dJ6_numberOfTrailingZeros_0f7a4_77 rfl ?_
            refine lv_iadd hx hb dJ6_numberOfTrailingZeros_0f7a4_78 ?_
            subst hr
            exact ret_i hx hb hrt hlocks hP hS dJ6_numberOfTrailingZeros_0f7a4_79
      · have hr := (if_neg c38).symm.trans hr
        refine lv_iinc (v := 1 + 8) (lv' := [(1, .int (1 + 8)), (0, .int ((p0 ^^^ ((-1))) &&& (p0 - 1)))]) hx hb dJ6_numberOfTrailingZeros_0f7a4_41 hl (k := 0) rfl rfl (by decide) rfl (fun ls hl => ?_)
        refine lv_iload_n hx hb dJ6_numberOfTrailingZeros_0f7a4_44 rfl (lv_at hl 1 rfl) ?_
        refine lv_bipush (v := 8) hx hb dJ6_numberOfTrailingZeros_0f7a4_45 (by decide) ?_
        refine lv_iushr (v := ushrI ((p0 ^^^ ((-1))) &&& (p0 - 1)) 8) hx hb dJ6_numberOfTrailingZeros_0f7a4_47 rfl ?_
        refine lv_istore_n (lv' := [(0, .int (ushrI ((p0 ^^^ ((-1))) &&& (p0 - 1)) 8)), (1, .int (1 + 8))]) hx hb dJ6_numberOfTrailingZeros_0f7a4_48 rfl hl (by decide) rfl (fun ls hl => ?_)
        refine lv_iload_n hx hb dJ6_numberOfTrailingZeros_0f7a4_49 rfl (lv_at hl 0 rfl) ?_
        refine lv_bipush (v := 16) hx hb dJ6_numberOfTrailingZeros_0f7a4_50 (by decide) ?_
        refine lv_icmp_le (tgt := 62) hx hb dJ6_numberOfTrailingZeros_0f7a4_52 (by decide) (fun c52 => ?_) (fun c52 => ?_)
        · have hr := (if_pos c52).symm.trans hr
          refine lv_iload_n hx hb dJ6_numberOfTrailingZeros_0f7a4_62 rfl (lv_at hl 0 rfl) ?_
          refine lv_iconst (v := 4) hx hb dJ6_numberOfTrailingZeros_0f7a4_63 (by decide) ?_
          refine lv_icmp_le (tgt := 74) hx hb dJ6_numberOfTrailingZeros_0f7a4_64 (by decide) (fun c64 => ?_) (fun c64 => ?_)
          · have hr := (if_pos c64).symm.trans hr
            refine lv_iload_n hx hb dJ6_numberOfTrailingZeros_0f7a4_74 rfl (lv_at hl 1 rfl) ?_
            refine lv_iload_n hx hb dJ6_numberOfTrailingZeros_0f7a4_75 rfl (lv_at hl 0 rfl) ?_
            refine lv_iconst (v := 1) hx hb dJ6_numberOfTrailingZeros_0f7a4_76 (by decide) ?_
            refine lv_iushr (v := ushrI (ushrI ((p0 ^^^ ((-1))) &&& (p0 - 1)) 8) 1) hx hb dJ6_numberOfTrailingZeros_0f7a4_77 rfl ?_
            refine lv_iadd hx hb dJ6_numberOfTrailingZeros_0f7a4_78 ?_
            subst hr
            exact ret_i hx hb hrt hlocks hP hS dJ6_numberOfTrailingZeros_0f7a4_79
          · have hr := (if_neg c64).symm.trans hr
            refine lv_iinc (v := (1 + 8) + 2) (lv' := [(1, .int ((1 + 8) + 2)), (0, .int (ushrI ((p0 ^^^ ((-1))) &&& (p0 - 1)) 8))]) hx hb dJ6_numberOfTrailingZeros_0f7a4_67 hl (k := 1) rfl rfl (by decide) rfl (fun ls hl => ?_)
            refine lv_iload_n hx hb dJ6_numberOfTrailingZeros_0f7a4_70 rfl (lv_at hl 1 rfl) ?_
            refine lv_iconst (v := 2) hx hb dJ6_numberOfTrailingZeros_0f7a4_71 (by decide) ?_
            refine lv_iushr (v := ushrI (ushrI ((p0 ^^^ ((-1))) &&& (p0 - 1)) 8) 2) hx hb dJ6_numberOfTrailingZeros_0f7a4_72 rfl ?_
            refine lv_istore_n (lv' := [(0, .int (ushrI (ushrI ((p0 ^^^ ((-1))) &&& (p0 - 1)) 8) 2)), (1, .int ((1 + 8) + 2))]) hx hb dJ6_numberOfTrailingZeros_0f7a4_73 rfl hl (by decide) rfl (fun ls hl => ?_)
            refine lv_iload_n hx hb dJ6_numberOfTrailingZeros_0f7a4_74 rfl (lv_at hl 1 rfl) ?_
            refine lv_iload_n hx hb dJ6_numberOfTrailingZeros_0f7a4_75 rfl (lv_at hl 0 rfl) ?_
            refine lv_iconst (v := 1) hx hb dJ6_numberOfTrailingZeros_0f7a4_76 (by decide) ?_
            refine lv_iushr (v := ushrI (ushrI (ushrI ((p0 ^^^ ((-1))) &&& (p0 - 1)) 8) 2) 1) hx hb dJ6_numberOfTrailingZeros_0f7a4_77 rfl ?_
            refine lv_iadd hx hb dJ6_numberOfTrailingZeros_0f7a4_78 ?_
            subst hr
            exact ret_i hx hb hrt hlocks hP hS dJ6_numberOfTrailingZeros_0f7a4_79
        · have hr := (if_neg c52).symm.trans hr
          refine lv_iinc (v := (1 + 8) + 4) (lv' := [(1, .int ((1 + 8) + 4)), (0, .int (ushrI ((p0 ^^^ ((-1))) &&& (p0 - 1)) 8))]) hx hb dJ6_numberOfTrailingZeros_0f7a4_55 hl (k := 1) rfl rfl (by decide) rfl (fun ls hl => ?_)
          refine lv_iload_n hx hb dJ6_numberOfTrailingZeros_0f7a4_58 rfl (lv_at hl 1 rfl) ?_
          refine lv_iconst (v := 4) hx hb dJ6_numberOfTrailingZeros_0f7a4_59 (by decide) ?_
          refine lv_iushr (v := ushrI (ushrI ((p0 ^^^ ((-1))) &&& (p0 - 1)) 8) 4) hx hb dJ6_numberOfTrailingZeros_0f7a4_60 rfl ?_
          refine lv_istore_n (lv' := [(0, .int (ushrI (ushrI ((p0 ^^^ ((-1))) &&& (p0 - 1)) 8) 4)), (1, .int ((1 + 8) + 4))]) hx hb dJ6_numberOfTrailingZeros_0f7a4_61 rfl hl (by decide) rfl (fun ls hl => ?_)
          refine lv_iload_n hx hb dJ6_numberOfTrailingZeros_0f7a4_62 rfl (lv_at hl 0 rfl) ?_
          refine lv_iconst (v := 4) hx hb dJ6_numberOfTrailingZeros_0f7a4_63 (by decide) ?_
          refine lv_icmp_le (tgt := 74) hx hb dJ6_numberOfTrailingZeros_0f7a4_64 (by decide) (fun c64 => ?_) (fun c64 => ?_)
          · have hr := (if_pos c64).symm.trans hr
            refine lv_iload_n hx hb dJ6_numberOfTrailingZeros_0f7a4_74 rfl (lv_at hl 1 rfl) ?_
            refine lv_iload_n hx hb dJ6_numberOfTrailingZeros_0f7a4_75 rfl (lv_at hl 0 rfl) ?_
            refine lv_iconst (v := 1) hx hb dJ6_numberOfTrailingZeros_0f7a4_76 (by decide) ?_
            refine lv_iushr (v := ushrI (ushrI (ushrI ((p0 ^^^ ((-1))) &&& (p0 - 1)) 8) 4) 1) hx hb dJ6_numberOfTrailingZeros_0f7a4_77 rfl ?_
            refine lv_iadd hx hb dJ6_numberOfTrailingZeros_0f7a4_78 ?_
            subst hr
            exact ret_i hx hb hrt hlocks hP hS dJ6_numberOfTrailingZeros_0f7a4_79
          · have hr := (if_neg c64).symm.trans hr
            refine lv_iinc (v := ((1 + 8) + 4) + 2) (lv' := [(1, .int (((1 + 8) + 4) + 2)), (0, .int (ushrI (ushrI ((p0 ^^^ ((-1))) &&& (p0 - 1)) 8) 4))]) hx hb dJ6_numberOfTrailingZeros_0f7a4_67 hl (k := 1) rfl rfl (by decide) rfl (fun ls hl => ?_)
            refine lv_iload_n hx hb dJ6_numberOfTrailingZeros_0f7a4_70 rfl (lv_at hl 1 rfl) ?_
            refine lv_iconst (v := 2) hx hb dJ6_numberOfTrailingZeros_0f7a4_71 (by decide) ?_
            refine lv_iushr (v := ushrI (ushrI (ushrI ((p0 ^^^ ((-1))) &&& (p0 - 1)) 8) 4) 2) hx hb dJ6_numberOfTrailingZeros_0f7a4_72 rfl ?_
            refine lv_istore_n (lv' := [(0, .int (ushrI (ushrI (ushrI ((p0 ^^^ ((-1))) &&& (p0 - 1)) 8) 4) 2)), (1, .int (((1 + 8) + 4) + 2))]) hx hb dJ6_numberOfTrailingZeros_0f7a4_73 rfl hl (by decide) rfl (fun ls hl => ?_)
            refine lv_iload_n hx hb dJ6_numberOfTrailingZeros_0f7a4_74 rfl (lv_at hl 1 rfl) ?_
            refine lv_iload_n hx hb dJ6_numberOfTrailingZeros_0f7a4_75 rfl (lv_at hl 0 rfl) ?_
            refine lv_iconst (v := 1) hx hb dJ6_numberOfTrailingZeros_0f7a4_76 (by decide) ?_
            refine lv_iushr (v := ushrI (ushrI (ushrI (ushrI ((p0 ^^^ ((-1))) &&& (p0 - 1)) 8) 4) 2) 1) hx hb dJ6_numberOfTrailingZeros_0f7a4_77 rfl ?_
            refine lv_iadd hx hb dJ6_numberOfTrailingZeros_0f7a4_78 ?_
            subst hr
            exact ret_i hx hb hrt hlocks hP hS dJ6_numberOfTrailingZeros_0f7a4_79
    · have hr := (if_neg c23).symm.trans hr
      refine lv_iinc (v := 1 + 16) (lv' := [(1, .int (1 + 16)), (0, .int ((p0 ^^^ ((-1))) &&& (p0 - 1)))]) hx hb dJ6_numberOfTrailingZeros_0f7a4_26 hl (k := 0) rfl rfl (by decide) rfl (fun ls hl => ?_)
      refine lv_iload_n hx hb dJ6_numberOfTrailingZeros_0f7a4_29 rfl (lv_at hl 1 rfl) ?_
      refine lv_bipush (v := 16) hx hb dJ6_numberOfTrailingZeros_0f7a4_30 (by decide) ?_
      refine lv_iushr (v := ushrI ((p0 ^^^ ((-1))) &&& (p0 - 1)) 16) hx hb dJ6_numberOfTrailingZeros_0f7a4_32 rfl ?_
      refine lv_istore_n (lv' := [(0, .int (ushrI ((p0 ^^^ ((-1))) &&& (p0 - 1)) 16)), (1, .int (1 + 16))]) hx hb dJ6_numberOfTrailingZeros_0f7a4_33 rfl hl (by decide) rfl (fun ls hl => ?_)
      refine lv_iload_n hx hb dJ6_numberOfTrailingZeros_0f7a4_34 rfl (lv_at hl 0 rfl) ?_
      refine lv_sipush (v := 256) hx hb dJ6_numberOfTrailingZeros_0f7a4_35 (by decide) ?_
      refine lv_icmp_le (tgt := 49) hx hb dJ6_numberOfTrailingZeros_0f7a4_38 (by decide) (fun c38 => ?_) (fun c38 => ?_)
      · have hr := (if_pos c38).symm.trans hr
        refine lv_iload_n hx hb dJ6_numberOfTrailingZeros_0f7a4_49 rfl (lv_at hl 0 rfl) ?_
        refine lv_bipush (v := 16) hx hb dJ6_numberOfTrailingZeros_0f7a4_50 (by decide) ?_
        refine lv_icmp_le (tgt := 62) hx hb dJ6_numberOfTrailingZeros_0f7a4_52 (by decide) (fun c52 => ?_) (fun c52 => ?_)
        · have hr := (if_pos c52).symm.trans hr
          refine lv_iload_n hx hb dJ6_numberOfTrailingZeros_0f7a4_62 rfl (lv_at hl 0 rfl) ?_
          refine lv_iconst (v := 4) hx hb dJ6_numberOfTrailingZeros_0f7a4_63 (by decide) ?_
          refine lv_icmp_le (tgt := 74) hx hb dJ6_numberOfTrailingZeros_0f7a4_64 (by decide) (fun c64 => ?_) (fun c64 => ?_)
          · have hr := (if_pos c64).symm.trans hr
            refine lv_iload_n hx hb dJ6_numberOfTrailingZeros_0f7a4_74 rfl (lv_at hl 1 rfl) ?_
            refine lv_iload_n hx hb dJ6_numberOfTrailingZeros_0f7a4_75 rfl (lv_at hl 0 rfl) ?_
            refine lv_iconst (v := 1) hx hb dJ6_numberOfTrailingZeros_0f7a4_76 (by decide) ?_
            refine lv_iushr (v := ushrI (ushrI ((p0 ^^^ ((-1))) &&& (p0 - 1)) 16) 1) hx hb dJ6_numberOfTrailingZeros_0f7a4_77 rfl ?_
            refine lv_iadd hx hb dJ6_numberOfTrailingZeros_0f7a4_78 ?_
            subst hr
            exact ret_i hx hb hrt hlocks hP hS dJ6_numberOfTrailingZeros_0f7a4_79
          · have hr := (if_neg c64).symm.trans hr
            refine lv_iinc (v := (1 + 16) + 2) (lv' := [(1, .int ((1 + 16) + 2)), (0, .int (ushrI ((p0 ^^^ ((-1))) &&& (p0 - 1)) 16))]) hx hb dJ6_numberOfTrailingZeros_0f7a4_67 hl (k := 1) rfl rfl (by decide) rfl (fun ls hl => ?_)
            refine lv_iload_n hx hb dJ6_numberOfTrailingZeros_0f7a4_70 rfl (lv_at hl 1 rfl) ?_
            refine lv_iconst (v := 2) hx hb dJ6_numberOfTrailingZeros_0f7a4_71 (by decide) ?_
            refine lv_iushr (v := ushrI (ushrI ((p0 ^^^ ((-1))) &&& (p0 - 1)) 16) 2) hx hb dJ6_numberOfTrailingZeros_0f7a4_72 rfl ?_
            refine lv_istore_n (lv' := [(0, .int (ushrI (ushrI ((p0 ^^^ ((-1))) &&& (p0 - 1)) 16) 2)), (1, .int ((1 + 16) + 2))]) hx hb dJ6_numberOfTrailingZeros_0f7a4_73 rfl hl (by decide) rfl (fun ls hl => ?_)
            refine lv_iload_n hx hb dJ6_numberOfTrailingZeros_0f7a4_74 rfl (lv_at hl 1 rfl) ?_
            refine lv_iload_n hx hb dJ6_numberOfTrailingZeros_0f7a4_75 rfl (lv_at hl 0 rfl) ?_
            refine lv_iconst (v := 1) hx hb dJ6_numberOfTrailingZeros_0f7a4_76 (by decide) ?_
            refine lv_iushr (v := ushrI (ushrI (ushrI ((p0 ^^^ ((-1))) &&& (p0 - 1)) 16) 2) 1) hx hb dJ6_numberOfTrailingZeros_0f7a4_77 rfl ?_
            refine lv_iadd hx hb dJ6_numberOfTrailingZeros_0f7a4_78 ?_
            subst hr
            exact ret_i hx hb hrt hlocks hP hS dJ6_numberOfTrailingZeros_0f7a4_79
        · have hr := (if_neg c52).symm.trans hr
          refine lv_iinc (v := (1 + 16) + 4) (lv' := [(1, .int ((1 + 16) + 4)), (0, .int (ushrI ((p0 ^^^ ((-1))) &&& (p0 - 1)) 16))]) hx hb dJ6_numberOfTrailingZeros_0f7a4_55 hl (k := 1) rfl rfl (by decide) rfl (fun ls hl => ?_)
          refine lv_iload_n hx hb dJ6_numberOfTrailingZeros_0f7a4_58 rfl (lv_at hl 1 rfl) ?_
          refine lv_iconst (v := 4) hx hb dJ6_numberOfTrailingZeros_0f7a4_59 (by decide) ?_
          refine lv_iushr (v := ushrI (ushrI ((p0 ^^^ ((-1))) &&& (p0 - 1)) 16) 4) hx hb dJ6_numberOfTrailingZeros_0f7a4_60 rfl ?_
          refine lv_istore_n (lv' := [(0, .int (ushrI (ushrI ((p0 ^^^ ((-1))) &&& (p0 - 1)) 16) 4)), (1, .int ((1 + 16) + 4))]) hx hb dJ6_numberOfTrailingZeros_0f7a4_61 rfl hl (by decide) rfl (fun ls hl => ?_)
          refine lv_iload_n hx hb dJ6_numberOfTrailingZeros_0f7a4_62 rfl (lv_at hl 0 rfl) ?_
          refine lv_iconst (v := 4) hx hb dJ6_numberOfTrailingZeros_0f7a4_63 (by decide) ?_
          refine lv_icmp_le (tgt := 74) hx hb dJ6_numberOfTrailingZeros_0f7a4_64 (by decide) (fun c64 => ?_) (fun c64 => ?_)
          · have hr := (if_pos c64).symm.trans hr
            refine lv_iload_n hx hb dJ6_numberOfTrailingZeros_0f7a4_74 rfl (lv_at hl 1 rfl) ?_
            refine lv_iload_n hx hb dJ6_numberOfTrailingZeros_0f7a4_75 rfl (lv_at hl 0 rfl) ?_
            refine lv_iconst (v := 1) hx hb dJ6_numberOfTrailingZeros_0f7a4_76 (by decide) ?_
            refine lv_iushr (v := ushrI (ushrI (ushrI ((p0 ^^^ ((-1))) &&& (p0 - 1)) 16) 4) 1) hx hb dJ6_numberOfTrailingZeros_0f7a4_77 rfl ?_
            refine lv_iadd hx hb dJ6_numberOfTrailingZeros_0f7a4_78 ?_
            subst hr
            exact ret_i hx hb hrt hlocks hP hS dJ6_numberOfTrailingZeros_0f7a4_79
          · have hr := (if_neg c64).symm.trans hr
            refine lv_iinc (v := ((1 + 16) + 4) + 2) (lv' := [(1, .int (((1 + 16) + 4) + 2)), (0, .int (ushrI (ushrI ((p0 ^^^ ((-1))) &&& (p0 - 1)) 16) 4))]) hx hb dJ6_numberOfTrailingZeros_0f7a4_67 hl (k := 1) rfl rfl (by decide) rfl (fun ls hl => ?_)
            refine lv_iload_n hx hb dJ6_numberOfTrailingZeros_0f7a4_70 rfl (lv_at hl 1 rfl) ?_
            refine lv_iconst (v := 2) hx hb dJ6_numberOfTrailingZeros_0f7a4_71 (by decide) ?_
            refine lv_iushr (v := ushrI (ushrI (ushrI ((p0 ^^^ ((-1))) &&& (p0 - 1)) 16) 4) 2) hx hb dJ6_numberOfTrailingZeros_0f7a4_72 rfl ?_
            refine lv_istore_n (lv' := [(0, .int (ushrI (ushrI (ushrI ((p0 ^^^ ((-1))) &&& (p0 - 1)) 16) 4) 2)), (1, .int (((1 + 16) + 4) + 2))]) hx hb dJ6_numberOfTrailingZeros_0f7a4_73 rfl hl (by decide) rfl (fun ls hl => ?_)
            refine lv_iload_n hx hb dJ6_numberOfTrailingZeros_0f7a4_74 rfl (lv_at hl 1 rfl) ?_
            refine lv_iload_n hx hb dJ6_numberOfTrailingZeros_0f7a4_75 rfl (lv_at hl 0 rfl) ?_
            refine lv_iconst (v := 1) hx hb dJ6_numberOfTrailingZeros_0f7a4_76 (by decide) ?_
            refine lv_iushr (v := ushrI (ushrI (ushrI (ushrI ((p0 ^^^ ((-1))) &&& (p0 - 1)) 16) 4) 2) 1) hx hb dJ6_numberOfTrailingZeros_0f7a4_77 rfl ?_
            refine lv_iadd hx hb dJ6_numberOfTrailingZeros_0f7a4_78 ?_
            subst hr
            exact ret_i hx hb hrt hlocks hP hS dJ6_numberOfTrailingZeros_0f7a4_79
      · have hr := (if_neg c38).symm.trans hr
        refine lv_iinc (v := (1 + 16) + 8) (lv' := [(1, .int ((1 + 16) + 8)), (0, .int (ushrI ((p0 ^^^ ((-1))) &&& (p0 - 1)) 16))]) hx hb dJ6_numberOfTrailingZeros_0f7a4_41 hl (k := 1) rfl rfl (by decide) rfl (fun ls hl => ?_)
        refine lv_iload_n hx hb dJ6_numberOfTrailingZeros_0f7a4_44 rfl (lv_at hl 1 rfl) ?_
        refine lv_bipush (v := 8) hx hb dJ6_numberOfTrailingZeros_0f7a4_45 (by decide) ?_
        refine lv_iushr (v := ushrI (ushrI ((p0 ^^^ ((-1))) &&& (p0 - 1)) 16) 8) hx hb dJ6_numberOfTrailingZeros_0f7a4_47 rfl ?_
        refine lv_istore_n (lv' := [(0, .int (ushrI (ushrI ((p0 ^^^ ((-1))) &&& (p0 - 1)) 16) 8)), (1, .int ((1 + 16) + 8))]) hx hb dJ6_numberOfTrailingZeros_0f7a4_48 rfl hl (by decide) rfl (fun ls hl => ?_)
        refine lv_iload_n hx hb dJ6_numberOfTrailingZeros_0f7a4_49 rfl (lv_at hl 0 rfl) ?_
        refine lv_bipush (v := 16) hx hb dJ6_numberOfTrailingZeros_0f7a4_50 (by decide) ?_
        refine lv_icmp_le (tgt := 62) hx hb dJ6_numberOfTrailingZeros_0f7a4_52 (by decide) (fun c52 => ?_) (fun c52 => ?_)
        · have hr := (if_pos c52).symm.trans hr
          refine lv_iload_n hx hb dJ6_numberOfTrailingZeros_0f7a4_62 rfl (lv_at hl 0 rfl) ?_
          refine lv_iconst (v := 4) hx hb dJ6_numberOfTrailingZeros_0f7a4_63 (by decide) ?_
          refine lv_icmp_le (tgt := 74) hx hb dJ6_numberOfTrailingZeros_0f7a4_64 (by decide) (fun c64 => ?_) (fun c64 => ?_)
          · have hr := (if_pos c64).symm.trans hr
            refine lv_iload_n hx hb dJ6_numberOfTrailingZeros_0f7a4_74 rfl (lv_at hl 1 rfl) ?_
            refine lv_iload_n hx hb dJ6_numberOfTrailingZeros_0f7a4_75 rfl (lv_at hl 0 rfl) ?_
            refine lv_iconst (v := 1) hx hb dJ6_numberOfTrailingZeros_0f7a4_76 (by decide) ?_
            refine lv_iushr (v := ushrI (ushrI (ushrI ((p0 ^^^ ((-1))) &&& (p0 - 1)) 16) 8) 1) hx hb dJ6_numberOfTrailingZeros_0f7a4_77 rfl ?_
            refine lv_iadd hx hb dJ6_numberOfTrailingZeros_0f7a4_78 ?_
            subst hr
            exact ret_i hx hb hrt hlocks hP hS dJ6_numberOfTrailingZeros_0f7a4_79
          · have hr := (if_neg c64).symm.trans hr
            refine lv_iinc (v := ((1 + 16) + 8) + 2) (lv' := [(1, .int (((1 + 16) + 8) + 2)), (0, .int (ushrI (ushrI ((p0 ^^^ ((-1))) &&& (p0 - 1)) 16) 8))]) hx hb dJ6_numberOfTrailingZeros_0f7a4_67 hl (k := 1) rfl rfl (by decide) rfl (fun ls hl => ?_)
            refine lv_iload_n hx hb dJ6_numberOfTrailingZeros_0f7a4_70 rfl (lv_at hl 1 rfl) ?_
            refine lv_iconst (v := 2) hx hb dJ6_numberOfTrailingZeros_0f7a4_71 (by decide) ?_
            refine lv_iushr (v := ushrI (ushrI (ushrI ((p0 ^^^ ((-1))) &&& (p0 - 1)) 16) 8) 2) hx hb dJ6_numberOfTrailingZeros_0f7a4_72 rfl ?_
            refine lv_istore_n (lv' := [(0, .int (ushrI (ushrI (ushrI ((p0 ^^^ ((-1))) &&& (p0 - 1)) 16) 8) 2)), (1, .int (((1 + 16) + 8) + 2))]) hx hb dJ6_numberOfTrailingZeros_0f7a4_73 rfl hl (by decide) rfl (fun ls hl => ?_)
            refine lv_iload_n hx hb dJ6_numberOfTrailingZeros_0f7a4_74 rfl (lv_at hl 1 rfl) ?_
            refine lv_iload_n hx hb dJ6_numberOfTrailingZeros_0f7a4_75 rfl (lv_at hl 0 rfl) ?_
            refine lv_iconst (v := 1) hx hb dJ6_numberOfTrailingZeros_0f7a4_76 (by decide) ?_
            refine lv_iushr (v := ushrI (ushrI (ushrI (ushrI ((p0 ^^^ ((-1))) &&& (p0 - 1)) 16) 8) 2) 1) hx hb dJ6_numberOfTrailingZeros_0f7a4_77 rfl ?_
            refine lv_iadd hx hb dJ6_numberOfTrailingZeros_0f7a4_78 ?_
            subst hr
            exact ret_i hx hb hrt hlocks hP hS dJ6_numberOfTrailingZeros_0f7a4_79
        · have hr := (if_neg c52).symm.trans hr
          refine lv_iinc (v := ((1 + 16) + 8) + 4) (lv' := [(1, .int (((1 + 16) + 8) + 4)), (0, .int (ushrI (ushrI ((p0 ^^^ ((-1))) &&& (p0 - 1)) 16) 8))]) hx hb dJ6_numberOfTrailingZeros_0f7a4_55 hl (k := 1) rfl rfl (by decide) rfl (fun ls hl => ?_)
          refine lv_iload_n hx hb dJ6_numberOfTrailingZeros_0f7a4_58 rfl (lv_at hl 1 rfl) ?_
          refine lv_iconst (v := 4) hx hb dJ6_numberOfTrailingZeros_0f7a4_59 (by decide) ?_
          refine lv_iushr (v := ushrI (ushrI (ushrI ((p0 ^^^ ((-1))) &&& (p0 - 1)) 16) 8) 4) hx hb dJ6_numberOfTrailingZeros_0f7a4_60 rfl ?_
          refine lv_istore_n (lv' := [(0, .int (ushrI (ushrI (ushrI ((p0 ^^^ ((-1))) &&& (p0 - 1)) 16) 8) 4)), (1, .int (((1 + 16) + 8) + 4))]) hx hb dJ6_numberOfTrailingZeros_0f7a4_61 rfl hl (by decide) rfl (fun ls hl => ?_)
          refine lv_iload_n hx hb dJ6_numberOfTrailingZeros_0f7a4_62 rfl (lv_at hl 0 rfl) ?_
          refine lv_iconst (v := 4) hx hb dJ6_numberOfTrailingZeros_0f7a4_63 (by decide) ?_
          refine lv_icmp_le (tgt := 74) hx hb dJ6_numberOfTrailingZeros_0f7a4_64 (by decide) (fun c64 => ?_) (fun c64 => ?_)
          · have hr := (if_pos c64).symm.trans hr
            refine lv_iload_n hx hb dJ6_numberOfTrailingZeros_0f7a4_74 rfl (lv_at hl 1 rfl) ?_
            refine lv_iload_n hx hb dJ6_numberOfTrailingZeros_0f7a4_75 rfl (lv_at hl 0 rfl) ?_
            refine lv_iconst (v := 1) hx hb dJ6_numberOfTrailingZeros_0f7a4_76 (by decide) ?_
            refine lv_iushr (v := ushrI (ushrI (ushrI (ushrI ((p0 ^^^ ((-1))) &&& (p0 - 1)) 16) 8) 4) 1) hx hb dJ6_numberOfTrailingZeros_0f7a4_77 rfl ?_
            refine lv_iadd hx hb dJ6_numberOfTrailingZeros_0f7a4_78 ?_
            subst hr
            exact ret_i hx hb hrt hlocks hP hS dJ6_numberOfTrailingZeros_0f7a4_79
          · have hr := (if_neg c64).symm.trans hr
            refine lv_iinc (v := (((1 + 16) + 8) + 4) + 2) (lv' := [(1, .int ((((1 + 16) + 8) + 4) + 2)), (0, .int (ushrI (ushrI (ushrI ((p0 ^^^ ((-1))) &&& (p0 - 1)) 16) 8) 4))]) hx hb dJ6_numberOfTrailingZeros_0f7a4_67 hl (k := 1) rfl rfl (by decide) rfl (fun ls hl => ?_)
            refine lv_iload_n hx hb dJ6_numberOfTrailingZeros_0f7a4_70 rfl (lv_at hl 1 rfl) ?_
            refine lv_iconst (v := 2) hx hb dJ6_numberOfTrailingZeros_0f7a4_71 (by decide) ?_
            refine lv_iushr (v := ushrI (ushrI (ushrI (ushrI ((p0 ^^^ ((-1))) &&& (p0 - 1)) 16) 8) 4) 2) hx hb dJ6_numberOfTrailingZeros_0f7a4_72 rfl ?_
            refine lv_istore_n (lv' := [(0, .int (ushrI (ushrI (ushrI (ushrI ((p0 ^^^ ((-1))) &&& (p0 - 1)) 16) 8) 4) 2)), (1, .int ((((1 + 16) + 8) + 4) + 2))]) hx hb dJ6_numberOfTrailingZeros_0f7a4_73 rfl hl (by decide) rfl (fun ls hl => ?_)
            refine lv_iload_n hx hb dJ6_numberOfTrailingZeros_0f7a4_74 rfl (lv_at hl 1 rfl) ?_
            refine lv_iload_n hx hb dJ6_numberOfTrailingZeros_0f7a4_75 rfl (lv_at hl 0 rfl) ?_
            refine lv_iconst (v := 1) hx hb dJ6_numberOfTrailingZeros_0f7a4_76 (by decide) ?_
            refine lv_iushr (v := ushrI (ushrI (ushrI (ushrI (ushrI ((p0 ^^^ ((-1))) &&& (p0 - 1)) 16) 8) 4) 2) 1) hx hb dJ6_numberOfTrailingZeros_0f7a4_77 rfl ?_
            refine lv_iadd hx hb dJ6_numberOfTrailingZeros_0f7a4_78 ?_
            subst hr
            exact ret_i hx hb hrt hlocks hP hS dJ6_numberOfTrailingZeros_0f7a4_79
  · have hr := (if_neg c9).symm.trans hr
    refine lv_iload_n hx hb dJ6_numberOfTrailingZeros_0f7a4_12 rfl (lv_at hl 0 rfl) ?_
    refine lv_bipush (v := 32) hx hb dJ6_numberOfTrailingZeros_0f7a4_13 (by decide) ?_
    refine lv_iand hx hb dJ6_numberOfTrailingZeros_0f7a4_15 ?_
    subst hr
    exact ret_i hx hb hrt hlocks hP hS dJ6_numberOfTrailingZeros_0f7a4_16
theorem hd_J13_numberOfTrailingZeros_95d88 : yJ13_numberOfTrailingZeros_95d88.cls ≠ "java/lang/invoke/MethodHandle" ∧ yJ13_numberOfTrailingZeros_95d88.cls ≠ "java/lang/invoke/VarHandle" ∧ (parseMethodDescriptor yJ13_numberOfTrailingZeros_95d88.desc).map (fun d => d.parameters.length) = some 1 := by decide +kernel
def f_J13_numberOfTrailingZeros_95d88 (p0 : Int64) : Int32 := (if p0.toInt32 = 0 then 32 + (f_J6_numberOfTrailingZeros_0f7a4 ((ushrL p0 32).toInt32)) else f_J6_numberOfTrailingZeros_0f7a4 p0.toInt32)
set_option maxHeartbeats 4000000 in
set_option maxRecDepth 100000 in
theorem c_J13_numberOfTrailingZeros_95d88 (l : Launch) (D : va_G) (cI cL cZ : ClassId) (A : Nat → Prop) (ws : va_W) (p0 : Int64) (r : Int32) (hr : f_J13_numberOfTrailingZeros_95d88 p0 = r) : MI l yJ13_numberOfTrailingZeros_95d88 (Cond.code yJ13_numberOfTrailingZeros_95d88 cJ13_numberOfTrailingZeros_95d88 3 (some .int) :: W0) 1 21 D cI cL cZ A [.long p0] ws r ws := by
  refine mk_start (cc := cJ13_numberOfTrailingZeros_95d88) (maxL := 3) (ret := (some .int)) (by decide) rfl (Nat.le_of_ble_eq_true rfl) ?_
  intro p e s m below meth c ls C hP hS hl
  obtain ⟨hx, hb, hml, hrt, hlocks, hown, hts, hk⟩ := C
  have hown : s.vm.findClass RJ13 = some m.cls := hown
  have hl : lv_has ls 3 [(0, .long p0)] := hl
  rw [f_J13_numberOfTrailingZeros_95d88] at hr
  refine lv_lload_n hx hb dJ13_numberOfTrailingZeros_95d88_0 rfl (lv_at hl 0 rfl) ?_
  refine lv_l2i hx hb dJ13_numberOfTrailingZeros_95d88_1 rfl ?_
  refine lv_istore_n (lv' := [(2, .int p0.toInt32), (0, .long p0)]) hx hb dJ13_numberOfTrailingZeros_95d88_2 rfl hl (by decide) rfl (fun ls hl => ?_)
  refine lv_iload_n hx hb dJ13_numberOfTrailingZeros_95d88_3 rfl (lv_at hl 0 rfl) ?_
  refine lv_if_ne (tgt := 21) hx hb dJ13_numberOfTrailingZeros_95d88_4 (by decide) (fun c4 => ?_) (fun c4 => ?_)
  · have hr := (if_neg c4).symm.trans hr
    refine lv_iload_n hx hb dJ13_numberOfTrailingZeros_95d88_21 rfl (lv_at hl 0 rfl) ?_
    refine go_i (ru_S (n := 1) ⟨hx, hb, hml, hown, hts⟩ hk hP (c_J6_numberOfTrailingZeros_0f7a4 l D cI cL cZ A ws p0.toInt32 _ rfl) (va_cwS 1 hts (gS q3_30 q3_31 q1_14 q3_32) rfl rfl rfl hd_J6_numberOfTrailingZeros_0f7a4 ⟨Nat.le_of_ble_eq_true rfl, Nat.le_of_ble_eq_true rfl⟩) rfl hl.1 rfl (Nat.le_of_ble_eq_true rfl) dJ13_numberOfTrailingZeros_95d88_22 ⟨Nat.zero_le _, Nat.zero_le _⟩) hS (fun _ h => h) (fun H locs hP hS => ?_)
    have hP : va_P D vwCl ws H := hP
    subst hr
    exact ret_i hx hb hrt hlocks hP hS dJ13_numberOfTrailingZeros_95d88_25
  · have hr := (if_pos c4).symm.trans hr
    refine lv_bipush (v := 32) hx hb dJ13_numberOfTrailingZeros_95d88_7 (by decide) ?_
    refine lv_lload_n hx hb dJ13_numberOfTrailingZeros_95d88_9 rfl (lv_at hl 1 rfl) ?_
    refine lv_bipush (v := 32) hx hb dJ13_numberOfTrailingZeros_95d88_10 (by decide) ?_
    refine lv_lushr (v := ushrL p0 32) hx hb dJ13_numberOfTrailingZeros_95d88_12 rfl ?_
    refine lv_l2i hx hb dJ13_numberOfTrailingZeros_95d88_13 rfl ?_
    refine go_i (ru_S (n := 1) ⟨hx, hb, hml, hown, hts⟩ hk hP (c_J6_numberOfTrailingZeros_0f7a4 l D cI cL cZ A ws ((ushrL p0 32).toInt32) _ rfl) (va_cwS 1 hts (gS q3_30 q3_31 q1_14 q3_32) rfl rfl rfl hd_J6_numberOfTrailingZeros_0f7a4 ⟨Nat.le_of_ble_eq_true rfl, Nat.le_of_ble_eq_true rfl⟩) rfl hl.1 rfl (Nat.le_of_ble_eq_true rfl) dJ13_numberOfTrailingZeros_95d88_14 ⟨Nat.zero_le _, Nat.zero_le _⟩) hS (fun _ h => h) (fun H locs hP hS => ?_)
    have hP : va_P D vwCl ws H := hP
    refine lv_iadd hx hb dJ13_numberOfTrailingZeros_95d88_17 ?_
    refine lv_goto (tgt := 25) hx hb dJ13_numberOfTrailingZeros_95d88_18 (by decide) ?_
    subst hr
    exact ret_i hx hb hrt hlocks hP hS dJ13_numberOfTrailingZeros_95d88_25
end
section
theorem hd_X7_at : yX7_at.cls ≠ "java/lang/invoke/MethodHandle" ∧ yX7_at.cls ≠ "java/lang/invoke/VarHandle" ∧ (parseMethodDescriptor yX7_at.desc).map (fun d => d.parameters.length) = some 2 := by decide +kernel
def f_X7_at (p1 : Int32) (n0 : Nat) (g_f : Nat → Int32) : Int32 := (if p1 < 0 then (-9) else (if (nI n0) ≤ p1 then (-9) else g_f p1.toNatClampNeg))
set_option maxHeartbeats 4000000 in
set_option maxRecDepth 100000 in
theorem c_X7_at (l : Launch) (D : va_G) (cI cL cZ : ClassId) (A : Nat → Prop) (ws : va_W) (q0 a0 n0 : Nat) (e0 : va_E) (hq : ws[q0]? = some (a0, e0)) (hD : va_D A ws) (g_f : Nat → Int32) (p1 : Int32) (r : Int32) (hr : f_X7_at p1 n0 g_f = r) (hn : n0 < 2 ^ 31) : MI l yX7_at (Cond.code yX7_at cX7_at 2 (some .int) :: W0) 0 0 D cI cL cZ A [.ref a0, .int p1] (ws.set q0 (a0, .inl (cI, n0, .inl g_f))) r (ws.set q0 (a0, .inl (cI, n0, .inl g_f))) := by
  refine mk_start (cc := cX7_at) (maxL := 2) (ret := (some .int)) (by decide) rfl (Nat.le_of_ble_eq_true rfl) ?_
  intro p e s m below meth c ls C hP hS hl
  obtain ⟨hx, hb, hml, hrt, hlocks, hown, hts, hk⟩ := C
  have hown : s.vm.findClass RX7 = some m.cls := hown
  have hl : lv_has ls 2 [(0, .ref a0), (1, .int p1)] := hl
  rw [f_X7_at] at hr
  refine lv_iload_n hx hb dX7_at_0 rfl (lv_at hl 1 rfl) ?_
  refine lv_if_lt (tgt := 16) hx hb dX7_at_1 (by decide) (fun c1 => ?_) (fun c1 => ?_)
  · have hr := (if_pos c1).symm.trans hr
    refine lv_bipush (v := (-9)) hx hb dX7_at_16 (by decide) ?_
    subst hr
    exact ret_i hx hb hrt hlocks hP hS dX7_at_18
  · have hr := (if_neg c1).symm.trans hr
    refine lv_iload_n hx hb dX7_at_4 rfl (lv_at hl 1 rfl) ?_
    refine lv_aload_n hx hb dX7_at_5 rfl (lv_at hl 0 rfl) ?_
    refine va_alen hx hb hk.1 hP q0 0 (List.getElem?_set_self (List.getElem?_eq_some_iff.mp hq).1) rfl rfl dX7_at_6 ?_
    refine lv_icmp_ge (tgt := 16) hx hb dX7_at_7 (by decide) (fun c7 => ?_) (fun c7 => ?_)
    · have hr := (if_pos c7).symm.trans hr
      refine lv_bipush (v := (-9)) hx hb dX7_at_16 (by decide) ?_
      subst hr
      exact ret_i hx hb hrt hlocks hP hS dX7_at_18
    · have hr := (if_neg c7).symm.trans hr
      refine lv_aload_n hx hb dX7_at_10 rfl (lv_at hl 0 rfl) ?_
      refine lv_iload_n hx hb dX7_at_11 rfl (lv_at hl 1 rfl) ?_
      refine va_iald hx hb hk.1 hP q0 0 (List.getElem?_set_self (List.getElem?_eq_some_iff.mp hq).1) rfl (vin_g hn (nn_of c1) c7) dX7_at_12 ?_
      refine lv_goto (tgt := 18) hx hb dX7_at_13 (by decide) ?_
      subst hr
      exact ret_i hx hb hrt hlocks hP hS dX7_at_18
theorem hd_X7_at_ : yX7_at_.cls ≠ "java/lang/invoke/MethodHandle" ∧ yX7_at_.cls ≠ "java/lang/invoke/VarHandle" ∧ (parseMethodDescriptor yX7_at_.desc).map (fun d => d.parameters.length) = some 2 := by decide +kernel
def f_X7_at_ (p1 : Int32) (n0 : Nat) (g_f : Nat → Int64) : Int64 := (if p1 < 0 then 0 else (if (nI n0) ≤ p1 then 0 else g_f p1.toNatClampNeg))
set_option maxHeartbeats 4000000 in
set_option maxRecDepth 100000 in
theorem c_X7_at_ (l : Launch) (D : va_G) (cI cL cZ : ClassId) (A : Nat → Prop) (ws : va_W) (q0 a0 n0 : Nat) (e0 : va_E) (hq : ws[q0]? = some (a0, e0)) (hD : va_D A ws) (g_f : Nat → Int64) (p1 : Int32) (r : Int64) (hr : f_X7_at_ p1 n0 g_f = r) (hn : n0 < 2 ^ 31) : ML l yX7_at_ (Cond.code yX7_at_ cX7_at_ 2 (some .long) :: W0) 0 0 D cI cL cZ A [.ref a0, .int p1] (ws.set q0 (a0, .inl (cL, n0, .inr (.inl g_f)))) r (ws.set q0 (a0, .inl (cL, n0, .inr (.inl g_f)))) := by
  refine mk_start (cc := cX7_at_) (maxL := 2) (ret := (some .long)) (by decide) rfl (Nat.le_of_ble_eq_true rfl) ?_
  intro p e s m below meth c ls C hP hS hl
  obtain ⟨hx, hb, hml, hrt, hlocks, hown, hts, hk⟩ := C
  have hown : s.vm.findClass RX7 = some m.cls := hown
  have hl : lv_has ls 2 [(0, .ref a0), (1, .int p1)] := hl
  rw [f_X7_at_] at hr
  refine lv_iload_n hx hb dX7_at__0 rfl (lv_at hl 1 rfl) ?_
  refine lv_if_lt (tgt := 16) hx hb dX7_at__1 (by decide) (fun c1 => ?_) (fun c1 => ?_)
  · have hr := (if_pos c1).symm.trans hr
    refine lv_lconst (v := 0) hx hb dX7_at__16 (by decide) ?_
    subst hr
    exact ret_l hx hb hrt hlocks hP hS dX7_at__17
  · have hr := (if_neg c1).symm.trans hr
    refine lv_iload_n hx hb dX7_at__4 rfl (lv_at hl 1 rfl) ?_
    refine lv_aload_n hx hb dX7_at__5 rfl (lv_at hl 0 rfl) ?_
    refine va_alen hx hb hk.1 hP q0 1 (List.getElem?_set_self (List.getElem?_eq_some_iff.mp hq).1) rfl rfl dX7_at__6 ?_
    refine lv_icmp_ge (tgt := 16) hx hb dX7_at__7 (by decide) (fun c7 => ?_) (fun c7 => ?_)
    · have hr := (if_pos c7).symm.trans hr
      refine lv_lconst (v := 0) hx hb dX7_at__16 (by decide) ?_
      subst hr
      exact ret_l hx hb hrt hlocks hP hS dX7_at__17
    · have hr := (if_neg c7).symm.trans hr
      refine lv_aload_n hx hb dX7_at__10 rfl (lv_at hl 0 rfl) ?_
      refine lv_iload_n hx hb dX7_at__11 rfl (lv_at hl 1 rfl) ?_
      refine va_lald hx hb hk.1 hP q0 1 (List.getElem?_set_self (List.getElem?_eq_some_iff.mp hq).1) rfl (vin_g hn (nn_of c1) c7) dX7_at__12 ?_
      refine lv_goto (tgt := 17) hx hb dX7_at__13 (by decide) ?_
      subst hr
      exact ret_l hx hb hrt hlocks hP hS dX7_at__17
theorem hd_X7_put : yX7_put.cls ≠ "java/lang/invoke/MethodHandle" ∧ yX7_put.cls ≠ "java/lang/invoke/VarHandle" ∧ (parseMethodDescriptor yX7_put.desc).map (fun d => d.parameters.length) = some 3 := by decide +kernel
def f_X7_put (p1 : Int32) (p2 : Int32) (n0 : Nat) (g_f : Nat → Int32) : (Nat → Int32) := (if p1 < 0 then g_f else (if (nI n0) ≤ p1 then g_f else upd g_f p1.toNatClampNeg p2))
set_option maxHeartbeats 4000000 in
set_option maxRecDepth 100000 in
theorem c_X7_put (l : Launch) (D : va_G) (cI cL cZ : ClassId) (A : Nat → Prop) (ws : va_W) (q0 a0 n0 : Nat) (e0 : va_E) (hq : ws[q0]? = some (a0, e0)) (hD : va_D A ws) (g_f : Nat → Int32) (p1 p2 : Int32) (r : (Nat → Int32)) (hr : f_X7_put p1 p2 n0 g_f = r) (hn : n0 < 2 ^ 31) : MV l yX7_put (Cond.code yX7_put cX7_put 3 none :: W0) 0 0 D cI cL cZ A [.ref a0, .int p1, .int p2] (ws.set q0 (a0, .inl (cI, n0, .inl g_f))) (ws.set q0 (a0, .inl (cI, n0, .inl r))) := by
  refine mk_start (cc := cX7_put) (maxL := 3) (ret := none) (by decide) rfl (Nat.le_of_ble_eq_true rfl) ?_
  intro p e s m below meth c ls C hP hS hl
  obtain ⟨hx, hb, hml, hrt, hlocks, hown, hts, hk⟩ := C
  have hown : s.vm.findClass RX7 = some m.cls := hown
  have hl : lv_has ls 3 [(0, .ref a0), (1, .int p1), (2, .int p2)] := hl
  rw [f_X7_put] at hr
  refine lv_iload_n hx hb dX7_put_0 rfl (lv_at hl 1 rfl) ?_
  refine lv_if_lt (tgt := 14) hx hb dX7_put_1 (by decide) (fun c1 => ?_) (fun c1 => ?_)
  · have hr := (if_pos c1).symm.trans hr
    subst hr
    exact ret_v hx hb hrt hlocks hP hS dX7_put_14
  · have hr := (if_neg c1).symm.trans hr
    refine lv_iload_n hx hb dX7_put_4 rfl (lv_at hl 1 rfl) ?_
    refine lv_aload_n hx hb dX7_put_5 rfl (lv_at hl 0 rfl) ?_
    refine va_alen hx hb hk.1 hP q0 0 (List.getElem?_set_self (List.getElem?_eq_some_iff.mp hq).1) rfl rfl dX7_put_6 ?_
    refine lv_icmp_ge (tgt := 14) hx hb dX7_put_7 (by decide) (fun c7 => ?_) (fun c7 => ?_)
    · have hr := (if_pos c7).symm.trans hr
      subst hr
      exact ret_v hx hb hrt hlocks hP hS dX7_put_14
    · have hr := (if_neg c7).symm.trans hr
      refine lv_aload_n hx hb dX7_put_10 rfl (lv_at hl 0 rfl) ?_
      refine lv_iload_n hx hb dX7_put_11 rfl (lv_at hl 1 rfl) ?_
      refine lv_iload_n hx hb dX7_put_12 rfl (lv_at hl 2 rfl) ?_
      refine va_iast hx hb hk.1 hP (va_D.set hD hq) hS q0 0 (List.getElem?_set_self (List.getElem?_eq_some_iff.mp hq).1) rfl (vin_g hn (nn_of c1) c7) dX7_put_13 (fun H locs hP _ hS => ?_)
      rw [List.set_set] at hP
      have hP : va_P D vwCl (ws.set q0 (a0, .inl (cI, n0, .inl (upd g_f p1.toNatClampNeg p2)))) H := hP
      subst hr
      exact ret_v hx hb hrt hlocks hP hS dX7_put_14
theorem hd_X7_put_ : yX7_put_.cls ≠ "java/lang/invoke/MethodHandle" ∧ yX7_put_.cls ≠ "java/lang/invoke/VarHandle" ∧ (parseMethodDescriptor yX7_put_.desc).map (fun d => d.parameters.length) = some 3 := by decide +kernel
def f_X7_put_ (p1 : Int32) (p2 : Int64) (n0 : Nat) (g_f : Nat → Int64) : (Nat → Int64) := (if p1 < 0 then g_f else (if (nI n0) ≤ p1 then g_f else vp_updL g_f p1.toNatClampNeg p2))
set_option maxHeartbeats 4000000 in
set_option maxRecDepth 100000 in
theorem c_X7_put_ (l : Launch) (D : va_G) (cI cL cZ : ClassId) (A : Nat → Prop) (ws : va_W) (q0 a0 n0 : Nat) (e0 : va_E) (hq : ws[q0]? = some (a0, e0)) (hD : va_D A ws) (g_f : Nat → Int64) (p1 : Int32) (p2 : Int64) (r : (Nat → Int64)) (hr : f_X7_put_ p1 p2 n0 g_f = r) (hn : n0 < 2 ^ 31) : MV l yX7_put_ (Cond.code yX7_put_ cX7_put_ 4 none :: W0) 0 0 D cI cL cZ A [.ref a0, .int p1, .long p2] (ws.set q0 (a0, .inl (cL, n0, .inr (.inl g_f)))) (ws.set q0 (a0, .inl (cL, n0, .inr (.inl r)))) := by
  refine mk_start (cc := cX7_put_) (maxL := 4) (ret := none) (by decide) rfl (Nat.le_of_ble_eq_true rfl) ?_
  intro p e s m below meth c ls C hP hS hl
  obtain ⟨hx, hb, hml, hrt, hlocks, hown, hts, hk⟩ := C
  have hown : s.vm.findClass RX7 = some m.cls := hown
  have hl : lv_has ls 4 [(0, .ref a0), (1, .int p1), (2, .long p2)] := hl
  rw [f_X7_put_] at hr
  refine lv_iload_n hx hb dX7_put__0 rfl (lv_at hl 1 rfl) ?_
  refine lv_if_lt (tgt := 14) hx hb dX7_put__1 (by decide) (fun c1 => ?_) (fun c1 => ?_)
  · have hr := (if_pos c1).symm.trans hr
    subst hr
    exact ret_v hx hb hrt hlocks hP hS dX7_put__14
  · have hr := (if_neg c1).symm.trans hr
    refine lv_iload_n hx hb dX7_put__4 rfl (lv_at hl 1 rfl) ?_
    refine lv_aload_n hx hb dX7_put__5 rfl (lv_at hl 0 rfl) ?_
    refine va_alen hx hb hk.1 hP q0 1 (List.getElem?_set_self (List.getElem?_eq_some_iff.mp hq).1) rfl rfl dX7_put__6 ?_
    refine lv_icmp_ge (tgt := 14) hx hb dX7_put__7 (by decide) (fun c7 => ?_) (fun c7 => ?_)
    · have hr := (if_pos c7).symm.trans hr
      subst hr
      exact ret_v hx hb hrt hlocks hP hS dX7_put__14
    · have hr := (if_neg c7).symm.trans hr
      refine lv_aload_n hx hb dX7_put__10 rfl (lv_at hl 0 rfl) ?_
      refine lv_iload_n hx hb dX7_put__11 rfl (lv_at hl 1 rfl) ?_
      refine lv_lload_n hx hb dX7_put__12 rfl (lv_at hl 2 rfl) ?_
      refine va_last hx hb hk.1 hP (va_D.set hD hq) hS q0 1 (List.getElem?_set_self (List.getElem?_eq_some_iff.mp hq).1) rfl (vin_g hn (nn_of c1) c7) dX7_put__13 (fun H locs hP _ hS => ?_)
      rw [List.set_set] at hP
      have hP : va_P D vwCl (ws.set q0 (a0, .inl (cL, n0, .inr (.inl (vp_updL g_f p1.toNatClampNeg p2))))) H := hP
      subst hr
      exact ret_v hx hb hrt hlocks hP hS dX7_put__14
theorem hd_J7_fill_53178 : yJ7_fill_53178.cls ≠ "java/lang/invoke/MethodHandle" ∧ yJ7_fill_53178.cls ≠ "java/lang/invoke/VarHandle" ∧ (parseMethodDescriptor yJ7_fill_53178.desc).map (fun d => d.parameters.length) = some 2 := by decide +kernel
def F_J7_fill_53178_5 (y1 : Int32) (y3 : Int32) {β : Type} (k0 : (Nat → Int32) → β) : Nat → Int32 → (Nat → Int32) → β
  | 0, x2, g_f => k0 g_f
  | n + 1, x2, g_f => (if y3 ≤ x2 then k0 g_f else F_J7_fill_53178_5 y1 y3 k0 n (x2 + 1) (upd g_f x2.toNatClampNeg y1))
def f_J7_fill_53178 (p1 : Int32) (n0 : Nat) (g_f : Nat → Int32) : (Nat → Int32) := F_J7_fill_53178_5 p1 (nI n0) (fun z1 => z1) (fu (nI n0) 0) 0 g_f
set_option maxHeartbeats 4000000 in
set_option maxRecDepth 100000 in
theorem lp_J7_fill_53178_5 (l : Launch) (D : va_G) (cI cL cZ : ClassId) (A : Nat → Prop) (ws : va_W) (q0 a0 n0 : Nat) (e0 : va_E) (hq : ws[q0]? = some (a0, e0)) (hD : va_D A ws) (hn : n0 < 2 ^ 31) {p : Program} {e : Env} {s : State} {m : MethodId} {args : Array Value} {below : List Frame} {meth : Method} {c : Code} {Q : State → Prop} (C : Cx p s m args meth c cJ7_fill_53178 4 none W0 RJ7 D cI cL cZ) (y1 y3 : Int32) (h3 : y3 = nI n0) {β : Type} (k0 : (Nat → Int32) → β) (r : β)
    (h0 : ∀ (g_f : Nat → Int32) (H : Heap) (locs : List Loc) (ls : Array Slot), k0 g_f = r → va_P D vwCl (ws.set q0 (a0, .inl (cI, n0, .inl g_f))) H → va_S A s.heap H locs → lv_has ls 4 [] → W p l e (rmS 0 0) s m args below meth c H locs 0 0 Q (F0 m 20 ls [])) :
    ∀ (n : Nat) (x2 : Int32) (g_f : Nat → Int32) (H : Heap) (locs : List Loc) (ls : Array Slot), fuU n y3 x2 → F_J7_fill_53178_5 y1 y3 k0 n x2 g_f = r → va_P D vwCl (ws.set q0 (a0, .inl (cI, n0, .inl g_f))) H → va_S A s.heap H locs → lv_has ls 4 [(0, .ref a0), (1, .int y1), (2, .int x2), (3, .int y3)] → W p l e (rmS 0 0) s m args below meth c H locs 0 0 Q (F0 m 5 ls []) := by
  obtain ⟨hx, hb, hml, hrt, hlocks, hown, hts, hk⟩ := C
  intro n
  induction n with
  | zero =>
    intro x2 g_f H locs ls hf
    exact absurd hf.1 (Nat.lt_irrefl 0)
  | succ n ih =>
    intro x2 g_f H locs ls hf hr hP hS hl
    rw [F_J7_fill_53178_5] at hr
    refine lv_iload_n hx hb dJ7_fill_53178_5 rfl (lv_at hl 2 rfl) ?_
    refine lv_iload_n hx hb dJ7_fill_53178_6 rfl (lv_at hl 3 rfl) ?_
    refine lv_icmp_ge (tgt := 20) hx hb dJ7_fill_53178_7 (by decide) (fun c7 => ?_) (fun c7 => ?_)
    · have hr := (if_pos c7).symm.trans hr
      exact h0 g_f _ _ _ hr hP hS (lv_sub hl [] rfl)
    · have hr := (if_neg c7).symm.trans hr
      refine lv_aload_n hx hb dJ7_fill_53178_10 rfl (lv_at hl 0 rfl) ?_
      refine lv_iload_n hx hb dJ7_fill_53178_11 rfl (lv_at hl 2 rfl) ?_
      refine lv_iload_n hx hb dJ7_fill_53178_12 rfl (lv_at hl 1 rfl) ?_
      refine va_iast hx hb hk.1 hP (va_D.set hD hq) hS q0 0 (List.getElem?_set_self (List.getElem?_eq_some_iff.mp hq).1) rfl (vin_g hn hf.2.2 (h3 ▸ c7)) dJ7_fill_53178_13 (fun H locs hP _ hS => ?_)
      rw [List.set_set] at hP
      have hP : va_P D vwCl (ws.set q0 (a0, .inl (cI, n0, .inl (upd g_f x2.toNatClampNeg y1)))) H := hP
      refine lv_iinc (v := x2 + 1) (lv' := [(2, .int (x2 + 1)), (0, .ref a0), (1, .int y1), (3, .int y3)]) hx hb dJ7_fill_53178_14 hl (k := 2) rfl rfl (by decide) rfl (fun ls hl => ?_)
      refine lv_goto (tgt := 5) hx hb dJ7_fill_53178_17 (by decide) ?_
      exact ih (x2 + 1) (upd g_f x2.toNatClampNeg y1) _ _ _ (fuU_s hf c7) hr hP hS (lv_sub hl [1, 2, 0, 3] rfl)
set_option maxHeartbeats 4000000 in
set_option maxRecDepth 100000 in
theorem c_J7_fill_53178 (l : Launch) (D : va_G) (cI cL cZ : ClassId) (A : Nat → Prop) (ws : va_W) (q0 a0 n0 : Nat) (e0 : va_E) (hq : ws[q0]? = some (a0, e0)) (hD : va_D A ws) (g_f : Nat → Int32) (p1 : Int32) (r : (Nat → Int32)) (hr : f_J7_fill_53178 p1 n0 g_f = r) (hn : n0 < 2 ^ 31) : MV l yJ7_fill_53178 (Cond.code yJ7_fill_53178 cJ7_fill_53178 4 none :: W0) 0 0 D cI cL cZ A [.ref a0, .int p1] (ws.set q0 (a0, .inl (cI, n0, .inl g_f))) (ws.set q0 (a0, .inl (cI, n0, .inl r))) := by
  refine mk_start (cc := cJ7_fill_53178) (maxL := 4) (ret := none) (by decide) rfl (Nat.le_of_ble_eq_true rfl) ?_
  intro p e s m below meth c ls C hP hS hl
  obtain ⟨hx, hb, hml, hrt, hlocks, hown, hts, hk⟩ := C
  have hown : s.vm.findClass RJ7 = some m.cls := hown
  have hl : lv_has ls 4 [(0, .ref a0), (1, .int p1)] := hl
  rw [f_J7_fill_53178] at hr
  refine lv_iconst (v := 0) hx hb dJ7_fill_53178_0 (by decide) ?_
  refine lv_istore_n (lv' := [(2, .int 0), (0, .ref a0), (1, .int p1)]) hx hb dJ7_fill_53178_1 rfl hl (by decide) rfl (fun ls hl => ?_)
  refine lv_aload_n hx hb dJ7_fill_53178_2 rfl (lv_at hl 1 rfl) ?_
  refine va_alen hx hb hk.1 hP q0 0 (List.getElem?_set_self (List.getElem?_eq_some_iff.mp hq).1) rfl rfl dJ7_fill_53178_3 ?_
  refine lv_istore_n (lv' := [(3, .int (nI n0)), (2, .int 0), (0, .ref a0), (1, .int p1)]) hx hb dJ7_fill_53178_4 rfl hl (by decide) rfl (fun ls hl => ?_)
  refine lp_J7_fill_53178_5 l D cI cL cZ A ws q0 a0 n0 e0 hq hD hn ⟨hx, hb, hml, hrt, hlocks, hown, hts, hk⟩ p1 (nI n0) rfl _ _ (fun z1 H locs ls hr hP hS hl => ?_) (fu (nI n0) 0) 0 g_f _ _ _ (fuU_0 (by decide)) hr hP hS (lv_sub hl [2, 3, 1, 0] rfl)
  subst hr
  exact ret_v hx hb hrt hlocks hP hS dJ7_fill_53178_20
theorem hd_J7_fill_d0a16 : yJ7_fill_d0a16.cls ≠ "java/lang/invoke/MethodHandle" ∧ yJ7_fill_d0a16.cls ≠ "java/lang/invoke/VarHandle" ∧ (parseMethodDescriptor yJ7_fill_d0a16.desc).map (fun d => d.parameters.length) = some 2 := by decide +kernel
def F_J7_fill_d0a16_6 (y1 : Int64) (y4 : Int32) {β : Type} (k0 : (Nat → Int64) → β) : Nat → Int32 → (Nat → Int64) → β
  | 0, x3, g_f => k0 g_f
  | n + 1, x3, g_f => (if y4 ≤ x3 then k0 g_f else F_J7_fill_d0a16_6 y1 y4 k0 n (x3 + 1) (vp_updL g_f x3.toNatClampNeg y1))
def f_J7_fill_d0a16 (p1 : Int64) (n0 : Nat) (g_f : Nat → Int64) : (Nat → Int64) := F_J7_fill_d0a16_6 p1 (nI n0) (fun z1 => z1) (fu (nI n0) 0) 0 g_f
set_option maxHeartbeats 4000000 in
set_option maxRecDepth 100000 in
theorem lp_J7_fill_d0a16_6 (l : Launch) (D : va_G) (cI cL cZ : ClassId) (A : Nat → Prop) (ws : va_W) (q0 a0 n0 : Nat) (e0 : va_E) (hq : ws[q0]? = some (a0, e0)) (hD : va_D A ws) (hn : n0 < 2 ^ 31) {p : Program} {e : Env} {s : State} {m : MethodId} {args : Array Value} {below : List Frame} {meth : Method} {c : Code} {Q : State → Prop} (C : Cx p s m args meth c cJ7_fill_d0a16 5 none W0 RJ7 D cI cL cZ) (y1 : Int64) (y4 : Int32) (h3 : y4 = nI n0) {β : Type} (k0 : (Nat → Int64) → β) (r : β)
    (h0 : ∀ (g_f : Nat → Int64) (H : Heap) (locs : List Loc) (ls : Array Slot), k0 g_f = r → va_P D vwCl (ws.set q0 (a0, .inl (cL, n0, .inr (.inl g_f)))) H → va_S A s.heap H locs → lv_has ls 5 [] → W p l e (rmS 0 0) s m args below meth c H locs 0 0 Q (F0 m 22 ls [])) :
    ∀ (n : Nat) (x3 : Int32) (g_f : Nat → Int64) (H : Heap) (locs : List Loc) (ls : Array Slot), fuU n y4 x3 → F_J7_fill_d0a16_6 y1 y4 k0 n x3 g_f = r → va_P D vwCl (ws.set q0 (a0, .inl (cL, n0, .inr (.inl g_f)))) H → va_S A s.heap H locs → lv_has ls 5 [(0, .ref a0), (1, .long y1), (3, .int x3), (4, .int y4)] → W p l e (rmS 0 0) s m args below meth c H locs 0 0 Q (F0 m 6 ls []) := by
  obtain ⟨hx, hb, hml, hrt, hlocks, hown, hts, hk⟩ := C
  intro n
  induction n with
  | zero =>
    intro x3 g_f H locs ls hf
    exact absurd hf.1 (Nat.lt_irrefl 0)
  | succ n ih =>
    intro x3 g_f H locs ls hf hr hP hS hl
    rw [F_J7_fill_d0a16_6] at hr
    refine lv_iload_n hx hb dJ7_fill_d0a16_6 rfl (lv_at hl 2 rfl) ?_
    refine lv_iload hx hb dJ7_fill_d0a16_7 (lv_at hl 3 rfl) ?_
    refine lv_icmp_ge (tgt := 22) hx hb dJ7_fill_d0a16_9 (by decide) (fun c9 => ?_) (fun c9 => ?_)
    · have hr := (if_pos c9).symm.trans hr
      exact h0 g_f _ _ _ hr hP hS (lv_sub hl [] rfl)
    · have hr := (if_neg c9).symm.trans hr
      refine lv_aload_n hx hb dJ7_fill_d0a16_12 rfl (lv_at hl 0 rfl) ?_
      refine lv_iload_n hx hb dJ7_fill_d0a16_13 rfl (lv_at hl 2 rfl) ?_
      refine lv_lload_n hx hb dJ7_fill_d0a16_14 rfl (lv_at hl 1 rfl) ?_
      refine va_last hx hb hk.1 hP (va_D.set hD hq) hS q0 1 (List.getElem?_set_self (List.getElem?_eq_some_iff.mp hq).1) rfl (vin_g hn hf.2.2 (h3 ▸ c9)) dJ7_fill_d0a16_15 (fun H locs hP _ hS => ?_)
      rw [List.set_set] at hP
      have hP : va_P D vwCl (ws.set q0 (a0, .inl (cL, n0, .inr (.inl (vp_updL g_f x3.toNatClampNeg y1))))) H := hP
      refine lv_iinc (v := x3 + 1) (lv' := [(3, .int (x3 + 1)), (0, .ref a0), (1, .long y1), (4, .int y4)]) hx hb dJ7_fill_d0a16_16 hl (k := 2) rfl rfl (by decide) rfl (fun ls hl => ?_)
      refine lv_goto (tgt := 6) hx hb dJ7_fill_d0a16_19 (by decide) ?_
      exact ih (x3 + 1) (vp_updL g_f x3.toNatClampNeg y1) _ _ _ (fuU_s hf c9) hr hP hS (lv_sub hl [1, 2, 0, 3] rfl)
set_option maxHeartbeats 4000000 in
set_option maxRecDepth 100000 in
theorem c_J7_fill_d0a16 (l : Launch) (D : va_G) (cI cL cZ : ClassId) (A : Nat → Prop) (ws : va_W) (q0 a0 n0 : Nat) (e0 : va_E) (hq : ws[q0]? = some (a0, e0)) (hD : va_D A ws) (g_f : Nat → Int64) (p1 : Int64) (r : (Nat → Int64)) (hr : f_J7_fill_d0a16 p1 n0 g_f = r) (hn : n0 < 2 ^ 31) : MV l yJ7_fill_d0a16 (Cond.code yJ7_fill_d0a16 cJ7_fill_d0a16 5 none :: W0) 0 0 D cI cL cZ A [.ref a0, .long p1] (ws.set q0 (a0, .inl (cL, n0, .inr (.inl g_f)))) (ws.set q0 (a0, .inl (cL, n0, .inr (.inl r)))) := by
  refine mk_start (cc := cJ7_fill_d0a16) (maxL := 5) (ret := none) (by decide) rfl (Nat.le_of_ble_eq_true rfl) ?_
  intro p e s m below meth c ls C hP hS hl
  obtain ⟨hx, hb, hml, hrt, hlocks, hown, hts, hk⟩ := C
  have hown : s.vm.findClass RJ7 = some m.cls := hown
  have hl : lv_has ls 5 [(0, .ref a0), (1, .long p1)] := hl
  rw [f_J7_fill_d0a16] at hr
  refine lv_iconst (v := 0) hx hb dJ7_fill_d0a16_0 (by decide) ?_
  refine lv_istore_n (lv' := [(3, .int 0), (0, .ref a0), (1, .long p1)]) hx hb dJ7_fill_d0a16_1 rfl hl (by decide) rfl (fun ls hl => ?_)
  refine lv_aload_n hx hb dJ7_fill_d0a16_2 rfl (lv_at hl 1 rfl) ?_
  refine va_alen hx hb hk.1 hP q0 1 (List.getElem?_set_self (List.getElem?_eq_some_iff.mp hq).1) rfl rfl dJ7_fill_d0a16_3 ?_
  refine lv_istore (lv' := [(4, .int (nI n0)), (3, .int 0), (0, .ref a0), (1, .long p1)]) hx hb dJ7_fill_d0a16_4 hl (by decide) rfl (fun ls hl => ?_)
  refine lp_J7_fill_d0a16_6 l D cI cL cZ A ws q0 a0 n0 e0 hq hD hn ⟨hx, hb, hml, hrt, hlocks, hown, hts, hk⟩ p1 (nI n0) rfl _ _ (fun z1 H locs ls hr hP hS hl => ?_) (fu (nI n0) 0) 0 g_f _ _ _ (fuU_0 (by decide)) hr hP hS (lv_sub hl [2, 3, 1, 0] rfl)
  subst hr
  exact ret_v hx hb hrt hlocks hP hS dJ7_fill_d0a16_22
end
section
theorem hd_X0_stateOf : yX0_stateOf.cls = RX0 ∧ yX0_stateOf.cls ≠ "java/lang/invoke/MethodHandle" ∧ yX0_stateOf.cls ≠ "java/lang/invoke/VarHandle" ∧ (parseMethodDescriptor yX0_stateOf.desc).map (fun d => d.parameters.length) = some 1 := by decide +kernel
def f_X0_stateOf (p1 : Int32) (b_l : Int64) (b_b : Int64) : Int32 := (if (lg_cmp (b_l &&& (f_X7_bit p1)) 0) = 0 then (if (lg_cmp (b_b &&& (f_X7_bit p1)) 0) = 0 then 0 else 2) else 1)
set_option maxHeartbeats 4000000 in
set_option maxRecDepth 100000 in
theorem c_X0_stateOf (l : Launch) (D : va_G) (cI cL cZ : ClassId) (ad : Nat → Nat) (c_sr t_n t_r t_w s_w s_h s_c s_p s_s p_nx p_sz r_k r_r r_p l_z q_z : Int32) (t_t b_l b_b b_n r_t l_l l_b l_n q_l q_b q_n : Int64) (t_le s_cs s_ps s_ha s_en pk ik : Nat → Int32) (s_ro s_me s_be s_se s_co pl pb pn il ib im l_a q_a : Nat → Int64) (hAd : cInj ad) (p1 : Int32) (r : Int32) (hr : f_X0_stateOf p1 b_l b_b = r) : MI l yX0_stateOf (Cond.code yX0_stateOf cX0_stateOf 2 (some .int) :: W0) 1 20 D cI cL cZ (cAd ad) [.ref (ad 13), .int p1] (cw ad cI cL cZ c_sr t_n t_r t_w s_w s_h s_c s_p s_s p_nx p_sz r_k r_r r_p l_z q_z t_t b_l b_b b_n r_t l_l l_b l_n q_l q_b q_n t_le s_cs s_ps s_ha s_en pk ik s_ro s_me s_be s_se s_co pl pb pn il ib im l_a q_a) r (cw ad cI cL cZ c_sr t_n t_r t_w s_w s_h s_c s_p s_s p_nx p_sz r_k r_r r_p l_z q_z t_t b_l b_b b_n r_t l_l l_b l_n q_l q_b q_n t_le s_cs s_ps s_ha s_en pk ik s_ro s_me s_be s_se s_co pl pb pn il ib im l_a q_a) := by
  refine mk_start (cc := cX0_stateOf) (maxL := 2) (ret := (some .int)) (by decide) rfl (Nat.le_of_ble_eq_true rfl) ?_
  intro p e s m below meth c ls C hP hS hl
  obtain ⟨hx, hb, hml, hrt, hlocks, hown, hts, hk⟩ := C
  have hown : s.vm.findClass RX0 = some m.cls := hown
  have hl : lv_has ls 2 [(0, .ref (ad 13)), (1, .int p1)] := hl
  rw [f_X0_stateOf] at hr
  refine lv_aload_n hx hb dX0_stateOf_0 rfl (lv_at hl 0 rfl) ?_
  refine va_get (D := D) (ci := 0) (v := .long b_l) (C := RX0) (T := TX0) (N := 3) hx hb hts u_X0 hown hk.1 hP 13 rfl rfl 0 (by decide) (hts _ q1_114) (fun _ h9 => h9) rfl dX0_stateOf_1 ?_
  refine lv_iload_n hx hb dX0_stateOf_4 rfl (lv_at hl 1 rfl) ?_
  refine go_l (ru_N (n := 1) ⟨hx, hb, hml, hown, hts⟩ hk hP (c_X7_bit l D cI cL cZ (cAd ad) (cw ad cI cL cZ c_sr t_n t_r t_w s_w s_h s_c s_p s_s p_nx p_sz r_k r_r r_p l_z q_z t_t b_l b_b b_n r_t l_l l_b l_n q_l q_b q_n t_le s_cs s_ps s_ha s_en pk ik s_ro s_me s_be s_se s_co pl pb pn il ib im l_a q_a) p1 _ rfl) ⟨va_cnB 1 hts (gN q2_20) rfl rfl rfl (hk.2 _ nwm_X0_21) (hts _ q1_1) hd_X7_bit ⟨Nat.le_of_ble_eq_true rfl, Nat.le_of_ble_eq_true rfl⟩, hts _ q2_19, trivial⟩ rfl hl.1 rfl (Nat.le_of_ble_eq_true rfl) dX0_stateOf_5 ⟨Nat.zero_le _, Nat.zero_le _⟩) hS (fun _ h => h) (fun H locs hP hS => ?_)
  have hP : va_P D vwCl (cw ad cI cL cZ c_sr t_n t_r t_w s_w s_h s_c s_p s_s p_nx p_sz r_k r_r r_p l_z q_z t_t b_l b_b b_n r_t l_l l_b l_n q_l q_b q_n t_le s_cs s_ps s_ha s_en pk ik s_ro s_me s_be s_se s_co pl pb pn il ib im l_a q_a) H := hP
  refine lv_land hx hb dX0_stateOf_8 ?_
  refine lv_lconst (v := 0) hx hb dX0_stateOf_9 (by decide) ?_
  refine W.lcmp hx hb dX0_stateOf_10 ?_
  refine lv_if_eq (tgt := 16) hx hb dX0_stateOf_11 (by decide) (fun c11 => ?_) (fun c11 => ?_)
  · have hr := (if_pos c11).symm.trans hr
    refine lv_aload_n hx hb dX0_stateOf_16 rfl (lv_at hl 0 rfl) ?_
    refine va_get (D := D) (ci := 0) (v := .long b_b) (C := RX0) (T := TX0) (N := 3) hx hb hts u_X0 hown hk.1 hP 13 rfl rfl 1 (by decide) (hts _ q1_118) (fun _ h9 => h9) rfl dX0_stateOf_17 ?_
    refine lv_iload_n hx hb dX0_stateOf_20 rfl (lv_at hl 1 rfl) ?_
    refine go_l (ru_N (n := 1) ⟨hx, hb, hml, hown, hts⟩ hk hP (c_X7_bit l D cI cL cZ (cAd ad) (cw ad cI cL cZ c_sr t_n t_r t_w s_w s_h s_c s_p s_s p_nx p_sz r_k r_r r_p l_z q_z t_t b_l b_b b_n r_t l_l l_b l_n q_l q_b q_n t_le s_cs s_ps s_ha s_en pk ik s_ro s_me s_be s_se s_co pl pb pn il ib im l_a q_a) p1 _ rfl) ⟨va_cnB 1 hts (gN q2_20) rfl rfl rfl (hk.2 _ nwm_X0_21) (hts _ q1_1) hd_X7_bit ⟨Nat.le_of_ble_eq_true rfl, Nat.le_of_ble_eq_true rfl⟩, hts _ q2_19, trivial⟩ rfl hl.1 rfl (Nat.le_of_ble_eq_true rfl) dX0_stateOf_21 ⟨Nat.zero_le _, Nat.zero_le _⟩) hS (fun _ h => h) (fun H locs hP hS => ?_)
    have hP : va_P D vwCl (cw ad cI cL cZ c_sr t_n t_r t_w s_w s_h s_c s_p s_s p_nx p_sz r_k r_r r_p l_z q_z t_t b_l b_b b_n r_t l_l l_b l_n q_l q_b q_n t_le s_cs s_ps s_ha s_en pk ik s_ro s_me s_be s_se s_co pl pb pn il ib im l_a q_a) H := hP
    refine lv_land hx hb dX0_stateOf_24 ?_
    refine lv_lconst (v := 0) hx hb dX0_stateOf_25 (by decide) ?_
    refine W.lcmp hx hb dX0_stateOf_26 ?_
    refine lv_if_eq (tgt := 34) hx hb dX0_stateOf_27 (by decide) (fun c27 => ?_) (fun c27 => ?_)
    · have hr := (if_pos c27).symm.trans hr
      refine lv_iconst (v := 0) hx hb dX0_stateOf_34 (by decide) ?_
      subst hr
      exact ret_i hx hb hrt hlocks hP hS dX0_stateOf_35
    · have hr := (if_neg c27).symm.trans hr
      refine lv_iconst (v := 2) hx hb dX0_stateOf_30 (by decide) ?_
      refine lv_goto (tgt := 35) hx hb dX0_stateOf_31 (by decide) ?_
      subst hr
      exact ret_i hx hb hrt hlocks hP hS dX0_stateOf_35
  · have hr := (if_neg c11).symm.trans hr
    refine lv_iconst (v := 1) hx hb dX0_stateOf_14 (by decide) ?_
    subst hr
    exact ret_i hx hb hrt hlocks hP hS dX0_stateOf_15
theorem hd_X0_mark : yX0_mark.cls = RX0 ∧ yX0_mark.cls ≠ "java/lang/invoke/MethodHandle" ∧ yX0_mark.cls ≠ "java/lang/invoke/VarHandle" ∧ (parseMethodDescriptor yX0_mark.desc).map (fun d => d.parameters.length) = some 2 := by decide +kernel
def f_X0_mark (p1 : Int32) (p2 : Int32) (b_l : Int64) (b_b : Int64) : Int64 × Int64 := (if p2 = 1 then ((b_l &&& ((f_X7_bit p1) ^^^ ((-1)))) ||| (f_X7_bit p1), b_b &&& ((f_X7_bit p1) ^^^ ((-1)))) else (if p2 = 2 then (b_l &&& ((f_X7_bit p1) ^^^ ((-1))), (b_b &&& ((f_X7_bit p1) ^^^ ((-1)))) ||| (f_X7_bit p1)) else (b_l &&& ((f_X7_bit p1) ^^^ ((-1))), b_b &&& ((f_X7_bit p1) ^^^ ((-1))))))
set_option maxHeartbeats 4000000 in
set_option maxRecDepth 100000 in
theorem c_X0_mark (l : Launch) (D : va_G) (cI cL cZ : ClassId) (ad : Nat → Nat) (c_sr t_n t_r t_w s_w s_h s_c s_p s_s p_nx p_sz r_k r_r r_p l_z q_z : Int32) (t_t b_l b_b b_n r_t l_l l_b l_n q_l q_b q_n : Int64) (t_le s_cs s_ps s_ha s_en pk ik : Nat → Int32) (s_ro s_me s_be s_se s_co pl pb pn il ib im l_a q_a : Nat → Int64) (hAd : cInj ad) (p1 p2 : Int32) (r : Int64 × Int64) (hr : f_X0_mark p1 p2 b_l b_b = r) : MV l yX0_mark (Cond.code yX0_mark cX0_mark 3 none :: W0) 1 20 D cI cL cZ (cAd ad) [.ref (ad 13), .int p1, .int p2] (cw ad cI cL cZ c_sr t_n t_r t_w s_w s_h s_c s_p s_s p_nx p_sz r_k r_r r_p l_z q_z t_t b_l b_b b_n r_t l_l l_b l_n q_l q_b q_n t_le s_cs s_ps s_ha s_en pk ik s_ro s_me s_be s_se s_co pl pb pn il ib im l_a q_a) (cw ad cI cL cZ c_sr t_n t_r t_w s_w s_h s_c s_p s_s p_nx p_sz r_k r_r r_p l_z q_z t_t r.1 r.2 b_n r_t l_l l_b l_n q_l q_b q_n t_le s_cs s_ps s_ha s_en pk ik s_ro s_me s_be s_se s_co pl pb pn il ib im l_a q_a) := by
  refine mk_start (cc := cX0_mark) (maxL := 3) (ret := none) (by decide) rfl (Nat.le_of_ble_eq_true rfl) ?_
  intro p e s m below meth c ls C hP hS hl
  obtain ⟨hx, hb, hml, hrt, hlocks, hown, hts, hk⟩ := C
  have hown : s.vm.findClass RX0 = some m.cls := hown
  have hl : lv_has ls 3 [(0, .ref (ad 13)), (1, .int p1), (2, .int p2)] := hl
  rw [f_X0_mark] at hr
  refine lv_aload_n hx hb dX0_mark_0 rfl (lv_at hl 0 rfl) ?_
  refine lv_dup hx hb dX0_mark_1 rfl ?_
  refine va_get (D := D) (ci := 0) (v := .long b_l) (C := RX0) (T := TX0) (N := 3) hx hb hts u_X0 hown hk.1 hP 13 rfl rfl 0 (by decide) (hts _ q1_114) (fun _ h9 => h9) rfl dX0_mark_2 ?_
  refine lv_iload_n hx hb dX0_mark_5 rfl (lv_at hl 1 rfl) ?_
  refine go_l (ru_N (n := 1) ⟨hx, hb, hml, hown, hts⟩ hk hP (c_X7_bit l D cI cL cZ (cAd ad) (cw ad cI cL cZ c_sr t_n t_r t_w s_w s_h s_c s_p s_s p_nx p_sz r_k r_r r_p l_z q_z t_t b_l b_b b_n r_t l_l l_b l_n q_l q_b q_n t_le s_cs s_ps s_ha s_en pk ik s_ro s_me s_be s_se s_co pl pb pn il ib im l_a q_a) p1 _ rfl) ⟨va_cnB 1 hts (gN q2_20) rfl rfl rfl (hk.2 _ nwm_X0_21) (hts _ q1_1) hd_X7_bit ⟨Nat.le_of_ble_eq_true rfl, Nat.le_of_ble_eq_true rfl⟩, hts _ q2_19, trivial⟩ rfl hl.1 rfl (Nat.le_of_ble_eq_true rfl) dX0_mark_6 ⟨Nat.zero_le _, Nat.zero_le _⟩) hS (fun _ h => h) (fun H locs hP hS => ?_)
  have hP : va_P D vwCl (cw ad cI cL cZ c_sr t_n t_r t_w s_w s_h s_c s_p s_s p_nx p_sz r_k r_r r_p l_z q_z t_t b_l b_b b_n r_t l_l l_b l_n q_l q_b q_n t_le s_cs s_ps s_ha s_en pk ik s_ro s_me s_be s_se s_co pl pb pn il ib im l_a q_a) H := hP
  refine lv_ldc2 hx hb hown (hts _ q2_141) dX0_mark_9 ?_
  refine lv_lxor hx hb dX0_mark_12 ?_
  refine lv_land hx hb dX0_mark_13 ?_
  refine va_put (D := D) (ci := 0) (v := .long (b_l &&& ((f_X7_bit p1) ^^^ ((-1))))) (ty := .long) (C := RX0) (T := TX0) (N := 3) hx hb hts u_X0 tyX0 tyX0_ok nmX0 hown hk.1 hP (cw_D hAd) hS 13 rfl rfl 0 (by decide) (hts _ q1_114) (fun _ h9 => h9) rfl (tyX0_ok 0 (by decide)) rfl rfl (Nat.le_of_ble_eq_true rfl) dX0_mark_14 (fun H locs hP _ hS => ?_)
  have hP : va_P D vwCl (cw ad cI cL cZ c_sr t_n t_r t_w s_w s_h s_c s_p s_s p_nx p_sz r_k r_r r_p l_z q_z t_t (b_l &&& ((f_X7_bit p1) ^^^ ((-1)))) b_b b_n r_t l_l l_b l_n q_l q_b q_n t_le s_cs s_ps s_ha s_en pk ik s_ro s_me s_be s_se s_co pl pb pn il ib im l_a q_a) H := hP
  refine lv_aload_n hx hb dX0_mark_17 rfl (lv_at hl 0 rfl) ?_
  refine lv_dup hx hb dX0_mark_18 rfl ?_
  refine va_get (D := D) (ci := 0) (v := .long b_b) (C := RX0) (T := TX0) (N := 3) hx hb hts u_X0 hown hk.1 hP 13 rfl rfl 1 (by decide) (hts _ q1_118) (fun _ h9 => h9) rfl dX0_mark_19 ?_
  refine lv_iload_n hx hb dX0_mark_22 rfl (lv_at hl 1 rfl) ?_
  refine go_l (ru_N (n := 1) ⟨hx, hb, hml, hown, hts⟩ hk hP (c_X7_bit l D cI cL cZ (cAd ad) (cw ad cI cL cZ c_sr t_n t_r t_w s_w s_h s_c s_p s_s p_nx p_sz r_k r_r r_p l_z q_z t_t (b_l &&& ((f_X7_bit p1) ^^^ ((-1)))) b_b b_n r_t l_l l_b l_n q_l q_b q_n t_le s_cs s_ps s_ha s_en pk ik s_ro s_me s_be s_se s_co pl pb pn il ib im l_a q_a) p1 _ rfl) ⟨va_cnB 1 hts (gN q2_20) rfl rfl rfl (hk.2 _ nwm_X0_21) (hts _ q1_1) hd_X7_bit ⟨Nat.le_of_ble_eq_true rfl, Nat.le_of_ble_eq_true rfl⟩, hts _ q2_19, trivial⟩ rfl hl.1 rfl (Nat.le_of_ble_eq_true rfl) dX0_mark_23 ⟨Nat.zero_le _, Nat.zero_le _⟩) hS (fun _ h => h) (fun H locs hP hS => ?_)
  have hP : va_P D vwCl (cw ad cI cL cZ c_sr t_n t_r t_w s_w s_h s_c s_p s_s p_nx p_sz r_k r_r r_p l_z q_z t_t (b_l &&& ((f_X7_bit p1) ^^^ ((-1)))) b_b b_n r_t l_l l_b l_n q_l q_b q_n t_le s_cs s_ps s_ha s_en pk ik s_ro s_me s_be s_se s_co pl pb pn il ib im l_a q_a) H := hP
  refine lv_ldc2 hx hb hown (hts _ q2_141) dX0_mark_26 ?_
  refine lv_lxor hx hb dX0_mark_29 ?_
  refine lv_land hx hb dX0_mark_30 ?_
  refine va_put (D := D) (ci := 0) (v := .long (b_b &&& ((f_X7_bit p1) ^^^ ((-1))))) (ty := .long) (C := RX0) (T := TX0) (N := 3) hx hb hts u_X0 tyX0 tyX0_ok nmX0 hown hk.1 hP (cw_D hAd) hS 13 rfl rfl 1 (by decide) (hts _ q1_118) (fun _ h9 => h9) rfl (tyX0_ok 1 (by decide)) rfl rfl (Nat.le_of_ble_eq_true rfl) dX0_mark_31 (fun H locs hP _ hS => ?_)
  have hP : va_P D vwCl (cw ad cI cL cZ c_sr t_n t_r t_w s_w s_h s_c s_p s_s p_nx p_sz r_k r_r r_p l_z q_z t_t (b_l &&& ((f_X7_bit p1) ^^^ ((-1)))) (b_b &&& ((f_X7_bit p1) ^^^ ((-1)))) b_n r_t l_l l_b l_n q_l q_b q_n t_le s_cs s_ps s_ha s_en pk ik s_ro s_me s_be s_se s_co pl pb pn il ib im l_a q_a) H := hP
  refine lv_iload_n hx hb dX0_mark_34 rfl (lv_at hl 2 rfl) ?_
  refine lv_iconst (v := 1) hx hb dX0_mark_35 (by decide) ?_
  refine lv_icmp_ne (tgt := 55) hx hb dX0_mark_36 (by decide) (fun c36 => ?_) (fun c36 => ?_)
  · have hr := (if_neg c36).symm.trans hr
    refine lv_iload_n hx hb dX0_mark_55 rfl (lv_at hl 2 rfl) ?_
    refine lv_iconst (v := 2) hx hb dX0_mark_56 (by decide) ?_
    refine lv_icmp_ne (tgt := 73) hx hb dX0_mark_57 (by decide) (fun c57 => ?_) (fun c57 => ?_)
    · have hr := (if_neg c57).symm.trans hr
      subst hr
      exact ret_v hx hb hrt hlocks hP hS dX0_mark_73
    · have hr := (if_pos c57).symm.trans hr
      refine lv_aload_n hx hb dX0_mark_60 rfl (lv_at hl 0 rfl) ?_
      refine lv_dup hx hb dX0_mark_61 rfl ?_
      refine va_get (D := D) (ci := 0) (v := .long (b_b &&& ((f_X7_bit p1) ^^^ ((-1))))) (C := RX0) (T := TX0) (N := 3) hx hb hts u_X0 hown hk.1 hP 13 rfl rfl 1 (by decide) (hts _ q1_118) (fun _ h9 => h9) rfl dX0_mark_62 ?_
      refine lv_iload_n hx hb dX0_mark_65 rfl (lv_at hl 1 rfl) ?_
      refine go_l (ru_N (n := 1) ⟨hx, hb, hml, hown, hts⟩ hk hP (c_X7_bit l D cI cL cZ (cAd ad) (cw ad cI cL cZ c_sr t_n t_r t_w s_w s_h s_c s_p s_s p_nx p_sz r_k r_r r_p l_z q_z t_t (b_l &&& ((f_X7_bit p1) ^^^ ((-1)))) (b_b &&& ((f_X7_bit p1) ^^^ ((-1)))) b_n r_t l_l l_b l_n q_l q_b q_n t_le s_cs s_ps s_ha s_en pk ik s_ro s_me s_be s_se s_co pl pb pn il ib im l_a q_a) p1 _ rfl) ⟨va_cnB 1 hts (gN q2_20) rfl rfl rfl (hk.2 _ nwm_X0_21) (hts _ q1_1) hd_X7_bit ⟨Nat.le_of_ble_eq_true rfl, Nat.le_of_ble_eq_true rfl⟩, hts _ q2_19, trivial⟩ rfl hl.1 rfl (Nat.le_of_ble_eq_true rfl) dX0_mark_66 ⟨Nat.zero_le _, Nat.zero_le _⟩) hS (fun _ h => h) (fun H locs hP hS => ?_)
      have hP : va_P D vwCl (cw ad cI cL cZ c_sr t_n t_r t_w s_w s_h s_c s_p s_s p_nx p_sz r_k r_r r_p l_z q_z t_t (b_l &&& ((f_X7_bit p1) ^^^ ((-1)))) (b_b &&& ((f_X7_bit p1) ^^^ ((-1)))) b_n r_t l_l l_b l_n q_l q_b q_n t_le s_cs s_ps s_ha s_en pk ik s_ro s_me s_be s_se s_co pl pb pn il ib im l_a q_a) H := hP
      refine lv_lor hx hb dX0_mark_69 ?_
      refine va_put (D := D) (ci := 0) (v := .long ((b_b &&& ((f_X7_bit p1) ^^^ ((-1)))) ||| (f_X7_bit p1))) (ty := .long) (C := RX0) (T := TX0) (N := 3) hx hb hts u_X0 tyX0 tyX0_ok nmX0 hown hk.1 hP (cw_D hAd) hS 13 rfl rfl 1 (by decide) (hts _ q1_118) (fun _ h9 => h9) rfl (tyX0_ok 1 (by decide)) rfl rfl (Nat.le_of_ble_eq_true rfl) dX0_mark_70 (fun H locs hP _ hS => ?_)
      have hP : va_P D vwCl (cw ad cI cL cZ c_sr t_n t_r t_w s_w s_h s_c s_p s_s p_nx p_sz r_k r_r r_p l_z q_z t_t (b_l &&& ((f_X7_bit p1) ^^^ ((-1)))) ((b_b &&& ((f_X7_bit p1) ^^^ ((-1)))) ||| (f_X7_bit p1)) b_n r_t l_l l_b l_n q_l q_b q_n t_le s_cs s_ps s_ha s_en pk ik s_ro s_me s_be s_se s_co pl pb pn il ib im l_a q_a) H := hP
      subst hr
      exact ret_v hx hb hrt hlocks hP hS dX0_mark_73
  · have hr := (if_pos c36).symm.trans hr
    refine lv_aload_n hx hb dX0_mark_39 rfl (lv_at hl 0 rfl) ?_
    refine lv_dup hx hb dX0_mark_40 rfl ?_
    refine va_get (D := D) (ci := 0) (v := .long (b_l &&& ((f_X7_bit p1) ^^^ ((-1))))) (C := RX0) (T := TX0) (N := 3) hx hb hts u_X0 hown hk.1 hP 13 rfl rfl 0 (by decide) (hts _ q1_114) (fun _ h9 => h9) rfl dX0_mark_41 ?_
    refine lv_iload_n hx hb dX0_mark_44 rfl (lv_at hl 1 rfl) ?_
    refine go_l (ru_N (n := 1) ⟨hx, hb, hml, hown, hts⟩ hk hP (c_X7_bit l D cI cL cZ (cAd ad) (cw ad cI cL cZ c_sr t_n t_r t_w s_w s_h s_c s_p s_s p_nx p_sz r_k r_r r_p l_z q_z t_t (b_l &&& ((f_X7_bit p1) ^^^ ((-1)))) (b_b &&& ((f_X7_bit p1) ^^^ ((-1)))) b_n r_t l_l l_b l_n q_l q_b q_n t_le s_cs s_ps s_ha s_en pk ik s_ro s_me s_be s_se s_co pl pb pn il ib im l_a q_a) p1 _ rfl) ⟨va_cnB 1 hts (gN q2_20) rfl rfl rfl (hk.2 _ nwm_X0_21) (hts _ q1_1) hd_X7_bit ⟨Nat.le_of_ble_eq_true rfl, Nat.le_of_ble_eq_true rfl⟩, hts _ q2_19, trivial⟩ rfl hl.1 rfl (Nat.le_of_ble_eq_true rfl) dX0_mark_45 ⟨Nat.zero_le _, Nat.zero_le _⟩) hS (fun _ h => h) (fun H locs hP hS => ?_)
    have hP : va_P D vwCl (cw ad cI cL cZ c_sr t_n t_r t_w s_w s_h s_c s_p s_s p_nx p_sz r_k r_r r_p l_z q_z t_t (b_l &&& ((f_X7_bit p1) ^^^ ((-1)))) (b_b &&& ((f_X7_bit p1) ^^^ ((-1)))) b_n r_t l_l l_b l_n q_l q_b q_n t_le s_cs s_ps s_ha s_en pk ik s_ro s_me s_be s_se s_co pl pb pn il ib im l_a q_a) H := hP
    refine lv_lor hx hb dX0_mark_48 ?_
    refine va_put (D := D) (ci := 0) (v := .long ((b_l &&& ((f_X7_bit p1) ^^^ ((-1)))) ||| (f_X7_bit p1))) (ty := .long) (C := RX0) (T := TX0) (N := 3) hx hb hts u_X0 tyX0 tyX0_ok nmX0 hown hk.1 hP (cw_D hAd) hS 13 rfl rfl 0 (by decide) (hts _ q1_114) (fun _ h9 => h9) rfl (tyX0_ok 0 (by decide)) rfl rfl (Nat.le_of_ble_eq_true rfl) dX0_mark_49 (fun H locs hP _ hS => ?_)
    have hP : va_P D vwCl (cw ad cI cL cZ c_sr t_n t_r t_w s_w s_h s_c s_p s_s p_nx p_sz r_k r_r r_p l_z q_z t_t ((b_l &&& ((f_X7_bit p1) ^^^ ((-1)))) ||| (f_X7_bit p1)) (b_b &&& ((f_X7_bit p1) ^^^ ((-1)))) b_n r_t l_l l_b l_n q_l q_b q_n t_le s_cs s_ps s_ha s_en pk ik s_ro s_me s_be s_se s_co pl pb pn il ib im l_a q_a) H := hP
    refine lv_goto (tgt := 73) hx hb dX0_mark_52 (by decide) ?_
    subst hr
    exact ret_v hx hb hrt hlocks hP hS dX0_mark_73
theorem hd_X0_numberOf : yX0_numberOf.cls = RX0 ∧ yX0_numberOf.cls ≠ "java/lang/invoke/MethodHandle" ∧ yX0_numberOf.cls ≠ "java/lang/invoke/VarHandle" ∧ (parseMethodDescriptor yX0_numberOf.desc).map (fun d => d.parameters.length) = some 1 := by decide +kernel
def f_X0_numberOf (p1 : Int32) (b_n : Int64) : Int32 := f_X0_numberIn b_n p1
set_option maxHeartbeats 4000000 in
set_option maxRecDepth 100000 in
theorem c_X0_numberOf (l : Launch) (D : va_G) (cI cL cZ : ClassId) (ad : Nat → Nat) (c_sr t_n t_r t_w s_w s_h s_c s_p s_s p_nx p_sz r_k r_r r_p l_z q_z : Int32) (t_t b_l b_b b_n r_t l_l l_b l_n q_l q_b q_n : Int64) (t_le s_cs s_ps s_ha s_en pk ik : Nat → Int32) (s_ro s_me s_be s_se s_co pl pb pn il ib im l_a q_a : Nat → Int64) (hAd : cInj ad) (p1 : Int32) (r : Int32) (hr : f_X0_numberOf p1 b_n = r) : MI l yX0_numberOf (Cond.code yX0_numberOf cX0_numberOf 2 (some .int) :: W0) 1 22 D cI cL cZ (cAd ad) [.ref (ad 13), .int p1] (cw ad cI cL cZ c_sr t_n t_r t_w s_w s_h s_c s_p s_s p_nx p_sz r_k r_r r_p l_z q_z t_t b_l b_b b_n r_t l_l l_b l_n q_l q_b q_n t_le s_cs s_ps s_ha s_en pk ik s_ro s_me s_be s_se s_co pl pb pn il ib im l_a q_a) r (cw ad cI cL cZ c_sr t_n t_r t_w s_w s_h s_c s_p s_s p_nx p_sz r_k r_r r_p l_z q_z t_t b_l b_b b_n r_t l_l l_b l_n q_l q_b q_n t_le s_cs s_ps s_ha s_en pk ik s_ro s_me s_be s_se s_co pl pb pn il ib im l_a q_a) := by
  refine mk_start (cc := cX0_numberOf) (maxL := 2) (ret := (some .int)) (by decide) rfl (Nat.le_of_ble_eq_true rfl) ?_
  intro p e s m below meth c ls C hP hS hl
  obtain ⟨hx, hb, hml, hrt, hlocks, hown, hts, hk⟩ := C
  have hown : s.vm.findClass RX0 = some m.cls := hown
  have hl : lv_has ls 2 [(0, .ref (ad 13)), (1, .int p1)] := hl
  rw [f_X0_numberOf] at hr
  refine lv_aload_n hx hb dX0_numberOf_0 rfl (lv_at hl 0 rfl) ?_
  refine va_get (D := D) (ci := 0) (v := .long b_n) (C := RX0) (T := TX0) (N := 3) hx hb hts u_X0 hown hk.1 hP 13 rfl rfl 2 (by decide) (hts _ q1_122) (fun _ h9 => h9) rfl dX0_numberOf_1 ?_
  refine lv_iload_n hx hb dX0_numberOf_4 rfl (lv_at hl 1 rfl) ?_
  refine go_i (ru_S (n := 2) ⟨hx, hb, hml, hown, hts⟩ hk hP (c_X0_numberIn l D cI cL cZ (cAd ad) (cw ad cI cL cZ c_sr t_n t_r t_w s_w s_h s_c s_p s_s p_nx p_sz r_k r_r r_p l_z q_z t_t b_l b_b b_n r_t l_l l_b l_n q_l q_b q_n t_le s_cs s_ps s_ha s_en pk ik s_ro s_me s_be s_se s_co pl pb pn il ib im l_a q_a) b_n p1 _ rfl) (va_cwS 2 hts (gS q2_167 q2_168 q1_4 q2_169) rfl rfl rfl hd_X0_numberIn ⟨Nat.le_of_ble_eq_true rfl, Nat.le_of_ble_eq_true rfl⟩) rfl hl.1 rfl (Nat.le_of_ble_eq_true rfl) dX0_numberOf_5 ⟨Nat.zero_le _, Nat.zero_le _⟩) hS (fun _ h => h) (fun H locs hP hS => ?_)
  have hP : va_P D vwCl (cw ad cI cL cZ c_sr t_n t_r t_w s_w s_h s_c s_p s_s p_nx p_sz r_k r_r r_p l_z q_z t_t b_l b_b b_n r_t l_l l_b l_n q_l q_b q_n t_le s_cs s_ps s_ha s_en pk ik s_ro s_me s_be s_se s_co pl pb pn il ib im l_a q_a) H := hP
  subst hr
  exact ret_i hx hb hrt hlocks hP hS dX0_numberOf_8
theorem hd_X0_become : yX0_become.cls = RX0 ∧ yX0_become.cls ≠ "java/lang/invoke/MethodHandle" ∧ yX0_become.cls ≠ "java/lang/invoke/VarHandle" ∧ (parseMethodDescriptor yX0_become.desc).map (fun d => d.parameters.length) = some 3 := by decide +kernel
def f_X0_become (p1 : Int64) (p3 : Int64) (p5 : Int64) : Int64 × Int64 × Int64 := (p1, p3, p5)
set_option maxHeartbeats 4000000 in
set_option maxRecDepth 100000 in
theorem c_X0_become (l : Launch) (D : va_G) (cI cL cZ : ClassId) (ad : Nat → Nat) (c_sr t_n t_r t_w s_w s_h s_c s_p s_s p_nx p_sz r_k r_r r_p l_z q_z : Int32) (t_t b_l b_b b_n r_t l_l l_b l_n q_l q_b q_n : Int64) (t_le s_cs s_ps s_ha s_en pk ik : Nat → Int32) (s_ro s_me s_be s_se s_co pl pb pn il ib im l_a q_a : Nat → Int64) (hAd : cInj ad) (p1 p3 p5 : Int64) (r : Int64 × Int64 × Int64) (hr : f_X0_become p1 p3 p5 = r) : MV l yX0_become (Cond.code yX0_become cX0_become 7 none :: W0) 0 0 D cI cL cZ (cAd ad) [.ref (ad 13), .long p1, .long p3, .long p5] (cw ad cI cL cZ c_sr t_n t_r t_w s_w s_h s_c s_p s_s p_nx p_sz r_k r_r r_p l_z q_z t_t b_l b_b b_n r_t l_l l_b l_n q_l q_b q_n t_le s_cs s_ps s_ha s_en pk ik s_ro s_me s_be s_se s_co pl pb pn il ib im l_a q_a) (cw ad cI cL cZ c_sr t_n t_r t_w s_w s_h s_c s_p s_s p_nx p_sz r_k r_r r_p l_z q_z t_t r.1 r.2.1 r.2.2 r_t l_l l_b l_n q_l q_b q_n t_le s_cs s_ps s_ha s_en pk ik s_ro s_me s_be s_se s_co pl pb pn il ib im l_a q_a) := by
  refine mk_start (cc := cX0_become) (maxL := 7) (ret := none) (by decide) rfl (Nat.le_of_ble_eq_true rfl) ?_
  intro p e s m below meth c ls C hP hS hl
  obtain ⟨hx, hb, hml, hrt, hlocks, hown, hts, hk⟩ := C
  have hown : s.vm.findClass RX0 = some m.cls := hown
  have hl : lv_has ls 7 [(0, .ref (ad 13)), (1, .long p1), (3, .long p3), (5, .long p5)] := hl
  rw [f_X0_become] at hr
  refine lv_aload_n hx hb dX0_become_0 rfl (lv_at hl 0 rfl) ?_
  refine lv_lload_n hx hb dX0_become_1 rfl (lv_at hl 1 rfl) ?_
  refine va_put (D := D) (ci := 0) (v := .long p1) (ty := .long) (C := RX0) (T := TX0) (N := 3) hx hb hts u_X0 tyX0 tyX0_ok nmX0 hown hk.1 hP (cw_D hAd) hS 13 rfl rfl 0 (by decide) (hts _ q1_114) (fun _ h9 => h9) rfl (tyX0_ok 0 (by decide)) rfl rfl (Nat.le_of_ble_eq_true rfl) dX0_become_2 (fun H locs hP _ hS => ?_)
  have hP : va_P D vwCl (cw ad cI cL cZ c_sr t_n t_r t_w s_w s_h s_c s_p s_s p_nx p_sz r_k r_r r_p l_z q_z t_t p1 b_b b_n r_t l_l l_b l_n q_l q_b q_n t_le s_cs s_ps s_ha s_en pk ik s_ro s_me s_be s_se s_co pl pb pn il ib im l_a q_a) H := hP
  refine lv_aload_n hx hb dX0_become_5 rfl (lv_at hl 0 rfl) ?_
  refine lv_lload_n hx hb dX0_become_6 rfl (lv_at hl 2 rfl) ?_
  refine va_put (D := D) (ci := 0) (v := .long p3) (ty := .long) (C := RX0) (T := TX0) (N := 3) hx hb hts u_X0 tyX0 tyX0_ok nmX0 hown hk.1 hP (cw_D hAd) hS 13 rfl rfl 1 (by decide) (hts _ q1_118) (fun _ h9 => h9) rfl (tyX0_ok 1 (by decide)) rfl rfl (Nat.le_of_ble_eq_true rfl) dX0_become_7 (fun H locs hP _ hS => ?_)
  have hP : va_P D vwCl (cw ad cI cL cZ c_sr t_n t_r t_w s_w s_h s_c s_p s_s p_nx p_sz r_k r_r r_p l_z q_z t_t p1 p3 b_n r_t l_l l_b l_n q_l q_b q_n t_le s_cs s_ps s_ha s_en pk ik s_ro s_me s_be s_se s_co pl pb pn il ib im l_a q_a) H := hP
  refine lv_aload_n hx hb dX0_become_10 rfl (lv_at hl 0 rfl) ?_
  refine lv_lload hx hb dX0_become_11 (lv_at hl 3 rfl) ?_
  refine va_put (D := D) (ci := 0) (v := .long p5) (ty := .long) (C := RX0) (T := TX0) (N := 3) hx hb hts u_X0 tyX0 tyX0_ok nmX0 hown hk.1 hP (cw_D hAd) hS 13 rfl rfl 2 (by decide) (hts _ q1_122) (fun _ h9 => h9) rfl (tyX0_ok 2 (by decide)) rfl rfl (Nat.le_of_ble_eq_true rfl) dX0_become_13 (fun H locs hP _ hS => ?_)
  have hP : va_P D vwCl (cw ad cI cL cZ c_sr t_n t_r t_w s_w s_h s_c s_p s_s p_nx p_sz r_k r_r r_p l_z q_z t_t p1 p3 p5 r_t l_l l_b l_n q_l q_b q_n t_le s_cs s_ps s_ha s_en pk ik s_ro s_me s_be s_se s_co pl pb pn il ib im l_a q_a) H := hP
  subst hr
  exact ret_v hx hb hrt hlocks hP hS dX0_become_16
end
