section
-- ===== PART A: goes FIRST, ahead of the names: the tables' words, and 'selects' of the private methods out of them =====
/-- a private method of a class that the tables say can be made, by its rows of tables_1 -/
def lw_okq (q : MethodName × Nat) : Prop := (q.1.cls ≠ "java/lang/invoke/MethodHandle" ∧ q.1.cls ≠ "java/lang/invoke/VarHandle") ∧ Cond.instantiable q.1.cls q.2 ∈ tables_1 ∧ Cond.privateMethod q.1 ∈ tables_1 ∧ Cond.instanceMethod q.1 ∈ tables_1
theorem lw_p0 : lw_okq (⟨"TreadRing", "heap", "()LTreadRing$Heap;"⟩, 15) := ⟨⟨by decide +kernel, by decide +kernel⟩, List.mem_of_getElem? (i := 17) (by decide +kernel), List.mem_of_getElem? (i := 290) (by decide +kernel), List.mem_of_getElem? (i := 291) (by decide +kernel)⟩
theorem lw_p1 : lw_okq (⟨"TreadRing", "forgetActs", "()V"⟩, 15) := ⟨⟨by decide +kernel, by decide +kernel⟩, List.mem_of_getElem? (i := 17) (by decide +kernel), List.mem_of_getElem? (i := 295) (by decide +kernel), List.mem_of_getElem? (i := 296) (by decide +kernel)⟩
theorem lw_p2 : lw_okq (⟨"TreadRing", "act", "()LTreadRing$Heap;"⟩, 15) := ⟨⟨by decide +kernel, by decide +kernel⟩, List.mem_of_getElem? (i := 17) (by decide +kernel), List.mem_of_getElem? (i := 309) (by decide +kernel), List.mem_of_getElem? (i := 310) (by decide +kernel)⟩
theorem lw_p3 : lw_okq (⟨"TreadRing$Heap", "take", "()V"⟩, 16) := ⟨⟨by decide +kernel, by decide +kernel⟩, List.mem_of_getElem? (i := 26) (by decide +kernel), List.mem_of_getElem? (i := 336) (by decide +kernel), List.mem_of_getElem? (i := 337) (by decide +kernel)⟩
theorem lw_p4 : lw_okq (⟨"TreadRing$Heap", "goesAhead", "(II)Z"⟩, 16) := ⟨⟨by decide +kernel, by decide +kernel⟩, List.mem_of_getElem? (i := 26) (by decide +kernel), List.mem_of_getElem? (i := 340) (by decide +kernel), List.mem_of_getElem? (i := 341) (by decide +kernel)⟩
theorem lw_p5 : lw_okq (⟨"TreadRing$Heap", "shade", "([III)V"⟩, 16) := ⟨⟨by decide +kernel, by decide +kernel⟩, List.mem_of_getElem? (i := 26) (by decide +kernel), List.mem_of_getElem? (i := 344) (by decide +kernel), List.mem_of_getElem? (i := 345) (by decide +kernel)⟩
theorem lw_p6 : lw_okq (⟨"TreadRing$Heap", "finish", "()V"⟩, 16) := ⟨⟨by decide +kernel, by decide +kernel⟩, List.mem_of_getElem? (i := 26) (by decide +kernel), List.mem_of_getElem? (i := 363) (by decide +kernel), List.mem_of_getElem? (i := 364) (by decide +kernel)⟩
theorem lw_p7 : lw_okq (⟨"TreadRing$Heap", "forget", "([III)I"⟩, 16) := ⟨⟨by decide +kernel, by decide +kernel⟩, List.mem_of_getElem? (i := 26) (by decide +kernel), List.mem_of_getElem? (i := 375) (by decide +kernel), List.mem_of_getElem? (i := 376) (by decide +kernel)⟩
theorem lw_p8 : lw_okq (⟨"TreadRing$Heap", "findSlot", "(I)I"⟩, 16) := ⟨⟨by decide +kernel, by decide +kernel⟩, List.mem_of_getElem? (i := 26) (by decide +kernel), List.mem_of_getElem? (i := 383) (by decide +kernel), List.mem_of_getElem? (i := 384) (by decide +kernel)⟩
theorem lw_p9 : lw_okq (⟨"TreadRing$Heap", "findPage", "(I)I"⟩, 16) := ⟨⟨by decide +kernel, by decide +kernel⟩, List.mem_of_getElem? (i := 26) (by decide +kernel), List.mem_of_getElem? (i := 387) (by decide +kernel), List.mem_of_getElem? (i := 388) (by decide +kernel)⟩
theorem lw_p10 : lw_okq (⟨"TreadRing$Heap", "resize", "(II)V"⟩, 16) := ⟨⟨by decide +kernel, by decide +kernel⟩, List.mem_of_getElem? (i := 26) (by decide +kernel), List.mem_of_getElem? (i := 391) (by decide +kernel), List.mem_of_getElem? (i := 392) (by decide +kernel)⟩
theorem lw_p11 : lw_okq (⟨"TreadRing", "feedFour", "(I)V"⟩, 15) := ⟨⟨by decide +kernel, by decide +kernel⟩, List.mem_of_getElem? (i := 17) (by decide +kernel), List.mem_of_getElem? (i := 476) (by decide +kernel), List.mem_of_getElem? (i := 477) (by decide +kernel)⟩
theorem lw_p12 : lw_okq (⟨"TreadRing$Reader", "advanceToken", "()V"⟩, 9) := ⟨⟨by decide +kernel, by decide +kernel⟩, List.mem_of_getElem? (i := 149) (by decide +kernel), List.mem_of_getElem? (i := 492) (by decide +kernel), List.mem_of_getElem? (i := 493) (by decide +kernel)⟩
theorem lw_p13 : lw_okq (⟨"TreadRing$Reader", "isLetter", "(I)Z"⟩, 9) := ⟨⟨by decide +kernel, by decide +kernel⟩, List.mem_of_getElem? (i := 149) (by decide +kernel), List.mem_of_getElem? (i := 497) (by decide +kernel), List.mem_of_getElem? (i := 498) (by decide +kernel)⟩
theorem lw_p14 : lw_okq (⟨"TreadRing$Reader", "isDigit", "(I)Z"⟩, 9) := ⟨⟨by decide +kernel, by decide +kernel⟩, List.mem_of_getElem? (i := 149) (by decide +kernel), List.mem_of_getElem? (i := 501) (by decide +kernel), List.mem_of_getElem? (i := 502) (by decide +kernel)⟩
theorem lw_p15 : lw_okq (⟨"TreadRing$Reader", "isSign", "(C)Z"⟩, 9) := ⟨⟨by decide +kernel, by decide +kernel⟩, List.mem_of_getElem? (i := 149) (by decide +kernel), List.mem_of_getElem? (i := 505) (by decide +kernel), List.mem_of_getElem? (i := 506) (by decide +kernel)⟩
def lw_privs_1 : List (MethodName × Nat) := [(⟨"TreadRing", "heap", "()LTreadRing$Heap;"⟩, 15), (⟨"TreadRing", "forgetActs", "()V"⟩, 15), (⟨"TreadRing", "act", "()LTreadRing$Heap;"⟩, 15), (⟨"TreadRing$Heap", "take", "()V"⟩, 16), (⟨"TreadRing$Heap", "goesAhead", "(II)Z"⟩, 16), (⟨"TreadRing$Heap", "shade", "([III)V"⟩, 16), (⟨"TreadRing$Heap", "finish", "()V"⟩, 16), (⟨"TreadRing$Heap", "forget", "([III)I"⟩, 16), (⟨"TreadRing$Heap", "findSlot", "(I)I"⟩, 16), (⟨"TreadRing$Heap", "findPage", "(I)I"⟩, 16), (⟨"TreadRing$Heap", "resize", "(II)V"⟩, 16), (⟨"TreadRing", "feedFour", "(I)V"⟩, 15), (⟨"TreadRing$Reader", "advanceToken", "()V"⟩, 9), (⟨"TreadRing$Reader", "isLetter", "(I)Z"⟩, 9), (⟨"TreadRing$Reader", "isDigit", "(I)Z"⟩, 9), (⟨"TreadRing$Reader", "isSign", "(C)Z"⟩, 9)]
theorem lw_r1 : ∀ q ∈ lw_privs_1, lw_okq q := List.forall_mem_cons.mpr ⟨lw_p0, List.forall_mem_cons.mpr ⟨lw_p1, List.forall_mem_cons.mpr ⟨lw_p2, List.forall_mem_cons.mpr ⟨lw_p3, List.forall_mem_cons.mpr ⟨lw_p4, List.forall_mem_cons.mpr ⟨lw_p5, List.forall_mem_cons.mpr ⟨lw_p6, List.forall_mem_cons.mpr ⟨lw_p7, List.forall_mem_cons.mpr ⟨lw_p8, List.forall_mem_cons.mpr ⟨lw_p9, List.forall_mem_cons.mpr ⟨lw_p10, List.forall_mem_cons.mpr ⟨lw_p11, List.forall_mem_cons.mpr ⟨lw_p12, List.forall_mem_cons.mpr ⟨lw_p13, List.forall_mem_cons.mpr ⟨lw_p14, List.forall_mem_cons.mpr ⟨lw_p15, fun _ h => absurd h List.not_mem_nil⟩⟩⟩⟩⟩⟩⟩⟩⟩⟩⟩⟩⟩⟩⟩⟩
theorem lw_p16 : lw_okq (⟨"TreadRing$Reader", "closeBlock", "()V"⟩, 9) := ⟨⟨by decide +kernel, by decide +kernel⟩, List.mem_of_getElem? (i := 149) (by decide +kernel), List.mem_of_getElem? (i := 509) (by decide +kernel), List.mem_of_getElem? (i := 510) (by decide +kernel)⟩
theorem lw_p17 : lw_okq (⟨"TreadRing$Reader", "note", "(I)V"⟩, 9) := ⟨⟨by decide +kernel, by decide +kernel⟩, List.mem_of_getElem? (i := 149) (by decide +kernel), List.mem_of_getElem? (i := 513) (by decide +kernel), List.mem_of_getElem? (i := 514) (by decide +kernel)⟩
theorem lw_p18 : lw_okq (⟨"TreadRing$Reader", "readItem", "()V"⟩, 9) := ⟨⟨by decide +kernel, by decide +kernel⟩, List.mem_of_getElem? (i := 149) (by decide +kernel), List.mem_of_getElem? (i := 517) (by decide +kernel), List.mem_of_getElem? (i := 518) (by decide +kernel)⟩
theorem lw_p19 : lw_okq (⟨"TreadRing$Reader", "rootHere", "()I"⟩, 9) := ⟨⟨by decide +kernel, by decide +kernel⟩, List.mem_of_getElem? (i := 149) (by decide +kernel), List.mem_of_getElem? (i := 521) (by decide +kernel), List.mem_of_getElem? (i := 522) (by decide +kernel)⟩
theorem lw_p20 : lw_okq (⟨"TreadRing$Reader", "isWord", "(Ljava/lang/String;)Z"⟩, 9) := ⟨⟨by decide +kernel, by decide +kernel⟩, List.mem_of_getElem? (i := 149) (by decide +kernel), List.mem_of_getElem? (i := 526) (by decide +kernel), List.mem_of_getElem? (i := 527) (by decide +kernel)⟩
theorem lw_p21 : lw_okq (⟨"TreadRing$Reader", "readNaming", "(I)V"⟩, 9) := ⟨⟨by decide +kernel, by decide +kernel⟩, List.mem_of_getElem? (i := 149) (by decide +kernel), List.mem_of_getElem? (i := 580) (by decide +kernel), List.mem_of_getElem? (i := 581) (by decide +kernel)⟩
theorem lw_p22 : lw_okq (⟨"TreadRing$Reader", "readNumber", "(II)I"⟩, 9) := ⟨⟨by decide +kernel, by decide +kernel⟩, List.mem_of_getElem? (i := 149) (by decide +kernel), List.mem_of_getElem? (i := 584) (by decide +kernel), List.mem_of_getElem? (i := 585) (by decide +kernel)⟩
theorem lw_p23 : lw_okq (⟨"TreadRing$Reader", "readSign", "(C)V"⟩, 9) := ⟨⟨by decide +kernel, by decide +kernel⟩, List.mem_of_getElem? (i := 149) (by decide +kernel), List.mem_of_getElem? (i := 588) (by decide +kernel), List.mem_of_getElem? (i := 589) (by decide +kernel)⟩
theorem lw_p24 : lw_okq (⟨"TreadRing$Reader", "readRoot", "(Z)I"⟩, 9) := ⟨⟨by decide +kernel, by decide +kernel⟩, List.mem_of_getElem? (i := 149) (by decide +kernel), List.mem_of_getElem? (i := 592) (by decide +kernel), List.mem_of_getElem? (i := 593) (by decide +kernel)⟩
theorem lw_p25 : lw_okq (⟨"TreadRing$Reader", "readValue", "(I)V"⟩, 9) := ⟨⟨by decide +kernel, by decide +kernel⟩, List.mem_of_getElem? (i := 149) (by decide +kernel), List.mem_of_getElem? (i := 601) (by decide +kernel), List.mem_of_getElem? (i := 602) (by decide +kernel)⟩
theorem lw_p26 : lw_okq (⟨"TreadRing$Reader", "openBlock", "(III)V"⟩, 9) := ⟨⟨by decide +kernel, by decide +kernel⟩, List.mem_of_getElem? (i := 149) (by decide +kernel), List.mem_of_getElem? (i := 606) (by decide +kernel), List.mem_of_getElem? (i := 607) (by decide +kernel)⟩
theorem lw_p27 : lw_okq (⟨"TreadRing$Runner", "goThrough", "(III)V"⟩, 4) := ⟨⟨by decide +kernel, by decide +kernel⟩, List.mem_of_getElem? (i := 220) (by decide +kernel), List.mem_of_getElem? (i := 623) (by decide +kernel), List.mem_of_getElem? (i := 624) (by decide +kernel)⟩
theorem lw_p28 : lw_okq (⟨"TreadRing$Runner", "go", "(I)V"⟩, 4) := ⟨⟨by decide +kernel, by decide +kernel⟩, List.mem_of_getElem? (i := 220) (by decide +kernel), List.mem_of_getElem? (i := 628) (by decide +kernel), List.mem_of_getElem? (i := 629) (by decide +kernel)⟩
theorem lw_p29 : lw_okq (⟨"TreadRing", "runApart", "(II)V"⟩, 15) := ⟨⟨by decide +kernel, by decide +kernel⟩, List.mem_of_getElem? (i := 17) (by decide +kernel), List.mem_of_getElem? (i := 644) (by decide +kernel), List.mem_of_getElem? (i := 645) (by decide +kernel)⟩
theorem lw_p30 : lw_okq (⟨"TreadRing", "beginApart", "(I)V"⟩, 15) := ⟨⟨by decide +kernel, by decide +kernel⟩, List.mem_of_getElem? (i := 17) (by decide +kernel), List.mem_of_getElem? (i := 648) (by decide +kernel), List.mem_of_getElem? (i := 649) (by decide +kernel)⟩
theorem lw_p31 : lw_okq (⟨"TreadRing", "noteTrial", "()V"⟩, 15) := ⟨⟨by decide +kernel, by decide +kernel⟩, List.mem_of_getElem? (i := 17) (by decide +kernel), List.mem_of_getElem? (i := 653) (by decide +kernel), List.mem_of_getElem? (i := 654) (by decide +kernel)⟩
def lw_privs_2 : List (MethodName × Nat) := [(⟨"TreadRing$Reader", "closeBlock", "()V"⟩, 9), (⟨"TreadRing$Reader", "note", "(I)V"⟩, 9), (⟨"TreadRing$Reader", "readItem", "()V"⟩, 9), (⟨"TreadRing$Reader", "rootHere", "()I"⟩, 9), (⟨"TreadRing$Reader", "isWord", "(Ljava/lang/String;)Z"⟩, 9), (⟨"TreadRing$Reader", "readNaming", "(I)V"⟩, 9), (⟨"TreadRing$Reader", "readNumber", "(II)I"⟩, 9), (⟨"TreadRing$Reader", "readSign", "(C)V"⟩, 9), (⟨"TreadRing$Reader", "readRoot", "(Z)I"⟩, 9), (⟨"TreadRing$Reader", "readValue", "(I)V"⟩, 9), (⟨"TreadRing$Reader", "openBlock", "(III)V"⟩, 9), (⟨"TreadRing$Runner", "goThrough", "(III)V"⟩, 4), (⟨"TreadRing$Runner", "go", "(I)V"⟩, 4), (⟨"TreadRing", "runApart", "(II)V"⟩, 15), (⟨"TreadRing", "beginApart", "(I)V"⟩, 15), (⟨"TreadRing", "noteTrial", "()V"⟩, 15)]
theorem lw_r2 : ∀ q ∈ lw_privs_2, lw_okq q := List.forall_mem_cons.mpr ⟨lw_p16, List.forall_mem_cons.mpr ⟨lw_p17, List.forall_mem_cons.mpr ⟨lw_p18, List.forall_mem_cons.mpr ⟨lw_p19, List.forall_mem_cons.mpr ⟨lw_p20, List.forall_mem_cons.mpr ⟨lw_p21, List.forall_mem_cons.mpr ⟨lw_p22, List.forall_mem_cons.mpr ⟨lw_p23, List.forall_mem_cons.mpr ⟨lw_p24, List.forall_mem_cons.mpr ⟨lw_p25, List.forall_mem_cons.mpr ⟨lw_p26, List.forall_mem_cons.mpr ⟨lw_p27, List.forall_mem_cons.mpr ⟨lw_p28, List.forall_mem_cons.mpr ⟨lw_p29, List.forall_mem_cons.mpr ⟨lw_p30, List.forall_mem_cons.mpr ⟨lw_p31, fun _ h => absurd h List.not_mem_nil⟩⟩⟩⟩⟩⟩⟩⟩⟩⟩⟩⟩⟩⟩⟩⟩
theorem lw_p32 : lw_okq (⟨"TreadRing", "onTrial", "(I)I"⟩, 15) := ⟨⟨by decide +kernel, by decide +kernel⟩, List.mem_of_getElem? (i := 17) (by decide +kernel), List.mem_of_getElem? (i := 658) (by decide +kernel), List.mem_of_getElem? (i := 659) (by decide +kernel)⟩
theorem lw_p33 : lw_okq (⟨"TreadRing$Reach", "visit", "(II)V"⟩, 3) := ⟨⟨by decide +kernel, by decide +kernel⟩, List.mem_of_getElem? (i := 131) (by decide +kernel), List.mem_of_getElem? (i := 668) (by decide +kernel), List.mem_of_getElem? (i := 669) (by decide +kernel)⟩
theorem lw_p34 : lw_okq (⟨"TreadRing", "beginTrial", "()V"⟩, 15) := ⟨⟨by decide +kernel, by decide +kernel⟩, List.mem_of_getElem? (i := 17) (by decide +kernel), List.mem_of_getElem? (i := 792) (by decide +kernel), List.mem_of_getElem? (i := 793) (by decide +kernel)⟩
theorem lw_p35 : lw_okq (⟨"TreadRing", "makeOnTrial", "(IIZ)I"⟩, 15) := ⟨⟨by decide +kernel, by decide +kernel⟩, List.mem_of_getElem? (i := 17) (by decide +kernel), List.mem_of_getElem? (i := 804) (by decide +kernel), List.mem_of_getElem? (i := 805) (by decide +kernel)⟩
theorem lw_p36 : lw_okq (⟨"TreadRing", "playOnTrial", "(II)V"⟩, 15) := ⟨⟨by decide +kernel, by decide +kernel⟩, List.mem_of_getElem? (i := 17) (by decide +kernel), List.mem_of_getElem? (i := 816) (by decide +kernel), List.mem_of_getElem? (i := 817) (by decide +kernel)⟩
theorem lw_p37 : lw_okq (⟨"TreadRing$Heap", "namesOf", "(I[III)I"⟩, 16) := ⟨⟨by decide +kernel, by decide +kernel⟩, List.mem_of_getElem? (i := 26) (by decide +kernel), List.mem_of_getElem? (i := 831) (by decide +kernel), List.mem_of_getElem? (i := 832) (by decide +kernel)⟩
theorem lw_p38 : lw_okq (⟨"TreadRingModel", "beginAnew", "(I)V"⟩, 46) := ⟨⟨by decide +kernel, by decide +kernel⟩, List.mem_of_getElem? (i := 844) (by decide +kernel), List.mem_of_getElem? (i := 850) (by decide +kernel), List.mem_of_getElem? (i := 851) (by decide +kernel)⟩
theorem lw_p39 : lw_okq (⟨"TreadRingModel", "keepAct", "()V"⟩, 46) := ⟨⟨by decide +kernel, by decide +kernel⟩, List.mem_of_getElem? (i := 844) (by decide +kernel), List.mem_of_getElem? (i := 1003) (by decide +kernel), List.mem_of_getElem? (i := 1004) (by decide +kernel)⟩
theorem lw_p40 : lw_okq (⟨"TreadRingModel", "goMake", "(II)I"⟩, 46) := ⟨⟨by decide +kernel, by decide +kernel⟩, List.mem_of_getElem? (i := 844) (by decide +kernel), List.mem_of_getElem? (i := 1007) (by decide +kernel), List.mem_of_getElem? (i := 1008) (by decide +kernel)⟩
theorem lw_p41 : lw_okq (⟨"TreadRingModel", "runs", "()Z"⟩, 46) := ⟨⟨by decide +kernel, by decide +kernel⟩, List.mem_of_getElem? (i := 844) (by decide +kernel), List.mem_of_getElem? (i := 1011) (by decide +kernel), List.mem_of_getElem? (i := 1012) (by decide +kernel)⟩
theorem lw_p42 : lw_okq (⟨"TreadRingModel", "goSteps", "(I)I"⟩, 46) := ⟨⟨by decide +kernel, by decide +kernel⟩, List.mem_of_getElem? (i := 844) (by decide +kernel), List.mem_of_getElem? (i := 1015) (by decide +kernel), List.mem_of_getElem? (i := 1016) (by decide +kernel)⟩
theorem lw_p43 : lw_okq (⟨"TreadRingModel", "goStep", "()V"⟩, 46) := ⟨⟨by decide +kernel, by decide +kernel⟩, List.mem_of_getElem? (i := 844) (by decide +kernel), List.mem_of_getElem? (i := 1019) (by decide +kernel), List.mem_of_getElem? (i := 1020) (by decide +kernel)⟩
theorem lw_p44 : lw_okq (⟨"TreadRingModel", "clearOut", "()V"⟩, 46) := ⟨⟨by decide +kernel, by decide +kernel⟩, List.mem_of_getElem? (i := 844) (by decide +kernel), List.mem_of_getElem? (i := 1023) (by decide +kernel), List.mem_of_getElem? (i := 1024) (by decide +kernel)⟩
theorem lw_p45 : lw_okq (⟨"TreadRingModel", "nextGrey", "()I"⟩, 46) := ⟨⟨by decide +kernel, by decide +kernel⟩, List.mem_of_getElem? (i := 844) (by decide +kernel), List.mem_of_getElem? (i := 1027) (by decide +kernel), List.mem_of_getElem? (i := 1028) (by decide +kernel)⟩
theorem lw_p46 : lw_okq (⟨"TreadRingModel", "isSlot", "(I)Z"⟩, 46) := ⟨⟨by decide +kernel, by decide +kernel⟩, List.mem_of_getElem? (i := 844) (by decide +kernel), List.mem_of_getElem? (i := 1031) (by decide +kernel), List.mem_of_getElem? (i := 1032) (by decide +kernel)⟩
theorem lw_p47 : lw_okq (⟨"TreadRingModel", "sizeAt", "(I)I"⟩, 46) := ⟨⟨by decide +kernel, by decide +kernel⟩, List.mem_of_getElem? (i := 844) (by decide +kernel), List.mem_of_getElem? (i := 1035) (by decide +kernel), List.mem_of_getElem? (i := 1036) (by decide +kernel)⟩
def lw_privs_3 : List (MethodName × Nat) := [(⟨"TreadRing", "onTrial", "(I)I"⟩, 15), (⟨"TreadRing$Reach", "visit", "(II)V"⟩, 3), (⟨"TreadRing", "beginTrial", "()V"⟩, 15), (⟨"TreadRing", "makeOnTrial", "(IIZ)I"⟩, 15), (⟨"TreadRing", "playOnTrial", "(II)V"⟩, 15), (⟨"TreadRing$Heap", "namesOf", "(I[III)I"⟩, 16), (⟨"TreadRingModel", "beginAnew", "(I)V"⟩, 46), (⟨"TreadRingModel", "keepAct", "()V"⟩, 46), (⟨"TreadRingModel", "goMake", "(II)I"⟩, 46), (⟨"TreadRingModel", "runs", "()Z"⟩, 46), (⟨"TreadRingModel", "goSteps", "(I)I"⟩, 46), (⟨"TreadRingModel", "goStep", "()V"⟩, 46), (⟨"TreadRingModel", "clearOut", "()V"⟩, 46), (⟨"TreadRingModel", "nextGrey", "()I"⟩, 46), (⟨"TreadRingModel", "isSlot", "(I)Z"⟩, 46), (⟨"TreadRingModel", "sizeAt", "(I)I"⟩, 46)]
theorem lw_r3 : ∀ q ∈ lw_privs_3, lw_okq q := List.forall_mem_cons.mpr ⟨lw_p32, List.forall_mem_cons.mpr ⟨lw_p33, List.forall_mem_cons.mpr ⟨lw_p34, List.forall_mem_cons.mpr ⟨lw_p35, List.forall_mem_cons.mpr ⟨lw_p36, List.forall_mem_cons.mpr ⟨lw_p37, List.forall_mem_cons.mpr ⟨lw_p38, List.forall_mem_cons.mpr ⟨lw_p39, List.forall_mem_cons.mpr ⟨lw_p40, List.forall_mem_cons.mpr ⟨lw_p41, List.forall_mem_cons.mpr ⟨lw_p42, List.forall_mem_cons.mpr ⟨lw_p43, List.forall_mem_cons.mpr ⟨lw_p44, List.forall_mem_cons.mpr ⟨lw_p45, List.forall_mem_cons.mpr ⟨lw_p46, List.forall_mem_cons.mpr ⟨lw_p47, fun _ h => absurd h List.not_mem_nil⟩⟩⟩⟩⟩⟩⟩⟩⟩⟩⟩⟩⟩⟩⟩⟩
theorem lw_p48 : lw_okq (⟨"TreadRingModel", "colourOf", "(I)I"⟩, 46) := ⟨⟨by decide +kernel, by decide +kernel⟩, List.mem_of_getElem? (i := 844) (by decide +kernel), List.mem_of_getElem? (i := 1039) (by decide +kernel), List.mem_of_getElem? (i := 1040) (by decide +kernel)⟩
theorem lw_p49 : lw_okq (⟨"TreadRingModel", "isAhead", "(II)Z"⟩, 46) := ⟨⟨by decide +kernel, by decide +kernel⟩, List.mem_of_getElem? (i := 844) (by decide +kernel), List.mem_of_getElem? (i := 1043) (by decide +kernel), List.mem_of_getElem? (i := 1044) (by decide +kernel)⟩
theorem lw_p50 : lw_okq (⟨"TreadRingModel", "grey", "(IZ)V"⟩, 46) := ⟨⟨by decide +kernel, by decide +kernel⟩, List.mem_of_getElem? (i := 844) (by decide +kernel), List.mem_of_getElem? (i := 1050) (by decide +kernel), List.mem_of_getElem? (i := 1051) (by decide +kernel)⟩
theorem lw_p51 : lw_okq (⟨"TreadRingModel", "becomes", "(II)V"⟩, 46) := ⟨⟨by decide +kernel, by decide +kernel⟩, List.mem_of_getElem? (i := 844) (by decide +kernel), List.mem_of_getElem? (i := 1054) (by decide +kernel), List.mem_of_getElem? (i := 1055) (by decide +kernel)⟩
theorem lw_p52 : lw_okq (⟨"TreadRingModel", "takeOut", "(II)V"⟩, 46) := ⟨⟨by decide +kernel, by decide +kernel⟩, List.mem_of_getElem? (i := 844) (by decide +kernel), List.mem_of_getElem? (i := 1061) (by decide +kernel), List.mem_of_getElem? (i := 1062) (by decide +kernel)⟩
theorem lw_p53 : lw_okq (⟨"TreadRingModel", "longOf", "(I)I"⟩, 46) := ⟨⟨by decide +kernel, by decide +kernel⟩, List.mem_of_getElem? (i := 844) (by decide +kernel), List.mem_of_getElem? (i := 1068) (by decide +kernel), List.mem_of_getElem? (i := 1069) (by decide +kernel)⟩
theorem lw_p54 : lw_okq (⟨"TreadRingModel", "placeOf", "(II)I"⟩, 46) := ⟨⟨by decide +kernel, by decide +kernel⟩, List.mem_of_getElem? (i := 844) (by decide +kernel), List.mem_of_getElem? (i := 1072) (by decide +kernel), List.mem_of_getElem? (i := 1073) (by decide +kernel)⟩
theorem lw_p55 : lw_okq (⟨"TreadRingModel", "putIn", "(III)V"⟩, 46) := ⟨⟨by decide +kernel, by decide +kernel⟩, List.mem_of_getElem? (i := 844) (by decide +kernel), List.mem_of_getElem? (i := 1076) (by decide +kernel), List.mem_of_getElem? (i := 1077) (by decide +kernel)⟩
theorem lw_p56 : lw_okq (⟨"TreadRingModel", "countAll", "(I)I"⟩, 46) := ⟨⟨by decide +kernel, by decide +kernel⟩, List.mem_of_getElem? (i := 844) (by decide +kernel), List.mem_of_getElem? (i := 1080) (by decide +kernel), List.mem_of_getElem? (i := 1081) (by decide +kernel)⟩
theorem lw_p57 : lw_okq (⟨"TreadRingModel", "countOf", "(II)I"⟩, 46) := ⟨⟨by decide +kernel, by decide +kernel⟩, List.mem_of_getElem? (i := 844) (by decide +kernel), List.mem_of_getElem? (i := 1084) (by decide +kernel), List.mem_of_getElem? (i := 1085) (by decide +kernel)⟩
theorem lw_p58 : lw_okq (⟨"TreadRingModel", "greyRoots", "()V"⟩, 46) := ⟨⟨by decide +kernel, by decide +kernel⟩, List.mem_of_getElem? (i := 844) (by decide +kernel), List.mem_of_getElem? (i := 1088) (by decide +kernel), List.mem_of_getElem? (i := 1089) (by decide +kernel)⟩
theorem lw_p59 : lw_okq (⟨"TreadRingModel", "goEnd", "()V"⟩, 46) := ⟨⟨by decide +kernel, by decide +kernel⟩, List.mem_of_getElem? (i := 844) (by decide +kernel), List.mem_of_getElem? (i := 1092) (by decide +kernel), List.mem_of_getElem? (i := 1093) (by decide +kernel)⟩
theorem lw_p60 : lw_okq (⟨"TreadRingModel", "lose", "(II)V"⟩, 46) := ⟨⟨by decide +kernel, by decide +kernel⟩, List.mem_of_getElem? (i := 844) (by decide +kernel), List.mem_of_getElem? (i := 1096) (by decide +kernel), List.mem_of_getElem? (i := 1097) (by decide +kernel)⟩
theorem lw_p61 : lw_okq (⟨"TreadRingModel", "isEcru", "(I)Z"⟩, 46) := ⟨⟨by decide +kernel, by decide +kernel⟩, List.mem_of_getElem? (i := 844) (by decide +kernel), List.mem_of_getElem? (i := 1100) (by decide +kernel), List.mem_of_getElem? (i := 1101) (by decide +kernel)⟩
theorem lw_p62 : lw_okq (⟨"TreadRingModel", "isObject", "(I)Z"⟩, 46) := ⟨⟨by decide +kernel, by decide +kernel⟩, List.mem_of_getElem? (i := 844) (by decide +kernel), List.mem_of_getElem? (i := 1104) (by decide +kernel), List.mem_of_getElem? (i := 1105) (by decide +kernel)⟩
theorem lw_p63 : lw_okq (⟨"TreadRingModel", "turnAll", "(II)I"⟩, 46) := ⟨⟨by decide +kernel, by decide +kernel⟩, List.mem_of_getElem? (i := 844) (by decide +kernel), List.mem_of_getElem? (i := 1108) (by decide +kernel), List.mem_of_getElem? (i := 1109) (by decide +kernel)⟩
def lw_privs_4 : List (MethodName × Nat) := [(⟨"TreadRingModel", "colourOf", "(I)I"⟩, 46), (⟨"TreadRingModel", "isAhead", "(II)Z"⟩, 46), (⟨"TreadRingModel", "grey", "(IZ)V"⟩, 46), (⟨"TreadRingModel", "becomes", "(II)V"⟩, 46), (⟨"TreadRingModel", "takeOut", "(II)V"⟩, 46), (⟨"TreadRingModel", "longOf", "(I)I"⟩, 46), (⟨"TreadRingModel", "placeOf", "(II)I"⟩, 46), (⟨"TreadRingModel", "putIn", "(III)V"⟩, 46), (⟨"TreadRingModel", "countAll", "(I)I"⟩, 46), (⟨"TreadRingModel", "countOf", "(II)I"⟩, 46), (⟨"TreadRingModel", "greyRoots", "()V"⟩, 46), (⟨"TreadRingModel", "goEnd", "()V"⟩, 46), (⟨"TreadRingModel", "lose", "(II)V"⟩, 46), (⟨"TreadRingModel", "isEcru", "(I)Z"⟩, 46), (⟨"TreadRingModel", "isObject", "(I)Z"⟩, 46), (⟨"TreadRingModel", "turnAll", "(II)I"⟩, 46)]
theorem lw_r4 : ∀ q ∈ lw_privs_4, lw_okq q := List.forall_mem_cons.mpr ⟨lw_p48, List.forall_mem_cons.mpr ⟨lw_p49, List.forall_mem_cons.mpr ⟨lw_p50, List.forall_mem_cons.mpr ⟨lw_p51, List.forall_mem_cons.mpr ⟨lw_p52, List.forall_mem_cons.mpr ⟨lw_p53, List.forall_mem_cons.mpr ⟨lw_p54, List.forall_mem_cons.mpr ⟨lw_p55, List.forall_mem_cons.mpr ⟨lw_p56, List.forall_mem_cons.mpr ⟨lw_p57, List.forall_mem_cons.mpr ⟨lw_p58, List.forall_mem_cons.mpr ⟨lw_p59, List.forall_mem_cons.mpr ⟨lw_p60, List.forall_mem_cons.mpr ⟨lw_p61, List.forall_mem_cons.mpr ⟨lw_p62, List.forall_mem_cons.mpr ⟨lw_p63, fun _ h => absurd h List.not_mem_nil⟩⟩⟩⟩⟩⟩⟩⟩⟩⟩⟩⟩⟩⟩⟩⟩
theorem lw_p64 : lw_okq (⟨"TreadRingModel", "objectsNow", "()I"⟩, 46) := ⟨⟨by decide +kernel, by decide +kernel⟩, List.mem_of_getElem? (i := 844) (by decide +kernel), List.mem_of_getElem? (i := 1112) (by decide +kernel), List.mem_of_getElem? (i := 1113) (by decide +kernel)⟩
theorem lw_p65 : lw_okq (⟨"TreadRingModel", "tell", "(III)V"⟩, 46) := ⟨⟨by decide +kernel, by decide +kernel⟩, List.mem_of_getElem? (i := 844) (by decide +kernel), List.mem_of_getElem? (i := 1116) (by decide +kernel), List.mem_of_getElem? (i := 1117) (by decide +kernel)⟩
theorem lw_p66 : lw_okq (⟨"TreadRingModel", "find", "(I)Z"⟩, 46) := ⟨⟨by decide +kernel, by decide +kernel⟩, List.mem_of_getElem? (i := 844) (by decide +kernel), List.mem_of_getElem? (i := 1123) (by decide +kernel), List.mem_of_getElem? (i := 1124) (by decide +kernel)⟩
theorem lw_p67 : lw_okq (⟨"TreadRingModel", "look", "(I)Z"⟩, 46) := ⟨⟨by decide +kernel, by decide +kernel⟩, List.mem_of_getElem? (i := 844) (by decide +kernel), List.mem_of_getElem? (i := 1127) (by decide +kernel), List.mem_of_getElem? (i := 1128) (by decide +kernel)⟩
theorem lw_p68 : lw_okq (⟨"TreadRingModel", "takePage", "(II)V"⟩, 46) := ⟨⟨by decide +kernel, by decide +kernel⟩, List.mem_of_getElem? (i := 844) (by decide +kernel), List.mem_of_getElem? (i := 1131) (by decide +kernel), List.mem_of_getElem? (i := 1132) (by decide +kernel)⟩
theorem lw_p69 : lw_okq (⟨"TreadRingModel", "isPageFree", "(I)Z"⟩, 46) := ⟨⟨by decide +kernel, by decide +kernel⟩, List.mem_of_getElem? (i := 844) (by decide +kernel), List.mem_of_getElem? (i := 1135) (by decide +kernel), List.mem_of_getElem? (i := 1136) (by decide +kernel)⟩
theorem lw_p70 : lw_okq (⟨"TreadRingModel", "giveUp", "(I)V"⟩, 46) := ⟨⟨by decide +kernel, by decide +kernel⟩, List.mem_of_getElem? (i := 844) (by decide +kernel), List.mem_of_getElem? (i := 1139) (by decide +kernel), List.mem_of_getElem? (i := 1140) (by decide +kernel)⟩
theorem lw_p71 : lw_okq (⟨"TreadRingModel", "force", "()V"⟩, 46) := ⟨⟨by decide +kernel, by decide +kernel⟩, List.mem_of_getElem? (i := 844) (by decide +kernel), List.mem_of_getElem? (i := 1143) (by decide +kernel), List.mem_of_getElem? (i := 1144) (by decide +kernel)⟩
theorem lw_p72 : lw_okq (⟨"TreadRingModel", "goStart", "()V"⟩, 46) := ⟨⟨by decide +kernel, by decide +kernel⟩, List.mem_of_getElem? (i := 844) (by decide +kernel), List.mem_of_getElem? (i := 1148) (by decide +kernel), List.mem_of_getElem? (i := 1149) (by decide +kernel)⟩
theorem lw_p73 : lw_okq (⟨"TreadRingModel", "canLoad", "(III)Z"⟩, 46) := ⟨⟨by decide +kernel, by decide +kernel⟩, List.mem_of_getElem? (i := 844) (by decide +kernel), List.mem_of_getElem? (i := 1156) (by decide +kernel), List.mem_of_getElem? (i := 1157) (by decide +kernel)⟩
theorem lw_p74 : lw_okq (⟨"TreadRingModel", "hasField", "(II)Z"⟩, 46) := ⟨⟨by decide +kernel, by decide +kernel⟩, List.mem_of_getElem? (i := 844) (by decide +kernel), List.mem_of_getElem? (i := 1160) (by decide +kernel), List.mem_of_getElem? (i := 1161) (by decide +kernel)⟩
theorem lw_p75 : lw_okq (⟨"TreadRingModel", "goLoad", "(III)I"⟩, 46) := ⟨⟨by decide +kernel, by decide +kernel⟩, List.mem_of_getElem? (i := 844) (by decide +kernel), List.mem_of_getElem? (i := 1164) (by decide +kernel), List.mem_of_getElem? (i := 1165) (by decide +kernel)⟩
theorem lw_p76 : lw_okq (⟨"TreadRingModel", "canStore", "(III)Z"⟩, 46) := ⟨⟨by decide +kernel, by decide +kernel⟩, List.mem_of_getElem? (i := 844) (by decide +kernel), List.mem_of_getElem? (i := 1172) (by decide +kernel), List.mem_of_getElem? (i := 1173) (by decide +kernel)⟩
theorem lw_p77 : lw_okq (⟨"TreadRingModel", "goStore", "(III)V"⟩, 46) := ⟨⟨by decide +kernel, by decide +kernel⟩, List.mem_of_getElem? (i := 844) (by decide +kernel), List.mem_of_getElem? (i := 1179) (by decide +kernel), List.mem_of_getElem? (i := 1180) (by decide +kernel)⟩
theorem lw_p78 : lw_okq (⟨"TreadRingModel", "named", "(I)I"⟩, 46) := ⟨⟨by decide +kernel, by decide +kernel⟩, List.mem_of_getElem? (i := 844) (by decide +kernel), List.mem_of_getElem? (i := 1183) (by decide +kernel), List.mem_of_getElem? (i := 1184) (by decide +kernel)⟩
theorem lw_p79 : lw_okq (⟨"TreadRingModel", "clearReached", "()V"⟩, 46) := ⟨⟨by decide +kernel, by decide +kernel⟩, List.mem_of_getElem? (i := 844) (by decide +kernel), List.mem_of_getElem? (i := 1222) (by decide +kernel), List.mem_of_getElem? (i := 1223) (by decide +kernel)⟩
def lw_privs_5 : List (MethodName × Nat) := [(⟨"TreadRingModel", "objectsNow", "()I"⟩, 46), (⟨"TreadRingModel", "tell", "(III)V"⟩, 46), (⟨"TreadRingModel", "find", "(I)Z"⟩, 46), (⟨"TreadRingModel", "look", "(I)Z"⟩, 46), (⟨"TreadRingModel", "takePage", "(II)V"⟩, 46), (⟨"TreadRingModel", "isPageFree", "(I)Z"⟩, 46), (⟨"TreadRingModel", "giveUp", "(I)V"⟩, 46), (⟨"TreadRingModel", "force", "()V"⟩, 46), (⟨"TreadRingModel", "goStart", "()V"⟩, 46), (⟨"TreadRingModel", "canLoad", "(III)Z"⟩, 46), (⟨"TreadRingModel", "hasField", "(II)Z"⟩, 46), (⟨"TreadRingModel", "goLoad", "(III)I"⟩, 46), (⟨"TreadRingModel", "canStore", "(III)Z"⟩, 46), (⟨"TreadRingModel", "goStore", "(III)V"⟩, 46), (⟨"TreadRingModel", "named", "(I)I"⟩, 46), (⟨"TreadRingModel", "clearReached", "()V"⟩, 46)]
theorem lw_r5 : ∀ q ∈ lw_privs_5, lw_okq q := List.forall_mem_cons.mpr ⟨lw_p64, List.forall_mem_cons.mpr ⟨lw_p65, List.forall_mem_cons.mpr ⟨lw_p66, List.forall_mem_cons.mpr ⟨lw_p67, List.forall_mem_cons.mpr ⟨lw_p68, List.forall_mem_cons.mpr ⟨lw_p69, List.forall_mem_cons.mpr ⟨lw_p70, List.forall_mem_cons.mpr ⟨lw_p71, List.forall_mem_cons.mpr ⟨lw_p72, List.forall_mem_cons.mpr ⟨lw_p73, List.forall_mem_cons.mpr ⟨lw_p74, List.forall_mem_cons.mpr ⟨lw_p75, List.forall_mem_cons.mpr ⟨lw_p76, List.forall_mem_cons.mpr ⟨lw_p77, List.forall_mem_cons.mpr ⟨lw_p78, List.forall_mem_cons.mpr ⟨lw_p79, fun _ h => absurd h List.not_mem_nil⟩⟩⟩⟩⟩⟩⟩⟩⟩⟩⟩⟩⟩⟩⟩⟩
theorem lw_p80 : lw_okq (⟨"TreadRingModel", "meet", "(III)V"⟩, 46) := ⟨⟨by decide +kernel, by decide +kernel⟩, List.mem_of_getElem? (i := 844) (by decide +kernel), List.mem_of_getElem? (i := 1226) (by decide +kernel), List.mem_of_getElem? (i := 1227) (by decide +kernel)⟩
theorem lw_p81 : lw_okq (⟨"TreadRingModel", "follow", "(I)V"⟩, 46) := ⟨⟨by decide +kernel, by decide +kernel⟩, List.mem_of_getElem? (i := 844) (by decide +kernel), List.mem_of_getElem? (i := 1230) (by decide +kernel), List.mem_of_getElem? (i := 1231) (by decide +kernel)⟩
theorem lw_p82 : lw_okq (⟨"TreadRingModel", "reach", "(I)I"⟩, 46) := ⟨⟨by decide +kernel, by decide +kernel⟩, List.mem_of_getElem? (i := 844) (by decide +kernel), List.mem_of_getElem? (i := 1238) (by decide +kernel), List.mem_of_getElem? (i := 1239) (by decide +kernel)⟩
theorem lw_p83 : lw_okq (⟨"TreadRingModel", "namedBy", "(I)I"⟩, 46) := ⟨⟨by decide +kernel, by decide +kernel⟩, List.mem_of_getElem? (i := 844) (by decide +kernel), List.mem_of_getElem? (i := 1266) (by decide +kernel), List.mem_of_getElem? (i := 1267) (by decide +kernel)⟩
theorem lw_p84 : lw_okq (⟨"TreadRingModel", "isFreed", "(I)Z"⟩, 46) := ⟨⟨by decide +kernel, by decide +kernel⟩, List.mem_of_getElem? (i := 844) (by decide +kernel), List.mem_of_getElem? (i := 1293) (by decide +kernel), List.mem_of_getElem? (i := 1294) (by decide +kernel)⟩
theorem lw_p85 : lw_okq (⟨"TreadRingModel", "putAside", "()V"⟩, 46) := ⟨⟨by decide +kernel, by decide +kernel⟩, List.mem_of_getElem? (i := 844) (by decide +kernel), List.mem_of_getElem? (i := 1301) (by decide +kernel), List.mem_of_getElem? (i := 1302) (by decide +kernel)⟩
theorem lw_p86 : lw_okq (⟨"TreadRingModel", "cellsFree", "()I"⟩, 46) := ⟨⟨by decide +kernel, by decide +kernel⟩, List.mem_of_getElem? (i := 844) (by decide +kernel), List.mem_of_getElem? (i := 1305) (by decide +kernel), List.mem_of_getElem? (i := 1306) (by decide +kernel)⟩
theorem lw_p87 : lw_okq (⟨"TreadRingModel", "bringBack", "()V"⟩, 46) := ⟨⟨by decide +kernel, by decide +kernel⟩, List.mem_of_getElem? (i := 844) (by decide +kernel), List.mem_of_getElem? (i := 1312) (by decide +kernel), List.mem_of_getElem? (i := 1313) (by decide +kernel)⟩
theorem lw_p88 : lw_okq (⟨"TreadRingModel", "madeUpTo", "(IIZ)I"⟩, 46) := ⟨⟨by decide +kernel, by decide +kernel⟩, List.mem_of_getElem? (i := 844) (by decide +kernel), List.mem_of_getElem? (i := 1320) (by decide +kernel), List.mem_of_getElem? (i := 1321) (by decide +kernel)⟩
theorem lw_p89 : lw_okq (⟨"TreadRingModel", "putBase", "()V"⟩, 46) := ⟨⟨by decide +kernel, by decide +kernel⟩, List.mem_of_getElem? (i := 844) (by decide +kernel), List.mem_of_getElem? (i := 1324) (by decide +kernel), List.mem_of_getElem? (i := 1325) (by decide +kernel)⟩
theorem lw_p90 : lw_okq (⟨"TreadRingModel", "since", "(I)I"⟩, 46) := ⟨⟨by decide +kernel, by decide +kernel⟩, List.mem_of_getElem? (i := 844) (by decide +kernel), List.mem_of_getElem? (i := 1328) (by decide +kernel), List.mem_of_getElem? (i := 1329) (by decide +kernel)⟩
theorem lw_p91 : lw_okq (⟨"TreadRingModel", "beginApart", "(I)V"⟩, 46) := ⟨⟨by decide +kernel, by decide +kernel⟩, List.mem_of_getElem? (i := 844) (by decide +kernel), List.mem_of_getElem? (i := 1340) (by decide +kernel), List.mem_of_getElem? (i := 1341) (by decide +kernel)⟩
theorem lw_p92 : lw_okq (⟨"TreadRingModel", "goOnce", "()V"⟩, 46) := ⟨⟨by decide +kernel, by decide +kernel⟩, List.mem_of_getElem? (i := 844) (by decide +kernel), List.mem_of_getElem? (i := 1344) (by decide +kernel), List.mem_of_getElem? (i := 1345) (by decide +kernel)⟩
theorem lw_p93 : lw_okq (⟨"TreadRingModel", "draw", "(I)I"⟩, 46) := ⟨⟨by decide +kernel, by decide +kernel⟩, List.mem_of_getElem? (i := 844) (by decide +kernel), List.mem_of_getElem? (i := 1348) (by decide +kernel), List.mem_of_getElem? (i := 1349) (by decide +kernel)⟩
theorem lw_p94 : lw_okq (⟨"TreadRingModel", "gameTells", "(I)I"⟩, 46) := ⟨⟨by decide +kernel, by decide +kernel⟩, List.mem_of_getElem? (i := 844) (by decide +kernel), List.mem_of_getElem? (i := 1352) (by decide +kernel), List.mem_of_getElem? (i := 1353) (by decide +kernel)⟩
theorem lw_p95 : lw_okq (⟨"TreadRingModel", "readAll", "()V"⟩, 46) := ⟨⟨by decide +kernel, by decide +kernel⟩, List.mem_of_getElem? (i := 844) (by decide +kernel), List.mem_of_getElem? (i := 1368) (by decide +kernel), List.mem_of_getElem? (i := 1369) (by decide +kernel)⟩
def lw_privs_6 : List (MethodName × Nat) := [(⟨"TreadRingModel", "meet", "(III)V"⟩, 46), (⟨"TreadRingModel", "follow", "(I)V"⟩, 46), (⟨"TreadRingModel", "reach", "(I)I"⟩, 46), (⟨"TreadRingModel", "namedBy", "(I)I"⟩, 46), (⟨"TreadRingModel", "isFreed", "(I)Z"⟩, 46), (⟨"TreadRingModel", "putAside", "()V"⟩, 46), (⟨"TreadRingModel", "cellsFree", "()I"⟩, 46), (⟨"TreadRingModel", "bringBack", "()V"⟩, 46), (⟨"TreadRingModel", "madeUpTo", "(IIZ)I"⟩, 46), (⟨"TreadRingModel", "putBase", "()V"⟩, 46), (⟨"TreadRingModel", "since", "(I)I"⟩, 46), (⟨"TreadRingModel", "beginApart", "(I)V"⟩, 46), (⟨"TreadRingModel", "goOnce", "()V"⟩, 46), (⟨"TreadRingModel", "draw", "(I)I"⟩, 46), (⟨"TreadRingModel", "gameTells", "(I)I"⟩, 46), (⟨"TreadRingModel", "readAll", "()V"⟩, 46)]
theorem lw_r6 : ∀ q ∈ lw_privs_6, lw_okq q := List.forall_mem_cons.mpr ⟨lw_p80, List.forall_mem_cons.mpr ⟨lw_p81, List.forall_mem_cons.mpr ⟨lw_p82, List.forall_mem_cons.mpr ⟨lw_p83, List.forall_mem_cons.mpr ⟨lw_p84, List.forall_mem_cons.mpr ⟨lw_p85, List.forall_mem_cons.mpr ⟨lw_p86, List.forall_mem_cons.mpr ⟨lw_p87, List.forall_mem_cons.mpr ⟨lw_p88, List.forall_mem_cons.mpr ⟨lw_p89, List.forall_mem_cons.mpr ⟨lw_p90, List.forall_mem_cons.mpr ⟨lw_p91, List.forall_mem_cons.mpr ⟨lw_p92, List.forall_mem_cons.mpr ⟨lw_p93, List.forall_mem_cons.mpr ⟨lw_p94, List.forall_mem_cons.mpr ⟨lw_p95, fun _ h => absurd h List.not_mem_nil⟩⟩⟩⟩⟩⟩⟩⟩⟩⟩⟩⟩⟩⟩⟩⟩
theorem lw_p96 : lw_okq (⟨"TreadRingModel", "scan", "()V"⟩, 46) := ⟨⟨by decide +kernel, by decide +kernel⟩, List.mem_of_getElem? (i := 844) (by decide +kernel), List.mem_of_getElem? (i := 1372) (by decide +kernel), List.mem_of_getElem? (i := 1373) (by decide +kernel)⟩
theorem lw_p97 : lw_okq (⟨"TreadRingModel", "isBlank", "(I)Z"⟩, 46) := ⟨⟨by decide +kernel, by decide +kernel⟩, List.mem_of_getElem? (i := 844) (by decide +kernel), List.mem_of_getElem? (i := 1376) (by decide +kernel), List.mem_of_getElem? (i := 1377) (by decide +kernel)⟩
theorem lw_p98 : lw_okq (⟨"TreadRingModel", "byteAt", "(I)I"⟩, 46) := ⟨⟨by decide +kernel, by decide +kernel⟩, List.mem_of_getElem? (i := 844) (by decide +kernel), List.mem_of_getElem? (i := 1380) (by decide +kernel), List.mem_of_getElem? (i := 1381) (by decide +kernel)⟩
theorem lw_p99 : lw_okq (⟨"TreadRingModel", "scanWord", "()V"⟩, 46) := ⟨⟨by decide +kernel, by decide +kernel⟩, List.mem_of_getElem? (i := 844) (by decide +kernel), List.mem_of_getElem? (i := 1387) (by decide +kernel), List.mem_of_getElem? (i := 1388) (by decide +kernel)⟩
theorem lw_p100 : lw_okq (⟨"TreadRingModel", "scanNumber", "()V"⟩, 46) := ⟨⟨by decide +kernel, by decide +kernel⟩, List.mem_of_getElem? (i := 844) (by decide +kernel), List.mem_of_getElem? (i := 1394) (by decide +kernel), List.mem_of_getElem? (i := 1395) (by decide +kernel)⟩
theorem lw_p101 : lw_okq (⟨"TreadRingModel", "isAt", "(I)Z"⟩, 46) := ⟨⟨by decide +kernel, by decide +kernel⟩, List.mem_of_getElem? (i := 844) (by decide +kernel), List.mem_of_getElem? (i := 1401) (by decide +kernel), List.mem_of_getElem? (i := 1402) (by decide +kernel)⟩
theorem lw_p102 : lw_okq (⟨"TreadRingModel", "readItem", "()V"⟩, 46) := ⟨⟨by decide +kernel, by decide +kernel⟩, List.mem_of_getElem? (i := 844) (by decide +kernel), List.mem_of_getElem? (i := 1405) (by decide +kernel), List.mem_of_getElem? (i := 1406) (by decide +kernel)⟩
theorem lw_p103 : lw_okq (⟨"TreadRingModel", "canBegin", "()Z"⟩, 46) := ⟨⟨by decide +kernel, by decide +kernel⟩, List.mem_of_getElem? (i := 844) (by decide +kernel), List.mem_of_getElem? (i := 1409) (by decide +kernel), List.mem_of_getElem? (i := 1410) (by decide +kernel)⟩
theorem lw_p104 : lw_okq (⟨"TreadRingModel", "isLetterHere", "()Z"⟩, 46) := ⟨⟨by decide +kernel, by decide +kernel⟩, List.mem_of_getElem? (i := 844) (by decide +kernel), List.mem_of_getElem? (i := 1413) (by decide +kernel), List.mem_of_getElem? (i := 1414) (by decide +kernel)⟩
theorem lw_p105 : lw_okq (⟨"TreadRingModel", "isWord", "(I)Z"⟩, 46) := ⟨⟨by decide +kernel, by decide +kernel⟩, List.mem_of_getElem? (i := 844) (by decide +kernel), List.mem_of_getElem? (i := 1418) (by decide +kernel), List.mem_of_getElem? (i := 1419) (by decide +kernel)⟩
theorem lw_p106 : lw_okq (⟨"TreadRingModel", "fail", "(I)V"⟩, 46) := ⟨⟨by decide +kernel, by decide +kernel⟩, List.mem_of_getElem? (i := 844) (by decide +kernel), List.mem_of_getElem? (i := 1423) (by decide +kernel), List.mem_of_getElem? (i := 1424) (by decide +kernel)⟩
theorem lw_p107 : lw_okq (⟨"TreadRingModel", "readStep", "()V"⟩, 46) := ⟨⟨by decide +kernel, by decide +kernel⟩, List.mem_of_getElem? (i := 844) (by decide +kernel), List.mem_of_getElem? (i := 1427) (by decide +kernel), List.mem_of_getElem? (i := 1428) (by decide +kernel)⟩
theorem lw_p108 : lw_okq (⟨"TreadRingModel", "numeral", "(II)I"⟩, 46) := ⟨⟨by decide +kernel, by decide +kernel⟩, List.mem_of_getElem? (i := 844) (by decide +kernel), List.mem_of_getElem? (i := 1431) (by decide +kernel), List.mem_of_getElem? (i := 1432) (by decide +kernel)⟩
theorem lw_p109 : lw_okq (⟨"TreadRingModel", "need", "(I)V"⟩, 46) := ⟨⟨by decide +kernel, by decide +kernel⟩, List.mem_of_getElem? (i := 844) (by decide +kernel), List.mem_of_getElem? (i := 1435) (by decide +kernel), List.mem_of_getElem? (i := 1436) (by decide +kernel)⟩
theorem lw_p110 : lw_okq (⟨"TreadRingModel", "lay", "(IIII)V"⟩, 46) := ⟨⟨by decide +kernel, by decide +kernel⟩, List.mem_of_getElem? (i := 844) (by decide +kernel), List.mem_of_getElem? (i := 1439) (by decide +kernel), List.mem_of_getElem? (i := 1440) (by decide +kernel)⟩
theorem lw_p111 : lw_okq (⟨"TreadRingModel", "readBlock", "(Z)V"⟩, 46) := ⟨⟨by decide +kernel, by decide +kernel⟩, List.mem_of_getElem? (i := 844) (by decide +kernel), List.mem_of_getElem? (i := 1443) (by decide +kernel), List.mem_of_getElem? (i := 1444) (by decide +kernel)⟩
def lw_privs_7 : List (MethodName × Nat) := [(⟨"TreadRingModel", "scan", "()V"⟩, 46), (⟨"TreadRingModel", "isBlank", "(I)Z"⟩, 46), (⟨"TreadRingModel", "byteAt", "(I)I"⟩, 46), (⟨"TreadRingModel", "scanWord", "()V"⟩, 46), (⟨"TreadRingModel", "scanNumber", "()V"⟩, 46), (⟨"TreadRingModel", "isAt", "(I)Z"⟩, 46), (⟨"TreadRingModel", "readItem", "()V"⟩, 46), (⟨"TreadRingModel", "canBegin", "()Z"⟩, 46), (⟨"TreadRingModel", "isLetterHere", "()Z"⟩, 46), (⟨"TreadRingModel", "isWord", "(I)Z"⟩, 46), (⟨"TreadRingModel", "fail", "(I)V"⟩, 46), (⟨"TreadRingModel", "readStep", "()V"⟩, 46), (⟨"TreadRingModel", "numeral", "(II)I"⟩, 46), (⟨"TreadRingModel", "need", "(I)V"⟩, 46), (⟨"TreadRingModel", "lay", "(IIII)V"⟩, 46), (⟨"TreadRingModel", "readBlock", "(Z)V"⟩, 46)]
theorem lw_r7 : ∀ q ∈ lw_privs_7, lw_okq q := List.forall_mem_cons.mpr ⟨lw_p96, List.forall_mem_cons.mpr ⟨lw_p97, List.forall_mem_cons.mpr ⟨lw_p98, List.forall_mem_cons.mpr ⟨lw_p99, List.forall_mem_cons.mpr ⟨lw_p100, List.forall_mem_cons.mpr ⟨lw_p101, List.forall_mem_cons.mpr ⟨lw_p102, List.forall_mem_cons.mpr ⟨lw_p103, List.forall_mem_cons.mpr ⟨lw_p104, List.forall_mem_cons.mpr ⟨lw_p105, List.forall_mem_cons.mpr ⟨lw_p106, List.forall_mem_cons.mpr ⟨lw_p107, List.forall_mem_cons.mpr ⟨lw_p108, List.forall_mem_cons.mpr ⟨lw_p109, List.forall_mem_cons.mpr ⟨lw_p110, List.forall_mem_cons.mpr ⟨lw_p111, fun _ h => absurd h List.not_mem_nil⟩⟩⟩⟩⟩⟩⟩⟩⟩⟩⟩⟩⟩⟩⟩⟩
theorem lw_p112 : lw_okq (⟨"TreadRingModel", "letter", "()I"⟩, 46) := ⟨⟨by decide +kernel, by decide +kernel⟩, List.mem_of_getElem? (i := 844) (by decide +kernel), List.mem_of_getElem? (i := 1447) (by decide +kernel), List.mem_of_getElem? (i := 1448) (by decide +kernel)⟩
theorem lw_p113 : lw_okq (⟨"TreadRingModel", "readDeed", "()V"⟩, 46) := ⟨⟨by decide +kernel, by decide +kernel⟩, List.mem_of_getElem? (i := 844) (by decide +kernel), List.mem_of_getElem? (i := 1451) (by decide +kernel), List.mem_of_getElem? (i := 1452) (by decide +kernel)⟩
theorem lw_p114 : lw_okq (⟨"TreadRingModel", "readStore", "(I)V"⟩, 46) := ⟨⟨by decide +kernel, by decide +kernel⟩, List.mem_of_getElem? (i := 844) (by decide +kernel), List.mem_of_getElem? (i := 1455) (by decide +kernel), List.mem_of_getElem? (i := 1456) (by decide +kernel)⟩
theorem lw_p115 : lw_okq (⟨"TreadRingModel", "readNaming", "(I)V"⟩, 46) := ⟨⟨by decide +kernel, by decide +kernel⟩, List.mem_of_getElem? (i := 844) (by decide +kernel), List.mem_of_getElem? (i := 1460) (by decide +kernel), List.mem_of_getElem? (i := 1461) (by decide +kernel)⟩
theorem lw_p116 : lw_okq (⟨"TreadRingModel", "goRun", "()I"⟩, 46) := ⟨⟨by decide +kernel, by decide +kernel⟩, List.mem_of_getElem? (i := 844) (by decide +kernel), List.mem_of_getElem? (i := 1472) (by decide +kernel), List.mem_of_getElem? (i := 1473) (by decide +kernel)⟩
theorem lw_p117 : lw_okq (⟨"TreadRingModel", "leaveBlocks", "()V"⟩, 46) := ⟨⟨by decide +kernel, by decide +kernel⟩, List.mem_of_getElem? (i := 844) (by decide +kernel), List.mem_of_getElem? (i := 1476) (by decide +kernel), List.mem_of_getElem? (i := 1477) (by decide +kernel)⟩
theorem lw_p118 : lw_okq (⟨"TreadRingModel", "enter", "(I)V"⟩, 46) := ⟨⟨by decide +kernel, by decide +kernel⟩, List.mem_of_getElem? (i := 844) (by decide +kernel), List.mem_of_getElem? (i := 1480) (by decide +kernel), List.mem_of_getElem? (i := 1481) (by decide +kernel)⟩
theorem lw_p119 : lw_okq (⟨"TreadRingModel", "canGo", "()Z"⟩, 46) := ⟨⟨by decide +kernel, by decide +kernel⟩, List.mem_of_getElem? (i := 844) (by decide +kernel), List.mem_of_getElem? (i := 1484) (by decide +kernel), List.mem_of_getElem? (i := 1485) (by decide +kernel)⟩
theorem lw_p120 : lw_okq (⟨"TreadRingModel", "doGo", "()V"⟩, 46) := ⟨⟨by decide +kernel, by decide +kernel⟩, List.mem_of_getElem? (i := 844) (by decide +kernel), List.mem_of_getElem? (i := 1488) (by decide +kernel), List.mem_of_getElem? (i := 1489) (by decide +kernel)⟩
theorem lw_p121 : lw_okq (⟨"TreadRingModel", "apart", "(II)I"⟩, 46) := ⟨⟨by decide +kernel, by decide +kernel⟩, List.mem_of_getElem? (i := 844) (by decide +kernel), List.mem_of_getElem? (i := 1496) (by decide +kernel), List.mem_of_getElem? (i := 1497) (by decide +kernel)⟩
theorem lw_p122 : lw_okq (⟨"TreadRingModel", "apartTells", "(I)I"⟩, 46) := ⟨⟨by decide +kernel, by decide +kernel⟩, List.mem_of_getElem? (i := 844) (by decide +kernel), List.mem_of_getElem? (i := 1500) (by decide +kernel), List.mem_of_getElem? (i := 1501) (by decide +kernel)⟩
theorem lw_p123 : lw_okq (⟨"TreadRingModel", "swapAll", "()V"⟩, 46) := ⟨⟨by decide +kernel, by decide +kernel⟩, List.mem_of_getElem? (i := 844) (by decide +kernel), List.mem_of_getElem? (i := 1516) (by decide +kernel), List.mem_of_getElem? (i := 1517) (by decide +kernel)⟩
def lw_privs_8 : List (MethodName × Nat) := [(⟨"TreadRingModel", "letter", "()I"⟩, 46), (⟨"TreadRingModel", "readDeed", "()V"⟩, 46), (⟨"TreadRingModel", "readStore", "(I)V"⟩, 46), (⟨"TreadRingModel", "readNaming", "(I)V"⟩, 46), (⟨"TreadRingModel", "goRun", "()I"⟩, 46), (⟨"TreadRingModel", "leaveBlocks", "()V"⟩, 46), (⟨"TreadRingModel", "enter", "(I)V"⟩, 46), (⟨"TreadRingModel", "canGo", "()Z"⟩, 46), (⟨"TreadRingModel", "doGo", "()V"⟩, 46), (⟨"TreadRingModel", "apart", "(II)I"⟩, 46), (⟨"TreadRingModel", "apartTells", "(I)I"⟩, 46), (⟨"TreadRingModel", "swapAll", "()V"⟩, 46)]
theorem lw_r8 : ∀ q ∈ lw_privs_8, lw_okq q := List.forall_mem_cons.mpr ⟨lw_p112, List.forall_mem_cons.mpr ⟨lw_p113, List.forall_mem_cons.mpr ⟨lw_p114, List.forall_mem_cons.mpr ⟨lw_p115, List.forall_mem_cons.mpr ⟨lw_p116, List.forall_mem_cons.mpr ⟨lw_p117, List.forall_mem_cons.mpr ⟨lw_p118, List.forall_mem_cons.mpr ⟨lw_p119, List.forall_mem_cons.mpr ⟨lw_p120, List.forall_mem_cons.mpr ⟨lw_p121, List.forall_mem_cons.mpr ⟨lw_p122, List.forall_mem_cons.mpr ⟨lw_p123, fun _ h => absurd h List.not_mem_nil⟩⟩⟩⟩⟩⟩⟩⟩⟩⟩⟩⟩
def lw_privs : List (MethodName × Nat) := lw_privs_1 ++ (lw_privs_2 ++ (lw_privs_3 ++ (lw_privs_4 ++ (lw_privs_5 ++ (lw_privs_6 ++ (lw_privs_7 ++ (lw_privs_8)))))))
def lw_tbl : List Cond := k2_sels lw_privs ++ tables_1
theorem lw_privs_ok : ∀ q ∈ lw_privs, lw_okq q := by
  show ∀ q ∈ lw_privs_1 ++ (lw_privs_2 ++ (lw_privs_3 ++ (lw_privs_4 ++ (lw_privs_5 ++ (lw_privs_6 ++ (lw_privs_7 ++ (lw_privs_8))))))), lw_okq q
  exact List.forall_mem_append.mpr ⟨lw_r1, List.forall_mem_append.mpr ⟨lw_r2, List.forall_mem_append.mpr ⟨lw_r3, List.forall_mem_append.mpr ⟨lw_r4, List.forall_mem_append.mpr ⟨lw_r5, List.forall_mem_append.mpr ⟨lw_r6, List.forall_mem_append.mpr ⟨lw_r7, lw_r8⟩⟩⟩⟩⟩⟩⟩
end
section
def RX0 : String := "TreadRing$Heap"
def TX0 : u_T := fun k => match k with
  | 0 => ("TreadRing$Heap", "rings", "LTreadRing$Rings;", true)
  | 1 => ("TreadRing$Heap", "cells", "[I", true)
  | 2 => ("TreadRing$Heap", "sizes", "[I", true)
  | 3 => ("TreadRing$Heap", "used", "[I", true)
  | 4 => ("TreadRing$Heap", "roots", "[I", true)
  | 5 => ("TreadRing$Heap", "weaks", "[I", true)
  | 6 => ("TreadRing$Heap", "greys", "[I", true)
  | 7 => ("TreadRing$Heap", "settings", "[I", true)
  | 8 => ("TreadRing$Heap", "tally", "[I", true)
  | 9 => ("TreadRing$Heap", "log", "[I", true)
  | 10 => ("TreadRing$Heap", "pages", "I", false)
  | 11 => ("TreadRing$Heap", "waiting", "I", false)
  | 12 => ("TreadRing$Heap", "scanned", "I", false)
  | 13 => ("TreadRing$Heap", "looked", "I", false)
  | 14 => ("TreadRing$Heap", "stepsAhead", "I", false)
  | _ => ("TreadRing$Heap", "running", "Z", false)
def tyX0 : Nat → FieldType := fun k => match k with
  | 0 => .object "TreadRing$Rings"
  | 1 => .array .int
  | 2 => .array .int
  | 3 => .array .int
  | 4 => .array .int
  | 5 => .array .int
  | 6 => .array .int
  | 7 => .array .int
  | 8 => .array .int
  | 9 => .array .int
  | 10 => .int
  | 11 => .int
  | 12 => .int
  | 13 => .int
  | 14 => .int
  | _ => .boolean
abbrev wsX00 : List Cond := u_ws RX0 TX0 16
theorem nmX0 : ∀ a, a < 16 → ∀ b, b < 16 → a ≠ b → (TX0 a).2.1 ≠ (TX0 b).2.1 := by decide +kernel
theorem tyX0_ok : ∀ k, k < 16 → parseFieldDescriptor (TX0 k).2.2.1 = some (tyX0 k) := by decide +kernel
abbrev cX0_init : ByteArray := prog_2_method_1_code
def yX0_init : MethodName := ⟨RX0, "<init>", "()V"⟩
abbrev cX0_clear : ByteArray := prog_2_method_2_code
def yX0_clear : MethodName := ⟨RX0, "clear", "(I)V"⟩
abbrev cX0_become : ByteArray := prog_2_method_3_code
def yX0_become : MethodName := ⟨RX0, "become", "(LTreadRing$Heap;)V"⟩
abbrev cX0_isObject : ByteArray := prog_2_method_4_code
def yX0_isObject : MethodName := ⟨RX0, "isObject", "(I)Z"⟩
abbrev cX0_sizeAt : ByteArray := prog_2_method_5_code
def yX0_sizeAt : MethodName := ⟨RX0, "sizeAt", "(I)I"⟩
abbrev cX0_rootOrNone : ByteArray := prog_2_method_6_code
def yX0_rootOrNone : MethodName := ⟨RX0, "rootOrNone", "(I)I"⟩
abbrev cX0_fieldCell : ByteArray := prog_2_method_7_code
def yX0_fieldCell : MethodName := ⟨RX0, "fieldCell", "(II)I"⟩
abbrev cX0_fieldOfRoot : ByteArray := prog_2_method_8_code
def yX0_fieldOfRoot : MethodName := ⟨RX0, "fieldOfRoot", "(II)I"⟩
abbrev cX0_begin : ByteArray := prog_2_method_9_code
def yX0_begin : MethodName := ⟨RX0, "begin", "()V"⟩
abbrev cX0_shade : ByteArray := prog_2_method_10_code
def yX0_shade : MethodName := ⟨RX0, "shade", "([III)V"⟩
abbrev cX0_advance : ByteArray := prog_2_method_11_code
def yX0_advance : MethodName := ⟨RX0, "advance", "(I)I"⟩
abbrev cX0_take : ByteArray := prog_2_method_12_code
def yX0_take : MethodName := ⟨RX0, "take", "()V"⟩
abbrev cX0_goesAhead : ByteArray := prog_2_method_13_code
def yX0_goesAhead : MethodName := ⟨RX0, "goesAhead", "(II)Z"⟩
abbrev cX0_finish : ByteArray := prog_2_method_14_code
def yX0_finish : MethodName := ⟨RX0, "finish", "()V"⟩
abbrev cX0_forget : ByteArray := prog_2_method_15_code
def yX0_forget : MethodName := ⟨RX0, "forget", "([III)I"⟩
abbrev cX0_build : ByteArray := prog_2_method_16_code
def yX0_build : MethodName := ⟨RX0, "build", "(II)I"⟩
abbrev cX0_findSlot : ByteArray := prog_2_method_17_code
def yX0_findSlot : MethodName := ⟨RX0, "findSlot", "(I)I"⟩
abbrev cX0_findPage : ByteArray := prog_2_method_18_code
def yX0_findPage : MethodName := ⟨RX0, "findPage", "(I)I"⟩
abbrev cX0_resize : ByteArray := prog_2_method_19_code
def yX0_resize : MethodName := ⟨RX0, "resize", "(II)V"⟩
abbrev cX0_fetch : ByteArray := prog_2_method_20_code
def yX0_fetch : MethodName := ⟨RX0, "fetch", "(III)I"⟩
abbrev cX0_put : ByteArray := prog_2_method_21_code
def yX0_put : MethodName := ⟨RX0, "put", "(III)Z"⟩
abbrev cX0_strengthen : ByteArray := prog_2_method_22_code
def yX0_strengthen : MethodName := ⟨RX0, "strengthen", "(II)I"⟩
abbrev cX0_greyAt : ByteArray := prog_2_method_23_code
def yX0_greyAt : MethodName := ⟨RX0, "greyAt", "(I)I"⟩
abbrev cX0_objects : ByteArray := prog_2_method_24_code
def yX0_objects : MethodName := ⟨RX0, "objects", "()I"⟩
abbrev cX0_objectCells : ByteArray := prog_2_method_25_code
def yX0_objectCells : MethodName := ⟨RX0, "objectCells", "()I"⟩
abbrev cX0_toldCycles : ByteArray := prog_2_method_26_code
def yX0_toldCycles : MethodName := ⟨RX0, "toldCycles", "()I"⟩
abbrev cX0_toldPart : ByteArray := prog_2_method_27_code
def yX0_toldPart : MethodName := ⟨RX0, "toldPart", "(II)I"⟩
abbrev cX0_namedBy : ByteArray := prog_2_method_28_code
def yX0_namedBy : MethodName := ⟨RX0, "namedBy", "(I)I"⟩
abbrev cX0_blackOverEcru : ByteArray := prog_2_method_29_code
def yX0_blackOverEcru : MethodName := ⟨RX0, "blackOverEcru", "()I"⟩
abbrev cX0_namesOfFree : ByteArray := prog_2_method_30_code
def yX0_namesOfFree : MethodName := ⟨RX0, "namesOfFree", "()I"⟩
abbrev cX0_namesOf : ByteArray := prog_2_method_31_code
def yX0_namesOf : MethodName := ⟨RX0, "namesOf", "(I[III)I"⟩
def RX1 : String := "TreadRing$Reach"
def TX1 : u_T := fun k => match k with
  | 0 => ("TreadRing$Reach", "far", "[I", true)
  | 1 => ("TreadRing$Reach", "queue", "[I", true)
  | _ => ("TreadRing$Reach", "found", "I", false)
def tyX1 : Nat → FieldType := fun k => match k with
  | 0 => .array .int
  | 1 => .array .int
  | _ => .int
abbrev wsX10 : List Cond := u_ws RX1 TX1 3
theorem nmX1 : ∀ a, a < 3 → ∀ b, b < 3 → a ≠ b → (TX1 a).2.1 ≠ (TX1 b).2.1 := by decide +kernel
theorem tyX1_ok : ∀ k, k < 3 → parseFieldDescriptor (TX1 k).2.2.1 = some (tyX1 k) := by decide +kernel
abbrev cX1_init : ByteArray := prog_3_method_1_code
def yX1_init : MethodName := ⟨RX1, "<init>", "()V"⟩
abbrev cX1_spread : ByteArray := prog_3_method_2_code
def yX1_spread : MethodName := ⟨RX1, "spread", "(LTreadRing$Heap;III)V"⟩
abbrev cX1_visit : ByteArray := prog_3_method_3_code
def yX1_visit : MethodName := ⟨RX1, "visit", "(II)V"⟩
abbrev cX1_foundCells : ByteArray := prog_3_method_4_code
def yX1_foundCells : MethodName := ⟨RX1, "foundCells", "(LTreadRing$Heap;)I"⟩
abbrev cX1_floating : ByteArray := prog_3_method_5_code
def yX1_floating : MethodName := ⟨RX1, "floating", "(LTreadRing$Heap;)I"⟩
def RX2 : String := "TreadRing$Reader"
def TX2 : u_T := fun k => match k with
  | 0 => ("TreadRing$Reader", "text", "[I", false)
  | 1 => ("TreadRing$Reader", "length", "I", false)
  | 2 => ("TreadRing$Reader", "start", "I", false)
  | 3 => ("TreadRing$Reader", "stop", "I", false)
  | 4 => ("TreadRing$Reader", "script", "LTreadRing$Script;", false)
  | 5 => ("TreadRing$Reader", "blocks", "[I", true)
  | 6 => ("TreadRing$Reader", "depth", "I", false)
  | 7 => ("TreadRing$Reader", "fault", "I", false)
  | _ => ("TreadRing$Reader", "place", "I", false)
def tyX2 : Nat → FieldType := fun k => match k with
  | 0 => .array .int
  | 1 => .int
  | 2 => .int
  | 3 => .int
  | 4 => .object "TreadRing$Script"
  | 5 => .array .int
  | 6 => .int
  | 7 => .int
  | _ => .int
abbrev wsX20 : List Cond := u_ws RX2 TX2 9
theorem nmX2 : ∀ a, a < 9 → ∀ b, b < 9 → a ≠ b → (TX2 a).2.1 ≠ (TX2 b).2.1 := by decide +kernel
theorem tyX2_ok : ∀ k, k < 9 → parseFieldDescriptor (TX2 k).2.2.1 = some (tyX2 k) := by decide +kernel
abbrev cX2_init : ByteArray := prog_4_method_1_code
def yX2_init : MethodName := ⟨RX2, "<init>", "()V"⟩
abbrev cX2_read : ByteArray := prog_4_method_2_code
def yX2_read : MethodName := ⟨RX2, "read", "([IILTreadRing$Script;)V"⟩
abbrev cX2_advanceToken : ByteArray := prog_4_method_3_code
def yX2_advanceToken : MethodName := ⟨RX2, "advanceToken", "()V"⟩
abbrev cX2_isLetter : ByteArray := prog_4_method_4_code
def yX2_isLetter : MethodName := ⟨RX2, "isLetter", "(I)Z"⟩
abbrev cX2_isDigit : ByteArray := prog_4_method_5_code
def yX2_isDigit : MethodName := ⟨RX2, "isDigit", "(I)Z"⟩
abbrev cX2_isSign : ByteArray := prog_4_method_6_code
def yX2_isSign : MethodName := ⟨RX2, "isSign", "(C)Z"⟩
abbrev cX2_isWord : ByteArray := prog_4_method_7_code
def yX2_isWord : MethodName := ⟨RX2, "isWord", "(Ljava/lang/String;)Z"⟩
abbrev cX2_rootHere : ByteArray := prog_4_method_8_code
def yX2_rootHere : MethodName := ⟨RX2, "rootHere", "()I"⟩
abbrev cX2_note : ByteArray := prog_4_method_9_code
def yX2_note : MethodName := ⟨RX2, "note", "(I)V"⟩
abbrev cX2_readSign : ByteArray := prog_4_method_10_code
def yX2_readSign : MethodName := ⟨RX2, "readSign", "(C)V"⟩
abbrev cX2_readRoot : ByteArray := prog_4_method_11_code
def yX2_readRoot : MethodName := ⟨RX2, "readRoot", "(Z)I"⟩
abbrev cX2_readNumber : ByteArray := prog_4_method_12_code
def yX2_readNumber : MethodName := ⟨RX2, "readNumber", "(II)I"⟩
abbrev cX2_closeBlock : ByteArray := prog_4_method_13_code
def yX2_closeBlock : MethodName := ⟨RX2, "closeBlock", "()V"⟩
abbrev cX2_readItem : ByteArray := prog_4_method_14_code
def yX2_readItem : MethodName := ⟨RX2, "readItem", "()V"⟩
abbrev cX2_openBlock : ByteArray := prog_4_method_15_code
def yX2_openBlock : MethodName := ⟨RX2, "openBlock", "(III)V"⟩
abbrev cX2_readNaming : ByteArray := prog_4_method_16_code
def yX2_readNaming : MethodName := ⟨RX2, "readNaming", "(I)V"⟩
abbrev cX2_readValue : ByteArray := prog_4_method_17_code
def yX2_readValue : MethodName := ⟨RX2, "readValue", "(I)V"⟩
def RX3 : String := "TreadRing$Rings"
def TX3 : u_T := fun k => match k with
  | 0 => ("TreadRing$Rings", "next", "[I", true)
  | 1 => ("TreadRing$Rings", "prev", "[I", true)
  | 2 => ("TreadRing$Rings", "rowOf", "[I", true)
  | _ => ("TreadRing$Rings", "counts", "[I", true)
def tyX3 : Nat → FieldType := fun k => match k with
  | 0 => .array .int
  | 1 => .array .int
  | 2 => .array .int
  | _ => .array .int
abbrev wsX30 : List Cond := u_ws RX3 TX3 4
theorem nmX3 : ∀ a, a < 4 → ∀ b, b < 4 → a ≠ b → (TX3 a).2.1 ≠ (TX3 b).2.1 := by decide +kernel
theorem tyX3_ok : ∀ k, k < 4 → parseFieldDescriptor (TX3 k).2.2.1 = some (tyX3 k) := by decide +kernel
abbrev cX3_init : ByteArray := prog_5_method_1_code
def yX3_init : MethodName := ⟨RX3, "<init>", "()V"⟩
abbrev cX3_row : ByteArray := prog_5_method_2_code
def yX3_row : MethodName := ⟨RX3, "row", "(II)I"⟩
abbrev cX3_clear : ByteArray := prog_5_method_3_code
def yX3_clear : MethodName := ⟨RX3, "clear", "()V"⟩
abbrev cX3_become : ByteArray := prog_5_method_4_code
def yX3_become : MethodName := ⟨RX3, "become", "(LTreadRing$Rings;)V"⟩
abbrev cX3_colourAt : ByteArray := prog_5_method_5_code
def yX3_colourAt : MethodName := ⟨RX3, "colourAt", "(I)I"⟩
abbrev cX3_count : ByteArray := prog_5_method_6_code
def yX3_count : MethodName := ⟨RX3, "count", "(I)I"⟩
abbrev cX3_first : ByteArray := prog_5_method_7_code
def yX3_first : MethodName := ⟨RX3, "first", "(I)I"⟩
abbrev cX3_addressAt : ByteArray := prog_5_method_8_code
def yX3_addressAt : MethodName := ⟨RX3, "addressAt", "(II)I"⟩
abbrev cX3_move : ByteArray := prog_5_method_9_code
def yX3_move : MethodName := ⟨RX3, "move", "(IIZ)V"⟩
def RX4 : String := "TreadRing$Runner"
def TX4 : u_T := fun k => match k with
  | 0 => ("TreadRing$Runner", "heap", "LTreadRing$Heap;", false)
  | 1 => ("TreadRing$Runner", "script", "LTreadRing$Script;", false)
  | 2 => ("TreadRing$Runner", "goes", "I", false)
  | _ => ("TreadRing$Runner", "stopped", "Z", false)
def tyX4 : Nat → FieldType := fun k => match k with
  | 0 => .object "TreadRing$Heap"
  | 1 => .object "TreadRing$Script"
  | 2 => .int
  | _ => .boolean
abbrev wsX40 : List Cond := u_ws RX4 TX4 4
theorem nmX4 : ∀ a, a < 4 → ∀ b, b < 4 → a ≠ b → (TX4 a).2.1 ≠ (TX4 b).2.1 := by decide +kernel
theorem tyX4_ok : ∀ k, k < 4 → parseFieldDescriptor (TX4 k).2.2.1 = some (tyX4 k) := by decide +kernel
abbrev cX4_init : ByteArray := prog_6_method_1_code
def yX4_init : MethodName := ⟨RX4, "<init>", "(LTreadRing$Heap;LTreadRing$Script;)V"⟩
abbrev cX4_prepare : ByteArray := prog_6_method_2_code
def yX4_prepare : MethodName := ⟨RX4, "prepare", "(LTreadRing$Heap;LTreadRing$Script;)V"⟩
abbrev cX4_goThrough : ByteArray := prog_6_method_3_code
def yX4_goThrough : MethodName := ⟨RX4, "goThrough", "(III)V"⟩
abbrev cX4_go : ByteArray := prog_6_method_4_code
def yX4_go : MethodName := ⟨RX4, "go", "(I)V"⟩
def RX5 : String := "TreadRing$Script"
def TX5 : u_T := fun k => match k with
  | 0 => ("TreadRing$Script", "kinds", "[I", true)
  | 1 => ("TreadRing$Script", "roots", "[I", true)
  | 2 => ("TreadRing$Script", "others", "[I", true)
  | 3 => ("TreadRing$Script", "numbers", "[I", true)
  | 4 => ("TreadRing$Script", "ends", "[I", true)
  | _ => ("TreadRing$Script", "items", "I", false)
def tyX5 : Nat → FieldType := fun k => match k with
  | 0 => .array .int
  | 1 => .array .int
  | 2 => .array .int
  | 3 => .array .int
  | 4 => .array .int
  | _ => .int
abbrev wsX50 : List Cond := u_ws RX5 TX5 6
theorem nmX5 : ∀ a, a < 6 → ∀ b, b < 6 → a ≠ b → (TX5 a).2.1 ≠ (TX5 b).2.1 := by decide +kernel
theorem tyX5_ok : ∀ k, k < 6 → parseFieldDescriptor (TX5 k).2.2.1 = some (tyX5 k) := by decide +kernel
abbrev cX5_init : ByteArray := prog_7_method_1_code
def yX5_init : MethodName := ⟨RX5, "<init>", "()V"⟩
abbrev cX5_add : ByteArray := prog_7_method_2_code
def yX5_add : MethodName := ⟨RX5, "add", "(IIII)V"⟩
def RX6 : String := "TreadRing"
def TX6 : u_T := fun k => match k with
  | 0 => ("TreadRing", "kept", "[LTreadRing$Heap;", true)
  | 1 => ("TreadRing", "current", "I", false)
  | 2 => ("TreadRing", "undoable", "I", false)
  | 3 => ("TreadRing", "redoable", "I", false)
  | 4 => ("TreadRing", "boxes", "[LTreadRing$Heap;", true)
  | 5 => ("TreadRing", "boxed", "[Z", true)
  | 6 => ("TreadRing", "trial", "LTreadRing$Heap;", true)
  | 7 => ("TreadRing", "tallyAhead", "[I", true)
  | 8 => ("TreadRing", "reach", "LTreadRing$Reach;", true)
  | 9 => ("TreadRing", "tape", "[I", true)
  | 10 => ("TreadRing", "taped", "I", false)
  | 11 => ("TreadRing", "reader", "LTreadRing$Reader;", true)
  | 12 => ("TreadRing", "script", "LTreadRing$Script;", false)
  | 13 => ("TreadRing", "spare", "LTreadRing$Script;", false)
  | _ => ("TreadRing", "runner", "LTreadRing$Runner;", true)
def tyX6 : Nat → FieldType := fun k => match k with
  | 0 => .array (.object "TreadRing$Heap")
  | 1 => .int
  | 2 => .int
  | 3 => .int
  | 4 => .array (.object "TreadRing$Heap")
  | 5 => .array .boolean
  | 6 => .object "TreadRing$Heap"
  | 7 => .array .int
  | 8 => .object "TreadRing$Reach"
  | 9 => .array .int
  | 10 => .int
  | 11 => .object "TreadRing$Reader"
  | 12 => .object "TreadRing$Script"
  | 13 => .object "TreadRing$Script"
  | _ => .object "TreadRing$Runner"
abbrev wsX60 : List Cond := u_ws RX6 TX6 15
theorem nmX6 : ∀ a, a < 15 → ∀ b, b < 15 → a ≠ b → (TX6 a).2.1 ≠ (TX6 b).2.1 := by decide +kernel
theorem tyX6_ok : ∀ k, k < 15 → parseFieldDescriptor (TX6 k).2.2.1 = some (tyX6 k) := by decide +kernel
abbrev cX6_init : ByteArray := prog_1_method_1_code
def yX6_init : MethodName := ⟨RX6, "<init>", "()V"⟩
abbrev cX6_open : ByteArray := prog_1_method_2_code
def yX6_open : MethodName := ⟨RX6, "open", "(I)Z"⟩
abbrev cX6_make : ByteArray := prog_1_method_3_code
def yX6_make : MethodName := ⟨RX6, "make", "(II)I"⟩
abbrev cX6_load : ByteArray := prog_1_method_4_code
def yX6_load : MethodName := ⟨RX6, "load", "(III)I"⟩
abbrev cX6_store : ByteArray := prog_1_method_5_code
def yX6_store : MethodName := ⟨RX6, "store", "(III)Z"⟩
abbrev cX6_copy : ByteArray := prog_1_method_6_code
def yX6_copy : MethodName := ⟨RX6, "copy", "(II)Z"⟩
abbrev cX6_weak : ByteArray := prog_1_method_7_code
def yX6_weak : MethodName := ⟨RX6, "weak", "(II)Z"⟩
abbrev cX6_strong : ByteArray := prog_1_method_8_code
def yX6_strong : MethodName := ⟨RX6, "strong", "(II)I"⟩
abbrev cX6_start : ByteArray := prog_1_method_9_code
def yX6_start : MethodName := ⟨RX6, "start", "()Z"⟩
abbrev cX6_work : ByteArray := prog_1_method_10_code
def yX6_work : MethodName := ⟨RX6, "work", "(I)I"⟩
abbrev cX6_turn : ByteArray := prog_1_method_11_code
def yX6_turn : MethodName := ⟨RX6, "turn", "(II)I"⟩
abbrev cX6_feed : ByteArray := prog_1_method_12_code
def yX6_feed : MethodName := ⟨RX6, "feed", "(IIIII)I"⟩
abbrev cX6_cut : ByteArray := prog_1_method_13_code
def yX6_cut : MethodName := ⟨RX6, "cut", "(I)I"⟩
abbrev cX6_program : ByteArray := prog_1_method_14_code
def yX6_program : MethodName := ⟨RX6, "program", "()I"⟩
abbrev cX6_fault : ByteArray := prog_1_method_15_code
def yX6_fault : MethodName := ⟨RX6, "fault", "(I)I"⟩
abbrev cX6_run : ByteArray := prog_1_method_16_code
def yX6_run : MethodName := ⟨RX6, "run", "()I"⟩
abbrev cX6_runBy : ByteArray := prog_1_method_17_code
def yX6_runBy : MethodName := ⟨RX6, "runBy", "(II)I"⟩
abbrev cX6_cheapest : ByteArray := prog_1_method_18_code
def yX6_cheapest : MethodName := ⟨RX6, "cheapest", "(I)I"⟩
abbrev cX6_suits : ByteArray := prog_1_method_19_code
def yX6_suits : MethodName := ⟨RX6, "suits", "()I"⟩
abbrev cX6_undo : ByteArray := prog_1_method_20_code
def yX6_undo : MethodName := ⟨RX6, "undo", "()Z"⟩
abbrev cX6_redo : ByteArray := prog_1_method_21_code
def yX6_redo : MethodName := ⟨RX6, "redo", "()Z"⟩
abbrev cX6_root : ByteArray := prog_1_method_22_code
def yX6_root : MethodName := ⟨RX6, "root", "(I)I"⟩
abbrev cX6_weakly : ByteArray := prog_1_method_23_code
def yX6_weakly : MethodName := ⟨RX6, "weakly", "(I)I"⟩
abbrev cX6_told : ByteArray := prog_1_method_24_code
def yX6_told : MethodName := ⟨RX6, "told", "(II)I"⟩
abbrev cX6_image : ByteArray := prog_1_method_25_code
def yX6_image : MethodName := ⟨RX6, "image", "(I)I"⟩
abbrev cX6_back : ByteArray := prog_1_method_26_code
def yX6_back : MethodName := ⟨RX6, "back", "(I)I"⟩
abbrev cX6_field : ByteArray := prog_1_method_27_code
def yX6_field : MethodName := ⟨RX6, "field", "(II)I"⟩
abbrev cX6_slot : ByteArray := prog_1_method_28_code
def yX6_slot : MethodName := ⟨RX6, "slot", "(II)I"⟩
abbrev cX6_ring : ByteArray := prog_1_method_29_code
def yX6_ring : MethodName := ⟨RX6, "ring", "(II)I"⟩
abbrev cX6_many : ByteArray := prog_1_method_30_code
def yX6_many : MethodName := ⟨RX6, "many", "(II)I"⟩
abbrev cX6_page : ByteArray := prog_1_method_31_code
def yX6_page : MethodName := ⟨RX6, "page", "(II)I"⟩
abbrev cX6_grey : ByteArray := prog_1_method_32_code
def yX6_grey : MethodName := ⟨RX6, "grey", "(I)I"⟩
abbrev cX6_live : ByteArray := prog_1_method_33_code
def yX6_live : MethodName := ⟨RX6, "live", "(I)I"⟩
abbrev cX6_path : ByteArray := prog_1_method_34_code
def yX6_path : MethodName := ⟨RX6, "path", "(II)I"⟩
abbrev cX6_retained : ByteArray := prog_1_method_35_code
def yX6_retained : MethodName := ⟨RX6, "retained", "(I)I"⟩
abbrev cX6_end : ByteArray := prog_1_method_36_code
def yX6_end : MethodName := ⟨RX6, "end", "(I)I"⟩
abbrev cX6_room : ByteArray := prog_1_method_37_code
def yX6_room : MethodName := ⟨RX6, "room", "(II)I"⟩
abbrev cX6_pace : ByteArray := prog_1_method_38_code
def yX6_pace : MethodName := ⟨RX6, "pace", "(II)I"⟩
abbrev cX6_game : ByteArray := prog_1_method_39_code
def yX6_game : MethodName := ⟨RX6, "game", "(IIII)I"⟩
abbrev cX6_law : ByteArray := prog_1_method_40_code
def yX6_law : MethodName := ⟨RX6, "law", "(I)I"⟩
abbrev cX6_about : ByteArray := prog_1_method_41_code
def yX6_about : MethodName := ⟨RX6, "about", "(I)I"⟩
abbrev cX6_heap : ByteArray := prog_1_method_42_code
def yX6_heap : MethodName := ⟨RX6, "heap", "()LTreadRing$Heap;"⟩
abbrev cX6_act : ByteArray := prog_1_method_43_code
def yX6_act : MethodName := ⟨RX6, "act", "()LTreadRing$Heap;"⟩
abbrev cX6_forgetActs : ByteArray := prog_1_method_44_code
def yX6_forgetActs : MethodName := ⟨RX6, "forgetActs", "()V"⟩
abbrev cX6_feedFour : ByteArray := prog_1_method_45_code
def yX6_feedFour : MethodName := ⟨RX6, "feedFour", "(I)V"⟩
abbrev cX6_beginTrial : ByteArray := prog_1_method_46_code
def yX6_beginTrial : MethodName := ⟨RX6, "beginTrial", "()V"⟩
abbrev cX6_noteTrial : ByteArray := prog_1_method_47_code
def yX6_noteTrial : MethodName := ⟨RX6, "noteTrial", "()V"⟩
abbrev cX6_onTrial : ByteArray := prog_1_method_48_code
def yX6_onTrial : MethodName := ⟨RX6, "onTrial", "(I)I"⟩
abbrev cX6_beginApart : ByteArray := prog_1_method_49_code
def yX6_beginApart : MethodName := ⟨RX6, "beginApart", "(I)V"⟩
abbrev cX6_runApart : ByteArray := prog_1_method_50_code
def yX6_runApart : MethodName := ⟨RX6, "runApart", "(II)V"⟩
abbrev cX6_makeOnTrial : ByteArray := prog_1_method_51_code
def yX6_makeOnTrial : MethodName := ⟨RX6, "makeOnTrial", "(IIZ)I"⟩
abbrev cX6_playOnTrial : ByteArray := prog_1_method_52_code
def yX6_playOnTrial : MethodName := ⟨RX6, "playOnTrial", "(II)V"⟩
abbrev cX6_drawn : ByteArray := prog_1_method_53_code
def yX6_drawn : MethodName := ⟨RX6, "drawn", "(I)I"⟩
abbrev cX6_isRoot : ByteArray := prog_1_method_54_code
def yX6_isRoot : MethodName := ⟨RX6, "isRoot", "(I)Z"⟩
abbrev cX6_isRootOrNone : ByteArray := prog_1_method_55_code
def yX6_isRootOrNone : MethodName := ⟨RX6, "isRootOrNone", "(I)Z"⟩
abbrev cX6_isWeak : ByteArray := prog_1_method_56_code
def yX6_isWeak : MethodName := ⟨RX6, "isWeak", "(I)Z"⟩
abbrev cX6_isFieldCount : ByteArray := prog_1_method_57_code
def yX6_isFieldCount : MethodName := ⟨RX6, "isFieldCount", "(I)Z"⟩
abbrev cX6_isSize : ByteArray := prog_1_method_58_code
def yX6_isSize : MethodName := ⟨RX6, "isSize", "(I)Z"⟩
def RX7 : String := "TreadRingModel"
def TX7 : u_T := fun k => match k with
  | 0 => ("TreadRingModel", "all", "[I", true)
  | 1 => ("TreadRingModel", "isOut", "[Z", true)
  | 2 => ("TreadRingModel", "isReached", "[Z", true)
  | 3 => ("TreadRingModel", "line", "[I", true)
  | 4 => ("TreadRingModel", "far", "[I", true)
  | 5 => ("TreadRingModel", "lined", "I", false)
  | 6 => ("TreadRingModel", "aside", "[I", true)
  | 7 => ("TreadRingModel", "base", "[I", true)
  | 8 => ("TreadRingModel", "drawn", "I", false)
  | 9 => ("TreadRingModel", "came", "I", false)
  | 10 => ("TreadRingModel", "tape", "[I", true)
  | 11 => ("TreadRingModel", "taped", "I", false)
  | 12 => ("TreadRingModel", "readOp", "[I", true)
  | 13 => ("TreadRingModel", "readA", "[I", true)
  | 14 => ("TreadRingModel", "readB", "[I", true)
  | 15 => ("TreadRingModel", "readC", "[I", true)
  | 16 => ("TreadRingModel", "readEnd", "[I", true)
  | 17 => ("TreadRingModel", "op", "[I", true)
  | 18 => ("TreadRingModel", "opA", "[I", true)
  | 19 => ("TreadRingModel", "opB", "[I", true)
  | 20 => ("TreadRingModel", "opC", "[I", true)
  | 21 => ("TreadRingModel", "opEnd", "[I", true)
  | 22 => ("TreadRingModel", "readMany", "I", false)
  | 23 => ("TreadRingModel", "items", "I", false)
  | 24 => ("TreadRingModel", "size", "I", false)
  | 25 => ("TreadRingModel", "at", "I", false)
  | 26 => ("TreadRingModel", "next", "I", false)
  | 27 => ("TreadRingModel", "token", "I", false)
  | 28 => ("TreadRingModel", "word", "I", false)
  | 29 => ("TreadRingModel", "number", "I", false)
  | 30 => ("TreadRingModel", "fault", "I", false)
  | 31 => ("TreadRingModel", "faultAt", "I", false)
  | 32 => ("TreadRingModel", "found", "I", false)
  | 33 => ("TreadRingModel", "foundAt", "I", false)
  | 34 => ("TreadRingModel", "deep", "I", false)
  | 35 => ("TreadRingModel", "open", "[I", true)
  | 36 => ("TreadRingModel", "from", "[I", true)
  | 37 => ("TreadRingModel", "to", "[I", true)
  | 38 => ("TreadRingModel", "again", "[I", true)
  | 39 => ("TreadRingModel", "item", "I", false)
  | 40 => ("TreadRingModel", "within", "I", false)
  | 41 => ("TreadRingModel", "was", "[I", true)
  | 42 => ("TreadRingModel", "boxAll", "[I", true)
  | 43 => ("TreadRingModel", "isBoxed", "[Z", true)
  | 44 => ("TreadRingModel", "acts", "I", false)
  | _ => ("TreadRingModel", "undone", "I", false)
def tyX7 : Nat → FieldType := fun k => match k with
  | 0 => .array .int
  | 1 => .array .boolean
  | 2 => .array .boolean
  | 3 => .array .int
  | 4 => .array .int
  | 5 => .int
  | 6 => .array .int
  | 7 => .array .int
  | 8 => .int
  | 9 => .int
  | 10 => .array .int
  | 11 => .int
  | 12 => .array .int
  | 13 => .array .int
  | 14 => .array .int
  | 15 => .array .int
  | 16 => .array .int
  | 17 => .array .int
  | 18 => .array .int
  | 19 => .array .int
  | 20 => .array .int
  | 21 => .array .int
  | 22 => .int
  | 23 => .int
  | 24 => .int
  | 25 => .int
  | 26 => .int
  | 27 => .int
  | 28 => .int
  | 29 => .int
  | 30 => .int
  | 31 => .int
  | 32 => .int
  | 33 => .int
  | 34 => .int
  | 35 => .array .int
  | 36 => .array .int
  | 37 => .array .int
  | 38 => .array .int
  | 39 => .int
  | 40 => .int
  | 41 => .array .int
  | 42 => .array .int
  | 43 => .array .boolean
  | 44 => .int
  | _ => .int
abbrev wsX70 : List Cond := u_ws RX7 TX7 46
theorem nmX7 : ∀ a, a < 46 → ∀ b, b < 46 → a ≠ b → (TX7 a).2.1 ≠ (TX7 b).2.1 := by decide +kernel
theorem tyX7_ok : ∀ k, k < 46 → parseFieldDescriptor (TX7 k).2.2.1 = some (tyX7 k) := by decide +kernel
abbrev cX7_init : ByteArray := prog_9_method_1_code
def yX7_init : MethodName := ⟨RX7, "<init>", "()V"⟩
abbrev cX7_beginAnew : ByteArray := prog_9_method_2_code
def yX7_beginAnew : MethodName := ⟨RX7, "beginAnew", "(I)V"⟩
abbrev cX7_isIn : ByteArray := prog_9_method_3_code
def yX7_isIn : MethodName := ⟨RX7, "isIn", "(III)Z"⟩
abbrev cX7_isRoot : ByteArray := prog_9_method_4_code
def yX7_isRoot : MethodName := ⟨RX7, "isRoot", "(I)Z"⟩
abbrev cX7_isWeak : ByteArray := prog_9_method_5_code
def yX7_isWeak : MethodName := ⟨RX7, "isWeak", "(I)Z"⟩
abbrev cX7_runs : ByteArray := prog_9_method_6_code
def yX7_runs : MethodName := ⟨RX7, "runs", "()Z"⟩
abbrev cX7_colourOf : ByteArray := prog_9_method_7_code
def yX7_colourOf : MethodName := ⟨RX7, "colourOf", "(I)I"⟩
abbrev cX7_sizeAt : ByteArray := prog_9_method_8_code
def yX7_sizeAt : MethodName := ⟨RX7, "sizeAt", "(I)I"⟩
abbrev cX7_isSlot : ByteArray := prog_9_method_9_code
def yX7_isSlot : MethodName := ⟨RX7, "isSlot", "(I)Z"⟩
abbrev cX7_isObject : ByteArray := prog_9_method_10_code
def yX7_isObject : MethodName := ⟨RX7, "isObject", "(I)Z"⟩
abbrev cX7_hasField : ByteArray := prog_9_method_11_code
def yX7_hasField : MethodName := ⟨RX7, "hasField", "(II)Z"⟩
abbrev cX7_fieldAt : ByteArray := prog_9_method_12_code
def yX7_fieldAt : MethodName := ⟨RX7, "fieldAt", "(II)I"⟩
abbrev cX7_ringOf : ByteArray := prog_9_method_13_code
def yX7_ringOf : MethodName := ⟨RX7, "ringOf", "(I)I"⟩
abbrev cX7_sizeOfRing : ByteArray := prog_9_method_14_code
def yX7_sizeOfRing : MethodName := ⟨RX7, "sizeOfRing", "(I)I"⟩
abbrev cX7_sizeFor : ByteArray := prog_9_method_15_code
def yX7_sizeFor : MethodName := ⟨RX7, "sizeFor", "(I)I"⟩
abbrev cX7_longOf : ByteArray := prog_9_method_16_code
def yX7_longOf : MethodName := ⟨RX7, "longOf", "(I)I"⟩
abbrev cX7_ringAt : ByteArray := prog_9_method_17_code
def yX7_ringAt : MethodName := ⟨RX7, "ringAt", "(II)I"⟩
abbrev cX7_takeOut : ByteArray := prog_9_method_18_code
def yX7_takeOut : MethodName := ⟨RX7, "takeOut", "(II)V"⟩
abbrev cX7_putIn : ByteArray := prog_9_method_19_code
def yX7_putIn : MethodName := ⟨RX7, "putIn", "(III)V"⟩
abbrev cX7_placeOf : ByteArray := prog_9_method_20_code
def yX7_placeOf : MethodName := ⟨RX7, "placeOf", "(II)I"⟩
abbrev cX7_countOf : ByteArray := prog_9_method_21_code
def yX7_countOf : MethodName := ⟨RX7, "countOf", "(II)I"⟩
abbrev cX7_countAll : ByteArray := prog_9_method_22_code
def yX7_countAll : MethodName := ⟨RX7, "countAll", "(I)I"⟩
abbrev cX7_objectsNow : ByteArray := prog_9_method_23_code
def yX7_objectsNow : MethodName := ⟨RX7, "objectsNow", "()I"⟩
abbrev cX7_becomes : ByteArray := prog_9_method_24_code
def yX7_becomes : MethodName := ⟨RX7, "becomes", "(II)V"⟩
abbrev cX7_turnAll : ByteArray := prog_9_method_25_code
def yX7_turnAll : MethodName := ⟨RX7, "turnAll", "(II)I"⟩
abbrev cX7_grey : ByteArray := prog_9_method_26_code
def yX7_grey : MethodName := ⟨RX7, "grey", "(IZ)V"⟩
abbrev cX7_greyRoots : ByteArray := prog_9_method_27_code
def yX7_greyRoots : MethodName := ⟨RX7, "greyRoots", "()V"⟩
abbrev cX7_goStart : ByteArray := prog_9_method_28_code
def yX7_goStart : MethodName := ⟨RX7, "goStart", "()V"⟩
abbrev cX7_isEcru : ByteArray := prog_9_method_29_code
def yX7_isEcru : MethodName := ⟨RX7, "isEcru", "(I)Z"⟩
abbrev cX7_goEnd : ByteArray := prog_9_method_30_code
def yX7_goEnd : MethodName := ⟨RX7, "goEnd", "()V"⟩
abbrev cX7_lose : ByteArray := prog_9_method_31_code
def yX7_lose : MethodName := ⟨RX7, "lose", "(II)V"⟩
abbrev cX7_tell : ByteArray := prog_9_method_32_code
def yX7_tell : MethodName := ⟨RX7, "tell", "(III)V"⟩
abbrev cX7_isAhead : ByteArray := prog_9_method_33_code
def yX7_isAhead : MethodName := ⟨RX7, "isAhead", "(II)Z"⟩
abbrev cX7_clearOut : ByteArray := prog_9_method_34_code
def yX7_clearOut : MethodName := ⟨RX7, "clearOut", "()V"⟩
abbrev cX7_nextGrey : ByteArray := prog_9_method_35_code
def yX7_nextGrey : MethodName := ⟨RX7, "nextGrey", "()I"⟩
abbrev cX7_goStep : ByteArray := prog_9_method_36_code
def yX7_goStep : MethodName := ⟨RX7, "goStep", "()V"⟩
abbrev cX7_goSteps : ByteArray := prog_9_method_37_code
def yX7_goSteps : MethodName := ⟨RX7, "goSteps", "(I)I"⟩
abbrev cX7_force : ByteArray := prog_9_method_38_code
def yX7_force : MethodName := ⟨RX7, "force", "()V"⟩
abbrev cX7_isPageFree : ByteArray := prog_9_method_39_code
def yX7_isPageFree : MethodName := ⟨RX7, "isPageFree", "(I)Z"⟩
abbrev cX7_giveUp : ByteArray := prog_9_method_40_code
def yX7_giveUp : MethodName := ⟨RX7, "giveUp", "(I)V"⟩
abbrev cX7_takePage : ByteArray := prog_9_method_41_code
def yX7_takePage : MethodName := ⟨RX7, "takePage", "(II)V"⟩
abbrev cX7_look : ByteArray := prog_9_method_42_code
def yX7_look : MethodName := ⟨RX7, "look", "(I)Z"⟩
abbrev cX7_find : ByteArray := prog_9_method_43_code
def yX7_find : MethodName := ⟨RX7, "find", "(I)Z"⟩
abbrev cX7_goMake : ByteArray := prog_9_method_44_code
def yX7_goMake : MethodName := ⟨RX7, "goMake", "(II)I"⟩
abbrev cX7_make : ByteArray := prog_9_method_45_code
def yX7_make : MethodName := ⟨RX7, "make", "(II)I"⟩
abbrev cX7_canLoad : ByteArray := prog_9_method_46_code
def yX7_canLoad : MethodName := ⟨RX7, "canLoad", "(III)Z"⟩
abbrev cX7_goLoad : ByteArray := prog_9_method_47_code
def yX7_goLoad : MethodName := ⟨RX7, "goLoad", "(III)I"⟩
abbrev cX7_load : ByteArray := prog_9_method_48_code
def yX7_load : MethodName := ⟨RX7, "load", "(III)I"⟩
abbrev cX7_named : ByteArray := prog_9_method_49_code
def yX7_named : MethodName := ⟨RX7, "named", "(I)I"⟩
abbrev cX7_isRootOrNone : ByteArray := prog_9_method_50_code
def yX7_isRootOrNone : MethodName := ⟨RX7, "isRootOrNone", "(I)Z"⟩
abbrev cX7_canStore : ByteArray := prog_9_method_51_code
def yX7_canStore : MethodName := ⟨RX7, "canStore", "(III)Z"⟩
abbrev cX7_goStore : ByteArray := prog_9_method_52_code
def yX7_goStore : MethodName := ⟨RX7, "goStore", "(III)V"⟩
abbrev cX7_store : ByteArray := prog_9_method_53_code
def yX7_store : MethodName := ⟨RX7, "store", "(III)Z"⟩
abbrev cX7_copy : ByteArray := prog_9_method_54_code
def yX7_copy : MethodName := ⟨RX7, "copy", "(II)Z"⟩
abbrev cX7_weak : ByteArray := prog_9_method_55_code
def yX7_weak : MethodName := ⟨RX7, "weak", "(II)Z"⟩
abbrev cX7_strong : ByteArray := prog_9_method_56_code
def yX7_strong : MethodName := ⟨RX7, "strong", "(II)I"⟩
abbrev cX7_start : ByteArray := prog_9_method_57_code
def yX7_start : MethodName := ⟨RX7, "start", "()Z"⟩
abbrev cX7_work : ByteArray := prog_9_method_58_code
def yX7_work : MethodName := ⟨RX7, "work", "(I)I"⟩
abbrev cX7_turn : ByteArray := prog_9_method_59_code
def yX7_turn : MethodName := ⟨RX7, "turn", "(II)I"⟩
abbrev cX7_open : ByteArray := prog_9_method_60_code
def yX7_open : MethodName := ⟨RX7, "open", "(I)Z"⟩
abbrev cX7_meet : ByteArray := prog_9_method_61_code
def yX7_meet : MethodName := ⟨RX7, "meet", "(III)V"⟩
abbrev cX7_clearReached : ByteArray := prog_9_method_62_code
def yX7_clearReached : MethodName := ⟨RX7, "clearReached", "()V"⟩
abbrev cX7_follow : ByteArray := prog_9_method_63_code
def yX7_follow : MethodName := ⟨RX7, "follow", "(I)V"⟩
abbrev cX7_reach : ByteArray := prog_9_method_64_code
def yX7_reach : MethodName := ⟨RX7, "reach", "(I)I"⟩
abbrev cX7_path : ByteArray := prog_9_method_65_code
def yX7_path : MethodName := ⟨RX7, "path", "(II)I"⟩
abbrev cX7_retained : ByteArray := prog_9_method_66_code
def yX7_retained : MethodName := ⟨RX7, "retained", "(I)I"⟩
abbrev cX7_live : ByteArray := prog_9_method_67_code
def yX7_live : MethodName := ⟨RX7, "live", "(I)I"⟩
abbrev cX7_root : ByteArray := prog_9_method_68_code
def yX7_root : MethodName := ⟨RX7, "root", "(I)I"⟩
abbrev cX7_weakly : ByteArray := prog_9_method_69_code
def yX7_weakly : MethodName := ⟨RX7, "weakly", "(I)I"⟩
abbrev cX7_told : ByteArray := prog_9_method_70_code
def yX7_told : MethodName := ⟨RX7, "told", "(II)I"⟩
abbrev cX7_field : ByteArray := prog_9_method_71_code
def yX7_field : MethodName := ⟨RX7, "field", "(II)I"⟩
abbrev cX7_namedBy : ByteArray := prog_9_method_72_code
def yX7_namedBy : MethodName := ⟨RX7, "namedBy", "(I)I"⟩
abbrev cX7_slot : ByteArray := prog_9_method_73_code
def yX7_slot : MethodName := ⟨RX7, "slot", "(II)I"⟩
abbrev cX7_isSize : ByteArray := prog_9_method_74_code
def yX7_isSize : MethodName := ⟨RX7, "isSize", "(I)Z"⟩
abbrev cX7_ring : ByteArray := prog_9_method_75_code
def yX7_ring : MethodName := ⟨RX7, "ring", "(II)I"⟩
abbrev cX7_many : ByteArray := prog_9_method_76_code
def yX7_many : MethodName := ⟨RX7, "many", "(II)I"⟩
abbrev cX7_page : ByteArray := prog_9_method_77_code
def yX7_page : MethodName := ⟨RX7, "page", "(II)I"⟩
abbrev cX7_grey_ : ByteArray := prog_9_method_78_code
def yX7_grey_ : MethodName := ⟨RX7, "grey", "(I)I"⟩
abbrev cX7_law : ByteArray := prog_9_method_79_code
def yX7_law : MethodName := ⟨RX7, "law", "(I)I"⟩
abbrev cX7_isFreed : ByteArray := prog_9_method_80_code
def yX7_isFreed : MethodName := ⟨RX7, "isFreed", "(I)Z"⟩
abbrev cX7_putAside : ByteArray := prog_9_method_81_code
def yX7_putAside : MethodName := ⟨RX7, "putAside", "()V"⟩
abbrev cX7_bringBack : ByteArray := prog_9_method_82_code
def yX7_bringBack : MethodName := ⟨RX7, "bringBack", "()V"⟩
abbrev cX7_putBase : ByteArray := prog_9_method_83_code
def yX7_putBase : MethodName := ⟨RX7, "putBase", "()V"⟩
abbrev cX7_since : ByteArray := prog_9_method_84_code
def yX7_since : MethodName := ⟨RX7, "since", "(I)I"⟩
abbrev cX7_cellsFree : ByteArray := prog_9_method_85_code
def yX7_cellsFree : MethodName := ⟨RX7, "cellsFree", "()I"⟩
abbrev cX7_end : ByteArray := prog_9_method_86_code
def yX7_end : MethodName := ⟨RX7, "end", "(I)I"⟩
abbrev cX7_madeUpTo : ByteArray := prog_9_method_87_code
def yX7_madeUpTo : MethodName := ⟨RX7, "madeUpTo", "(IIZ)I"⟩
abbrev cX7_room : ByteArray := prog_9_method_88_code
def yX7_room : MethodName := ⟨RX7, "room", "(II)I"⟩
abbrev cX7_pace : ByteArray := prog_9_method_89_code
def yX7_pace : MethodName := ⟨RX7, "pace", "(II)I"⟩
abbrev cX7_draw : ByteArray := prog_9_method_90_code
def yX7_draw : MethodName := ⟨RX7, "draw", "(I)I"⟩
abbrev cX7_beginApart : ByteArray := prog_9_method_91_code
def yX7_beginApart : MethodName := ⟨RX7, "beginApart", "(I)V"⟩
abbrev cX7_goOnce : ByteArray := prog_9_method_92_code
def yX7_goOnce : MethodName := ⟨RX7, "goOnce", "()V"⟩
abbrev cX7_game : ByteArray := prog_9_method_93_code
def yX7_game : MethodName := ⟨RX7, "game", "(IIII)I"⟩
abbrev cX7_gameTells : ByteArray := prog_9_method_94_code
def yX7_gameTells : MethodName := ⟨RX7, "gameTells", "(I)I"⟩
abbrev cX7_feed : ByteArray := prog_9_method_95_code
def yX7_feed : MethodName := ⟨RX7, "feed", "(IIIII)I"⟩
abbrev cX7_cut : ByteArray := prog_9_method_96_code
def yX7_cut : MethodName := ⟨RX7, "cut", "(I)I"⟩
abbrev cX7_byteAt : ByteArray := prog_9_method_97_code
def yX7_byteAt : MethodName := ⟨RX7, "byteAt", "(I)I"⟩
abbrev cX7_isLetter : ByteArray := prog_9_method_98_code
def yX7_isLetter : MethodName := ⟨RX7, "isLetter", "(I)Z"⟩
abbrev cX7_isDigit : ByteArray := prog_9_method_99_code
def yX7_isDigit : MethodName := ⟨RX7, "isDigit", "(I)Z"⟩
abbrev cX7_isSign : ByteArray := prog_9_method_100_code
def yX7_isSign : MethodName := ⟨RX7, "isSign", "(I)Z"⟩
abbrev cX7_isBlank : ByteArray := prog_9_method_101_code
def yX7_isBlank : MethodName := ⟨RX7, "isBlank", "(I)Z"⟩
abbrev cX7_scan : ByteArray := prog_9_method_102_code
def yX7_scan : MethodName := ⟨RX7, "scan", "()V"⟩
abbrev cX7_scanWord : ByteArray := prog_9_method_103_code
def yX7_scanWord : MethodName := ⟨RX7, "scanWord", "()V"⟩
abbrev cX7_scanNumber : ByteArray := prog_9_method_104_code
def yX7_scanNumber : MethodName := ⟨RX7, "scanNumber", "()V"⟩
abbrev cX7_fail : ByteArray := prog_9_method_105_code
def yX7_fail : MethodName := ⟨RX7, "fail", "(I)V"⟩
abbrev cX7_isAt : ByteArray := prog_9_method_106_code
def yX7_isAt : MethodName := ⟨RX7, "isAt", "(I)Z"⟩
abbrev cX7_isWord : ByteArray := prog_9_method_107_code
def yX7_isWord : MethodName := ⟨RX7, "isWord", "(I)Z"⟩
abbrev cX7_need : ByteArray := prog_9_method_108_code
def yX7_need : MethodName := ⟨RX7, "need", "(I)V"⟩
abbrev cX7_numeral : ByteArray := prog_9_method_109_code
def yX7_numeral : MethodName := ⟨RX7, "numeral", "(II)I"⟩
abbrev cX7_isLetterHere : ByteArray := prog_9_method_110_code
def yX7_isLetterHere : MethodName := ⟨RX7, "isLetterHere", "()Z"⟩
abbrev cX7_letter : ByteArray := prog_9_method_111_code
def yX7_letter : MethodName := ⟨RX7, "letter", "()I"⟩
abbrev cX7_lay : ByteArray := prog_9_method_112_code
def yX7_lay : MethodName := ⟨RX7, "lay", "(IIII)V"⟩
abbrev cX7_canBegin : ByteArray := prog_9_method_113_code
def yX7_canBegin : MethodName := ⟨RX7, "canBegin", "()Z"⟩
abbrev cX7_readItem : ByteArray := prog_9_method_114_code
def yX7_readItem : MethodName := ⟨RX7, "readItem", "()V"⟩
abbrev cX7_readStep : ByteArray := prog_9_method_115_code
def yX7_readStep : MethodName := ⟨RX7, "readStep", "()V"⟩
abbrev cX7_readBlock : ByteArray := prog_9_method_116_code
def yX7_readBlock : MethodName := ⟨RX7, "readBlock", "(Z)V"⟩
abbrev cX7_readDeed : ByteArray := prog_9_method_117_code
def yX7_readDeed : MethodName := ⟨RX7, "readDeed", "()V"⟩
abbrev cX7_readStore : ByteArray := prog_9_method_118_code
def yX7_readStore : MethodName := ⟨RX7, "readStore", "(I)V"⟩
abbrev cX7_readNaming : ByteArray := prog_9_method_119_code
def yX7_readNaming : MethodName := ⟨RX7, "readNaming", "(I)V"⟩
abbrev cX7_readAll : ByteArray := prog_9_method_120_code
def yX7_readAll : MethodName := ⟨RX7, "readAll", "()V"⟩
abbrev cX7_program : ByteArray := prog_9_method_121_code
def yX7_program : MethodName := ⟨RX7, "program", "()I"⟩
abbrev cX7_fault : ByteArray := prog_9_method_122_code
def yX7_fault : MethodName := ⟨RX7, "fault", "(I)I"⟩
abbrev cX7_leaveBlocks : ByteArray := prog_9_method_123_code
def yX7_leaveBlocks : MethodName := ⟨RX7, "leaveBlocks", "()V"⟩
abbrev cX7_enter : ByteArray := prog_9_method_124_code
def yX7_enter : MethodName := ⟨RX7, "enter", "(I)V"⟩
abbrev cX7_canGo : ByteArray := prog_9_method_125_code
def yX7_canGo : MethodName := ⟨RX7, "canGo", "()Z"⟩
abbrev cX7_doGo : ByteArray := prog_9_method_126_code
def yX7_doGo : MethodName := ⟨RX7, "doGo", "()V"⟩
abbrev cX7_goRun : ByteArray := prog_9_method_127_code
def yX7_goRun : MethodName := ⟨RX7, "goRun", "()I"⟩
abbrev cX7_run : ByteArray := prog_9_method_128_code
def yX7_run : MethodName := ⟨RX7, "run", "()I"⟩
abbrev cX7_apart : ByteArray := prog_9_method_129_code
def yX7_apart : MethodName := ⟨RX7, "apart", "(II)I"⟩
abbrev cX7_apartTells : ByteArray := prog_9_method_130_code
def yX7_apartTells : MethodName := ⟨RX7, "apartTells", "(I)I"⟩
abbrev cX7_runBy : ByteArray := prog_9_method_131_code
def yX7_runBy : MethodName := ⟨RX7, "runBy", "(II)I"⟩
abbrev cX7_cheapest : ByteArray := prog_9_method_132_code
def yX7_cheapest : MethodName := ⟨RX7, "cheapest", "(I)I"⟩
abbrev cX7_suits : ByteArray := prog_9_method_133_code
def yX7_suits : MethodName := ⟨RX7, "suits", "()I"⟩
abbrev cX7_keepAct : ByteArray := prog_9_method_134_code
def yX7_keepAct : MethodName := ⟨RX7, "keepAct", "()V"⟩
abbrev cX7_swapAll : ByteArray := prog_9_method_135_code
def yX7_swapAll : MethodName := ⟨RX7, "swapAll", "()V"⟩
abbrev cX7_undo : ByteArray := prog_9_method_136_code
def yX7_undo : MethodName := ⟨RX7, "undo", "()Z"⟩
abbrev cX7_redo : ByteArray := prog_9_method_137_code
def yX7_redo : MethodName := ⟨RX7, "redo", "()Z"⟩
abbrev cX7_image : ByteArray := prog_9_method_138_code
def yX7_image : MethodName := ⟨RX7, "image", "(I)I"⟩
abbrev cX7_back : ByteArray := prog_9_method_139_code
def yX7_back : MethodName := ⟨RX7, "back", "(I)I"⟩
abbrev cX7_about : ByteArray := prog_9_method_140_code
def yX7_about : MethodName := ⟨RX7, "about", "(I)I"⟩
def RJ9 : String := "java/lang/Math"
abbrev cJ9_max_7cf53 : ByteArray := prog_10_method_65_code
def yJ9_max_7cf53 : MethodName := ⟨RJ9, "max", "(II)I"⟩
abbrev cJ9_min_7cf53 : ByteArray := prog_10_method_69_code
def yJ9_min_7cf53 : MethodName := ⟨RJ9, "min", "(II)I"⟩
def RJ0 : String := "java/lang/String"
abbrev cJ0_length_8abf5 : ByteArray := prog_11_method_54_code
def yJ0_length_8abf5 : MethodName := ⟨RJ0, "length", "()I"⟩
abbrev cJ0_charAt_5068e : ByteArray := prog_11_method_56_code
def yJ0_charAt_5068e : MethodName := ⟨RJ0, "charAt", "(I)C"⟩
abbrev cJ0_coder_7d493 : ByteArray := prog_11_method_152_code
def yJ0_coder_7d493 : MethodName := ⟨RJ0, "coder", "()B"⟩
abbrev cJ0_isLatin1_aae02 : ByteArray := prog_11_method_154_code
def yJ0_isLatin1_aae02 : MethodName := ⟨RJ0, "isLatin1", "()Z"⟩
abbrev cJ0_checkIndex_df160 : ByteArray := prog_11_method_155_code
def yJ0_checkIndex_df160 : MethodName := ⟨RJ0, "checkIndex", "(II)V"⟩
def RJ1 : String := "java/lang/StringLatin1"
abbrev cJ1_charAt_3b067 : ByteArray := prog_12_method_2_code
def yJ1_charAt_3b067 : MethodName := ⟨RJ1, "charAt", "([BI)C"⟩
def RJ2 : String := "java/lang/StringUTF16"
abbrev cJ2_getChar_3b067 : ByteArray := prog_13_method_5_code
def yJ2_getChar_3b067 : MethodName := ⟨RJ2, "getChar", "([BI)C"⟩
abbrev cJ2_length_9d52b : ByteArray := prog_13_method_6_code
def yJ2_length_9d52b : MethodName := ⟨RJ2, "length", "([B)I"⟩
abbrev cJ2_charAt_3b067 : ByteArray := prog_13_method_83_code
def yJ2_charAt_3b067 : MethodName := ⟨RJ2, "charAt", "([BI)C"⟩
abbrev cJ2_checkIndex_2214a : ByteArray := prog_13_method_91_code
def yJ2_checkIndex_2214a : MethodName := ⟨RJ2, "checkIndex", "(I[B)V"⟩
def RJ10 : String := "java/lang/System"
def RJ7 : String := "java/util/Arrays"
abbrev cJ7_rangeCheck_23922 : ByteArray := prog_15_method_30_code
def yJ7_rangeCheck_23922 : MethodName := ⟨RJ7, "rangeCheck", "(III)V"⟩
abbrev cJ7_fill_53178 : ByteArray := prog_15_method_103_code
def yJ7_fill_53178 : MethodName := ⟨RJ7, "fill", "([II)V"⟩
abbrev cJ7_fill_fda19 : ByteArray := prog_15_method_104_code
def yJ7_fill_fda19 : MethodName := ⟨RJ7, "fill", "([IIII)V"⟩
def RJ3 : String := "jdk/internal/util/Preconditions"
abbrev cJ3_checkIndex_8e157 : ByteArray := prog_16_method_11_code
def yJ3_checkIndex_8e157 : MethodName := ⟨RJ3, "checkIndex", "(IILjava/util/function/BiFunction;)I"⟩
def RL : String := "TreadRingLaw"
abbrev cL_law : ByteArray := code
def yL_law : MethodName := ⟨RL, "law", "([I)Z"⟩
abbrev vwCl : List vw_C := [(RX0, TX0, 16), (RX1, TX1, 3), (RX2, TX2, 9), (RX3, TX3, 4), (RX4, TX4, 4), (RX5, TX5, 6), (RX6, TX6, 15), (RX7, TX7, 46)]
end
section
theorem dX0_init_0 : decode cX0_init 0 = .ok (.aload_n 0, 1) := by decide +kernel
theorem dX0_init_1 : decode cX0_init 1 = .ok (.invokespecial 3, 3) := by decide +kernel
theorem dX0_init_4 : decode cX0_init 4 = .ok (.aload_n 0, 1) := by decide +kernel
theorem dX0_init_5 : decode cX0_init 5 = .ok (.new 9, 3) := by decide +kernel
theorem dX0_init_8 : decode cX0_init 8 = .ok (.dup, 1) := by decide +kernel
theorem dX0_init_9 : decode cX0_init 9 = .ok (.invokespecial 11, 3) := by decide +kernel
theorem dX0_init_12 : decode cX0_init 12 = .ok (.putfield 12, 3) := by decide +kernel
theorem dX0_init_15 : decode cX0_init 15 = .ok (.aload_n 0, 1) := by decide +kernel
theorem dX0_init_16 : decode cX0_init 16 = .ok (.sipush 128, 3) := by decide +kernel
theorem dX0_init_19 : decode cX0_init 19 = .ok (.newarray .int, 2) := by decide +kernel
theorem dX0_init_21 : decode cX0_init 21 = .ok (.putfield 18, 3) := by decide +kernel
theorem dX0_init_24 : decode cX0_init 24 = .ok (.aload_n 0, 1) := by decide +kernel
theorem dX0_init_25 : decode cX0_init 25 = .ok (.bipush 8, 2) := by decide +kernel
theorem dX0_init_27 : decode cX0_init 27 = .ok (.newarray .int, 2) := by decide +kernel
theorem dX0_init_29 : decode cX0_init 29 = .ok (.putfield 22, 3) := by decide +kernel
theorem dX0_init_32 : decode cX0_init 32 = .ok (.aload_n 0, 1) := by decide +kernel
theorem dX0_init_33 : decode cX0_init 33 = .ok (.bipush 8, 2) := by decide +kernel
theorem dX0_init_35 : decode cX0_init 35 = .ok (.newarray .int, 2) := by decide +kernel
theorem dX0_init_37 : decode cX0_init 37 = .ok (.putfield 25, 3) := by decide +kernel
theorem dX0_init_40 : decode cX0_init 40 = .ok (.aload_n 0, 1) := by decide +kernel
theorem dX0_init_41 : decode cX0_init 41 = .ok (.bipush 6, 2) := by decide +kernel
theorem dX0_init_43 : decode cX0_init 43 = .ok (.newarray .int, 2) := by decide +kernel
theorem dX0_init_45 : decode cX0_init 45 = .ok (.putfield 28, 3) := by decide +kernel
theorem dX0_init_48 : decode cX0_init 48 = .ok (.aload_n 0, 1) := by decide +kernel
theorem dX0_init_49 : decode cX0_init 49 = .ok (.iconst 4, 1) := by decide +kernel
theorem dX0_init_50 : decode cX0_init 50 = .ok (.newarray .int, 2) := by decide +kernel
theorem dX0_init_52 : decode cX0_init 52 = .ok (.putfield 31, 3) := by decide +kernel
theorem dX0_init_55 : decode cX0_init 55 = .ok (.aload_n 0, 1) := by decide +kernel
theorem dX0_init_56 : decode cX0_init 56 = .ok (.bipush 64, 2) := by decide +kernel
theorem dX0_init_58 : decode cX0_init 58 = .ok (.newarray .int, 2) := by decide +kernel
theorem dX0_init_60 : decode cX0_init 60 = .ok (.putfield 34, 3) := by decide +kernel
theorem dX0_init_63 : decode cX0_init 63 = .ok (.aload_n 0, 1) := by decide +kernel
theorem dX0_init_64 : decode cX0_init 64 = .ok (.iconst 4, 1) := by decide +kernel
theorem dX0_init_65 : decode cX0_init 65 = .ok (.newarray .int, 2) := by decide +kernel
theorem dX0_init_67 : decode cX0_init 67 = .ok (.putfield 37, 3) := by decide +kernel
theorem dX0_init_70 : decode cX0_init 70 = .ok (.aload_n 0, 1) := by decide +kernel
theorem dX0_init_71 : decode cX0_init 71 = .ok (.bipush 6, 2) := by decide +kernel
theorem dX0_init_73 : decode cX0_init 73 = .ok (.newarray .int, 2) := by decide +kernel
theorem dX0_init_75 : decode cX0_init 75 = .ok (.putfield 40, 3) := by decide +kernel
theorem dX0_init_78 : decode cX0_init 78 = .ok (.aload_n 0, 1) := by decide +kernel
theorem dX0_init_79 : decode cX0_init 79 = .ok (.bipush 48, 2) := by decide +kernel
theorem dX0_init_81 : decode cX0_init 81 = .ok (.newarray .int, 2) := by decide +kernel
theorem dX0_init_83 : decode cX0_init 83 = .ok (.putfield 43, 3) := by decide +kernel
theorem dX0_init_86 : decode cX0_init 86 = .ok (.aload_n 0, 1) := by decide +kernel
theorem dX0_init_87 : decode cX0_init 87 = .ok (.bipush 8, 2) := by decide +kernel
theorem dX0_init_89 : decode cX0_init 89 = .ok (.invokevirtual 46, 3) := by decide +kernel
theorem dX0_init_92 : decode cX0_init 92 = .ok (.return_, 1) := by decide +kernel
theorem dX0_clear_0 : decode cX0_clear 0 = .ok (.aload_n 0, 1) := by decide +kernel
theorem dX0_clear_1 : decode cX0_clear 1 = .ok (.getfield 12, 3) := by decide +kernel
theorem dX0_clear_4 : decode cX0_clear 4 = .ok (.invokevirtual 50, 3) := by decide +kernel
theorem dX0_clear_7 : decode cX0_clear 7 = .ok (.aload_n 0, 1) := by decide +kernel
theorem dX0_clear_8 : decode cX0_clear 8 = .ok (.getfield 18, 3) := by decide +kernel
theorem dX0_clear_11 : decode cX0_clear 11 = .ok (.iconst (-1), 1) := by decide +kernel
theorem dX0_clear_12 : decode cX0_clear 12 = .ok (.invokestatic 52, 3) := by decide +kernel
theorem dX0_clear_15 : decode cX0_clear 15 = .ok (.aload_n 0, 1) := by decide +kernel
theorem dX0_clear_16 : decode cX0_clear 16 = .ok (.getfield 22, 3) := by decide +kernel
theorem dX0_clear_19 : decode cX0_clear 19 = .ok (.iconst 0, 1) := by decide +kernel
theorem dX0_clear_20 : decode cX0_clear 20 = .ok (.invokestatic 52, 3) := by decide +kernel
theorem dX0_clear_23 : decode cX0_clear 23 = .ok (.aload_n 0, 1) := by decide +kernel
theorem dX0_clear_24 : decode cX0_clear 24 = .ok (.getfield 25, 3) := by decide +kernel
theorem dX0_clear_27 : decode cX0_clear 27 = .ok (.iconst 0, 1) := by decide +kernel
theorem dX0_clear_28 : decode cX0_clear 28 = .ok (.invokestatic 52, 3) := by decide +kernel
theorem dX0_clear_31 : decode cX0_clear 31 = .ok (.aload_n 0, 1) := by decide +kernel
theorem dX0_clear_32 : decode cX0_clear 32 = .ok (.getfield 28, 3) := by decide +kernel
theorem dX0_clear_35 : decode cX0_clear 35 = .ok (.iconst (-1), 1) := by decide +kernel
theorem dX0_clear_36 : decode cX0_clear 36 = .ok (.invokestatic 52, 3) := by decide +kernel
theorem dX0_clear_39 : decode cX0_clear 39 = .ok (.aload_n 0, 1) := by decide +kernel
theorem dX0_clear_40 : decode cX0_clear 40 = .ok (.getfield 31, 3) := by decide +kernel
theorem dX0_clear_43 : decode cX0_clear 43 = .ok (.iconst (-1), 1) := by decide +kernel
theorem dX0_clear_44 : decode cX0_clear 44 = .ok (.invokestatic 52, 3) := by decide +kernel
theorem dX0_clear_47 : decode cX0_clear 47 = .ok (.aload_n 0, 1) := by decide +kernel
theorem dX0_clear_48 : decode cX0_clear 48 = .ok (.getfield 40, 3) := by decide +kernel
theorem dX0_clear_51 : decode cX0_clear 51 = .ok (.iconst 0, 1) := by decide +kernel
theorem dX0_clear_52 : decode cX0_clear 52 = .ok (.invokestatic 52, 3) := by decide +kernel
theorem dX0_clear_55 : decode cX0_clear 55 = .ok (.aload_n 0, 1) := by decide +kernel
theorem dX0_clear_56 : decode cX0_clear 56 = .ok (.getfield 37, 3) := by decide +kernel
theorem dX0_clear_59 : decode cX0_clear 59 = .ok (.iconst 0, 1) := by decide +kernel
theorem dX0_clear_60 : decode cX0_clear 60 = .ok (.iconst 0, 1) := by decide +kernel
theorem dX0_clear_61 : decode cX0_clear 61 = .ok (.iastore, 1) := by decide +kernel
theorem dX0_clear_62 : decode cX0_clear 62 = .ok (.aload_n 0, 1) := by decide +kernel
theorem dX0_clear_63 : decode cX0_clear 63 = .ok (.getfield 37, 3) := by decide +kernel
theorem dX0_clear_66 : decode cX0_clear 66 = .ok (.iconst 1, 1) := by decide +kernel
theorem dX0_clear_67 : decode cX0_clear 67 = .ok (.iconst 0, 1) := by decide +kernel
theorem dX0_clear_68 : decode cX0_clear 68 = .ok (.iastore, 1) := by decide +kernel
theorem dX0_clear_69 : decode cX0_clear 69 = .ok (.aload_n 0, 1) := by decide +kernel
theorem dX0_clear_70 : decode cX0_clear 70 = .ok (.getfield 37, 3) := by decide +kernel
theorem dX0_clear_73 : decode cX0_clear 73 = .ok (.iconst 2, 1) := by decide +kernel
theorem dX0_clear_74 : decode cX0_clear 74 = .ok (.iconst 2, 1) := by decide +kernel
theorem dX0_clear_75 : decode cX0_clear 75 = .ok (.iastore, 1) := by decide +kernel
theorem dX0_clear_76 : decode cX0_clear 76 = .ok (.aload_n 0, 1) := by decide +kernel
theorem dX0_clear_77 : decode cX0_clear 77 = .ok (.getfield 37, 3) := by decide +kernel
theorem dX0_clear_80 : decode cX0_clear 80 = .ok (.iconst 3, 1) := by decide +kernel
theorem dX0_clear_81 : decode cX0_clear 81 = .ok (.iconst 2, 1) := by decide +kernel
theorem dX0_clear_82 : decode cX0_clear 82 = .ok (.iastore, 1) := by decide +kernel
theorem dX0_clear_83 : decode cX0_clear 83 = .ok (.aload_n 0, 1) := by decide +kernel
theorem dX0_clear_84 : decode cX0_clear 84 = .ok (.iload_n 1, 1) := by decide +kernel
theorem dX0_clear_85 : decode cX0_clear 85 = .ok (.putfield 58, 3) := by decide +kernel
theorem dX0_clear_88 : decode cX0_clear 88 = .ok (.aload_n 0, 1) := by decide +kernel
theorem dX0_clear_89 : decode cX0_clear 89 = .ok (.iconst 0, 1) := by decide +kernel
theorem dX0_clear_90 : decode cX0_clear 90 = .ok (.putfield 62, 3) := by decide +kernel
theorem dX0_clear_93 : decode cX0_clear 93 = .ok (.aload_n 0, 1) := by decide +kernel
theorem dX0_clear_94 : decode cX0_clear 94 = .ok (.iconst (-1), 1) := by decide +kernel
theorem dX0_clear_95 : decode cX0_clear 95 = .ok (.putfield 65, 3) := by decide +kernel
theorem dX0_clear_98 : decode cX0_clear 98 = .ok (.aload_n 0, 1) := by decide +kernel
theorem dX0_clear_99 : decode cX0_clear 99 = .ok (.iconst 0, 1) := by decide +kernel
theorem dX0_clear_100 : decode cX0_clear 100 = .ok (.putfield 68, 3) := by decide +kernel
theorem dX0_clear_103 : decode cX0_clear 103 = .ok (.aload_n 0, 1) := by decide +kernel
theorem dX0_clear_104 : decode cX0_clear 104 = .ok (.iconst 0, 1) := by decide +kernel
theorem dX0_clear_105 : decode cX0_clear 105 = .ok (.putfield 71, 3) := by decide +kernel
theorem dX0_clear_108 : decode cX0_clear 108 = .ok (.aload_n 0, 1) := by decide +kernel
theorem dX0_clear_109 : decode cX0_clear 109 = .ok (.iconst 0, 1) := by decide +kernel
theorem dX0_clear_110 : decode cX0_clear 110 = .ok (.putfield 74, 3) := by decide +kernel
theorem dX0_clear_113 : decode cX0_clear 113 = .ok (.return_, 1) := by decide +kernel
theorem dX0_become_0 : decode cX0_become 0 = .ok (.aload_n 0, 1) := by decide +kernel
theorem dX0_become_1 : decode cX0_become 1 = .ok (.getfield 12, 3) := by decide +kernel
theorem dX0_become_4 : decode cX0_become 4 = .ok (.aload_n 1, 1) := by decide +kernel
theorem dX0_become_5 : decode cX0_become 5 = .ok (.getfield 12, 3) := by decide +kernel
theorem dX0_become_8 : decode cX0_become 8 = .ok (.invokevirtual 78, 3) := by decide +kernel
theorem dX0_become_11 : decode cX0_become 11 = .ok (.aload_n 1, 1) := by decide +kernel
theorem dX0_become_12 : decode cX0_become 12 = .ok (.getfield 18, 3) := by decide +kernel
theorem dX0_become_15 : decode cX0_become 15 = .ok (.iconst 0, 1) := by decide +kernel
theorem dX0_become_16 : decode cX0_become 16 = .ok (.aload_n 0, 1) := by decide +kernel
theorem dX0_become_17 : decode cX0_become 17 = .ok (.getfield 18, 3) := by decide +kernel
theorem dX0_become_20 : decode cX0_become 20 = .ok (.iconst 0, 1) := by decide +kernel
theorem dX0_become_21 : decode cX0_become 21 = .ok (.aload_n 0, 1) := by decide +kernel
theorem dX0_become_22 : decode cX0_become 22 = .ok (.getfield 18, 3) := by decide +kernel
theorem dX0_become_25 : decode cX0_become 25 = .ok (.arraylength, 1) := by decide +kernel
theorem dX0_become_26 : decode cX0_become 26 = .ok (.invokestatic 82, 3) := by decide +kernel
theorem dX0_become_29 : decode cX0_become 29 = .ok (.aload_n 1, 1) := by decide +kernel
theorem dX0_become_30 : decode cX0_become 30 = .ok (.getfield 22, 3) := by decide +kernel
theorem dX0_become_33 : decode cX0_become 33 = .ok (.iconst 0, 1) := by decide +kernel
theorem dX0_become_34 : decode cX0_become 34 = .ok (.aload_n 0, 1) := by decide +kernel
theorem dX0_become_35 : decode cX0_become 35 = .ok (.getfield 22, 3) := by decide +kernel
theorem dX0_become_38 : decode cX0_become 38 = .ok (.iconst 0, 1) := by decide +kernel
theorem dX0_become_39 : decode cX0_become 39 = .ok (.aload_n 0, 1) := by decide +kernel
theorem dX0_become_40 : decode cX0_become 40 = .ok (.getfield 22, 3) := by decide +kernel
theorem dX0_become_43 : decode cX0_become 43 = .ok (.arraylength, 1) := by decide +kernel
theorem dX0_become_44 : decode cX0_become 44 = .ok (.invokestatic 82, 3) := by decide +kernel
theorem dX0_become_47 : decode cX0_become 47 = .ok (.aload_n 1, 1) := by decide +kernel
theorem dX0_become_48 : decode cX0_become 48 = .ok (.getfield 25, 3) := by decide +kernel
theorem dX0_become_51 : decode cX0_become 51 = .ok (.iconst 0, 1) := by decide +kernel
theorem dX0_become_52 : decode cX0_become 52 = .ok (.aload_n 0, 1) := by decide +kernel
theorem dX0_become_53 : decode cX0_become 53 = .ok (.getfield 25, 3) := by decide +kernel
theorem dX0_become_56 : decode cX0_become 56 = .ok (.iconst 0, 1) := by decide +kernel
theorem dX0_become_57 : decode cX0_become 57 = .ok (.aload_n 0, 1) := by decide +kernel
theorem dX0_become_58 : decode cX0_become 58 = .ok (.getfield 25, 3) := by decide +kernel
theorem dX0_become_61 : decode cX0_become 61 = .ok (.arraylength, 1) := by decide +kernel
theorem dX0_become_62 : decode cX0_become 62 = .ok (.invokestatic 82, 3) := by decide +kernel
theorem dX0_become_65 : decode cX0_become 65 = .ok (.aload_n 1, 1) := by decide +kernel
theorem dX0_become_66 : decode cX0_become 66 = .ok (.getfield 28, 3) := by decide +kernel
theorem dX0_become_69 : decode cX0_become 69 = .ok (.iconst 0, 1) := by decide +kernel
theorem dX0_become_70 : decode cX0_become 70 = .ok (.aload_n 0, 1) := by decide +kernel
theorem dX0_become_71 : decode cX0_become 71 = .ok (.getfield 28, 3) := by decide +kernel
theorem dX0_become_74 : decode cX0_become 74 = .ok (.iconst 0, 1) := by decide +kernel
theorem dX0_become_75 : decode cX0_become 75 = .ok (.aload_n 0, 1) := by decide +kernel
theorem dX0_become_76 : decode cX0_become 76 = .ok (.getfield 28, 3) := by decide +kernel
theorem dX0_become_79 : decode cX0_become 79 = .ok (.arraylength, 1) := by decide +kernel
theorem dX0_become_80 : decode cX0_become 80 = .ok (.invokestatic 82, 3) := by decide +kernel
theorem dX0_become_83 : decode cX0_become 83 = .ok (.aload_n 1, 1) := by decide +kernel
theorem dX0_become_84 : decode cX0_become 84 = .ok (.getfield 31, 3) := by decide +kernel
theorem dX0_become_87 : decode cX0_become 87 = .ok (.iconst 0, 1) := by decide +kernel
theorem dX0_become_88 : decode cX0_become 88 = .ok (.aload_n 0, 1) := by decide +kernel
theorem dX0_become_89 : decode cX0_become 89 = .ok (.getfield 31, 3) := by decide +kernel
theorem dX0_become_92 : decode cX0_become 92 = .ok (.iconst 0, 1) := by decide +kernel
theorem dX0_become_93 : decode cX0_become 93 = .ok (.aload_n 0, 1) := by decide +kernel
theorem dX0_become_94 : decode cX0_become 94 = .ok (.getfield 31, 3) := by decide +kernel
theorem dX0_become_97 : decode cX0_become 97 = .ok (.arraylength, 1) := by decide +kernel
theorem dX0_become_98 : decode cX0_become 98 = .ok (.invokestatic 82, 3) := by decide +kernel
theorem dX0_become_101 : decode cX0_become 101 = .ok (.aload_n 1, 1) := by decide +kernel
theorem dX0_become_102 : decode cX0_become 102 = .ok (.getfield 34, 3) := by decide +kernel
theorem dX0_become_105 : decode cX0_become 105 = .ok (.iconst 0, 1) := by decide +kernel
theorem dX0_become_106 : decode cX0_become 106 = .ok (.aload_n 0, 1) := by decide +kernel
theorem dX0_become_107 : decode cX0_become 107 = .ok (.getfield 34, 3) := by decide +kernel
theorem dX0_become_110 : decode cX0_become 110 = .ok (.iconst 0, 1) := by decide +kernel
theorem dX0_become_111 : decode cX0_become 111 = .ok (.aload_n 0, 1) := by decide +kernel
theorem dX0_become_112 : decode cX0_become 112 = .ok (.getfield 34, 3) := by decide +kernel
theorem dX0_become_115 : decode cX0_become 115 = .ok (.arraylength, 1) := by decide +kernel
theorem dX0_become_116 : decode cX0_become 116 = .ok (.invokestatic 82, 3) := by decide +kernel
theorem dX0_become_119 : decode cX0_become 119 = .ok (.aload_n 1, 1) := by decide +kernel
theorem dX0_become_120 : decode cX0_become 120 = .ok (.getfield 37, 3) := by decide +kernel
theorem dX0_become_123 : decode cX0_become 123 = .ok (.iconst 0, 1) := by decide +kernel
theorem dX0_become_124 : decode cX0_become 124 = .ok (.aload_n 0, 1) := by decide +kernel
theorem dX0_become_125 : decode cX0_become 125 = .ok (.getfield 37, 3) := by decide +kernel
theorem dX0_become_128 : decode cX0_become 128 = .ok (.iconst 0, 1) := by decide +kernel
theorem dX0_become_129 : decode cX0_become 129 = .ok (.aload_n 0, 1) := by decide +kernel
theorem dX0_become_130 : decode cX0_become 130 = .ok (.getfield 37, 3) := by decide +kernel
theorem dX0_become_133 : decode cX0_become 133 = .ok (.arraylength, 1) := by decide +kernel
theorem dX0_become_134 : decode cX0_become 134 = .ok (.invokestatic 82, 3) := by decide +kernel
theorem dX0_become_137 : decode cX0_become 137 = .ok (.aload_n 1, 1) := by decide +kernel
theorem dX0_become_138 : decode cX0_become 138 = .ok (.getfield 40, 3) := by decide +kernel
theorem dX0_become_141 : decode cX0_become 141 = .ok (.iconst 0, 1) := by decide +kernel
theorem dX0_become_142 : decode cX0_become 142 = .ok (.aload_n 0, 1) := by decide +kernel
theorem dX0_become_143 : decode cX0_become 143 = .ok (.getfield 40, 3) := by decide +kernel
theorem dX0_become_146 : decode cX0_become 146 = .ok (.iconst 0, 1) := by decide +kernel
theorem dX0_become_147 : decode cX0_become 147 = .ok (.aload_n 0, 1) := by decide +kernel
theorem dX0_become_148 : decode cX0_become 148 = .ok (.getfield 40, 3) := by decide +kernel
theorem dX0_become_151 : decode cX0_become 151 = .ok (.arraylength, 1) := by decide +kernel
theorem dX0_become_152 : decode cX0_become 152 = .ok (.invokestatic 82, 3) := by decide +kernel
theorem dX0_become_155 : decode cX0_become 155 = .ok (.aload_n 1, 1) := by decide +kernel
theorem dX0_become_156 : decode cX0_become 156 = .ok (.getfield 43, 3) := by decide +kernel
theorem dX0_become_159 : decode cX0_become 159 = .ok (.iconst 0, 1) := by decide +kernel
theorem dX0_become_160 : decode cX0_become 160 = .ok (.aload_n 0, 1) := by decide +kernel
theorem dX0_become_161 : decode cX0_become 161 = .ok (.getfield 43, 3) := by decide +kernel
theorem dX0_become_164 : decode cX0_become 164 = .ok (.iconst 0, 1) := by decide +kernel
theorem dX0_become_165 : decode cX0_become 165 = .ok (.aload_n 0, 1) := by decide +kernel
theorem dX0_become_166 : decode cX0_become 166 = .ok (.getfield 43, 3) := by decide +kernel
theorem dX0_become_169 : decode cX0_become 169 = .ok (.arraylength, 1) := by decide +kernel
theorem dX0_become_170 : decode cX0_become 170 = .ok (.invokestatic 82, 3) := by decide +kernel
theorem dX0_become_173 : decode cX0_become 173 = .ok (.aload_n 0, 1) := by decide +kernel
theorem dX0_become_174 : decode cX0_become 174 = .ok (.aload_n 1, 1) := by decide +kernel
theorem dX0_become_175 : decode cX0_become 175 = .ok (.getfield 58, 3) := by decide +kernel
theorem dX0_become_178 : decode cX0_become 178 = .ok (.putfield 58, 3) := by decide +kernel
theorem dX0_become_181 : decode cX0_become 181 = .ok (.aload_n 0, 1) := by decide +kernel
theorem dX0_become_182 : decode cX0_become 182 = .ok (.aload_n 1, 1) := by decide +kernel
theorem dX0_become_183 : decode cX0_become 183 = .ok (.getfield 62, 3) := by decide +kernel
theorem dX0_become_186 : decode cX0_become 186 = .ok (.putfield 62, 3) := by decide +kernel
theorem dX0_become_189 : decode cX0_become 189 = .ok (.aload_n 0, 1) := by decide +kernel
theorem dX0_become_190 : decode cX0_become 190 = .ok (.aload_n 1, 1) := by decide +kernel
theorem dX0_become_191 : decode cX0_become 191 = .ok (.getfield 65, 3) := by decide +kernel
theorem dX0_become_194 : decode cX0_become 194 = .ok (.putfield 65, 3) := by decide +kernel
theorem dX0_become_197 : decode cX0_become 197 = .ok (.aload_n 0, 1) := by decide +kernel
theorem dX0_become_198 : decode cX0_become 198 = .ok (.aload_n 1, 1) := by decide +kernel
theorem dX0_become_199 : decode cX0_become 199 = .ok (.getfield 68, 3) := by decide +kernel
theorem dX0_become_202 : decode cX0_become 202 = .ok (.putfield 68, 3) := by decide +kernel
theorem dX0_become_205 : decode cX0_become 205 = .ok (.aload_n 0, 1) := by decide +kernel
theorem dX0_become_206 : decode cX0_become 206 = .ok (.aload_n 1, 1) := by decide +kernel
theorem dX0_become_207 : decode cX0_become 207 = .ok (.getfield 71, 3) := by decide +kernel
theorem dX0_become_210 : decode cX0_become 210 = .ok (.putfield 71, 3) := by decide +kernel
theorem dX0_become_213 : decode cX0_become 213 = .ok (.aload_n 0, 1) := by decide +kernel
theorem dX0_become_214 : decode cX0_become 214 = .ok (.aload_n 1, 1) := by decide +kernel
theorem dX0_become_215 : decode cX0_become 215 = .ok (.getfield 74, 3) := by decide +kernel
theorem dX0_become_218 : decode cX0_become 218 = .ok (.putfield 74, 3) := by decide +kernel
theorem dX0_become_221 : decode cX0_become 221 = .ok (.return_, 1) := by decide +kernel
theorem dX0_isObject_0 : decode cX0_isObject 0 = .ok (.aload_n 0, 1) := by decide +kernel
theorem dX0_isObject_1 : decode cX0_isObject 1 = .ok (.getfield 12, 3) := by decide +kernel
theorem dX0_isObject_4 : decode cX0_isObject 4 = .ok (.iload_n 1, 1) := by decide +kernel
theorem dX0_isObject_5 : decode cX0_isObject 5 = .ok (.invokevirtual 88, 3) := by decide +kernel
theorem dX0_isObject_8 : decode cX0_isObject 8 = .ok (.ifCond .le 7, 3) := by decide +kernel
theorem dX0_isObject_11 : decode cX0_isObject 11 = .ok (.iconst 1, 1) := by decide +kernel
theorem dX0_isObject_12 : decode cX0_isObject 12 = .ok (.goto 4, 3) := by decide +kernel
theorem dX0_isObject_15 : decode cX0_isObject 15 = .ok (.iconst 0, 1) := by decide +kernel
theorem dX0_isObject_16 : decode cX0_isObject 16 = .ok (.ireturn, 1) := by decide +kernel
theorem dX0_sizeAt_0 : decode cX0_sizeAt 0 = .ok (.aload_n 0, 1) := by decide +kernel
theorem dX0_sizeAt_1 : decode cX0_sizeAt 1 = .ok (.getfield 22, 3) := by decide +kernel
theorem dX0_sizeAt_4 : decode cX0_sizeAt 4 = .ok (.iload_n 1, 1) := by decide +kernel
theorem dX0_sizeAt_5 : decode cX0_sizeAt 5 = .ok (.bipush 16, 2) := by decide +kernel
theorem dX0_sizeAt_7 : decode cX0_sizeAt 7 = .ok (.idiv, 1) := by decide +kernel
theorem dX0_sizeAt_8 : decode cX0_sizeAt 8 = .ok (.iaload, 1) := by decide +kernel
theorem dX0_sizeAt_9 : decode cX0_sizeAt 9 = .ok (.ireturn, 1) := by decide +kernel
theorem dX0_rootOrNone_0 : decode cX0_rootOrNone 0 = .ok (.iload_n 1, 1) := by decide +kernel
theorem dX0_rootOrNone_1 : decode cX0_rootOrNone 1 = .ok (.iconst (-1), 1) := by decide +kernel
theorem dX0_rootOrNone_2 : decode cX0_rootOrNone 2 = .ok (.if_icmp .ne 7, 3) := by decide +kernel
theorem dX0_rootOrNone_5 : decode cX0_rootOrNone 5 = .ok (.iconst (-1), 1) := by decide +kernel
theorem dX0_rootOrNone_6 : decode cX0_rootOrNone 6 = .ok (.goto 9, 3) := by decide +kernel
theorem dX0_rootOrNone_9 : decode cX0_rootOrNone 9 = .ok (.aload_n 0, 1) := by decide +kernel
theorem dX0_rootOrNone_10 : decode cX0_rootOrNone 10 = .ok (.getfield 28, 3) := by decide +kernel
theorem dX0_rootOrNone_13 : decode cX0_rootOrNone 13 = .ok (.iload_n 1, 1) := by decide +kernel
theorem dX0_rootOrNone_14 : decode cX0_rootOrNone 14 = .ok (.iaload, 1) := by decide +kernel
theorem dX0_rootOrNone_15 : decode cX0_rootOrNone 15 = .ok (.ireturn, 1) := by decide +kernel
theorem dX0_fieldCell_0 : decode cX0_fieldCell 0 = .ok (.aload_n 0, 1) := by decide +kernel
theorem dX0_fieldCell_1 : decode cX0_fieldCell 1 = .ok (.getfield 12, 3) := by decide +kernel
theorem dX0_fieldCell_4 : decode cX0_fieldCell 4 = .ok (.iload_n 1, 1) := by decide +kernel
theorem dX0_fieldCell_5 : decode cX0_fieldCell 5 = .ok (.invokevirtual 88, 3) := by decide +kernel
theorem dX0_fieldCell_8 : decode cX0_fieldCell 8 = .ok (.ifCond .le 17, 3) := by decide +kernel
theorem dX0_fieldCell_11 : decode cX0_fieldCell 11 = .ok (.iload_n 2, 1) := by decide +kernel
theorem dX0_fieldCell_12 : decode cX0_fieldCell 12 = .ok (.ifCond .lt 13, 3) := by decide +kernel
theorem dX0_fieldCell_15 : decode cX0_fieldCell 15 = .ok (.iload_n 2, 1) := by decide +kernel
theorem dX0_fieldCell_16 : decode cX0_fieldCell 16 = .ok (.aload_n 0, 1) := by decide +kernel
theorem dX0_fieldCell_17 : decode cX0_fieldCell 17 = .ok (.getfield 18, 3) := by decide +kernel
theorem dX0_fieldCell_20 : decode cX0_fieldCell 20 = .ok (.iload_n 1, 1) := by decide +kernel
theorem dX0_fieldCell_21 : decode cX0_fieldCell 21 = .ok (.iaload, 1) := by decide +kernel
theorem dX0_fieldCell_22 : decode cX0_fieldCell 22 = .ok (.if_icmp .lt 5, 3) := by decide +kernel
theorem dX0_fieldCell_25 : decode cX0_fieldCell 25 = .ok (.iconst (-1), 1) := by decide +kernel
theorem dX0_fieldCell_26 : decode cX0_fieldCell 26 = .ok (.ireturn, 1) := by decide +kernel
theorem dX0_fieldCell_27 : decode cX0_fieldCell 27 = .ok (.iload_n 1, 1) := by decide +kernel
theorem dX0_fieldCell_28 : decode cX0_fieldCell 28 = .ok (.iconst 1, 1) := by decide +kernel
theorem dX0_fieldCell_29 : decode cX0_fieldCell 29 = .ok (.iadd, 1) := by decide +kernel
theorem dX0_fieldCell_30 : decode cX0_fieldCell 30 = .ok (.iload_n 2, 1) := by decide +kernel
theorem dX0_fieldCell_31 : decode cX0_fieldCell 31 = .ok (.iadd, 1) := by decide +kernel
theorem dX0_fieldCell_32 : decode cX0_fieldCell 32 = .ok (.ireturn, 1) := by decide +kernel
theorem dX0_fieldOfRoot_0 : decode cX0_fieldOfRoot 0 = .ok (.aload_n 0, 1) := by decide +kernel
theorem dX0_fieldOfRoot_1 : decode cX0_fieldOfRoot 1 = .ok (.aload_n 0, 1) := by decide +kernel
theorem dX0_fieldOfRoot_2 : decode cX0_fieldOfRoot 2 = .ok (.getfield 28, 3) := by decide +kernel
theorem dX0_fieldOfRoot_5 : decode cX0_fieldOfRoot 5 = .ok (.iload_n 1, 1) := by decide +kernel
theorem dX0_fieldOfRoot_6 : decode cX0_fieldOfRoot 6 = .ok (.iaload, 1) := by decide +kernel
theorem dX0_fieldOfRoot_7 : decode cX0_fieldOfRoot 7 = .ok (.iload_n 2, 1) := by decide +kernel
theorem dX0_fieldOfRoot_8 : decode cX0_fieldOfRoot 8 = .ok (.invokevirtual 92, 3) := by decide +kernel
theorem dX0_fieldOfRoot_11 : decode cX0_fieldOfRoot 11 = .ok (.ireturn, 1) := by decide +kernel
theorem dX0_begin_0 : decode cX0_begin 0 = .ok (.aload_n 0, 1) := by decide +kernel
theorem dX0_begin_1 : decode cX0_begin 1 = .ok (.iconst 1, 1) := by decide +kernel
theorem dX0_begin_2 : decode cX0_begin 2 = .ok (.putfield 74, 3) := by decide +kernel
theorem dX0_begin_5 : decode cX0_begin 5 = .ok (.aload_n 0, 1) := by decide +kernel
theorem dX0_begin_6 : decode cX0_begin 6 = .ok (.aload_n 0, 1) := by decide +kernel
theorem dX0_begin_7 : decode cX0_begin 7 = .ok (.getfield 40, 3) := by decide +kernel
theorem dX0_begin_10 : decode cX0_begin 10 = .ok (.iconst 1, 1) := by decide +kernel
theorem dX0_begin_11 : decode cX0_begin 11 = .ok (.iaload, 1) := by decide +kernel
theorem dX0_begin_12 : decode cX0_begin 12 = .ok (.putfield 71, 3) := by decide +kernel
theorem dX0_begin_15 : decode cX0_begin 15 = .ok (.iconst 2, 1) := by decide +kernel
theorem dX0_begin_16 : decode cX0_begin 16 = .ok (.istore_n 1, 1) := by decide +kernel
theorem dX0_begin_17 : decode cX0_begin 17 = .ok (.iload_n 1, 1) := by decide +kernel
theorem dX0_begin_18 : decode cX0_begin 18 = .ok (.bipush 8, 2) := by decide +kernel
theorem dX0_begin_20 : decode cX0_begin 20 = .ok (.if_icmp .gt 56, 3) := by decide +kernel
theorem dX0_begin_23 : decode cX0_begin 23 = .ok (.iload_n 1, 1) := by decide +kernel
theorem dX0_begin_24 : decode cX0_begin 24 = .ok (.iconst 3, 1) := by decide +kernel
theorem dX0_begin_25 : decode cX0_begin 25 = .ok (.invokestatic 96, 3) := by decide +kernel
theorem dX0_begin_28 : decode cX0_begin 28 = .ok (.istore_n 2, 1) := by decide +kernel
theorem dX0_begin_29 : decode cX0_begin 29 = .ok (.aload_n 0, 1) := by decide +kernel
theorem dX0_begin_30 : decode cX0_begin 30 = .ok (.getfield 12, 3) := by decide +kernel
theorem dX0_begin_33 : decode cX0_begin 33 = .ok (.iload_n 2, 1) := by decide +kernel
theorem dX0_begin_34 : decode cX0_begin 34 = .ok (.invokevirtual 99, 3) := by decide +kernel
theorem dX0_begin_37 : decode cX0_begin 37 = .ok (.istore_n 3, 1) := by decide +kernel
theorem dX0_begin_38 : decode cX0_begin 38 = .ok (.iload_n 3, 1) := by decide +kernel
theorem dX0_begin_39 : decode cX0_begin 39 = .ok (.ifCond .le 30, 3) := by decide +kernel
theorem dX0_begin_42 : decode cX0_begin 42 = .ok (.aload_n 0, 1) := by decide +kernel
theorem dX0_begin_43 : decode cX0_begin 43 = .ok (.getfield 12, 3) := by decide +kernel
theorem dX0_begin_46 : decode cX0_begin 46 = .ok (.aload_n 0, 1) := by decide +kernel
theorem dX0_begin_47 : decode cX0_begin 47 = .ok (.getfield 12, 3) := by decide +kernel
theorem dX0_begin_50 : decode cX0_begin 50 = .ok (.iload_n 2, 1) := by decide +kernel
theorem dX0_begin_51 : decode cX0_begin 51 = .ok (.invokevirtual 102, 3) := by decide +kernel
theorem dX0_begin_54 : decode cX0_begin 54 = .ok (.iload_n 1, 1) := by decide +kernel
theorem dX0_begin_55 : decode cX0_begin 55 = .ok (.iconst 1, 1) := by decide +kernel
theorem dX0_begin_56 : decode cX0_begin 56 = .ok (.invokestatic 96, 3) := by decide +kernel
theorem dX0_begin_59 : decode cX0_begin 59 = .ok (.iconst 0, 1) := by decide +kernel
theorem dX0_begin_60 : decode cX0_begin 60 = .ok (.invokevirtual 105, 3) := by decide +kernel
theorem dX0_begin_63 : decode cX0_begin 63 = .ok (.iinc 3 (-1), 3) := by decide +kernel
theorem dX0_begin_66 : decode cX0_begin 66 = .ok (.goto (-28), 3) := by decide +kernel
theorem dX0_begin_69 : decode cX0_begin 69 = .ok (.iload_n 1, 1) := by decide +kernel
theorem dX0_begin_70 : decode cX0_begin 70 = .ok (.iconst 2, 1) := by decide +kernel
theorem dX0_begin_71 : decode cX0_begin 71 = .ok (.imul, 1) := by decide +kernel
theorem dX0_begin_72 : decode cX0_begin 72 = .ok (.istore_n 1, 1) := by decide +kernel
theorem dX0_begin_73 : decode cX0_begin 73 = .ok (.goto (-56), 3) := by decide +kernel
theorem dX0_begin_76 : decode cX0_begin 76 = .ok (.aload_n 0, 1) := by decide +kernel
theorem dX0_begin_77 : decode cX0_begin 77 = .ok (.aload_n 0, 1) := by decide +kernel
theorem dX0_begin_78 : decode cX0_begin 78 = .ok (.getfield 28, 3) := by decide +kernel
theorem dX0_begin_81 : decode cX0_begin 81 = .ok (.iconst 0, 1) := by decide +kernel
theorem dX0_begin_82 : decode cX0_begin 82 = .ok (.bipush 6, 2) := by decide +kernel
theorem dX0_begin_84 : decode cX0_begin 84 = .ok (.invokevirtual 109, 3) := by decide +kernel
theorem dX0_begin_87 : decode cX0_begin 87 = .ok (.aload_n 0, 1) := by decide +kernel
theorem dX0_begin_88 : decode cX0_begin 88 = .ok (.getfield 62, 3) := by decide +kernel
theorem dX0_begin_91 : decode cX0_begin 91 = .ok (.ifCond .ne 7, 3) := by decide +kernel
theorem dX0_begin_94 : decode cX0_begin 94 = .ok (.aload_n 0, 1) := by decide +kernel
theorem dX0_begin_95 : decode cX0_begin 95 = .ok (.invokevirtual 113, 3) := by decide +kernel
theorem dX0_begin_98 : decode cX0_begin 98 = .ok (.return_, 1) := by decide +kernel
theorem dX0_shade_0 : decode cX0_shade 0 = .ok (.iload_n 2, 1) := by decide +kernel
theorem dX0_shade_1 : decode cX0_shade 1 = .ok (.istore 4, 2) := by decide +kernel
theorem dX0_shade_3 : decode cX0_shade 3 = .ok (.iload 4, 2) := by decide +kernel
theorem dX0_shade_5 : decode cX0_shade 5 = .ok (.iload_n 3, 1) := by decide +kernel
theorem dX0_shade_6 : decode cX0_shade 6 = .ok (.if_icmp .ge 69, 3) := by decide +kernel
theorem dX0_shade_9 : decode cX0_shade 9 = .ok (.aload_n 1, 1) := by decide +kernel
theorem dX0_shade_10 : decode cX0_shade 10 = .ok (.iload 4, 2) := by decide +kernel
theorem dX0_shade_12 : decode cX0_shade 12 = .ok (.iaload, 1) := by decide +kernel
theorem dX0_shade_13 : decode cX0_shade 13 = .ok (.istore 5, 2) := by decide +kernel
theorem dX0_shade_15 : decode cX0_shade 15 = .ok (.aload_n 0, 1) := by decide +kernel
theorem dX0_shade_16 : decode cX0_shade 16 = .ok (.getfield 12, 3) := by decide +kernel
theorem dX0_shade_19 : decode cX0_shade 19 = .ok (.iload 5, 2) := by decide +kernel
theorem dX0_shade_21 : decode cX0_shade 21 = .ok (.invokevirtual 88, 3) := by decide +kernel
theorem dX0_shade_24 : decode cX0_shade 24 = .ok (.iconst 1, 1) := by decide +kernel
theorem dX0_shade_25 : decode cX0_shade 25 = .ok (.if_icmp .ne 44, 3) := by decide +kernel
theorem dX0_shade_28 : decode cX0_shade 28 = .ok (.aload_n 0, 1) := by decide +kernel
theorem dX0_shade_29 : decode cX0_shade 29 = .ok (.getfield 12, 3) := by decide +kernel
theorem dX0_shade_32 : decode cX0_shade 32 = .ok (.iload 5, 2) := by decide +kernel
theorem dX0_shade_34 : decode cX0_shade 34 = .ok (.aload_n 0, 1) := by decide +kernel
theorem dX0_shade_35 : decode cX0_shade 35 = .ok (.iload 5, 2) := by decide +kernel
theorem dX0_shade_37 : decode cX0_shade 37 = .ok (.invokevirtual 116, 3) := by decide +kernel
theorem dX0_shade_40 : decode cX0_shade 40 = .ok (.iconst 2, 1) := by decide +kernel
theorem dX0_shade_41 : decode cX0_shade 41 = .ok (.invokestatic 96, 3) := by decide +kernel
theorem dX0_shade_44 : decode cX0_shade 44 = .ok (.iconst 1, 1) := by decide +kernel
theorem dX0_shade_45 : decode cX0_shade 45 = .ok (.invokevirtual 105, 3) := by decide +kernel
theorem dX0_shade_48 : decode cX0_shade 48 = .ok (.aload_n 0, 1) := by decide +kernel
theorem dX0_shade_49 : decode cX0_shade 49 = .ok (.getfield 34, 3) := by decide +kernel
theorem dX0_shade_52 : decode cX0_shade 52 = .ok (.aload_n 0, 1) := by decide +kernel
theorem dX0_shade_53 : decode cX0_shade 53 = .ok (.getfield 62, 3) := by decide +kernel
theorem dX0_shade_56 : decode cX0_shade 56 = .ok (.iload 5, 2) := by decide +kernel
theorem dX0_shade_58 : decode cX0_shade 58 = .ok (.iastore, 1) := by decide +kernel
theorem dX0_shade_59 : decode cX0_shade 59 = .ok (.aload_n 0, 1) := by decide +kernel
theorem dX0_shade_60 : decode cX0_shade 60 = .ok (.dup, 1) := by decide +kernel
theorem dX0_shade_61 : decode cX0_shade 61 = .ok (.getfield 62, 3) := by decide +kernel
theorem dX0_shade_64 : decode cX0_shade 64 = .ok (.iconst 1, 1) := by decide +kernel
theorem dX0_shade_65 : decode cX0_shade 65 = .ok (.iadd, 1) := by decide +kernel
theorem dX0_shade_66 : decode cX0_shade 66 = .ok (.putfield 62, 3) := by decide +kernel
theorem dX0_shade_69 : decode cX0_shade 69 = .ok (.iinc 4 1, 3) := by decide +kernel
theorem dX0_shade_72 : decode cX0_shade 72 = .ok (.goto (-69), 3) := by decide +kernel
theorem dX0_shade_75 : decode cX0_shade 75 = .ok (.return_, 1) := by decide +kernel
theorem dX0_advance_0 : decode cX0_advance 0 = .ok (.iconst 0, 1) := by decide +kernel
theorem dX0_advance_1 : decode cX0_advance 1 = .ok (.istore_n 2, 1) := by decide +kernel
theorem dX0_advance_2 : decode cX0_advance 2 = .ok (.aload_n 0, 1) := by decide +kernel
theorem dX0_advance_3 : decode cX0_advance 3 = .ok (.getfield 74, 3) := by decide +kernel
theorem dX0_advance_6 : decode cX0_advance 6 = .ok (.ifCond .eq 179, 3) := by decide +kernel
theorem dX0_advance_9 : decode cX0_advance 9 = .ok (.iload_n 2, 1) := by decide +kernel
theorem dX0_advance_10 : decode cX0_advance 10 = .ok (.iload_n 1, 1) := by decide +kernel
theorem dX0_advance_11 : decode cX0_advance 11 = .ok (.if_icmp .ge 174, 3) := by decide +kernel
theorem dX0_advance_14 : decode cX0_advance 14 = .ok (.iinc 2 1, 3) := by decide +kernel
theorem dX0_advance_17 : decode cX0_advance 17 = .ok (.aload_n 0, 1) := by decide +kernel
theorem dX0_advance_18 : decode cX0_advance 18 = .ok (.getfield 40, 3) := by decide +kernel
theorem dX0_advance_21 : decode cX0_advance 21 = .ok (.iconst 1, 1) := by decide +kernel
theorem dX0_advance_22 : decode cX0_advance 22 = .ok (.dup2, 1) := by decide +kernel
theorem dX0_advance_23 : decode cX0_advance 23 = .ok (.iaload, 1) := by decide +kernel
theorem dX0_advance_24 : decode cX0_advance 24 = .ok (.iconst 1, 1) := by decide +kernel
theorem dX0_advance_25 : decode cX0_advance 25 = .ok (.iadd, 1) := by decide +kernel
theorem dX0_advance_26 : decode cX0_advance 26 = .ok (.iastore, 1) := by decide +kernel
theorem dX0_advance_27 : decode cX0_advance 27 = .ok (.aload_n 0, 1) := by decide +kernel
theorem dX0_advance_28 : decode cX0_advance 28 = .ok (.getfield 65, 3) := by decide +kernel
theorem dX0_advance_31 : decode cX0_advance 31 = .ok (.iconst (-1), 1) := by decide +kernel
theorem dX0_advance_32 : decode cX0_advance 32 = .ok (.if_icmp .ne 7, 3) := by decide +kernel
theorem dX0_advance_35 : decode cX0_advance 35 = .ok (.aload_n 0, 1) := by decide +kernel
theorem dX0_advance_36 : decode cX0_advance 36 = .ok (.invokevirtual 119, 3) := by decide +kernel
theorem dX0_advance_39 : decode cX0_advance 39 = .ok (.aload_n 0, 1) := by decide +kernel
theorem dX0_advance_40 : decode cX0_advance 40 = .ok (.getfield 68, 3) := by decide +kernel
theorem dX0_advance_43 : decode cX0_advance 43 = .ok (.aload_n 0, 1) := by decide +kernel
theorem dX0_advance_44 : decode cX0_advance 44 = .ok (.getfield 18, 3) := by decide +kernel
theorem dX0_advance_47 : decode cX0_advance 47 = .ok (.aload_n 0, 1) := by decide +kernel
theorem dX0_advance_48 : decode cX0_advance 48 = .ok (.getfield 65, 3) := by decide +kernel
theorem dX0_advance_51 : decode cX0_advance 51 = .ok (.iaload, 1) := by decide +kernel
theorem dX0_advance_52 : decode cX0_advance 52 = .ok (.if_icmp .ge 41, 3) := by decide +kernel
theorem dX0_advance_55 : decode cX0_advance 55 = .ok (.aload_n 0, 1) := by decide +kernel
theorem dX0_advance_56 : decode cX0_advance 56 = .ok (.dup, 1) := by decide +kernel
theorem dX0_advance_57 : decode cX0_advance 57 = .ok (.getfield 68, 3) := by decide +kernel
theorem dX0_advance_60 : decode cX0_advance 60 = .ok (.iconst 1, 1) := by decide +kernel
theorem dX0_advance_61 : decode cX0_advance 61 = .ok (.iadd, 1) := by decide +kernel
theorem dX0_advance_62 : decode cX0_advance 62 = .ok (.putfield 68, 3) := by decide +kernel
theorem dX0_advance_65 : decode cX0_advance 65 = .ok (.aload_n 0, 1) := by decide +kernel
theorem dX0_advance_66 : decode cX0_advance 66 = .ok (.aload_n 0, 1) := by decide +kernel
theorem dX0_advance_67 : decode cX0_advance 67 = .ok (.getfield 18, 3) := by decide +kernel
theorem dX0_advance_70 : decode cX0_advance 70 = .ok (.aload_n 0, 1) := by decide +kernel
theorem dX0_advance_71 : decode cX0_advance 71 = .ok (.getfield 65, 3) := by decide +kernel
theorem dX0_advance_74 : decode cX0_advance 74 = .ok (.aload_n 0, 1) := by decide +kernel
theorem dX0_advance_75 : decode cX0_advance 75 = .ok (.getfield 68, 3) := by decide +kernel
theorem dX0_advance_78 : decode cX0_advance 78 = .ok (.iadd, 1) := by decide +kernel
theorem dX0_advance_79 : decode cX0_advance 79 = .ok (.aload_n 0, 1) := by decide +kernel
theorem dX0_advance_80 : decode cX0_advance 80 = .ok (.getfield 65, 3) := by decide +kernel
theorem dX0_advance_83 : decode cX0_advance 83 = .ok (.aload_n 0, 1) := by decide +kernel
theorem dX0_advance_84 : decode cX0_advance 84 = .ok (.getfield 68, 3) := by decide +kernel
theorem dX0_advance_87 : decode cX0_advance 87 = .ok (.iadd, 1) := by decide +kernel
theorem dX0_advance_88 : decode cX0_advance 88 = .ok (.iconst 1, 1) := by decide +kernel
theorem dX0_advance_89 : decode cX0_advance 89 = .ok (.iadd, 1) := by decide +kernel
theorem dX0_advance_90 : decode cX0_advance 90 = .ok (.invokevirtual 109, 3) := by decide +kernel
theorem dX0_advance_93 : decode cX0_advance 93 = .ok (.aload_n 0, 1) := by decide +kernel
theorem dX0_advance_94 : decode cX0_advance 94 = .ok (.getfield 68, 3) := by decide +kernel
theorem dX0_advance_97 : decode cX0_advance 97 = .ok (.aload_n 0, 1) := by decide +kernel
theorem dX0_advance_98 : decode cX0_advance 98 = .ok (.getfield 18, 3) := by decide +kernel
theorem dX0_advance_101 : decode cX0_advance 101 = .ok (.aload_n 0, 1) := by decide +kernel
theorem dX0_advance_102 : decode cX0_advance 102 = .ok (.getfield 65, 3) := by decide +kernel
theorem dX0_advance_105 : decode cX0_advance 105 = .ok (.iaload, 1) := by decide +kernel
theorem dX0_advance_106 : decode cX0_advance 106 = .ok (.if_icmp .lt (-104), 3) := by decide +kernel
theorem dX0_advance_109 : decode cX0_advance 109 = .ok (.aload_n 0, 1) := by decide +kernel
theorem dX0_advance_110 : decode cX0_advance 110 = .ok (.getfield 12, 3) := by decide +kernel
theorem dX0_advance_113 : decode cX0_advance 113 = .ok (.aload_n 0, 1) := by decide +kernel
theorem dX0_advance_114 : decode cX0_advance 114 = .ok (.getfield 65, 3) := by decide +kernel
theorem dX0_advance_117 : decode cX0_advance 117 = .ok (.aload_n 0, 1) := by decide +kernel
theorem dX0_advance_118 : decode cX0_advance 118 = .ok (.aload_n 0, 1) := by decide +kernel
theorem dX0_advance_119 : decode cX0_advance 119 = .ok (.getfield 65, 3) := by decide +kernel
theorem dX0_advance_122 : decode cX0_advance 122 = .ok (.invokevirtual 116, 3) := by decide +kernel
theorem dX0_advance_125 : decode cX0_advance 125 = .ok (.iconst 3, 1) := by decide +kernel
theorem dX0_advance_126 : decode cX0_advance 126 = .ok (.invokestatic 96, 3) := by decide +kernel
theorem dX0_advance_129 : decode cX0_advance 129 = .ok (.iconst 1, 1) := by decide +kernel
theorem dX0_advance_130 : decode cX0_advance 130 = .ok (.invokevirtual 105, 3) := by decide +kernel
theorem dX0_advance_133 : decode cX0_advance 133 = .ok (.aload_n 0, 1) := by decide +kernel
theorem dX0_advance_134 : decode cX0_advance 134 = .ok (.iconst (-1), 1) := by decide +kernel
theorem dX0_advance_135 : decode cX0_advance 135 = .ok (.putfield 65, 3) := by decide +kernel
theorem dX0_advance_138 : decode cX0_advance 138 = .ok (.aload_n 0, 1) := by decide +kernel
theorem dX0_advance_139 : decode cX0_advance 139 = .ok (.iconst 0, 1) := by decide +kernel
theorem dX0_advance_140 : decode cX0_advance 140 = .ok (.putfield 68, 3) := by decide +kernel
theorem dX0_advance_143 : decode cX0_advance 143 = .ok (.aload_n 0, 1) := by decide +kernel
theorem dX0_advance_144 : decode cX0_advance 144 = .ok (.getfield 62, 3) := by decide +kernel
theorem dX0_advance_147 : decode cX0_advance 147 = .ok (.ifCond .ne 24, 3) := by decide +kernel
theorem dX0_advance_150 : decode cX0_advance 150 = .ok (.aload_n 0, 1) := by decide +kernel
theorem dX0_advance_151 : decode cX0_advance 151 = .ok (.getfield 37, 3) := by decide +kernel
theorem dX0_advance_154 : decode cX0_advance 154 = .ok (.iconst 0, 1) := by decide +kernel
theorem dX0_advance_155 : decode cX0_advance 155 = .ok (.iaload, 1) := by decide +kernel
theorem dX0_advance_156 : decode cX0_advance 156 = .ok (.iconst 1, 1) := by decide +kernel
theorem dX0_advance_157 : decode cX0_advance 157 = .ok (.if_icmp .ne 14, 3) := by decide +kernel
theorem dX0_advance_160 : decode cX0_advance 160 = .ok (.aload_n 0, 1) := by decide +kernel
theorem dX0_advance_161 : decode cX0_advance 161 = .ok (.aload_n 0, 1) := by decide +kernel
theorem dX0_advance_162 : decode cX0_advance 162 = .ok (.getfield 28, 3) := by decide +kernel
theorem dX0_advance_165 : decode cX0_advance 165 = .ok (.iconst 0, 1) := by decide +kernel
theorem dX0_advance_166 : decode cX0_advance 166 = .ok (.bipush 6, 2) := by decide +kernel
theorem dX0_advance_168 : decode cX0_advance 168 = .ok (.invokevirtual 109, 3) := by decide +kernel
theorem dX0_advance_171 : decode cX0_advance 171 = .ok (.aload_n 0, 1) := by decide +kernel
theorem dX0_advance_172 : decode cX0_advance 172 = .ok (.getfield 62, 3) := by decide +kernel
theorem dX0_advance_175 : decode cX0_advance 175 = .ok (.ifCond .ne (-173), 3) := by decide +kernel
theorem dX0_advance_178 : decode cX0_advance 178 = .ok (.aload_n 0, 1) := by decide +kernel
theorem dX0_advance_179 : decode cX0_advance 179 = .ok (.invokevirtual 113, 3) := by decide +kernel
theorem dX0_advance_182 : decode cX0_advance 182 = .ok (.goto (-180), 3) := by decide +kernel
theorem dX0_advance_185 : decode cX0_advance 185 = .ok (.iload_n 2, 1) := by decide +kernel
theorem dX0_advance_186 : decode cX0_advance 186 = .ok (.ireturn, 1) := by decide +kernel
theorem dX0_take_0 : decode cX0_take 0 = .ok (.iconst 0, 1) := by decide +kernel
theorem dX0_take_1 : decode cX0_take 1 = .ok (.istore_n 1, 1) := by decide +kernel
theorem dX0_take_2 : decode cX0_take 2 = .ok (.iconst 1, 1) := by decide +kernel
theorem dX0_take_3 : decode cX0_take 3 = .ok (.istore_n 2, 1) := by decide +kernel
theorem dX0_take_4 : decode cX0_take 4 = .ok (.iload_n 2, 1) := by decide +kernel
theorem dX0_take_5 : decode cX0_take 5 = .ok (.aload_n 0, 1) := by decide +kernel
theorem dX0_take_6 : decode cX0_take 6 = .ok (.getfield 62, 3) := by decide +kernel
theorem dX0_take_9 : decode cX0_take 9 = .ok (.if_icmp .ge 20, 3) := by decide +kernel
theorem dX0_take_12 : decode cX0_take 12 = .ok (.aload_n 0, 1) := by decide +kernel
theorem dX0_take_13 : decode cX0_take 13 = .ok (.iload_n 2, 1) := by decide +kernel
theorem dX0_take_14 : decode cX0_take 14 = .ok (.iload_n 1, 1) := by decide +kernel
theorem dX0_take_15 : decode cX0_take 15 = .ok (.invokevirtual 122, 3) := by decide +kernel
theorem dX0_take_18 : decode cX0_take 18 = .ok (.ifCond .eq 5, 3) := by decide +kernel
theorem dX0_take_21 : decode cX0_take 21 = .ok (.iload_n 2, 1) := by decide +kernel
theorem dX0_take_22 : decode cX0_take 22 = .ok (.istore_n 1, 1) := by decide +kernel
theorem dX0_take_23 : decode cX0_take 23 = .ok (.iinc 2 1, 3) := by decide +kernel
theorem dX0_take_26 : decode cX0_take 26 = .ok (.goto (-22), 3) := by decide +kernel
theorem dX0_take_29 : decode cX0_take 29 = .ok (.aload_n 0, 1) := by decide +kernel
theorem dX0_take_30 : decode cX0_take 30 = .ok (.aload_n 0, 1) := by decide +kernel
theorem dX0_take_31 : decode cX0_take 31 = .ok (.getfield 34, 3) := by decide +kernel
theorem dX0_take_34 : decode cX0_take 34 = .ok (.iload_n 1, 1) := by decide +kernel
theorem dX0_take_35 : decode cX0_take 35 = .ok (.iaload, 1) := by decide +kernel
theorem dX0_take_36 : decode cX0_take 36 = .ok (.putfield 65, 3) := by decide +kernel
theorem dX0_take_39 : decode cX0_take 39 = .ok (.aload_n 0, 1) := by decide +kernel
theorem dX0_take_40 : decode cX0_take 40 = .ok (.iconst 0, 1) := by decide +kernel
theorem dX0_take_41 : decode cX0_take 41 = .ok (.putfield 68, 3) := by decide +kernel
theorem dX0_take_44 : decode cX0_take 44 = .ok (.aload_n 0, 1) := by decide +kernel
theorem dX0_take_45 : decode cX0_take 45 = .ok (.dup, 1) := by decide +kernel
theorem dX0_take_46 : decode cX0_take 46 = .ok (.getfield 62, 3) := by decide +kernel
theorem dX0_take_49 : decode cX0_take 49 = .ok (.iconst 1, 1) := by decide +kernel
theorem dX0_take_50 : decode cX0_take 50 = .ok (.isub, 1) := by decide +kernel
theorem dX0_take_51 : decode cX0_take 51 = .ok (.putfield 62, 3) := by decide +kernel
theorem dX0_take_54 : decode cX0_take 54 = .ok (.iload_n 1, 1) := by decide +kernel
theorem dX0_take_55 : decode cX0_take 55 = .ok (.istore_n 2, 1) := by decide +kernel
theorem dX0_take_56 : decode cX0_take 56 = .ok (.iload_n 2, 1) := by decide +kernel
theorem dX0_take_57 : decode cX0_take 57 = .ok (.aload_n 0, 1) := by decide +kernel
theorem dX0_take_58 : decode cX0_take 58 = .ok (.getfield 62, 3) := by decide +kernel
theorem dX0_take_61 : decode cX0_take 61 = .ok (.if_icmp .ge 23, 3) := by decide +kernel
theorem dX0_take_64 : decode cX0_take 64 = .ok (.aload_n 0, 1) := by decide +kernel
theorem dX0_take_65 : decode cX0_take 65 = .ok (.getfield 34, 3) := by decide +kernel
theorem dX0_take_68 : decode cX0_take 68 = .ok (.iload_n 2, 1) := by decide +kernel
theorem dX0_take_69 : decode cX0_take 69 = .ok (.aload_n 0, 1) := by decide +kernel
theorem dX0_take_70 : decode cX0_take 70 = .ok (.getfield 34, 3) := by decide +kernel
theorem dX0_take_73 : decode cX0_take 73 = .ok (.iload_n 2, 1) := by decide +kernel
theorem dX0_take_74 : decode cX0_take 74 = .ok (.iconst 1, 1) := by decide +kernel
theorem dX0_take_75 : decode cX0_take 75 = .ok (.iadd, 1) := by decide +kernel
theorem dX0_take_76 : decode cX0_take 76 = .ok (.iaload, 1) := by decide +kernel
theorem dX0_take_77 : decode cX0_take 77 = .ok (.iastore, 1) := by decide +kernel
theorem dX0_take_78 : decode cX0_take 78 = .ok (.iinc 2 1, 3) := by decide +kernel
theorem dX0_take_81 : decode cX0_take 81 = .ok (.goto (-25), 3) := by decide +kernel
theorem dX0_take_84 : decode cX0_take 84 = .ok (.return_, 1) := by decide +kernel
theorem dX0_goesAhead_0 : decode cX0_goesAhead 0 = .ok (.aload_n 0, 1) := by decide +kernel
theorem dX0_goesAhead_1 : decode cX0_goesAhead 1 = .ok (.getfield 37, 3) := by decide +kernel
theorem dX0_goesAhead_4 : decode cX0_goesAhead 4 = .ok (.iconst 1, 1) := by decide +kernel
theorem dX0_goesAhead_5 : decode cX0_goesAhead 5 = .ok (.iaload, 1) := by decide +kernel
theorem dX0_goesAhead_6 : decode cX0_goesAhead 6 = .ok (.tableswitch 112 1 3 #[26, 37, 91], 26) := by decide +kernel
theorem dX0_goesAhead_32 : decode cX0_goesAhead 32 = .ok (.iload_n 1, 1) := by decide +kernel
theorem dX0_goesAhead_33 : decode cX0_goesAhead 33 = .ok (.iload_n 2, 1) := by decide +kernel
theorem dX0_goesAhead_34 : decode cX0_goesAhead 34 = .ok (.if_icmp .le 7, 3) := by decide +kernel
theorem dX0_goesAhead_37 : decode cX0_goesAhead 37 = .ok (.iconst 1, 1) := by decide +kernel
theorem dX0_goesAhead_38 : decode cX0_goesAhead 38 = .ok (.goto 4, 3) := by decide +kernel
theorem dX0_goesAhead_41 : decode cX0_goesAhead 41 = .ok (.iconst 0, 1) := by decide +kernel
theorem dX0_goesAhead_42 : decode cX0_goesAhead 42 = .ok (.ireturn, 1) := by decide +kernel
theorem dX0_goesAhead_43 : decode cX0_goesAhead 43 = .ok (.aload_n 0, 1) := by decide +kernel
theorem dX0_goesAhead_44 : decode cX0_goesAhead 44 = .ok (.getfield 22, 3) := by decide +kernel
theorem dX0_goesAhead_47 : decode cX0_goesAhead 47 = .ok (.aload_n 0, 1) := by decide +kernel
theorem dX0_goesAhead_48 : decode cX0_goesAhead 48 = .ok (.getfield 34, 3) := by decide +kernel
theorem dX0_goesAhead_51 : decode cX0_goesAhead 51 = .ok (.iload_n 1, 1) := by decide +kernel
theorem dX0_goesAhead_52 : decode cX0_goesAhead 52 = .ok (.iaload, 1) := by decide +kernel
theorem dX0_goesAhead_53 : decode cX0_goesAhead 53 = .ok (.bipush 16, 2) := by decide +kernel
theorem dX0_goesAhead_55 : decode cX0_goesAhead 55 = .ok (.idiv, 1) := by decide +kernel
theorem dX0_goesAhead_56 : decode cX0_goesAhead 56 = .ok (.iaload, 1) := by decide +kernel
theorem dX0_goesAhead_57 : decode cX0_goesAhead 57 = .ok (.istore_n 3, 1) := by decide +kernel
theorem dX0_goesAhead_58 : decode cX0_goesAhead 58 = .ok (.aload_n 0, 1) := by decide +kernel
theorem dX0_goesAhead_59 : decode cX0_goesAhead 59 = .ok (.getfield 22, 3) := by decide +kernel
theorem dX0_goesAhead_62 : decode cX0_goesAhead 62 = .ok (.aload_n 0, 1) := by decide +kernel
theorem dX0_goesAhead_63 : decode cX0_goesAhead 63 = .ok (.getfield 34, 3) := by decide +kernel
theorem dX0_goesAhead_66 : decode cX0_goesAhead 66 = .ok (.iload_n 2, 1) := by decide +kernel
theorem dX0_goesAhead_67 : decode cX0_goesAhead 67 = .ok (.iaload, 1) := by decide +kernel
theorem dX0_goesAhead_68 : decode cX0_goesAhead 68 = .ok (.bipush 16, 2) := by decide +kernel
theorem dX0_goesAhead_70 : decode cX0_goesAhead 70 = .ok (.idiv, 1) := by decide +kernel
theorem dX0_goesAhead_71 : decode cX0_goesAhead 71 = .ok (.iaload, 1) := by decide +kernel
theorem dX0_goesAhead_72 : decode cX0_goesAhead 72 = .ok (.istore 4, 2) := by decide +kernel
theorem dX0_goesAhead_74 : decode cX0_goesAhead 74 = .ok (.iload_n 3, 1) := by decide +kernel
theorem dX0_goesAhead_75 : decode cX0_goesAhead 75 = .ok (.iload 4, 2) := by decide +kernel
theorem dX0_goesAhead_77 : decode cX0_goesAhead 77 = .ok (.if_icmp .lt 14, 3) := by decide +kernel
theorem dX0_goesAhead_80 : decode cX0_goesAhead 80 = .ok (.iload_n 3, 1) := by decide +kernel
theorem dX0_goesAhead_81 : decode cX0_goesAhead 81 = .ok (.iload 4, 2) := by decide +kernel
theorem dX0_goesAhead_83 : decode cX0_goesAhead 83 = .ok (.if_icmp .ne 12, 3) := by decide +kernel
theorem dX0_goesAhead_86 : decode cX0_goesAhead 86 = .ok (.iload_n 1, 1) := by decide +kernel
theorem dX0_goesAhead_87 : decode cX0_goesAhead 87 = .ok (.iload_n 2, 1) := by decide +kernel
theorem dX0_goesAhead_88 : decode cX0_goesAhead 88 = .ok (.if_icmp .ge 7, 3) := by decide +kernel
theorem dX0_goesAhead_91 : decode cX0_goesAhead 91 = .ok (.iconst 1, 1) := by decide +kernel
theorem dX0_goesAhead_92 : decode cX0_goesAhead 92 = .ok (.goto 4, 3) := by decide +kernel
theorem dX0_goesAhead_95 : decode cX0_goesAhead 95 = .ok (.iconst 0, 1) := by decide +kernel
theorem dX0_goesAhead_96 : decode cX0_goesAhead 96 = .ok (.ireturn, 1) := by decide +kernel
theorem dX0_goesAhead_97 : decode cX0_goesAhead 97 = .ok (.aload_n 0, 1) := by decide +kernel
theorem dX0_goesAhead_98 : decode cX0_goesAhead 98 = .ok (.getfield 34, 3) := by decide +kernel
theorem dX0_goesAhead_101 : decode cX0_goesAhead 101 = .ok (.iload_n 1, 1) := by decide +kernel
theorem dX0_goesAhead_102 : decode cX0_goesAhead 102 = .ok (.iaload, 1) := by decide +kernel
theorem dX0_goesAhead_103 : decode cX0_goesAhead 103 = .ok (.aload_n 0, 1) := by decide +kernel
theorem dX0_goesAhead_104 : decode cX0_goesAhead 104 = .ok (.getfield 34, 3) := by decide +kernel
theorem dX0_goesAhead_107 : decode cX0_goesAhead 107 = .ok (.iload_n 2, 1) := by decide +kernel
theorem dX0_goesAhead_108 : decode cX0_goesAhead 108 = .ok (.iaload, 1) := by decide +kernel
theorem dX0_goesAhead_109 : decode cX0_goesAhead 109 = .ok (.if_icmp .ge 7, 3) := by decide +kernel
theorem dX0_goesAhead_112 : decode cX0_goesAhead 112 = .ok (.iconst 1, 1) := by decide +kernel
theorem dX0_goesAhead_113 : decode cX0_goesAhead 113 = .ok (.goto 4, 3) := by decide +kernel
theorem dX0_goesAhead_116 : decode cX0_goesAhead 116 = .ok (.iconst 0, 1) := by decide +kernel
theorem dX0_goesAhead_117 : decode cX0_goesAhead 117 = .ok (.ireturn, 1) := by decide +kernel
theorem dX0_goesAhead_118 : decode cX0_goesAhead 118 = .ok (.iload_n 1, 1) := by decide +kernel
theorem dX0_goesAhead_119 : decode cX0_goesAhead 119 = .ok (.iload_n 2, 1) := by decide +kernel
theorem dX0_goesAhead_120 : decode cX0_goesAhead 120 = .ok (.if_icmp .ge 7, 3) := by decide +kernel
theorem dX0_goesAhead_123 : decode cX0_goesAhead 123 = .ok (.iconst 1, 1) := by decide +kernel
theorem dX0_goesAhead_124 : decode cX0_goesAhead 124 = .ok (.goto 4, 3) := by decide +kernel
theorem dX0_goesAhead_127 : decode cX0_goesAhead 127 = .ok (.iconst 0, 1) := by decide +kernel
theorem dX0_goesAhead_128 : decode cX0_goesAhead 128 = .ok (.ireturn, 1) := by decide +kernel
theorem dX0_finish_0 : decode cX0_finish 0 = .ok (.aload_n 0, 1) := by decide +kernel
theorem dX0_finish_1 : decode cX0_finish 1 = .ok (.iconst 0, 1) := by decide +kernel
theorem dX0_finish_2 : decode cX0_finish 2 = .ok (.putfield 74, 3) := by decide +kernel
theorem dX0_finish_5 : decode cX0_finish 5 = .ok (.iconst 0, 1) := by decide +kernel
theorem dX0_finish_6 : decode cX0_finish 6 = .ok (.istore_n 1, 1) := by decide +kernel
theorem dX0_finish_7 : decode cX0_finish 7 = .ok (.iconst 2, 1) := by decide +kernel
theorem dX0_finish_8 : decode cX0_finish 8 = .ok (.istore_n 2, 1) := by decide +kernel
theorem dX0_finish_9 : decode cX0_finish 9 = .ok (.iload_n 2, 1) := by decide +kernel
theorem dX0_finish_10 : decode cX0_finish 10 = .ok (.bipush 8, 2) := by decide +kernel
theorem dX0_finish_12 : decode cX0_finish 12 = .ok (.if_icmp .gt 87, 3) := by decide +kernel
theorem dX0_finish_15 : decode cX0_finish 15 = .ok (.iload_n 2, 1) := by decide +kernel
theorem dX0_finish_16 : decode cX0_finish 16 = .ok (.iconst 1, 1) := by decide +kernel
theorem dX0_finish_17 : decode cX0_finish 17 = .ok (.invokestatic 96, 3) := by decide +kernel
theorem dX0_finish_20 : decode cX0_finish 20 = .ok (.istore_n 3, 1) := by decide +kernel
theorem dX0_finish_21 : decode cX0_finish 21 = .ok (.aload_n 0, 1) := by decide +kernel
theorem dX0_finish_22 : decode cX0_finish 22 = .ok (.getfield 12, 3) := by decide +kernel
theorem dX0_finish_25 : decode cX0_finish 25 = .ok (.iload_n 3, 1) := by decide +kernel
theorem dX0_finish_26 : decode cX0_finish 26 = .ok (.invokevirtual 99, 3) := by decide +kernel
theorem dX0_finish_29 : decode cX0_finish 29 = .ok (.istore 4, 2) := by decide +kernel
theorem dX0_finish_31 : decode cX0_finish 31 = .ok (.iload 4, 2) := by decide +kernel
theorem dX0_finish_33 : decode cX0_finish 33 = .ok (.ifCond .le 59, 3) := by decide +kernel
theorem dX0_finish_36 : decode cX0_finish 36 = .ok (.aload_n 0, 1) := by decide +kernel
theorem dX0_finish_37 : decode cX0_finish 37 = .ok (.getfield 12, 3) := by decide +kernel
theorem dX0_finish_40 : decode cX0_finish 40 = .ok (.iload_n 3, 1) := by decide +kernel
theorem dX0_finish_41 : decode cX0_finish 41 = .ok (.invokevirtual 102, 3) := by decide +kernel
theorem dX0_finish_44 : decode cX0_finish 44 = .ok (.istore 5, 2) := by decide +kernel
theorem dX0_finish_46 : decode cX0_finish 46 = .ok (.aload_n 0, 1) := by decide +kernel
theorem dX0_finish_47 : decode cX0_finish 47 = .ok (.getfield 12, 3) := by decide +kernel
theorem dX0_finish_50 : decode cX0_finish 50 = .ok (.iload 5, 2) := by decide +kernel
theorem dX0_finish_52 : decode cX0_finish 52 = .ok (.iload_n 2, 1) := by decide +kernel
theorem dX0_finish_53 : decode cX0_finish 53 = .ok (.iconst 0, 1) := by decide +kernel
theorem dX0_finish_54 : decode cX0_finish 54 = .ok (.invokestatic 96, 3) := by decide +kernel
theorem dX0_finish_57 : decode cX0_finish 57 = .ok (.iconst 0, 1) := by decide +kernel
theorem dX0_finish_58 : decode cX0_finish 58 = .ok (.invokevirtual 105, 3) := by decide +kernel
theorem dX0_finish_61 : decode cX0_finish 61 = .ok (.aload_n 0, 1) := by decide +kernel
theorem dX0_finish_62 : decode cX0_finish 62 = .ok (.getfield 18, 3) := by decide +kernel
theorem dX0_finish_65 : decode cX0_finish 65 = .ok (.iload 5, 2) := by decide +kernel
theorem dX0_finish_67 : decode cX0_finish 67 = .ok (.iconst (-1), 1) := by decide +kernel
theorem dX0_finish_68 : decode cX0_finish 68 = .ok (.iastore, 1) := by decide +kernel
theorem dX0_finish_69 : decode cX0_finish 69 = .ok (.aload_n 0, 1) := by decide +kernel
theorem dX0_finish_70 : decode cX0_finish 70 = .ok (.getfield 25, 3) := by decide +kernel
theorem dX0_finish_73 : decode cX0_finish 73 = .ok (.iload 5, 2) := by decide +kernel
theorem dX0_finish_75 : decode cX0_finish 75 = .ok (.bipush 16, 2) := by decide +kernel
theorem dX0_finish_77 : decode cX0_finish 77 = .ok (.idiv, 1) := by decide +kernel
theorem dX0_finish_78 : decode cX0_finish 78 = .ok (.dup2, 1) := by decide +kernel
theorem dX0_finish_79 : decode cX0_finish 79 = .ok (.iaload, 1) := by decide +kernel
theorem dX0_finish_80 : decode cX0_finish 80 = .ok (.iconst 1, 1) := by decide +kernel
theorem dX0_finish_81 : decode cX0_finish 81 = .ok (.isub, 1) := by decide +kernel
theorem dX0_finish_82 : decode cX0_finish 82 = .ok (.iastore, 1) := by decide +kernel
theorem dX0_finish_83 : decode cX0_finish 83 = .ok (.iinc 1 1, 3) := by decide +kernel
theorem dX0_finish_86 : decode cX0_finish 86 = .ok (.iinc 4 (-1), 3) := by decide +kernel
theorem dX0_finish_89 : decode cX0_finish 89 = .ok (.goto (-58), 3) := by decide +kernel
theorem dX0_finish_92 : decode cX0_finish 92 = .ok (.iload_n 2, 1) := by decide +kernel
theorem dX0_finish_93 : decode cX0_finish 93 = .ok (.iconst 2, 1) := by decide +kernel
theorem dX0_finish_94 : decode cX0_finish 94 = .ok (.imul, 1) := by decide +kernel
theorem dX0_finish_95 : decode cX0_finish 95 = .ok (.istore_n 2, 1) := by decide +kernel
theorem dX0_finish_96 : decode cX0_finish 96 = .ok (.goto (-87), 3) := by decide +kernel
theorem dX0_finish_99 : decode cX0_finish 99 = .ok (.iconst 0, 1) := by decide +kernel
theorem dX0_finish_100 : decode cX0_finish 100 = .ok (.istore_n 2, 1) := by decide +kernel
theorem dX0_finish_101 : decode cX0_finish 101 = .ok (.iload_n 2, 1) := by decide +kernel
theorem dX0_finish_102 : decode cX0_finish 102 = .ok (.sipush 128, 3) := by decide +kernel
theorem dX0_finish_105 : decode cX0_finish 105 = .ok (.if_icmp .ge 50, 3) := by decide +kernel
theorem dX0_finish_108 : decode cX0_finish 108 = .ok (.aload_n 0, 1) := by decide +kernel
theorem dX0_finish_109 : decode cX0_finish 109 = .ok (.getfield 12, 3) := by decide +kernel
theorem dX0_finish_112 : decode cX0_finish 112 = .ok (.iload_n 2, 1) := by decide +kernel
theorem dX0_finish_113 : decode cX0_finish 113 = .ok (.invokevirtual 88, 3) := by decide +kernel
theorem dX0_finish_116 : decode cX0_finish 116 = .ok (.ifCond .le 33, 3) := by decide +kernel
theorem dX0_finish_119 : decode cX0_finish 119 = .ok (.aload_n 0, 1) := by decide +kernel
theorem dX0_finish_120 : decode cX0_finish 120 = .ok (.getfield 40, 3) := by decide +kernel
theorem dX0_finish_123 : decode cX0_finish 123 = .ok (.iconst 3, 1) := by decide +kernel
theorem dX0_finish_124 : decode cX0_finish 124 = .ok (.dup2, 1) := by decide +kernel
theorem dX0_finish_125 : decode cX0_finish 125 = .ok (.iaload, 1) := by decide +kernel
theorem dX0_finish_126 : decode cX0_finish 126 = .ok (.aload_n 0, 1) := by decide +kernel
theorem dX0_finish_127 : decode cX0_finish 127 = .ok (.aload_n 0, 1) := by decide +kernel
theorem dX0_finish_128 : decode cX0_finish 128 = .ok (.getfield 18, 3) := by decide +kernel
theorem dX0_finish_131 : decode cX0_finish 131 = .ok (.iload_n 2, 1) := by decide +kernel
theorem dX0_finish_132 : decode cX0_finish 132 = .ok (.iconst 1, 1) := by decide +kernel
theorem dX0_finish_133 : decode cX0_finish 133 = .ok (.iadd, 1) := by decide +kernel
theorem dX0_finish_134 : decode cX0_finish 134 = .ok (.iload_n 2, 1) := by decide +kernel
theorem dX0_finish_135 : decode cX0_finish 135 = .ok (.iconst 1, 1) := by decide +kernel
theorem dX0_finish_136 : decode cX0_finish 136 = .ok (.iadd, 1) := by decide +kernel
theorem dX0_finish_137 : decode cX0_finish 137 = .ok (.aload_n 0, 1) := by decide +kernel
theorem dX0_finish_138 : decode cX0_finish 138 = .ok (.getfield 18, 3) := by decide +kernel
theorem dX0_finish_141 : decode cX0_finish 141 = .ok (.iload_n 2, 1) := by decide +kernel
theorem dX0_finish_142 : decode cX0_finish 142 = .ok (.iaload, 1) := by decide +kernel
theorem dX0_finish_143 : decode cX0_finish 143 = .ok (.iadd, 1) := by decide +kernel
theorem dX0_finish_144 : decode cX0_finish 144 = .ok (.invokevirtual 126, 3) := by decide +kernel
theorem dX0_finish_147 : decode cX0_finish 147 = .ok (.iadd, 1) := by decide +kernel
theorem dX0_finish_148 : decode cX0_finish 148 = .ok (.iastore, 1) := by decide +kernel
theorem dX0_finish_149 : decode cX0_finish 149 = .ok (.iinc 2 2, 3) := by decide +kernel
theorem dX0_finish_152 : decode cX0_finish 152 = .ok (.goto (-51), 3) := by decide +kernel
theorem dX0_finish_155 : decode cX0_finish 155 = .ok (.aload_n 0, 1) := by decide +kernel
theorem dX0_finish_156 : decode cX0_finish 156 = .ok (.getfield 40, 3) := by decide +kernel
theorem dX0_finish_159 : decode cX0_finish 159 = .ok (.iconst 3, 1) := by decide +kernel
theorem dX0_finish_160 : decode cX0_finish 160 = .ok (.dup2, 1) := by decide +kernel
theorem dX0_finish_161 : decode cX0_finish 161 = .ok (.iaload, 1) := by decide +kernel
theorem dX0_finish_162 : decode cX0_finish 162 = .ok (.aload_n 0, 1) := by decide +kernel
theorem dX0_finish_163 : decode cX0_finish 163 = .ok (.aload_n 0, 1) := by decide +kernel
theorem dX0_finish_164 : decode cX0_finish 164 = .ok (.getfield 28, 3) := by decide +kernel
theorem dX0_finish_167 : decode cX0_finish 167 = .ok (.iconst 0, 1) := by decide +kernel
theorem dX0_finish_168 : decode cX0_finish 168 = .ok (.bipush 6, 2) := by decide +kernel
theorem dX0_finish_170 : decode cX0_finish 170 = .ok (.invokevirtual 126, 3) := by decide +kernel
theorem dX0_finish_173 : decode cX0_finish 173 = .ok (.iadd, 1) := by decide +kernel
theorem dX0_finish_174 : decode cX0_finish 174 = .ok (.iastore, 1) := by decide +kernel
theorem dX0_finish_175 : decode cX0_finish 175 = .ok (.aload_n 0, 1) := by decide +kernel
theorem dX0_finish_176 : decode cX0_finish 176 = .ok (.getfield 40, 3) := by decide +kernel
theorem dX0_finish_179 : decode cX0_finish 179 = .ok (.iconst 5, 1) := by decide +kernel
theorem dX0_finish_180 : decode cX0_finish 180 = .ok (.dup2, 1) := by decide +kernel
theorem dX0_finish_181 : decode cX0_finish 181 = .ok (.iaload, 1) := by decide +kernel
theorem dX0_finish_182 : decode cX0_finish 182 = .ok (.aload_n 0, 1) := by decide +kernel
theorem dX0_finish_183 : decode cX0_finish 183 = .ok (.aload_n 0, 1) := by decide +kernel
theorem dX0_finish_184 : decode cX0_finish 184 = .ok (.getfield 31, 3) := by decide +kernel
theorem dX0_finish_187 : decode cX0_finish 187 = .ok (.iconst 0, 1) := by decide +kernel
theorem dX0_finish_188 : decode cX0_finish 188 = .ok (.iconst 4, 1) := by decide +kernel
theorem dX0_finish_189 : decode cX0_finish 189 = .ok (.invokevirtual 126, 3) := by decide +kernel
theorem dX0_finish_192 : decode cX0_finish 192 = .ok (.iadd, 1) := by decide +kernel
theorem dX0_finish_193 : decode cX0_finish 193 = .ok (.iastore, 1) := by decide +kernel
theorem dX0_finish_194 : decode cX0_finish 194 = .ok (.aload_n 0, 1) := by decide +kernel
theorem dX0_finish_195 : decode cX0_finish 195 = .ok (.getfield 40, 3) := by decide +kernel
theorem dX0_finish_198 : decode cX0_finish 198 = .ok (.iconst 0, 1) := by decide +kernel
theorem dX0_finish_199 : decode cX0_finish 199 = .ok (.iaload, 1) := by decide +kernel
theorem dX0_finish_200 : decode cX0_finish 200 = .ok (.bipush 16, 2) := by decide +kernel
theorem dX0_finish_202 : decode cX0_finish 202 = .ok (.irem, 1) := by decide +kernel
theorem dX0_finish_203 : decode cX0_finish 203 = .ok (.iconst 3, 1) := by decide +kernel
theorem dX0_finish_204 : decode cX0_finish 204 = .ok (.imul, 1) := by decide +kernel
theorem dX0_finish_205 : decode cX0_finish 205 = .ok (.istore_n 2, 1) := by decide +kernel
theorem dX0_finish_206 : decode cX0_finish 206 = .ok (.aload_n 0, 1) := by decide +kernel
theorem dX0_finish_207 : decode cX0_finish 207 = .ok (.getfield 43, 3) := by decide +kernel
theorem dX0_finish_210 : decode cX0_finish 210 = .ok (.iload_n 2, 1) := by decide +kernel
theorem dX0_finish_211 : decode cX0_finish 211 = .ok (.aload_n 0, 1) := by decide +kernel
theorem dX0_finish_212 : decode cX0_finish 212 = .ok (.getfield 40, 3) := by decide +kernel
theorem dX0_finish_215 : decode cX0_finish 215 = .ok (.iconst 1, 1) := by decide +kernel
theorem dX0_finish_216 : decode cX0_finish 216 = .ok (.iaload, 1) := by decide +kernel
theorem dX0_finish_217 : decode cX0_finish 217 = .ok (.aload_n 0, 1) := by decide +kernel
theorem dX0_finish_218 : decode cX0_finish 218 = .ok (.getfield 71, 3) := by decide +kernel
theorem dX0_finish_221 : decode cX0_finish 221 = .ok (.isub, 1) := by decide +kernel
theorem dX0_finish_222 : decode cX0_finish 222 = .ok (.iastore, 1) := by decide +kernel
theorem dX0_finish_223 : decode cX0_finish 223 = .ok (.aload_n 0, 1) := by decide +kernel
theorem dX0_finish_224 : decode cX0_finish 224 = .ok (.getfield 43, 3) := by decide +kernel
theorem dX0_finish_227 : decode cX0_finish 227 = .ok (.iload_n 2, 1) := by decide +kernel
theorem dX0_finish_228 : decode cX0_finish 228 = .ok (.iconst 1, 1) := by decide +kernel
theorem dX0_finish_229 : decode cX0_finish 229 = .ok (.iadd, 1) := by decide +kernel
theorem dX0_finish_230 : decode cX0_finish 230 = .ok (.iload_n 1, 1) := by decide +kernel
theorem dX0_finish_231 : decode cX0_finish 231 = .ok (.iastore, 1) := by decide +kernel
theorem dX0_finish_232 : decode cX0_finish 232 = .ok (.aload_n 0, 1) := by decide +kernel
theorem dX0_finish_233 : decode cX0_finish 233 = .ok (.getfield 43, 3) := by decide +kernel
theorem dX0_finish_236 : decode cX0_finish 236 = .ok (.iload_n 2, 1) := by decide +kernel
theorem dX0_finish_237 : decode cX0_finish 237 = .ok (.iconst 2, 1) := by decide +kernel
theorem dX0_finish_238 : decode cX0_finish 238 = .ok (.iadd, 1) := by decide +kernel
theorem dX0_finish_239 : decode cX0_finish 239 = .ok (.aload_n 0, 1) := by decide +kernel
theorem dX0_finish_240 : decode cX0_finish 240 = .ok (.invokevirtual 130, 3) := by decide +kernel
theorem dX0_finish_243 : decode cX0_finish 243 = .ok (.iastore, 1) := by decide +kernel
theorem dX0_finish_244 : decode cX0_finish 244 = .ok (.aload_n 0, 1) := by decide +kernel
theorem dX0_finish_245 : decode cX0_finish 245 = .ok (.getfield 40, 3) := by decide +kernel
theorem dX0_finish_248 : decode cX0_finish 248 = .ok (.iconst 0, 1) := by decide +kernel
theorem dX0_finish_249 : decode cX0_finish 249 = .ok (.dup2, 1) := by decide +kernel
theorem dX0_finish_250 : decode cX0_finish 250 = .ok (.iaload, 1) := by decide +kernel
theorem dX0_finish_251 : decode cX0_finish 251 = .ok (.iconst 1, 1) := by decide +kernel
theorem dX0_finish_252 : decode cX0_finish 252 = .ok (.iadd, 1) := by decide +kernel
theorem dX0_finish_253 : decode cX0_finish 253 = .ok (.iastore, 1) := by decide +kernel
theorem dX0_finish_254 : decode cX0_finish 254 = .ok (.return_, 1) := by decide +kernel
theorem dX0_forget_0 : decode cX0_forget 0 = .ok (.iconst 0, 1) := by decide +kernel
theorem dX0_forget_1 : decode cX0_forget 1 = .ok (.istore 4, 2) := by decide +kernel
theorem dX0_forget_3 : decode cX0_forget 3 = .ok (.iload_n 2, 1) := by decide +kernel
theorem dX0_forget_4 : decode cX0_forget 4 = .ok (.istore 5, 2) := by decide +kernel
theorem dX0_forget_6 : decode cX0_forget 6 = .ok (.iload 5, 2) := by decide +kernel
theorem dX0_forget_8 : decode cX0_forget 8 = .ok (.iload_n 3, 1) := by decide +kernel
theorem dX0_forget_9 : decode cX0_forget 9 = .ok (.if_icmp .ge 38, 3) := by decide +kernel
theorem dX0_forget_12 : decode cX0_forget 12 = .ok (.aload_n 1, 1) := by decide +kernel
theorem dX0_forget_13 : decode cX0_forget 13 = .ok (.iload 5, 2) := by decide +kernel
theorem dX0_forget_15 : decode cX0_forget 15 = .ok (.iaload, 1) := by decide +kernel
theorem dX0_forget_16 : decode cX0_forget 16 = .ok (.iconst (-1), 1) := by decide +kernel
theorem dX0_forget_17 : decode cX0_forget 17 = .ok (.if_icmp .eq 24, 3) := by decide +kernel
theorem dX0_forget_20 : decode cX0_forget 20 = .ok (.aload_n 0, 1) := by decide +kernel
theorem dX0_forget_21 : decode cX0_forget 21 = .ok (.getfield 18, 3) := by decide +kernel
theorem dX0_forget_24 : decode cX0_forget 24 = .ok (.aload_n 1, 1) := by decide +kernel
theorem dX0_forget_25 : decode cX0_forget 25 = .ok (.iload 5, 2) := by decide +kernel
theorem dX0_forget_27 : decode cX0_forget 27 = .ok (.iaload, 1) := by decide +kernel
theorem dX0_forget_28 : decode cX0_forget 28 = .ok (.iaload, 1) := by decide +kernel
theorem dX0_forget_29 : decode cX0_forget 29 = .ok (.iconst (-1), 1) := by decide +kernel
theorem dX0_forget_30 : decode cX0_forget 30 = .ok (.if_icmp .ne 11, 3) := by decide +kernel
theorem dX0_forget_33 : decode cX0_forget 33 = .ok (.aload_n 1, 1) := by decide +kernel
theorem dX0_forget_34 : decode cX0_forget 34 = .ok (.iload 5, 2) := by decide +kernel
theorem dX0_forget_36 : decode cX0_forget 36 = .ok (.iconst (-1), 1) := by decide +kernel
theorem dX0_forget_37 : decode cX0_forget 37 = .ok (.iastore, 1) := by decide +kernel
theorem dX0_forget_38 : decode cX0_forget 38 = .ok (.iinc 4 1, 3) := by decide +kernel
theorem dX0_forget_41 : decode cX0_forget 41 = .ok (.iinc 5 1, 3) := by decide +kernel
theorem dX0_forget_44 : decode cX0_forget 44 = .ok (.goto (-38), 3) := by decide +kernel
theorem dX0_forget_47 : decode cX0_forget 47 = .ok (.iload 4, 2) := by decide +kernel
theorem dX0_forget_49 : decode cX0_forget 49 = .ok (.ireturn, 1) := by decide +kernel
theorem dX0_build_0 : decode cX0_build 0 = .ok (.iload_n 2, 1) := by decide +kernel
theorem dX0_build_1 : decode cX0_build 1 = .ok (.iconst 2, 1) := by decide +kernel
theorem dX0_build_2 : decode cX0_build 2 = .ok (.if_icmp .ge 7, 3) := by decide +kernel
theorem dX0_build_5 : decode cX0_build 5 = .ok (.iconst 2, 1) := by decide +kernel
theorem dX0_build_6 : decode cX0_build 6 = .ok (.goto 14, 3) := by decide +kernel
theorem dX0_build_9 : decode cX0_build 9 = .ok (.iload_n 2, 1) := by decide +kernel
theorem dX0_build_10 : decode cX0_build 10 = .ok (.iconst 4, 1) := by decide +kernel
theorem dX0_build_11 : decode cX0_build 11 = .ok (.if_icmp .ge 7, 3) := by decide +kernel
theorem dX0_build_14 : decode cX0_build 14 = .ok (.iconst 4, 1) := by decide +kernel
theorem dX0_build_15 : decode cX0_build 15 = .ok (.goto 5, 3) := by decide +kernel
theorem dX0_build_18 : decode cX0_build 18 = .ok (.bipush 8, 2) := by decide +kernel
theorem dX0_build_20 : decode cX0_build 20 = .ok (.istore_n 3, 1) := by decide +kernel
theorem dX0_build_21 : decode cX0_build 21 = .ok (.aload_n 0, 1) := by decide +kernel
theorem dX0_build_22 : decode cX0_build 22 = .ok (.aload_n 0, 1) := by decide +kernel
theorem dX0_build_23 : decode cX0_build 23 = .ok (.getfield 37, 3) := by decide +kernel
theorem dX0_build_26 : decode cX0_build 26 = .ok (.iconst 2, 1) := by decide +kernel
theorem dX0_build_27 : decode cX0_build 27 = .ok (.iaload, 1) := by decide +kernel
theorem dX0_build_28 : decode cX0_build 28 = .ok (.invokevirtual 134, 3) := by decide +kernel
theorem dX0_build_31 : decode cX0_build 31 = .ok (.pop, 1) := by decide +kernel
theorem dX0_build_32 : decode cX0_build 32 = .ok (.aload_n 0, 1) := by decide +kernel
theorem dX0_build_33 : decode cX0_build 33 = .ok (.iload_n 3, 1) := by decide +kernel
theorem dX0_build_34 : decode cX0_build 34 = .ok (.invokevirtual 137, 3) := by decide +kernel
theorem dX0_build_37 : decode cX0_build 37 = .ok (.istore 4, 2) := by decide +kernel
theorem dX0_build_39 : decode cX0_build 39 = .ok (.iload 4, 2) := by decide +kernel
theorem dX0_build_41 : decode cX0_build 41 = .ok (.iconst (-1), 1) := by decide +kernel
theorem dX0_build_42 : decode cX0_build 42 = .ok (.if_icmp .ne 25, 3) := by decide +kernel
theorem dX0_build_45 : decode cX0_build 45 = .ok (.aload_n 0, 1) := by decide +kernel
theorem dX0_build_46 : decode cX0_build 46 = .ok (.getfield 40, 3) := by decide +kernel
theorem dX0_build_49 : decode cX0_build 49 = .ok (.iconst 2, 1) := by decide +kernel
theorem dX0_build_50 : decode cX0_build 50 = .ok (.dup2, 1) := by decide +kernel
theorem dX0_build_51 : decode cX0_build 51 = .ok (.iaload, 1) := by decide +kernel
theorem dX0_build_52 : decode cX0_build 52 = .ok (.aload_n 0, 1) := by decide +kernel
theorem dX0_build_53 : decode cX0_build 53 = .ok (.ldc 140, 2) := by decide +kernel
theorem dX0_build_55 : decode cX0_build 55 = .ok (.invokevirtual 134, 3) := by decide +kernel
theorem dX0_build_58 : decode cX0_build 58 = .ok (.iadd, 1) := by decide +kernel
theorem dX0_build_59 : decode cX0_build 59 = .ok (.iastore, 1) := by decide +kernel
theorem dX0_build_60 : decode cX0_build 60 = .ok (.aload_n 0, 1) := by decide +kernel
theorem dX0_build_61 : decode cX0_build 61 = .ok (.iload_n 3, 1) := by decide +kernel
theorem dX0_build_62 : decode cX0_build 62 = .ok (.invokevirtual 137, 3) := by decide +kernel
theorem dX0_build_65 : decode cX0_build 65 = .ok (.istore 4, 2) := by decide +kernel
theorem dX0_build_67 : decode cX0_build 67 = .ok (.iload 4, 2) := by decide +kernel
theorem dX0_build_69 : decode cX0_build 69 = .ok (.iconst (-1), 1) := by decide +kernel
theorem dX0_build_70 : decode cX0_build 70 = .ok (.if_icmp .ne 29, 3) := by decide +kernel
theorem dX0_build_73 : decode cX0_build 73 = .ok (.aload_n 0, 1) := by decide +kernel
theorem dX0_build_74 : decode cX0_build 74 = .ok (.invokevirtual 141, 3) := by decide +kernel
theorem dX0_build_77 : decode cX0_build 77 = .ok (.aload_n 0, 1) := by decide +kernel
theorem dX0_build_78 : decode cX0_build 78 = .ok (.getfield 40, 3) := by decide +kernel
theorem dX0_build_81 : decode cX0_build 81 = .ok (.iconst 2, 1) := by decide +kernel
theorem dX0_build_82 : decode cX0_build 82 = .ok (.dup2, 1) := by decide +kernel
theorem dX0_build_83 : decode cX0_build 83 = .ok (.iaload, 1) := by decide +kernel
theorem dX0_build_84 : decode cX0_build 84 = .ok (.aload_n 0, 1) := by decide +kernel
theorem dX0_build_85 : decode cX0_build 85 = .ok (.ldc 140, 2) := by decide +kernel
theorem dX0_build_87 : decode cX0_build 87 = .ok (.invokevirtual 134, 3) := by decide +kernel
theorem dX0_build_90 : decode cX0_build 90 = .ok (.iadd, 1) := by decide +kernel
theorem dX0_build_91 : decode cX0_build 91 = .ok (.iastore, 1) := by decide +kernel
theorem dX0_build_92 : decode cX0_build 92 = .ok (.aload_n 0, 1) := by decide +kernel
theorem dX0_build_93 : decode cX0_build 93 = .ok (.iload_n 3, 1) := by decide +kernel
theorem dX0_build_94 : decode cX0_build 94 = .ok (.invokevirtual 137, 3) := by decide +kernel
theorem dX0_build_97 : decode cX0_build 97 = .ok (.istore 4, 2) := by decide +kernel
theorem dX0_build_99 : decode cX0_build 99 = .ok (.iload 4, 2) := by decide +kernel
theorem dX0_build_101 : decode cX0_build 101 = .ok (.iconst (-1), 1) := by decide +kernel
theorem dX0_build_102 : decode cX0_build 102 = .ok (.if_icmp .ne 6, 3) := by decide +kernel
theorem dX0_build_105 : decode cX0_build 105 = .ok (.bipush (-2), 2) := by decide +kernel
theorem dX0_build_107 : decode cX0_build 107 = .ok (.ireturn, 1) := by decide +kernel
theorem dX0_build_108 : decode cX0_build 108 = .ok (.aload_n 0, 1) := by decide +kernel
theorem dX0_build_109 : decode cX0_build 109 = .ok (.getfield 12, 3) := by decide +kernel
theorem dX0_build_112 : decode cX0_build 112 = .ok (.iload 4, 2) := by decide +kernel
theorem dX0_build_114 : decode cX0_build 114 = .ok (.iload_n 3, 1) := by decide +kernel
theorem dX0_build_115 : decode cX0_build 115 = .ok (.iconst 3, 1) := by decide +kernel
theorem dX0_build_116 : decode cX0_build 116 = .ok (.invokestatic 96, 3) := by decide +kernel
theorem dX0_build_119 : decode cX0_build 119 = .ok (.iconst 0, 1) := by decide +kernel
theorem dX0_build_120 : decode cX0_build 120 = .ok (.invokevirtual 105, 3) := by decide +kernel
theorem dX0_build_123 : decode cX0_build 123 = .ok (.aload_n 0, 1) := by decide +kernel
theorem dX0_build_124 : decode cX0_build 124 = .ok (.getfield 18, 3) := by decide +kernel
theorem dX0_build_127 : decode cX0_build 127 = .ok (.iload 4, 2) := by decide +kernel
theorem dX0_build_129 : decode cX0_build 129 = .ok (.iload_n 2, 1) := by decide +kernel
theorem dX0_build_130 : decode cX0_build 130 = .ok (.iastore, 1) := by decide +kernel
theorem dX0_build_131 : decode cX0_build 131 = .ok (.aload_n 0, 1) := by decide +kernel
theorem dX0_build_132 : decode cX0_build 132 = .ok (.getfield 18, 3) := by decide +kernel
theorem dX0_build_135 : decode cX0_build 135 = .ok (.iload 4, 2) := by decide +kernel
theorem dX0_build_137 : decode cX0_build 137 = .ok (.iconst 1, 1) := by decide +kernel
theorem dX0_build_138 : decode cX0_build 138 = .ok (.iadd, 1) := by decide +kernel
theorem dX0_build_139 : decode cX0_build 139 = .ok (.iload 4, 2) := by decide +kernel
theorem dX0_build_141 : decode cX0_build 141 = .ok (.iconst 1, 1) := by decide +kernel
theorem dX0_build_142 : decode cX0_build 142 = .ok (.iadd, 1) := by decide +kernel
theorem dX0_build_143 : decode cX0_build 143 = .ok (.iload_n 2, 1) := by decide +kernel
theorem dX0_build_144 : decode cX0_build 144 = .ok (.iadd, 1) := by decide +kernel
theorem dX0_build_145 : decode cX0_build 145 = .ok (.iconst (-1), 1) := by decide +kernel
theorem dX0_build_146 : decode cX0_build 146 = .ok (.invokestatic 144, 3) := by decide +kernel
theorem dX0_build_149 : decode cX0_build 149 = .ok (.aload_n 0, 1) := by decide +kernel
theorem dX0_build_150 : decode cX0_build 150 = .ok (.getfield 25, 3) := by decide +kernel
theorem dX0_build_153 : decode cX0_build 153 = .ok (.iload 4, 2) := by decide +kernel
theorem dX0_build_155 : decode cX0_build 155 = .ok (.bipush 16, 2) := by decide +kernel
theorem dX0_build_157 : decode cX0_build 157 = .ok (.idiv, 1) := by decide +kernel
theorem dX0_build_158 : decode cX0_build 158 = .ok (.dup2, 1) := by decide +kernel
theorem dX0_build_159 : decode cX0_build 159 = .ok (.iaload, 1) := by decide +kernel
theorem dX0_build_160 : decode cX0_build 160 = .ok (.iconst 1, 1) := by decide +kernel
theorem dX0_build_161 : decode cX0_build 161 = .ok (.iadd, 1) := by decide +kernel
theorem dX0_build_162 : decode cX0_build 162 = .ok (.iastore, 1) := by decide +kernel
theorem dX0_build_163 : decode cX0_build 163 = .ok (.aload_n 0, 1) := by decide +kernel
theorem dX0_build_164 : decode cX0_build 164 = .ok (.getfield 28, 3) := by decide +kernel
theorem dX0_build_167 : decode cX0_build 167 = .ok (.iload_n 1, 1) := by decide +kernel
theorem dX0_build_168 : decode cX0_build 168 = .ok (.iload 4, 2) := by decide +kernel
theorem dX0_build_170 : decode cX0_build 170 = .ok (.iastore, 1) := by decide +kernel
theorem dX0_build_171 : decode cX0_build 171 = .ok (.aload_n 0, 1) := by decide +kernel
theorem dX0_build_172 : decode cX0_build 172 = .ok (.getfield 40, 3) := by decide +kernel
theorem dX0_build_175 : decode cX0_build 175 = .ok (.iconst 4, 1) := by decide +kernel
theorem dX0_build_176 : decode cX0_build 176 = .ok (.dup2, 1) := by decide +kernel
theorem dX0_build_177 : decode cX0_build 177 = .ok (.iaload, 1) := by decide +kernel
theorem dX0_build_178 : decode cX0_build 178 = .ok (.iconst 1, 1) := by decide +kernel
theorem dX0_build_179 : decode cX0_build 179 = .ok (.iadd, 1) := by decide +kernel
theorem dX0_build_180 : decode cX0_build 180 = .ok (.iastore, 1) := by decide +kernel
theorem dX0_build_181 : decode cX0_build 181 = .ok (.aload_n 0, 1) := by decide +kernel
theorem dX0_build_182 : decode cX0_build 182 = .ok (.getfield 74, 3) := by decide +kernel
theorem dX0_build_185 : decode cX0_build 185 = .ok (.ifCond .ne 28, 3) := by decide +kernel
theorem dX0_build_188 : decode cX0_build 188 = .ok (.aload_n 0, 1) := by decide +kernel
theorem dX0_build_189 : decode cX0_build 189 = .ok (.getfield 12, 3) := by decide +kernel
theorem dX0_build_192 : decode cX0_build 192 = .ok (.iload_n 3, 1) := by decide +kernel
theorem dX0_build_193 : decode cX0_build 193 = .ok (.iconst 0, 1) := by decide +kernel
theorem dX0_build_194 : decode cX0_build 194 = .ok (.invokestatic 96, 3) := by decide +kernel
theorem dX0_build_197 : decode cX0_build 197 = .ok (.invokevirtual 99, 3) := by decide +kernel
theorem dX0_build_200 : decode cX0_build 200 = .ok (.aload_n 0, 1) := by decide +kernel
theorem dX0_build_201 : decode cX0_build 201 = .ok (.getfield 37, 3) := by decide +kernel
theorem dX0_build_204 : decode cX0_build 204 = .ok (.iconst 3, 1) := by decide +kernel
theorem dX0_build_205 : decode cX0_build 205 = .ok (.iaload, 1) := by decide +kernel
theorem dX0_build_206 : decode cX0_build 206 = .ok (.if_icmp .ge 7, 3) := by decide +kernel
theorem dX0_build_209 : decode cX0_build 209 = .ok (.aload_n 0, 1) := by decide +kernel
theorem dX0_build_210 : decode cX0_build 210 = .ok (.invokevirtual 141, 3) := by decide +kernel
theorem dX0_build_213 : decode cX0_build 213 = .ok (.iload 4, 2) := by decide +kernel
theorem dX0_build_215 : decode cX0_build 215 = .ok (.ireturn, 1) := by decide +kernel
theorem dX0_findSlot_0 : decode cX0_findSlot 0 = .ok (.iload_n 1, 1) := by decide +kernel
theorem dX0_findSlot_1 : decode cX0_findSlot 1 = .ok (.iconst 0, 1) := by decide +kernel
theorem dX0_findSlot_2 : decode cX0_findSlot 2 = .ok (.invokestatic 96, 3) := by decide +kernel
theorem dX0_findSlot_5 : decode cX0_findSlot 5 = .ok (.istore_n 2, 1) := by decide +kernel
theorem dX0_findSlot_6 : decode cX0_findSlot 6 = .ok (.aload_n 0, 1) := by decide +kernel
theorem dX0_findSlot_7 : decode cX0_findSlot 7 = .ok (.getfield 12, 3) := by decide +kernel
theorem dX0_findSlot_10 : decode cX0_findSlot 10 = .ok (.iload_n 2, 1) := by decide +kernel
theorem dX0_findSlot_11 : decode cX0_findSlot 11 = .ok (.invokevirtual 99, 3) := by decide +kernel
theorem dX0_findSlot_14 : decode cX0_findSlot 14 = .ok (.ifCond .ne 22, 3) := by decide +kernel
theorem dX0_findSlot_17 : decode cX0_findSlot 17 = .ok (.aload_n 0, 1) := by decide +kernel
theorem dX0_findSlot_18 : decode cX0_findSlot 18 = .ok (.iload_n 1, 1) := by decide +kernel
theorem dX0_findSlot_19 : decode cX0_findSlot 19 = .ok (.invokevirtual 147, 3) := by decide +kernel
theorem dX0_findSlot_22 : decode cX0_findSlot 22 = .ok (.istore_n 3, 1) := by decide +kernel
theorem dX0_findSlot_23 : decode cX0_findSlot 23 = .ok (.iload_n 3, 1) := by decide +kernel
theorem dX0_findSlot_24 : decode cX0_findSlot 24 = .ok (.iconst (-1), 1) := by decide +kernel
theorem dX0_findSlot_25 : decode cX0_findSlot 25 = .ok (.if_icmp .ne 5, 3) := by decide +kernel
theorem dX0_findSlot_28 : decode cX0_findSlot 28 = .ok (.iconst (-1), 1) := by decide +kernel
theorem dX0_findSlot_29 : decode cX0_findSlot 29 = .ok (.ireturn, 1) := by decide +kernel
theorem dX0_findSlot_30 : decode cX0_findSlot 30 = .ok (.aload_n 0, 1) := by decide +kernel
theorem dX0_findSlot_31 : decode cX0_findSlot 31 = .ok (.iload_n 3, 1) := by decide +kernel
theorem dX0_findSlot_32 : decode cX0_findSlot 32 = .ok (.iload_n 1, 1) := by decide +kernel
theorem dX0_findSlot_33 : decode cX0_findSlot 33 = .ok (.invokevirtual 150, 3) := by decide +kernel
theorem dX0_findSlot_36 : decode cX0_findSlot 36 = .ok (.aload_n 0, 1) := by decide +kernel
theorem dX0_findSlot_37 : decode cX0_findSlot 37 = .ok (.getfield 12, 3) := by decide +kernel
theorem dX0_findSlot_40 : decode cX0_findSlot 40 = .ok (.iload_n 2, 1) := by decide +kernel
theorem dX0_findSlot_41 : decode cX0_findSlot 41 = .ok (.invokevirtual 102, 3) := by decide +kernel
theorem dX0_findSlot_44 : decode cX0_findSlot 44 = .ok (.ireturn, 1) := by decide +kernel
theorem dX0_findPage_0 : decode cX0_findPage 0 = .ok (.iconst 0, 1) := by decide +kernel
theorem dX0_findPage_1 : decode cX0_findPage 1 = .ok (.istore_n 2, 1) := by decide +kernel
theorem dX0_findPage_2 : decode cX0_findPage 2 = .ok (.iload_n 2, 1) := by decide +kernel
theorem dX0_findPage_3 : decode cX0_findPage 3 = .ok (.aload_n 0, 1) := by decide +kernel
theorem dX0_findPage_4 : decode cX0_findPage 4 = .ok (.getfield 58, 3) := by decide +kernel
theorem dX0_findPage_7 : decode cX0_findPage 7 = .ok (.if_icmp .ge 20, 3) := by decide +kernel
theorem dX0_findPage_10 : decode cX0_findPage 10 = .ok (.aload_n 0, 1) := by decide +kernel
theorem dX0_findPage_11 : decode cX0_findPage 11 = .ok (.getfield 22, 3) := by decide +kernel
theorem dX0_findPage_14 : decode cX0_findPage 14 = .ok (.iload_n 2, 1) := by decide +kernel
theorem dX0_findPage_15 : decode cX0_findPage 15 = .ok (.iaload, 1) := by decide +kernel
theorem dX0_findPage_16 : decode cX0_findPage 16 = .ok (.ifCond .ne 5, 3) := by decide +kernel
theorem dX0_findPage_19 : decode cX0_findPage 19 = .ok (.iload_n 2, 1) := by decide +kernel
theorem dX0_findPage_20 : decode cX0_findPage 20 = .ok (.ireturn, 1) := by decide +kernel
theorem dX0_findPage_21 : decode cX0_findPage 21 = .ok (.iinc 2 1, 3) := by decide +kernel
theorem dX0_findPage_24 : decode cX0_findPage 24 = .ok (.goto (-22), 3) := by decide +kernel
theorem dX0_findPage_27 : decode cX0_findPage 27 = .ok (.iconst 0, 1) := by decide +kernel
theorem dX0_findPage_28 : decode cX0_findPage 28 = .ok (.istore_n 2, 1) := by decide +kernel
theorem dX0_findPage_29 : decode cX0_findPage 29 = .ok (.iload_n 2, 1) := by decide +kernel
theorem dX0_findPage_30 : decode cX0_findPage 30 = .ok (.aload_n 0, 1) := by decide +kernel
theorem dX0_findPage_31 : decode cX0_findPage 31 = .ok (.getfield 58, 3) := by decide +kernel
theorem dX0_findPage_34 : decode cX0_findPage 34 = .ok (.if_icmp .ge 30, 3) := by decide +kernel
theorem dX0_findPage_37 : decode cX0_findPage 37 = .ok (.aload_n 0, 1) := by decide +kernel
theorem dX0_findPage_38 : decode cX0_findPage 38 = .ok (.getfield 22, 3) := by decide +kernel
theorem dX0_findPage_41 : decode cX0_findPage 41 = .ok (.iload_n 2, 1) := by decide +kernel
theorem dX0_findPage_42 : decode cX0_findPage 42 = .ok (.iaload, 1) := by decide +kernel
theorem dX0_findPage_43 : decode cX0_findPage 43 = .ok (.iload_n 1, 1) := by decide +kernel
theorem dX0_findPage_44 : decode cX0_findPage 44 = .ok (.if_icmp .eq 14, 3) := by decide +kernel
theorem dX0_findPage_47 : decode cX0_findPage 47 = .ok (.aload_n 0, 1) := by decide +kernel
theorem dX0_findPage_48 : decode cX0_findPage 48 = .ok (.getfield 25, 3) := by decide +kernel
theorem dX0_findPage_51 : decode cX0_findPage 51 = .ok (.iload_n 2, 1) := by decide +kernel
theorem dX0_findPage_52 : decode cX0_findPage 52 = .ok (.iaload, 1) := by decide +kernel
theorem dX0_findPage_53 : decode cX0_findPage 53 = .ok (.ifCond .ne 5, 3) := by decide +kernel
theorem dX0_findPage_56 : decode cX0_findPage 56 = .ok (.iload_n 2, 1) := by decide +kernel
theorem dX0_findPage_57 : decode cX0_findPage 57 = .ok (.ireturn, 1) := by decide +kernel
theorem dX0_findPage_58 : decode cX0_findPage 58 = .ok (.iinc 2 1, 3) := by decide +kernel
theorem dX0_findPage_61 : decode cX0_findPage 61 = .ok (.goto (-32), 3) := by decide +kernel
theorem dX0_findPage_64 : decode cX0_findPage 64 = .ok (.iconst (-1), 1) := by decide +kernel
theorem dX0_findPage_65 : decode cX0_findPage 65 = .ok (.ireturn, 1) := by decide +kernel
theorem dX0_resize_0 : decode cX0_resize 0 = .ok (.aload_n 0, 1) := by decide +kernel
theorem dX0_resize_1 : decode cX0_resize 1 = .ok (.getfield 22, 3) := by decide +kernel
theorem dX0_resize_4 : decode cX0_resize 4 = .ok (.iload_n 1, 1) := by decide +kernel
theorem dX0_resize_5 : decode cX0_resize 5 = .ok (.iload_n 2, 1) := by decide +kernel
theorem dX0_resize_6 : decode cX0_resize 6 = .ok (.iastore, 1) := by decide +kernel
theorem dX0_resize_7 : decode cX0_resize 7 = .ok (.iconst 0, 1) := by decide +kernel
theorem dX0_resize_8 : decode cX0_resize 8 = .ok (.istore_n 3, 1) := by decide +kernel
theorem dX0_resize_9 : decode cX0_resize 9 = .ok (.iload_n 3, 1) := by decide +kernel
theorem dX0_resize_10 : decode cX0_resize 10 = .ok (.bipush 16, 2) := by decide +kernel
theorem dX0_resize_12 : decode cX0_resize 12 = .ok (.if_icmp .ge 65, 3) := by decide +kernel
theorem dX0_resize_15 : decode cX0_resize 15 = .ok (.iload_n 3, 1) := by decide +kernel
theorem dX0_resize_16 : decode cX0_resize 16 = .ok (.iload_n 2, 1) := by decide +kernel
theorem dX0_resize_17 : decode cX0_resize 17 = .ok (.iconst 1, 1) := by decide +kernel
theorem dX0_resize_18 : decode cX0_resize 18 = .ok (.isub, 1) := by decide +kernel
theorem dX0_resize_19 : decode cX0_resize 19 = .ok (.iand, 1) := by decide +kernel
theorem dX0_resize_20 : decode cX0_resize 20 = .ok (.ifCond .ne 7, 3) := by decide +kernel
theorem dX0_resize_23 : decode cX0_resize 23 = .ok (.iconst 1, 1) := by decide +kernel
theorem dX0_resize_24 : decode cX0_resize 24 = .ok (.goto 4, 3) := by decide +kernel
theorem dX0_resize_27 : decode cX0_resize 27 = .ok (.iconst 0, 1) := by decide +kernel
theorem dX0_resize_28 : decode cX0_resize 28 = .ok (.istore 4, 2) := by decide +kernel
theorem dX0_resize_30 : decode cX0_resize 30 = .ok (.iload_n 1, 1) := by decide +kernel
theorem dX0_resize_31 : decode cX0_resize 31 = .ok (.bipush 16, 2) := by decide +kernel
theorem dX0_resize_33 : decode cX0_resize 33 = .ok (.imul, 1) := by decide +kernel
theorem dX0_resize_34 : decode cX0_resize 34 = .ok (.iload_n 3, 1) := by decide +kernel
theorem dX0_resize_35 : decode cX0_resize 35 = .ok (.iadd, 1) := by decide +kernel
theorem dX0_resize_36 : decode cX0_resize 36 = .ok (.istore 5, 2) := by decide +kernel
theorem dX0_resize_38 : decode cX0_resize 38 = .ok (.aload_n 0, 1) := by decide +kernel
theorem dX0_resize_39 : decode cX0_resize 39 = .ok (.getfield 12, 3) := by decide +kernel
theorem dX0_resize_42 : decode cX0_resize 42 = .ok (.iload 5, 2) := by decide +kernel
theorem dX0_resize_44 : decode cX0_resize 44 = .ok (.iload 4, 2) := by decide +kernel
theorem dX0_resize_46 : decode cX0_resize 46 = .ok (.ifCond .eq 11, 3) := by decide +kernel
theorem dX0_resize_49 : decode cX0_resize 49 = .ok (.iload_n 2, 1) := by decide +kernel
theorem dX0_resize_50 : decode cX0_resize 50 = .ok (.iconst 0, 1) := by decide +kernel
theorem dX0_resize_51 : decode cX0_resize 51 = .ok (.invokestatic 96, 3) := by decide +kernel
theorem dX0_resize_54 : decode cX0_resize 54 = .ok (.goto 5, 3) := by decide +kernel
theorem dX0_resize_57 : decode cX0_resize 57 = .ok (.bipush 12, 2) := by decide +kernel
theorem dX0_resize_59 : decode cX0_resize 59 = .ok (.iconst 0, 1) := by decide +kernel
theorem dX0_resize_60 : decode cX0_resize 60 = .ok (.invokevirtual 105, 3) := by decide +kernel
theorem dX0_resize_63 : decode cX0_resize 63 = .ok (.aload_n 0, 1) := by decide +kernel
theorem dX0_resize_64 : decode cX0_resize 64 = .ok (.getfield 18, 3) := by decide +kernel
theorem dX0_resize_67 : decode cX0_resize 67 = .ok (.iload 5, 2) := by decide +kernel
theorem dX0_resize_69 : decode cX0_resize 69 = .ok (.iconst (-1), 1) := by decide +kernel
theorem dX0_resize_70 : decode cX0_resize 70 = .ok (.iastore, 1) := by decide +kernel
theorem dX0_resize_71 : decode cX0_resize 71 = .ok (.iinc 3 2, 3) := by decide +kernel
theorem dX0_resize_74 : decode cX0_resize 74 = .ok (.goto (-65), 3) := by decide +kernel
theorem dX0_resize_77 : decode cX0_resize 77 = .ok (.return_, 1) := by decide +kernel
theorem dX0_fetch_0 : decode cX0_fetch 0 = .ok (.aload_n 0, 1) := by decide +kernel
theorem dX0_fetch_1 : decode cX0_fetch 1 = .ok (.iload_n 2, 1) := by decide +kernel
theorem dX0_fetch_2 : decode cX0_fetch 2 = .ok (.iload_n 3, 1) := by decide +kernel
theorem dX0_fetch_3 : decode cX0_fetch 3 = .ok (.invokevirtual 154, 3) := by decide +kernel
theorem dX0_fetch_6 : decode cX0_fetch 6 = .ok (.istore 4, 2) := by decide +kernel
theorem dX0_fetch_8 : decode cX0_fetch 8 = .ok (.iload 4, 2) := by decide +kernel
theorem dX0_fetch_10 : decode cX0_fetch 10 = .ok (.iconst (-1), 1) := by decide +kernel
theorem dX0_fetch_11 : decode cX0_fetch 11 = .ok (.if_icmp .ne 6, 3) := by decide +kernel
theorem dX0_fetch_14 : decode cX0_fetch 14 = .ok (.bipush (-2), 2) := by decide +kernel
theorem dX0_fetch_16 : decode cX0_fetch 16 = .ok (.ireturn, 1) := by decide +kernel
theorem dX0_fetch_17 : decode cX0_fetch 17 = .ok (.aload_n 0, 1) := by decide +kernel
theorem dX0_fetch_18 : decode cX0_fetch 18 = .ok (.getfield 28, 3) := by decide +kernel
theorem dX0_fetch_21 : decode cX0_fetch 21 = .ok (.iload_n 1, 1) := by decide +kernel
theorem dX0_fetch_22 : decode cX0_fetch 22 = .ok (.aload_n 0, 1) := by decide +kernel
theorem dX0_fetch_23 : decode cX0_fetch 23 = .ok (.getfield 18, 3) := by decide +kernel
theorem dX0_fetch_26 : decode cX0_fetch 26 = .ok (.iload 4, 2) := by decide +kernel
theorem dX0_fetch_28 : decode cX0_fetch 28 = .ok (.iaload, 1) := by decide +kernel
theorem dX0_fetch_29 : decode cX0_fetch 29 = .ok (.iastore, 1) := by decide +kernel
theorem dX0_fetch_30 : decode cX0_fetch 30 = .ok (.aload_n 0, 1) := by decide +kernel
theorem dX0_fetch_31 : decode cX0_fetch 31 = .ok (.getfield 37, 3) := by decide +kernel
theorem dX0_fetch_34 : decode cX0_fetch 34 = .ok (.iconst 0, 1) := by decide +kernel
theorem dX0_fetch_35 : decode cX0_fetch 35 = .ok (.iaload, 1) := by decide +kernel
theorem dX0_fetch_36 : decode cX0_fetch 36 = .ok (.ifCond .ne 15, 3) := by decide +kernel
theorem dX0_fetch_39 : decode cX0_fetch 39 = .ok (.aload_n 0, 1) := by decide +kernel
theorem dX0_fetch_40 : decode cX0_fetch 40 = .ok (.aload_n 0, 1) := by decide +kernel
theorem dX0_fetch_41 : decode cX0_fetch 41 = .ok (.getfield 28, 3) := by decide +kernel
theorem dX0_fetch_44 : decode cX0_fetch 44 = .ok (.iload_n 1, 1) := by decide +kernel
theorem dX0_fetch_45 : decode cX0_fetch 45 = .ok (.iload_n 1, 1) := by decide +kernel
theorem dX0_fetch_46 : decode cX0_fetch 46 = .ok (.iconst 1, 1) := by decide +kernel
theorem dX0_fetch_47 : decode cX0_fetch 47 = .ok (.iadd, 1) := by decide +kernel
theorem dX0_fetch_48 : decode cX0_fetch 48 = .ok (.invokevirtual 109, 3) := by decide +kernel
theorem dX0_fetch_51 : decode cX0_fetch 51 = .ok (.aload_n 0, 1) := by decide +kernel
theorem dX0_fetch_52 : decode cX0_fetch 52 = .ok (.getfield 28, 3) := by decide +kernel
theorem dX0_fetch_55 : decode cX0_fetch 55 = .ok (.iload_n 1, 1) := by decide +kernel
theorem dX0_fetch_56 : decode cX0_fetch 56 = .ok (.iaload, 1) := by decide +kernel
theorem dX0_fetch_57 : decode cX0_fetch 57 = .ok (.ireturn, 1) := by decide +kernel
theorem dX0_put_0 : decode cX0_put 0 = .ok (.aload_n 0, 1) := by decide +kernel
theorem dX0_put_1 : decode cX0_put 1 = .ok (.iload_n 1, 1) := by decide +kernel
theorem dX0_put_2 : decode cX0_put 2 = .ok (.iload_n 2, 1) := by decide +kernel
theorem dX0_put_3 : decode cX0_put 3 = .ok (.invokevirtual 154, 3) := by decide +kernel
theorem dX0_put_6 : decode cX0_put 6 = .ok (.istore 4, 2) := by decide +kernel
theorem dX0_put_8 : decode cX0_put 8 = .ok (.iload 4, 2) := by decide +kernel
theorem dX0_put_10 : decode cX0_put 10 = .ok (.iconst (-1), 1) := by decide +kernel
theorem dX0_put_11 : decode cX0_put 11 = .ok (.if_icmp .ne 5, 3) := by decide +kernel
theorem dX0_put_14 : decode cX0_put 14 = .ok (.iconst 0, 1) := by decide +kernel
theorem dX0_put_15 : decode cX0_put 15 = .ok (.ireturn, 1) := by decide +kernel
theorem dX0_put_16 : decode cX0_put 16 = .ok (.aload_n 0, 1) := by decide +kernel
theorem dX0_put_17 : decode cX0_put 17 = .ok (.getfield 37, 3) := by decide +kernel
theorem dX0_put_20 : decode cX0_put 20 = .ok (.iconst 0, 1) := by decide +kernel
theorem dX0_put_21 : decode cX0_put 21 = .ok (.iaload, 1) := by decide +kernel
theorem dX0_put_22 : decode cX0_put 22 = .ok (.iconst 2, 1) := by decide +kernel
theorem dX0_put_23 : decode cX0_put 23 = .ok (.if_icmp .ne 17, 3) := by decide +kernel
theorem dX0_put_26 : decode cX0_put 26 = .ok (.aload_n 0, 1) := by decide +kernel
theorem dX0_put_27 : decode cX0_put 27 = .ok (.aload_n 0, 1) := by decide +kernel
theorem dX0_put_28 : decode cX0_put 28 = .ok (.getfield 18, 3) := by decide +kernel
theorem dX0_put_31 : decode cX0_put 31 = .ok (.iload 4, 2) := by decide +kernel
theorem dX0_put_33 : decode cX0_put 33 = .ok (.iload 4, 2) := by decide +kernel
theorem dX0_put_35 : decode cX0_put 35 = .ok (.iconst 1, 1) := by decide +kernel
theorem dX0_put_36 : decode cX0_put 36 = .ok (.iadd, 1) := by decide +kernel
theorem dX0_put_37 : decode cX0_put 37 = .ok (.invokevirtual 109, 3) := by decide +kernel
theorem dX0_put_40 : decode cX0_put 40 = .ok (.aload_n 0, 1) := by decide +kernel
theorem dX0_put_41 : decode cX0_put 41 = .ok (.getfield 18, 3) := by decide +kernel
theorem dX0_put_44 : decode cX0_put 44 = .ok (.iload 4, 2) := by decide +kernel
theorem dX0_put_46 : decode cX0_put 46 = .ok (.aload_n 0, 1) := by decide +kernel
theorem dX0_put_47 : decode cX0_put 47 = .ok (.iload_n 3, 1) := by decide +kernel
theorem dX0_put_48 : decode cX0_put 48 = .ok (.invokevirtual 157, 3) := by decide +kernel
theorem dX0_put_51 : decode cX0_put 51 = .ok (.iastore, 1) := by decide +kernel
theorem dX0_put_52 : decode cX0_put 52 = .ok (.aload_n 0, 1) := by decide +kernel
end
section
theorem dX0_put_53 : decode cX0_put 53 = .ok (.getfield 37, 3) := by decide +kernel
theorem dX0_put_56 : decode cX0_put 56 = .ok (.iconst 0, 1) := by decide +kernel
theorem dX0_put_57 : decode cX0_put 57 = .ok (.iaload, 1) := by decide +kernel
theorem dX0_put_58 : decode cX0_put 58 = .ok (.iconst 1, 1) := by decide +kernel
theorem dX0_put_59 : decode cX0_put 59 = .ok (.if_icmp .ne 17, 3) := by decide +kernel
theorem dX0_put_62 : decode cX0_put 62 = .ok (.aload_n 0, 1) := by decide +kernel
theorem dX0_put_63 : decode cX0_put 63 = .ok (.aload_n 0, 1) := by decide +kernel
theorem dX0_put_64 : decode cX0_put 64 = .ok (.getfield 18, 3) := by decide +kernel
theorem dX0_put_67 : decode cX0_put 67 = .ok (.iload 4, 2) := by decide +kernel
theorem dX0_put_69 : decode cX0_put 69 = .ok (.iload 4, 2) := by decide +kernel
theorem dX0_put_71 : decode cX0_put 71 = .ok (.iconst 1, 1) := by decide +kernel
theorem dX0_put_72 : decode cX0_put 72 = .ok (.iadd, 1) := by decide +kernel
theorem dX0_put_73 : decode cX0_put 73 = .ok (.invokevirtual 109, 3) := by decide +kernel
theorem dX0_put_76 : decode cX0_put 76 = .ok (.iconst 1, 1) := by decide +kernel
theorem dX0_put_77 : decode cX0_put 77 = .ok (.ireturn, 1) := by decide +kernel
theorem dX0_strengthen_0 : decode cX0_strengthen 0 = .ok (.aload_n 0, 1) := by decide +kernel
theorem dX0_strengthen_1 : decode cX0_strengthen 1 = .ok (.getfield 28, 3) := by decide +kernel
theorem dX0_strengthen_4 : decode cX0_strengthen 4 = .ok (.iload_n 1, 1) := by decide +kernel
theorem dX0_strengthen_5 : decode cX0_strengthen 5 = .ok (.aload_n 0, 1) := by decide +kernel
theorem dX0_strengthen_6 : decode cX0_strengthen 6 = .ok (.getfield 31, 3) := by decide +kernel
theorem dX0_strengthen_9 : decode cX0_strengthen 9 = .ok (.iload_n 2, 1) := by decide +kernel
theorem dX0_strengthen_10 : decode cX0_strengthen 10 = .ok (.iaload, 1) := by decide +kernel
theorem dX0_strengthen_11 : decode cX0_strengthen 11 = .ok (.iastore, 1) := by decide +kernel
theorem dX0_strengthen_12 : decode cX0_strengthen 12 = .ok (.aload_n 0, 1) := by decide +kernel
theorem dX0_strengthen_13 : decode cX0_strengthen 13 = .ok (.getfield 37, 3) := by decide +kernel
theorem dX0_strengthen_16 : decode cX0_strengthen 16 = .ok (.iconst 0, 1) := by decide +kernel
theorem dX0_strengthen_17 : decode cX0_strengthen 17 = .ok (.iaload, 1) := by decide +kernel
theorem dX0_strengthen_18 : decode cX0_strengthen 18 = .ok (.iconst 3, 1) := by decide +kernel
theorem dX0_strengthen_19 : decode cX0_strengthen 19 = .ok (.if_icmp .eq 15, 3) := by decide +kernel
theorem dX0_strengthen_22 : decode cX0_strengthen 22 = .ok (.aload_n 0, 1) := by decide +kernel
theorem dX0_strengthen_23 : decode cX0_strengthen 23 = .ok (.aload_n 0, 1) := by decide +kernel
theorem dX0_strengthen_24 : decode cX0_strengthen 24 = .ok (.getfield 28, 3) := by decide +kernel
theorem dX0_strengthen_27 : decode cX0_strengthen 27 = .ok (.iload_n 1, 1) := by decide +kernel
theorem dX0_strengthen_28 : decode cX0_strengthen 28 = .ok (.iload_n 1, 1) := by decide +kernel
theorem dX0_strengthen_29 : decode cX0_strengthen 29 = .ok (.iconst 1, 1) := by decide +kernel
theorem dX0_strengthen_30 : decode cX0_strengthen 30 = .ok (.iadd, 1) := by decide +kernel
theorem dX0_strengthen_31 : decode cX0_strengthen 31 = .ok (.invokevirtual 109, 3) := by decide +kernel
theorem dX0_strengthen_34 : decode cX0_strengthen 34 = .ok (.aload_n 0, 1) := by decide +kernel
theorem dX0_strengthen_35 : decode cX0_strengthen 35 = .ok (.getfield 28, 3) := by decide +kernel
theorem dX0_strengthen_38 : decode cX0_strengthen 38 = .ok (.iload_n 1, 1) := by decide +kernel
theorem dX0_strengthen_39 : decode cX0_strengthen 39 = .ok (.iaload, 1) := by decide +kernel
theorem dX0_strengthen_40 : decode cX0_strengthen 40 = .ok (.ireturn, 1) := by decide +kernel
theorem dX0_greyAt_0 : decode cX0_greyAt 0 = .ok (.aload_n 0, 1) := by decide +kernel
theorem dX0_greyAt_1 : decode cX0_greyAt 1 = .ok (.getfield 65, 3) := by decide +kernel
theorem dX0_greyAt_4 : decode cX0_greyAt 4 = .ok (.iconst (-1), 1) := by decide +kernel
theorem dX0_greyAt_5 : decode cX0_greyAt 5 = .ok (.if_icmp .eq 12, 3) := by decide +kernel
theorem dX0_greyAt_8 : decode cX0_greyAt 8 = .ok (.iload_n 1, 1) := by decide +kernel
theorem dX0_greyAt_9 : decode cX0_greyAt 9 = .ok (.ifCond .ne 8, 3) := by decide +kernel
theorem dX0_greyAt_12 : decode cX0_greyAt 12 = .ok (.aload_n 0, 1) := by decide +kernel
theorem dX0_greyAt_13 : decode cX0_greyAt 13 = .ok (.getfield 65, 3) := by decide +kernel
theorem dX0_greyAt_16 : decode cX0_greyAt 16 = .ok (.ireturn, 1) := by decide +kernel
theorem dX0_greyAt_17 : decode cX0_greyAt 17 = .ok (.aload_n 0, 1) := by decide +kernel
theorem dX0_greyAt_18 : decode cX0_greyAt 18 = .ok (.getfield 65, 3) := by decide +kernel
theorem dX0_greyAt_21 : decode cX0_greyAt 21 = .ok (.iconst (-1), 1) := by decide +kernel
theorem dX0_greyAt_22 : decode cX0_greyAt 22 = .ok (.if_icmp .ne 7, 3) := by decide +kernel
theorem dX0_greyAt_25 : decode cX0_greyAt 25 = .ok (.iload_n 1, 1) := by decide +kernel
theorem dX0_greyAt_26 : decode cX0_greyAt 26 = .ok (.goto 6, 3) := by decide +kernel
theorem dX0_greyAt_29 : decode cX0_greyAt 29 = .ok (.iload_n 1, 1) := by decide +kernel
theorem dX0_greyAt_30 : decode cX0_greyAt 30 = .ok (.iconst 1, 1) := by decide +kernel
theorem dX0_greyAt_31 : decode cX0_greyAt 31 = .ok (.isub, 1) := by decide +kernel
theorem dX0_greyAt_32 : decode cX0_greyAt 32 = .ok (.istore_n 2, 1) := by decide +kernel
theorem dX0_greyAt_33 : decode cX0_greyAt 33 = .ok (.iconst 0, 1) := by decide +kernel
theorem dX0_greyAt_34 : decode cX0_greyAt 34 = .ok (.istore_n 3, 1) := by decide +kernel
theorem dX0_greyAt_35 : decode cX0_greyAt 35 = .ok (.iload_n 3, 1) := by decide +kernel
theorem dX0_greyAt_36 : decode cX0_greyAt 36 = .ok (.aload_n 0, 1) := by decide +kernel
theorem dX0_greyAt_37 : decode cX0_greyAt 37 = .ok (.getfield 62, 3) := by decide +kernel
theorem dX0_greyAt_40 : decode cX0_greyAt 40 = .ok (.if_icmp .ge 56, 3) := by decide +kernel
theorem dX0_greyAt_43 : decode cX0_greyAt 43 = .ok (.iconst 0, 1) := by decide +kernel
theorem dX0_greyAt_44 : decode cX0_greyAt 44 = .ok (.istore 4, 2) := by decide +kernel
theorem dX0_greyAt_46 : decode cX0_greyAt 46 = .ok (.iconst 0, 1) := by decide +kernel
theorem dX0_greyAt_47 : decode cX0_greyAt 47 = .ok (.istore 5, 2) := by decide +kernel
theorem dX0_greyAt_49 : decode cX0_greyAt 49 = .ok (.iload 5, 2) := by decide +kernel
theorem dX0_greyAt_51 : decode cX0_greyAt 51 = .ok (.aload_n 0, 1) := by decide +kernel
theorem dX0_greyAt_52 : decode cX0_greyAt 52 = .ok (.getfield 62, 3) := by decide +kernel
theorem dX0_greyAt_55 : decode cX0_greyAt 55 = .ok (.if_icmp .ge 22, 3) := by decide +kernel
theorem dX0_greyAt_58 : decode cX0_greyAt 58 = .ok (.aload_n 0, 1) := by decide +kernel
theorem dX0_greyAt_59 : decode cX0_greyAt 59 = .ok (.iload 5, 2) := by decide +kernel
theorem dX0_greyAt_61 : decode cX0_greyAt 61 = .ok (.iload_n 3, 1) := by decide +kernel
theorem dX0_greyAt_62 : decode cX0_greyAt 62 = .ok (.invokevirtual 122, 3) := by decide +kernel
theorem dX0_greyAt_65 : decode cX0_greyAt 65 = .ok (.ifCond .eq 6, 3) := by decide +kernel
theorem dX0_greyAt_68 : decode cX0_greyAt 68 = .ok (.iinc 4 1, 3) := by decide +kernel
theorem dX0_greyAt_71 : decode cX0_greyAt 71 = .ok (.iinc 5 1, 3) := by decide +kernel
theorem dX0_greyAt_74 : decode cX0_greyAt 74 = .ok (.goto (-25), 3) := by decide +kernel
theorem dX0_greyAt_77 : decode cX0_greyAt 77 = .ok (.iload 4, 2) := by decide +kernel
theorem dX0_greyAt_79 : decode cX0_greyAt 79 = .ok (.iload_n 2, 1) := by decide +kernel
theorem dX0_greyAt_80 : decode cX0_greyAt 80 = .ok (.if_icmp .ne 10, 3) := by decide +kernel
theorem dX0_greyAt_83 : decode cX0_greyAt 83 = .ok (.aload_n 0, 1) := by decide +kernel
theorem dX0_greyAt_84 : decode cX0_greyAt 84 = .ok (.getfield 34, 3) := by decide +kernel
theorem dX0_greyAt_87 : decode cX0_greyAt 87 = .ok (.iload_n 3, 1) := by decide +kernel
theorem dX0_greyAt_88 : decode cX0_greyAt 88 = .ok (.iaload, 1) := by decide +kernel
theorem dX0_greyAt_89 : decode cX0_greyAt 89 = .ok (.ireturn, 1) := by decide +kernel
theorem dX0_greyAt_90 : decode cX0_greyAt 90 = .ok (.iinc 3 1, 3) := by decide +kernel
theorem dX0_greyAt_93 : decode cX0_greyAt 93 = .ok (.goto (-58), 3) := by decide +kernel
theorem dX0_greyAt_96 : decode cX0_greyAt 96 = .ok (.iconst (-1), 1) := by decide +kernel
theorem dX0_greyAt_97 : decode cX0_greyAt 97 = .ok (.ireturn, 1) := by decide +kernel
theorem dX0_objects_0 : decode cX0_objects 0 = .ok (.iconst 0, 1) := by decide +kernel
theorem dX0_objects_1 : decode cX0_objects 1 = .ok (.istore_n 1, 1) := by decide +kernel
theorem dX0_objects_2 : decode cX0_objects 2 = .ok (.iconst 0, 1) := by decide +kernel
theorem dX0_objects_3 : decode cX0_objects 3 = .ok (.istore_n 2, 1) := by decide +kernel
theorem dX0_objects_4 : decode cX0_objects 4 = .ok (.iload_n 2, 1) := by decide +kernel
theorem dX0_objects_5 : decode cX0_objects 5 = .ok (.aload_n 0, 1) := by decide +kernel
theorem dX0_objects_6 : decode cX0_objects 6 = .ok (.getfield 58, 3) := by decide +kernel
theorem dX0_objects_9 : decode cX0_objects 9 = .ok (.if_icmp .ge 18, 3) := by decide +kernel
theorem dX0_objects_12 : decode cX0_objects 12 = .ok (.iload_n 1, 1) := by decide +kernel
theorem dX0_objects_13 : decode cX0_objects 13 = .ok (.aload_n 0, 1) := by decide +kernel
theorem dX0_objects_14 : decode cX0_objects 14 = .ok (.getfield 25, 3) := by decide +kernel
theorem dX0_objects_17 : decode cX0_objects 17 = .ok (.iload_n 2, 1) := by decide +kernel
theorem dX0_objects_18 : decode cX0_objects 18 = .ok (.iaload, 1) := by decide +kernel
theorem dX0_objects_19 : decode cX0_objects 19 = .ok (.iadd, 1) := by decide +kernel
theorem dX0_objects_20 : decode cX0_objects 20 = .ok (.istore_n 1, 1) := by decide +kernel
theorem dX0_objects_21 : decode cX0_objects 21 = .ok (.iinc 2 1, 3) := by decide +kernel
theorem dX0_objects_24 : decode cX0_objects 24 = .ok (.goto (-20), 3) := by decide +kernel
theorem dX0_objects_27 : decode cX0_objects 27 = .ok (.iload_n 1, 1) := by decide +kernel
theorem dX0_objects_28 : decode cX0_objects 28 = .ok (.ireturn, 1) := by decide +kernel
theorem dX0_objectCells_0 : decode cX0_objectCells 0 = .ok (.iconst 0, 1) := by decide +kernel
theorem dX0_objectCells_1 : decode cX0_objectCells 1 = .ok (.istore_n 1, 1) := by decide +kernel
theorem dX0_objectCells_2 : decode cX0_objectCells 2 = .ok (.iconst 0, 1) := by decide +kernel
theorem dX0_objectCells_3 : decode cX0_objectCells 3 = .ok (.istore_n 2, 1) := by decide +kernel
theorem dX0_objectCells_4 : decode cX0_objectCells 4 = .ok (.iload_n 2, 1) := by decide +kernel
theorem dX0_objectCells_5 : decode cX0_objectCells 5 = .ok (.aload_n 0, 1) := by decide +kernel
theorem dX0_objectCells_6 : decode cX0_objectCells 6 = .ok (.getfield 58, 3) := by decide +kernel
theorem dX0_objectCells_9 : decode cX0_objectCells 9 = .ok (.if_icmp .ge 25, 3) := by decide +kernel
theorem dX0_objectCells_12 : decode cX0_objectCells 12 = .ok (.iload_n 1, 1) := by decide +kernel
theorem dX0_objectCells_13 : decode cX0_objectCells 13 = .ok (.aload_n 0, 1) := by decide +kernel
theorem dX0_objectCells_14 : decode cX0_objectCells 14 = .ok (.getfield 25, 3) := by decide +kernel
theorem dX0_objectCells_17 : decode cX0_objectCells 17 = .ok (.iload_n 2, 1) := by decide +kernel
theorem dX0_objectCells_18 : decode cX0_objectCells 18 = .ok (.iaload, 1) := by decide +kernel
theorem dX0_objectCells_19 : decode cX0_objectCells 19 = .ok (.aload_n 0, 1) := by decide +kernel
theorem dX0_objectCells_20 : decode cX0_objectCells 20 = .ok (.getfield 22, 3) := by decide +kernel
theorem dX0_objectCells_23 : decode cX0_objectCells 23 = .ok (.iload_n 2, 1) := by decide +kernel
theorem dX0_objectCells_24 : decode cX0_objectCells 24 = .ok (.iaload, 1) := by decide +kernel
theorem dX0_objectCells_25 : decode cX0_objectCells 25 = .ok (.imul, 1) := by decide +kernel
theorem dX0_objectCells_26 : decode cX0_objectCells 26 = .ok (.iadd, 1) := by decide +kernel
theorem dX0_objectCells_27 : decode cX0_objectCells 27 = .ok (.istore_n 1, 1) := by decide +kernel
theorem dX0_objectCells_28 : decode cX0_objectCells 28 = .ok (.iinc 2 1, 3) := by decide +kernel
theorem dX0_objectCells_31 : decode cX0_objectCells 31 = .ok (.goto (-27), 3) := by decide +kernel
theorem dX0_objectCells_34 : decode cX0_objectCells 34 = .ok (.iload_n 1, 1) := by decide +kernel
theorem dX0_objectCells_35 : decode cX0_objectCells 35 = .ok (.ireturn, 1) := by decide +kernel
theorem dX0_toldCycles_0 : decode cX0_toldCycles 0 = .ok (.aload_n 0, 1) := by decide +kernel
theorem dX0_toldCycles_1 : decode cX0_toldCycles 1 = .ok (.getfield 40, 3) := by decide +kernel
theorem dX0_toldCycles_4 : decode cX0_toldCycles 4 = .ok (.iconst 0, 1) := by decide +kernel
theorem dX0_toldCycles_5 : decode cX0_toldCycles 5 = .ok (.iaload, 1) := by decide +kernel
theorem dX0_toldCycles_6 : decode cX0_toldCycles 6 = .ok (.bipush 16, 2) := by decide +kernel
theorem dX0_toldCycles_8 : decode cX0_toldCycles 8 = .ok (.invokestatic 160, 3) := by decide +kernel
theorem dX0_toldCycles_11 : decode cX0_toldCycles 11 = .ok (.ireturn, 1) := by decide +kernel
theorem dX0_toldPart_0 : decode cX0_toldPart 0 = .ok (.aload_n 0, 1) := by decide +kernel
theorem dX0_toldPart_1 : decode cX0_toldPart 1 = .ok (.getfield 43, 3) := by decide +kernel
theorem dX0_toldPart_4 : decode cX0_toldPart 4 = .ok (.aload_n 0, 1) := by decide +kernel
theorem dX0_toldPart_5 : decode cX0_toldPart 5 = .ok (.getfield 40, 3) := by decide +kernel
theorem dX0_toldPart_8 : decode cX0_toldPart 8 = .ok (.iconst 0, 1) := by decide +kernel
theorem dX0_toldPart_9 : decode cX0_toldPart 9 = .ok (.iaload, 1) := by decide +kernel
theorem dX0_toldPart_10 : decode cX0_toldPart 10 = .ok (.iconst 1, 1) := by decide +kernel
theorem dX0_toldPart_11 : decode cX0_toldPart 11 = .ok (.isub, 1) := by decide +kernel
theorem dX0_toldPart_12 : decode cX0_toldPart 12 = .ok (.iload_n 1, 1) := by decide +kernel
theorem dX0_toldPart_13 : decode cX0_toldPart 13 = .ok (.isub, 1) := by decide +kernel
theorem dX0_toldPart_14 : decode cX0_toldPart 14 = .ok (.bipush 16, 2) := by decide +kernel
theorem dX0_toldPart_16 : decode cX0_toldPart 16 = .ok (.irem, 1) := by decide +kernel
theorem dX0_toldPart_17 : decode cX0_toldPart 17 = .ok (.iconst 3, 1) := by decide +kernel
theorem dX0_toldPart_18 : decode cX0_toldPart 18 = .ok (.imul, 1) := by decide +kernel
theorem dX0_toldPart_19 : decode cX0_toldPart 19 = .ok (.iload_n 2, 1) := by decide +kernel
theorem dX0_toldPart_20 : decode cX0_toldPart 20 = .ok (.iadd, 1) := by decide +kernel
theorem dX0_toldPart_21 : decode cX0_toldPart 21 = .ok (.iaload, 1) := by decide +kernel
theorem dX0_toldPart_22 : decode cX0_toldPart 22 = .ok (.ireturn, 1) := by decide +kernel
theorem dX0_namedBy_0 : decode cX0_namedBy 0 = .ok (.iconst 0, 1) := by decide +kernel
theorem dX0_namedBy_1 : decode cX0_namedBy 1 = .ok (.istore_n 2, 1) := by decide +kernel
theorem dX0_namedBy_2 : decode cX0_namedBy 2 = .ok (.iconst 0, 1) := by decide +kernel
theorem dX0_namedBy_3 : decode cX0_namedBy 3 = .ok (.istore_n 3, 1) := by decide +kernel
theorem dX0_namedBy_4 : decode cX0_namedBy 4 = .ok (.iload_n 3, 1) := by decide +kernel
theorem dX0_namedBy_5 : decode cX0_namedBy 5 = .ok (.aload_n 0, 1) := by decide +kernel
theorem dX0_namedBy_6 : decode cX0_namedBy 6 = .ok (.getfield 18, 3) := by decide +kernel
theorem dX0_namedBy_9 : decode cX0_namedBy 9 = .ok (.iload_n 1, 1) := by decide +kernel
theorem dX0_namedBy_10 : decode cX0_namedBy 10 = .ok (.iaload, 1) := by decide +kernel
theorem dX0_namedBy_11 : decode cX0_namedBy 11 = .ok (.if_icmp .ge 26, 3) := by decide +kernel
theorem dX0_namedBy_14 : decode cX0_namedBy 14 = .ok (.aload_n 0, 1) := by decide +kernel
theorem dX0_namedBy_15 : decode cX0_namedBy 15 = .ok (.getfield 18, 3) := by decide +kernel
theorem dX0_namedBy_18 : decode cX0_namedBy 18 = .ok (.iload_n 1, 1) := by decide +kernel
theorem dX0_namedBy_19 : decode cX0_namedBy 19 = .ok (.iconst 1, 1) := by decide +kernel
theorem dX0_namedBy_20 : decode cX0_namedBy 20 = .ok (.iadd, 1) := by decide +kernel
theorem dX0_namedBy_21 : decode cX0_namedBy 21 = .ok (.iload_n 3, 1) := by decide +kernel
theorem dX0_namedBy_22 : decode cX0_namedBy 22 = .ok (.iadd, 1) := by decide +kernel
theorem dX0_namedBy_23 : decode cX0_namedBy 23 = .ok (.iaload, 1) := by decide +kernel
theorem dX0_namedBy_24 : decode cX0_namedBy 24 = .ok (.iconst (-1), 1) := by decide +kernel
theorem dX0_namedBy_25 : decode cX0_namedBy 25 = .ok (.if_icmp .eq 6, 3) := by decide +kernel
theorem dX0_namedBy_28 : decode cX0_namedBy 28 = .ok (.iinc 2 1, 3) := by decide +kernel
theorem dX0_namedBy_31 : decode cX0_namedBy 31 = .ok (.iinc 3 1, 3) := by decide +kernel
theorem dX0_namedBy_34 : decode cX0_namedBy 34 = .ok (.goto (-30), 3) := by decide +kernel
theorem dX0_namedBy_37 : decode cX0_namedBy 37 = .ok (.iload_n 2, 1) := by decide +kernel
theorem dX0_namedBy_38 : decode cX0_namedBy 38 = .ok (.ireturn, 1) := by decide +kernel
theorem dX0_blackOverEcru_0 : decode cX0_blackOverEcru 0 = .ok (.iconst 0, 1) := by decide +kernel
theorem dX0_blackOverEcru_1 : decode cX0_blackOverEcru 1 = .ok (.istore_n 1, 1) := by decide +kernel
theorem dX0_blackOverEcru_2 : decode cX0_blackOverEcru 2 = .ok (.iconst 0, 1) := by decide +kernel
theorem dX0_blackOverEcru_3 : decode cX0_blackOverEcru 3 = .ok (.istore_n 2, 1) := by decide +kernel
theorem dX0_blackOverEcru_4 : decode cX0_blackOverEcru 4 = .ok (.iload_n 2, 1) := by decide +kernel
theorem dX0_blackOverEcru_5 : decode cX0_blackOverEcru 5 = .ok (.sipush 128, 3) := by decide +kernel
theorem dX0_blackOverEcru_8 : decode cX0_blackOverEcru 8 = .ok (.if_icmp .ge 49, 3) := by decide +kernel
theorem dX0_blackOverEcru_11 : decode cX0_blackOverEcru 11 = .ok (.aload_n 0, 1) := by decide +kernel
theorem dX0_blackOverEcru_12 : decode cX0_blackOverEcru 12 = .ok (.getfield 12, 3) := by decide +kernel
theorem dX0_blackOverEcru_15 : decode cX0_blackOverEcru 15 = .ok (.iload_n 2, 1) := by decide +kernel
theorem dX0_blackOverEcru_16 : decode cX0_blackOverEcru 16 = .ok (.invokevirtual 88, 3) := by decide +kernel
theorem dX0_blackOverEcru_19 : decode cX0_blackOverEcru 19 = .ok (.iconst 3, 1) := by decide +kernel
theorem dX0_blackOverEcru_20 : decode cX0_blackOverEcru 20 = .ok (.if_icmp .ne 31, 3) := by decide +kernel
theorem dX0_blackOverEcru_23 : decode cX0_blackOverEcru 23 = .ok (.aload_n 0, 1) := by decide +kernel
theorem dX0_blackOverEcru_24 : decode cX0_blackOverEcru 24 = .ok (.iconst 1, 1) := by decide +kernel
theorem dX0_blackOverEcru_25 : decode cX0_blackOverEcru 25 = .ok (.aload_n 0, 1) := by decide +kernel
theorem dX0_blackOverEcru_26 : decode cX0_blackOverEcru 26 = .ok (.getfield 18, 3) := by decide +kernel
theorem dX0_blackOverEcru_29 : decode cX0_blackOverEcru 29 = .ok (.iload_n 2, 1) := by decide +kernel
theorem dX0_blackOverEcru_30 : decode cX0_blackOverEcru 30 = .ok (.iconst 1, 1) := by decide +kernel
theorem dX0_blackOverEcru_31 : decode cX0_blackOverEcru 31 = .ok (.iadd, 1) := by decide +kernel
theorem dX0_blackOverEcru_32 : decode cX0_blackOverEcru 32 = .ok (.iload_n 2, 1) := by decide +kernel
theorem dX0_blackOverEcru_33 : decode cX0_blackOverEcru 33 = .ok (.iconst 1, 1) := by decide +kernel
theorem dX0_blackOverEcru_34 : decode cX0_blackOverEcru 34 = .ok (.iadd, 1) := by decide +kernel
theorem dX0_blackOverEcru_35 : decode cX0_blackOverEcru 35 = .ok (.aload_n 0, 1) := by decide +kernel
theorem dX0_blackOverEcru_36 : decode cX0_blackOverEcru 36 = .ok (.getfield 18, 3) := by decide +kernel
theorem dX0_blackOverEcru_39 : decode cX0_blackOverEcru 39 = .ok (.iload_n 2, 1) := by decide +kernel
theorem dX0_blackOverEcru_40 : decode cX0_blackOverEcru 40 = .ok (.iaload, 1) := by decide +kernel
theorem dX0_blackOverEcru_41 : decode cX0_blackOverEcru 41 = .ok (.iadd, 1) := by decide +kernel
theorem dX0_blackOverEcru_42 : decode cX0_blackOverEcru 42 = .ok (.invokevirtual 165, 3) := by decide +kernel
theorem dX0_blackOverEcru_45 : decode cX0_blackOverEcru 45 = .ok (.ifCond .le 6, 3) := by decide +kernel
theorem dX0_blackOverEcru_48 : decode cX0_blackOverEcru 48 = .ok (.iinc 1 1, 3) := by decide +kernel
theorem dX0_blackOverEcru_51 : decode cX0_blackOverEcru 51 = .ok (.iinc 2 2, 3) := by decide +kernel
theorem dX0_blackOverEcru_54 : decode cX0_blackOverEcru 54 = .ok (.goto (-50), 3) := by decide +kernel
theorem dX0_blackOverEcru_57 : decode cX0_blackOverEcru 57 = .ok (.iload_n 1, 1) := by decide +kernel
theorem dX0_blackOverEcru_58 : decode cX0_blackOverEcru 58 = .ok (.ireturn, 1) := by decide +kernel
theorem dX0_namesOfFree_0 : decode cX0_namesOfFree 0 = .ok (.aload_n 0, 1) := by decide +kernel
theorem dX0_namesOfFree_1 : decode cX0_namesOfFree 1 = .ok (.iconst 0, 1) := by decide +kernel
theorem dX0_namesOfFree_2 : decode cX0_namesOfFree 2 = .ok (.aload_n 0, 1) := by decide +kernel
theorem dX0_namesOfFree_3 : decode cX0_namesOfFree 3 = .ok (.getfield 28, 3) := by decide +kernel
theorem dX0_namesOfFree_6 : decode cX0_namesOfFree 6 = .ok (.iconst 0, 1) := by decide +kernel
theorem dX0_namesOfFree_7 : decode cX0_namesOfFree 7 = .ok (.bipush 6, 2) := by decide +kernel
theorem dX0_namesOfFree_9 : decode cX0_namesOfFree 9 = .ok (.invokevirtual 165, 3) := by decide +kernel
theorem dX0_namesOfFree_12 : decode cX0_namesOfFree 12 = .ok (.istore_n 1, 1) := by decide +kernel
theorem dX0_namesOfFree_13 : decode cX0_namesOfFree 13 = .ok (.iconst 0, 1) := by decide +kernel
theorem dX0_namesOfFree_14 : decode cX0_namesOfFree 14 = .ok (.istore_n 2, 1) := by decide +kernel
theorem dX0_namesOfFree_15 : decode cX0_namesOfFree 15 = .ok (.iload_n 2, 1) := by decide +kernel
theorem dX0_namesOfFree_16 : decode cX0_namesOfFree 16 = .ok (.sipush 128, 3) := by decide +kernel
theorem dX0_namesOfFree_19 : decode cX0_namesOfFree 19 = .ok (.if_icmp .ge 42, 3) := by decide +kernel
theorem dX0_namesOfFree_22 : decode cX0_namesOfFree 22 = .ok (.aload_n 0, 1) := by decide +kernel
theorem dX0_namesOfFree_23 : decode cX0_namesOfFree 23 = .ok (.iload_n 2, 1) := by decide +kernel
theorem dX0_namesOfFree_24 : decode cX0_namesOfFree 24 = .ok (.invokevirtual 169, 3) := by decide +kernel
theorem dX0_namesOfFree_27 : decode cX0_namesOfFree 27 = .ok (.ifCond .eq 28, 3) := by decide +kernel
theorem dX0_namesOfFree_30 : decode cX0_namesOfFree 30 = .ok (.iload_n 1, 1) := by decide +kernel
theorem dX0_namesOfFree_31 : decode cX0_namesOfFree 31 = .ok (.aload_n 0, 1) := by decide +kernel
theorem dX0_namesOfFree_32 : decode cX0_namesOfFree 32 = .ok (.iconst 0, 1) := by decide +kernel
theorem dX0_namesOfFree_33 : decode cX0_namesOfFree 33 = .ok (.aload_n 0, 1) := by decide +kernel
theorem dX0_namesOfFree_34 : decode cX0_namesOfFree 34 = .ok (.getfield 18, 3) := by decide +kernel
theorem dX0_namesOfFree_37 : decode cX0_namesOfFree 37 = .ok (.iload_n 2, 1) := by decide +kernel
theorem dX0_namesOfFree_38 : decode cX0_namesOfFree 38 = .ok (.iconst 1, 1) := by decide +kernel
theorem dX0_namesOfFree_39 : decode cX0_namesOfFree 39 = .ok (.iadd, 1) := by decide +kernel
theorem dX0_namesOfFree_40 : decode cX0_namesOfFree 40 = .ok (.iload_n 2, 1) := by decide +kernel
theorem dX0_namesOfFree_41 : decode cX0_namesOfFree 41 = .ok (.iconst 1, 1) := by decide +kernel
theorem dX0_namesOfFree_42 : decode cX0_namesOfFree 42 = .ok (.iadd, 1) := by decide +kernel
theorem dX0_namesOfFree_43 : decode cX0_namesOfFree 43 = .ok (.aload_n 0, 1) := by decide +kernel
theorem dX0_namesOfFree_44 : decode cX0_namesOfFree 44 = .ok (.getfield 18, 3) := by decide +kernel
theorem dX0_namesOfFree_47 : decode cX0_namesOfFree 47 = .ok (.iload_n 2, 1) := by decide +kernel
theorem dX0_namesOfFree_48 : decode cX0_namesOfFree 48 = .ok (.iaload, 1) := by decide +kernel
theorem dX0_namesOfFree_49 : decode cX0_namesOfFree 49 = .ok (.iadd, 1) := by decide +kernel
theorem dX0_namesOfFree_50 : decode cX0_namesOfFree 50 = .ok (.invokevirtual 165, 3) := by decide +kernel
theorem dX0_namesOfFree_53 : decode cX0_namesOfFree 53 = .ok (.iadd, 1) := by decide +kernel
theorem dX0_namesOfFree_54 : decode cX0_namesOfFree 54 = .ok (.istore_n 1, 1) := by decide +kernel
theorem dX0_namesOfFree_55 : decode cX0_namesOfFree 55 = .ok (.iinc 2 2, 3) := by decide +kernel
theorem dX0_namesOfFree_58 : decode cX0_namesOfFree 58 = .ok (.goto (-43), 3) := by decide +kernel
theorem dX0_namesOfFree_61 : decode cX0_namesOfFree 61 = .ok (.iload_n 1, 1) := by decide +kernel
theorem dX0_namesOfFree_62 : decode cX0_namesOfFree 62 = .ok (.ireturn, 1) := by decide +kernel
theorem dX0_namesOf_0 : decode cX0_namesOf 0 = .ok (.iconst 0, 1) := by decide +kernel
theorem dX0_namesOf_1 : decode cX0_namesOf 1 = .ok (.istore 5, 2) := by decide +kernel
theorem dX0_namesOf_3 : decode cX0_namesOf 3 = .ok (.iload_n 3, 1) := by decide +kernel
theorem dX0_namesOf_4 : decode cX0_namesOf 4 = .ok (.istore 6, 2) := by decide +kernel
theorem dX0_namesOf_6 : decode cX0_namesOf 6 = .ok (.iload 6, 2) := by decide +kernel
theorem dX0_namesOf_8 : decode cX0_namesOf 8 = .ok (.iload 4, 2) := by decide +kernel
theorem dX0_namesOf_10 : decode cX0_namesOf 10 = .ok (.if_icmp .ge 27, 3) := by decide +kernel
theorem dX0_namesOf_13 : decode cX0_namesOf 13 = .ok (.aload_n 0, 1) := by decide +kernel
theorem dX0_namesOf_14 : decode cX0_namesOf 14 = .ok (.getfield 12, 3) := by decide +kernel
theorem dX0_namesOf_17 : decode cX0_namesOf 17 = .ok (.aload_n 2, 1) := by decide +kernel
theorem dX0_namesOf_18 : decode cX0_namesOf 18 = .ok (.iload 6, 2) := by decide +kernel
theorem dX0_namesOf_20 : decode cX0_namesOf 20 = .ok (.iaload, 1) := by decide +kernel
theorem dX0_namesOf_21 : decode cX0_namesOf 21 = .ok (.invokevirtual 88, 3) := by decide +kernel
theorem dX0_namesOf_24 : decode cX0_namesOf 24 = .ok (.iload_n 1, 1) := by decide +kernel
theorem dX0_namesOf_25 : decode cX0_namesOf 25 = .ok (.if_icmp .ne 6, 3) := by decide +kernel
theorem dX0_namesOf_28 : decode cX0_namesOf 28 = .ok (.iinc 5 1, 3) := by decide +kernel
theorem dX0_namesOf_31 : decode cX0_namesOf 31 = .ok (.iinc 6 1, 3) := by decide +kernel
theorem dX0_namesOf_34 : decode cX0_namesOf 34 = .ok (.goto (-28), 3) := by decide +kernel
theorem dX0_namesOf_37 : decode cX0_namesOf 37 = .ok (.iload 5, 2) := by decide +kernel
theorem dX0_namesOf_39 : decode cX0_namesOf 39 = .ok (.ireturn, 1) := by decide +kernel
theorem dX1_init_0 : decode cX1_init 0 = .ok (.aload_n 0, 1) := by decide +kernel
theorem dX1_init_1 : decode cX1_init 1 = .ok (.invokespecial 3, 3) := by decide +kernel
theorem dX1_init_4 : decode cX1_init 4 = .ok (.aload_n 0, 1) := by decide +kernel
theorem dX1_init_5 : decode cX1_init 5 = .ok (.sipush 128, 3) := by decide +kernel
theorem dX1_init_8 : decode cX1_init 8 = .ok (.newarray .int, 2) := by decide +kernel
theorem dX1_init_10 : decode cX1_init 10 = .ok (.putfield 9, 3) := by decide +kernel
theorem dX1_init_13 : decode cX1_init 13 = .ok (.aload_n 0, 1) := by decide +kernel
theorem dX1_init_14 : decode cX1_init 14 = .ok (.bipush 64, 2) := by decide +kernel
theorem dX1_init_16 : decode cX1_init 16 = .ok (.newarray .int, 2) := by decide +kernel
theorem dX1_init_18 : decode cX1_init 18 = .ok (.putfield 15, 3) := by decide +kernel
theorem dX1_init_21 : decode cX1_init 21 = .ok (.aload_n 0, 1) := by decide +kernel
theorem dX1_init_22 : decode cX1_init 22 = .ok (.iconst 0, 1) := by decide +kernel
theorem dX1_init_23 : decode cX1_init 23 = .ok (.putfield 18, 3) := by decide +kernel
theorem dX1_init_26 : decode cX1_init 26 = .ok (.return_, 1) := by decide +kernel
theorem dX1_spread_0 : decode cX1_spread 0 = .ok (.aload_n 0, 1) := by decide +kernel
theorem dX1_spread_1 : decode cX1_spread 1 = .ok (.getfield 9, 3) := by decide +kernel
theorem dX1_spread_4 : decode cX1_spread 4 = .ok (.iconst (-1), 1) := by decide +kernel
theorem dX1_spread_5 : decode cX1_spread 5 = .ok (.invokestatic 22, 3) := by decide +kernel
theorem dX1_spread_8 : decode cX1_spread 8 = .ok (.aload_n 0, 1) := by decide +kernel
theorem dX1_spread_9 : decode cX1_spread 9 = .ok (.iconst 0, 1) := by decide +kernel
theorem dX1_spread_10 : decode cX1_spread 10 = .ok (.putfield 18, 3) := by decide +kernel
theorem dX1_spread_13 : decode cX1_spread 13 = .ok (.iload 4, 2) := by decide +kernel
theorem dX1_spread_15 : decode cX1_spread 15 = .ok (.iconst (-1), 1) := by decide +kernel
theorem dX1_spread_16 : decode cX1_spread 16 = .ok (.if_icmp .eq 11, 3) := by decide +kernel
theorem dX1_spread_19 : decode cX1_spread 19 = .ok (.aload_n 0, 1) := by decide +kernel
theorem dX1_spread_20 : decode cX1_spread 20 = .ok (.getfield 9, 3) := by decide +kernel
theorem dX1_spread_23 : decode cX1_spread 23 = .ok (.iload 4, 2) := by decide +kernel
theorem dX1_spread_25 : decode cX1_spread 25 = .ok (.iconst 0, 1) := by decide +kernel
theorem dX1_spread_26 : decode cX1_spread 26 = .ok (.iastore, 1) := by decide +kernel
theorem dX1_spread_27 : decode cX1_spread 27 = .ok (.iload_n 2, 1) := by decide +kernel
theorem dX1_spread_28 : decode cX1_spread 28 = .ok (.istore 5, 2) := by decide +kernel
theorem dX1_spread_30 : decode cX1_spread 30 = .ok (.iload 5, 2) := by decide +kernel
theorem dX1_spread_32 : decode cX1_spread 32 = .ok (.iload_n 3, 1) := by decide +kernel
theorem dX1_spread_33 : decode cX1_spread 33 = .ok (.if_icmp .ge 21, 3) := by decide +kernel
theorem dX1_spread_36 : decode cX1_spread 36 = .ok (.aload_n 0, 1) := by decide +kernel
theorem dX1_spread_37 : decode cX1_spread 37 = .ok (.aload_n 1, 1) := by decide +kernel
theorem dX1_spread_38 : decode cX1_spread 38 = .ok (.getfield 28, 3) := by decide +kernel
theorem dX1_spread_41 : decode cX1_spread 41 = .ok (.iload 5, 2) := by decide +kernel
theorem dX1_spread_43 : decode cX1_spread 43 = .ok (.iaload, 1) := by decide +kernel
theorem dX1_spread_44 : decode cX1_spread 44 = .ok (.iconst 0, 1) := by decide +kernel
theorem dX1_spread_45 : decode cX1_spread 45 = .ok (.invokevirtual 33, 3) := by decide +kernel
theorem dX1_spread_48 : decode cX1_spread 48 = .ok (.iinc 5 1, 3) := by decide +kernel
theorem dX1_spread_51 : decode cX1_spread 51 = .ok (.goto (-21), 3) := by decide +kernel
theorem dX1_spread_54 : decode cX1_spread 54 = .ok (.iconst 0, 1) := by decide +kernel
theorem dX1_spread_55 : decode cX1_spread 55 = .ok (.istore 5, 2) := by decide +kernel
theorem dX1_spread_57 : decode cX1_spread 57 = .ok (.iload 5, 2) := by decide +kernel
theorem dX1_spread_59 : decode cX1_spread 59 = .ok (.aload_n 0, 1) := by decide +kernel
theorem dX1_spread_60 : decode cX1_spread 60 = .ok (.getfield 18, 3) := by decide +kernel
theorem dX1_spread_63 : decode cX1_spread 63 = .ok (.if_icmp .ge 64, 3) := by decide +kernel
theorem dX1_spread_66 : decode cX1_spread 66 = .ok (.aload_n 0, 1) := by decide +kernel
theorem dX1_spread_67 : decode cX1_spread 67 = .ok (.getfield 15, 3) := by decide +kernel
theorem dX1_spread_70 : decode cX1_spread 70 = .ok (.iload 5, 2) := by decide +kernel
theorem dX1_spread_72 : decode cX1_spread 72 = .ok (.iaload, 1) := by decide +kernel
theorem dX1_spread_73 : decode cX1_spread 73 = .ok (.istore 6, 2) := by decide +kernel
theorem dX1_spread_75 : decode cX1_spread 75 = .ok (.iconst 0, 1) := by decide +kernel
theorem dX1_spread_76 : decode cX1_spread 76 = .ok (.istore 7, 2) := by decide +kernel
theorem dX1_spread_78 : decode cX1_spread 78 = .ok (.iload 7, 2) := by decide +kernel
theorem dX1_spread_80 : decode cX1_spread 80 = .ok (.aload_n 1, 1) := by decide +kernel
theorem dX1_spread_81 : decode cX1_spread 81 = .ok (.getfield 37, 3) := by decide +kernel
theorem dX1_spread_84 : decode cX1_spread 84 = .ok (.iload 6, 2) := by decide +kernel
theorem dX1_spread_86 : decode cX1_spread 86 = .ok (.iaload, 1) := by decide +kernel
theorem dX1_spread_87 : decode cX1_spread 87 = .ok (.if_icmp .ge 34, 3) := by decide +kernel
theorem dX1_spread_90 : decode cX1_spread 90 = .ok (.aload_n 0, 1) := by decide +kernel
theorem dX1_spread_91 : decode cX1_spread 91 = .ok (.aload_n 1, 1) := by decide +kernel
theorem dX1_spread_92 : decode cX1_spread 92 = .ok (.getfield 37, 3) := by decide +kernel
theorem dX1_spread_95 : decode cX1_spread 95 = .ok (.iload 6, 2) := by decide +kernel
theorem dX1_spread_97 : decode cX1_spread 97 = .ok (.iconst 1, 1) := by decide +kernel
theorem dX1_spread_98 : decode cX1_spread 98 = .ok (.iadd, 1) := by decide +kernel
theorem dX1_spread_99 : decode cX1_spread 99 = .ok (.iload 7, 2) := by decide +kernel
theorem dX1_spread_101 : decode cX1_spread 101 = .ok (.iadd, 1) := by decide +kernel
theorem dX1_spread_102 : decode cX1_spread 102 = .ok (.iaload, 1) := by decide +kernel
theorem dX1_spread_103 : decode cX1_spread 103 = .ok (.aload_n 0, 1) := by decide +kernel
theorem dX1_spread_104 : decode cX1_spread 104 = .ok (.getfield 9, 3) := by decide +kernel
theorem dX1_spread_107 : decode cX1_spread 107 = .ok (.iload 6, 2) := by decide +kernel
theorem dX1_spread_109 : decode cX1_spread 109 = .ok (.iaload, 1) := by decide +kernel
theorem dX1_spread_110 : decode cX1_spread 110 = .ok (.iconst 1, 1) := by decide +kernel
theorem dX1_spread_111 : decode cX1_spread 111 = .ok (.iadd, 1) := by decide +kernel
theorem dX1_spread_112 : decode cX1_spread 112 = .ok (.invokevirtual 33, 3) := by decide +kernel
theorem dX1_spread_115 : decode cX1_spread 115 = .ok (.iinc 7 1, 3) := by decide +kernel
theorem dX1_spread_118 : decode cX1_spread 118 = .ok (.goto (-40), 3) := by decide +kernel
theorem dX1_spread_121 : decode cX1_spread 121 = .ok (.iinc 5 1, 3) := by decide +kernel
theorem dX1_spread_124 : decode cX1_spread 124 = .ok (.goto (-67), 3) := by decide +kernel
theorem dX1_spread_127 : decode cX1_spread 127 = .ok (.return_, 1) := by decide +kernel
theorem dX1_visit_0 : decode cX1_visit 0 = .ok (.iload_n 1, 1) := by decide +kernel
theorem dX1_visit_1 : decode cX1_visit 1 = .ok (.iconst (-1), 1) := by decide +kernel
theorem dX1_visit_2 : decode cX1_visit 2 = .ok (.if_icmp .eq 40, 3) := by decide +kernel
theorem dX1_visit_5 : decode cX1_visit 5 = .ok (.aload_n 0, 1) := by decide +kernel
theorem dX1_visit_6 : decode cX1_visit 6 = .ok (.getfield 9, 3) := by decide +kernel
theorem dX1_visit_9 : decode cX1_visit 9 = .ok (.iload_n 1, 1) := by decide +kernel
theorem dX1_visit_10 : decode cX1_visit 10 = .ok (.iaload, 1) := by decide +kernel
theorem dX1_visit_11 : decode cX1_visit 11 = .ok (.iconst (-1), 1) := by decide +kernel
theorem dX1_visit_12 : decode cX1_visit 12 = .ok (.if_icmp .ne 30, 3) := by decide +kernel
theorem dX1_visit_15 : decode cX1_visit 15 = .ok (.aload_n 0, 1) := by decide +kernel
theorem dX1_visit_16 : decode cX1_visit 16 = .ok (.getfield 9, 3) := by decide +kernel
theorem dX1_visit_19 : decode cX1_visit 19 = .ok (.iload_n 1, 1) := by decide +kernel
theorem dX1_visit_20 : decode cX1_visit 20 = .ok (.iload_n 2, 1) := by decide +kernel
theorem dX1_visit_21 : decode cX1_visit 21 = .ok (.iastore, 1) := by decide +kernel
theorem dX1_visit_22 : decode cX1_visit 22 = .ok (.aload_n 0, 1) := by decide +kernel
theorem dX1_visit_23 : decode cX1_visit 23 = .ok (.getfield 15, 3) := by decide +kernel
theorem dX1_visit_26 : decode cX1_visit 26 = .ok (.aload_n 0, 1) := by decide +kernel
theorem dX1_visit_27 : decode cX1_visit 27 = .ok (.getfield 18, 3) := by decide +kernel
theorem dX1_visit_30 : decode cX1_visit 30 = .ok (.iload_n 1, 1) := by decide +kernel
theorem dX1_visit_31 : decode cX1_visit 31 = .ok (.iastore, 1) := by decide +kernel
theorem dX1_visit_32 : decode cX1_visit 32 = .ok (.aload_n 0, 1) := by decide +kernel
theorem dX1_visit_33 : decode cX1_visit 33 = .ok (.dup, 1) := by decide +kernel
theorem dX1_visit_34 : decode cX1_visit 34 = .ok (.getfield 18, 3) := by decide +kernel
theorem dX1_visit_37 : decode cX1_visit 37 = .ok (.iconst 1, 1) := by decide +kernel
theorem dX1_visit_38 : decode cX1_visit 38 = .ok (.iadd, 1) := by decide +kernel
theorem dX1_visit_39 : decode cX1_visit 39 = .ok (.putfield 18, 3) := by decide +kernel
theorem dX1_visit_42 : decode cX1_visit 42 = .ok (.return_, 1) := by decide +kernel
theorem dX1_foundCells_0 : decode cX1_foundCells 0 = .ok (.iconst 0, 1) := by decide +kernel
theorem dX1_foundCells_1 : decode cX1_foundCells 1 = .ok (.istore_n 2, 1) := by decide +kernel
theorem dX1_foundCells_2 : decode cX1_foundCells 2 = .ok (.iconst 0, 1) := by decide +kernel
theorem dX1_foundCells_3 : decode cX1_foundCells 3 = .ok (.istore_n 3, 1) := by decide +kernel
theorem dX1_foundCells_4 : decode cX1_foundCells 4 = .ok (.iload_n 3, 1) := by decide +kernel
theorem dX1_foundCells_5 : decode cX1_foundCells 5 = .ok (.aload_n 0, 1) := by decide +kernel
theorem dX1_foundCells_6 : decode cX1_foundCells 6 = .ok (.getfield 18, 3) := by decide +kernel
theorem dX1_foundCells_9 : decode cX1_foundCells 9 = .ok (.if_icmp .ge 22, 3) := by decide +kernel
theorem dX1_foundCells_12 : decode cX1_foundCells 12 = .ok (.iload_n 2, 1) := by decide +kernel
theorem dX1_foundCells_13 : decode cX1_foundCells 13 = .ok (.aload_n 1, 1) := by decide +kernel
theorem dX1_foundCells_14 : decode cX1_foundCells 14 = .ok (.aload_n 0, 1) := by decide +kernel
theorem dX1_foundCells_15 : decode cX1_foundCells 15 = .ok (.getfield 15, 3) := by decide +kernel
theorem dX1_foundCells_18 : decode cX1_foundCells 18 = .ok (.iload_n 3, 1) := by decide +kernel
theorem dX1_foundCells_19 : decode cX1_foundCells 19 = .ok (.iaload, 1) := by decide +kernel
theorem dX1_foundCells_20 : decode cX1_foundCells 20 = .ok (.invokevirtual 40, 3) := by decide +kernel
theorem dX1_foundCells_23 : decode cX1_foundCells 23 = .ok (.iadd, 1) := by decide +kernel
theorem dX1_foundCells_24 : decode cX1_foundCells 24 = .ok (.istore_n 2, 1) := by decide +kernel
theorem dX1_foundCells_25 : decode cX1_foundCells 25 = .ok (.iinc 3 1, 3) := by decide +kernel
theorem dX1_foundCells_28 : decode cX1_foundCells 28 = .ok (.goto (-24), 3) := by decide +kernel
theorem dX1_foundCells_31 : decode cX1_foundCells 31 = .ok (.iload_n 2, 1) := by decide +kernel
theorem dX1_foundCells_32 : decode cX1_foundCells 32 = .ok (.ireturn, 1) := by decide +kernel
theorem dX1_floating_0 : decode cX1_floating 0 = .ok (.iconst 0, 1) := by decide +kernel
theorem dX1_floating_1 : decode cX1_floating 1 = .ok (.istore_n 2, 1) := by decide +kernel
theorem dX1_floating_2 : decode cX1_floating 2 = .ok (.iconst 0, 1) := by decide +kernel
theorem dX1_floating_3 : decode cX1_floating 3 = .ok (.istore_n 3, 1) := by decide +kernel
theorem dX1_floating_4 : decode cX1_floating 4 = .ok (.iload_n 3, 1) := by decide +kernel
theorem dX1_floating_5 : decode cX1_floating 5 = .ok (.sipush 128, 3) := by decide +kernel
theorem dX1_floating_8 : decode cX1_floating 8 = .ok (.if_icmp .ge 34, 3) := by decide +kernel
theorem dX1_floating_11 : decode cX1_floating 11 = .ok (.aload_n 1, 1) := by decide +kernel
theorem dX1_floating_12 : decode cX1_floating 12 = .ok (.getfield 44, 3) := by decide +kernel
theorem dX1_floating_15 : decode cX1_floating 15 = .ok (.iload_n 3, 1) := by decide +kernel
theorem dX1_floating_16 : decode cX1_floating 16 = .ok (.invokevirtual 48, 3) := by decide +kernel
theorem dX1_floating_19 : decode cX1_floating 19 = .ok (.iconst 1, 1) := by decide +kernel
theorem dX1_floating_20 : decode cX1_floating 20 = .ok (.if_icmp .le 16, 3) := by decide +kernel
theorem dX1_floating_23 : decode cX1_floating 23 = .ok (.aload_n 0, 1) := by decide +kernel
theorem dX1_floating_24 : decode cX1_floating 24 = .ok (.getfield 9, 3) := by decide +kernel
theorem dX1_floating_27 : decode cX1_floating 27 = .ok (.iload_n 3, 1) := by decide +kernel
theorem dX1_floating_28 : decode cX1_floating 28 = .ok (.iaload, 1) := by decide +kernel
theorem dX1_floating_29 : decode cX1_floating 29 = .ok (.iconst (-1), 1) := by decide +kernel
theorem dX1_floating_30 : decode cX1_floating 30 = .ok (.if_icmp .ne 6, 3) := by decide +kernel
theorem dX1_floating_33 : decode cX1_floating 33 = .ok (.iinc 2 1, 3) := by decide +kernel
theorem dX1_floating_36 : decode cX1_floating 36 = .ok (.iinc 3 2, 3) := by decide +kernel
theorem dX1_floating_39 : decode cX1_floating 39 = .ok (.goto (-35), 3) := by decide +kernel
theorem dX1_floating_42 : decode cX1_floating 42 = .ok (.iload_n 2, 1) := by decide +kernel
theorem dX1_floating_43 : decode cX1_floating 43 = .ok (.ireturn, 1) := by decide +kernel
theorem dX2_init_0 : decode cX2_init 0 = .ok (.aload_n 0, 1) := by decide +kernel
theorem dX2_init_1 : decode cX2_init 1 = .ok (.invokespecial 3, 3) := by decide +kernel
theorem dX2_init_4 : decode cX2_init 4 = .ok (.aload_n 0, 1) := by decide +kernel
theorem dX2_init_5 : decode cX2_init 5 = .ok (.iconst 0, 1) := by decide +kernel
theorem dX2_init_6 : decode cX2_init 6 = .ok (.newarray .int, 2) := by decide +kernel
theorem dX2_init_8 : decode cX2_init 8 = .ok (.putfield 9, 3) := by decide +kernel
theorem dX2_init_11 : decode cX2_init 11 = .ok (.aload_n 0, 1) := by decide +kernel
theorem dX2_init_12 : decode cX2_init 12 = .ok (.iconst 0, 1) := by decide +kernel
theorem dX2_init_13 : decode cX2_init 13 = .ok (.putfield 15, 3) := by decide +kernel
theorem dX2_init_16 : decode cX2_init 16 = .ok (.aload_n 0, 1) := by decide +kernel
theorem dX2_init_17 : decode cX2_init 17 = .ok (.iconst 0, 1) := by decide +kernel
theorem dX2_init_18 : decode cX2_init 18 = .ok (.putfield 19, 3) := by decide +kernel
theorem dX2_init_21 : decode cX2_init 21 = .ok (.aload_n 0, 1) := by decide +kernel
theorem dX2_init_22 : decode cX2_init 22 = .ok (.iconst 0, 1) := by decide +kernel
theorem dX2_init_23 : decode cX2_init 23 = .ok (.putfield 22, 3) := by decide +kernel
theorem dX2_init_26 : decode cX2_init 26 = .ok (.aload_n 0, 1) := by decide +kernel
theorem dX2_init_27 : decode cX2_init 27 = .ok (.new 25, 3) := by decide +kernel
theorem dX2_init_30 : decode cX2_init 30 = .ok (.dup, 1) := by decide +kernel
theorem dX2_init_31 : decode cX2_init 31 = .ok (.invokespecial 27, 3) := by decide +kernel
theorem dX2_init_34 : decode cX2_init 34 = .ok (.putfield 28, 3) := by decide +kernel
theorem dX2_init_37 : decode cX2_init 37 = .ok (.aload_n 0, 1) := by decide +kernel
theorem dX2_init_38 : decode cX2_init 38 = .ok (.iconst 4, 1) := by decide +kernel
theorem dX2_init_39 : decode cX2_init 39 = .ok (.newarray .int, 2) := by decide +kernel
theorem dX2_init_41 : decode cX2_init 41 = .ok (.putfield 32, 3) := by decide +kernel
theorem dX2_init_44 : decode cX2_init 44 = .ok (.aload_n 0, 1) := by decide +kernel
theorem dX2_init_45 : decode cX2_init 45 = .ok (.iconst 0, 1) := by decide +kernel
theorem dX2_init_46 : decode cX2_init 46 = .ok (.putfield 35, 3) := by decide +kernel
theorem dX2_init_49 : decode cX2_init 49 = .ok (.aload_n 0, 1) := by decide +kernel
theorem dX2_init_50 : decode cX2_init 50 = .ok (.iconst 0, 1) := by decide +kernel
theorem dX2_init_51 : decode cX2_init 51 = .ok (.putfield 38, 3) := by decide +kernel
theorem dX2_init_54 : decode cX2_init 54 = .ok (.aload_n 0, 1) := by decide +kernel
theorem dX2_init_55 : decode cX2_init 55 = .ok (.iconst (-1), 1) := by decide +kernel
theorem dX2_init_56 : decode cX2_init 56 = .ok (.putfield 41, 3) := by decide +kernel
theorem dX2_init_59 : decode cX2_init 59 = .ok (.return_, 1) := by decide +kernel
theorem dX2_read_0 : decode cX2_read 0 = .ok (.aload_n 0, 1) := by decide +kernel
theorem dX2_read_1 : decode cX2_read 1 = .ok (.aload_n 1, 1) := by decide +kernel
theorem dX2_read_2 : decode cX2_read 2 = .ok (.putfield 9, 3) := by decide +kernel
theorem dX2_read_5 : decode cX2_read 5 = .ok (.aload_n 0, 1) := by decide +kernel
theorem dX2_read_6 : decode cX2_read 6 = .ok (.iload_n 2, 1) := by decide +kernel
theorem dX2_read_7 : decode cX2_read 7 = .ok (.putfield 15, 3) := by decide +kernel
theorem dX2_read_10 : decode cX2_read 10 = .ok (.aload_n 0, 1) := by decide +kernel
theorem dX2_read_11 : decode cX2_read 11 = .ok (.aload_n 3, 1) := by decide +kernel
theorem dX2_read_12 : decode cX2_read 12 = .ok (.putfield 28, 3) := by decide +kernel
theorem dX2_read_15 : decode cX2_read 15 = .ok (.aload_n 0, 1) := by decide +kernel
theorem dX2_read_16 : decode cX2_read 16 = .ok (.getfield 28, 3) := by decide +kernel
theorem dX2_read_19 : decode cX2_read 19 = .ok (.iconst 0, 1) := by decide +kernel
theorem dX2_read_20 : decode cX2_read 20 = .ok (.putfield 44, 3) := by decide +kernel
theorem dX2_read_23 : decode cX2_read 23 = .ok (.aload_n 0, 1) := by decide +kernel
theorem dX2_read_24 : decode cX2_read 24 = .ok (.iconst 0, 1) := by decide +kernel
theorem dX2_read_25 : decode cX2_read 25 = .ok (.putfield 35, 3) := by decide +kernel
theorem dX2_read_28 : decode cX2_read 28 = .ok (.aload_n 0, 1) := by decide +kernel
theorem dX2_read_29 : decode cX2_read 29 = .ok (.iconst 0, 1) := by decide +kernel
theorem dX2_read_30 : decode cX2_read 30 = .ok (.putfield 38, 3) := by decide +kernel
theorem dX2_read_33 : decode cX2_read 33 = .ok (.aload_n 0, 1) := by decide +kernel
theorem dX2_read_34 : decode cX2_read 34 = .ok (.iconst (-1), 1) := by decide +kernel
theorem dX2_read_35 : decode cX2_read 35 = .ok (.putfield 41, 3) := by decide +kernel
theorem dX2_read_38 : decode cX2_read 38 = .ok (.aload_n 0, 1) := by decide +kernel
theorem dX2_read_39 : decode cX2_read 39 = .ok (.iconst 0, 1) := by decide +kernel
theorem dX2_read_40 : decode cX2_read 40 = .ok (.putfield 22, 3) := by decide +kernel
theorem dX2_read_43 : decode cX2_read 43 = .ok (.aload_n 0, 1) := by decide +kernel
theorem dX2_read_44 : decode cX2_read 44 = .ok (.invokevirtual 47, 3) := by decide +kernel
theorem dX2_read_47 : decode cX2_read 47 = .ok (.iconst 0, 1) := by decide +kernel
theorem dX2_read_48 : decode cX2_read 48 = .ok (.istore 4, 2) := by decide +kernel
theorem dX2_read_50 : decode cX2_read 50 = .ok (.iload 4, 2) := by decide +kernel
theorem dX2_read_52 : decode cX2_read 52 = .ok (.sipush 400, 3) := by decide +kernel
theorem dX2_read_55 : decode cX2_read 55 = .ok (.if_icmp .ge 47, 3) := by decide +kernel
theorem dX2_read_58 : decode cX2_read 58 = .ok (.aload_n 0, 1) := by decide +kernel
theorem dX2_read_59 : decode cX2_read 59 = .ok (.getfield 19, 3) := by decide +kernel
theorem dX2_read_62 : decode cX2_read 62 = .ok (.aload_n 0, 1) := by decide +kernel
theorem dX2_read_63 : decode cX2_read 63 = .ok (.getfield 15, 3) := by decide +kernel
theorem dX2_read_66 : decode cX2_read 66 = .ok (.if_icmp .ge 36, 3) := by decide +kernel
theorem dX2_read_69 : decode cX2_read 69 = .ok (.aload_n 0, 1) := by decide +kernel
theorem dX2_read_70 : decode cX2_read 70 = .ok (.getfield 38, 3) := by decide +kernel
theorem dX2_read_73 : decode cX2_read 73 = .ok (.ifCond .ne 29, 3) := by decide +kernel
theorem dX2_read_76 : decode cX2_read 76 = .ok (.aload_n 0, 1) := by decide +kernel
theorem dX2_read_77 : decode cX2_read 77 = .ok (.bipush 125, 2) := by decide +kernel
theorem dX2_read_79 : decode cX2_read 79 = .ok (.invokevirtual 50, 3) := by decide +kernel
theorem dX2_read_82 : decode cX2_read 82 = .ok (.ifCond .eq 10, 3) := by decide +kernel
theorem dX2_read_85 : decode cX2_read 85 = .ok (.aload_n 0, 1) := by decide +kernel
theorem dX2_read_86 : decode cX2_read 86 = .ok (.invokevirtual 54, 3) := by decide +kernel
theorem dX2_read_89 : decode cX2_read 89 = .ok (.goto 7, 3) := by decide +kernel
theorem dX2_read_92 : decode cX2_read 92 = .ok (.aload_n 0, 1) := by decide +kernel
theorem dX2_read_93 : decode cX2_read 93 = .ok (.invokevirtual 57, 3) := by decide +kernel
theorem dX2_read_96 : decode cX2_read 96 = .ok (.iinc 4 1, 3) := by decide +kernel
theorem dX2_read_99 : decode cX2_read 99 = .ok (.goto (-49), 3) := by decide +kernel
theorem dX2_read_102 : decode cX2_read 102 = .ok (.aload_n 0, 1) := by decide +kernel
theorem dX2_read_103 : decode cX2_read 103 = .ok (.getfield 35, 3) := by decide +kernel
theorem dX2_read_106 : decode cX2_read 106 = .ok (.ifCond .le 8, 3) := by decide +kernel
theorem dX2_read_109 : decode cX2_read 109 = .ok (.aload_n 0, 1) := by decide +kernel
theorem dX2_read_110 : decode cX2_read 110 = .ok (.iconst 1, 1) := by decide +kernel
theorem dX2_read_111 : decode cX2_read 111 = .ok (.invokevirtual 60, 3) := by decide +kernel
theorem dX2_read_114 : decode cX2_read 114 = .ok (.return_, 1) := by decide +kernel
theorem dX2_advanceToken_0 : decode cX2_advanceToken 0 = .ok (.aload_n 0, 1) := by decide +kernel
theorem dX2_advanceToken_1 : decode cX2_advanceToken 1 = .ok (.aload_n 0, 1) := by decide +kernel
theorem dX2_advanceToken_2 : decode cX2_advanceToken 2 = .ok (.getfield 22, 3) := by decide +kernel
theorem dX2_advanceToken_5 : decode cX2_advanceToken 5 = .ok (.putfield 19, 3) := by decide +kernel
theorem dX2_advanceToken_8 : decode cX2_advanceToken 8 = .ok (.aload_n 0, 1) := by decide +kernel
theorem dX2_advanceToken_9 : decode cX2_advanceToken 9 = .ok (.getfield 19, 3) := by decide +kernel
theorem dX2_advanceToken_12 : decode cX2_advanceToken 12 = .ok (.aload_n 0, 1) := by decide +kernel
theorem dX2_advanceToken_13 : decode cX2_advanceToken 13 = .ok (.getfield 15, 3) := by decide +kernel
theorem dX2_advanceToken_16 : decode cX2_advanceToken 16 = .ok (.if_icmp .ge 44, 3) := by decide +kernel
theorem dX2_advanceToken_19 : decode cX2_advanceToken 19 = .ok (.aload_n 0, 1) := by decide +kernel
theorem dX2_advanceToken_20 : decode cX2_advanceToken 20 = .ok (.getfield 9, 3) := by decide +kernel
theorem dX2_advanceToken_23 : decode cX2_advanceToken 23 = .ok (.aload_n 0, 1) := by decide +kernel
theorem dX2_advanceToken_24 : decode cX2_advanceToken 24 = .ok (.getfield 19, 3) := by decide +kernel
theorem dX2_advanceToken_27 : decode cX2_advanceToken 27 = .ok (.iaload, 1) := by decide +kernel
theorem dX2_advanceToken_28 : decode cX2_advanceToken 28 = .ok (.bipush 32, 2) := by decide +kernel
theorem dX2_advanceToken_30 : decode cX2_advanceToken 30 = .ok (.if_icmp .eq 17, 3) := by decide +kernel
theorem dX2_advanceToken_33 : decode cX2_advanceToken 33 = .ok (.aload_n 0, 1) := by decide +kernel
theorem dX2_advanceToken_34 : decode cX2_advanceToken 34 = .ok (.getfield 9, 3) := by decide +kernel
theorem dX2_advanceToken_37 : decode cX2_advanceToken 37 = .ok (.aload_n 0, 1) := by decide +kernel
theorem dX2_advanceToken_38 : decode cX2_advanceToken 38 = .ok (.getfield 19, 3) := by decide +kernel
theorem dX2_advanceToken_41 : decode cX2_advanceToken 41 = .ok (.iaload, 1) := by decide +kernel
theorem dX2_advanceToken_42 : decode cX2_advanceToken 42 = .ok (.bipush 10, 2) := by decide +kernel
theorem dX2_advanceToken_44 : decode cX2_advanceToken 44 = .ok (.if_icmp .ne 16, 3) := by decide +kernel
theorem dX2_advanceToken_47 : decode cX2_advanceToken 47 = .ok (.aload_n 0, 1) := by decide +kernel
theorem dX2_advanceToken_48 : decode cX2_advanceToken 48 = .ok (.dup, 1) := by decide +kernel
theorem dX2_advanceToken_49 : decode cX2_advanceToken 49 = .ok (.getfield 19, 3) := by decide +kernel
theorem dX2_advanceToken_52 : decode cX2_advanceToken 52 = .ok (.iconst 1, 1) := by decide +kernel
theorem dX2_advanceToken_53 : decode cX2_advanceToken 53 = .ok (.iadd, 1) := by decide +kernel
theorem dX2_advanceToken_54 : decode cX2_advanceToken 54 = .ok (.putfield 19, 3) := by decide +kernel
theorem dX2_advanceToken_57 : decode cX2_advanceToken 57 = .ok (.goto (-49), 3) := by decide +kernel
theorem dX2_advanceToken_60 : decode cX2_advanceToken 60 = .ok (.aload_n 0, 1) := by decide +kernel
theorem dX2_advanceToken_61 : decode cX2_advanceToken 61 = .ok (.aload_n 0, 1) := by decide +kernel
theorem dX2_advanceToken_62 : decode cX2_advanceToken 62 = .ok (.getfield 19, 3) := by decide +kernel
theorem dX2_advanceToken_65 : decode cX2_advanceToken 65 = .ok (.iconst 1, 1) := by decide +kernel
theorem dX2_advanceToken_66 : decode cX2_advanceToken 66 = .ok (.iadd, 1) := by decide +kernel
theorem dX2_advanceToken_67 : decode cX2_advanceToken 67 = .ok (.aload_n 0, 1) := by decide +kernel
theorem dX2_advanceToken_68 : decode cX2_advanceToken 68 = .ok (.getfield 15, 3) := by decide +kernel
theorem dX2_advanceToken_71 : decode cX2_advanceToken 71 = .ok (.invokestatic 64, 3) := by decide +kernel
theorem dX2_advanceToken_74 : decode cX2_advanceToken 74 = .ok (.putfield 22, 3) := by decide +kernel
theorem dX2_advanceToken_77 : decode cX2_advanceToken 77 = .ok (.aload_n 0, 1) := by decide +kernel
theorem dX2_advanceToken_78 : decode cX2_advanceToken 78 = .ok (.aload_n 0, 1) := by decide +kernel
theorem dX2_advanceToken_79 : decode cX2_advanceToken 79 = .ok (.getfield 19, 3) := by decide +kernel
theorem dX2_advanceToken_82 : decode cX2_advanceToken 82 = .ok (.invokevirtual 70, 3) := by decide +kernel
theorem dX2_advanceToken_85 : decode cX2_advanceToken 85 = .ok (.ifCond .eq 38, 3) := by decide +kernel
theorem dX2_advanceToken_88 : decode cX2_advanceToken 88 = .ok (.aload_n 0, 1) := by decide +kernel
theorem dX2_advanceToken_89 : decode cX2_advanceToken 89 = .ok (.getfield 22, 3) := by decide +kernel
theorem dX2_advanceToken_92 : decode cX2_advanceToken 92 = .ok (.aload_n 0, 1) := by decide +kernel
theorem dX2_advanceToken_93 : decode cX2_advanceToken 93 = .ok (.getfield 15, 3) := by decide +kernel
theorem dX2_advanceToken_96 : decode cX2_advanceToken 96 = .ok (.if_icmp .ge 73, 3) := by decide +kernel
theorem dX2_advanceToken_99 : decode cX2_advanceToken 99 = .ok (.aload_n 0, 1) := by decide +kernel
theorem dX2_advanceToken_100 : decode cX2_advanceToken 100 = .ok (.aload_n 0, 1) := by decide +kernel
theorem dX2_advanceToken_101 : decode cX2_advanceToken 101 = .ok (.getfield 22, 3) := by decide +kernel
theorem dX2_advanceToken_104 : decode cX2_advanceToken 104 = .ok (.invokevirtual 70, 3) := by decide +kernel
theorem dX2_advanceToken_107 : decode cX2_advanceToken 107 = .ok (.ifCond .eq 62, 3) := by decide +kernel
theorem dX2_advanceToken_110 : decode cX2_advanceToken 110 = .ok (.aload_n 0, 1) := by decide +kernel
theorem dX2_advanceToken_111 : decode cX2_advanceToken 111 = .ok (.dup, 1) := by decide +kernel
theorem dX2_advanceToken_112 : decode cX2_advanceToken 112 = .ok (.getfield 22, 3) := by decide +kernel
theorem dX2_advanceToken_115 : decode cX2_advanceToken 115 = .ok (.iconst 1, 1) := by decide +kernel
theorem dX2_advanceToken_116 : decode cX2_advanceToken 116 = .ok (.iadd, 1) := by decide +kernel
theorem dX2_advanceToken_117 : decode cX2_advanceToken 117 = .ok (.putfield 22, 3) := by decide +kernel
theorem dX2_advanceToken_120 : decode cX2_advanceToken 120 = .ok (.goto (-32), 3) := by decide +kernel
theorem dX2_advanceToken_123 : decode cX2_advanceToken 123 = .ok (.aload_n 0, 1) := by decide +kernel
theorem dX2_advanceToken_124 : decode cX2_advanceToken 124 = .ok (.aload_n 0, 1) := by decide +kernel
theorem dX2_advanceToken_125 : decode cX2_advanceToken 125 = .ok (.getfield 19, 3) := by decide +kernel
theorem dX2_advanceToken_128 : decode cX2_advanceToken 128 = .ok (.invokevirtual 74, 3) := by decide +kernel
theorem dX2_advanceToken_131 : decode cX2_advanceToken 131 = .ok (.ifCond .eq 38, 3) := by decide +kernel
theorem dX2_advanceToken_134 : decode cX2_advanceToken 134 = .ok (.aload_n 0, 1) := by decide +kernel
theorem dX2_advanceToken_135 : decode cX2_advanceToken 135 = .ok (.getfield 22, 3) := by decide +kernel
theorem dX2_advanceToken_138 : decode cX2_advanceToken 138 = .ok (.aload_n 0, 1) := by decide +kernel
theorem dX2_advanceToken_139 : decode cX2_advanceToken 139 = .ok (.getfield 15, 3) := by decide +kernel
theorem dX2_advanceToken_142 : decode cX2_advanceToken 142 = .ok (.if_icmp .ge 27, 3) := by decide +kernel
theorem dX2_advanceToken_145 : decode cX2_advanceToken 145 = .ok (.aload_n 0, 1) := by decide +kernel
theorem dX2_advanceToken_146 : decode cX2_advanceToken 146 = .ok (.aload_n 0, 1) := by decide +kernel
theorem dX2_advanceToken_147 : decode cX2_advanceToken 147 = .ok (.getfield 22, 3) := by decide +kernel
theorem dX2_advanceToken_150 : decode cX2_advanceToken 150 = .ok (.invokevirtual 74, 3) := by decide +kernel
theorem dX2_advanceToken_153 : decode cX2_advanceToken 153 = .ok (.ifCond .eq 16, 3) := by decide +kernel
theorem dX2_advanceToken_156 : decode cX2_advanceToken 156 = .ok (.aload_n 0, 1) := by decide +kernel
theorem dX2_advanceToken_157 : decode cX2_advanceToken 157 = .ok (.dup, 1) := by decide +kernel
theorem dX2_advanceToken_158 : decode cX2_advanceToken 158 = .ok (.getfield 22, 3) := by decide +kernel
theorem dX2_advanceToken_161 : decode cX2_advanceToken 161 = .ok (.iconst 1, 1) := by decide +kernel
theorem dX2_advanceToken_162 : decode cX2_advanceToken 162 = .ok (.iadd, 1) := by decide +kernel
theorem dX2_advanceToken_163 : decode cX2_advanceToken 163 = .ok (.putfield 22, 3) := by decide +kernel
theorem dX2_advanceToken_166 : decode cX2_advanceToken 166 = .ok (.goto (-32), 3) := by decide +kernel
theorem dX2_advanceToken_169 : decode cX2_advanceToken 169 = .ok (.return_, 1) := by decide +kernel
theorem dX2_isLetter_0 : decode cX2_isLetter 0 = .ok (.iload_n 1, 1) := by decide +kernel
theorem dX2_isLetter_1 : decode cX2_isLetter 1 = .ok (.aload_n 0, 1) := by decide +kernel
theorem dX2_isLetter_2 : decode cX2_isLetter 2 = .ok (.getfield 15, 3) := by decide +kernel
theorem dX2_isLetter_5 : decode cX2_isLetter 5 = .ok (.if_icmp .ge 29, 3) := by decide +kernel
theorem dX2_isLetter_8 : decode cX2_isLetter 8 = .ok (.aload_n 0, 1) := by decide +kernel
theorem dX2_isLetter_9 : decode cX2_isLetter 9 = .ok (.getfield 9, 3) := by decide +kernel
theorem dX2_isLetter_12 : decode cX2_isLetter 12 = .ok (.iload_n 1, 1) := by decide +kernel
theorem dX2_isLetter_13 : decode cX2_isLetter 13 = .ok (.iaload, 1) := by decide +kernel
theorem dX2_isLetter_14 : decode cX2_isLetter 14 = .ok (.bipush 97, 2) := by decide +kernel
theorem dX2_isLetter_16 : decode cX2_isLetter 16 = .ok (.if_icmp .lt 18, 3) := by decide +kernel
theorem dX2_isLetter_19 : decode cX2_isLetter 19 = .ok (.aload_n 0, 1) := by decide +kernel
theorem dX2_isLetter_20 : decode cX2_isLetter 20 = .ok (.getfield 9, 3) := by decide +kernel
theorem dX2_isLetter_23 : decode cX2_isLetter 23 = .ok (.iload_n 1, 1) := by decide +kernel
theorem dX2_isLetter_24 : decode cX2_isLetter 24 = .ok (.iaload, 1) := by decide +kernel
theorem dX2_isLetter_25 : decode cX2_isLetter 25 = .ok (.bipush 122, 2) := by decide +kernel
theorem dX2_isLetter_27 : decode cX2_isLetter 27 = .ok (.if_icmp .gt 7, 3) := by decide +kernel
theorem dX2_isLetter_30 : decode cX2_isLetter 30 = .ok (.iconst 1, 1) := by decide +kernel
theorem dX2_isLetter_31 : decode cX2_isLetter 31 = .ok (.goto 4, 3) := by decide +kernel
theorem dX2_isLetter_34 : decode cX2_isLetter 34 = .ok (.iconst 0, 1) := by decide +kernel
theorem dX2_isLetter_35 : decode cX2_isLetter 35 = .ok (.ireturn, 1) := by decide +kernel
theorem dX2_isDigit_0 : decode cX2_isDigit 0 = .ok (.iload_n 1, 1) := by decide +kernel
theorem dX2_isDigit_1 : decode cX2_isDigit 1 = .ok (.aload_n 0, 1) := by decide +kernel
theorem dX2_isDigit_2 : decode cX2_isDigit 2 = .ok (.getfield 15, 3) := by decide +kernel
theorem dX2_isDigit_5 : decode cX2_isDigit 5 = .ok (.if_icmp .ge 29, 3) := by decide +kernel
theorem dX2_isDigit_8 : decode cX2_isDigit 8 = .ok (.aload_n 0, 1) := by decide +kernel
theorem dX2_isDigit_9 : decode cX2_isDigit 9 = .ok (.getfield 9, 3) := by decide +kernel
theorem dX2_isDigit_12 : decode cX2_isDigit 12 = .ok (.iload_n 1, 1) := by decide +kernel
theorem dX2_isDigit_13 : decode cX2_isDigit 13 = .ok (.iaload, 1) := by decide +kernel
theorem dX2_isDigit_14 : decode cX2_isDigit 14 = .ok (.bipush 48, 2) := by decide +kernel
theorem dX2_isDigit_16 : decode cX2_isDigit 16 = .ok (.if_icmp .lt 18, 3) := by decide +kernel
theorem dX2_isDigit_19 : decode cX2_isDigit 19 = .ok (.aload_n 0, 1) := by decide +kernel
theorem dX2_isDigit_20 : decode cX2_isDigit 20 = .ok (.getfield 9, 3) := by decide +kernel
theorem dX2_isDigit_23 : decode cX2_isDigit 23 = .ok (.iload_n 1, 1) := by decide +kernel
theorem dX2_isDigit_24 : decode cX2_isDigit 24 = .ok (.iaload, 1) := by decide +kernel
theorem dX2_isDigit_25 : decode cX2_isDigit 25 = .ok (.bipush 57, 2) := by decide +kernel
theorem dX2_isDigit_27 : decode cX2_isDigit 27 = .ok (.if_icmp .gt 7, 3) := by decide +kernel
theorem dX2_isDigit_30 : decode cX2_isDigit 30 = .ok (.iconst 1, 1) := by decide +kernel
theorem dX2_isDigit_31 : decode cX2_isDigit 31 = .ok (.goto 4, 3) := by decide +kernel
theorem dX2_isDigit_34 : decode cX2_isDigit 34 = .ok (.iconst 0, 1) := by decide +kernel
theorem dX2_isDigit_35 : decode cX2_isDigit 35 = .ok (.ireturn, 1) := by decide +kernel
theorem dX2_isSign_0 : decode cX2_isSign 0 = .ok (.aload_n 0, 1) := by decide +kernel
theorem dX2_isSign_1 : decode cX2_isSign 1 = .ok (.getfield 19, 3) := by decide +kernel
theorem dX2_isSign_4 : decode cX2_isSign 4 = .ok (.aload_n 0, 1) := by decide +kernel
theorem dX2_isSign_5 : decode cX2_isSign 5 = .ok (.getfield 15, 3) := by decide +kernel
theorem dX2_isSign_8 : decode cX2_isSign 8 = .ok (.if_icmp .ge 20, 3) := by decide +kernel
theorem dX2_isSign_11 : decode cX2_isSign 11 = .ok (.aload_n 0, 1) := by decide +kernel
theorem dX2_isSign_12 : decode cX2_isSign 12 = .ok (.getfield 9, 3) := by decide +kernel
theorem dX2_isSign_15 : decode cX2_isSign 15 = .ok (.aload_n 0, 1) := by decide +kernel
theorem dX2_isSign_16 : decode cX2_isSign 16 = .ok (.getfield 19, 3) := by decide +kernel
theorem dX2_isSign_19 : decode cX2_isSign 19 = .ok (.iaload, 1) := by decide +kernel
theorem dX2_isSign_20 : decode cX2_isSign 20 = .ok (.iload_n 1, 1) := by decide +kernel
theorem dX2_isSign_21 : decode cX2_isSign 21 = .ok (.if_icmp .ne 7, 3) := by decide +kernel
theorem dX2_isSign_24 : decode cX2_isSign 24 = .ok (.iconst 1, 1) := by decide +kernel
theorem dX2_isSign_25 : decode cX2_isSign 25 = .ok (.goto 4, 3) := by decide +kernel
theorem dX2_isSign_28 : decode cX2_isSign 28 = .ok (.iconst 0, 1) := by decide +kernel
theorem dX2_isSign_29 : decode cX2_isSign 29 = .ok (.ireturn, 1) := by decide +kernel
theorem dX2_isWord_0 : decode cX2_isWord 0 = .ok (.aload_n 0, 1) := by decide +kernel
theorem dX2_isWord_1 : decode cX2_isWord 1 = .ok (.getfield 22, 3) := by decide +kernel
theorem dX2_isWord_4 : decode cX2_isWord 4 = .ok (.aload_n 0, 1) := by decide +kernel
theorem dX2_isWord_5 : decode cX2_isWord 5 = .ok (.getfield 19, 3) := by decide +kernel
theorem dX2_isWord_8 : decode cX2_isWord 8 = .ok (.isub, 1) := by decide +kernel
theorem dX2_isWord_9 : decode cX2_isWord 9 = .ok (.aload_n 1, 1) := by decide +kernel
theorem dX2_isWord_10 : decode cX2_isWord 10 = .ok (.invokevirtual 77, 3) := by decide +kernel
theorem dX2_isWord_13 : decode cX2_isWord 13 = .ok (.if_icmp .eq 5, 3) := by decide +kernel
theorem dX2_isWord_16 : decode cX2_isWord 16 = .ok (.iconst 0, 1) := by decide +kernel
theorem dX2_isWord_17 : decode cX2_isWord 17 = .ok (.ireturn, 1) := by decide +kernel
theorem dX2_isWord_18 : decode cX2_isWord 18 = .ok (.iconst 0, 1) := by decide +kernel
theorem dX2_isWord_19 : decode cX2_isWord 19 = .ok (.istore_n 2, 1) := by decide +kernel
theorem dX2_isWord_20 : decode cX2_isWord 20 = .ok (.iload_n 2, 1) := by decide +kernel
theorem dX2_isWord_21 : decode cX2_isWord 21 = .ok (.aload_n 1, 1) := by decide +kernel
theorem dX2_isWord_22 : decode cX2_isWord 22 = .ok (.invokevirtual 77, 3) := by decide +kernel
theorem dX2_isWord_25 : decode cX2_isWord 25 = .ok (.if_icmp .ge 30, 3) := by decide +kernel
theorem dX2_isWord_28 : decode cX2_isWord 28 = .ok (.aload_n 0, 1) := by decide +kernel
theorem dX2_isWord_29 : decode cX2_isWord 29 = .ok (.getfield 9, 3) := by decide +kernel
theorem dX2_isWord_32 : decode cX2_isWord 32 = .ok (.aload_n 0, 1) := by decide +kernel
theorem dX2_isWord_33 : decode cX2_isWord 33 = .ok (.getfield 19, 3) := by decide +kernel
theorem dX2_isWord_36 : decode cX2_isWord 36 = .ok (.iload_n 2, 1) := by decide +kernel
theorem dX2_isWord_37 : decode cX2_isWord 37 = .ok (.iadd, 1) := by decide +kernel
theorem dX2_isWord_38 : decode cX2_isWord 38 = .ok (.iaload, 1) := by decide +kernel
theorem dX2_isWord_39 : decode cX2_isWord 39 = .ok (.aload_n 1, 1) := by decide +kernel
theorem dX2_isWord_40 : decode cX2_isWord 40 = .ok (.iload_n 2, 1) := by decide +kernel
theorem dX2_isWord_41 : decode cX2_isWord 41 = .ok (.invokevirtual 82, 3) := by decide +kernel
theorem dX2_isWord_44 : decode cX2_isWord 44 = .ok (.if_icmp .eq 5, 3) := by decide +kernel
theorem dX2_isWord_47 : decode cX2_isWord 47 = .ok (.iconst 0, 1) := by decide +kernel
theorem dX2_isWord_48 : decode cX2_isWord 48 = .ok (.ireturn, 1) := by decide +kernel
theorem dX2_isWord_49 : decode cX2_isWord 49 = .ok (.iinc 2 1, 3) := by decide +kernel
theorem dX2_isWord_52 : decode cX2_isWord 52 = .ok (.goto (-32), 3) := by decide +kernel
theorem dX2_isWord_55 : decode cX2_isWord 55 = .ok (.iconst 1, 1) := by decide +kernel
theorem dX2_isWord_56 : decode cX2_isWord 56 = .ok (.ireturn, 1) := by decide +kernel
theorem dX2_rootHere_0 : decode cX2_rootHere 0 = .ok (.aload_n 0, 1) := by decide +kernel
theorem dX2_rootHere_1 : decode cX2_rootHere 1 = .ok (.getfield 22, 3) := by decide +kernel
theorem dX2_rootHere_4 : decode cX2_rootHere 4 = .ok (.aload_n 0, 1) := by decide +kernel
theorem dX2_rootHere_5 : decode cX2_rootHere 5 = .ok (.getfield 19, 3) := by decide +kernel
theorem dX2_rootHere_8 : decode cX2_rootHere 8 = .ok (.isub, 1) := by decide +kernel
theorem dX2_rootHere_9 : decode cX2_rootHere 9 = .ok (.iconst 1, 1) := by decide +kernel
theorem dX2_rootHere_10 : decode cX2_rootHere 10 = .ok (.if_icmp .ne 31, 3) := by decide +kernel
theorem dX2_rootHere_13 : decode cX2_rootHere 13 = .ok (.aload_n 0, 1) := by decide +kernel
theorem dX2_rootHere_14 : decode cX2_rootHere 14 = .ok (.getfield 9, 3) := by decide +kernel
theorem dX2_rootHere_17 : decode cX2_rootHere 17 = .ok (.aload_n 0, 1) := by decide +kernel
theorem dX2_rootHere_18 : decode cX2_rootHere 18 = .ok (.getfield 19, 3) := by decide +kernel
theorem dX2_rootHere_21 : decode cX2_rootHere 21 = .ok (.iaload, 1) := by decide +kernel
theorem dX2_rootHere_22 : decode cX2_rootHere 22 = .ok (.bipush 97, 2) := by decide +kernel
theorem dX2_rootHere_24 : decode cX2_rootHere 24 = .ok (.if_icmp .lt 17, 3) := by decide +kernel
theorem dX2_rootHere_27 : decode cX2_rootHere 27 = .ok (.aload_n 0, 1) := by decide +kernel
theorem dX2_rootHere_28 : decode cX2_rootHere 28 = .ok (.getfield 9, 3) := by decide +kernel
theorem dX2_rootHere_31 : decode cX2_rootHere 31 = .ok (.aload_n 0, 1) := by decide +kernel
theorem dX2_rootHere_32 : decode cX2_rootHere 32 = .ok (.getfield 19, 3) := by decide +kernel
theorem dX2_rootHere_35 : decode cX2_rootHere 35 = .ok (.iaload, 1) := by decide +kernel
theorem dX2_rootHere_36 : decode cX2_rootHere 36 = .ok (.bipush 103, 2) := by decide +kernel
theorem dX2_rootHere_38 : decode cX2_rootHere 38 = .ok (.if_icmp .lt 5, 3) := by decide +kernel
theorem dX2_rootHere_41 : decode cX2_rootHere 41 = .ok (.iconst (-1), 1) := by decide +kernel
theorem dX2_rootHere_42 : decode cX2_rootHere 42 = .ok (.ireturn, 1) := by decide +kernel
theorem dX2_rootHere_43 : decode cX2_rootHere 43 = .ok (.aload_n 0, 1) := by decide +kernel
theorem dX2_rootHere_44 : decode cX2_rootHere 44 = .ok (.getfield 9, 3) := by decide +kernel
theorem dX2_rootHere_47 : decode cX2_rootHere 47 = .ok (.aload_n 0, 1) := by decide +kernel
theorem dX2_rootHere_48 : decode cX2_rootHere 48 = .ok (.getfield 19, 3) := by decide +kernel
theorem dX2_rootHere_51 : decode cX2_rootHere 51 = .ok (.iaload, 1) := by decide +kernel
theorem dX2_rootHere_52 : decode cX2_rootHere 52 = .ok (.bipush 97, 2) := by decide +kernel
theorem dX2_rootHere_54 : decode cX2_rootHere 54 = .ok (.isub, 1) := by decide +kernel
theorem dX2_rootHere_55 : decode cX2_rootHere 55 = .ok (.ireturn, 1) := by decide +kernel
theorem dX2_note_0 : decode cX2_note 0 = .ok (.aload_n 0, 1) := by decide +kernel
theorem dX2_note_1 : decode cX2_note 1 = .ok (.getfield 38, 3) := by decide +kernel
theorem dX2_note_4 : decode cX2_note 4 = .ok (.ifCond .ne 16, 3) := by decide +kernel
theorem dX2_note_7 : decode cX2_note 7 = .ok (.aload_n 0, 1) := by decide +kernel
theorem dX2_note_8 : decode cX2_note 8 = .ok (.iload_n 1, 1) := by decide +kernel
theorem dX2_note_9 : decode cX2_note 9 = .ok (.putfield 38, 3) := by decide +kernel
theorem dX2_note_12 : decode cX2_note 12 = .ok (.aload_n 0, 1) := by decide +kernel
theorem dX2_note_13 : decode cX2_note 13 = .ok (.aload_n 0, 1) := by decide +kernel
theorem dX2_note_14 : decode cX2_note 14 = .ok (.getfield 19, 3) := by decide +kernel
theorem dX2_note_17 : decode cX2_note 17 = .ok (.putfield 41, 3) := by decide +kernel
theorem dX2_note_20 : decode cX2_note 20 = .ok (.return_, 1) := by decide +kernel
theorem dX2_readSign_0 : decode cX2_readSign 0 = .ok (.aload_n 0, 1) := by decide +kernel
theorem dX2_readSign_1 : decode cX2_readSign 1 = .ok (.iload_n 1, 1) := by decide +kernel
theorem dX2_readSign_2 : decode cX2_readSign 2 = .ok (.invokevirtual 50, 3) := by decide +kernel
theorem dX2_readSign_5 : decode cX2_readSign 5 = .ok (.ifCond .eq 10, 3) := by decide +kernel
theorem dX2_readSign_8 : decode cX2_readSign 8 = .ok (.aload_n 0, 1) := by decide +kernel
theorem dX2_readSign_9 : decode cX2_readSign 9 = .ok (.invokevirtual 47, 3) := by decide +kernel
theorem dX2_readSign_12 : decode cX2_readSign 12 = .ok (.goto 8, 3) := by decide +kernel
theorem dX2_readSign_15 : decode cX2_readSign 15 = .ok (.aload_n 0, 1) := by decide +kernel
theorem dX2_readSign_16 : decode cX2_readSign 16 = .ok (.iconst 1, 1) := by decide +kernel
theorem dX2_readSign_17 : decode cX2_readSign 17 = .ok (.invokevirtual 60, 3) := by decide +kernel
theorem dX2_readSign_20 : decode cX2_readSign 20 = .ok (.return_, 1) := by decide +kernel
theorem dX2_readRoot_0 : decode cX2_readRoot 0 = .ok (.aload_n 0, 1) := by decide +kernel
theorem dX2_readRoot_1 : decode cX2_readRoot 1 = .ok (.invokevirtual 86, 3) := by decide +kernel
theorem dX2_readRoot_4 : decode cX2_readRoot 4 = .ok (.istore_n 2, 1) := by decide +kernel
theorem dX2_readRoot_5 : decode cX2_readRoot 5 = .ok (.iload_n 2, 1) := by decide +kernel
theorem dX2_readRoot_6 : decode cX2_readRoot 6 = .ok (.iconst (-1), 1) := by decide +kernel
theorem dX2_readRoot_7 : decode cX2_readRoot 7 = .ok (.if_icmp .ne 24, 3) := by decide +kernel
theorem dX2_readRoot_10 : decode cX2_readRoot 10 = .ok (.iload_n 1, 1) := by decide +kernel
theorem dX2_readRoot_11 : decode cX2_readRoot 11 = .ok (.ifCond .eq 12, 3) := by decide +kernel
theorem dX2_readRoot_14 : decode cX2_readRoot 14 = .ok (.aload_n 0, 1) := by decide +kernel
theorem dX2_readRoot_15 : decode cX2_readRoot 15 = .ok (.ldc 89, 2) := by decide +kernel
theorem dX2_readRoot_17 : decode cX2_readRoot 17 = .ok (.invokevirtual 91, 3) := by decide +kernel
theorem dX2_readRoot_20 : decode cX2_readRoot 20 = .ok (.ifCond .ne 11, 3) := by decide +kernel
theorem dX2_readRoot_23 : decode cX2_readRoot 23 = .ok (.aload_n 0, 1) := by decide +kernel
theorem dX2_readRoot_24 : decode cX2_readRoot 24 = .ok (.iconst 1, 1) := by decide +kernel
theorem dX2_readRoot_25 : decode cX2_readRoot 25 = .ok (.invokevirtual 60, 3) := by decide +kernel
theorem dX2_readRoot_28 : decode cX2_readRoot 28 = .ok (.goto 7, 3) := by decide +kernel
theorem dX2_readRoot_31 : decode cX2_readRoot 31 = .ok (.aload_n 0, 1) := by decide +kernel
theorem dX2_readRoot_32 : decode cX2_readRoot 32 = .ok (.invokevirtual 47, 3) := by decide +kernel
theorem dX2_readRoot_35 : decode cX2_readRoot 35 = .ok (.iload_n 2, 1) := by decide +kernel
theorem dX2_readRoot_36 : decode cX2_readRoot 36 = .ok (.ireturn, 1) := by decide +kernel
theorem dX2_readNumber_0 : decode cX2_readNumber 0 = .ok (.aload_n 0, 1) := by decide +kernel
theorem dX2_readNumber_1 : decode cX2_readNumber 1 = .ok (.aload_n 0, 1) := by decide +kernel
theorem dX2_readNumber_2 : decode cX2_readNumber 2 = .ok (.getfield 19, 3) := by decide +kernel
theorem dX2_readNumber_5 : decode cX2_readNumber 5 = .ok (.invokevirtual 74, 3) := by decide +kernel
theorem dX2_readNumber_8 : decode cX2_readNumber 8 = .ok (.ifCond .ne 10, 3) := by decide +kernel
theorem dX2_readNumber_11 : decode cX2_readNumber 11 = .ok (.aload_n 0, 1) := by decide +kernel
theorem dX2_readNumber_12 : decode cX2_readNumber 12 = .ok (.iconst 1, 1) := by decide +kernel
theorem dX2_readNumber_13 : decode cX2_readNumber 13 = .ok (.invokevirtual 60, 3) := by decide +kernel
theorem dX2_readNumber_16 : decode cX2_readNumber 16 = .ok (.iconst (-1), 1) := by decide +kernel
theorem dX2_readNumber_17 : decode cX2_readNumber 17 = .ok (.ireturn, 1) := by decide +kernel
theorem dX2_readNumber_18 : decode cX2_readNumber 18 = .ok (.iconst 0, 1) := by decide +kernel
theorem dX2_readNumber_19 : decode cX2_readNumber 19 = .ok (.istore_n 3, 1) := by decide +kernel
theorem dX2_readNumber_20 : decode cX2_readNumber 20 = .ok (.aload_n 0, 1) := by decide +kernel
theorem dX2_readNumber_21 : decode cX2_readNumber 21 = .ok (.getfield 19, 3) := by decide +kernel
theorem dX2_readNumber_24 : decode cX2_readNumber 24 = .ok (.istore 4, 2) := by decide +kernel
theorem dX2_readNumber_26 : decode cX2_readNumber 26 = .ok (.iload 4, 2) := by decide +kernel
theorem dX2_readNumber_28 : decode cX2_readNumber 28 = .ok (.aload_n 0, 1) := by decide +kernel
theorem dX2_readNumber_29 : decode cX2_readNumber 29 = .ok (.getfield 22, 3) := by decide +kernel
theorem dX2_readNumber_32 : decode cX2_readNumber 32 = .ok (.if_icmp .ge 36, 3) := by decide +kernel
theorem dX2_readNumber_35 : decode cX2_readNumber 35 = .ok (.iload 4, 2) := by decide +kernel
theorem dX2_readNumber_37 : decode cX2_readNumber 37 = .ok (.aload_n 0, 1) := by decide +kernel
theorem dX2_readNumber_38 : decode cX2_readNumber 38 = .ok (.getfield 19, 3) := by decide +kernel
theorem dX2_readNumber_41 : decode cX2_readNumber 41 = .ok (.iconst 3, 1) := by decide +kernel
theorem dX2_readNumber_42 : decode cX2_readNumber 42 = .ok (.iadd, 1) := by decide +kernel
theorem dX2_readNumber_43 : decode cX2_readNumber 43 = .ok (.if_icmp .ge 25, 3) := by decide +kernel
theorem dX2_readNumber_46 : decode cX2_readNumber 46 = .ok (.bipush 10, 2) := by decide +kernel
theorem dX2_readNumber_48 : decode cX2_readNumber 48 = .ok (.iload_n 3, 1) := by decide +kernel
theorem dX2_readNumber_49 : decode cX2_readNumber 49 = .ok (.imul, 1) := by decide +kernel
theorem dX2_readNumber_50 : decode cX2_readNumber 50 = .ok (.aload_n 0, 1) := by decide +kernel
theorem dX2_readNumber_51 : decode cX2_readNumber 51 = .ok (.getfield 9, 3) := by decide +kernel
theorem dX2_readNumber_54 : decode cX2_readNumber 54 = .ok (.iload 4, 2) := by decide +kernel
theorem dX2_readNumber_56 : decode cX2_readNumber 56 = .ok (.iaload, 1) := by decide +kernel
theorem dX2_readNumber_57 : decode cX2_readNumber 57 = .ok (.iadd, 1) := by decide +kernel
theorem dX2_readNumber_58 : decode cX2_readNumber 58 = .ok (.bipush 48, 2) := by decide +kernel
theorem dX2_readNumber_60 : decode cX2_readNumber 60 = .ok (.isub, 1) := by decide +kernel
theorem dX2_readNumber_61 : decode cX2_readNumber 61 = .ok (.istore_n 3, 1) := by decide +kernel
theorem dX2_readNumber_62 : decode cX2_readNumber 62 = .ok (.iinc 4 1, 3) := by decide +kernel
theorem dX2_readNumber_65 : decode cX2_readNumber 65 = .ok (.goto (-39), 3) := by decide +kernel
theorem dX2_readNumber_68 : decode cX2_readNumber 68 = .ok (.aload_n 0, 1) := by decide +kernel
theorem dX2_readNumber_69 : decode cX2_readNumber 69 = .ok (.getfield 22, 3) := by decide +kernel
theorem dX2_readNumber_72 : decode cX2_readNumber 72 = .ok (.aload_n 0, 1) := by decide +kernel
theorem dX2_readNumber_73 : decode cX2_readNumber 73 = .ok (.getfield 19, 3) := by decide +kernel
theorem dX2_readNumber_76 : decode cX2_readNumber 76 = .ok (.isub, 1) := by decide +kernel
theorem dX2_readNumber_77 : decode cX2_readNumber 77 = .ok (.iconst 3, 1) := by decide +kernel
theorem dX2_readNumber_78 : decode cX2_readNumber 78 = .ok (.if_icmp .gt 13, 3) := by decide +kernel
theorem dX2_readNumber_81 : decode cX2_readNumber 81 = .ok (.iload_n 3, 1) := by decide +kernel
theorem dX2_readNumber_82 : decode cX2_readNumber 82 = .ok (.iload_n 1, 1) := by decide +kernel
theorem dX2_readNumber_83 : decode cX2_readNumber 83 = .ok (.if_icmp .lt 8, 3) := by decide +kernel
theorem dX2_readNumber_86 : decode cX2_readNumber 86 = .ok (.iload_n 3, 1) := by decide +kernel
theorem dX2_readNumber_87 : decode cX2_readNumber 87 = .ok (.iload_n 2, 1) := by decide +kernel
theorem dX2_readNumber_88 : decode cX2_readNumber 88 = .ok (.if_icmp .le 10, 3) := by decide +kernel
theorem dX2_readNumber_91 : decode cX2_readNumber 91 = .ok (.aload_n 0, 1) := by decide +kernel
theorem dX2_readNumber_92 : decode cX2_readNumber 92 = .ok (.iconst 2, 1) := by decide +kernel
theorem dX2_readNumber_93 : decode cX2_readNumber 93 = .ok (.invokevirtual 60, 3) := by decide +kernel
theorem dX2_readNumber_96 : decode cX2_readNumber 96 = .ok (.iconst (-1), 1) := by decide +kernel
theorem dX2_readNumber_97 : decode cX2_readNumber 97 = .ok (.ireturn, 1) := by decide +kernel
theorem dX2_readNumber_98 : decode cX2_readNumber 98 = .ok (.aload_n 0, 1) := by decide +kernel
theorem dX2_readNumber_99 : decode cX2_readNumber 99 = .ok (.invokevirtual 47, 3) := by decide +kernel
theorem dX2_readNumber_102 : decode cX2_readNumber 102 = .ok (.iload_n 3, 1) := by decide +kernel
theorem dX2_readNumber_103 : decode cX2_readNumber 103 = .ok (.ireturn, 1) := by decide +kernel
theorem dX2_closeBlock_0 : decode cX2_closeBlock 0 = .ok (.aload_n 0, 1) := by decide +kernel
theorem dX2_closeBlock_1 : decode cX2_closeBlock 1 = .ok (.getfield 35, 3) := by decide +kernel
theorem dX2_closeBlock_4 : decode cX2_closeBlock 4 = .ok (.ifCond .ne 9, 3) := by decide +kernel
theorem dX2_closeBlock_7 : decode cX2_closeBlock 7 = .ok (.aload_n 0, 1) := by decide +kernel
theorem dX2_closeBlock_8 : decode cX2_closeBlock 8 = .ok (.iconst 1, 1) := by decide +kernel
theorem dX2_closeBlock_9 : decode cX2_closeBlock 9 = .ok (.invokevirtual 60, 3) := by decide +kernel
theorem dX2_closeBlock_12 : decode cX2_closeBlock 12 = .ok (.return_, 1) := by decide +kernel
theorem dX2_closeBlock_13 : decode cX2_closeBlock 13 = .ok (.aload_n 0, 1) := by decide +kernel
theorem dX2_closeBlock_14 : decode cX2_closeBlock 14 = .ok (.dup, 1) := by decide +kernel
theorem dX2_closeBlock_15 : decode cX2_closeBlock 15 = .ok (.getfield 35, 3) := by decide +kernel
theorem dX2_closeBlock_18 : decode cX2_closeBlock 18 = .ok (.iconst 1, 1) := by decide +kernel
theorem dX2_closeBlock_19 : decode cX2_closeBlock 19 = .ok (.isub, 1) := by decide +kernel
theorem dX2_closeBlock_20 : decode cX2_closeBlock 20 = .ok (.putfield 35, 3) := by decide +kernel
theorem dX2_closeBlock_23 : decode cX2_closeBlock 23 = .ok (.aload_n 0, 1) := by decide +kernel
theorem dX2_closeBlock_24 : decode cX2_closeBlock 24 = .ok (.getfield 28, 3) := by decide +kernel
theorem dX2_closeBlock_27 : decode cX2_closeBlock 27 = .ok (.getfield 95, 3) := by decide +kernel
theorem dX2_closeBlock_30 : decode cX2_closeBlock 30 = .ok (.aload_n 0, 1) := by decide +kernel
theorem dX2_closeBlock_31 : decode cX2_closeBlock 31 = .ok (.getfield 32, 3) := by decide +kernel
theorem dX2_closeBlock_34 : decode cX2_closeBlock 34 = .ok (.aload_n 0, 1) := by decide +kernel
theorem dX2_closeBlock_35 : decode cX2_closeBlock 35 = .ok (.getfield 35, 3) := by decide +kernel
theorem dX2_closeBlock_38 : decode cX2_closeBlock 38 = .ok (.iaload, 1) := by decide +kernel
theorem dX2_closeBlock_39 : decode cX2_closeBlock 39 = .ok (.aload_n 0, 1) := by decide +kernel
theorem dX2_closeBlock_40 : decode cX2_closeBlock 40 = .ok (.getfield 28, 3) := by decide +kernel
theorem dX2_closeBlock_43 : decode cX2_closeBlock 43 = .ok (.getfield 44, 3) := by decide +kernel
theorem dX2_closeBlock_46 : decode cX2_closeBlock 46 = .ok (.iastore, 1) := by decide +kernel
theorem dX2_closeBlock_47 : decode cX2_closeBlock 47 = .ok (.aload_n 0, 1) := by decide +kernel
theorem dX2_closeBlock_48 : decode cX2_closeBlock 48 = .ok (.invokevirtual 47, 3) := by decide +kernel
theorem dX2_closeBlock_51 : decode cX2_closeBlock 51 = .ok (.return_, 1) := by decide +kernel
theorem dX2_readItem_0 : decode cX2_readItem 0 = .ok (.aload_n 0, 1) := by decide +kernel
theorem dX2_readItem_1 : decode cX2_readItem 1 = .ok (.invokevirtual 86, 3) := by decide +kernel
theorem dX2_readItem_4 : decode cX2_readItem 4 = .ok (.istore_n 1, 1) := by decide +kernel
theorem dX2_readItem_5 : decode cX2_readItem 5 = .ok (.aload_n 0, 1) := by decide +kernel
theorem dX2_readItem_6 : decode cX2_readItem 6 = .ok (.ldc 98, 2) := by decide +kernel
theorem dX2_readItem_8 : decode cX2_readItem 8 = .ok (.invokevirtual 91, 3) := by decide +kernel
theorem dX2_readItem_11 : decode cX2_readItem 11 = .ok (.istore_n 2, 1) := by decide +kernel
theorem dX2_readItem_12 : decode cX2_readItem 12 = .ok (.aload_n 0, 1) := by decide +kernel
theorem dX2_readItem_13 : decode cX2_readItem 13 = .ok (.ldc 100, 2) := by decide +kernel
theorem dX2_readItem_15 : decode cX2_readItem 15 = .ok (.invokevirtual 91, 3) := by decide +kernel
theorem dX2_readItem_18 : decode cX2_readItem 18 = .ok (.istore_n 3, 1) := by decide +kernel
theorem dX2_readItem_19 : decode cX2_readItem 19 = .ok (.iload_n 1, 1) := by decide +kernel
theorem dX2_readItem_20 : decode cX2_readItem 20 = .ok (.iconst (-1), 1) := by decide +kernel
theorem dX2_readItem_21 : decode cX2_readItem 21 = .ok (.if_icmp .ne 26, 3) := by decide +kernel
theorem dX2_readItem_24 : decode cX2_readItem 24 = .ok (.iload_n 2, 1) := by decide +kernel
theorem dX2_readItem_25 : decode cX2_readItem 25 = .ok (.ifCond .ne 22, 3) := by decide +kernel
theorem dX2_readItem_28 : decode cX2_readItem 28 = .ok (.iload_n 3, 1) := by decide +kernel
theorem dX2_readItem_29 : decode cX2_readItem 29 = .ok (.ifCond .ne 18, 3) := by decide +kernel
theorem dX2_readItem_32 : decode cX2_readItem 32 = .ok (.aload_n 0, 1) := by decide +kernel
theorem dX2_readItem_33 : decode cX2_readItem 33 = .ok (.ldc 102, 2) := by decide +kernel
theorem dX2_readItem_35 : decode cX2_readItem 35 = .ok (.invokevirtual 91, 3) := by decide +kernel
theorem dX2_readItem_38 : decode cX2_readItem 38 = .ok (.ifCond .ne 9, 3) := by decide +kernel
theorem dX2_readItem_41 : decode cX2_readItem 41 = .ok (.aload_n 0, 1) := by decide +kernel
theorem dX2_readItem_42 : decode cX2_readItem 42 = .ok (.iconst 1, 1) := by decide +kernel
theorem dX2_readItem_43 : decode cX2_readItem 43 = .ok (.invokevirtual 60, 3) := by decide +kernel
theorem dX2_readItem_46 : decode cX2_readItem 46 = .ok (.return_, 1) := by decide +kernel
theorem dX2_readItem_47 : decode cX2_readItem 47 = .ok (.aload_n 0, 1) := by decide +kernel
theorem dX2_readItem_48 : decode cX2_readItem 48 = .ok (.getfield 28, 3) := by decide +kernel
theorem dX2_readItem_51 : decode cX2_readItem 51 = .ok (.getfield 44, 3) := by decide +kernel
theorem dX2_readItem_54 : decode cX2_readItem 54 = .ok (.bipush 40, 2) := by decide +kernel
theorem dX2_readItem_56 : decode cX2_readItem 56 = .ok (.if_icmp .eq 11, 3) := by decide +kernel
theorem dX2_readItem_59 : decode cX2_readItem 59 = .ok (.aload_n 0, 1) := by decide +kernel
theorem dX2_readItem_60 : decode cX2_readItem 60 = .ok (.getfield 35, 3) := by decide +kernel
theorem dX2_readItem_63 : decode cX2_readItem 63 = .ok (.iconst 4, 1) := by decide +kernel
theorem dX2_readItem_64 : decode cX2_readItem 64 = .ok (.if_icmp .ne 9, 3) := by decide +kernel
theorem dX2_readItem_67 : decode cX2_readItem 67 = .ok (.aload_n 0, 1) := by decide +kernel
theorem dX2_readItem_68 : decode cX2_readItem 68 = .ok (.iconst 3, 1) := by decide +kernel
theorem dX2_readItem_69 : decode cX2_readItem 69 = .ok (.invokevirtual 60, 3) := by decide +kernel
theorem dX2_readItem_72 : decode cX2_readItem 72 = .ok (.return_, 1) := by decide +kernel
theorem dX2_readItem_73 : decode cX2_readItem 73 = .ok (.aload_n 0, 1) := by decide +kernel
theorem dX2_readItem_74 : decode cX2_readItem 74 = .ok (.invokevirtual 47, 3) := by decide +kernel
theorem dX2_readItem_77 : decode cX2_readItem 77 = .ok (.iload_n 1, 1) := by decide +kernel
theorem dX2_readItem_78 : decode cX2_readItem 78 = .ok (.iconst (-1), 1) := by decide +kernel
theorem dX2_readItem_79 : decode cX2_readItem 79 = .ok (.if_icmp .eq 11, 3) := by decide +kernel
theorem dX2_readItem_82 : decode cX2_readItem 82 = .ok (.aload_n 0, 1) := by decide +kernel
theorem dX2_readItem_83 : decode cX2_readItem 83 = .ok (.iload_n 1, 1) := by decide +kernel
theorem dX2_readItem_84 : decode cX2_readItem 84 = .ok (.invokevirtual 104, 3) := by decide +kernel
theorem dX2_readItem_87 : decode cX2_readItem 87 = .ok (.goto 69, 3) := by decide +kernel
theorem dX2_readItem_90 : decode cX2_readItem 90 = .ok (.iload_n 2, 1) := by decide +kernel
theorem dX2_readItem_91 : decode cX2_readItem 91 = .ok (.ifCond .eq 33, 3) := by decide +kernel
theorem dX2_readItem_94 : decode cX2_readItem 94 = .ok (.aload_n 0, 1) := by decide +kernel
theorem dX2_readItem_95 : decode cX2_readItem 95 = .ok (.iconst 1, 1) := by decide +kernel
theorem dX2_readItem_96 : decode cX2_readItem 96 = .ok (.bipush 99, 2) := by decide +kernel
theorem dX2_readItem_98 : decode cX2_readItem 98 = .ok (.invokevirtual 107, 3) := by decide +kernel
theorem dX2_readItem_101 : decode cX2_readItem 101 = .ok (.istore 4, 2) := by decide +kernel
theorem dX2_readItem_103 : decode cX2_readItem 103 = .ok (.aload_n 0, 1) := by decide +kernel
theorem dX2_readItem_104 : decode cX2_readItem 104 = .ok (.bipush 59, 2) := by decide +kernel
theorem dX2_readItem_106 : decode cX2_readItem 106 = .ok (.invokevirtual 110, 3) := by decide +kernel
theorem dX2_readItem_109 : decode cX2_readItem 109 = .ok (.aload_n 0, 1) := by decide +kernel
theorem dX2_readItem_110 : decode cX2_readItem 110 = .ok (.getfield 28, 3) := by decide +kernel
theorem dX2_readItem_113 : decode cX2_readItem 113 = .ok (.iconst 4, 1) := by decide +kernel
theorem dX2_readItem_114 : decode cX2_readItem 114 = .ok (.iconst (-1), 1) := by decide +kernel
theorem dX2_readItem_115 : decode cX2_readItem 115 = .ok (.iconst (-1), 1) := by decide +kernel
theorem dX2_readItem_116 : decode cX2_readItem 116 = .ok (.iload 4, 2) := by decide +kernel
theorem dX2_readItem_118 : decode cX2_readItem 118 = .ok (.invokevirtual 114, 3) := by decide +kernel
theorem dX2_readItem_121 : decode cX2_readItem 121 = .ok (.goto 35, 3) := by decide +kernel
theorem dX2_readItem_124 : decode cX2_readItem 124 = .ok (.iload_n 3, 1) := by decide +kernel
theorem dX2_readItem_125 : decode cX2_readItem 125 = .ok (.ifCond .eq 19, 3) := by decide +kernel
theorem dX2_readItem_128 : decode cX2_readItem 128 = .ok (.aload_n 0, 1) := by decide +kernel
theorem dX2_readItem_129 : decode cX2_readItem 129 = .ok (.iconst 5, 1) := by decide +kernel
theorem dX2_readItem_130 : decode cX2_readItem 130 = .ok (.iconst (-1), 1) := by decide +kernel
theorem dX2_readItem_131 : decode cX2_readItem 131 = .ok (.aload_n 0, 1) := by decide +kernel
theorem dX2_readItem_132 : decode cX2_readItem 132 = .ok (.iconst 2, 1) := by decide +kernel
theorem dX2_readItem_133 : decode cX2_readItem 133 = .ok (.bipush 9, 2) := by decide +kernel
theorem dX2_readItem_135 : decode cX2_readItem 135 = .ok (.invokevirtual 107, 3) := by decide +kernel
theorem dX2_readItem_138 : decode cX2_readItem 138 = .ok (.invokevirtual 118, 3) := by decide +kernel
theorem dX2_readItem_141 : decode cX2_readItem 141 = .ok (.goto 15, 3) := by decide +kernel
theorem dX2_readItem_144 : decode cX2_readItem 144 = .ok (.aload_n 0, 1) := by decide +kernel
theorem dX2_readItem_145 : decode cX2_readItem 145 = .ok (.bipush 6, 2) := by decide +kernel
theorem dX2_readItem_147 : decode cX2_readItem 147 = .ok (.aload_n 0, 1) := by decide +kernel
theorem dX2_readItem_148 : decode cX2_readItem 148 = .ok (.iconst 0, 1) := by decide +kernel
theorem dX2_readItem_149 : decode cX2_readItem 149 = .ok (.invokevirtual 122, 3) := by decide +kernel
theorem dX2_readItem_152 : decode cX2_readItem 152 = .ok (.iconst 0, 1) := by decide +kernel
theorem dX2_readItem_153 : decode cX2_readItem 153 = .ok (.invokevirtual 118, 3) := by decide +kernel
theorem dX2_readItem_156 : decode cX2_readItem 156 = .ok (.return_, 1) := by decide +kernel
theorem dX2_openBlock_0 : decode cX2_openBlock 0 = .ok (.aload_n 0, 1) := by decide +kernel
theorem dX2_openBlock_1 : decode cX2_openBlock 1 = .ok (.bipush 123, 2) := by decide +kernel
theorem dX2_openBlock_3 : decode cX2_openBlock 3 = .ok (.invokevirtual 110, 3) := by decide +kernel
theorem dX2_openBlock_6 : decode cX2_openBlock 6 = .ok (.aload_n 0, 1) := by decide +kernel
theorem dX2_openBlock_7 : decode cX2_openBlock 7 = .ok (.getfield 32, 3) := by decide +kernel
theorem dX2_openBlock_10 : decode cX2_openBlock 10 = .ok (.aload_n 0, 1) := by decide +kernel
theorem dX2_openBlock_11 : decode cX2_openBlock 11 = .ok (.getfield 35, 3) := by decide +kernel
theorem dX2_openBlock_14 : decode cX2_openBlock 14 = .ok (.aload_n 0, 1) := by decide +kernel
theorem dX2_openBlock_15 : decode cX2_openBlock 15 = .ok (.getfield 28, 3) := by decide +kernel
theorem dX2_openBlock_18 : decode cX2_openBlock 18 = .ok (.getfield 44, 3) := by decide +kernel
theorem dX2_openBlock_21 : decode cX2_openBlock 21 = .ok (.iastore, 1) := by decide +kernel
theorem dX2_openBlock_22 : decode cX2_openBlock 22 = .ok (.aload_n 0, 1) := by decide +kernel
theorem dX2_openBlock_23 : decode cX2_openBlock 23 = .ok (.dup, 1) := by decide +kernel
theorem dX2_openBlock_24 : decode cX2_openBlock 24 = .ok (.getfield 35, 3) := by decide +kernel
theorem dX2_openBlock_27 : decode cX2_openBlock 27 = .ok (.iconst 1, 1) := by decide +kernel
theorem dX2_openBlock_28 : decode cX2_openBlock 28 = .ok (.iadd, 1) := by decide +kernel
theorem dX2_openBlock_29 : decode cX2_openBlock 29 = .ok (.putfield 35, 3) := by decide +kernel
theorem dX2_openBlock_32 : decode cX2_openBlock 32 = .ok (.aload_n 0, 1) := by decide +kernel
theorem dX2_openBlock_33 : decode cX2_openBlock 33 = .ok (.getfield 28, 3) := by decide +kernel
theorem dX2_openBlock_36 : decode cX2_openBlock 36 = .ok (.iload_n 1, 1) := by decide +kernel
theorem dX2_openBlock_37 : decode cX2_openBlock 37 = .ok (.iload_n 2, 1) := by decide +kernel
theorem dX2_openBlock_38 : decode cX2_openBlock 38 = .ok (.iconst (-1), 1) := by decide +kernel
theorem dX2_openBlock_39 : decode cX2_openBlock 39 = .ok (.iload_n 3, 1) := by decide +kernel
theorem dX2_openBlock_40 : decode cX2_openBlock 40 = .ok (.invokevirtual 114, 3) := by decide +kernel
theorem dX2_openBlock_43 : decode cX2_openBlock 43 = .ok (.return_, 1) := by decide +kernel
theorem dX2_readNaming_0 : decode cX2_readNaming 0 = .ok (.aload_n 0, 1) := by decide +kernel
theorem dX2_readNaming_1 : decode cX2_readNaming 1 = .ok (.bipush 46, 2) := by decide +kernel
theorem dX2_readNaming_3 : decode cX2_readNaming 3 = .ok (.invokevirtual 50, 3) := by decide +kernel
theorem dX2_readNaming_6 : decode cX2_readNaming 6 = .ok (.ifCond .eq 39, 3) := by decide +kernel
theorem dX2_readNaming_9 : decode cX2_readNaming 9 = .ok (.aload_n 0, 1) := by decide +kernel
theorem dX2_readNaming_10 : decode cX2_readNaming 10 = .ok (.invokevirtual 47, 3) := by decide +kernel
theorem dX2_readNaming_13 : decode cX2_readNaming 13 = .ok (.aload_n 0, 1) := by decide +kernel
theorem dX2_readNaming_14 : decode cX2_readNaming 14 = .ok (.iconst 0, 1) := by decide +kernel
theorem dX2_readNaming_15 : decode cX2_readNaming 15 = .ok (.bipush 6, 2) := by decide +kernel
theorem dX2_readNaming_17 : decode cX2_readNaming 17 = .ok (.invokevirtual 107, 3) := by decide +kernel
theorem dX2_readNaming_20 : decode cX2_readNaming 20 = .ok (.istore_n 2, 1) := by decide +kernel
theorem dX2_readNaming_21 : decode cX2_readNaming 21 = .ok (.aload_n 0, 1) := by decide +kernel
theorem dX2_readNaming_22 : decode cX2_readNaming 22 = .ok (.bipush 61, 2) := by decide +kernel
theorem dX2_readNaming_24 : decode cX2_readNaming 24 = .ok (.invokevirtual 110, 3) := by decide +kernel
theorem dX2_readNaming_27 : decode cX2_readNaming 27 = .ok (.aload_n 0, 1) := by decide +kernel
theorem dX2_readNaming_28 : decode cX2_readNaming 28 = .ok (.getfield 28, 3) := by decide +kernel
theorem dX2_readNaming_31 : decode cX2_readNaming 31 = .ok (.iconst 3, 1) := by decide +kernel
theorem dX2_readNaming_32 : decode cX2_readNaming 32 = .ok (.iload_n 1, 1) := by decide +kernel
theorem dX2_readNaming_33 : decode cX2_readNaming 33 = .ok (.aload_n 0, 1) := by decide +kernel
theorem dX2_readNaming_34 : decode cX2_readNaming 34 = .ok (.iconst 1, 1) := by decide +kernel
theorem dX2_readNaming_35 : decode cX2_readNaming 35 = .ok (.invokevirtual 122, 3) := by decide +kernel
theorem dX2_readNaming_38 : decode cX2_readNaming 38 = .ok (.iload_n 2, 1) := by decide +kernel
theorem dX2_readNaming_39 : decode cX2_readNaming 39 = .ok (.invokevirtual 114, 3) := by decide +kernel
theorem dX2_readNaming_42 : decode cX2_readNaming 42 = .ok (.goto 14, 3) := by decide +kernel
theorem dX2_readNaming_45 : decode cX2_readNaming 45 = .ok (.aload_n 0, 1) := by decide +kernel
theorem dX2_readNaming_46 : decode cX2_readNaming 46 = .ok (.bipush 61, 2) := by decide +kernel
theorem dX2_readNaming_48 : decode cX2_readNaming 48 = .ok (.invokevirtual 110, 3) := by decide +kernel
theorem dX2_readNaming_51 : decode cX2_readNaming 51 = .ok (.aload_n 0, 1) := by decide +kernel
theorem dX2_readNaming_52 : decode cX2_readNaming 52 = .ok (.iload_n 1, 1) := by decide +kernel
theorem dX2_readNaming_53 : decode cX2_readNaming 53 = .ok (.invokevirtual 126, 3) := by decide +kernel
theorem dX2_readNaming_56 : decode cX2_readNaming 56 = .ok (.aload_n 0, 1) := by decide +kernel
theorem dX2_readNaming_57 : decode cX2_readNaming 57 = .ok (.bipush 59, 2) := by decide +kernel
theorem dX2_readNaming_59 : decode cX2_readNaming 59 = .ok (.invokevirtual 110, 3) := by decide +kernel
theorem dX2_readNaming_62 : decode cX2_readNaming 62 = .ok (.return_, 1) := by decide +kernel
theorem dX2_readValue_0 : decode cX2_readValue 0 = .ok (.aload_n 0, 1) := by decide +kernel
theorem dX2_readValue_1 : decode cX2_readValue 1 = .ok (.ldc 129, 2) := by decide +kernel
theorem dX2_readValue_3 : decode cX2_readValue 3 = .ok (.invokevirtual 91, 3) := by decide +kernel
theorem dX2_readValue_6 : decode cX2_readValue 6 = .ok (.ifCond .eq 25, 3) := by decide +kernel
theorem dX2_readValue_9 : decode cX2_readValue 9 = .ok (.aload_n 0, 1) := by decide +kernel
theorem dX2_readValue_10 : decode cX2_readValue 10 = .ok (.invokevirtual 47, 3) := by decide +kernel
theorem dX2_readValue_13 : decode cX2_readValue 13 = .ok (.aload_n 0, 1) := by decide +kernel
theorem dX2_readValue_14 : decode cX2_readValue 14 = .ok (.getfield 28, 3) := by decide +kernel
theorem dX2_readValue_17 : decode cX2_readValue 17 = .ok (.iconst 0, 1) := by decide +kernel
theorem dX2_readValue_18 : decode cX2_readValue 18 = .ok (.iload_n 1, 1) := by decide +kernel
theorem dX2_readValue_19 : decode cX2_readValue 19 = .ok (.iconst (-1), 1) := by decide +kernel
theorem dX2_readValue_20 : decode cX2_readValue 20 = .ok (.aload_n 0, 1) := by decide +kernel
theorem dX2_readValue_21 : decode cX2_readValue 21 = .ok (.iconst 0, 1) := by decide +kernel
theorem dX2_readValue_22 : decode cX2_readValue 22 = .ok (.bipush 7, 2) := by decide +kernel
theorem dX2_readValue_24 : decode cX2_readValue 24 = .ok (.invokevirtual 107, 3) := by decide +kernel
theorem dX2_readValue_27 : decode cX2_readValue 27 = .ok (.invokevirtual 114, 3) := by decide +kernel
theorem dX2_readValue_30 : decode cX2_readValue 30 = .ok (.return_, 1) := by decide +kernel
theorem dX2_readValue_31 : decode cX2_readValue 31 = .ok (.aload_n 0, 1) := by decide +kernel
theorem dX2_readValue_32 : decode cX2_readValue 32 = .ok (.iconst 1, 1) := by decide +kernel
theorem dX2_readValue_33 : decode cX2_readValue 33 = .ok (.invokevirtual 122, 3) := by decide +kernel
theorem dX2_readValue_36 : decode cX2_readValue 36 = .ok (.istore_n 2, 1) := by decide +kernel
theorem dX2_readValue_37 : decode cX2_readValue 37 = .ok (.iload_n 2, 1) := by decide +kernel
theorem dX2_readValue_38 : decode cX2_readValue 38 = .ok (.iconst (-1), 1) := by decide +kernel
theorem dX2_readValue_39 : decode cX2_readValue 39 = .ok (.if_icmp .eq 36, 3) := by decide +kernel
theorem dX2_readValue_42 : decode cX2_readValue 42 = .ok (.aload_n 0, 1) := by decide +kernel
theorem dX2_readValue_43 : decode cX2_readValue 43 = .ok (.bipush 46, 2) := by decide +kernel
theorem dX2_readValue_45 : decode cX2_readValue 45 = .ok (.invokevirtual 50, 3) := by decide +kernel
theorem dX2_readValue_48 : decode cX2_readValue 48 = .ok (.ifCond .eq 27, 3) := by decide +kernel
theorem dX2_readValue_51 : decode cX2_readValue 51 = .ok (.aload_n 0, 1) := by decide +kernel
theorem dX2_readValue_52 : decode cX2_readValue 52 = .ok (.invokevirtual 47, 3) := by decide +kernel
theorem dX2_readValue_55 : decode cX2_readValue 55 = .ok (.aload_n 0, 1) := by decide +kernel
theorem dX2_readValue_56 : decode cX2_readValue 56 = .ok (.getfield 28, 3) := by decide +kernel
theorem dX2_readValue_59 : decode cX2_readValue 59 = .ok (.iconst 2, 1) := by decide +kernel
theorem dX2_readValue_60 : decode cX2_readValue 60 = .ok (.iload_n 1, 1) := by decide +kernel
theorem dX2_readValue_61 : decode cX2_readValue 61 = .ok (.iload_n 2, 1) := by decide +kernel
theorem dX2_readValue_62 : decode cX2_readValue 62 = .ok (.aload_n 0, 1) := by decide +kernel
theorem dX2_readValue_63 : decode cX2_readValue 63 = .ok (.iconst 0, 1) := by decide +kernel
theorem dX2_readValue_64 : decode cX2_readValue 64 = .ok (.bipush 6, 2) := by decide +kernel
theorem dX2_readValue_66 : decode cX2_readValue 66 = .ok (.invokevirtual 107, 3) := by decide +kernel
theorem dX2_readValue_69 : decode cX2_readValue 69 = .ok (.invokevirtual 114, 3) := by decide +kernel
theorem dX2_readValue_72 : decode cX2_readValue 72 = .ok (.goto 14, 3) := by decide +kernel
theorem dX2_readValue_75 : decode cX2_readValue 75 = .ok (.aload_n 0, 1) := by decide +kernel
theorem dX2_readValue_76 : decode cX2_readValue 76 = .ok (.getfield 28, 3) := by decide +kernel
theorem dX2_readValue_79 : decode cX2_readValue 79 = .ok (.iconst 1, 1) := by decide +kernel
theorem dX2_readValue_80 : decode cX2_readValue 80 = .ok (.iload_n 1, 1) := by decide +kernel
theorem dX2_readValue_81 : decode cX2_readValue 81 = .ok (.iload_n 2, 1) := by decide +kernel
theorem dX2_readValue_82 : decode cX2_readValue 82 = .ok (.iconst 0, 1) := by decide +kernel
theorem dX2_readValue_83 : decode cX2_readValue 83 = .ok (.invokevirtual 114, 3) := by decide +kernel
theorem dX2_readValue_86 : decode cX2_readValue 86 = .ok (.return_, 1) := by decide +kernel
theorem dX3_init_0 : decode cX3_init 0 = .ok (.aload_n 0, 1) := by decide +kernel
theorem dX3_init_1 : decode cX3_init 1 = .ok (.invokespecial 3, 3) := by decide +kernel
theorem dX3_init_4 : decode cX3_init 4 = .ok (.aload_n 0, 1) := by decide +kernel
theorem dX3_init_5 : decode cX3_init 5 = .ok (.bipush 77, 2) := by decide +kernel
theorem dX3_init_7 : decode cX3_init 7 = .ok (.newarray .int, 2) := by decide +kernel
theorem dX3_init_9 : decode cX3_init 9 = .ok (.putfield 11, 3) := by decide +kernel
theorem dX3_init_12 : decode cX3_init 12 = .ok (.aload_n 0, 1) := by decide +kernel
theorem dX3_init_13 : decode cX3_init 13 = .ok (.bipush 77, 2) := by decide +kernel
theorem dX3_init_15 : decode cX3_init 15 = .ok (.newarray .int, 2) := by decide +kernel
theorem dX3_init_17 : decode cX3_init 17 = .ok (.putfield 15, 3) := by decide +kernel
theorem dX3_init_20 : decode cX3_init 20 = .ok (.aload_n 0, 1) := by decide +kernel
theorem dX3_init_21 : decode cX3_init 21 = .ok (.bipush 64, 2) := by decide +kernel
theorem dX3_init_23 : decode cX3_init 23 = .ok (.newarray .int, 2) := by decide +kernel
theorem dX3_init_25 : decode cX3_init 25 = .ok (.putfield 18, 3) := by decide +kernel
theorem dX3_init_28 : decode cX3_init 28 = .ok (.aload_n 0, 1) := by decide +kernel
theorem dX3_init_29 : decode cX3_init 29 = .ok (.bipush 13, 2) := by decide +kernel
theorem dX3_init_31 : decode cX3_init 31 = .ok (.newarray .int, 2) := by decide +kernel
theorem dX3_init_33 : decode cX3_init 33 = .ok (.putfield 21, 3) := by decide +kernel
theorem dX3_init_36 : decode cX3_init 36 = .ok (.aload_n 0, 1) := by decide +kernel
theorem dX3_init_37 : decode cX3_init 37 = .ok (.invokevirtual 24, 3) := by decide +kernel
theorem dX3_init_40 : decode cX3_init 40 = .ok (.return_, 1) := by decide +kernel
theorem dX3_row_0 : decode cX3_row 0 = .ok (.iload_n 0, 1) := by decide +kernel
theorem dX3_row_1 : decode cX3_row 1 = .ok (.iconst 4, 1) := by decide +kernel
theorem dX3_row_2 : decode cX3_row 2 = .ok (.idiv, 1) := by decide +kernel
theorem dX3_row_3 : decode cX3_row 3 = .ok (.iconst 4, 1) := by decide +kernel
theorem dX3_row_4 : decode cX3_row 4 = .ok (.imul, 1) := by decide +kernel
theorem dX3_row_5 : decode cX3_row 5 = .ok (.iload_n 1, 1) := by decide +kernel
theorem dX3_row_6 : decode cX3_row 6 = .ok (.iadd, 1) := by decide +kernel
theorem dX3_row_7 : decode cX3_row 7 = .ok (.ireturn, 1) := by decide +kernel
theorem dX3_clear_0 : decode cX3_clear 0 = .ok (.iconst 0, 1) := by decide +kernel
theorem dX3_clear_1 : decode cX3_clear 1 = .ok (.istore_n 1, 1) := by decide +kernel
theorem dX3_clear_2 : decode cX3_clear 2 = .ok (.iload_n 1, 1) := by decide +kernel
theorem dX3_clear_3 : decode cX3_clear 3 = .ok (.aload_n 0, 1) := by decide +kernel
theorem dX3_clear_4 : decode cX3_clear 4 = .ok (.getfield 11, 3) := by decide +kernel
theorem dX3_clear_7 : decode cX3_clear 7 = .ok (.arraylength, 1) := by decide +kernel
theorem dX3_clear_8 : decode cX3_clear 8 = .ok (.if_icmp .ge 23, 3) := by decide +kernel
theorem dX3_clear_11 : decode cX3_clear 11 = .ok (.aload_n 0, 1) := by decide +kernel
theorem dX3_clear_12 : decode cX3_clear 12 = .ok (.getfield 11, 3) := by decide +kernel
theorem dX3_clear_15 : decode cX3_clear 15 = .ok (.iload_n 1, 1) := by decide +kernel
theorem dX3_clear_16 : decode cX3_clear 16 = .ok (.iload_n 1, 1) := by decide +kernel
theorem dX3_clear_17 : decode cX3_clear 17 = .ok (.iastore, 1) := by decide +kernel
theorem dX3_clear_18 : decode cX3_clear 18 = .ok (.aload_n 0, 1) := by decide +kernel
theorem dX3_clear_19 : decode cX3_clear 19 = .ok (.getfield 15, 3) := by decide +kernel
end
section
theorem dX3_clear_22 : decode cX3_clear 22 = .ok (.iload_n 1, 1) := by decide +kernel
theorem dX3_clear_23 : decode cX3_clear 23 = .ok (.iload_n 1, 1) := by decide +kernel
theorem dX3_clear_24 : decode cX3_clear 24 = .ok (.iastore, 1) := by decide +kernel
theorem dX3_clear_25 : decode cX3_clear 25 = .ok (.iinc 1 1, 3) := by decide +kernel
theorem dX3_clear_28 : decode cX3_clear 28 = .ok (.goto (-26), 3) := by decide +kernel
theorem dX3_clear_31 : decode cX3_clear 31 = .ok (.aload_n 0, 1) := by decide +kernel
theorem dX3_clear_32 : decode cX3_clear 32 = .ok (.getfield 18, 3) := by decide +kernel
theorem dX3_clear_35 : decode cX3_clear 35 = .ok (.bipush 12, 2) := by decide +kernel
theorem dX3_clear_37 : decode cX3_clear 37 = .ok (.invokestatic 27, 3) := by decide +kernel
theorem dX3_clear_40 : decode cX3_clear 40 = .ok (.aload_n 0, 1) := by decide +kernel
theorem dX3_clear_41 : decode cX3_clear 41 = .ok (.getfield 21, 3) := by decide +kernel
theorem dX3_clear_44 : decode cX3_clear 44 = .ok (.iconst 0, 1) := by decide +kernel
theorem dX3_clear_45 : decode cX3_clear 45 = .ok (.invokestatic 27, 3) := by decide +kernel
theorem dX3_clear_48 : decode cX3_clear 48 = .ok (.aload_n 0, 1) := by decide +kernel
theorem dX3_clear_49 : decode cX3_clear 49 = .ok (.getfield 21, 3) := by decide +kernel
theorem dX3_clear_52 : decode cX3_clear 52 = .ok (.bipush 12, 2) := by decide +kernel
theorem dX3_clear_54 : decode cX3_clear 54 = .ok (.bipush 64, 2) := by decide +kernel
theorem dX3_clear_56 : decode cX3_clear 56 = .ok (.iastore, 1) := by decide +kernel
theorem dX3_clear_57 : decode cX3_clear 57 = .ok (.return_, 1) := by decide +kernel
theorem dX3_become_0 : decode cX3_become 0 = .ok (.aload_n 1, 1) := by decide +kernel
theorem dX3_become_1 : decode cX3_become 1 = .ok (.getfield 11, 3) := by decide +kernel
theorem dX3_become_4 : decode cX3_become 4 = .ok (.iconst 0, 1) := by decide +kernel
theorem dX3_become_5 : decode cX3_become 5 = .ok (.aload_n 0, 1) := by decide +kernel
theorem dX3_become_6 : decode cX3_become 6 = .ok (.getfield 11, 3) := by decide +kernel
theorem dX3_become_9 : decode cX3_become 9 = .ok (.iconst 0, 1) := by decide +kernel
theorem dX3_become_10 : decode cX3_become 10 = .ok (.aload_n 0, 1) := by decide +kernel
theorem dX3_become_11 : decode cX3_become 11 = .ok (.getfield 11, 3) := by decide +kernel
theorem dX3_become_14 : decode cX3_become 14 = .ok (.arraylength, 1) := by decide +kernel
theorem dX3_become_15 : decode cX3_become 15 = .ok (.invokestatic 33, 3) := by decide +kernel
theorem dX3_become_18 : decode cX3_become 18 = .ok (.aload_n 1, 1) := by decide +kernel
theorem dX3_become_19 : decode cX3_become 19 = .ok (.getfield 15, 3) := by decide +kernel
theorem dX3_become_22 : decode cX3_become 22 = .ok (.iconst 0, 1) := by decide +kernel
theorem dX3_become_23 : decode cX3_become 23 = .ok (.aload_n 0, 1) := by decide +kernel
theorem dX3_become_24 : decode cX3_become 24 = .ok (.getfield 15, 3) := by decide +kernel
theorem dX3_become_27 : decode cX3_become 27 = .ok (.iconst 0, 1) := by decide +kernel
theorem dX3_become_28 : decode cX3_become 28 = .ok (.aload_n 0, 1) := by decide +kernel
theorem dX3_become_29 : decode cX3_become 29 = .ok (.getfield 15, 3) := by decide +kernel
theorem dX3_become_32 : decode cX3_become 32 = .ok (.arraylength, 1) := by decide +kernel
theorem dX3_become_33 : decode cX3_become 33 = .ok (.invokestatic 33, 3) := by decide +kernel
theorem dX3_become_36 : decode cX3_become 36 = .ok (.aload_n 1, 1) := by decide +kernel
theorem dX3_become_37 : decode cX3_become 37 = .ok (.getfield 18, 3) := by decide +kernel
theorem dX3_become_40 : decode cX3_become 40 = .ok (.iconst 0, 1) := by decide +kernel
theorem dX3_become_41 : decode cX3_become 41 = .ok (.aload_n 0, 1) := by decide +kernel
theorem dX3_become_42 : decode cX3_become 42 = .ok (.getfield 18, 3) := by decide +kernel
theorem dX3_become_45 : decode cX3_become 45 = .ok (.iconst 0, 1) := by decide +kernel
theorem dX3_become_46 : decode cX3_become 46 = .ok (.aload_n 0, 1) := by decide +kernel
theorem dX3_become_47 : decode cX3_become 47 = .ok (.getfield 18, 3) := by decide +kernel
theorem dX3_become_50 : decode cX3_become 50 = .ok (.arraylength, 1) := by decide +kernel
theorem dX3_become_51 : decode cX3_become 51 = .ok (.invokestatic 33, 3) := by decide +kernel
theorem dX3_become_54 : decode cX3_become 54 = .ok (.aload_n 1, 1) := by decide +kernel
theorem dX3_become_55 : decode cX3_become 55 = .ok (.getfield 21, 3) := by decide +kernel
theorem dX3_become_58 : decode cX3_become 58 = .ok (.iconst 0, 1) := by decide +kernel
theorem dX3_become_59 : decode cX3_become 59 = .ok (.aload_n 0, 1) := by decide +kernel
theorem dX3_become_60 : decode cX3_become 60 = .ok (.getfield 21, 3) := by decide +kernel
theorem dX3_become_63 : decode cX3_become 63 = .ok (.iconst 0, 1) := by decide +kernel
theorem dX3_become_64 : decode cX3_become 64 = .ok (.aload_n 0, 1) := by decide +kernel
theorem dX3_become_65 : decode cX3_become 65 = .ok (.getfield 21, 3) := by decide +kernel
theorem dX3_become_68 : decode cX3_become 68 = .ok (.arraylength, 1) := by decide +kernel
theorem dX3_become_69 : decode cX3_become 69 = .ok (.invokestatic 33, 3) := by decide +kernel
theorem dX3_become_72 : decode cX3_become 72 = .ok (.return_, 1) := by decide +kernel
theorem dX3_colourAt_0 : decode cX3_colourAt 0 = .ok (.iload_n 1, 1) := by decide +kernel
theorem dX3_colourAt_1 : decode cX3_colourAt 1 = .ok (.ifCond .lt 29, 3) := by decide +kernel
theorem dX3_colourAt_4 : decode cX3_colourAt 4 = .ok (.iload_n 1, 1) := by decide +kernel
theorem dX3_colourAt_5 : decode cX3_colourAt 5 = .ok (.sipush 128, 3) := by decide +kernel
theorem dX3_colourAt_8 : decode cX3_colourAt 8 = .ok (.if_icmp .ge 22, 3) := by decide +kernel
theorem dX3_colourAt_11 : decode cX3_colourAt 11 = .ok (.iload_n 1, 1) := by decide +kernel
theorem dX3_colourAt_12 : decode cX3_colourAt 12 = .ok (.iconst 2, 1) := by decide +kernel
theorem dX3_colourAt_13 : decode cX3_colourAt 13 = .ok (.irem, 1) := by decide +kernel
theorem dX3_colourAt_14 : decode cX3_colourAt 14 = .ok (.ifCond .ne 16, 3) := by decide +kernel
theorem dX3_colourAt_17 : decode cX3_colourAt 17 = .ok (.aload_n 0, 1) := by decide +kernel
theorem dX3_colourAt_18 : decode cX3_colourAt 18 = .ok (.getfield 18, 3) := by decide +kernel
theorem dX3_colourAt_21 : decode cX3_colourAt 21 = .ok (.iload_n 1, 1) := by decide +kernel
theorem dX3_colourAt_22 : decode cX3_colourAt 22 = .ok (.iconst 2, 1) := by decide +kernel
theorem dX3_colourAt_23 : decode cX3_colourAt 23 = .ok (.idiv, 1) := by decide +kernel
theorem dX3_colourAt_24 : decode cX3_colourAt 24 = .ok (.iaload, 1) := by decide +kernel
theorem dX3_colourAt_25 : decode cX3_colourAt 25 = .ok (.bipush 12, 2) := by decide +kernel
theorem dX3_colourAt_27 : decode cX3_colourAt 27 = .ok (.if_icmp .ne 5, 3) := by decide +kernel
theorem dX3_colourAt_30 : decode cX3_colourAt 30 = .ok (.iconst (-1), 1) := by decide +kernel
theorem dX3_colourAt_31 : decode cX3_colourAt 31 = .ok (.ireturn, 1) := by decide +kernel
theorem dX3_colourAt_32 : decode cX3_colourAt 32 = .ok (.aload_n 0, 1) := by decide +kernel
theorem dX3_colourAt_33 : decode cX3_colourAt 33 = .ok (.getfield 18, 3) := by decide +kernel
theorem dX3_colourAt_36 : decode cX3_colourAt 36 = .ok (.iload_n 1, 1) := by decide +kernel
theorem dX3_colourAt_37 : decode cX3_colourAt 37 = .ok (.iconst 2, 1) := by decide +kernel
theorem dX3_colourAt_38 : decode cX3_colourAt 38 = .ok (.idiv, 1) := by decide +kernel
theorem dX3_colourAt_39 : decode cX3_colourAt 39 = .ok (.iaload, 1) := by decide +kernel
theorem dX3_colourAt_40 : decode cX3_colourAt 40 = .ok (.iconst 4, 1) := by decide +kernel
theorem dX3_colourAt_41 : decode cX3_colourAt 41 = .ok (.irem, 1) := by decide +kernel
theorem dX3_colourAt_42 : decode cX3_colourAt 42 = .ok (.ireturn, 1) := by decide +kernel
theorem dX3_count_0 : decode cX3_count 0 = .ok (.aload_n 0, 1) := by decide +kernel
theorem dX3_count_1 : decode cX3_count 1 = .ok (.getfield 21, 3) := by decide +kernel
theorem dX3_count_4 : decode cX3_count 4 = .ok (.iload_n 1, 1) := by decide +kernel
theorem dX3_count_5 : decode cX3_count 5 = .ok (.iaload, 1) := by decide +kernel
theorem dX3_count_6 : decode cX3_count 6 = .ok (.ireturn, 1) := by decide +kernel
theorem dX3_first_0 : decode cX3_first 0 = .ok (.iconst 2, 1) := by decide +kernel
theorem dX3_first_1 : decode cX3_first 1 = .ok (.aload_n 0, 1) := by decide +kernel
theorem dX3_first_2 : decode cX3_first 2 = .ok (.getfield 11, 3) := by decide +kernel
theorem dX3_first_5 : decode cX3_first 5 = .ok (.bipush 64, 2) := by decide +kernel
theorem dX3_first_7 : decode cX3_first 7 = .ok (.iload_n 1, 1) := by decide +kernel
theorem dX3_first_8 : decode cX3_first 8 = .ok (.iadd, 1) := by decide +kernel
theorem dX3_first_9 : decode cX3_first 9 = .ok (.iaload, 1) := by decide +kernel
theorem dX3_first_10 : decode cX3_first 10 = .ok (.imul, 1) := by decide +kernel
theorem dX3_first_11 : decode cX3_first 11 = .ok (.ireturn, 1) := by decide +kernel
theorem dX3_addressAt_0 : decode cX3_addressAt 0 = .ok (.iload_n 2, 1) := by decide +kernel
theorem dX3_addressAt_1 : decode cX3_addressAt 1 = .ok (.istore_n 3, 1) := by decide +kernel
theorem dX3_addressAt_2 : decode cX3_addressAt 2 = .ok (.iconst 0, 1) := by decide +kernel
theorem dX3_addressAt_3 : decode cX3_addressAt 3 = .ok (.istore 4, 2) := by decide +kernel
theorem dX3_addressAt_5 : decode cX3_addressAt 5 = .ok (.iload 4, 2) := by decide +kernel
theorem dX3_addressAt_7 : decode cX3_addressAt 7 = .ok (.iconst 3, 1) := by decide +kernel
theorem dX3_addressAt_8 : decode cX3_addressAt 8 = .ok (.if_icmp .gt 79, 3) := by decide +kernel
theorem dX3_addressAt_11 : decode cX3_addressAt 11 = .ok (.iload_n 1, 1) := by decide +kernel
theorem dX3_addressAt_12 : decode cX3_addressAt 12 = .ok (.iload 4, 2) := by decide +kernel
theorem dX3_addressAt_14 : decode cX3_addressAt 14 = .ok (.invokestatic 39, 3) := by decide +kernel
theorem dX3_addressAt_17 : decode cX3_addressAt 17 = .ok (.istore 5, 2) := by decide +kernel
theorem dX3_addressAt_19 : decode cX3_addressAt 19 = .ok (.iload_n 3, 1) := by decide +kernel
theorem dX3_addressAt_20 : decode cX3_addressAt 20 = .ok (.aload_n 0, 1) := by decide +kernel
theorem dX3_addressAt_21 : decode cX3_addressAt 21 = .ok (.getfield 21, 3) := by decide +kernel
theorem dX3_addressAt_24 : decode cX3_addressAt 24 = .ok (.iload 5, 2) := by decide +kernel
theorem dX3_addressAt_26 : decode cX3_addressAt 26 = .ok (.iaload, 1) := by decide +kernel
theorem dX3_addressAt_27 : decode cX3_addressAt 27 = .ok (.if_icmp .ge 44, 3) := by decide +kernel
theorem dX3_addressAt_30 : decode cX3_addressAt 30 = .ok (.aload_n 0, 1) := by decide +kernel
theorem dX3_addressAt_31 : decode cX3_addressAt 31 = .ok (.getfield 11, 3) := by decide +kernel
theorem dX3_addressAt_34 : decode cX3_addressAt 34 = .ok (.bipush 64, 2) := by decide +kernel
theorem dX3_addressAt_36 : decode cX3_addressAt 36 = .ok (.iload 5, 2) := by decide +kernel
theorem dX3_addressAt_38 : decode cX3_addressAt 38 = .ok (.iadd, 1) := by decide +kernel
theorem dX3_addressAt_39 : decode cX3_addressAt 39 = .ok (.iaload, 1) := by decide +kernel
theorem dX3_addressAt_40 : decode cX3_addressAt 40 = .ok (.istore 6, 2) := by decide +kernel
theorem dX3_addressAt_42 : decode cX3_addressAt 42 = .ok (.iconst 0, 1) := by decide +kernel
theorem dX3_addressAt_43 : decode cX3_addressAt 43 = .ok (.istore 7, 2) := by decide +kernel
theorem dX3_addressAt_45 : decode cX3_addressAt 45 = .ok (.iload 7, 2) := by decide +kernel
theorem dX3_addressAt_47 : decode cX3_addressAt 47 = .ok (.iload_n 3, 1) := by decide +kernel
theorem dX3_addressAt_48 : decode cX3_addressAt 48 = .ok (.if_icmp .ge 18, 3) := by decide +kernel
theorem dX3_addressAt_51 : decode cX3_addressAt 51 = .ok (.aload_n 0, 1) := by decide +kernel
theorem dX3_addressAt_52 : decode cX3_addressAt 52 = .ok (.getfield 11, 3) := by decide +kernel
theorem dX3_addressAt_55 : decode cX3_addressAt 55 = .ok (.iload 6, 2) := by decide +kernel
theorem dX3_addressAt_57 : decode cX3_addressAt 57 = .ok (.iaload, 1) := by decide +kernel
theorem dX3_addressAt_58 : decode cX3_addressAt 58 = .ok (.istore 6, 2) := by decide +kernel
theorem dX3_addressAt_60 : decode cX3_addressAt 60 = .ok (.iinc 7 1, 3) := by decide +kernel
theorem dX3_addressAt_63 : decode cX3_addressAt 63 = .ok (.goto (-18), 3) := by decide +kernel
theorem dX3_addressAt_66 : decode cX3_addressAt 66 = .ok (.iconst 2, 1) := by decide +kernel
theorem dX3_addressAt_67 : decode cX3_addressAt 67 = .ok (.iload 6, 2) := by decide +kernel
theorem dX3_addressAt_69 : decode cX3_addressAt 69 = .ok (.imul, 1) := by decide +kernel
theorem dX3_addressAt_70 : decode cX3_addressAt 70 = .ok (.ireturn, 1) := by decide +kernel
theorem dX3_addressAt_71 : decode cX3_addressAt 71 = .ok (.iload_n 3, 1) := by decide +kernel
theorem dX3_addressAt_72 : decode cX3_addressAt 72 = .ok (.aload_n 0, 1) := by decide +kernel
theorem dX3_addressAt_73 : decode cX3_addressAt 73 = .ok (.getfield 21, 3) := by decide +kernel
theorem dX3_addressAt_76 : decode cX3_addressAt 76 = .ok (.iload 5, 2) := by decide +kernel
theorem dX3_addressAt_78 : decode cX3_addressAt 78 = .ok (.iaload, 1) := by decide +kernel
theorem dX3_addressAt_79 : decode cX3_addressAt 79 = .ok (.isub, 1) := by decide +kernel
theorem dX3_addressAt_80 : decode cX3_addressAt 80 = .ok (.istore_n 3, 1) := by decide +kernel
theorem dX3_addressAt_81 : decode cX3_addressAt 81 = .ok (.iinc 4 1, 3) := by decide +kernel
theorem dX3_addressAt_84 : decode cX3_addressAt 84 = .ok (.goto (-79), 3) := by decide +kernel
theorem dX3_addressAt_87 : decode cX3_addressAt 87 = .ok (.iconst (-1), 1) := by decide +kernel
theorem dX3_addressAt_88 : decode cX3_addressAt 88 = .ok (.ireturn, 1) := by decide +kernel
theorem dX3_move_0 : decode cX3_move 0 = .ok (.iload_n 1, 1) := by decide +kernel
theorem dX3_move_1 : decode cX3_move 1 = .ok (.iconst 2, 1) := by decide +kernel
theorem dX3_move_2 : decode cX3_move 2 = .ok (.idiv, 1) := by decide +kernel
theorem dX3_move_3 : decode cX3_move 3 = .ok (.istore 4, 2) := by decide +kernel
theorem dX3_move_5 : decode cX3_move 5 = .ok (.aload_n 0, 1) := by decide +kernel
theorem dX3_move_6 : decode cX3_move 6 = .ok (.getfield 11, 3) := by decide +kernel
theorem dX3_move_9 : decode cX3_move 9 = .ok (.aload_n 0, 1) := by decide +kernel
theorem dX3_move_10 : decode cX3_move 10 = .ok (.getfield 15, 3) := by decide +kernel
theorem dX3_move_13 : decode cX3_move 13 = .ok (.iload 4, 2) := by decide +kernel
theorem dX3_move_15 : decode cX3_move 15 = .ok (.iaload, 1) := by decide +kernel
theorem dX3_move_16 : decode cX3_move 16 = .ok (.aload_n 0, 1) := by decide +kernel
theorem dX3_move_17 : decode cX3_move 17 = .ok (.getfield 11, 3) := by decide +kernel
theorem dX3_move_20 : decode cX3_move 20 = .ok (.iload 4, 2) := by decide +kernel
theorem dX3_move_22 : decode cX3_move 22 = .ok (.iaload, 1) := by decide +kernel
theorem dX3_move_23 : decode cX3_move 23 = .ok (.iastore, 1) := by decide +kernel
theorem dX3_move_24 : decode cX3_move 24 = .ok (.aload_n 0, 1) := by decide +kernel
theorem dX3_move_25 : decode cX3_move 25 = .ok (.getfield 15, 3) := by decide +kernel
theorem dX3_move_28 : decode cX3_move 28 = .ok (.aload_n 0, 1) := by decide +kernel
theorem dX3_move_29 : decode cX3_move 29 = .ok (.getfield 11, 3) := by decide +kernel
theorem dX3_move_32 : decode cX3_move 32 = .ok (.iload 4, 2) := by decide +kernel
theorem dX3_move_34 : decode cX3_move 34 = .ok (.iaload, 1) := by decide +kernel
theorem dX3_move_35 : decode cX3_move 35 = .ok (.aload_n 0, 1) := by decide +kernel
theorem dX3_move_36 : decode cX3_move 36 = .ok (.getfield 15, 3) := by decide +kernel
theorem dX3_move_39 : decode cX3_move 39 = .ok (.iload 4, 2) := by decide +kernel
theorem dX3_move_41 : decode cX3_move 41 = .ok (.iaload, 1) := by decide +kernel
theorem dX3_move_42 : decode cX3_move 42 = .ok (.iastore, 1) := by decide +kernel
theorem dX3_move_43 : decode cX3_move 43 = .ok (.aload_n 0, 1) := by decide +kernel
theorem dX3_move_44 : decode cX3_move 44 = .ok (.getfield 21, 3) := by decide +kernel
theorem dX3_move_47 : decode cX3_move 47 = .ok (.aload_n 0, 1) := by decide +kernel
theorem dX3_move_48 : decode cX3_move 48 = .ok (.getfield 18, 3) := by decide +kernel
theorem dX3_move_51 : decode cX3_move 51 = .ok (.iload 4, 2) := by decide +kernel
theorem dX3_move_53 : decode cX3_move 53 = .ok (.iaload, 1) := by decide +kernel
theorem dX3_move_54 : decode cX3_move 54 = .ok (.dup2, 1) := by decide +kernel
theorem dX3_move_55 : decode cX3_move 55 = .ok (.iaload, 1) := by decide +kernel
theorem dX3_move_56 : decode cX3_move 56 = .ok (.iconst 1, 1) := by decide +kernel
theorem dX3_move_57 : decode cX3_move 57 = .ok (.isub, 1) := by decide +kernel
theorem dX3_move_58 : decode cX3_move 58 = .ok (.iastore, 1) := by decide +kernel
theorem dX3_move_59 : decode cX3_move 59 = .ok (.bipush 64, 2) := by decide +kernel
theorem dX3_move_61 : decode cX3_move 61 = .ok (.iload_n 2, 1) := by decide +kernel
theorem dX3_move_62 : decode cX3_move 62 = .ok (.iadd, 1) := by decide +kernel
theorem dX3_move_63 : decode cX3_move 63 = .ok (.istore 5, 2) := by decide +kernel
theorem dX3_move_65 : decode cX3_move 65 = .ok (.iload_n 3, 1) := by decide +kernel
theorem dX3_move_66 : decode cX3_move 66 = .ok (.ifCond .eq 8, 3) := by decide +kernel
theorem dX3_move_69 : decode cX3_move 69 = .ok (.iload 5, 2) := by decide +kernel
theorem dX3_move_71 : decode cX3_move 71 = .ok (.goto 10, 3) := by decide +kernel
theorem dX3_move_74 : decode cX3_move 74 = .ok (.aload_n 0, 1) := by decide +kernel
theorem dX3_move_75 : decode cX3_move 75 = .ok (.getfield 15, 3) := by decide +kernel
theorem dX3_move_78 : decode cX3_move 78 = .ok (.iload 5, 2) := by decide +kernel
theorem dX3_move_80 : decode cX3_move 80 = .ok (.iaload, 1) := by decide +kernel
theorem dX3_move_81 : decode cX3_move 81 = .ok (.istore 6, 2) := by decide +kernel
theorem dX3_move_83 : decode cX3_move 83 = .ok (.aload_n 0, 1) := by decide +kernel
theorem dX3_move_84 : decode cX3_move 84 = .ok (.getfield 11, 3) := by decide +kernel
theorem dX3_move_87 : decode cX3_move 87 = .ok (.iload 6, 2) := by decide +kernel
theorem dX3_move_89 : decode cX3_move 89 = .ok (.iaload, 1) := by decide +kernel
theorem dX3_move_90 : decode cX3_move 90 = .ok (.istore 7, 2) := by decide +kernel
theorem dX3_move_92 : decode cX3_move 92 = .ok (.aload_n 0, 1) := by decide +kernel
theorem dX3_move_93 : decode cX3_move 93 = .ok (.getfield 11, 3) := by decide +kernel
theorem dX3_move_96 : decode cX3_move 96 = .ok (.iload 6, 2) := by decide +kernel
theorem dX3_move_98 : decode cX3_move 98 = .ok (.iload 4, 2) := by decide +kernel
theorem dX3_move_100 : decode cX3_move 100 = .ok (.iastore, 1) := by decide +kernel
theorem dX3_move_101 : decode cX3_move 101 = .ok (.aload_n 0, 1) := by decide +kernel
theorem dX3_move_102 : decode cX3_move 102 = .ok (.getfield 15, 3) := by decide +kernel
theorem dX3_move_105 : decode cX3_move 105 = .ok (.iload 4, 2) := by decide +kernel
theorem dX3_move_107 : decode cX3_move 107 = .ok (.iload 6, 2) := by decide +kernel
theorem dX3_move_109 : decode cX3_move 109 = .ok (.iastore, 1) := by decide +kernel
theorem dX3_move_110 : decode cX3_move 110 = .ok (.aload_n 0, 1) := by decide +kernel
theorem dX3_move_111 : decode cX3_move 111 = .ok (.getfield 11, 3) := by decide +kernel
theorem dX3_move_114 : decode cX3_move 114 = .ok (.iload 4, 2) := by decide +kernel
theorem dX3_move_116 : decode cX3_move 116 = .ok (.iload 7, 2) := by decide +kernel
theorem dX3_move_118 : decode cX3_move 118 = .ok (.iastore, 1) := by decide +kernel
theorem dX3_move_119 : decode cX3_move 119 = .ok (.aload_n 0, 1) := by decide +kernel
theorem dX3_move_120 : decode cX3_move 120 = .ok (.getfield 15, 3) := by decide +kernel
theorem dX3_move_123 : decode cX3_move 123 = .ok (.iload 7, 2) := by decide +kernel
theorem dX3_move_125 : decode cX3_move 125 = .ok (.iload 4, 2) := by decide +kernel
theorem dX3_move_127 : decode cX3_move 127 = .ok (.iastore, 1) := by decide +kernel
theorem dX3_move_128 : decode cX3_move 128 = .ok (.aload_n 0, 1) := by decide +kernel
theorem dX3_move_129 : decode cX3_move 129 = .ok (.getfield 18, 3) := by decide +kernel
theorem dX3_move_132 : decode cX3_move 132 = .ok (.iload 4, 2) := by decide +kernel
theorem dX3_move_134 : decode cX3_move 134 = .ok (.iload_n 2, 1) := by decide +kernel
theorem dX3_move_135 : decode cX3_move 135 = .ok (.iastore, 1) := by decide +kernel
theorem dX3_move_136 : decode cX3_move 136 = .ok (.aload_n 0, 1) := by decide +kernel
theorem dX3_move_137 : decode cX3_move 137 = .ok (.getfield 21, 3) := by decide +kernel
theorem dX3_move_140 : decode cX3_move 140 = .ok (.iload_n 2, 1) := by decide +kernel
theorem dX3_move_141 : decode cX3_move 141 = .ok (.dup2, 1) := by decide +kernel
theorem dX3_move_142 : decode cX3_move 142 = .ok (.iaload, 1) := by decide +kernel
theorem dX3_move_143 : decode cX3_move 143 = .ok (.iconst 1, 1) := by decide +kernel
theorem dX3_move_144 : decode cX3_move 144 = .ok (.iadd, 1) := by decide +kernel
theorem dX3_move_145 : decode cX3_move 145 = .ok (.iastore, 1) := by decide +kernel
theorem dX3_move_146 : decode cX3_move 146 = .ok (.return_, 1) := by decide +kernel
theorem dX4_init_0 : decode cX4_init 0 = .ok (.aload_n 0, 1) := by decide +kernel
theorem dX4_init_1 : decode cX4_init 1 = .ok (.invokespecial 3, 3) := by decide +kernel
theorem dX4_init_4 : decode cX4_init 4 = .ok (.aload_n 0, 1) := by decide +kernel
theorem dX4_init_5 : decode cX4_init 5 = .ok (.iconst 0, 1) := by decide +kernel
theorem dX4_init_6 : decode cX4_init 6 = .ok (.putfield 9, 3) := by decide +kernel
theorem dX4_init_9 : decode cX4_init 9 = .ok (.aload_n 0, 1) := by decide +kernel
theorem dX4_init_10 : decode cX4_init 10 = .ok (.iconst 0, 1) := by decide +kernel
theorem dX4_init_11 : decode cX4_init 11 = .ok (.putfield 15, 3) := by decide +kernel
theorem dX4_init_14 : decode cX4_init 14 = .ok (.aload_n 0, 1) := by decide +kernel
theorem dX4_init_15 : decode cX4_init 15 = .ok (.aload_n 1, 1) := by decide +kernel
theorem dX4_init_16 : decode cX4_init 16 = .ok (.putfield 19, 3) := by decide +kernel
theorem dX4_init_19 : decode cX4_init 19 = .ok (.aload_n 0, 1) := by decide +kernel
theorem dX4_init_20 : decode cX4_init 20 = .ok (.aload_n 2, 1) := by decide +kernel
theorem dX4_init_21 : decode cX4_init 21 = .ok (.putfield 23, 3) := by decide +kernel
theorem dX4_init_24 : decode cX4_init 24 = .ok (.return_, 1) := by decide +kernel
theorem dX4_prepare_0 : decode cX4_prepare 0 = .ok (.aload_n 0, 1) := by decide +kernel
theorem dX4_prepare_1 : decode cX4_prepare 1 = .ok (.aload_n 1, 1) := by decide +kernel
theorem dX4_prepare_2 : decode cX4_prepare 2 = .ok (.putfield 19, 3) := by decide +kernel
theorem dX4_prepare_5 : decode cX4_prepare 5 = .ok (.aload_n 0, 1) := by decide +kernel
theorem dX4_prepare_6 : decode cX4_prepare 6 = .ok (.aload_n 2, 1) := by decide +kernel
theorem dX4_prepare_7 : decode cX4_prepare 7 = .ok (.putfield 23, 3) := by decide +kernel
theorem dX4_prepare_10 : decode cX4_prepare 10 = .ok (.aload_n 0, 1) := by decide +kernel
theorem dX4_prepare_11 : decode cX4_prepare 11 = .ok (.iconst 0, 1) := by decide +kernel
theorem dX4_prepare_12 : decode cX4_prepare 12 = .ok (.putfield 9, 3) := by decide +kernel
theorem dX4_prepare_15 : decode cX4_prepare 15 = .ok (.aload_n 0, 1) := by decide +kernel
theorem dX4_prepare_16 : decode cX4_prepare 16 = .ok (.iconst 0, 1) := by decide +kernel
theorem dX4_prepare_17 : decode cX4_prepare 17 = .ok (.putfield 15, 3) := by decide +kernel
theorem dX4_prepare_20 : decode cX4_prepare 20 = .ok (.return_, 1) := by decide +kernel
theorem dX4_goThrough_0 : decode cX4_goThrough 0 = .ok (.iload_n 3, 1) := by decide +kernel
theorem dX4_goThrough_1 : decode cX4_goThrough 1 = .ok (.iconst 4, 1) := by decide +kernel
theorem dX4_goThrough_2 : decode cX4_goThrough 2 = .ok (.if_icmp .le 4, 3) := by decide +kernel
theorem dX4_goThrough_5 : decode cX4_goThrough 5 = .ok (.return_, 1) := by decide +kernel
theorem dX4_goThrough_6 : decode cX4_goThrough 6 = .ok (.iload_n 1, 1) := by decide +kernel
theorem dX4_goThrough_7 : decode cX4_goThrough 7 = .ok (.istore 4, 2) := by decide +kernel
theorem dX4_goThrough_9 : decode cX4_goThrough 9 = .ok (.iload 4, 2) := by decide +kernel
theorem dX4_goThrough_11 : decode cX4_goThrough 11 = .ok (.iload_n 2, 1) := by decide +kernel
theorem dX4_goThrough_12 : decode cX4_goThrough 12 = .ok (.if_icmp .ge 186, 3) := by decide +kernel
theorem dX4_goThrough_15 : decode cX4_goThrough 15 = .ok (.aload_n 0, 1) := by decide +kernel
theorem dX4_goThrough_16 : decode cX4_goThrough 16 = .ok (.getfield 15, 3) := by decide +kernel
theorem dX4_goThrough_19 : decode cX4_goThrough 19 = .ok (.ifCond .ne 179, 3) := by decide +kernel
theorem dX4_goThrough_22 : decode cX4_goThrough 22 = .ok (.aload_n 0, 1) := by decide +kernel
theorem dX4_goThrough_23 : decode cX4_goThrough 23 = .ok (.getfield 23, 3) := by decide +kernel
theorem dX4_goThrough_26 : decode cX4_goThrough 26 = .ok (.getfield 27, 3) := by decide +kernel
theorem dX4_goThrough_29 : decode cX4_goThrough 29 = .ok (.iload 4, 2) := by decide +kernel
theorem dX4_goThrough_31 : decode cX4_goThrough 31 = .ok (.iaload, 1) := by decide +kernel
theorem dX4_goThrough_32 : decode cX4_goThrough 32 = .ok (.iconst 5, 1) := by decide +kernel
theorem dX4_goThrough_33 : decode cX4_goThrough 33 = .ok (.if_icmp .ne 76, 3) := by decide +kernel
theorem dX4_goThrough_36 : decode cX4_goThrough 36 = .ok (.iconst (-1), 1) := by decide +kernel
theorem dX4_goThrough_37 : decode cX4_goThrough 37 = .ok (.istore 5, 2) := by decide +kernel
theorem dX4_goThrough_39 : decode cX4_goThrough 39 = .ok (.iconst 0, 1) := by decide +kernel
theorem dX4_goThrough_40 : decode cX4_goThrough 40 = .ok (.istore 6, 2) := by decide +kernel
theorem dX4_goThrough_42 : decode cX4_goThrough 42 = .ok (.iload 6, 2) := by decide +kernel
theorem dX4_goThrough_44 : decode cX4_goThrough 44 = .ok (.aload_n 0, 1) := by decide +kernel
theorem dX4_goThrough_45 : decode cX4_goThrough 45 = .ok (.getfield 23, 3) := by decide +kernel
theorem dX4_goThrough_48 : decode cX4_goThrough 48 = .ok (.getfield 33, 3) := by decide +kernel
theorem dX4_goThrough_51 : decode cX4_goThrough 51 = .ok (.iload 4, 2) := by decide +kernel
theorem dX4_goThrough_53 : decode cX4_goThrough 53 = .ok (.iaload, 1) := by decide +kernel
theorem dX4_goThrough_54 : decode cX4_goThrough 54 = .ok (.if_icmp .ge 52, 3) := by decide +kernel
theorem dX4_goThrough_57 : decode cX4_goThrough 57 = .ok (.aload_n 0, 1) := by decide +kernel
theorem dX4_goThrough_58 : decode cX4_goThrough 58 = .ok (.getfield 15, 3) := by decide +kernel
theorem dX4_goThrough_61 : decode cX4_goThrough 61 = .ok (.ifCond .ne 45, 3) := by decide +kernel
theorem dX4_goThrough_64 : decode cX4_goThrough 64 = .ok (.aload_n 0, 1) := by decide +kernel
theorem dX4_goThrough_65 : decode cX4_goThrough 65 = .ok (.getfield 9, 3) := by decide +kernel
theorem dX4_goThrough_68 : decode cX4_goThrough 68 = .ok (.iload 5, 2) := by decide +kernel
theorem dX4_goThrough_70 : decode cX4_goThrough 70 = .ok (.if_icmp .eq 36, 3) := by decide +kernel
theorem dX4_goThrough_73 : decode cX4_goThrough 73 = .ok (.aload_n 0, 1) := by decide +kernel
theorem dX4_goThrough_74 : decode cX4_goThrough 74 = .ok (.getfield 9, 3) := by decide +kernel
theorem dX4_goThrough_77 : decode cX4_goThrough 77 = .ok (.istore 5, 2) := by decide +kernel
theorem dX4_goThrough_79 : decode cX4_goThrough 79 = .ok (.aload_n 0, 1) := by decide +kernel
theorem dX4_goThrough_80 : decode cX4_goThrough 80 = .ok (.iload 4, 2) := by decide +kernel
theorem dX4_goThrough_82 : decode cX4_goThrough 82 = .ok (.iconst 1, 1) := by decide +kernel
theorem dX4_goThrough_83 : decode cX4_goThrough 83 = .ok (.iadd, 1) := by decide +kernel
theorem dX4_goThrough_84 : decode cX4_goThrough 84 = .ok (.aload_n 0, 1) := by decide +kernel
theorem dX4_goThrough_85 : decode cX4_goThrough 85 = .ok (.getfield 23, 3) := by decide +kernel
theorem dX4_goThrough_88 : decode cX4_goThrough 88 = .ok (.getfield 36, 3) := by decide +kernel
theorem dX4_goThrough_91 : decode cX4_goThrough 91 = .ok (.iload 4, 2) := by decide +kernel
theorem dX4_goThrough_93 : decode cX4_goThrough 93 = .ok (.iaload, 1) := by decide +kernel
theorem dX4_goThrough_94 : decode cX4_goThrough 94 = .ok (.iload_n 3, 1) := by decide +kernel
theorem dX4_goThrough_95 : decode cX4_goThrough 95 = .ok (.iconst 1, 1) := by decide +kernel
theorem dX4_goThrough_96 : decode cX4_goThrough 96 = .ok (.iadd, 1) := by decide +kernel
theorem dX4_goThrough_97 : decode cX4_goThrough 97 = .ok (.invokevirtual 39, 3) := by decide +kernel
theorem dX4_goThrough_100 : decode cX4_goThrough 100 = .ok (.iinc 6 1, 3) := by decide +kernel
theorem dX4_goThrough_103 : decode cX4_goThrough 103 = .ok (.goto (-61), 3) := by decide +kernel
theorem dX4_goThrough_106 : decode cX4_goThrough 106 = .ok (.goto 70, 3) := by decide +kernel
theorem dX4_goThrough_109 : decode cX4_goThrough 109 = .ok (.aload_n 0, 1) := by decide +kernel
theorem dX4_goThrough_110 : decode cX4_goThrough 110 = .ok (.getfield 23, 3) := by decide +kernel
theorem dX4_goThrough_113 : decode cX4_goThrough 113 = .ok (.getfield 27, 3) := by decide +kernel
theorem dX4_goThrough_116 : decode cX4_goThrough 116 = .ok (.iload 4, 2) := by decide +kernel
theorem dX4_goThrough_118 : decode cX4_goThrough 118 = .ok (.iaload, 1) := by decide +kernel
theorem dX4_goThrough_119 : decode cX4_goThrough 119 = .ok (.bipush 6, 2) := by decide +kernel
theorem dX4_goThrough_121 : decode cX4_goThrough 121 = .ok (.if_icmp .ne 49, 3) := by decide +kernel
theorem dX4_goThrough_124 : decode cX4_goThrough 124 = .ok (.aload_n 0, 1) := by decide +kernel
theorem dX4_goThrough_125 : decode cX4_goThrough 125 = .ok (.getfield 19, 3) := by decide +kernel
theorem dX4_goThrough_128 : decode cX4_goThrough 128 = .ok (.getfield 43, 3) := by decide +kernel
theorem dX4_goThrough_131 : decode cX4_goThrough 131 = .ok (.aload_n 0, 1) := by decide +kernel
theorem dX4_goThrough_132 : decode cX4_goThrough 132 = .ok (.getfield 23, 3) := by decide +kernel
theorem dX4_goThrough_135 : decode cX4_goThrough 135 = .ok (.getfield 48, 3) := by decide +kernel
theorem dX4_goThrough_138 : decode cX4_goThrough 138 = .ok (.iload 4, 2) := by decide +kernel
theorem dX4_goThrough_140 : decode cX4_goThrough 140 = .ok (.iaload, 1) := by decide +kernel
theorem dX4_goThrough_141 : decode cX4_goThrough 141 = .ok (.iaload, 1) := by decide +kernel
theorem dX4_goThrough_142 : decode cX4_goThrough 142 = .ok (.iconst (-1), 1) := by decide +kernel
theorem dX4_goThrough_143 : decode cX4_goThrough 143 = .ok (.if_icmp .eq 33, 3) := by decide +kernel
theorem dX4_goThrough_146 : decode cX4_goThrough 146 = .ok (.aload_n 0, 1) := by decide +kernel
theorem dX4_goThrough_147 : decode cX4_goThrough 147 = .ok (.iload 4, 2) := by decide +kernel
theorem dX4_goThrough_149 : decode cX4_goThrough 149 = .ok (.iconst 1, 1) := by decide +kernel
theorem dX4_goThrough_150 : decode cX4_goThrough 150 = .ok (.iadd, 1) := by decide +kernel
theorem dX4_goThrough_151 : decode cX4_goThrough 151 = .ok (.aload_n 0, 1) := by decide +kernel
theorem dX4_goThrough_152 : decode cX4_goThrough 152 = .ok (.getfield 23, 3) := by decide +kernel
theorem dX4_goThrough_155 : decode cX4_goThrough 155 = .ok (.getfield 36, 3) := by decide +kernel
theorem dX4_goThrough_158 : decode cX4_goThrough 158 = .ok (.iload 4, 2) := by decide +kernel
theorem dX4_goThrough_160 : decode cX4_goThrough 160 = .ok (.iaload, 1) := by decide +kernel
theorem dX4_goThrough_161 : decode cX4_goThrough 161 = .ok (.iload_n 3, 1) := by decide +kernel
theorem dX4_goThrough_162 : decode cX4_goThrough 162 = .ok (.iconst 1, 1) := by decide +kernel
theorem dX4_goThrough_163 : decode cX4_goThrough 163 = .ok (.iadd, 1) := by decide +kernel
theorem dX4_goThrough_164 : decode cX4_goThrough 164 = .ok (.invokevirtual 39, 3) := by decide +kernel
theorem dX4_goThrough_167 : decode cX4_goThrough 167 = .ok (.goto 9, 3) := by decide +kernel
theorem dX4_goThrough_170 : decode cX4_goThrough 170 = .ok (.aload_n 0, 1) := by decide +kernel
theorem dX4_goThrough_171 : decode cX4_goThrough 171 = .ok (.iload 4, 2) := by decide +kernel
theorem dX4_goThrough_173 : decode cX4_goThrough 173 = .ok (.invokevirtual 49, 3) := by decide +kernel
theorem dX4_goThrough_176 : decode cX4_goThrough 176 = .ok (.iload 4, 2) := by decide +kernel
theorem dX4_goThrough_178 : decode cX4_goThrough 178 = .ok (.iconst 1, 1) := by decide +kernel
theorem dX4_goThrough_179 : decode cX4_goThrough 179 = .ok (.iadd, 1) := by decide +kernel
theorem dX4_goThrough_180 : decode cX4_goThrough 180 = .ok (.aload_n 0, 1) := by decide +kernel
theorem dX4_goThrough_181 : decode cX4_goThrough 181 = .ok (.getfield 23, 3) := by decide +kernel
theorem dX4_goThrough_184 : decode cX4_goThrough 184 = .ok (.getfield 36, 3) := by decide +kernel
theorem dX4_goThrough_187 : decode cX4_goThrough 187 = .ok (.iload 4, 2) := by decide +kernel
theorem dX4_goThrough_189 : decode cX4_goThrough 189 = .ok (.iaload, 1) := by decide +kernel
theorem dX4_goThrough_190 : decode cX4_goThrough 190 = .ok (.invokestatic 53, 3) := by decide +kernel
theorem dX4_goThrough_193 : decode cX4_goThrough 193 = .ok (.istore 4, 2) := by decide +kernel
theorem dX4_goThrough_195 : decode cX4_goThrough 195 = .ok (.goto (-186), 3) := by decide +kernel
theorem dX4_goThrough_198 : decode cX4_goThrough 198 = .ok (.return_, 1) := by decide +kernel
theorem dX4_go_0 : decode cX4_go 0 = .ok (.aload_n 0, 1) := by decide +kernel
theorem dX4_go_1 : decode cX4_go 1 = .ok (.getfield 23, 3) := by decide +kernel
theorem dX4_go_4 : decode cX4_go 4 = .ok (.getfield 48, 3) := by decide +kernel
theorem dX4_go_7 : decode cX4_go 7 = .ok (.iload_n 1, 1) := by decide +kernel
theorem dX4_go_8 : decode cX4_go 8 = .ok (.iaload, 1) := by decide +kernel
theorem dX4_go_9 : decode cX4_go 9 = .ok (.istore_n 2, 1) := by decide +kernel
theorem dX4_go_10 : decode cX4_go 10 = .ok (.aload_n 0, 1) := by decide +kernel
theorem dX4_go_11 : decode cX4_go 11 = .ok (.getfield 23, 3) := by decide +kernel
theorem dX4_go_14 : decode cX4_go 14 = .ok (.getfield 59, 3) := by decide +kernel
theorem dX4_go_17 : decode cX4_go 17 = .ok (.iload_n 1, 1) := by decide +kernel
theorem dX4_go_18 : decode cX4_go 18 = .ok (.iaload, 1) := by decide +kernel
theorem dX4_go_19 : decode cX4_go 19 = .ok (.istore_n 3, 1) := by decide +kernel
theorem dX4_go_20 : decode cX4_go 20 = .ok (.aload_n 0, 1) := by decide +kernel
theorem dX4_go_21 : decode cX4_go 21 = .ok (.getfield 23, 3) := by decide +kernel
theorem dX4_go_24 : decode cX4_go 24 = .ok (.getfield 33, 3) := by decide +kernel
theorem dX4_go_27 : decode cX4_go 27 = .ok (.iload_n 1, 1) := by decide +kernel
theorem dX4_go_28 : decode cX4_go 28 = .ok (.iaload, 1) := by decide +kernel
theorem dX4_go_29 : decode cX4_go 29 = .ok (.istore 4, 2) := by decide +kernel
theorem dX4_go_31 : decode cX4_go 31 = .ok (.iconst 0, 1) := by decide +kernel
theorem dX4_go_32 : decode cX4_go 32 = .ok (.istore 5, 2) := by decide +kernel
theorem dX4_go_34 : decode cX4_go 34 = .ok (.aload_n 0, 1) := by decide +kernel
theorem dX4_go_35 : decode cX4_go 35 = .ok (.getfield 23, 3) := by decide +kernel
theorem dX4_go_38 : decode cX4_go 38 = .ok (.getfield 27, 3) := by decide +kernel
theorem dX4_go_41 : decode cX4_go 41 = .ok (.iload_n 1, 1) := by decide +kernel
theorem dX4_go_42 : decode cX4_go 42 = .ok (.iaload, 1) := by decide +kernel
theorem dX4_go_43 : decode cX4_go 43 = .ok (.tableswitch 126 0 3 #[29, 56, 76, 102], 29) := by decide +kernel
theorem dX4_go_72 : decode cX4_go 72 = .ok (.aload_n 0, 1) := by decide +kernel
theorem dX4_go_73 : decode cX4_go 73 = .ok (.aload_n 0, 1) := by decide +kernel
theorem dX4_go_74 : decode cX4_go 74 = .ok (.getfield 19, 3) := by decide +kernel
theorem dX4_go_77 : decode cX4_go 77 = .ok (.iload_n 2, 1) := by decide +kernel
theorem dX4_go_78 : decode cX4_go 78 = .ok (.iload 4, 2) := by decide +kernel
theorem dX4_go_80 : decode cX4_go 80 = .ok (.invokevirtual 62, 3) := by decide +kernel
theorem dX4_go_83 : decode cX4_go 83 = .ok (.bipush (-2), 2) := by decide +kernel
theorem dX4_go_85 : decode cX4_go 85 = .ok (.if_icmp .ne 7, 3) := by decide +kernel
theorem dX4_go_88 : decode cX4_go 88 = .ok (.iconst 1, 1) := by decide +kernel
theorem dX4_go_89 : decode cX4_go 89 = .ok (.goto 4, 3) := by decide +kernel
theorem dX4_go_92 : decode cX4_go 92 = .ok (.iconst 0, 1) := by decide +kernel
theorem dX4_go_93 : decode cX4_go 93 = .ok (.putfield 15, 3) := by decide +kernel
theorem dX4_go_96 : decode cX4_go 96 = .ok (.goto 83, 3) := by decide +kernel
theorem dX4_go_99 : decode cX4_go 99 = .ok (.aload_n 0, 1) := by decide +kernel
theorem dX4_go_100 : decode cX4_go 100 = .ok (.getfield 19, 3) := by decide +kernel
theorem dX4_go_103 : decode cX4_go 103 = .ok (.getfield 43, 3) := by decide +kernel
theorem dX4_go_106 : decode cX4_go 106 = .ok (.iload_n 2, 1) := by decide +kernel
theorem dX4_go_107 : decode cX4_go 107 = .ok (.aload_n 0, 1) := by decide +kernel
theorem dX4_go_108 : decode cX4_go 108 = .ok (.getfield 19, 3) := by decide +kernel
theorem dX4_go_111 : decode cX4_go 111 = .ok (.iload_n 3, 1) := by decide +kernel
theorem dX4_go_112 : decode cX4_go 112 = .ok (.invokevirtual 65, 3) := by decide +kernel
theorem dX4_go_115 : decode cX4_go 115 = .ok (.iastore, 1) := by decide +kernel
theorem dX4_go_116 : decode cX4_go 116 = .ok (.goto 63, 3) := by decide +kernel
theorem dX4_go_119 : decode cX4_go 119 = .ok (.aload_n 0, 1) := by decide +kernel
theorem dX4_go_120 : decode cX4_go 120 = .ok (.getfield 19, 3) := by decide +kernel
theorem dX4_go_123 : decode cX4_go 123 = .ok (.iload_n 2, 1) := by decide +kernel
theorem dX4_go_124 : decode cX4_go 124 = .ok (.iload_n 3, 1) := by decide +kernel
theorem dX4_go_125 : decode cX4_go 125 = .ok (.iload 4, 2) := by decide +kernel
theorem dX4_go_127 : decode cX4_go 127 = .ok (.invokevirtual 69, 3) := by decide +kernel
theorem dX4_go_130 : decode cX4_go 130 = .ok (.bipush (-2), 2) := by decide +kernel
theorem dX4_go_132 : decode cX4_go 132 = .ok (.if_icmp .ne 7, 3) := by decide +kernel
theorem dX4_go_135 : decode cX4_go 135 = .ok (.iconst 1, 1) := by decide +kernel
theorem dX4_go_136 : decode cX4_go 136 = .ok (.goto 4, 3) := by decide +kernel
theorem dX4_go_139 : decode cX4_go 139 = .ok (.iconst 0, 1) := by decide +kernel
theorem dX4_go_140 : decode cX4_go 140 = .ok (.istore 5, 2) := by decide +kernel
theorem dX4_go_142 : decode cX4_go 142 = .ok (.goto 37, 3) := by decide +kernel
theorem dX4_go_145 : decode cX4_go 145 = .ok (.aload_n 0, 1) := by decide +kernel
theorem dX4_go_146 : decode cX4_go 146 = .ok (.getfield 19, 3) := by decide +kernel
theorem dX4_go_149 : decode cX4_go 149 = .ok (.iload_n 2, 1) := by decide +kernel
theorem dX4_go_150 : decode cX4_go 150 = .ok (.iload 4, 2) := by decide +kernel
theorem dX4_go_152 : decode cX4_go 152 = .ok (.iload_n 3, 1) := by decide +kernel
theorem dX4_go_153 : decode cX4_go 153 = .ok (.invokevirtual 73, 3) := by decide +kernel
theorem dX4_go_156 : decode cX4_go 156 = .ok (.ifCond .ne 7, 3) := by decide +kernel
theorem dX4_go_159 : decode cX4_go 159 = .ok (.iconst 1, 1) := by decide +kernel
theorem dX4_go_160 : decode cX4_go 160 = .ok (.goto 4, 3) := by decide +kernel
theorem dX4_go_163 : decode cX4_go 163 = .ok (.iconst 0, 1) := by decide +kernel
theorem dX4_go_164 : decode cX4_go 164 = .ok (.istore 5, 2) := by decide +kernel
theorem dX4_go_166 : decode cX4_go 166 = .ok (.goto 13, 3) := by decide +kernel
theorem dX4_go_169 : decode cX4_go 169 = .ok (.aload_n 0, 1) := by decide +kernel
theorem dX4_go_170 : decode cX4_go 170 = .ok (.getfield 19, 3) := by decide +kernel
theorem dX4_go_173 : decode cX4_go 173 = .ok (.iload 4, 2) := by decide +kernel
theorem dX4_go_175 : decode cX4_go 175 = .ok (.invokevirtual 77, 3) := by decide +kernel
theorem dX4_go_178 : decode cX4_go 178 = .ok (.pop, 1) := by decide +kernel
theorem dX4_go_179 : decode cX4_go 179 = .ok (.iload 5, 2) := by decide +kernel
theorem dX4_go_181 : decode cX4_go 181 = .ok (.ifCond .eq 9, 3) := by decide +kernel
theorem dX4_go_184 : decode cX4_go 184 = .ok (.aload_n 0, 1) := by decide +kernel
theorem dX4_go_185 : decode cX4_go 185 = .ok (.iconst 1, 1) := by decide +kernel
theorem dX4_go_186 : decode cX4_go 186 = .ok (.putfield 15, 3) := by decide +kernel
theorem dX4_go_189 : decode cX4_go 189 = .ok (.return_, 1) := by decide +kernel
theorem dX4_go_190 : decode cX4_go 190 = .ok (.aload_n 0, 1) := by decide +kernel
theorem dX4_go_191 : decode cX4_go 191 = .ok (.dup, 1) := by decide +kernel
theorem dX4_go_192 : decode cX4_go 192 = .ok (.getfield 9, 3) := by decide +kernel
theorem dX4_go_195 : decode cX4_go 195 = .ok (.iconst 1, 1) := by decide +kernel
theorem dX4_go_196 : decode cX4_go 196 = .ok (.iadd, 1) := by decide +kernel
theorem dX4_go_197 : decode cX4_go 197 = .ok (.putfield 9, 3) := by decide +kernel
theorem dX4_go_200 : decode cX4_go 200 = .ok (.aload_n 0, 1) := by decide +kernel
theorem dX4_go_201 : decode cX4_go 201 = .ok (.getfield 9, 3) := by decide +kernel
theorem dX4_go_204 : decode cX4_go 204 = .ok (.sipush 300, 3) := by decide +kernel
theorem dX4_go_207 : decode cX4_go 207 = .ok (.if_icmp .lt 8, 3) := by decide +kernel
theorem dX4_go_210 : decode cX4_go 210 = .ok (.aload_n 0, 1) := by decide +kernel
theorem dX4_go_211 : decode cX4_go 211 = .ok (.iconst 1, 1) := by decide +kernel
theorem dX4_go_212 : decode cX4_go 212 = .ok (.putfield 15, 3) := by decide +kernel
theorem dX4_go_215 : decode cX4_go 215 = .ok (.return_, 1) := by decide +kernel
theorem dX5_init_0 : decode cX5_init 0 = .ok (.aload_n 0, 1) := by decide +kernel
theorem dX5_init_1 : decode cX5_init 1 = .ok (.invokespecial 3, 3) := by decide +kernel
theorem dX5_init_4 : decode cX5_init 4 = .ok (.aload_n 0, 1) := by decide +kernel
theorem dX5_init_5 : decode cX5_init 5 = .ok (.bipush 40, 2) := by decide +kernel
theorem dX5_init_7 : decode cX5_init 7 = .ok (.newarray .int, 2) := by decide +kernel
theorem dX5_init_9 : decode cX5_init 9 = .ok (.putfield 9, 3) := by decide +kernel
theorem dX5_init_12 : decode cX5_init 12 = .ok (.aload_n 0, 1) := by decide +kernel
theorem dX5_init_13 : decode cX5_init 13 = .ok (.bipush 40, 2) := by decide +kernel
theorem dX5_init_15 : decode cX5_init 15 = .ok (.newarray .int, 2) := by decide +kernel
theorem dX5_init_17 : decode cX5_init 17 = .ok (.putfield 15, 3) := by decide +kernel
theorem dX5_init_20 : decode cX5_init 20 = .ok (.aload_n 0, 1) := by decide +kernel
theorem dX5_init_21 : decode cX5_init 21 = .ok (.bipush 40, 2) := by decide +kernel
theorem dX5_init_23 : decode cX5_init 23 = .ok (.newarray .int, 2) := by decide +kernel
theorem dX5_init_25 : decode cX5_init 25 = .ok (.putfield 18, 3) := by decide +kernel
theorem dX5_init_28 : decode cX5_init 28 = .ok (.aload_n 0, 1) := by decide +kernel
theorem dX5_init_29 : decode cX5_init 29 = .ok (.bipush 40, 2) := by decide +kernel
theorem dX5_init_31 : decode cX5_init 31 = .ok (.newarray .int, 2) := by decide +kernel
theorem dX5_init_33 : decode cX5_init 33 = .ok (.putfield 21, 3) := by decide +kernel
theorem dX5_init_36 : decode cX5_init 36 = .ok (.aload_n 0, 1) := by decide +kernel
theorem dX5_init_37 : decode cX5_init 37 = .ok (.bipush 40, 2) := by decide +kernel
theorem dX5_init_39 : decode cX5_init 39 = .ok (.newarray .int, 2) := by decide +kernel
theorem dX5_init_41 : decode cX5_init 41 = .ok (.putfield 24, 3) := by decide +kernel
theorem dX5_init_44 : decode cX5_init 44 = .ok (.aload_n 0, 1) := by decide +kernel
theorem dX5_init_45 : decode cX5_init 45 = .ok (.iconst 0, 1) := by decide +kernel
theorem dX5_init_46 : decode cX5_init 46 = .ok (.putfield 27, 3) := by decide +kernel
theorem dX5_init_49 : decode cX5_init 49 = .ok (.return_, 1) := by decide +kernel
theorem dX5_add_0 : decode cX5_add 0 = .ok (.aload_n 0, 1) := by decide +kernel
theorem dX5_add_1 : decode cX5_add 1 = .ok (.getfield 27, 3) := by decide +kernel
theorem dX5_add_4 : decode cX5_add 4 = .ok (.bipush 40, 2) := by decide +kernel
theorem dX5_add_6 : decode cX5_add 6 = .ok (.if_icmp .ge 69, 3) := by decide +kernel
theorem dX5_add_9 : decode cX5_add 9 = .ok (.aload_n 0, 1) := by decide +kernel
theorem dX5_add_10 : decode cX5_add 10 = .ok (.getfield 9, 3) := by decide +kernel
theorem dX5_add_13 : decode cX5_add 13 = .ok (.aload_n 0, 1) := by decide +kernel
theorem dX5_add_14 : decode cX5_add 14 = .ok (.getfield 27, 3) := by decide +kernel
theorem dX5_add_17 : decode cX5_add 17 = .ok (.iload_n 1, 1) := by decide +kernel
theorem dX5_add_18 : decode cX5_add 18 = .ok (.iastore, 1) := by decide +kernel
theorem dX5_add_19 : decode cX5_add 19 = .ok (.aload_n 0, 1) := by decide +kernel
theorem dX5_add_20 : decode cX5_add 20 = .ok (.getfield 15, 3) := by decide +kernel
theorem dX5_add_23 : decode cX5_add 23 = .ok (.aload_n 0, 1) := by decide +kernel
theorem dX5_add_24 : decode cX5_add 24 = .ok (.getfield 27, 3) := by decide +kernel
theorem dX5_add_27 : decode cX5_add 27 = .ok (.iload_n 2, 1) := by decide +kernel
theorem dX5_add_28 : decode cX5_add 28 = .ok (.iastore, 1) := by decide +kernel
theorem dX5_add_29 : decode cX5_add 29 = .ok (.aload_n 0, 1) := by decide +kernel
theorem dX5_add_30 : decode cX5_add 30 = .ok (.getfield 18, 3) := by decide +kernel
theorem dX5_add_33 : decode cX5_add 33 = .ok (.aload_n 0, 1) := by decide +kernel
theorem dX5_add_34 : decode cX5_add 34 = .ok (.getfield 27, 3) := by decide +kernel
theorem dX5_add_37 : decode cX5_add 37 = .ok (.iload_n 3, 1) := by decide +kernel
theorem dX5_add_38 : decode cX5_add 38 = .ok (.iastore, 1) := by decide +kernel
theorem dX5_add_39 : decode cX5_add 39 = .ok (.aload_n 0, 1) := by decide +kernel
theorem dX5_add_40 : decode cX5_add 40 = .ok (.getfield 21, 3) := by decide +kernel
theorem dX5_add_43 : decode cX5_add 43 = .ok (.aload_n 0, 1) := by decide +kernel
theorem dX5_add_44 : decode cX5_add 44 = .ok (.getfield 27, 3) := by decide +kernel
theorem dX5_add_47 : decode cX5_add 47 = .ok (.iload 4, 2) := by decide +kernel
theorem dX5_add_49 : decode cX5_add 49 = .ok (.iastore, 1) := by decide +kernel
theorem dX5_add_50 : decode cX5_add 50 = .ok (.aload_n 0, 1) := by decide +kernel
theorem dX5_add_51 : decode cX5_add 51 = .ok (.dup, 1) := by decide +kernel
theorem dX5_add_52 : decode cX5_add 52 = .ok (.getfield 27, 3) := by decide +kernel
theorem dX5_add_55 : decode cX5_add 55 = .ok (.iconst 1, 1) := by decide +kernel
theorem dX5_add_56 : decode cX5_add 56 = .ok (.iadd, 1) := by decide +kernel
theorem dX5_add_57 : decode cX5_add 57 = .ok (.putfield 27, 3) := by decide +kernel
theorem dX5_add_60 : decode cX5_add 60 = .ok (.aload_n 0, 1) := by decide +kernel
theorem dX5_add_61 : decode cX5_add 61 = .ok (.getfield 24, 3) := by decide +kernel
theorem dX5_add_64 : decode cX5_add 64 = .ok (.aload_n 0, 1) := by decide +kernel
theorem dX5_add_65 : decode cX5_add 65 = .ok (.getfield 27, 3) := by decide +kernel
theorem dX5_add_68 : decode cX5_add 68 = .ok (.iconst 1, 1) := by decide +kernel
theorem dX5_add_69 : decode cX5_add 69 = .ok (.isub, 1) := by decide +kernel
theorem dX5_add_70 : decode cX5_add 70 = .ok (.aload_n 0, 1) := by decide +kernel
theorem dX5_add_71 : decode cX5_add 71 = .ok (.getfield 27, 3) := by decide +kernel
theorem dX5_add_74 : decode cX5_add 74 = .ok (.iastore, 1) := by decide +kernel
theorem dX5_add_75 : decode cX5_add 75 = .ok (.return_, 1) := by decide +kernel
theorem dX6_init_0 : decode cX6_init 0 = .ok (.aload_n 0, 1) := by decide +kernel
theorem dX6_init_1 : decode cX6_init 1 = .ok (.invokespecial 1, 3) := by decide +kernel
theorem dX6_init_4 : decode cX6_init 4 = .ok (.aload_n 0, 1) := by decide +kernel
theorem dX6_init_5 : decode cX6_init 5 = .ok (.bipush 21, 2) := by decide +kernel
theorem dX6_init_7 : decode cX6_init 7 = .ok (.anewarray 9, 3) := by decide +kernel
theorem dX6_init_10 : decode cX6_init 10 = .ok (.putfield 11, 3) := by decide +kernel
theorem dX6_init_13 : decode cX6_init 13 = .ok (.aload_n 0, 1) := by decide +kernel
theorem dX6_init_14 : decode cX6_init 14 = .ok (.iconst 0, 1) := by decide +kernel
theorem dX6_init_15 : decode cX6_init 15 = .ok (.putfield 15, 3) := by decide +kernel
theorem dX6_init_18 : decode cX6_init 18 = .ok (.aload_n 0, 1) := by decide +kernel
theorem dX6_init_19 : decode cX6_init 19 = .ok (.iconst 0, 1) := by decide +kernel
theorem dX6_init_20 : decode cX6_init 20 = .ok (.putfield 19, 3) := by decide +kernel
theorem dX6_init_23 : decode cX6_init 23 = .ok (.aload_n 0, 1) := by decide +kernel
theorem dX6_init_24 : decode cX6_init 24 = .ok (.iconst 0, 1) := by decide +kernel
theorem dX6_init_25 : decode cX6_init 25 = .ok (.putfield 22, 3) := by decide +kernel
theorem dX6_init_28 : decode cX6_init 28 = .ok (.aload_n 0, 1) := by decide +kernel
theorem dX6_init_29 : decode cX6_init 29 = .ok (.iconst 2, 1) := by decide +kernel
theorem dX6_init_30 : decode cX6_init 30 = .ok (.anewarray 9, 3) := by decide +kernel
theorem dX6_init_33 : decode cX6_init 33 = .ok (.putfield 25, 3) := by decide +kernel
theorem dX6_init_36 : decode cX6_init 36 = .ok (.aload_n 0, 1) := by decide +kernel
theorem dX6_init_37 : decode cX6_init 37 = .ok (.iconst 2, 1) := by decide +kernel
theorem dX6_init_38 : decode cX6_init 38 = .ok (.newarray .boolean, 2) := by decide +kernel
theorem dX6_init_40 : decode cX6_init 40 = .ok (.putfield 28, 3) := by decide +kernel
theorem dX6_init_43 : decode cX6_init 43 = .ok (.aload_n 0, 1) := by decide +kernel
theorem dX6_init_44 : decode cX6_init 44 = .ok (.new 9, 3) := by decide +kernel
theorem dX6_init_47 : decode cX6_init 47 = .ok (.dup, 1) := by decide +kernel
theorem dX6_init_48 : decode cX6_init 48 = .ok (.invokespecial 32, 3) := by decide +kernel
theorem dX6_init_51 : decode cX6_init 51 = .ok (.putfield 33, 3) := by decide +kernel
theorem dX6_init_54 : decode cX6_init 54 = .ok (.aload_n 0, 1) := by decide +kernel
theorem dX6_init_55 : decode cX6_init 55 = .ok (.bipush 6, 2) := by decide +kernel
theorem dX6_init_57 : decode cX6_init 57 = .ok (.newarray .int, 2) := by decide +kernel
theorem dX6_init_59 : decode cX6_init 59 = .ok (.putfield 37, 3) := by decide +kernel
theorem dX6_init_62 : decode cX6_init 62 = .ok (.aload_n 0, 1) := by decide +kernel
theorem dX6_init_63 : decode cX6_init 63 = .ok (.new 41, 3) := by decide +kernel
theorem dX6_init_66 : decode cX6_init 66 = .ok (.dup, 1) := by decide +kernel
theorem dX6_init_67 : decode cX6_init 67 = .ok (.invokespecial 43, 3) := by decide +kernel
theorem dX6_init_70 : decode cX6_init 70 = .ok (.putfield 44, 3) := by decide +kernel
theorem dX6_init_73 : decode cX6_init 73 = .ok (.aload_n 0, 1) := by decide +kernel
theorem dX6_init_74 : decode cX6_init 74 = .ok (.sipush 400, 3) := by decide +kernel
theorem dX6_init_77 : decode cX6_init 77 = .ok (.newarray .int, 2) := by decide +kernel
theorem dX6_init_79 : decode cX6_init 79 = .ok (.putfield 48, 3) := by decide +kernel
theorem dX6_init_82 : decode cX6_init 82 = .ok (.aload_n 0, 1) := by decide +kernel
theorem dX6_init_83 : decode cX6_init 83 = .ok (.iconst 0, 1) := by decide +kernel
theorem dX6_init_84 : decode cX6_init 84 = .ok (.putfield 51, 3) := by decide +kernel
theorem dX6_init_87 : decode cX6_init 87 = .ok (.aload_n 0, 1) := by decide +kernel
theorem dX6_init_88 : decode cX6_init 88 = .ok (.new 54, 3) := by decide +kernel
theorem dX6_init_91 : decode cX6_init 91 = .ok (.dup, 1) := by decide +kernel
theorem dX6_init_92 : decode cX6_init 92 = .ok (.invokespecial 56, 3) := by decide +kernel
theorem dX6_init_95 : decode cX6_init 95 = .ok (.putfield 57, 3) := by decide +kernel
theorem dX6_init_98 : decode cX6_init 98 = .ok (.aload_n 0, 1) := by decide +kernel
theorem dX6_init_99 : decode cX6_init 99 = .ok (.new 61, 3) := by decide +kernel
theorem dX6_init_102 : decode cX6_init 102 = .ok (.dup, 1) := by decide +kernel
theorem dX6_init_103 : decode cX6_init 103 = .ok (.invokespecial 63, 3) := by decide +kernel
theorem dX6_init_106 : decode cX6_init 106 = .ok (.putfield 64, 3) := by decide +kernel
theorem dX6_init_109 : decode cX6_init 109 = .ok (.aload_n 0, 1) := by decide +kernel
theorem dX6_init_110 : decode cX6_init 110 = .ok (.new 61, 3) := by decide +kernel
theorem dX6_init_113 : decode cX6_init 113 = .ok (.dup, 1) := by decide +kernel
theorem dX6_init_114 : decode cX6_init 114 = .ok (.invokespecial 63, 3) := by decide +kernel
theorem dX6_init_117 : decode cX6_init 117 = .ok (.putfield 68, 3) := by decide +kernel
theorem dX6_init_120 : decode cX6_init 120 = .ok (.aload_n 0, 1) := by decide +kernel
theorem dX6_init_121 : decode cX6_init 121 = .ok (.new 71, 3) := by decide +kernel
theorem dX6_init_124 : decode cX6_init 124 = .ok (.dup, 1) := by decide +kernel
theorem dX6_init_125 : decode cX6_init 125 = .ok (.aload_n 0, 1) := by decide +kernel
theorem dX6_init_126 : decode cX6_init 126 = .ok (.getfield 33, 3) := by decide +kernel
theorem dX6_init_129 : decode cX6_init 129 = .ok (.aload_n 0, 1) := by decide +kernel
theorem dX6_init_130 : decode cX6_init 130 = .ok (.getfield 64, 3) := by decide +kernel
theorem dX6_init_133 : decode cX6_init 133 = .ok (.invokespecial 73, 3) := by decide +kernel
theorem dX6_init_136 : decode cX6_init 136 = .ok (.putfield 76, 3) := by decide +kernel
theorem dX6_init_139 : decode cX6_init 139 = .ok (.iconst 0, 1) := by decide +kernel
theorem dX6_init_140 : decode cX6_init 140 = .ok (.istore_n 1, 1) := by decide +kernel
theorem dX6_init_141 : decode cX6_init 141 = .ok (.iload_n 1, 1) := by decide +kernel
theorem dX6_init_142 : decode cX6_init 142 = .ok (.aload_n 0, 1) := by decide +kernel
theorem dX6_init_143 : decode cX6_init 143 = .ok (.getfield 11, 3) := by decide +kernel
theorem dX6_init_146 : decode cX6_init 146 = .ok (.arraylength, 1) := by decide +kernel
theorem dX6_init_147 : decode cX6_init 147 = .ok (.if_icmp .ge 22, 3) := by decide +kernel
theorem dX6_init_150 : decode cX6_init 150 = .ok (.aload_n 0, 1) := by decide +kernel
theorem dX6_init_151 : decode cX6_init 151 = .ok (.getfield 11, 3) := by decide +kernel
theorem dX6_init_154 : decode cX6_init 154 = .ok (.iload_n 1, 1) := by decide +kernel
theorem dX6_init_155 : decode cX6_init 155 = .ok (.new 9, 3) := by decide +kernel
theorem dX6_init_158 : decode cX6_init 158 = .ok (.dup, 1) := by decide +kernel
theorem dX6_init_159 : decode cX6_init 159 = .ok (.invokespecial 32, 3) := by decide +kernel
theorem dX6_init_162 : decode cX6_init 162 = .ok (.aastore, 1) := by decide +kernel
theorem dX6_init_163 : decode cX6_init 163 = .ok (.iinc 1 1, 3) := by decide +kernel
theorem dX6_init_166 : decode cX6_init 166 = .ok (.goto (-25), 3) := by decide +kernel
theorem dX6_init_169 : decode cX6_init 169 = .ok (.iconst 0, 1) := by decide +kernel
theorem dX6_init_170 : decode cX6_init 170 = .ok (.istore_n 1, 1) := by decide +kernel
theorem dX6_init_171 : decode cX6_init 171 = .ok (.iload_n 1, 1) := by decide +kernel
theorem dX6_init_172 : decode cX6_init 172 = .ok (.iconst 2, 1) := by decide +kernel
theorem dX6_init_173 : decode cX6_init 173 = .ok (.if_icmp .ge 22, 3) := by decide +kernel
theorem dX6_init_176 : decode cX6_init 176 = .ok (.aload_n 0, 1) := by decide +kernel
theorem dX6_init_177 : decode cX6_init 177 = .ok (.getfield 25, 3) := by decide +kernel
theorem dX6_init_180 : decode cX6_init 180 = .ok (.iload_n 1, 1) := by decide +kernel
theorem dX6_init_181 : decode cX6_init 181 = .ok (.new 9, 3) := by decide +kernel
theorem dX6_init_184 : decode cX6_init 184 = .ok (.dup, 1) := by decide +kernel
theorem dX6_init_185 : decode cX6_init 185 = .ok (.invokespecial 32, 3) := by decide +kernel
theorem dX6_init_188 : decode cX6_init 188 = .ok (.aastore, 1) := by decide +kernel
theorem dX6_init_189 : decode cX6_init 189 = .ok (.iinc 1 1, 3) := by decide +kernel
theorem dX6_init_192 : decode cX6_init 192 = .ok (.goto (-21), 3) := by decide +kernel
theorem dX6_init_195 : decode cX6_init 195 = .ok (.return_, 1) := by decide +kernel
theorem dX6_open_0 : decode cX6_open 0 = .ok (.iload_n 1, 1) := by decide +kernel
theorem dX6_open_1 : decode cX6_open 1 = .ok (.iconst 1, 1) := by decide +kernel
theorem dX6_open_2 : decode cX6_open 2 = .ok (.if_icmp .lt 9, 3) := by decide +kernel
theorem dX6_open_5 : decode cX6_open 5 = .ok (.iload_n 1, 1) := by decide +kernel
theorem dX6_open_6 : decode cX6_open 6 = .ok (.bipush 8, 2) := by decide +kernel
theorem dX6_open_8 : decode cX6_open 8 = .ok (.if_icmp .le 5, 3) := by decide +kernel
theorem dX6_open_11 : decode cX6_open 11 = .ok (.iconst 0, 1) := by decide +kernel
theorem dX6_open_12 : decode cX6_open 12 = .ok (.ireturn, 1) := by decide +kernel
theorem dX6_open_13 : decode cX6_open 13 = .ok (.aload_n 0, 1) := by decide +kernel
theorem dX6_open_14 : decode cX6_open 14 = .ok (.invokevirtual 80, 3) := by decide +kernel
theorem dX6_open_17 : decode cX6_open 17 = .ok (.iload_n 1, 1) := by decide +kernel
theorem dX6_open_18 : decode cX6_open 18 = .ok (.invokevirtual 84, 3) := by decide +kernel
theorem dX6_open_21 : decode cX6_open 21 = .ok (.aload_n 0, 1) := by decide +kernel
theorem dX6_open_22 : decode cX6_open 22 = .ok (.invokevirtual 88, 3) := by decide +kernel
theorem dX6_open_25 : decode cX6_open 25 = .ok (.iconst 1, 1) := by decide +kernel
theorem dX6_open_26 : decode cX6_open 26 = .ok (.ireturn, 1) := by decide +kernel
theorem dX6_make_0 : decode cX6_make 0 = .ok (.iload_n 1, 1) := by decide +kernel
theorem dX6_make_1 : decode cX6_make 1 = .ok (.invokestatic 91, 3) := by decide +kernel
theorem dX6_make_4 : decode cX6_make 4 = .ok (.ifCond .eq 10, 3) := by decide +kernel
theorem dX6_make_7 : decode cX6_make 7 = .ok (.iload_n 2, 1) := by decide +kernel
theorem dX6_make_8 : decode cX6_make 8 = .ok (.invokestatic 95, 3) := by decide +kernel
theorem dX6_make_11 : decode cX6_make 11 = .ok (.ifCond .ne 5, 3) := by decide +kernel
theorem dX6_make_14 : decode cX6_make 14 = .ok (.iconst (-1), 1) := by decide +kernel
theorem dX6_make_15 : decode cX6_make 15 = .ok (.ireturn, 1) := by decide +kernel
theorem dX6_make_16 : decode cX6_make 16 = .ok (.aload_n 0, 1) := by decide +kernel
theorem dX6_make_17 : decode cX6_make 17 = .ok (.invokevirtual 98, 3) := by decide +kernel
theorem dX6_make_20 : decode cX6_make 20 = .ok (.iload_n 1, 1) := by decide +kernel
theorem dX6_make_21 : decode cX6_make 21 = .ok (.iload_n 2, 1) := by decide +kernel
theorem dX6_make_22 : decode cX6_make 22 = .ok (.invokevirtual 101, 3) := by decide +kernel
theorem dX6_make_25 : decode cX6_make 25 = .ok (.ireturn, 1) := by decide +kernel
theorem dX6_load_0 : decode cX6_load 0 = .ok (.iload_n 1, 1) := by decide +kernel
theorem dX6_load_1 : decode cX6_load 1 = .ok (.invokestatic 91, 3) := by decide +kernel
theorem dX6_load_4 : decode cX6_load 4 = .ok (.ifCond .eq 23, 3) := by decide +kernel
theorem dX6_load_7 : decode cX6_load 7 = .ok (.iload_n 2, 1) := by decide +kernel
theorem dX6_load_8 : decode cX6_load 8 = .ok (.invokestatic 91, 3) := by decide +kernel
theorem dX6_load_11 : decode cX6_load 11 = .ok (.ifCond .eq 16, 3) := by decide +kernel
theorem dX6_load_14 : decode cX6_load 14 = .ok (.aload_n 0, 1) := by decide +kernel
theorem dX6_load_15 : decode cX6_load 15 = .ok (.invokevirtual 80, 3) := by decide +kernel
theorem dX6_load_18 : decode cX6_load 18 = .ok (.iload_n 2, 1) := by decide +kernel
theorem dX6_load_19 : decode cX6_load 19 = .ok (.iload_n 3, 1) := by decide +kernel
theorem dX6_load_20 : decode cX6_load 20 = .ok (.invokevirtual 105, 3) := by decide +kernel
theorem dX6_load_23 : decode cX6_load 23 = .ok (.iconst (-1), 1) := by decide +kernel
theorem dX6_load_24 : decode cX6_load 24 = .ok (.if_icmp .ne 6, 3) := by decide +kernel
theorem dX6_load_27 : decode cX6_load 27 = .ok (.bipush (-2), 2) := by decide +kernel
theorem dX6_load_29 : decode cX6_load 29 = .ok (.ireturn, 1) := by decide +kernel
theorem dX6_load_30 : decode cX6_load 30 = .ok (.aload_n 0, 1) := by decide +kernel
theorem dX6_load_31 : decode cX6_load 31 = .ok (.invokevirtual 98, 3) := by decide +kernel
theorem dX6_load_34 : decode cX6_load 34 = .ok (.iload_n 1, 1) := by decide +kernel
theorem dX6_load_35 : decode cX6_load 35 = .ok (.iload_n 2, 1) := by decide +kernel
theorem dX6_load_36 : decode cX6_load 36 = .ok (.iload_n 3, 1) := by decide +kernel
theorem dX6_load_37 : decode cX6_load 37 = .ok (.invokevirtual 108, 3) := by decide +kernel
theorem dX6_load_40 : decode cX6_load 40 = .ok (.ireturn, 1) := by decide +kernel
theorem dX6_store_0 : decode cX6_store 0 = .ok (.iload_n 1, 1) := by decide +kernel
theorem dX6_store_1 : decode cX6_store 1 = .ok (.invokestatic 91, 3) := by decide +kernel
theorem dX6_store_4 : decode cX6_store 4 = .ok (.ifCond .eq 23, 3) := by decide +kernel
theorem dX6_store_7 : decode cX6_store 7 = .ok (.iload_n 3, 1) := by decide +kernel
theorem dX6_store_8 : decode cX6_store 8 = .ok (.invokestatic 112, 3) := by decide +kernel
theorem dX6_store_11 : decode cX6_store 11 = .ok (.ifCond .eq 16, 3) := by decide +kernel
theorem dX6_store_14 : decode cX6_store 14 = .ok (.aload_n 0, 1) := by decide +kernel
theorem dX6_store_15 : decode cX6_store 15 = .ok (.invokevirtual 80, 3) := by decide +kernel
theorem dX6_store_18 : decode cX6_store 18 = .ok (.iload_n 1, 1) := by decide +kernel
theorem dX6_store_19 : decode cX6_store 19 = .ok (.iload_n 2, 1) := by decide +kernel
theorem dX6_store_20 : decode cX6_store 20 = .ok (.invokevirtual 105, 3) := by decide +kernel
theorem dX6_store_23 : decode cX6_store 23 = .ok (.iconst (-1), 1) := by decide +kernel
theorem dX6_store_24 : decode cX6_store 24 = .ok (.if_icmp .ne 5, 3) := by decide +kernel
theorem dX6_store_27 : decode cX6_store 27 = .ok (.iconst 0, 1) := by decide +kernel
theorem dX6_store_28 : decode cX6_store 28 = .ok (.ireturn, 1) := by decide +kernel
theorem dX6_store_29 : decode cX6_store 29 = .ok (.aload_n 0, 1) := by decide +kernel
theorem dX6_store_30 : decode cX6_store 30 = .ok (.invokevirtual 98, 3) := by decide +kernel
theorem dX6_store_33 : decode cX6_store 33 = .ok (.iload_n 1, 1) := by decide +kernel
theorem dX6_store_34 : decode cX6_store 34 = .ok (.iload_n 2, 1) := by decide +kernel
theorem dX6_store_35 : decode cX6_store 35 = .ok (.iload_n 3, 1) := by decide +kernel
theorem dX6_store_36 : decode cX6_store 36 = .ok (.invokevirtual 115, 3) := by decide +kernel
theorem dX6_store_39 : decode cX6_store 39 = .ok (.pop, 1) := by decide +kernel
theorem dX6_store_40 : decode cX6_store 40 = .ok (.iconst 1, 1) := by decide +kernel
theorem dX6_store_41 : decode cX6_store 41 = .ok (.ireturn, 1) := by decide +kernel
theorem dX6_copy_0 : decode cX6_copy 0 = .ok (.iload_n 1, 1) := by decide +kernel
theorem dX6_copy_1 : decode cX6_copy 1 = .ok (.invokestatic 91, 3) := by decide +kernel
theorem dX6_copy_4 : decode cX6_copy 4 = .ok (.ifCond .eq 10, 3) := by decide +kernel
theorem dX6_copy_7 : decode cX6_copy 7 = .ok (.iload_n 2, 1) := by decide +kernel
theorem dX6_copy_8 : decode cX6_copy 8 = .ok (.invokestatic 112, 3) := by decide +kernel
theorem dX6_copy_11 : decode cX6_copy 11 = .ok (.ifCond .ne 5, 3) := by decide +kernel
theorem dX6_copy_14 : decode cX6_copy 14 = .ok (.iconst 0, 1) := by decide +kernel
theorem dX6_copy_15 : decode cX6_copy 15 = .ok (.ireturn, 1) := by decide +kernel
theorem dX6_copy_16 : decode cX6_copy 16 = .ok (.aload_n 0, 1) := by decide +kernel
theorem dX6_copy_17 : decode cX6_copy 17 = .ok (.invokevirtual 98, 3) := by decide +kernel
theorem dX6_copy_20 : decode cX6_copy 20 = .ok (.astore_n 3, 1) := by decide +kernel
theorem dX6_copy_21 : decode cX6_copy 21 = .ok (.aload_n 3, 1) := by decide +kernel
theorem dX6_copy_22 : decode cX6_copy 22 = .ok (.getfield 119, 3) := by decide +kernel
theorem dX6_copy_25 : decode cX6_copy 25 = .ok (.iload_n 1, 1) := by decide +kernel
theorem dX6_copy_26 : decode cX6_copy 26 = .ok (.aload_n 3, 1) := by decide +kernel
theorem dX6_copy_27 : decode cX6_copy 27 = .ok (.iload_n 2, 1) := by decide +kernel
theorem dX6_copy_28 : decode cX6_copy 28 = .ok (.invokevirtual 122, 3) := by decide +kernel
theorem dX6_copy_31 : decode cX6_copy 31 = .ok (.iastore, 1) := by decide +kernel
theorem dX6_copy_32 : decode cX6_copy 32 = .ok (.iconst 1, 1) := by decide +kernel
theorem dX6_copy_33 : decode cX6_copy 33 = .ok (.ireturn, 1) := by decide +kernel
theorem dX6_weak_0 : decode cX6_weak 0 = .ok (.iload_n 1, 1) := by decide +kernel
theorem dX6_weak_1 : decode cX6_weak 1 = .ok (.invokestatic 126, 3) := by decide +kernel
theorem dX6_weak_4 : decode cX6_weak 4 = .ok (.ifCond .eq 10, 3) := by decide +kernel
theorem dX6_weak_7 : decode cX6_weak 7 = .ok (.iload_n 2, 1) := by decide +kernel
theorem dX6_weak_8 : decode cX6_weak 8 = .ok (.invokestatic 112, 3) := by decide +kernel
theorem dX6_weak_11 : decode cX6_weak 11 = .ok (.ifCond .ne 5, 3) := by decide +kernel
theorem dX6_weak_14 : decode cX6_weak 14 = .ok (.iconst 0, 1) := by decide +kernel
theorem dX6_weak_15 : decode cX6_weak 15 = .ok (.ireturn, 1) := by decide +kernel
theorem dX6_weak_16 : decode cX6_weak 16 = .ok (.aload_n 0, 1) := by decide +kernel
theorem dX6_weak_17 : decode cX6_weak 17 = .ok (.invokevirtual 98, 3) := by decide +kernel
theorem dX6_weak_20 : decode cX6_weak 20 = .ok (.astore_n 3, 1) := by decide +kernel
theorem dX6_weak_21 : decode cX6_weak 21 = .ok (.aload_n 3, 1) := by decide +kernel
theorem dX6_weak_22 : decode cX6_weak 22 = .ok (.getfield 129, 3) := by decide +kernel
theorem dX6_weak_25 : decode cX6_weak 25 = .ok (.iload_n 1, 1) := by decide +kernel
theorem dX6_weak_26 : decode cX6_weak 26 = .ok (.aload_n 3, 1) := by decide +kernel
theorem dX6_weak_27 : decode cX6_weak 27 = .ok (.iload_n 2, 1) := by decide +kernel
theorem dX6_weak_28 : decode cX6_weak 28 = .ok (.invokevirtual 122, 3) := by decide +kernel
theorem dX6_weak_31 : decode cX6_weak 31 = .ok (.iastore, 1) := by decide +kernel
theorem dX6_weak_32 : decode cX6_weak 32 = .ok (.iconst 1, 1) := by decide +kernel
theorem dX6_weak_33 : decode cX6_weak 33 = .ok (.ireturn, 1) := by decide +kernel
theorem dX6_strong_0 : decode cX6_strong 0 = .ok (.iload_n 1, 1) := by decide +kernel
theorem dX6_strong_1 : decode cX6_strong 1 = .ok (.invokestatic 91, 3) := by decide +kernel
theorem dX6_strong_4 : decode cX6_strong 4 = .ok (.ifCond .eq 10, 3) := by decide +kernel
theorem dX6_strong_7 : decode cX6_strong 7 = .ok (.iload_n 2, 1) := by decide +kernel
theorem dX6_strong_8 : decode cX6_strong 8 = .ok (.invokestatic 126, 3) := by decide +kernel
theorem dX6_strong_11 : decode cX6_strong 11 = .ok (.ifCond .ne 6, 3) := by decide +kernel
theorem dX6_strong_14 : decode cX6_strong 14 = .ok (.bipush (-2), 2) := by decide +kernel
theorem dX6_strong_16 : decode cX6_strong 16 = .ok (.ireturn, 1) := by decide +kernel
theorem dX6_strong_17 : decode cX6_strong 17 = .ok (.aload_n 0, 1) := by decide +kernel
theorem dX6_strong_18 : decode cX6_strong 18 = .ok (.invokevirtual 98, 3) := by decide +kernel
theorem dX6_strong_21 : decode cX6_strong 21 = .ok (.iload_n 1, 1) := by decide +kernel
theorem dX6_strong_22 : decode cX6_strong 22 = .ok (.iload_n 2, 1) := by decide +kernel
theorem dX6_strong_23 : decode cX6_strong 23 = .ok (.invokevirtual 132, 3) := by decide +kernel
theorem dX6_strong_26 : decode cX6_strong 26 = .ok (.ireturn, 1) := by decide +kernel
theorem dX6_start_0 : decode cX6_start 0 = .ok (.aload_n 0, 1) := by decide +kernel
theorem dX6_start_1 : decode cX6_start 1 = .ok (.invokevirtual 80, 3) := by decide +kernel
theorem dX6_start_4 : decode cX6_start 4 = .ok (.getfield 135, 3) := by decide +kernel
theorem dX6_start_7 : decode cX6_start 7 = .ok (.ifCond .eq 5, 3) := by decide +kernel
theorem dX6_start_10 : decode cX6_start 10 = .ok (.iconst 0, 1) := by decide +kernel
theorem dX6_start_11 : decode cX6_start 11 = .ok (.ireturn, 1) := by decide +kernel
theorem dX6_start_12 : decode cX6_start 12 = .ok (.aload_n 0, 1) := by decide +kernel
theorem dX6_start_13 : decode cX6_start 13 = .ok (.invokevirtual 98, 3) := by decide +kernel
theorem dX6_start_16 : decode cX6_start 16 = .ok (.invokevirtual 139, 3) := by decide +kernel
theorem dX6_start_19 : decode cX6_start 19 = .ok (.iconst 1, 1) := by decide +kernel
theorem dX6_start_20 : decode cX6_start 20 = .ok (.ireturn, 1) := by decide +kernel
theorem dX6_work_0 : decode cX6_work 0 = .ok (.aload_n 0, 1) := by decide +kernel
theorem dX6_work_1 : decode cX6_work 1 = .ok (.invokevirtual 80, 3) := by decide +kernel
theorem dX6_work_4 : decode cX6_work 4 = .ok (.getfield 135, 3) := by decide +kernel
theorem dX6_work_7 : decode cX6_work 7 = .ok (.ifCond .eq 15, 3) := by decide +kernel
theorem dX6_work_10 : decode cX6_work 10 = .ok (.iload_n 1, 1) := by decide +kernel
theorem dX6_work_11 : decode cX6_work 11 = .ok (.iconst 1, 1) := by decide +kernel
theorem dX6_work_12 : decode cX6_work 12 = .ok (.if_icmp .lt 10, 3) := by decide +kernel
theorem dX6_work_15 : decode cX6_work 15 = .ok (.iload_n 1, 1) := by decide +kernel
theorem dX6_work_16 : decode cX6_work 16 = .ok (.sipush 500, 3) := by decide +kernel
theorem dX6_work_19 : decode cX6_work 19 = .ok (.if_icmp .le 5, 3) := by decide +kernel
theorem dX6_work_22 : decode cX6_work 22 = .ok (.iconst (-1), 1) := by decide +kernel
theorem dX6_work_23 : decode cX6_work 23 = .ok (.ireturn, 1) := by decide +kernel
theorem dX6_work_24 : decode cX6_work 24 = .ok (.aload_n 0, 1) := by decide +kernel
theorem dX6_work_25 : decode cX6_work 25 = .ok (.invokevirtual 98, 3) := by decide +kernel
theorem dX6_work_28 : decode cX6_work 28 = .ok (.iload_n 1, 1) := by decide +kernel
theorem dX6_work_29 : decode cX6_work 29 = .ok (.invokevirtual 142, 3) := by decide +kernel
theorem dX6_work_32 : decode cX6_work 32 = .ok (.ireturn, 1) := by decide +kernel
theorem dX6_turn_0 : decode cX6_turn 0 = .ok (.iload_n 1, 1) := by decide +kernel
theorem dX6_turn_1 : decode cX6_turn 1 = .ok (.ifCond .lt 12, 3) := by decide +kernel
theorem dX6_turn_4 : decode cX6_turn 4 = .ok (.iload_n 1, 1) := by decide +kernel
theorem dX6_turn_5 : decode cX6_turn 5 = .ok (.iconst 4, 1) := by decide +kernel
theorem dX6_turn_6 : decode cX6_turn 6 = .ok (.if_icmp .ge 7, 3) := by decide +kernel
theorem dX6_turn_9 : decode cX6_turn 9 = .ok (.iload_n 2, 1) := by decide +kernel
theorem dX6_turn_10 : decode cX6_turn 10 = .ok (.ifCond .ge 5, 3) := by decide +kernel
theorem dX6_turn_13 : decode cX6_turn 13 = .ok (.iconst (-1), 1) := by decide +kernel
theorem dX6_turn_14 : decode cX6_turn 14 = .ok (.ireturn, 1) := by decide +kernel
theorem dX6_turn_15 : decode cX6_turn 15 = .ok (.iload_n 1, 1) := by decide +kernel
theorem dX6_turn_16 : decode cX6_turn 16 = .ok (.ifCond .eq 8, 3) := by decide +kernel
theorem dX6_turn_19 : decode cX6_turn 19 = .ok (.iload_n 1, 1) := by decide +kernel
theorem dX6_turn_20 : decode cX6_turn 20 = .ok (.iconst 1, 1) := by decide +kernel
theorem dX6_turn_21 : decode cX6_turn 21 = .ok (.if_icmp .ne 7, 3) := by decide +kernel
theorem dX6_turn_24 : decode cX6_turn 24 = .ok (.iconst 3, 1) := by decide +kernel
theorem dX6_turn_25 : decode cX6_turn 25 = .ok (.goto 5, 3) := by decide +kernel
theorem dX6_turn_28 : decode cX6_turn 28 = .ok (.bipush 16, 2) := by decide +kernel
theorem dX6_turn_30 : decode cX6_turn 30 = .ok (.istore_n 3, 1) := by decide +kernel
theorem dX6_turn_31 : decode cX6_turn 31 = .ok (.iload_n 2, 1) := by decide +kernel
theorem dX6_turn_32 : decode cX6_turn 32 = .ok (.iload_n 3, 1) := by decide +kernel
theorem dX6_turn_33 : decode cX6_turn 33 = .ok (.if_icmp .gt 17, 3) := by decide +kernel
theorem dX6_turn_36 : decode cX6_turn 36 = .ok (.iload_n 1, 1) := by decide +kernel
theorem dX6_turn_37 : decode cX6_turn 37 = .ok (.ifCond .ne 15, 3) := by decide +kernel
theorem dX6_turn_40 : decode cX6_turn 40 = .ok (.aload_n 0, 1) := by decide +kernel
theorem dX6_turn_41 : decode cX6_turn 41 = .ok (.invokevirtual 80, 3) := by decide +kernel
theorem dX6_turn_44 : decode cX6_turn 44 = .ok (.getfield 135, 3) := by decide +kernel
theorem dX6_turn_47 : decode cX6_turn 47 = .ok (.ifCond .eq 5, 3) := by decide +kernel
theorem dX6_turn_50 : decode cX6_turn 50 = .ok (.iconst (-1), 1) := by decide +kernel
theorem dX6_turn_51 : decode cX6_turn 51 = .ok (.ireturn, 1) := by decide +kernel
theorem dX6_turn_52 : decode cX6_turn 52 = .ok (.aload_n 0, 1) := by decide +kernel
theorem dX6_turn_53 : decode cX6_turn 53 = .ok (.invokevirtual 98, 3) := by decide +kernel
theorem dX6_turn_56 : decode cX6_turn 56 = .ok (.astore 4, 2) := by decide +kernel
theorem dX6_turn_58 : decode cX6_turn 58 = .ok (.aload 4, 2) := by decide +kernel
theorem dX6_turn_60 : decode cX6_turn 60 = .ok (.getfield 145, 3) := by decide +kernel
theorem dX6_turn_63 : decode cX6_turn 63 = .ok (.iload_n 1, 1) := by decide +kernel
theorem dX6_turn_64 : decode cX6_turn 64 = .ok (.iaload, 1) := by decide +kernel
theorem dX6_turn_65 : decode cX6_turn 65 = .ok (.istore 5, 2) := by decide +kernel
theorem dX6_turn_67 : decode cX6_turn 67 = .ok (.aload 4, 2) := by decide +kernel
theorem dX6_turn_69 : decode cX6_turn 69 = .ok (.getfield 145, 3) := by decide +kernel
theorem dX6_turn_72 : decode cX6_turn 72 = .ok (.iload_n 1, 1) := by decide +kernel
theorem dX6_turn_73 : decode cX6_turn 73 = .ok (.iload_n 2, 1) := by decide +kernel
theorem dX6_turn_74 : decode cX6_turn 74 = .ok (.iastore, 1) := by decide +kernel
theorem dX6_turn_75 : decode cX6_turn 75 = .ok (.iload 5, 2) := by decide +kernel
theorem dX6_turn_77 : decode cX6_turn 77 = .ok (.ireturn, 1) := by decide +kernel
theorem dX6_feed_0 : decode cX6_feed 0 = .ok (.aload_n 0, 1) := by decide +kernel
theorem dX6_feed_1 : decode cX6_feed 1 = .ok (.getfield 51, 3) := by decide +kernel
theorem dX6_feed_4 : decode cX6_feed 4 = .ok (.bipush 20, 2) := by decide +kernel
theorem dX6_feed_6 : decode cX6_feed 6 = .ok (.iadd, 1) := by decide +kernel
theorem dX6_feed_7 : decode cX6_feed 7 = .ok (.sipush 400, 3) := by decide +kernel
theorem dX6_feed_10 : decode cX6_feed 10 = .ok (.if_icmp .le 5, 3) := by decide +kernel
theorem dX6_feed_13 : decode cX6_feed 13 = .ok (.iconst (-1), 1) := by decide +kernel
theorem dX6_feed_14 : decode cX6_feed 14 = .ok (.ireturn, 1) := by decide +kernel
theorem dX6_feed_15 : decode cX6_feed 15 = .ok (.aload_n 0, 1) := by decide +kernel
theorem dX6_feed_16 : decode cX6_feed 16 = .ok (.iload_n 1, 1) := by decide +kernel
theorem dX6_feed_17 : decode cX6_feed 17 = .ok (.invokevirtual 148, 3) := by decide +kernel
theorem dX6_feed_20 : decode cX6_feed 20 = .ok (.aload_n 0, 1) := by decide +kernel
theorem dX6_feed_21 : decode cX6_feed 21 = .ok (.iload_n 2, 1) := by decide +kernel
theorem dX6_feed_22 : decode cX6_feed 22 = .ok (.invokevirtual 148, 3) := by decide +kernel
theorem dX6_feed_25 : decode cX6_feed 25 = .ok (.aload_n 0, 1) := by decide +kernel
theorem dX6_feed_26 : decode cX6_feed 26 = .ok (.iload_n 3, 1) := by decide +kernel
theorem dX6_feed_27 : decode cX6_feed 27 = .ok (.invokevirtual 148, 3) := by decide +kernel
theorem dX6_feed_30 : decode cX6_feed 30 = .ok (.aload_n 0, 1) := by decide +kernel
theorem dX6_feed_31 : decode cX6_feed 31 = .ok (.iload 4, 2) := by decide +kernel
theorem dX6_feed_33 : decode cX6_feed 33 = .ok (.invokevirtual 148, 3) := by decide +kernel
theorem dX6_feed_36 : decode cX6_feed 36 = .ok (.aload_n 0, 1) := by decide +kernel
theorem dX6_feed_37 : decode cX6_feed 37 = .ok (.iload 5, 2) := by decide +kernel
theorem dX6_feed_39 : decode cX6_feed 39 = .ok (.invokevirtual 148, 3) := by decide +kernel
theorem dX6_feed_42 : decode cX6_feed 42 = .ok (.aload_n 0, 1) := by decide +kernel
theorem dX6_feed_43 : decode cX6_feed 43 = .ok (.getfield 51, 3) := by decide +kernel
theorem dX6_feed_46 : decode cX6_feed 46 = .ok (.ireturn, 1) := by decide +kernel
theorem dX6_cut_0 : decode cX6_cut 0 = .ok (.iload_n 1, 1) := by decide +kernel
theorem dX6_cut_1 : decode cX6_cut 1 = .ok (.ifCond .lt 11, 3) := by decide +kernel
theorem dX6_cut_4 : decode cX6_cut 4 = .ok (.iload_n 1, 1) := by decide +kernel
theorem dX6_cut_5 : decode cX6_cut 5 = .ok (.aload_n 0, 1) := by decide +kernel
theorem dX6_cut_6 : decode cX6_cut 6 = .ok (.getfield 51, 3) := by decide +kernel
theorem dX6_cut_9 : decode cX6_cut 9 = .ok (.if_icmp .le 5, 3) := by decide +kernel
theorem dX6_cut_12 : decode cX6_cut 12 = .ok (.iconst (-1), 1) := by decide +kernel
theorem dX6_cut_13 : decode cX6_cut 13 = .ok (.ireturn, 1) := by decide +kernel
theorem dX6_cut_14 : decode cX6_cut 14 = .ok (.aload_n 0, 1) := by decide +kernel
theorem dX6_cut_15 : decode cX6_cut 15 = .ok (.iload_n 1, 1) := by decide +kernel
theorem dX6_cut_16 : decode cX6_cut 16 = .ok (.putfield 51, 3) := by decide +kernel
theorem dX6_cut_19 : decode cX6_cut 19 = .ok (.iload_n 1, 1) := by decide +kernel
theorem dX6_cut_20 : decode cX6_cut 20 = .ok (.ireturn, 1) := by decide +kernel
theorem dX6_program_0 : decode cX6_program 0 = .ok (.aload_n 0, 1) := by decide +kernel
theorem dX6_program_1 : decode cX6_program 1 = .ok (.getfield 51, 3) := by decide +kernel
theorem dX6_program_4 : decode cX6_program 4 = .ok (.istore_n 1, 1) := by decide +kernel
theorem dX6_program_5 : decode cX6_program 5 = .ok (.aload_n 0, 1) := by decide +kernel
theorem dX6_program_6 : decode cX6_program 6 = .ok (.iconst 0, 1) := by decide +kernel
theorem dX6_program_7 : decode cX6_program 7 = .ok (.putfield 51, 3) := by decide +kernel
theorem dX6_program_10 : decode cX6_program 10 = .ok (.aload_n 0, 1) := by decide +kernel
theorem dX6_program_11 : decode cX6_program 11 = .ok (.getfield 57, 3) := by decide +kernel
theorem dX6_program_14 : decode cX6_program 14 = .ok (.aload_n 0, 1) := by decide +kernel
theorem dX6_program_15 : decode cX6_program 15 = .ok (.getfield 48, 3) := by decide +kernel
theorem dX6_program_18 : decode cX6_program 18 = .ok (.iload_n 1, 1) := by decide +kernel
theorem dX6_program_19 : decode cX6_program 19 = .ok (.aload_n 0, 1) := by decide +kernel
theorem dX6_program_20 : decode cX6_program 20 = .ok (.getfield 68, 3) := by decide +kernel
theorem dX6_program_23 : decode cX6_program 23 = .ok (.invokevirtual 151, 3) := by decide +kernel
theorem dX6_program_26 : decode cX6_program 26 = .ok (.aload_n 0, 1) := by decide +kernel
theorem dX6_program_27 : decode cX6_program 27 = .ok (.getfield 57, 3) := by decide +kernel
theorem dX6_program_30 : decode cX6_program 30 = .ok (.getfield 155, 3) := by decide +kernel
theorem dX6_program_33 : decode cX6_program 33 = .ok (.ifCond .eq 5, 3) := by decide +kernel
theorem dX6_program_36 : decode cX6_program 36 = .ok (.iconst (-1), 1) := by decide +kernel
theorem dX6_program_37 : decode cX6_program 37 = .ok (.ireturn, 1) := by decide +kernel
theorem dX6_program_38 : decode cX6_program 38 = .ok (.aload_n 0, 1) := by decide +kernel
theorem dX6_program_39 : decode cX6_program 39 = .ok (.getfield 64, 3) := by decide +kernel
theorem dX6_program_42 : decode cX6_program 42 = .ok (.astore_n 2, 1) := by decide +kernel
theorem dX6_program_43 : decode cX6_program 43 = .ok (.aload_n 0, 1) := by decide +kernel
theorem dX6_program_44 : decode cX6_program 44 = .ok (.aload_n 0, 1) := by decide +kernel
theorem dX6_program_45 : decode cX6_program 45 = .ok (.getfield 68, 3) := by decide +kernel
theorem dX6_program_48 : decode cX6_program 48 = .ok (.putfield 64, 3) := by decide +kernel
theorem dX6_program_51 : decode cX6_program 51 = .ok (.aload_n 0, 1) := by decide +kernel
theorem dX6_program_52 : decode cX6_program 52 = .ok (.aload_n 2, 1) := by decide +kernel
theorem dX6_program_53 : decode cX6_program 53 = .ok (.putfield 68, 3) := by decide +kernel
theorem dX6_program_56 : decode cX6_program 56 = .ok (.aload_n 0, 1) := by decide +kernel
theorem dX6_program_57 : decode cX6_program 57 = .ok (.getfield 64, 3) := by decide +kernel
theorem dX6_program_60 : decode cX6_program 60 = .ok (.getfield 158, 3) := by decide +kernel
theorem dX6_program_63 : decode cX6_program 63 = .ok (.ireturn, 1) := by decide +kernel
theorem dX6_fault_0 : decode cX6_fault 0 = .ok (.iload_n 1, 1) := by decide +kernel
theorem dX6_fault_1 : decode cX6_fault 1 = .ok (.ifCond .ne 11, 3) := by decide +kernel
theorem dX6_fault_4 : decode cX6_fault 4 = .ok (.aload_n 0, 1) := by decide +kernel
theorem dX6_fault_5 : decode cX6_fault 5 = .ok (.getfield 57, 3) := by decide +kernel
theorem dX6_fault_8 : decode cX6_fault 8 = .ok (.getfield 155, 3) := by decide +kernel
theorem dX6_fault_11 : decode cX6_fault 11 = .ok (.ireturn, 1) := by decide +kernel
theorem dX6_fault_12 : decode cX6_fault 12 = .ok (.iload_n 1, 1) := by decide +kernel
theorem dX6_fault_13 : decode cX6_fault 13 = .ok (.iconst 1, 1) := by decide +kernel
theorem dX6_fault_14 : decode cX6_fault 14 = .ok (.if_icmp .ne 13, 3) := by decide +kernel
theorem dX6_fault_17 : decode cX6_fault 17 = .ok (.aload_n 0, 1) := by decide +kernel
theorem dX6_fault_18 : decode cX6_fault 18 = .ok (.getfield 57, 3) := by decide +kernel
theorem dX6_fault_21 : decode cX6_fault 21 = .ok (.getfield 161, 3) := by decide +kernel
theorem dX6_fault_24 : decode cX6_fault 24 = .ok (.goto 4, 3) := by decide +kernel
theorem dX6_fault_27 : decode cX6_fault 27 = .ok (.iconst (-1), 1) := by decide +kernel
theorem dX6_fault_28 : decode cX6_fault 28 = .ok (.ireturn, 1) := by decide +kernel
theorem dX6_run_0 : decode cX6_run 0 = .ok (.aload_n 0, 1) := by decide +kernel
theorem dX6_run_1 : decode cX6_run 1 = .ok (.getfield 64, 3) := by decide +kernel
theorem dX6_run_4 : decode cX6_run 4 = .ok (.getfield 158, 3) := by decide +kernel
theorem dX6_run_7 : decode cX6_run 7 = .ok (.ifCond .ne 5, 3) := by decide +kernel
theorem dX6_run_10 : decode cX6_run 10 = .ok (.iconst (-1), 1) := by decide +kernel
theorem dX6_run_11 : decode cX6_run 11 = .ok (.ireturn, 1) := by decide +kernel
theorem dX6_run_12 : decode cX6_run 12 = .ok (.aload_n 0, 1) := by decide +kernel
theorem dX6_run_13 : decode cX6_run 13 = .ok (.getfield 76, 3) := by decide +kernel
theorem dX6_run_16 : decode cX6_run 16 = .ok (.aload_n 0, 1) := by decide +kernel
theorem dX6_run_17 : decode cX6_run 17 = .ok (.invokevirtual 98, 3) := by decide +kernel
theorem dX6_run_20 : decode cX6_run 20 = .ok (.aload_n 0, 1) := by decide +kernel
theorem dX6_run_21 : decode cX6_run 21 = .ok (.getfield 64, 3) := by decide +kernel
theorem dX6_run_24 : decode cX6_run 24 = .ok (.invokevirtual 164, 3) := by decide +kernel
theorem dX6_run_27 : decode cX6_run 27 = .ok (.aload_n 0, 1) := by decide +kernel
theorem dX6_run_28 : decode cX6_run 28 = .ok (.getfield 76, 3) := by decide +kernel
theorem dX6_run_31 : decode cX6_run 31 = .ok (.iconst 0, 1) := by decide +kernel
theorem dX6_run_32 : decode cX6_run 32 = .ok (.aload_n 0, 1) := by decide +kernel
theorem dX6_run_33 : decode cX6_run 33 = .ok (.getfield 64, 3) := by decide +kernel
theorem dX6_run_36 : decode cX6_run 36 = .ok (.getfield 158, 3) := by decide +kernel
theorem dX6_run_39 : decode cX6_run 39 = .ok (.iconst 0, 1) := by decide +kernel
theorem dX6_run_40 : decode cX6_run 40 = .ok (.invokevirtual 167, 3) := by decide +kernel
theorem dX6_run_43 : decode cX6_run 43 = .ok (.aload_n 0, 1) := by decide +kernel
theorem dX6_run_44 : decode cX6_run 44 = .ok (.getfield 76, 3) := by decide +kernel
theorem dX6_run_47 : decode cX6_run 47 = .ok (.getfield 171, 3) := by decide +kernel
theorem dX6_run_50 : decode cX6_run 50 = .ok (.ireturn, 1) := by decide +kernel
theorem dX6_runBy_0 : decode cX6_runBy 0 = .ok (.iload_n 1, 1) := by decide +kernel
theorem dX6_runBy_1 : decode cX6_runBy 1 = .ok (.ifCond .lt 28, 3) := by decide +kernel
theorem dX6_runBy_4 : decode cX6_runBy 4 = .ok (.iload_n 1, 1) := by decide +kernel
theorem dX6_runBy_5 : decode cX6_runBy 5 = .ok (.iconst 3, 1) := by decide +kernel
theorem dX6_runBy_6 : decode cX6_runBy 6 = .ok (.if_icmp .gt 23, 3) := by decide +kernel
theorem dX6_runBy_9 : decode cX6_runBy 9 = .ok (.iload_n 2, 1) := by decide +kernel
theorem dX6_runBy_10 : decode cX6_runBy 10 = .ok (.ifCond .lt 19, 3) := by decide +kernel
theorem dX6_runBy_13 : decode cX6_runBy 13 = .ok (.iload_n 2, 1) := by decide +kernel
theorem dX6_runBy_14 : decode cX6_runBy 14 = .ok (.bipush 6, 2) := by decide +kernel
theorem dX6_runBy_16 : decode cX6_runBy 16 = .ok (.if_icmp .gt 13, 3) := by decide +kernel
theorem dX6_runBy_19 : decode cX6_runBy 19 = .ok (.aload_n 0, 1) := by decide +kernel
theorem dX6_runBy_20 : decode cX6_runBy 20 = .ok (.getfield 64, 3) := by decide +kernel
theorem dX6_runBy_23 : decode cX6_runBy 23 = .ok (.getfield 158, 3) := by decide +kernel
theorem dX6_runBy_26 : decode cX6_runBy 26 = .ok (.ifCond .ne 5, 3) := by decide +kernel
theorem dX6_runBy_29 : decode cX6_runBy 29 = .ok (.iconst (-1), 1) := by decide +kernel
theorem dX6_runBy_30 : decode cX6_runBy 30 = .ok (.ireturn, 1) := by decide +kernel
theorem dX6_runBy_31 : decode cX6_runBy 31 = .ok (.aload_n 0, 1) := by decide +kernel
theorem dX6_runBy_32 : decode cX6_runBy 32 = .ok (.iload_n 1, 1) := by decide +kernel
theorem dX6_runBy_33 : decode cX6_runBy 33 = .ok (.aload_n 0, 1) := by decide +kernel
theorem dX6_runBy_34 : decode cX6_runBy 34 = .ok (.invokevirtual 80, 3) := by decide +kernel
theorem dX6_runBy_37 : decode cX6_runBy 37 = .ok (.getfield 145, 3) := by decide +kernel
theorem dX6_runBy_40 : decode cX6_runBy 40 = .ok (.iconst 2, 1) := by decide +kernel
theorem dX6_runBy_41 : decode cX6_runBy 41 = .ok (.iaload, 1) := by decide +kernel
theorem dX6_runBy_42 : decode cX6_runBy 42 = .ok (.invokevirtual 174, 3) := by decide +kernel
theorem dX6_runBy_45 : decode cX6_runBy 45 = .ok (.iload_n 2, 1) := by decide +kernel
theorem dX6_runBy_46 : decode cX6_runBy 46 = .ok (.tableswitch 78 0 5 #[38, 46, 52, 58, 64, 70], 38) := by decide +kernel
theorem dX6_runBy_84 : decode cX6_runBy 84 = .ok (.aload_n 0, 1) := by decide +kernel
theorem dX6_runBy_85 : decode cX6_runBy 85 = .ok (.getfield 76, 3) := by decide +kernel
theorem dX6_runBy_88 : decode cX6_runBy 88 = .ok (.getfield 171, 3) := by decide +kernel
theorem dX6_runBy_91 : decode cX6_runBy 91 = .ok (.ireturn, 1) := by decide +kernel
theorem dX6_runBy_92 : decode cX6_runBy 92 = .ok (.aload_n 0, 1) := by decide +kernel
theorem dX6_runBy_93 : decode cX6_runBy 93 = .ok (.iconst 1, 1) := by decide +kernel
theorem dX6_runBy_94 : decode cX6_runBy 94 = .ok (.invokevirtual 178, 3) := by decide +kernel
theorem dX6_runBy_97 : decode cX6_runBy 97 = .ok (.ireturn, 1) := by decide +kernel
theorem dX6_runBy_98 : decode cX6_runBy 98 = .ok (.aload_n 0, 1) := by decide +kernel
theorem dX6_runBy_99 : decode cX6_runBy 99 = .ok (.iconst 3, 1) := by decide +kernel
theorem dX6_runBy_100 : decode cX6_runBy 100 = .ok (.invokevirtual 178, 3) := by decide +kernel
theorem dX6_runBy_103 : decode cX6_runBy 103 = .ok (.ireturn, 1) := by decide +kernel
theorem dX6_runBy_104 : decode cX6_runBy 104 = .ok (.aload_n 0, 1) := by decide +kernel
theorem dX6_runBy_105 : decode cX6_runBy 105 = .ok (.iconst 2, 1) := by decide +kernel
theorem dX6_runBy_106 : decode cX6_runBy 106 = .ok (.invokevirtual 178, 3) := by decide +kernel
theorem dX6_runBy_109 : decode cX6_runBy 109 = .ok (.ireturn, 1) := by decide +kernel
theorem dX6_runBy_110 : decode cX6_runBy 110 = .ok (.aload_n 0, 1) := by decide +kernel
theorem dX6_runBy_111 : decode cX6_runBy 111 = .ok (.iconst 0, 1) := by decide +kernel
theorem dX6_runBy_112 : decode cX6_runBy 112 = .ok (.invokevirtual 178, 3) := by decide +kernel
theorem dX6_runBy_115 : decode cX6_runBy 115 = .ok (.ireturn, 1) := by decide +kernel
theorem dX6_runBy_116 : decode cX6_runBy 116 = .ok (.aload_n 0, 1) := by decide +kernel
theorem dX6_runBy_117 : decode cX6_runBy 117 = .ok (.getfield 33, 3) := by decide +kernel
theorem dX6_runBy_120 : decode cX6_runBy 120 = .ok (.invokevirtual 181, 3) := by decide +kernel
theorem dX6_runBy_123 : decode cX6_runBy 123 = .ok (.ireturn, 1) := by decide +kernel
theorem dX6_runBy_124 : decode cX6_runBy 124 = .ok (.aload_n 0, 1) := by decide +kernel
theorem dX6_runBy_125 : decode cX6_runBy 125 = .ok (.getfield 44, 3) := by decide +kernel
theorem dX6_runBy_128 : decode cX6_runBy 128 = .ok (.aload_n 0, 1) := by decide +kernel
theorem dX6_runBy_129 : decode cX6_runBy 129 = .ok (.getfield 33, 3) := by decide +kernel
theorem dX6_runBy_132 : decode cX6_runBy 132 = .ok (.iconst 0, 1) := by decide +kernel
theorem dX6_runBy_133 : decode cX6_runBy 133 = .ok (.bipush 6, 2) := by decide +kernel
theorem dX6_runBy_135 : decode cX6_runBy 135 = .ok (.iconst (-1), 1) := by decide +kernel
theorem dX6_runBy_136 : decode cX6_runBy 136 = .ok (.invokevirtual 185, 3) := by decide +kernel
theorem dX6_runBy_139 : decode cX6_runBy 139 = .ok (.aload_n 0, 1) := by decide +kernel
theorem dX6_runBy_140 : decode cX6_runBy 140 = .ok (.getfield 44, 3) := by decide +kernel
theorem dX6_runBy_143 : decode cX6_runBy 143 = .ok (.getfield 189, 3) := by decide +kernel
theorem dX6_runBy_146 : decode cX6_runBy 146 = .ok (.ireturn, 1) := by decide +kernel
theorem dX6_cheapest_0 : decode cX6_cheapest 0 = .ok (.iload_n 1, 1) := by decide +kernel
theorem dX6_cheapest_1 : decode cX6_cheapest 1 = .ok (.ifCond .lt 18, 3) := by decide +kernel
theorem dX6_cheapest_4 : decode cX6_cheapest 4 = .ok (.iload_n 1, 1) := by decide +kernel
theorem dX6_cheapest_5 : decode cX6_cheapest 5 = .ok (.iconst 1, 1) := by decide +kernel
theorem dX6_cheapest_6 : decode cX6_cheapest 6 = .ok (.if_icmp .gt 13, 3) := by decide +kernel
theorem dX6_cheapest_9 : decode cX6_cheapest 9 = .ok (.aload_n 0, 1) := by decide +kernel
theorem dX6_cheapest_10 : decode cX6_cheapest 10 = .ok (.getfield 64, 3) := by decide +kernel
theorem dX6_cheapest_13 : decode cX6_cheapest 13 = .ok (.getfield 158, 3) := by decide +kernel
theorem dX6_cheapest_16 : decode cX6_cheapest 16 = .ok (.ifCond .ne 5, 3) := by decide +kernel
theorem dX6_cheapest_19 : decode cX6_cheapest 19 = .ok (.iconst (-1), 1) := by decide +kernel
theorem dX6_cheapest_20 : decode cX6_cheapest 20 = .ok (.ireturn, 1) := by decide +kernel
theorem dX6_cheapest_21 : decode cX6_cheapest 21 = .ok (.iconst (-1), 1) := by decide +kernel
theorem dX6_cheapest_22 : decode cX6_cheapest 22 = .ok (.istore_n 2, 1) := by decide +kernel
theorem dX6_cheapest_23 : decode cX6_cheapest 23 = .ok (.iconst 0, 1) := by decide +kernel
theorem dX6_cheapest_24 : decode cX6_cheapest 24 = .ok (.istore_n 3, 1) := by decide +kernel
theorem dX6_cheapest_25 : decode cX6_cheapest 25 = .ok (.iconst 0, 1) := by decide +kernel
theorem dX6_cheapest_26 : decode cX6_cheapest 26 = .ok (.istore 4, 2) := by decide +kernel
theorem dX6_cheapest_28 : decode cX6_cheapest 28 = .ok (.iload 4, 2) := by decide +kernel
theorem dX6_cheapest_30 : decode cX6_cheapest 30 = .ok (.iconst 2, 1) := by decide +kernel
theorem dX6_cheapest_31 : decode cX6_cheapest 31 = .ok (.if_icmp .gt 48, 3) := by decide +kernel
theorem dX6_cheapest_34 : decode cX6_cheapest 34 = .ok (.aload_n 0, 1) := by decide +kernel
theorem dX6_cheapest_35 : decode cX6_cheapest 35 = .ok (.iload 4, 2) := by decide +kernel
theorem dX6_cheapest_37 : decode cX6_cheapest 37 = .ok (.aload_n 0, 1) := by decide +kernel
theorem dX6_cheapest_38 : decode cX6_cheapest 38 = .ok (.invokevirtual 80, 3) := by decide +kernel
theorem dX6_cheapest_41 : decode cX6_cheapest 41 = .ok (.getfield 145, 3) := by decide +kernel
theorem dX6_cheapest_44 : decode cX6_cheapest 44 = .ok (.iconst 2, 1) := by decide +kernel
theorem dX6_cheapest_45 : decode cX6_cheapest 45 = .ok (.iaload, 1) := by decide +kernel
theorem dX6_cheapest_46 : decode cX6_cheapest 46 = .ok (.invokevirtual 174, 3) := by decide +kernel
theorem dX6_cheapest_49 : decode cX6_cheapest 49 = .ok (.aload_n 0, 1) := by decide +kernel
theorem dX6_cheapest_50 : decode cX6_cheapest 50 = .ok (.iconst 1, 1) := by decide +kernel
theorem dX6_cheapest_51 : decode cX6_cheapest 51 = .ok (.invokevirtual 178, 3) := by decide +kernel
theorem dX6_cheapest_54 : decode cX6_cheapest 54 = .ok (.istore 5, 2) := by decide +kernel
theorem dX6_cheapest_56 : decode cX6_cheapest 56 = .ok (.iload_n 2, 1) := by decide +kernel
theorem dX6_cheapest_57 : decode cX6_cheapest 57 = .ok (.iconst (-1), 1) := by decide +kernel
theorem dX6_cheapest_58 : decode cX6_cheapest 58 = .ok (.if_icmp .eq 9, 3) := by decide +kernel
theorem dX6_cheapest_61 : decode cX6_cheapest 61 = .ok (.iload 5, 2) := by decide +kernel
theorem dX6_cheapest_63 : decode cX6_cheapest 63 = .ok (.iload_n 3, 1) := by decide +kernel
theorem dX6_cheapest_64 : decode cX6_cheapest 64 = .ok (.if_icmp .ge 9, 3) := by decide +kernel
theorem dX6_cheapest_67 : decode cX6_cheapest 67 = .ok (.iload 4, 2) := by decide +kernel
theorem dX6_cheapest_69 : decode cX6_cheapest 69 = .ok (.istore_n 2, 1) := by decide +kernel
theorem dX6_cheapest_70 : decode cX6_cheapest 70 = .ok (.iload 5, 2) := by decide +kernel
theorem dX6_cheapest_72 : decode cX6_cheapest 72 = .ok (.istore_n 3, 1) := by decide +kernel
theorem dX6_cheapest_73 : decode cX6_cheapest 73 = .ok (.iinc 4 1, 3) := by decide +kernel
theorem dX6_cheapest_76 : decode cX6_cheapest 76 = .ok (.goto (-48), 3) := by decide +kernel
theorem dX6_cheapest_79 : decode cX6_cheapest 79 = .ok (.iload_n 1, 1) := by decide +kernel
theorem dX6_cheapest_80 : decode cX6_cheapest 80 = .ok (.ifCond .ne 7, 3) := by decide +kernel
theorem dX6_cheapest_83 : decode cX6_cheapest 83 = .ok (.iload_n 2, 1) := by decide +kernel
theorem dX6_cheapest_84 : decode cX6_cheapest 84 = .ok (.goto 4, 3) := by decide +kernel
theorem dX6_cheapest_87 : decode cX6_cheapest 87 = .ok (.iload_n 3, 1) := by decide +kernel
theorem dX6_cheapest_88 : decode cX6_cheapest 88 = .ok (.ireturn, 1) := by decide +kernel
theorem dX6_suits_0 : decode cX6_suits 0 = .ok (.aload_n 0, 1) := by decide +kernel
theorem dX6_suits_1 : decode cX6_suits 1 = .ok (.getfield 64, 3) := by decide +kernel
theorem dX6_suits_4 : decode cX6_suits 4 = .ok (.getfield 158, 3) := by decide +kernel
theorem dX6_suits_7 : decode cX6_suits 7 = .ok (.ifCond .ne 5, 3) := by decide +kernel
theorem dX6_suits_10 : decode cX6_suits 10 = .ok (.iconst (-1), 1) := by decide +kernel
theorem dX6_suits_11 : decode cX6_suits 11 = .ok (.ireturn, 1) := by decide +kernel
theorem dX6_suits_12 : decode cX6_suits 12 = .ok (.iconst 0, 1) := by decide +kernel
theorem dX6_suits_13 : decode cX6_suits 13 = .ok (.istore_n 1, 1) := by decide +kernel
theorem dX6_suits_14 : decode cX6_suits 14 = .ok (.iload_n 1, 1) := by decide +kernel
theorem dX6_suits_15 : decode cX6_suits 15 = .ok (.bipush 16, 2) := by decide +kernel
theorem dX6_suits_17 : decode cX6_suits 17 = .ok (.if_icmp .gt 33, 3) := by decide +kernel
theorem dX6_suits_20 : decode cX6_suits 20 = .ok (.aload_n 0, 1) := by decide +kernel
theorem dX6_suits_21 : decode cX6_suits 21 = .ok (.aload_n 0, 1) := by decide +kernel
theorem dX6_suits_22 : decode cX6_suits 22 = .ok (.invokevirtual 80, 3) := by decide +kernel
theorem dX6_suits_25 : decode cX6_suits 25 = .ok (.getfield 145, 3) := by decide +kernel
theorem dX6_suits_28 : decode cX6_suits 28 = .ok (.iconst 0, 1) := by decide +kernel
theorem dX6_suits_29 : decode cX6_suits 29 = .ok (.iaload, 1) := by decide +kernel
theorem dX6_suits_30 : decode cX6_suits 30 = .ok (.iload_n 1, 1) := by decide +kernel
theorem dX6_suits_31 : decode cX6_suits 31 = .ok (.invokevirtual 174, 3) := by decide +kernel
theorem dX6_suits_34 : decode cX6_suits 34 = .ok (.aload_n 0, 1) := by decide +kernel
theorem dX6_suits_35 : decode cX6_suits 35 = .ok (.iconst 2, 1) := by decide +kernel
theorem dX6_suits_36 : decode cX6_suits 36 = .ok (.invokevirtual 178, 3) := by decide +kernel
theorem dX6_suits_39 : decode cX6_suits 39 = .ok (.ifCond .ne 5, 3) := by decide +kernel
theorem dX6_suits_42 : decode cX6_suits 42 = .ok (.iload_n 1, 1) := by decide +kernel
theorem dX6_suits_43 : decode cX6_suits 43 = .ok (.ireturn, 1) := by decide +kernel
theorem dX6_suits_44 : decode cX6_suits 44 = .ok (.iinc 1 1, 3) := by decide +kernel
theorem dX6_suits_47 : decode cX6_suits 47 = .ok (.goto (-33), 3) := by decide +kernel
theorem dX6_suits_50 : decode cX6_suits 50 = .ok (.iconst (-1), 1) := by decide +kernel
theorem dX6_suits_51 : decode cX6_suits 51 = .ok (.ireturn, 1) := by decide +kernel
theorem dX6_undo_0 : decode cX6_undo 0 = .ok (.aload_n 0, 1) := by decide +kernel
theorem dX6_undo_1 : decode cX6_undo 1 = .ok (.getfield 19, 3) := by decide +kernel
theorem dX6_undo_4 : decode cX6_undo 4 = .ok (.ifCond .ne 5, 3) := by decide +kernel
end
section
theorem dX6_undo_7 : decode cX6_undo 7 = .ok (.iconst 0, 1) := by decide +kernel
theorem dX6_undo_8 : decode cX6_undo 8 = .ok (.ireturn, 1) := by decide +kernel
theorem dX6_undo_9 : decode cX6_undo 9 = .ok (.aload_n 0, 1) := by decide +kernel
theorem dX6_undo_10 : decode cX6_undo 10 = .ok (.aload_n 0, 1) := by decide +kernel
theorem dX6_undo_11 : decode cX6_undo 11 = .ok (.getfield 15, 3) := by decide +kernel
theorem dX6_undo_14 : decode cX6_undo 14 = .ok (.bipush 20, 2) := by decide +kernel
theorem dX6_undo_16 : decode cX6_undo 16 = .ok (.iadd, 1) := by decide +kernel
theorem dX6_undo_17 : decode cX6_undo 17 = .ok (.aload_n 0, 1) := by decide +kernel
theorem dX6_undo_18 : decode cX6_undo 18 = .ok (.getfield 11, 3) := by decide +kernel
theorem dX6_undo_21 : decode cX6_undo 21 = .ok (.arraylength, 1) := by decide +kernel
theorem dX6_undo_22 : decode cX6_undo 22 = .ok (.irem, 1) := by decide +kernel
theorem dX6_undo_23 : decode cX6_undo 23 = .ok (.putfield 15, 3) := by decide +kernel
theorem dX6_undo_26 : decode cX6_undo 26 = .ok (.aload_n 0, 1) := by decide +kernel
theorem dX6_undo_27 : decode cX6_undo 27 = .ok (.dup, 1) := by decide +kernel
theorem dX6_undo_28 : decode cX6_undo 28 = .ok (.getfield 19, 3) := by decide +kernel
theorem dX6_undo_31 : decode cX6_undo 31 = .ok (.iconst 1, 1) := by decide +kernel
theorem dX6_undo_32 : decode cX6_undo 32 = .ok (.isub, 1) := by decide +kernel
theorem dX6_undo_33 : decode cX6_undo 33 = .ok (.putfield 19, 3) := by decide +kernel
theorem dX6_undo_36 : decode cX6_undo 36 = .ok (.aload_n 0, 1) := by decide +kernel
theorem dX6_undo_37 : decode cX6_undo 37 = .ok (.dup, 1) := by decide +kernel
theorem dX6_undo_38 : decode cX6_undo 38 = .ok (.getfield 22, 3) := by decide +kernel
theorem dX6_undo_41 : decode cX6_undo 41 = .ok (.iconst 1, 1) := by decide +kernel
theorem dX6_undo_42 : decode cX6_undo 42 = .ok (.iadd, 1) := by decide +kernel
theorem dX6_undo_43 : decode cX6_undo 43 = .ok (.putfield 22, 3) := by decide +kernel
theorem dX6_undo_46 : decode cX6_undo 46 = .ok (.iconst 1, 1) := by decide +kernel
theorem dX6_undo_47 : decode cX6_undo 47 = .ok (.ireturn, 1) := by decide +kernel
theorem dX6_redo_0 : decode cX6_redo 0 = .ok (.aload_n 0, 1) := by decide +kernel
theorem dX6_redo_1 : decode cX6_redo 1 = .ok (.getfield 22, 3) := by decide +kernel
theorem dX6_redo_4 : decode cX6_redo 4 = .ok (.ifCond .ne 5, 3) := by decide +kernel
theorem dX6_redo_7 : decode cX6_redo 7 = .ok (.iconst 0, 1) := by decide +kernel
theorem dX6_redo_8 : decode cX6_redo 8 = .ok (.ireturn, 1) := by decide +kernel
theorem dX6_redo_9 : decode cX6_redo 9 = .ok (.aload_n 0, 1) := by decide +kernel
theorem dX6_redo_10 : decode cX6_redo 10 = .ok (.aload_n 0, 1) := by decide +kernel
theorem dX6_redo_11 : decode cX6_redo 11 = .ok (.getfield 15, 3) := by decide +kernel
theorem dX6_redo_14 : decode cX6_redo 14 = .ok (.iconst 1, 1) := by decide +kernel
theorem dX6_redo_15 : decode cX6_redo 15 = .ok (.iadd, 1) := by decide +kernel
theorem dX6_redo_16 : decode cX6_redo 16 = .ok (.aload_n 0, 1) := by decide +kernel
theorem dX6_redo_17 : decode cX6_redo 17 = .ok (.getfield 11, 3) := by decide +kernel
theorem dX6_redo_20 : decode cX6_redo 20 = .ok (.arraylength, 1) := by decide +kernel
theorem dX6_redo_21 : decode cX6_redo 21 = .ok (.irem, 1) := by decide +kernel
theorem dX6_redo_22 : decode cX6_redo 22 = .ok (.putfield 15, 3) := by decide +kernel
theorem dX6_redo_25 : decode cX6_redo 25 = .ok (.aload_n 0, 1) := by decide +kernel
theorem dX6_redo_26 : decode cX6_redo 26 = .ok (.dup, 1) := by decide +kernel
theorem dX6_redo_27 : decode cX6_redo 27 = .ok (.getfield 19, 3) := by decide +kernel
theorem dX6_redo_30 : decode cX6_redo 30 = .ok (.iconst 1, 1) := by decide +kernel
theorem dX6_redo_31 : decode cX6_redo 31 = .ok (.iadd, 1) := by decide +kernel
theorem dX6_redo_32 : decode cX6_redo 32 = .ok (.putfield 19, 3) := by decide +kernel
theorem dX6_redo_35 : decode cX6_redo 35 = .ok (.aload_n 0, 1) := by decide +kernel
theorem dX6_redo_36 : decode cX6_redo 36 = .ok (.dup, 1) := by decide +kernel
theorem dX6_redo_37 : decode cX6_redo 37 = .ok (.getfield 22, 3) := by decide +kernel
theorem dX6_redo_40 : decode cX6_redo 40 = .ok (.iconst 1, 1) := by decide +kernel
theorem dX6_redo_41 : decode cX6_redo 41 = .ok (.isub, 1) := by decide +kernel
theorem dX6_redo_42 : decode cX6_redo 42 = .ok (.putfield 22, 3) := by decide +kernel
theorem dX6_redo_45 : decode cX6_redo 45 = .ok (.iconst 1, 1) := by decide +kernel
theorem dX6_redo_46 : decode cX6_redo 46 = .ok (.ireturn, 1) := by decide +kernel
theorem dX6_root_0 : decode cX6_root 0 = .ok (.iload_n 1, 1) := by decide +kernel
theorem dX6_root_1 : decode cX6_root 1 = .ok (.invokestatic 91, 3) := by decide +kernel
theorem dX6_root_4 : decode cX6_root 4 = .ok (.ifCond .eq 15, 3) := by decide +kernel
theorem dX6_root_7 : decode cX6_root 7 = .ok (.aload_n 0, 1) := by decide +kernel
theorem dX6_root_8 : decode cX6_root 8 = .ok (.invokevirtual 80, 3) := by decide +kernel
theorem dX6_root_11 : decode cX6_root 11 = .ok (.getfield 119, 3) := by decide +kernel
theorem dX6_root_14 : decode cX6_root 14 = .ok (.iload_n 1, 1) := by decide +kernel
theorem dX6_root_15 : decode cX6_root 15 = .ok (.iaload, 1) := by decide +kernel
theorem dX6_root_16 : decode cX6_root 16 = .ok (.goto 5, 3) := by decide +kernel
theorem dX6_root_19 : decode cX6_root 19 = .ok (.bipush (-2), 2) := by decide +kernel
theorem dX6_root_21 : decode cX6_root 21 = .ok (.ireturn, 1) := by decide +kernel
theorem dX6_weakly_0 : decode cX6_weakly 0 = .ok (.iload_n 1, 1) := by decide +kernel
theorem dX6_weakly_1 : decode cX6_weakly 1 = .ok (.invokestatic 126, 3) := by decide +kernel
theorem dX6_weakly_4 : decode cX6_weakly 4 = .ok (.ifCond .eq 15, 3) := by decide +kernel
theorem dX6_weakly_7 : decode cX6_weakly 7 = .ok (.aload_n 0, 1) := by decide +kernel
theorem dX6_weakly_8 : decode cX6_weakly 8 = .ok (.invokevirtual 80, 3) := by decide +kernel
theorem dX6_weakly_11 : decode cX6_weakly 11 = .ok (.getfield 129, 3) := by decide +kernel
theorem dX6_weakly_14 : decode cX6_weakly 14 = .ok (.iload_n 1, 1) := by decide +kernel
theorem dX6_weakly_15 : decode cX6_weakly 15 = .ok (.iaload, 1) := by decide +kernel
theorem dX6_weakly_16 : decode cX6_weakly 16 = .ok (.goto 5, 3) := by decide +kernel
theorem dX6_weakly_19 : decode cX6_weakly 19 = .ok (.bipush (-2), 2) := by decide +kernel
theorem dX6_weakly_21 : decode cX6_weakly 21 = .ok (.ireturn, 1) := by decide +kernel
theorem dX6_told_0 : decode cX6_told 0 = .ok (.iload_n 1, 1) := by decide +kernel
theorem dX6_told_1 : decode cX6_told 1 = .ok (.ifCond .lt 23, 3) := by decide +kernel
theorem dX6_told_4 : decode cX6_told 4 = .ok (.iload_n 1, 1) := by decide +kernel
theorem dX6_told_5 : decode cX6_told 5 = .ok (.aload_n 0, 1) := by decide +kernel
theorem dX6_told_6 : decode cX6_told 6 = .ok (.invokevirtual 80, 3) := by decide +kernel
theorem dX6_told_9 : decode cX6_told 9 = .ok (.invokevirtual 192, 3) := by decide +kernel
theorem dX6_told_12 : decode cX6_told 12 = .ok (.if_icmp .ge 12, 3) := by decide +kernel
theorem dX6_told_15 : decode cX6_told 15 = .ok (.iload_n 2, 1) := by decide +kernel
theorem dX6_told_16 : decode cX6_told 16 = .ok (.ifCond .lt 8, 3) := by decide +kernel
theorem dX6_told_19 : decode cX6_told 19 = .ok (.iload_n 2, 1) := by decide +kernel
theorem dX6_told_20 : decode cX6_told 20 = .ok (.iconst 3, 1) := by decide +kernel
theorem dX6_told_21 : decode cX6_told 21 = .ok (.if_icmp .lt 5, 3) := by decide +kernel
theorem dX6_told_24 : decode cX6_told 24 = .ok (.iconst (-1), 1) := by decide +kernel
theorem dX6_told_25 : decode cX6_told 25 = .ok (.ireturn, 1) := by decide +kernel
theorem dX6_told_26 : decode cX6_told 26 = .ok (.aload_n 0, 1) := by decide +kernel
theorem dX6_told_27 : decode cX6_told 27 = .ok (.invokevirtual 80, 3) := by decide +kernel
theorem dX6_told_30 : decode cX6_told 30 = .ok (.iload_n 1, 1) := by decide +kernel
theorem dX6_told_31 : decode cX6_told 31 = .ok (.iload_n 2, 1) := by decide +kernel
theorem dX6_told_32 : decode cX6_told 32 = .ok (.invokevirtual 195, 3) := by decide +kernel
theorem dX6_told_35 : decode cX6_told 35 = .ok (.ireturn, 1) := by decide +kernel
theorem dX6_image_0 : decode cX6_image 0 = .ok (.iload_n 1, 1) := by decide +kernel
theorem dX6_image_1 : decode cX6_image 1 = .ok (.ifCond .lt 8, 3) := by decide +kernel
theorem dX6_image_4 : decode cX6_image 4 = .ok (.iload_n 1, 1) := by decide +kernel
theorem dX6_image_5 : decode cX6_image 5 = .ok (.iconst 2, 1) := by decide +kernel
theorem dX6_image_6 : decode cX6_image 6 = .ok (.if_icmp .lt 5, 3) := by decide +kernel
theorem dX6_image_9 : decode cX6_image 9 = .ok (.iconst (-1), 1) := by decide +kernel
theorem dX6_image_10 : decode cX6_image 10 = .ok (.ireturn, 1) := by decide +kernel
theorem dX6_image_11 : decode cX6_image 11 = .ok (.aload_n 0, 1) := by decide +kernel
theorem dX6_image_12 : decode cX6_image 12 = .ok (.getfield 25, 3) := by decide +kernel
theorem dX6_image_15 : decode cX6_image 15 = .ok (.iload_n 1, 1) := by decide +kernel
theorem dX6_image_16 : decode cX6_image 16 = .ok (.aaload, 1) := by decide +kernel
theorem dX6_image_17 : decode cX6_image 17 = .ok (.aload_n 0, 1) := by decide +kernel
theorem dX6_image_18 : decode cX6_image 18 = .ok (.invokevirtual 80, 3) := by decide +kernel
theorem dX6_image_21 : decode cX6_image 21 = .ok (.invokevirtual 198, 3) := by decide +kernel
theorem dX6_image_24 : decode cX6_image 24 = .ok (.aload_n 0, 1) := by decide +kernel
theorem dX6_image_25 : decode cX6_image 25 = .ok (.getfield 28, 3) := by decide +kernel
theorem dX6_image_28 : decode cX6_image 28 = .ok (.iload_n 1, 1) := by decide +kernel
theorem dX6_image_29 : decode cX6_image 29 = .ok (.iconst 1, 1) := by decide +kernel
theorem dX6_image_30 : decode cX6_image 30 = .ok (.bastore, 1) := by decide +kernel
theorem dX6_image_31 : decode cX6_image 31 = .ok (.aload_n 0, 1) := by decide +kernel
theorem dX6_image_32 : decode cX6_image 32 = .ok (.invokevirtual 80, 3) := by decide +kernel
theorem dX6_image_35 : decode cX6_image 35 = .ok (.invokevirtual 181, 3) := by decide +kernel
theorem dX6_image_38 : decode cX6_image 38 = .ok (.ireturn, 1) := by decide +kernel
theorem dX6_back_0 : decode cX6_back 0 = .ok (.iload_n 1, 1) := by decide +kernel
theorem dX6_back_1 : decode cX6_back 1 = .ok (.ifCond .lt 17, 3) := by decide +kernel
theorem dX6_back_4 : decode cX6_back 4 = .ok (.iload_n 1, 1) := by decide +kernel
theorem dX6_back_5 : decode cX6_back 5 = .ok (.iconst 2, 1) := by decide +kernel
theorem dX6_back_6 : decode cX6_back 6 = .ok (.if_icmp .ge 12, 3) := by decide +kernel
theorem dX6_back_9 : decode cX6_back 9 = .ok (.aload_n 0, 1) := by decide +kernel
theorem dX6_back_10 : decode cX6_back 10 = .ok (.getfield 28, 3) := by decide +kernel
theorem dX6_back_13 : decode cX6_back 13 = .ok (.iload_n 1, 1) := by decide +kernel
theorem dX6_back_14 : decode cX6_back 14 = .ok (.baload, 1) := by decide +kernel
theorem dX6_back_15 : decode cX6_back 15 = .ok (.ifCond .ne 5, 3) := by decide +kernel
theorem dX6_back_18 : decode cX6_back 18 = .ok (.iconst (-1), 1) := by decide +kernel
theorem dX6_back_19 : decode cX6_back 19 = .ok (.ireturn, 1) := by decide +kernel
theorem dX6_back_20 : decode cX6_back 20 = .ok (.aload_n 0, 1) := by decide +kernel
theorem dX6_back_21 : decode cX6_back 21 = .ok (.invokevirtual 80, 3) := by decide +kernel
theorem dX6_back_24 : decode cX6_back 24 = .ok (.aload_n 0, 1) := by decide +kernel
theorem dX6_back_25 : decode cX6_back 25 = .ok (.getfield 25, 3) := by decide +kernel
theorem dX6_back_28 : decode cX6_back 28 = .ok (.iload_n 1, 1) := by decide +kernel
theorem dX6_back_29 : decode cX6_back 29 = .ok (.aaload, 1) := by decide +kernel
theorem dX6_back_30 : decode cX6_back 30 = .ok (.invokevirtual 198, 3) := by decide +kernel
theorem dX6_back_33 : decode cX6_back 33 = .ok (.aload_n 0, 1) := by decide +kernel
theorem dX6_back_34 : decode cX6_back 34 = .ok (.invokevirtual 88, 3) := by decide +kernel
theorem dX6_back_37 : decode cX6_back 37 = .ok (.aload_n 0, 1) := by decide +kernel
theorem dX6_back_38 : decode cX6_back 38 = .ok (.invokevirtual 80, 3) := by decide +kernel
theorem dX6_back_41 : decode cX6_back 41 = .ok (.invokevirtual 181, 3) := by decide +kernel
theorem dX6_back_44 : decode cX6_back 44 = .ok (.ireturn, 1) := by decide +kernel
theorem dX6_field_0 : decode cX6_field 0 = .ok (.aload_n 0, 1) := by decide +kernel
theorem dX6_field_1 : decode cX6_field 1 = .ok (.invokevirtual 80, 3) := by decide +kernel
theorem dX6_field_4 : decode cX6_field 4 = .ok (.iload_n 1, 1) := by decide +kernel
theorem dX6_field_5 : decode cX6_field 5 = .ok (.iload_n 2, 1) := by decide +kernel
theorem dX6_field_6 : decode cX6_field 6 = .ok (.invokevirtual 202, 3) := by decide +kernel
theorem dX6_field_9 : decode cX6_field 9 = .ok (.istore_n 3, 1) := by decide +kernel
theorem dX6_field_10 : decode cX6_field 10 = .ok (.iload_n 3, 1) := by decide +kernel
theorem dX6_field_11 : decode cX6_field 11 = .ok (.iconst (-1), 1) := by decide +kernel
theorem dX6_field_12 : decode cX6_field 12 = .ok (.if_icmp .ne 8, 3) := by decide +kernel
theorem dX6_field_15 : decode cX6_field 15 = .ok (.bipush (-2), 2) := by decide +kernel
theorem dX6_field_17 : decode cX6_field 17 = .ok (.goto 12, 3) := by decide +kernel
theorem dX6_field_20 : decode cX6_field 20 = .ok (.aload_n 0, 1) := by decide +kernel
theorem dX6_field_21 : decode cX6_field 21 = .ok (.invokevirtual 80, 3) := by decide +kernel
theorem dX6_field_24 : decode cX6_field 24 = .ok (.getfield 205, 3) := by decide +kernel
theorem dX6_field_27 : decode cX6_field 27 = .ok (.iload_n 3, 1) := by decide +kernel
theorem dX6_field_28 : decode cX6_field 28 = .ok (.iaload, 1) := by decide +kernel
theorem dX6_field_29 : decode cX6_field 29 = .ok (.ireturn, 1) := by decide +kernel
theorem dX6_slot_0 : decode cX6_slot 0 = .ok (.aload_n 0, 1) := by decide +kernel
theorem dX6_slot_1 : decode cX6_slot 1 = .ok (.invokevirtual 80, 3) := by decide +kernel
theorem dX6_slot_4 : decode cX6_slot 4 = .ok (.astore_n 3, 1) := by decide +kernel
theorem dX6_slot_5 : decode cX6_slot 5 = .ok (.aload_n 3, 1) := by decide +kernel
theorem dX6_slot_6 : decode cX6_slot 6 = .ok (.getfield 208, 3) := by decide +kernel
theorem dX6_slot_9 : decode cX6_slot 9 = .ok (.iload_n 1, 1) := by decide +kernel
theorem dX6_slot_10 : decode cX6_slot 10 = .ok (.invokevirtual 212, 3) := by decide +kernel
theorem dX6_slot_13 : decode cX6_slot 13 = .ok (.istore 4, 2) := by decide +kernel
theorem dX6_slot_15 : decode cX6_slot 15 = .ok (.iload 4, 2) := by decide +kernel
theorem dX6_slot_17 : decode cX6_slot 17 = .ok (.iconst (-1), 1) := by decide +kernel
theorem dX6_slot_18 : decode cX6_slot 18 = .ok (.if_icmp .ne 5, 3) := by decide +kernel
theorem dX6_slot_21 : decode cX6_slot 21 = .ok (.iconst (-1), 1) := by decide +kernel
theorem dX6_slot_22 : decode cX6_slot 22 = .ok (.ireturn, 1) := by decide +kernel
theorem dX6_slot_23 : decode cX6_slot 23 = .ok (.iload_n 2, 1) := by decide +kernel
theorem dX6_slot_24 : decode cX6_slot 24 = .ok (.tableswitch 119 0 5 #[40, 43, 49, 65, 71, 88], 40) := by decide +kernel
theorem dX6_slot_64 : decode cX6_slot 64 = .ok (.iload 4, 2) := by decide +kernel
theorem dX6_slot_66 : decode cX6_slot 66 = .ok (.ireturn, 1) := by decide +kernel
theorem dX6_slot_67 : decode cX6_slot 67 = .ok (.aload_n 3, 1) := by decide +kernel
theorem dX6_slot_68 : decode cX6_slot 68 = .ok (.iload_n 1, 1) := by decide +kernel
theorem dX6_slot_69 : decode cX6_slot 69 = .ok (.invokevirtual 217, 3) := by decide +kernel
theorem dX6_slot_72 : decode cX6_slot 72 = .ok (.ireturn, 1) := by decide +kernel
theorem dX6_slot_73 : decode cX6_slot 73 = .ok (.iload 4, 2) := by decide +kernel
theorem dX6_slot_75 : decode cX6_slot 75 = .ok (.ifCond .ne 7, 3) := by decide +kernel
theorem dX6_slot_78 : decode cX6_slot 78 = .ok (.iconst 0, 1) := by decide +kernel
theorem dX6_slot_79 : decode cX6_slot 79 = .ok (.goto 9, 3) := by decide +kernel
theorem dX6_slot_82 : decode cX6_slot 82 = .ok (.aload_n 3, 1) := by decide +kernel
theorem dX6_slot_83 : decode cX6_slot 83 = .ok (.getfield 205, 3) := by decide +kernel
theorem dX6_slot_86 : decode cX6_slot 86 = .ok (.iload_n 1, 1) := by decide +kernel
theorem dX6_slot_87 : decode cX6_slot 87 = .ok (.iaload, 1) := by decide +kernel
theorem dX6_slot_88 : decode cX6_slot 88 = .ok (.ireturn, 1) := by decide +kernel
theorem dX6_slot_89 : decode cX6_slot 89 = .ok (.aload_n 3, 1) := by decide +kernel
theorem dX6_slot_90 : decode cX6_slot 90 = .ok (.iload_n 1, 1) := by decide +kernel
theorem dX6_slot_91 : decode cX6_slot 91 = .ok (.invokevirtual 220, 3) := by decide +kernel
theorem dX6_slot_94 : decode cX6_slot 94 = .ok (.ireturn, 1) := by decide +kernel
theorem dX6_slot_95 : decode cX6_slot 95 = .ok (.iload_n 1, 1) := by decide +kernel
theorem dX6_slot_96 : decode cX6_slot 96 = .ok (.aload_n 3, 1) := by decide +kernel
theorem dX6_slot_97 : decode cX6_slot 97 = .ok (.getfield 223, 3) := by decide +kernel
theorem dX6_slot_100 : decode cX6_slot 100 = .ok (.if_icmp .ne 10, 3) := by decide +kernel
theorem dX6_slot_103 : decode cX6_slot 103 = .ok (.aload_n 3, 1) := by decide +kernel
theorem dX6_slot_104 : decode cX6_slot 104 = .ok (.getfield 226, 3) := by decide +kernel
theorem dX6_slot_107 : decode cX6_slot 107 = .ok (.goto 4, 3) := by decide +kernel
theorem dX6_slot_110 : decode cX6_slot 110 = .ok (.iconst 0, 1) := by decide +kernel
theorem dX6_slot_111 : decode cX6_slot 111 = .ok (.ireturn, 1) := by decide +kernel
theorem dX6_slot_112 : decode cX6_slot 112 = .ok (.aload_n 0, 1) := by decide +kernel
theorem dX6_slot_113 : decode cX6_slot 113 = .ok (.getfield 44, 3) := by decide +kernel
theorem dX6_slot_116 : decode cX6_slot 116 = .ok (.aload_n 3, 1) := by decide +kernel
theorem dX6_slot_117 : decode cX6_slot 117 = .ok (.iconst 0, 1) := by decide +kernel
theorem dX6_slot_118 : decode cX6_slot 118 = .ok (.bipush 6, 2) := by decide +kernel
theorem dX6_slot_120 : decode cX6_slot 120 = .ok (.iconst (-1), 1) := by decide +kernel
theorem dX6_slot_121 : decode cX6_slot 121 = .ok (.invokevirtual 185, 3) := by decide +kernel
theorem dX6_slot_124 : decode cX6_slot 124 = .ok (.aload_n 0, 1) := by decide +kernel
theorem dX6_slot_125 : decode cX6_slot 125 = .ok (.getfield 44, 3) := by decide +kernel
theorem dX6_slot_128 : decode cX6_slot 128 = .ok (.getfield 229, 3) := by decide +kernel
theorem dX6_slot_131 : decode cX6_slot 131 = .ok (.iload_n 1, 1) := by decide +kernel
theorem dX6_slot_132 : decode cX6_slot 132 = .ok (.iaload, 1) := by decide +kernel
theorem dX6_slot_133 : decode cX6_slot 133 = .ok (.iconst (-1), 1) := by decide +kernel
theorem dX6_slot_134 : decode cX6_slot 134 = .ok (.if_icmp .ne 7, 3) := by decide +kernel
theorem dX6_slot_137 : decode cX6_slot 137 = .ok (.iconst 0, 1) := by decide +kernel
theorem dX6_slot_138 : decode cX6_slot 138 = .ok (.goto 4, 3) := by decide +kernel
theorem dX6_slot_141 : decode cX6_slot 141 = .ok (.iconst 1, 1) := by decide +kernel
theorem dX6_slot_142 : decode cX6_slot 142 = .ok (.ireturn, 1) := by decide +kernel
theorem dX6_slot_143 : decode cX6_slot 143 = .ok (.iconst (-1), 1) := by decide +kernel
theorem dX6_slot_144 : decode cX6_slot 144 = .ok (.ireturn, 1) := by decide +kernel
theorem dX6_ring_0 : decode cX6_ring 0 = .ok (.iload_n 1, 1) := by decide +kernel
theorem dX6_ring_1 : decode cX6_ring 1 = .ok (.invokestatic 232, 3) := by decide +kernel
theorem dX6_ring_4 : decode cX6_ring 4 = .ok (.ifCond .eq 7, 3) := by decide +kernel
theorem dX6_ring_7 : decode cX6_ring 7 = .ok (.iload_n 2, 1) := by decide +kernel
theorem dX6_ring_8 : decode cX6_ring 8 = .ok (.ifCond .ge 5, 3) := by decide +kernel
theorem dX6_ring_11 : decode cX6_ring 11 = .ok (.iconst (-1), 1) := by decide +kernel
theorem dX6_ring_12 : decode cX6_ring 12 = .ok (.ireturn, 1) := by decide +kernel
theorem dX6_ring_13 : decode cX6_ring 13 = .ok (.aload_n 0, 1) := by decide +kernel
theorem dX6_ring_14 : decode cX6_ring 14 = .ok (.invokevirtual 80, 3) := by decide +kernel
theorem dX6_ring_17 : decode cX6_ring 17 = .ok (.getfield 208, 3) := by decide +kernel
theorem dX6_ring_20 : decode cX6_ring 20 = .ok (.iload_n 1, 1) := by decide +kernel
theorem dX6_ring_21 : decode cX6_ring 21 = .ok (.iload_n 2, 1) := by decide +kernel
theorem dX6_ring_22 : decode cX6_ring 22 = .ok (.invokevirtual 235, 3) := by decide +kernel
theorem dX6_ring_25 : decode cX6_ring 25 = .ok (.ireturn, 1) := by decide +kernel
theorem dX6_many_0 : decode cX6_many 0 = .ok (.iload_n 1, 1) := by decide +kernel
theorem dX6_many_1 : decode cX6_many 1 = .ok (.invokestatic 232, 3) := by decide +kernel
theorem dX6_many_4 : decode cX6_many 4 = .ok (.ifCond .eq 12, 3) := by decide +kernel
theorem dX6_many_7 : decode cX6_many 7 = .ok (.iload_n 2, 1) := by decide +kernel
theorem dX6_many_8 : decode cX6_many 8 = .ok (.ifCond .lt 8, 3) := by decide +kernel
theorem dX6_many_11 : decode cX6_many 11 = .ok (.iload_n 2, 1) := by decide +kernel
theorem dX6_many_12 : decode cX6_many 12 = .ok (.iconst 3, 1) := by decide +kernel
theorem dX6_many_13 : decode cX6_many 13 = .ok (.if_icmp .le 5, 3) := by decide +kernel
theorem dX6_many_16 : decode cX6_many 16 = .ok (.iconst (-1), 1) := by decide +kernel
theorem dX6_many_17 : decode cX6_many 17 = .ok (.ireturn, 1) := by decide +kernel
theorem dX6_many_18 : decode cX6_many 18 = .ok (.aload_n 0, 1) := by decide +kernel
theorem dX6_many_19 : decode cX6_many 19 = .ok (.invokevirtual 80, 3) := by decide +kernel
theorem dX6_many_22 : decode cX6_many 22 = .ok (.getfield 208, 3) := by decide +kernel
theorem dX6_many_25 : decode cX6_many 25 = .ok (.iload_n 1, 1) := by decide +kernel
theorem dX6_many_26 : decode cX6_many 26 = .ok (.iload_n 2, 1) := by decide +kernel
theorem dX6_many_27 : decode cX6_many 27 = .ok (.invokestatic 238, 3) := by decide +kernel
theorem dX6_many_30 : decode cX6_many 30 = .ok (.invokevirtual 241, 3) := by decide +kernel
theorem dX6_many_33 : decode cX6_many 33 = .ok (.ireturn, 1) := by decide +kernel
theorem dX6_page_0 : decode cX6_page 0 = .ok (.aload_n 0, 1) := by decide +kernel
theorem dX6_page_1 : decode cX6_page 1 = .ok (.invokevirtual 80, 3) := by decide +kernel
theorem dX6_page_4 : decode cX6_page 4 = .ok (.astore_n 3, 1) := by decide +kernel
theorem dX6_page_5 : decode cX6_page 5 = .ok (.iload_n 1, 1) := by decide +kernel
theorem dX6_page_6 : decode cX6_page 6 = .ok (.ifCond .lt 11, 3) := by decide +kernel
theorem dX6_page_9 : decode cX6_page 9 = .ok (.iload_n 1, 1) := by decide +kernel
theorem dX6_page_10 : decode cX6_page 10 = .ok (.aload_n 3, 1) := by decide +kernel
theorem dX6_page_11 : decode cX6_page 11 = .ok (.getfield 244, 3) := by decide +kernel
theorem dX6_page_14 : decode cX6_page 14 = .ok (.if_icmp .lt 5, 3) := by decide +kernel
theorem dX6_page_17 : decode cX6_page 17 = .ok (.iconst (-1), 1) := by decide +kernel
theorem dX6_page_18 : decode cX6_page 18 = .ok (.ireturn, 1) := by decide +kernel
theorem dX6_page_19 : decode cX6_page 19 = .ok (.aload_n 3, 1) := by decide +kernel
theorem dX6_page_20 : decode cX6_page 20 = .ok (.getfield 247, 3) := by decide +kernel
theorem dX6_page_23 : decode cX6_page 23 = .ok (.iload_n 1, 1) := by decide +kernel
theorem dX6_page_24 : decode cX6_page 24 = .ok (.iaload, 1) := by decide +kernel
theorem dX6_page_25 : decode cX6_page 25 = .ok (.istore 4, 2) := by decide +kernel
theorem dX6_page_27 : decode cX6_page 27 = .ok (.iload_n 2, 1) := by decide +kernel
theorem dX6_page_28 : decode cX6_page 28 = .ok (.tableswitch 60 0 2 #[28, 31, 53], 28) := by decide +kernel
theorem dX6_page_56 : decode cX6_page 56 = .ok (.iload 4, 2) := by decide +kernel
theorem dX6_page_58 : decode cX6_page 58 = .ok (.ireturn, 1) := by decide +kernel
theorem dX6_page_59 : decode cX6_page 59 = .ok (.iload 4, 2) := by decide +kernel
theorem dX6_page_61 : decode cX6_page 61 = .ok (.ifCond .ne 7, 3) := by decide +kernel
theorem dX6_page_64 : decode cX6_page 64 = .ok (.iconst 0, 1) := by decide +kernel
theorem dX6_page_65 : decode cX6_page 65 = .ok (.goto 15, 3) := by decide +kernel
theorem dX6_page_68 : decode cX6_page 68 = .ok (.bipush 16, 2) := by decide +kernel
theorem dX6_page_70 : decode cX6_page 70 = .ok (.iload 4, 2) := by decide +kernel
theorem dX6_page_72 : decode cX6_page 72 = .ok (.idiv, 1) := by decide +kernel
theorem dX6_page_73 : decode cX6_page 73 = .ok (.aload_n 3, 1) := by decide +kernel
theorem dX6_page_74 : decode cX6_page 74 = .ok (.getfield 250, 3) := by decide +kernel
theorem dX6_page_77 : decode cX6_page 77 = .ok (.iload_n 1, 1) := by decide +kernel
theorem dX6_page_78 : decode cX6_page 78 = .ok (.iaload, 1) := by decide +kernel
theorem dX6_page_79 : decode cX6_page 79 = .ok (.isub, 1) := by decide +kernel
theorem dX6_page_80 : decode cX6_page 80 = .ok (.ireturn, 1) := by decide +kernel
theorem dX6_page_81 : decode cX6_page 81 = .ok (.aload_n 3, 1) := by decide +kernel
theorem dX6_page_82 : decode cX6_page 82 = .ok (.getfield 250, 3) := by decide +kernel
theorem dX6_page_85 : decode cX6_page 85 = .ok (.iload_n 1, 1) := by decide +kernel
theorem dX6_page_86 : decode cX6_page 86 = .ok (.iaload, 1) := by decide +kernel
theorem dX6_page_87 : decode cX6_page 87 = .ok (.ireturn, 1) := by decide +kernel
theorem dX6_page_88 : decode cX6_page 88 = .ok (.iconst (-1), 1) := by decide +kernel
theorem dX6_page_89 : decode cX6_page 89 = .ok (.ireturn, 1) := by decide +kernel
theorem dX6_grey_0 : decode cX6_grey 0 = .ok (.iload_n 1, 1) := by decide +kernel
theorem dX6_grey_1 : decode cX6_grey 1 = .ok (.ifCond .ge 7, 3) := by decide +kernel
theorem dX6_grey_4 : decode cX6_grey 4 = .ok (.iconst (-1), 1) := by decide +kernel
theorem dX6_grey_5 : decode cX6_grey 5 = .ok (.goto 11, 3) := by decide +kernel
theorem dX6_grey_8 : decode cX6_grey 8 = .ok (.aload_n 0, 1) := by decide +kernel
theorem dX6_grey_9 : decode cX6_grey 9 = .ok (.invokevirtual 80, 3) := by decide +kernel
theorem dX6_grey_12 : decode cX6_grey 12 = .ok (.iload_n 1, 1) := by decide +kernel
theorem dX6_grey_13 : decode cX6_grey 13 = .ok (.invokevirtual 253, 3) := by decide +kernel
theorem dX6_grey_16 : decode cX6_grey 16 = .ok (.ireturn, 1) := by decide +kernel
theorem dX6_live_0 : decode cX6_live 0 = .ok (.iload_n 1, 1) := by decide +kernel
theorem dX6_live_1 : decode cX6_live 1 = .ok (.ifCond .lt 8, 3) := by decide +kernel
theorem dX6_live_4 : decode cX6_live 4 = .ok (.iload_n 1, 1) := by decide +kernel
theorem dX6_live_5 : decode cX6_live 5 = .ok (.iconst 3, 1) := by decide +kernel
theorem dX6_live_6 : decode cX6_live 6 = .ok (.if_icmp .le 5, 3) := by decide +kernel
theorem dX6_live_9 : decode cX6_live 9 = .ok (.iconst (-1), 1) := by decide +kernel
theorem dX6_live_10 : decode cX6_live 10 = .ok (.ireturn, 1) := by decide +kernel
theorem dX6_live_11 : decode cX6_live 11 = .ok (.aload_n 0, 1) := by decide +kernel
theorem dX6_live_12 : decode cX6_live 12 = .ok (.invokevirtual 80, 3) := by decide +kernel
theorem dX6_live_15 : decode cX6_live 15 = .ok (.astore_n 2, 1) := by decide +kernel
theorem dX6_live_16 : decode cX6_live 16 = .ok (.aload_n 0, 1) := by decide +kernel
theorem dX6_live_17 : decode cX6_live 17 = .ok (.getfield 44, 3) := by decide +kernel
theorem dX6_live_20 : decode cX6_live 20 = .ok (.aload_n 2, 1) := by decide +kernel
theorem dX6_live_21 : decode cX6_live 21 = .ok (.iconst 0, 1) := by decide +kernel
theorem dX6_live_22 : decode cX6_live 22 = .ok (.bipush 6, 2) := by decide +kernel
theorem dX6_live_24 : decode cX6_live 24 = .ok (.iconst (-1), 1) := by decide +kernel
theorem dX6_live_25 : decode cX6_live 25 = .ok (.invokevirtual 185, 3) := by decide +kernel
theorem dX6_live_28 : decode cX6_live 28 = .ok (.iload_n 1, 1) := by decide +kernel
theorem dX6_live_29 : decode cX6_live 29 = .ok (.tableswitch 57 0 2 #[27, 35, 44], 27) := by decide +kernel
theorem dX6_live_56 : decode cX6_live 56 = .ok (.aload_n 0, 1) := by decide +kernel
theorem dX6_live_57 : decode cX6_live 57 = .ok (.getfield 44, 3) := by decide +kernel
theorem dX6_live_60 : decode cX6_live 60 = .ok (.getfield 189, 3) := by decide +kernel
theorem dX6_live_63 : decode cX6_live 63 = .ok (.ireturn, 1) := by decide +kernel
theorem dX6_live_64 : decode cX6_live 64 = .ok (.aload_n 0, 1) := by decide +kernel
theorem dX6_live_65 : decode cX6_live 65 = .ok (.getfield 44, 3) := by decide +kernel
theorem dX6_live_68 : decode cX6_live 68 = .ok (.aload_n 2, 1) := by decide +kernel
theorem dX6_live_69 : decode cX6_live 69 = .ok (.invokevirtual 256, 3) := by decide +kernel
theorem dX6_live_72 : decode cX6_live 72 = .ok (.ireturn, 1) := by decide +kernel
theorem dX6_live_73 : decode cX6_live 73 = .ok (.aload_n 2, 1) := by decide +kernel
theorem dX6_live_74 : decode cX6_live 74 = .ok (.invokevirtual 181, 3) := by decide +kernel
theorem dX6_live_77 : decode cX6_live 77 = .ok (.aload_n 0, 1) := by decide +kernel
theorem dX6_live_78 : decode cX6_live 78 = .ok (.getfield 44, 3) := by decide +kernel
theorem dX6_live_81 : decode cX6_live 81 = .ok (.getfield 189, 3) := by decide +kernel
theorem dX6_live_84 : decode cX6_live 84 = .ok (.isub, 1) := by decide +kernel
theorem dX6_live_85 : decode cX6_live 85 = .ok (.ireturn, 1) := by decide +kernel
theorem dX6_live_86 : decode cX6_live 86 = .ok (.aload_n 2, 1) := by decide +kernel
theorem dX6_live_87 : decode cX6_live 87 = .ok (.getfield 135, 3) := by decide +kernel
theorem dX6_live_90 : decode cX6_live 90 = .ok (.ifCond .eq 14, 3) := by decide +kernel
theorem dX6_live_93 : decode cX6_live 93 = .ok (.aload_n 0, 1) := by decide +kernel
theorem dX6_live_94 : decode cX6_live 94 = .ok (.getfield 44, 3) := by decide +kernel
theorem dX6_live_97 : decode cX6_live 97 = .ok (.aload_n 2, 1) := by decide +kernel
theorem dX6_live_98 : decode cX6_live 98 = .ok (.invokevirtual 260, 3) := by decide +kernel
theorem dX6_live_101 : decode cX6_live 101 = .ok (.goto 4, 3) := by decide +kernel
theorem dX6_live_104 : decode cX6_live 104 = .ok (.iconst 0, 1) := by decide +kernel
theorem dX6_live_105 : decode cX6_live 105 = .ok (.ireturn, 1) := by decide +kernel
theorem dX6_path_0 : decode cX6_path 0 = .ok (.iload_n 1, 1) := by decide +kernel
theorem dX6_path_1 : decode cX6_path 1 = .ok (.invokestatic 91, 3) := by decide +kernel
theorem dX6_path_4 : decode cX6_path 4 = .ok (.ifCond .eq 14, 3) := by decide +kernel
theorem dX6_path_7 : decode cX6_path 7 = .ok (.aload_n 0, 1) := by decide +kernel
theorem dX6_path_8 : decode cX6_path 8 = .ok (.invokevirtual 80, 3) := by decide +kernel
theorem dX6_path_11 : decode cX6_path 11 = .ok (.iload_n 2, 1) := by decide +kernel
theorem dX6_path_12 : decode cX6_path 12 = .ok (.invokevirtual 263, 3) := by decide +kernel
theorem dX6_path_15 : decode cX6_path 15 = .ok (.ifCond .ne 5, 3) := by decide +kernel
theorem dX6_path_18 : decode cX6_path 18 = .ok (.iconst (-1), 1) := by decide +kernel
theorem dX6_path_19 : decode cX6_path 19 = .ok (.ireturn, 1) := by decide +kernel
theorem dX6_path_20 : decode cX6_path 20 = .ok (.aload_n 0, 1) := by decide +kernel
theorem dX6_path_21 : decode cX6_path 21 = .ok (.getfield 44, 3) := by decide +kernel
theorem dX6_path_24 : decode cX6_path 24 = .ok (.aload_n 0, 1) := by decide +kernel
theorem dX6_path_25 : decode cX6_path 25 = .ok (.invokevirtual 80, 3) := by decide +kernel
theorem dX6_path_28 : decode cX6_path 28 = .ok (.iload_n 1, 1) := by decide +kernel
theorem dX6_path_29 : decode cX6_path 29 = .ok (.iload_n 1, 1) := by decide +kernel
theorem dX6_path_30 : decode cX6_path 30 = .ok (.iconst 1, 1) := by decide +kernel
theorem dX6_path_31 : decode cX6_path 31 = .ok (.iadd, 1) := by decide +kernel
theorem dX6_path_32 : decode cX6_path 32 = .ok (.iconst (-1), 1) := by decide +kernel
theorem dX6_path_33 : decode cX6_path 33 = .ok (.invokevirtual 185, 3) := by decide +kernel
theorem dX6_path_36 : decode cX6_path 36 = .ok (.aload_n 0, 1) := by decide +kernel
theorem dX6_path_37 : decode cX6_path 37 = .ok (.getfield 44, 3) := by decide +kernel
theorem dX6_path_40 : decode cX6_path 40 = .ok (.getfield 229, 3) := by decide +kernel
theorem dX6_path_43 : decode cX6_path 43 = .ok (.iload_n 2, 1) := by decide +kernel
theorem dX6_path_44 : decode cX6_path 44 = .ok (.iaload, 1) := by decide +kernel
theorem dX6_path_45 : decode cX6_path 45 = .ok (.ireturn, 1) := by decide +kernel
theorem dX6_retained_0 : decode cX6_retained 0 = .ok (.aload_n 0, 1) := by decide +kernel
theorem dX6_retained_1 : decode cX6_retained 1 = .ok (.invokevirtual 80, 3) := by decide +kernel
theorem dX6_retained_4 : decode cX6_retained 4 = .ok (.iload_n 1, 1) := by decide +kernel
theorem dX6_retained_5 : decode cX6_retained 5 = .ok (.invokevirtual 263, 3) := by decide +kernel
theorem dX6_retained_8 : decode cX6_retained 8 = .ok (.ifCond .ne 5, 3) := by decide +kernel
theorem dX6_retained_11 : decode cX6_retained 11 = .ok (.iconst (-1), 1) := by decide +kernel
theorem dX6_retained_12 : decode cX6_retained 12 = .ok (.ireturn, 1) := by decide +kernel
theorem dX6_retained_13 : decode cX6_retained 13 = .ok (.aload_n 0, 1) := by decide +kernel
theorem dX6_retained_14 : decode cX6_retained 14 = .ok (.getfield 44, 3) := by decide +kernel
theorem dX6_retained_17 : decode cX6_retained 17 = .ok (.aload_n 0, 1) := by decide +kernel
theorem dX6_retained_18 : decode cX6_retained 18 = .ok (.invokevirtual 80, 3) := by decide +kernel
theorem dX6_retained_21 : decode cX6_retained 21 = .ok (.iconst 0, 1) := by decide +kernel
theorem dX6_retained_22 : decode cX6_retained 22 = .ok (.bipush 6, 2) := by decide +kernel
theorem dX6_retained_24 : decode cX6_retained 24 = .ok (.iconst (-1), 1) := by decide +kernel
theorem dX6_retained_25 : decode cX6_retained 25 = .ok (.invokevirtual 185, 3) := by decide +kernel
theorem dX6_retained_28 : decode cX6_retained 28 = .ok (.aload_n 0, 1) := by decide +kernel
theorem dX6_retained_29 : decode cX6_retained 29 = .ok (.getfield 44, 3) := by decide +kernel
theorem dX6_retained_32 : decode cX6_retained 32 = .ok (.getfield 229, 3) := by decide +kernel
theorem dX6_retained_35 : decode cX6_retained 35 = .ok (.iload_n 1, 1) := by decide +kernel
theorem dX6_retained_36 : decode cX6_retained 36 = .ok (.iaload, 1) := by decide +kernel
theorem dX6_retained_37 : decode cX6_retained 37 = .ok (.iconst (-1), 1) := by decide +kernel
theorem dX6_retained_38 : decode cX6_retained 38 = .ok (.if_icmp .ne 5, 3) := by decide +kernel
theorem dX6_retained_41 : decode cX6_retained 41 = .ok (.iconst (-1), 1) := by decide +kernel
theorem dX6_retained_42 : decode cX6_retained 42 = .ok (.ireturn, 1) := by decide +kernel
theorem dX6_retained_43 : decode cX6_retained 43 = .ok (.aload_n 0, 1) := by decide +kernel
theorem dX6_retained_44 : decode cX6_retained 44 = .ok (.getfield 44, 3) := by decide +kernel
theorem dX6_retained_47 : decode cX6_retained 47 = .ok (.getfield 189, 3) := by decide +kernel
theorem dX6_retained_50 : decode cX6_retained 50 = .ok (.istore_n 2, 1) := by decide +kernel
theorem dX6_retained_51 : decode cX6_retained 51 = .ok (.aload_n 0, 1) := by decide +kernel
theorem dX6_retained_52 : decode cX6_retained 52 = .ok (.getfield 44, 3) := by decide +kernel
theorem dX6_retained_55 : decode cX6_retained 55 = .ok (.aload_n 0, 1) := by decide +kernel
theorem dX6_retained_56 : decode cX6_retained 56 = .ok (.invokevirtual 80, 3) := by decide +kernel
theorem dX6_retained_59 : decode cX6_retained 59 = .ok (.iconst 0, 1) := by decide +kernel
theorem dX6_retained_60 : decode cX6_retained 60 = .ok (.bipush 6, 2) := by decide +kernel
theorem dX6_retained_62 : decode cX6_retained 62 = .ok (.iload_n 1, 1) := by decide +kernel
theorem dX6_retained_63 : decode cX6_retained 63 = .ok (.invokevirtual 185, 3) := by decide +kernel
theorem dX6_retained_66 : decode cX6_retained 66 = .ok (.iload_n 2, 1) := by decide +kernel
theorem dX6_retained_67 : decode cX6_retained 67 = .ok (.aload_n 0, 1) := by decide +kernel
theorem dX6_retained_68 : decode cX6_retained 68 = .ok (.getfield 44, 3) := by decide +kernel
theorem dX6_retained_71 : decode cX6_retained 71 = .ok (.getfield 189, 3) := by decide +kernel
theorem dX6_retained_74 : decode cX6_retained 74 = .ok (.isub, 1) := by decide +kernel
theorem dX6_retained_75 : decode cX6_retained 75 = .ok (.ireturn, 1) := by decide +kernel
theorem dX6_end_0 : decode cX6_end 0 = .ok (.iload_n 1, 1) := by decide +kernel
theorem dX6_end_1 : decode cX6_end 1 = .ok (.ifCond .lt 8, 3) := by decide +kernel
theorem dX6_end_4 : decode cX6_end 4 = .ok (.iload_n 1, 1) := by decide +kernel
theorem dX6_end_5 : decode cX6_end 5 = .ok (.iconst 3, 1) := by decide +kernel
theorem dX6_end_6 : decode cX6_end 6 = .ok (.if_icmp .le 5, 3) := by decide +kernel
theorem dX6_end_9 : decode cX6_end 9 = .ok (.iconst (-1), 1) := by decide +kernel
theorem dX6_end_10 : decode cX6_end 10 = .ok (.ireturn, 1) := by decide +kernel
theorem dX6_end_11 : decode cX6_end 11 = .ok (.aload_n 0, 1) := by decide +kernel
theorem dX6_end_12 : decode cX6_end 12 = .ok (.invokevirtual 266, 3) := by decide +kernel
theorem dX6_end_15 : decode cX6_end 15 = .ok (.aload_n 0, 1) := by decide +kernel
theorem dX6_end_16 : decode cX6_end 16 = .ok (.getfield 33, 3) := by decide +kernel
theorem dX6_end_19 : decode cX6_end 19 = .ok (.getfield 135, 3) := by decide +kernel
theorem dX6_end_22 : decode cX6_end 22 = .ok (.ifCond .ne 10, 3) := by decide +kernel
theorem dX6_end_25 : decode cX6_end 25 = .ok (.aload_n 0, 1) := by decide +kernel
theorem dX6_end_26 : decode cX6_end 26 = .ok (.getfield 33, 3) := by decide +kernel
theorem dX6_end_29 : decode cX6_end 29 = .ok (.invokevirtual 139, 3) := by decide +kernel
theorem dX6_end_32 : decode cX6_end 32 = .ok (.aload_n 0, 1) := by decide +kernel
theorem dX6_end_33 : decode cX6_end 33 = .ok (.getfield 33, 3) := by decide +kernel
theorem dX6_end_36 : decode cX6_end 36 = .ok (.ldc_w 269, 3) := by decide +kernel
theorem dX6_end_39 : decode cX6_end 39 = .ok (.invokevirtual 142, 3) := by decide +kernel
theorem dX6_end_42 : decode cX6_end 42 = .ok (.pop, 1) := by decide +kernel
theorem dX6_end_43 : decode cX6_end 43 = .ok (.iload_n 1, 1) := by decide +kernel
theorem dX6_end_44 : decode cX6_end 44 = .ok (.tableswitch 66 0 2 #[28, 34, 50], 28) := by decide +kernel
theorem dX6_end_72 : decode cX6_end 72 = .ok (.aload_n 0, 1) := by decide +kernel
theorem dX6_end_73 : decode cX6_end 73 = .ok (.iconst 1, 1) := by decide +kernel
theorem dX6_end_74 : decode cX6_end 74 = .ok (.invokevirtual 178, 3) := by decide +kernel
theorem dX6_end_77 : decode cX6_end 77 = .ok (.ireturn, 1) := by decide +kernel
theorem dX6_end_78 : decode cX6_end 78 = .ok (.aload_n 0, 1) := by decide +kernel
theorem dX6_end_79 : decode cX6_end 79 = .ok (.invokevirtual 80, 3) := by decide +kernel
theorem dX6_end_82 : decode cX6_end 82 = .ok (.invokevirtual 181, 3) := by decide +kernel
theorem dX6_end_85 : decode cX6_end 85 = .ok (.aload_n 0, 1) := by decide +kernel
theorem dX6_end_86 : decode cX6_end 86 = .ok (.getfield 33, 3) := by decide +kernel
theorem dX6_end_89 : decode cX6_end 89 = .ok (.invokevirtual 181, 3) := by decide +kernel
theorem dX6_end_92 : decode cX6_end 92 = .ok (.isub, 1) := by decide +kernel
theorem dX6_end_93 : decode cX6_end 93 = .ok (.ireturn, 1) := by decide +kernel
theorem dX6_end_94 : decode cX6_end 94 = .ok (.aload_n 0, 1) := by decide +kernel
theorem dX6_end_95 : decode cX6_end 95 = .ok (.invokevirtual 80, 3) := by decide +kernel
theorem dX6_end_98 : decode cX6_end 98 = .ok (.invokevirtual 270, 3) := by decide +kernel
theorem dX6_end_101 : decode cX6_end 101 = .ok (.aload_n 0, 1) := by decide +kernel
theorem dX6_end_102 : decode cX6_end 102 = .ok (.getfield 33, 3) := by decide +kernel
theorem dX6_end_105 : decode cX6_end 105 = .ok (.invokevirtual 270, 3) := by decide +kernel
theorem dX6_end_108 : decode cX6_end 108 = .ok (.isub, 1) := by decide +kernel
theorem dX6_end_109 : decode cX6_end 109 = .ok (.ireturn, 1) := by decide +kernel
theorem dX6_end_110 : decode cX6_end 110 = .ok (.aload_n 0, 1) := by decide +kernel
theorem dX6_end_111 : decode cX6_end 111 = .ok (.iconst 3, 1) := by decide +kernel
theorem dX6_end_112 : decode cX6_end 112 = .ok (.invokevirtual 178, 3) := by decide +kernel
theorem dX6_end_115 : decode cX6_end 115 = .ok (.ireturn, 1) := by decide +kernel
theorem dX6_room_0 : decode cX6_room 0 = .ok (.iload_n 1, 1) := by decide +kernel
theorem dX6_room_1 : decode cX6_room 1 = .ok (.invokestatic 95, 3) := by decide +kernel
theorem dX6_room_4 : decode cX6_room 4 = .ok (.ifCond .eq 12, 3) := by decide +kernel
theorem dX6_room_7 : decode cX6_room 7 = .ok (.iload_n 2, 1) := by decide +kernel
theorem dX6_room_8 : decode cX6_room 8 = .ok (.ifCond .lt 8, 3) := by decide +kernel
theorem dX6_room_11 : decode cX6_room 11 = .ok (.iload_n 2, 1) := by decide +kernel
theorem dX6_room_12 : decode cX6_room 12 = .ok (.iconst 1, 1) := by decide +kernel
theorem dX6_room_13 : decode cX6_room 13 = .ok (.if_icmp .le 5, 3) := by decide +kernel
theorem dX6_room_16 : decode cX6_room 16 = .ok (.iconst (-1), 1) := by decide +kernel
theorem dX6_room_17 : decode cX6_room 17 = .ok (.ireturn, 1) := by decide +kernel
theorem dX6_room_18 : decode cX6_room 18 = .ok (.aload_n 0, 1) := by decide +kernel
theorem dX6_room_19 : decode cX6_room 19 = .ok (.invokevirtual 266, 3) := by decide +kernel
theorem dX6_room_22 : decode cX6_room 22 = .ok (.aload_n 0, 1) := by decide +kernel
theorem dX6_room_23 : decode cX6_room 23 = .ok (.iload_n 1, 1) := by decide +kernel
theorem dX6_room_24 : decode cX6_room 24 = .ok (.bipush 64, 2) := by decide +kernel
theorem dX6_room_26 : decode cX6_room 26 = .ok (.iload_n 2, 1) := by decide +kernel
theorem dX6_room_27 : decode cX6_room 27 = .ok (.iconst 1, 1) := by decide +kernel
theorem dX6_room_28 : decode cX6_room 28 = .ok (.if_icmp .ne 7, 3) := by decide +kernel
theorem dX6_room_31 : decode cX6_room 31 = .ok (.iconst 1, 1) := by decide +kernel
theorem dX6_room_32 : decode cX6_room 32 = .ok (.goto 4, 3) := by decide +kernel
theorem dX6_room_35 : decode cX6_room 35 = .ok (.iconst 0, 1) := by decide +kernel
theorem dX6_room_36 : decode cX6_room 36 = .ok (.invokevirtual 273, 3) := by decide +kernel
theorem dX6_room_39 : decode cX6_room 39 = .ok (.ireturn, 1) := by decide +kernel
theorem dX6_pace_0 : decode cX6_pace 0 = .ok (.iload_n 1, 1) := by decide +kernel
theorem dX6_pace_1 : decode cX6_pace 1 = .ok (.invokestatic 95, 3) := by decide +kernel
theorem dX6_pace_4 : decode cX6_pace 4 = .ok (.ifCond .eq 14, 3) := by decide +kernel
theorem dX6_pace_7 : decode cX6_pace 7 = .ok (.iload_n 2, 1) := by decide +kernel
theorem dX6_pace_8 : decode cX6_pace 8 = .ok (.iconst 1, 1) := by decide +kernel
theorem dX6_pace_9 : decode cX6_pace 9 = .ok (.if_icmp .lt 9, 3) := by decide +kernel
theorem dX6_pace_12 : decode cX6_pace 12 = .ok (.iload_n 2, 1) := by decide +kernel
theorem dX6_pace_13 : decode cX6_pace 13 = .ok (.bipush 64, 2) := by decide +kernel
theorem dX6_pace_15 : decode cX6_pace 15 = .ok (.if_icmp .le 5, 3) := by decide +kernel
theorem dX6_pace_18 : decode cX6_pace 18 = .ok (.iconst (-1), 1) := by decide +kernel
theorem dX6_pace_19 : decode cX6_pace 19 = .ok (.ireturn, 1) := by decide +kernel
theorem dX6_pace_20 : decode cX6_pace 20 = .ok (.iconst 0, 1) := by decide +kernel
theorem dX6_pace_21 : decode cX6_pace 21 = .ok (.istore_n 3, 1) := by decide +kernel
theorem dX6_pace_22 : decode cX6_pace 22 = .ok (.iload_n 3, 1) := by decide +kernel
theorem dX6_pace_23 : decode cX6_pace 23 = .ok (.bipush 16, 2) := by decide +kernel
theorem dX6_pace_25 : decode cX6_pace 25 = .ok (.if_icmp .gt 36, 3) := by decide +kernel
theorem dX6_pace_28 : decode cX6_pace 28 = .ok (.aload_n 0, 1) := by decide +kernel
theorem dX6_pace_29 : decode cX6_pace 29 = .ok (.invokevirtual 266, 3) := by decide +kernel
theorem dX6_pace_32 : decode cX6_pace 32 = .ok (.aload_n 0, 1) := by decide +kernel
theorem dX6_pace_33 : decode cX6_pace 33 = .ok (.getfield 33, 3) := by decide +kernel
theorem dX6_pace_36 : decode cX6_pace 36 = .ok (.getfield 145, 3) := by decide +kernel
theorem dX6_pace_39 : decode cX6_pace 39 = .ok (.iconst 2, 1) := by decide +kernel
theorem dX6_pace_40 : decode cX6_pace 40 = .ok (.iload_n 3, 1) := by decide +kernel
theorem dX6_pace_41 : decode cX6_pace 41 = .ok (.iastore, 1) := by decide +kernel
theorem dX6_pace_42 : decode cX6_pace 42 = .ok (.aload_n 0, 1) := by decide +kernel
theorem dX6_pace_43 : decode cX6_pace 43 = .ok (.iload_n 1, 1) := by decide +kernel
theorem dX6_pace_44 : decode cX6_pace 44 = .ok (.iload_n 2, 1) := by decide +kernel
theorem dX6_pace_45 : decode cX6_pace 45 = .ok (.iconst 0, 1) := by decide +kernel
theorem dX6_pace_46 : decode cX6_pace 46 = .ok (.invokevirtual 273, 3) := by decide +kernel
theorem dX6_pace_49 : decode cX6_pace 49 = .ok (.iload_n 2, 1) := by decide +kernel
theorem dX6_pace_50 : decode cX6_pace 50 = .ok (.if_icmp .ne 5, 3) := by decide +kernel
theorem dX6_pace_53 : decode cX6_pace 53 = .ok (.iload_n 3, 1) := by decide +kernel
theorem dX6_pace_54 : decode cX6_pace 54 = .ok (.ireturn, 1) := by decide +kernel
theorem dX6_pace_55 : decode cX6_pace 55 = .ok (.iinc 3 1, 3) := by decide +kernel
theorem dX6_pace_58 : decode cX6_pace 58 = .ok (.goto (-36), 3) := by decide +kernel
theorem dX6_pace_61 : decode cX6_pace 61 = .ok (.iconst (-1), 1) := by decide +kernel
theorem dX6_pace_62 : decode cX6_pace 62 = .ok (.ireturn, 1) := by decide +kernel
theorem dX6_game_0 : decode cX6_game 0 = .ok (.iload_n 1, 1) := by decide +kernel
theorem dX6_game_1 : decode cX6_game 1 = .ok (.ifCond .lt 19, 3) := by decide +kernel
theorem dX6_game_4 : decode cX6_game 4 = .ok (.iload_n 1, 1) := by decide +kernel
theorem dX6_game_5 : decode cX6_game 5 = .ok (.iconst 3, 1) := by decide +kernel
theorem dX6_game_6 : decode cX6_game 6 = .ok (.if_icmp .gt 14, 3) := by decide +kernel
theorem dX6_game_9 : decode cX6_game 9 = .ok (.iload_n 2, 1) := by decide +kernel
theorem dX6_game_10 : decode cX6_game 10 = .ok (.ifCond .lt 10, 3) := by decide +kernel
theorem dX6_game_13 : decode cX6_game 13 = .ok (.iload_n 2, 1) := by decide +kernel
theorem dX6_game_14 : decode cX6_game 14 = .ok (.sipush 9999, 3) := by decide +kernel
theorem dX6_game_17 : decode cX6_game 17 = .ok (.if_icmp .le 5, 3) := by decide +kernel
theorem dX6_game_20 : decode cX6_game 20 = .ok (.iconst (-1), 1) := by decide +kernel
theorem dX6_game_21 : decode cX6_game 21 = .ok (.ireturn, 1) := by decide +kernel
theorem dX6_game_22 : decode cX6_game 22 = .ok (.iload_n 3, 1) := by decide +kernel
theorem dX6_game_23 : decode cX6_game 23 = .ok (.iconst 1, 1) := by decide +kernel
theorem dX6_game_24 : decode cX6_game 24 = .ok (.if_icmp .lt 21, 3) := by decide +kernel
theorem dX6_game_27 : decode cX6_game 27 = .ok (.iload_n 3, 1) := by decide +kernel
theorem dX6_game_28 : decode cX6_game 28 = .ok (.sipush 200, 3) := by decide +kernel
theorem dX6_game_31 : decode cX6_game 31 = .ok (.if_icmp .gt 14, 3) := by decide +kernel
theorem dX6_game_34 : decode cX6_game 34 = .ok (.iload 4, 2) := by decide +kernel
theorem dX6_game_36 : decode cX6_game 36 = .ok (.ifCond .lt 9, 3) := by decide +kernel
theorem dX6_game_39 : decode cX6_game 39 = .ok (.iload 4, 2) := by decide +kernel
theorem dX6_game_41 : decode cX6_game 41 = .ok (.iconst 5, 1) := by decide +kernel
theorem dX6_game_42 : decode cX6_game 42 = .ok (.if_icmp .le 5, 3) := by decide +kernel
theorem dX6_game_45 : decode cX6_game 45 = .ok (.iconst (-1), 1) := by decide +kernel
theorem dX6_game_46 : decode cX6_game 46 = .ok (.ireturn, 1) := by decide +kernel
theorem dX6_game_47 : decode cX6_game 47 = .ok (.aload_n 0, 1) := by decide +kernel
theorem dX6_game_48 : decode cX6_game 48 = .ok (.iload_n 1, 1) := by decide +kernel
theorem dX6_game_49 : decode cX6_game 49 = .ok (.invokevirtual 277, 3) := by decide +kernel
theorem dX6_game_52 : decode cX6_game 52 = .ok (.aload_n 0, 1) := by decide +kernel
theorem dX6_game_53 : decode cX6_game 53 = .ok (.iload_n 2, 1) := by decide +kernel
theorem dX6_game_54 : decode cX6_game 54 = .ok (.iload_n 3, 1) := by decide +kernel
theorem dX6_game_55 : decode cX6_game 55 = .ok (.invokevirtual 280, 3) := by decide +kernel
theorem dX6_game_58 : decode cX6_game 58 = .ok (.iload 4, 2) := by decide +kernel
theorem dX6_game_60 : decode cX6_game 60 = .ok (.tableswitch 66 0 4 #[36, 42, 48, 54, 60], 36) := by decide +kernel
theorem dX6_game_96 : decode cX6_game 96 = .ok (.aload_n 0, 1) := by decide +kernel
theorem dX6_game_97 : decode cX6_game 97 = .ok (.iconst 1, 1) := by decide +kernel
theorem dX6_game_98 : decode cX6_game 98 = .ok (.invokevirtual 178, 3) := by decide +kernel
theorem dX6_game_101 : decode cX6_game 101 = .ok (.ireturn, 1) := by decide +kernel
theorem dX6_game_102 : decode cX6_game 102 = .ok (.aload_n 0, 1) := by decide +kernel
theorem dX6_game_103 : decode cX6_game 103 = .ok (.iconst 3, 1) := by decide +kernel
theorem dX6_game_104 : decode cX6_game 104 = .ok (.invokevirtual 178, 3) := by decide +kernel
theorem dX6_game_107 : decode cX6_game 107 = .ok (.ireturn, 1) := by decide +kernel
theorem dX6_game_108 : decode cX6_game 108 = .ok (.aload_n 0, 1) := by decide +kernel
theorem dX6_game_109 : decode cX6_game 109 = .ok (.iconst 2, 1) := by decide +kernel
theorem dX6_game_110 : decode cX6_game 110 = .ok (.invokevirtual 178, 3) := by decide +kernel
theorem dX6_game_113 : decode cX6_game 113 = .ok (.ireturn, 1) := by decide +kernel
theorem dX6_game_114 : decode cX6_game 114 = .ok (.aload_n 0, 1) := by decide +kernel
theorem dX6_game_115 : decode cX6_game 115 = .ok (.iconst 0, 1) := by decide +kernel
theorem dX6_game_116 : decode cX6_game 116 = .ok (.invokevirtual 178, 3) := by decide +kernel
theorem dX6_game_119 : decode cX6_game 119 = .ok (.ireturn, 1) := by decide +kernel
theorem dX6_game_120 : decode cX6_game 120 = .ok (.aload_n 0, 1) := by decide +kernel
theorem dX6_game_121 : decode cX6_game 121 = .ok (.iconst 4, 1) := by decide +kernel
theorem dX6_game_122 : decode cX6_game 122 = .ok (.invokevirtual 178, 3) := by decide +kernel
theorem dX6_game_125 : decode cX6_game 125 = .ok (.ireturn, 1) := by decide +kernel
theorem dX6_game_126 : decode cX6_game 126 = .ok (.aload_n 0, 1) := by decide +kernel
theorem dX6_game_127 : decode cX6_game 127 = .ok (.getfield 33, 3) := by decide +kernel
theorem dX6_game_130 : decode cX6_game 130 = .ok (.invokevirtual 181, 3) := by decide +kernel
theorem dX6_game_133 : decode cX6_game 133 = .ok (.ireturn, 1) := by decide +kernel
theorem dX6_law_0 : decode cX6_law 0 = .ok (.iload_n 1, 1) := by decide +kernel
theorem dX6_law_1 : decode cX6_law 1 = .ok (.ifCond .ne 11, 3) := by decide +kernel
theorem dX6_law_4 : decode cX6_law 4 = .ok (.aload_n 0, 1) := by decide +kernel
theorem dX6_law_5 : decode cX6_law 5 = .ok (.invokevirtual 80, 3) := by decide +kernel
theorem dX6_law_8 : decode cX6_law 8 = .ok (.invokevirtual 283, 3) := by decide +kernel
theorem dX6_law_11 : decode cX6_law 11 = .ok (.ireturn, 1) := by decide +kernel
theorem dX6_law_12 : decode cX6_law 12 = .ok (.iload_n 1, 1) := by decide +kernel
theorem dX6_law_13 : decode cX6_law 13 = .ok (.iconst 1, 1) := by decide +kernel
theorem dX6_law_14 : decode cX6_law 14 = .ok (.if_icmp .ne 13, 3) := by decide +kernel
theorem dX6_law_17 : decode cX6_law 17 = .ok (.aload_n 0, 1) := by decide +kernel
theorem dX6_law_18 : decode cX6_law 18 = .ok (.invokevirtual 80, 3) := by decide +kernel
theorem dX6_law_21 : decode cX6_law 21 = .ok (.invokevirtual 286, 3) := by decide +kernel
theorem dX6_law_24 : decode cX6_law 24 = .ok (.goto 4, 3) := by decide +kernel
theorem dX6_law_27 : decode cX6_law 27 = .ok (.iconst (-1), 1) := by decide +kernel
theorem dX6_law_28 : decode cX6_law 28 = .ok (.ireturn, 1) := by decide +kernel
theorem dX6_about_0 : decode cX6_about 0 = .ok (.aload_n 0, 1) := by decide +kernel
theorem dX6_about_1 : decode cX6_about 1 = .ok (.invokevirtual 80, 3) := by decide +kernel
theorem dX6_about_4 : decode cX6_about 4 = .ok (.astore_n 2, 1) := by decide +kernel
theorem dX6_about_5 : decode cX6_about 5 = .ok (.iload_n 1, 1) := by decide +kernel
theorem dX6_about_6 : decode cX6_about 6 = .ok (.iconst 2, 1) := by decide +kernel
theorem dX6_about_7 : decode cX6_about 7 = .ok (.if_icmp .lt 18, 3) := by decide +kernel
theorem dX6_about_10 : decode cX6_about 10 = .ok (.iload_n 1, 1) := by decide +kernel
theorem dX6_about_11 : decode cX6_about 11 = .ok (.bipush 6, 2) := by decide +kernel
theorem dX6_about_13 : decode cX6_about 13 = .ok (.if_icmp .gt 12, 3) := by decide +kernel
theorem dX6_about_16 : decode cX6_about 16 = .ok (.aload_n 2, 1) := by decide +kernel
theorem dX6_about_17 : decode cX6_about 17 = .ok (.getfield 289, 3) := by decide +kernel
theorem dX6_about_20 : decode cX6_about 20 = .ok (.iload_n 1, 1) := by decide +kernel
theorem dX6_about_21 : decode cX6_about 21 = .ok (.iconst 2, 1) := by decide +kernel
theorem dX6_about_22 : decode cX6_about 22 = .ok (.isub, 1) := by decide +kernel
theorem dX6_about_23 : decode cX6_about 23 = .ok (.iaload, 1) := by decide +kernel
theorem dX6_about_24 : decode cX6_about 24 = .ok (.ireturn, 1) := by decide +kernel
theorem dX6_about_25 : decode cX6_about 25 = .ok (.iload_n 1, 1) := by decide +kernel
theorem dX6_about_26 : decode cX6_about 26 = .ok (.bipush 8, 2) := by decide +kernel
theorem dX6_about_28 : decode cX6_about 28 = .ok (.if_icmp .lt 19, 3) := by decide +kernel
theorem dX6_about_31 : decode cX6_about 31 = .ok (.iload_n 1, 1) := by decide +kernel
theorem dX6_about_32 : decode cX6_about 32 = .ok (.bipush 11, 2) := by decide +kernel
theorem dX6_about_34 : decode cX6_about 34 = .ok (.if_icmp .gt 13, 3) := by decide +kernel
theorem dX6_about_37 : decode cX6_about 37 = .ok (.aload_n 2, 1) := by decide +kernel
theorem dX6_about_38 : decode cX6_about 38 = .ok (.getfield 145, 3) := by decide +kernel
theorem dX6_about_41 : decode cX6_about 41 = .ok (.iload_n 1, 1) := by decide +kernel
theorem dX6_about_42 : decode cX6_about 42 = .ok (.bipush 8, 2) := by decide +kernel
theorem dX6_about_44 : decode cX6_about 44 = .ok (.isub, 1) := by decide +kernel
theorem dX6_about_45 : decode cX6_about 45 = .ok (.iaload, 1) := by decide +kernel
theorem dX6_about_46 : decode cX6_about 46 = .ok (.ireturn, 1) := by decide +kernel
theorem dX6_about_47 : decode cX6_about 47 = .ok (.iload_n 1, 1) := by decide +kernel
theorem dX6_about_48 : decode cX6_about 48 = .ok (.tableswitch 155 0 18 #[92, 97, 155, 155, 155, 155, 155, 110, 155, 155, 155, 155, 115, 120, 125, 130, 137, 142, 150], 92) := by decide +kernel
theorem dX6_about_140 : decode cX6_about 140 = .ok (.aload_n 2, 1) := by decide +kernel
theorem dX6_about_141 : decode cX6_about 141 = .ok (.getfield 244, 3) := by decide +kernel
theorem dX6_about_144 : decode cX6_about 144 = .ok (.ireturn, 1) := by decide +kernel
theorem dX6_about_145 : decode cX6_about 145 = .ok (.aload_n 2, 1) := by decide +kernel
theorem dX6_about_146 : decode cX6_about 146 = .ok (.getfield 135, 3) := by decide +kernel
theorem dX6_about_149 : decode cX6_about 149 = .ok (.ifCond .eq 7, 3) := by decide +kernel
theorem dX6_about_152 : decode cX6_about 152 = .ok (.iconst 1, 1) := by decide +kernel
theorem dX6_about_153 : decode cX6_about 153 = .ok (.goto 4, 3) := by decide +kernel
theorem dX6_about_156 : decode cX6_about 156 = .ok (.iconst 0, 1) := by decide +kernel
theorem dX6_about_157 : decode cX6_about 157 = .ok (.ireturn, 1) := by decide +kernel
theorem dX6_about_158 : decode cX6_about 158 = .ok (.aload_n 2, 1) := by decide +kernel
theorem dX6_about_159 : decode cX6_about 159 = .ok (.invokevirtual 181, 3) := by decide +kernel
theorem dX6_about_162 : decode cX6_about 162 = .ok (.ireturn, 1) := by decide +kernel
theorem dX6_about_163 : decode cX6_about 163 = .ok (.aload_n 2, 1) := by decide +kernel
theorem dX6_about_164 : decode cX6_about 164 = .ok (.getfield 223, 3) := by decide +kernel
theorem dX6_about_167 : decode cX6_about 167 = .ok (.ireturn, 1) := by decide +kernel
theorem dX6_about_168 : decode cX6_about 168 = .ok (.aload_n 0, 1) := by decide +kernel
theorem dX6_about_169 : decode cX6_about 169 = .ok (.getfield 19, 3) := by decide +kernel
theorem dX6_about_172 : decode cX6_about 172 = .ok (.ireturn, 1) := by decide +kernel
theorem dX6_about_173 : decode cX6_about 173 = .ok (.aload_n 0, 1) := by decide +kernel
theorem dX6_about_174 : decode cX6_about 174 = .ok (.getfield 22, 3) := by decide +kernel
theorem dX6_about_177 : decode cX6_about 177 = .ok (.ireturn, 1) := by decide +kernel
theorem dX6_about_178 : decode cX6_about 178 = .ok (.aload_n 2, 1) := by decide +kernel
theorem dX6_about_179 : decode cX6_about 179 = .ok (.getfield 289, 3) := by decide +kernel
theorem dX6_about_182 : decode cX6_about 182 = .ok (.iconst 5, 1) := by decide +kernel
theorem dX6_about_183 : decode cX6_about 183 = .ok (.iaload, 1) := by decide +kernel
theorem dX6_about_184 : decode cX6_about 184 = .ok (.ireturn, 1) := by decide +kernel
theorem dX6_about_185 : decode cX6_about 185 = .ok (.aload_n 2, 1) := by decide +kernel
theorem dX6_about_186 : decode cX6_about 186 = .ok (.invokevirtual 192, 3) := by decide +kernel
theorem dX6_about_189 : decode cX6_about 189 = .ok (.ireturn, 1) := by decide +kernel
theorem dX6_about_190 : decode cX6_about 190 = .ok (.aload_n 0, 1) := by decide +kernel
theorem dX6_about_191 : decode cX6_about 191 = .ok (.getfield 64, 3) := by decide +kernel
theorem dX6_about_194 : decode cX6_about 194 = .ok (.getfield 158, 3) := by decide +kernel
theorem dX6_about_197 : decode cX6_about 197 = .ok (.ireturn, 1) := by decide +kernel
theorem dX6_about_198 : decode cX6_about 198 = .ok (.aload_n 0, 1) := by decide +kernel
theorem dX6_about_199 : decode cX6_about 199 = .ok (.getfield 51, 3) := by decide +kernel
theorem dX6_about_202 : decode cX6_about 202 = .ok (.ireturn, 1) := by decide +kernel
theorem dX6_about_203 : decode cX6_about 203 = .ok (.bipush (-2), 2) := by decide +kernel
theorem dX6_about_205 : decode cX6_about 205 = .ok (.ireturn, 1) := by decide +kernel
theorem dX6_heap_0 : decode cX6_heap 0 = .ok (.aload_n 0, 1) := by decide +kernel
theorem dX6_heap_1 : decode cX6_heap 1 = .ok (.getfield 11, 3) := by decide +kernel
theorem dX6_heap_4 : decode cX6_heap 4 = .ok (.aload_n 0, 1) := by decide +kernel
theorem dX6_heap_5 : decode cX6_heap 5 = .ok (.getfield 15, 3) := by decide +kernel
theorem dX6_heap_8 : decode cX6_heap 8 = .ok (.aaload, 1) := by decide +kernel
theorem dX6_heap_9 : decode cX6_heap 9 = .ok (.areturn, 1) := by decide +kernel
theorem dX6_act_0 : decode cX6_act 0 = .ok (.aload_n 0, 1) := by decide +kernel
theorem dX6_act_1 : decode cX6_act 1 = .ok (.getfield 11, 3) := by decide +kernel
theorem dX6_act_4 : decode cX6_act 4 = .ok (.aload_n 0, 1) := by decide +kernel
theorem dX6_act_5 : decode cX6_act 5 = .ok (.getfield 15, 3) := by decide +kernel
theorem dX6_act_8 : decode cX6_act 8 = .ok (.aaload, 1) := by decide +kernel
theorem dX6_act_9 : decode cX6_act 9 = .ok (.astore_n 1, 1) := by decide +kernel
theorem dX6_act_10 : decode cX6_act 10 = .ok (.aload_n 0, 1) := by decide +kernel
theorem dX6_act_11 : decode cX6_act 11 = .ok (.aload_n 0, 1) := by decide +kernel
theorem dX6_act_12 : decode cX6_act 12 = .ok (.getfield 15, 3) := by decide +kernel
theorem dX6_act_15 : decode cX6_act 15 = .ok (.iconst 1, 1) := by decide +kernel
theorem dX6_act_16 : decode cX6_act 16 = .ok (.iadd, 1) := by decide +kernel
theorem dX6_act_17 : decode cX6_act 17 = .ok (.aload_n 0, 1) := by decide +kernel
theorem dX6_act_18 : decode cX6_act 18 = .ok (.getfield 11, 3) := by decide +kernel
theorem dX6_act_21 : decode cX6_act 21 = .ok (.arraylength, 1) := by decide +kernel
theorem dX6_act_22 : decode cX6_act 22 = .ok (.irem, 1) := by decide +kernel
theorem dX6_act_23 : decode cX6_act 23 = .ok (.putfield 15, 3) := by decide +kernel
theorem dX6_act_26 : decode cX6_act 26 = .ok (.aload_n 0, 1) := by decide +kernel
theorem dX6_act_27 : decode cX6_act 27 = .ok (.getfield 11, 3) := by decide +kernel
theorem dX6_act_30 : decode cX6_act 30 = .ok (.aload_n 0, 1) := by decide +kernel
theorem dX6_act_31 : decode cX6_act 31 = .ok (.getfield 15, 3) := by decide +kernel
theorem dX6_act_34 : decode cX6_act 34 = .ok (.aaload, 1) := by decide +kernel
theorem dX6_act_35 : decode cX6_act 35 = .ok (.aload_n 1, 1) := by decide +kernel
theorem dX6_act_36 : decode cX6_act 36 = .ok (.invokevirtual 198, 3) := by decide +kernel
theorem dX6_act_39 : decode cX6_act 39 = .ok (.aload_n 0, 1) := by decide +kernel
theorem dX6_act_40 : decode cX6_act 40 = .ok (.aload_n 0, 1) := by decide +kernel
theorem dX6_act_41 : decode cX6_act 41 = .ok (.getfield 19, 3) := by decide +kernel
theorem dX6_act_44 : decode cX6_act 44 = .ok (.iconst 1, 1) := by decide +kernel
theorem dX6_act_45 : decode cX6_act 45 = .ok (.iadd, 1) := by decide +kernel
theorem dX6_act_46 : decode cX6_act 46 = .ok (.bipush 20, 2) := by decide +kernel
theorem dX6_act_48 : decode cX6_act 48 = .ok (.invokestatic 292, 3) := by decide +kernel
theorem dX6_act_51 : decode cX6_act 51 = .ok (.putfield 19, 3) := by decide +kernel
theorem dX6_act_54 : decode cX6_act 54 = .ok (.aload_n 0, 1) := by decide +kernel
theorem dX6_act_55 : decode cX6_act 55 = .ok (.iconst 0, 1) := by decide +kernel
theorem dX6_act_56 : decode cX6_act 56 = .ok (.putfield 22, 3) := by decide +kernel
theorem dX6_act_59 : decode cX6_act 59 = .ok (.aload_n 0, 1) := by decide +kernel
theorem dX6_act_60 : decode cX6_act 60 = .ok (.getfield 11, 3) := by decide +kernel
theorem dX6_act_63 : decode cX6_act 63 = .ok (.aload_n 0, 1) := by decide +kernel
theorem dX6_act_64 : decode cX6_act 64 = .ok (.getfield 15, 3) := by decide +kernel
theorem dX6_act_67 : decode cX6_act 67 = .ok (.aaload, 1) := by decide +kernel
theorem dX6_act_68 : decode cX6_act 68 = .ok (.areturn, 1) := by decide +kernel
theorem dX6_forgetActs_0 : decode cX6_forgetActs 0 = .ok (.aload_n 0, 1) := by decide +kernel
theorem dX6_forgetActs_1 : decode cX6_forgetActs 1 = .ok (.iconst 0, 1) := by decide +kernel
theorem dX6_forgetActs_2 : decode cX6_forgetActs 2 = .ok (.putfield 19, 3) := by decide +kernel
theorem dX6_forgetActs_5 : decode cX6_forgetActs 5 = .ok (.aload_n 0, 1) := by decide +kernel
theorem dX6_forgetActs_6 : decode cX6_forgetActs 6 = .ok (.iconst 0, 1) := by decide +kernel
theorem dX6_forgetActs_7 : decode cX6_forgetActs 7 = .ok (.putfield 22, 3) := by decide +kernel
theorem dX6_forgetActs_10 : decode cX6_forgetActs 10 = .ok (.return_, 1) := by decide +kernel
theorem dX6_feedFour_0 : decode cX6_feedFour 0 = .ok (.bipush 24, 2) := by decide +kernel
theorem dX6_feedFour_2 : decode cX6_feedFour 2 = .ok (.istore_n 2, 1) := by decide +kernel
theorem dX6_feedFour_3 : decode cX6_feedFour 3 = .ok (.iload_n 2, 1) := by decide +kernel
theorem dX6_feedFour_4 : decode cX6_feedFour 4 = .ok (.ifCond .lt 35, 3) := by decide +kernel
theorem dX6_feedFour_7 : decode cX6_feedFour 7 = .ok (.aload_n 0, 1) := by decide +kernel
theorem dX6_feedFour_8 : decode cX6_feedFour 8 = .ok (.getfield 48, 3) := by decide +kernel
theorem dX6_feedFour_11 : decode cX6_feedFour 11 = .ok (.aload_n 0, 1) := by decide +kernel
theorem dX6_feedFour_12 : decode cX6_feedFour 12 = .ok (.getfield 51, 3) := by decide +kernel
theorem dX6_feedFour_15 : decode cX6_feedFour 15 = .ok (.iload_n 1, 1) := by decide +kernel
theorem dX6_feedFour_16 : decode cX6_feedFour 16 = .ok (.iload_n 2, 1) := by decide +kernel
theorem dX6_feedFour_17 : decode cX6_feedFour 17 = .ok (.iushr, 1) := by decide +kernel
theorem dX6_feedFour_18 : decode cX6_feedFour 18 = .ok (.sipush 255, 3) := by decide +kernel
theorem dX6_feedFour_21 : decode cX6_feedFour 21 = .ok (.iand, 1) := by decide +kernel
theorem dX6_feedFour_22 : decode cX6_feedFour 22 = .ok (.iastore, 1) := by decide +kernel
theorem dX6_feedFour_23 : decode cX6_feedFour 23 = .ok (.aload_n 0, 1) := by decide +kernel
theorem dX6_feedFour_24 : decode cX6_feedFour 24 = .ok (.dup, 1) := by decide +kernel
theorem dX6_feedFour_25 : decode cX6_feedFour 25 = .ok (.getfield 51, 3) := by decide +kernel
theorem dX6_feedFour_28 : decode cX6_feedFour 28 = .ok (.iconst 1, 1) := by decide +kernel
theorem dX6_feedFour_29 : decode cX6_feedFour 29 = .ok (.iadd, 1) := by decide +kernel
theorem dX6_feedFour_30 : decode cX6_feedFour 30 = .ok (.putfield 51, 3) := by decide +kernel
theorem dX6_feedFour_33 : decode cX6_feedFour 33 = .ok (.iinc 2 (-8), 3) := by decide +kernel
theorem dX6_feedFour_36 : decode cX6_feedFour 36 = .ok (.goto (-33), 3) := by decide +kernel
theorem dX6_feedFour_39 : decode cX6_feedFour 39 = .ok (.return_, 1) := by decide +kernel
theorem dX6_beginTrial_0 : decode cX6_beginTrial 0 = .ok (.aload_n 0, 1) := by decide +kernel
theorem dX6_beginTrial_1 : decode cX6_beginTrial 1 = .ok (.getfield 33, 3) := by decide +kernel
theorem dX6_beginTrial_4 : decode cX6_beginTrial 4 = .ok (.aload_n 0, 1) := by decide +kernel
theorem dX6_beginTrial_5 : decode cX6_beginTrial 5 = .ok (.invokevirtual 80, 3) := by decide +kernel
theorem dX6_beginTrial_8 : decode cX6_beginTrial 8 = .ok (.invokevirtual 198, 3) := by decide +kernel
theorem dX6_beginTrial_11 : decode cX6_beginTrial 11 = .ok (.aload_n 0, 1) := by decide +kernel
theorem dX6_beginTrial_12 : decode cX6_beginTrial 12 = .ok (.invokevirtual 297, 3) := by decide +kernel
theorem dX6_beginTrial_15 : decode cX6_beginTrial 15 = .ok (.return_, 1) := by decide +kernel
theorem dX6_noteTrial_0 : decode cX6_noteTrial 0 = .ok (.aload_n 0, 1) := by decide +kernel
theorem dX6_noteTrial_1 : decode cX6_noteTrial 1 = .ok (.getfield 33, 3) := by decide +kernel
theorem dX6_noteTrial_4 : decode cX6_noteTrial 4 = .ok (.getfield 289, 3) := by decide +kernel
theorem dX6_noteTrial_7 : decode cX6_noteTrial 7 = .ok (.iconst 0, 1) := by decide +kernel
theorem dX6_noteTrial_8 : decode cX6_noteTrial 8 = .ok (.aload_n 0, 1) := by decide +kernel
theorem dX6_noteTrial_9 : decode cX6_noteTrial 9 = .ok (.getfield 37, 3) := by decide +kernel
theorem dX6_noteTrial_12 : decode cX6_noteTrial 12 = .ok (.iconst 0, 1) := by decide +kernel
theorem dX6_noteTrial_13 : decode cX6_noteTrial 13 = .ok (.bipush 6, 2) := by decide +kernel
theorem dX6_noteTrial_15 : decode cX6_noteTrial 15 = .ok (.invokestatic 300, 3) := by decide +kernel
theorem dX6_noteTrial_18 : decode cX6_noteTrial 18 = .ok (.return_, 1) := by decide +kernel
theorem dX6_onTrial_0 : decode cX6_onTrial 0 = .ok (.aload_n 0, 1) := by decide +kernel
theorem dX6_onTrial_1 : decode cX6_onTrial 1 = .ok (.getfield 33, 3) := by decide +kernel
theorem dX6_onTrial_4 : decode cX6_onTrial 4 = .ok (.getfield 289, 3) := by decide +kernel
theorem dX6_onTrial_7 : decode cX6_onTrial 7 = .ok (.iload_n 1, 1) := by decide +kernel
theorem dX6_onTrial_8 : decode cX6_onTrial 8 = .ok (.iaload, 1) := by decide +kernel
theorem dX6_onTrial_9 : decode cX6_onTrial 9 = .ok (.aload_n 0, 1) := by decide +kernel
theorem dX6_onTrial_10 : decode cX6_onTrial 10 = .ok (.getfield 37, 3) := by decide +kernel
theorem dX6_onTrial_13 : decode cX6_onTrial 13 = .ok (.iload_n 1, 1) := by decide +kernel
theorem dX6_onTrial_14 : decode cX6_onTrial 14 = .ok (.iaload, 1) := by decide +kernel
theorem dX6_onTrial_15 : decode cX6_onTrial 15 = .ok (.isub, 1) := by decide +kernel
theorem dX6_onTrial_16 : decode cX6_onTrial 16 = .ok (.ireturn, 1) := by decide +kernel
theorem dX6_beginApart_0 : decode cX6_beginApart 0 = .ok (.aload_n 0, 1) := by decide +kernel
theorem dX6_beginApart_1 : decode cX6_beginApart 1 = .ok (.getfield 33, 3) := by decide +kernel
theorem dX6_beginApart_4 : decode cX6_beginApart 4 = .ok (.aload_n 0, 1) := by decide +kernel
theorem dX6_beginApart_5 : decode cX6_beginApart 5 = .ok (.invokevirtual 80, 3) := by decide +kernel
theorem dX6_beginApart_8 : decode cX6_beginApart 8 = .ok (.invokevirtual 198, 3) := by decide +kernel
theorem dX6_beginApart_11 : decode cX6_beginApart 11 = .ok (.aload_n 0, 1) := by decide +kernel
theorem dX6_beginApart_12 : decode cX6_beginApart 12 = .ok (.getfield 33, 3) := by decide +kernel
theorem dX6_beginApart_15 : decode cX6_beginApart 15 = .ok (.ldc_w 269, 3) := by decide +kernel
theorem dX6_beginApart_18 : decode cX6_beginApart 18 = .ok (.invokevirtual 142, 3) := by decide +kernel
theorem dX6_beginApart_21 : decode cX6_beginApart 21 = .ok (.pop, 1) := by decide +kernel
theorem dX6_beginApart_22 : decode cX6_beginApart 22 = .ok (.aload_n 0, 1) := by decide +kernel
theorem dX6_beginApart_23 : decode cX6_beginApart 23 = .ok (.getfield 33, 3) := by decide +kernel
theorem dX6_beginApart_26 : decode cX6_beginApart 26 = .ok (.getfield 145, 3) := by decide +kernel
theorem dX6_beginApart_29 : decode cX6_beginApart 29 = .ok (.iconst 0, 1) := by decide +kernel
theorem dX6_beginApart_30 : decode cX6_beginApart 30 = .ok (.iload_n 1, 1) := by decide +kernel
theorem dX6_beginApart_31 : decode cX6_beginApart 31 = .ok (.iastore, 1) := by decide +kernel
theorem dX6_beginApart_32 : decode cX6_beginApart 32 = .ok (.aload_n 0, 1) := by decide +kernel
theorem dX6_beginApart_33 : decode cX6_beginApart 33 = .ok (.invokevirtual 297, 3) := by decide +kernel
theorem dX6_beginApart_36 : decode cX6_beginApart 36 = .ok (.return_, 1) := by decide +kernel
theorem dX6_runApart_0 : decode cX6_runApart 0 = .ok (.aload_n 0, 1) := by decide +kernel
theorem dX6_runApart_1 : decode cX6_runApart 1 = .ok (.iload_n 1, 1) := by decide +kernel
theorem dX6_runApart_2 : decode cX6_runApart 2 = .ok (.invokevirtual 277, 3) := by decide +kernel
theorem dX6_runApart_5 : decode cX6_runApart 5 = .ok (.aload_n 0, 1) := by decide +kernel
theorem dX6_runApart_6 : decode cX6_runApart 6 = .ok (.getfield 33, 3) := by decide +kernel
theorem dX6_runApart_9 : decode cX6_runApart 9 = .ok (.getfield 145, 3) := by decide +kernel
theorem dX6_runApart_12 : decode cX6_runApart 12 = .ok (.iconst 2, 1) := by decide +kernel
theorem dX6_runApart_13 : decode cX6_runApart 13 = .ok (.iload_n 2, 1) := by decide +kernel
theorem dX6_runApart_14 : decode cX6_runApart 14 = .ok (.iastore, 1) := by decide +kernel
theorem dX6_runApart_15 : decode cX6_runApart 15 = .ok (.aload_n 0, 1) := by decide +kernel
theorem dX6_runApart_16 : decode cX6_runApart 16 = .ok (.getfield 76, 3) := by decide +kernel
theorem dX6_runApart_19 : decode cX6_runApart 19 = .ok (.aload_n 0, 1) := by decide +kernel
theorem dX6_runApart_20 : decode cX6_runApart 20 = .ok (.getfield 33, 3) := by decide +kernel
theorem dX6_runApart_23 : decode cX6_runApart 23 = .ok (.aload_n 0, 1) := by decide +kernel
theorem dX6_runApart_24 : decode cX6_runApart 24 = .ok (.getfield 64, 3) := by decide +kernel
theorem dX6_runApart_27 : decode cX6_runApart 27 = .ok (.invokevirtual 164, 3) := by decide +kernel
theorem dX6_runApart_30 : decode cX6_runApart 30 = .ok (.aload_n 0, 1) := by decide +kernel
theorem dX6_runApart_31 : decode cX6_runApart 31 = .ok (.getfield 76, 3) := by decide +kernel
theorem dX6_runApart_34 : decode cX6_runApart 34 = .ok (.iconst 0, 1) := by decide +kernel
theorem dX6_runApart_35 : decode cX6_runApart 35 = .ok (.aload_n 0, 1) := by decide +kernel
theorem dX6_runApart_36 : decode cX6_runApart 36 = .ok (.getfield 64, 3) := by decide +kernel
theorem dX6_runApart_39 : decode cX6_runApart 39 = .ok (.getfield 158, 3) := by decide +kernel
theorem dX6_runApart_42 : decode cX6_runApart 42 = .ok (.iconst 0, 1) := by decide +kernel
theorem dX6_runApart_43 : decode cX6_runApart 43 = .ok (.invokevirtual 167, 3) := by decide +kernel
theorem dX6_runApart_46 : decode cX6_runApart 46 = .ok (.return_, 1) := by decide +kernel
theorem dX6_makeOnTrial_0 : decode cX6_makeOnTrial 0 = .ok (.iconst 0, 1) := by decide +kernel
theorem dX6_makeOnTrial_1 : decode cX6_makeOnTrial 1 = .ok (.istore 4, 2) := by decide +kernel
theorem dX6_makeOnTrial_3 : decode cX6_makeOnTrial 3 = .ok (.iload 4, 2) := by decide +kernel
theorem dX6_makeOnTrial_5 : decode cX6_makeOnTrial 5 = .ok (.iload_n 2, 1) := by decide +kernel
theorem dX6_makeOnTrial_6 : decode cX6_makeOnTrial 6 = .ok (.if_icmp .ge 42, 3) := by decide +kernel
theorem dX6_makeOnTrial_9 : decode cX6_makeOnTrial 9 = .ok (.aload_n 0, 1) := by decide +kernel
theorem dX6_makeOnTrial_10 : decode cX6_makeOnTrial 10 = .ok (.getfield 33, 3) := by decide +kernel
theorem dX6_makeOnTrial_13 : decode cX6_makeOnTrial 13 = .ok (.iconst 0, 1) := by decide +kernel
theorem dX6_makeOnTrial_14 : decode cX6_makeOnTrial 14 = .ok (.iload_n 1, 1) := by decide +kernel
theorem dX6_makeOnTrial_15 : decode cX6_makeOnTrial 15 = .ok (.invokevirtual 101, 3) := by decide +kernel
theorem dX6_makeOnTrial_18 : decode cX6_makeOnTrial 18 = .ok (.istore 5, 2) := by decide +kernel
theorem dX6_makeOnTrial_20 : decode cX6_makeOnTrial 20 = .ok (.iload 5, 2) := by decide +kernel
theorem dX6_makeOnTrial_22 : decode cX6_makeOnTrial 22 = .ok (.bipush (-2), 2) := by decide +kernel
theorem dX6_makeOnTrial_24 : decode cX6_makeOnTrial 24 = .ok (.if_icmp .eq 15, 3) := by decide +kernel
theorem dX6_makeOnTrial_27 : decode cX6_makeOnTrial 27 = .ok (.iload_n 3, 1) := by decide +kernel
theorem dX6_makeOnTrial_28 : decode cX6_makeOnTrial 28 = .ok (.ifCond .ne 14, 3) := by decide +kernel
theorem dX6_makeOnTrial_31 : decode cX6_makeOnTrial 31 = .ok (.aload_n 0, 1) := by decide +kernel
theorem dX6_makeOnTrial_32 : decode cX6_makeOnTrial 32 = .ok (.iconst 2, 1) := by decide +kernel
theorem dX6_makeOnTrial_33 : decode cX6_makeOnTrial 33 = .ok (.invokevirtual 178, 3) := by decide +kernel
theorem dX6_makeOnTrial_36 : decode cX6_makeOnTrial 36 = .ok (.ifCond .le 6, 3) := by decide +kernel
theorem dX6_makeOnTrial_39 : decode cX6_makeOnTrial 39 = .ok (.iload 4, 2) := by decide +kernel
theorem dX6_makeOnTrial_41 : decode cX6_makeOnTrial 41 = .ok (.ireturn, 1) := by decide +kernel
theorem dX6_makeOnTrial_42 : decode cX6_makeOnTrial 42 = .ok (.iinc 4 1, 3) := by decide +kernel
theorem dX6_makeOnTrial_45 : decode cX6_makeOnTrial 45 = .ok (.goto (-42), 3) := by decide +kernel
theorem dX6_makeOnTrial_48 : decode cX6_makeOnTrial 48 = .ok (.iload_n 2, 1) := by decide +kernel
theorem dX6_makeOnTrial_49 : decode cX6_makeOnTrial 49 = .ok (.ireturn, 1) := by decide +kernel
theorem dX6_playOnTrial_0 : decode cX6_playOnTrial 0 = .ok (.iload_n 1, 1) := by decide +kernel
theorem dX6_playOnTrial_1 : decode cX6_playOnTrial 1 = .ok (.istore_n 3, 1) := by decide +kernel
theorem dX6_playOnTrial_2 : decode cX6_playOnTrial 2 = .ok (.iconst 0, 1) := by decide +kernel
theorem dX6_playOnTrial_3 : decode cX6_playOnTrial 3 = .ok (.istore 4, 2) := by decide +kernel
theorem dX6_playOnTrial_5 : decode cX6_playOnTrial 5 = .ok (.iload 4, 2) := by decide +kernel
theorem dX6_playOnTrial_7 : decode cX6_playOnTrial 7 = .ok (.iload_n 2, 1) := by decide +kernel
theorem dX6_playOnTrial_8 : decode cX6_playOnTrial 8 = .ok (.if_icmp .ge 151, 3) := by decide +kernel
theorem dX6_playOnTrial_11 : decode cX6_playOnTrial 11 = .ok (.iload_n 3, 1) := by decide +kernel
theorem dX6_playOnTrial_12 : decode cX6_playOnTrial 12 = .ok (.invokestatic 306, 3) := by decide +kernel
theorem dX6_playOnTrial_15 : decode cX6_playOnTrial 15 = .ok (.istore_n 3, 1) := by decide +kernel
theorem dX6_playOnTrial_16 : decode cX6_playOnTrial 16 = .ok (.iload_n 3, 1) := by decide +kernel
theorem dX6_playOnTrial_17 : decode cX6_playOnTrial 17 = .ok (.bipush 8, 2) := by decide +kernel
theorem dX6_playOnTrial_19 : decode cX6_playOnTrial 19 = .ok (.irem, 1) := by decide +kernel
theorem dX6_playOnTrial_20 : decode cX6_playOnTrial 20 = .ok (.istore 5, 2) := by decide +kernel
theorem dX6_playOnTrial_22 : decode cX6_playOnTrial 22 = .ok (.iload_n 3, 1) := by decide +kernel
theorem dX6_playOnTrial_23 : decode cX6_playOnTrial 23 = .ok (.invokestatic 306, 3) := by decide +kernel
theorem dX6_playOnTrial_26 : decode cX6_playOnTrial 26 = .ok (.istore_n 3, 1) := by decide +kernel
theorem dX6_playOnTrial_27 : decode cX6_playOnTrial 27 = .ok (.iload_n 3, 1) := by decide +kernel
theorem dX6_playOnTrial_28 : decode cX6_playOnTrial 28 = .ok (.bipush 6, 2) := by decide +kernel
theorem dX6_playOnTrial_30 : decode cX6_playOnTrial 30 = .ok (.irem, 1) := by decide +kernel
theorem dX6_playOnTrial_31 : decode cX6_playOnTrial 31 = .ok (.istore 6, 2) := by decide +kernel
theorem dX6_playOnTrial_33 : decode cX6_playOnTrial 33 = .ok (.iload_n 3, 1) := by decide +kernel
theorem dX6_playOnTrial_34 : decode cX6_playOnTrial 34 = .ok (.invokestatic 306, 3) := by decide +kernel
theorem dX6_playOnTrial_37 : decode cX6_playOnTrial 37 = .ok (.istore_n 3, 1) := by decide +kernel
theorem dX6_playOnTrial_38 : decode cX6_playOnTrial 38 = .ok (.iload_n 3, 1) := by decide +kernel
theorem dX6_playOnTrial_39 : decode cX6_playOnTrial 39 = .ok (.bipush 6, 2) := by decide +kernel
theorem dX6_playOnTrial_41 : decode cX6_playOnTrial 41 = .ok (.irem, 1) := by decide +kernel
theorem dX6_playOnTrial_42 : decode cX6_playOnTrial 42 = .ok (.istore 7, 2) := by decide +kernel
theorem dX6_playOnTrial_44 : decode cX6_playOnTrial 44 = .ok (.iload_n 3, 1) := by decide +kernel
theorem dX6_playOnTrial_45 : decode cX6_playOnTrial 45 = .ok (.invokestatic 306, 3) := by decide +kernel
theorem dX6_playOnTrial_48 : decode cX6_playOnTrial 48 = .ok (.istore_n 3, 1) := by decide +kernel
theorem dX6_playOnTrial_49 : decode cX6_playOnTrial 49 = .ok (.iload_n 3, 1) := by decide +kernel
theorem dX6_playOnTrial_50 : decode cX6_playOnTrial 50 = .ok (.bipush 6, 2) := by decide +kernel
theorem dX6_playOnTrial_52 : decode cX6_playOnTrial 52 = .ok (.irem, 1) := by decide +kernel
theorem dX6_playOnTrial_53 : decode cX6_playOnTrial 53 = .ok (.istore 8, 2) := by decide +kernel
theorem dX6_playOnTrial_55 : decode cX6_playOnTrial 55 = .ok (.iload 5, 2) := by decide +kernel
theorem dX6_playOnTrial_57 : decode cX6_playOnTrial 57 = .ok (.iconst 2, 1) := by decide +kernel
theorem dX6_playOnTrial_58 : decode cX6_playOnTrial 58 = .ok (.if_icmp .gt 18, 3) := by decide +kernel
theorem dX6_playOnTrial_61 : decode cX6_playOnTrial 61 = .ok (.aload_n 0, 1) := by decide +kernel
theorem dX6_playOnTrial_62 : decode cX6_playOnTrial 62 = .ok (.getfield 33, 3) := by decide +kernel
theorem dX6_playOnTrial_65 : decode cX6_playOnTrial 65 = .ok (.iload 6, 2) := by decide +kernel
theorem dX6_playOnTrial_67 : decode cX6_playOnTrial 67 = .ok (.iload 8, 2) := by decide +kernel
theorem dX6_playOnTrial_69 : decode cX6_playOnTrial 69 = .ok (.invokevirtual 101, 3) := by decide +kernel
theorem dX6_playOnTrial_72 : decode cX6_playOnTrial 72 = .ok (.pop, 1) := by decide +kernel
theorem dX6_playOnTrial_73 : decode cX6_playOnTrial 73 = .ok (.goto 80, 3) := by decide +kernel
theorem dX6_playOnTrial_76 : decode cX6_playOnTrial 76 = .ok (.iload 5, 2) := by decide +kernel
theorem dX6_playOnTrial_78 : decode cX6_playOnTrial 78 = .ok (.iconst 3, 1) := by decide +kernel
theorem dX6_playOnTrial_79 : decode cX6_playOnTrial 79 = .ok (.if_icmp .ne 20, 3) := by decide +kernel
theorem dX6_playOnTrial_82 : decode cX6_playOnTrial 82 = .ok (.aload_n 0, 1) := by decide +kernel
theorem dX6_playOnTrial_83 : decode cX6_playOnTrial 83 = .ok (.getfield 33, 3) := by decide +kernel
theorem dX6_playOnTrial_86 : decode cX6_playOnTrial 86 = .ok (.iload 6, 2) := by decide +kernel
theorem dX6_playOnTrial_88 : decode cX6_playOnTrial 88 = .ok (.iload 7, 2) := by decide +kernel
theorem dX6_playOnTrial_90 : decode cX6_playOnTrial 90 = .ok (.iload 8, 2) := by decide +kernel
theorem dX6_playOnTrial_92 : decode cX6_playOnTrial 92 = .ok (.invokevirtual 108, 3) := by decide +kernel
theorem dX6_playOnTrial_95 : decode cX6_playOnTrial 95 = .ok (.pop, 1) := by decide +kernel
theorem dX6_playOnTrial_96 : decode cX6_playOnTrial 96 = .ok (.goto 57, 3) := by decide +kernel
theorem dX6_playOnTrial_99 : decode cX6_playOnTrial 99 = .ok (.iload 5, 2) := by decide +kernel
theorem dX6_playOnTrial_101 : decode cX6_playOnTrial 101 = .ok (.iconst 5, 1) := by decide +kernel
theorem dX6_playOnTrial_102 : decode cX6_playOnTrial 102 = .ok (.if_icmp .gt 20, 3) := by decide +kernel
theorem dX6_playOnTrial_105 : decode cX6_playOnTrial 105 = .ok (.aload_n 0, 1) := by decide +kernel
theorem dX6_playOnTrial_106 : decode cX6_playOnTrial 106 = .ok (.getfield 33, 3) := by decide +kernel
theorem dX6_playOnTrial_109 : decode cX6_playOnTrial 109 = .ok (.iload 6, 2) := by decide +kernel
theorem dX6_playOnTrial_111 : decode cX6_playOnTrial 111 = .ok (.iload 8, 2) := by decide +kernel
theorem dX6_playOnTrial_113 : decode cX6_playOnTrial 113 = .ok (.iload 7, 2) := by decide +kernel
theorem dX6_playOnTrial_115 : decode cX6_playOnTrial 115 = .ok (.invokevirtual 115, 3) := by decide +kernel
theorem dX6_playOnTrial_118 : decode cX6_playOnTrial 118 = .ok (.pop, 1) := by decide +kernel
theorem dX6_playOnTrial_119 : decode cX6_playOnTrial 119 = .ok (.goto 34, 3) := by decide +kernel
theorem dX6_playOnTrial_122 : decode cX6_playOnTrial 122 = .ok (.aload_n 0, 1) := by decide +kernel
theorem dX6_playOnTrial_123 : decode cX6_playOnTrial 123 = .ok (.getfield 33, 3) := by decide +kernel
theorem dX6_playOnTrial_126 : decode cX6_playOnTrial 126 = .ok (.getfield 119, 3) := by decide +kernel
theorem dX6_playOnTrial_129 : decode cX6_playOnTrial 129 = .ok (.iload 6, 2) := by decide +kernel
theorem dX6_playOnTrial_131 : decode cX6_playOnTrial 131 = .ok (.iload 5, 2) := by decide +kernel
theorem dX6_playOnTrial_133 : decode cX6_playOnTrial 133 = .ok (.bipush 6, 2) := by decide +kernel
theorem dX6_playOnTrial_135 : decode cX6_playOnTrial 135 = .ok (.if_icmp .ne 16, 3) := by decide +kernel
theorem dX6_playOnTrial_138 : decode cX6_playOnTrial 138 = .ok (.aload_n 0, 1) := by decide +kernel
theorem dX6_playOnTrial_139 : decode cX6_playOnTrial 139 = .ok (.getfield 33, 3) := by decide +kernel
theorem dX6_playOnTrial_142 : decode cX6_playOnTrial 142 = .ok (.getfield 119, 3) := by decide +kernel
theorem dX6_playOnTrial_145 : decode cX6_playOnTrial 145 = .ok (.iload 7, 2) := by decide +kernel
theorem dX6_playOnTrial_147 : decode cX6_playOnTrial 147 = .ok (.iaload, 1) := by decide +kernel
theorem dX6_playOnTrial_148 : decode cX6_playOnTrial 148 = .ok (.goto 4, 3) := by decide +kernel
theorem dX6_playOnTrial_151 : decode cX6_playOnTrial 151 = .ok (.iconst (-1), 1) := by decide +kernel
theorem dX6_playOnTrial_152 : decode cX6_playOnTrial 152 = .ok (.iastore, 1) := by decide +kernel
theorem dX6_playOnTrial_153 : decode cX6_playOnTrial 153 = .ok (.iinc 4 1, 3) := by decide +kernel
theorem dX6_playOnTrial_156 : decode cX6_playOnTrial 156 = .ok (.goto (-151), 3) := by decide +kernel
theorem dX6_playOnTrial_159 : decode cX6_playOnTrial 159 = .ok (.return_, 1) := by decide +kernel
theorem dX6_drawn_0 : decode cX6_drawn 0 = .ok (.sipush 137, 3) := by decide +kernel
theorem dX6_drawn_3 : decode cX6_drawn 3 = .ok (.iload_n 0, 1) := by decide +kernel
theorem dX6_drawn_4 : decode cX6_drawn 4 = .ok (.imul, 1) := by decide +kernel
theorem dX6_drawn_5 : decode cX6_drawn 5 = .ok (.bipush 71, 2) := by decide +kernel
theorem dX6_drawn_7 : decode cX6_drawn 7 = .ok (.iadd, 1) := by decide +kernel
theorem dX6_drawn_8 : decode cX6_drawn 8 = .ok (.sipush 10007, 3) := by decide +kernel
theorem dX6_drawn_11 : decode cX6_drawn 11 = .ok (.irem, 1) := by decide +kernel
theorem dX6_drawn_12 : decode cX6_drawn 12 = .ok (.ireturn, 1) := by decide +kernel
theorem dX6_isRoot_0 : decode cX6_isRoot 0 = .ok (.iload_n 0, 1) := by decide +kernel
theorem dX6_isRoot_1 : decode cX6_isRoot 1 = .ok (.ifCond .lt 13, 3) := by decide +kernel
theorem dX6_isRoot_4 : decode cX6_isRoot 4 = .ok (.iload_n 0, 1) := by decide +kernel
theorem dX6_isRoot_5 : decode cX6_isRoot 5 = .ok (.bipush 6, 2) := by decide +kernel
theorem dX6_isRoot_7 : decode cX6_isRoot 7 = .ok (.if_icmp .ge 7, 3) := by decide +kernel
theorem dX6_isRoot_10 : decode cX6_isRoot 10 = .ok (.iconst 1, 1) := by decide +kernel
theorem dX6_isRoot_11 : decode cX6_isRoot 11 = .ok (.goto 4, 3) := by decide +kernel
theorem dX6_isRoot_14 : decode cX6_isRoot 14 = .ok (.iconst 0, 1) := by decide +kernel
theorem dX6_isRoot_15 : decode cX6_isRoot 15 = .ok (.ireturn, 1) := by decide +kernel
theorem dX6_isRootOrNone_0 : decode cX6_isRootOrNone 0 = .ok (.iload_n 0, 1) := by decide +kernel
theorem dX6_isRootOrNone_1 : decode cX6_isRootOrNone 1 = .ok (.iconst (-1), 1) := by decide +kernel
theorem dX6_isRootOrNone_2 : decode cX6_isRootOrNone 2 = .ok (.if_icmp .eq 10, 3) := by decide +kernel
theorem dX6_isRootOrNone_5 : decode cX6_isRootOrNone 5 = .ok (.iload_n 0, 1) := by decide +kernel
theorem dX6_isRootOrNone_6 : decode cX6_isRootOrNone 6 = .ok (.invokestatic 91, 3) := by decide +kernel
theorem dX6_isRootOrNone_9 : decode cX6_isRootOrNone 9 = .ok (.ifCond .eq 7, 3) := by decide +kernel
theorem dX6_isRootOrNone_12 : decode cX6_isRootOrNone 12 = .ok (.iconst 1, 1) := by decide +kernel
theorem dX6_isRootOrNone_13 : decode cX6_isRootOrNone 13 = .ok (.goto 4, 3) := by decide +kernel
theorem dX6_isRootOrNone_16 : decode cX6_isRootOrNone 16 = .ok (.iconst 0, 1) := by decide +kernel
theorem dX6_isRootOrNone_17 : decode cX6_isRootOrNone 17 = .ok (.ireturn, 1) := by decide +kernel
theorem dX6_isWeak_0 : decode cX6_isWeak 0 = .ok (.iload_n 0, 1) := by decide +kernel
theorem dX6_isWeak_1 : decode cX6_isWeak 1 = .ok (.ifCond .lt 12, 3) := by decide +kernel
theorem dX6_isWeak_4 : decode cX6_isWeak 4 = .ok (.iload_n 0, 1) := by decide +kernel
theorem dX6_isWeak_5 : decode cX6_isWeak 5 = .ok (.iconst 4, 1) := by decide +kernel
theorem dX6_isWeak_6 : decode cX6_isWeak 6 = .ok (.if_icmp .ge 7, 3) := by decide +kernel
theorem dX6_isWeak_9 : decode cX6_isWeak 9 = .ok (.iconst 1, 1) := by decide +kernel
theorem dX6_isWeak_10 : decode cX6_isWeak 10 = .ok (.goto 4, 3) := by decide +kernel
theorem dX6_isWeak_13 : decode cX6_isWeak 13 = .ok (.iconst 0, 1) := by decide +kernel
theorem dX6_isWeak_14 : decode cX6_isWeak 14 = .ok (.ireturn, 1) := by decide +kernel
theorem dX6_isFieldCount_0 : decode cX6_isFieldCount 0 = .ok (.iload_n 0, 1) := by decide +kernel
theorem dX6_isFieldCount_1 : decode cX6_isFieldCount 1 = .ok (.ifCond .lt 13, 3) := by decide +kernel
theorem dX6_isFieldCount_4 : decode cX6_isFieldCount 4 = .ok (.iload_n 0, 1) := by decide +kernel
theorem dX6_isFieldCount_5 : decode cX6_isFieldCount 5 = .ok (.bipush 7, 2) := by decide +kernel
theorem dX6_isFieldCount_7 : decode cX6_isFieldCount 7 = .ok (.if_icmp .gt 7, 3) := by decide +kernel
theorem dX6_isFieldCount_10 : decode cX6_isFieldCount 10 = .ok (.iconst 1, 1) := by decide +kernel
theorem dX6_isFieldCount_11 : decode cX6_isFieldCount 11 = .ok (.goto 4, 3) := by decide +kernel
theorem dX6_isFieldCount_14 : decode cX6_isFieldCount 14 = .ok (.iconst 0, 1) := by decide +kernel
theorem dX6_isFieldCount_15 : decode cX6_isFieldCount 15 = .ok (.ireturn, 1) := by decide +kernel
theorem dX6_isSize_0 : decode cX6_isSize 0 = .ok (.iload_n 0, 1) := by decide +kernel
theorem dX6_isSize_1 : decode cX6_isSize 1 = .ok (.iconst 2, 1) := by decide +kernel
theorem dX6_isSize_2 : decode cX6_isSize 2 = .ok (.if_icmp .eq 14, 3) := by decide +kernel
theorem dX6_isSize_5 : decode cX6_isSize 5 = .ok (.iload_n 0, 1) := by decide +kernel
theorem dX6_isSize_6 : decode cX6_isSize 6 = .ok (.iconst 4, 1) := by decide +kernel
theorem dX6_isSize_7 : decode cX6_isSize 7 = .ok (.if_icmp .eq 9, 3) := by decide +kernel
theorem dX6_isSize_10 : decode cX6_isSize 10 = .ok (.iload_n 0, 1) := by decide +kernel
theorem dX6_isSize_11 : decode cX6_isSize 11 = .ok (.bipush 8, 2) := by decide +kernel
theorem dX6_isSize_13 : decode cX6_isSize 13 = .ok (.if_icmp .ne 7, 3) := by decide +kernel
theorem dX6_isSize_16 : decode cX6_isSize 16 = .ok (.iconst 1, 1) := by decide +kernel
theorem dX6_isSize_17 : decode cX6_isSize 17 = .ok (.goto 4, 3) := by decide +kernel
theorem dX6_isSize_20 : decode cX6_isSize 20 = .ok (.iconst 0, 1) := by decide +kernel
theorem dX6_isSize_21 : decode cX6_isSize 21 = .ok (.ireturn, 1) := by decide +kernel
theorem dX7_init_0 : decode cX7_init 0 = .ok (.aload_n 0, 1) := by decide +kernel
theorem dX7_init_1 : decode cX7_init 1 = .ok (.invokespecial 1, 3) := by decide +kernel
theorem dX7_init_4 : decode cX7_init 4 = .ok (.aload_n 0, 1) := by decide +kernel
theorem dX7_init_5 : decode cX7_init 5 = .ok (.sipush 790, 3) := by decide +kernel
theorem dX7_init_8 : decode cX7_init 8 = .ok (.newarray .int, 2) := by decide +kernel
theorem dX7_init_10 : decode cX7_init 10 = .ok (.putfield 7, 3) := by decide +kernel
theorem dX7_init_13 : decode cX7_init 13 = .ok (.aload_n 0, 1) := by decide +kernel
theorem dX7_init_14 : decode cX7_init 14 = .ok (.sipush 128, 3) := by decide +kernel
theorem dX7_init_17 : decode cX7_init 17 = .ok (.newarray .boolean, 2) := by decide +kernel
theorem dX7_init_19 : decode cX7_init 19 = .ok (.putfield 13, 3) := by decide +kernel
theorem dX7_init_22 : decode cX7_init 22 = .ok (.aload_n 0, 1) := by decide +kernel
theorem dX7_init_23 : decode cX7_init 23 = .ok (.sipush 128, 3) := by decide +kernel
theorem dX7_init_26 : decode cX7_init 26 = .ok (.newarray .boolean, 2) := by decide +kernel
theorem dX7_init_28 : decode cX7_init 28 = .ok (.putfield 17, 3) := by decide +kernel
theorem dX7_init_31 : decode cX7_init 31 = .ok (.aload_n 0, 1) := by decide +kernel
theorem dX7_init_32 : decode cX7_init 32 = .ok (.sipush 128, 3) := by decide +kernel
theorem dX7_init_35 : decode cX7_init 35 = .ok (.newarray .int, 2) := by decide +kernel
theorem dX7_init_37 : decode cX7_init 37 = .ok (.putfield 20, 3) := by decide +kernel
theorem dX7_init_40 : decode cX7_init 40 = .ok (.aload_n 0, 1) := by decide +kernel
theorem dX7_init_41 : decode cX7_init 41 = .ok (.sipush 128, 3) := by decide +kernel
theorem dX7_init_44 : decode cX7_init 44 = .ok (.newarray .int, 2) := by decide +kernel
theorem dX7_init_46 : decode cX7_init 46 = .ok (.putfield 23, 3) := by decide +kernel
theorem dX7_init_49 : decode cX7_init 49 = .ok (.aload_n 0, 1) := by decide +kernel
theorem dX7_init_50 : decode cX7_init 50 = .ok (.sipush 790, 3) := by decide +kernel
theorem dX7_init_53 : decode cX7_init 53 = .ok (.newarray .int, 2) := by decide +kernel
theorem dX7_init_55 : decode cX7_init 55 = .ok (.putfield 26, 3) := by decide +kernel
theorem dX7_init_58 : decode cX7_init 58 = .ok (.aload_n 0, 1) := by decide +kernel
theorem dX7_init_59 : decode cX7_init 59 = .ok (.sipush 790, 3) := by decide +kernel
theorem dX7_init_62 : decode cX7_init 62 = .ok (.newarray .int, 2) := by decide +kernel
theorem dX7_init_64 : decode cX7_init 64 = .ok (.putfield 29, 3) := by decide +kernel
theorem dX7_init_67 : decode cX7_init 67 = .ok (.aload_n 0, 1) := by decide +kernel
theorem dX7_init_68 : decode cX7_init 68 = .ok (.sipush 400, 3) := by decide +kernel
theorem dX7_init_71 : decode cX7_init 71 = .ok (.newarray .int, 2) := by decide +kernel
theorem dX7_init_73 : decode cX7_init 73 = .ok (.putfield 32, 3) := by decide +kernel
theorem dX7_init_76 : decode cX7_init 76 = .ok (.aload_n 0, 1) := by decide +kernel
theorem dX7_init_77 : decode cX7_init 77 = .ok (.bipush 41, 2) := by decide +kernel
theorem dX7_init_79 : decode cX7_init 79 = .ok (.newarray .int, 2) := by decide +kernel
theorem dX7_init_81 : decode cX7_init 81 = .ok (.putfield 35, 3) := by decide +kernel
theorem dX7_init_84 : decode cX7_init 84 = .ok (.aload_n 0, 1) := by decide +kernel
theorem dX7_init_85 : decode cX7_init 85 = .ok (.bipush 41, 2) := by decide +kernel
theorem dX7_init_87 : decode cX7_init 87 = .ok (.newarray .int, 2) := by decide +kernel
theorem dX7_init_89 : decode cX7_init 89 = .ok (.putfield 38, 3) := by decide +kernel
theorem dX7_init_92 : decode cX7_init 92 = .ok (.aload_n 0, 1) := by decide +kernel
theorem dX7_init_93 : decode cX7_init 93 = .ok (.bipush 41, 2) := by decide +kernel
theorem dX7_init_95 : decode cX7_init 95 = .ok (.newarray .int, 2) := by decide +kernel
theorem dX7_init_97 : decode cX7_init 97 = .ok (.putfield 41, 3) := by decide +kernel
theorem dX7_init_100 : decode cX7_init 100 = .ok (.aload_n 0, 1) := by decide +kernel
theorem dX7_init_101 : decode cX7_init 101 = .ok (.bipush 41, 2) := by decide +kernel
theorem dX7_init_103 : decode cX7_init 103 = .ok (.newarray .int, 2) := by decide +kernel
theorem dX7_init_105 : decode cX7_init 105 = .ok (.putfield 44, 3) := by decide +kernel
theorem dX7_init_108 : decode cX7_init 108 = .ok (.aload_n 0, 1) := by decide +kernel
theorem dX7_init_109 : decode cX7_init 109 = .ok (.bipush 41, 2) := by decide +kernel
theorem dX7_init_111 : decode cX7_init 111 = .ok (.newarray .int, 2) := by decide +kernel
theorem dX7_init_113 : decode cX7_init 113 = .ok (.putfield 47, 3) := by decide +kernel
theorem dX7_init_116 : decode cX7_init 116 = .ok (.aload_n 0, 1) := by decide +kernel
theorem dX7_init_117 : decode cX7_init 117 = .ok (.bipush 41, 2) := by decide +kernel
theorem dX7_init_119 : decode cX7_init 119 = .ok (.newarray .int, 2) := by decide +kernel
theorem dX7_init_121 : decode cX7_init 121 = .ok (.putfield 50, 3) := by decide +kernel
theorem dX7_init_124 : decode cX7_init 124 = .ok (.aload_n 0, 1) := by decide +kernel
theorem dX7_init_125 : decode cX7_init 125 = .ok (.bipush 41, 2) := by decide +kernel
theorem dX7_init_127 : decode cX7_init 127 = .ok (.newarray .int, 2) := by decide +kernel
theorem dX7_init_129 : decode cX7_init 129 = .ok (.putfield 53, 3) := by decide +kernel
theorem dX7_init_132 : decode cX7_init 132 = .ok (.aload_n 0, 1) := by decide +kernel
theorem dX7_init_133 : decode cX7_init 133 = .ok (.bipush 41, 2) := by decide +kernel
theorem dX7_init_135 : decode cX7_init 135 = .ok (.newarray .int, 2) := by decide +kernel
theorem dX7_init_137 : decode cX7_init 137 = .ok (.putfield 56, 3) := by decide +kernel
theorem dX7_init_140 : decode cX7_init 140 = .ok (.aload_n 0, 1) := by decide +kernel
theorem dX7_init_141 : decode cX7_init 141 = .ok (.bipush 41, 2) := by decide +kernel
theorem dX7_init_143 : decode cX7_init 143 = .ok (.newarray .int, 2) := by decide +kernel
theorem dX7_init_145 : decode cX7_init 145 = .ok (.putfield 59, 3) := by decide +kernel
theorem dX7_init_148 : decode cX7_init 148 = .ok (.aload_n 0, 1) := by decide +kernel
theorem dX7_init_149 : decode cX7_init 149 = .ok (.bipush 41, 2) := by decide +kernel
theorem dX7_init_151 : decode cX7_init 151 = .ok (.newarray .int, 2) := by decide +kernel
theorem dX7_init_153 : decode cX7_init 153 = .ok (.putfield 62, 3) := by decide +kernel
theorem dX7_init_156 : decode cX7_init 156 = .ok (.aload_n 0, 1) := by decide +kernel
theorem dX7_init_157 : decode cX7_init 157 = .ok (.iconst (-1), 1) := by decide +kernel
theorem dX7_init_158 : decode cX7_init 158 = .ok (.putfield 65, 3) := by decide +kernel
theorem dX7_init_161 : decode cX7_init 161 = .ok (.aload_n 0, 1) := by decide +kernel
theorem dX7_init_162 : decode cX7_init 162 = .ok (.iconst 5, 1) := by decide +kernel
theorem dX7_init_163 : decode cX7_init 163 = .ok (.newarray .int, 2) := by decide +kernel
theorem dX7_init_165 : decode cX7_init 165 = .ok (.putfield 69, 3) := by decide +kernel
theorem dX7_init_168 : decode cX7_init 168 = .ok (.aload_n 0, 1) := by decide +kernel
theorem dX7_init_169 : decode cX7_init 169 = .ok (.iconst 5, 1) := by decide +kernel
theorem dX7_init_170 : decode cX7_init 170 = .ok (.newarray .int, 2) := by decide +kernel
theorem dX7_init_172 : decode cX7_init 172 = .ok (.putfield 72, 3) := by decide +kernel
theorem dX7_init_175 : decode cX7_init 175 = .ok (.aload_n 0, 1) := by decide +kernel
theorem dX7_init_176 : decode cX7_init 176 = .ok (.iconst 5, 1) := by decide +kernel
theorem dX7_init_177 : decode cX7_init 177 = .ok (.newarray .int, 2) := by decide +kernel
theorem dX7_init_179 : decode cX7_init 179 = .ok (.putfield 75, 3) := by decide +kernel
theorem dX7_init_182 : decode cX7_init 182 = .ok (.aload_n 0, 1) := by decide +kernel
theorem dX7_init_183 : decode cX7_init 183 = .ok (.iconst 5, 1) := by decide +kernel
theorem dX7_init_184 : decode cX7_init 184 = .ok (.newarray .int, 2) := by decide +kernel
theorem dX7_init_186 : decode cX7_init 186 = .ok (.putfield 78, 3) := by decide +kernel
theorem dX7_init_189 : decode cX7_init 189 = .ok (.aload_n 0, 1) := by decide +kernel
theorem dX7_init_190 : decode cX7_init 190 = .ok (.sipush 16590, 3) := by decide +kernel
theorem dX7_init_193 : decode cX7_init 193 = .ok (.newarray .int, 2) := by decide +kernel
theorem dX7_init_195 : decode cX7_init 195 = .ok (.putfield 81, 3) := by decide +kernel
theorem dX7_init_198 : decode cX7_init 198 = .ok (.aload_n 0, 1) := by decide +kernel
theorem dX7_init_199 : decode cX7_init 199 = .ok (.sipush 1580, 3) := by decide +kernel
theorem dX7_init_202 : decode cX7_init 202 = .ok (.newarray .int, 2) := by decide +kernel
theorem dX7_init_204 : decode cX7_init 204 = .ok (.putfield 84, 3) := by decide +kernel
theorem dX7_init_207 : decode cX7_init 207 = .ok (.aload_n 0, 1) := by decide +kernel
theorem dX7_init_208 : decode cX7_init 208 = .ok (.iconst 2, 1) := by decide +kernel
theorem dX7_init_209 : decode cX7_init 209 = .ok (.newarray .boolean, 2) := by decide +kernel
theorem dX7_init_211 : decode cX7_init 211 = .ok (.putfield 87, 3) := by decide +kernel
theorem dX7_init_214 : decode cX7_init 214 = .ok (.aload_n 0, 1) := by decide +kernel
theorem dX7_init_215 : decode cX7_init 215 = .ok (.bipush 8, 2) := by decide +kernel
theorem dX7_init_217 : decode cX7_init 217 = .ok (.invokevirtual 90, 3) := by decide +kernel
theorem dX7_init_220 : decode cX7_init 220 = .ok (.return_, 1) := by decide +kernel
theorem dX7_beginAnew_0 : decode cX7_beginAnew 0 = .ok (.iconst 0, 1) := by decide +kernel
theorem dX7_beginAnew_1 : decode cX7_beginAnew 1 = .ok (.istore_n 2, 1) := by decide +kernel
theorem dX7_beginAnew_2 : decode cX7_beginAnew 2 = .ok (.iload_n 2, 1) := by decide +kernel
theorem dX7_beginAnew_3 : decode cX7_beginAnew 3 = .ok (.sipush 790, 3) := by decide +kernel
end
section
theorem dX7_beginAnew_6 : decode cX7_beginAnew 6 = .ok (.if_icmp .ge 16, 3) := by decide +kernel
theorem dX7_beginAnew_9 : decode cX7_beginAnew 9 = .ok (.aload_n 0, 1) := by decide +kernel
theorem dX7_beginAnew_10 : decode cX7_beginAnew 10 = .ok (.getfield 7, 3) := by decide +kernel
theorem dX7_beginAnew_13 : decode cX7_beginAnew 13 = .ok (.iload_n 2, 1) := by decide +kernel
theorem dX7_beginAnew_14 : decode cX7_beginAnew 14 = .ok (.iconst 0, 1) := by decide +kernel
theorem dX7_beginAnew_15 : decode cX7_beginAnew 15 = .ok (.iastore, 1) := by decide +kernel
theorem dX7_beginAnew_16 : decode cX7_beginAnew 16 = .ok (.iinc 2 1, 3) := by decide +kernel
theorem dX7_beginAnew_19 : decode cX7_beginAnew 19 = .ok (.goto (-17), 3) := by decide +kernel
theorem dX7_beginAnew_22 : decode cX7_beginAnew 22 = .ok (.iconst 0, 1) := by decide +kernel
theorem dX7_beginAnew_23 : decode cX7_beginAnew 23 = .ok (.istore_n 2, 1) := by decide +kernel
theorem dX7_beginAnew_24 : decode cX7_beginAnew 24 = .ok (.iload_n 2, 1) := by decide +kernel
theorem dX7_beginAnew_25 : decode cX7_beginAnew 25 = .ok (.bipush 6, 2) := by decide +kernel
theorem dX7_beginAnew_27 : decode cX7_beginAnew 27 = .ok (.if_icmp .ge 20, 3) := by decide +kernel
theorem dX7_beginAnew_30 : decode cX7_beginAnew 30 = .ok (.aload_n 0, 1) := by decide +kernel
theorem dX7_beginAnew_31 : decode cX7_beginAnew 31 = .ok (.getfield 7, 3) := by decide +kernel
theorem dX7_beginAnew_34 : decode cX7_beginAnew 34 = .ok (.sipush 715, 3) := by decide +kernel
theorem dX7_beginAnew_37 : decode cX7_beginAnew 37 = .ok (.iload_n 2, 1) := by decide +kernel
theorem dX7_beginAnew_38 : decode cX7_beginAnew 38 = .ok (.iadd, 1) := by decide +kernel
theorem dX7_beginAnew_39 : decode cX7_beginAnew 39 = .ok (.iconst (-1), 1) := by decide +kernel
theorem dX7_beginAnew_40 : decode cX7_beginAnew 40 = .ok (.iastore, 1) := by decide +kernel
theorem dX7_beginAnew_41 : decode cX7_beginAnew 41 = .ok (.iinc 2 1, 3) := by decide +kernel
theorem dX7_beginAnew_44 : decode cX7_beginAnew 44 = .ok (.goto (-20), 3) := by decide +kernel
theorem dX7_beginAnew_47 : decode cX7_beginAnew 47 = .ok (.iconst 0, 1) := by decide +kernel
theorem dX7_beginAnew_48 : decode cX7_beginAnew 48 = .ok (.istore_n 2, 1) := by decide +kernel
theorem dX7_beginAnew_49 : decode cX7_beginAnew 49 = .ok (.iload_n 2, 1) := by decide +kernel
theorem dX7_beginAnew_50 : decode cX7_beginAnew 50 = .ok (.iconst 4, 1) := by decide +kernel
theorem dX7_beginAnew_51 : decode cX7_beginAnew 51 = .ok (.if_icmp .ge 20, 3) := by decide +kernel
theorem dX7_beginAnew_54 : decode cX7_beginAnew 54 = .ok (.aload_n 0, 1) := by decide +kernel
theorem dX7_beginAnew_55 : decode cX7_beginAnew 55 = .ok (.getfield 7, 3) := by decide +kernel
theorem dX7_beginAnew_58 : decode cX7_beginAnew 58 = .ok (.sipush 721, 3) := by decide +kernel
theorem dX7_beginAnew_61 : decode cX7_beginAnew 61 = .ok (.iload_n 2, 1) := by decide +kernel
theorem dX7_beginAnew_62 : decode cX7_beginAnew 62 = .ok (.iadd, 1) := by decide +kernel
theorem dX7_beginAnew_63 : decode cX7_beginAnew 63 = .ok (.iconst (-1), 1) := by decide +kernel
theorem dX7_beginAnew_64 : decode cX7_beginAnew 64 = .ok (.iastore, 1) := by decide +kernel
theorem dX7_beginAnew_65 : decode cX7_beginAnew 65 = .ok (.iinc 2 1, 3) := by decide +kernel
theorem dX7_beginAnew_68 : decode cX7_beginAnew 68 = .ok (.goto (-19), 3) := by decide +kernel
theorem dX7_beginAnew_71 : decode cX7_beginAnew 71 = .ok (.aload_n 0, 1) := by decide +kernel
theorem dX7_beginAnew_72 : decode cX7_beginAnew 72 = .ok (.getfield 7, 3) := by decide +kernel
theorem dX7_beginAnew_75 : decode cX7_beginAnew 75 = .ok (.sipush 725, 3) := by decide +kernel
theorem dX7_beginAnew_78 : decode cX7_beginAnew 78 = .ok (.iload_n 1, 1) := by decide +kernel
theorem dX7_beginAnew_79 : decode cX7_beginAnew 79 = .ok (.iastore, 1) := by decide +kernel
theorem dX7_beginAnew_80 : decode cX7_beginAnew 80 = .ok (.aload_n 0, 1) := by decide +kernel
theorem dX7_beginAnew_81 : decode cX7_beginAnew 81 = .ok (.getfield 7, 3) := by decide +kernel
theorem dX7_beginAnew_84 : decode cX7_beginAnew 84 = .ok (.sipush 727, 3) := by decide +kernel
theorem dX7_beginAnew_87 : decode cX7_beginAnew 87 = .ok (.iconst (-1), 1) := by decide +kernel
theorem dX7_beginAnew_88 : decode cX7_beginAnew 88 = .ok (.iastore, 1) := by decide +kernel
theorem dX7_beginAnew_89 : decode cX7_beginAnew 89 = .ok (.aload_n 0, 1) := by decide +kernel
theorem dX7_beginAnew_90 : decode cX7_beginAnew 90 = .ok (.getfield 7, 3) := by decide +kernel
theorem dX7_beginAnew_93 : decode cX7_beginAnew 93 = .ok (.sipush 737, 3) := by decide +kernel
theorem dX7_beginAnew_96 : decode cX7_beginAnew 96 = .ok (.iconst 2, 1) := by decide +kernel
theorem dX7_beginAnew_97 : decode cX7_beginAnew 97 = .ok (.iastore, 1) := by decide +kernel
theorem dX7_beginAnew_98 : decode cX7_beginAnew 98 = .ok (.aload_n 0, 1) := by decide +kernel
theorem dX7_beginAnew_99 : decode cX7_beginAnew 99 = .ok (.getfield 7, 3) := by decide +kernel
theorem dX7_beginAnew_102 : decode cX7_beginAnew 102 = .ok (.sipush 738, 3) := by decide +kernel
theorem dX7_beginAnew_105 : decode cX7_beginAnew 105 = .ok (.iconst 2, 1) := by decide +kernel
theorem dX7_beginAnew_106 : decode cX7_beginAnew 106 = .ok (.iastore, 1) := by decide +kernel
theorem dX7_beginAnew_107 : decode cX7_beginAnew 107 = .ok (.return_, 1) := by decide +kernel
theorem dX7_isIn_0 : decode cX7_isIn 0 = .ok (.iload_n 0, 1) := by decide +kernel
theorem dX7_isIn_1 : decode cX7_isIn 1 = .ok (.iload_n 1, 1) := by decide +kernel
theorem dX7_isIn_2 : decode cX7_isIn 2 = .ok (.if_icmp .lt 12, 3) := by decide +kernel
theorem dX7_isIn_5 : decode cX7_isIn 5 = .ok (.iload_n 0, 1) := by decide +kernel
theorem dX7_isIn_6 : decode cX7_isIn 6 = .ok (.iload_n 2, 1) := by decide +kernel
theorem dX7_isIn_7 : decode cX7_isIn 7 = .ok (.if_icmp .gt 7, 3) := by decide +kernel
theorem dX7_isIn_10 : decode cX7_isIn 10 = .ok (.iconst 1, 1) := by decide +kernel
theorem dX7_isIn_11 : decode cX7_isIn 11 = .ok (.goto 4, 3) := by decide +kernel
theorem dX7_isIn_14 : decode cX7_isIn 14 = .ok (.iconst 0, 1) := by decide +kernel
theorem dX7_isIn_15 : decode cX7_isIn 15 = .ok (.ireturn, 1) := by decide +kernel
theorem dX7_isRoot_0 : decode cX7_isRoot 0 = .ok (.iload_n 0, 1) := by decide +kernel
theorem dX7_isRoot_1 : decode cX7_isRoot 1 = .ok (.iconst 0, 1) := by decide +kernel
theorem dX7_isRoot_2 : decode cX7_isRoot 2 = .ok (.iconst 5, 1) := by decide +kernel
theorem dX7_isRoot_3 : decode cX7_isRoot 3 = .ok (.invokestatic 94, 3) := by decide +kernel
theorem dX7_isRoot_6 : decode cX7_isRoot 6 = .ok (.ireturn, 1) := by decide +kernel
theorem dX7_isWeak_0 : decode cX7_isWeak 0 = .ok (.iload_n 0, 1) := by decide +kernel
theorem dX7_isWeak_1 : decode cX7_isWeak 1 = .ok (.iconst 0, 1) := by decide +kernel
theorem dX7_isWeak_2 : decode cX7_isWeak 2 = .ok (.iconst 3, 1) := by decide +kernel
theorem dX7_isWeak_3 : decode cX7_isWeak 3 = .ok (.invokestatic 94, 3) := by decide +kernel
theorem dX7_isWeak_6 : decode cX7_isWeak 6 = .ok (.ireturn, 1) := by decide +kernel
theorem dX7_runs_0 : decode cX7_runs 0 = .ok (.aload_n 0, 1) := by decide +kernel
theorem dX7_runs_1 : decode cX7_runs 1 = .ok (.getfield 7, 3) := by decide +kernel
theorem dX7_runs_4 : decode cX7_runs 4 = .ok (.sipush 726, 3) := by decide +kernel
theorem dX7_runs_7 : decode cX7_runs 7 = .ok (.iaload, 1) := by decide +kernel
theorem dX7_runs_8 : decode cX7_runs 8 = .ok (.iconst 1, 1) := by decide +kernel
theorem dX7_runs_9 : decode cX7_runs 9 = .ok (.if_icmp .ne 7, 3) := by decide +kernel
theorem dX7_runs_12 : decode cX7_runs 12 = .ok (.iconst 1, 1) := by decide +kernel
theorem dX7_runs_13 : decode cX7_runs 13 = .ok (.goto 4, 3) := by decide +kernel
theorem dX7_runs_16 : decode cX7_runs 16 = .ok (.iconst 0, 1) := by decide +kernel
theorem dX7_runs_17 : decode cX7_runs 17 = .ok (.ireturn, 1) := by decide +kernel
theorem dX7_colourOf_0 : decode cX7_colourOf 0 = .ok (.aload_n 0, 1) := by decide +kernel
theorem dX7_colourOf_1 : decode cX7_colourOf 1 = .ok (.getfield 7, 3) := by decide +kernel
theorem dX7_colourOf_4 : decode cX7_colourOf 4 = .ok (.iconst 0, 1) := by decide +kernel
theorem dX7_colourOf_5 : decode cX7_colourOf 5 = .ok (.iload_n 1, 1) := by decide +kernel
theorem dX7_colourOf_6 : decode cX7_colourOf 6 = .ok (.iadd, 1) := by decide +kernel
theorem dX7_colourOf_7 : decode cX7_colourOf 7 = .ok (.iaload, 1) := by decide +kernel
theorem dX7_colourOf_8 : decode cX7_colourOf 8 = .ok (.ireturn, 1) := by decide +kernel
theorem dX7_sizeAt_0 : decode cX7_sizeAt 0 = .ok (.iload_n 1, 1) := by decide +kernel
theorem dX7_sizeAt_1 : decode cX7_sizeAt 1 = .ok (.iconst 0, 1) := by decide +kernel
theorem dX7_sizeAt_2 : decode cX7_sizeAt 2 = .ok (.bipush 127, 2) := by decide +kernel
theorem dX7_sizeAt_4 : decode cX7_sizeAt 4 = .ok (.invokestatic 94, 3) := by decide +kernel
theorem dX7_sizeAt_7 : decode cX7_sizeAt 7 = .ok (.ifCond .eq 34, 3) := by decide +kernel
theorem dX7_sizeAt_10 : decode cX7_sizeAt 10 = .ok (.iload_n 1, 1) := by decide +kernel
theorem dX7_sizeAt_11 : decode cX7_sizeAt 11 = .ok (.bipush 16, 2) := by decide +kernel
theorem dX7_sizeAt_13 : decode cX7_sizeAt 13 = .ok (.idiv, 1) := by decide +kernel
theorem dX7_sizeAt_14 : decode cX7_sizeAt 14 = .ok (.aload_n 0, 1) := by decide +kernel
theorem dX7_sizeAt_15 : decode cX7_sizeAt 15 = .ok (.getfield 7, 3) := by decide +kernel
theorem dX7_sizeAt_18 : decode cX7_sizeAt 18 = .ok (.sipush 725, 3) := by decide +kernel
theorem dX7_sizeAt_21 : decode cX7_sizeAt 21 = .ok (.iaload, 1) := by decide +kernel
theorem dX7_sizeAt_22 : decode cX7_sizeAt 22 = .ok (.if_icmp .ge 19, 3) := by decide +kernel
theorem dX7_sizeAt_25 : decode cX7_sizeAt 25 = .ok (.aload_n 0, 1) := by decide +kernel
theorem dX7_sizeAt_26 : decode cX7_sizeAt 26 = .ok (.getfield 7, 3) := by decide +kernel
theorem dX7_sizeAt_29 : decode cX7_sizeAt 29 = .ok (.sipush 707, 3) := by decide +kernel
theorem dX7_sizeAt_32 : decode cX7_sizeAt 32 = .ok (.iload_n 1, 1) := by decide +kernel
theorem dX7_sizeAt_33 : decode cX7_sizeAt 33 = .ok (.bipush 16, 2) := by decide +kernel
theorem dX7_sizeAt_35 : decode cX7_sizeAt 35 = .ok (.idiv, 1) := by decide +kernel
theorem dX7_sizeAt_36 : decode cX7_sizeAt 36 = .ok (.iadd, 1) := by decide +kernel
theorem dX7_sizeAt_37 : decode cX7_sizeAt 37 = .ok (.iaload, 1) := by decide +kernel
theorem dX7_sizeAt_38 : decode cX7_sizeAt 38 = .ok (.goto 4, 3) := by decide +kernel
theorem dX7_sizeAt_41 : decode cX7_sizeAt 41 = .ok (.iconst 0, 1) := by decide +kernel
theorem dX7_sizeAt_42 : decode cX7_sizeAt 42 = .ok (.ireturn, 1) := by decide +kernel
theorem dX7_isSlot_0 : decode cX7_isSlot 0 = .ok (.aload_n 0, 1) := by decide +kernel
theorem dX7_isSlot_1 : decode cX7_isSlot 1 = .ok (.iload_n 1, 1) := by decide +kernel
theorem dX7_isSlot_2 : decode cX7_isSlot 2 = .ok (.invokevirtual 98, 3) := by decide +kernel
theorem dX7_isSlot_5 : decode cX7_isSlot 5 = .ok (.ifCond .le 17, 3) := by decide +kernel
theorem dX7_isSlot_8 : decode cX7_isSlot 8 = .ok (.iload_n 1, 1) := by decide +kernel
theorem dX7_isSlot_9 : decode cX7_isSlot 9 = .ok (.aload_n 0, 1) := by decide +kernel
theorem dX7_isSlot_10 : decode cX7_isSlot 10 = .ok (.iload_n 1, 1) := by decide +kernel
theorem dX7_isSlot_11 : decode cX7_isSlot 11 = .ok (.invokevirtual 98, 3) := by decide +kernel
theorem dX7_isSlot_14 : decode cX7_isSlot 14 = .ok (.irem, 1) := by decide +kernel
theorem dX7_isSlot_15 : decode cX7_isSlot 15 = .ok (.ifCond .ne 7, 3) := by decide +kernel
theorem dX7_isSlot_18 : decode cX7_isSlot 18 = .ok (.iconst 1, 1) := by decide +kernel
theorem dX7_isSlot_19 : decode cX7_isSlot 19 = .ok (.goto 4, 3) := by decide +kernel
theorem dX7_isSlot_22 : decode cX7_isSlot 22 = .ok (.iconst 0, 1) := by decide +kernel
theorem dX7_isSlot_23 : decode cX7_isSlot 23 = .ok (.ireturn, 1) := by decide +kernel
theorem dX7_isObject_0 : decode cX7_isObject 0 = .ok (.aload_n 0, 1) := by decide +kernel
theorem dX7_isObject_1 : decode cX7_isObject 1 = .ok (.iload_n 1, 1) := by decide +kernel
theorem dX7_isObject_2 : decode cX7_isObject 2 = .ok (.invokevirtual 102, 3) := by decide +kernel
theorem dX7_isObject_5 : decode cX7_isObject 5 = .ok (.ifCond .eq 15, 3) := by decide +kernel
theorem dX7_isObject_8 : decode cX7_isObject 8 = .ok (.aload_n 0, 1) := by decide +kernel
theorem dX7_isObject_9 : decode cX7_isObject 9 = .ok (.iload_n 1, 1) := by decide +kernel
theorem dX7_isObject_10 : decode cX7_isObject 10 = .ok (.invokevirtual 106, 3) := by decide +kernel
theorem dX7_isObject_13 : decode cX7_isObject 13 = .ok (.ifCond .eq 7, 3) := by decide +kernel
theorem dX7_isObject_16 : decode cX7_isObject 16 = .ok (.iconst 1, 1) := by decide +kernel
theorem dX7_isObject_17 : decode cX7_isObject 17 = .ok (.goto 4, 3) := by decide +kernel
theorem dX7_isObject_20 : decode cX7_isObject 20 = .ok (.iconst 0, 1) := by decide +kernel
theorem dX7_isObject_21 : decode cX7_isObject 21 = .ok (.ireturn, 1) := by decide +kernel
theorem dX7_hasField_0 : decode cX7_hasField 0 = .ok (.aload_n 0, 1) := by decide +kernel
theorem dX7_hasField_1 : decode cX7_hasField 1 = .ok (.iload_n 1, 1) := by decide +kernel
theorem dX7_hasField_2 : decode cX7_hasField 2 = .ok (.invokevirtual 109, 3) := by decide +kernel
theorem dX7_hasField_5 : decode cX7_hasField 5 = .ok (.ifCond .eq 27, 3) := by decide +kernel
theorem dX7_hasField_8 : decode cX7_hasField 8 = .ok (.iload_n 2, 1) := by decide +kernel
theorem dX7_hasField_9 : decode cX7_hasField 9 = .ok (.iconst 0, 1) := by decide +kernel
theorem dX7_hasField_10 : decode cX7_hasField 10 = .ok (.aload_n 0, 1) := by decide +kernel
theorem dX7_hasField_11 : decode cX7_hasField 11 = .ok (.getfield 7, 3) := by decide +kernel
theorem dX7_hasField_14 : decode cX7_hasField 14 = .ok (.sipush 128, 3) := by decide +kernel
theorem dX7_hasField_17 : decode cX7_hasField 17 = .ok (.iload_n 1, 1) := by decide +kernel
theorem dX7_hasField_18 : decode cX7_hasField 18 = .ok (.iadd, 1) := by decide +kernel
theorem dX7_hasField_19 : decode cX7_hasField 19 = .ok (.iaload, 1) := by decide +kernel
theorem dX7_hasField_20 : decode cX7_hasField 20 = .ok (.iconst 1, 1) := by decide +kernel
theorem dX7_hasField_21 : decode cX7_hasField 21 = .ok (.isub, 1) := by decide +kernel
theorem dX7_hasField_22 : decode cX7_hasField 22 = .ok (.invokestatic 94, 3) := by decide +kernel
theorem dX7_hasField_25 : decode cX7_hasField 25 = .ok (.ifCond .eq 7, 3) := by decide +kernel
theorem dX7_hasField_28 : decode cX7_hasField 28 = .ok (.iconst 1, 1) := by decide +kernel
theorem dX7_hasField_29 : decode cX7_hasField 29 = .ok (.goto 4, 3) := by decide +kernel
theorem dX7_hasField_32 : decode cX7_hasField 32 = .ok (.iconst 0, 1) := by decide +kernel
theorem dX7_hasField_33 : decode cX7_hasField 33 = .ok (.ireturn, 1) := by decide +kernel
theorem dX7_fieldAt_0 : decode cX7_fieldAt 0 = .ok (.sipush 256, 3) := by decide +kernel
theorem dX7_fieldAt_3 : decode cX7_fieldAt 3 = .ok (.iload_n 0, 1) := by decide +kernel
theorem dX7_fieldAt_4 : decode cX7_fieldAt 4 = .ok (.iadd, 1) := by decide +kernel
theorem dX7_fieldAt_5 : decode cX7_fieldAt 5 = .ok (.iconst 1, 1) := by decide +kernel
theorem dX7_fieldAt_6 : decode cX7_fieldAt 6 = .ok (.iadd, 1) := by decide +kernel
theorem dX7_fieldAt_7 : decode cX7_fieldAt 7 = .ok (.iload_n 1, 1) := by decide +kernel
theorem dX7_fieldAt_8 : decode cX7_fieldAt 8 = .ok (.iadd, 1) := by decide +kernel
theorem dX7_fieldAt_9 : decode cX7_fieldAt 9 = .ok (.ireturn, 1) := by decide +kernel
theorem dX7_ringOf_0 : decode cX7_ringOf 0 = .ok (.iload_n 0, 1) := by decide +kernel
theorem dX7_ringOf_1 : decode cX7_ringOf 1 = .ok (.iconst 2, 1) := by decide +kernel
theorem dX7_ringOf_2 : decode cX7_ringOf 2 = .ok (.if_icmp .ne 7, 3) := by decide +kernel
theorem dX7_ringOf_5 : decode cX7_ringOf 5 = .ok (.iconst 0, 1) := by decide +kernel
theorem dX7_ringOf_6 : decode cX7_ringOf 6 = .ok (.goto 13, 3) := by decide +kernel
theorem dX7_ringOf_9 : decode cX7_ringOf 9 = .ok (.iload_n 0, 1) := by decide +kernel
theorem dX7_ringOf_10 : decode cX7_ringOf 10 = .ok (.iconst 4, 1) := by decide +kernel
theorem dX7_ringOf_11 : decode cX7_ringOf 11 = .ok (.if_icmp .ne 7, 3) := by decide +kernel
theorem dX7_ringOf_14 : decode cX7_ringOf 14 = .ok (.iconst 1, 1) := by decide +kernel
theorem dX7_ringOf_15 : decode cX7_ringOf 15 = .ok (.goto 4, 3) := by decide +kernel
theorem dX7_ringOf_18 : decode cX7_ringOf 18 = .ok (.iconst 2, 1) := by decide +kernel
theorem dX7_ringOf_19 : decode cX7_ringOf 19 = .ok (.ireturn, 1) := by decide +kernel
theorem dX7_sizeOfRing_0 : decode cX7_sizeOfRing 0 = .ok (.iconst 2, 1) := by decide +kernel
theorem dX7_sizeOfRing_1 : decode cX7_sizeOfRing 1 = .ok (.iload_n 0, 1) := by decide +kernel
theorem dX7_sizeOfRing_2 : decode cX7_sizeOfRing 2 = .ok (.ishl, 1) := by decide +kernel
theorem dX7_sizeOfRing_3 : decode cX7_sizeOfRing 3 = .ok (.ireturn, 1) := by decide +kernel
theorem dX7_sizeFor_0 : decode cX7_sizeFor 0 = .ok (.iload_n 0, 1) := by decide +kernel
theorem dX7_sizeFor_1 : decode cX7_sizeFor 1 = .ok (.iconst 2, 1) := by decide +kernel
theorem dX7_sizeFor_2 : decode cX7_sizeFor 2 = .ok (.if_icmp .ge 7, 3) := by decide +kernel
theorem dX7_sizeFor_5 : decode cX7_sizeFor 5 = .ok (.iconst 2, 1) := by decide +kernel
theorem dX7_sizeFor_6 : decode cX7_sizeFor 6 = .ok (.goto 14, 3) := by decide +kernel
theorem dX7_sizeFor_9 : decode cX7_sizeFor 9 = .ok (.iload_n 0, 1) := by decide +kernel
theorem dX7_sizeFor_10 : decode cX7_sizeFor 10 = .ok (.iconst 4, 1) := by decide +kernel
theorem dX7_sizeFor_11 : decode cX7_sizeFor 11 = .ok (.if_icmp .ge 7, 3) := by decide +kernel
theorem dX7_sizeFor_14 : decode cX7_sizeFor 14 = .ok (.iconst 4, 1) := by decide +kernel
theorem dX7_sizeFor_15 : decode cX7_sizeFor 15 = .ok (.goto 5, 3) := by decide +kernel
theorem dX7_sizeFor_18 : decode cX7_sizeFor 18 = .ok (.bipush 8, 2) := by decide +kernel
theorem dX7_sizeFor_20 : decode cX7_sizeFor 20 = .ok (.ireturn, 1) := by decide +kernel
theorem dX7_longOf_0 : decode cX7_longOf 0 = .ok (.aload_n 0, 1) := by decide +kernel
theorem dX7_longOf_1 : decode cX7_longOf 1 = .ok (.getfield 7, 3) := by decide +kernel
theorem dX7_longOf_4 : decode cX7_longOf 4 = .ok (.sipush 704, 3) := by decide +kernel
theorem dX7_longOf_7 : decode cX7_longOf 7 = .ok (.iload_n 1, 1) := by decide +kernel
theorem dX7_longOf_8 : decode cX7_longOf 8 = .ok (.iadd, 1) := by decide +kernel
theorem dX7_longOf_9 : decode cX7_longOf 9 = .ok (.iaload, 1) := by decide +kernel
theorem dX7_longOf_10 : decode cX7_longOf 10 = .ok (.ireturn, 1) := by decide +kernel
theorem dX7_ringAt_0 : decode cX7_ringAt 0 = .ok (.sipush 512, 3) := by decide +kernel
theorem dX7_ringAt_3 : decode cX7_ringAt 3 = .ok (.bipush 64, 2) := by decide +kernel
theorem dX7_ringAt_5 : decode cX7_ringAt 5 = .ok (.iload_n 0, 1) := by decide +kernel
theorem dX7_ringAt_6 : decode cX7_ringAt 6 = .ok (.imul, 1) := by decide +kernel
theorem dX7_ringAt_7 : decode cX7_ringAt 7 = .ok (.iadd, 1) := by decide +kernel
theorem dX7_ringAt_8 : decode cX7_ringAt 8 = .ok (.iload_n 1, 1) := by decide +kernel
theorem dX7_ringAt_9 : decode cX7_ringAt 9 = .ok (.iadd, 1) := by decide +kernel
theorem dX7_ringAt_10 : decode cX7_ringAt 10 = .ok (.ireturn, 1) := by decide +kernel
theorem dX7_takeOut_0 : decode cX7_takeOut 0 = .ok (.iconst 0, 1) := by decide +kernel
theorem dX7_takeOut_1 : decode cX7_takeOut 1 = .ok (.istore_n 3, 1) := by decide +kernel
theorem dX7_takeOut_2 : decode cX7_takeOut 2 = .ok (.aload_n 0, 1) := by decide +kernel
theorem dX7_takeOut_3 : decode cX7_takeOut 3 = .ok (.getfield 7, 3) := by decide +kernel
theorem dX7_takeOut_6 : decode cX7_takeOut 6 = .ok (.iload_n 1, 1) := by decide +kernel
theorem dX7_takeOut_7 : decode cX7_takeOut 7 = .ok (.iload_n 3, 1) := by decide +kernel
theorem dX7_takeOut_8 : decode cX7_takeOut 8 = .ok (.invokestatic 112, 3) := by decide +kernel
theorem dX7_takeOut_11 : decode cX7_takeOut 11 = .ok (.iaload, 1) := by decide +kernel
theorem dX7_takeOut_12 : decode cX7_takeOut 12 = .ok (.iload_n 2, 1) := by decide +kernel
theorem dX7_takeOut_13 : decode cX7_takeOut 13 = .ok (.if_icmp .eq 9, 3) := by decide +kernel
theorem dX7_takeOut_16 : decode cX7_takeOut 16 = .ok (.iinc 3 1, 3) := by decide +kernel
theorem dX7_takeOut_19 : decode cX7_takeOut 19 = .ok (.goto (-17), 3) := by decide +kernel
theorem dX7_takeOut_22 : decode cX7_takeOut 22 = .ok (.iload_n 3, 1) := by decide +kernel
theorem dX7_takeOut_23 : decode cX7_takeOut 23 = .ok (.istore 4, 2) := by decide +kernel
theorem dX7_takeOut_25 : decode cX7_takeOut 25 = .ok (.iload 4, 2) := by decide +kernel
theorem dX7_takeOut_27 : decode cX7_takeOut 27 = .ok (.iconst 1, 1) := by decide +kernel
theorem dX7_takeOut_28 : decode cX7_takeOut 28 = .ok (.iadd, 1) := by decide +kernel
theorem dX7_takeOut_29 : decode cX7_takeOut 29 = .ok (.aload_n 0, 1) := by decide +kernel
theorem dX7_takeOut_30 : decode cX7_takeOut 30 = .ok (.iload_n 1, 1) := by decide +kernel
theorem dX7_takeOut_31 : decode cX7_takeOut 31 = .ok (.invokevirtual 116, 3) := by decide +kernel
theorem dX7_takeOut_34 : decode cX7_takeOut 34 = .ok (.if_icmp .ge 33, 3) := by decide +kernel
theorem dX7_takeOut_37 : decode cX7_takeOut 37 = .ok (.aload_n 0, 1) := by decide +kernel
theorem dX7_takeOut_38 : decode cX7_takeOut 38 = .ok (.getfield 7, 3) := by decide +kernel
theorem dX7_takeOut_41 : decode cX7_takeOut 41 = .ok (.iload_n 1, 1) := by decide +kernel
theorem dX7_takeOut_42 : decode cX7_takeOut 42 = .ok (.iload 4, 2) := by decide +kernel
theorem dX7_takeOut_44 : decode cX7_takeOut 44 = .ok (.invokestatic 112, 3) := by decide +kernel
theorem dX7_takeOut_47 : decode cX7_takeOut 47 = .ok (.aload_n 0, 1) := by decide +kernel
theorem dX7_takeOut_48 : decode cX7_takeOut 48 = .ok (.getfield 7, 3) := by decide +kernel
theorem dX7_takeOut_51 : decode cX7_takeOut 51 = .ok (.iload_n 1, 1) := by decide +kernel
theorem dX7_takeOut_52 : decode cX7_takeOut 52 = .ok (.iload 4, 2) := by decide +kernel
theorem dX7_takeOut_54 : decode cX7_takeOut 54 = .ok (.iconst 1, 1) := by decide +kernel
theorem dX7_takeOut_55 : decode cX7_takeOut 55 = .ok (.iadd, 1) := by decide +kernel
theorem dX7_takeOut_56 : decode cX7_takeOut 56 = .ok (.invokestatic 112, 3) := by decide +kernel
theorem dX7_takeOut_59 : decode cX7_takeOut 59 = .ok (.iaload, 1) := by decide +kernel
theorem dX7_takeOut_60 : decode cX7_takeOut 60 = .ok (.iastore, 1) := by decide +kernel
theorem dX7_takeOut_61 : decode cX7_takeOut 61 = .ok (.iinc 4 1, 3) := by decide +kernel
theorem dX7_takeOut_64 : decode cX7_takeOut 64 = .ok (.goto (-39), 3) := by decide +kernel
theorem dX7_takeOut_67 : decode cX7_takeOut 67 = .ok (.aload_n 0, 1) := by decide +kernel
theorem dX7_takeOut_68 : decode cX7_takeOut 68 = .ok (.getfield 7, 3) := by decide +kernel
theorem dX7_takeOut_71 : decode cX7_takeOut 71 = .ok (.sipush 704, 3) := by decide +kernel
theorem dX7_takeOut_74 : decode cX7_takeOut 74 = .ok (.iload_n 1, 1) := by decide +kernel
theorem dX7_takeOut_75 : decode cX7_takeOut 75 = .ok (.iadd, 1) := by decide +kernel
theorem dX7_takeOut_76 : decode cX7_takeOut 76 = .ok (.dup2, 1) := by decide +kernel
theorem dX7_takeOut_77 : decode cX7_takeOut 77 = .ok (.iaload, 1) := by decide +kernel
theorem dX7_takeOut_78 : decode cX7_takeOut 78 = .ok (.iconst 1, 1) := by decide +kernel
theorem dX7_takeOut_79 : decode cX7_takeOut 79 = .ok (.isub, 1) := by decide +kernel
theorem dX7_takeOut_80 : decode cX7_takeOut 80 = .ok (.iastore, 1) := by decide +kernel
theorem dX7_takeOut_81 : decode cX7_takeOut 81 = .ok (.return_, 1) := by decide +kernel
theorem dX7_putIn_0 : decode cX7_putIn 0 = .ok (.aload_n 0, 1) := by decide +kernel
theorem dX7_putIn_1 : decode cX7_putIn 1 = .ok (.iload_n 1, 1) := by decide +kernel
theorem dX7_putIn_2 : decode cX7_putIn 2 = .ok (.invokevirtual 116, 3) := by decide +kernel
theorem dX7_putIn_5 : decode cX7_putIn 5 = .ok (.istore 4, 2) := by decide +kernel
theorem dX7_putIn_7 : decode cX7_putIn 7 = .ok (.iload 4, 2) := by decide +kernel
theorem dX7_putIn_9 : decode cX7_putIn 9 = .ok (.iload_n 2, 1) := by decide +kernel
theorem dX7_putIn_10 : decode cX7_putIn 10 = .ok (.if_icmp .le 33, 3) := by decide +kernel
theorem dX7_putIn_13 : decode cX7_putIn 13 = .ok (.aload_n 0, 1) := by decide +kernel
theorem dX7_putIn_14 : decode cX7_putIn 14 = .ok (.getfield 7, 3) := by decide +kernel
theorem dX7_putIn_17 : decode cX7_putIn 17 = .ok (.iload_n 1, 1) := by decide +kernel
theorem dX7_putIn_18 : decode cX7_putIn 18 = .ok (.iload 4, 2) := by decide +kernel
theorem dX7_putIn_20 : decode cX7_putIn 20 = .ok (.invokestatic 112, 3) := by decide +kernel
theorem dX7_putIn_23 : decode cX7_putIn 23 = .ok (.aload_n 0, 1) := by decide +kernel
theorem dX7_putIn_24 : decode cX7_putIn 24 = .ok (.getfield 7, 3) := by decide +kernel
theorem dX7_putIn_27 : decode cX7_putIn 27 = .ok (.iload_n 1, 1) := by decide +kernel
theorem dX7_putIn_28 : decode cX7_putIn 28 = .ok (.iload 4, 2) := by decide +kernel
theorem dX7_putIn_30 : decode cX7_putIn 30 = .ok (.iconst 1, 1) := by decide +kernel
theorem dX7_putIn_31 : decode cX7_putIn 31 = .ok (.isub, 1) := by decide +kernel
theorem dX7_putIn_32 : decode cX7_putIn 32 = .ok (.invokestatic 112, 3) := by decide +kernel
theorem dX7_putIn_35 : decode cX7_putIn 35 = .ok (.iaload, 1) := by decide +kernel
theorem dX7_putIn_36 : decode cX7_putIn 36 = .ok (.iastore, 1) := by decide +kernel
theorem dX7_putIn_37 : decode cX7_putIn 37 = .ok (.iinc 4 (-1), 3) := by decide +kernel
theorem dX7_putIn_40 : decode cX7_putIn 40 = .ok (.goto (-33), 3) := by decide +kernel
theorem dX7_putIn_43 : decode cX7_putIn 43 = .ok (.aload_n 0, 1) := by decide +kernel
theorem dX7_putIn_44 : decode cX7_putIn 44 = .ok (.getfield 7, 3) := by decide +kernel
theorem dX7_putIn_47 : decode cX7_putIn 47 = .ok (.iload_n 1, 1) := by decide +kernel
theorem dX7_putIn_48 : decode cX7_putIn 48 = .ok (.iload_n 2, 1) := by decide +kernel
theorem dX7_putIn_49 : decode cX7_putIn 49 = .ok (.invokestatic 112, 3) := by decide +kernel
theorem dX7_putIn_52 : decode cX7_putIn 52 = .ok (.iload_n 3, 1) := by decide +kernel
theorem dX7_putIn_53 : decode cX7_putIn 53 = .ok (.iastore, 1) := by decide +kernel
theorem dX7_putIn_54 : decode cX7_putIn 54 = .ok (.aload_n 0, 1) := by decide +kernel
theorem dX7_putIn_55 : decode cX7_putIn 55 = .ok (.getfield 7, 3) := by decide +kernel
theorem dX7_putIn_58 : decode cX7_putIn 58 = .ok (.sipush 704, 3) := by decide +kernel
theorem dX7_putIn_61 : decode cX7_putIn 61 = .ok (.iload_n 1, 1) := by decide +kernel
theorem dX7_putIn_62 : decode cX7_putIn 62 = .ok (.iadd, 1) := by decide +kernel
theorem dX7_putIn_63 : decode cX7_putIn 63 = .ok (.dup2, 1) := by decide +kernel
theorem dX7_putIn_64 : decode cX7_putIn 64 = .ok (.iaload, 1) := by decide +kernel
theorem dX7_putIn_65 : decode cX7_putIn 65 = .ok (.iconst 1, 1) := by decide +kernel
theorem dX7_putIn_66 : decode cX7_putIn 66 = .ok (.iadd, 1) := by decide +kernel
theorem dX7_putIn_67 : decode cX7_putIn 67 = .ok (.iastore, 1) := by decide +kernel
theorem dX7_putIn_68 : decode cX7_putIn 68 = .ok (.return_, 1) := by decide +kernel
theorem dX7_placeOf_0 : decode cX7_placeOf 0 = .ok (.iconst 0, 1) := by decide +kernel
theorem dX7_placeOf_1 : decode cX7_placeOf 1 = .ok (.istore_n 3, 1) := by decide +kernel
theorem dX7_placeOf_2 : decode cX7_placeOf 2 = .ok (.iload_n 3, 1) := by decide +kernel
theorem dX7_placeOf_3 : decode cX7_placeOf 3 = .ok (.aload_n 0, 1) := by decide +kernel
theorem dX7_placeOf_4 : decode cX7_placeOf 4 = .ok (.iload_n 1, 1) := by decide +kernel
theorem dX7_placeOf_5 : decode cX7_placeOf 5 = .ok (.invokevirtual 116, 3) := by decide +kernel
theorem dX7_placeOf_8 : decode cX7_placeOf 8 = .ok (.if_icmp .ge 27, 3) := by decide +kernel
theorem dX7_placeOf_11 : decode cX7_placeOf 11 = .ok (.aload_n 0, 1) := by decide +kernel
theorem dX7_placeOf_12 : decode cX7_placeOf 12 = .ok (.aload_n 0, 1) := by decide +kernel
theorem dX7_placeOf_13 : decode cX7_placeOf 13 = .ok (.getfield 7, 3) := by decide +kernel
theorem dX7_placeOf_16 : decode cX7_placeOf 16 = .ok (.iload_n 1, 1) := by decide +kernel
theorem dX7_placeOf_17 : decode cX7_placeOf 17 = .ok (.iload_n 3, 1) := by decide +kernel
theorem dX7_placeOf_18 : decode cX7_placeOf 18 = .ok (.invokestatic 112, 3) := by decide +kernel
theorem dX7_placeOf_21 : decode cX7_placeOf 21 = .ok (.iaload, 1) := by decide +kernel
theorem dX7_placeOf_22 : decode cX7_placeOf 22 = .ok (.invokevirtual 106, 3) := by decide +kernel
theorem dX7_placeOf_25 : decode cX7_placeOf 25 = .ok (.iload_n 2, 1) := by decide +kernel
theorem dX7_placeOf_26 : decode cX7_placeOf 26 = .ok (.if_icmp .ge 9, 3) := by decide +kernel
theorem dX7_placeOf_29 : decode cX7_placeOf 29 = .ok (.iinc 3 1, 3) := by decide +kernel
theorem dX7_placeOf_32 : decode cX7_placeOf 32 = .ok (.goto (-30), 3) := by decide +kernel
theorem dX7_placeOf_35 : decode cX7_placeOf 35 = .ok (.iload_n 3, 1) := by decide +kernel
theorem dX7_placeOf_36 : decode cX7_placeOf 36 = .ok (.ireturn, 1) := by decide +kernel
theorem dX7_countOf_0 : decode cX7_countOf 0 = .ok (.iconst 0, 1) := by decide +kernel
theorem dX7_countOf_1 : decode cX7_countOf 1 = .ok (.istore_n 3, 1) := by decide +kernel
theorem dX7_countOf_2 : decode cX7_countOf 2 = .ok (.iconst 0, 1) := by decide +kernel
theorem dX7_countOf_3 : decode cX7_countOf 3 = .ok (.istore 4, 2) := by decide +kernel
theorem dX7_countOf_5 : decode cX7_countOf 5 = .ok (.iload 4, 2) := by decide +kernel
theorem dX7_countOf_7 : decode cX7_countOf 7 = .ok (.aload_n 0, 1) := by decide +kernel
theorem dX7_countOf_8 : decode cX7_countOf 8 = .ok (.iload_n 1, 1) := by decide +kernel
theorem dX7_countOf_9 : decode cX7_countOf 9 = .ok (.invokevirtual 116, 3) := by decide +kernel
theorem dX7_countOf_12 : decode cX7_countOf 12 = .ok (.if_icmp .ge 36, 3) := by decide +kernel
theorem dX7_countOf_15 : decode cX7_countOf 15 = .ok (.iload_n 3, 1) := by decide +kernel
theorem dX7_countOf_16 : decode cX7_countOf 16 = .ok (.aload_n 0, 1) := by decide +kernel
theorem dX7_countOf_17 : decode cX7_countOf 17 = .ok (.aload_n 0, 1) := by decide +kernel
theorem dX7_countOf_18 : decode cX7_countOf 18 = .ok (.getfield 7, 3) := by decide +kernel
theorem dX7_countOf_21 : decode cX7_countOf 21 = .ok (.iload_n 1, 1) := by decide +kernel
theorem dX7_countOf_22 : decode cX7_countOf 22 = .ok (.iload 4, 2) := by decide +kernel
theorem dX7_countOf_24 : decode cX7_countOf 24 = .ok (.invokestatic 112, 3) := by decide +kernel
theorem dX7_countOf_27 : decode cX7_countOf 27 = .ok (.iaload, 1) := by decide +kernel
theorem dX7_countOf_28 : decode cX7_countOf 28 = .ok (.invokevirtual 106, 3) := by decide +kernel
theorem dX7_countOf_31 : decode cX7_countOf 31 = .ok (.iload_n 2, 1) := by decide +kernel
theorem dX7_countOf_32 : decode cX7_countOf 32 = .ok (.if_icmp .ne 7, 3) := by decide +kernel
theorem dX7_countOf_35 : decode cX7_countOf 35 = .ok (.iconst 1, 1) := by decide +kernel
theorem dX7_countOf_36 : decode cX7_countOf 36 = .ok (.goto 4, 3) := by decide +kernel
theorem dX7_countOf_39 : decode cX7_countOf 39 = .ok (.iconst 0, 1) := by decide +kernel
theorem dX7_countOf_40 : decode cX7_countOf 40 = .ok (.iadd, 1) := by decide +kernel
theorem dX7_countOf_41 : decode cX7_countOf 41 = .ok (.istore_n 3, 1) := by decide +kernel
theorem dX7_countOf_42 : decode cX7_countOf 42 = .ok (.iinc 4 1, 3) := by decide +kernel
theorem dX7_countOf_45 : decode cX7_countOf 45 = .ok (.goto (-40), 3) := by decide +kernel
theorem dX7_countOf_48 : decode cX7_countOf 48 = .ok (.iload_n 3, 1) := by decide +kernel
theorem dX7_countOf_49 : decode cX7_countOf 49 = .ok (.ireturn, 1) := by decide +kernel
theorem dX7_countAll_0 : decode cX7_countAll 0 = .ok (.iconst 0, 1) := by decide +kernel
theorem dX7_countAll_1 : decode cX7_countAll 1 = .ok (.istore_n 2, 1) := by decide +kernel
theorem dX7_countAll_2 : decode cX7_countAll 2 = .ok (.iconst 0, 1) := by decide +kernel
theorem dX7_countAll_3 : decode cX7_countAll 3 = .ok (.istore_n 3, 1) := by decide +kernel
theorem dX7_countAll_4 : decode cX7_countAll 4 = .ok (.iload_n 3, 1) := by decide +kernel
theorem dX7_countAll_5 : decode cX7_countAll 5 = .ok (.iconst 3, 1) := by decide +kernel
theorem dX7_countAll_6 : decode cX7_countAll 6 = .ok (.if_icmp .ge 18, 3) := by decide +kernel
theorem dX7_countAll_9 : decode cX7_countAll 9 = .ok (.iload_n 2, 1) := by decide +kernel
theorem dX7_countAll_10 : decode cX7_countAll 10 = .ok (.aload_n 0, 1) := by decide +kernel
theorem dX7_countAll_11 : decode cX7_countAll 11 = .ok (.iload_n 3, 1) := by decide +kernel
theorem dX7_countAll_12 : decode cX7_countAll 12 = .ok (.iload_n 1, 1) := by decide +kernel
theorem dX7_countAll_13 : decode cX7_countAll 13 = .ok (.invokevirtual 119, 3) := by decide +kernel
theorem dX7_countAll_16 : decode cX7_countAll 16 = .ok (.iadd, 1) := by decide +kernel
theorem dX7_countAll_17 : decode cX7_countAll 17 = .ok (.istore_n 2, 1) := by decide +kernel
theorem dX7_countAll_18 : decode cX7_countAll 18 = .ok (.iinc 3 1, 3) := by decide +kernel
theorem dX7_countAll_21 : decode cX7_countAll 21 = .ok (.goto (-17), 3) := by decide +kernel
theorem dX7_countAll_24 : decode cX7_countAll 24 = .ok (.iload_n 2, 1) := by decide +kernel
theorem dX7_countAll_25 : decode cX7_countAll 25 = .ok (.ireturn, 1) := by decide +kernel
theorem dX7_objectsNow_0 : decode cX7_objectsNow 0 = .ok (.aload_n 0, 1) := by decide +kernel
theorem dX7_objectsNow_1 : decode cX7_objectsNow 1 = .ok (.iconst 1, 1) := by decide +kernel
theorem dX7_objectsNow_2 : decode cX7_objectsNow 2 = .ok (.invokevirtual 122, 3) := by decide +kernel
theorem dX7_objectsNow_5 : decode cX7_objectsNow 5 = .ok (.aload_n 0, 1) := by decide +kernel
theorem dX7_objectsNow_6 : decode cX7_objectsNow 6 = .ok (.iconst 2, 1) := by decide +kernel
theorem dX7_objectsNow_7 : decode cX7_objectsNow 7 = .ok (.invokevirtual 122, 3) := by decide +kernel
theorem dX7_objectsNow_10 : decode cX7_objectsNow 10 = .ok (.iadd, 1) := by decide +kernel
theorem dX7_objectsNow_11 : decode cX7_objectsNow 11 = .ok (.aload_n 0, 1) := by decide +kernel
theorem dX7_objectsNow_12 : decode cX7_objectsNow 12 = .ok (.iconst 3, 1) := by decide +kernel
theorem dX7_objectsNow_13 : decode cX7_objectsNow 13 = .ok (.invokevirtual 122, 3) := by decide +kernel
theorem dX7_objectsNow_16 : decode cX7_objectsNow 16 = .ok (.iadd, 1) := by decide +kernel
theorem dX7_objectsNow_17 : decode cX7_objectsNow 17 = .ok (.ireturn, 1) := by decide +kernel
theorem dX7_becomes_0 : decode cX7_becomes 0 = .ok (.aload_n 0, 1) := by decide +kernel
theorem dX7_becomes_1 : decode cX7_becomes 1 = .ok (.iload_n 1, 1) := by decide +kernel
theorem dX7_becomes_2 : decode cX7_becomes 2 = .ok (.invokevirtual 98, 3) := by decide +kernel
theorem dX7_becomes_5 : decode cX7_becomes 5 = .ok (.invokestatic 125, 3) := by decide +kernel
theorem dX7_becomes_8 : decode cX7_becomes 8 = .ok (.istore_n 3, 1) := by decide +kernel
theorem dX7_becomes_9 : decode cX7_becomes 9 = .ok (.aload_n 0, 1) := by decide +kernel
theorem dX7_becomes_10 : decode cX7_becomes 10 = .ok (.iload_n 3, 1) := by decide +kernel
theorem dX7_becomes_11 : decode cX7_becomes 11 = .ok (.iload_n 1, 1) := by decide +kernel
theorem dX7_becomes_12 : decode cX7_becomes 12 = .ok (.invokevirtual 128, 3) := by decide +kernel
theorem dX7_becomes_15 : decode cX7_becomes 15 = .ok (.aload_n 0, 1) := by decide +kernel
theorem dX7_becomes_16 : decode cX7_becomes 16 = .ok (.getfield 7, 3) := by decide +kernel
theorem dX7_becomes_19 : decode cX7_becomes 19 = .ok (.iconst 0, 1) := by decide +kernel
theorem dX7_becomes_20 : decode cX7_becomes 20 = .ok (.iload_n 1, 1) := by decide +kernel
theorem dX7_becomes_21 : decode cX7_becomes 21 = .ok (.iadd, 1) := by decide +kernel
theorem dX7_becomes_22 : decode cX7_becomes 22 = .ok (.iload_n 2, 1) := by decide +kernel
theorem dX7_becomes_23 : decode cX7_becomes 23 = .ok (.iastore, 1) := by decide +kernel
theorem dX7_becomes_24 : decode cX7_becomes 24 = .ok (.aload_n 0, 1) := by decide +kernel
theorem dX7_becomes_25 : decode cX7_becomes 25 = .ok (.iload_n 3, 1) := by decide +kernel
theorem dX7_becomes_26 : decode cX7_becomes 26 = .ok (.aload_n 0, 1) := by decide +kernel
theorem dX7_becomes_27 : decode cX7_becomes 27 = .ok (.iload_n 3, 1) := by decide +kernel
theorem dX7_becomes_28 : decode cX7_becomes 28 = .ok (.iload_n 2, 1) := by decide +kernel
theorem dX7_becomes_29 : decode cX7_becomes 29 = .ok (.invokevirtual 132, 3) := by decide +kernel
theorem dX7_becomes_32 : decode cX7_becomes 32 = .ok (.iload_n 1, 1) := by decide +kernel
theorem dX7_becomes_33 : decode cX7_becomes 33 = .ok (.invokevirtual 135, 3) := by decide +kernel
theorem dX7_becomes_36 : decode cX7_becomes 36 = .ok (.return_, 1) := by decide +kernel
theorem dX7_turnAll_0 : decode cX7_turnAll 0 = .ok (.iconst 0, 1) := by decide +kernel
theorem dX7_turnAll_1 : decode cX7_turnAll 1 = .ok (.istore_n 3, 1) := by decide +kernel
theorem dX7_turnAll_2 : decode cX7_turnAll 2 = .ok (.iconst 0, 1) := by decide +kernel
theorem dX7_turnAll_3 : decode cX7_turnAll 3 = .ok (.istore 4, 2) := by decide +kernel
theorem dX7_turnAll_5 : decode cX7_turnAll 5 = .ok (.iload 4, 2) := by decide +kernel
theorem dX7_turnAll_7 : decode cX7_turnAll 7 = .ok (.sipush 128, 3) := by decide +kernel
theorem dX7_turnAll_10 : decode cX7_turnAll 10 = .ok (.if_icmp .ge 60, 3) := by decide +kernel
theorem dX7_turnAll_13 : decode cX7_turnAll 13 = .ok (.aload_n 0, 1) := by decide +kernel
theorem dX7_turnAll_14 : decode cX7_turnAll 14 = .ok (.iload 4, 2) := by decide +kernel
theorem dX7_turnAll_16 : decode cX7_turnAll 16 = .ok (.invokevirtual 102, 3) := by decide +kernel
theorem dX7_turnAll_19 : decode cX7_turnAll 19 = .ok (.ifCond .eq 45, 3) := by decide +kernel
theorem dX7_turnAll_22 : decode cX7_turnAll 22 = .ok (.aload_n 0, 1) := by decide +kernel
theorem dX7_turnAll_23 : decode cX7_turnAll 23 = .ok (.iload 4, 2) := by decide +kernel
theorem dX7_turnAll_25 : decode cX7_turnAll 25 = .ok (.invokevirtual 106, 3) := by decide +kernel
theorem dX7_turnAll_28 : decode cX7_turnAll 28 = .ok (.iload_n 1, 1) := by decide +kernel
theorem dX7_turnAll_29 : decode cX7_turnAll 29 = .ok (.if_icmp .eq 6, 3) := by decide +kernel
theorem dX7_turnAll_32 : decode cX7_turnAll 32 = .ok (.goto 32, 3) := by decide +kernel
theorem dX7_turnAll_35 : decode cX7_turnAll 35 = .ok (.aload_n 0, 1) := by decide +kernel
theorem dX7_turnAll_36 : decode cX7_turnAll 36 = .ok (.getfield 7, 3) := by decide +kernel
theorem dX7_turnAll_39 : decode cX7_turnAll 39 = .ok (.iconst 0, 1) := by decide +kernel
theorem dX7_turnAll_40 : decode cX7_turnAll 40 = .ok (.iload 4, 2) := by decide +kernel
theorem dX7_turnAll_42 : decode cX7_turnAll 42 = .ok (.iadd, 1) := by decide +kernel
theorem dX7_turnAll_43 : decode cX7_turnAll 43 = .ok (.iload_n 2, 1) := by decide +kernel
theorem dX7_turnAll_44 : decode cX7_turnAll 44 = .ok (.iastore, 1) := by decide +kernel
theorem dX7_turnAll_45 : decode cX7_turnAll 45 = .ok (.iload_n 2, 1) := by decide +kernel
theorem dX7_turnAll_46 : decode cX7_turnAll 46 = .ok (.ifCond .ne 15, 3) := by decide +kernel
theorem dX7_turnAll_49 : decode cX7_turnAll 49 = .ok (.aload_n 0, 1) := by decide +kernel
theorem dX7_turnAll_50 : decode cX7_turnAll 50 = .ok (.getfield 7, 3) := by decide +kernel
theorem dX7_turnAll_53 : decode cX7_turnAll 53 = .ok (.sipush 128, 3) := by decide +kernel
theorem dX7_turnAll_56 : decode cX7_turnAll 56 = .ok (.iload 4, 2) := by decide +kernel
theorem dX7_turnAll_58 : decode cX7_turnAll 58 = .ok (.iadd, 1) := by decide +kernel
theorem dX7_turnAll_59 : decode cX7_turnAll 59 = .ok (.iconst 0, 1) := by decide +kernel
theorem dX7_turnAll_60 : decode cX7_turnAll 60 = .ok (.iastore, 1) := by decide +kernel
theorem dX7_turnAll_61 : decode cX7_turnAll 61 = .ok (.iinc 3 1, 3) := by decide +kernel
theorem dX7_turnAll_64 : decode cX7_turnAll 64 = .ok (.iinc 4 1, 3) := by decide +kernel
theorem dX7_turnAll_67 : decode cX7_turnAll 67 = .ok (.goto (-62), 3) := by decide +kernel
theorem dX7_turnAll_70 : decode cX7_turnAll 70 = .ok (.iload_n 3, 1) := by decide +kernel
theorem dX7_turnAll_71 : decode cX7_turnAll 71 = .ok (.ireturn, 1) := by decide +kernel
theorem dX7_grey_0 : decode cX7_grey 0 = .ok (.iload_n 2, 1) := by decide +kernel
theorem dX7_grey_1 : decode cX7_grey 1 = .ok (.ifCond .eq 16, 3) := by decide +kernel
theorem dX7_grey_4 : decode cX7_grey 4 = .ok (.iload_n 1, 1) := by decide +kernel
theorem dX7_grey_5 : decode cX7_grey 5 = .ok (.ifCond .lt 12, 3) := by decide +kernel
theorem dX7_grey_8 : decode cX7_grey 8 = .ok (.aload_n 0, 1) := by decide +kernel
theorem dX7_grey_9 : decode cX7_grey 9 = .ok (.iload_n 1, 1) := by decide +kernel
theorem dX7_grey_10 : decode cX7_grey 10 = .ok (.invokevirtual 106, 3) := by decide +kernel
theorem dX7_grey_13 : decode cX7_grey 13 = .ok (.iconst 1, 1) := by decide +kernel
theorem dX7_grey_14 : decode cX7_grey 14 = .ok (.if_icmp .eq 4, 3) := by decide +kernel
theorem dX7_grey_17 : decode cX7_grey 17 = .ok (.return_, 1) := by decide +kernel
theorem dX7_grey_18 : decode cX7_grey 18 = .ok (.aload_n 0, 1) := by decide +kernel
theorem dX7_grey_19 : decode cX7_grey 19 = .ok (.iload_n 1, 1) := by decide +kernel
theorem dX7_grey_20 : decode cX7_grey 20 = .ok (.iconst 2, 1) := by decide +kernel
theorem dX7_grey_21 : decode cX7_grey 21 = .ok (.invokevirtual 139, 3) := by decide +kernel
theorem dX7_grey_24 : decode cX7_grey 24 = .ok (.aload_n 0, 1) := by decide +kernel
theorem dX7_grey_25 : decode cX7_grey 25 = .ok (.getfield 7, 3) := by decide +kernel
theorem dX7_grey_28 : decode cX7_grey 28 = .ok (.sipush 739, 3) := by decide +kernel
theorem dX7_grey_31 : decode cX7_grey 31 = .ok (.dup2, 1) := by decide +kernel
theorem dX7_grey_32 : decode cX7_grey 32 = .ok (.iaload, 1) := by decide +kernel
theorem dX7_grey_33 : decode cX7_grey 33 = .ok (.iconst 1, 1) := by decide +kernel
theorem dX7_grey_34 : decode cX7_grey 34 = .ok (.iadd, 1) := by decide +kernel
theorem dX7_grey_35 : decode cX7_grey 35 = .ok (.iastore, 1) := by decide +kernel
theorem dX7_grey_36 : decode cX7_grey 36 = .ok (.aload_n 0, 1) := by decide +kernel
theorem dX7_grey_37 : decode cX7_grey 37 = .ok (.getfield 7, 3) := by decide +kernel
theorem dX7_grey_40 : decode cX7_grey 40 = .ok (.sipush 384, 3) := by decide +kernel
theorem dX7_grey_43 : decode cX7_grey 43 = .ok (.iload_n 1, 1) := by decide +kernel
theorem dX7_grey_44 : decode cX7_grey 44 = .ok (.iadd, 1) := by decide +kernel
theorem dX7_grey_45 : decode cX7_grey 45 = .ok (.aload_n 0, 1) := by decide +kernel
theorem dX7_grey_46 : decode cX7_grey 46 = .ok (.getfield 7, 3) := by decide +kernel
theorem dX7_grey_49 : decode cX7_grey 49 = .ok (.sipush 739, 3) := by decide +kernel
theorem dX7_grey_52 : decode cX7_grey 52 = .ok (.iaload, 1) := by decide +kernel
theorem dX7_grey_53 : decode cX7_grey 53 = .ok (.iastore, 1) := by decide +kernel
theorem dX7_grey_54 : decode cX7_grey 54 = .ok (.return_, 1) := by decide +kernel
theorem dX7_greyRoots_0 : decode cX7_greyRoots 0 = .ok (.iconst 0, 1) := by decide +kernel
theorem dX7_greyRoots_1 : decode cX7_greyRoots 1 = .ok (.istore_n 1, 1) := by decide +kernel
theorem dX7_greyRoots_2 : decode cX7_greyRoots 2 = .ok (.iload_n 1, 1) := by decide +kernel
theorem dX7_greyRoots_3 : decode cX7_greyRoots 3 = .ok (.bipush 6, 2) := by decide +kernel
theorem dX7_greyRoots_5 : decode cX7_greyRoots 5 = .ok (.if_icmp .ge 24, 3) := by decide +kernel
theorem dX7_greyRoots_8 : decode cX7_greyRoots 8 = .ok (.aload_n 0, 1) := by decide +kernel
theorem dX7_greyRoots_9 : decode cX7_greyRoots 9 = .ok (.aload_n 0, 1) := by decide +kernel
theorem dX7_greyRoots_10 : decode cX7_greyRoots 10 = .ok (.getfield 7, 3) := by decide +kernel
theorem dX7_greyRoots_13 : decode cX7_greyRoots 13 = .ok (.sipush 715, 3) := by decide +kernel
theorem dX7_greyRoots_16 : decode cX7_greyRoots 16 = .ok (.iload_n 1, 1) := by decide +kernel
theorem dX7_greyRoots_17 : decode cX7_greyRoots 17 = .ok (.iadd, 1) := by decide +kernel
theorem dX7_greyRoots_18 : decode cX7_greyRoots 18 = .ok (.iaload, 1) := by decide +kernel
theorem dX7_greyRoots_19 : decode cX7_greyRoots 19 = .ok (.iconst 1, 1) := by decide +kernel
theorem dX7_greyRoots_20 : decode cX7_greyRoots 20 = .ok (.invokevirtual 142, 3) := by decide +kernel
theorem dX7_greyRoots_23 : decode cX7_greyRoots 23 = .ok (.iinc 1 1, 3) := by decide +kernel
theorem dX7_greyRoots_26 : decode cX7_greyRoots 26 = .ok (.goto (-24), 3) := by decide +kernel
theorem dX7_greyRoots_29 : decode cX7_greyRoots 29 = .ok (.return_, 1) := by decide +kernel
theorem dX7_goStart_0 : decode cX7_goStart 0 = .ok (.aload_n 0, 1) := by decide +kernel
theorem dX7_goStart_1 : decode cX7_goStart 1 = .ok (.getfield 7, 3) := by decide +kernel
theorem dX7_goStart_4 : decode cX7_goStart 4 = .ok (.sipush 726, 3) := by decide +kernel
theorem dX7_goStart_7 : decode cX7_goStart 7 = .ok (.iconst 1, 1) := by decide +kernel
theorem dX7_goStart_8 : decode cX7_goStart 8 = .ok (.iastore, 1) := by decide +kernel
theorem dX7_goStart_9 : decode cX7_goStart 9 = .ok (.aload_n 0, 1) := by decide +kernel
theorem dX7_goStart_10 : decode cX7_goStart 10 = .ok (.getfield 7, 3) := by decide +kernel
theorem dX7_goStart_13 : decode cX7_goStart 13 = .ok (.sipush 727, 3) := by decide +kernel
theorem dX7_goStart_16 : decode cX7_goStart 16 = .ok (.iconst (-1), 1) := by decide +kernel
theorem dX7_goStart_17 : decode cX7_goStart 17 = .ok (.iastore, 1) := by decide +kernel
theorem dX7_goStart_18 : decode cX7_goStart 18 = .ok (.aload_n 0, 1) := by decide +kernel
theorem dX7_goStart_19 : decode cX7_goStart 19 = .ok (.getfield 7, 3) := by decide +kernel
theorem dX7_goStart_22 : decode cX7_goStart 22 = .ok (.sipush 728, 3) := by decide +kernel
theorem dX7_goStart_25 : decode cX7_goStart 25 = .ok (.iconst 0, 1) := by decide +kernel
theorem dX7_goStart_26 : decode cX7_goStart 26 = .ok (.iastore, 1) := by decide +kernel
theorem dX7_goStart_27 : decode cX7_goStart 27 = .ok (.aload_n 0, 1) := by decide +kernel
theorem dX7_goStart_28 : decode cX7_goStart 28 = .ok (.getfield 7, 3) := by decide +kernel
theorem dX7_goStart_31 : decode cX7_goStart 31 = .ok (.sipush 740, 3) := by decide +kernel
theorem dX7_goStart_34 : decode cX7_goStart 34 = .ok (.aload_n 0, 1) := by decide +kernel
theorem dX7_goStart_35 : decode cX7_goStart 35 = .ok (.getfield 7, 3) := by decide +kernel
theorem dX7_goStart_38 : decode cX7_goStart 38 = .ok (.sipush 730, 3) := by decide +kernel
theorem dX7_goStart_41 : decode cX7_goStart 41 = .ok (.iaload, 1) := by decide +kernel
theorem dX7_goStart_42 : decode cX7_goStart 42 = .ok (.iastore, 1) := by decide +kernel
theorem dX7_goStart_43 : decode cX7_goStart 43 = .ok (.aload_n 0, 1) := by decide +kernel
theorem dX7_goStart_44 : decode cX7_goStart 44 = .ok (.iconst 3, 1) := by decide +kernel
theorem dX7_goStart_45 : decode cX7_goStart 45 = .ok (.iconst 1, 1) := by decide +kernel
theorem dX7_goStart_46 : decode cX7_goStart 46 = .ok (.invokevirtual 146, 3) := by decide +kernel
theorem dX7_goStart_49 : decode cX7_goStart 49 = .ok (.pop, 1) := by decide +kernel
theorem dX7_goStart_50 : decode cX7_goStart 50 = .ok (.aload_n 0, 1) := by decide +kernel
theorem dX7_goStart_51 : decode cX7_goStart 51 = .ok (.invokevirtual 149, 3) := by decide +kernel
theorem dX7_goStart_54 : decode cX7_goStart 54 = .ok (.aload_n 0, 1) := by decide +kernel
theorem dX7_goStart_55 : decode cX7_goStart 55 = .ok (.iconst 2, 1) := by decide +kernel
theorem dX7_goStart_56 : decode cX7_goStart 56 = .ok (.invokevirtual 122, 3) := by decide +kernel
theorem dX7_goStart_59 : decode cX7_goStart 59 = .ok (.ifCond .ne 7, 3) := by decide +kernel
theorem dX7_goStart_62 : decode cX7_goStart 62 = .ok (.aload_n 0, 1) := by decide +kernel
theorem dX7_goStart_63 : decode cX7_goStart 63 = .ok (.invokevirtual 152, 3) := by decide +kernel
theorem dX7_goStart_66 : decode cX7_goStart 66 = .ok (.return_, 1) := by decide +kernel
theorem dX7_isEcru_0 : decode cX7_isEcru 0 = .ok (.iload_n 1, 1) := by decide +kernel
theorem dX7_isEcru_1 : decode cX7_isEcru 1 = .ok (.ifCond .lt 16, 3) := by decide +kernel
theorem dX7_isEcru_4 : decode cX7_isEcru 4 = .ok (.aload_n 0, 1) := by decide +kernel
theorem dX7_isEcru_5 : decode cX7_isEcru 5 = .ok (.iload_n 1, 1) := by decide +kernel
theorem dX7_isEcru_6 : decode cX7_isEcru 6 = .ok (.invokevirtual 106, 3) := by decide +kernel
theorem dX7_isEcru_9 : decode cX7_isEcru 9 = .ok (.iconst 1, 1) := by decide +kernel
theorem dX7_isEcru_10 : decode cX7_isEcru 10 = .ok (.if_icmp .ne 7, 3) := by decide +kernel
theorem dX7_isEcru_13 : decode cX7_isEcru 13 = .ok (.iconst 1, 1) := by decide +kernel
theorem dX7_isEcru_14 : decode cX7_isEcru 14 = .ok (.goto 4, 3) := by decide +kernel
theorem dX7_isEcru_17 : decode cX7_isEcru 17 = .ok (.iconst 0, 1) := by decide +kernel
theorem dX7_isEcru_18 : decode cX7_isEcru 18 = .ok (.ireturn, 1) := by decide +kernel
theorem dX7_goEnd_0 : decode cX7_goEnd 0 = .ok (.aload_n 0, 1) := by decide +kernel
theorem dX7_goEnd_1 : decode cX7_goEnd 1 = .ok (.getfield 7, 3) := by decide +kernel
theorem dX7_goEnd_4 : decode cX7_goEnd 4 = .ok (.sipush 726, 3) := by decide +kernel
theorem dX7_goEnd_7 : decode cX7_goEnd 7 = .ok (.iconst 0, 1) := by decide +kernel
theorem dX7_goEnd_8 : decode cX7_goEnd 8 = .ok (.iastore, 1) := by decide +kernel
theorem dX7_goEnd_9 : decode cX7_goEnd 9 = .ok (.aload_n 0, 1) := by decide +kernel
theorem dX7_goEnd_10 : decode cX7_goEnd 10 = .ok (.getfield 7, 3) := by decide +kernel
theorem dX7_goEnd_13 : decode cX7_goEnd 13 = .ok (.sipush 727, 3) := by decide +kernel
theorem dX7_goEnd_16 : decode cX7_goEnd 16 = .ok (.iconst (-1), 1) := by decide +kernel
theorem dX7_goEnd_17 : decode cX7_goEnd 17 = .ok (.iastore, 1) := by decide +kernel
theorem dX7_goEnd_18 : decode cX7_goEnd 18 = .ok (.aload_n 0, 1) := by decide +kernel
theorem dX7_goEnd_19 : decode cX7_goEnd 19 = .ok (.getfield 7, 3) := by decide +kernel
theorem dX7_goEnd_22 : decode cX7_goEnd 22 = .ok (.sipush 728, 3) := by decide +kernel
theorem dX7_goEnd_25 : decode cX7_goEnd 25 = .ok (.iconst 0, 1) := by decide +kernel
theorem dX7_goEnd_26 : decode cX7_goEnd 26 = .ok (.iastore, 1) := by decide +kernel
theorem dX7_goEnd_27 : decode cX7_goEnd 27 = .ok (.iconst 0, 1) := by decide +kernel
theorem dX7_goEnd_28 : decode cX7_goEnd 28 = .ok (.istore_n 1, 1) := by decide +kernel
theorem dX7_goEnd_29 : decode cX7_goEnd 29 = .ok (.iload_n 1, 1) := by decide +kernel
theorem dX7_goEnd_30 : decode cX7_goEnd 30 = .ok (.bipush 6, 2) := by decide +kernel
theorem dX7_goEnd_32 : decode cX7_goEnd 32 = .ok (.if_icmp .ge 21, 3) := by decide +kernel
theorem dX7_goEnd_35 : decode cX7_goEnd 35 = .ok (.aload_n 0, 1) := by decide +kernel
theorem dX7_goEnd_36 : decode cX7_goEnd 36 = .ok (.sipush 715, 3) := by decide +kernel
theorem dX7_goEnd_39 : decode cX7_goEnd 39 = .ok (.iload_n 1, 1) := by decide +kernel
theorem dX7_goEnd_40 : decode cX7_goEnd 40 = .ok (.iadd, 1) := by decide +kernel
theorem dX7_goEnd_41 : decode cX7_goEnd 41 = .ok (.sipush 732, 3) := by decide +kernel
theorem dX7_goEnd_44 : decode cX7_goEnd 44 = .ok (.invokevirtual 155, 3) := by decide +kernel
theorem dX7_goEnd_47 : decode cX7_goEnd 47 = .ok (.iinc 1 1, 3) := by decide +kernel
theorem dX7_goEnd_50 : decode cX7_goEnd 50 = .ok (.goto (-21), 3) := by decide +kernel
theorem dX7_goEnd_53 : decode cX7_goEnd 53 = .ok (.iconst 0, 1) := by decide +kernel
theorem dX7_goEnd_54 : decode cX7_goEnd 54 = .ok (.istore_n 1, 1) := by decide +kernel
theorem dX7_goEnd_55 : decode cX7_goEnd 55 = .ok (.iload_n 1, 1) := by decide +kernel
theorem dX7_goEnd_56 : decode cX7_goEnd 56 = .ok (.iconst 4, 1) := by decide +kernel
theorem dX7_goEnd_57 : decode cX7_goEnd 57 = .ok (.if_icmp .ge 21, 3) := by decide +kernel
theorem dX7_goEnd_60 : decode cX7_goEnd 60 = .ok (.aload_n 0, 1) := by decide +kernel
theorem dX7_goEnd_61 : decode cX7_goEnd 61 = .ok (.sipush 721, 3) := by decide +kernel
theorem dX7_goEnd_64 : decode cX7_goEnd 64 = .ok (.iload_n 1, 1) := by decide +kernel
theorem dX7_goEnd_65 : decode cX7_goEnd 65 = .ok (.iadd, 1) := by decide +kernel
theorem dX7_goEnd_66 : decode cX7_goEnd 66 = .ok (.sipush 734, 3) := by decide +kernel
theorem dX7_goEnd_69 : decode cX7_goEnd 69 = .ok (.invokevirtual 155, 3) := by decide +kernel
theorem dX7_goEnd_72 : decode cX7_goEnd 72 = .ok (.iinc 1 1, 3) := by decide +kernel
theorem dX7_goEnd_75 : decode cX7_goEnd 75 = .ok (.goto (-20), 3) := by decide +kernel
theorem dX7_goEnd_78 : decode cX7_goEnd 78 = .ok (.iconst 0, 1) := by decide +kernel
theorem dX7_goEnd_79 : decode cX7_goEnd 79 = .ok (.istore_n 1, 1) := by decide +kernel
theorem dX7_goEnd_80 : decode cX7_goEnd 80 = .ok (.iload_n 1, 1) := by decide +kernel
theorem dX7_goEnd_81 : decode cX7_goEnd 81 = .ok (.sipush 128, 3) := by decide +kernel
theorem dX7_goEnd_84 : decode cX7_goEnd 84 = .ok (.if_icmp .ge 62, 3) := by decide +kernel
theorem dX7_goEnd_87 : decode cX7_goEnd 87 = .ok (.aload_n 0, 1) := by decide +kernel
theorem dX7_goEnd_88 : decode cX7_goEnd 88 = .ok (.iload_n 1, 1) := by decide +kernel
theorem dX7_goEnd_89 : decode cX7_goEnd 89 = .ok (.invokevirtual 109, 3) := by decide +kernel
theorem dX7_goEnd_92 : decode cX7_goEnd 92 = .ok (.ifCond .eq 48, 3) := by decide +kernel
theorem dX7_goEnd_95 : decode cX7_goEnd 95 = .ok (.aload_n 0, 1) := by decide +kernel
theorem dX7_goEnd_96 : decode cX7_goEnd 96 = .ok (.iload_n 1, 1) := by decide +kernel
theorem dX7_goEnd_97 : decode cX7_goEnd 97 = .ok (.invokevirtual 158, 3) := by decide +kernel
theorem dX7_goEnd_100 : decode cX7_goEnd 100 = .ok (.ifCond .eq 6, 3) := by decide +kernel
theorem dX7_goEnd_103 : decode cX7_goEnd 103 = .ok (.goto 37, 3) := by decide +kernel
theorem dX7_goEnd_106 : decode cX7_goEnd 106 = .ok (.iconst 0, 1) := by decide +kernel
theorem dX7_goEnd_107 : decode cX7_goEnd 107 = .ok (.istore_n 2, 1) := by decide +kernel
theorem dX7_goEnd_108 : decode cX7_goEnd 108 = .ok (.iload_n 2, 1) := by decide +kernel
theorem dX7_goEnd_109 : decode cX7_goEnd 109 = .ok (.aload_n 0, 1) := by decide +kernel
theorem dX7_goEnd_110 : decode cX7_goEnd 110 = .ok (.getfield 7, 3) := by decide +kernel
theorem dX7_goEnd_113 : decode cX7_goEnd 113 = .ok (.sipush 128, 3) := by decide +kernel
theorem dX7_goEnd_116 : decode cX7_goEnd 116 = .ok (.iload_n 1, 1) := by decide +kernel
theorem dX7_goEnd_117 : decode cX7_goEnd 117 = .ok (.iadd, 1) := by decide +kernel
theorem dX7_goEnd_118 : decode cX7_goEnd 118 = .ok (.iaload, 1) := by decide +kernel
theorem dX7_goEnd_119 : decode cX7_goEnd 119 = .ok (.if_icmp .ge 21, 3) := by decide +kernel
theorem dX7_goEnd_122 : decode cX7_goEnd 122 = .ok (.aload_n 0, 1) := by decide +kernel
theorem dX7_goEnd_123 : decode cX7_goEnd 123 = .ok (.iload_n 1, 1) := by decide +kernel
theorem dX7_goEnd_124 : decode cX7_goEnd 124 = .ok (.iload_n 2, 1) := by decide +kernel
theorem dX7_goEnd_125 : decode cX7_goEnd 125 = .ok (.invokestatic 161, 3) := by decide +kernel
theorem dX7_goEnd_128 : decode cX7_goEnd 128 = .ok (.sipush 732, 3) := by decide +kernel
theorem dX7_goEnd_131 : decode cX7_goEnd 131 = .ok (.invokevirtual 155, 3) := by decide +kernel
theorem dX7_goEnd_134 : decode cX7_goEnd 134 = .ok (.iinc 2 1, 3) := by decide +kernel
theorem dX7_goEnd_137 : decode cX7_goEnd 137 = .ok (.goto (-29), 3) := by decide +kernel
theorem dX7_goEnd_140 : decode cX7_goEnd 140 = .ok (.iinc 1 1, 3) := by decide +kernel
theorem dX7_goEnd_143 : decode cX7_goEnd 143 = .ok (.goto (-63), 3) := by decide +kernel
theorem dX7_goEnd_146 : decode cX7_goEnd 146 = .ok (.aload_n 0, 1) := by decide +kernel
theorem dX7_goEnd_147 : decode cX7_goEnd 147 = .ok (.iconst 1, 1) := by decide +kernel
theorem dX7_goEnd_148 : decode cX7_goEnd 148 = .ok (.iconst 0, 1) := by decide +kernel
theorem dX7_goEnd_149 : decode cX7_goEnd 149 = .ok (.invokevirtual 146, 3) := by decide +kernel
theorem dX7_goEnd_152 : decode cX7_goEnd 152 = .ok (.istore_n 1, 1) := by decide +kernel
theorem dX7_goEnd_153 : decode cX7_goEnd 153 = .ok (.aload_n 0, 1) := by decide +kernel
theorem dX7_goEnd_154 : decode cX7_goEnd 154 = .ok (.getfield 7, 3) := by decide +kernel
theorem dX7_goEnd_157 : decode cX7_goEnd 157 = .ok (.sipush 729, 3) := by decide +kernel
theorem dX7_goEnd_160 : decode cX7_goEnd 160 = .ok (.dup2, 1) := by decide +kernel
theorem dX7_goEnd_161 : decode cX7_goEnd 161 = .ok (.iaload, 1) := by decide +kernel
theorem dX7_goEnd_162 : decode cX7_goEnd 162 = .ok (.iconst 1, 1) := by decide +kernel
theorem dX7_goEnd_163 : decode cX7_goEnd 163 = .ok (.iadd, 1) := by decide +kernel
theorem dX7_goEnd_164 : decode cX7_goEnd 164 = .ok (.iastore, 1) := by decide +kernel
theorem dX7_goEnd_165 : decode cX7_goEnd 165 = .ok (.aload_n 0, 1) := by decide +kernel
theorem dX7_goEnd_166 : decode cX7_goEnd 166 = .ok (.aload_n 0, 1) := by decide +kernel
theorem dX7_goEnd_167 : decode cX7_goEnd 167 = .ok (.getfield 7, 3) := by decide +kernel
theorem dX7_goEnd_170 : decode cX7_goEnd 170 = .ok (.sipush 730, 3) := by decide +kernel
theorem dX7_goEnd_173 : decode cX7_goEnd 173 = .ok (.iaload, 1) := by decide +kernel
theorem dX7_goEnd_174 : decode cX7_goEnd 174 = .ok (.aload_n 0, 1) := by decide +kernel
theorem dX7_goEnd_175 : decode cX7_goEnd 175 = .ok (.getfield 7, 3) := by decide +kernel
theorem dX7_goEnd_178 : decode cX7_goEnd 178 = .ok (.sipush 740, 3) := by decide +kernel
theorem dX7_goEnd_181 : decode cX7_goEnd 181 = .ok (.iaload, 1) := by decide +kernel
theorem dX7_goEnd_182 : decode cX7_goEnd 182 = .ok (.isub, 1) := by decide +kernel
theorem dX7_goEnd_183 : decode cX7_goEnd 183 = .ok (.iload_n 1, 1) := by decide +kernel
theorem dX7_goEnd_184 : decode cX7_goEnd 184 = .ok (.aload_n 0, 1) := by decide +kernel
theorem dX7_goEnd_185 : decode cX7_goEnd 185 = .ok (.invokevirtual 164, 3) := by decide +kernel
theorem dX7_goEnd_188 : decode cX7_goEnd 188 = .ok (.invokevirtual 168, 3) := by decide +kernel
theorem dX7_goEnd_191 : decode cX7_goEnd 191 = .ok (.return_, 1) := by decide +kernel
theorem dX7_lose_0 : decode cX7_lose 0 = .ok (.aload_n 0, 1) := by decide +kernel
theorem dX7_lose_1 : decode cX7_lose 1 = .ok (.aload_n 0, 1) := by decide +kernel
theorem dX7_lose_2 : decode cX7_lose 2 = .ok (.getfield 7, 3) := by decide +kernel
theorem dX7_lose_5 : decode cX7_lose 5 = .ok (.iload_n 1, 1) := by decide +kernel
theorem dX7_lose_6 : decode cX7_lose 6 = .ok (.iaload, 1) := by decide +kernel
theorem dX7_lose_7 : decode cX7_lose 7 = .ok (.invokevirtual 158, 3) := by decide +kernel
theorem dX7_lose_10 : decode cX7_lose 10 = .ok (.ifCond .ne 4, 3) := by decide +kernel
theorem dX7_lose_13 : decode cX7_lose 13 = .ok (.return_, 1) := by decide +kernel
theorem dX7_lose_14 : decode cX7_lose 14 = .ok (.aload_n 0, 1) := by decide +kernel
theorem dX7_lose_15 : decode cX7_lose 15 = .ok (.getfield 7, 3) := by decide +kernel
theorem dX7_lose_18 : decode cX7_lose 18 = .ok (.iload_n 1, 1) := by decide +kernel
theorem dX7_lose_19 : decode cX7_lose 19 = .ok (.iconst (-1), 1) := by decide +kernel
theorem dX7_lose_20 : decode cX7_lose 20 = .ok (.iastore, 1) := by decide +kernel
theorem dX7_lose_21 : decode cX7_lose 21 = .ok (.aload_n 0, 1) := by decide +kernel
theorem dX7_lose_22 : decode cX7_lose 22 = .ok (.getfield 7, 3) := by decide +kernel
theorem dX7_lose_25 : decode cX7_lose 25 = .ok (.iload_n 2, 1) := by decide +kernel
theorem dX7_lose_26 : decode cX7_lose 26 = .ok (.dup2, 1) := by decide +kernel
theorem dX7_lose_27 : decode cX7_lose 27 = .ok (.iaload, 1) := by decide +kernel
theorem dX7_lose_28 : decode cX7_lose 28 = .ok (.iconst 1, 1) := by decide +kernel
theorem dX7_lose_29 : decode cX7_lose 29 = .ok (.iadd, 1) := by decide +kernel
theorem dX7_lose_30 : decode cX7_lose 30 = .ok (.iastore, 1) := by decide +kernel
theorem dX7_lose_31 : decode cX7_lose 31 = .ok (.return_, 1) := by decide +kernel
theorem dX7_tell_0 : decode cX7_tell 0 = .ok (.bipush 47, 2) := by decide +kernel
theorem dX7_tell_2 : decode cX7_tell 2 = .ok (.istore 4, 2) := by decide +kernel
theorem dX7_tell_4 : decode cX7_tell 4 = .ok (.iload 4, 2) := by decide +kernel
theorem dX7_tell_6 : decode cX7_tell 6 = .ok (.iconst 3, 1) := by decide +kernel
theorem dX7_tell_7 : decode cX7_tell 7 = .ok (.if_icmp .lt 33, 3) := by decide +kernel
theorem dX7_tell_10 : decode cX7_tell 10 = .ok (.aload_n 0, 1) := by decide +kernel
theorem dX7_tell_11 : decode cX7_tell 11 = .ok (.getfield 7, 3) := by decide +kernel
theorem dX7_tell_14 : decode cX7_tell 14 = .ok (.sipush 742, 3) := by decide +kernel
theorem dX7_tell_17 : decode cX7_tell 17 = .ok (.iload 4, 2) := by decide +kernel
theorem dX7_tell_19 : decode cX7_tell 19 = .ok (.iadd, 1) := by decide +kernel
theorem dX7_tell_20 : decode cX7_tell 20 = .ok (.aload_n 0, 1) := by decide +kernel
theorem dX7_tell_21 : decode cX7_tell 21 = .ok (.getfield 7, 3) := by decide +kernel
theorem dX7_tell_24 : decode cX7_tell 24 = .ok (.sipush 742, 3) := by decide +kernel
theorem dX7_tell_27 : decode cX7_tell 27 = .ok (.iload 4, 2) := by decide +kernel
theorem dX7_tell_29 : decode cX7_tell 29 = .ok (.iadd, 1) := by decide +kernel
theorem dX7_tell_30 : decode cX7_tell 30 = .ok (.iconst 3, 1) := by decide +kernel
theorem dX7_tell_31 : decode cX7_tell 31 = .ok (.isub, 1) := by decide +kernel
theorem dX7_tell_32 : decode cX7_tell 32 = .ok (.iaload, 1) := by decide +kernel
theorem dX7_tell_33 : decode cX7_tell 33 = .ok (.iastore, 1) := by decide +kernel
theorem dX7_tell_34 : decode cX7_tell 34 = .ok (.iinc 4 (-1), 3) := by decide +kernel
theorem dX7_tell_37 : decode cX7_tell 37 = .ok (.goto (-33), 3) := by decide +kernel
theorem dX7_tell_40 : decode cX7_tell 40 = .ok (.aload_n 0, 1) := by decide +kernel
theorem dX7_tell_41 : decode cX7_tell 41 = .ok (.getfield 7, 3) := by decide +kernel
theorem dX7_tell_44 : decode cX7_tell 44 = .ok (.sipush 742, 3) := by decide +kernel
theorem dX7_tell_47 : decode cX7_tell 47 = .ok (.iload_n 1, 1) := by decide +kernel
theorem dX7_tell_48 : decode cX7_tell 48 = .ok (.iastore, 1) := by decide +kernel
theorem dX7_tell_49 : decode cX7_tell 49 = .ok (.aload_n 0, 1) := by decide +kernel
theorem dX7_tell_50 : decode cX7_tell 50 = .ok (.getfield 7, 3) := by decide +kernel
theorem dX7_tell_53 : decode cX7_tell 53 = .ok (.sipush 743, 3) := by decide +kernel
theorem dX7_tell_56 : decode cX7_tell 56 = .ok (.iload_n 2, 1) := by decide +kernel
theorem dX7_tell_57 : decode cX7_tell 57 = .ok (.iastore, 1) := by decide +kernel
theorem dX7_tell_58 : decode cX7_tell 58 = .ok (.aload_n 0, 1) := by decide +kernel
theorem dX7_tell_59 : decode cX7_tell 59 = .ok (.getfield 7, 3) := by decide +kernel
theorem dX7_tell_62 : decode cX7_tell 62 = .ok (.sipush 744, 3) := by decide +kernel
theorem dX7_tell_65 : decode cX7_tell 65 = .ok (.iload_n 3, 1) := by decide +kernel
theorem dX7_tell_66 : decode cX7_tell 66 = .ok (.iastore, 1) := by decide +kernel
theorem dX7_tell_67 : decode cX7_tell 67 = .ok (.aload_n 0, 1) := by decide +kernel
theorem dX7_tell_68 : decode cX7_tell 68 = .ok (.getfield 7, 3) := by decide +kernel
theorem dX7_tell_71 : decode cX7_tell 71 = .ok (.sipush 741, 3) := by decide +kernel
theorem dX7_tell_74 : decode cX7_tell 74 = .ok (.iaload, 1) := by decide +kernel
theorem dX7_tell_75 : decode cX7_tell 75 = .ok (.bipush 16, 2) := by decide +kernel
theorem dX7_tell_77 : decode cX7_tell 77 = .ok (.if_icmp .ge 15, 3) := by decide +kernel
theorem dX7_tell_80 : decode cX7_tell 80 = .ok (.aload_n 0, 1) := by decide +kernel
theorem dX7_tell_81 : decode cX7_tell 81 = .ok (.getfield 7, 3) := by decide +kernel
theorem dX7_tell_84 : decode cX7_tell 84 = .ok (.sipush 741, 3) := by decide +kernel
theorem dX7_tell_87 : decode cX7_tell 87 = .ok (.dup2, 1) := by decide +kernel
theorem dX7_tell_88 : decode cX7_tell 88 = .ok (.iaload, 1) := by decide +kernel
theorem dX7_tell_89 : decode cX7_tell 89 = .ok (.iconst 1, 1) := by decide +kernel
theorem dX7_tell_90 : decode cX7_tell 90 = .ok (.iadd, 1) := by decide +kernel
theorem dX7_tell_91 : decode cX7_tell 91 = .ok (.iastore, 1) := by decide +kernel
theorem dX7_tell_92 : decode cX7_tell 92 = .ok (.return_, 1) := by decide +kernel
theorem dX7_isAhead_0 : decode cX7_isAhead 0 = .ok (.aload_n 0, 1) := by decide +kernel
theorem dX7_isAhead_1 : decode cX7_isAhead 1 = .ok (.getfield 7, 3) := by decide +kernel
theorem dX7_isAhead_4 : decode cX7_isAhead 4 = .ok (.sipush 384, 3) := by decide +kernel
theorem dX7_isAhead_7 : decode cX7_isAhead 7 = .ok (.iload_n 1, 1) := by decide +kernel
theorem dX7_isAhead_8 : decode cX7_isAhead 8 = .ok (.iadd, 1) := by decide +kernel
theorem dX7_isAhead_9 : decode cX7_isAhead 9 = .ok (.iaload, 1) := by decide +kernel
theorem dX7_isAhead_10 : decode cX7_isAhead 10 = .ok (.aload_n 0, 1) := by decide +kernel
theorem dX7_isAhead_11 : decode cX7_isAhead 11 = .ok (.getfield 7, 3) := by decide +kernel
theorem dX7_isAhead_14 : decode cX7_isAhead 14 = .ok (.sipush 384, 3) := by decide +kernel
theorem dX7_isAhead_17 : decode cX7_isAhead 17 = .ok (.iload_n 2, 1) := by decide +kernel
theorem dX7_isAhead_18 : decode cX7_isAhead 18 = .ok (.iadd, 1) := by decide +kernel
theorem dX7_isAhead_19 : decode cX7_isAhead 19 = .ok (.iaload, 1) := by decide +kernel
theorem dX7_isAhead_20 : decode cX7_isAhead 20 = .ok (.isub, 1) := by decide +kernel
theorem dX7_isAhead_21 : decode cX7_isAhead 21 = .ok (.istore_n 3, 1) := by decide +kernel
theorem dX7_isAhead_22 : decode cX7_isAhead 22 = .ok (.aload_n 0, 1) := by decide +kernel
theorem dX7_isAhead_23 : decode cX7_isAhead 23 = .ok (.getfield 7, 3) := by decide +kernel
theorem dX7_isAhead_26 : decode cX7_isAhead 26 = .ok (.sipush 736, 3) := by decide +kernel
theorem dX7_isAhead_29 : decode cX7_isAhead 29 = .ok (.iaload, 1) := by decide +kernel
theorem dX7_isAhead_30 : decode cX7_isAhead 30 = .ok (.tableswitch 82 0 2 #[26, 36, 46], 26) := by decide +kernel
theorem dX7_isAhead_56 : decode cX7_isAhead 56 = .ok (.iload_n 3, 1) := by decide +kernel
theorem dX7_isAhead_57 : decode cX7_isAhead 57 = .ok (.ifCond .ge 7, 3) := by decide +kernel
theorem dX7_isAhead_60 : decode cX7_isAhead 60 = .ok (.iconst 1, 1) := by decide +kernel
theorem dX7_isAhead_61 : decode cX7_isAhead 61 = .ok (.goto 4, 3) := by decide +kernel
theorem dX7_isAhead_64 : decode cX7_isAhead 64 = .ok (.iconst 0, 1) := by decide +kernel
theorem dX7_isAhead_65 : decode cX7_isAhead 65 = .ok (.ireturn, 1) := by decide +kernel
theorem dX7_isAhead_66 : decode cX7_isAhead 66 = .ok (.iload_n 3, 1) := by decide +kernel
theorem dX7_isAhead_67 : decode cX7_isAhead 67 = .ok (.ifCond .le 7, 3) := by decide +kernel
theorem dX7_isAhead_70 : decode cX7_isAhead 70 = .ok (.iconst 1, 1) := by decide +kernel
theorem dX7_isAhead_71 : decode cX7_isAhead 71 = .ok (.goto 4, 3) := by decide +kernel
theorem dX7_isAhead_74 : decode cX7_isAhead 74 = .ok (.iconst 0, 1) := by decide +kernel
theorem dX7_isAhead_75 : decode cX7_isAhead 75 = .ok (.ireturn, 1) := by decide +kernel
theorem dX7_isAhead_76 : decode cX7_isAhead 76 = .ok (.aload_n 0, 1) := by decide +kernel
theorem dX7_isAhead_77 : decode cX7_isAhead 77 = .ok (.iload_n 1, 1) := by decide +kernel
theorem dX7_isAhead_78 : decode cX7_isAhead 78 = .ok (.invokevirtual 98, 3) := by decide +kernel
theorem dX7_isAhead_81 : decode cX7_isAhead 81 = .ok (.aload_n 0, 1) := by decide +kernel
theorem dX7_isAhead_82 : decode cX7_isAhead 82 = .ok (.iload_n 2, 1) := by decide +kernel
theorem dX7_isAhead_83 : decode cX7_isAhead 83 = .ok (.invokevirtual 98, 3) := by decide +kernel
theorem dX7_isAhead_86 : decode cX7_isAhead 86 = .ok (.if_icmp .lt 20, 3) := by decide +kernel
theorem dX7_isAhead_89 : decode cX7_isAhead 89 = .ok (.aload_n 0, 1) := by decide +kernel
theorem dX7_isAhead_90 : decode cX7_isAhead 90 = .ok (.iload_n 1, 1) := by decide +kernel
theorem dX7_isAhead_91 : decode cX7_isAhead 91 = .ok (.invokevirtual 98, 3) := by decide +kernel
theorem dX7_isAhead_94 : decode cX7_isAhead 94 = .ok (.aload_n 0, 1) := by decide +kernel
theorem dX7_isAhead_95 : decode cX7_isAhead 95 = .ok (.iload_n 2, 1) := by decide +kernel
theorem dX7_isAhead_96 : decode cX7_isAhead 96 = .ok (.invokevirtual 98, 3) := by decide +kernel
theorem dX7_isAhead_99 : decode cX7_isAhead 99 = .ok (.if_icmp .ne 11, 3) := by decide +kernel
theorem dX7_isAhead_102 : decode cX7_isAhead 102 = .ok (.iload_n 3, 1) := by decide +kernel
theorem dX7_isAhead_103 : decode cX7_isAhead 103 = .ok (.ifCond .ge 7, 3) := by decide +kernel
theorem dX7_isAhead_106 : decode cX7_isAhead 106 = .ok (.iconst 1, 1) := by decide +kernel
theorem dX7_isAhead_107 : decode cX7_isAhead 107 = .ok (.goto 4, 3) := by decide +kernel
theorem dX7_isAhead_110 : decode cX7_isAhead 110 = .ok (.iconst 0, 1) := by decide +kernel
theorem dX7_isAhead_111 : decode cX7_isAhead 111 = .ok (.ireturn, 1) := by decide +kernel
theorem dX7_isAhead_112 : decode cX7_isAhead 112 = .ok (.iload_n 1, 1) := by decide +kernel
theorem dX7_isAhead_113 : decode cX7_isAhead 113 = .ok (.iload_n 2, 1) := by decide +kernel
theorem dX7_isAhead_114 : decode cX7_isAhead 114 = .ok (.if_icmp .ge 7, 3) := by decide +kernel
theorem dX7_isAhead_117 : decode cX7_isAhead 117 = .ok (.iconst 1, 1) := by decide +kernel
theorem dX7_isAhead_118 : decode cX7_isAhead 118 = .ok (.goto 4, 3) := by decide +kernel
theorem dX7_isAhead_121 : decode cX7_isAhead 121 = .ok (.iconst 0, 1) := by decide +kernel
theorem dX7_isAhead_122 : decode cX7_isAhead 122 = .ok (.ireturn, 1) := by decide +kernel
theorem dX7_clearOut_0 : decode cX7_clearOut 0 = .ok (.iconst 0, 1) := by decide +kernel
theorem dX7_clearOut_1 : decode cX7_clearOut 1 = .ok (.istore_n 1, 1) := by decide +kernel
theorem dX7_clearOut_2 : decode cX7_clearOut 2 = .ok (.iload_n 1, 1) := by decide +kernel
theorem dX7_clearOut_3 : decode cX7_clearOut 3 = .ok (.sipush 128, 3) := by decide +kernel
theorem dX7_clearOut_6 : decode cX7_clearOut 6 = .ok (.if_icmp .ge 16, 3) := by decide +kernel
theorem dX7_clearOut_9 : decode cX7_clearOut 9 = .ok (.aload_n 0, 1) := by decide +kernel
theorem dX7_clearOut_10 : decode cX7_clearOut 10 = .ok (.getfield 13, 3) := by decide +kernel
theorem dX7_clearOut_13 : decode cX7_clearOut 13 = .ok (.iload_n 1, 1) := by decide +kernel
theorem dX7_clearOut_14 : decode cX7_clearOut 14 = .ok (.iconst 0, 1) := by decide +kernel
theorem dX7_clearOut_15 : decode cX7_clearOut 15 = .ok (.bastore, 1) := by decide +kernel
theorem dX7_clearOut_16 : decode cX7_clearOut 16 = .ok (.iinc 1 1, 3) := by decide +kernel
theorem dX7_clearOut_19 : decode cX7_clearOut 19 = .ok (.goto (-17), 3) := by decide +kernel
theorem dX7_clearOut_22 : decode cX7_clearOut 22 = .ok (.return_, 1) := by decide +kernel
theorem dX7_nextGrey_0 : decode cX7_nextGrey 0 = .ok (.iconst (-1), 1) := by decide +kernel
theorem dX7_nextGrey_1 : decode cX7_nextGrey 1 = .ok (.istore_n 1, 1) := by decide +kernel
theorem dX7_nextGrey_2 : decode cX7_nextGrey 2 = .ok (.iconst 0, 1) := by decide +kernel
theorem dX7_nextGrey_3 : decode cX7_nextGrey 3 = .ok (.istore_n 2, 1) := by decide +kernel
theorem dX7_nextGrey_4 : decode cX7_nextGrey 4 = .ok (.iload_n 2, 1) := by decide +kernel
theorem dX7_nextGrey_5 : decode cX7_nextGrey 5 = .ok (.sipush 128, 3) := by decide +kernel
theorem dX7_nextGrey_8 : decode cX7_nextGrey 8 = .ok (.if_icmp .ge 53, 3) := by decide +kernel
theorem dX7_nextGrey_11 : decode cX7_nextGrey 11 = .ok (.aload_n 0, 1) := by decide +kernel
theorem dX7_nextGrey_12 : decode cX7_nextGrey 12 = .ok (.iload_n 2, 1) := by decide +kernel
theorem dX7_nextGrey_13 : decode cX7_nextGrey 13 = .ok (.invokevirtual 102, 3) := by decide +kernel
theorem dX7_nextGrey_16 : decode cX7_nextGrey 16 = .ok (.ifCond .eq 39, 3) := by decide +kernel
theorem dX7_nextGrey_19 : decode cX7_nextGrey 19 = .ok (.aload_n 0, 1) := by decide +kernel
theorem dX7_nextGrey_20 : decode cX7_nextGrey 20 = .ok (.iload_n 2, 1) := by decide +kernel
theorem dX7_nextGrey_21 : decode cX7_nextGrey 21 = .ok (.invokevirtual 106, 3) := by decide +kernel
theorem dX7_nextGrey_24 : decode cX7_nextGrey 24 = .ok (.iconst 2, 1) := by decide +kernel
theorem dX7_nextGrey_25 : decode cX7_nextGrey 25 = .ok (.if_icmp .ne 30, 3) := by decide +kernel
theorem dX7_nextGrey_28 : decode cX7_nextGrey 28 = .ok (.aload_n 0, 1) := by decide +kernel
theorem dX7_nextGrey_29 : decode cX7_nextGrey 29 = .ok (.getfield 13, 3) := by decide +kernel
theorem dX7_nextGrey_32 : decode cX7_nextGrey 32 = .ok (.iload_n 2, 1) := by decide +kernel
theorem dX7_nextGrey_33 : decode cX7_nextGrey 33 = .ok (.baload, 1) := by decide +kernel
theorem dX7_nextGrey_34 : decode cX7_nextGrey 34 = .ok (.ifCond .eq 6, 3) := by decide +kernel
theorem dX7_nextGrey_37 : decode cX7_nextGrey 37 = .ok (.goto 18, 3) := by decide +kernel
theorem dX7_nextGrey_40 : decode cX7_nextGrey 40 = .ok (.iload_n 1, 1) := by decide +kernel
theorem dX7_nextGrey_41 : decode cX7_nextGrey 41 = .ok (.ifCond .lt 12, 3) := by decide +kernel
theorem dX7_nextGrey_44 : decode cX7_nextGrey 44 = .ok (.aload_n 0, 1) := by decide +kernel
theorem dX7_nextGrey_45 : decode cX7_nextGrey 45 = .ok (.iload_n 2, 1) := by decide +kernel
theorem dX7_nextGrey_46 : decode cX7_nextGrey 46 = .ok (.iload_n 1, 1) := by decide +kernel
theorem dX7_nextGrey_47 : decode cX7_nextGrey 47 = .ok (.invokevirtual 171, 3) := by decide +kernel
theorem dX7_nextGrey_50 : decode cX7_nextGrey 50 = .ok (.ifCond .eq 5, 3) := by decide +kernel
theorem dX7_nextGrey_53 : decode cX7_nextGrey 53 = .ok (.iload_n 2, 1) := by decide +kernel
theorem dX7_nextGrey_54 : decode cX7_nextGrey 54 = .ok (.istore_n 1, 1) := by decide +kernel
theorem dX7_nextGrey_55 : decode cX7_nextGrey 55 = .ok (.iinc 2 1, 3) := by decide +kernel
theorem dX7_nextGrey_58 : decode cX7_nextGrey 58 = .ok (.goto (-54), 3) := by decide +kernel
theorem dX7_nextGrey_61 : decode cX7_nextGrey 61 = .ok (.iload_n 1, 1) := by decide +kernel
theorem dX7_nextGrey_62 : decode cX7_nextGrey 62 = .ok (.ireturn, 1) := by decide +kernel
theorem dX7_goStep_0 : decode cX7_goStep 0 = .ok (.aload_n 0, 1) := by decide +kernel
theorem dX7_goStep_1 : decode cX7_goStep 1 = .ok (.getfield 7, 3) := by decide +kernel
theorem dX7_goStep_4 : decode cX7_goStep 4 = .ok (.sipush 730, 3) := by decide +kernel
theorem dX7_goStep_7 : decode cX7_goStep 7 = .ok (.dup2, 1) := by decide +kernel
theorem dX7_goStep_8 : decode cX7_goStep 8 = .ok (.iaload, 1) := by decide +kernel
theorem dX7_goStep_9 : decode cX7_goStep 9 = .ok (.iconst 1, 1) := by decide +kernel
theorem dX7_goStep_10 : decode cX7_goStep 10 = .ok (.iadd, 1) := by decide +kernel
theorem dX7_goStep_11 : decode cX7_goStep 11 = .ok (.iastore, 1) := by decide +kernel
theorem dX7_goStep_12 : decode cX7_goStep 12 = .ok (.aload_n 0, 1) := by decide +kernel
theorem dX7_goStep_13 : decode cX7_goStep 13 = .ok (.invokevirtual 175, 3) := by decide +kernel
theorem dX7_goStep_16 : decode cX7_goStep 16 = .ok (.aload_n 0, 1) := by decide +kernel
theorem dX7_goStep_17 : decode cX7_goStep 17 = .ok (.getfield 7, 3) := by decide +kernel
theorem dX7_goStep_20 : decode cX7_goStep 20 = .ok (.sipush 727, 3) := by decide +kernel
theorem dX7_goStep_23 : decode cX7_goStep 23 = .ok (.iaload, 1) := by decide +kernel
theorem dX7_goStep_24 : decode cX7_goStep 24 = .ok (.ifCond .ge 24, 3) := by decide +kernel
theorem dX7_goStep_27 : decode cX7_goStep 27 = .ok (.aload_n 0, 1) := by decide +kernel
theorem dX7_goStep_28 : decode cX7_goStep 28 = .ok (.getfield 7, 3) := by decide +kernel
theorem dX7_goStep_31 : decode cX7_goStep 31 = .ok (.sipush 727, 3) := by decide +kernel
theorem dX7_goStep_34 : decode cX7_goStep 34 = .ok (.aload_n 0, 1) := by decide +kernel
theorem dX7_goStep_35 : decode cX7_goStep 35 = .ok (.invokevirtual 178, 3) := by decide +kernel
theorem dX7_goStep_38 : decode cX7_goStep 38 = .ok (.iastore, 1) := by decide +kernel
theorem dX7_goStep_39 : decode cX7_goStep 39 = .ok (.aload_n 0, 1) := by decide +kernel
theorem dX7_goStep_40 : decode cX7_goStep 40 = .ok (.getfield 7, 3) := by decide +kernel
theorem dX7_goStep_43 : decode cX7_goStep 43 = .ok (.sipush 728, 3) := by decide +kernel
theorem dX7_goStep_46 : decode cX7_goStep 46 = .ok (.iconst 0, 1) := by decide +kernel
theorem dX7_goStep_47 : decode cX7_goStep 47 = .ok (.iastore, 1) := by decide +kernel
theorem dX7_goStep_48 : decode cX7_goStep 48 = .ok (.aload_n 0, 1) := by decide +kernel
theorem dX7_goStep_49 : decode cX7_goStep 49 = .ok (.getfield 7, 3) := by decide +kernel
theorem dX7_goStep_52 : decode cX7_goStep 52 = .ok (.sipush 727, 3) := by decide +kernel
theorem dX7_goStep_55 : decode cX7_goStep 55 = .ok (.iaload, 1) := by decide +kernel
theorem dX7_goStep_56 : decode cX7_goStep 56 = .ok (.istore_n 1, 1) := by decide +kernel
theorem dX7_goStep_57 : decode cX7_goStep 57 = .ok (.aload_n 0, 1) := by decide +kernel
theorem dX7_goStep_58 : decode cX7_goStep 58 = .ok (.getfield 7, 3) := by decide +kernel
theorem dX7_goStep_61 : decode cX7_goStep 61 = .ok (.sipush 728, 3) := by decide +kernel
theorem dX7_goStep_64 : decode cX7_goStep 64 = .ok (.iaload, 1) := by decide +kernel
theorem dX7_goStep_65 : decode cX7_goStep 65 = .ok (.aload_n 0, 1) := by decide +kernel
theorem dX7_goStep_66 : decode cX7_goStep 66 = .ok (.getfield 7, 3) := by decide +kernel
theorem dX7_goStep_69 : decode cX7_goStep 69 = .ok (.sipush 128, 3) := by decide +kernel
theorem dX7_goStep_72 : decode cX7_goStep 72 = .ok (.iload_n 1, 1) := by decide +kernel
theorem dX7_goStep_73 : decode cX7_goStep 73 = .ok (.iadd, 1) := by decide +kernel
theorem dX7_goStep_74 : decode cX7_goStep 74 = .ok (.iaload, 1) := by decide +kernel
theorem dX7_goStep_75 : decode cX7_goStep 75 = .ok (.if_icmp .ge 39, 3) := by decide +kernel
theorem dX7_goStep_78 : decode cX7_goStep 78 = .ok (.aload_n 0, 1) := by decide +kernel
theorem dX7_goStep_79 : decode cX7_goStep 79 = .ok (.getfield 7, 3) := by decide +kernel
theorem dX7_goStep_82 : decode cX7_goStep 82 = .ok (.iload_n 1, 1) := by decide +kernel
theorem dX7_goStep_83 : decode cX7_goStep 83 = .ok (.aload_n 0, 1) := by decide +kernel
theorem dX7_goStep_84 : decode cX7_goStep 84 = .ok (.getfield 7, 3) := by decide +kernel
theorem dX7_goStep_87 : decode cX7_goStep 87 = .ok (.sipush 728, 3) := by decide +kernel
theorem dX7_goStep_90 : decode cX7_goStep 90 = .ok (.iaload, 1) := by decide +kernel
theorem dX7_goStep_91 : decode cX7_goStep 91 = .ok (.invokestatic 161, 3) := by decide +kernel
theorem dX7_goStep_94 : decode cX7_goStep 94 = .ok (.iaload, 1) := by decide +kernel
theorem dX7_goStep_95 : decode cX7_goStep 95 = .ok (.istore_n 2, 1) := by decide +kernel
theorem dX7_goStep_96 : decode cX7_goStep 96 = .ok (.aload_n 0, 1) := by decide +kernel
theorem dX7_goStep_97 : decode cX7_goStep 97 = .ok (.getfield 7, 3) := by decide +kernel
theorem dX7_goStep_100 : decode cX7_goStep 100 = .ok (.sipush 728, 3) := by decide +kernel
theorem dX7_goStep_103 : decode cX7_goStep 103 = .ok (.dup2, 1) := by decide +kernel
theorem dX7_goStep_104 : decode cX7_goStep 104 = .ok (.iaload, 1) := by decide +kernel
theorem dX7_goStep_105 : decode cX7_goStep 105 = .ok (.iconst 1, 1) := by decide +kernel
theorem dX7_goStep_106 : decode cX7_goStep 106 = .ok (.iadd, 1) := by decide +kernel
theorem dX7_goStep_107 : decode cX7_goStep 107 = .ok (.iastore, 1) := by decide +kernel
theorem dX7_goStep_108 : decode cX7_goStep 108 = .ok (.aload_n 0, 1) := by decide +kernel
theorem dX7_goStep_109 : decode cX7_goStep 109 = .ok (.iload_n 2, 1) := by decide +kernel
theorem dX7_goStep_110 : decode cX7_goStep 110 = .ok (.iconst 1, 1) := by decide +kernel
theorem dX7_goStep_111 : decode cX7_goStep 111 = .ok (.invokevirtual 142, 3) := by decide +kernel
theorem dX7_goStep_114 : decode cX7_goStep 114 = .ok (.aload_n 0, 1) := by decide +kernel
theorem dX7_goStep_115 : decode cX7_goStep 115 = .ok (.getfield 7, 3) := by decide +kernel
theorem dX7_goStep_118 : decode cX7_goStep 118 = .ok (.sipush 728, 3) := by decide +kernel
theorem dX7_goStep_121 : decode cX7_goStep 121 = .ok (.iaload, 1) := by decide +kernel
theorem dX7_goStep_122 : decode cX7_goStep 122 = .ok (.aload_n 0, 1) := by decide +kernel
theorem dX7_goStep_123 : decode cX7_goStep 123 = .ok (.getfield 7, 3) := by decide +kernel
theorem dX7_goStep_126 : decode cX7_goStep 126 = .ok (.sipush 128, 3) := by decide +kernel
theorem dX7_goStep_129 : decode cX7_goStep 129 = .ok (.iload_n 1, 1) := by decide +kernel
theorem dX7_goStep_130 : decode cX7_goStep 130 = .ok (.iadd, 1) := by decide +kernel
theorem dX7_goStep_131 : decode cX7_goStep 131 = .ok (.iaload, 1) := by decide +kernel
theorem dX7_goStep_132 : decode cX7_goStep 132 = .ok (.if_icmp .lt 27, 3) := by decide +kernel
theorem dX7_goStep_135 : decode cX7_goStep 135 = .ok (.aload_n 0, 1) := by decide +kernel
theorem dX7_goStep_136 : decode cX7_goStep 136 = .ok (.iload_n 1, 1) := by decide +kernel
theorem dX7_goStep_137 : decode cX7_goStep 137 = .ok (.iconst 3, 1) := by decide +kernel
theorem dX7_goStep_138 : decode cX7_goStep 138 = .ok (.invokevirtual 139, 3) := by decide +kernel
theorem dX7_goStep_141 : decode cX7_goStep 141 = .ok (.aload_n 0, 1) := by decide +kernel
theorem dX7_goStep_142 : decode cX7_goStep 142 = .ok (.getfield 7, 3) := by decide +kernel
theorem dX7_goStep_145 : decode cX7_goStep 145 = .ok (.sipush 727, 3) := by decide +kernel
theorem dX7_goStep_148 : decode cX7_goStep 148 = .ok (.iconst (-1), 1) := by decide +kernel
theorem dX7_goStep_149 : decode cX7_goStep 149 = .ok (.iastore, 1) := by decide +kernel
theorem dX7_goStep_150 : decode cX7_goStep 150 = .ok (.aload_n 0, 1) := by decide +kernel
theorem dX7_goStep_151 : decode cX7_goStep 151 = .ok (.getfield 7, 3) := by decide +kernel
theorem dX7_goStep_154 : decode cX7_goStep 154 = .ok (.sipush 728, 3) := by decide +kernel
theorem dX7_goStep_157 : decode cX7_goStep 157 = .ok (.iconst 0, 1) := by decide +kernel
theorem dX7_goStep_158 : decode cX7_goStep 158 = .ok (.iastore, 1) := by decide +kernel
theorem dX7_goStep_159 : decode cX7_goStep 159 = .ok (.aload_n 0, 1) := by decide +kernel
theorem dX7_goStep_160 : decode cX7_goStep 160 = .ok (.iconst 2, 1) := by decide +kernel
theorem dX7_goStep_161 : decode cX7_goStep 161 = .ok (.invokevirtual 122, 3) := by decide +kernel
theorem dX7_goStep_164 : decode cX7_goStep 164 = .ok (.ifCond .le 4, 3) := by decide +kernel
theorem dX7_goStep_167 : decode cX7_goStep 167 = .ok (.return_, 1) := by decide +kernel
theorem dX7_goStep_168 : decode cX7_goStep 168 = .ok (.aload_n 0, 1) := by decide +kernel
theorem dX7_goStep_169 : decode cX7_goStep 169 = .ok (.getfield 7, 3) := by decide +kernel
theorem dX7_goStep_172 : decode cX7_goStep 172 = .ok (.sipush 735, 3) := by decide +kernel
theorem dX7_goStep_175 : decode cX7_goStep 175 = .ok (.iaload, 1) := by decide +kernel
theorem dX7_goStep_176 : decode cX7_goStep 176 = .ok (.iconst 1, 1) := by decide +kernel
theorem dX7_goStep_177 : decode cX7_goStep 177 = .ok (.if_icmp .ne 7, 3) := by decide +kernel
theorem dX7_goStep_180 : decode cX7_goStep 180 = .ok (.aload_n 0, 1) := by decide +kernel
theorem dX7_goStep_181 : decode cX7_goStep 181 = .ok (.invokevirtual 149, 3) := by decide +kernel
theorem dX7_goStep_184 : decode cX7_goStep 184 = .ok (.aload_n 0, 1) := by decide +kernel
theorem dX7_goStep_185 : decode cX7_goStep 185 = .ok (.iconst 2, 1) := by decide +kernel
theorem dX7_goStep_186 : decode cX7_goStep 186 = .ok (.invokevirtual 122, 3) := by decide +kernel
theorem dX7_goStep_189 : decode cX7_goStep 189 = .ok (.ifCond .ne 7, 3) := by decide +kernel
theorem dX7_goStep_192 : decode cX7_goStep 192 = .ok (.aload_n 0, 1) := by decide +kernel
theorem dX7_goStep_193 : decode cX7_goStep 193 = .ok (.invokevirtual 152, 3) := by decide +kernel
theorem dX7_goStep_196 : decode cX7_goStep 196 = .ok (.return_, 1) := by decide +kernel
theorem dX7_goSteps_0 : decode cX7_goSteps 0 = .ok (.iconst 0, 1) := by decide +kernel
theorem dX7_goSteps_1 : decode cX7_goSteps 1 = .ok (.istore_n 2, 1) := by decide +kernel
theorem dX7_goSteps_2 : decode cX7_goSteps 2 = .ok (.iload_n 2, 1) := by decide +kernel
theorem dX7_goSteps_3 : decode cX7_goSteps 3 = .ok (.iload_n 1, 1) := by decide +kernel
theorem dX7_goSteps_4 : decode cX7_goSteps 4 = .ok (.if_icmp .ge 20, 3) := by decide +kernel
theorem dX7_goSteps_7 : decode cX7_goSteps 7 = .ok (.aload_n 0, 1) := by decide +kernel
theorem dX7_goSteps_8 : decode cX7_goSteps 8 = .ok (.invokevirtual 181, 3) := by decide +kernel
theorem dX7_goSteps_11 : decode cX7_goSteps 11 = .ok (.ifCond .eq 13, 3) := by decide +kernel
theorem dX7_goSteps_14 : decode cX7_goSteps 14 = .ok (.aload_n 0, 1) := by decide +kernel
theorem dX7_goSteps_15 : decode cX7_goSteps 15 = .ok (.invokevirtual 185, 3) := by decide +kernel
theorem dX7_goSteps_18 : decode cX7_goSteps 18 = .ok (.iinc 2 1, 3) := by decide +kernel
theorem dX7_goSteps_21 : decode cX7_goSteps 21 = .ok (.goto (-19), 3) := by decide +kernel
theorem dX7_goSteps_24 : decode cX7_goSteps 24 = .ok (.iload_n 2, 1) := by decide +kernel
theorem dX7_goSteps_25 : decode cX7_goSteps 25 = .ok (.ireturn, 1) := by decide +kernel
theorem dX7_force_0 : decode cX7_force 0 = .ok (.aload_n 0, 1) := by decide +kernel
theorem dX7_force_1 : decode cX7_force 1 = .ok (.getfield 7, 3) := by decide +kernel
theorem dX7_force_4 : decode cX7_force 4 = .ok (.sipush 731, 3) := by decide +kernel
theorem dX7_force_7 : decode cX7_force 7 = .ok (.dup2, 1) := by decide +kernel
theorem dX7_force_8 : decode cX7_force 8 = .ok (.iaload, 1) := by decide +kernel
theorem dX7_force_9 : decode cX7_force 9 = .ok (.aload_n 0, 1) := by decide +kernel
theorem dX7_force_10 : decode cX7_force 10 = .ok (.ldc 188, 2) := by decide +kernel
theorem dX7_force_12 : decode cX7_force 12 = .ok (.invokevirtual 189, 3) := by decide +kernel
theorem dX7_force_15 : decode cX7_force 15 = .ok (.iadd, 1) := by decide +kernel
theorem dX7_force_16 : decode cX7_force 16 = .ok (.iastore, 1) := by decide +kernel
theorem dX7_force_17 : decode cX7_force 17 = .ok (.return_, 1) := by decide +kernel
theorem dX7_isPageFree_0 : decode cX7_isPageFree 0 = .ok (.aload_n 0, 1) := by decide +kernel
theorem dX7_isPageFree_1 : decode cX7_isPageFree 1 = .ok (.getfield 7, 3) := by decide +kernel
theorem dX7_isPageFree_4 : decode cX7_isPageFree 4 = .ok (.sipush 707, 3) := by decide +kernel
theorem dX7_isPageFree_7 : decode cX7_isPageFree 7 = .ok (.iload_n 1, 1) := by decide +kernel
theorem dX7_isPageFree_8 : decode cX7_isPageFree 8 = .ok (.iadd, 1) := by decide +kernel
theorem dX7_isPageFree_9 : decode cX7_isPageFree 9 = .ok (.iaload, 1) := by decide +kernel
theorem dX7_isPageFree_10 : decode cX7_isPageFree 10 = .ok (.istore_n 2, 1) := by decide +kernel
theorem dX7_isPageFree_11 : decode cX7_isPageFree 11 = .ok (.bipush 16, 2) := by decide +kernel
theorem dX7_isPageFree_13 : decode cX7_isPageFree 13 = .ok (.iload_n 1, 1) := by decide +kernel
theorem dX7_isPageFree_14 : decode cX7_isPageFree 14 = .ok (.imul, 1) := by decide +kernel
theorem dX7_isPageFree_15 : decode cX7_isPageFree 15 = .ok (.istore_n 3, 1) := by decide +kernel
theorem dX7_isPageFree_16 : decode cX7_isPageFree 16 = .ok (.iload_n 3, 1) := by decide +kernel
theorem dX7_isPageFree_17 : decode cX7_isPageFree 17 = .ok (.bipush 16, 2) := by decide +kernel
theorem dX7_isPageFree_19 : decode cX7_isPageFree 19 = .ok (.iload_n 1, 1) := by decide +kernel
theorem dX7_isPageFree_20 : decode cX7_isPageFree 20 = .ok (.iconst 1, 1) := by decide +kernel
theorem dX7_isPageFree_21 : decode cX7_isPageFree 21 = .ok (.iadd, 1) := by decide +kernel
theorem dX7_isPageFree_22 : decode cX7_isPageFree 22 = .ok (.imul, 1) := by decide +kernel
theorem dX7_isPageFree_23 : decode cX7_isPageFree 23 = .ok (.if_icmp .ge 20, 3) := by decide +kernel
theorem dX7_isPageFree_26 : decode cX7_isPageFree 26 = .ok (.aload_n 0, 1) := by decide +kernel
theorem dX7_isPageFree_27 : decode cX7_isPageFree 27 = .ok (.iload_n 3, 1) := by decide +kernel
theorem dX7_isPageFree_28 : decode cX7_isPageFree 28 = .ok (.invokevirtual 106, 3) := by decide +kernel
theorem dX7_isPageFree_31 : decode cX7_isPageFree 31 = .ok (.ifCond .eq 5, 3) := by decide +kernel
theorem dX7_isPageFree_34 : decode cX7_isPageFree 34 = .ok (.iconst 0, 1) := by decide +kernel
theorem dX7_isPageFree_35 : decode cX7_isPageFree 35 = .ok (.ireturn, 1) := by decide +kernel
theorem dX7_isPageFree_36 : decode cX7_isPageFree 36 = .ok (.iload_n 3, 1) := by decide +kernel
theorem dX7_isPageFree_37 : decode cX7_isPageFree 37 = .ok (.iload_n 2, 1) := by decide +kernel
theorem dX7_isPageFree_38 : decode cX7_isPageFree 38 = .ok (.iadd, 1) := by decide +kernel
theorem dX7_isPageFree_39 : decode cX7_isPageFree 39 = .ok (.istore_n 3, 1) := by decide +kernel
theorem dX7_isPageFree_40 : decode cX7_isPageFree 40 = .ok (.goto (-24), 3) := by decide +kernel
theorem dX7_isPageFree_43 : decode cX7_isPageFree 43 = .ok (.iconst 1, 1) := by decide +kernel
theorem dX7_isPageFree_44 : decode cX7_isPageFree 44 = .ok (.ireturn, 1) := by decide +kernel
theorem dX7_giveUp_0 : decode cX7_giveUp 0 = .ok (.aload_n 0, 1) := by decide +kernel
theorem dX7_giveUp_1 : decode cX7_giveUp 1 = .ok (.getfield 7, 3) := by decide +kernel
theorem dX7_giveUp_4 : decode cX7_giveUp 4 = .ok (.sipush 707, 3) := by decide +kernel
theorem dX7_giveUp_7 : decode cX7_giveUp 7 = .ok (.iload_n 1, 1) := by decide +kernel
theorem dX7_giveUp_8 : decode cX7_giveUp 8 = .ok (.iadd, 1) := by decide +kernel
theorem dX7_giveUp_9 : decode cX7_giveUp 9 = .ok (.iaload, 1) := by decide +kernel
theorem dX7_giveUp_10 : decode cX7_giveUp 10 = .ok (.istore_n 2, 1) := by decide +kernel
theorem dX7_giveUp_11 : decode cX7_giveUp 11 = .ok (.bipush 16, 2) := by decide +kernel
theorem dX7_giveUp_13 : decode cX7_giveUp 13 = .ok (.iload_n 1, 1) := by decide +kernel
theorem dX7_giveUp_14 : decode cX7_giveUp 14 = .ok (.imul, 1) := by decide +kernel
theorem dX7_giveUp_15 : decode cX7_giveUp 15 = .ok (.istore_n 3, 1) := by decide +kernel
theorem dX7_giveUp_16 : decode cX7_giveUp 16 = .ok (.iload_n 3, 1) := by decide +kernel
theorem dX7_giveUp_17 : decode cX7_giveUp 17 = .ok (.bipush 16, 2) := by decide +kernel
theorem dX7_giveUp_19 : decode cX7_giveUp 19 = .ok (.iload_n 1, 1) := by decide +kernel
theorem dX7_giveUp_20 : decode cX7_giveUp 20 = .ok (.iconst 1, 1) := by decide +kernel
theorem dX7_giveUp_21 : decode cX7_giveUp 21 = .ok (.iadd, 1) := by decide +kernel
theorem dX7_giveUp_22 : decode cX7_giveUp 22 = .ok (.imul, 1) := by decide +kernel
theorem dX7_giveUp_23 : decode cX7_giveUp 23 = .ok (.if_icmp .ge 19, 3) := by decide +kernel
theorem dX7_giveUp_26 : decode cX7_giveUp 26 = .ok (.aload_n 0, 1) := by decide +kernel
theorem dX7_giveUp_27 : decode cX7_giveUp 27 = .ok (.iload_n 2, 1) := by decide +kernel
theorem dX7_giveUp_28 : decode cX7_giveUp 28 = .ok (.invokestatic 125, 3) := by decide +kernel
theorem dX7_giveUp_31 : decode cX7_giveUp 31 = .ok (.iload_n 3, 1) := by decide +kernel
theorem dX7_giveUp_32 : decode cX7_giveUp 32 = .ok (.invokevirtual 128, 3) := by decide +kernel
theorem dX7_giveUp_35 : decode cX7_giveUp 35 = .ok (.iload_n 3, 1) := by decide +kernel
theorem dX7_giveUp_36 : decode cX7_giveUp 36 = .ok (.iload_n 2, 1) := by decide +kernel
theorem dX7_giveUp_37 : decode cX7_giveUp 37 = .ok (.iadd, 1) := by decide +kernel
theorem dX7_giveUp_38 : decode cX7_giveUp 38 = .ok (.istore_n 3, 1) := by decide +kernel
theorem dX7_giveUp_39 : decode cX7_giveUp 39 = .ok (.goto (-23), 3) := by decide +kernel
theorem dX7_giveUp_42 : decode cX7_giveUp 42 = .ok (.return_, 1) := by decide +kernel
theorem dX7_takePage_0 : decode cX7_takePage 0 = .ok (.aload_n 0, 1) := by decide +kernel
theorem dX7_takePage_1 : decode cX7_takePage 1 = .ok (.getfield 7, 3) := by decide +kernel
theorem dX7_takePage_4 : decode cX7_takePage 4 = .ok (.sipush 707, 3) := by decide +kernel
theorem dX7_takePage_7 : decode cX7_takePage 7 = .ok (.iload_n 1, 1) := by decide +kernel
theorem dX7_takePage_8 : decode cX7_takePage 8 = .ok (.iadd, 1) := by decide +kernel
theorem dX7_takePage_9 : decode cX7_takePage 9 = .ok (.iload_n 2, 1) := by decide +kernel
theorem dX7_takePage_10 : decode cX7_takePage 10 = .ok (.iastore, 1) := by decide +kernel
theorem dX7_takePage_11 : decode cX7_takePage 11 = .ok (.iload_n 2, 1) := by decide +kernel
theorem dX7_takePage_12 : decode cX7_takePage 12 = .ok (.invokestatic 125, 3) := by decide +kernel
theorem dX7_takePage_15 : decode cX7_takePage 15 = .ok (.istore_n 3, 1) := by decide +kernel
theorem dX7_takePage_16 : decode cX7_takePage 16 = .ok (.bipush 16, 2) := by decide +kernel
theorem dX7_takePage_18 : decode cX7_takePage 18 = .ok (.iload_n 1, 1) := by decide +kernel
theorem dX7_takePage_19 : decode cX7_takePage 19 = .ok (.imul, 1) := by decide +kernel
theorem dX7_takePage_20 : decode cX7_takePage 20 = .ok (.istore 4, 2) := by decide +kernel
theorem dX7_takePage_22 : decode cX7_takePage 22 = .ok (.iload 4, 2) := by decide +kernel
theorem dX7_takePage_24 : decode cX7_takePage 24 = .ok (.bipush 16, 2) := by decide +kernel
theorem dX7_takePage_26 : decode cX7_takePage 26 = .ok (.iload_n 1, 1) := by decide +kernel
theorem dX7_takePage_27 : decode cX7_takePage 27 = .ok (.iconst 1, 1) := by decide +kernel
theorem dX7_takePage_28 : decode cX7_takePage 28 = .ok (.iadd, 1) := by decide +kernel
theorem dX7_takePage_29 : decode cX7_takePage 29 = .ok (.imul, 1) := by decide +kernel
theorem dX7_takePage_30 : decode cX7_takePage 30 = .ok (.if_icmp .ge 47, 3) := by decide +kernel
theorem dX7_takePage_33 : decode cX7_takePage 33 = .ok (.aload_n 0, 1) := by decide +kernel
theorem dX7_takePage_34 : decode cX7_takePage 34 = .ok (.getfield 7, 3) := by decide +kernel
theorem dX7_takePage_37 : decode cX7_takePage 37 = .ok (.iconst 0, 1) := by decide +kernel
theorem dX7_takePage_38 : decode cX7_takePage 38 = .ok (.iload 4, 2) := by decide +kernel
theorem dX7_takePage_40 : decode cX7_takePage 40 = .ok (.iadd, 1) := by decide +kernel
theorem dX7_takePage_41 : decode cX7_takePage 41 = .ok (.iconst 0, 1) := by decide +kernel
theorem dX7_takePage_42 : decode cX7_takePage 42 = .ok (.iastore, 1) := by decide +kernel
theorem dX7_takePage_43 : decode cX7_takePage 43 = .ok (.aload_n 0, 1) := by decide +kernel
theorem dX7_takePage_44 : decode cX7_takePage 44 = .ok (.getfield 7, 3) := by decide +kernel
theorem dX7_takePage_47 : decode cX7_takePage 47 = .ok (.sipush 128, 3) := by decide +kernel
theorem dX7_takePage_50 : decode cX7_takePage 50 = .ok (.iload 4, 2) := by decide +kernel
theorem dX7_takePage_52 : decode cX7_takePage 52 = .ok (.iadd, 1) := by decide +kernel
theorem dX7_takePage_53 : decode cX7_takePage 53 = .ok (.iconst 0, 1) := by decide +kernel
theorem dX7_takePage_54 : decode cX7_takePage 54 = .ok (.iastore, 1) := by decide +kernel
theorem dX7_takePage_55 : decode cX7_takePage 55 = .ok (.aload_n 0, 1) := by decide +kernel
theorem dX7_takePage_56 : decode cX7_takePage 56 = .ok (.iload_n 3, 1) := by decide +kernel
theorem dX7_takePage_57 : decode cX7_takePage 57 = .ok (.aload_n 0, 1) := by decide +kernel
theorem dX7_takePage_58 : decode cX7_takePage 58 = .ok (.iload_n 3, 1) := by decide +kernel
theorem dX7_takePage_59 : decode cX7_takePage 59 = .ok (.iconst 1, 1) := by decide +kernel
theorem dX7_takePage_60 : decode cX7_takePage 60 = .ok (.invokevirtual 132, 3) := by decide +kernel
theorem dX7_takePage_63 : decode cX7_takePage 63 = .ok (.iload 4, 2) := by decide +kernel
theorem dX7_takePage_65 : decode cX7_takePage 65 = .ok (.invokevirtual 135, 3) := by decide +kernel
theorem dX7_takePage_68 : decode cX7_takePage 68 = .ok (.iload 4, 2) := by decide +kernel
theorem dX7_takePage_70 : decode cX7_takePage 70 = .ok (.iload_n 2, 1) := by decide +kernel
theorem dX7_takePage_71 : decode cX7_takePage 71 = .ok (.iadd, 1) := by decide +kernel
theorem dX7_takePage_72 : decode cX7_takePage 72 = .ok (.istore 4, 2) := by decide +kernel
theorem dX7_takePage_74 : decode cX7_takePage 74 = .ok (.goto (-52), 3) := by decide +kernel
theorem dX7_takePage_77 : decode cX7_takePage 77 = .ok (.return_, 1) := by decide +kernel
theorem dX7_look_0 : decode cX7_look 0 = .ok (.aload_n 0, 1) := by decide +kernel
theorem dX7_look_1 : decode cX7_look 1 = .ok (.iload_n 1, 1) := by decide +kernel
theorem dX7_look_2 : decode cX7_look 2 = .ok (.invokestatic 125, 3) := by decide +kernel
theorem dX7_look_5 : decode cX7_look 5 = .ok (.iconst 0, 1) := by decide +kernel
theorem dX7_look_6 : decode cX7_look 6 = .ok (.invokevirtual 119, 3) := by decide +kernel
theorem dX7_look_9 : decode cX7_look 9 = .ok (.ifCond .le 5, 3) := by decide +kernel
theorem dX7_look_12 : decode cX7_look 12 = .ok (.iconst 1, 1) := by decide +kernel
theorem dX7_look_13 : decode cX7_look 13 = .ok (.ireturn, 1) := by decide +kernel
theorem dX7_look_14 : decode cX7_look 14 = .ok (.iconst 0, 1) := by decide +kernel
theorem dX7_look_15 : decode cX7_look 15 = .ok (.istore_n 2, 1) := by decide +kernel
theorem dX7_look_16 : decode cX7_look 16 = .ok (.iload_n 2, 1) := by decide +kernel
theorem dX7_look_17 : decode cX7_look 17 = .ok (.aload_n 0, 1) := by decide +kernel
theorem dX7_look_18 : decode cX7_look 18 = .ok (.getfield 7, 3) := by decide +kernel
theorem dX7_look_21 : decode cX7_look 21 = .ok (.sipush 725, 3) := by decide +kernel
theorem dX7_look_24 : decode cX7_look 24 = .ok (.iaload, 1) := by decide +kernel
theorem dX7_look_25 : decode cX7_look 25 = .ok (.if_icmp .ge 33, 3) := by decide +kernel
theorem dX7_look_28 : decode cX7_look 28 = .ok (.aload_n 0, 1) := by decide +kernel
theorem dX7_look_29 : decode cX7_look 29 = .ok (.getfield 7, 3) := by decide +kernel
theorem dX7_look_32 : decode cX7_look 32 = .ok (.sipush 707, 3) := by decide +kernel
theorem dX7_look_35 : decode cX7_look 35 = .ok (.iload_n 2, 1) := by decide +kernel
theorem dX7_look_36 : decode cX7_look 36 = .ok (.iadd, 1) := by decide +kernel
theorem dX7_look_37 : decode cX7_look 37 = .ok (.iaload, 1) := by decide +kernel
theorem dX7_look_38 : decode cX7_look 38 = .ok (.ifCond .eq 6, 3) := by decide +kernel
theorem dX7_look_41 : decode cX7_look 41 = .ok (.goto 11, 3) := by decide +kernel
theorem dX7_look_44 : decode cX7_look 44 = .ok (.aload_n 0, 1) := by decide +kernel
theorem dX7_look_45 : decode cX7_look 45 = .ok (.iload_n 2, 1) := by decide +kernel
theorem dX7_look_46 : decode cX7_look 46 = .ok (.iload_n 1, 1) := by decide +kernel
theorem dX7_look_47 : decode cX7_look 47 = .ok (.invokevirtual 192, 3) := by decide +kernel
theorem dX7_look_50 : decode cX7_look 50 = .ok (.iconst 1, 1) := by decide +kernel
theorem dX7_look_51 : decode cX7_look 51 = .ok (.ireturn, 1) := by decide +kernel
end
section
theorem dX7_look_52 : decode cX7_look 52 = .ok (.iinc 2 1, 3) := by decide +kernel
theorem dX7_look_55 : decode cX7_look 55 = .ok (.goto (-39), 3) := by decide +kernel
theorem dX7_look_58 : decode cX7_look 58 = .ok (.iconst 0, 1) := by decide +kernel
theorem dX7_look_59 : decode cX7_look 59 = .ok (.istore_n 2, 1) := by decide +kernel
theorem dX7_look_60 : decode cX7_look 60 = .ok (.iload_n 2, 1) := by decide +kernel
theorem dX7_look_61 : decode cX7_look 61 = .ok (.aload_n 0, 1) := by decide +kernel
theorem dX7_look_62 : decode cX7_look 62 = .ok (.getfield 7, 3) := by decide +kernel
theorem dX7_look_65 : decode cX7_look 65 = .ok (.sipush 725, 3) := by decide +kernel
theorem dX7_look_68 : decode cX7_look 68 = .ok (.iaload, 1) := by decide +kernel
theorem dX7_look_69 : decode cX7_look 69 = .ok (.if_icmp .ge 47, 3) := by decide +kernel
theorem dX7_look_72 : decode cX7_look 72 = .ok (.aload_n 0, 1) := by decide +kernel
theorem dX7_look_73 : decode cX7_look 73 = .ok (.getfield 7, 3) := by decide +kernel
theorem dX7_look_76 : decode cX7_look 76 = .ok (.sipush 707, 3) := by decide +kernel
theorem dX7_look_79 : decode cX7_look 79 = .ok (.iload_n 2, 1) := by decide +kernel
theorem dX7_look_80 : decode cX7_look 80 = .ok (.iadd, 1) := by decide +kernel
theorem dX7_look_81 : decode cX7_look 81 = .ok (.iaload, 1) := by decide +kernel
theorem dX7_look_82 : decode cX7_look 82 = .ok (.iload_n 1, 1) := by decide +kernel
theorem dX7_look_83 : decode cX7_look 83 = .ok (.if_icmp .eq 27, 3) := by decide +kernel
theorem dX7_look_86 : decode cX7_look 86 = .ok (.aload_n 0, 1) := by decide +kernel
theorem dX7_look_87 : decode cX7_look 87 = .ok (.iload_n 2, 1) := by decide +kernel
theorem dX7_look_88 : decode cX7_look 88 = .ok (.invokevirtual 195, 3) := by decide +kernel
theorem dX7_look_91 : decode cX7_look 91 = .ok (.ifCond .ne 6, 3) := by decide +kernel
theorem dX7_look_94 : decode cX7_look 94 = .ok (.goto 16, 3) := by decide +kernel
theorem dX7_look_97 : decode cX7_look 97 = .ok (.aload_n 0, 1) := by decide +kernel
theorem dX7_look_98 : decode cX7_look 98 = .ok (.iload_n 2, 1) := by decide +kernel
theorem dX7_look_99 : decode cX7_look 99 = .ok (.invokevirtual 198, 3) := by decide +kernel
theorem dX7_look_102 : decode cX7_look 102 = .ok (.aload_n 0, 1) := by decide +kernel
theorem dX7_look_103 : decode cX7_look 103 = .ok (.iload_n 2, 1) := by decide +kernel
theorem dX7_look_104 : decode cX7_look 104 = .ok (.iload_n 1, 1) := by decide +kernel
theorem dX7_look_105 : decode cX7_look 105 = .ok (.invokevirtual 192, 3) := by decide +kernel
theorem dX7_look_108 : decode cX7_look 108 = .ok (.iconst 1, 1) := by decide +kernel
theorem dX7_look_109 : decode cX7_look 109 = .ok (.ireturn, 1) := by decide +kernel
theorem dX7_look_110 : decode cX7_look 110 = .ok (.iinc 2 1, 3) := by decide +kernel
theorem dX7_look_113 : decode cX7_look 113 = .ok (.goto (-53), 3) := by decide +kernel
theorem dX7_look_116 : decode cX7_look 116 = .ok (.iconst 0, 1) := by decide +kernel
theorem dX7_look_117 : decode cX7_look 117 = .ok (.ireturn, 1) := by decide +kernel
theorem dX7_find_0 : decode cX7_find 0 = .ok (.aload_n 0, 1) := by decide +kernel
theorem dX7_find_1 : decode cX7_find 1 = .ok (.iload_n 1, 1) := by decide +kernel
theorem dX7_find_2 : decode cX7_find 2 = .ok (.invokevirtual 201, 3) := by decide +kernel
theorem dX7_find_5 : decode cX7_find 5 = .ok (.ifCond .eq 5, 3) := by decide +kernel
theorem dX7_find_8 : decode cX7_find 8 = .ok (.iconst 1, 1) := by decide +kernel
theorem dX7_find_9 : decode cX7_find 9 = .ok (.ireturn, 1) := by decide +kernel
theorem dX7_find_10 : decode cX7_find 10 = .ok (.aload_n 0, 1) := by decide +kernel
theorem dX7_find_11 : decode cX7_find 11 = .ok (.invokevirtual 181, 3) := by decide +kernel
theorem dX7_find_14 : decode cX7_find 14 = .ok (.ifCond .eq 17, 3) := by decide +kernel
theorem dX7_find_17 : decode cX7_find 17 = .ok (.aload_n 0, 1) := by decide +kernel
theorem dX7_find_18 : decode cX7_find 18 = .ok (.invokevirtual 204, 3) := by decide +kernel
theorem dX7_find_21 : decode cX7_find 21 = .ok (.aload_n 0, 1) := by decide +kernel
theorem dX7_find_22 : decode cX7_find 22 = .ok (.iload_n 1, 1) := by decide +kernel
theorem dX7_find_23 : decode cX7_find 23 = .ok (.invokevirtual 201, 3) := by decide +kernel
theorem dX7_find_26 : decode cX7_find 26 = .ok (.ifCond .eq 5, 3) := by decide +kernel
theorem dX7_find_29 : decode cX7_find 29 = .ok (.iconst 1, 1) := by decide +kernel
theorem dX7_find_30 : decode cX7_find 30 = .ok (.ireturn, 1) := by decide +kernel
theorem dX7_find_31 : decode cX7_find 31 = .ok (.aload_n 0, 1) := by decide +kernel
theorem dX7_find_32 : decode cX7_find 32 = .ok (.invokevirtual 207, 3) := by decide +kernel
theorem dX7_find_35 : decode cX7_find 35 = .ok (.aload_n 0, 1) := by decide +kernel
theorem dX7_find_36 : decode cX7_find 36 = .ok (.invokevirtual 204, 3) := by decide +kernel
theorem dX7_find_39 : decode cX7_find 39 = .ok (.aload_n 0, 1) := by decide +kernel
theorem dX7_find_40 : decode cX7_find 40 = .ok (.iload_n 1, 1) := by decide +kernel
theorem dX7_find_41 : decode cX7_find 41 = .ok (.invokevirtual 201, 3) := by decide +kernel
theorem dX7_find_44 : decode cX7_find 44 = .ok (.ireturn, 1) := by decide +kernel
theorem dX7_goMake_0 : decode cX7_goMake 0 = .ok (.aload_n 0, 1) := by decide +kernel
theorem dX7_goMake_1 : decode cX7_goMake 1 = .ok (.invokevirtual 181, 3) := by decide +kernel
theorem dX7_goMake_4 : decode cX7_goMake 4 = .ok (.ifCond .eq 16, 3) := by decide +kernel
theorem dX7_goMake_7 : decode cX7_goMake 7 = .ok (.aload_n 0, 1) := by decide +kernel
theorem dX7_goMake_8 : decode cX7_goMake 8 = .ok (.aload_n 0, 1) := by decide +kernel
theorem dX7_goMake_9 : decode cX7_goMake 9 = .ok (.getfield 7, 3) := by decide +kernel
theorem dX7_goMake_12 : decode cX7_goMake 12 = .ok (.sipush 737, 3) := by decide +kernel
theorem dX7_goMake_15 : decode cX7_goMake 15 = .ok (.iaload, 1) := by decide +kernel
theorem dX7_goMake_16 : decode cX7_goMake 16 = .ok (.invokevirtual 189, 3) := by decide +kernel
theorem dX7_goMake_19 : decode cX7_goMake 19 = .ok (.pop, 1) := by decide +kernel
theorem dX7_goMake_20 : decode cX7_goMake 20 = .ok (.iload_n 2, 1) := by decide +kernel
theorem dX7_goMake_21 : decode cX7_goMake 21 = .ok (.invokestatic 210, 3) := by decide +kernel
theorem dX7_goMake_24 : decode cX7_goMake 24 = .ok (.istore_n 3, 1) := by decide +kernel
theorem dX7_goMake_25 : decode cX7_goMake 25 = .ok (.iload_n 3, 1) := by decide +kernel
theorem dX7_goMake_26 : decode cX7_goMake 26 = .ok (.invokestatic 125, 3) := by decide +kernel
theorem dX7_goMake_29 : decode cX7_goMake 29 = .ok (.istore 4, 2) := by decide +kernel
theorem dX7_goMake_31 : decode cX7_goMake 31 = .ok (.aload_n 0, 1) := by decide +kernel
theorem dX7_goMake_32 : decode cX7_goMake 32 = .ok (.iload_n 3, 1) := by decide +kernel
theorem dX7_goMake_33 : decode cX7_goMake 33 = .ok (.invokevirtual 213, 3) := by decide +kernel
theorem dX7_goMake_36 : decode cX7_goMake 36 = .ok (.ifCond .ne 6, 3) := by decide +kernel
theorem dX7_goMake_39 : decode cX7_goMake 39 = .ok (.bipush (-2), 2) := by decide +kernel
theorem dX7_goMake_41 : decode cX7_goMake 41 = .ok (.ireturn, 1) := by decide +kernel
theorem dX7_goMake_42 : decode cX7_goMake 42 = .ok (.aload_n 0, 1) := by decide +kernel
theorem dX7_goMake_43 : decode cX7_goMake 43 = .ok (.getfield 7, 3) := by decide +kernel
theorem dX7_goMake_46 : decode cX7_goMake 46 = .ok (.iload 4, 2) := by decide +kernel
theorem dX7_goMake_48 : decode cX7_goMake 48 = .ok (.iconst 0, 1) := by decide +kernel
theorem dX7_goMake_49 : decode cX7_goMake 49 = .ok (.invokestatic 112, 3) := by decide +kernel
theorem dX7_goMake_52 : decode cX7_goMake 52 = .ok (.iaload, 1) := by decide +kernel
theorem dX7_goMake_53 : decode cX7_goMake 53 = .ok (.istore 5, 2) := by decide +kernel
theorem dX7_goMake_55 : decode cX7_goMake 55 = .ok (.aload_n 0, 1) := by decide +kernel
theorem dX7_goMake_56 : decode cX7_goMake 56 = .ok (.iload 4, 2) := by decide +kernel
theorem dX7_goMake_58 : decode cX7_goMake 58 = .ok (.iload 5, 2) := by decide +kernel
theorem dX7_goMake_60 : decode cX7_goMake 60 = .ok (.invokevirtual 128, 3) := by decide +kernel
theorem dX7_goMake_63 : decode cX7_goMake 63 = .ok (.aload_n 0, 1) := by decide +kernel
theorem dX7_goMake_64 : decode cX7_goMake 64 = .ok (.getfield 7, 3) := by decide +kernel
theorem dX7_goMake_67 : decode cX7_goMake 67 = .ok (.iconst 0, 1) := by decide +kernel
theorem dX7_goMake_68 : decode cX7_goMake 68 = .ok (.iload 5, 2) := by decide +kernel
theorem dX7_goMake_70 : decode cX7_goMake 70 = .ok (.iadd, 1) := by decide +kernel
theorem dX7_goMake_71 : decode cX7_goMake 71 = .ok (.iconst 3, 1) := by decide +kernel
theorem dX7_goMake_72 : decode cX7_goMake 72 = .ok (.iastore, 1) := by decide +kernel
theorem dX7_goMake_73 : decode cX7_goMake 73 = .ok (.aload_n 0, 1) := by decide +kernel
theorem dX7_goMake_74 : decode cX7_goMake 74 = .ok (.iload 4, 2) := by decide +kernel
theorem dX7_goMake_76 : decode cX7_goMake 76 = .ok (.aload_n 0, 1) := by decide +kernel
theorem dX7_goMake_77 : decode cX7_goMake 77 = .ok (.iload 4, 2) := by decide +kernel
theorem dX7_goMake_79 : decode cX7_goMake 79 = .ok (.invokevirtual 116, 3) := by decide +kernel
theorem dX7_goMake_82 : decode cX7_goMake 82 = .ok (.iload 5, 2) := by decide +kernel
theorem dX7_goMake_84 : decode cX7_goMake 84 = .ok (.invokevirtual 135, 3) := by decide +kernel
theorem dX7_goMake_87 : decode cX7_goMake 87 = .ok (.aload_n 0, 1) := by decide +kernel
theorem dX7_goMake_88 : decode cX7_goMake 88 = .ok (.getfield 7, 3) := by decide +kernel
theorem dX7_goMake_91 : decode cX7_goMake 91 = .ok (.sipush 128, 3) := by decide +kernel
theorem dX7_goMake_94 : decode cX7_goMake 94 = .ok (.iload 5, 2) := by decide +kernel
theorem dX7_goMake_96 : decode cX7_goMake 96 = .ok (.iadd, 1) := by decide +kernel
theorem dX7_goMake_97 : decode cX7_goMake 97 = .ok (.iload_n 2, 1) := by decide +kernel
theorem dX7_goMake_98 : decode cX7_goMake 98 = .ok (.iastore, 1) := by decide +kernel
theorem dX7_goMake_99 : decode cX7_goMake 99 = .ok (.iconst 0, 1) := by decide +kernel
theorem dX7_goMake_100 : decode cX7_goMake 100 = .ok (.istore 6, 2) := by decide +kernel
theorem dX7_goMake_102 : decode cX7_goMake 102 = .ok (.iload 6, 2) := by decide +kernel
theorem dX7_goMake_104 : decode cX7_goMake 104 = .ok (.iload_n 2, 1) := by decide +kernel
theorem dX7_goMake_105 : decode cX7_goMake 105 = .ok (.if_icmp .ge 22, 3) := by decide +kernel
theorem dX7_goMake_108 : decode cX7_goMake 108 = .ok (.aload_n 0, 1) := by decide +kernel
theorem dX7_goMake_109 : decode cX7_goMake 109 = .ok (.getfield 7, 3) := by decide +kernel
theorem dX7_goMake_112 : decode cX7_goMake 112 = .ok (.iload 5, 2) := by decide +kernel
theorem dX7_goMake_114 : decode cX7_goMake 114 = .ok (.iload 6, 2) := by decide +kernel
theorem dX7_goMake_116 : decode cX7_goMake 116 = .ok (.invokestatic 161, 3) := by decide +kernel
theorem dX7_goMake_119 : decode cX7_goMake 119 = .ok (.iconst (-1), 1) := by decide +kernel
theorem dX7_goMake_120 : decode cX7_goMake 120 = .ok (.iastore, 1) := by decide +kernel
theorem dX7_goMake_121 : decode cX7_goMake 121 = .ok (.iinc 6 1, 3) := by decide +kernel
theorem dX7_goMake_124 : decode cX7_goMake 124 = .ok (.goto (-22), 3) := by decide +kernel
theorem dX7_goMake_127 : decode cX7_goMake 127 = .ok (.aload_n 0, 1) := by decide +kernel
theorem dX7_goMake_128 : decode cX7_goMake 128 = .ok (.getfield 7, 3) := by decide +kernel
theorem dX7_goMake_131 : decode cX7_goMake 131 = .ok (.sipush 715, 3) := by decide +kernel
theorem dX7_goMake_134 : decode cX7_goMake 134 = .ok (.iload_n 1, 1) := by decide +kernel
theorem dX7_goMake_135 : decode cX7_goMake 135 = .ok (.iadd, 1) := by decide +kernel
theorem dX7_goMake_136 : decode cX7_goMake 136 = .ok (.iload 5, 2) := by decide +kernel
theorem dX7_goMake_138 : decode cX7_goMake 138 = .ok (.iastore, 1) := by decide +kernel
theorem dX7_goMake_139 : decode cX7_goMake 139 = .ok (.aload_n 0, 1) := by decide +kernel
theorem dX7_goMake_140 : decode cX7_goMake 140 = .ok (.getfield 7, 3) := by decide +kernel
theorem dX7_goMake_143 : decode cX7_goMake 143 = .ok (.sipush 733, 3) := by decide +kernel
theorem dX7_goMake_146 : decode cX7_goMake 146 = .ok (.dup2, 1) := by decide +kernel
theorem dX7_goMake_147 : decode cX7_goMake 147 = .ok (.iaload, 1) := by decide +kernel
theorem dX7_goMake_148 : decode cX7_goMake 148 = .ok (.iconst 1, 1) := by decide +kernel
theorem dX7_goMake_149 : decode cX7_goMake 149 = .ok (.iadd, 1) := by decide +kernel
theorem dX7_goMake_150 : decode cX7_goMake 150 = .ok (.iastore, 1) := by decide +kernel
theorem dX7_goMake_151 : decode cX7_goMake 151 = .ok (.aload_n 0, 1) := by decide +kernel
theorem dX7_goMake_152 : decode cX7_goMake 152 = .ok (.invokevirtual 181, 3) := by decide +kernel
theorem dX7_goMake_155 : decode cX7_goMake 155 = .ok (.ifCond .ne 25, 3) := by decide +kernel
theorem dX7_goMake_158 : decode cX7_goMake 158 = .ok (.aload_n 0, 1) := by decide +kernel
theorem dX7_goMake_159 : decode cX7_goMake 159 = .ok (.iload 4, 2) := by decide +kernel
theorem dX7_goMake_161 : decode cX7_goMake 161 = .ok (.iconst 0, 1) := by decide +kernel
theorem dX7_goMake_162 : decode cX7_goMake 162 = .ok (.invokevirtual 119, 3) := by decide +kernel
theorem dX7_goMake_165 : decode cX7_goMake 165 = .ok (.aload_n 0, 1) := by decide +kernel
theorem dX7_goMake_166 : decode cX7_goMake 166 = .ok (.getfield 7, 3) := by decide +kernel
theorem dX7_goMake_169 : decode cX7_goMake 169 = .ok (.sipush 738, 3) := by decide +kernel
theorem dX7_goMake_172 : decode cX7_goMake 172 = .ok (.iaload, 1) := by decide +kernel
theorem dX7_goMake_173 : decode cX7_goMake 173 = .ok (.if_icmp .ge 7, 3) := by decide +kernel
theorem dX7_goMake_176 : decode cX7_goMake 176 = .ok (.aload_n 0, 1) := by decide +kernel
theorem dX7_goMake_177 : decode cX7_goMake 177 = .ok (.invokevirtual 207, 3) := by decide +kernel
theorem dX7_goMake_180 : decode cX7_goMake 180 = .ok (.iload 5, 2) := by decide +kernel
theorem dX7_goMake_182 : decode cX7_goMake 182 = .ok (.ireturn, 1) := by decide +kernel
theorem dX7_make_0 : decode cX7_make 0 = .ok (.iload_n 1, 1) := by decide +kernel
theorem dX7_make_1 : decode cX7_make 1 = .ok (.invokestatic 216, 3) := by decide +kernel
theorem dX7_make_4 : decode cX7_make 4 = .ok (.ifCond .eq 13, 3) := by decide +kernel
theorem dX7_make_7 : decode cX7_make 7 = .ok (.iload_n 2, 1) := by decide +kernel
theorem dX7_make_8 : decode cX7_make 8 = .ok (.iconst 0, 1) := by decide +kernel
theorem dX7_make_9 : decode cX7_make 9 = .ok (.bipush 7, 2) := by decide +kernel
theorem dX7_make_11 : decode cX7_make 11 = .ok (.invokestatic 94, 3) := by decide +kernel
theorem dX7_make_14 : decode cX7_make 14 = .ok (.ifCond .ne 5, 3) := by decide +kernel
theorem dX7_make_17 : decode cX7_make 17 = .ok (.iconst (-1), 1) := by decide +kernel
theorem dX7_make_18 : decode cX7_make 18 = .ok (.ireturn, 1) := by decide +kernel
theorem dX7_make_19 : decode cX7_make 19 = .ok (.aload_n 0, 1) := by decide +kernel
theorem dX7_make_20 : decode cX7_make 20 = .ok (.invokevirtual 219, 3) := by decide +kernel
theorem dX7_make_23 : decode cX7_make 23 = .ok (.aload_n 0, 1) := by decide +kernel
theorem dX7_make_24 : decode cX7_make 24 = .ok (.iload_n 1, 1) := by decide +kernel
theorem dX7_make_25 : decode cX7_make 25 = .ok (.iload_n 2, 1) := by decide +kernel
theorem dX7_make_26 : decode cX7_make 26 = .ok (.invokevirtual 222, 3) := by decide +kernel
theorem dX7_make_29 : decode cX7_make 29 = .ok (.ireturn, 1) := by decide +kernel
theorem dX7_canLoad_0 : decode cX7_canLoad 0 = .ok (.iload_n 1, 1) := by decide +kernel
theorem dX7_canLoad_1 : decode cX7_canLoad 1 = .ok (.invokestatic 216, 3) := by decide +kernel
theorem dX7_canLoad_4 : decode cX7_canLoad 4 = .ok (.ifCond .eq 45, 3) := by decide +kernel
theorem dX7_canLoad_7 : decode cX7_canLoad 7 = .ok (.iload_n 2, 1) := by decide +kernel
theorem dX7_canLoad_8 : decode cX7_canLoad 8 = .ok (.invokestatic 216, 3) := by decide +kernel
theorem dX7_canLoad_11 : decode cX7_canLoad 11 = .ok (.ifCond .eq 38, 3) := by decide +kernel
theorem dX7_canLoad_14 : decode cX7_canLoad 14 = .ok (.aload_n 0, 1) := by decide +kernel
theorem dX7_canLoad_15 : decode cX7_canLoad 15 = .ok (.getfield 7, 3) := by decide +kernel
theorem dX7_canLoad_18 : decode cX7_canLoad 18 = .ok (.sipush 715, 3) := by decide +kernel
theorem dX7_canLoad_21 : decode cX7_canLoad 21 = .ok (.iload_n 2, 1) := by decide +kernel
theorem dX7_canLoad_22 : decode cX7_canLoad 22 = .ok (.iadd, 1) := by decide +kernel
theorem dX7_canLoad_23 : decode cX7_canLoad 23 = .ok (.iaload, 1) := by decide +kernel
theorem dX7_canLoad_24 : decode cX7_canLoad 24 = .ok (.ifCond .lt 25, 3) := by decide +kernel
theorem dX7_canLoad_27 : decode cX7_canLoad 27 = .ok (.aload_n 0, 1) := by decide +kernel
theorem dX7_canLoad_28 : decode cX7_canLoad 28 = .ok (.aload_n 0, 1) := by decide +kernel
theorem dX7_canLoad_29 : decode cX7_canLoad 29 = .ok (.getfield 7, 3) := by decide +kernel
theorem dX7_canLoad_32 : decode cX7_canLoad 32 = .ok (.sipush 715, 3) := by decide +kernel
theorem dX7_canLoad_35 : decode cX7_canLoad 35 = .ok (.iload_n 2, 1) := by decide +kernel
theorem dX7_canLoad_36 : decode cX7_canLoad 36 = .ok (.iadd, 1) := by decide +kernel
theorem dX7_canLoad_37 : decode cX7_canLoad 37 = .ok (.iaload, 1) := by decide +kernel
theorem dX7_canLoad_38 : decode cX7_canLoad 38 = .ok (.iload_n 3, 1) := by decide +kernel
theorem dX7_canLoad_39 : decode cX7_canLoad 39 = .ok (.invokevirtual 225, 3) := by decide +kernel
theorem dX7_canLoad_42 : decode cX7_canLoad 42 = .ok (.ifCond .eq 7, 3) := by decide +kernel
theorem dX7_canLoad_45 : decode cX7_canLoad 45 = .ok (.iconst 1, 1) := by decide +kernel
theorem dX7_canLoad_46 : decode cX7_canLoad 46 = .ok (.goto 4, 3) := by decide +kernel
theorem dX7_canLoad_49 : decode cX7_canLoad 49 = .ok (.iconst 0, 1) := by decide +kernel
theorem dX7_canLoad_50 : decode cX7_canLoad 50 = .ok (.ireturn, 1) := by decide +kernel
theorem dX7_goLoad_0 : decode cX7_goLoad 0 = .ok (.aload_n 0, 1) := by decide +kernel
theorem dX7_goLoad_1 : decode cX7_goLoad 1 = .ok (.getfield 7, 3) := by decide +kernel
theorem dX7_goLoad_4 : decode cX7_goLoad 4 = .ok (.aload_n 0, 1) := by decide +kernel
theorem dX7_goLoad_5 : decode cX7_goLoad 5 = .ok (.getfield 7, 3) := by decide +kernel
theorem dX7_goLoad_8 : decode cX7_goLoad 8 = .ok (.sipush 715, 3) := by decide +kernel
theorem dX7_goLoad_11 : decode cX7_goLoad 11 = .ok (.iload_n 2, 1) := by decide +kernel
theorem dX7_goLoad_12 : decode cX7_goLoad 12 = .ok (.iadd, 1) := by decide +kernel
theorem dX7_goLoad_13 : decode cX7_goLoad 13 = .ok (.iaload, 1) := by decide +kernel
theorem dX7_goLoad_14 : decode cX7_goLoad 14 = .ok (.iload_n 3, 1) := by decide +kernel
theorem dX7_goLoad_15 : decode cX7_goLoad 15 = .ok (.invokestatic 161, 3) := by decide +kernel
theorem dX7_goLoad_18 : decode cX7_goLoad 18 = .ok (.iaload, 1) := by decide +kernel
theorem dX7_goLoad_19 : decode cX7_goLoad 19 = .ok (.istore 4, 2) := by decide +kernel
theorem dX7_goLoad_21 : decode cX7_goLoad 21 = .ok (.aload_n 0, 1) := by decide +kernel
theorem dX7_goLoad_22 : decode cX7_goLoad 22 = .ok (.getfield 7, 3) := by decide +kernel
theorem dX7_goLoad_25 : decode cX7_goLoad 25 = .ok (.sipush 715, 3) := by decide +kernel
theorem dX7_goLoad_28 : decode cX7_goLoad 28 = .ok (.iload_n 1, 1) := by decide +kernel
theorem dX7_goLoad_29 : decode cX7_goLoad 29 = .ok (.iadd, 1) := by decide +kernel
theorem dX7_goLoad_30 : decode cX7_goLoad 30 = .ok (.iload 4, 2) := by decide +kernel
theorem dX7_goLoad_32 : decode cX7_goLoad 32 = .ok (.iastore, 1) := by decide +kernel
theorem dX7_goLoad_33 : decode cX7_goLoad 33 = .ok (.aload_n 0, 1) := by decide +kernel
theorem dX7_goLoad_34 : decode cX7_goLoad 34 = .ok (.iload 4, 2) := by decide +kernel
theorem dX7_goLoad_36 : decode cX7_goLoad 36 = .ok (.aload_n 0, 1) := by decide +kernel
theorem dX7_goLoad_37 : decode cX7_goLoad 37 = .ok (.invokevirtual 181, 3) := by decide +kernel
theorem dX7_goLoad_40 : decode cX7_goLoad 40 = .ok (.ifCond .eq 18, 3) := by decide +kernel
theorem dX7_goLoad_43 : decode cX7_goLoad 43 = .ok (.aload_n 0, 1) := by decide +kernel
theorem dX7_goLoad_44 : decode cX7_goLoad 44 = .ok (.getfield 7, 3) := by decide +kernel
theorem dX7_goLoad_47 : decode cX7_goLoad 47 = .ok (.sipush 735, 3) := by decide +kernel
theorem dX7_goLoad_50 : decode cX7_goLoad 50 = .ok (.iaload, 1) := by decide +kernel
theorem dX7_goLoad_51 : decode cX7_goLoad 51 = .ok (.ifCond .ne 7, 3) := by decide +kernel
theorem dX7_goLoad_54 : decode cX7_goLoad 54 = .ok (.iconst 1, 1) := by decide +kernel
theorem dX7_goLoad_55 : decode cX7_goLoad 55 = .ok (.goto 4, 3) := by decide +kernel
theorem dX7_goLoad_58 : decode cX7_goLoad 58 = .ok (.iconst 0, 1) := by decide +kernel
theorem dX7_goLoad_59 : decode cX7_goLoad 59 = .ok (.invokevirtual 142, 3) := by decide +kernel
theorem dX7_goLoad_62 : decode cX7_goLoad 62 = .ok (.iload 4, 2) := by decide +kernel
theorem dX7_goLoad_64 : decode cX7_goLoad 64 = .ok (.ireturn, 1) := by decide +kernel
theorem dX7_load_0 : decode cX7_load 0 = .ok (.aload_n 0, 1) := by decide +kernel
theorem dX7_load_1 : decode cX7_load 1 = .ok (.iload_n 1, 1) := by decide +kernel
theorem dX7_load_2 : decode cX7_load 2 = .ok (.iload_n 2, 1) := by decide +kernel
theorem dX7_load_3 : decode cX7_load 3 = .ok (.iload_n 3, 1) := by decide +kernel
theorem dX7_load_4 : decode cX7_load 4 = .ok (.invokevirtual 228, 3) := by decide +kernel
theorem dX7_load_7 : decode cX7_load 7 = .ok (.ifCond .ne 6, 3) := by decide +kernel
theorem dX7_load_10 : decode cX7_load 10 = .ok (.bipush (-2), 2) := by decide +kernel
theorem dX7_load_12 : decode cX7_load 12 = .ok (.ireturn, 1) := by decide +kernel
theorem dX7_load_13 : decode cX7_load 13 = .ok (.aload_n 0, 1) := by decide +kernel
theorem dX7_load_14 : decode cX7_load 14 = .ok (.invokevirtual 219, 3) := by decide +kernel
theorem dX7_load_17 : decode cX7_load 17 = .ok (.aload_n 0, 1) := by decide +kernel
theorem dX7_load_18 : decode cX7_load 18 = .ok (.iload_n 1, 1) := by decide +kernel
theorem dX7_load_19 : decode cX7_load 19 = .ok (.iload_n 2, 1) := by decide +kernel
theorem dX7_load_20 : decode cX7_load 20 = .ok (.iload_n 3, 1) := by decide +kernel
theorem dX7_load_21 : decode cX7_load 21 = .ok (.invokevirtual 231, 3) := by decide +kernel
theorem dX7_load_24 : decode cX7_load 24 = .ok (.ireturn, 1) := by decide +kernel
theorem dX7_named_0 : decode cX7_named 0 = .ok (.iload_n 1, 1) := by decide +kernel
theorem dX7_named_1 : decode cX7_named 1 = .ok (.ifCond .ge 7, 3) := by decide +kernel
theorem dX7_named_4 : decode cX7_named 4 = .ok (.iconst (-1), 1) := by decide +kernel
theorem dX7_named_5 : decode cX7_named 5 = .ok (.goto 13, 3) := by decide +kernel
theorem dX7_named_8 : decode cX7_named 8 = .ok (.aload_n 0, 1) := by decide +kernel
theorem dX7_named_9 : decode cX7_named 9 = .ok (.getfield 7, 3) := by decide +kernel
theorem dX7_named_12 : decode cX7_named 12 = .ok (.sipush 715, 3) := by decide +kernel
theorem dX7_named_15 : decode cX7_named 15 = .ok (.iload_n 1, 1) := by decide +kernel
theorem dX7_named_16 : decode cX7_named 16 = .ok (.iadd, 1) := by decide +kernel
theorem dX7_named_17 : decode cX7_named 17 = .ok (.iaload, 1) := by decide +kernel
theorem dX7_named_18 : decode cX7_named 18 = .ok (.ireturn, 1) := by decide +kernel
theorem dX7_isRootOrNone_0 : decode cX7_isRootOrNone 0 = .ok (.iload_n 0, 1) := by decide +kernel
theorem dX7_isRootOrNone_1 : decode cX7_isRootOrNone 1 = .ok (.iconst (-1), 1) := by decide +kernel
theorem dX7_isRootOrNone_2 : decode cX7_isRootOrNone 2 = .ok (.if_icmp .eq 10, 3) := by decide +kernel
theorem dX7_isRootOrNone_5 : decode cX7_isRootOrNone 5 = .ok (.iload_n 0, 1) := by decide +kernel
theorem dX7_isRootOrNone_6 : decode cX7_isRootOrNone 6 = .ok (.invokestatic 216, 3) := by decide +kernel
theorem dX7_isRootOrNone_9 : decode cX7_isRootOrNone 9 = .ok (.ifCond .eq 7, 3) := by decide +kernel
theorem dX7_isRootOrNone_12 : decode cX7_isRootOrNone 12 = .ok (.iconst 1, 1) := by decide +kernel
theorem dX7_isRootOrNone_13 : decode cX7_isRootOrNone 13 = .ok (.goto 4, 3) := by decide +kernel
theorem dX7_isRootOrNone_16 : decode cX7_isRootOrNone 16 = .ok (.iconst 0, 1) := by decide +kernel
theorem dX7_isRootOrNone_17 : decode cX7_isRootOrNone 17 = .ok (.ireturn, 1) := by decide +kernel
theorem dX7_canStore_0 : decode cX7_canStore 0 = .ok (.iload_n 1, 1) := by decide +kernel
theorem dX7_canStore_1 : decode cX7_canStore 1 = .ok (.invokestatic 216, 3) := by decide +kernel
theorem dX7_canStore_4 : decode cX7_canStore 4 = .ok (.ifCond .eq 45, 3) := by decide +kernel
theorem dX7_canStore_7 : decode cX7_canStore 7 = .ok (.iload_n 3, 1) := by decide +kernel
theorem dX7_canStore_8 : decode cX7_canStore 8 = .ok (.invokestatic 235, 3) := by decide +kernel
theorem dX7_canStore_11 : decode cX7_canStore 11 = .ok (.ifCond .eq 38, 3) := by decide +kernel
theorem dX7_canStore_14 : decode cX7_canStore 14 = .ok (.aload_n 0, 1) := by decide +kernel
theorem dX7_canStore_15 : decode cX7_canStore 15 = .ok (.getfield 7, 3) := by decide +kernel
theorem dX7_canStore_18 : decode cX7_canStore 18 = .ok (.sipush 715, 3) := by decide +kernel
theorem dX7_canStore_21 : decode cX7_canStore 21 = .ok (.iload_n 1, 1) := by decide +kernel
theorem dX7_canStore_22 : decode cX7_canStore 22 = .ok (.iadd, 1) := by decide +kernel
theorem dX7_canStore_23 : decode cX7_canStore 23 = .ok (.iaload, 1) := by decide +kernel
theorem dX7_canStore_24 : decode cX7_canStore 24 = .ok (.ifCond .lt 25, 3) := by decide +kernel
theorem dX7_canStore_27 : decode cX7_canStore 27 = .ok (.aload_n 0, 1) := by decide +kernel
theorem dX7_canStore_28 : decode cX7_canStore 28 = .ok (.aload_n 0, 1) := by decide +kernel
theorem dX7_canStore_29 : decode cX7_canStore 29 = .ok (.getfield 7, 3) := by decide +kernel
theorem dX7_canStore_32 : decode cX7_canStore 32 = .ok (.sipush 715, 3) := by decide +kernel
theorem dX7_canStore_35 : decode cX7_canStore 35 = .ok (.iload_n 1, 1) := by decide +kernel
theorem dX7_canStore_36 : decode cX7_canStore 36 = .ok (.iadd, 1) := by decide +kernel
theorem dX7_canStore_37 : decode cX7_canStore 37 = .ok (.iaload, 1) := by decide +kernel
theorem dX7_canStore_38 : decode cX7_canStore 38 = .ok (.iload_n 2, 1) := by decide +kernel
theorem dX7_canStore_39 : decode cX7_canStore 39 = .ok (.invokevirtual 225, 3) := by decide +kernel
theorem dX7_canStore_42 : decode cX7_canStore 42 = .ok (.ifCond .eq 7, 3) := by decide +kernel
theorem dX7_canStore_45 : decode cX7_canStore 45 = .ok (.iconst 1, 1) := by decide +kernel
theorem dX7_canStore_46 : decode cX7_canStore 46 = .ok (.goto 4, 3) := by decide +kernel
theorem dX7_canStore_49 : decode cX7_canStore 49 = .ok (.iconst 0, 1) := by decide +kernel
theorem dX7_canStore_50 : decode cX7_canStore 50 = .ok (.ireturn, 1) := by decide +kernel
theorem dX7_goStore_0 : decode cX7_goStore 0 = .ok (.aload_n 0, 1) := by decide +kernel
theorem dX7_goStore_1 : decode cX7_goStore 1 = .ok (.getfield 7, 3) := by decide +kernel
theorem dX7_goStore_4 : decode cX7_goStore 4 = .ok (.sipush 715, 3) := by decide +kernel
theorem dX7_goStore_7 : decode cX7_goStore 7 = .ok (.iload_n 1, 1) := by decide +kernel
theorem dX7_goStore_8 : decode cX7_goStore 8 = .ok (.iadd, 1) := by decide +kernel
theorem dX7_goStore_9 : decode cX7_goStore 9 = .ok (.iaload, 1) := by decide +kernel
theorem dX7_goStore_10 : decode cX7_goStore 10 = .ok (.iload_n 2, 1) := by decide +kernel
theorem dX7_goStore_11 : decode cX7_goStore 11 = .ok (.invokestatic 161, 3) := by decide +kernel
theorem dX7_goStore_14 : decode cX7_goStore 14 = .ok (.istore 4, 2) := by decide +kernel
theorem dX7_goStore_16 : decode cX7_goStore 16 = .ok (.aload_n 0, 1) := by decide +kernel
theorem dX7_goStore_17 : decode cX7_goStore 17 = .ok (.iload_n 3, 1) := by decide +kernel
theorem dX7_goStore_18 : decode cX7_goStore 18 = .ok (.invokevirtual 238, 3) := by decide +kernel
theorem dX7_goStore_21 : decode cX7_goStore 21 = .ok (.istore 5, 2) := by decide +kernel
theorem dX7_goStore_23 : decode cX7_goStore 23 = .ok (.aload_n 0, 1) := by decide +kernel
theorem dX7_goStore_24 : decode cX7_goStore 24 = .ok (.aload_n 0, 1) := by decide +kernel
theorem dX7_goStore_25 : decode cX7_goStore 25 = .ok (.getfield 7, 3) := by decide +kernel
theorem dX7_goStore_28 : decode cX7_goStore 28 = .ok (.iload 4, 2) := by decide +kernel
theorem dX7_goStore_30 : decode cX7_goStore 30 = .ok (.iaload, 1) := by decide +kernel
theorem dX7_goStore_31 : decode cX7_goStore 31 = .ok (.aload_n 0, 1) := by decide +kernel
theorem dX7_goStore_32 : decode cX7_goStore 32 = .ok (.invokevirtual 181, 3) := by decide +kernel
theorem dX7_goStore_35 : decode cX7_goStore 35 = .ok (.ifCond .eq 19, 3) := by decide +kernel
theorem dX7_goStore_38 : decode cX7_goStore 38 = .ok (.aload_n 0, 1) := by decide +kernel
theorem dX7_goStore_39 : decode cX7_goStore 39 = .ok (.getfield 7, 3) := by decide +kernel
theorem dX7_goStore_42 : decode cX7_goStore 42 = .ok (.sipush 735, 3) := by decide +kernel
theorem dX7_goStore_45 : decode cX7_goStore 45 = .ok (.iaload, 1) := by decide +kernel
theorem dX7_goStore_46 : decode cX7_goStore 46 = .ok (.iconst 2, 1) := by decide +kernel
theorem dX7_goStore_47 : decode cX7_goStore 47 = .ok (.if_icmp .ne 7, 3) := by decide +kernel
theorem dX7_goStore_50 : decode cX7_goStore 50 = .ok (.iconst 1, 1) := by decide +kernel
theorem dX7_goStore_51 : decode cX7_goStore 51 = .ok (.goto 4, 3) := by decide +kernel
theorem dX7_goStore_54 : decode cX7_goStore 54 = .ok (.iconst 0, 1) := by decide +kernel
theorem dX7_goStore_55 : decode cX7_goStore 55 = .ok (.invokevirtual 142, 3) := by decide +kernel
theorem dX7_goStore_58 : decode cX7_goStore 58 = .ok (.aload_n 0, 1) := by decide +kernel
theorem dX7_goStore_59 : decode cX7_goStore 59 = .ok (.getfield 7, 3) := by decide +kernel
theorem dX7_goStore_62 : decode cX7_goStore 62 = .ok (.iload 4, 2) := by decide +kernel
theorem dX7_goStore_64 : decode cX7_goStore 64 = .ok (.iload 5, 2) := by decide +kernel
theorem dX7_goStore_66 : decode cX7_goStore 66 = .ok (.iastore, 1) := by decide +kernel
theorem dX7_goStore_67 : decode cX7_goStore 67 = .ok (.aload_n 0, 1) := by decide +kernel
theorem dX7_goStore_68 : decode cX7_goStore 68 = .ok (.iload 5, 2) := by decide +kernel
theorem dX7_goStore_70 : decode cX7_goStore 70 = .ok (.aload_n 0, 1) := by decide +kernel
theorem dX7_goStore_71 : decode cX7_goStore 71 = .ok (.invokevirtual 181, 3) := by decide +kernel
theorem dX7_goStore_74 : decode cX7_goStore 74 = .ok (.ifCond .eq 19, 3) := by decide +kernel
theorem dX7_goStore_77 : decode cX7_goStore 77 = .ok (.aload_n 0, 1) := by decide +kernel
theorem dX7_goStore_78 : decode cX7_goStore 78 = .ok (.getfield 7, 3) := by decide +kernel
theorem dX7_goStore_81 : decode cX7_goStore 81 = .ok (.sipush 735, 3) := by decide +kernel
theorem dX7_goStore_84 : decode cX7_goStore 84 = .ok (.iaload, 1) := by decide +kernel
theorem dX7_goStore_85 : decode cX7_goStore 85 = .ok (.iconst 1, 1) := by decide +kernel
theorem dX7_goStore_86 : decode cX7_goStore 86 = .ok (.if_icmp .ne 7, 3) := by decide +kernel
theorem dX7_goStore_89 : decode cX7_goStore 89 = .ok (.iconst 1, 1) := by decide +kernel
theorem dX7_goStore_90 : decode cX7_goStore 90 = .ok (.goto 4, 3) := by decide +kernel
theorem dX7_goStore_93 : decode cX7_goStore 93 = .ok (.iconst 0, 1) := by decide +kernel
theorem dX7_goStore_94 : decode cX7_goStore 94 = .ok (.invokevirtual 142, 3) := by decide +kernel
theorem dX7_goStore_97 : decode cX7_goStore 97 = .ok (.return_, 1) := by decide +kernel
theorem dX7_store_0 : decode cX7_store 0 = .ok (.aload_n 0, 1) := by decide +kernel
theorem dX7_store_1 : decode cX7_store 1 = .ok (.iload_n 1, 1) := by decide +kernel
theorem dX7_store_2 : decode cX7_store 2 = .ok (.iload_n 2, 1) := by decide +kernel
theorem dX7_store_3 : decode cX7_store 3 = .ok (.iload_n 3, 1) := by decide +kernel
theorem dX7_store_4 : decode cX7_store 4 = .ok (.invokevirtual 241, 3) := by decide +kernel
theorem dX7_store_7 : decode cX7_store 7 = .ok (.ifCond .ne 5, 3) := by decide +kernel
theorem dX7_store_10 : decode cX7_store 10 = .ok (.iconst 0, 1) := by decide +kernel
theorem dX7_store_11 : decode cX7_store 11 = .ok (.ireturn, 1) := by decide +kernel
theorem dX7_store_12 : decode cX7_store 12 = .ok (.aload_n 0, 1) := by decide +kernel
theorem dX7_store_13 : decode cX7_store 13 = .ok (.invokevirtual 219, 3) := by decide +kernel
theorem dX7_store_16 : decode cX7_store 16 = .ok (.aload_n 0, 1) := by decide +kernel
theorem dX7_store_17 : decode cX7_store 17 = .ok (.iload_n 1, 1) := by decide +kernel
theorem dX7_store_18 : decode cX7_store 18 = .ok (.iload_n 2, 1) := by decide +kernel
theorem dX7_store_19 : decode cX7_store 19 = .ok (.iload_n 3, 1) := by decide +kernel
theorem dX7_store_20 : decode cX7_store 20 = .ok (.invokevirtual 244, 3) := by decide +kernel
theorem dX7_store_23 : decode cX7_store 23 = .ok (.iconst 1, 1) := by decide +kernel
theorem dX7_store_24 : decode cX7_store 24 = .ok (.ireturn, 1) := by decide +kernel
theorem dX7_copy_0 : decode cX7_copy 0 = .ok (.iload_n 1, 1) := by decide +kernel
theorem dX7_copy_1 : decode cX7_copy 1 = .ok (.invokestatic 216, 3) := by decide +kernel
theorem dX7_copy_4 : decode cX7_copy 4 = .ok (.ifCond .eq 10, 3) := by decide +kernel
theorem dX7_copy_7 : decode cX7_copy 7 = .ok (.iload_n 2, 1) := by decide +kernel
theorem dX7_copy_8 : decode cX7_copy 8 = .ok (.invokestatic 235, 3) := by decide +kernel
theorem dX7_copy_11 : decode cX7_copy 11 = .ok (.ifCond .ne 5, 3) := by decide +kernel
theorem dX7_copy_14 : decode cX7_copy 14 = .ok (.iconst 0, 1) := by decide +kernel
theorem dX7_copy_15 : decode cX7_copy 15 = .ok (.ireturn, 1) := by decide +kernel
theorem dX7_copy_16 : decode cX7_copy 16 = .ok (.aload_n 0, 1) := by decide +kernel
theorem dX7_copy_17 : decode cX7_copy 17 = .ok (.invokevirtual 219, 3) := by decide +kernel
theorem dX7_copy_20 : decode cX7_copy 20 = .ok (.aload_n 0, 1) := by decide +kernel
theorem dX7_copy_21 : decode cX7_copy 21 = .ok (.getfield 7, 3) := by decide +kernel
theorem dX7_copy_24 : decode cX7_copy 24 = .ok (.sipush 715, 3) := by decide +kernel
theorem dX7_copy_27 : decode cX7_copy 27 = .ok (.iload_n 1, 1) := by decide +kernel
theorem dX7_copy_28 : decode cX7_copy 28 = .ok (.iadd, 1) := by decide +kernel
theorem dX7_copy_29 : decode cX7_copy 29 = .ok (.aload_n 0, 1) := by decide +kernel
theorem dX7_copy_30 : decode cX7_copy 30 = .ok (.iload_n 2, 1) := by decide +kernel
theorem dX7_copy_31 : decode cX7_copy 31 = .ok (.invokevirtual 238, 3) := by decide +kernel
theorem dX7_copy_34 : decode cX7_copy 34 = .ok (.iastore, 1) := by decide +kernel
theorem dX7_copy_35 : decode cX7_copy 35 = .ok (.iconst 1, 1) := by decide +kernel
theorem dX7_copy_36 : decode cX7_copy 36 = .ok (.ireturn, 1) := by decide +kernel
theorem dX7_weak_0 : decode cX7_weak 0 = .ok (.iload_n 1, 1) := by decide +kernel
theorem dX7_weak_1 : decode cX7_weak 1 = .ok (.invokestatic 247, 3) := by decide +kernel
theorem dX7_weak_4 : decode cX7_weak 4 = .ok (.ifCond .eq 10, 3) := by decide +kernel
theorem dX7_weak_7 : decode cX7_weak 7 = .ok (.iload_n 2, 1) := by decide +kernel
theorem dX7_weak_8 : decode cX7_weak 8 = .ok (.invokestatic 235, 3) := by decide +kernel
theorem dX7_weak_11 : decode cX7_weak 11 = .ok (.ifCond .ne 5, 3) := by decide +kernel
theorem dX7_weak_14 : decode cX7_weak 14 = .ok (.iconst 0, 1) := by decide +kernel
theorem dX7_weak_15 : decode cX7_weak 15 = .ok (.ireturn, 1) := by decide +kernel
theorem dX7_weak_16 : decode cX7_weak 16 = .ok (.aload_n 0, 1) := by decide +kernel
theorem dX7_weak_17 : decode cX7_weak 17 = .ok (.invokevirtual 219, 3) := by decide +kernel
theorem dX7_weak_20 : decode cX7_weak 20 = .ok (.aload_n 0, 1) := by decide +kernel
theorem dX7_weak_21 : decode cX7_weak 21 = .ok (.getfield 7, 3) := by decide +kernel
theorem dX7_weak_24 : decode cX7_weak 24 = .ok (.sipush 721, 3) := by decide +kernel
theorem dX7_weak_27 : decode cX7_weak 27 = .ok (.iload_n 1, 1) := by decide +kernel
theorem dX7_weak_28 : decode cX7_weak 28 = .ok (.iadd, 1) := by decide +kernel
theorem dX7_weak_29 : decode cX7_weak 29 = .ok (.aload_n 0, 1) := by decide +kernel
theorem dX7_weak_30 : decode cX7_weak 30 = .ok (.iload_n 2, 1) := by decide +kernel
theorem dX7_weak_31 : decode cX7_weak 31 = .ok (.invokevirtual 238, 3) := by decide +kernel
theorem dX7_weak_34 : decode cX7_weak 34 = .ok (.iastore, 1) := by decide +kernel
theorem dX7_weak_35 : decode cX7_weak 35 = .ok (.iconst 1, 1) := by decide +kernel
theorem dX7_weak_36 : decode cX7_weak 36 = .ok (.ireturn, 1) := by decide +kernel
theorem dX7_strong_0 : decode cX7_strong 0 = .ok (.iload_n 1, 1) := by decide +kernel
theorem dX7_strong_1 : decode cX7_strong 1 = .ok (.invokestatic 216, 3) := by decide +kernel
theorem dX7_strong_4 : decode cX7_strong 4 = .ok (.ifCond .eq 10, 3) := by decide +kernel
theorem dX7_strong_7 : decode cX7_strong 7 = .ok (.iload_n 2, 1) := by decide +kernel
theorem dX7_strong_8 : decode cX7_strong 8 = .ok (.invokestatic 247, 3) := by decide +kernel
theorem dX7_strong_11 : decode cX7_strong 11 = .ok (.ifCond .ne 6, 3) := by decide +kernel
theorem dX7_strong_14 : decode cX7_strong 14 = .ok (.bipush (-2), 2) := by decide +kernel
theorem dX7_strong_16 : decode cX7_strong 16 = .ok (.ireturn, 1) := by decide +kernel
theorem dX7_strong_17 : decode cX7_strong 17 = .ok (.aload_n 0, 1) := by decide +kernel
theorem dX7_strong_18 : decode cX7_strong 18 = .ok (.invokevirtual 219, 3) := by decide +kernel
theorem dX7_strong_21 : decode cX7_strong 21 = .ok (.aload_n 0, 1) := by decide +kernel
theorem dX7_strong_22 : decode cX7_strong 22 = .ok (.getfield 7, 3) := by decide +kernel
theorem dX7_strong_25 : decode cX7_strong 25 = .ok (.sipush 721, 3) := by decide +kernel
theorem dX7_strong_28 : decode cX7_strong 28 = .ok (.iload_n 2, 1) := by decide +kernel
theorem dX7_strong_29 : decode cX7_strong 29 = .ok (.iadd, 1) := by decide +kernel
theorem dX7_strong_30 : decode cX7_strong 30 = .ok (.iaload, 1) := by decide +kernel
theorem dX7_strong_31 : decode cX7_strong 31 = .ok (.istore_n 3, 1) := by decide +kernel
theorem dX7_strong_32 : decode cX7_strong 32 = .ok (.aload_n 0, 1) := by decide +kernel
theorem dX7_strong_33 : decode cX7_strong 33 = .ok (.getfield 7, 3) := by decide +kernel
theorem dX7_strong_36 : decode cX7_strong 36 = .ok (.sipush 715, 3) := by decide +kernel
theorem dX7_strong_39 : decode cX7_strong 39 = .ok (.iload_n 1, 1) := by decide +kernel
theorem dX7_strong_40 : decode cX7_strong 40 = .ok (.iadd, 1) := by decide +kernel
theorem dX7_strong_41 : decode cX7_strong 41 = .ok (.iload_n 3, 1) := by decide +kernel
theorem dX7_strong_42 : decode cX7_strong 42 = .ok (.iastore, 1) := by decide +kernel
theorem dX7_strong_43 : decode cX7_strong 43 = .ok (.aload_n 0, 1) := by decide +kernel
theorem dX7_strong_44 : decode cX7_strong 44 = .ok (.iload_n 3, 1) := by decide +kernel
theorem dX7_strong_45 : decode cX7_strong 45 = .ok (.aload_n 0, 1) := by decide +kernel
theorem dX7_strong_46 : decode cX7_strong 46 = .ok (.invokevirtual 181, 3) := by decide +kernel
theorem dX7_strong_49 : decode cX7_strong 49 = .ok (.ifCond .eq 19, 3) := by decide +kernel
theorem dX7_strong_52 : decode cX7_strong 52 = .ok (.aload_n 0, 1) := by decide +kernel
theorem dX7_strong_53 : decode cX7_strong 53 = .ok (.getfield 7, 3) := by decide +kernel
theorem dX7_strong_56 : decode cX7_strong 56 = .ok (.sipush 735, 3) := by decide +kernel
theorem dX7_strong_59 : decode cX7_strong 59 = .ok (.iaload, 1) := by decide +kernel
theorem dX7_strong_60 : decode cX7_strong 60 = .ok (.iconst 2, 1) := by decide +kernel
theorem dX7_strong_61 : decode cX7_strong 61 = .ok (.if_icmp .gt 7, 3) := by decide +kernel
theorem dX7_strong_64 : decode cX7_strong 64 = .ok (.iconst 1, 1) := by decide +kernel
theorem dX7_strong_65 : decode cX7_strong 65 = .ok (.goto 4, 3) := by decide +kernel
theorem dX7_strong_68 : decode cX7_strong 68 = .ok (.iconst 0, 1) := by decide +kernel
theorem dX7_strong_69 : decode cX7_strong 69 = .ok (.invokevirtual 142, 3) := by decide +kernel
theorem dX7_strong_72 : decode cX7_strong 72 = .ok (.iload_n 3, 1) := by decide +kernel
theorem dX7_strong_73 : decode cX7_strong 73 = .ok (.ireturn, 1) := by decide +kernel
theorem dX7_start_0 : decode cX7_start 0 = .ok (.aload_n 0, 1) := by decide +kernel
theorem dX7_start_1 : decode cX7_start 1 = .ok (.invokevirtual 181, 3) := by decide +kernel
theorem dX7_start_4 : decode cX7_start 4 = .ok (.ifCond .eq 5, 3) := by decide +kernel
theorem dX7_start_7 : decode cX7_start 7 = .ok (.iconst 0, 1) := by decide +kernel
theorem dX7_start_8 : decode cX7_start 8 = .ok (.ireturn, 1) := by decide +kernel
theorem dX7_start_9 : decode cX7_start 9 = .ok (.aload_n 0, 1) := by decide +kernel
theorem dX7_start_10 : decode cX7_start 10 = .ok (.invokevirtual 219, 3) := by decide +kernel
theorem dX7_start_13 : decode cX7_start 13 = .ok (.aload_n 0, 1) := by decide +kernel
theorem dX7_start_14 : decode cX7_start 14 = .ok (.invokevirtual 207, 3) := by decide +kernel
theorem dX7_start_17 : decode cX7_start 17 = .ok (.iconst 1, 1) := by decide +kernel
theorem dX7_start_18 : decode cX7_start 18 = .ok (.ireturn, 1) := by decide +kernel
theorem dX7_work_0 : decode cX7_work 0 = .ok (.aload_n 0, 1) := by decide +kernel
theorem dX7_work_1 : decode cX7_work 1 = .ok (.invokevirtual 181, 3) := by decide +kernel
theorem dX7_work_4 : decode cX7_work 4 = .ok (.ifCond .eq 14, 3) := by decide +kernel
theorem dX7_work_7 : decode cX7_work 7 = .ok (.iload_n 1, 1) := by decide +kernel
theorem dX7_work_8 : decode cX7_work 8 = .ok (.iconst 1, 1) := by decide +kernel
theorem dX7_work_9 : decode cX7_work 9 = .ok (.sipush 500, 3) := by decide +kernel
theorem dX7_work_12 : decode cX7_work 12 = .ok (.invokestatic 94, 3) := by decide +kernel
theorem dX7_work_15 : decode cX7_work 15 = .ok (.ifCond .ne 5, 3) := by decide +kernel
theorem dX7_work_18 : decode cX7_work 18 = .ok (.iconst (-1), 1) := by decide +kernel
theorem dX7_work_19 : decode cX7_work 19 = .ok (.ireturn, 1) := by decide +kernel
theorem dX7_work_20 : decode cX7_work 20 = .ok (.aload_n 0, 1) := by decide +kernel
theorem dX7_work_21 : decode cX7_work 21 = .ok (.invokevirtual 219, 3) := by decide +kernel
theorem dX7_work_24 : decode cX7_work 24 = .ok (.aload_n 0, 1) := by decide +kernel
theorem dX7_work_25 : decode cX7_work 25 = .ok (.iload_n 1, 1) := by decide +kernel
theorem dX7_work_26 : decode cX7_work 26 = .ok (.invokevirtual 189, 3) := by decide +kernel
theorem dX7_work_29 : decode cX7_work 29 = .ok (.ireturn, 1) := by decide +kernel
theorem dX7_turn_0 : decode cX7_turn 0 = .ok (.iload_n 1, 1) := by decide +kernel
theorem dX7_turn_1 : decode cX7_turn 1 = .ok (.iconst 0, 1) := by decide +kernel
theorem dX7_turn_2 : decode cX7_turn 2 = .ok (.iconst 3, 1) := by decide +kernel
theorem dX7_turn_3 : decode cX7_turn 3 = .ok (.invokestatic 94, 3) := by decide +kernel
theorem dX7_turn_6 : decode cX7_turn 6 = .ok (.ifCond .eq 33, 3) := by decide +kernel
theorem dX7_turn_9 : decode cX7_turn 9 = .ok (.iload_n 2, 1) := by decide +kernel
theorem dX7_turn_10 : decode cX7_turn 10 = .ok (.iconst 0, 1) := by decide +kernel
theorem dX7_turn_11 : decode cX7_turn 11 = .ok (.iload_n 1, 1) := by decide +kernel
theorem dX7_turn_12 : decode cX7_turn 12 = .ok (.iconst 2, 1) := by decide +kernel
theorem dX7_turn_13 : decode cX7_turn 13 = .ok (.if_icmp .ge 7, 3) := by decide +kernel
theorem dX7_turn_16 : decode cX7_turn 16 = .ok (.iconst 3, 1) := by decide +kernel
theorem dX7_turn_17 : decode cX7_turn 17 = .ok (.goto 5, 3) := by decide +kernel
theorem dX7_turn_20 : decode cX7_turn 20 = .ok (.bipush 16, 2) := by decide +kernel
theorem dX7_turn_22 : decode cX7_turn 22 = .ok (.invokestatic 94, 3) := by decide +kernel
theorem dX7_turn_25 : decode cX7_turn 25 = .ok (.ifCond .eq 14, 3) := by decide +kernel
theorem dX7_turn_28 : decode cX7_turn 28 = .ok (.iload_n 1, 1) := by decide +kernel
theorem dX7_turn_29 : decode cX7_turn 29 = .ok (.ifCond .ne 12, 3) := by decide +kernel
theorem dX7_turn_32 : decode cX7_turn 32 = .ok (.aload_n 0, 1) := by decide +kernel
theorem dX7_turn_33 : decode cX7_turn 33 = .ok (.invokevirtual 181, 3) := by decide +kernel
theorem dX7_turn_36 : decode cX7_turn 36 = .ok (.ifCond .eq 5, 3) := by decide +kernel
theorem dX7_turn_39 : decode cX7_turn 39 = .ok (.iconst (-1), 1) := by decide +kernel
theorem dX7_turn_40 : decode cX7_turn 40 = .ok (.ireturn, 1) := by decide +kernel
theorem dX7_turn_41 : decode cX7_turn 41 = .ok (.aload_n 0, 1) := by decide +kernel
theorem dX7_turn_42 : decode cX7_turn 42 = .ok (.invokevirtual 219, 3) := by decide +kernel
theorem dX7_turn_45 : decode cX7_turn 45 = .ok (.aload_n 0, 1) := by decide +kernel
theorem dX7_turn_46 : decode cX7_turn 46 = .ok (.getfield 7, 3) := by decide +kernel
theorem dX7_turn_49 : decode cX7_turn 49 = .ok (.sipush 735, 3) := by decide +kernel
theorem dX7_turn_52 : decode cX7_turn 52 = .ok (.iload_n 1, 1) := by decide +kernel
theorem dX7_turn_53 : decode cX7_turn 53 = .ok (.iadd, 1) := by decide +kernel
theorem dX7_turn_54 : decode cX7_turn 54 = .ok (.iaload, 1) := by decide +kernel
theorem dX7_turn_55 : decode cX7_turn 55 = .ok (.istore_n 3, 1) := by decide +kernel
theorem dX7_turn_56 : decode cX7_turn 56 = .ok (.aload_n 0, 1) := by decide +kernel
theorem dX7_turn_57 : decode cX7_turn 57 = .ok (.getfield 7, 3) := by decide +kernel
theorem dX7_turn_60 : decode cX7_turn 60 = .ok (.sipush 735, 3) := by decide +kernel
theorem dX7_turn_63 : decode cX7_turn 63 = .ok (.iload_n 1, 1) := by decide +kernel
theorem dX7_turn_64 : decode cX7_turn 64 = .ok (.iadd, 1) := by decide +kernel
theorem dX7_turn_65 : decode cX7_turn 65 = .ok (.iload_n 2, 1) := by decide +kernel
theorem dX7_turn_66 : decode cX7_turn 66 = .ok (.iastore, 1) := by decide +kernel
theorem dX7_turn_67 : decode cX7_turn 67 = .ok (.iload_n 3, 1) := by decide +kernel
theorem dX7_turn_68 : decode cX7_turn 68 = .ok (.ireturn, 1) := by decide +kernel
theorem dX7_open_0 : decode cX7_open 0 = .ok (.iload_n 1, 1) := by decide +kernel
theorem dX7_open_1 : decode cX7_open 1 = .ok (.iconst 1, 1) := by decide +kernel
theorem dX7_open_2 : decode cX7_open 2 = .ok (.bipush 8, 2) := by decide +kernel
theorem dX7_open_4 : decode cX7_open 4 = .ok (.invokestatic 94, 3) := by decide +kernel
theorem dX7_open_7 : decode cX7_open 7 = .ok (.ifCond .ne 5, 3) := by decide +kernel
theorem dX7_open_10 : decode cX7_open 10 = .ok (.iconst 0, 1) := by decide +kernel
theorem dX7_open_11 : decode cX7_open 11 = .ok (.ireturn, 1) := by decide +kernel
theorem dX7_open_12 : decode cX7_open 12 = .ok (.aload_n 0, 1) := by decide +kernel
theorem dX7_open_13 : decode cX7_open 13 = .ok (.iload_n 1, 1) := by decide +kernel
theorem dX7_open_14 : decode cX7_open 14 = .ok (.invokevirtual 90, 3) := by decide +kernel
theorem dX7_open_17 : decode cX7_open 17 = .ok (.aload_n 0, 1) := by decide +kernel
theorem dX7_open_18 : decode cX7_open 18 = .ok (.iconst 0, 1) := by decide +kernel
theorem dX7_open_19 : decode cX7_open 19 = .ok (.putfield 250, 3) := by decide +kernel
theorem dX7_open_22 : decode cX7_open 22 = .ok (.aload_n 0, 1) := by decide +kernel
theorem dX7_open_23 : decode cX7_open 23 = .ok (.iconst 0, 1) := by decide +kernel
theorem dX7_open_24 : decode cX7_open 24 = .ok (.putfield 253, 3) := by decide +kernel
theorem dX7_open_27 : decode cX7_open 27 = .ok (.iconst 1, 1) := by decide +kernel
theorem dX7_open_28 : decode cX7_open 28 = .ok (.ireturn, 1) := by decide +kernel
theorem dX7_meet_0 : decode cX7_meet 0 = .ok (.iload_n 1, 1) := by decide +kernel
theorem dX7_meet_1 : decode cX7_meet 1 = .ok (.ifCond .lt 17, 3) := by decide +kernel
theorem dX7_meet_4 : decode cX7_meet 4 = .ok (.iload_n 1, 1) := by decide +kernel
theorem dX7_meet_5 : decode cX7_meet 5 = .ok (.iload_n 2, 1) := by decide +kernel
theorem dX7_meet_6 : decode cX7_meet 6 = .ok (.if_icmp .eq 12, 3) := by decide +kernel
theorem dX7_meet_9 : decode cX7_meet 9 = .ok (.aload_n 0, 1) := by decide +kernel
theorem dX7_meet_10 : decode cX7_meet 10 = .ok (.getfield 17, 3) := by decide +kernel
theorem dX7_meet_13 : decode cX7_meet 13 = .ok (.iload_n 1, 1) := by decide +kernel
theorem dX7_meet_14 : decode cX7_meet 14 = .ok (.baload, 1) := by decide +kernel
theorem dX7_meet_15 : decode cX7_meet 15 = .ok (.ifCond .eq 4, 3) := by decide +kernel
theorem dX7_meet_18 : decode cX7_meet 18 = .ok (.return_, 1) := by decide +kernel
theorem dX7_meet_19 : decode cX7_meet 19 = .ok (.aload_n 0, 1) := by decide +kernel
theorem dX7_meet_20 : decode cX7_meet 20 = .ok (.getfield 17, 3) := by decide +kernel
theorem dX7_meet_23 : decode cX7_meet 23 = .ok (.iload_n 1, 1) := by decide +kernel
theorem dX7_meet_24 : decode cX7_meet 24 = .ok (.iconst 1, 1) := by decide +kernel
theorem dX7_meet_25 : decode cX7_meet 25 = .ok (.bastore, 1) := by decide +kernel
theorem dX7_meet_26 : decode cX7_meet 26 = .ok (.aload_n 0, 1) := by decide +kernel
theorem dX7_meet_27 : decode cX7_meet 27 = .ok (.getfield 23, 3) := by decide +kernel
theorem dX7_meet_30 : decode cX7_meet 30 = .ok (.iload_n 1, 1) := by decide +kernel
theorem dX7_meet_31 : decode cX7_meet 31 = .ok (.iload_n 3, 1) := by decide +kernel
theorem dX7_meet_32 : decode cX7_meet 32 = .ok (.iastore, 1) := by decide +kernel
theorem dX7_meet_33 : decode cX7_meet 33 = .ok (.aload_n 0, 1) := by decide +kernel
theorem dX7_meet_34 : decode cX7_meet 34 = .ok (.getfield 20, 3) := by decide +kernel
theorem dX7_meet_37 : decode cX7_meet 37 = .ok (.aload_n 0, 1) := by decide +kernel
theorem dX7_meet_38 : decode cX7_meet 38 = .ok (.getfield 256, 3) := by decide +kernel
theorem dX7_meet_41 : decode cX7_meet 41 = .ok (.iload_n 1, 1) := by decide +kernel
theorem dX7_meet_42 : decode cX7_meet 42 = .ok (.iastore, 1) := by decide +kernel
theorem dX7_meet_43 : decode cX7_meet 43 = .ok (.aload_n 0, 1) := by decide +kernel
theorem dX7_meet_44 : decode cX7_meet 44 = .ok (.dup, 1) := by decide +kernel
theorem dX7_meet_45 : decode cX7_meet 45 = .ok (.getfield 256, 3) := by decide +kernel
theorem dX7_meet_48 : decode cX7_meet 48 = .ok (.iconst 1, 1) := by decide +kernel
theorem dX7_meet_49 : decode cX7_meet 49 = .ok (.iadd, 1) := by decide +kernel
theorem dX7_meet_50 : decode cX7_meet 50 = .ok (.putfield 256, 3) := by decide +kernel
theorem dX7_meet_53 : decode cX7_meet 53 = .ok (.return_, 1) := by decide +kernel
theorem dX7_clearReached_0 : decode cX7_clearReached 0 = .ok (.aload_n 0, 1) := by decide +kernel
theorem dX7_clearReached_1 : decode cX7_clearReached 1 = .ok (.iconst 0, 1) := by decide +kernel
theorem dX7_clearReached_2 : decode cX7_clearReached 2 = .ok (.putfield 256, 3) := by decide +kernel
theorem dX7_clearReached_5 : decode cX7_clearReached 5 = .ok (.iconst 0, 1) := by decide +kernel
theorem dX7_clearReached_6 : decode cX7_clearReached 6 = .ok (.istore_n 1, 1) := by decide +kernel
theorem dX7_clearReached_7 : decode cX7_clearReached 7 = .ok (.iload_n 1, 1) := by decide +kernel
theorem dX7_clearReached_8 : decode cX7_clearReached 8 = .ok (.sipush 128, 3) := by decide +kernel
theorem dX7_clearReached_11 : decode cX7_clearReached 11 = .ok (.if_icmp .ge 16, 3) := by decide +kernel
theorem dX7_clearReached_14 : decode cX7_clearReached 14 = .ok (.aload_n 0, 1) := by decide +kernel
theorem dX7_clearReached_15 : decode cX7_clearReached 15 = .ok (.getfield 17, 3) := by decide +kernel
theorem dX7_clearReached_18 : decode cX7_clearReached 18 = .ok (.iload_n 1, 1) := by decide +kernel
theorem dX7_clearReached_19 : decode cX7_clearReached 19 = .ok (.iconst 0, 1) := by decide +kernel
theorem dX7_clearReached_20 : decode cX7_clearReached 20 = .ok (.bastore, 1) := by decide +kernel
theorem dX7_clearReached_21 : decode cX7_clearReached 21 = .ok (.iinc 1 1, 3) := by decide +kernel
theorem dX7_clearReached_24 : decode cX7_clearReached 24 = .ok (.goto (-17), 3) := by decide +kernel
theorem dX7_clearReached_27 : decode cX7_clearReached 27 = .ok (.return_, 1) := by decide +kernel
theorem dX7_follow_0 : decode cX7_follow 0 = .ok (.iconst 0, 1) := by decide +kernel
theorem dX7_follow_1 : decode cX7_follow 1 = .ok (.istore_n 2, 1) := by decide +kernel
theorem dX7_follow_2 : decode cX7_follow 2 = .ok (.iload_n 2, 1) := by decide +kernel
theorem dX7_follow_3 : decode cX7_follow 3 = .ok (.aload_n 0, 1) := by decide +kernel
theorem dX7_follow_4 : decode cX7_follow 4 = .ok (.getfield 256, 3) := by decide +kernel
theorem dX7_follow_7 : decode cX7_follow 7 = .ok (.if_icmp .ge 64, 3) := by decide +kernel
theorem dX7_follow_10 : decode cX7_follow 10 = .ok (.aload_n 0, 1) := by decide +kernel
theorem dX7_follow_11 : decode cX7_follow 11 = .ok (.getfield 20, 3) := by decide +kernel
theorem dX7_follow_14 : decode cX7_follow 14 = .ok (.iload_n 2, 1) := by decide +kernel
theorem dX7_follow_15 : decode cX7_follow 15 = .ok (.iaload, 1) := by decide +kernel
theorem dX7_follow_16 : decode cX7_follow 16 = .ok (.istore_n 3, 1) := by decide +kernel
theorem dX7_follow_17 : decode cX7_follow 17 = .ok (.iconst 0, 1) := by decide +kernel
theorem dX7_follow_18 : decode cX7_follow 18 = .ok (.istore 4, 2) := by decide +kernel
theorem dX7_follow_20 : decode cX7_follow 20 = .ok (.iload 4, 2) := by decide +kernel
theorem dX7_follow_22 : decode cX7_follow 22 = .ok (.aload_n 0, 1) := by decide +kernel
theorem dX7_follow_23 : decode cX7_follow 23 = .ok (.getfield 7, 3) := by decide +kernel
theorem dX7_follow_26 : decode cX7_follow 26 = .ok (.sipush 128, 3) := by decide +kernel
theorem dX7_follow_29 : decode cX7_follow 29 = .ok (.iload_n 3, 1) := by decide +kernel
theorem dX7_follow_30 : decode cX7_follow 30 = .ok (.iadd, 1) := by decide +kernel
theorem dX7_follow_31 : decode cX7_follow 31 = .ok (.iaload, 1) := by decide +kernel
theorem dX7_follow_32 : decode cX7_follow 32 = .ok (.if_icmp .ge 33, 3) := by decide +kernel
theorem dX7_follow_35 : decode cX7_follow 35 = .ok (.aload_n 0, 1) := by decide +kernel
theorem dX7_follow_36 : decode cX7_follow 36 = .ok (.aload_n 0, 1) := by decide +kernel
theorem dX7_follow_37 : decode cX7_follow 37 = .ok (.getfield 7, 3) := by decide +kernel
theorem dX7_follow_40 : decode cX7_follow 40 = .ok (.iload_n 3, 1) := by decide +kernel
theorem dX7_follow_41 : decode cX7_follow 41 = .ok (.iload 4, 2) := by decide +kernel
theorem dX7_follow_43 : decode cX7_follow 43 = .ok (.invokestatic 161, 3) := by decide +kernel
theorem dX7_follow_46 : decode cX7_follow 46 = .ok (.iaload, 1) := by decide +kernel
theorem dX7_follow_47 : decode cX7_follow 47 = .ok (.iload_n 1, 1) := by decide +kernel
theorem dX7_follow_48 : decode cX7_follow 48 = .ok (.aload_n 0, 1) := by decide +kernel
theorem dX7_follow_49 : decode cX7_follow 49 = .ok (.getfield 23, 3) := by decide +kernel
theorem dX7_follow_52 : decode cX7_follow 52 = .ok (.iload_n 3, 1) := by decide +kernel
theorem dX7_follow_53 : decode cX7_follow 53 = .ok (.iaload, 1) := by decide +kernel
theorem dX7_follow_54 : decode cX7_follow 54 = .ok (.iconst 1, 1) := by decide +kernel
theorem dX7_follow_55 : decode cX7_follow 55 = .ok (.iadd, 1) := by decide +kernel
theorem dX7_follow_56 : decode cX7_follow 56 = .ok (.invokevirtual 259, 3) := by decide +kernel
theorem dX7_follow_59 : decode cX7_follow 59 = .ok (.iinc 4 1, 3) := by decide +kernel
theorem dX7_follow_62 : decode cX7_follow 62 = .ok (.goto (-42), 3) := by decide +kernel
theorem dX7_follow_65 : decode cX7_follow 65 = .ok (.iinc 2 1, 3) := by decide +kernel
theorem dX7_follow_68 : decode cX7_follow 68 = .ok (.goto (-66), 3) := by decide +kernel
theorem dX7_follow_71 : decode cX7_follow 71 = .ok (.return_, 1) := by decide +kernel
theorem dX7_reach_0 : decode cX7_reach 0 = .ok (.aload_n 0, 1) := by decide +kernel
theorem dX7_reach_1 : decode cX7_reach 1 = .ok (.invokevirtual 262, 3) := by decide +kernel
theorem dX7_reach_4 : decode cX7_reach 4 = .ok (.iconst 0, 1) := by decide +kernel
theorem dX7_reach_5 : decode cX7_reach 5 = .ok (.istore_n 2, 1) := by decide +kernel
theorem dX7_reach_6 : decode cX7_reach 6 = .ok (.iload_n 2, 1) := by decide +kernel
theorem dX7_reach_7 : decode cX7_reach 7 = .ok (.bipush 6, 2) := by decide +kernel
theorem dX7_reach_9 : decode cX7_reach 9 = .ok (.if_icmp .ge 25, 3) := by decide +kernel
theorem dX7_reach_12 : decode cX7_reach 12 = .ok (.aload_n 0, 1) := by decide +kernel
theorem dX7_reach_13 : decode cX7_reach 13 = .ok (.aload_n 0, 1) := by decide +kernel
theorem dX7_reach_14 : decode cX7_reach 14 = .ok (.getfield 7, 3) := by decide +kernel
theorem dX7_reach_17 : decode cX7_reach 17 = .ok (.sipush 715, 3) := by decide +kernel
theorem dX7_reach_20 : decode cX7_reach 20 = .ok (.iload_n 2, 1) := by decide +kernel
theorem dX7_reach_21 : decode cX7_reach 21 = .ok (.iadd, 1) := by decide +kernel
theorem dX7_reach_22 : decode cX7_reach 22 = .ok (.iaload, 1) := by decide +kernel
theorem dX7_reach_23 : decode cX7_reach 23 = .ok (.iload_n 1, 1) := by decide +kernel
theorem dX7_reach_24 : decode cX7_reach 24 = .ok (.iconst 0, 1) := by decide +kernel
theorem dX7_reach_25 : decode cX7_reach 25 = .ok (.invokevirtual 259, 3) := by decide +kernel
theorem dX7_reach_28 : decode cX7_reach 28 = .ok (.iinc 2 1, 3) := by decide +kernel
theorem dX7_reach_31 : decode cX7_reach 31 = .ok (.goto (-25), 3) := by decide +kernel
theorem dX7_reach_34 : decode cX7_reach 34 = .ok (.aload_n 0, 1) := by decide +kernel
theorem dX7_reach_35 : decode cX7_reach 35 = .ok (.iload_n 1, 1) := by decide +kernel
theorem dX7_reach_36 : decode cX7_reach 36 = .ok (.invokevirtual 265, 3) := by decide +kernel
theorem dX7_reach_39 : decode cX7_reach 39 = .ok (.aload_n 0, 1) := by decide +kernel
theorem dX7_reach_40 : decode cX7_reach 40 = .ok (.getfield 256, 3) := by decide +kernel
theorem dX7_reach_43 : decode cX7_reach 43 = .ok (.ireturn, 1) := by decide +kernel
theorem dX7_path_0 : decode cX7_path 0 = .ok (.iload_n 1, 1) := by decide +kernel
theorem dX7_path_1 : decode cX7_path 1 = .ok (.invokestatic 216, 3) := by decide +kernel
theorem dX7_path_4 : decode cX7_path 4 = .ok (.ifCond .eq 11, 3) := by decide +kernel
theorem dX7_path_7 : decode cX7_path 7 = .ok (.aload_n 0, 1) := by decide +kernel
theorem dX7_path_8 : decode cX7_path 8 = .ok (.iload_n 2, 1) := by decide +kernel
theorem dX7_path_9 : decode cX7_path 9 = .ok (.invokevirtual 109, 3) := by decide +kernel
theorem dX7_path_12 : decode cX7_path 12 = .ok (.ifCond .ne 5, 3) := by decide +kernel
theorem dX7_path_15 : decode cX7_path 15 = .ok (.iconst (-1), 1) := by decide +kernel
theorem dX7_path_16 : decode cX7_path 16 = .ok (.ireturn, 1) := by decide +kernel
theorem dX7_path_17 : decode cX7_path 17 = .ok (.aload_n 0, 1) := by decide +kernel
theorem dX7_path_18 : decode cX7_path 18 = .ok (.invokevirtual 262, 3) := by decide +kernel
theorem dX7_path_21 : decode cX7_path 21 = .ok (.aload_n 0, 1) := by decide +kernel
theorem dX7_path_22 : decode cX7_path 22 = .ok (.aload_n 0, 1) := by decide +kernel
theorem dX7_path_23 : decode cX7_path 23 = .ok (.getfield 7, 3) := by decide +kernel
theorem dX7_path_26 : decode cX7_path 26 = .ok (.sipush 715, 3) := by decide +kernel
theorem dX7_path_29 : decode cX7_path 29 = .ok (.iload_n 1, 1) := by decide +kernel
theorem dX7_path_30 : decode cX7_path 30 = .ok (.iadd, 1) := by decide +kernel
theorem dX7_path_31 : decode cX7_path 31 = .ok (.iaload, 1) := by decide +kernel
theorem dX7_path_32 : decode cX7_path 32 = .ok (.iconst (-1), 1) := by decide +kernel
theorem dX7_path_33 : decode cX7_path 33 = .ok (.iconst 0, 1) := by decide +kernel
theorem dX7_path_34 : decode cX7_path 34 = .ok (.invokevirtual 259, 3) := by decide +kernel
theorem dX7_path_37 : decode cX7_path 37 = .ok (.aload_n 0, 1) := by decide +kernel
theorem dX7_path_38 : decode cX7_path 38 = .ok (.iconst (-1), 1) := by decide +kernel
theorem dX7_path_39 : decode cX7_path 39 = .ok (.invokevirtual 265, 3) := by decide +kernel
theorem dX7_path_42 : decode cX7_path 42 = .ok (.aload_n 0, 1) := by decide +kernel
theorem dX7_path_43 : decode cX7_path 43 = .ok (.getfield 17, 3) := by decide +kernel
theorem dX7_path_46 : decode cX7_path 46 = .ok (.iload_n 2, 1) := by decide +kernel
theorem dX7_path_47 : decode cX7_path 47 = .ok (.baload, 1) := by decide +kernel
theorem dX7_path_48 : decode cX7_path 48 = .ok (.ifCond .eq 12, 3) := by decide +kernel
theorem dX7_path_51 : decode cX7_path 51 = .ok (.aload_n 0, 1) := by decide +kernel
theorem dX7_path_52 : decode cX7_path 52 = .ok (.getfield 23, 3) := by decide +kernel
theorem dX7_path_55 : decode cX7_path 55 = .ok (.iload_n 2, 1) := by decide +kernel
theorem dX7_path_56 : decode cX7_path 56 = .ok (.iaload, 1) := by decide +kernel
theorem dX7_path_57 : decode cX7_path 57 = .ok (.goto 4, 3) := by decide +kernel
theorem dX7_path_60 : decode cX7_path 60 = .ok (.iconst (-1), 1) := by decide +kernel
theorem dX7_path_61 : decode cX7_path 61 = .ok (.ireturn, 1) := by decide +kernel
theorem dX7_retained_0 : decode cX7_retained 0 = .ok (.aload_n 0, 1) := by decide +kernel
theorem dX7_retained_1 : decode cX7_retained 1 = .ok (.iload_n 1, 1) := by decide +kernel
theorem dX7_retained_2 : decode cX7_retained 2 = .ok (.invokevirtual 109, 3) := by decide +kernel
theorem dX7_retained_5 : decode cX7_retained 5 = .ok (.ifCond .ne 5, 3) := by decide +kernel
theorem dX7_retained_8 : decode cX7_retained 8 = .ok (.iconst (-1), 1) := by decide +kernel
theorem dX7_retained_9 : decode cX7_retained 9 = .ok (.ireturn, 1) := by decide +kernel
theorem dX7_retained_10 : decode cX7_retained 10 = .ok (.aload_n 0, 1) := by decide +kernel
theorem dX7_retained_11 : decode cX7_retained 11 = .ok (.iconst (-1), 1) := by decide +kernel
theorem dX7_retained_12 : decode cX7_retained 12 = .ok (.invokevirtual 268, 3) := by decide +kernel
theorem dX7_retained_15 : decode cX7_retained 15 = .ok (.istore_n 2, 1) := by decide +kernel
theorem dX7_retained_16 : decode cX7_retained 16 = .ok (.aload_n 0, 1) := by decide +kernel
theorem dX7_retained_17 : decode cX7_retained 17 = .ok (.getfield 17, 3) := by decide +kernel
theorem dX7_retained_20 : decode cX7_retained 20 = .ok (.iload_n 1, 1) := by decide +kernel
theorem dX7_retained_21 : decode cX7_retained 21 = .ok (.baload, 1) := by decide +kernel
theorem dX7_retained_22 : decode cX7_retained 22 = .ok (.ifCond .eq 13, 3) := by decide +kernel
theorem dX7_retained_25 : decode cX7_retained 25 = .ok (.iload_n 2, 1) := by decide +kernel
theorem dX7_retained_26 : decode cX7_retained 26 = .ok (.aload_n 0, 1) := by decide +kernel
theorem dX7_retained_27 : decode cX7_retained 27 = .ok (.iload_n 1, 1) := by decide +kernel
theorem dX7_retained_28 : decode cX7_retained 28 = .ok (.invokevirtual 268, 3) := by decide +kernel
theorem dX7_retained_31 : decode cX7_retained 31 = .ok (.isub, 1) := by decide +kernel
theorem dX7_retained_32 : decode cX7_retained 32 = .ok (.goto 4, 3) := by decide +kernel
theorem dX7_retained_35 : decode cX7_retained 35 = .ok (.iconst (-1), 1) := by decide +kernel
theorem dX7_retained_36 : decode cX7_retained 36 = .ok (.ireturn, 1) := by decide +kernel
theorem dX7_live_0 : decode cX7_live 0 = .ok (.aload_n 0, 1) := by decide +kernel
theorem dX7_live_1 : decode cX7_live 1 = .ok (.iconst (-1), 1) := by decide +kernel
theorem dX7_live_2 : decode cX7_live 2 = .ok (.invokevirtual 268, 3) := by decide +kernel
theorem dX7_live_5 : decode cX7_live 5 = .ok (.istore_n 2, 1) := by decide +kernel
theorem dX7_live_6 : decode cX7_live 6 = .ok (.iconst 0, 1) := by decide +kernel
theorem dX7_live_7 : decode cX7_live 7 = .ok (.istore_n 3, 1) := by decide +kernel
theorem dX7_live_8 : decode cX7_live 8 = .ok (.iconst 0, 1) := by decide +kernel
theorem dX7_live_9 : decode cX7_live 9 = .ok (.istore 4, 2) := by decide +kernel
theorem dX7_live_11 : decode cX7_live 11 = .ok (.iconst 0, 1) := by decide +kernel
theorem dX7_live_12 : decode cX7_live 12 = .ok (.istore 5, 2) := by decide +kernel
theorem dX7_live_14 : decode cX7_live 14 = .ok (.iload 5, 2) := by decide +kernel
theorem dX7_live_16 : decode cX7_live 16 = .ok (.sipush 128, 3) := by decide +kernel
theorem dX7_live_19 : decode cX7_live 19 = .ok (.if_icmp .ge 63, 3) := by decide +kernel
theorem dX7_live_22 : decode cX7_live 22 = .ok (.aload_n 0, 1) := by decide +kernel
theorem dX7_live_23 : decode cX7_live 23 = .ok (.iload 5, 2) := by decide +kernel
theorem dX7_live_25 : decode cX7_live 25 = .ok (.invokevirtual 109, 3) := by decide +kernel
theorem dX7_live_28 : decode cX7_live 28 = .ok (.ifCond .ne 6, 3) := by decide +kernel
theorem dX7_live_31 : decode cX7_live 31 = .ok (.goto 45, 3) := by decide +kernel
theorem dX7_live_34 : decode cX7_live 34 = .ok (.aload_n 0, 1) := by decide +kernel
theorem dX7_live_35 : decode cX7_live 35 = .ok (.getfield 17, 3) := by decide +kernel
theorem dX7_live_38 : decode cX7_live 38 = .ok (.iload 5, 2) := by decide +kernel
theorem dX7_live_40 : decode cX7_live 40 = .ok (.baload, 1) := by decide +kernel
theorem dX7_live_41 : decode cX7_live 41 = .ok (.ifCond .eq 15, 3) := by decide +kernel
theorem dX7_live_44 : decode cX7_live 44 = .ok (.iload_n 3, 1) := by decide +kernel
theorem dX7_live_45 : decode cX7_live 45 = .ok (.aload_n 0, 1) := by decide +kernel
theorem dX7_live_46 : decode cX7_live 46 = .ok (.iload 5, 2) := by decide +kernel
theorem dX7_live_48 : decode cX7_live 48 = .ok (.invokevirtual 98, 3) := by decide +kernel
theorem dX7_live_51 : decode cX7_live 51 = .ok (.iadd, 1) := by decide +kernel
theorem dX7_live_52 : decode cX7_live 52 = .ok (.istore_n 3, 1) := by decide +kernel
theorem dX7_live_53 : decode cX7_live 53 = .ok (.goto 23, 3) := by decide +kernel
theorem dX7_live_56 : decode cX7_live 56 = .ok (.aload_n 0, 1) := by decide +kernel
theorem dX7_live_57 : decode cX7_live 57 = .ok (.invokevirtual 181, 3) := by decide +kernel
theorem dX7_live_60 : decode cX7_live 60 = .ok (.ifCond .eq 16, 3) := by decide +kernel
theorem dX7_live_63 : decode cX7_live 63 = .ok (.aload_n 0, 1) := by decide +kernel
theorem dX7_live_64 : decode cX7_live 64 = .ok (.iload 5, 2) := by decide +kernel
theorem dX7_live_66 : decode cX7_live 66 = .ok (.invokevirtual 106, 3) := by decide +kernel
theorem dX7_live_69 : decode cX7_live 69 = .ok (.iconst 1, 1) := by decide +kernel
theorem dX7_live_70 : decode cX7_live 70 = .ok (.if_icmp .eq 6, 3) := by decide +kernel
theorem dX7_live_73 : decode cX7_live 73 = .ok (.iinc 4 1, 3) := by decide +kernel
theorem dX7_live_76 : decode cX7_live 76 = .ok (.iinc 5 1, 3) := by decide +kernel
theorem dX7_live_79 : decode cX7_live 79 = .ok (.goto (-65), 3) := by decide +kernel
theorem dX7_live_82 : decode cX7_live 82 = .ok (.iload_n 1, 1) := by decide +kernel
theorem dX7_live_83 : decode cX7_live 83 = .ok (.tableswitch 43 0 3 #[29, 31, 33, 40], 29) := by decide +kernel
theorem dX7_live_112 : decode cX7_live 112 = .ok (.iload_n 2, 1) := by decide +kernel
theorem dX7_live_113 : decode cX7_live 113 = .ok (.ireturn, 1) := by decide +kernel
theorem dX7_live_114 : decode cX7_live 114 = .ok (.iload_n 3, 1) := by decide +kernel
theorem dX7_live_115 : decode cX7_live 115 = .ok (.ireturn, 1) := by decide +kernel
theorem dX7_live_116 : decode cX7_live 116 = .ok (.aload_n 0, 1) := by decide +kernel
theorem dX7_live_117 : decode cX7_live 117 = .ok (.invokevirtual 164, 3) := by decide +kernel
theorem dX7_live_120 : decode cX7_live 120 = .ok (.iload_n 2, 1) := by decide +kernel
theorem dX7_live_121 : decode cX7_live 121 = .ok (.isub, 1) := by decide +kernel
theorem dX7_live_122 : decode cX7_live 122 = .ok (.ireturn, 1) := by decide +kernel
theorem dX7_live_123 : decode cX7_live 123 = .ok (.iload 4, 2) := by decide +kernel
theorem dX7_live_125 : decode cX7_live 125 = .ok (.ireturn, 1) := by decide +kernel
theorem dX7_live_126 : decode cX7_live 126 = .ok (.iconst (-1), 1) := by decide +kernel
theorem dX7_live_127 : decode cX7_live 127 = .ok (.ireturn, 1) := by decide +kernel
theorem dX7_root_0 : decode cX7_root 0 = .ok (.iload_n 1, 1) := by decide +kernel
theorem dX7_root_1 : decode cX7_root 1 = .ok (.invokestatic 216, 3) := by decide +kernel
theorem dX7_root_4 : decode cX7_root 4 = .ok (.ifCond .eq 16, 3) := by decide +kernel
theorem dX7_root_7 : decode cX7_root 7 = .ok (.aload_n 0, 1) := by decide +kernel
theorem dX7_root_8 : decode cX7_root 8 = .ok (.getfield 7, 3) := by decide +kernel
theorem dX7_root_11 : decode cX7_root 11 = .ok (.sipush 715, 3) := by decide +kernel
theorem dX7_root_14 : decode cX7_root 14 = .ok (.iload_n 1, 1) := by decide +kernel
theorem dX7_root_15 : decode cX7_root 15 = .ok (.iadd, 1) := by decide +kernel
theorem dX7_root_16 : decode cX7_root 16 = .ok (.iaload, 1) := by decide +kernel
theorem dX7_root_17 : decode cX7_root 17 = .ok (.goto 5, 3) := by decide +kernel
theorem dX7_root_20 : decode cX7_root 20 = .ok (.bipush (-2), 2) := by decide +kernel
theorem dX7_root_22 : decode cX7_root 22 = .ok (.ireturn, 1) := by decide +kernel
theorem dX7_weakly_0 : decode cX7_weakly 0 = .ok (.iload_n 1, 1) := by decide +kernel
theorem dX7_weakly_1 : decode cX7_weakly 1 = .ok (.invokestatic 247, 3) := by decide +kernel
theorem dX7_weakly_4 : decode cX7_weakly 4 = .ok (.ifCond .eq 16, 3) := by decide +kernel
theorem dX7_weakly_7 : decode cX7_weakly 7 = .ok (.aload_n 0, 1) := by decide +kernel
theorem dX7_weakly_8 : decode cX7_weakly 8 = .ok (.getfield 7, 3) := by decide +kernel
theorem dX7_weakly_11 : decode cX7_weakly 11 = .ok (.sipush 721, 3) := by decide +kernel
theorem dX7_weakly_14 : decode cX7_weakly 14 = .ok (.iload_n 1, 1) := by decide +kernel
theorem dX7_weakly_15 : decode cX7_weakly 15 = .ok (.iadd, 1) := by decide +kernel
theorem dX7_weakly_16 : decode cX7_weakly 16 = .ok (.iaload, 1) := by decide +kernel
theorem dX7_weakly_17 : decode cX7_weakly 17 = .ok (.goto 5, 3) := by decide +kernel
theorem dX7_weakly_20 : decode cX7_weakly 20 = .ok (.bipush (-2), 2) := by decide +kernel
theorem dX7_weakly_22 : decode cX7_weakly 22 = .ok (.ireturn, 1) := by decide +kernel
theorem dX7_told_0 : decode cX7_told 0 = .ok (.iload_n 1, 1) := by decide +kernel
theorem dX7_told_1 : decode cX7_told 1 = .ok (.iconst 0, 1) := by decide +kernel
theorem dX7_told_2 : decode cX7_told 2 = .ok (.aload_n 0, 1) := by decide +kernel
theorem dX7_told_3 : decode cX7_told 3 = .ok (.getfield 7, 3) := by decide +kernel
theorem dX7_told_6 : decode cX7_told 6 = .ok (.sipush 741, 3) := by decide +kernel
theorem dX7_told_9 : decode cX7_told 9 = .ok (.iaload, 1) := by decide +kernel
theorem dX7_told_10 : decode cX7_told 10 = .ok (.iconst 1, 1) := by decide +kernel
theorem dX7_told_11 : decode cX7_told 11 = .ok (.isub, 1) := by decide +kernel
theorem dX7_told_12 : decode cX7_told 12 = .ok (.invokestatic 94, 3) := by decide +kernel
theorem dX7_told_15 : decode cX7_told 15 = .ok (.ifCond .eq 29, 3) := by decide +kernel
theorem dX7_told_18 : decode cX7_told 18 = .ok (.iload_n 2, 1) := by decide +kernel
theorem dX7_told_19 : decode cX7_told 19 = .ok (.iconst 0, 1) := by decide +kernel
theorem dX7_told_20 : decode cX7_told 20 = .ok (.iconst 2, 1) := by decide +kernel
theorem dX7_told_21 : decode cX7_told 21 = .ok (.invokestatic 94, 3) := by decide +kernel
theorem dX7_told_24 : decode cX7_told 24 = .ok (.ifCond .eq 20, 3) := by decide +kernel
theorem dX7_told_27 : decode cX7_told 27 = .ok (.aload_n 0, 1) := by decide +kernel
theorem dX7_told_28 : decode cX7_told 28 = .ok (.getfield 7, 3) := by decide +kernel
theorem dX7_told_31 : decode cX7_told 31 = .ok (.sipush 742, 3) := by decide +kernel
theorem dX7_told_34 : decode cX7_told 34 = .ok (.iconst 3, 1) := by decide +kernel
theorem dX7_told_35 : decode cX7_told 35 = .ok (.iload_n 1, 1) := by decide +kernel
theorem dX7_told_36 : decode cX7_told 36 = .ok (.imul, 1) := by decide +kernel
theorem dX7_told_37 : decode cX7_told 37 = .ok (.iadd, 1) := by decide +kernel
theorem dX7_told_38 : decode cX7_told 38 = .ok (.iload_n 2, 1) := by decide +kernel
theorem dX7_told_39 : decode cX7_told 39 = .ok (.iadd, 1) := by decide +kernel
theorem dX7_told_40 : decode cX7_told 40 = .ok (.iaload, 1) := by decide +kernel
theorem dX7_told_41 : decode cX7_told 41 = .ok (.goto 4, 3) := by decide +kernel
theorem dX7_told_44 : decode cX7_told 44 = .ok (.iconst (-1), 1) := by decide +kernel
theorem dX7_told_45 : decode cX7_told 45 = .ok (.ireturn, 1) := by decide +kernel
theorem dX7_field_0 : decode cX7_field 0 = .ok (.aload_n 0, 1) := by decide +kernel
theorem dX7_field_1 : decode cX7_field 1 = .ok (.iload_n 1, 1) := by decide +kernel
theorem dX7_field_2 : decode cX7_field 2 = .ok (.iload_n 2, 1) := by decide +kernel
theorem dX7_field_3 : decode cX7_field 3 = .ok (.invokevirtual 225, 3) := by decide +kernel
theorem dX7_field_6 : decode cX7_field 6 = .ok (.ifCond .eq 16, 3) := by decide +kernel
theorem dX7_field_9 : decode cX7_field 9 = .ok (.aload_n 0, 1) := by decide +kernel
theorem dX7_field_10 : decode cX7_field 10 = .ok (.getfield 7, 3) := by decide +kernel
theorem dX7_field_13 : decode cX7_field 13 = .ok (.iload_n 1, 1) := by decide +kernel
theorem dX7_field_14 : decode cX7_field 14 = .ok (.iload_n 2, 1) := by decide +kernel
theorem dX7_field_15 : decode cX7_field 15 = .ok (.invokestatic 161, 3) := by decide +kernel
theorem dX7_field_18 : decode cX7_field 18 = .ok (.iaload, 1) := by decide +kernel
theorem dX7_field_19 : decode cX7_field 19 = .ok (.goto 5, 3) := by decide +kernel
theorem dX7_field_22 : decode cX7_field 22 = .ok (.bipush (-2), 2) := by decide +kernel
theorem dX7_field_24 : decode cX7_field 24 = .ok (.ireturn, 1) := by decide +kernel
theorem dX7_namedBy_0 : decode cX7_namedBy 0 = .ok (.iconst 0, 1) := by decide +kernel
theorem dX7_namedBy_1 : decode cX7_namedBy 1 = .ok (.istore_n 2, 1) := by decide +kernel
theorem dX7_namedBy_2 : decode cX7_namedBy 2 = .ok (.iconst 0, 1) := by decide +kernel
theorem dX7_namedBy_3 : decode cX7_namedBy 3 = .ok (.istore_n 3, 1) := by decide +kernel
theorem dX7_namedBy_4 : decode cX7_namedBy 4 = .ok (.iload_n 3, 1) := by decide +kernel
theorem dX7_namedBy_5 : decode cX7_namedBy 5 = .ok (.aload_n 0, 1) := by decide +kernel
theorem dX7_namedBy_6 : decode cX7_namedBy 6 = .ok (.getfield 7, 3) := by decide +kernel
theorem dX7_namedBy_9 : decode cX7_namedBy 9 = .ok (.sipush 128, 3) := by decide +kernel
theorem dX7_namedBy_12 : decode cX7_namedBy 12 = .ok (.iload_n 1, 1) := by decide +kernel
theorem dX7_namedBy_13 : decode cX7_namedBy 13 = .ok (.iadd, 1) := by decide +kernel
theorem dX7_namedBy_14 : decode cX7_namedBy 14 = .ok (.iaload, 1) := by decide +kernel
theorem dX7_namedBy_15 : decode cX7_namedBy 15 = .ok (.if_icmp .ge 30, 3) := by decide +kernel
theorem dX7_namedBy_18 : decode cX7_namedBy 18 = .ok (.iload_n 2, 1) := by decide +kernel
theorem dX7_namedBy_19 : decode cX7_namedBy 19 = .ok (.aload_n 0, 1) := by decide +kernel
theorem dX7_namedBy_20 : decode cX7_namedBy 20 = .ok (.getfield 7, 3) := by decide +kernel
theorem dX7_namedBy_23 : decode cX7_namedBy 23 = .ok (.iload_n 1, 1) := by decide +kernel
theorem dX7_namedBy_24 : decode cX7_namedBy 24 = .ok (.iload_n 3, 1) := by decide +kernel
theorem dX7_namedBy_25 : decode cX7_namedBy 25 = .ok (.invokestatic 161, 3) := by decide +kernel
theorem dX7_namedBy_28 : decode cX7_namedBy 28 = .ok (.iaload, 1) := by decide +kernel
theorem dX7_namedBy_29 : decode cX7_namedBy 29 = .ok (.ifCond .lt 7, 3) := by decide +kernel
theorem dX7_namedBy_32 : decode cX7_namedBy 32 = .ok (.iconst 1, 1) := by decide +kernel
theorem dX7_namedBy_33 : decode cX7_namedBy 33 = .ok (.goto 4, 3) := by decide +kernel
theorem dX7_namedBy_36 : decode cX7_namedBy 36 = .ok (.iconst 0, 1) := by decide +kernel
theorem dX7_namedBy_37 : decode cX7_namedBy 37 = .ok (.iadd, 1) := by decide +kernel
theorem dX7_namedBy_38 : decode cX7_namedBy 38 = .ok (.istore_n 2, 1) := by decide +kernel
theorem dX7_namedBy_39 : decode cX7_namedBy 39 = .ok (.iinc 3 1, 3) := by decide +kernel
theorem dX7_namedBy_42 : decode cX7_namedBy 42 = .ok (.goto (-38), 3) := by decide +kernel
theorem dX7_namedBy_45 : decode cX7_namedBy 45 = .ok (.iload_n 2, 1) := by decide +kernel
theorem dX7_namedBy_46 : decode cX7_namedBy 46 = .ok (.ireturn, 1) := by decide +kernel
theorem dX7_slot_0 : decode cX7_slot 0 = .ok (.aload_n 0, 1) := by decide +kernel
theorem dX7_slot_1 : decode cX7_slot 1 = .ok (.iload_n 1, 1) := by decide +kernel
theorem dX7_slot_2 : decode cX7_slot 2 = .ok (.invokevirtual 102, 3) := by decide +kernel
theorem dX7_slot_5 : decode cX7_slot 5 = .ok (.ifCond .ne 5, 3) := by decide +kernel
theorem dX7_slot_8 : decode cX7_slot 8 = .ok (.iconst (-1), 1) := by decide +kernel
theorem dX7_slot_9 : decode cX7_slot 9 = .ok (.ireturn, 1) := by decide +kernel
theorem dX7_slot_10 : decode cX7_slot 10 = .ok (.iload_n 2, 1) := by decide +kernel
theorem dX7_slot_11 : decode cX7_slot 11 = .ok (.tableswitch 114 0 5 #[37, 43, 49, 60, 66, 91], 37) := by decide +kernel
theorem dX7_slot_48 : decode cX7_slot 48 = .ok (.aload_n 0, 1) := by decide +kernel
theorem dX7_slot_49 : decode cX7_slot 49 = .ok (.iload_n 1, 1) := by decide +kernel
theorem dX7_slot_50 : decode cX7_slot 50 = .ok (.invokevirtual 106, 3) := by decide +kernel
theorem dX7_slot_53 : decode cX7_slot 53 = .ok (.ireturn, 1) := by decide +kernel
theorem dX7_slot_54 : decode cX7_slot 54 = .ok (.aload_n 0, 1) := by decide +kernel
theorem dX7_slot_55 : decode cX7_slot 55 = .ok (.iload_n 1, 1) := by decide +kernel
theorem dX7_slot_56 : decode cX7_slot 56 = .ok (.invokevirtual 98, 3) := by decide +kernel
theorem dX7_slot_59 : decode cX7_slot 59 = .ok (.ireturn, 1) := by decide +kernel
theorem dX7_slot_60 : decode cX7_slot 60 = .ok (.aload_n 0, 1) := by decide +kernel
theorem dX7_slot_61 : decode cX7_slot 61 = .ok (.getfield 7, 3) := by decide +kernel
theorem dX7_slot_64 : decode cX7_slot 64 = .ok (.sipush 128, 3) := by decide +kernel
theorem dX7_slot_67 : decode cX7_slot 67 = .ok (.iload_n 1, 1) := by decide +kernel
theorem dX7_slot_68 : decode cX7_slot 68 = .ok (.iadd, 1) := by decide +kernel
theorem dX7_slot_69 : decode cX7_slot 69 = .ok (.iaload, 1) := by decide +kernel
theorem dX7_slot_70 : decode cX7_slot 70 = .ok (.ireturn, 1) := by decide +kernel
theorem dX7_slot_71 : decode cX7_slot 71 = .ok (.aload_n 0, 1) := by decide +kernel
theorem dX7_slot_72 : decode cX7_slot 72 = .ok (.iload_n 1, 1) := by decide +kernel
theorem dX7_slot_73 : decode cX7_slot 73 = .ok (.invokevirtual 271, 3) := by decide +kernel
theorem dX7_slot_76 : decode cX7_slot 76 = .ok (.ireturn, 1) := by decide +kernel
theorem dX7_slot_77 : decode cX7_slot 77 = .ok (.iload_n 1, 1) := by decide +kernel
theorem dX7_slot_78 : decode cX7_slot 78 = .ok (.aload_n 0, 1) := by decide +kernel
theorem dX7_slot_79 : decode cX7_slot 79 = .ok (.getfield 7, 3) := by decide +kernel
theorem dX7_slot_82 : decode cX7_slot 82 = .ok (.sipush 727, 3) := by decide +kernel
theorem dX7_slot_85 : decode cX7_slot 85 = .ok (.iaload, 1) := by decide +kernel
theorem dX7_slot_86 : decode cX7_slot 86 = .ok (.if_icmp .ne 14, 3) := by decide +kernel
theorem dX7_slot_89 : decode cX7_slot 89 = .ok (.aload_n 0, 1) := by decide +kernel
theorem dX7_slot_90 : decode cX7_slot 90 = .ok (.getfield 7, 3) := by decide +kernel
theorem dX7_slot_93 : decode cX7_slot 93 = .ok (.sipush 728, 3) := by decide +kernel
theorem dX7_slot_96 : decode cX7_slot 96 = .ok (.iaload, 1) := by decide +kernel
theorem dX7_slot_97 : decode cX7_slot 97 = .ok (.goto 4, 3) := by decide +kernel
theorem dX7_slot_100 : decode cX7_slot 100 = .ok (.iconst 0, 1) := by decide +kernel
theorem dX7_slot_101 : decode cX7_slot 101 = .ok (.ireturn, 1) := by decide +kernel
theorem dX7_slot_102 : decode cX7_slot 102 = .ok (.aload_n 0, 1) := by decide +kernel
theorem dX7_slot_103 : decode cX7_slot 103 = .ok (.iconst (-1), 1) := by decide +kernel
theorem dX7_slot_104 : decode cX7_slot 104 = .ok (.invokevirtual 268, 3) := by decide +kernel
theorem dX7_slot_107 : decode cX7_slot 107 = .ok (.ifCond .le 16, 3) := by decide +kernel
theorem dX7_slot_110 : decode cX7_slot 110 = .ok (.aload_n 0, 1) := by decide +kernel
theorem dX7_slot_111 : decode cX7_slot 111 = .ok (.getfield 17, 3) := by decide +kernel
theorem dX7_slot_114 : decode cX7_slot 114 = .ok (.iload_n 1, 1) := by decide +kernel
theorem dX7_slot_115 : decode cX7_slot 115 = .ok (.baload, 1) := by decide +kernel
theorem dX7_slot_116 : decode cX7_slot 116 = .ok (.ifCond .eq 7, 3) := by decide +kernel
theorem dX7_slot_119 : decode cX7_slot 119 = .ok (.iconst 1, 1) := by decide +kernel
theorem dX7_slot_120 : decode cX7_slot 120 = .ok (.goto 4, 3) := by decide +kernel
theorem dX7_slot_123 : decode cX7_slot 123 = .ok (.iconst 0, 1) := by decide +kernel
theorem dX7_slot_124 : decode cX7_slot 124 = .ok (.ireturn, 1) := by decide +kernel
theorem dX7_slot_125 : decode cX7_slot 125 = .ok (.iconst (-1), 1) := by decide +kernel
theorem dX7_slot_126 : decode cX7_slot 126 = .ok (.ireturn, 1) := by decide +kernel
theorem dX7_isSize_0 : decode cX7_isSize 0 = .ok (.iload_n 0, 1) := by decide +kernel
theorem dX7_isSize_1 : decode cX7_isSize 1 = .ok (.iconst 2, 1) := by decide +kernel
theorem dX7_isSize_2 : decode cX7_isSize 2 = .ok (.if_icmp .eq 14, 3) := by decide +kernel
theorem dX7_isSize_5 : decode cX7_isSize 5 = .ok (.iload_n 0, 1) := by decide +kernel
theorem dX7_isSize_6 : decode cX7_isSize 6 = .ok (.iconst 4, 1) := by decide +kernel
theorem dX7_isSize_7 : decode cX7_isSize 7 = .ok (.if_icmp .eq 9, 3) := by decide +kernel
theorem dX7_isSize_10 : decode cX7_isSize 10 = .ok (.iload_n 0, 1) := by decide +kernel
theorem dX7_isSize_11 : decode cX7_isSize 11 = .ok (.bipush 8, 2) := by decide +kernel
theorem dX7_isSize_13 : decode cX7_isSize 13 = .ok (.if_icmp .ne 7, 3) := by decide +kernel
theorem dX7_isSize_16 : decode cX7_isSize 16 = .ok (.iconst 1, 1) := by decide +kernel
theorem dX7_isSize_17 : decode cX7_isSize 17 = .ok (.goto 4, 3) := by decide +kernel
theorem dX7_isSize_20 : decode cX7_isSize 20 = .ok (.iconst 0, 1) := by decide +kernel
theorem dX7_isSize_21 : decode cX7_isSize 21 = .ok (.ireturn, 1) := by decide +kernel
theorem dX7_ring_0 : decode cX7_ring 0 = .ok (.iload_n 1, 1) := by decide +kernel
theorem dX7_ring_1 : decode cX7_ring 1 = .ok (.invokestatic 274, 3) := by decide +kernel
theorem dX7_ring_4 : decode cX7_ring 4 = .ok (.ifCond .eq 37, 3) := by decide +kernel
theorem dX7_ring_7 : decode cX7_ring 7 = .ok (.iload_n 2, 1) := by decide +kernel
theorem dX7_ring_8 : decode cX7_ring 8 = .ok (.iconst 0, 1) := by decide +kernel
theorem dX7_ring_9 : decode cX7_ring 9 = .ok (.aload_n 0, 1) := by decide +kernel
theorem dX7_ring_10 : decode cX7_ring 10 = .ok (.iload_n 1, 1) := by decide +kernel
theorem dX7_ring_11 : decode cX7_ring 11 = .ok (.invokestatic 125, 3) := by decide +kernel
theorem dX7_ring_14 : decode cX7_ring 14 = .ok (.invokevirtual 116, 3) := by decide +kernel
theorem dX7_ring_17 : decode cX7_ring 17 = .ok (.iconst 1, 1) := by decide +kernel
theorem dX7_ring_18 : decode cX7_ring 18 = .ok (.isub, 1) := by decide +kernel
theorem dX7_ring_19 : decode cX7_ring 19 = .ok (.invokestatic 94, 3) := by decide +kernel
theorem dX7_ring_22 : decode cX7_ring 22 = .ok (.ifCond .eq 19, 3) := by decide +kernel
theorem dX7_ring_25 : decode cX7_ring 25 = .ok (.aload_n 0, 1) := by decide +kernel
theorem dX7_ring_26 : decode cX7_ring 26 = .ok (.getfield 7, 3) := by decide +kernel
theorem dX7_ring_29 : decode cX7_ring 29 = .ok (.iload_n 1, 1) := by decide +kernel
theorem dX7_ring_30 : decode cX7_ring 30 = .ok (.invokestatic 125, 3) := by decide +kernel
theorem dX7_ring_33 : decode cX7_ring 33 = .ok (.iload_n 2, 1) := by decide +kernel
theorem dX7_ring_34 : decode cX7_ring 34 = .ok (.invokestatic 112, 3) := by decide +kernel
theorem dX7_ring_37 : decode cX7_ring 37 = .ok (.iaload, 1) := by decide +kernel
theorem dX7_ring_38 : decode cX7_ring 38 = .ok (.goto 4, 3) := by decide +kernel
theorem dX7_ring_41 : decode cX7_ring 41 = .ok (.iconst (-1), 1) := by decide +kernel
theorem dX7_ring_42 : decode cX7_ring 42 = .ok (.ireturn, 1) := by decide +kernel
theorem dX7_many_0 : decode cX7_many 0 = .ok (.iload_n 1, 1) := by decide +kernel
theorem dX7_many_1 : decode cX7_many 1 = .ok (.invokestatic 274, 3) := by decide +kernel
theorem dX7_many_4 : decode cX7_many 4 = .ok (.ifCond .eq 24, 3) := by decide +kernel
theorem dX7_many_7 : decode cX7_many 7 = .ok (.iload_n 2, 1) := by decide +kernel
theorem dX7_many_8 : decode cX7_many 8 = .ok (.iconst 0, 1) := by decide +kernel
theorem dX7_many_9 : decode cX7_many 9 = .ok (.iconst 3, 1) := by decide +kernel
theorem dX7_many_10 : decode cX7_many 10 = .ok (.invokestatic 94, 3) := by decide +kernel
theorem dX7_many_13 : decode cX7_many 13 = .ok (.ifCond .eq 15, 3) := by decide +kernel
theorem dX7_many_16 : decode cX7_many 16 = .ok (.aload_n 0, 1) := by decide +kernel
theorem dX7_many_17 : decode cX7_many 17 = .ok (.iload_n 1, 1) := by decide +kernel
theorem dX7_many_18 : decode cX7_many 18 = .ok (.invokestatic 125, 3) := by decide +kernel
theorem dX7_many_21 : decode cX7_many 21 = .ok (.iload_n 2, 1) := by decide +kernel
theorem dX7_many_22 : decode cX7_many 22 = .ok (.invokevirtual 119, 3) := by decide +kernel
theorem dX7_many_25 : decode cX7_many 25 = .ok (.goto 4, 3) := by decide +kernel
theorem dX7_many_28 : decode cX7_many 28 = .ok (.iconst (-1), 1) := by decide +kernel
theorem dX7_many_29 : decode cX7_many 29 = .ok (.ireturn, 1) := by decide +kernel
theorem dX7_page_0 : decode cX7_page 0 = .ok (.iload_n 1, 1) := by decide +kernel
theorem dX7_page_1 : decode cX7_page 1 = .ok (.iconst 0, 1) := by decide +kernel
theorem dX7_page_2 : decode cX7_page 2 = .ok (.aload_n 0, 1) := by decide +kernel
theorem dX7_page_3 : decode cX7_page 3 = .ok (.getfield 7, 3) := by decide +kernel
theorem dX7_page_6 : decode cX7_page 6 = .ok (.sipush 725, 3) := by decide +kernel
theorem dX7_page_9 : decode cX7_page 9 = .ok (.iaload, 1) := by decide +kernel
theorem dX7_page_10 : decode cX7_page 10 = .ok (.iconst 1, 1) := by decide +kernel
theorem dX7_page_11 : decode cX7_page 11 = .ok (.isub, 1) := by decide +kernel
theorem dX7_page_12 : decode cX7_page 12 = .ok (.invokestatic 94, 3) := by decide +kernel
theorem dX7_page_15 : decode cX7_page 15 = .ok (.ifCond .eq 12, 3) := by decide +kernel
theorem dX7_page_18 : decode cX7_page 18 = .ok (.iload_n 2, 1) := by decide +kernel
theorem dX7_page_19 : decode cX7_page 19 = .ok (.iconst 0, 1) := by decide +kernel
theorem dX7_page_20 : decode cX7_page 20 = .ok (.iconst 2, 1) := by decide +kernel
theorem dX7_page_21 : decode cX7_page 21 = .ok (.invokestatic 94, 3) := by decide +kernel
theorem dX7_page_24 : decode cX7_page 24 = .ok (.ifCond .ne 5, 3) := by decide +kernel
theorem dX7_page_27 : decode cX7_page 27 = .ok (.iconst (-1), 1) := by decide +kernel
theorem dX7_page_28 : decode cX7_page 28 = .ok (.ireturn, 1) := by decide +kernel
theorem dX7_page_29 : decode cX7_page 29 = .ok (.aload_n 0, 1) := by decide +kernel
theorem dX7_page_30 : decode cX7_page 30 = .ok (.getfield 7, 3) := by decide +kernel
theorem dX7_page_33 : decode cX7_page 33 = .ok (.sipush 707, 3) := by decide +kernel
theorem dX7_page_36 : decode cX7_page 36 = .ok (.iload_n 1, 1) := by decide +kernel
theorem dX7_page_37 : decode cX7_page 37 = .ok (.iadd, 1) := by decide +kernel
theorem dX7_page_38 : decode cX7_page 38 = .ok (.iaload, 1) := by decide +kernel
theorem dX7_page_39 : decode cX7_page 39 = .ok (.istore_n 3, 1) := by decide +kernel
theorem dX7_page_40 : decode cX7_page 40 = .ok (.iload_n 2, 1) := by decide +kernel
theorem dX7_page_41 : decode cX7_page 41 = .ok (.ifCond .eq 7, 3) := by decide +kernel
theorem dX7_page_44 : decode cX7_page 44 = .ok (.iload_n 3, 1) := by decide +kernel
theorem dX7_page_45 : decode cX7_page 45 = .ok (.ifCond .ne 5, 3) := by decide +kernel
theorem dX7_page_48 : decode cX7_page 48 = .ok (.iload_n 3, 1) := by decide +kernel
theorem dX7_page_49 : decode cX7_page 49 = .ok (.ireturn, 1) := by decide +kernel
theorem dX7_page_50 : decode cX7_page 50 = .ok (.iconst 0, 1) := by decide +kernel
theorem dX7_page_51 : decode cX7_page 51 = .ok (.istore 4, 2) := by decide +kernel
theorem dX7_page_53 : decode cX7_page 53 = .ok (.bipush 16, 2) := by decide +kernel
theorem dX7_page_55 : decode cX7_page 55 = .ok (.iload_n 1, 1) := by decide +kernel
theorem dX7_page_56 : decode cX7_page 56 = .ok (.imul, 1) := by decide +kernel
theorem dX7_page_57 : decode cX7_page 57 = .ok (.istore 5, 2) := by decide +kernel
theorem dX7_page_59 : decode cX7_page 59 = .ok (.iload 5, 2) := by decide +kernel
theorem dX7_page_61 : decode cX7_page 61 = .ok (.bipush 16, 2) := by decide +kernel
theorem dX7_page_63 : decode cX7_page 63 = .ok (.iload_n 1, 1) := by decide +kernel
theorem dX7_page_64 : decode cX7_page 64 = .ok (.iconst 1, 1) := by decide +kernel
theorem dX7_page_65 : decode cX7_page 65 = .ok (.iadd, 1) := by decide +kernel
theorem dX7_page_66 : decode cX7_page 66 = .ok (.imul, 1) := by decide +kernel
theorem dX7_page_67 : decode cX7_page 67 = .ok (.if_icmp .ge 31, 3) := by decide +kernel
theorem dX7_page_70 : decode cX7_page 70 = .ok (.iload 4, 2) := by decide +kernel
theorem dX7_page_72 : decode cX7_page 72 = .ok (.aload_n 0, 1) := by decide +kernel
theorem dX7_page_73 : decode cX7_page 73 = .ok (.iload 5, 2) := by decide +kernel
theorem dX7_page_75 : decode cX7_page 75 = .ok (.invokevirtual 106, 3) := by decide +kernel
theorem dX7_page_78 : decode cX7_page 78 = .ok (.ifCond .ne 7, 3) := by decide +kernel
theorem dX7_page_81 : decode cX7_page 81 = .ok (.iconst 1, 1) := by decide +kernel
theorem dX7_page_82 : decode cX7_page 82 = .ok (.goto 4, 3) := by decide +kernel
theorem dX7_page_85 : decode cX7_page 85 = .ok (.iconst 0, 1) := by decide +kernel
theorem dX7_page_86 : decode cX7_page 86 = .ok (.iadd, 1) := by decide +kernel
theorem dX7_page_87 : decode cX7_page 87 = .ok (.istore 4, 2) := by decide +kernel
theorem dX7_page_89 : decode cX7_page 89 = .ok (.iload 5, 2) := by decide +kernel
theorem dX7_page_91 : decode cX7_page 91 = .ok (.iload_n 3, 1) := by decide +kernel
theorem dX7_page_92 : decode cX7_page 92 = .ok (.iadd, 1) := by decide +kernel
theorem dX7_page_93 : decode cX7_page 93 = .ok (.istore 5, 2) := by decide +kernel
theorem dX7_page_95 : decode cX7_page 95 = .ok (.goto (-36), 3) := by decide +kernel
theorem dX7_page_98 : decode cX7_page 98 = .ok (.iload_n 2, 1) := by decide +kernel
theorem dX7_page_99 : decode cX7_page 99 = .ok (.iconst 1, 1) := by decide +kernel
theorem dX7_page_100 : decode cX7_page 100 = .ok (.if_icmp .ne 8, 3) := by decide +kernel
theorem dX7_page_103 : decode cX7_page 103 = .ok (.iload 4, 2) := by decide +kernel
theorem dX7_page_105 : decode cX7_page 105 = .ok (.goto 10, 3) := by decide +kernel
theorem dX7_page_108 : decode cX7_page 108 = .ok (.bipush 16, 2) := by decide +kernel
theorem dX7_page_110 : decode cX7_page 110 = .ok (.iload_n 3, 1) := by decide +kernel
theorem dX7_page_111 : decode cX7_page 111 = .ok (.idiv, 1) := by decide +kernel
theorem dX7_page_112 : decode cX7_page 112 = .ok (.iload 4, 2) := by decide +kernel
theorem dX7_page_114 : decode cX7_page 114 = .ok (.isub, 1) := by decide +kernel
theorem dX7_page_115 : decode cX7_page 115 = .ok (.ireturn, 1) := by decide +kernel
theorem dX7_grey__0 : decode cX7_grey_ 0 = .ok (.aload_n 0, 1) := by decide +kernel
theorem dX7_grey__1 : decode cX7_grey_ 1 = .ok (.invokevirtual 175, 3) := by decide +kernel
theorem dX7_grey__4 : decode cX7_grey_ 4 = .ok (.aload_n 0, 1) := by decide +kernel
theorem dX7_grey__5 : decode cX7_grey_ 5 = .ok (.getfield 7, 3) := by decide +kernel
theorem dX7_grey__8 : decode cX7_grey_ 8 = .ok (.sipush 727, 3) := by decide +kernel
theorem dX7_grey__11 : decode cX7_grey_ 11 = .ok (.iaload, 1) := by decide +kernel
theorem dX7_grey__12 : decode cX7_grey_ 12 = .ok (.ifCond .ge 10, 3) := by decide +kernel
theorem dX7_grey__15 : decode cX7_grey_ 15 = .ok (.aload_n 0, 1) := by decide +kernel
theorem dX7_grey__16 : decode cX7_grey_ 16 = .ok (.invokevirtual 178, 3) := by decide +kernel
theorem dX7_grey__19 : decode cX7_grey_ 19 = .ok (.goto 11, 3) := by decide +kernel
theorem dX7_grey__22 : decode cX7_grey_ 22 = .ok (.aload_n 0, 1) := by decide +kernel
theorem dX7_grey__23 : decode cX7_grey_ 23 = .ok (.getfield 7, 3) := by decide +kernel
theorem dX7_grey__26 : decode cX7_grey_ 26 = .ok (.sipush 727, 3) := by decide +kernel
theorem dX7_grey__29 : decode cX7_grey_ 29 = .ok (.iaload, 1) := by decide +kernel
theorem dX7_grey__30 : decode cX7_grey_ 30 = .ok (.istore_n 2, 1) := by decide +kernel
theorem dX7_grey__31 : decode cX7_grey_ 31 = .ok (.iconst 0, 1) := by decide +kernel
theorem dX7_grey__32 : decode cX7_grey_ 32 = .ok (.istore_n 3, 1) := by decide +kernel
theorem dX7_grey__33 : decode cX7_grey_ 33 = .ok (.iload_n 3, 1) := by decide +kernel
theorem dX7_grey__34 : decode cX7_grey_ 34 = .ok (.iload_n 1, 1) := by decide +kernel
theorem dX7_grey__35 : decode cX7_grey_ 35 = .ok (.if_icmp .ge 25, 3) := by decide +kernel
theorem dX7_grey__38 : decode cX7_grey_ 38 = .ok (.iload_n 2, 1) := by decide +kernel
theorem dX7_grey__39 : decode cX7_grey_ 39 = .ok (.ifCond .lt 21, 3) := by decide +kernel
theorem dX7_grey__42 : decode cX7_grey_ 42 = .ok (.aload_n 0, 1) := by decide +kernel
theorem dX7_grey__43 : decode cX7_grey_ 43 = .ok (.getfield 13, 3) := by decide +kernel
theorem dX7_grey__46 : decode cX7_grey_ 46 = .ok (.iload_n 2, 1) := by decide +kernel
theorem dX7_grey__47 : decode cX7_grey_ 47 = .ok (.iconst 1, 1) := by decide +kernel
theorem dX7_grey__48 : decode cX7_grey_ 48 = .ok (.bastore, 1) := by decide +kernel
theorem dX7_grey__49 : decode cX7_grey_ 49 = .ok (.aload_n 0, 1) := by decide +kernel
theorem dX7_grey__50 : decode cX7_grey_ 50 = .ok (.invokevirtual 178, 3) := by decide +kernel
theorem dX7_grey__53 : decode cX7_grey_ 53 = .ok (.istore_n 2, 1) := by decide +kernel
theorem dX7_grey__54 : decode cX7_grey_ 54 = .ok (.iinc 3 1, 3) := by decide +kernel
theorem dX7_grey__57 : decode cX7_grey_ 57 = .ok (.goto (-24), 3) := by decide +kernel
theorem dX7_grey__60 : decode cX7_grey_ 60 = .ok (.iload_n 1, 1) := by decide +kernel
theorem dX7_grey__61 : decode cX7_grey_ 61 = .ok (.ifCond .ge 7, 3) := by decide +kernel
theorem dX7_grey__64 : decode cX7_grey_ 64 = .ok (.iconst (-1), 1) := by decide +kernel
theorem dX7_grey__65 : decode cX7_grey_ 65 = .ok (.goto 4, 3) := by decide +kernel
theorem dX7_grey__68 : decode cX7_grey_ 68 = .ok (.iload_n 2, 1) := by decide +kernel
theorem dX7_grey__69 : decode cX7_grey_ 69 = .ok (.ireturn, 1) := by decide +kernel
theorem dX7_law_0 : decode cX7_law 0 = .ok (.iload_n 1, 1) := by decide +kernel
theorem dX7_law_1 : decode cX7_law 1 = .ok (.iconst 0, 1) := by decide +kernel
theorem dX7_law_2 : decode cX7_law 2 = .ok (.iconst 1, 1) := by decide +kernel
theorem dX7_law_3 : decode cX7_law 3 = .ok (.invokestatic 94, 3) := by decide +kernel
theorem dX7_law_6 : decode cX7_law 6 = .ok (.ifCond .ne 5, 3) := by decide +kernel
theorem dX7_law_9 : decode cX7_law 9 = .ok (.iconst (-1), 1) := by decide +kernel
theorem dX7_law_10 : decode cX7_law 10 = .ok (.ireturn, 1) := by decide +kernel
theorem dX7_law_11 : decode cX7_law 11 = .ok (.iconst 0, 1) := by decide +kernel
theorem dX7_law_12 : decode cX7_law 12 = .ok (.istore_n 2, 1) := by decide +kernel
theorem dX7_law_13 : decode cX7_law 13 = .ok (.iconst 0, 1) := by decide +kernel
theorem dX7_law_14 : decode cX7_law 14 = .ok (.istore_n 3, 1) := by decide +kernel
theorem dX7_law_15 : decode cX7_law 15 = .ok (.iconst 0, 1) := by decide +kernel
theorem dX7_law_16 : decode cX7_law 16 = .ok (.istore 4, 2) := by decide +kernel
theorem dX7_law_18 : decode cX7_law 18 = .ok (.iload 4, 2) := by decide +kernel
theorem dX7_law_20 : decode cX7_law 20 = .ok (.bipush 6, 2) := by decide +kernel
theorem dX7_law_22 : decode cX7_law 22 = .ok (.if_icmp .ge 35, 3) := by decide +kernel
theorem dX7_law_25 : decode cX7_law 25 = .ok (.iload_n 3, 1) := by decide +kernel
theorem dX7_law_26 : decode cX7_law 26 = .ok (.aload_n 0, 1) := by decide +kernel
theorem dX7_law_27 : decode cX7_law 27 = .ok (.aload_n 0, 1) := by decide +kernel
theorem dX7_law_28 : decode cX7_law 28 = .ok (.getfield 7, 3) := by decide +kernel
end
section
theorem dX7_law_31 : decode cX7_law 31 = .ok (.sipush 715, 3) := by decide +kernel
theorem dX7_law_34 : decode cX7_law 34 = .ok (.iload 4, 2) := by decide +kernel
theorem dX7_law_36 : decode cX7_law 36 = .ok (.iadd, 1) := by decide +kernel
theorem dX7_law_37 : decode cX7_law 37 = .ok (.iaload, 1) := by decide +kernel
theorem dX7_law_38 : decode cX7_law 38 = .ok (.invokevirtual 277, 3) := by decide +kernel
theorem dX7_law_41 : decode cX7_law 41 = .ok (.ifCond .eq 7, 3) := by decide +kernel
theorem dX7_law_44 : decode cX7_law 44 = .ok (.iconst 1, 1) := by decide +kernel
theorem dX7_law_45 : decode cX7_law 45 = .ok (.goto 4, 3) := by decide +kernel
theorem dX7_law_48 : decode cX7_law 48 = .ok (.iconst 0, 1) := by decide +kernel
theorem dX7_law_49 : decode cX7_law 49 = .ok (.iadd, 1) := by decide +kernel
theorem dX7_law_50 : decode cX7_law 50 = .ok (.istore_n 3, 1) := by decide +kernel
theorem dX7_law_51 : decode cX7_law 51 = .ok (.iinc 4 1, 3) := by decide +kernel
theorem dX7_law_54 : decode cX7_law 54 = .ok (.goto (-36), 3) := by decide +kernel
theorem dX7_law_57 : decode cX7_law 57 = .ok (.iconst 0, 1) := by decide +kernel
theorem dX7_law_58 : decode cX7_law 58 = .ok (.istore 4, 2) := by decide +kernel
theorem dX7_law_60 : decode cX7_law 60 = .ok (.iload 4, 2) := by decide +kernel
theorem dX7_law_62 : decode cX7_law 62 = .ok (.sipush 128, 3) := by decide +kernel
theorem dX7_law_65 : decode cX7_law 65 = .ok (.if_icmp .ge 124, 3) := by decide +kernel
theorem dX7_law_68 : decode cX7_law 68 = .ok (.aload_n 0, 1) := by decide +kernel
theorem dX7_law_69 : decode cX7_law 69 = .ok (.iload 4, 2) := by decide +kernel
theorem dX7_law_71 : decode cX7_law 71 = .ok (.invokevirtual 109, 3) := by decide +kernel
theorem dX7_law_74 : decode cX7_law 74 = .ok (.ifCond .ne 6, 3) := by decide +kernel
theorem dX7_law_77 : decode cX7_law 77 = .ok (.goto 106, 3) := by decide +kernel
theorem dX7_law_80 : decode cX7_law 80 = .ok (.iconst 0, 1) := by decide +kernel
theorem dX7_law_81 : decode cX7_law 81 = .ok (.istore 5, 2) := by decide +kernel
theorem dX7_law_83 : decode cX7_law 83 = .ok (.iconst 0, 1) := by decide +kernel
theorem dX7_law_84 : decode cX7_law 84 = .ok (.istore 6, 2) := by decide +kernel
theorem dX7_law_86 : decode cX7_law 86 = .ok (.iload 6, 2) := by decide +kernel
theorem dX7_law_88 : decode cX7_law 88 = .ok (.aload_n 0, 1) := by decide +kernel
theorem dX7_law_89 : decode cX7_law 89 = .ok (.getfield 7, 3) := by decide +kernel
theorem dX7_law_92 : decode cX7_law 92 = .ok (.sipush 128, 3) := by decide +kernel
theorem dX7_law_95 : decode cX7_law 95 = .ok (.iload 4, 2) := by decide +kernel
theorem dX7_law_97 : decode cX7_law 97 = .ok (.iadd, 1) := by decide +kernel
theorem dX7_law_98 : decode cX7_law 98 = .ok (.iaload, 1) := by decide +kernel
theorem dX7_law_99 : decode cX7_law 99 = .ok (.if_icmp .ge 71, 3) := by decide +kernel
theorem dX7_law_102 : decode cX7_law 102 = .ok (.aload_n 0, 1) := by decide +kernel
theorem dX7_law_103 : decode cX7_law 103 = .ok (.getfield 7, 3) := by decide +kernel
theorem dX7_law_106 : decode cX7_law 106 = .ok (.iload 4, 2) := by decide +kernel
theorem dX7_law_108 : decode cX7_law 108 = .ok (.iload 6, 2) := by decide +kernel
theorem dX7_law_110 : decode cX7_law 110 = .ok (.invokestatic 161, 3) := by decide +kernel
theorem dX7_law_113 : decode cX7_law 113 = .ok (.iaload, 1) := by decide +kernel
theorem dX7_law_114 : decode cX7_law 114 = .ok (.istore 7, 2) := by decide +kernel
theorem dX7_law_116 : decode cX7_law 116 = .ok (.iload 5, 2) := by decide +kernel
theorem dX7_law_118 : decode cX7_law 118 = .ok (.ifCond .ne 22, 3) := by decide +kernel
theorem dX7_law_121 : decode cX7_law 121 = .ok (.aload_n 0, 1) := by decide +kernel
theorem dX7_law_122 : decode cX7_law 122 = .ok (.iload 4, 2) := by decide +kernel
theorem dX7_law_124 : decode cX7_law 124 = .ok (.invokevirtual 106, 3) := by decide +kernel
theorem dX7_law_127 : decode cX7_law 127 = .ok (.iconst 3, 1) := by decide +kernel
theorem dX7_law_128 : decode cX7_law 128 = .ok (.if_icmp .ne 16, 3) := by decide +kernel
theorem dX7_law_131 : decode cX7_law 131 = .ok (.aload_n 0, 1) := by decide +kernel
theorem dX7_law_132 : decode cX7_law 132 = .ok (.iload 7, 2) := by decide +kernel
theorem dX7_law_134 : decode cX7_law 134 = .ok (.invokevirtual 158, 3) := by decide +kernel
theorem dX7_law_137 : decode cX7_law 137 = .ok (.ifCond .eq 7, 3) := by decide +kernel
theorem dX7_law_140 : decode cX7_law 140 = .ok (.iconst 1, 1) := by decide +kernel
theorem dX7_law_141 : decode cX7_law 141 = .ok (.goto 4, 3) := by decide +kernel
theorem dX7_law_144 : decode cX7_law 144 = .ok (.iconst 0, 1) := by decide +kernel
theorem dX7_law_145 : decode cX7_law 145 = .ok (.istore 5, 2) := by decide +kernel
theorem dX7_law_147 : decode cX7_law 147 = .ok (.iload_n 3, 1) := by decide +kernel
theorem dX7_law_148 : decode cX7_law 148 = .ok (.aload_n 0, 1) := by decide +kernel
theorem dX7_law_149 : decode cX7_law 149 = .ok (.iload 7, 2) := by decide +kernel
theorem dX7_law_151 : decode cX7_law 151 = .ok (.invokevirtual 277, 3) := by decide +kernel
theorem dX7_law_154 : decode cX7_law 154 = .ok (.ifCond .eq 7, 3) := by decide +kernel
theorem dX7_law_157 : decode cX7_law 157 = .ok (.iconst 1, 1) := by decide +kernel
theorem dX7_law_158 : decode cX7_law 158 = .ok (.goto 4, 3) := by decide +kernel
theorem dX7_law_161 : decode cX7_law 161 = .ok (.iconst 0, 1) := by decide +kernel
theorem dX7_law_162 : decode cX7_law 162 = .ok (.iadd, 1) := by decide +kernel
theorem dX7_law_163 : decode cX7_law 163 = .ok (.istore_n 3, 1) := by decide +kernel
theorem dX7_law_164 : decode cX7_law 164 = .ok (.iinc 6 1, 3) := by decide +kernel
theorem dX7_law_167 : decode cX7_law 167 = .ok (.goto (-81), 3) := by decide +kernel
theorem dX7_law_170 : decode cX7_law 170 = .ok (.iload_n 2, 1) := by decide +kernel
theorem dX7_law_171 : decode cX7_law 171 = .ok (.iload 5, 2) := by decide +kernel
theorem dX7_law_173 : decode cX7_law 173 = .ok (.ifCond .eq 7, 3) := by decide +kernel
theorem dX7_law_176 : decode cX7_law 176 = .ok (.iconst 1, 1) := by decide +kernel
theorem dX7_law_177 : decode cX7_law 177 = .ok (.goto 4, 3) := by decide +kernel
theorem dX7_law_180 : decode cX7_law 180 = .ok (.iconst 0, 1) := by decide +kernel
theorem dX7_law_181 : decode cX7_law 181 = .ok (.iadd, 1) := by decide +kernel
theorem dX7_law_182 : decode cX7_law 182 = .ok (.istore_n 2, 1) := by decide +kernel
theorem dX7_law_183 : decode cX7_law 183 = .ok (.iinc 4 1, 3) := by decide +kernel
theorem dX7_law_186 : decode cX7_law 186 = .ok (.goto (-126), 3) := by decide +kernel
theorem dX7_law_189 : decode cX7_law 189 = .ok (.iload_n 1, 1) := by decide +kernel
theorem dX7_law_190 : decode cX7_law 190 = .ok (.ifCond .ne 7, 3) := by decide +kernel
theorem dX7_law_193 : decode cX7_law 193 = .ok (.iload_n 2, 1) := by decide +kernel
theorem dX7_law_194 : decode cX7_law 194 = .ok (.goto 4, 3) := by decide +kernel
theorem dX7_law_197 : decode cX7_law 197 = .ok (.iload_n 3, 1) := by decide +kernel
theorem dX7_law_198 : decode cX7_law 198 = .ok (.ireturn, 1) := by decide +kernel
theorem dX7_isFreed_0 : decode cX7_isFreed 0 = .ok (.iload_n 1, 1) := by decide +kernel
theorem dX7_isFreed_1 : decode cX7_isFreed 1 = .ok (.ifCond .lt 15, 3) := by decide +kernel
theorem dX7_isFreed_4 : decode cX7_isFreed 4 = .ok (.aload_n 0, 1) := by decide +kernel
theorem dX7_isFreed_5 : decode cX7_isFreed 5 = .ok (.iload_n 1, 1) := by decide +kernel
theorem dX7_isFreed_6 : decode cX7_isFreed 6 = .ok (.invokevirtual 109, 3) := by decide +kernel
theorem dX7_isFreed_9 : decode cX7_isFreed 9 = .ok (.ifCond .ne 7, 3) := by decide +kernel
theorem dX7_isFreed_12 : decode cX7_isFreed 12 = .ok (.iconst 1, 1) := by decide +kernel
theorem dX7_isFreed_13 : decode cX7_isFreed 13 = .ok (.goto 4, 3) := by decide +kernel
theorem dX7_isFreed_16 : decode cX7_isFreed 16 = .ok (.iconst 0, 1) := by decide +kernel
theorem dX7_isFreed_17 : decode cX7_isFreed 17 = .ok (.ireturn, 1) := by decide +kernel
theorem dX7_putAside_0 : decode cX7_putAside 0 = .ok (.iconst 0, 1) := by decide +kernel
theorem dX7_putAside_1 : decode cX7_putAside 1 = .ok (.istore_n 1, 1) := by decide +kernel
theorem dX7_putAside_2 : decode cX7_putAside 2 = .ok (.iload_n 1, 1) := by decide +kernel
theorem dX7_putAside_3 : decode cX7_putAside 3 = .ok (.sipush 790, 3) := by decide +kernel
theorem dX7_putAside_6 : decode cX7_putAside 6 = .ok (.if_icmp .ge 21, 3) := by decide +kernel
theorem dX7_putAside_9 : decode cX7_putAside 9 = .ok (.aload_n 0, 1) := by decide +kernel
theorem dX7_putAside_10 : decode cX7_putAside 10 = .ok (.getfield 26, 3) := by decide +kernel
theorem dX7_putAside_13 : decode cX7_putAside 13 = .ok (.iload_n 1, 1) := by decide +kernel
theorem dX7_putAside_14 : decode cX7_putAside 14 = .ok (.aload_n 0, 1) := by decide +kernel
theorem dX7_putAside_15 : decode cX7_putAside 15 = .ok (.getfield 7, 3) := by decide +kernel
theorem dX7_putAside_18 : decode cX7_putAside 18 = .ok (.iload_n 1, 1) := by decide +kernel
theorem dX7_putAside_19 : decode cX7_putAside 19 = .ok (.iaload, 1) := by decide +kernel
theorem dX7_putAside_20 : decode cX7_putAside 20 = .ok (.iastore, 1) := by decide +kernel
theorem dX7_putAside_21 : decode cX7_putAside 21 = .ok (.iinc 1 1, 3) := by decide +kernel
theorem dX7_putAside_24 : decode cX7_putAside 24 = .ok (.goto (-22), 3) := by decide +kernel
theorem dX7_putAside_27 : decode cX7_putAside 27 = .ok (.return_, 1) := by decide +kernel
theorem dX7_bringBack_0 : decode cX7_bringBack 0 = .ok (.iconst 0, 1) := by decide +kernel
theorem dX7_bringBack_1 : decode cX7_bringBack 1 = .ok (.istore_n 1, 1) := by decide +kernel
theorem dX7_bringBack_2 : decode cX7_bringBack 2 = .ok (.iload_n 1, 1) := by decide +kernel
theorem dX7_bringBack_3 : decode cX7_bringBack 3 = .ok (.sipush 790, 3) := by decide +kernel
theorem dX7_bringBack_6 : decode cX7_bringBack 6 = .ok (.if_icmp .ge 21, 3) := by decide +kernel
theorem dX7_bringBack_9 : decode cX7_bringBack 9 = .ok (.aload_n 0, 1) := by decide +kernel
theorem dX7_bringBack_10 : decode cX7_bringBack 10 = .ok (.getfield 7, 3) := by decide +kernel
theorem dX7_bringBack_13 : decode cX7_bringBack 13 = .ok (.iload_n 1, 1) := by decide +kernel
theorem dX7_bringBack_14 : decode cX7_bringBack 14 = .ok (.aload_n 0, 1) := by decide +kernel
theorem dX7_bringBack_15 : decode cX7_bringBack 15 = .ok (.getfield 26, 3) := by decide +kernel
theorem dX7_bringBack_18 : decode cX7_bringBack 18 = .ok (.iload_n 1, 1) := by decide +kernel
theorem dX7_bringBack_19 : decode cX7_bringBack 19 = .ok (.iaload, 1) := by decide +kernel
theorem dX7_bringBack_20 : decode cX7_bringBack 20 = .ok (.iastore, 1) := by decide +kernel
theorem dX7_bringBack_21 : decode cX7_bringBack 21 = .ok (.iinc 1 1, 3) := by decide +kernel
theorem dX7_bringBack_24 : decode cX7_bringBack 24 = .ok (.goto (-22), 3) := by decide +kernel
theorem dX7_bringBack_27 : decode cX7_bringBack 27 = .ok (.return_, 1) := by decide +kernel
theorem dX7_putBase_0 : decode cX7_putBase 0 = .ok (.iconst 0, 1) := by decide +kernel
theorem dX7_putBase_1 : decode cX7_putBase 1 = .ok (.istore_n 1, 1) := by decide +kernel
theorem dX7_putBase_2 : decode cX7_putBase 2 = .ok (.iload_n 1, 1) := by decide +kernel
theorem dX7_putBase_3 : decode cX7_putBase 3 = .ok (.sipush 790, 3) := by decide +kernel
theorem dX7_putBase_6 : decode cX7_putBase 6 = .ok (.if_icmp .ge 21, 3) := by decide +kernel
theorem dX7_putBase_9 : decode cX7_putBase 9 = .ok (.aload_n 0, 1) := by decide +kernel
theorem dX7_putBase_10 : decode cX7_putBase 10 = .ok (.getfield 29, 3) := by decide +kernel
theorem dX7_putBase_13 : decode cX7_putBase 13 = .ok (.iload_n 1, 1) := by decide +kernel
theorem dX7_putBase_14 : decode cX7_putBase 14 = .ok (.aload_n 0, 1) := by decide +kernel
theorem dX7_putBase_15 : decode cX7_putBase 15 = .ok (.getfield 7, 3) := by decide +kernel
theorem dX7_putBase_18 : decode cX7_putBase 18 = .ok (.iload_n 1, 1) := by decide +kernel
theorem dX7_putBase_19 : decode cX7_putBase 19 = .ok (.iaload, 1) := by decide +kernel
theorem dX7_putBase_20 : decode cX7_putBase 20 = .ok (.iastore, 1) := by decide +kernel
theorem dX7_putBase_21 : decode cX7_putBase 21 = .ok (.iinc 1 1, 3) := by decide +kernel
theorem dX7_putBase_24 : decode cX7_putBase 24 = .ok (.goto (-22), 3) := by decide +kernel
theorem dX7_putBase_27 : decode cX7_putBase 27 = .ok (.return_, 1) := by decide +kernel
theorem dX7_since_0 : decode cX7_since 0 = .ok (.aload_n 0, 1) := by decide +kernel
theorem dX7_since_1 : decode cX7_since 1 = .ok (.getfield 7, 3) := by decide +kernel
theorem dX7_since_4 : decode cX7_since 4 = .ok (.iload_n 1, 1) := by decide +kernel
theorem dX7_since_5 : decode cX7_since 5 = .ok (.iaload, 1) := by decide +kernel
theorem dX7_since_6 : decode cX7_since 6 = .ok (.aload_n 0, 1) := by decide +kernel
theorem dX7_since_7 : decode cX7_since 7 = .ok (.getfield 29, 3) := by decide +kernel
theorem dX7_since_10 : decode cX7_since 10 = .ok (.iload_n 1, 1) := by decide +kernel
theorem dX7_since_11 : decode cX7_since 11 = .ok (.iaload, 1) := by decide +kernel
theorem dX7_since_12 : decode cX7_since 12 = .ok (.isub, 1) := by decide +kernel
theorem dX7_since_13 : decode cX7_since 13 = .ok (.ireturn, 1) := by decide +kernel
theorem dX7_cellsFree_0 : decode cX7_cellsFree 0 = .ok (.iconst 0, 1) := by decide +kernel
theorem dX7_cellsFree_1 : decode cX7_cellsFree 1 = .ok (.istore_n 1, 1) := by decide +kernel
theorem dX7_cellsFree_2 : decode cX7_cellsFree 2 = .ok (.iconst 0, 1) := by decide +kernel
theorem dX7_cellsFree_3 : decode cX7_cellsFree 3 = .ok (.istore_n 2, 1) := by decide +kernel
theorem dX7_cellsFree_4 : decode cX7_cellsFree 4 = .ok (.iload_n 2, 1) := by decide +kernel
theorem dX7_cellsFree_5 : decode cX7_cellsFree 5 = .ok (.iconst 3, 1) := by decide +kernel
theorem dX7_cellsFree_6 : decode cX7_cellsFree 6 = .ok (.if_icmp .ge 23, 3) := by decide +kernel
theorem dX7_cellsFree_9 : decode cX7_cellsFree 9 = .ok (.iload_n 1, 1) := by decide +kernel
theorem dX7_cellsFree_10 : decode cX7_cellsFree 10 = .ok (.iload_n 2, 1) := by decide +kernel
theorem dX7_cellsFree_11 : decode cX7_cellsFree 11 = .ok (.invokestatic 280, 3) := by decide +kernel
theorem dX7_cellsFree_14 : decode cX7_cellsFree 14 = .ok (.aload_n 0, 1) := by decide +kernel
theorem dX7_cellsFree_15 : decode cX7_cellsFree 15 = .ok (.iload_n 2, 1) := by decide +kernel
theorem dX7_cellsFree_16 : decode cX7_cellsFree 16 = .ok (.iconst 0, 1) := by decide +kernel
theorem dX7_cellsFree_17 : decode cX7_cellsFree 17 = .ok (.invokevirtual 119, 3) := by decide +kernel
theorem dX7_cellsFree_20 : decode cX7_cellsFree 20 = .ok (.imul, 1) := by decide +kernel
theorem dX7_cellsFree_21 : decode cX7_cellsFree 21 = .ok (.iadd, 1) := by decide +kernel
theorem dX7_cellsFree_22 : decode cX7_cellsFree 22 = .ok (.istore_n 1, 1) := by decide +kernel
theorem dX7_cellsFree_23 : decode cX7_cellsFree 23 = .ok (.iinc 2 1, 3) := by decide +kernel
theorem dX7_cellsFree_26 : decode cX7_cellsFree 26 = .ok (.goto (-22), 3) := by decide +kernel
theorem dX7_cellsFree_29 : decode cX7_cellsFree 29 = .ok (.iload_n 1, 1) := by decide +kernel
theorem dX7_cellsFree_30 : decode cX7_cellsFree 30 = .ok (.ireturn, 1) := by decide +kernel
theorem dX7_end_0 : decode cX7_end 0 = .ok (.iload_n 1, 1) := by decide +kernel
theorem dX7_end_1 : decode cX7_end 1 = .ok (.iconst 0, 1) := by decide +kernel
theorem dX7_end_2 : decode cX7_end 2 = .ok (.iconst 3, 1) := by decide +kernel
theorem dX7_end_3 : decode cX7_end 3 = .ok (.invokestatic 94, 3) := by decide +kernel
theorem dX7_end_6 : decode cX7_end 6 = .ok (.ifCond .ne 5, 3) := by decide +kernel
theorem dX7_end_9 : decode cX7_end 9 = .ok (.iconst (-1), 1) := by decide +kernel
theorem dX7_end_10 : decode cX7_end 10 = .ok (.ireturn, 1) := by decide +kernel
theorem dX7_end_11 : decode cX7_end 11 = .ok (.aload_n 0, 1) := by decide +kernel
theorem dX7_end_12 : decode cX7_end 12 = .ok (.invokevirtual 283, 3) := by decide +kernel
theorem dX7_end_15 : decode cX7_end 15 = .ok (.aload_n 0, 1) := by decide +kernel
theorem dX7_end_16 : decode cX7_end 16 = .ok (.invokevirtual 164, 3) := by decide +kernel
theorem dX7_end_19 : decode cX7_end 19 = .ok (.istore_n 2, 1) := by decide +kernel
theorem dX7_end_20 : decode cX7_end 20 = .ok (.aload_n 0, 1) := by decide +kernel
theorem dX7_end_21 : decode cX7_end 21 = .ok (.invokevirtual 286, 3) := by decide +kernel
theorem dX7_end_24 : decode cX7_end 24 = .ok (.istore_n 3, 1) := by decide +kernel
theorem dX7_end_25 : decode cX7_end 25 = .ok (.aload_n 0, 1) := by decide +kernel
theorem dX7_end_26 : decode cX7_end 26 = .ok (.invokevirtual 181, 3) := by decide +kernel
theorem dX7_end_29 : decode cX7_end 29 = .ok (.ifCond .ne 7, 3) := by decide +kernel
theorem dX7_end_32 : decode cX7_end 32 = .ok (.aload_n 0, 1) := by decide +kernel
theorem dX7_end_33 : decode cX7_end 33 = .ok (.invokevirtual 207, 3) := by decide +kernel
theorem dX7_end_36 : decode cX7_end 36 = .ok (.aload_n 0, 1) := by decide +kernel
theorem dX7_end_37 : decode cX7_end 37 = .ok (.ldc 188, 2) := by decide +kernel
theorem dX7_end_39 : decode cX7_end 39 = .ok (.invokevirtual 189, 3) := by decide +kernel
theorem dX7_end_42 : decode cX7_end 42 = .ok (.istore 4, 2) := by decide +kernel
theorem dX7_end_44 : decode cX7_end 44 = .ok (.iload_n 2, 1) := by decide +kernel
theorem dX7_end_45 : decode cX7_end 45 = .ok (.aload_n 0, 1) := by decide +kernel
theorem dX7_end_46 : decode cX7_end 46 = .ok (.invokevirtual 164, 3) := by decide +kernel
theorem dX7_end_49 : decode cX7_end 49 = .ok (.isub, 1) := by decide +kernel
theorem dX7_end_50 : decode cX7_end 50 = .ok (.istore 5, 2) := by decide +kernel
theorem dX7_end_52 : decode cX7_end 52 = .ok (.aload_n 0, 1) := by decide +kernel
theorem dX7_end_53 : decode cX7_end 53 = .ok (.invokevirtual 286, 3) := by decide +kernel
theorem dX7_end_56 : decode cX7_end 56 = .ok (.iload_n 3, 1) := by decide +kernel
theorem dX7_end_57 : decode cX7_end 57 = .ok (.isub, 1) := by decide +kernel
theorem dX7_end_58 : decode cX7_end 58 = .ok (.istore 6, 2) := by decide +kernel
theorem dX7_end_60 : decode cX7_end 60 = .ok (.aload_n 0, 1) := by decide +kernel
theorem dX7_end_61 : decode cX7_end 61 = .ok (.getfield 7, 3) := by decide +kernel
theorem dX7_end_64 : decode cX7_end 64 = .ok (.sipush 732, 3) := by decide +kernel
theorem dX7_end_67 : decode cX7_end 67 = .ok (.iaload, 1) := by decide +kernel
theorem dX7_end_68 : decode cX7_end 68 = .ok (.aload_n 0, 1) := by decide +kernel
theorem dX7_end_69 : decode cX7_end 69 = .ok (.getfield 26, 3) := by decide +kernel
theorem dX7_end_72 : decode cX7_end 72 = .ok (.sipush 732, 3) := by decide +kernel
theorem dX7_end_75 : decode cX7_end 75 = .ok (.iaload, 1) := by decide +kernel
theorem dX7_end_76 : decode cX7_end 76 = .ok (.isub, 1) := by decide +kernel
theorem dX7_end_77 : decode cX7_end 77 = .ok (.istore 7, 2) := by decide +kernel
theorem dX7_end_79 : decode cX7_end 79 = .ok (.aload_n 0, 1) := by decide +kernel
theorem dX7_end_80 : decode cX7_end 80 = .ok (.invokevirtual 289, 3) := by decide +kernel
theorem dX7_end_83 : decode cX7_end 83 = .ok (.iload_n 1, 1) := by decide +kernel
theorem dX7_end_84 : decode cX7_end 84 = .ok (.ifCond .ne 8, 3) := by decide +kernel
theorem dX7_end_87 : decode cX7_end 87 = .ok (.iload 4, 2) := by decide +kernel
theorem dX7_end_89 : decode cX7_end 89 = .ok (.goto 25, 3) := by decide +kernel
theorem dX7_end_92 : decode cX7_end 92 = .ok (.iload_n 1, 1) := by decide +kernel
theorem dX7_end_93 : decode cX7_end 93 = .ok (.iconst 1, 1) := by decide +kernel
theorem dX7_end_94 : decode cX7_end 94 = .ok (.if_icmp .ne 8, 3) := by decide +kernel
theorem dX7_end_97 : decode cX7_end 97 = .ok (.iload 5, 2) := by decide +kernel
theorem dX7_end_99 : decode cX7_end 99 = .ok (.goto 15, 3) := by decide +kernel
theorem dX7_end_102 : decode cX7_end 102 = .ok (.iload_n 1, 1) := by decide +kernel
theorem dX7_end_103 : decode cX7_end 103 = .ok (.iconst 2, 1) := by decide +kernel
theorem dX7_end_104 : decode cX7_end 104 = .ok (.if_icmp .ne 8, 3) := by decide +kernel
theorem dX7_end_107 : decode cX7_end 107 = .ok (.iload 6, 2) := by decide +kernel
theorem dX7_end_109 : decode cX7_end 109 = .ok (.goto 5, 3) := by decide +kernel
theorem dX7_end_112 : decode cX7_end 112 = .ok (.iload 7, 2) := by decide +kernel
theorem dX7_end_114 : decode cX7_end 114 = .ok (.ireturn, 1) := by decide +kernel
theorem dX7_madeUpTo_0 : decode cX7_madeUpTo 0 = .ok (.aload_n 0, 1) := by decide +kernel
theorem dX7_madeUpTo_1 : decode cX7_madeUpTo 1 = .ok (.invokevirtual 292, 3) := by decide +kernel
theorem dX7_madeUpTo_4 : decode cX7_madeUpTo 4 = .ok (.iconst 0, 1) := by decide +kernel
theorem dX7_madeUpTo_5 : decode cX7_madeUpTo 5 = .ok (.istore 4, 2) := by decide +kernel
theorem dX7_madeUpTo_7 : decode cX7_madeUpTo 7 = .ok (.iload 4, 2) := by decide +kernel
theorem dX7_madeUpTo_9 : decode cX7_madeUpTo 9 = .ok (.iload_n 1, 1) := by decide +kernel
theorem dX7_madeUpTo_10 : decode cX7_madeUpTo 10 = .ok (.if_icmp .ge 38, 3) := by decide +kernel
theorem dX7_madeUpTo_13 : decode cX7_madeUpTo 13 = .ok (.aload_n 0, 1) := by decide +kernel
theorem dX7_madeUpTo_14 : decode cX7_madeUpTo 14 = .ok (.iconst 0, 1) := by decide +kernel
theorem dX7_madeUpTo_15 : decode cX7_madeUpTo 15 = .ok (.iload_n 2, 1) := by decide +kernel
theorem dX7_madeUpTo_16 : decode cX7_madeUpTo 16 = .ok (.invokevirtual 222, 3) := by decide +kernel
theorem dX7_madeUpTo_19 : decode cX7_madeUpTo 19 = .ok (.ifCond .ge 6, 3) := by decide +kernel
theorem dX7_madeUpTo_22 : decode cX7_madeUpTo 22 = .ok (.iload 4, 2) := by decide +kernel
theorem dX7_madeUpTo_24 : decode cX7_madeUpTo 24 = .ok (.ireturn, 1) := by decide +kernel
theorem dX7_madeUpTo_25 : decode cX7_madeUpTo 25 = .ok (.iload_n 3, 1) := by decide +kernel
theorem dX7_madeUpTo_26 : decode cX7_madeUpTo 26 = .ok (.ifCond .ne 16, 3) := by decide +kernel
theorem dX7_madeUpTo_29 : decode cX7_madeUpTo 29 = .ok (.aload_n 0, 1) := by decide +kernel
theorem dX7_madeUpTo_30 : decode cX7_madeUpTo 30 = .ok (.sipush 731, 3) := by decide +kernel
theorem dX7_madeUpTo_33 : decode cX7_madeUpTo 33 = .ok (.invokevirtual 295, 3) := by decide +kernel
theorem dX7_madeUpTo_36 : decode cX7_madeUpTo 36 = .ok (.ifCond .le 6, 3) := by decide +kernel
theorem dX7_madeUpTo_39 : decode cX7_madeUpTo 39 = .ok (.iload 4, 2) := by decide +kernel
theorem dX7_madeUpTo_41 : decode cX7_madeUpTo 41 = .ok (.ireturn, 1) := by decide +kernel
theorem dX7_madeUpTo_42 : decode cX7_madeUpTo 42 = .ok (.iinc 4 1, 3) := by decide +kernel
theorem dX7_madeUpTo_45 : decode cX7_madeUpTo 45 = .ok (.goto (-38), 3) := by decide +kernel
theorem dX7_madeUpTo_48 : decode cX7_madeUpTo 48 = .ok (.iload_n 1, 1) := by decide +kernel
theorem dX7_madeUpTo_49 : decode cX7_madeUpTo 49 = .ok (.ireturn, 1) := by decide +kernel
theorem dX7_room_0 : decode cX7_room 0 = .ok (.iload_n 1, 1) := by decide +kernel
theorem dX7_room_1 : decode cX7_room 1 = .ok (.iconst 0, 1) := by decide +kernel
theorem dX7_room_2 : decode cX7_room 2 = .ok (.bipush 7, 2) := by decide +kernel
theorem dX7_room_4 : decode cX7_room 4 = .ok (.invokestatic 94, 3) := by decide +kernel
theorem dX7_room_7 : decode cX7_room 7 = .ok (.ifCond .eq 12, 3) := by decide +kernel
theorem dX7_room_10 : decode cX7_room 10 = .ok (.iload_n 2, 1) := by decide +kernel
theorem dX7_room_11 : decode cX7_room 11 = .ok (.iconst 0, 1) := by decide +kernel
theorem dX7_room_12 : decode cX7_room 12 = .ok (.iconst 1, 1) := by decide +kernel
theorem dX7_room_13 : decode cX7_room 13 = .ok (.invokestatic 94, 3) := by decide +kernel
theorem dX7_room_16 : decode cX7_room 16 = .ok (.ifCond .ne 5, 3) := by decide +kernel
theorem dX7_room_19 : decode cX7_room 19 = .ok (.iconst (-1), 1) := by decide +kernel
theorem dX7_room_20 : decode cX7_room 20 = .ok (.ireturn, 1) := by decide +kernel
theorem dX7_room_21 : decode cX7_room 21 = .ok (.aload_n 0, 1) := by decide +kernel
theorem dX7_room_22 : decode cX7_room 22 = .ok (.invokevirtual 283, 3) := by decide +kernel
theorem dX7_room_25 : decode cX7_room 25 = .ok (.aload_n 0, 1) := by decide +kernel
theorem dX7_room_26 : decode cX7_room 26 = .ok (.bipush 64, 2) := by decide +kernel
theorem dX7_room_28 : decode cX7_room 28 = .ok (.iload_n 1, 1) := by decide +kernel
theorem dX7_room_29 : decode cX7_room 29 = .ok (.iload_n 2, 1) := by decide +kernel
theorem dX7_room_30 : decode cX7_room 30 = .ok (.iconst 1, 1) := by decide +kernel
theorem dX7_room_31 : decode cX7_room 31 = .ok (.if_icmp .ne 7, 3) := by decide +kernel
theorem dX7_room_34 : decode cX7_room 34 = .ok (.iconst 1, 1) := by decide +kernel
theorem dX7_room_35 : decode cX7_room 35 = .ok (.goto 4, 3) := by decide +kernel
theorem dX7_room_38 : decode cX7_room 38 = .ok (.iconst 0, 1) := by decide +kernel
theorem dX7_room_39 : decode cX7_room 39 = .ok (.invokevirtual 298, 3) := by decide +kernel
theorem dX7_room_42 : decode cX7_room 42 = .ok (.istore_n 3, 1) := by decide +kernel
theorem dX7_room_43 : decode cX7_room 43 = .ok (.aload_n 0, 1) := by decide +kernel
theorem dX7_room_44 : decode cX7_room 44 = .ok (.invokevirtual 289, 3) := by decide +kernel
theorem dX7_room_47 : decode cX7_room 47 = .ok (.iload_n 3, 1) := by decide +kernel
theorem dX7_room_48 : decode cX7_room 48 = .ok (.ireturn, 1) := by decide +kernel
theorem dX7_pace_0 : decode cX7_pace 0 = .ok (.iload_n 1, 1) := by decide +kernel
theorem dX7_pace_1 : decode cX7_pace 1 = .ok (.iconst 0, 1) := by decide +kernel
theorem dX7_pace_2 : decode cX7_pace 2 = .ok (.bipush 7, 2) := by decide +kernel
theorem dX7_pace_4 : decode cX7_pace 4 = .ok (.invokestatic 94, 3) := by decide +kernel
theorem dX7_pace_7 : decode cX7_pace 7 = .ok (.ifCond .eq 13, 3) := by decide +kernel
theorem dX7_pace_10 : decode cX7_pace 10 = .ok (.iload_n 2, 1) := by decide +kernel
theorem dX7_pace_11 : decode cX7_pace 11 = .ok (.iconst 1, 1) := by decide +kernel
theorem dX7_pace_12 : decode cX7_pace 12 = .ok (.bipush 64, 2) := by decide +kernel
theorem dX7_pace_14 : decode cX7_pace 14 = .ok (.invokestatic 94, 3) := by decide +kernel
theorem dX7_pace_17 : decode cX7_pace 17 = .ok (.ifCond .ne 5, 3) := by decide +kernel
theorem dX7_pace_20 : decode cX7_pace 20 = .ok (.iconst (-1), 1) := by decide +kernel
theorem dX7_pace_21 : decode cX7_pace 21 = .ok (.ireturn, 1) := by decide +kernel
theorem dX7_pace_22 : decode cX7_pace 22 = .ok (.aload_n 0, 1) := by decide +kernel
theorem dX7_pace_23 : decode cX7_pace 23 = .ok (.invokevirtual 283, 3) := by decide +kernel
theorem dX7_pace_26 : decode cX7_pace 26 = .ok (.iconst (-1), 1) := by decide +kernel
theorem dX7_pace_27 : decode cX7_pace 27 = .ok (.istore_n 3, 1) := by decide +kernel
theorem dX7_pace_28 : decode cX7_pace 28 = .ok (.iconst 0, 1) := by decide +kernel
theorem dX7_pace_29 : decode cX7_pace 29 = .ok (.istore 4, 2) := by decide +kernel
theorem dX7_pace_31 : decode cX7_pace 31 = .ok (.iload 4, 2) := by decide +kernel
theorem dX7_pace_33 : decode cX7_pace 33 = .ok (.bipush 16, 2) := by decide +kernel
theorem dX7_pace_35 : decode cX7_pace 35 = .ok (.if_icmp .gt 41, 3) := by decide +kernel
theorem dX7_pace_38 : decode cX7_pace 38 = .ok (.iload_n 3, 1) := by decide +kernel
theorem dX7_pace_39 : decode cX7_pace 39 = .ok (.ifCond .ge 37, 3) := by decide +kernel
theorem dX7_pace_42 : decode cX7_pace 42 = .ok (.aload_n 0, 1) := by decide +kernel
theorem dX7_pace_43 : decode cX7_pace 43 = .ok (.getfield 7, 3) := by decide +kernel
theorem dX7_pace_46 : decode cX7_pace 46 = .ok (.sipush 737, 3) := by decide +kernel
theorem dX7_pace_49 : decode cX7_pace 49 = .ok (.iload 4, 2) := by decide +kernel
theorem dX7_pace_51 : decode cX7_pace 51 = .ok (.iastore, 1) := by decide +kernel
theorem dX7_pace_52 : decode cX7_pace 52 = .ok (.aload_n 0, 1) := by decide +kernel
theorem dX7_pace_53 : decode cX7_pace 53 = .ok (.iload_n 2, 1) := by decide +kernel
theorem dX7_pace_54 : decode cX7_pace 54 = .ok (.iload_n 1, 1) := by decide +kernel
theorem dX7_pace_55 : decode cX7_pace 55 = .ok (.iconst 0, 1) := by decide +kernel
theorem dX7_pace_56 : decode cX7_pace 56 = .ok (.invokevirtual 298, 3) := by decide +kernel
theorem dX7_pace_59 : decode cX7_pace 59 = .ok (.iload_n 2, 1) := by decide +kernel
theorem dX7_pace_60 : decode cX7_pace 60 = .ok (.if_icmp .ne 6, 3) := by decide +kernel
theorem dX7_pace_63 : decode cX7_pace 63 = .ok (.iload 4, 2) := by decide +kernel
theorem dX7_pace_65 : decode cX7_pace 65 = .ok (.istore_n 3, 1) := by decide +kernel
theorem dX7_pace_66 : decode cX7_pace 66 = .ok (.aload_n 0, 1) := by decide +kernel
theorem dX7_pace_67 : decode cX7_pace 67 = .ok (.invokevirtual 289, 3) := by decide +kernel
theorem dX7_pace_70 : decode cX7_pace 70 = .ok (.iinc 4 1, 3) := by decide +kernel
theorem dX7_pace_73 : decode cX7_pace 73 = .ok (.goto (-42), 3) := by decide +kernel
theorem dX7_pace_76 : decode cX7_pace 76 = .ok (.iload_n 3, 1) := by decide +kernel
theorem dX7_pace_77 : decode cX7_pace 77 = .ok (.ireturn, 1) := by decide +kernel
theorem dX7_draw_0 : decode cX7_draw 0 = .ok (.aload_n 0, 1) := by decide +kernel
theorem dX7_draw_1 : decode cX7_draw 1 = .ok (.sipush 137, 3) := by decide +kernel
theorem dX7_draw_4 : decode cX7_draw 4 = .ok (.aload_n 0, 1) := by decide +kernel
theorem dX7_draw_5 : decode cX7_draw 5 = .ok (.getfield 302, 3) := by decide +kernel
theorem dX7_draw_8 : decode cX7_draw 8 = .ok (.imul, 1) := by decide +kernel
theorem dX7_draw_9 : decode cX7_draw 9 = .ok (.bipush 71, 2) := by decide +kernel
theorem dX7_draw_11 : decode cX7_draw 11 = .ok (.iadd, 1) := by decide +kernel
theorem dX7_draw_12 : decode cX7_draw 12 = .ok (.sipush 10007, 3) := by decide +kernel
theorem dX7_draw_15 : decode cX7_draw 15 = .ok (.irem, 1) := by decide +kernel
theorem dX7_draw_16 : decode cX7_draw 16 = .ok (.putfield 302, 3) := by decide +kernel
theorem dX7_draw_19 : decode cX7_draw 19 = .ok (.aload_n 0, 1) := by decide +kernel
theorem dX7_draw_20 : decode cX7_draw 20 = .ok (.getfield 302, 3) := by decide +kernel
theorem dX7_draw_23 : decode cX7_draw 23 = .ok (.iload_n 1, 1) := by decide +kernel
theorem dX7_draw_24 : decode cX7_draw 24 = .ok (.irem, 1) := by decide +kernel
theorem dX7_draw_25 : decode cX7_draw 25 = .ok (.ireturn, 1) := by decide +kernel
theorem dX7_beginApart_0 : decode cX7_beginApart 0 = .ok (.aload_n 0, 1) := by decide +kernel
theorem dX7_beginApart_1 : decode cX7_beginApart 1 = .ok (.ldc 188, 2) := by decide +kernel
theorem dX7_beginApart_3 : decode cX7_beginApart 3 = .ok (.invokevirtual 189, 3) := by decide +kernel
theorem dX7_beginApart_6 : decode cX7_beginApart 6 = .ok (.pop, 1) := by decide +kernel
theorem dX7_beginApart_7 : decode cX7_beginApart 7 = .ok (.aload_n 0, 1) := by decide +kernel
theorem dX7_beginApart_8 : decode cX7_beginApart 8 = .ok (.getfield 7, 3) := by decide +kernel
theorem dX7_beginApart_11 : decode cX7_beginApart 11 = .ok (.sipush 735, 3) := by decide +kernel
theorem dX7_beginApart_14 : decode cX7_beginApart 14 = .ok (.iload_n 1, 1) := by decide +kernel
theorem dX7_beginApart_15 : decode cX7_beginApart 15 = .ok (.iastore, 1) := by decide +kernel
theorem dX7_beginApart_16 : decode cX7_beginApart 16 = .ok (.aload_n 0, 1) := by decide +kernel
theorem dX7_beginApart_17 : decode cX7_beginApart 17 = .ok (.invokevirtual 292, 3) := by decide +kernel
theorem dX7_beginApart_20 : decode cX7_beginApart 20 = .ok (.return_, 1) := by decide +kernel
theorem dX7_goOnce_0 : decode cX7_goOnce 0 = .ok (.aload_n 0, 1) := by decide +kernel
theorem dX7_goOnce_1 : decode cX7_goOnce 1 = .ok (.bipush 8, 2) := by decide +kernel
theorem dX7_goOnce_3 : decode cX7_goOnce 3 = .ok (.invokevirtual 305, 3) := by decide +kernel
theorem dX7_goOnce_6 : decode cX7_goOnce 6 = .ok (.istore_n 1, 1) := by decide +kernel
theorem dX7_goOnce_7 : decode cX7_goOnce 7 = .ok (.aload_n 0, 1) := by decide +kernel
theorem dX7_goOnce_8 : decode cX7_goOnce 8 = .ok (.bipush 6, 2) := by decide +kernel
theorem dX7_goOnce_10 : decode cX7_goOnce 10 = .ok (.invokevirtual 305, 3) := by decide +kernel
theorem dX7_goOnce_13 : decode cX7_goOnce 13 = .ok (.istore_n 2, 1) := by decide +kernel
theorem dX7_goOnce_14 : decode cX7_goOnce 14 = .ok (.aload_n 0, 1) := by decide +kernel
theorem dX7_goOnce_15 : decode cX7_goOnce 15 = .ok (.bipush 6, 2) := by decide +kernel
theorem dX7_goOnce_17 : decode cX7_goOnce 17 = .ok (.invokevirtual 305, 3) := by decide +kernel
theorem dX7_goOnce_20 : decode cX7_goOnce 20 = .ok (.istore_n 3, 1) := by decide +kernel
theorem dX7_goOnce_21 : decode cX7_goOnce 21 = .ok (.aload_n 0, 1) := by decide +kernel
theorem dX7_goOnce_22 : decode cX7_goOnce 22 = .ok (.bipush 6, 2) := by decide +kernel
theorem dX7_goOnce_24 : decode cX7_goOnce 24 = .ok (.invokevirtual 305, 3) := by decide +kernel
theorem dX7_goOnce_27 : decode cX7_goOnce 27 = .ok (.istore 4, 2) := by decide +kernel
theorem dX7_goOnce_29 : decode cX7_goOnce 29 = .ok (.iload_n 1, 1) := by decide +kernel
theorem dX7_goOnce_30 : decode cX7_goOnce 30 = .ok (.iconst 3, 1) := by decide +kernel
theorem dX7_goOnce_31 : decode cX7_goOnce 31 = .ok (.if_icmp .ge 17, 3) := by decide +kernel
theorem dX7_goOnce_34 : decode cX7_goOnce 34 = .ok (.aload_n 0, 1) := by decide +kernel
theorem dX7_goOnce_35 : decode cX7_goOnce 35 = .ok (.aload_n 0, 1) := by decide +kernel
theorem dX7_goOnce_36 : decode cX7_goOnce 36 = .ok (.iload_n 2, 1) := by decide +kernel
theorem dX7_goOnce_37 : decode cX7_goOnce 37 = .ok (.iload 4, 2) := by decide +kernel
theorem dX7_goOnce_39 : decode cX7_goOnce 39 = .ok (.invokevirtual 222, 3) := by decide +kernel
theorem dX7_goOnce_42 : decode cX7_goOnce 42 = .ok (.putfield 308, 3) := by decide +kernel
theorem dX7_goOnce_45 : decode cX7_goOnce 45 = .ok (.goto 100, 3) := by decide +kernel
theorem dX7_goOnce_48 : decode cX7_goOnce 48 = .ok (.iload_n 1, 1) := by decide +kernel
theorem dX7_goOnce_49 : decode cX7_goOnce 49 = .ok (.iconst 3, 1) := by decide +kernel
theorem dX7_goOnce_50 : decode cX7_goOnce 50 = .ok (.if_icmp .ne 29, 3) := by decide +kernel
theorem dX7_goOnce_53 : decode cX7_goOnce 53 = .ok (.aload_n 0, 1) := by decide +kernel
theorem dX7_goOnce_54 : decode cX7_goOnce 54 = .ok (.iload_n 2, 1) := by decide +kernel
theorem dX7_goOnce_55 : decode cX7_goOnce 55 = .ok (.iload_n 3, 1) := by decide +kernel
theorem dX7_goOnce_56 : decode cX7_goOnce 56 = .ok (.iload 4, 2) := by decide +kernel
theorem dX7_goOnce_58 : decode cX7_goOnce 58 = .ok (.invokevirtual 228, 3) := by decide +kernel
theorem dX7_goOnce_61 : decode cX7_goOnce 61 = .ok (.ifCond .eq 18, 3) := by decide +kernel
theorem dX7_goOnce_64 : decode cX7_goOnce 64 = .ok (.aload_n 0, 1) := by decide +kernel
theorem dX7_goOnce_65 : decode cX7_goOnce 65 = .ok (.aload_n 0, 1) := by decide +kernel
theorem dX7_goOnce_66 : decode cX7_goOnce 66 = .ok (.iload_n 2, 1) := by decide +kernel
theorem dX7_goOnce_67 : decode cX7_goOnce 67 = .ok (.iload_n 3, 1) := by decide +kernel
theorem dX7_goOnce_68 : decode cX7_goOnce 68 = .ok (.iload 4, 2) := by decide +kernel
theorem dX7_goOnce_70 : decode cX7_goOnce 70 = .ok (.invokevirtual 231, 3) := by decide +kernel
theorem dX7_goOnce_73 : decode cX7_goOnce 73 = .ok (.putfield 308, 3) := by decide +kernel
theorem dX7_goOnce_76 : decode cX7_goOnce 76 = .ok (.goto 69, 3) := by decide +kernel
theorem dX7_goOnce_79 : decode cX7_goOnce 79 = .ok (.iload_n 1, 1) := by decide +kernel
theorem dX7_goOnce_80 : decode cX7_goOnce 80 = .ok (.iconst 4, 1) := by decide +kernel
theorem dX7_goOnce_81 : decode cX7_goOnce 81 = .ok (.iconst 5, 1) := by decide +kernel
theorem dX7_goOnce_82 : decode cX7_goOnce 82 = .ok (.invokestatic 94, 3) := by decide +kernel
theorem dX7_goOnce_85 : decode cX7_goOnce 85 = .ok (.ifCond .eq 25, 3) := by decide +kernel
theorem dX7_goOnce_88 : decode cX7_goOnce 88 = .ok (.aload_n 0, 1) := by decide +kernel
theorem dX7_goOnce_89 : decode cX7_goOnce 89 = .ok (.iload_n 2, 1) := by decide +kernel
theorem dX7_goOnce_90 : decode cX7_goOnce 90 = .ok (.iload 4, 2) := by decide +kernel
theorem dX7_goOnce_92 : decode cX7_goOnce 92 = .ok (.iload_n 3, 1) := by decide +kernel
theorem dX7_goOnce_93 : decode cX7_goOnce 93 = .ok (.invokevirtual 241, 3) := by decide +kernel
theorem dX7_goOnce_96 : decode cX7_goOnce 96 = .ok (.ifCond .eq 14, 3) := by decide +kernel
theorem dX7_goOnce_99 : decode cX7_goOnce 99 = .ok (.aload_n 0, 1) := by decide +kernel
theorem dX7_goOnce_100 : decode cX7_goOnce 100 = .ok (.iload_n 2, 1) := by decide +kernel
theorem dX7_goOnce_101 : decode cX7_goOnce 101 = .ok (.iload 4, 2) := by decide +kernel
theorem dX7_goOnce_103 : decode cX7_goOnce 103 = .ok (.iload_n 3, 1) := by decide +kernel
theorem dX7_goOnce_104 : decode cX7_goOnce 104 = .ok (.invokevirtual 244, 3) := by decide +kernel
theorem dX7_goOnce_107 : decode cX7_goOnce 107 = .ok (.goto 38, 3) := by decide +kernel
theorem dX7_goOnce_110 : decode cX7_goOnce 110 = .ok (.iload_n 1, 1) := by decide +kernel
theorem dX7_goOnce_111 : decode cX7_goOnce 111 = .ok (.iconst 5, 1) := by decide +kernel
theorem dX7_goOnce_112 : decode cX7_goOnce 112 = .ok (.if_icmp .le 33, 3) := by decide +kernel
theorem dX7_goOnce_115 : decode cX7_goOnce 115 = .ok (.aload_n 0, 1) := by decide +kernel
theorem dX7_goOnce_116 : decode cX7_goOnce 116 = .ok (.getfield 7, 3) := by decide +kernel
theorem dX7_goOnce_119 : decode cX7_goOnce 119 = .ok (.sipush 715, 3) := by decide +kernel
theorem dX7_goOnce_122 : decode cX7_goOnce 122 = .ok (.iload_n 2, 1) := by decide +kernel
theorem dX7_goOnce_123 : decode cX7_goOnce 123 = .ok (.iadd, 1) := by decide +kernel
theorem dX7_goOnce_124 : decode cX7_goOnce 124 = .ok (.iload_n 1, 1) := by decide +kernel
theorem dX7_goOnce_125 : decode cX7_goOnce 125 = .ok (.bipush 6, 2) := by decide +kernel
theorem dX7_goOnce_127 : decode cX7_goOnce 127 = .ok (.if_icmp .ne 16, 3) := by decide +kernel
theorem dX7_goOnce_130 : decode cX7_goOnce 130 = .ok (.aload_n 0, 1) := by decide +kernel
theorem dX7_goOnce_131 : decode cX7_goOnce 131 = .ok (.getfield 7, 3) := by decide +kernel
theorem dX7_goOnce_134 : decode cX7_goOnce 134 = .ok (.sipush 715, 3) := by decide +kernel
theorem dX7_goOnce_137 : decode cX7_goOnce 137 = .ok (.iload_n 3, 1) := by decide +kernel
theorem dX7_goOnce_138 : decode cX7_goOnce 138 = .ok (.iadd, 1) := by decide +kernel
theorem dX7_goOnce_139 : decode cX7_goOnce 139 = .ok (.iaload, 1) := by decide +kernel
theorem dX7_goOnce_140 : decode cX7_goOnce 140 = .ok (.goto 4, 3) := by decide +kernel
theorem dX7_goOnce_143 : decode cX7_goOnce 143 = .ok (.iconst (-1), 1) := by decide +kernel
theorem dX7_goOnce_144 : decode cX7_goOnce 144 = .ok (.iastore, 1) := by decide +kernel
theorem dX7_goOnce_145 : decode cX7_goOnce 145 = .ok (.return_, 1) := by decide +kernel
theorem dX7_game_0 : decode cX7_game 0 = .ok (.iload_n 1, 1) := by decide +kernel
theorem dX7_game_1 : decode cX7_game 1 = .ok (.iconst 0, 1) := by decide +kernel
theorem dX7_game_2 : decode cX7_game 2 = .ok (.iconst 3, 1) := by decide +kernel
theorem dX7_game_3 : decode cX7_game 3 = .ok (.invokestatic 94, 3) := by decide +kernel
theorem dX7_game_6 : decode cX7_game 6 = .ok (.ifCond .eq 35, 3) := by decide +kernel
theorem dX7_game_9 : decode cX7_game 9 = .ok (.iload_n 2, 1) := by decide +kernel
theorem dX7_game_10 : decode cX7_game 10 = .ok (.iconst 0, 1) := by decide +kernel
theorem dX7_game_11 : decode cX7_game 11 = .ok (.sipush 9999, 3) := by decide +kernel
theorem dX7_game_14 : decode cX7_game 14 = .ok (.invokestatic 94, 3) := by decide +kernel
theorem dX7_game_17 : decode cX7_game 17 = .ok (.ifCond .eq 24, 3) := by decide +kernel
theorem dX7_game_20 : decode cX7_game 20 = .ok (.iload_n 3, 1) := by decide +kernel
theorem dX7_game_21 : decode cX7_game 21 = .ok (.iconst 1, 1) := by decide +kernel
theorem dX7_game_22 : decode cX7_game 22 = .ok (.sipush 200, 3) := by decide +kernel
theorem dX7_game_25 : decode cX7_game 25 = .ok (.invokestatic 94, 3) := by decide +kernel
theorem dX7_game_28 : decode cX7_game 28 = .ok (.ifCond .eq 13, 3) := by decide +kernel
theorem dX7_game_31 : decode cX7_game 31 = .ok (.iload 4, 2) := by decide +kernel
theorem dX7_game_33 : decode cX7_game 33 = .ok (.iconst 0, 1) := by decide +kernel
theorem dX7_game_34 : decode cX7_game 34 = .ok (.iconst 5, 1) := by decide +kernel
theorem dX7_game_35 : decode cX7_game 35 = .ok (.invokestatic 94, 3) := by decide +kernel
theorem dX7_game_38 : decode cX7_game 38 = .ok (.ifCond .ne 5, 3) := by decide +kernel
theorem dX7_game_41 : decode cX7_game 41 = .ok (.iconst (-1), 1) := by decide +kernel
theorem dX7_game_42 : decode cX7_game 42 = .ok (.ireturn, 1) := by decide +kernel
theorem dX7_game_43 : decode cX7_game 43 = .ok (.aload_n 0, 1) := by decide +kernel
theorem dX7_game_44 : decode cX7_game 44 = .ok (.invokevirtual 283, 3) := by decide +kernel
theorem dX7_game_47 : decode cX7_game 47 = .ok (.aload_n 0, 1) := by decide +kernel
theorem dX7_game_48 : decode cX7_game 48 = .ok (.iload_n 1, 1) := by decide +kernel
theorem dX7_game_49 : decode cX7_game 49 = .ok (.invokevirtual 311, 3) := by decide +kernel
theorem dX7_game_52 : decode cX7_game 52 = .ok (.aload_n 0, 1) := by decide +kernel
theorem dX7_game_53 : decode cX7_game 53 = .ok (.iload_n 2, 1) := by decide +kernel
theorem dX7_game_54 : decode cX7_game 54 = .ok (.putfield 302, 3) := by decide +kernel
theorem dX7_game_57 : decode cX7_game 57 = .ok (.iconst 0, 1) := by decide +kernel
theorem dX7_game_58 : decode cX7_game 58 = .ok (.istore 5, 2) := by decide +kernel
theorem dX7_game_60 : decode cX7_game 60 = .ok (.iload 5, 2) := by decide +kernel
theorem dX7_game_62 : decode cX7_game 62 = .ok (.iload_n 3, 1) := by decide +kernel
theorem dX7_game_63 : decode cX7_game 63 = .ok (.if_icmp .ge 13, 3) := by decide +kernel
theorem dX7_game_66 : decode cX7_game 66 = .ok (.aload_n 0, 1) := by decide +kernel
theorem dX7_game_67 : decode cX7_game 67 = .ok (.invokevirtual 314, 3) := by decide +kernel
theorem dX7_game_70 : decode cX7_game 70 = .ok (.iinc 5 1, 3) := by decide +kernel
theorem dX7_game_73 : decode cX7_game 73 = .ok (.goto (-13), 3) := by decide +kernel
theorem dX7_game_76 : decode cX7_game 76 = .ok (.aload_n 0, 1) := by decide +kernel
theorem dX7_game_77 : decode cX7_game 77 = .ok (.iload 4, 2) := by decide +kernel
theorem dX7_game_79 : decode cX7_game 79 = .ok (.invokevirtual 317, 3) := by decide +kernel
theorem dX7_game_82 : decode cX7_game 82 = .ok (.istore 5, 2) := by decide +kernel
theorem dX7_game_84 : decode cX7_game 84 = .ok (.aload_n 0, 1) := by decide +kernel
theorem dX7_game_85 : decode cX7_game 85 = .ok (.invokevirtual 289, 3) := by decide +kernel
theorem dX7_game_88 : decode cX7_game 88 = .ok (.iload 5, 2) := by decide +kernel
theorem dX7_game_90 : decode cX7_game 90 = .ok (.ireturn, 1) := by decide +kernel
theorem dX7_gameTells_0 : decode cX7_gameTells 0 = .ok (.iload_n 1, 1) := by decide +kernel
theorem dX7_gameTells_1 : decode cX7_gameTells 1 = .ok (.tableswitch 75 0 4 #[35, 43, 51, 59, 67], 35) := by decide +kernel
theorem dX7_gameTells_36 : decode cX7_gameTells 36 = .ok (.aload_n 0, 1) := by decide +kernel
theorem dX7_gameTells_37 : decode cX7_gameTells 37 = .ok (.sipush 730, 3) := by decide +kernel
theorem dX7_gameTells_40 : decode cX7_gameTells 40 = .ok (.invokevirtual 295, 3) := by decide +kernel
theorem dX7_gameTells_43 : decode cX7_gameTells 43 = .ok (.ireturn, 1) := by decide +kernel
theorem dX7_gameTells_44 : decode cX7_gameTells 44 = .ok (.aload_n 0, 1) := by decide +kernel
theorem dX7_gameTells_45 : decode cX7_gameTells 45 = .ok (.sipush 732, 3) := by decide +kernel
theorem dX7_gameTells_48 : decode cX7_gameTells 48 = .ok (.invokevirtual 295, 3) := by decide +kernel
theorem dX7_gameTells_51 : decode cX7_gameTells 51 = .ok (.ireturn, 1) := by decide +kernel
theorem dX7_gameTells_52 : decode cX7_gameTells 52 = .ok (.aload_n 0, 1) := by decide +kernel
theorem dX7_gameTells_53 : decode cX7_gameTells 53 = .ok (.sipush 731, 3) := by decide +kernel
theorem dX7_gameTells_56 : decode cX7_gameTells 56 = .ok (.invokevirtual 295, 3) := by decide +kernel
theorem dX7_gameTells_59 : decode cX7_gameTells 59 = .ok (.ireturn, 1) := by decide +kernel
theorem dX7_gameTells_60 : decode cX7_gameTells 60 = .ok (.aload_n 0, 1) := by decide +kernel
theorem dX7_gameTells_61 : decode cX7_gameTells 61 = .ok (.sipush 729, 3) := by decide +kernel
theorem dX7_gameTells_64 : decode cX7_gameTells 64 = .ok (.invokevirtual 295, 3) := by decide +kernel
theorem dX7_gameTells_67 : decode cX7_gameTells 67 = .ok (.ireturn, 1) := by decide +kernel
theorem dX7_gameTells_68 : decode cX7_gameTells 68 = .ok (.aload_n 0, 1) := by decide +kernel
theorem dX7_gameTells_69 : decode cX7_gameTells 69 = .ok (.sipush 733, 3) := by decide +kernel
theorem dX7_gameTells_72 : decode cX7_gameTells 72 = .ok (.invokevirtual 295, 3) := by decide +kernel
theorem dX7_gameTells_75 : decode cX7_gameTells 75 = .ok (.ireturn, 1) := by decide +kernel
theorem dX7_gameTells_76 : decode cX7_gameTells 76 = .ok (.aload_n 0, 1) := by decide +kernel
theorem dX7_gameTells_77 : decode cX7_gameTells 77 = .ok (.invokevirtual 164, 3) := by decide +kernel
theorem dX7_gameTells_80 : decode cX7_gameTells 80 = .ok (.ireturn, 1) := by decide +kernel
theorem dX7_feed_0 : decode cX7_feed 0 = .ok (.aload_n 0, 1) := by decide +kernel
theorem dX7_feed_1 : decode cX7_feed 1 = .ok (.getfield 320, 3) := by decide +kernel
theorem dX7_feed_4 : decode cX7_feed 4 = .ok (.bipush 20, 2) := by decide +kernel
theorem dX7_feed_6 : decode cX7_feed 6 = .ok (.iadd, 1) := by decide +kernel
theorem dX7_feed_7 : decode cX7_feed 7 = .ok (.sipush 400, 3) := by decide +kernel
theorem dX7_feed_10 : decode cX7_feed 10 = .ok (.if_icmp .le 5, 3) := by decide +kernel
theorem dX7_feed_13 : decode cX7_feed 13 = .ok (.iconst (-1), 1) := by decide +kernel
theorem dX7_feed_14 : decode cX7_feed 14 = .ok (.ireturn, 1) := by decide +kernel
theorem dX7_feed_15 : decode cX7_feed 15 = .ok (.iconst 0, 1) := by decide +kernel
theorem dX7_feed_16 : decode cX7_feed 16 = .ok (.istore 6, 2) := by decide +kernel
theorem dX7_feed_18 : decode cX7_feed 18 = .ok (.iload 6, 2) := by decide +kernel
theorem dX7_feed_20 : decode cX7_feed 20 = .ok (.bipush 20, 2) := by decide +kernel
theorem dX7_feed_22 : decode cX7_feed 22 = .ok (.if_icmp .ge 86, 3) := by decide +kernel
theorem dX7_feed_25 : decode cX7_feed 25 = .ok (.iload 6, 2) := by decide +kernel
theorem dX7_feed_27 : decode cX7_feed 27 = .ok (.iconst 4, 1) := by decide +kernel
theorem dX7_feed_28 : decode cX7_feed 28 = .ok (.if_icmp .ge 7, 3) := by decide +kernel
theorem dX7_feed_31 : decode cX7_feed 31 = .ok (.iload_n 1, 1) := by decide +kernel
theorem dX7_feed_32 : decode cX7_feed 32 = .ok (.goto 39, 3) := by decide +kernel
theorem dX7_feed_35 : decode cX7_feed 35 = .ok (.iload 6, 2) := by decide +kernel
theorem dX7_feed_37 : decode cX7_feed 37 = .ok (.bipush 8, 2) := by decide +kernel
theorem dX7_feed_39 : decode cX7_feed 39 = .ok (.if_icmp .ge 7, 3) := by decide +kernel
theorem dX7_feed_42 : decode cX7_feed 42 = .ok (.iload_n 2, 1) := by decide +kernel
theorem dX7_feed_43 : decode cX7_feed 43 = .ok (.goto 28, 3) := by decide +kernel
theorem dX7_feed_46 : decode cX7_feed 46 = .ok (.iload 6, 2) := by decide +kernel
theorem dX7_feed_48 : decode cX7_feed 48 = .ok (.bipush 12, 2) := by decide +kernel
theorem dX7_feed_50 : decode cX7_feed 50 = .ok (.if_icmp .ge 7, 3) := by decide +kernel
theorem dX7_feed_53 : decode cX7_feed 53 = .ok (.iload_n 3, 1) := by decide +kernel
theorem dX7_feed_54 : decode cX7_feed 54 = .ok (.goto 17, 3) := by decide +kernel
theorem dX7_feed_57 : decode cX7_feed 57 = .ok (.iload 6, 2) := by decide +kernel
theorem dX7_feed_59 : decode cX7_feed 59 = .ok (.bipush 16, 2) := by decide +kernel
theorem dX7_feed_61 : decode cX7_feed 61 = .ok (.if_icmp .ge 8, 3) := by decide +kernel
theorem dX7_feed_64 : decode cX7_feed 64 = .ok (.iload 4, 2) := by decide +kernel
theorem dX7_feed_66 : decode cX7_feed 66 = .ok (.goto 5, 3) := by decide +kernel
theorem dX7_feed_69 : decode cX7_feed 69 = .ok (.iload 5, 2) := by decide +kernel
theorem dX7_feed_71 : decode cX7_feed 71 = .ok (.istore 7, 2) := by decide +kernel
theorem dX7_feed_73 : decode cX7_feed 73 = .ok (.aload_n 0, 1) := by decide +kernel
theorem dX7_feed_74 : decode cX7_feed 74 = .ok (.getfield 32, 3) := by decide +kernel
theorem dX7_feed_77 : decode cX7_feed 77 = .ok (.aload_n 0, 1) := by decide +kernel
theorem dX7_feed_78 : decode cX7_feed 78 = .ok (.getfield 320, 3) := by decide +kernel
theorem dX7_feed_81 : decode cX7_feed 81 = .ok (.iload 6, 2) := by decide +kernel
theorem dX7_feed_83 : decode cX7_feed 83 = .ok (.iadd, 1) := by decide +kernel
theorem dX7_feed_84 : decode cX7_feed 84 = .ok (.iload 7, 2) := by decide +kernel
theorem dX7_feed_86 : decode cX7_feed 86 = .ok (.bipush 24, 2) := by decide +kernel
theorem dX7_feed_88 : decode cX7_feed 88 = .ok (.bipush 8, 2) := by decide +kernel
theorem dX7_feed_90 : decode cX7_feed 90 = .ok (.iload 6, 2) := by decide +kernel
theorem dX7_feed_92 : decode cX7_feed 92 = .ok (.iconst 3, 1) := by decide +kernel
theorem dX7_feed_93 : decode cX7_feed 93 = .ok (.iand, 1) := by decide +kernel
theorem dX7_feed_94 : decode cX7_feed 94 = .ok (.imul, 1) := by decide +kernel
theorem dX7_feed_95 : decode cX7_feed 95 = .ok (.isub, 1) := by decide +kernel
theorem dX7_feed_96 : decode cX7_feed 96 = .ok (.ishr, 1) := by decide +kernel
theorem dX7_feed_97 : decode cX7_feed 97 = .ok (.sipush 255, 3) := by decide +kernel
theorem dX7_feed_100 : decode cX7_feed 100 = .ok (.iand, 1) := by decide +kernel
theorem dX7_feed_101 : decode cX7_feed 101 = .ok (.iastore, 1) := by decide +kernel
theorem dX7_feed_102 : decode cX7_feed 102 = .ok (.iinc 6 1, 3) := by decide +kernel
theorem dX7_feed_105 : decode cX7_feed 105 = .ok (.goto (-87), 3) := by decide +kernel
theorem dX7_feed_108 : decode cX7_feed 108 = .ok (.aload_n 0, 1) := by decide +kernel
theorem dX7_feed_109 : decode cX7_feed 109 = .ok (.dup, 1) := by decide +kernel
theorem dX7_feed_110 : decode cX7_feed 110 = .ok (.getfield 320, 3) := by decide +kernel
theorem dX7_feed_113 : decode cX7_feed 113 = .ok (.bipush 20, 2) := by decide +kernel
theorem dX7_feed_115 : decode cX7_feed 115 = .ok (.iadd, 1) := by decide +kernel
theorem dX7_feed_116 : decode cX7_feed 116 = .ok (.putfield 320, 3) := by decide +kernel
theorem dX7_feed_119 : decode cX7_feed 119 = .ok (.aload_n 0, 1) := by decide +kernel
theorem dX7_feed_120 : decode cX7_feed 120 = .ok (.getfield 320, 3) := by decide +kernel
theorem dX7_feed_123 : decode cX7_feed 123 = .ok (.ireturn, 1) := by decide +kernel
theorem dX7_cut_0 : decode cX7_cut 0 = .ok (.iload_n 1, 1) := by decide +kernel
theorem dX7_cut_1 : decode cX7_cut 1 = .ok (.ifCond .lt 11, 3) := by decide +kernel
theorem dX7_cut_4 : decode cX7_cut 4 = .ok (.iload_n 1, 1) := by decide +kernel
theorem dX7_cut_5 : decode cX7_cut 5 = .ok (.aload_n 0, 1) := by decide +kernel
theorem dX7_cut_6 : decode cX7_cut 6 = .ok (.getfield 320, 3) := by decide +kernel
theorem dX7_cut_9 : decode cX7_cut 9 = .ok (.if_icmp .le 5, 3) := by decide +kernel
theorem dX7_cut_12 : decode cX7_cut 12 = .ok (.iconst (-1), 1) := by decide +kernel
theorem dX7_cut_13 : decode cX7_cut 13 = .ok (.ireturn, 1) := by decide +kernel
theorem dX7_cut_14 : decode cX7_cut 14 = .ok (.aload_n 0, 1) := by decide +kernel
theorem dX7_cut_15 : decode cX7_cut 15 = .ok (.iload_n 1, 1) := by decide +kernel
theorem dX7_cut_16 : decode cX7_cut 16 = .ok (.putfield 320, 3) := by decide +kernel
theorem dX7_cut_19 : decode cX7_cut 19 = .ok (.iload_n 1, 1) := by decide +kernel
theorem dX7_cut_20 : decode cX7_cut 20 = .ok (.ireturn, 1) := by decide +kernel
theorem dX7_byteAt_0 : decode cX7_byteAt 0 = .ok (.iload_n 1, 1) := by decide +kernel
theorem dX7_byteAt_1 : decode cX7_byteAt 1 = .ok (.aload_n 0, 1) := by decide +kernel
theorem dX7_byteAt_2 : decode cX7_byteAt 2 = .ok (.getfield 323, 3) := by decide +kernel
theorem dX7_byteAt_5 : decode cX7_byteAt 5 = .ok (.if_icmp .ge 12, 3) := by decide +kernel
theorem dX7_byteAt_8 : decode cX7_byteAt 8 = .ok (.aload_n 0, 1) := by decide +kernel
theorem dX7_byteAt_9 : decode cX7_byteAt 9 = .ok (.getfield 32, 3) := by decide +kernel
theorem dX7_byteAt_12 : decode cX7_byteAt 12 = .ok (.iload_n 1, 1) := by decide +kernel
theorem dX7_byteAt_13 : decode cX7_byteAt 13 = .ok (.iaload, 1) := by decide +kernel
theorem dX7_byteAt_14 : decode cX7_byteAt 14 = .ok (.goto 4, 3) := by decide +kernel
theorem dX7_byteAt_17 : decode cX7_byteAt 17 = .ok (.iconst 0, 1) := by decide +kernel
theorem dX7_byteAt_18 : decode cX7_byteAt 18 = .ok (.ireturn, 1) := by decide +kernel
theorem dX7_isLetter_0 : decode cX7_isLetter 0 = .ok (.iload_n 0, 1) := by decide +kernel
theorem dX7_isLetter_1 : decode cX7_isLetter 1 = .ok (.bipush 97, 2) := by decide +kernel
theorem dX7_isLetter_3 : decode cX7_isLetter 3 = .ok (.if_icmp .lt 13, 3) := by decide +kernel
theorem dX7_isLetter_6 : decode cX7_isLetter 6 = .ok (.iload_n 0, 1) := by decide +kernel
theorem dX7_isLetter_7 : decode cX7_isLetter 7 = .ok (.bipush 122, 2) := by decide +kernel
theorem dX7_isLetter_9 : decode cX7_isLetter 9 = .ok (.if_icmp .gt 7, 3) := by decide +kernel
theorem dX7_isLetter_12 : decode cX7_isLetter 12 = .ok (.iconst 1, 1) := by decide +kernel
theorem dX7_isLetter_13 : decode cX7_isLetter 13 = .ok (.goto 4, 3) := by decide +kernel
theorem dX7_isLetter_16 : decode cX7_isLetter 16 = .ok (.iconst 0, 1) := by decide +kernel
theorem dX7_isLetter_17 : decode cX7_isLetter 17 = .ok (.ireturn, 1) := by decide +kernel
theorem dX7_isDigit_0 : decode cX7_isDigit 0 = .ok (.iload_n 0, 1) := by decide +kernel
theorem dX7_isDigit_1 : decode cX7_isDigit 1 = .ok (.bipush 48, 2) := by decide +kernel
theorem dX7_isDigit_3 : decode cX7_isDigit 3 = .ok (.if_icmp .lt 13, 3) := by decide +kernel
theorem dX7_isDigit_6 : decode cX7_isDigit 6 = .ok (.iload_n 0, 1) := by decide +kernel
theorem dX7_isDigit_7 : decode cX7_isDigit 7 = .ok (.bipush 57, 2) := by decide +kernel
theorem dX7_isDigit_9 : decode cX7_isDigit 9 = .ok (.if_icmp .gt 7, 3) := by decide +kernel
theorem dX7_isDigit_12 : decode cX7_isDigit 12 = .ok (.iconst 1, 1) := by decide +kernel
theorem dX7_isDigit_13 : decode cX7_isDigit 13 = .ok (.goto 4, 3) := by decide +kernel
theorem dX7_isDigit_16 : decode cX7_isDigit 16 = .ok (.iconst 0, 1) := by decide +kernel
theorem dX7_isDigit_17 : decode cX7_isDigit 17 = .ok (.ireturn, 1) := by decide +kernel
theorem dX7_isSign_0 : decode cX7_isSign 0 = .ok (.iload_n 0, 1) := by decide +kernel
theorem dX7_isSign_1 : decode cX7_isSign 1 = .ok (.bipush 61, 2) := by decide +kernel
theorem dX7_isSign_3 : decode cX7_isSign 3 = .ok (.if_icmp .eq 27, 3) := by decide +kernel
theorem dX7_isSign_6 : decode cX7_isSign 6 = .ok (.iload_n 0, 1) := by decide +kernel
theorem dX7_isSign_7 : decode cX7_isSign 7 = .ok (.bipush 46, 2) := by decide +kernel
theorem dX7_isSign_9 : decode cX7_isSign 9 = .ok (.if_icmp .eq 21, 3) := by decide +kernel
theorem dX7_isSign_12 : decode cX7_isSign 12 = .ok (.iload_n 0, 1) := by decide +kernel
theorem dX7_isSign_13 : decode cX7_isSign 13 = .ok (.bipush 59, 2) := by decide +kernel
theorem dX7_isSign_15 : decode cX7_isSign 15 = .ok (.if_icmp .eq 15, 3) := by decide +kernel
theorem dX7_isSign_18 : decode cX7_isSign 18 = .ok (.iload_n 0, 1) := by decide +kernel
theorem dX7_isSign_19 : decode cX7_isSign 19 = .ok (.bipush 123, 2) := by decide +kernel
theorem dX7_isSign_21 : decode cX7_isSign 21 = .ok (.if_icmp .eq 9, 3) := by decide +kernel
theorem dX7_isSign_24 : decode cX7_isSign 24 = .ok (.iload_n 0, 1) := by decide +kernel
theorem dX7_isSign_25 : decode cX7_isSign 25 = .ok (.bipush 125, 2) := by decide +kernel
theorem dX7_isSign_27 : decode cX7_isSign 27 = .ok (.if_icmp .ne 7, 3) := by decide +kernel
theorem dX7_isSign_30 : decode cX7_isSign 30 = .ok (.iconst 1, 1) := by decide +kernel
theorem dX7_isSign_31 : decode cX7_isSign 31 = .ok (.goto 4, 3) := by decide +kernel
theorem dX7_isSign_34 : decode cX7_isSign 34 = .ok (.iconst 0, 1) := by decide +kernel
theorem dX7_isSign_35 : decode cX7_isSign 35 = .ok (.ireturn, 1) := by decide +kernel
theorem dX7_isBlank_0 : decode cX7_isBlank 0 = .ok (.iload_n 1, 1) := by decide +kernel
theorem dX7_isBlank_1 : decode cX7_isBlank 1 = .ok (.aload_n 0, 1) := by decide +kernel
theorem dX7_isBlank_2 : decode cX7_isBlank 2 = .ok (.getfield 323, 3) := by decide +kernel
theorem dX7_isBlank_5 : decode cX7_isBlank 5 = .ok (.if_icmp .ge 29, 3) := by decide +kernel
theorem dX7_isBlank_8 : decode cX7_isBlank 8 = .ok (.aload_n 0, 1) := by decide +kernel
theorem dX7_isBlank_9 : decode cX7_isBlank 9 = .ok (.getfield 32, 3) := by decide +kernel
theorem dX7_isBlank_12 : decode cX7_isBlank 12 = .ok (.iload_n 1, 1) := by decide +kernel
theorem dX7_isBlank_13 : decode cX7_isBlank 13 = .ok (.iaload, 1) := by decide +kernel
theorem dX7_isBlank_14 : decode cX7_isBlank 14 = .ok (.bipush 32, 2) := by decide +kernel
theorem dX7_isBlank_16 : decode cX7_isBlank 16 = .ok (.if_icmp .eq 14, 3) := by decide +kernel
theorem dX7_isBlank_19 : decode cX7_isBlank 19 = .ok (.aload_n 0, 1) := by decide +kernel
theorem dX7_isBlank_20 : decode cX7_isBlank 20 = .ok (.getfield 32, 3) := by decide +kernel
theorem dX7_isBlank_23 : decode cX7_isBlank 23 = .ok (.iload_n 1, 1) := by decide +kernel
theorem dX7_isBlank_24 : decode cX7_isBlank 24 = .ok (.iaload, 1) := by decide +kernel
theorem dX7_isBlank_25 : decode cX7_isBlank 25 = .ok (.bipush 10, 2) := by decide +kernel
theorem dX7_isBlank_27 : decode cX7_isBlank 27 = .ok (.if_icmp .ne 7, 3) := by decide +kernel
theorem dX7_isBlank_30 : decode cX7_isBlank 30 = .ok (.iconst 1, 1) := by decide +kernel
theorem dX7_isBlank_31 : decode cX7_isBlank 31 = .ok (.goto 4, 3) := by decide +kernel
theorem dX7_isBlank_34 : decode cX7_isBlank 34 = .ok (.iconst 0, 1) := by decide +kernel
theorem dX7_isBlank_35 : decode cX7_isBlank 35 = .ok (.ireturn, 1) := by decide +kernel
theorem dX7_scan_0 : decode cX7_scan 0 = .ok (.aload_n 0, 1) := by decide +kernel
theorem dX7_scan_1 : decode cX7_scan 1 = .ok (.aload_n 0, 1) := by decide +kernel
theorem dX7_scan_2 : decode cX7_scan 2 = .ok (.getfield 326, 3) := by decide +kernel
theorem dX7_scan_5 : decode cX7_scan 5 = .ok (.putfield 329, 3) := by decide +kernel
theorem dX7_scan_8 : decode cX7_scan 8 = .ok (.aload_n 0, 1) := by decide +kernel
theorem dX7_scan_9 : decode cX7_scan 9 = .ok (.aload_n 0, 1) := by decide +kernel
theorem dX7_scan_10 : decode cX7_scan 10 = .ok (.getfield 329, 3) := by decide +kernel
theorem dX7_scan_13 : decode cX7_scan 13 = .ok (.invokevirtual 332, 3) := by decide +kernel
theorem dX7_scan_16 : decode cX7_scan 16 = .ok (.ifCond .eq 16, 3) := by decide +kernel
theorem dX7_scan_19 : decode cX7_scan 19 = .ok (.aload_n 0, 1) := by decide +kernel
theorem dX7_scan_20 : decode cX7_scan 20 = .ok (.dup, 1) := by decide +kernel
theorem dX7_scan_21 : decode cX7_scan 21 = .ok (.getfield 329, 3) := by decide +kernel
theorem dX7_scan_24 : decode cX7_scan 24 = .ok (.iconst 1, 1) := by decide +kernel
theorem dX7_scan_25 : decode cX7_scan 25 = .ok (.iadd, 1) := by decide +kernel
theorem dX7_scan_26 : decode cX7_scan 26 = .ok (.putfield 329, 3) := by decide +kernel
theorem dX7_scan_29 : decode cX7_scan 29 = .ok (.goto (-21), 3) := by decide +kernel
theorem dX7_scan_32 : decode cX7_scan 32 = .ok (.aload_n 0, 1) := by decide +kernel
theorem dX7_scan_33 : decode cX7_scan 33 = .ok (.aload_n 0, 1) := by decide +kernel
theorem dX7_scan_34 : decode cX7_scan 34 = .ok (.getfield 329, 3) := by decide +kernel
theorem dX7_scan_37 : decode cX7_scan 37 = .ok (.iconst 1, 1) := by decide +kernel
theorem dX7_scan_38 : decode cX7_scan 38 = .ok (.iadd, 1) := by decide +kernel
theorem dX7_scan_39 : decode cX7_scan 39 = .ok (.putfield 326, 3) := by decide +kernel
theorem dX7_scan_42 : decode cX7_scan 42 = .ok (.aload_n 0, 1) := by decide +kernel
theorem dX7_scan_43 : decode cX7_scan 43 = .ok (.getfield 329, 3) := by decide +kernel
theorem dX7_scan_46 : decode cX7_scan 46 = .ok (.aload_n 0, 1) := by decide +kernel
theorem dX7_scan_47 : decode cX7_scan 47 = .ok (.getfield 323, 3) := by decide +kernel
theorem dX7_scan_50 : decode cX7_scan 50 = .ok (.if_icmp .lt 19, 3) := by decide +kernel
theorem dX7_scan_53 : decode cX7_scan 53 = .ok (.aload_n 0, 1) := by decide +kernel
theorem dX7_scan_54 : decode cX7_scan 54 = .ok (.aload_n 0, 1) := by decide +kernel
theorem dX7_scan_55 : decode cX7_scan 55 = .ok (.getfield 329, 3) := by decide +kernel
theorem dX7_scan_58 : decode cX7_scan 58 = .ok (.putfield 326, 3) := by decide +kernel
theorem dX7_scan_61 : decode cX7_scan 61 = .ok (.aload_n 0, 1) := by decide +kernel
theorem dX7_scan_62 : decode cX7_scan 62 = .ok (.iconst 0, 1) := by decide +kernel
theorem dX7_scan_63 : decode cX7_scan 63 = .ok (.putfield 335, 3) := by decide +kernel
theorem dX7_scan_66 : decode cX7_scan 66 = .ok (.goto 68, 3) := by decide +kernel
theorem dX7_scan_69 : decode cX7_scan 69 = .ok (.aload_n 0, 1) := by decide +kernel
theorem dX7_scan_70 : decode cX7_scan 70 = .ok (.aload_n 0, 1) := by decide +kernel
theorem dX7_scan_71 : decode cX7_scan 71 = .ok (.getfield 329, 3) := by decide +kernel
theorem dX7_scan_74 : decode cX7_scan 74 = .ok (.invokevirtual 338, 3) := by decide +kernel
theorem dX7_scan_77 : decode cX7_scan 77 = .ok (.invokestatic 341, 3) := by decide +kernel
theorem dX7_scan_80 : decode cX7_scan 80 = .ok (.ifCond .eq 10, 3) := by decide +kernel
theorem dX7_scan_83 : decode cX7_scan 83 = .ok (.aload_n 0, 1) := by decide +kernel
theorem dX7_scan_84 : decode cX7_scan 84 = .ok (.invokevirtual 344, 3) := by decide +kernel
theorem dX7_scan_87 : decode cX7_scan 87 = .ok (.goto 47, 3) := by decide +kernel
theorem dX7_scan_90 : decode cX7_scan 90 = .ok (.aload_n 0, 1) := by decide +kernel
theorem dX7_scan_91 : decode cX7_scan 91 = .ok (.aload_n 0, 1) := by decide +kernel
theorem dX7_scan_92 : decode cX7_scan 92 = .ok (.getfield 329, 3) := by decide +kernel
theorem dX7_scan_95 : decode cX7_scan 95 = .ok (.invokevirtual 338, 3) := by decide +kernel
theorem dX7_scan_98 : decode cX7_scan 98 = .ok (.invokestatic 347, 3) := by decide +kernel
theorem dX7_scan_101 : decode cX7_scan 101 = .ok (.ifCond .eq 10, 3) := by decide +kernel
theorem dX7_scan_104 : decode cX7_scan 104 = .ok (.aload_n 0, 1) := by decide +kernel
theorem dX7_scan_105 : decode cX7_scan 105 = .ok (.invokevirtual 350, 3) := by decide +kernel
theorem dX7_scan_108 : decode cX7_scan 108 = .ok (.goto 26, 3) := by decide +kernel
theorem dX7_scan_111 : decode cX7_scan 111 = .ok (.aload_n 0, 1) := by decide +kernel
theorem dX7_scan_112 : decode cX7_scan 112 = .ok (.aload_n 0, 1) := by decide +kernel
theorem dX7_scan_113 : decode cX7_scan 113 = .ok (.aload_n 0, 1) := by decide +kernel
theorem dX7_scan_114 : decode cX7_scan 114 = .ok (.getfield 329, 3) := by decide +kernel
theorem dX7_scan_117 : decode cX7_scan 117 = .ok (.invokevirtual 338, 3) := by decide +kernel
theorem dX7_scan_120 : decode cX7_scan 120 = .ok (.invokestatic 353, 3) := by decide +kernel
theorem dX7_scan_123 : decode cX7_scan 123 = .ok (.ifCond .eq 7, 3) := by decide +kernel
theorem dX7_scan_126 : decode cX7_scan 126 = .ok (.iconst 4, 1) := by decide +kernel
theorem dX7_scan_127 : decode cX7_scan 127 = .ok (.goto 4, 3) := by decide +kernel
theorem dX7_scan_130 : decode cX7_scan 130 = .ok (.iconst 1, 1) := by decide +kernel
theorem dX7_scan_131 : decode cX7_scan 131 = .ok (.putfield 335, 3) := by decide +kernel
theorem dX7_scan_134 : decode cX7_scan 134 = .ok (.return_, 1) := by decide +kernel
theorem dX7_scanWord_0 : decode cX7_scanWord 0 = .ok (.aload_n 0, 1) := by decide +kernel
theorem dX7_scanWord_1 : decode cX7_scanWord 1 = .ok (.iconst 2, 1) := by decide +kernel
theorem dX7_scanWord_2 : decode cX7_scanWord 2 = .ok (.putfield 335, 3) := by decide +kernel
theorem dX7_scanWord_5 : decode cX7_scanWord 5 = .ok (.aload_n 0, 1) := by decide +kernel
theorem dX7_scanWord_6 : decode cX7_scanWord 6 = .ok (.iconst 0, 1) := by decide +kernel
theorem dX7_scanWord_7 : decode cX7_scanWord 7 = .ok (.putfield 356, 3) := by decide +kernel
theorem dX7_scanWord_10 : decode cX7_scanWord 10 = .ok (.aload_n 0, 1) := by decide +kernel
theorem dX7_scanWord_11 : decode cX7_scanWord 11 = .ok (.aload_n 0, 1) := by decide +kernel
theorem dX7_scanWord_12 : decode cX7_scanWord 12 = .ok (.getfield 329, 3) := by decide +kernel
theorem dX7_scanWord_15 : decode cX7_scanWord 15 = .ok (.putfield 326, 3) := by decide +kernel
theorem dX7_scanWord_18 : decode cX7_scanWord 18 = .ok (.aload_n 0, 1) := by decide +kernel
theorem dX7_scanWord_19 : decode cX7_scanWord 19 = .ok (.aload_n 0, 1) := by decide +kernel
theorem dX7_scanWord_20 : decode cX7_scanWord 20 = .ok (.getfield 326, 3) := by decide +kernel
theorem dX7_scanWord_23 : decode cX7_scanWord 23 = .ok (.invokevirtual 338, 3) := by decide +kernel
theorem dX7_scanWord_26 : decode cX7_scanWord 26 = .ok (.invokestatic 341, 3) := by decide +kernel
theorem dX7_scanWord_29 : decode cX7_scanWord 29 = .ok (.ifCond .eq 56, 3) := by decide +kernel
theorem dX7_scanWord_32 : decode cX7_scanWord 32 = .ok (.aload_n 0, 1) := by decide +kernel
theorem dX7_scanWord_33 : decode cX7_scanWord 33 = .ok (.aload_n 0, 1) := by decide +kernel
theorem dX7_scanWord_34 : decode cX7_scanWord 34 = .ok (.getfield 326, 3) := by decide +kernel
theorem dX7_scanWord_37 : decode cX7_scanWord 37 = .ok (.aload_n 0, 1) := by decide +kernel
theorem dX7_scanWord_38 : decode cX7_scanWord 38 = .ok (.getfield 329, 3) := by decide +kernel
theorem dX7_scanWord_41 : decode cX7_scanWord 41 = .ok (.isub, 1) := by decide +kernel
theorem dX7_scanWord_42 : decode cX7_scanWord 42 = .ok (.iconst 5, 1) := by decide +kernel
theorem dX7_scanWord_43 : decode cX7_scanWord 43 = .ok (.if_icmp .ge 25, 3) := by decide +kernel
theorem dX7_scanWord_46 : decode cX7_scanWord 46 = .ok (.bipush 32, 2) := by decide +kernel
theorem dX7_scanWord_48 : decode cX7_scanWord 48 = .ok (.aload_n 0, 1) := by decide +kernel
theorem dX7_scanWord_49 : decode cX7_scanWord 49 = .ok (.getfield 356, 3) := by decide +kernel
theorem dX7_scanWord_52 : decode cX7_scanWord 52 = .ok (.imul, 1) := by decide +kernel
theorem dX7_scanWord_53 : decode cX7_scanWord 53 = .ok (.aload_n 0, 1) := by decide +kernel
theorem dX7_scanWord_54 : decode cX7_scanWord 54 = .ok (.aload_n 0, 1) := by decide +kernel
theorem dX7_scanWord_55 : decode cX7_scanWord 55 = .ok (.getfield 326, 3) := by decide +kernel
theorem dX7_scanWord_58 : decode cX7_scanWord 58 = .ok (.invokevirtual 338, 3) := by decide +kernel
theorem dX7_scanWord_61 : decode cX7_scanWord 61 = .ok (.iadd, 1) := by decide +kernel
theorem dX7_scanWord_62 : decode cX7_scanWord 62 = .ok (.bipush 96, 2) := by decide +kernel
theorem dX7_scanWord_64 : decode cX7_scanWord 64 = .ok (.isub, 1) := by decide +kernel
theorem dX7_scanWord_65 : decode cX7_scanWord 65 = .ok (.goto 4, 3) := by decide +kernel
theorem dX7_scanWord_68 : decode cX7_scanWord 68 = .ok (.iconst 0, 1) := by decide +kernel
theorem dX7_scanWord_69 : decode cX7_scanWord 69 = .ok (.putfield 356, 3) := by decide +kernel
theorem dX7_scanWord_72 : decode cX7_scanWord 72 = .ok (.aload_n 0, 1) := by decide +kernel
theorem dX7_scanWord_73 : decode cX7_scanWord 73 = .ok (.dup, 1) := by decide +kernel
theorem dX7_scanWord_74 : decode cX7_scanWord 74 = .ok (.getfield 326, 3) := by decide +kernel
theorem dX7_scanWord_77 : decode cX7_scanWord 77 = .ok (.iconst 1, 1) := by decide +kernel
theorem dX7_scanWord_78 : decode cX7_scanWord 78 = .ok (.iadd, 1) := by decide +kernel
theorem dX7_scanWord_79 : decode cX7_scanWord 79 = .ok (.putfield 326, 3) := by decide +kernel
theorem dX7_scanWord_82 : decode cX7_scanWord 82 = .ok (.goto (-64), 3) := by decide +kernel
theorem dX7_scanWord_85 : decode cX7_scanWord 85 = .ok (.aload_n 0, 1) := by decide +kernel
theorem dX7_scanWord_86 : decode cX7_scanWord 86 = .ok (.getfield 326, 3) := by decide +kernel
theorem dX7_scanWord_89 : decode cX7_scanWord 89 = .ok (.aload_n 0, 1) := by decide +kernel
theorem dX7_scanWord_90 : decode cX7_scanWord 90 = .ok (.getfield 329, 3) := by decide +kernel
theorem dX7_scanWord_93 : decode cX7_scanWord 93 = .ok (.isub, 1) := by decide +kernel
theorem dX7_scanWord_94 : decode cX7_scanWord 94 = .ok (.iconst 5, 1) := by decide +kernel
theorem dX7_scanWord_95 : decode cX7_scanWord 95 = .ok (.if_icmp .le 8, 3) := by decide +kernel
theorem dX7_scanWord_98 : decode cX7_scanWord 98 = .ok (.aload_n 0, 1) := by decide +kernel
theorem dX7_scanWord_99 : decode cX7_scanWord 99 = .ok (.iconst 0, 1) := by decide +kernel
theorem dX7_scanWord_100 : decode cX7_scanWord 100 = .ok (.putfield 356, 3) := by decide +kernel
theorem dX7_scanWord_103 : decode cX7_scanWord 103 = .ok (.return_, 1) := by decide +kernel
theorem dX7_scanNumber_0 : decode cX7_scanNumber 0 = .ok (.aload_n 0, 1) := by decide +kernel
theorem dX7_scanNumber_1 : decode cX7_scanNumber 1 = .ok (.iconst 3, 1) := by decide +kernel
theorem dX7_scanNumber_2 : decode cX7_scanNumber 2 = .ok (.putfield 335, 3) := by decide +kernel
theorem dX7_scanNumber_5 : decode cX7_scanNumber 5 = .ok (.aload_n 0, 1) := by decide +kernel
theorem dX7_scanNumber_6 : decode cX7_scanNumber 6 = .ok (.iconst 0, 1) := by decide +kernel
theorem dX7_scanNumber_7 : decode cX7_scanNumber 7 = .ok (.putfield 359, 3) := by decide +kernel
theorem dX7_scanNumber_10 : decode cX7_scanNumber 10 = .ok (.aload_n 0, 1) := by decide +kernel
theorem dX7_scanNumber_11 : decode cX7_scanNumber 11 = .ok (.aload_n 0, 1) := by decide +kernel
theorem dX7_scanNumber_12 : decode cX7_scanNumber 12 = .ok (.getfield 329, 3) := by decide +kernel
theorem dX7_scanNumber_15 : decode cX7_scanNumber 15 = .ok (.putfield 326, 3) := by decide +kernel
theorem dX7_scanNumber_18 : decode cX7_scanNumber 18 = .ok (.aload_n 0, 1) := by decide +kernel
theorem dX7_scanNumber_19 : decode cX7_scanNumber 19 = .ok (.aload_n 0, 1) := by decide +kernel
theorem dX7_scanNumber_20 : decode cX7_scanNumber 20 = .ok (.getfield 326, 3) := by decide +kernel
theorem dX7_scanNumber_23 : decode cX7_scanNumber 23 = .ok (.invokevirtual 338, 3) := by decide +kernel
theorem dX7_scanNumber_26 : decode cX7_scanNumber 26 = .ok (.invokestatic 347, 3) := by decide +kernel
theorem dX7_scanNumber_29 : decode cX7_scanNumber 29 = .ok (.ifCond .eq 58, 3) := by decide +kernel
theorem dX7_scanNumber_32 : decode cX7_scanNumber 32 = .ok (.aload_n 0, 1) := by decide +kernel
theorem dX7_scanNumber_33 : decode cX7_scanNumber 33 = .ok (.aload_n 0, 1) := by decide +kernel
theorem dX7_scanNumber_34 : decode cX7_scanNumber 34 = .ok (.getfield 326, 3) := by decide +kernel
theorem dX7_scanNumber_37 : decode cX7_scanNumber 37 = .ok (.aload_n 0, 1) := by decide +kernel
theorem dX7_scanNumber_38 : decode cX7_scanNumber 38 = .ok (.getfield 329, 3) := by decide +kernel
theorem dX7_scanNumber_41 : decode cX7_scanNumber 41 = .ok (.isub, 1) := by decide +kernel
theorem dX7_scanNumber_42 : decode cX7_scanNumber 42 = .ok (.iconst 3, 1) := by decide +kernel
theorem dX7_scanNumber_43 : decode cX7_scanNumber 43 = .ok (.if_icmp .ge 25, 3) := by decide +kernel
theorem dX7_scanNumber_46 : decode cX7_scanNumber 46 = .ok (.bipush 10, 2) := by decide +kernel
theorem dX7_scanNumber_48 : decode cX7_scanNumber 48 = .ok (.aload_n 0, 1) := by decide +kernel
theorem dX7_scanNumber_49 : decode cX7_scanNumber 49 = .ok (.getfield 359, 3) := by decide +kernel
theorem dX7_scanNumber_52 : decode cX7_scanNumber 52 = .ok (.imul, 1) := by decide +kernel
theorem dX7_scanNumber_53 : decode cX7_scanNumber 53 = .ok (.aload_n 0, 1) := by decide +kernel
theorem dX7_scanNumber_54 : decode cX7_scanNumber 54 = .ok (.aload_n 0, 1) := by decide +kernel
theorem dX7_scanNumber_55 : decode cX7_scanNumber 55 = .ok (.getfield 326, 3) := by decide +kernel
theorem dX7_scanNumber_58 : decode cX7_scanNumber 58 = .ok (.invokevirtual 338, 3) := by decide +kernel
theorem dX7_scanNumber_61 : decode cX7_scanNumber 61 = .ok (.iadd, 1) := by decide +kernel
theorem dX7_scanNumber_62 : decode cX7_scanNumber 62 = .ok (.bipush 48, 2) := by decide +kernel
theorem dX7_scanNumber_64 : decode cX7_scanNumber 64 = .ok (.isub, 1) := by decide +kernel
theorem dX7_scanNumber_65 : decode cX7_scanNumber 65 = .ok (.goto 6, 3) := by decide +kernel
theorem dX7_scanNumber_68 : decode cX7_scanNumber 68 = .ok (.sipush 1000, 3) := by decide +kernel
theorem dX7_scanNumber_71 : decode cX7_scanNumber 71 = .ok (.putfield 359, 3) := by decide +kernel
theorem dX7_scanNumber_74 : decode cX7_scanNumber 74 = .ok (.aload_n 0, 1) := by decide +kernel
theorem dX7_scanNumber_75 : decode cX7_scanNumber 75 = .ok (.dup, 1) := by decide +kernel
theorem dX7_scanNumber_76 : decode cX7_scanNumber 76 = .ok (.getfield 326, 3) := by decide +kernel
theorem dX7_scanNumber_79 : decode cX7_scanNumber 79 = .ok (.iconst 1, 1) := by decide +kernel
theorem dX7_scanNumber_80 : decode cX7_scanNumber 80 = .ok (.iadd, 1) := by decide +kernel
theorem dX7_scanNumber_81 : decode cX7_scanNumber 81 = .ok (.putfield 326, 3) := by decide +kernel
theorem dX7_scanNumber_84 : decode cX7_scanNumber 84 = .ok (.goto (-66), 3) := by decide +kernel
theorem dX7_scanNumber_87 : decode cX7_scanNumber 87 = .ok (.return_, 1) := by decide +kernel
theorem dX7_fail_0 : decode cX7_fail 0 = .ok (.aload_n 0, 1) := by decide +kernel
theorem dX7_fail_1 : decode cX7_fail 1 = .ok (.getfield 362, 3) := by decide +kernel
theorem dX7_fail_4 : decode cX7_fail 4 = .ok (.ifCond .le 4, 3) := by decide +kernel
theorem dX7_fail_7 : decode cX7_fail 7 = .ok (.return_, 1) := by decide +kernel
theorem dX7_fail_8 : decode cX7_fail 8 = .ok (.aload_n 0, 1) := by decide +kernel
theorem dX7_fail_9 : decode cX7_fail 9 = .ok (.iload_n 1, 1) := by decide +kernel
theorem dX7_fail_10 : decode cX7_fail 10 = .ok (.putfield 362, 3) := by decide +kernel
theorem dX7_fail_13 : decode cX7_fail 13 = .ok (.aload_n 0, 1) := by decide +kernel
theorem dX7_fail_14 : decode cX7_fail 14 = .ok (.aload_n 0, 1) := by decide +kernel
theorem dX7_fail_15 : decode cX7_fail 15 = .ok (.getfield 329, 3) := by decide +kernel
theorem dX7_fail_18 : decode cX7_fail 18 = .ok (.putfield 365, 3) := by decide +kernel
theorem dX7_fail_21 : decode cX7_fail 21 = .ok (.return_, 1) := by decide +kernel
theorem dX7_isAt_0 : decode cX7_isAt 0 = .ok (.aload_n 0, 1) := by decide +kernel
theorem dX7_isAt_1 : decode cX7_isAt 1 = .ok (.getfield 362, 3) := by decide +kernel
theorem dX7_isAt_4 : decode cX7_isAt 4 = .ok (.ifCond .ne 27, 3) := by decide +kernel
theorem dX7_isAt_7 : decode cX7_isAt 7 = .ok (.aload_n 0, 1) := by decide +kernel
theorem dX7_isAt_8 : decode cX7_isAt 8 = .ok (.getfield 335, 3) := by decide +kernel
theorem dX7_isAt_11 : decode cX7_isAt 11 = .ok (.iconst 4, 1) := by decide +kernel
theorem dX7_isAt_12 : decode cX7_isAt 12 = .ok (.if_icmp .ne 19, 3) := by decide +kernel
theorem dX7_isAt_15 : decode cX7_isAt 15 = .ok (.aload_n 0, 1) := by decide +kernel
theorem dX7_isAt_16 : decode cX7_isAt 16 = .ok (.aload_n 0, 1) := by decide +kernel
theorem dX7_isAt_17 : decode cX7_isAt 17 = .ok (.getfield 329, 3) := by decide +kernel
theorem dX7_isAt_20 : decode cX7_isAt 20 = .ok (.invokevirtual 338, 3) := by decide +kernel
theorem dX7_isAt_23 : decode cX7_isAt 23 = .ok (.iload_n 1, 1) := by decide +kernel
theorem dX7_isAt_24 : decode cX7_isAt 24 = .ok (.if_icmp .ne 7, 3) := by decide +kernel
theorem dX7_isAt_27 : decode cX7_isAt 27 = .ok (.iconst 1, 1) := by decide +kernel
theorem dX7_isAt_28 : decode cX7_isAt 28 = .ok (.goto 4, 3) := by decide +kernel
theorem dX7_isAt_31 : decode cX7_isAt 31 = .ok (.iconst 0, 1) := by decide +kernel
theorem dX7_isAt_32 : decode cX7_isAt 32 = .ok (.ireturn, 1) := by decide +kernel
theorem dX7_isWord_0 : decode cX7_isWord 0 = .ok (.aload_n 0, 1) := by decide +kernel
theorem dX7_isWord_1 : decode cX7_isWord 1 = .ok (.getfield 362, 3) := by decide +kernel
theorem dX7_isWord_4 : decode cX7_isWord 4 = .ok (.ifCond .ne 23, 3) := by decide +kernel
theorem dX7_isWord_7 : decode cX7_isWord 7 = .ok (.aload_n 0, 1) := by decide +kernel
theorem dX7_isWord_8 : decode cX7_isWord 8 = .ok (.getfield 335, 3) := by decide +kernel
theorem dX7_isWord_11 : decode cX7_isWord 11 = .ok (.iconst 2, 1) := by decide +kernel
theorem dX7_isWord_12 : decode cX7_isWord 12 = .ok (.if_icmp .ne 15, 3) := by decide +kernel
theorem dX7_isWord_15 : decode cX7_isWord 15 = .ok (.aload_n 0, 1) := by decide +kernel
theorem dX7_isWord_16 : decode cX7_isWord 16 = .ok (.getfield 356, 3) := by decide +kernel
theorem dX7_isWord_19 : decode cX7_isWord 19 = .ok (.iload_n 1, 1) := by decide +kernel
theorem dX7_isWord_20 : decode cX7_isWord 20 = .ok (.if_icmp .ne 7, 3) := by decide +kernel
theorem dX7_isWord_23 : decode cX7_isWord 23 = .ok (.iconst 1, 1) := by decide +kernel
theorem dX7_isWord_24 : decode cX7_isWord 24 = .ok (.goto 4, 3) := by decide +kernel
theorem dX7_isWord_27 : decode cX7_isWord 27 = .ok (.iconst 0, 1) := by decide +kernel
theorem dX7_isWord_28 : decode cX7_isWord 28 = .ok (.ireturn, 1) := by decide +kernel
theorem dX7_need_0 : decode cX7_need 0 = .ok (.aload_n 0, 1) := by decide +kernel
theorem dX7_need_1 : decode cX7_need 1 = .ok (.iload_n 1, 1) := by decide +kernel
theorem dX7_need_2 : decode cX7_need 2 = .ok (.invokevirtual 368, 3) := by decide +kernel
theorem dX7_need_5 : decode cX7_need 5 = .ok (.ifCond .eq 10, 3) := by decide +kernel
theorem dX7_need_8 : decode cX7_need 8 = .ok (.aload_n 0, 1) := by decide +kernel
theorem dX7_need_9 : decode cX7_need 9 = .ok (.invokevirtual 371, 3) := by decide +kernel
theorem dX7_need_12 : decode cX7_need 12 = .ok (.goto 8, 3) := by decide +kernel
theorem dX7_need_15 : decode cX7_need 15 = .ok (.aload_n 0, 1) := by decide +kernel
theorem dX7_need_16 : decode cX7_need 16 = .ok (.iconst 1, 1) := by decide +kernel
theorem dX7_need_17 : decode cX7_need 17 = .ok (.invokevirtual 374, 3) := by decide +kernel
theorem dX7_need_20 : decode cX7_need 20 = .ok (.return_, 1) := by decide +kernel
theorem dX7_numeral_0 : decode cX7_numeral 0 = .ok (.aload_n 0, 1) := by decide +kernel
theorem dX7_numeral_1 : decode cX7_numeral 1 = .ok (.getfield 335, 3) := by decide +kernel
theorem dX7_numeral_4 : decode cX7_numeral 4 = .ok (.iconst 3, 1) := by decide +kernel
theorem dX7_numeral_5 : decode cX7_numeral 5 = .ok (.if_icmp .eq 11, 3) := by decide +kernel
theorem dX7_numeral_8 : decode cX7_numeral 8 = .ok (.aload_n 0, 1) := by decide +kernel
theorem dX7_numeral_9 : decode cX7_numeral 9 = .ok (.iconst 1, 1) := by decide +kernel
theorem dX7_numeral_10 : decode cX7_numeral 10 = .ok (.invokevirtual 374, 3) := by decide +kernel
theorem dX7_numeral_13 : decode cX7_numeral 13 = .ok (.goto 20, 3) := by decide +kernel
theorem dX7_numeral_16 : decode cX7_numeral 16 = .ok (.aload_n 0, 1) := by decide +kernel
theorem dX7_numeral_17 : decode cX7_numeral 17 = .ok (.getfield 359, 3) := by decide +kernel
theorem dX7_numeral_20 : decode cX7_numeral 20 = .ok (.iload_n 1, 1) := by decide +kernel
theorem dX7_numeral_21 : decode cX7_numeral 21 = .ok (.iload_n 2, 1) := by decide +kernel
theorem dX7_numeral_22 : decode cX7_numeral 22 = .ok (.invokestatic 94, 3) := by decide +kernel
theorem dX7_numeral_25 : decode cX7_numeral 25 = .ok (.ifCond .ne 8, 3) := by decide +kernel
theorem dX7_numeral_28 : decode cX7_numeral 28 = .ok (.aload_n 0, 1) := by decide +kernel
theorem dX7_numeral_29 : decode cX7_numeral 29 = .ok (.iconst 2, 1) := by decide +kernel
theorem dX7_numeral_30 : decode cX7_numeral 30 = .ok (.invokevirtual 374, 3) := by decide +kernel
theorem dX7_numeral_33 : decode cX7_numeral 33 = .ok (.aload_n 0, 1) := by decide +kernel
theorem dX7_numeral_34 : decode cX7_numeral 34 = .ok (.getfield 359, 3) := by decide +kernel
theorem dX7_numeral_37 : decode cX7_numeral 37 = .ok (.istore_n 3, 1) := by decide +kernel
theorem dX7_numeral_38 : decode cX7_numeral 38 = .ok (.aload_n 0, 1) := by decide +kernel
theorem dX7_numeral_39 : decode cX7_numeral 39 = .ok (.getfield 362, 3) := by decide +kernel
theorem dX7_numeral_42 : decode cX7_numeral 42 = .ok (.ifCond .ne 7, 3) := by decide +kernel
theorem dX7_numeral_45 : decode cX7_numeral 45 = .ok (.aload_n 0, 1) := by decide +kernel
theorem dX7_numeral_46 : decode cX7_numeral 46 = .ok (.invokevirtual 371, 3) := by decide +kernel
theorem dX7_numeral_49 : decode cX7_numeral 49 = .ok (.iload_n 3, 1) := by decide +kernel
theorem dX7_numeral_50 : decode cX7_numeral 50 = .ok (.ireturn, 1) := by decide +kernel
theorem dX7_isLetterHere_0 : decode cX7_isLetterHere 0 = .ok (.aload_n 0, 1) := by decide +kernel
theorem dX7_isLetterHere_1 : decode cX7_isLetterHere 1 = .ok (.getfield 362, 3) := by decide +kernel
theorem dX7_isLetterHere_4 : decode cX7_isLetterHere 4 = .ok (.ifCond .ne 28, 3) := by decide +kernel
theorem dX7_isLetterHere_7 : decode cX7_isLetterHere 7 = .ok (.aload_n 0, 1) := by decide +kernel
theorem dX7_isLetterHere_8 : decode cX7_isLetterHere 8 = .ok (.getfield 335, 3) := by decide +kernel
theorem dX7_isLetterHere_11 : decode cX7_isLetterHere 11 = .ok (.iconst 2, 1) := by decide +kernel
theorem dX7_isLetterHere_12 : decode cX7_isLetterHere 12 = .ok (.if_icmp .ne 20, 3) := by decide +kernel
theorem dX7_isLetterHere_15 : decode cX7_isLetterHere 15 = .ok (.aload_n 0, 1) := by decide +kernel
theorem dX7_isLetterHere_16 : decode cX7_isLetterHere 16 = .ok (.getfield 356, 3) := by decide +kernel
theorem dX7_isLetterHere_19 : decode cX7_isLetterHere 19 = .ok (.iconst 1, 1) := by decide +kernel
theorem dX7_isLetterHere_20 : decode cX7_isLetterHere 20 = .ok (.bipush 6, 2) := by decide +kernel
theorem dX7_isLetterHere_22 : decode cX7_isLetterHere 22 = .ok (.invokestatic 94, 3) := by decide +kernel
theorem dX7_isLetterHere_25 : decode cX7_isLetterHere 25 = .ok (.ifCond .eq 7, 3) := by decide +kernel
theorem dX7_isLetterHere_28 : decode cX7_isLetterHere 28 = .ok (.iconst 1, 1) := by decide +kernel
theorem dX7_isLetterHere_29 : decode cX7_isLetterHere 29 = .ok (.goto 4, 3) := by decide +kernel
theorem dX7_isLetterHere_32 : decode cX7_isLetterHere 32 = .ok (.iconst 0, 1) := by decide +kernel
theorem dX7_isLetterHere_33 : decode cX7_isLetterHere 33 = .ok (.ireturn, 1) := by decide +kernel
theorem dX7_letter_0 : decode cX7_letter 0 = .ok (.aload_n 0, 1) := by decide +kernel
theorem dX7_letter_1 : decode cX7_letter 1 = .ok (.invokevirtual 377, 3) := by decide +kernel
theorem dX7_letter_4 : decode cX7_letter 4 = .ok (.ifCond .ne 8, 3) := by decide +kernel
theorem dX7_letter_7 : decode cX7_letter 7 = .ok (.aload_n 0, 1) := by decide +kernel
theorem dX7_letter_8 : decode cX7_letter 8 = .ok (.iconst 1, 1) := by decide +kernel
theorem dX7_letter_9 : decode cX7_letter 9 = .ok (.invokevirtual 374, 3) := by decide +kernel
theorem dX7_letter_12 : decode cX7_letter 12 = .ok (.aload_n 0, 1) := by decide +kernel
theorem dX7_letter_13 : decode cX7_letter 13 = .ok (.getfield 356, 3) := by decide +kernel
theorem dX7_letter_16 : decode cX7_letter 16 = .ok (.iconst 1, 1) := by decide +kernel
theorem dX7_letter_17 : decode cX7_letter 17 = .ok (.isub, 1) := by decide +kernel
theorem dX7_letter_18 : decode cX7_letter 18 = .ok (.istore_n 1, 1) := by decide +kernel
theorem dX7_letter_19 : decode cX7_letter 19 = .ok (.aload_n 0, 1) := by decide +kernel
theorem dX7_letter_20 : decode cX7_letter 20 = .ok (.getfield 362, 3) := by decide +kernel
theorem dX7_letter_23 : decode cX7_letter 23 = .ok (.ifCond .ne 7, 3) := by decide +kernel
theorem dX7_letter_26 : decode cX7_letter 26 = .ok (.aload_n 0, 1) := by decide +kernel
theorem dX7_letter_27 : decode cX7_letter 27 = .ok (.invokevirtual 371, 3) := by decide +kernel
theorem dX7_letter_30 : decode cX7_letter 30 = .ok (.iload_n 1, 1) := by decide +kernel
theorem dX7_letter_31 : decode cX7_letter 31 = .ok (.ireturn, 1) := by decide +kernel
theorem dX7_lay_0 : decode cX7_lay 0 = .ok (.aload_n 0, 1) := by decide +kernel
theorem dX7_lay_1 : decode cX7_lay 1 = .ok (.getfield 35, 3) := by decide +kernel
theorem dX7_lay_4 : decode cX7_lay 4 = .ok (.aload_n 0, 1) := by decide +kernel
theorem dX7_lay_5 : decode cX7_lay 5 = .ok (.getfield 380, 3) := by decide +kernel
theorem dX7_lay_8 : decode cX7_lay 8 = .ok (.iload_n 1, 1) := by decide +kernel
theorem dX7_lay_9 : decode cX7_lay 9 = .ok (.iastore, 1) := by decide +kernel
theorem dX7_lay_10 : decode cX7_lay 10 = .ok (.aload_n 0, 1) := by decide +kernel
theorem dX7_lay_11 : decode cX7_lay 11 = .ok (.getfield 38, 3) := by decide +kernel
theorem dX7_lay_14 : decode cX7_lay 14 = .ok (.aload_n 0, 1) := by decide +kernel
theorem dX7_lay_15 : decode cX7_lay 15 = .ok (.getfield 380, 3) := by decide +kernel
theorem dX7_lay_18 : decode cX7_lay 18 = .ok (.iload_n 2, 1) := by decide +kernel
theorem dX7_lay_19 : decode cX7_lay 19 = .ok (.iastore, 1) := by decide +kernel
theorem dX7_lay_20 : decode cX7_lay 20 = .ok (.aload_n 0, 1) := by decide +kernel
theorem dX7_lay_21 : decode cX7_lay 21 = .ok (.getfield 41, 3) := by decide +kernel
theorem dX7_lay_24 : decode cX7_lay 24 = .ok (.aload_n 0, 1) := by decide +kernel
theorem dX7_lay_25 : decode cX7_lay 25 = .ok (.getfield 380, 3) := by decide +kernel
theorem dX7_lay_28 : decode cX7_lay 28 = .ok (.iload_n 3, 1) := by decide +kernel
theorem dX7_lay_29 : decode cX7_lay 29 = .ok (.iastore, 1) := by decide +kernel
theorem dX7_lay_30 : decode cX7_lay 30 = .ok (.aload_n 0, 1) := by decide +kernel
theorem dX7_lay_31 : decode cX7_lay 31 = .ok (.getfield 44, 3) := by decide +kernel
theorem dX7_lay_34 : decode cX7_lay 34 = .ok (.aload_n 0, 1) := by decide +kernel
theorem dX7_lay_35 : decode cX7_lay 35 = .ok (.getfield 380, 3) := by decide +kernel
theorem dX7_lay_38 : decode cX7_lay 38 = .ok (.iload 4, 2) := by decide +kernel
theorem dX7_lay_40 : decode cX7_lay 40 = .ok (.iastore, 1) := by decide +kernel
theorem dX7_lay_41 : decode cX7_lay 41 = .ok (.aload_n 0, 1) := by decide +kernel
theorem dX7_lay_42 : decode cX7_lay 42 = .ok (.dup, 1) := by decide +kernel
theorem dX7_lay_43 : decode cX7_lay 43 = .ok (.getfield 380, 3) := by decide +kernel
theorem dX7_lay_46 : decode cX7_lay 46 = .ok (.iconst 1, 1) := by decide +kernel
theorem dX7_lay_47 : decode cX7_lay 47 = .ok (.iadd, 1) := by decide +kernel
theorem dX7_lay_48 : decode cX7_lay 48 = .ok (.putfield 380, 3) := by decide +kernel
theorem dX7_lay_51 : decode cX7_lay 51 = .ok (.aload_n 0, 1) := by decide +kernel
theorem dX7_lay_52 : decode cX7_lay 52 = .ok (.getfield 47, 3) := by decide +kernel
theorem dX7_lay_55 : decode cX7_lay 55 = .ok (.aload_n 0, 1) := by decide +kernel
theorem dX7_lay_56 : decode cX7_lay 56 = .ok (.getfield 380, 3) := by decide +kernel
theorem dX7_lay_59 : decode cX7_lay 59 = .ok (.iconst 1, 1) := by decide +kernel
theorem dX7_lay_60 : decode cX7_lay 60 = .ok (.isub, 1) := by decide +kernel
theorem dX7_lay_61 : decode cX7_lay 61 = .ok (.aload_n 0, 1) := by decide +kernel
theorem dX7_lay_62 : decode cX7_lay 62 = .ok (.getfield 380, 3) := by decide +kernel
theorem dX7_lay_65 : decode cX7_lay 65 = .ok (.iastore, 1) := by decide +kernel
theorem dX7_lay_66 : decode cX7_lay 66 = .ok (.return_, 1) := by decide +kernel
theorem dX7_canBegin_0 : decode cX7_canBegin 0 = .ok (.aload_n 0, 1) := by decide +kernel
theorem dX7_canBegin_1 : decode cX7_canBegin 1 = .ok (.invokevirtual 377, 3) := by decide +kernel
theorem dX7_canBegin_4 : decode cX7_canBegin 4 = .ok (.ifCond .ne 33, 3) := by decide +kernel
theorem dX7_canBegin_7 : decode cX7_canBegin 7 = .ok (.aload_n 0, 1) := by decide +kernel
theorem dX7_canBegin_8 : decode cX7_canBegin 8 = .ok (.ldc_w 383, 3) := by decide +kernel
theorem dX7_canBegin_11 : decode cX7_canBegin 11 = .ok (.invokevirtual 384, 3) := by decide +kernel
theorem dX7_canBegin_14 : decode cX7_canBegin 14 = .ok (.ifCond .ne 23, 3) := by decide +kernel
theorem dX7_canBegin_17 : decode cX7_canBegin 17 = .ok (.aload_n 0, 1) := by decide +kernel
theorem dX7_canBegin_18 : decode cX7_canBegin 18 = .ok (.ldc_w 387, 3) := by decide +kernel
theorem dX7_canBegin_21 : decode cX7_canBegin 21 = .ok (.invokevirtual 384, 3) := by decide +kernel
theorem dX7_canBegin_24 : decode cX7_canBegin 24 = .ok (.ifCond .ne 13, 3) := by decide +kernel
theorem dX7_canBegin_27 : decode cX7_canBegin 27 = .ok (.aload_n 0, 1) := by decide +kernel
theorem dX7_canBegin_28 : decode cX7_canBegin 28 = .ok (.sipush 294, 3) := by decide +kernel
theorem dX7_canBegin_31 : decode cX7_canBegin 31 = .ok (.invokevirtual 384, 3) := by decide +kernel
theorem dX7_canBegin_34 : decode cX7_canBegin 34 = .ok (.ifCond .eq 7, 3) := by decide +kernel
theorem dX7_canBegin_37 : decode cX7_canBegin 37 = .ok (.iconst 1, 1) := by decide +kernel
theorem dX7_canBegin_38 : decode cX7_canBegin 38 = .ok (.goto 4, 3) := by decide +kernel
theorem dX7_canBegin_41 : decode cX7_canBegin 41 = .ok (.iconst 0, 1) := by decide +kernel
theorem dX7_canBegin_42 : decode cX7_canBegin 42 = .ok (.ireturn, 1) := by decide +kernel
theorem dX7_readItem_0 : decode cX7_readItem 0 = .ok (.aload_n 0, 1) := by decide +kernel
theorem dX7_readItem_1 : decode cX7_readItem 1 = .ok (.invokevirtual 388, 3) := by decide +kernel
theorem dX7_readItem_4 : decode cX7_readItem 4 = .ok (.ifCond .ne 11, 3) := by decide +kernel
theorem dX7_readItem_7 : decode cX7_readItem 7 = .ok (.aload_n 0, 1) := by decide +kernel
theorem dX7_readItem_8 : decode cX7_readItem 8 = .ok (.iconst 1, 1) := by decide +kernel
theorem dX7_readItem_9 : decode cX7_readItem 9 = .ok (.invokevirtual 374, 3) := by decide +kernel
theorem dX7_readItem_12 : decode cX7_readItem 12 = .ok (.goto 25, 3) := by decide +kernel
theorem dX7_readItem_15 : decode cX7_readItem 15 = .ok (.aload_n 0, 1) := by decide +kernel
theorem dX7_readItem_16 : decode cX7_readItem 16 = .ok (.getfield 391, 3) := by decide +kernel
theorem dX7_readItem_19 : decode cX7_readItem 19 = .ok (.iconst 3, 1) := by decide +kernel
theorem dX7_readItem_20 : decode cX7_readItem 20 = .ok (.if_icmp .gt 12, 3) := by decide +kernel
theorem dX7_readItem_23 : decode cX7_readItem 23 = .ok (.aload_n 0, 1) := by decide +kernel
theorem dX7_readItem_24 : decode cX7_readItem 24 = .ok (.getfield 380, 3) := by decide +kernel
theorem dX7_readItem_27 : decode cX7_readItem 27 = .ok (.bipush 40, 2) := by decide +kernel
theorem dX7_readItem_29 : decode cX7_readItem 29 = .ok (.if_icmp .ne 8, 3) := by decide +kernel
theorem dX7_readItem_32 : decode cX7_readItem 32 = .ok (.aload_n 0, 1) := by decide +kernel
theorem dX7_readItem_33 : decode cX7_readItem 33 = .ok (.iconst 3, 1) := by decide +kernel
theorem dX7_readItem_34 : decode cX7_readItem 34 = .ok (.invokevirtual 374, 3) := by decide +kernel
theorem dX7_readItem_37 : decode cX7_readItem 37 = .ok (.aload_n 0, 1) := by decide +kernel
theorem dX7_readItem_38 : decode cX7_readItem 38 = .ok (.getfield 362, 3) := by decide +kernel
theorem dX7_readItem_41 : decode cX7_readItem 41 = .ok (.ifCond .le 4, 3) := by decide +kernel
theorem dX7_readItem_44 : decode cX7_readItem 44 = .ok (.return_, 1) := by decide +kernel
theorem dX7_readItem_45 : decode cX7_readItem 45 = .ok (.aload_n 0, 1) := by decide +kernel
theorem dX7_readItem_46 : decode cX7_readItem 46 = .ok (.ldc_w 383, 3) := by decide +kernel
theorem dX7_readItem_49 : decode cX7_readItem 49 = .ok (.invokevirtual 384, 3) := by decide +kernel
theorem dX7_readItem_52 : decode cX7_readItem 52 = .ok (.ifCond .eq 10, 3) := by decide +kernel
theorem dX7_readItem_55 : decode cX7_readItem 55 = .ok (.aload_n 0, 1) := by decide +kernel
theorem dX7_readItem_56 : decode cX7_readItem 56 = .ok (.invokevirtual 394, 3) := by decide +kernel
theorem dX7_readItem_59 : decode cX7_readItem 59 = .ok (.goto 41, 3) := by decide +kernel
theorem dX7_readItem_62 : decode cX7_readItem 62 = .ok (.aload_n 0, 1) := by decide +kernel
theorem dX7_readItem_63 : decode cX7_readItem 63 = .ok (.ldc_w 387, 3) := by decide +kernel
theorem dX7_readItem_66 : decode cX7_readItem 66 = .ok (.invokevirtual 384, 3) := by decide +kernel
theorem dX7_readItem_69 : decode cX7_readItem 69 = .ok (.ifCond .ne 13, 3) := by decide +kernel
theorem dX7_readItem_72 : decode cX7_readItem 72 = .ok (.aload_n 0, 1) := by decide +kernel
theorem dX7_readItem_73 : decode cX7_readItem 73 = .ok (.sipush 294, 3) := by decide +kernel
theorem dX7_readItem_76 : decode cX7_readItem 76 = .ok (.invokevirtual 384, 3) := by decide +kernel
theorem dX7_readItem_79 : decode cX7_readItem 79 = .ok (.ifCond .eq 17, 3) := by decide +kernel
theorem dX7_readItem_82 : decode cX7_readItem 82 = .ok (.aload_n 0, 1) := by decide +kernel
theorem dX7_readItem_83 : decode cX7_readItem 83 = .ok (.aload_n 0, 1) := by decide +kernel
theorem dX7_readItem_84 : decode cX7_readItem 84 = .ok (.ldc_w 387, 3) := by decide +kernel
theorem dX7_readItem_87 : decode cX7_readItem 87 = .ok (.invokevirtual 384, 3) := by decide +kernel
theorem dX7_readItem_90 : decode cX7_readItem 90 = .ok (.invokevirtual 397, 3) := by decide +kernel
theorem dX7_readItem_93 : decode cX7_readItem 93 = .ok (.goto 7, 3) := by decide +kernel
theorem dX7_readItem_96 : decode cX7_readItem 96 = .ok (.aload_n 0, 1) := by decide +kernel
theorem dX7_readItem_97 : decode cX7_readItem 97 = .ok (.invokevirtual 401, 3) := by decide +kernel
theorem dX7_readItem_100 : decode cX7_readItem 100 = .ok (.return_, 1) := by decide +kernel
theorem dX7_readStep_0 : decode cX7_readStep 0 = .ok (.aload_n 0, 1) := by decide +kernel
theorem dX7_readStep_1 : decode cX7_readStep 1 = .ok (.invokevirtual 371, 3) := by decide +kernel
theorem dX7_readStep_4 : decode cX7_readStep 4 = .ok (.aload_n 0, 1) := by decide +kernel
theorem dX7_readStep_5 : decode cX7_readStep 5 = .ok (.iconst 1, 1) := by decide +kernel
theorem dX7_readStep_6 : decode cX7_readStep 6 = .ok (.bipush 99, 2) := by decide +kernel
theorem dX7_readStep_8 : decode cX7_readStep 8 = .ok (.invokevirtual 404, 3) := by decide +kernel
theorem dX7_readStep_11 : decode cX7_readStep 11 = .ok (.istore_n 1, 1) := by decide +kernel
theorem dX7_readStep_12 : decode cX7_readStep 12 = .ok (.aload_n 0, 1) := by decide +kernel
theorem dX7_readStep_13 : decode cX7_readStep 13 = .ok (.bipush 59, 2) := by decide +kernel
theorem dX7_readStep_15 : decode cX7_readStep 15 = .ok (.invokevirtual 407, 3) := by decide +kernel
theorem dX7_readStep_18 : decode cX7_readStep 18 = .ok (.aload_n 0, 1) := by decide +kernel
theorem dX7_readStep_19 : decode cX7_readStep 19 = .ok (.bipush 6, 2) := by decide +kernel
theorem dX7_readStep_21 : decode cX7_readStep 21 = .ok (.iload_n 1, 1) := by decide +kernel
theorem dX7_readStep_22 : decode cX7_readStep 22 = .ok (.iconst 0, 1) := by decide +kernel
theorem dX7_readStep_23 : decode cX7_readStep 23 = .ok (.iconst 0, 1) := by decide +kernel
theorem dX7_readStep_24 : decode cX7_readStep 24 = .ok (.invokevirtual 410, 3) := by decide +kernel
theorem dX7_readStep_27 : decode cX7_readStep 27 = .ok (.return_, 1) := by decide +kernel
theorem dX7_readBlock_0 : decode cX7_readBlock 0 = .ok (.aload_n 0, 1) := by decide +kernel
theorem dX7_readBlock_1 : decode cX7_readBlock 1 = .ok (.invokevirtual 371, 3) := by decide +kernel
theorem dX7_readBlock_4 : decode cX7_readBlock 4 = .ok (.iload_n 1, 1) := by decide +kernel
theorem dX7_readBlock_5 : decode cX7_readBlock 5 = .ok (.ifCond .eq 13, 3) := by decide +kernel
theorem dX7_readBlock_8 : decode cX7_readBlock 8 = .ok (.aload_n 0, 1) := by decide +kernel
theorem dX7_readBlock_9 : decode cX7_readBlock 9 = .ok (.iconst 2, 1) := by decide +kernel
theorem dX7_readBlock_10 : decode cX7_readBlock 10 = .ok (.bipush 9, 2) := by decide +kernel
theorem dX7_readBlock_12 : decode cX7_readBlock 12 = .ok (.invokevirtual 404, 3) := by decide +kernel
theorem dX7_readBlock_15 : decode cX7_readBlock 15 = .ok (.goto 7, 3) := by decide +kernel
theorem dX7_readBlock_18 : decode cX7_readBlock 18 = .ok (.aload_n 0, 1) := by decide +kernel
theorem dX7_readBlock_19 : decode cX7_readBlock 19 = .ok (.invokevirtual 414, 3) := by decide +kernel
theorem dX7_readBlock_22 : decode cX7_readBlock 22 = .ok (.istore_n 2, 1) := by decide +kernel
theorem dX7_readBlock_23 : decode cX7_readBlock 23 = .ok (.aload_n 0, 1) := by decide +kernel
theorem dX7_readBlock_24 : decode cX7_readBlock 24 = .ok (.bipush 123, 2) := by decide +kernel
theorem dX7_readBlock_26 : decode cX7_readBlock 26 = .ok (.invokevirtual 407, 3) := by decide +kernel
theorem dX7_readBlock_29 : decode cX7_readBlock 29 = .ok (.aload_n 0, 1) := by decide +kernel
theorem dX7_readBlock_30 : decode cX7_readBlock 30 = .ok (.getfield 362, 3) := by decide +kernel
theorem dX7_readBlock_33 : decode cX7_readBlock 33 = .ok (.ifCond .le 4, 3) := by decide +kernel
theorem dX7_readBlock_36 : decode cX7_readBlock 36 = .ok (.return_, 1) := by decide +kernel
theorem dX7_readBlock_37 : decode cX7_readBlock 37 = .ok (.aload_n 0, 1) := by decide +kernel
theorem dX7_readBlock_38 : decode cX7_readBlock 38 = .ok (.getfield 69, 3) := by decide +kernel
theorem dX7_readBlock_41 : decode cX7_readBlock 41 = .ok (.aload_n 0, 1) := by decide +kernel
theorem dX7_readBlock_42 : decode cX7_readBlock 42 = .ok (.getfield 391, 3) := by decide +kernel
theorem dX7_readBlock_45 : decode cX7_readBlock 45 = .ok (.aload_n 0, 1) := by decide +kernel
theorem dX7_readBlock_46 : decode cX7_readBlock 46 = .ok (.getfield 380, 3) := by decide +kernel
theorem dX7_readBlock_49 : decode cX7_readBlock 49 = .ok (.iastore, 1) := by decide +kernel
theorem dX7_readBlock_50 : decode cX7_readBlock 50 = .ok (.aload_n 0, 1) := by decide +kernel
theorem dX7_readBlock_51 : decode cX7_readBlock 51 = .ok (.dup, 1) := by decide +kernel
theorem dX7_readBlock_52 : decode cX7_readBlock 52 = .ok (.getfield 391, 3) := by decide +kernel
theorem dX7_readBlock_55 : decode cX7_readBlock 55 = .ok (.iconst 1, 1) := by decide +kernel
theorem dX7_readBlock_56 : decode cX7_readBlock 56 = .ok (.iadd, 1) := by decide +kernel
theorem dX7_readBlock_57 : decode cX7_readBlock 57 = .ok (.putfield 391, 3) := by decide +kernel
theorem dX7_readBlock_60 : decode cX7_readBlock 60 = .ok (.aload_n 0, 1) := by decide +kernel
end
section
theorem dX7_readBlock_61 : decode cX7_readBlock 61 = .ok (.iload_n 1, 1) := by decide +kernel
theorem dX7_readBlock_62 : decode cX7_readBlock 62 = .ok (.ifCond .eq 8, 3) := by decide +kernel
theorem dX7_readBlock_65 : decode cX7_readBlock 65 = .ok (.bipush 7, 2) := by decide +kernel
theorem dX7_readBlock_67 : decode cX7_readBlock 67 = .ok (.goto 5, 3) := by decide +kernel
theorem dX7_readBlock_70 : decode cX7_readBlock 70 = .ok (.bipush 8, 2) := by decide +kernel
theorem dX7_readBlock_72 : decode cX7_readBlock 72 = .ok (.iload_n 2, 1) := by decide +kernel
theorem dX7_readBlock_73 : decode cX7_readBlock 73 = .ok (.iconst 0, 1) := by decide +kernel
theorem dX7_readBlock_74 : decode cX7_readBlock 74 = .ok (.iconst 0, 1) := by decide +kernel
theorem dX7_readBlock_75 : decode cX7_readBlock 75 = .ok (.invokevirtual 410, 3) := by decide +kernel
theorem dX7_readBlock_78 : decode cX7_readBlock 78 = .ok (.return_, 1) := by decide +kernel
theorem dX7_readDeed_0 : decode cX7_readDeed 0 = .ok (.aload_n 0, 1) := by decide +kernel
theorem dX7_readDeed_1 : decode cX7_readDeed 1 = .ok (.invokevirtual 414, 3) := by decide +kernel
theorem dX7_readDeed_4 : decode cX7_readDeed 4 = .ok (.istore_n 1, 1) := by decide +kernel
theorem dX7_readDeed_5 : decode cX7_readDeed 5 = .ok (.aload_n 0, 1) := by decide +kernel
theorem dX7_readDeed_6 : decode cX7_readDeed 6 = .ok (.bipush 46, 2) := by decide +kernel
theorem dX7_readDeed_8 : decode cX7_readDeed 8 = .ok (.invokevirtual 368, 3) := by decide +kernel
theorem dX7_readDeed_11 : decode cX7_readDeed 11 = .ok (.ifCond .eq 15, 3) := by decide +kernel
theorem dX7_readDeed_14 : decode cX7_readDeed 14 = .ok (.aload_n 0, 1) := by decide +kernel
theorem dX7_readDeed_15 : decode cX7_readDeed 15 = .ok (.invokevirtual 371, 3) := by decide +kernel
theorem dX7_readDeed_18 : decode cX7_readDeed 18 = .ok (.aload_n 0, 1) := by decide +kernel
theorem dX7_readDeed_19 : decode cX7_readDeed 19 = .ok (.iload_n 1, 1) := by decide +kernel
theorem dX7_readDeed_20 : decode cX7_readDeed 20 = .ok (.invokevirtual 417, 3) := by decide +kernel
theorem dX7_readDeed_23 : decode cX7_readDeed 23 = .ok (.goto 14, 3) := by decide +kernel
theorem dX7_readDeed_26 : decode cX7_readDeed 26 = .ok (.aload_n 0, 1) := by decide +kernel
theorem dX7_readDeed_27 : decode cX7_readDeed 27 = .ok (.bipush 61, 2) := by decide +kernel
theorem dX7_readDeed_29 : decode cX7_readDeed 29 = .ok (.invokevirtual 407, 3) := by decide +kernel
theorem dX7_readDeed_32 : decode cX7_readDeed 32 = .ok (.aload_n 0, 1) := by decide +kernel
theorem dX7_readDeed_33 : decode cX7_readDeed 33 = .ok (.iload_n 1, 1) := by decide +kernel
theorem dX7_readDeed_34 : decode cX7_readDeed 34 = .ok (.invokevirtual 420, 3) := by decide +kernel
theorem dX7_readDeed_37 : decode cX7_readDeed 37 = .ok (.aload_n 0, 1) := by decide +kernel
theorem dX7_readDeed_38 : decode cX7_readDeed 38 = .ok (.bipush 59, 2) := by decide +kernel
theorem dX7_readDeed_40 : decode cX7_readDeed 40 = .ok (.invokevirtual 407, 3) := by decide +kernel
theorem dX7_readDeed_43 : decode cX7_readDeed 43 = .ok (.return_, 1) := by decide +kernel
theorem dX7_readStore_0 : decode cX7_readStore 0 = .ok (.aload_n 0, 1) := by decide +kernel
theorem dX7_readStore_1 : decode cX7_readStore 1 = .ok (.iconst 0, 1) := by decide +kernel
theorem dX7_readStore_2 : decode cX7_readStore 2 = .ok (.bipush 6, 2) := by decide +kernel
theorem dX7_readStore_4 : decode cX7_readStore 4 = .ok (.invokevirtual 404, 3) := by decide +kernel
theorem dX7_readStore_7 : decode cX7_readStore 7 = .ok (.istore_n 2, 1) := by decide +kernel
theorem dX7_readStore_8 : decode cX7_readStore 8 = .ok (.aload_n 0, 1) := by decide +kernel
theorem dX7_readStore_9 : decode cX7_readStore 9 = .ok (.bipush 61, 2) := by decide +kernel
theorem dX7_readStore_11 : decode cX7_readStore 11 = .ok (.invokevirtual 407, 3) := by decide +kernel
theorem dX7_readStore_14 : decode cX7_readStore 14 = .ok (.aload_n 0, 1) := by decide +kernel
theorem dX7_readStore_15 : decode cX7_readStore 15 = .ok (.ldc_w 423, 3) := by decide +kernel
theorem dX7_readStore_18 : decode cX7_readStore 18 = .ok (.invokevirtual 384, 3) := by decide +kernel
theorem dX7_readStore_21 : decode cX7_readStore 21 = .ok (.ifCond .eq 18, 3) := by decide +kernel
theorem dX7_readStore_24 : decode cX7_readStore 24 = .ok (.aload_n 0, 1) := by decide +kernel
theorem dX7_readStore_25 : decode cX7_readStore 25 = .ok (.invokevirtual 371, 3) := by decide +kernel
theorem dX7_readStore_28 : decode cX7_readStore 28 = .ok (.aload_n 0, 1) := by decide +kernel
theorem dX7_readStore_29 : decode cX7_readStore 29 = .ok (.iconst 5, 1) := by decide +kernel
theorem dX7_readStore_30 : decode cX7_readStore 30 = .ok (.iload_n 1, 1) := by decide +kernel
theorem dX7_readStore_31 : decode cX7_readStore 31 = .ok (.iload_n 2, 1) := by decide +kernel
theorem dX7_readStore_32 : decode cX7_readStore 32 = .ok (.iconst 0, 1) := by decide +kernel
theorem dX7_readStore_33 : decode cX7_readStore 33 = .ok (.invokevirtual 410, 3) := by decide +kernel
theorem dX7_readStore_36 : decode cX7_readStore 36 = .ok (.goto 14, 3) := by decide +kernel
theorem dX7_readStore_39 : decode cX7_readStore 39 = .ok (.aload_n 0, 1) := by decide +kernel
theorem dX7_readStore_40 : decode cX7_readStore 40 = .ok (.iconst 4, 1) := by decide +kernel
theorem dX7_readStore_41 : decode cX7_readStore 41 = .ok (.iload_n 1, 1) := by decide +kernel
theorem dX7_readStore_42 : decode cX7_readStore 42 = .ok (.iload_n 2, 1) := by decide +kernel
theorem dX7_readStore_43 : decode cX7_readStore 43 = .ok (.aload_n 0, 1) := by decide +kernel
theorem dX7_readStore_44 : decode cX7_readStore 44 = .ok (.invokevirtual 414, 3) := by decide +kernel
theorem dX7_readStore_47 : decode cX7_readStore 47 = .ok (.invokevirtual 410, 3) := by decide +kernel
theorem dX7_readStore_50 : decode cX7_readStore 50 = .ok (.return_, 1) := by decide +kernel
theorem dX7_readNaming_0 : decode cX7_readNaming 0 = .ok (.aload_n 0, 1) := by decide +kernel
theorem dX7_readNaming_1 : decode cX7_readNaming 1 = .ok (.sipush 14519, 3) := by decide +kernel
theorem dX7_readNaming_4 : decode cX7_readNaming 4 = .ok (.invokevirtual 384, 3) := by decide +kernel
theorem dX7_readNaming_7 : decode cX7_readNaming 7 = .ok (.ifCond .eq 24, 3) := by decide +kernel
theorem dX7_readNaming_10 : decode cX7_readNaming 10 = .ok (.aload_n 0, 1) := by decide +kernel
theorem dX7_readNaming_11 : decode cX7_readNaming 11 = .ok (.invokevirtual 371, 3) := by decide +kernel
theorem dX7_readNaming_14 : decode cX7_readNaming 14 = .ok (.aload_n 0, 1) := by decide +kernel
theorem dX7_readNaming_15 : decode cX7_readNaming 15 = .ok (.iconst 0, 1) := by decide +kernel
theorem dX7_readNaming_16 : decode cX7_readNaming 16 = .ok (.iload_n 1, 1) := by decide +kernel
theorem dX7_readNaming_17 : decode cX7_readNaming 17 = .ok (.aload_n 0, 1) := by decide +kernel
theorem dX7_readNaming_18 : decode cX7_readNaming 18 = .ok (.iconst 0, 1) := by decide +kernel
theorem dX7_readNaming_19 : decode cX7_readNaming 19 = .ok (.bipush 7, 2) := by decide +kernel
theorem dX7_readNaming_21 : decode cX7_readNaming 21 = .ok (.invokevirtual 404, 3) := by decide +kernel
theorem dX7_readNaming_24 : decode cX7_readNaming 24 = .ok (.iconst 0, 1) := by decide +kernel
theorem dX7_readNaming_25 : decode cX7_readNaming 25 = .ok (.invokevirtual 410, 3) := by decide +kernel
theorem dX7_readNaming_28 : decode cX7_readNaming 28 = .ok (.goto 71, 3) := by decide +kernel
theorem dX7_readNaming_31 : decode cX7_readNaming 31 = .ok (.aload_n 0, 1) := by decide +kernel
theorem dX7_readNaming_32 : decode cX7_readNaming 32 = .ok (.ldc_w 423, 3) := by decide +kernel
theorem dX7_readNaming_35 : decode cX7_readNaming 35 = .ok (.invokevirtual 384, 3) := by decide +kernel
theorem dX7_readNaming_38 : decode cX7_readNaming 38 = .ok (.ifCond .eq 18, 3) := by decide +kernel
theorem dX7_readNaming_41 : decode cX7_readNaming 41 = .ok (.aload_n 0, 1) := by decide +kernel
theorem dX7_readNaming_42 : decode cX7_readNaming 42 = .ok (.invokevirtual 371, 3) := by decide +kernel
theorem dX7_readNaming_45 : decode cX7_readNaming 45 = .ok (.aload_n 0, 1) := by decide +kernel
theorem dX7_readNaming_46 : decode cX7_readNaming 46 = .ok (.iconst 1, 1) := by decide +kernel
theorem dX7_readNaming_47 : decode cX7_readNaming 47 = .ok (.iload_n 1, 1) := by decide +kernel
theorem dX7_readNaming_48 : decode cX7_readNaming 48 = .ok (.iconst 0, 1) := by decide +kernel
theorem dX7_readNaming_49 : decode cX7_readNaming 49 = .ok (.iconst 0, 1) := by decide +kernel
theorem dX7_readNaming_50 : decode cX7_readNaming 50 = .ok (.invokevirtual 410, 3) := by decide +kernel
theorem dX7_readNaming_53 : decode cX7_readNaming 53 = .ok (.goto 46, 3) := by decide +kernel
theorem dX7_readNaming_56 : decode cX7_readNaming 56 = .ok (.aload_n 0, 1) := by decide +kernel
theorem dX7_readNaming_57 : decode cX7_readNaming 57 = .ok (.invokevirtual 414, 3) := by decide +kernel
theorem dX7_readNaming_60 : decode cX7_readNaming 60 = .ok (.istore_n 2, 1) := by decide +kernel
theorem dX7_readNaming_61 : decode cX7_readNaming 61 = .ok (.aload_n 0, 1) := by decide +kernel
theorem dX7_readNaming_62 : decode cX7_readNaming 62 = .ok (.bipush 46, 2) := by decide +kernel
theorem dX7_readNaming_64 : decode cX7_readNaming 64 = .ok (.invokevirtual 368, 3) := by decide +kernel
theorem dX7_readNaming_67 : decode cX7_readNaming 67 = .ok (.ifCond .eq 24, 3) := by decide +kernel
theorem dX7_readNaming_70 : decode cX7_readNaming 70 = .ok (.aload_n 0, 1) := by decide +kernel
theorem dX7_readNaming_71 : decode cX7_readNaming 71 = .ok (.invokevirtual 371, 3) := by decide +kernel
theorem dX7_readNaming_74 : decode cX7_readNaming 74 = .ok (.aload_n 0, 1) := by decide +kernel
theorem dX7_readNaming_75 : decode cX7_readNaming 75 = .ok (.iconst 3, 1) := by decide +kernel
theorem dX7_readNaming_76 : decode cX7_readNaming 76 = .ok (.iload_n 1, 1) := by decide +kernel
theorem dX7_readNaming_77 : decode cX7_readNaming 77 = .ok (.iload_n 2, 1) := by decide +kernel
theorem dX7_readNaming_78 : decode cX7_readNaming 78 = .ok (.aload_n 0, 1) := by decide +kernel
theorem dX7_readNaming_79 : decode cX7_readNaming 79 = .ok (.iconst 0, 1) := by decide +kernel
theorem dX7_readNaming_80 : decode cX7_readNaming 80 = .ok (.bipush 6, 2) := by decide +kernel
theorem dX7_readNaming_82 : decode cX7_readNaming 82 = .ok (.invokevirtual 404, 3) := by decide +kernel
theorem dX7_readNaming_85 : decode cX7_readNaming 85 = .ok (.invokevirtual 410, 3) := by decide +kernel
theorem dX7_readNaming_88 : decode cX7_readNaming 88 = .ok (.goto 11, 3) := by decide +kernel
theorem dX7_readNaming_91 : decode cX7_readNaming 91 = .ok (.aload_n 0, 1) := by decide +kernel
theorem dX7_readNaming_92 : decode cX7_readNaming 92 = .ok (.iconst 2, 1) := by decide +kernel
theorem dX7_readNaming_93 : decode cX7_readNaming 93 = .ok (.iload_n 1, 1) := by decide +kernel
theorem dX7_readNaming_94 : decode cX7_readNaming 94 = .ok (.iload_n 2, 1) := by decide +kernel
theorem dX7_readNaming_95 : decode cX7_readNaming 95 = .ok (.iconst 0, 1) := by decide +kernel
theorem dX7_readNaming_96 : decode cX7_readNaming 96 = .ok (.invokevirtual 410, 3) := by decide +kernel
theorem dX7_readNaming_99 : decode cX7_readNaming 99 = .ok (.return_, 1) := by decide +kernel
theorem dX7_readAll_0 : decode cX7_readAll 0 = .ok (.aload_n 0, 1) := by decide +kernel
theorem dX7_readAll_1 : decode cX7_readAll 1 = .ok (.invokevirtual 371, 3) := by decide +kernel
theorem dX7_readAll_4 : decode cX7_readAll 4 = .ok (.aload_n 0, 1) := by decide +kernel
theorem dX7_readAll_5 : decode cX7_readAll 5 = .ok (.getfield 362, 3) := by decide +kernel
theorem dX7_readAll_8 : decode cX7_readAll 8 = .ok (.ifCond .ne 68, 3) := by decide +kernel
theorem dX7_readAll_11 : decode cX7_readAll 11 = .ok (.aload_n 0, 1) := by decide +kernel
theorem dX7_readAll_12 : decode cX7_readAll 12 = .ok (.getfield 335, 3) := by decide +kernel
theorem dX7_readAll_15 : decode cX7_readAll 15 = .ok (.ifCond .eq 61, 3) := by decide +kernel
theorem dX7_readAll_18 : decode cX7_readAll 18 = .ok (.aload_n 0, 1) := by decide +kernel
theorem dX7_readAll_19 : decode cX7_readAll 19 = .ok (.bipush 125, 2) := by decide +kernel
theorem dX7_readAll_21 : decode cX7_readAll 21 = .ok (.invokevirtual 368, 3) := by decide +kernel
theorem dX7_readAll_24 : decode cX7_readAll 24 = .ok (.ifCond .eq 45, 3) := by decide +kernel
theorem dX7_readAll_27 : decode cX7_readAll 27 = .ok (.aload_n 0, 1) := by decide +kernel
theorem dX7_readAll_28 : decode cX7_readAll 28 = .ok (.getfield 391, 3) := by decide +kernel
theorem dX7_readAll_31 : decode cX7_readAll 31 = .ok (.ifCond .le 38, 3) := by decide +kernel
theorem dX7_readAll_34 : decode cX7_readAll 34 = .ok (.aload_n 0, 1) := by decide +kernel
theorem dX7_readAll_35 : decode cX7_readAll 35 = .ok (.dup, 1) := by decide +kernel
theorem dX7_readAll_36 : decode cX7_readAll 36 = .ok (.getfield 391, 3) := by decide +kernel
theorem dX7_readAll_39 : decode cX7_readAll 39 = .ok (.iconst 1, 1) := by decide +kernel
theorem dX7_readAll_40 : decode cX7_readAll 40 = .ok (.isub, 1) := by decide +kernel
theorem dX7_readAll_41 : decode cX7_readAll 41 = .ok (.putfield 391, 3) := by decide +kernel
theorem dX7_readAll_44 : decode cX7_readAll 44 = .ok (.aload_n 0, 1) := by decide +kernel
theorem dX7_readAll_45 : decode cX7_readAll 45 = .ok (.getfield 47, 3) := by decide +kernel
theorem dX7_readAll_48 : decode cX7_readAll 48 = .ok (.aload_n 0, 1) := by decide +kernel
theorem dX7_readAll_49 : decode cX7_readAll 49 = .ok (.getfield 69, 3) := by decide +kernel
theorem dX7_readAll_52 : decode cX7_readAll 52 = .ok (.aload_n 0, 1) := by decide +kernel
theorem dX7_readAll_53 : decode cX7_readAll 53 = .ok (.getfield 391, 3) := by decide +kernel
theorem dX7_readAll_56 : decode cX7_readAll 56 = .ok (.iaload, 1) := by decide +kernel
theorem dX7_readAll_57 : decode cX7_readAll 57 = .ok (.aload_n 0, 1) := by decide +kernel
theorem dX7_readAll_58 : decode cX7_readAll 58 = .ok (.getfield 380, 3) := by decide +kernel
theorem dX7_readAll_61 : decode cX7_readAll 61 = .ok (.iastore, 1) := by decide +kernel
theorem dX7_readAll_62 : decode cX7_readAll 62 = .ok (.aload_n 0, 1) := by decide +kernel
theorem dX7_readAll_63 : decode cX7_readAll 63 = .ok (.invokevirtual 371, 3) := by decide +kernel
theorem dX7_readAll_66 : decode cX7_readAll 66 = .ok (.goto (-62), 3) := by decide +kernel
theorem dX7_readAll_69 : decode cX7_readAll 69 = .ok (.aload_n 0, 1) := by decide +kernel
theorem dX7_readAll_70 : decode cX7_readAll 70 = .ok (.invokevirtual 424, 3) := by decide +kernel
theorem dX7_readAll_73 : decode cX7_readAll 73 = .ok (.goto (-69), 3) := by decide +kernel
theorem dX7_readAll_76 : decode cX7_readAll 76 = .ok (.aload_n 0, 1) := by decide +kernel
theorem dX7_readAll_77 : decode cX7_readAll 77 = .ok (.getfield 362, 3) := by decide +kernel
theorem dX7_readAll_80 : decode cX7_readAll 80 = .ok (.ifCond .ne 15, 3) := by decide +kernel
theorem dX7_readAll_83 : decode cX7_readAll 83 = .ok (.aload_n 0, 1) := by decide +kernel
theorem dX7_readAll_84 : decode cX7_readAll 84 = .ok (.getfield 391, 3) := by decide +kernel
theorem dX7_readAll_87 : decode cX7_readAll 87 = .ok (.ifCond .le 8, 3) := by decide +kernel
theorem dX7_readAll_90 : decode cX7_readAll 90 = .ok (.aload_n 0, 1) := by decide +kernel
theorem dX7_readAll_91 : decode cX7_readAll 91 = .ok (.iconst 1, 1) := by decide +kernel
theorem dX7_readAll_92 : decode cX7_readAll 92 = .ok (.invokevirtual 374, 3) := by decide +kernel
theorem dX7_readAll_95 : decode cX7_readAll 95 = .ok (.return_, 1) := by decide +kernel
theorem dX7_program_0 : decode cX7_program 0 = .ok (.aload_n 0, 1) := by decide +kernel
theorem dX7_program_1 : decode cX7_program 1 = .ok (.aload_n 0, 1) := by decide +kernel
theorem dX7_program_2 : decode cX7_program 2 = .ok (.getfield 320, 3) := by decide +kernel
theorem dX7_program_5 : decode cX7_program 5 = .ok (.putfield 323, 3) := by decide +kernel
theorem dX7_program_8 : decode cX7_program 8 = .ok (.aload_n 0, 1) := by decide +kernel
theorem dX7_program_9 : decode cX7_program 9 = .ok (.iconst 0, 1) := by decide +kernel
theorem dX7_program_10 : decode cX7_program 10 = .ok (.putfield 320, 3) := by decide +kernel
theorem dX7_program_13 : decode cX7_program 13 = .ok (.aload_n 0, 1) := by decide +kernel
theorem dX7_program_14 : decode cX7_program 14 = .ok (.iconst 0, 1) := by decide +kernel
theorem dX7_program_15 : decode cX7_program 15 = .ok (.putfield 326, 3) := by decide +kernel
theorem dX7_program_18 : decode cX7_program 18 = .ok (.aload_n 0, 1) := by decide +kernel
theorem dX7_program_19 : decode cX7_program 19 = .ok (.iconst 0, 1) := by decide +kernel
theorem dX7_program_20 : decode cX7_program 20 = .ok (.putfield 362, 3) := by decide +kernel
theorem dX7_program_23 : decode cX7_program 23 = .ok (.aload_n 0, 1) := by decide +kernel
theorem dX7_program_24 : decode cX7_program 24 = .ok (.iconst (-1), 1) := by decide +kernel
theorem dX7_program_25 : decode cX7_program 25 = .ok (.putfield 365, 3) := by decide +kernel
theorem dX7_program_28 : decode cX7_program 28 = .ok (.aload_n 0, 1) := by decide +kernel
theorem dX7_program_29 : decode cX7_program 29 = .ok (.iconst 0, 1) := by decide +kernel
theorem dX7_program_30 : decode cX7_program 30 = .ok (.putfield 391, 3) := by decide +kernel
theorem dX7_program_33 : decode cX7_program 33 = .ok (.aload_n 0, 1) := by decide +kernel
theorem dX7_program_34 : decode cX7_program 34 = .ok (.iconst 0, 1) := by decide +kernel
theorem dX7_program_35 : decode cX7_program 35 = .ok (.putfield 380, 3) := by decide +kernel
theorem dX7_program_38 : decode cX7_program 38 = .ok (.aload_n 0, 1) := by decide +kernel
theorem dX7_program_39 : decode cX7_program 39 = .ok (.invokevirtual 427, 3) := by decide +kernel
theorem dX7_program_42 : decode cX7_program 42 = .ok (.aload_n 0, 1) := by decide +kernel
theorem dX7_program_43 : decode cX7_program 43 = .ok (.aload_n 0, 1) := by decide +kernel
theorem dX7_program_44 : decode cX7_program 44 = .ok (.getfield 362, 3) := by decide +kernel
theorem dX7_program_47 : decode cX7_program 47 = .ok (.putfield 430, 3) := by decide +kernel
theorem dX7_program_50 : decode cX7_program 50 = .ok (.aload_n 0, 1) := by decide +kernel
theorem dX7_program_51 : decode cX7_program 51 = .ok (.aload_n 0, 1) := by decide +kernel
theorem dX7_program_52 : decode cX7_program 52 = .ok (.getfield 365, 3) := by decide +kernel
theorem dX7_program_55 : decode cX7_program 55 = .ok (.putfield 65, 3) := by decide +kernel
theorem dX7_program_58 : decode cX7_program 58 = .ok (.aload_n 0, 1) := by decide +kernel
theorem dX7_program_59 : decode cX7_program 59 = .ok (.getfield 430, 3) := by decide +kernel
theorem dX7_program_62 : decode cX7_program 62 = .ok (.ifCond .le 5, 3) := by decide +kernel
theorem dX7_program_65 : decode cX7_program 65 = .ok (.iconst (-1), 1) := by decide +kernel
theorem dX7_program_66 : decode cX7_program 66 = .ok (.ireturn, 1) := by decide +kernel
theorem dX7_program_67 : decode cX7_program 67 = .ok (.aload_n 0, 1) := by decide +kernel
theorem dX7_program_68 : decode cX7_program 68 = .ok (.aload_n 0, 1) := by decide +kernel
theorem dX7_program_69 : decode cX7_program 69 = .ok (.getfield 380, 3) := by decide +kernel
theorem dX7_program_72 : decode cX7_program 72 = .ok (.putfield 433, 3) := by decide +kernel
theorem dX7_program_75 : decode cX7_program 75 = .ok (.iconst 0, 1) := by decide +kernel
theorem dX7_program_76 : decode cX7_program 76 = .ok (.istore_n 1, 1) := by decide +kernel
theorem dX7_program_77 : decode cX7_program 77 = .ok (.iload_n 1, 1) := by decide +kernel
theorem dX7_program_78 : decode cX7_program 78 = .ok (.aload_n 0, 1) := by decide +kernel
theorem dX7_program_79 : decode cX7_program 79 = .ok (.getfield 433, 3) := by decide +kernel
theorem dX7_program_82 : decode cX7_program 82 = .ok (.if_icmp .ge 69, 3) := by decide +kernel
theorem dX7_program_85 : decode cX7_program 85 = .ok (.aload_n 0, 1) := by decide +kernel
theorem dX7_program_86 : decode cX7_program 86 = .ok (.getfield 50, 3) := by decide +kernel
theorem dX7_program_89 : decode cX7_program 89 = .ok (.iload_n 1, 1) := by decide +kernel
theorem dX7_program_90 : decode cX7_program 90 = .ok (.aload_n 0, 1) := by decide +kernel
theorem dX7_program_91 : decode cX7_program 91 = .ok (.getfield 35, 3) := by decide +kernel
theorem dX7_program_94 : decode cX7_program 94 = .ok (.iload_n 1, 1) := by decide +kernel
theorem dX7_program_95 : decode cX7_program 95 = .ok (.iaload, 1) := by decide +kernel
theorem dX7_program_96 : decode cX7_program 96 = .ok (.iastore, 1) := by decide +kernel
theorem dX7_program_97 : decode cX7_program 97 = .ok (.aload_n 0, 1) := by decide +kernel
theorem dX7_program_98 : decode cX7_program 98 = .ok (.getfield 53, 3) := by decide +kernel
theorem dX7_program_101 : decode cX7_program 101 = .ok (.iload_n 1, 1) := by decide +kernel
theorem dX7_program_102 : decode cX7_program 102 = .ok (.aload_n 0, 1) := by decide +kernel
theorem dX7_program_103 : decode cX7_program 103 = .ok (.getfield 38, 3) := by decide +kernel
theorem dX7_program_106 : decode cX7_program 106 = .ok (.iload_n 1, 1) := by decide +kernel
theorem dX7_program_107 : decode cX7_program 107 = .ok (.iaload, 1) := by decide +kernel
theorem dX7_program_108 : decode cX7_program 108 = .ok (.iastore, 1) := by decide +kernel
theorem dX7_program_109 : decode cX7_program 109 = .ok (.aload_n 0, 1) := by decide +kernel
theorem dX7_program_110 : decode cX7_program 110 = .ok (.getfield 56, 3) := by decide +kernel
theorem dX7_program_113 : decode cX7_program 113 = .ok (.iload_n 1, 1) := by decide +kernel
theorem dX7_program_114 : decode cX7_program 114 = .ok (.aload_n 0, 1) := by decide +kernel
theorem dX7_program_115 : decode cX7_program 115 = .ok (.getfield 41, 3) := by decide +kernel
theorem dX7_program_118 : decode cX7_program 118 = .ok (.iload_n 1, 1) := by decide +kernel
theorem dX7_program_119 : decode cX7_program 119 = .ok (.iaload, 1) := by decide +kernel
theorem dX7_program_120 : decode cX7_program 120 = .ok (.iastore, 1) := by decide +kernel
theorem dX7_program_121 : decode cX7_program 121 = .ok (.aload_n 0, 1) := by decide +kernel
theorem dX7_program_122 : decode cX7_program 122 = .ok (.getfield 59, 3) := by decide +kernel
theorem dX7_program_125 : decode cX7_program 125 = .ok (.iload_n 1, 1) := by decide +kernel
theorem dX7_program_126 : decode cX7_program 126 = .ok (.aload_n 0, 1) := by decide +kernel
theorem dX7_program_127 : decode cX7_program 127 = .ok (.getfield 44, 3) := by decide +kernel
theorem dX7_program_130 : decode cX7_program 130 = .ok (.iload_n 1, 1) := by decide +kernel
theorem dX7_program_131 : decode cX7_program 131 = .ok (.iaload, 1) := by decide +kernel
theorem dX7_program_132 : decode cX7_program 132 = .ok (.iastore, 1) := by decide +kernel
theorem dX7_program_133 : decode cX7_program 133 = .ok (.aload_n 0, 1) := by decide +kernel
theorem dX7_program_134 : decode cX7_program 134 = .ok (.getfield 62, 3) := by decide +kernel
theorem dX7_program_137 : decode cX7_program 137 = .ok (.iload_n 1, 1) := by decide +kernel
theorem dX7_program_138 : decode cX7_program 138 = .ok (.aload_n 0, 1) := by decide +kernel
theorem dX7_program_139 : decode cX7_program 139 = .ok (.getfield 47, 3) := by decide +kernel
theorem dX7_program_142 : decode cX7_program 142 = .ok (.iload_n 1, 1) := by decide +kernel
theorem dX7_program_143 : decode cX7_program 143 = .ok (.iaload, 1) := by decide +kernel
theorem dX7_program_144 : decode cX7_program 144 = .ok (.iastore, 1) := by decide +kernel
theorem dX7_program_145 : decode cX7_program 145 = .ok (.iinc 1 1, 3) := by decide +kernel
theorem dX7_program_148 : decode cX7_program 148 = .ok (.goto (-71), 3) := by decide +kernel
theorem dX7_program_151 : decode cX7_program 151 = .ok (.aload_n 0, 1) := by decide +kernel
theorem dX7_program_152 : decode cX7_program 152 = .ok (.getfield 433, 3) := by decide +kernel
theorem dX7_program_155 : decode cX7_program 155 = .ok (.ireturn, 1) := by decide +kernel
theorem dX7_fault_0 : decode cX7_fault 0 = .ok (.iload_n 1, 1) := by decide +kernel
theorem dX7_fault_1 : decode cX7_fault 1 = .ok (.ifCond .ne 10, 3) := by decide +kernel
theorem dX7_fault_4 : decode cX7_fault 4 = .ok (.aload_n 0, 1) := by decide +kernel
theorem dX7_fault_5 : decode cX7_fault 5 = .ok (.getfield 430, 3) := by decide +kernel
theorem dX7_fault_8 : decode cX7_fault 8 = .ok (.goto 16, 3) := by decide +kernel
theorem dX7_fault_11 : decode cX7_fault 11 = .ok (.iload_n 1, 1) := by decide +kernel
theorem dX7_fault_12 : decode cX7_fault 12 = .ok (.iconst 1, 1) := by decide +kernel
theorem dX7_fault_13 : decode cX7_fault 13 = .ok (.if_icmp .ne 10, 3) := by decide +kernel
theorem dX7_fault_16 : decode cX7_fault 16 = .ok (.aload_n 0, 1) := by decide +kernel
theorem dX7_fault_17 : decode cX7_fault 17 = .ok (.getfield 65, 3) := by decide +kernel
theorem dX7_fault_20 : decode cX7_fault 20 = .ok (.goto 4, 3) := by decide +kernel
theorem dX7_fault_23 : decode cX7_fault 23 = .ok (.iconst (-1), 1) := by decide +kernel
theorem dX7_fault_24 : decode cX7_fault 24 = .ok (.ireturn, 1) := by decide +kernel
theorem dX7_leaveBlocks_0 : decode cX7_leaveBlocks 0 = .ok (.aload_n 0, 1) := by decide +kernel
theorem dX7_leaveBlocks_1 : decode cX7_leaveBlocks 1 = .ok (.getfield 436, 3) := by decide +kernel
theorem dX7_leaveBlocks_4 : decode cX7_leaveBlocks 4 = .ok (.ifCond .le 81, 3) := by decide +kernel
theorem dX7_leaveBlocks_7 : decode cX7_leaveBlocks 7 = .ok (.aload_n 0, 1) := by decide +kernel
theorem dX7_leaveBlocks_8 : decode cX7_leaveBlocks 8 = .ok (.getfield 439, 3) := by decide +kernel
theorem dX7_leaveBlocks_11 : decode cX7_leaveBlocks 11 = .ok (.aload_n 0, 1) := by decide +kernel
theorem dX7_leaveBlocks_12 : decode cX7_leaveBlocks 12 = .ok (.getfield 75, 3) := by decide +kernel
theorem dX7_leaveBlocks_15 : decode cX7_leaveBlocks 15 = .ok (.aload_n 0, 1) := by decide +kernel
theorem dX7_leaveBlocks_16 : decode cX7_leaveBlocks 16 = .ok (.getfield 436, 3) := by decide +kernel
theorem dX7_leaveBlocks_19 : decode cX7_leaveBlocks 19 = .ok (.iconst 1, 1) := by decide +kernel
theorem dX7_leaveBlocks_20 : decode cX7_leaveBlocks 20 = .ok (.isub, 1) := by decide +kernel
theorem dX7_leaveBlocks_21 : decode cX7_leaveBlocks 21 = .ok (.iaload, 1) := by decide +kernel
theorem dX7_leaveBlocks_22 : decode cX7_leaveBlocks 22 = .ok (.if_icmp .ne 63, 3) := by decide +kernel
theorem dX7_leaveBlocks_25 : decode cX7_leaveBlocks 25 = .ok (.aload_n 0, 1) := by decide +kernel
theorem dX7_leaveBlocks_26 : decode cX7_leaveBlocks 26 = .ok (.getfield 78, 3) := by decide +kernel
theorem dX7_leaveBlocks_29 : decode cX7_leaveBlocks 29 = .ok (.aload_n 0, 1) := by decide +kernel
theorem dX7_leaveBlocks_30 : decode cX7_leaveBlocks 30 = .ok (.getfield 436, 3) := by decide +kernel
theorem dX7_leaveBlocks_33 : decode cX7_leaveBlocks 33 = .ok (.iconst 1, 1) := by decide +kernel
theorem dX7_leaveBlocks_34 : decode cX7_leaveBlocks 34 = .ok (.isub, 1) := by decide +kernel
theorem dX7_leaveBlocks_35 : decode cX7_leaveBlocks 35 = .ok (.iaload, 1) := by decide +kernel
theorem dX7_leaveBlocks_36 : decode cX7_leaveBlocks 36 = .ok (.ifCond .ne 16, 3) := by decide +kernel
theorem dX7_leaveBlocks_39 : decode cX7_leaveBlocks 39 = .ok (.aload_n 0, 1) := by decide +kernel
theorem dX7_leaveBlocks_40 : decode cX7_leaveBlocks 40 = .ok (.dup, 1) := by decide +kernel
theorem dX7_leaveBlocks_41 : decode cX7_leaveBlocks 41 = .ok (.getfield 436, 3) := by decide +kernel
theorem dX7_leaveBlocks_44 : decode cX7_leaveBlocks 44 = .ok (.iconst 1, 1) := by decide +kernel
theorem dX7_leaveBlocks_45 : decode cX7_leaveBlocks 45 = .ok (.isub, 1) := by decide +kernel
theorem dX7_leaveBlocks_46 : decode cX7_leaveBlocks 46 = .ok (.putfield 436, 3) := by decide +kernel
theorem dX7_leaveBlocks_49 : decode cX7_leaveBlocks 49 = .ok (.goto (-49), 3) := by decide +kernel
theorem dX7_leaveBlocks_52 : decode cX7_leaveBlocks 52 = .ok (.aload_n 0, 1) := by decide +kernel
theorem dX7_leaveBlocks_53 : decode cX7_leaveBlocks 53 = .ok (.getfield 78, 3) := by decide +kernel
theorem dX7_leaveBlocks_56 : decode cX7_leaveBlocks 56 = .ok (.aload_n 0, 1) := by decide +kernel
theorem dX7_leaveBlocks_57 : decode cX7_leaveBlocks 57 = .ok (.getfield 436, 3) := by decide +kernel
theorem dX7_leaveBlocks_60 : decode cX7_leaveBlocks 60 = .ok (.iconst 1, 1) := by decide +kernel
theorem dX7_leaveBlocks_61 : decode cX7_leaveBlocks 61 = .ok (.isub, 1) := by decide +kernel
theorem dX7_leaveBlocks_62 : decode cX7_leaveBlocks 62 = .ok (.dup2, 1) := by decide +kernel
theorem dX7_leaveBlocks_63 : decode cX7_leaveBlocks 63 = .ok (.iaload, 1) := by decide +kernel
theorem dX7_leaveBlocks_64 : decode cX7_leaveBlocks 64 = .ok (.iconst 1, 1) := by decide +kernel
theorem dX7_leaveBlocks_65 : decode cX7_leaveBlocks 65 = .ok (.isub, 1) := by decide +kernel
theorem dX7_leaveBlocks_66 : decode cX7_leaveBlocks 66 = .ok (.iastore, 1) := by decide +kernel
theorem dX7_leaveBlocks_67 : decode cX7_leaveBlocks 67 = .ok (.aload_n 0, 1) := by decide +kernel
theorem dX7_leaveBlocks_68 : decode cX7_leaveBlocks 68 = .ok (.aload_n 0, 1) := by decide +kernel
theorem dX7_leaveBlocks_69 : decode cX7_leaveBlocks 69 = .ok (.getfield 72, 3) := by decide +kernel
theorem dX7_leaveBlocks_72 : decode cX7_leaveBlocks 72 = .ok (.aload_n 0, 1) := by decide +kernel
theorem dX7_leaveBlocks_73 : decode cX7_leaveBlocks 73 = .ok (.getfield 436, 3) := by decide +kernel
theorem dX7_leaveBlocks_76 : decode cX7_leaveBlocks 76 = .ok (.iconst 1, 1) := by decide +kernel
theorem dX7_leaveBlocks_77 : decode cX7_leaveBlocks 77 = .ok (.isub, 1) := by decide +kernel
theorem dX7_leaveBlocks_78 : decode cX7_leaveBlocks 78 = .ok (.iaload, 1) := by decide +kernel
theorem dX7_leaveBlocks_79 : decode cX7_leaveBlocks 79 = .ok (.putfield 439, 3) := by decide +kernel
theorem dX7_leaveBlocks_82 : decode cX7_leaveBlocks 82 = .ok (.goto (-82), 3) := by decide +kernel
theorem dX7_leaveBlocks_85 : decode cX7_leaveBlocks 85 = .ok (.return_, 1) := by decide +kernel
theorem dX7_enter_0 : decode cX7_enter 0 = .ok (.aload_n 0, 1) := by decide +kernel
theorem dX7_enter_1 : decode cX7_enter 1 = .ok (.getfield 72, 3) := by decide +kernel
theorem dX7_enter_4 : decode cX7_enter 4 = .ok (.aload_n 0, 1) := by decide +kernel
theorem dX7_enter_5 : decode cX7_enter 5 = .ok (.getfield 436, 3) := by decide +kernel
theorem dX7_enter_8 : decode cX7_enter 8 = .ok (.aload_n 0, 1) := by decide +kernel
theorem dX7_enter_9 : decode cX7_enter 9 = .ok (.getfield 439, 3) := by decide +kernel
theorem dX7_enter_12 : decode cX7_enter 12 = .ok (.iconst 1, 1) := by decide +kernel
theorem dX7_enter_13 : decode cX7_enter 13 = .ok (.iadd, 1) := by decide +kernel
theorem dX7_enter_14 : decode cX7_enter 14 = .ok (.iastore, 1) := by decide +kernel
theorem dX7_enter_15 : decode cX7_enter 15 = .ok (.aload_n 0, 1) := by decide +kernel
theorem dX7_enter_16 : decode cX7_enter 16 = .ok (.getfield 75, 3) := by decide +kernel
theorem dX7_enter_19 : decode cX7_enter 19 = .ok (.aload_n 0, 1) := by decide +kernel
theorem dX7_enter_20 : decode cX7_enter 20 = .ok (.getfield 436, 3) := by decide +kernel
theorem dX7_enter_23 : decode cX7_enter 23 = .ok (.aload_n 0, 1) := by decide +kernel
theorem dX7_enter_24 : decode cX7_enter 24 = .ok (.getfield 62, 3) := by decide +kernel
theorem dX7_enter_27 : decode cX7_enter 27 = .ok (.aload_n 0, 1) := by decide +kernel
theorem dX7_enter_28 : decode cX7_enter 28 = .ok (.getfield 439, 3) := by decide +kernel
theorem dX7_enter_31 : decode cX7_enter 31 = .ok (.iaload, 1) := by decide +kernel
theorem dX7_enter_32 : decode cX7_enter 32 = .ok (.iastore, 1) := by decide +kernel
theorem dX7_enter_33 : decode cX7_enter 33 = .ok (.aload_n 0, 1) := by decide +kernel
theorem dX7_enter_34 : decode cX7_enter 34 = .ok (.getfield 78, 3) := by decide +kernel
theorem dX7_enter_37 : decode cX7_enter 37 = .ok (.aload_n 0, 1) := by decide +kernel
theorem dX7_enter_38 : decode cX7_enter 38 = .ok (.getfield 436, 3) := by decide +kernel
theorem dX7_enter_41 : decode cX7_enter 41 = .ok (.iload_n 1, 1) := by decide +kernel
theorem dX7_enter_42 : decode cX7_enter 42 = .ok (.iconst 1, 1) := by decide +kernel
theorem dX7_enter_43 : decode cX7_enter 43 = .ok (.isub, 1) := by decide +kernel
theorem dX7_enter_44 : decode cX7_enter 44 = .ok (.iastore, 1) := by decide +kernel
theorem dX7_enter_45 : decode cX7_enter 45 = .ok (.aload_n 0, 1) := by decide +kernel
theorem dX7_enter_46 : decode cX7_enter 46 = .ok (.dup, 1) := by decide +kernel
theorem dX7_enter_47 : decode cX7_enter 47 = .ok (.getfield 436, 3) := by decide +kernel
theorem dX7_enter_50 : decode cX7_enter 50 = .ok (.iconst 1, 1) := by decide +kernel
theorem dX7_enter_51 : decode cX7_enter 51 = .ok (.iadd, 1) := by decide +kernel
theorem dX7_enter_52 : decode cX7_enter 52 = .ok (.putfield 436, 3) := by decide +kernel
theorem dX7_enter_55 : decode cX7_enter 55 = .ok (.aload_n 0, 1) := by decide +kernel
theorem dX7_enter_56 : decode cX7_enter 56 = .ok (.dup, 1) := by decide +kernel
theorem dX7_enter_57 : decode cX7_enter 57 = .ok (.getfield 439, 3) := by decide +kernel
theorem dX7_enter_60 : decode cX7_enter 60 = .ok (.iconst 1, 1) := by decide +kernel
theorem dX7_enter_61 : decode cX7_enter 61 = .ok (.iadd, 1) := by decide +kernel
theorem dX7_enter_62 : decode cX7_enter 62 = .ok (.putfield 439, 3) := by decide +kernel
theorem dX7_enter_65 : decode cX7_enter 65 = .ok (.return_, 1) := by decide +kernel
theorem dX7_canGo_0 : decode cX7_canGo 0 = .ok (.aload_n 0, 1) := by decide +kernel
theorem dX7_canGo_1 : decode cX7_canGo 1 = .ok (.getfield 50, 3) := by decide +kernel
theorem dX7_canGo_4 : decode cX7_canGo 4 = .ok (.aload_n 0, 1) := by decide +kernel
theorem dX7_canGo_5 : decode cX7_canGo 5 = .ok (.getfield 439, 3) := by decide +kernel
theorem dX7_canGo_8 : decode cX7_canGo 8 = .ok (.iaload, 1) := by decide +kernel
theorem dX7_canGo_9 : decode cX7_canGo 9 = .ok (.tableswitch 115 3 5 #[27, 59, 91], 27) := by decide +kernel
theorem dX7_canGo_36 : decode cX7_canGo 36 = .ok (.aload_n 0, 1) := by decide +kernel
theorem dX7_canGo_37 : decode cX7_canGo 37 = .ok (.aload_n 0, 1) := by decide +kernel
theorem dX7_canGo_38 : decode cX7_canGo 38 = .ok (.getfield 53, 3) := by decide +kernel
theorem dX7_canGo_41 : decode cX7_canGo 41 = .ok (.aload_n 0, 1) := by decide +kernel
theorem dX7_canGo_42 : decode cX7_canGo 42 = .ok (.getfield 439, 3) := by decide +kernel
theorem dX7_canGo_45 : decode cX7_canGo 45 = .ok (.iaload, 1) := by decide +kernel
theorem dX7_canGo_46 : decode cX7_canGo 46 = .ok (.aload_n 0, 1) := by decide +kernel
theorem dX7_canGo_47 : decode cX7_canGo 47 = .ok (.getfield 56, 3) := by decide +kernel
theorem dX7_canGo_50 : decode cX7_canGo 50 = .ok (.aload_n 0, 1) := by decide +kernel
theorem dX7_canGo_51 : decode cX7_canGo 51 = .ok (.getfield 439, 3) := by decide +kernel
theorem dX7_canGo_54 : decode cX7_canGo 54 = .ok (.iaload, 1) := by decide +kernel
theorem dX7_canGo_55 : decode cX7_canGo 55 = .ok (.aload_n 0, 1) := by decide +kernel
theorem dX7_canGo_56 : decode cX7_canGo 56 = .ok (.getfield 59, 3) := by decide +kernel
theorem dX7_canGo_59 : decode cX7_canGo 59 = .ok (.aload_n 0, 1) := by decide +kernel
theorem dX7_canGo_60 : decode cX7_canGo 60 = .ok (.getfield 439, 3) := by decide +kernel
theorem dX7_canGo_63 : decode cX7_canGo 63 = .ok (.iaload, 1) := by decide +kernel
theorem dX7_canGo_64 : decode cX7_canGo 64 = .ok (.invokevirtual 228, 3) := by decide +kernel
theorem dX7_canGo_67 : decode cX7_canGo 67 = .ok (.ireturn, 1) := by decide +kernel
theorem dX7_canGo_68 : decode cX7_canGo 68 = .ok (.aload_n 0, 1) := by decide +kernel
theorem dX7_canGo_69 : decode cX7_canGo 69 = .ok (.aload_n 0, 1) := by decide +kernel
theorem dX7_canGo_70 : decode cX7_canGo 70 = .ok (.getfield 53, 3) := by decide +kernel
theorem dX7_canGo_73 : decode cX7_canGo 73 = .ok (.aload_n 0, 1) := by decide +kernel
theorem dX7_canGo_74 : decode cX7_canGo 74 = .ok (.getfield 439, 3) := by decide +kernel
theorem dX7_canGo_77 : decode cX7_canGo 77 = .ok (.iaload, 1) := by decide +kernel
theorem dX7_canGo_78 : decode cX7_canGo 78 = .ok (.aload_n 0, 1) := by decide +kernel
theorem dX7_canGo_79 : decode cX7_canGo 79 = .ok (.getfield 56, 3) := by decide +kernel
theorem dX7_canGo_82 : decode cX7_canGo 82 = .ok (.aload_n 0, 1) := by decide +kernel
theorem dX7_canGo_83 : decode cX7_canGo 83 = .ok (.getfield 439, 3) := by decide +kernel
theorem dX7_canGo_86 : decode cX7_canGo 86 = .ok (.iaload, 1) := by decide +kernel
theorem dX7_canGo_87 : decode cX7_canGo 87 = .ok (.aload_n 0, 1) := by decide +kernel
theorem dX7_canGo_88 : decode cX7_canGo 88 = .ok (.getfield 59, 3) := by decide +kernel
theorem dX7_canGo_91 : decode cX7_canGo 91 = .ok (.aload_n 0, 1) := by decide +kernel
theorem dX7_canGo_92 : decode cX7_canGo 92 = .ok (.getfield 439, 3) := by decide +kernel
theorem dX7_canGo_95 : decode cX7_canGo 95 = .ok (.iaload, 1) := by decide +kernel
theorem dX7_canGo_96 : decode cX7_canGo 96 = .ok (.invokevirtual 241, 3) := by decide +kernel
theorem dX7_canGo_99 : decode cX7_canGo 99 = .ok (.ireturn, 1) := by decide +kernel
theorem dX7_canGo_100 : decode cX7_canGo 100 = .ok (.aload_n 0, 1) := by decide +kernel
theorem dX7_canGo_101 : decode cX7_canGo 101 = .ok (.aload_n 0, 1) := by decide +kernel
theorem dX7_canGo_102 : decode cX7_canGo 102 = .ok (.getfield 53, 3) := by decide +kernel
theorem dX7_canGo_105 : decode cX7_canGo 105 = .ok (.aload_n 0, 1) := by decide +kernel
theorem dX7_canGo_106 : decode cX7_canGo 106 = .ok (.getfield 439, 3) := by decide +kernel
theorem dX7_canGo_109 : decode cX7_canGo 109 = .ok (.iaload, 1) := by decide +kernel
theorem dX7_canGo_110 : decode cX7_canGo 110 = .ok (.aload_n 0, 1) := by decide +kernel
theorem dX7_canGo_111 : decode cX7_canGo 111 = .ok (.getfield 56, 3) := by decide +kernel
theorem dX7_canGo_114 : decode cX7_canGo 114 = .ok (.aload_n 0, 1) := by decide +kernel
theorem dX7_canGo_115 : decode cX7_canGo 115 = .ok (.getfield 439, 3) := by decide +kernel
theorem dX7_canGo_118 : decode cX7_canGo 118 = .ok (.iaload, 1) := by decide +kernel
theorem dX7_canGo_119 : decode cX7_canGo 119 = .ok (.iconst (-1), 1) := by decide +kernel
theorem dX7_canGo_120 : decode cX7_canGo 120 = .ok (.invokevirtual 241, 3) := by decide +kernel
theorem dX7_canGo_123 : decode cX7_canGo 123 = .ok (.ireturn, 1) := by decide +kernel
theorem dX7_canGo_124 : decode cX7_canGo 124 = .ok (.iconst 1, 1) := by decide +kernel
theorem dX7_canGo_125 : decode cX7_canGo 125 = .ok (.ireturn, 1) := by decide +kernel
theorem dX7_doGo_0 : decode cX7_doGo 0 = .ok (.aload_n 0, 1) := by decide +kernel
theorem dX7_doGo_1 : decode cX7_doGo 1 = .ok (.getfield 53, 3) := by decide +kernel
theorem dX7_doGo_4 : decode cX7_doGo 4 = .ok (.aload_n 0, 1) := by decide +kernel
theorem dX7_doGo_5 : decode cX7_doGo 5 = .ok (.getfield 439, 3) := by decide +kernel
theorem dX7_doGo_8 : decode cX7_doGo 8 = .ok (.iaload, 1) := by decide +kernel
theorem dX7_doGo_9 : decode cX7_doGo 9 = .ok (.istore_n 1, 1) := by decide +kernel
theorem dX7_doGo_10 : decode cX7_doGo 10 = .ok (.aload_n 0, 1) := by decide +kernel
theorem dX7_doGo_11 : decode cX7_doGo 11 = .ok (.getfield 56, 3) := by decide +kernel
theorem dX7_doGo_14 : decode cX7_doGo 14 = .ok (.aload_n 0, 1) := by decide +kernel
theorem dX7_doGo_15 : decode cX7_doGo 15 = .ok (.getfield 439, 3) := by decide +kernel
theorem dX7_doGo_18 : decode cX7_doGo 18 = .ok (.iaload, 1) := by decide +kernel
theorem dX7_doGo_19 : decode cX7_doGo 19 = .ok (.istore_n 2, 1) := by decide +kernel
theorem dX7_doGo_20 : decode cX7_doGo 20 = .ok (.aload_n 0, 1) := by decide +kernel
theorem dX7_doGo_21 : decode cX7_doGo 21 = .ok (.getfield 50, 3) := by decide +kernel
theorem dX7_doGo_24 : decode cX7_doGo 24 = .ok (.aload_n 0, 1) := by decide +kernel
theorem dX7_doGo_25 : decode cX7_doGo 25 = .ok (.getfield 439, 3) := by decide +kernel
theorem dX7_doGo_28 : decode cX7_doGo 28 = .ok (.iaload, 1) := by decide +kernel
theorem dX7_doGo_29 : decode cX7_doGo 29 = .ok (.tableswitch 139 0 5 #[39, 52, 66, 89, 111, 129], 39) := by decide +kernel
theorem dX7_doGo_68 : decode cX7_doGo 68 = .ok (.aload_n 0, 1) := by decide +kernel
theorem dX7_doGo_69 : decode cX7_doGo 69 = .ok (.aload_n 0, 1) := by decide +kernel
theorem dX7_doGo_70 : decode cX7_doGo 70 = .ok (.iload_n 1, 1) := by decide +kernel
theorem dX7_doGo_71 : decode cX7_doGo 71 = .ok (.iload_n 2, 1) := by decide +kernel
theorem dX7_doGo_72 : decode cX7_doGo 72 = .ok (.invokevirtual 222, 3) := by decide +kernel
theorem dX7_doGo_75 : decode cX7_doGo 75 = .ok (.putfield 308, 3) := by decide +kernel
theorem dX7_doGo_78 : decode cX7_doGo 78 = .ok (.goto 99, 3) := by decide +kernel
theorem dX7_doGo_81 : decode cX7_doGo 81 = .ok (.aload_n 0, 1) := by decide +kernel
theorem dX7_doGo_82 : decode cX7_doGo 82 = .ok (.getfield 7, 3) := by decide +kernel
theorem dX7_doGo_85 : decode cX7_doGo 85 = .ok (.sipush 715, 3) := by decide +kernel
theorem dX7_doGo_88 : decode cX7_doGo 88 = .ok (.iload_n 1, 1) := by decide +kernel
theorem dX7_doGo_89 : decode cX7_doGo 89 = .ok (.iadd, 1) := by decide +kernel
theorem dX7_doGo_90 : decode cX7_doGo 90 = .ok (.iconst (-1), 1) := by decide +kernel
theorem dX7_doGo_91 : decode cX7_doGo 91 = .ok (.iastore, 1) := by decide +kernel
theorem dX7_doGo_92 : decode cX7_doGo 92 = .ok (.goto 85, 3) := by decide +kernel
theorem dX7_doGo_95 : decode cX7_doGo 95 = .ok (.aload_n 0, 1) := by decide +kernel
theorem dX7_doGo_96 : decode cX7_doGo 96 = .ok (.getfield 7, 3) := by decide +kernel
theorem dX7_doGo_99 : decode cX7_doGo 99 = .ok (.sipush 715, 3) := by decide +kernel
theorem dX7_doGo_102 : decode cX7_doGo 102 = .ok (.iload_n 1, 1) := by decide +kernel
theorem dX7_doGo_103 : decode cX7_doGo 103 = .ok (.iadd, 1) := by decide +kernel
theorem dX7_doGo_104 : decode cX7_doGo 104 = .ok (.aload_n 0, 1) := by decide +kernel
theorem dX7_doGo_105 : decode cX7_doGo 105 = .ok (.getfield 7, 3) := by decide +kernel
theorem dX7_doGo_108 : decode cX7_doGo 108 = .ok (.sipush 715, 3) := by decide +kernel
theorem dX7_doGo_111 : decode cX7_doGo 111 = .ok (.iload_n 2, 1) := by decide +kernel
theorem dX7_doGo_112 : decode cX7_doGo 112 = .ok (.iadd, 1) := by decide +kernel
theorem dX7_doGo_113 : decode cX7_doGo 113 = .ok (.iaload, 1) := by decide +kernel
theorem dX7_doGo_114 : decode cX7_doGo 114 = .ok (.iastore, 1) := by decide +kernel
theorem dX7_doGo_115 : decode cX7_doGo 115 = .ok (.goto 62, 3) := by decide +kernel
theorem dX7_doGo_118 : decode cX7_doGo 118 = .ok (.aload_n 0, 1) := by decide +kernel
theorem dX7_doGo_119 : decode cX7_doGo 119 = .ok (.aload_n 0, 1) := by decide +kernel
theorem dX7_doGo_120 : decode cX7_doGo 120 = .ok (.iload_n 1, 1) := by decide +kernel
theorem dX7_doGo_121 : decode cX7_doGo 121 = .ok (.iload_n 2, 1) := by decide +kernel
theorem dX7_doGo_122 : decode cX7_doGo 122 = .ok (.aload_n 0, 1) := by decide +kernel
theorem dX7_doGo_123 : decode cX7_doGo 123 = .ok (.getfield 59, 3) := by decide +kernel
theorem dX7_doGo_126 : decode cX7_doGo 126 = .ok (.aload_n 0, 1) := by decide +kernel
theorem dX7_doGo_127 : decode cX7_doGo 127 = .ok (.getfield 439, 3) := by decide +kernel
theorem dX7_doGo_130 : decode cX7_doGo 130 = .ok (.iaload, 1) := by decide +kernel
theorem dX7_doGo_131 : decode cX7_doGo 131 = .ok (.invokevirtual 231, 3) := by decide +kernel
theorem dX7_doGo_134 : decode cX7_doGo 134 = .ok (.putfield 308, 3) := by decide +kernel
theorem dX7_doGo_137 : decode cX7_doGo 137 = .ok (.goto 40, 3) := by decide +kernel
theorem dX7_doGo_140 : decode cX7_doGo 140 = .ok (.aload_n 0, 1) := by decide +kernel
theorem dX7_doGo_141 : decode cX7_doGo 141 = .ok (.iload_n 1, 1) := by decide +kernel
theorem dX7_doGo_142 : decode cX7_doGo 142 = .ok (.iload_n 2, 1) := by decide +kernel
theorem dX7_doGo_143 : decode cX7_doGo 143 = .ok (.aload_n 0, 1) := by decide +kernel
theorem dX7_doGo_144 : decode cX7_doGo 144 = .ok (.getfield 59, 3) := by decide +kernel
theorem dX7_doGo_147 : decode cX7_doGo 147 = .ok (.aload_n 0, 1) := by decide +kernel
theorem dX7_doGo_148 : decode cX7_doGo 148 = .ok (.getfield 439, 3) := by decide +kernel
theorem dX7_doGo_151 : decode cX7_doGo 151 = .ok (.iaload, 1) := by decide +kernel
theorem dX7_doGo_152 : decode cX7_doGo 152 = .ok (.invokevirtual 244, 3) := by decide +kernel
theorem dX7_doGo_155 : decode cX7_doGo 155 = .ok (.goto 22, 3) := by decide +kernel
theorem dX7_doGo_158 : decode cX7_doGo 158 = .ok (.aload_n 0, 1) := by decide +kernel
theorem dX7_doGo_159 : decode cX7_doGo 159 = .ok (.iload_n 1, 1) := by decide +kernel
theorem dX7_doGo_160 : decode cX7_doGo 160 = .ok (.iload_n 2, 1) := by decide +kernel
theorem dX7_doGo_161 : decode cX7_doGo 161 = .ok (.iconst (-1), 1) := by decide +kernel
theorem dX7_doGo_162 : decode cX7_doGo 162 = .ok (.invokevirtual 244, 3) := by decide +kernel
theorem dX7_doGo_165 : decode cX7_doGo 165 = .ok (.goto 12, 3) := by decide +kernel
theorem dX7_doGo_168 : decode cX7_doGo 168 = .ok (.aload_n 0, 1) := by decide +kernel
theorem dX7_doGo_169 : decode cX7_doGo 169 = .ok (.aload_n 0, 1) := by decide +kernel
theorem dX7_doGo_170 : decode cX7_doGo 170 = .ok (.iload_n 1, 1) := by decide +kernel
theorem dX7_doGo_171 : decode cX7_doGo 171 = .ok (.invokevirtual 189, 3) := by decide +kernel
theorem dX7_doGo_174 : decode cX7_doGo 174 = .ok (.putfield 308, 3) := by decide +kernel
theorem dX7_doGo_177 : decode cX7_doGo 177 = .ok (.return_, 1) := by decide +kernel
theorem dX7_goRun_0 : decode cX7_goRun 0 = .ok (.iconst 0, 1) := by decide +kernel
theorem dX7_goRun_1 : decode cX7_goRun 1 = .ok (.istore_n 1, 1) := by decide +kernel
theorem dX7_goRun_2 : decode cX7_goRun 2 = .ok (.aload_n 0, 1) := by decide +kernel
theorem dX7_goRun_3 : decode cX7_goRun 3 = .ok (.iconst 0, 1) := by decide +kernel
theorem dX7_goRun_4 : decode cX7_goRun 4 = .ok (.putfield 439, 3) := by decide +kernel
theorem dX7_goRun_7 : decode cX7_goRun 7 = .ok (.aload_n 0, 1) := by decide +kernel
theorem dX7_goRun_8 : decode cX7_goRun 8 = .ok (.iconst 0, 1) := by decide +kernel
theorem dX7_goRun_9 : decode cX7_goRun 9 = .ok (.putfield 436, 3) := by decide +kernel
theorem dX7_goRun_12 : decode cX7_goRun 12 = .ok (.aload_n 0, 1) := by decide +kernel
theorem dX7_goRun_13 : decode cX7_goRun 13 = .ok (.invokevirtual 442, 3) := by decide +kernel
theorem dX7_goRun_16 : decode cX7_goRun 16 = .ok (.aload_n 0, 1) := by decide +kernel
theorem dX7_goRun_17 : decode cX7_goRun 17 = .ok (.getfield 439, 3) := by decide +kernel
theorem dX7_goRun_20 : decode cX7_goRun 20 = .ok (.aload_n 0, 1) := by decide +kernel
theorem dX7_goRun_21 : decode cX7_goRun 21 = .ok (.getfield 433, 3) := by decide +kernel
theorem dX7_goRun_24 : decode cX7_goRun 24 = .ok (.if_icmp .ge 155, 3) := by decide +kernel
theorem dX7_goRun_27 : decode cX7_goRun 27 = .ok (.iload_n 1, 1) := by decide +kernel
theorem dX7_goRun_28 : decode cX7_goRun 28 = .ok (.sipush 300, 3) := by decide +kernel
theorem dX7_goRun_31 : decode cX7_goRun 31 = .ok (.if_icmp .ge 148, 3) := by decide +kernel
theorem dX7_goRun_34 : decode cX7_goRun 34 = .ok (.aload_n 0, 1) := by decide +kernel
theorem dX7_goRun_35 : decode cX7_goRun 35 = .ok (.getfield 50, 3) := by decide +kernel
theorem dX7_goRun_38 : decode cX7_goRun 38 = .ok (.aload_n 0, 1) := by decide +kernel
theorem dX7_goRun_39 : decode cX7_goRun 39 = .ok (.getfield 439, 3) := by decide +kernel
theorem dX7_goRun_42 : decode cX7_goRun 42 = .ok (.iaload, 1) := by decide +kernel
theorem dX7_goRun_43 : decode cX7_goRun 43 = .ok (.bipush 7, 2) := by decide +kernel
theorem dX7_goRun_45 : decode cX7_goRun 45 = .ok (.if_icmp .ne 19, 3) := by decide +kernel
theorem dX7_goRun_48 : decode cX7_goRun 48 = .ok (.aload_n 0, 1) := by decide +kernel
theorem dX7_goRun_49 : decode cX7_goRun 49 = .ok (.aload_n 0, 1) := by decide +kernel
theorem dX7_goRun_50 : decode cX7_goRun 50 = .ok (.getfield 53, 3) := by decide +kernel
theorem dX7_goRun_53 : decode cX7_goRun 53 = .ok (.aload_n 0, 1) := by decide +kernel
theorem dX7_goRun_54 : decode cX7_goRun 54 = .ok (.getfield 439, 3) := by decide +kernel
theorem dX7_goRun_57 : decode cX7_goRun 57 = .ok (.iaload, 1) := by decide +kernel
theorem dX7_goRun_58 : decode cX7_goRun 58 = .ok (.invokevirtual 445, 3) := by decide +kernel
theorem dX7_goRun_61 : decode cX7_goRun 61 = .ok (.goto 111, 3) := by decide +kernel
theorem dX7_goRun_64 : decode cX7_goRun 64 = .ok (.aload_n 0, 1) := by decide +kernel
theorem dX7_goRun_65 : decode cX7_goRun 65 = .ok (.getfield 50, 3) := by decide +kernel
theorem dX7_goRun_68 : decode cX7_goRun 68 = .ok (.aload_n 0, 1) := by decide +kernel
theorem dX7_goRun_69 : decode cX7_goRun 69 = .ok (.getfield 439, 3) := by decide +kernel
theorem dX7_goRun_72 : decode cX7_goRun 72 = .ok (.iaload, 1) := by decide +kernel
theorem dX7_goRun_73 : decode cX7_goRun 73 = .ok (.bipush 8, 2) := by decide +kernel
theorem dX7_goRun_75 : decode cX7_goRun 75 = .ok (.if_icmp .ne 48, 3) := by decide +kernel
theorem dX7_goRun_78 : decode cX7_goRun 78 = .ok (.aload_n 0, 1) := by decide +kernel
theorem dX7_goRun_79 : decode cX7_goRun 79 = .ok (.getfield 7, 3) := by decide +kernel
theorem dX7_goRun_82 : decode cX7_goRun 82 = .ok (.sipush 715, 3) := by decide +kernel
theorem dX7_goRun_85 : decode cX7_goRun 85 = .ok (.aload_n 0, 1) := by decide +kernel
theorem dX7_goRun_86 : decode cX7_goRun 86 = .ok (.getfield 53, 3) := by decide +kernel
theorem dX7_goRun_89 : decode cX7_goRun 89 = .ok (.aload_n 0, 1) := by decide +kernel
theorem dX7_goRun_90 : decode cX7_goRun 90 = .ok (.getfield 439, 3) := by decide +kernel
theorem dX7_goRun_93 : decode cX7_goRun 93 = .ok (.iaload, 1) := by decide +kernel
theorem dX7_goRun_94 : decode cX7_goRun 94 = .ok (.iadd, 1) := by decide +kernel
theorem dX7_goRun_95 : decode cX7_goRun 95 = .ok (.iaload, 1) := by decide +kernel
theorem dX7_goRun_96 : decode cX7_goRun 96 = .ok (.ifCond .lt 11, 3) := by decide +kernel
theorem dX7_goRun_99 : decode cX7_goRun 99 = .ok (.aload_n 0, 1) := by decide +kernel
theorem dX7_goRun_100 : decode cX7_goRun 100 = .ok (.iconst 1, 1) := by decide +kernel
theorem dX7_goRun_101 : decode cX7_goRun 101 = .ok (.invokevirtual 445, 3) := by decide +kernel
theorem dX7_goRun_104 : decode cX7_goRun 104 = .ok (.goto 68, 3) := by decide +kernel
theorem dX7_goRun_107 : decode cX7_goRun 107 = .ok (.aload_n 0, 1) := by decide +kernel
theorem dX7_goRun_108 : decode cX7_goRun 108 = .ok (.aload_n 0, 1) := by decide +kernel
theorem dX7_goRun_109 : decode cX7_goRun 109 = .ok (.getfield 62, 3) := by decide +kernel
theorem dX7_goRun_112 : decode cX7_goRun 112 = .ok (.aload_n 0, 1) := by decide +kernel
theorem dX7_goRun_113 : decode cX7_goRun 113 = .ok (.getfield 439, 3) := by decide +kernel
theorem dX7_goRun_116 : decode cX7_goRun 116 = .ok (.iaload, 1) := by decide +kernel
theorem dX7_goRun_117 : decode cX7_goRun 117 = .ok (.putfield 439, 3) := by decide +kernel
theorem dX7_goRun_120 : decode cX7_goRun 120 = .ok (.goto 52, 3) := by decide +kernel
theorem dX7_goRun_123 : decode cX7_goRun 123 = .ok (.aload_n 0, 1) := by decide +kernel
theorem dX7_goRun_124 : decode cX7_goRun 124 = .ok (.invokevirtual 448, 3) := by decide +kernel
theorem dX7_goRun_127 : decode cX7_goRun 127 = .ok (.ifCond .ne 5, 3) := by decide +kernel
theorem dX7_goRun_130 : decode cX7_goRun 130 = .ok (.iload_n 1, 1) := by decide +kernel
theorem dX7_goRun_131 : decode cX7_goRun 131 = .ok (.ireturn, 1) := by decide +kernel
theorem dX7_goRun_132 : decode cX7_goRun 132 = .ok (.aload_n 0, 1) := by decide +kernel
theorem dX7_goRun_133 : decode cX7_goRun 133 = .ok (.invokevirtual 451, 3) := by decide +kernel
theorem dX7_goRun_136 : decode cX7_goRun 136 = .ok (.iinc 1 1, 3) := by decide +kernel
theorem dX7_goRun_139 : decode cX7_goRun 139 = .ok (.aload_n 0, 1) := by decide +kernel
theorem dX7_goRun_140 : decode cX7_goRun 140 = .ok (.getfield 50, 3) := by decide +kernel
theorem dX7_goRun_143 : decode cX7_goRun 143 = .ok (.aload_n 0, 1) := by decide +kernel
theorem dX7_goRun_144 : decode cX7_goRun 144 = .ok (.getfield 439, 3) := by decide +kernel
theorem dX7_goRun_147 : decode cX7_goRun 147 = .ok (.iaload, 1) := by decide +kernel
theorem dX7_goRun_148 : decode cX7_goRun 148 = .ok (.ifCond .ne 14, 3) := by decide +kernel
theorem dX7_goRun_151 : decode cX7_goRun 151 = .ok (.aload_n 0, 1) := by decide +kernel
theorem dX7_goRun_152 : decode cX7_goRun 152 = .ok (.getfield 308, 3) := by decide +kernel
theorem dX7_goRun_155 : decode cX7_goRun 155 = .ok (.bipush (-2), 2) := by decide +kernel
theorem dX7_goRun_157 : decode cX7_goRun 157 = .ok (.if_icmp .ne 5, 3) := by decide +kernel
theorem dX7_goRun_160 : decode cX7_goRun 160 = .ok (.iload_n 1, 1) := by decide +kernel
theorem dX7_goRun_161 : decode cX7_goRun 161 = .ok (.ireturn, 1) := by decide +kernel
theorem dX7_goRun_162 : decode cX7_goRun 162 = .ok (.aload_n 0, 1) := by decide +kernel
theorem dX7_goRun_163 : decode cX7_goRun 163 = .ok (.dup, 1) := by decide +kernel
theorem dX7_goRun_164 : decode cX7_goRun 164 = .ok (.getfield 439, 3) := by decide +kernel
theorem dX7_goRun_167 : decode cX7_goRun 167 = .ok (.iconst 1, 1) := by decide +kernel
theorem dX7_goRun_168 : decode cX7_goRun 168 = .ok (.iadd, 1) := by decide +kernel
theorem dX7_goRun_169 : decode cX7_goRun 169 = .ok (.putfield 439, 3) := by decide +kernel
theorem dX7_goRun_172 : decode cX7_goRun 172 = .ok (.aload_n 0, 1) := by decide +kernel
theorem dX7_goRun_173 : decode cX7_goRun 173 = .ok (.invokevirtual 442, 3) := by decide +kernel
theorem dX7_goRun_176 : decode cX7_goRun 176 = .ok (.goto (-160), 3) := by decide +kernel
theorem dX7_goRun_179 : decode cX7_goRun 179 = .ok (.iload_n 1, 1) := by decide +kernel
theorem dX7_goRun_180 : decode cX7_goRun 180 = .ok (.ireturn, 1) := by decide +kernel
theorem dX7_run_0 : decode cX7_run 0 = .ok (.aload_n 0, 1) := by decide +kernel
theorem dX7_run_1 : decode cX7_run 1 = .ok (.getfield 433, 3) := by decide +kernel
theorem dX7_run_4 : decode cX7_run 4 = .ok (.ifCond .ne 5, 3) := by decide +kernel
theorem dX7_run_7 : decode cX7_run 7 = .ok (.iconst (-1), 1) := by decide +kernel
theorem dX7_run_8 : decode cX7_run 8 = .ok (.ireturn, 1) := by decide +kernel
theorem dX7_run_9 : decode cX7_run 9 = .ok (.aload_n 0, 1) := by decide +kernel
theorem dX7_run_10 : decode cX7_run 10 = .ok (.invokevirtual 219, 3) := by decide +kernel
theorem dX7_run_13 : decode cX7_run 13 = .ok (.aload_n 0, 1) := by decide +kernel
theorem dX7_run_14 : decode cX7_run 14 = .ok (.invokevirtual 454, 3) := by decide +kernel
theorem dX7_run_17 : decode cX7_run 17 = .ok (.ireturn, 1) := by decide +kernel
theorem dX7_apart_0 : decode cX7_apart 0 = .ok (.aload_n 0, 1) := by decide +kernel
theorem dX7_apart_1 : decode cX7_apart 1 = .ok (.invokevirtual 283, 3) := by decide +kernel
theorem dX7_apart_4 : decode cX7_apart 4 = .ok (.aload_n 0, 1) := by decide +kernel
theorem dX7_apart_5 : decode cX7_apart 5 = .ok (.iload_n 1, 1) := by decide +kernel
theorem dX7_apart_6 : decode cX7_apart 6 = .ok (.invokevirtual 311, 3) := by decide +kernel
theorem dX7_apart_9 : decode cX7_apart 9 = .ok (.aload_n 0, 1) := by decide +kernel
theorem dX7_apart_10 : decode cX7_apart 10 = .ok (.invokevirtual 454, 3) := by decide +kernel
theorem dX7_apart_13 : decode cX7_apart 13 = .ok (.istore_n 3, 1) := by decide +kernel
theorem dX7_apart_14 : decode cX7_apart 14 = .ok (.iload_n 2, 1) := by decide +kernel
theorem dX7_apart_15 : decode cX7_apart 15 = .ok (.ifCond .ne 7, 3) := by decide +kernel
theorem dX7_apart_18 : decode cX7_apart 18 = .ok (.iload_n 3, 1) := by decide +kernel
theorem dX7_apart_19 : decode cX7_apart 19 = .ok (.goto 8, 3) := by decide +kernel
theorem dX7_apart_22 : decode cX7_apart 22 = .ok (.aload_n 0, 1) := by decide +kernel
theorem dX7_apart_23 : decode cX7_apart 23 = .ok (.iload_n 2, 1) := by decide +kernel
theorem dX7_apart_24 : decode cX7_apart 24 = .ok (.invokevirtual 457, 3) := by decide +kernel
theorem dX7_apart_27 : decode cX7_apart 27 = .ok (.istore 4, 2) := by decide +kernel
theorem dX7_apart_29 : decode cX7_apart 29 = .ok (.aload_n 0, 1) := by decide +kernel
theorem dX7_apart_30 : decode cX7_apart 30 = .ok (.invokevirtual 289, 3) := by decide +kernel
theorem dX7_apart_33 : decode cX7_apart 33 = .ok (.iload 4, 2) := by decide +kernel
theorem dX7_apart_35 : decode cX7_apart 35 = .ok (.ireturn, 1) := by decide +kernel
theorem dX7_apartTells_0 : decode cX7_apartTells 0 = .ok (.iload_n 1, 1) := by decide +kernel
theorem dX7_apartTells_1 : decode cX7_apartTells 1 = .ok (.tableswitch 72 1 5 #[35, 43, 51, 59, 67], 35) := by decide +kernel
theorem dX7_apartTells_36 : decode cX7_apartTells 36 = .ok (.aload_n 0, 1) := by decide +kernel
theorem dX7_apartTells_37 : decode cX7_apartTells 37 = .ok (.sipush 730, 3) := by decide +kernel
theorem dX7_apartTells_40 : decode cX7_apartTells 40 = .ok (.invokevirtual 295, 3) := by decide +kernel
theorem dX7_apartTells_43 : decode cX7_apartTells 43 = .ok (.ireturn, 1) := by decide +kernel
theorem dX7_apartTells_44 : decode cX7_apartTells 44 = .ok (.aload_n 0, 1) := by decide +kernel
theorem dX7_apartTells_45 : decode cX7_apartTells 45 = .ok (.sipush 732, 3) := by decide +kernel
theorem dX7_apartTells_48 : decode cX7_apartTells 48 = .ok (.invokevirtual 295, 3) := by decide +kernel
theorem dX7_apartTells_51 : decode cX7_apartTells 51 = .ok (.ireturn, 1) := by decide +kernel
theorem dX7_apartTells_52 : decode cX7_apartTells 52 = .ok (.aload_n 0, 1) := by decide +kernel
theorem dX7_apartTells_53 : decode cX7_apartTells 53 = .ok (.sipush 731, 3) := by decide +kernel
theorem dX7_apartTells_56 : decode cX7_apartTells 56 = .ok (.invokevirtual 295, 3) := by decide +kernel
theorem dX7_apartTells_59 : decode cX7_apartTells 59 = .ok (.ireturn, 1) := by decide +kernel
theorem dX7_apartTells_60 : decode cX7_apartTells 60 = .ok (.aload_n 0, 1) := by decide +kernel
theorem dX7_apartTells_61 : decode cX7_apartTells 61 = .ok (.sipush 729, 3) := by decide +kernel
theorem dX7_apartTells_64 : decode cX7_apartTells 64 = .ok (.invokevirtual 295, 3) := by decide +kernel
theorem dX7_apartTells_67 : decode cX7_apartTells 67 = .ok (.ireturn, 1) := by decide +kernel
theorem dX7_apartTells_68 : decode cX7_apartTells 68 = .ok (.aload_n 0, 1) := by decide +kernel
theorem dX7_apartTells_69 : decode cX7_apartTells 69 = .ok (.invokevirtual 164, 3) := by decide +kernel
theorem dX7_apartTells_72 : decode cX7_apartTells 72 = .ok (.ireturn, 1) := by decide +kernel
theorem dX7_apartTells_73 : decode cX7_apartTells 73 = .ok (.aload_n 0, 1) := by decide +kernel
theorem dX7_apartTells_74 : decode cX7_apartTells 74 = .ok (.iconst (-1), 1) := by decide +kernel
theorem dX7_apartTells_75 : decode cX7_apartTells 75 = .ok (.invokevirtual 268, 3) := by decide +kernel
theorem dX7_apartTells_78 : decode cX7_apartTells 78 = .ok (.ireturn, 1) := by decide +kernel
theorem dX7_runBy_0 : decode cX7_runBy 0 = .ok (.aload_n 0, 1) := by decide +kernel
theorem dX7_runBy_1 : decode cX7_runBy 1 = .ok (.getfield 433, 3) := by decide +kernel
theorem dX7_runBy_4 : decode cX7_runBy 4 = .ok (.ifCond .eq 22, 3) := by decide +kernel
theorem dX7_runBy_7 : decode cX7_runBy 7 = .ok (.iload_n 1, 1) := by decide +kernel
theorem dX7_runBy_8 : decode cX7_runBy 8 = .ok (.iconst 0, 1) := by decide +kernel
theorem dX7_runBy_9 : decode cX7_runBy 9 = .ok (.iconst 3, 1) := by decide +kernel
theorem dX7_runBy_10 : decode cX7_runBy 10 = .ok (.invokestatic 94, 3) := by decide +kernel
theorem dX7_runBy_13 : decode cX7_runBy 13 = .ok (.ifCond .eq 13, 3) := by decide +kernel
theorem dX7_runBy_16 : decode cX7_runBy 16 = .ok (.iload_n 2, 1) := by decide +kernel
theorem dX7_runBy_17 : decode cX7_runBy 17 = .ok (.iconst 0, 1) := by decide +kernel
theorem dX7_runBy_18 : decode cX7_runBy 18 = .ok (.bipush 6, 2) := by decide +kernel
theorem dX7_runBy_20 : decode cX7_runBy 20 = .ok (.invokestatic 94, 3) := by decide +kernel
theorem dX7_runBy_23 : decode cX7_runBy 23 = .ok (.ifCond .ne 5, 3) := by decide +kernel
theorem dX7_runBy_26 : decode cX7_runBy 26 = .ok (.iconst (-1), 1) := by decide +kernel
theorem dX7_runBy_27 : decode cX7_runBy 27 = .ok (.ireturn, 1) := by decide +kernel
theorem dX7_runBy_28 : decode cX7_runBy 28 = .ok (.aload_n 0, 1) := by decide +kernel
theorem dX7_runBy_29 : decode cX7_runBy 29 = .ok (.iload_n 1, 1) := by decide +kernel
theorem dX7_runBy_30 : decode cX7_runBy 30 = .ok (.iload_n 2, 1) := by decide +kernel
theorem dX7_runBy_31 : decode cX7_runBy 31 = .ok (.invokevirtual 460, 3) := by decide +kernel
theorem dX7_runBy_34 : decode cX7_runBy 34 = .ok (.ireturn, 1) := by decide +kernel
theorem dX7_cheapest_0 : decode cX7_cheapest 0 = .ok (.aload_n 0, 1) := by decide +kernel
theorem dX7_cheapest_1 : decode cX7_cheapest 1 = .ok (.getfield 433, 3) := by decide +kernel
theorem dX7_cheapest_4 : decode cX7_cheapest 4 = .ok (.ifCond .eq 12, 3) := by decide +kernel
theorem dX7_cheapest_7 : decode cX7_cheapest 7 = .ok (.iload_n 1, 1) := by decide +kernel
theorem dX7_cheapest_8 : decode cX7_cheapest 8 = .ok (.iconst 0, 1) := by decide +kernel
theorem dX7_cheapest_9 : decode cX7_cheapest 9 = .ok (.iconst 1, 1) := by decide +kernel
theorem dX7_cheapest_10 : decode cX7_cheapest 10 = .ok (.invokestatic 94, 3) := by decide +kernel
theorem dX7_cheapest_13 : decode cX7_cheapest 13 = .ok (.ifCond .ne 5, 3) := by decide +kernel
theorem dX7_cheapest_16 : decode cX7_cheapest 16 = .ok (.iconst (-1), 1) := by decide +kernel
theorem dX7_cheapest_17 : decode cX7_cheapest 17 = .ok (.ireturn, 1) := by decide +kernel
theorem dX7_cheapest_18 : decode cX7_cheapest 18 = .ok (.iconst 0, 1) := by decide +kernel
theorem dX7_cheapest_19 : decode cX7_cheapest 19 = .ok (.istore_n 2, 1) := by decide +kernel
theorem dX7_cheapest_20 : decode cX7_cheapest 20 = .ok (.aload_n 0, 1) := by decide +kernel
theorem dX7_cheapest_21 : decode cX7_cheapest 21 = .ok (.iconst 0, 1) := by decide +kernel
theorem dX7_cheapest_22 : decode cX7_cheapest 22 = .ok (.iconst 1, 1) := by decide +kernel
theorem dX7_cheapest_23 : decode cX7_cheapest 23 = .ok (.invokevirtual 460, 3) := by decide +kernel
theorem dX7_cheapest_26 : decode cX7_cheapest 26 = .ok (.istore_n 3, 1) := by decide +kernel
theorem dX7_cheapest_27 : decode cX7_cheapest 27 = .ok (.iconst 1, 1) := by decide +kernel
theorem dX7_cheapest_28 : decode cX7_cheapest 28 = .ok (.istore 4, 2) := by decide +kernel
theorem dX7_cheapest_30 : decode cX7_cheapest 30 = .ok (.iload 4, 2) := by decide +kernel
theorem dX7_cheapest_32 : decode cX7_cheapest 32 = .ok (.iconst 2, 1) := by decide +kernel
theorem dX7_cheapest_33 : decode cX7_cheapest 33 = .ok (.if_icmp .gt 33, 3) := by decide +kernel
theorem dX7_cheapest_36 : decode cX7_cheapest 36 = .ok (.aload_n 0, 1) := by decide +kernel
theorem dX7_cheapest_37 : decode cX7_cheapest 37 = .ok (.iload 4, 2) := by decide +kernel
theorem dX7_cheapest_39 : decode cX7_cheapest 39 = .ok (.iconst 1, 1) := by decide +kernel
theorem dX7_cheapest_40 : decode cX7_cheapest 40 = .ok (.invokevirtual 460, 3) := by decide +kernel
theorem dX7_cheapest_43 : decode cX7_cheapest 43 = .ok (.istore 5, 2) := by decide +kernel
theorem dX7_cheapest_45 : decode cX7_cheapest 45 = .ok (.iload 5, 2) := by decide +kernel
theorem dX7_cheapest_47 : decode cX7_cheapest 47 = .ok (.iload_n 3, 1) := by decide +kernel
theorem dX7_cheapest_48 : decode cX7_cheapest 48 = .ok (.if_icmp .lt 6, 3) := by decide +kernel
theorem dX7_cheapest_51 : decode cX7_cheapest 51 = .ok (.goto 9, 3) := by decide +kernel
theorem dX7_cheapest_54 : decode cX7_cheapest 54 = .ok (.iload 4, 2) := by decide +kernel
theorem dX7_cheapest_56 : decode cX7_cheapest 56 = .ok (.istore_n 2, 1) := by decide +kernel
theorem dX7_cheapest_57 : decode cX7_cheapest 57 = .ok (.iload 5, 2) := by decide +kernel
theorem dX7_cheapest_59 : decode cX7_cheapest 59 = .ok (.istore_n 3, 1) := by decide +kernel
theorem dX7_cheapest_60 : decode cX7_cheapest 60 = .ok (.iinc 4 1, 3) := by decide +kernel
theorem dX7_cheapest_63 : decode cX7_cheapest 63 = .ok (.goto (-33), 3) := by decide +kernel
theorem dX7_cheapest_66 : decode cX7_cheapest 66 = .ok (.iload_n 1, 1) := by decide +kernel
theorem dX7_cheapest_67 : decode cX7_cheapest 67 = .ok (.ifCond .ne 7, 3) := by decide +kernel
theorem dX7_cheapest_70 : decode cX7_cheapest 70 = .ok (.iload_n 2, 1) := by decide +kernel
theorem dX7_cheapest_71 : decode cX7_cheapest 71 = .ok (.goto 4, 3) := by decide +kernel
theorem dX7_cheapest_74 : decode cX7_cheapest 74 = .ok (.iload_n 3, 1) := by decide +kernel
theorem dX7_cheapest_75 : decode cX7_cheapest 75 = .ok (.ireturn, 1) := by decide +kernel
theorem dX7_suits_0 : decode cX7_suits 0 = .ok (.aload_n 0, 1) := by decide +kernel
theorem dX7_suits_1 : decode cX7_suits 1 = .ok (.getfield 433, 3) := by decide +kernel
theorem dX7_suits_4 : decode cX7_suits 4 = .ok (.ifCond .ne 5, 3) := by decide +kernel
theorem dX7_suits_7 : decode cX7_suits 7 = .ok (.iconst (-1), 1) := by decide +kernel
theorem dX7_suits_8 : decode cX7_suits 8 = .ok (.ireturn, 1) := by decide +kernel
theorem dX7_suits_9 : decode cX7_suits 9 = .ok (.iconst (-1), 1) := by decide +kernel
theorem dX7_suits_10 : decode cX7_suits 10 = .ok (.istore_n 1, 1) := by decide +kernel
theorem dX7_suits_11 : decode cX7_suits 11 = .ok (.aload_n 0, 1) := by decide +kernel
theorem dX7_suits_12 : decode cX7_suits 12 = .ok (.invokevirtual 283, 3) := by decide +kernel
theorem dX7_suits_15 : decode cX7_suits 15 = .ok (.iconst 0, 1) := by decide +kernel
theorem dX7_suits_16 : decode cX7_suits 16 = .ok (.istore_n 2, 1) := by decide +kernel
theorem dX7_suits_17 : decode cX7_suits 17 = .ok (.iload_n 2, 1) := by decide +kernel
theorem dX7_suits_18 : decode cX7_suits 18 = .ok (.bipush 16, 2) := by decide +kernel
theorem dX7_suits_20 : decode cX7_suits 20 = .ok (.if_icmp .gt 58, 3) := by decide +kernel
theorem dX7_suits_23 : decode cX7_suits 23 = .ok (.iload_n 1, 1) := by decide +kernel
theorem dX7_suits_24 : decode cX7_suits 24 = .ok (.ifCond .ge 54, 3) := by decide +kernel
theorem dX7_suits_27 : decode cX7_suits 27 = .ok (.aload_n 0, 1) := by decide +kernel
theorem dX7_suits_28 : decode cX7_suits 28 = .ok (.aload_n 0, 1) := by decide +kernel
theorem dX7_suits_29 : decode cX7_suits 29 = .ok (.getfield 7, 3) := by decide +kernel
theorem dX7_suits_32 : decode cX7_suits 32 = .ok (.sipush 735, 3) := by decide +kernel
theorem dX7_suits_35 : decode cX7_suits 35 = .ok (.iaload, 1) := by decide +kernel
theorem dX7_suits_36 : decode cX7_suits 36 = .ok (.invokevirtual 311, 3) := by decide +kernel
theorem dX7_suits_39 : decode cX7_suits 39 = .ok (.aload_n 0, 1) := by decide +kernel
theorem dX7_suits_40 : decode cX7_suits 40 = .ok (.getfield 7, 3) := by decide +kernel
theorem dX7_suits_43 : decode cX7_suits 43 = .ok (.sipush 737, 3) := by decide +kernel
theorem dX7_suits_46 : decode cX7_suits 46 = .ok (.iload_n 2, 1) := by decide +kernel
theorem dX7_suits_47 : decode cX7_suits 47 = .ok (.iastore, 1) := by decide +kernel
theorem dX7_suits_48 : decode cX7_suits 48 = .ok (.aload_n 0, 1) := by decide +kernel
theorem dX7_suits_49 : decode cX7_suits 49 = .ok (.aload_n 0, 1) := by decide +kernel
theorem dX7_suits_50 : decode cX7_suits 50 = .ok (.invokevirtual 454, 3) := by decide +kernel
theorem dX7_suits_53 : decode cX7_suits 53 = .ok (.putfield 308, 3) := by decide +kernel
theorem dX7_suits_56 : decode cX7_suits 56 = .ok (.aload_n 0, 1) := by decide +kernel
theorem dX7_suits_57 : decode cX7_suits 57 = .ok (.sipush 731, 3) := by decide +kernel
theorem dX7_suits_60 : decode cX7_suits 60 = .ok (.invokevirtual 295, 3) := by decide +kernel
theorem dX7_suits_63 : decode cX7_suits 63 = .ok (.ifCond .ne 5, 3) := by decide +kernel
theorem dX7_suits_66 : decode cX7_suits 66 = .ok (.iload_n 2, 1) := by decide +kernel
theorem dX7_suits_67 : decode cX7_suits 67 = .ok (.istore_n 1, 1) := by decide +kernel
theorem dX7_suits_68 : decode cX7_suits 68 = .ok (.aload_n 0, 1) := by decide +kernel
theorem dX7_suits_69 : decode cX7_suits 69 = .ok (.invokevirtual 289, 3) := by decide +kernel
theorem dX7_suits_72 : decode cX7_suits 72 = .ok (.iinc 2 1, 3) := by decide +kernel
theorem dX7_suits_75 : decode cX7_suits 75 = .ok (.goto (-58), 3) := by decide +kernel
theorem dX7_suits_78 : decode cX7_suits 78 = .ok (.iload_n 1, 1) := by decide +kernel
theorem dX7_suits_79 : decode cX7_suits 79 = .ok (.ireturn, 1) := by decide +kernel
theorem dX7_keepAct_0 : decode cX7_keepAct 0 = .ok (.aload_n 0, 1) := by decide +kernel
theorem dX7_keepAct_1 : decode cX7_keepAct 1 = .ok (.getfield 250, 3) := by decide +kernel
theorem dX7_keepAct_4 : decode cX7_keepAct 4 = .ok (.bipush 20, 2) := by decide +kernel
theorem dX7_keepAct_6 : decode cX7_keepAct 6 = .ok (.if_icmp .ne 44, 3) := by decide +kernel
theorem dX7_keepAct_9 : decode cX7_keepAct 9 = .ok (.iconst 0, 1) := by decide +kernel
theorem dX7_keepAct_10 : decode cX7_keepAct 10 = .ok (.istore_n 1, 1) := by decide +kernel
theorem dX7_keepAct_11 : decode cX7_keepAct 11 = .ok (.iload_n 1, 1) := by decide +kernel
theorem dX7_keepAct_12 : decode cX7_keepAct 12 = .ok (.sipush 15800, 3) := by decide +kernel
theorem dX7_keepAct_15 : decode cX7_keepAct 15 = .ok (.if_icmp .ge 25, 3) := by decide +kernel
theorem dX7_keepAct_18 : decode cX7_keepAct 18 = .ok (.aload_n 0, 1) := by decide +kernel
theorem dX7_keepAct_19 : decode cX7_keepAct 19 = .ok (.getfield 81, 3) := by decide +kernel
theorem dX7_keepAct_22 : decode cX7_keepAct 22 = .ok (.iload_n 1, 1) := by decide +kernel
theorem dX7_keepAct_23 : decode cX7_keepAct 23 = .ok (.aload_n 0, 1) := by decide +kernel
theorem dX7_keepAct_24 : decode cX7_keepAct 24 = .ok (.getfield 81, 3) := by decide +kernel
theorem dX7_keepAct_27 : decode cX7_keepAct 27 = .ok (.iload_n 1, 1) := by decide +kernel
theorem dX7_keepAct_28 : decode cX7_keepAct 28 = .ok (.sipush 790, 3) := by decide +kernel
theorem dX7_keepAct_31 : decode cX7_keepAct 31 = .ok (.iadd, 1) := by decide +kernel
theorem dX7_keepAct_32 : decode cX7_keepAct 32 = .ok (.iaload, 1) := by decide +kernel
theorem dX7_keepAct_33 : decode cX7_keepAct 33 = .ok (.iastore, 1) := by decide +kernel
theorem dX7_keepAct_34 : decode cX7_keepAct 34 = .ok (.iinc 1 1, 3) := by decide +kernel
theorem dX7_keepAct_37 : decode cX7_keepAct 37 = .ok (.goto (-26), 3) := by decide +kernel
theorem dX7_keepAct_40 : decode cX7_keepAct 40 = .ok (.aload_n 0, 1) := by decide +kernel
theorem dX7_keepAct_41 : decode cX7_keepAct 41 = .ok (.dup, 1) := by decide +kernel
theorem dX7_keepAct_42 : decode cX7_keepAct 42 = .ok (.getfield 250, 3) := by decide +kernel
theorem dX7_keepAct_45 : decode cX7_keepAct 45 = .ok (.iconst 1, 1) := by decide +kernel
theorem dX7_keepAct_46 : decode cX7_keepAct 46 = .ok (.isub, 1) := by decide +kernel
theorem dX7_keepAct_47 : decode cX7_keepAct 47 = .ok (.putfield 250, 3) := by decide +kernel
theorem dX7_keepAct_50 : decode cX7_keepAct 50 = .ok (.iconst 0, 1) := by decide +kernel
theorem dX7_keepAct_51 : decode cX7_keepAct 51 = .ok (.istore_n 1, 1) := by decide +kernel
theorem dX7_keepAct_52 : decode cX7_keepAct 52 = .ok (.iload_n 1, 1) := by decide +kernel
theorem dX7_keepAct_53 : decode cX7_keepAct 53 = .ok (.sipush 790, 3) := by decide +kernel
theorem dX7_keepAct_56 : decode cX7_keepAct 56 = .ok (.if_icmp .ge 30, 3) := by decide +kernel
theorem dX7_keepAct_59 : decode cX7_keepAct 59 = .ok (.aload_n 0, 1) := by decide +kernel
theorem dX7_keepAct_60 : decode cX7_keepAct 60 = .ok (.getfield 81, 3) := by decide +kernel
theorem dX7_keepAct_63 : decode cX7_keepAct 63 = .ok (.sipush 790, 3) := by decide +kernel
theorem dX7_keepAct_66 : decode cX7_keepAct 66 = .ok (.aload_n 0, 1) := by decide +kernel
theorem dX7_keepAct_67 : decode cX7_keepAct 67 = .ok (.getfield 250, 3) := by decide +kernel
theorem dX7_keepAct_70 : decode cX7_keepAct 70 = .ok (.imul, 1) := by decide +kernel
theorem dX7_keepAct_71 : decode cX7_keepAct 71 = .ok (.iload_n 1, 1) := by decide +kernel
theorem dX7_keepAct_72 : decode cX7_keepAct 72 = .ok (.iadd, 1) := by decide +kernel
theorem dX7_keepAct_73 : decode cX7_keepAct 73 = .ok (.aload_n 0, 1) := by decide +kernel
theorem dX7_keepAct_74 : decode cX7_keepAct 74 = .ok (.getfield 7, 3) := by decide +kernel
theorem dX7_keepAct_77 : decode cX7_keepAct 77 = .ok (.iload_n 1, 1) := by decide +kernel
theorem dX7_keepAct_78 : decode cX7_keepAct 78 = .ok (.iaload, 1) := by decide +kernel
theorem dX7_keepAct_79 : decode cX7_keepAct 79 = .ok (.iastore, 1) := by decide +kernel
theorem dX7_keepAct_80 : decode cX7_keepAct 80 = .ok (.iinc 1 1, 3) := by decide +kernel
theorem dX7_keepAct_83 : decode cX7_keepAct 83 = .ok (.goto (-31), 3) := by decide +kernel
theorem dX7_keepAct_86 : decode cX7_keepAct 86 = .ok (.aload_n 0, 1) := by decide +kernel
theorem dX7_keepAct_87 : decode cX7_keepAct 87 = .ok (.dup, 1) := by decide +kernel
theorem dX7_keepAct_88 : decode cX7_keepAct 88 = .ok (.getfield 250, 3) := by decide +kernel
theorem dX7_keepAct_91 : decode cX7_keepAct 91 = .ok (.iconst 1, 1) := by decide +kernel
theorem dX7_keepAct_92 : decode cX7_keepAct 92 = .ok (.iadd, 1) := by decide +kernel
theorem dX7_keepAct_93 : decode cX7_keepAct 93 = .ok (.putfield 250, 3) := by decide +kernel
theorem dX7_keepAct_96 : decode cX7_keepAct 96 = .ok (.aload_n 0, 1) := by decide +kernel
theorem dX7_keepAct_97 : decode cX7_keepAct 97 = .ok (.iconst 0, 1) := by decide +kernel
theorem dX7_keepAct_98 : decode cX7_keepAct 98 = .ok (.putfield 253, 3) := by decide +kernel
theorem dX7_keepAct_101 : decode cX7_keepAct 101 = .ok (.return_, 1) := by decide +kernel
theorem dX7_swapAll_0 : decode cX7_swapAll 0 = .ok (.iconst 0, 1) := by decide +kernel
theorem dX7_swapAll_1 : decode cX7_swapAll 1 = .ok (.istore_n 1, 1) := by decide +kernel
theorem dX7_swapAll_2 : decode cX7_swapAll 2 = .ok (.iload_n 1, 1) := by decide +kernel
theorem dX7_swapAll_3 : decode cX7_swapAll 3 = .ok (.sipush 790, 3) := by decide +kernel
theorem dX7_swapAll_6 : decode cX7_swapAll 6 = .ok (.if_icmp .ge 53, 3) := by decide +kernel
theorem dX7_swapAll_9 : decode cX7_swapAll 9 = .ok (.aload_n 0, 1) := by decide +kernel
theorem dX7_swapAll_10 : decode cX7_swapAll 10 = .ok (.getfield 81, 3) := by decide +kernel
theorem dX7_swapAll_13 : decode cX7_swapAll 13 = .ok (.sipush 790, 3) := by decide +kernel
theorem dX7_swapAll_16 : decode cX7_swapAll 16 = .ok (.aload_n 0, 1) := by decide +kernel
theorem dX7_swapAll_17 : decode cX7_swapAll 17 = .ok (.getfield 250, 3) := by decide +kernel
theorem dX7_swapAll_20 : decode cX7_swapAll 20 = .ok (.imul, 1) := by decide +kernel
theorem dX7_swapAll_21 : decode cX7_swapAll 21 = .ok (.iload_n 1, 1) := by decide +kernel
theorem dX7_swapAll_22 : decode cX7_swapAll 22 = .ok (.iadd, 1) := by decide +kernel
theorem dX7_swapAll_23 : decode cX7_swapAll 23 = .ok (.iaload, 1) := by decide +kernel
theorem dX7_swapAll_24 : decode cX7_swapAll 24 = .ok (.istore_n 2, 1) := by decide +kernel
theorem dX7_swapAll_25 : decode cX7_swapAll 25 = .ok (.aload_n 0, 1) := by decide +kernel
theorem dX7_swapAll_26 : decode cX7_swapAll 26 = .ok (.getfield 81, 3) := by decide +kernel
theorem dX7_swapAll_29 : decode cX7_swapAll 29 = .ok (.sipush 790, 3) := by decide +kernel
theorem dX7_swapAll_32 : decode cX7_swapAll 32 = .ok (.aload_n 0, 1) := by decide +kernel
theorem dX7_swapAll_33 : decode cX7_swapAll 33 = .ok (.getfield 250, 3) := by decide +kernel
theorem dX7_swapAll_36 : decode cX7_swapAll 36 = .ok (.imul, 1) := by decide +kernel
theorem dX7_swapAll_37 : decode cX7_swapAll 37 = .ok (.iload_n 1, 1) := by decide +kernel
theorem dX7_swapAll_38 : decode cX7_swapAll 38 = .ok (.iadd, 1) := by decide +kernel
theorem dX7_swapAll_39 : decode cX7_swapAll 39 = .ok (.aload_n 0, 1) := by decide +kernel
theorem dX7_swapAll_40 : decode cX7_swapAll 40 = .ok (.getfield 7, 3) := by decide +kernel
theorem dX7_swapAll_43 : decode cX7_swapAll 43 = .ok (.iload_n 1, 1) := by decide +kernel
theorem dX7_swapAll_44 : decode cX7_swapAll 44 = .ok (.iaload, 1) := by decide +kernel
theorem dX7_swapAll_45 : decode cX7_swapAll 45 = .ok (.iastore, 1) := by decide +kernel
theorem dX7_swapAll_46 : decode cX7_swapAll 46 = .ok (.aload_n 0, 1) := by decide +kernel
theorem dX7_swapAll_47 : decode cX7_swapAll 47 = .ok (.getfield 7, 3) := by decide +kernel
theorem dX7_swapAll_50 : decode cX7_swapAll 50 = .ok (.iload_n 1, 1) := by decide +kernel
theorem dX7_swapAll_51 : decode cX7_swapAll 51 = .ok (.iload_n 2, 1) := by decide +kernel
theorem dX7_swapAll_52 : decode cX7_swapAll 52 = .ok (.iastore, 1) := by decide +kernel
theorem dX7_swapAll_53 : decode cX7_swapAll 53 = .ok (.iinc 1 1, 3) := by decide +kernel
theorem dX7_swapAll_56 : decode cX7_swapAll 56 = .ok (.goto (-54), 3) := by decide +kernel
theorem dX7_swapAll_59 : decode cX7_swapAll 59 = .ok (.return_, 1) := by decide +kernel
theorem dX7_undo_0 : decode cX7_undo 0 = .ok (.aload_n 0, 1) := by decide +kernel
theorem dX7_undo_1 : decode cX7_undo 1 = .ok (.getfield 250, 3) := by decide +kernel
theorem dX7_undo_4 : decode cX7_undo 4 = .ok (.ifCond .ne 5, 3) := by decide +kernel
theorem dX7_undo_7 : decode cX7_undo 7 = .ok (.iconst 0, 1) := by decide +kernel
theorem dX7_undo_8 : decode cX7_undo 8 = .ok (.ireturn, 1) := by decide +kernel
theorem dX7_undo_9 : decode cX7_undo 9 = .ok (.aload_n 0, 1) := by decide +kernel
theorem dX7_undo_10 : decode cX7_undo 10 = .ok (.dup, 1) := by decide +kernel
theorem dX7_undo_11 : decode cX7_undo 11 = .ok (.getfield 250, 3) := by decide +kernel
theorem dX7_undo_14 : decode cX7_undo 14 = .ok (.iconst 1, 1) := by decide +kernel
theorem dX7_undo_15 : decode cX7_undo 15 = .ok (.isub, 1) := by decide +kernel
theorem dX7_undo_16 : decode cX7_undo 16 = .ok (.putfield 250, 3) := by decide +kernel
theorem dX7_undo_19 : decode cX7_undo 19 = .ok (.aload_n 0, 1) := by decide +kernel
theorem dX7_undo_20 : decode cX7_undo 20 = .ok (.dup, 1) := by decide +kernel
theorem dX7_undo_21 : decode cX7_undo 21 = .ok (.getfield 253, 3) := by decide +kernel
theorem dX7_undo_24 : decode cX7_undo 24 = .ok (.iconst 1, 1) := by decide +kernel
theorem dX7_undo_25 : decode cX7_undo 25 = .ok (.iadd, 1) := by decide +kernel
theorem dX7_undo_26 : decode cX7_undo 26 = .ok (.putfield 253, 3) := by decide +kernel
theorem dX7_undo_29 : decode cX7_undo 29 = .ok (.aload_n 0, 1) := by decide +kernel
theorem dX7_undo_30 : decode cX7_undo 30 = .ok (.invokevirtual 463, 3) := by decide +kernel
theorem dX7_undo_33 : decode cX7_undo 33 = .ok (.iconst 1, 1) := by decide +kernel
theorem dX7_undo_34 : decode cX7_undo 34 = .ok (.ireturn, 1) := by decide +kernel
theorem dX7_redo_0 : decode cX7_redo 0 = .ok (.aload_n 0, 1) := by decide +kernel
theorem dX7_redo_1 : decode cX7_redo 1 = .ok (.getfield 253, 3) := by decide +kernel
theorem dX7_redo_4 : decode cX7_redo 4 = .ok (.ifCond .ne 5, 3) := by decide +kernel
theorem dX7_redo_7 : decode cX7_redo 7 = .ok (.iconst 0, 1) := by decide +kernel
theorem dX7_redo_8 : decode cX7_redo 8 = .ok (.ireturn, 1) := by decide +kernel
theorem dX7_redo_9 : decode cX7_redo 9 = .ok (.aload_n 0, 1) := by decide +kernel
theorem dX7_redo_10 : decode cX7_redo 10 = .ok (.invokevirtual 463, 3) := by decide +kernel
theorem dX7_redo_13 : decode cX7_redo 13 = .ok (.aload_n 0, 1) := by decide +kernel
theorem dX7_redo_14 : decode cX7_redo 14 = .ok (.dup, 1) := by decide +kernel
theorem dX7_redo_15 : decode cX7_redo 15 = .ok (.getfield 250, 3) := by decide +kernel
theorem dX7_redo_18 : decode cX7_redo 18 = .ok (.iconst 1, 1) := by decide +kernel
theorem dX7_redo_19 : decode cX7_redo 19 = .ok (.iadd, 1) := by decide +kernel
theorem dX7_redo_20 : decode cX7_redo 20 = .ok (.putfield 250, 3) := by decide +kernel
theorem dX7_redo_23 : decode cX7_redo 23 = .ok (.aload_n 0, 1) := by decide +kernel
theorem dX7_redo_24 : decode cX7_redo 24 = .ok (.dup, 1) := by decide +kernel
theorem dX7_redo_25 : decode cX7_redo 25 = .ok (.getfield 253, 3) := by decide +kernel
theorem dX7_redo_28 : decode cX7_redo 28 = .ok (.iconst 1, 1) := by decide +kernel
theorem dX7_redo_29 : decode cX7_redo 29 = .ok (.isub, 1) := by decide +kernel
theorem dX7_redo_30 : decode cX7_redo 30 = .ok (.putfield 253, 3) := by decide +kernel
theorem dX7_redo_33 : decode cX7_redo 33 = .ok (.iconst 1, 1) := by decide +kernel
theorem dX7_redo_34 : decode cX7_redo 34 = .ok (.ireturn, 1) := by decide +kernel
theorem dX7_image_0 : decode cX7_image 0 = .ok (.iload_n 1, 1) := by decide +kernel
theorem dX7_image_1 : decode cX7_image 1 = .ok (.iconst 0, 1) := by decide +kernel
theorem dX7_image_2 : decode cX7_image 2 = .ok (.iconst 1, 1) := by decide +kernel
theorem dX7_image_3 : decode cX7_image 3 = .ok (.invokestatic 94, 3) := by decide +kernel
theorem dX7_image_6 : decode cX7_image 6 = .ok (.ifCond .ne 5, 3) := by decide +kernel
theorem dX7_image_9 : decode cX7_image 9 = .ok (.iconst (-1), 1) := by decide +kernel
theorem dX7_image_10 : decode cX7_image 10 = .ok (.ireturn, 1) := by decide +kernel
theorem dX7_image_11 : decode cX7_image 11 = .ok (.iconst 0, 1) := by decide +kernel
theorem dX7_image_12 : decode cX7_image 12 = .ok (.istore_n 2, 1) := by decide +kernel
theorem dX7_image_13 : decode cX7_image 13 = .ok (.iload_n 2, 1) := by decide +kernel
theorem dX7_image_14 : decode cX7_image 14 = .ok (.sipush 790, 3) := by decide +kernel
theorem dX7_image_17 : decode cX7_image 17 = .ok (.if_icmp .ge 27, 3) := by decide +kernel
theorem dX7_image_20 : decode cX7_image 20 = .ok (.aload_n 0, 1) := by decide +kernel
theorem dX7_image_21 : decode cX7_image 21 = .ok (.getfield 84, 3) := by decide +kernel
theorem dX7_image_24 : decode cX7_image 24 = .ok (.sipush 790, 3) := by decide +kernel
theorem dX7_image_27 : decode cX7_image 27 = .ok (.iload_n 1, 1) := by decide +kernel
theorem dX7_image_28 : decode cX7_image 28 = .ok (.imul, 1) := by decide +kernel
theorem dX7_image_29 : decode cX7_image 29 = .ok (.iload_n 2, 1) := by decide +kernel
theorem dX7_image_30 : decode cX7_image 30 = .ok (.iadd, 1) := by decide +kernel
theorem dX7_image_31 : decode cX7_image 31 = .ok (.aload_n 0, 1) := by decide +kernel
theorem dX7_image_32 : decode cX7_image 32 = .ok (.getfield 7, 3) := by decide +kernel
theorem dX7_image_35 : decode cX7_image 35 = .ok (.iload_n 2, 1) := by decide +kernel
theorem dX7_image_36 : decode cX7_image 36 = .ok (.iaload, 1) := by decide +kernel
theorem dX7_image_37 : decode cX7_image 37 = .ok (.iastore, 1) := by decide +kernel
theorem dX7_image_38 : decode cX7_image 38 = .ok (.iinc 2 1, 3) := by decide +kernel
theorem dX7_image_41 : decode cX7_image 41 = .ok (.goto (-28), 3) := by decide +kernel
theorem dX7_image_44 : decode cX7_image 44 = .ok (.aload_n 0, 1) := by decide +kernel
theorem dX7_image_45 : decode cX7_image 45 = .ok (.getfield 87, 3) := by decide +kernel
theorem dX7_image_48 : decode cX7_image 48 = .ok (.iload_n 1, 1) := by decide +kernel
theorem dX7_image_49 : decode cX7_image 49 = .ok (.iconst 1, 1) := by decide +kernel
theorem dX7_image_50 : decode cX7_image 50 = .ok (.bastore, 1) := by decide +kernel
theorem dX7_image_51 : decode cX7_image 51 = .ok (.aload_n 0, 1) := by decide +kernel
theorem dX7_image_52 : decode cX7_image 52 = .ok (.invokevirtual 164, 3) := by decide +kernel
theorem dX7_image_55 : decode cX7_image 55 = .ok (.ireturn, 1) := by decide +kernel
theorem dX7_back_0 : decode cX7_back 0 = .ok (.iload_n 1, 1) := by decide +kernel
theorem dX7_back_1 : decode cX7_back 1 = .ok (.iconst 0, 1) := by decide +kernel
theorem dX7_back_2 : decode cX7_back 2 = .ok (.iconst 1, 1) := by decide +kernel
theorem dX7_back_3 : decode cX7_back 3 = .ok (.invokestatic 94, 3) := by decide +kernel
theorem dX7_back_6 : decode cX7_back 6 = .ok (.ifCond .eq 12, 3) := by decide +kernel
theorem dX7_back_9 : decode cX7_back 9 = .ok (.aload_n 0, 1) := by decide +kernel
theorem dX7_back_10 : decode cX7_back 10 = .ok (.getfield 87, 3) := by decide +kernel
theorem dX7_back_13 : decode cX7_back 13 = .ok (.iload_n 1, 1) := by decide +kernel
theorem dX7_back_14 : decode cX7_back 14 = .ok (.baload, 1) := by decide +kernel
theorem dX7_back_15 : decode cX7_back 15 = .ok (.ifCond .ne 5, 3) := by decide +kernel
theorem dX7_back_18 : decode cX7_back 18 = .ok (.iconst (-1), 1) := by decide +kernel
theorem dX7_back_19 : decode cX7_back 19 = .ok (.ireturn, 1) := by decide +kernel
theorem dX7_back_20 : decode cX7_back 20 = .ok (.iconst 0, 1) := by decide +kernel
theorem dX7_back_21 : decode cX7_back 21 = .ok (.istore_n 2, 1) := by decide +kernel
theorem dX7_back_22 : decode cX7_back 22 = .ok (.iload_n 2, 1) := by decide +kernel
theorem dX7_back_23 : decode cX7_back 23 = .ok (.sipush 790, 3) := by decide +kernel
theorem dX7_back_26 : decode cX7_back 26 = .ok (.if_icmp .ge 27, 3) := by decide +kernel
theorem dX7_back_29 : decode cX7_back 29 = .ok (.aload_n 0, 1) := by decide +kernel
theorem dX7_back_30 : decode cX7_back 30 = .ok (.getfield 7, 3) := by decide +kernel
theorem dX7_back_33 : decode cX7_back 33 = .ok (.iload_n 2, 1) := by decide +kernel
theorem dX7_back_34 : decode cX7_back 34 = .ok (.aload_n 0, 1) := by decide +kernel
theorem dX7_back_35 : decode cX7_back 35 = .ok (.getfield 84, 3) := by decide +kernel
theorem dX7_back_38 : decode cX7_back 38 = .ok (.sipush 790, 3) := by decide +kernel
theorem dX7_back_41 : decode cX7_back 41 = .ok (.iload_n 1, 1) := by decide +kernel
theorem dX7_back_42 : decode cX7_back 42 = .ok (.imul, 1) := by decide +kernel
theorem dX7_back_43 : decode cX7_back 43 = .ok (.iload_n 2, 1) := by decide +kernel
theorem dX7_back_44 : decode cX7_back 44 = .ok (.iadd, 1) := by decide +kernel
theorem dX7_back_45 : decode cX7_back 45 = .ok (.iaload, 1) := by decide +kernel
theorem dX7_back_46 : decode cX7_back 46 = .ok (.iastore, 1) := by decide +kernel
theorem dX7_back_47 : decode cX7_back 47 = .ok (.iinc 2 1, 3) := by decide +kernel
theorem dX7_back_50 : decode cX7_back 50 = .ok (.goto (-28), 3) := by decide +kernel
theorem dX7_back_53 : decode cX7_back 53 = .ok (.aload_n 0, 1) := by decide +kernel
theorem dX7_back_54 : decode cX7_back 54 = .ok (.iconst 0, 1) := by decide +kernel
theorem dX7_back_55 : decode cX7_back 55 = .ok (.putfield 250, 3) := by decide +kernel
theorem dX7_back_58 : decode cX7_back 58 = .ok (.aload_n 0, 1) := by decide +kernel
theorem dX7_back_59 : decode cX7_back 59 = .ok (.iconst 0, 1) := by decide +kernel
theorem dX7_back_60 : decode cX7_back 60 = .ok (.putfield 253, 3) := by decide +kernel
theorem dX7_back_63 : decode cX7_back 63 = .ok (.aload_n 0, 1) := by decide +kernel
theorem dX7_back_64 : decode cX7_back 64 = .ok (.invokevirtual 164, 3) := by decide +kernel
theorem dX7_back_67 : decode cX7_back 67 = .ok (.ireturn, 1) := by decide +kernel
theorem dX7_about_0 : decode cX7_about 0 = .ok (.iload_n 1, 1) := by decide +kernel
theorem dX7_about_1 : decode cX7_about 1 = .ok (.tableswitch 220 0 18 #[91, 100, 109, 118, 127, 136, 145, 154, 159, 159, 159, 159, 173, 182, 187, 192, 201, 210, 215], 91) := by decide +kernel
theorem dX7_about_92 : decode cX7_about 92 = .ok (.aload_n 0, 1) := by decide +kernel
theorem dX7_about_93 : decode cX7_about 93 = .ok (.getfield 7, 3) := by decide +kernel
theorem dX7_about_96 : decode cX7_about 96 = .ok (.sipush 725, 3) := by decide +kernel
theorem dX7_about_99 : decode cX7_about 99 = .ok (.iaload, 1) := by decide +kernel
theorem dX7_about_100 : decode cX7_about 100 = .ok (.ireturn, 1) := by decide +kernel
theorem dX7_about_101 : decode cX7_about 101 = .ok (.aload_n 0, 1) := by decide +kernel
theorem dX7_about_102 : decode cX7_about 102 = .ok (.getfield 7, 3) := by decide +kernel
theorem dX7_about_105 : decode cX7_about 105 = .ok (.sipush 726, 3) := by decide +kernel
theorem dX7_about_108 : decode cX7_about 108 = .ok (.iaload, 1) := by decide +kernel
theorem dX7_about_109 : decode cX7_about 109 = .ok (.ireturn, 1) := by decide +kernel
theorem dX7_about_110 : decode cX7_about 110 = .ok (.aload_n 0, 1) := by decide +kernel
theorem dX7_about_111 : decode cX7_about 111 = .ok (.getfield 7, 3) := by decide +kernel
theorem dX7_about_114 : decode cX7_about 114 = .ok (.sipush 729, 3) := by decide +kernel
theorem dX7_about_117 : decode cX7_about 117 = .ok (.iaload, 1) := by decide +kernel
theorem dX7_about_118 : decode cX7_about 118 = .ok (.ireturn, 1) := by decide +kernel
theorem dX7_about_119 : decode cX7_about 119 = .ok (.aload_n 0, 1) := by decide +kernel
theorem dX7_about_120 : decode cX7_about 120 = .ok (.getfield 7, 3) := by decide +kernel
theorem dX7_about_123 : decode cX7_about 123 = .ok (.sipush 730, 3) := by decide +kernel
theorem dX7_about_126 : decode cX7_about 126 = .ok (.iaload, 1) := by decide +kernel
theorem dX7_about_127 : decode cX7_about 127 = .ok (.ireturn, 1) := by decide +kernel
theorem dX7_about_128 : decode cX7_about 128 = .ok (.aload_n 0, 1) := by decide +kernel
theorem dX7_about_129 : decode cX7_about 129 = .ok (.getfield 7, 3) := by decide +kernel
theorem dX7_about_132 : decode cX7_about 132 = .ok (.sipush 731, 3) := by decide +kernel
theorem dX7_about_135 : decode cX7_about 135 = .ok (.iaload, 1) := by decide +kernel
theorem dX7_about_136 : decode cX7_about 136 = .ok (.ireturn, 1) := by decide +kernel
theorem dX7_about_137 : decode cX7_about 137 = .ok (.aload_n 0, 1) := by decide +kernel
theorem dX7_about_138 : decode cX7_about 138 = .ok (.getfield 7, 3) := by decide +kernel
theorem dX7_about_141 : decode cX7_about 141 = .ok (.sipush 732, 3) := by decide +kernel
theorem dX7_about_144 : decode cX7_about 144 = .ok (.iaload, 1) := by decide +kernel
theorem dX7_about_145 : decode cX7_about 145 = .ok (.ireturn, 1) := by decide +kernel
theorem dX7_about_146 : decode cX7_about 146 = .ok (.aload_n 0, 1) := by decide +kernel
theorem dX7_about_147 : decode cX7_about 147 = .ok (.getfield 7, 3) := by decide +kernel
theorem dX7_about_150 : decode cX7_about 150 = .ok (.sipush 733, 3) := by decide +kernel
theorem dX7_about_153 : decode cX7_about 153 = .ok (.iaload, 1) := by decide +kernel
theorem dX7_about_154 : decode cX7_about 154 = .ok (.ireturn, 1) := by decide +kernel
theorem dX7_about_155 : decode cX7_about 155 = .ok (.aload_n 0, 1) := by decide +kernel
theorem dX7_about_156 : decode cX7_about 156 = .ok (.invokevirtual 164, 3) := by decide +kernel
theorem dX7_about_159 : decode cX7_about 159 = .ok (.ireturn, 1) := by decide +kernel
theorem dX7_about_160 : decode cX7_about 160 = .ok (.aload_n 0, 1) := by decide +kernel
theorem dX7_about_161 : decode cX7_about 161 = .ok (.getfield 7, 3) := by decide +kernel
theorem dX7_about_164 : decode cX7_about 164 = .ok (.sipush 735, 3) := by decide +kernel
theorem dX7_about_167 : decode cX7_about 167 = .ok (.iload_n 1, 1) := by decide +kernel
theorem dX7_about_168 : decode cX7_about 168 = .ok (.iadd, 1) := by decide +kernel
theorem dX7_about_169 : decode cX7_about 169 = .ok (.bipush 8, 2) := by decide +kernel
theorem dX7_about_171 : decode cX7_about 171 = .ok (.isub, 1) := by decide +kernel
theorem dX7_about_172 : decode cX7_about 172 = .ok (.iaload, 1) := by decide +kernel
theorem dX7_about_173 : decode cX7_about 173 = .ok (.ireturn, 1) := by decide +kernel
theorem dX7_about_174 : decode cX7_about 174 = .ok (.aload_n 0, 1) := by decide +kernel
theorem dX7_about_175 : decode cX7_about 175 = .ok (.getfield 7, 3) := by decide +kernel
theorem dX7_about_178 : decode cX7_about 178 = .ok (.sipush 727, 3) := by decide +kernel
theorem dX7_about_181 : decode cX7_about 181 = .ok (.iaload, 1) := by decide +kernel
theorem dX7_about_182 : decode cX7_about 182 = .ok (.ireturn, 1) := by decide +kernel
theorem dX7_about_183 : decode cX7_about 183 = .ok (.aload_n 0, 1) := by decide +kernel
theorem dX7_about_184 : decode cX7_about 184 = .ok (.getfield 250, 3) := by decide +kernel
theorem dX7_about_187 : decode cX7_about 187 = .ok (.ireturn, 1) := by decide +kernel
theorem dX7_about_188 : decode cX7_about 188 = .ok (.aload_n 0, 1) := by decide +kernel
theorem dX7_about_189 : decode cX7_about 189 = .ok (.getfield 253, 3) := by decide +kernel
theorem dX7_about_192 : decode cX7_about 192 = .ok (.ireturn, 1) := by decide +kernel
theorem dX7_about_193 : decode cX7_about 193 = .ok (.aload_n 0, 1) := by decide +kernel
theorem dX7_about_194 : decode cX7_about 194 = .ok (.getfield 7, 3) := by decide +kernel
theorem dX7_about_197 : decode cX7_about 197 = .ok (.sipush 734, 3) := by decide +kernel
theorem dX7_about_200 : decode cX7_about 200 = .ok (.iaload, 1) := by decide +kernel
theorem dX7_about_201 : decode cX7_about 201 = .ok (.ireturn, 1) := by decide +kernel
theorem dX7_about_202 : decode cX7_about 202 = .ok (.aload_n 0, 1) := by decide +kernel
theorem dX7_about_203 : decode cX7_about 203 = .ok (.getfield 7, 3) := by decide +kernel
theorem dX7_about_206 : decode cX7_about 206 = .ok (.sipush 741, 3) := by decide +kernel
theorem dX7_about_209 : decode cX7_about 209 = .ok (.iaload, 1) := by decide +kernel
theorem dX7_about_210 : decode cX7_about 210 = .ok (.ireturn, 1) := by decide +kernel
theorem dX7_about_211 : decode cX7_about 211 = .ok (.aload_n 0, 1) := by decide +kernel
theorem dX7_about_212 : decode cX7_about 212 = .ok (.getfield 433, 3) := by decide +kernel
theorem dX7_about_215 : decode cX7_about 215 = .ok (.ireturn, 1) := by decide +kernel
theorem dX7_about_216 : decode cX7_about 216 = .ok (.aload_n 0, 1) := by decide +kernel
theorem dX7_about_217 : decode cX7_about 217 = .ok (.getfield 320, 3) := by decide +kernel
theorem dX7_about_220 : decode cX7_about 220 = .ok (.ireturn, 1) := by decide +kernel
theorem dX7_about_221 : decode cX7_about 221 = .ok (.bipush (-2), 2) := by decide +kernel
theorem dX7_about_223 : decode cX7_about 223 = .ok (.ireturn, 1) := by decide +kernel
theorem dJ9_max_7cf53_0 : decode cJ9_max_7cf53 0 = .ok (.iload_n 0, 1) := by decide +kernel
theorem dJ9_max_7cf53_1 : decode cJ9_max_7cf53 1 = .ok (.iload_n 1, 1) := by decide +kernel
theorem dJ9_max_7cf53_2 : decode cJ9_max_7cf53 2 = .ok (.if_icmp .lt 7, 3) := by decide +kernel
theorem dJ9_max_7cf53_5 : decode cJ9_max_7cf53 5 = .ok (.iload_n 0, 1) := by decide +kernel
theorem dJ9_max_7cf53_6 : decode cJ9_max_7cf53 6 = .ok (.goto 4, 3) := by decide +kernel
theorem dJ9_max_7cf53_9 : decode cJ9_max_7cf53 9 = .ok (.iload_n 1, 1) := by decide +kernel
theorem dJ9_max_7cf53_10 : decode cJ9_max_7cf53 10 = .ok (.ireturn, 1) := by decide +kernel
theorem dJ9_min_7cf53_0 : decode cJ9_min_7cf53 0 = .ok (.iload_n 0, 1) := by decide +kernel
theorem dJ9_min_7cf53_1 : decode cJ9_min_7cf53 1 = .ok (.iload_n 1, 1) := by decide +kernel
theorem dJ9_min_7cf53_2 : decode cJ9_min_7cf53 2 = .ok (.if_icmp .gt 7, 3) := by decide +kernel
theorem dJ9_min_7cf53_5 : decode cJ9_min_7cf53 5 = .ok (.iload_n 0, 1) := by decide +kernel
theorem dJ9_min_7cf53_6 : decode cJ9_min_7cf53 6 = .ok (.goto 4, 3) := by decide +kernel
theorem dJ9_min_7cf53_9 : decode cJ9_min_7cf53 9 = .ok (.iload_n 1, 1) := by decide +kernel
theorem dJ9_min_7cf53_10 : decode cJ9_min_7cf53 10 = .ok (.ireturn, 1) := by decide +kernel
theorem dJ0_length_8abf5_0 : decode cJ0_length_8abf5 0 = .ok (.aload_n 0, 1) := by decide +kernel
theorem dJ0_length_8abf5_1 : decode cJ0_length_8abf5 1 = .ok (.getfield 9, 3) := by decide +kernel
theorem dJ0_length_8abf5_4 : decode cJ0_length_8abf5 4 = .ok (.arraylength, 1) := by decide +kernel
theorem dJ0_length_8abf5_5 : decode cJ0_length_8abf5 5 = .ok (.aload_n 0, 1) := by decide +kernel
theorem dJ0_length_8abf5_6 : decode cJ0_length_8abf5 6 = .ok (.invokevirtual 335, 3) := by decide +kernel
theorem dJ0_length_8abf5_9 : decode cJ0_length_8abf5 9 = .ok (.ishr, 1) := by decide +kernel
theorem dJ0_length_8abf5_10 : decode cJ0_length_8abf5 10 = .ok (.ireturn, 1) := by decide +kernel
theorem dJ0_charAt_5068e_0 : decode cJ0_charAt_5068e 0 = .ok (.aload_n 0, 1) := by decide +kernel
theorem dJ0_charAt_5068e_1 : decode cJ0_charAt_5068e 1 = .ok (.invokevirtual 492, 3) := by decide +kernel
theorem dJ0_charAt_5068e_4 : decode cJ0_charAt_5068e 4 = .ok (.ifCond .eq 12, 3) := by decide +kernel
theorem dJ0_charAt_5068e_7 : decode cJ0_charAt_5068e 7 = .ok (.aload_n 0, 1) := by decide +kernel
theorem dJ0_charAt_5068e_8 : decode cJ0_charAt_5068e 8 = .ok (.getfield 9, 3) := by decide +kernel
theorem dJ0_charAt_5068e_11 : decode cJ0_charAt_5068e 11 = .ok (.iload_n 1, 1) := by decide +kernel
theorem dJ0_charAt_5068e_12 : decode cJ0_charAt_5068e 12 = .ok (.invokestatic 495, 3) := by decide +kernel
theorem dJ0_charAt_5068e_15 : decode cJ0_charAt_5068e 15 = .ok (.ireturn, 1) := by decide +kernel
theorem dJ0_charAt_5068e_16 : decode cJ0_charAt_5068e 16 = .ok (.aload_n 0, 1) := by decide +kernel
theorem dJ0_charAt_5068e_17 : decode cJ0_charAt_5068e 17 = .ok (.getfield 9, 3) := by decide +kernel
theorem dJ0_charAt_5068e_20 : decode cJ0_charAt_5068e 20 = .ok (.iload_n 1, 1) := by decide +kernel
theorem dJ0_charAt_5068e_21 : decode cJ0_charAt_5068e 21 = .ok (.invokestatic 498, 3) := by decide +kernel
theorem dJ0_charAt_5068e_24 : decode cJ0_charAt_5068e 24 = .ok (.ireturn, 1) := by decide +kernel
theorem dJ0_coder_7d493_0 : decode cJ0_coder_7d493 0 = .ok (.getstatic 38, 3) := by decide +kernel
theorem dJ0_coder_7d493_3 : decode cJ0_coder_7d493 3 = .ok (.ifCond .eq 10, 3) := by decide +kernel
theorem dJ0_coder_7d493_6 : decode cJ0_coder_7d493 6 = .ok (.aload_n 0, 1) := by decide +kernel
theorem dJ0_coder_7d493_7 : decode cJ0_coder_7d493 7 = .ok (.getfield 15, 3) := by decide +kernel
theorem dJ0_coder_7d493_10 : decode cJ0_coder_7d493 10 = .ok (.goto 4, 3) := by decide +kernel
theorem dJ0_coder_7d493_13 : decode cJ0_coder_7d493 13 = .ok (.iconst 1, 1) := by decide +kernel
theorem dJ0_coder_7d493_14 : decode cJ0_coder_7d493 14 = .ok (.ireturn, 1) := by decide +kernel
theorem dJ0_isLatin1_aae02_0 : decode cJ0_isLatin1_aae02 0 = .ok (.getstatic 38, 3) := by decide +kernel
theorem dJ0_isLatin1_aae02_3 : decode cJ0_isLatin1_aae02 3 = .ok (.ifCond .eq 14, 3) := by decide +kernel
theorem dJ0_isLatin1_aae02_6 : decode cJ0_isLatin1_aae02 6 = .ok (.aload_n 0, 1) := by decide +kernel
theorem dJ0_isLatin1_aae02_7 : decode cJ0_isLatin1_aae02 7 = .ok (.getfield 15, 3) := by decide +kernel
theorem dJ0_isLatin1_aae02_10 : decode cJ0_isLatin1_aae02 10 = .ok (.ifCond .ne 7, 3) := by decide +kernel
theorem dJ0_isLatin1_aae02_13 : decode cJ0_isLatin1_aae02 13 = .ok (.iconst 1, 1) := by decide +kernel
theorem dJ0_isLatin1_aae02_14 : decode cJ0_isLatin1_aae02 14 = .ok (.goto 4, 3) := by decide +kernel
theorem dJ0_isLatin1_aae02_17 : decode cJ0_isLatin1_aae02 17 = .ok (.iconst 0, 1) := by decide +kernel
theorem dJ0_isLatin1_aae02_18 : decode cJ0_isLatin1_aae02 18 = .ok (.ireturn, 1) := by decide +kernel
theorem dJ0_checkIndex_df160_0 : decode cJ0_checkIndex_df160 0 = .ok (.iload_n 0, 1) := by decide +kernel
theorem dJ0_checkIndex_df160_1 : decode cJ0_checkIndex_df160 1 = .ok (.iload_n 1, 1) := by decide +kernel
theorem dJ0_checkIndex_df160_2 : decode cJ0_checkIndex_df160 2 = .ok (.getstatic 1053, 3) := by decide +kernel
theorem dJ0_checkIndex_df160_5 : decode cJ0_checkIndex_df160 5 = .ok (.invokestatic 1059, 3) := by decide +kernel
theorem dJ0_checkIndex_df160_8 : decode cJ0_checkIndex_df160 8 = .ok (.pop, 1) := by decide +kernel
theorem dJ0_checkIndex_df160_9 : decode cJ0_checkIndex_df160 9 = .ok (.return_, 1) := by decide +kernel
theorem dJ1_charAt_3b067_0 : decode cJ1_charAt_3b067 0 = .ok (.iload_n 1, 1) := by decide +kernel
theorem dJ1_charAt_3b067_1 : decode cJ1_charAt_3b067 1 = .ok (.aload_n 0, 1) := by decide +kernel
theorem dJ1_charAt_3b067_2 : decode cJ1_charAt_3b067 2 = .ok (.arraylength, 1) := by decide +kernel
theorem dJ1_charAt_3b067_3 : decode cJ1_charAt_3b067 3 = .ok (.invokestatic 9, 3) := by decide +kernel
theorem dJ1_charAt_3b067_6 : decode cJ1_charAt_3b067 6 = .ok (.aload_n 0, 1) := by decide +kernel
end
section
theorem dJ1_charAt_3b067_7 : decode cJ1_charAt_3b067 7 = .ok (.iload_n 1, 1) := by decide +kernel
theorem dJ1_charAt_3b067_8 : decode cJ1_charAt_3b067 8 = .ok (.baload, 1) := by decide +kernel
theorem dJ1_charAt_3b067_9 : decode cJ1_charAt_3b067 9 = .ok (.sipush 255, 3) := by decide +kernel
theorem dJ1_charAt_3b067_12 : decode cJ1_charAt_3b067 12 = .ok (.iand, 1) := by decide +kernel
theorem dJ1_charAt_3b067_13 : decode cJ1_charAt_3b067 13 = .ok (.i2c, 1) := by decide +kernel
theorem dJ1_charAt_3b067_14 : decode cJ1_charAt_3b067 14 = .ok (.ireturn, 1) := by decide +kernel
theorem dJ7_rangeCheck_23922_0 : decode cJ7_rangeCheck_23922 0 = .ok (.iload_n 1, 1) := by decide +kernel
theorem dJ7_rangeCheck_23922_1 : decode cJ7_rangeCheck_23922 1 = .ok (.iload_n 2, 1) := by decide +kernel
theorem dJ7_rangeCheck_23922_2 : decode cJ7_rangeCheck_23922 2 = .ok (.if_icmp .le 44, 3) := by decide +kernel
theorem dJ7_rangeCheck_23922_5 : decode cJ7_rangeCheck_23922 5 = .ok (.new 43, 3) := by decide +kernel
theorem dJ7_rangeCheck_23922_8 : decode cJ7_rangeCheck_23922 8 = .ok (.dup, 1) := by decide +kernel
theorem dJ7_rangeCheck_23922_9 : decode cJ7_rangeCheck_23922 9 = .ok (.new 45, 3) := by decide +kernel
theorem dJ7_rangeCheck_23922_12 : decode cJ7_rangeCheck_23922 12 = .ok (.dup, 1) := by decide +kernel
theorem dJ7_rangeCheck_23922_13 : decode cJ7_rangeCheck_23922 13 = .ok (.invokespecial 47, 3) := by decide +kernel
theorem dJ7_rangeCheck_23922_16 : decode cJ7_rangeCheck_23922 16 = .ok (.ldc 48, 2) := by decide +kernel
theorem dJ7_rangeCheck_23922_18 : decode cJ7_rangeCheck_23922 18 = .ok (.invokevirtual 50, 3) := by decide +kernel
theorem dJ7_rangeCheck_23922_21 : decode cJ7_rangeCheck_23922 21 = .ok (.iload_n 1, 1) := by decide +kernel
theorem dJ7_rangeCheck_23922_22 : decode cJ7_rangeCheck_23922 22 = .ok (.invokevirtual 54, 3) := by decide +kernel
theorem dJ7_rangeCheck_23922_25 : decode cJ7_rangeCheck_23922 25 = .ok (.ldc 57, 2) := by decide +kernel
theorem dJ7_rangeCheck_23922_27 : decode cJ7_rangeCheck_23922 27 = .ok (.invokevirtual 50, 3) := by decide +kernel
theorem dJ7_rangeCheck_23922_30 : decode cJ7_rangeCheck_23922 30 = .ok (.iload_n 2, 1) := by decide +kernel
theorem dJ7_rangeCheck_23922_31 : decode cJ7_rangeCheck_23922 31 = .ok (.invokevirtual 54, 3) := by decide +kernel
theorem dJ7_rangeCheck_23922_34 : decode cJ7_rangeCheck_23922 34 = .ok (.ldc 59, 2) := by decide +kernel
theorem dJ7_rangeCheck_23922_36 : decode cJ7_rangeCheck_23922 36 = .ok (.invokevirtual 50, 3) := by decide +kernel
theorem dJ7_rangeCheck_23922_39 : decode cJ7_rangeCheck_23922 39 = .ok (.invokevirtual 61, 3) := by decide +kernel
theorem dJ7_rangeCheck_23922_42 : decode cJ7_rangeCheck_23922 42 = .ok (.invokespecial 65, 3) := by decide +kernel
theorem dJ7_rangeCheck_23922_45 : decode cJ7_rangeCheck_23922 45 = .ok (.athrow, 1) := by decide +kernel
theorem dJ7_rangeCheck_23922_46 : decode cJ7_rangeCheck_23922 46 = .ok (.iload_n 1, 1) := by decide +kernel
theorem dJ7_rangeCheck_23922_47 : decode cJ7_rangeCheck_23922 47 = .ok (.ifCond .ge 12, 3) := by decide +kernel
theorem dJ7_rangeCheck_23922_50 : decode cJ7_rangeCheck_23922 50 = .ok (.new 68, 3) := by decide +kernel
theorem dJ7_rangeCheck_23922_53 : decode cJ7_rangeCheck_23922 53 = .ok (.dup, 1) := by decide +kernel
theorem dJ7_rangeCheck_23922_54 : decode cJ7_rangeCheck_23922 54 = .ok (.iload_n 1, 1) := by decide +kernel
theorem dJ7_rangeCheck_23922_55 : decode cJ7_rangeCheck_23922 55 = .ok (.invokespecial 70, 3) := by decide +kernel
theorem dJ7_rangeCheck_23922_58 : decode cJ7_rangeCheck_23922 58 = .ok (.athrow, 1) := by decide +kernel
theorem dJ7_rangeCheck_23922_59 : decode cJ7_rangeCheck_23922 59 = .ok (.iload_n 2, 1) := by decide +kernel
theorem dJ7_rangeCheck_23922_60 : decode cJ7_rangeCheck_23922 60 = .ok (.iload_n 0, 1) := by decide +kernel
theorem dJ7_rangeCheck_23922_61 : decode cJ7_rangeCheck_23922 61 = .ok (.if_icmp .le 12, 3) := by decide +kernel
theorem dJ7_rangeCheck_23922_64 : decode cJ7_rangeCheck_23922 64 = .ok (.new 68, 3) := by decide +kernel
theorem dJ7_rangeCheck_23922_67 : decode cJ7_rangeCheck_23922 67 = .ok (.dup, 1) := by decide +kernel
theorem dJ7_rangeCheck_23922_68 : decode cJ7_rangeCheck_23922 68 = .ok (.iload_n 2, 1) := by decide +kernel
theorem dJ7_rangeCheck_23922_69 : decode cJ7_rangeCheck_23922 69 = .ok (.invokespecial 70, 3) := by decide +kernel
theorem dJ7_rangeCheck_23922_72 : decode cJ7_rangeCheck_23922 72 = .ok (.athrow, 1) := by decide +kernel
theorem dJ7_rangeCheck_23922_73 : decode cJ7_rangeCheck_23922 73 = .ok (.return_, 1) := by decide +kernel
theorem dJ7_fill_53178_0 : decode cJ7_fill_53178 0 = .ok (.iconst 0, 1) := by decide +kernel
theorem dJ7_fill_53178_1 : decode cJ7_fill_53178 1 = .ok (.istore_n 2, 1) := by decide +kernel
theorem dJ7_fill_53178_2 : decode cJ7_fill_53178 2 = .ok (.aload_n 0, 1) := by decide +kernel
theorem dJ7_fill_53178_3 : decode cJ7_fill_53178 3 = .ok (.arraylength, 1) := by decide +kernel
theorem dJ7_fill_53178_4 : decode cJ7_fill_53178 4 = .ok (.istore_n 3, 1) := by decide +kernel
theorem dJ7_fill_53178_5 : decode cJ7_fill_53178 5 = .ok (.iload_n 2, 1) := by decide +kernel
theorem dJ7_fill_53178_6 : decode cJ7_fill_53178 6 = .ok (.iload_n 3, 1) := by decide +kernel
theorem dJ7_fill_53178_7 : decode cJ7_fill_53178 7 = .ok (.if_icmp .ge 13, 3) := by decide +kernel
theorem dJ7_fill_53178_10 : decode cJ7_fill_53178 10 = .ok (.aload_n 0, 1) := by decide +kernel
theorem dJ7_fill_53178_11 : decode cJ7_fill_53178 11 = .ok (.iload_n 2, 1) := by decide +kernel
theorem dJ7_fill_53178_12 : decode cJ7_fill_53178 12 = .ok (.iload_n 1, 1) := by decide +kernel
theorem dJ7_fill_53178_13 : decode cJ7_fill_53178 13 = .ok (.iastore, 1) := by decide +kernel
theorem dJ7_fill_53178_14 : decode cJ7_fill_53178 14 = .ok (.iinc 2 1, 3) := by decide +kernel
theorem dJ7_fill_53178_17 : decode cJ7_fill_53178 17 = .ok (.goto (-12), 3) := by decide +kernel
theorem dJ7_fill_53178_20 : decode cJ7_fill_53178 20 = .ok (.return_, 1) := by decide +kernel
theorem dJ7_fill_fda19_0 : decode cJ7_fill_fda19 0 = .ok (.aload_n 0, 1) := by decide +kernel
theorem dJ7_fill_fda19_1 : decode cJ7_fill_fda19 1 = .ok (.arraylength, 1) := by decide +kernel
theorem dJ7_fill_fda19_2 : decode cJ7_fill_fda19 2 = .ok (.iload_n 1, 1) := by decide +kernel
theorem dJ7_fill_fda19_3 : decode cJ7_fill_fda19 3 = .ok (.iload_n 2, 1) := by decide +kernel
theorem dJ7_fill_fda19_4 : decode cJ7_fill_fda19 4 = .ok (.invokestatic 13, 3) := by decide +kernel
theorem dJ7_fill_fda19_7 : decode cJ7_fill_fda19 7 = .ok (.iload_n 1, 1) := by decide +kernel
theorem dJ7_fill_fda19_8 : decode cJ7_fill_fda19 8 = .ok (.istore 4, 2) := by decide +kernel
theorem dJ7_fill_fda19_10 : decode cJ7_fill_fda19 10 = .ok (.iload 4, 2) := by decide +kernel
theorem dJ7_fill_fda19_12 : decode cJ7_fill_fda19 12 = .ok (.iload_n 2, 1) := by decide +kernel
theorem dJ7_fill_fda19_13 : decode cJ7_fill_fda19 13 = .ok (.if_icmp .ge 14, 3) := by decide +kernel
theorem dJ7_fill_fda19_16 : decode cJ7_fill_fda19 16 = .ok (.aload_n 0, 1) := by decide +kernel
theorem dJ7_fill_fda19_17 : decode cJ7_fill_fda19 17 = .ok (.iload 4, 2) := by decide +kernel
theorem dJ7_fill_fda19_19 : decode cJ7_fill_fda19 19 = .ok (.iload_n 3, 1) := by decide +kernel
theorem dJ7_fill_fda19_20 : decode cJ7_fill_fda19 20 = .ok (.iastore, 1) := by decide +kernel
theorem dJ7_fill_fda19_21 : decode cJ7_fill_fda19 21 = .ok (.iinc 4 1, 3) := by decide +kernel
theorem dJ7_fill_fda19_24 : decode cJ7_fill_fda19 24 = .ok (.goto (-14), 3) := by decide +kernel
theorem dJ7_fill_fda19_27 : decode cJ7_fill_fda19 27 = .ok (.return_, 1) := by decide +kernel
theorem dJ3_checkIndex_8e157_0 : decode cJ3_checkIndex_8e157 0 = .ok (.iload_n 0, 1) := by decide +kernel
theorem dJ3_checkIndex_8e157_1 : decode cJ3_checkIndex_8e157 1 = .ok (.ifCond .lt 8, 3) := by decide +kernel
theorem dJ3_checkIndex_8e157_4 : decode cJ3_checkIndex_8e157 4 = .ok (.iload_n 0, 1) := by decide +kernel
theorem dJ3_checkIndex_8e157_5 : decode cJ3_checkIndex_8e157 5 = .ok (.iload_n 1, 1) := by decide +kernel
theorem dJ3_checkIndex_8e157_6 : decode cJ3_checkIndex_8e157 6 = .ok (.if_icmp .lt 10, 3) := by decide +kernel
theorem dJ3_checkIndex_8e157_9 : decode cJ3_checkIndex_8e157 9 = .ok (.aload_n 2, 1) := by decide +kernel
theorem dJ3_checkIndex_8e157_10 : decode cJ3_checkIndex_8e157 10 = .ok (.iload_n 0, 1) := by decide +kernel
theorem dJ3_checkIndex_8e157_11 : decode cJ3_checkIndex_8e157 11 = .ok (.iload_n 1, 1) := by decide +kernel
theorem dJ3_checkIndex_8e157_12 : decode cJ3_checkIndex_8e157 12 = .ok (.invokestatic 95, 3) := by decide +kernel
theorem dJ3_checkIndex_8e157_15 : decode cJ3_checkIndex_8e157 15 = .ok (.athrow, 1) := by decide +kernel
theorem dJ3_checkIndex_8e157_16 : decode cJ3_checkIndex_8e157 16 = .ok (.iload_n 0, 1) := by decide +kernel
theorem dJ3_checkIndex_8e157_17 : decode cJ3_checkIndex_8e157 17 = .ok (.ireturn, 1) := by decide +kernel
theorem dL_law_0 : decode cL_law 0 = .ok (.new 7, 3) := by decide +kernel
theorem dL_law_3 : decode cL_law 3 = .ok (.dup, 1) := by decide +kernel
theorem dL_law_4 : decode cL_law 4 = .ok (.invokespecial 9, 3) := by decide +kernel
theorem dL_law_7 : decode cL_law 7 = .ok (.astore_n 1, 1) := by decide +kernel
theorem dL_law_8 : decode cL_law 8 = .ok (.new 10, 3) := by decide +kernel
theorem dL_law_11 : decode cL_law 11 = .ok (.dup, 1) := by decide +kernel
theorem dL_law_12 : decode cL_law 12 = .ok (.invokespecial 12, 3) := by decide +kernel
theorem dL_law_15 : decode cL_law 15 = .ok (.astore_n 2, 1) := by decide +kernel
theorem dL_law_16 : decode cL_law 16 = .ok (.iconst 0, 1) := by decide +kernel
theorem dL_law_17 : decode cL_law 17 = .ok (.istore_n 3, 1) := by decide +kernel
theorem dL_law_18 : decode cL_law 18 = .ok (.iload_n 3, 1) := by decide +kernel
theorem dL_law_19 : decode cL_law 19 = .ok (.aload_n 0, 1) := by decide +kernel
theorem dL_law_20 : decode cL_law 20 = .ok (.arraylength, 1) := by decide +kernel
theorem dL_law_21 : decode cL_law 21 = .ok (.bipush 6, 2) := by decide +kernel
theorem dL_law_23 : decode cL_law 23 = .ok (.isub, 1) := by decide +kernel
theorem dL_law_24 : decode cL_law 24 = .ok (.if_icmp .gt 1310, 3) := by decide +kernel
theorem dL_law_27 : decode cL_law 27 = .ok (.aload_n 0, 1) := by decide +kernel
theorem dL_law_28 : decode cL_law 28 = .ok (.iload_n 3, 1) := by decide +kernel
theorem dL_law_29 : decode cL_law 29 = .ok (.iaload, 1) := by decide +kernel
theorem dL_law_30 : decode cL_law 30 = .ok (.bipush 63, 2) := by decide +kernel
theorem dL_law_32 : decode cL_law 32 = .ok (.iand, 1) := by decide +kernel
theorem dL_law_33 : decode cL_law 33 = .ok (.tableswitch 1295 0 39 #[175, 198, 231, 274, 317, 350, 383, 416, 429, 452, 485, 548, 571, 584, 607, 620, 653, 676, 689, 702, 715, 738, 761, 794, 817, 840, 873, 906, 939, 972, 1005, 1028, 1051, 1084, 1107, 1130, 1163, 1196, 1249, 1272], 175) := by decide +kernel
theorem dL_law_208 : decode cL_law 208 = .ok (.aload_n 1, 1) := by decide +kernel
theorem dL_law_209 : decode cL_law 209 = .ok (.aload_n 0, 1) := by decide +kernel
theorem dL_law_210 : decode cL_law 210 = .ok (.iload_n 3, 1) := by decide +kernel
theorem dL_law_211 : decode cL_law 211 = .ok (.iconst 1, 1) := by decide +kernel
theorem dL_law_212 : decode cL_law 212 = .ok (.iadd, 1) := by decide +kernel
theorem dL_law_213 : decode cL_law 213 = .ok (.iaload, 1) := by decide +kernel
theorem dL_law_214 : decode cL_law 214 = .ok (.invokevirtual 13, 3) := by decide +kernel
theorem dL_law_217 : decode cL_law 217 = .ok (.aload_n 2, 1) := by decide +kernel
theorem dL_law_218 : decode cL_law 218 = .ok (.aload_n 0, 1) := by decide +kernel
theorem dL_law_219 : decode cL_law 219 = .ok (.iload_n 3, 1) := by decide +kernel
theorem dL_law_220 : decode cL_law 220 = .ok (.iconst 1, 1) := by decide +kernel
theorem dL_law_221 : decode cL_law 221 = .ok (.iadd, 1) := by decide +kernel
theorem dL_law_222 : decode cL_law 222 = .ok (.iaload, 1) := by decide +kernel
theorem dL_law_223 : decode cL_law 223 = .ok (.invokevirtual 17, 3) := by decide +kernel
theorem dL_law_226 : decode cL_law 226 = .ok (.if_icmp .eq 1102, 3) := by decide +kernel
theorem dL_law_229 : decode cL_law 229 = .ok (.iconst 0, 1) := by decide +kernel
theorem dL_law_230 : decode cL_law 230 = .ok (.ireturn, 1) := by decide +kernel
theorem dL_law_231 : decode cL_law 231 = .ok (.aload_n 1, 1) := by decide +kernel
theorem dL_law_232 : decode cL_law 232 = .ok (.aload_n 0, 1) := by decide +kernel
theorem dL_law_233 : decode cL_law 233 = .ok (.iload_n 3, 1) := by decide +kernel
theorem dL_law_234 : decode cL_law 234 = .ok (.iconst 1, 1) := by decide +kernel
theorem dL_law_235 : decode cL_law 235 = .ok (.iadd, 1) := by decide +kernel
theorem dL_law_236 : decode cL_law 236 = .ok (.iaload, 1) := by decide +kernel
theorem dL_law_237 : decode cL_law 237 = .ok (.aload_n 0, 1) := by decide +kernel
theorem dL_law_238 : decode cL_law 238 = .ok (.iload_n 3, 1) := by decide +kernel
theorem dL_law_239 : decode cL_law 239 = .ok (.iconst 2, 1) := by decide +kernel
theorem dL_law_240 : decode cL_law 240 = .ok (.iadd, 1) := by decide +kernel
theorem dL_law_241 : decode cL_law 241 = .ok (.iaload, 1) := by decide +kernel
theorem dL_law_242 : decode cL_law 242 = .ok (.invokevirtual 18, 3) := by decide +kernel
theorem dL_law_245 : decode cL_law 245 = .ok (.aload_n 2, 1) := by decide +kernel
theorem dL_law_246 : decode cL_law 246 = .ok (.aload_n 0, 1) := by decide +kernel
theorem dL_law_247 : decode cL_law 247 = .ok (.iload_n 3, 1) := by decide +kernel
theorem dL_law_248 : decode cL_law 248 = .ok (.iconst 1, 1) := by decide +kernel
theorem dL_law_249 : decode cL_law 249 = .ok (.iadd, 1) := by decide +kernel
theorem dL_law_250 : decode cL_law 250 = .ok (.iaload, 1) := by decide +kernel
theorem dL_law_251 : decode cL_law 251 = .ok (.aload_n 0, 1) := by decide +kernel
theorem dL_law_252 : decode cL_law 252 = .ok (.iload_n 3, 1) := by decide +kernel
theorem dL_law_253 : decode cL_law 253 = .ok (.iconst 2, 1) := by decide +kernel
theorem dL_law_254 : decode cL_law 254 = .ok (.iadd, 1) := by decide +kernel
theorem dL_law_255 : decode cL_law 255 = .ok (.iaload, 1) := by decide +kernel
theorem dL_law_256 : decode cL_law 256 = .ok (.invokevirtual 22, 3) := by decide +kernel
theorem dL_law_259 : decode cL_law 259 = .ok (.if_icmp .eq 1069, 3) := by decide +kernel
theorem dL_law_262 : decode cL_law 262 = .ok (.iconst 0, 1) := by decide +kernel
theorem dL_law_263 : decode cL_law 263 = .ok (.ireturn, 1) := by decide +kernel
theorem dL_law_264 : decode cL_law 264 = .ok (.aload_n 1, 1) := by decide +kernel
theorem dL_law_265 : decode cL_law 265 = .ok (.aload_n 0, 1) := by decide +kernel
theorem dL_law_266 : decode cL_law 266 = .ok (.iload_n 3, 1) := by decide +kernel
theorem dL_law_267 : decode cL_law 267 = .ok (.iconst 1, 1) := by decide +kernel
theorem dL_law_268 : decode cL_law 268 = .ok (.iadd, 1) := by decide +kernel
theorem dL_law_269 : decode cL_law 269 = .ok (.iaload, 1) := by decide +kernel
theorem dL_law_270 : decode cL_law 270 = .ok (.aload_n 0, 1) := by decide +kernel
theorem dL_law_271 : decode cL_law 271 = .ok (.iload_n 3, 1) := by decide +kernel
theorem dL_law_272 : decode cL_law 272 = .ok (.iconst 2, 1) := by decide +kernel
theorem dL_law_273 : decode cL_law 273 = .ok (.iadd, 1) := by decide +kernel
theorem dL_law_274 : decode cL_law 274 = .ok (.iaload, 1) := by decide +kernel
theorem dL_law_275 : decode cL_law 275 = .ok (.aload_n 0, 1) := by decide +kernel
theorem dL_law_276 : decode cL_law 276 = .ok (.iload_n 3, 1) := by decide +kernel
theorem dL_law_277 : decode cL_law 277 = .ok (.iconst 3, 1) := by decide +kernel
theorem dL_law_278 : decode cL_law 278 = .ok (.iadd, 1) := by decide +kernel
theorem dL_law_279 : decode cL_law 279 = .ok (.iaload, 1) := by decide +kernel
theorem dL_law_280 : decode cL_law 280 = .ok (.invokevirtual 23, 3) := by decide +kernel
theorem dL_law_283 : decode cL_law 283 = .ok (.aload_n 2, 1) := by decide +kernel
theorem dL_law_284 : decode cL_law 284 = .ok (.aload_n 0, 1) := by decide +kernel
theorem dL_law_285 : decode cL_law 285 = .ok (.iload_n 3, 1) := by decide +kernel
theorem dL_law_286 : decode cL_law 286 = .ok (.iconst 1, 1) := by decide +kernel
theorem dL_law_287 : decode cL_law 287 = .ok (.iadd, 1) := by decide +kernel
theorem dL_law_288 : decode cL_law 288 = .ok (.iaload, 1) := by decide +kernel
theorem dL_law_289 : decode cL_law 289 = .ok (.aload_n 0, 1) := by decide +kernel
theorem dL_law_290 : decode cL_law 290 = .ok (.iload_n 3, 1) := by decide +kernel
theorem dL_law_291 : decode cL_law 291 = .ok (.iconst 2, 1) := by decide +kernel
theorem dL_law_292 : decode cL_law 292 = .ok (.iadd, 1) := by decide +kernel
theorem dL_law_293 : decode cL_law 293 = .ok (.iaload, 1) := by decide +kernel
theorem dL_law_294 : decode cL_law 294 = .ok (.aload_n 0, 1) := by decide +kernel
theorem dL_law_295 : decode cL_law 295 = .ok (.iload_n 3, 1) := by decide +kernel
theorem dL_law_296 : decode cL_law 296 = .ok (.iconst 3, 1) := by decide +kernel
theorem dL_law_297 : decode cL_law 297 = .ok (.iadd, 1) := by decide +kernel
theorem dL_law_298 : decode cL_law 298 = .ok (.iaload, 1) := by decide +kernel
theorem dL_law_299 : decode cL_law 299 = .ok (.invokevirtual 27, 3) := by decide +kernel
theorem dL_law_302 : decode cL_law 302 = .ok (.if_icmp .eq 1026, 3) := by decide +kernel
theorem dL_law_305 : decode cL_law 305 = .ok (.iconst 0, 1) := by decide +kernel
theorem dL_law_306 : decode cL_law 306 = .ok (.ireturn, 1) := by decide +kernel
theorem dL_law_307 : decode cL_law 307 = .ok (.aload_n 1, 1) := by decide +kernel
theorem dL_law_308 : decode cL_law 308 = .ok (.aload_n 0, 1) := by decide +kernel
theorem dL_law_309 : decode cL_law 309 = .ok (.iload_n 3, 1) := by decide +kernel
theorem dL_law_310 : decode cL_law 310 = .ok (.iconst 1, 1) := by decide +kernel
theorem dL_law_311 : decode cL_law 311 = .ok (.iadd, 1) := by decide +kernel
theorem dL_law_312 : decode cL_law 312 = .ok (.iaload, 1) := by decide +kernel
theorem dL_law_313 : decode cL_law 313 = .ok (.aload_n 0, 1) := by decide +kernel
theorem dL_law_314 : decode cL_law 314 = .ok (.iload_n 3, 1) := by decide +kernel
theorem dL_law_315 : decode cL_law 315 = .ok (.iconst 2, 1) := by decide +kernel
theorem dL_law_316 : decode cL_law 316 = .ok (.iadd, 1) := by decide +kernel
theorem dL_law_317 : decode cL_law 317 = .ok (.iaload, 1) := by decide +kernel
theorem dL_law_318 : decode cL_law 318 = .ok (.aload_n 0, 1) := by decide +kernel
theorem dL_law_319 : decode cL_law 319 = .ok (.iload_n 3, 1) := by decide +kernel
theorem dL_law_320 : decode cL_law 320 = .ok (.iconst 3, 1) := by decide +kernel
theorem dL_law_321 : decode cL_law 321 = .ok (.iadd, 1) := by decide +kernel
theorem dL_law_322 : decode cL_law 322 = .ok (.iaload, 1) := by decide +kernel
theorem dL_law_323 : decode cL_law 323 = .ok (.invokevirtual 28, 3) := by decide +kernel
theorem dL_law_326 : decode cL_law 326 = .ok (.aload_n 2, 1) := by decide +kernel
theorem dL_law_327 : decode cL_law 327 = .ok (.aload_n 0, 1) := by decide +kernel
theorem dL_law_328 : decode cL_law 328 = .ok (.iload_n 3, 1) := by decide +kernel
theorem dL_law_329 : decode cL_law 329 = .ok (.iconst 1, 1) := by decide +kernel
theorem dL_law_330 : decode cL_law 330 = .ok (.iadd, 1) := by decide +kernel
theorem dL_law_331 : decode cL_law 331 = .ok (.iaload, 1) := by decide +kernel
theorem dL_law_332 : decode cL_law 332 = .ok (.aload_n 0, 1) := by decide +kernel
theorem dL_law_333 : decode cL_law 333 = .ok (.iload_n 3, 1) := by decide +kernel
theorem dL_law_334 : decode cL_law 334 = .ok (.iconst 2, 1) := by decide +kernel
theorem dL_law_335 : decode cL_law 335 = .ok (.iadd, 1) := by decide +kernel
theorem dL_law_336 : decode cL_law 336 = .ok (.iaload, 1) := by decide +kernel
theorem dL_law_337 : decode cL_law 337 = .ok (.aload_n 0, 1) := by decide +kernel
theorem dL_law_338 : decode cL_law 338 = .ok (.iload_n 3, 1) := by decide +kernel
theorem dL_law_339 : decode cL_law 339 = .ok (.iconst 3, 1) := by decide +kernel
theorem dL_law_340 : decode cL_law 340 = .ok (.iadd, 1) := by decide +kernel
theorem dL_law_341 : decode cL_law 341 = .ok (.iaload, 1) := by decide +kernel
theorem dL_law_342 : decode cL_law 342 = .ok (.invokevirtual 32, 3) := by decide +kernel
theorem dL_law_345 : decode cL_law 345 = .ok (.if_icmp .eq 983, 3) := by decide +kernel
theorem dL_law_348 : decode cL_law 348 = .ok (.iconst 0, 1) := by decide +kernel
theorem dL_law_349 : decode cL_law 349 = .ok (.ireturn, 1) := by decide +kernel
theorem dL_law_350 : decode cL_law 350 = .ok (.aload_n 1, 1) := by decide +kernel
theorem dL_law_351 : decode cL_law 351 = .ok (.aload_n 0, 1) := by decide +kernel
theorem dL_law_352 : decode cL_law 352 = .ok (.iload_n 3, 1) := by decide +kernel
theorem dL_law_353 : decode cL_law 353 = .ok (.iconst 1, 1) := by decide +kernel
theorem dL_law_354 : decode cL_law 354 = .ok (.iadd, 1) := by decide +kernel
theorem dL_law_355 : decode cL_law 355 = .ok (.iaload, 1) := by decide +kernel
theorem dL_law_356 : decode cL_law 356 = .ok (.aload_n 0, 1) := by decide +kernel
theorem dL_law_357 : decode cL_law 357 = .ok (.iload_n 3, 1) := by decide +kernel
theorem dL_law_358 : decode cL_law 358 = .ok (.iconst 2, 1) := by decide +kernel
theorem dL_law_359 : decode cL_law 359 = .ok (.iadd, 1) := by decide +kernel
theorem dL_law_360 : decode cL_law 360 = .ok (.iaload, 1) := by decide +kernel
theorem dL_law_361 : decode cL_law 361 = .ok (.invokevirtual 33, 3) := by decide +kernel
theorem dL_law_364 : decode cL_law 364 = .ok (.aload_n 2, 1) := by decide +kernel
theorem dL_law_365 : decode cL_law 365 = .ok (.aload_n 0, 1) := by decide +kernel
theorem dL_law_366 : decode cL_law 366 = .ok (.iload_n 3, 1) := by decide +kernel
theorem dL_law_367 : decode cL_law 367 = .ok (.iconst 1, 1) := by decide +kernel
theorem dL_law_368 : decode cL_law 368 = .ok (.iadd, 1) := by decide +kernel
theorem dL_law_369 : decode cL_law 369 = .ok (.iaload, 1) := by decide +kernel
theorem dL_law_370 : decode cL_law 370 = .ok (.aload_n 0, 1) := by decide +kernel
theorem dL_law_371 : decode cL_law 371 = .ok (.iload_n 3, 1) := by decide +kernel
theorem dL_law_372 : decode cL_law 372 = .ok (.iconst 2, 1) := by decide +kernel
theorem dL_law_373 : decode cL_law 373 = .ok (.iadd, 1) := by decide +kernel
theorem dL_law_374 : decode cL_law 374 = .ok (.iaload, 1) := by decide +kernel
theorem dL_law_375 : decode cL_law 375 = .ok (.invokevirtual 37, 3) := by decide +kernel
theorem dL_law_378 : decode cL_law 378 = .ok (.if_icmp .eq 950, 3) := by decide +kernel
theorem dL_law_381 : decode cL_law 381 = .ok (.iconst 0, 1) := by decide +kernel
theorem dL_law_382 : decode cL_law 382 = .ok (.ireturn, 1) := by decide +kernel
theorem dL_law_383 : decode cL_law 383 = .ok (.aload_n 1, 1) := by decide +kernel
theorem dL_law_384 : decode cL_law 384 = .ok (.aload_n 0, 1) := by decide +kernel
theorem dL_law_385 : decode cL_law 385 = .ok (.iload_n 3, 1) := by decide +kernel
theorem dL_law_386 : decode cL_law 386 = .ok (.iconst 1, 1) := by decide +kernel
theorem dL_law_387 : decode cL_law 387 = .ok (.iadd, 1) := by decide +kernel
theorem dL_law_388 : decode cL_law 388 = .ok (.iaload, 1) := by decide +kernel
theorem dL_law_389 : decode cL_law 389 = .ok (.aload_n 0, 1) := by decide +kernel
theorem dL_law_390 : decode cL_law 390 = .ok (.iload_n 3, 1) := by decide +kernel
theorem dL_law_391 : decode cL_law 391 = .ok (.iconst 2, 1) := by decide +kernel
theorem dL_law_392 : decode cL_law 392 = .ok (.iadd, 1) := by decide +kernel
theorem dL_law_393 : decode cL_law 393 = .ok (.iaload, 1) := by decide +kernel
theorem dL_law_394 : decode cL_law 394 = .ok (.invokevirtual 38, 3) := by decide +kernel
theorem dL_law_397 : decode cL_law 397 = .ok (.aload_n 2, 1) := by decide +kernel
theorem dL_law_398 : decode cL_law 398 = .ok (.aload_n 0, 1) := by decide +kernel
theorem dL_law_399 : decode cL_law 399 = .ok (.iload_n 3, 1) := by decide +kernel
theorem dL_law_400 : decode cL_law 400 = .ok (.iconst 1, 1) := by decide +kernel
theorem dL_law_401 : decode cL_law 401 = .ok (.iadd, 1) := by decide +kernel
theorem dL_law_402 : decode cL_law 402 = .ok (.iaload, 1) := by decide +kernel
theorem dL_law_403 : decode cL_law 403 = .ok (.aload_n 0, 1) := by decide +kernel
theorem dL_law_404 : decode cL_law 404 = .ok (.iload_n 3, 1) := by decide +kernel
theorem dL_law_405 : decode cL_law 405 = .ok (.iconst 2, 1) := by decide +kernel
theorem dL_law_406 : decode cL_law 406 = .ok (.iadd, 1) := by decide +kernel
theorem dL_law_407 : decode cL_law 407 = .ok (.iaload, 1) := by decide +kernel
theorem dL_law_408 : decode cL_law 408 = .ok (.invokevirtual 41, 3) := by decide +kernel
theorem dL_law_411 : decode cL_law 411 = .ok (.if_icmp .eq 917, 3) := by decide +kernel
theorem dL_law_414 : decode cL_law 414 = .ok (.iconst 0, 1) := by decide +kernel
theorem dL_law_415 : decode cL_law 415 = .ok (.ireturn, 1) := by decide +kernel
theorem dL_law_416 : decode cL_law 416 = .ok (.aload_n 1, 1) := by decide +kernel
theorem dL_law_417 : decode cL_law 417 = .ok (.aload_n 0, 1) := by decide +kernel
theorem dL_law_418 : decode cL_law 418 = .ok (.iload_n 3, 1) := by decide +kernel
theorem dL_law_419 : decode cL_law 419 = .ok (.iconst 1, 1) := by decide +kernel
theorem dL_law_420 : decode cL_law 420 = .ok (.iadd, 1) := by decide +kernel
theorem dL_law_421 : decode cL_law 421 = .ok (.iaload, 1) := by decide +kernel
theorem dL_law_422 : decode cL_law 422 = .ok (.aload_n 0, 1) := by decide +kernel
theorem dL_law_423 : decode cL_law 423 = .ok (.iload_n 3, 1) := by decide +kernel
theorem dL_law_424 : decode cL_law 424 = .ok (.iconst 2, 1) := by decide +kernel
theorem dL_law_425 : decode cL_law 425 = .ok (.iadd, 1) := by decide +kernel
theorem dL_law_426 : decode cL_law 426 = .ok (.iaload, 1) := by decide +kernel
theorem dL_law_427 : decode cL_law 427 = .ok (.invokevirtual 42, 3) := by decide +kernel
theorem dL_law_430 : decode cL_law 430 = .ok (.aload_n 2, 1) := by decide +kernel
theorem dL_law_431 : decode cL_law 431 = .ok (.aload_n 0, 1) := by decide +kernel
theorem dL_law_432 : decode cL_law 432 = .ok (.iload_n 3, 1) := by decide +kernel
theorem dL_law_433 : decode cL_law 433 = .ok (.iconst 1, 1) := by decide +kernel
theorem dL_law_434 : decode cL_law 434 = .ok (.iadd, 1) := by decide +kernel
theorem dL_law_435 : decode cL_law 435 = .ok (.iaload, 1) := by decide +kernel
theorem dL_law_436 : decode cL_law 436 = .ok (.aload_n 0, 1) := by decide +kernel
theorem dL_law_437 : decode cL_law 437 = .ok (.iload_n 3, 1) := by decide +kernel
theorem dL_law_438 : decode cL_law 438 = .ok (.iconst 2, 1) := by decide +kernel
theorem dL_law_439 : decode cL_law 439 = .ok (.iadd, 1) := by decide +kernel
theorem dL_law_440 : decode cL_law 440 = .ok (.iaload, 1) := by decide +kernel
theorem dL_law_441 : decode cL_law 441 = .ok (.invokevirtual 45, 3) := by decide +kernel
theorem dL_law_444 : decode cL_law 444 = .ok (.if_icmp .eq 884, 3) := by decide +kernel
theorem dL_law_447 : decode cL_law 447 = .ok (.iconst 0, 1) := by decide +kernel
theorem dL_law_448 : decode cL_law 448 = .ok (.ireturn, 1) := by decide +kernel
theorem dL_law_449 : decode cL_law 449 = .ok (.aload_n 1, 1) := by decide +kernel
theorem dL_law_450 : decode cL_law 450 = .ok (.invokevirtual 46, 3) := by decide +kernel
theorem dL_law_453 : decode cL_law 453 = .ok (.aload_n 2, 1) := by decide +kernel
theorem dL_law_454 : decode cL_law 454 = .ok (.invokevirtual 50, 3) := by decide +kernel
theorem dL_law_457 : decode cL_law 457 = .ok (.if_icmp .eq 871, 3) := by decide +kernel
theorem dL_law_460 : decode cL_law 460 = .ok (.iconst 0, 1) := by decide +kernel
theorem dL_law_461 : decode cL_law 461 = .ok (.ireturn, 1) := by decide +kernel
theorem dL_law_462 : decode cL_law 462 = .ok (.aload_n 1, 1) := by decide +kernel
theorem dL_law_463 : decode cL_law 463 = .ok (.aload_n 0, 1) := by decide +kernel
theorem dL_law_464 : decode cL_law 464 = .ok (.iload_n 3, 1) := by decide +kernel
theorem dL_law_465 : decode cL_law 465 = .ok (.iconst 1, 1) := by decide +kernel
theorem dL_law_466 : decode cL_law 466 = .ok (.iadd, 1) := by decide +kernel
theorem dL_law_467 : decode cL_law 467 = .ok (.iaload, 1) := by decide +kernel
theorem dL_law_468 : decode cL_law 468 = .ok (.invokevirtual 51, 3) := by decide +kernel
theorem dL_law_471 : decode cL_law 471 = .ok (.aload_n 2, 1) := by decide +kernel
theorem dL_law_472 : decode cL_law 472 = .ok (.aload_n 0, 1) := by decide +kernel
theorem dL_law_473 : decode cL_law 473 = .ok (.iload_n 3, 1) := by decide +kernel
theorem dL_law_474 : decode cL_law 474 = .ok (.iconst 1, 1) := by decide +kernel
theorem dL_law_475 : decode cL_law 475 = .ok (.iadd, 1) := by decide +kernel
theorem dL_law_476 : decode cL_law 476 = .ok (.iaload, 1) := by decide +kernel
theorem dL_law_477 : decode cL_law 477 = .ok (.invokevirtual 55, 3) := by decide +kernel
theorem dL_law_480 : decode cL_law 480 = .ok (.if_icmp .eq 848, 3) := by decide +kernel
theorem dL_law_483 : decode cL_law 483 = .ok (.iconst 0, 1) := by decide +kernel
theorem dL_law_484 : decode cL_law 484 = .ok (.ireturn, 1) := by decide +kernel
theorem dL_law_485 : decode cL_law 485 = .ok (.aload_n 1, 1) := by decide +kernel
theorem dL_law_486 : decode cL_law 486 = .ok (.aload_n 0, 1) := by decide +kernel
theorem dL_law_487 : decode cL_law 487 = .ok (.iload_n 3, 1) := by decide +kernel
theorem dL_law_488 : decode cL_law 488 = .ok (.iconst 1, 1) := by decide +kernel
theorem dL_law_489 : decode cL_law 489 = .ok (.iadd, 1) := by decide +kernel
theorem dL_law_490 : decode cL_law 490 = .ok (.iaload, 1) := by decide +kernel
theorem dL_law_491 : decode cL_law 491 = .ok (.aload_n 0, 1) := by decide +kernel
theorem dL_law_492 : decode cL_law 492 = .ok (.iload_n 3, 1) := by decide +kernel
theorem dL_law_493 : decode cL_law 493 = .ok (.iconst 2, 1) := by decide +kernel
theorem dL_law_494 : decode cL_law 494 = .ok (.iadd, 1) := by decide +kernel
theorem dL_law_495 : decode cL_law 495 = .ok (.iaload, 1) := by decide +kernel
theorem dL_law_496 : decode cL_law 496 = .ok (.invokevirtual 56, 3) := by decide +kernel
theorem dL_law_499 : decode cL_law 499 = .ok (.aload_n 2, 1) := by decide +kernel
theorem dL_law_500 : decode cL_law 500 = .ok (.aload_n 0, 1) := by decide +kernel
theorem dL_law_501 : decode cL_law 501 = .ok (.iload_n 3, 1) := by decide +kernel
theorem dL_law_502 : decode cL_law 502 = .ok (.iconst 1, 1) := by decide +kernel
theorem dL_law_503 : decode cL_law 503 = .ok (.iadd, 1) := by decide +kernel
theorem dL_law_504 : decode cL_law 504 = .ok (.iaload, 1) := by decide +kernel
theorem dL_law_505 : decode cL_law 505 = .ok (.aload_n 0, 1) := by decide +kernel
theorem dL_law_506 : decode cL_law 506 = .ok (.iload_n 3, 1) := by decide +kernel
theorem dL_law_507 : decode cL_law 507 = .ok (.iconst 2, 1) := by decide +kernel
theorem dL_law_508 : decode cL_law 508 = .ok (.iadd, 1) := by decide +kernel
theorem dL_law_509 : decode cL_law 509 = .ok (.iaload, 1) := by decide +kernel
theorem dL_law_510 : decode cL_law 510 = .ok (.invokevirtual 59, 3) := by decide +kernel
theorem dL_law_513 : decode cL_law 513 = .ok (.if_icmp .eq 815, 3) := by decide +kernel
theorem dL_law_516 : decode cL_law 516 = .ok (.iconst 0, 1) := by decide +kernel
theorem dL_law_517 : decode cL_law 517 = .ok (.ireturn, 1) := by decide +kernel
theorem dL_law_518 : decode cL_law 518 = .ok (.aload_n 1, 1) := by decide +kernel
theorem dL_law_519 : decode cL_law 519 = .ok (.aload_n 0, 1) := by decide +kernel
theorem dL_law_520 : decode cL_law 520 = .ok (.iload_n 3, 1) := by decide +kernel
theorem dL_law_521 : decode cL_law 521 = .ok (.iconst 1, 1) := by decide +kernel
theorem dL_law_522 : decode cL_law 522 = .ok (.iadd, 1) := by decide +kernel
theorem dL_law_523 : decode cL_law 523 = .ok (.iaload, 1) := by decide +kernel
theorem dL_law_524 : decode cL_law 524 = .ok (.aload_n 0, 1) := by decide +kernel
theorem dL_law_525 : decode cL_law 525 = .ok (.iload_n 3, 1) := by decide +kernel
theorem dL_law_526 : decode cL_law 526 = .ok (.iconst 2, 1) := by decide +kernel
theorem dL_law_527 : decode cL_law 527 = .ok (.iadd, 1) := by decide +kernel
theorem dL_law_528 : decode cL_law 528 = .ok (.iaload, 1) := by decide +kernel
theorem dL_law_529 : decode cL_law 529 = .ok (.aload_n 0, 1) := by decide +kernel
theorem dL_law_530 : decode cL_law 530 = .ok (.iload_n 3, 1) := by decide +kernel
theorem dL_law_531 : decode cL_law 531 = .ok (.iconst 3, 1) := by decide +kernel
theorem dL_law_532 : decode cL_law 532 = .ok (.iadd, 1) := by decide +kernel
theorem dL_law_533 : decode cL_law 533 = .ok (.iaload, 1) := by decide +kernel
theorem dL_law_534 : decode cL_law 534 = .ok (.aload_n 0, 1) := by decide +kernel
theorem dL_law_535 : decode cL_law 535 = .ok (.iload_n 3, 1) := by decide +kernel
theorem dL_law_536 : decode cL_law 536 = .ok (.iconst 4, 1) := by decide +kernel
theorem dL_law_537 : decode cL_law 537 = .ok (.iadd, 1) := by decide +kernel
theorem dL_law_538 : decode cL_law 538 = .ok (.iaload, 1) := by decide +kernel
theorem dL_law_539 : decode cL_law 539 = .ok (.aload_n 0, 1) := by decide +kernel
theorem dL_law_540 : decode cL_law 540 = .ok (.iload_n 3, 1) := by decide +kernel
theorem dL_law_541 : decode cL_law 541 = .ok (.iconst 5, 1) := by decide +kernel
theorem dL_law_542 : decode cL_law 542 = .ok (.iadd, 1) := by decide +kernel
theorem dL_law_543 : decode cL_law 543 = .ok (.iaload, 1) := by decide +kernel
theorem dL_law_544 : decode cL_law 544 = .ok (.invokevirtual 60, 3) := by decide +kernel
theorem dL_law_547 : decode cL_law 547 = .ok (.aload_n 2, 1) := by decide +kernel
theorem dL_law_548 : decode cL_law 548 = .ok (.aload_n 0, 1) := by decide +kernel
theorem dL_law_549 : decode cL_law 549 = .ok (.iload_n 3, 1) := by decide +kernel
theorem dL_law_550 : decode cL_law 550 = .ok (.iconst 1, 1) := by decide +kernel
theorem dL_law_551 : decode cL_law 551 = .ok (.iadd, 1) := by decide +kernel
theorem dL_law_552 : decode cL_law 552 = .ok (.iaload, 1) := by decide +kernel
theorem dL_law_553 : decode cL_law 553 = .ok (.aload_n 0, 1) := by decide +kernel
theorem dL_law_554 : decode cL_law 554 = .ok (.iload_n 3, 1) := by decide +kernel
theorem dL_law_555 : decode cL_law 555 = .ok (.iconst 2, 1) := by decide +kernel
theorem dL_law_556 : decode cL_law 556 = .ok (.iadd, 1) := by decide +kernel
theorem dL_law_557 : decode cL_law 557 = .ok (.iaload, 1) := by decide +kernel
theorem dL_law_558 : decode cL_law 558 = .ok (.aload_n 0, 1) := by decide +kernel
theorem dL_law_559 : decode cL_law 559 = .ok (.iload_n 3, 1) := by decide +kernel
theorem dL_law_560 : decode cL_law 560 = .ok (.iconst 3, 1) := by decide +kernel
theorem dL_law_561 : decode cL_law 561 = .ok (.iadd, 1) := by decide +kernel
theorem dL_law_562 : decode cL_law 562 = .ok (.iaload, 1) := by decide +kernel
theorem dL_law_563 : decode cL_law 563 = .ok (.aload_n 0, 1) := by decide +kernel
theorem dL_law_564 : decode cL_law 564 = .ok (.iload_n 3, 1) := by decide +kernel
theorem dL_law_565 : decode cL_law 565 = .ok (.iconst 4, 1) := by decide +kernel
theorem dL_law_566 : decode cL_law 566 = .ok (.iadd, 1) := by decide +kernel
theorem dL_law_567 : decode cL_law 567 = .ok (.iaload, 1) := by decide +kernel
theorem dL_law_568 : decode cL_law 568 = .ok (.aload_n 0, 1) := by decide +kernel
theorem dL_law_569 : decode cL_law 569 = .ok (.iload_n 3, 1) := by decide +kernel
theorem dL_law_570 : decode cL_law 570 = .ok (.iconst 5, 1) := by decide +kernel
theorem dL_law_571 : decode cL_law 571 = .ok (.iadd, 1) := by decide +kernel
theorem dL_law_572 : decode cL_law 572 = .ok (.iaload, 1) := by decide +kernel
theorem dL_law_573 : decode cL_law 573 = .ok (.invokevirtual 64, 3) := by decide +kernel
theorem dL_law_576 : decode cL_law 576 = .ok (.if_icmp .eq 752, 3) := by decide +kernel
theorem dL_law_579 : decode cL_law 579 = .ok (.iconst 0, 1) := by decide +kernel
theorem dL_law_580 : decode cL_law 580 = .ok (.ireturn, 1) := by decide +kernel
theorem dL_law_581 : decode cL_law 581 = .ok (.aload_n 1, 1) := by decide +kernel
theorem dL_law_582 : decode cL_law 582 = .ok (.aload_n 0, 1) := by decide +kernel
theorem dL_law_583 : decode cL_law 583 = .ok (.iload_n 3, 1) := by decide +kernel
theorem dL_law_584 : decode cL_law 584 = .ok (.iconst 1, 1) := by decide +kernel
theorem dL_law_585 : decode cL_law 585 = .ok (.iadd, 1) := by decide +kernel
theorem dL_law_586 : decode cL_law 586 = .ok (.iaload, 1) := by decide +kernel
theorem dL_law_587 : decode cL_law 587 = .ok (.invokevirtual 65, 3) := by decide +kernel
theorem dL_law_590 : decode cL_law 590 = .ok (.aload_n 2, 1) := by decide +kernel
theorem dL_law_591 : decode cL_law 591 = .ok (.aload_n 0, 1) := by decide +kernel
theorem dL_law_592 : decode cL_law 592 = .ok (.iload_n 3, 1) := by decide +kernel
theorem dL_law_593 : decode cL_law 593 = .ok (.iconst 1, 1) := by decide +kernel
theorem dL_law_594 : decode cL_law 594 = .ok (.iadd, 1) := by decide +kernel
theorem dL_law_595 : decode cL_law 595 = .ok (.iaload, 1) := by decide +kernel
theorem dL_law_596 : decode cL_law 596 = .ok (.invokevirtual 68, 3) := by decide +kernel
theorem dL_law_599 : decode cL_law 599 = .ok (.if_icmp .eq 729, 3) := by decide +kernel
theorem dL_law_602 : decode cL_law 602 = .ok (.iconst 0, 1) := by decide +kernel
theorem dL_law_603 : decode cL_law 603 = .ok (.ireturn, 1) := by decide +kernel
theorem dL_law_604 : decode cL_law 604 = .ok (.aload_n 1, 1) := by decide +kernel
theorem dL_law_605 : decode cL_law 605 = .ok (.invokevirtual 69, 3) := by decide +kernel
theorem dL_law_608 : decode cL_law 608 = .ok (.aload_n 2, 1) := by decide +kernel
theorem dL_law_609 : decode cL_law 609 = .ok (.invokevirtual 73, 3) := by decide +kernel
theorem dL_law_612 : decode cL_law 612 = .ok (.if_icmp .eq 716, 3) := by decide +kernel
theorem dL_law_615 : decode cL_law 615 = .ok (.iconst 0, 1) := by decide +kernel
theorem dL_law_616 : decode cL_law 616 = .ok (.ireturn, 1) := by decide +kernel
theorem dL_law_617 : decode cL_law 617 = .ok (.aload_n 1, 1) := by decide +kernel
theorem dL_law_618 : decode cL_law 618 = .ok (.aload_n 0, 1) := by decide +kernel
theorem dL_law_619 : decode cL_law 619 = .ok (.iload_n 3, 1) := by decide +kernel
theorem dL_law_620 : decode cL_law 620 = .ok (.iconst 1, 1) := by decide +kernel
theorem dL_law_621 : decode cL_law 621 = .ok (.iadd, 1) := by decide +kernel
theorem dL_law_622 : decode cL_law 622 = .ok (.iaload, 1) := by decide +kernel
theorem dL_law_623 : decode cL_law 623 = .ok (.invokevirtual 74, 3) := by decide +kernel
theorem dL_law_626 : decode cL_law 626 = .ok (.aload_n 2, 1) := by decide +kernel
theorem dL_law_627 : decode cL_law 627 = .ok (.aload_n 0, 1) := by decide +kernel
theorem dL_law_628 : decode cL_law 628 = .ok (.iload_n 3, 1) := by decide +kernel
theorem dL_law_629 : decode cL_law 629 = .ok (.iconst 1, 1) := by decide +kernel
theorem dL_law_630 : decode cL_law 630 = .ok (.iadd, 1) := by decide +kernel
theorem dL_law_631 : decode cL_law 631 = .ok (.iaload, 1) := by decide +kernel
theorem dL_law_632 : decode cL_law 632 = .ok (.invokevirtual 77, 3) := by decide +kernel
theorem dL_law_635 : decode cL_law 635 = .ok (.if_icmp .eq 693, 3) := by decide +kernel
theorem dL_law_638 : decode cL_law 638 = .ok (.iconst 0, 1) := by decide +kernel
theorem dL_law_639 : decode cL_law 639 = .ok (.ireturn, 1) := by decide +kernel
theorem dL_law_640 : decode cL_law 640 = .ok (.aload_n 1, 1) := by decide +kernel
theorem dL_law_641 : decode cL_law 641 = .ok (.invokevirtual 78, 3) := by decide +kernel
theorem dL_law_644 : decode cL_law 644 = .ok (.aload_n 2, 1) := by decide +kernel
theorem dL_law_645 : decode cL_law 645 = .ok (.invokevirtual 81, 3) := by decide +kernel
theorem dL_law_648 : decode cL_law 648 = .ok (.if_icmp .eq 680, 3) := by decide +kernel
theorem dL_law_651 : decode cL_law 651 = .ok (.iconst 0, 1) := by decide +kernel
theorem dL_law_652 : decode cL_law 652 = .ok (.ireturn, 1) := by decide +kernel
theorem dL_law_653 : decode cL_law 653 = .ok (.aload_n 1, 1) := by decide +kernel
theorem dL_law_654 : decode cL_law 654 = .ok (.aload_n 0, 1) := by decide +kernel
theorem dL_law_655 : decode cL_law 655 = .ok (.iload_n 3, 1) := by decide +kernel
theorem dL_law_656 : decode cL_law 656 = .ok (.iconst 1, 1) := by decide +kernel
theorem dL_law_657 : decode cL_law 657 = .ok (.iadd, 1) := by decide +kernel
theorem dL_law_658 : decode cL_law 658 = .ok (.iaload, 1) := by decide +kernel
theorem dL_law_659 : decode cL_law 659 = .ok (.aload_n 0, 1) := by decide +kernel
theorem dL_law_660 : decode cL_law 660 = .ok (.iload_n 3, 1) := by decide +kernel
theorem dL_law_661 : decode cL_law 661 = .ok (.iconst 2, 1) := by decide +kernel
theorem dL_law_662 : decode cL_law 662 = .ok (.iadd, 1) := by decide +kernel
theorem dL_law_663 : decode cL_law 663 = .ok (.iaload, 1) := by decide +kernel
theorem dL_law_664 : decode cL_law 664 = .ok (.invokevirtual 82, 3) := by decide +kernel
theorem dL_law_667 : decode cL_law 667 = .ok (.aload_n 2, 1) := by decide +kernel
theorem dL_law_668 : decode cL_law 668 = .ok (.aload_n 0, 1) := by decide +kernel
theorem dL_law_669 : decode cL_law 669 = .ok (.iload_n 3, 1) := by decide +kernel
theorem dL_law_670 : decode cL_law 670 = .ok (.iconst 1, 1) := by decide +kernel
theorem dL_law_671 : decode cL_law 671 = .ok (.iadd, 1) := by decide +kernel
theorem dL_law_672 : decode cL_law 672 = .ok (.iaload, 1) := by decide +kernel
theorem dL_law_673 : decode cL_law 673 = .ok (.aload_n 0, 1) := by decide +kernel
theorem dL_law_674 : decode cL_law 674 = .ok (.iload_n 3, 1) := by decide +kernel
theorem dL_law_675 : decode cL_law 675 = .ok (.iconst 2, 1) := by decide +kernel
theorem dL_law_676 : decode cL_law 676 = .ok (.iadd, 1) := by decide +kernel
theorem dL_law_677 : decode cL_law 677 = .ok (.iaload, 1) := by decide +kernel
theorem dL_law_678 : decode cL_law 678 = .ok (.invokevirtual 85, 3) := by decide +kernel
theorem dL_law_681 : decode cL_law 681 = .ok (.if_icmp .eq 647, 3) := by decide +kernel
theorem dL_law_684 : decode cL_law 684 = .ok (.iconst 0, 1) := by decide +kernel
theorem dL_law_685 : decode cL_law 685 = .ok (.ireturn, 1) := by decide +kernel
theorem dL_law_686 : decode cL_law 686 = .ok (.aload_n 1, 1) := by decide +kernel
theorem dL_law_687 : decode cL_law 687 = .ok (.aload_n 0, 1) := by decide +kernel
theorem dL_law_688 : decode cL_law 688 = .ok (.iload_n 3, 1) := by decide +kernel
theorem dL_law_689 : decode cL_law 689 = .ok (.iconst 1, 1) := by decide +kernel
theorem dL_law_690 : decode cL_law 690 = .ok (.iadd, 1) := by decide +kernel
theorem dL_law_691 : decode cL_law 691 = .ok (.iaload, 1) := by decide +kernel
theorem dL_law_692 : decode cL_law 692 = .ok (.invokevirtual 86, 3) := by decide +kernel
theorem dL_law_695 : decode cL_law 695 = .ok (.aload_n 2, 1) := by decide +kernel
theorem dL_law_696 : decode cL_law 696 = .ok (.aload_n 0, 1) := by decide +kernel
theorem dL_law_697 : decode cL_law 697 = .ok (.iload_n 3, 1) := by decide +kernel
theorem dL_law_698 : decode cL_law 698 = .ok (.iconst 1, 1) := by decide +kernel
theorem dL_law_699 : decode cL_law 699 = .ok (.iadd, 1) := by decide +kernel
theorem dL_law_700 : decode cL_law 700 = .ok (.iaload, 1) := by decide +kernel
theorem dL_law_701 : decode cL_law 701 = .ok (.invokevirtual 89, 3) := by decide +kernel
theorem dL_law_704 : decode cL_law 704 = .ok (.if_icmp .eq 624, 3) := by decide +kernel
theorem dL_law_707 : decode cL_law 707 = .ok (.iconst 0, 1) := by decide +kernel
theorem dL_law_708 : decode cL_law 708 = .ok (.ireturn, 1) := by decide +kernel
theorem dL_law_709 : decode cL_law 709 = .ok (.aload_n 1, 1) := by decide +kernel
theorem dL_law_710 : decode cL_law 710 = .ok (.invokevirtual 90, 3) := by decide +kernel
theorem dL_law_713 : decode cL_law 713 = .ok (.aload_n 2, 1) := by decide +kernel
theorem dL_law_714 : decode cL_law 714 = .ok (.invokevirtual 93, 3) := by decide +kernel
theorem dL_law_717 : decode cL_law 717 = .ok (.if_icmp .eq 611, 3) := by decide +kernel
theorem dL_law_720 : decode cL_law 720 = .ok (.iconst 0, 1) := by decide +kernel
theorem dL_law_721 : decode cL_law 721 = .ok (.ireturn, 1) := by decide +kernel
theorem dL_law_722 : decode cL_law 722 = .ok (.aload_n 1, 1) := by decide +kernel
theorem dL_law_723 : decode cL_law 723 = .ok (.invokevirtual 94, 3) := by decide +kernel
theorem dL_law_726 : decode cL_law 726 = .ok (.aload_n 2, 1) := by decide +kernel
theorem dL_law_727 : decode cL_law 727 = .ok (.invokevirtual 97, 3) := by decide +kernel
theorem dL_law_730 : decode cL_law 730 = .ok (.if_icmp .eq 598, 3) := by decide +kernel
theorem dL_law_733 : decode cL_law 733 = .ok (.iconst 0, 1) := by decide +kernel
theorem dL_law_734 : decode cL_law 734 = .ok (.ireturn, 1) := by decide +kernel
theorem dL_law_735 : decode cL_law 735 = .ok (.aload_n 1, 1) := by decide +kernel
theorem dL_law_736 : decode cL_law 736 = .ok (.invokevirtual 98, 3) := by decide +kernel
theorem dL_law_739 : decode cL_law 739 = .ok (.aload_n 2, 1) := by decide +kernel
theorem dL_law_740 : decode cL_law 740 = .ok (.invokevirtual 101, 3) := by decide +kernel
theorem dL_law_743 : decode cL_law 743 = .ok (.if_icmp .eq 585, 3) := by decide +kernel
theorem dL_law_746 : decode cL_law 746 = .ok (.iconst 0, 1) := by decide +kernel
theorem dL_law_747 : decode cL_law 747 = .ok (.ireturn, 1) := by decide +kernel
theorem dL_law_748 : decode cL_law 748 = .ok (.aload_n 1, 1) := by decide +kernel
theorem dL_law_749 : decode cL_law 749 = .ok (.aload_n 0, 1) := by decide +kernel
theorem dL_law_750 : decode cL_law 750 = .ok (.iload_n 3, 1) := by decide +kernel
theorem dL_law_751 : decode cL_law 751 = .ok (.iconst 1, 1) := by decide +kernel
theorem dL_law_752 : decode cL_law 752 = .ok (.iadd, 1) := by decide +kernel
theorem dL_law_753 : decode cL_law 753 = .ok (.iaload, 1) := by decide +kernel
theorem dL_law_754 : decode cL_law 754 = .ok (.invokevirtual 102, 3) := by decide +kernel
theorem dL_law_757 : decode cL_law 757 = .ok (.aload_n 2, 1) := by decide +kernel
theorem dL_law_758 : decode cL_law 758 = .ok (.aload_n 0, 1) := by decide +kernel
theorem dL_law_759 : decode cL_law 759 = .ok (.iload_n 3, 1) := by decide +kernel
theorem dL_law_760 : decode cL_law 760 = .ok (.iconst 1, 1) := by decide +kernel
theorem dL_law_761 : decode cL_law 761 = .ok (.iadd, 1) := by decide +kernel
theorem dL_law_762 : decode cL_law 762 = .ok (.iaload, 1) := by decide +kernel
theorem dL_law_763 : decode cL_law 763 = .ok (.invokevirtual 105, 3) := by decide +kernel
theorem dL_law_766 : decode cL_law 766 = .ok (.if_icmp .eq 562, 3) := by decide +kernel
theorem dL_law_769 : decode cL_law 769 = .ok (.iconst 0, 1) := by decide +kernel
theorem dL_law_770 : decode cL_law 770 = .ok (.ireturn, 1) := by decide +kernel
theorem dL_law_771 : decode cL_law 771 = .ok (.aload_n 1, 1) := by decide +kernel
theorem dL_law_772 : decode cL_law 772 = .ok (.aload_n 0, 1) := by decide +kernel
theorem dL_law_773 : decode cL_law 773 = .ok (.iload_n 3, 1) := by decide +kernel
theorem dL_law_774 : decode cL_law 774 = .ok (.iconst 1, 1) := by decide +kernel
theorem dL_law_775 : decode cL_law 775 = .ok (.iadd, 1) := by decide +kernel
theorem dL_law_776 : decode cL_law 776 = .ok (.iaload, 1) := by decide +kernel
theorem dL_law_777 : decode cL_law 777 = .ok (.invokevirtual 106, 3) := by decide +kernel
theorem dL_law_780 : decode cL_law 780 = .ok (.aload_n 2, 1) := by decide +kernel
theorem dL_law_781 : decode cL_law 781 = .ok (.aload_n 0, 1) := by decide +kernel
theorem dL_law_782 : decode cL_law 782 = .ok (.iload_n 3, 1) := by decide +kernel
theorem dL_law_783 : decode cL_law 783 = .ok (.iconst 1, 1) := by decide +kernel
theorem dL_law_784 : decode cL_law 784 = .ok (.iadd, 1) := by decide +kernel
theorem dL_law_785 : decode cL_law 785 = .ok (.iaload, 1) := by decide +kernel
theorem dL_law_786 : decode cL_law 786 = .ok (.invokevirtual 109, 3) := by decide +kernel
theorem dL_law_789 : decode cL_law 789 = .ok (.if_icmp .eq 539, 3) := by decide +kernel
theorem dL_law_792 : decode cL_law 792 = .ok (.iconst 0, 1) := by decide +kernel
theorem dL_law_793 : decode cL_law 793 = .ok (.ireturn, 1) := by decide +kernel
theorem dL_law_794 : decode cL_law 794 = .ok (.aload_n 1, 1) := by decide +kernel
theorem dL_law_795 : decode cL_law 795 = .ok (.aload_n 0, 1) := by decide +kernel
theorem dL_law_796 : decode cL_law 796 = .ok (.iload_n 3, 1) := by decide +kernel
theorem dL_law_797 : decode cL_law 797 = .ok (.iconst 1, 1) := by decide +kernel
theorem dL_law_798 : decode cL_law 798 = .ok (.iadd, 1) := by decide +kernel
theorem dL_law_799 : decode cL_law 799 = .ok (.iaload, 1) := by decide +kernel
theorem dL_law_800 : decode cL_law 800 = .ok (.aload_n 0, 1) := by decide +kernel
theorem dL_law_801 : decode cL_law 801 = .ok (.iload_n 3, 1) := by decide +kernel
theorem dL_law_802 : decode cL_law 802 = .ok (.iconst 2, 1) := by decide +kernel
theorem dL_law_803 : decode cL_law 803 = .ok (.iadd, 1) := by decide +kernel
theorem dL_law_804 : decode cL_law 804 = .ok (.iaload, 1) := by decide +kernel
theorem dL_law_805 : decode cL_law 805 = .ok (.invokevirtual 110, 3) := by decide +kernel
theorem dL_law_808 : decode cL_law 808 = .ok (.aload_n 2, 1) := by decide +kernel
theorem dL_law_809 : decode cL_law 809 = .ok (.aload_n 0, 1) := by decide +kernel
theorem dL_law_810 : decode cL_law 810 = .ok (.iload_n 3, 1) := by decide +kernel
theorem dL_law_811 : decode cL_law 811 = .ok (.iconst 1, 1) := by decide +kernel
theorem dL_law_812 : decode cL_law 812 = .ok (.iadd, 1) := by decide +kernel
theorem dL_law_813 : decode cL_law 813 = .ok (.iaload, 1) := by decide +kernel
theorem dL_law_814 : decode cL_law 814 = .ok (.aload_n 0, 1) := by decide +kernel
theorem dL_law_815 : decode cL_law 815 = .ok (.iload_n 3, 1) := by decide +kernel
theorem dL_law_816 : decode cL_law 816 = .ok (.iconst 2, 1) := by decide +kernel
theorem dL_law_817 : decode cL_law 817 = .ok (.iadd, 1) := by decide +kernel
theorem dL_law_818 : decode cL_law 818 = .ok (.iaload, 1) := by decide +kernel
theorem dL_law_819 : decode cL_law 819 = .ok (.invokevirtual 113, 3) := by decide +kernel
theorem dL_law_822 : decode cL_law 822 = .ok (.if_icmp .eq 506, 3) := by decide +kernel
theorem dL_law_825 : decode cL_law 825 = .ok (.iconst 0, 1) := by decide +kernel
theorem dL_law_826 : decode cL_law 826 = .ok (.ireturn, 1) := by decide +kernel
theorem dL_law_827 : decode cL_law 827 = .ok (.aload_n 1, 1) := by decide +kernel
theorem dL_law_828 : decode cL_law 828 = .ok (.aload_n 0, 1) := by decide +kernel
theorem dL_law_829 : decode cL_law 829 = .ok (.iload_n 3, 1) := by decide +kernel
theorem dL_law_830 : decode cL_law 830 = .ok (.iconst 1, 1) := by decide +kernel
theorem dL_law_831 : decode cL_law 831 = .ok (.iadd, 1) := by decide +kernel
theorem dL_law_832 : decode cL_law 832 = .ok (.iaload, 1) := by decide +kernel
theorem dL_law_833 : decode cL_law 833 = .ok (.invokevirtual 114, 3) := by decide +kernel
theorem dL_law_836 : decode cL_law 836 = .ok (.aload_n 2, 1) := by decide +kernel
theorem dL_law_837 : decode cL_law 837 = .ok (.aload_n 0, 1) := by decide +kernel
theorem dL_law_838 : decode cL_law 838 = .ok (.iload_n 3, 1) := by decide +kernel
theorem dL_law_839 : decode cL_law 839 = .ok (.iconst 1, 1) := by decide +kernel
theorem dL_law_840 : decode cL_law 840 = .ok (.iadd, 1) := by decide +kernel
theorem dL_law_841 : decode cL_law 841 = .ok (.iaload, 1) := by decide +kernel
theorem dL_law_842 : decode cL_law 842 = .ok (.invokevirtual 117, 3) := by decide +kernel
theorem dL_law_845 : decode cL_law 845 = .ok (.if_icmp .eq 483, 3) := by decide +kernel
theorem dL_law_848 : decode cL_law 848 = .ok (.iconst 0, 1) := by decide +kernel
theorem dL_law_849 : decode cL_law 849 = .ok (.ireturn, 1) := by decide +kernel
theorem dL_law_850 : decode cL_law 850 = .ok (.aload_n 1, 1) := by decide +kernel
theorem dL_law_851 : decode cL_law 851 = .ok (.aload_n 0, 1) := by decide +kernel
theorem dL_law_852 : decode cL_law 852 = .ok (.iload_n 3, 1) := by decide +kernel
theorem dL_law_853 : decode cL_law 853 = .ok (.iconst 1, 1) := by decide +kernel
theorem dL_law_854 : decode cL_law 854 = .ok (.iadd, 1) := by decide +kernel
theorem dL_law_855 : decode cL_law 855 = .ok (.iaload, 1) := by decide +kernel
theorem dL_law_856 : decode cL_law 856 = .ok (.invokevirtual 118, 3) := by decide +kernel
theorem dL_law_859 : decode cL_law 859 = .ok (.aload_n 2, 1) := by decide +kernel
theorem dL_law_860 : decode cL_law 860 = .ok (.aload_n 0, 1) := by decide +kernel
theorem dL_law_861 : decode cL_law 861 = .ok (.iload_n 3, 1) := by decide +kernel
theorem dL_law_862 : decode cL_law 862 = .ok (.iconst 1, 1) := by decide +kernel
theorem dL_law_863 : decode cL_law 863 = .ok (.iadd, 1) := by decide +kernel
theorem dL_law_864 : decode cL_law 864 = .ok (.iaload, 1) := by decide +kernel
theorem dL_law_865 : decode cL_law 865 = .ok (.invokevirtual 121, 3) := by decide +kernel
theorem dL_law_868 : decode cL_law 868 = .ok (.if_icmp .eq 460, 3) := by decide +kernel
theorem dL_law_871 : decode cL_law 871 = .ok (.iconst 0, 1) := by decide +kernel
theorem dL_law_872 : decode cL_law 872 = .ok (.ireturn, 1) := by decide +kernel
theorem dL_law_873 : decode cL_law 873 = .ok (.aload_n 1, 1) := by decide +kernel
theorem dL_law_874 : decode cL_law 874 = .ok (.aload_n 0, 1) := by decide +kernel
theorem dL_law_875 : decode cL_law 875 = .ok (.iload_n 3, 1) := by decide +kernel
theorem dL_law_876 : decode cL_law 876 = .ok (.iconst 1, 1) := by decide +kernel
theorem dL_law_877 : decode cL_law 877 = .ok (.iadd, 1) := by decide +kernel
theorem dL_law_878 : decode cL_law 878 = .ok (.iaload, 1) := by decide +kernel
theorem dL_law_879 : decode cL_law 879 = .ok (.aload_n 0, 1) := by decide +kernel
theorem dL_law_880 : decode cL_law 880 = .ok (.iload_n 3, 1) := by decide +kernel
theorem dL_law_881 : decode cL_law 881 = .ok (.iconst 2, 1) := by decide +kernel
theorem dL_law_882 : decode cL_law 882 = .ok (.iadd, 1) := by decide +kernel
theorem dL_law_883 : decode cL_law 883 = .ok (.iaload, 1) := by decide +kernel
theorem dL_law_884 : decode cL_law 884 = .ok (.invokevirtual 122, 3) := by decide +kernel
theorem dL_law_887 : decode cL_law 887 = .ok (.aload_n 2, 1) := by decide +kernel
theorem dL_law_888 : decode cL_law 888 = .ok (.aload_n 0, 1) := by decide +kernel
theorem dL_law_889 : decode cL_law 889 = .ok (.iload_n 3, 1) := by decide +kernel
theorem dL_law_890 : decode cL_law 890 = .ok (.iconst 1, 1) := by decide +kernel
theorem dL_law_891 : decode cL_law 891 = .ok (.iadd, 1) := by decide +kernel
theorem dL_law_892 : decode cL_law 892 = .ok (.iaload, 1) := by decide +kernel
theorem dL_law_893 : decode cL_law 893 = .ok (.aload_n 0, 1) := by decide +kernel
theorem dL_law_894 : decode cL_law 894 = .ok (.iload_n 3, 1) := by decide +kernel
theorem dL_law_895 : decode cL_law 895 = .ok (.iconst 2, 1) := by decide +kernel
theorem dL_law_896 : decode cL_law 896 = .ok (.iadd, 1) := by decide +kernel
theorem dL_law_897 : decode cL_law 897 = .ok (.iaload, 1) := by decide +kernel
theorem dL_law_898 : decode cL_law 898 = .ok (.invokevirtual 125, 3) := by decide +kernel
theorem dL_law_901 : decode cL_law 901 = .ok (.if_icmp .eq 427, 3) := by decide +kernel
theorem dL_law_904 : decode cL_law 904 = .ok (.iconst 0, 1) := by decide +kernel
theorem dL_law_905 : decode cL_law 905 = .ok (.ireturn, 1) := by decide +kernel
theorem dL_law_906 : decode cL_law 906 = .ok (.aload_n 1, 1) := by decide +kernel
theorem dL_law_907 : decode cL_law 907 = .ok (.aload_n 0, 1) := by decide +kernel
theorem dL_law_908 : decode cL_law 908 = .ok (.iload_n 3, 1) := by decide +kernel
theorem dL_law_909 : decode cL_law 909 = .ok (.iconst 1, 1) := by decide +kernel
theorem dL_law_910 : decode cL_law 910 = .ok (.iadd, 1) := by decide +kernel
theorem dL_law_911 : decode cL_law 911 = .ok (.iaload, 1) := by decide +kernel
theorem dL_law_912 : decode cL_law 912 = .ok (.aload_n 0, 1) := by decide +kernel
theorem dL_law_913 : decode cL_law 913 = .ok (.iload_n 3, 1) := by decide +kernel
theorem dL_law_914 : decode cL_law 914 = .ok (.iconst 2, 1) := by decide +kernel
theorem dL_law_915 : decode cL_law 915 = .ok (.iadd, 1) := by decide +kernel
theorem dL_law_916 : decode cL_law 916 = .ok (.iaload, 1) := by decide +kernel
theorem dL_law_917 : decode cL_law 917 = .ok (.invokevirtual 126, 3) := by decide +kernel
theorem dL_law_920 : decode cL_law 920 = .ok (.aload_n 2, 1) := by decide +kernel
theorem dL_law_921 : decode cL_law 921 = .ok (.aload_n 0, 1) := by decide +kernel
theorem dL_law_922 : decode cL_law 922 = .ok (.iload_n 3, 1) := by decide +kernel
theorem dL_law_923 : decode cL_law 923 = .ok (.iconst 1, 1) := by decide +kernel
theorem dL_law_924 : decode cL_law 924 = .ok (.iadd, 1) := by decide +kernel
theorem dL_law_925 : decode cL_law 925 = .ok (.iaload, 1) := by decide +kernel
theorem dL_law_926 : decode cL_law 926 = .ok (.aload_n 0, 1) := by decide +kernel
theorem dL_law_927 : decode cL_law 927 = .ok (.iload_n 3, 1) := by decide +kernel
theorem dL_law_928 : decode cL_law 928 = .ok (.iconst 2, 1) := by decide +kernel
theorem dL_law_929 : decode cL_law 929 = .ok (.iadd, 1) := by decide +kernel
theorem dL_law_930 : decode cL_law 930 = .ok (.iaload, 1) := by decide +kernel
theorem dL_law_931 : decode cL_law 931 = .ok (.invokevirtual 129, 3) := by decide +kernel
theorem dL_law_934 : decode cL_law 934 = .ok (.if_icmp .eq 394, 3) := by decide +kernel
theorem dL_law_937 : decode cL_law 937 = .ok (.iconst 0, 1) := by decide +kernel
theorem dL_law_938 : decode cL_law 938 = .ok (.ireturn, 1) := by decide +kernel
theorem dL_law_939 : decode cL_law 939 = .ok (.aload_n 1, 1) := by decide +kernel
theorem dL_law_940 : decode cL_law 940 = .ok (.aload_n 0, 1) := by decide +kernel
theorem dL_law_941 : decode cL_law 941 = .ok (.iload_n 3, 1) := by decide +kernel
theorem dL_law_942 : decode cL_law 942 = .ok (.iconst 1, 1) := by decide +kernel
theorem dL_law_943 : decode cL_law 943 = .ok (.iadd, 1) := by decide +kernel
theorem dL_law_944 : decode cL_law 944 = .ok (.iaload, 1) := by decide +kernel
theorem dL_law_945 : decode cL_law 945 = .ok (.aload_n 0, 1) := by decide +kernel
theorem dL_law_946 : decode cL_law 946 = .ok (.iload_n 3, 1) := by decide +kernel
theorem dL_law_947 : decode cL_law 947 = .ok (.iconst 2, 1) := by decide +kernel
theorem dL_law_948 : decode cL_law 948 = .ok (.iadd, 1) := by decide +kernel
theorem dL_law_949 : decode cL_law 949 = .ok (.iaload, 1) := by decide +kernel
theorem dL_law_950 : decode cL_law 950 = .ok (.invokevirtual 130, 3) := by decide +kernel
theorem dL_law_953 : decode cL_law 953 = .ok (.aload_n 2, 1) := by decide +kernel
theorem dL_law_954 : decode cL_law 954 = .ok (.aload_n 0, 1) := by decide +kernel
theorem dL_law_955 : decode cL_law 955 = .ok (.iload_n 3, 1) := by decide +kernel
theorem dL_law_956 : decode cL_law 956 = .ok (.iconst 1, 1) := by decide +kernel
theorem dL_law_957 : decode cL_law 957 = .ok (.iadd, 1) := by decide +kernel
theorem dL_law_958 : decode cL_law 958 = .ok (.iaload, 1) := by decide +kernel
theorem dL_law_959 : decode cL_law 959 = .ok (.aload_n 0, 1) := by decide +kernel
theorem dL_law_960 : decode cL_law 960 = .ok (.iload_n 3, 1) := by decide +kernel
theorem dL_law_961 : decode cL_law 961 = .ok (.iconst 2, 1) := by decide +kernel
theorem dL_law_962 : decode cL_law 962 = .ok (.iadd, 1) := by decide +kernel
theorem dL_law_963 : decode cL_law 963 = .ok (.iaload, 1) := by decide +kernel
theorem dL_law_964 : decode cL_law 964 = .ok (.invokevirtual 133, 3) := by decide +kernel
theorem dL_law_967 : decode cL_law 967 = .ok (.if_icmp .eq 361, 3) := by decide +kernel
theorem dL_law_970 : decode cL_law 970 = .ok (.iconst 0, 1) := by decide +kernel
theorem dL_law_971 : decode cL_law 971 = .ok (.ireturn, 1) := by decide +kernel
theorem dL_law_972 : decode cL_law 972 = .ok (.aload_n 1, 1) := by decide +kernel
theorem dL_law_973 : decode cL_law 973 = .ok (.aload_n 0, 1) := by decide +kernel
theorem dL_law_974 : decode cL_law 974 = .ok (.iload_n 3, 1) := by decide +kernel
theorem dL_law_975 : decode cL_law 975 = .ok (.iconst 1, 1) := by decide +kernel
theorem dL_law_976 : decode cL_law 976 = .ok (.iadd, 1) := by decide +kernel
theorem dL_law_977 : decode cL_law 977 = .ok (.iaload, 1) := by decide +kernel
theorem dL_law_978 : decode cL_law 978 = .ok (.aload_n 0, 1) := by decide +kernel
theorem dL_law_979 : decode cL_law 979 = .ok (.iload_n 3, 1) := by decide +kernel
theorem dL_law_980 : decode cL_law 980 = .ok (.iconst 2, 1) := by decide +kernel
theorem dL_law_981 : decode cL_law 981 = .ok (.iadd, 1) := by decide +kernel
theorem dL_law_982 : decode cL_law 982 = .ok (.iaload, 1) := by decide +kernel
theorem dL_law_983 : decode cL_law 983 = .ok (.invokevirtual 134, 3) := by decide +kernel
theorem dL_law_986 : decode cL_law 986 = .ok (.aload_n 2, 1) := by decide +kernel
theorem dL_law_987 : decode cL_law 987 = .ok (.aload_n 0, 1) := by decide +kernel
theorem dL_law_988 : decode cL_law 988 = .ok (.iload_n 3, 1) := by decide +kernel
theorem dL_law_989 : decode cL_law 989 = .ok (.iconst 1, 1) := by decide +kernel
theorem dL_law_990 : decode cL_law 990 = .ok (.iadd, 1) := by decide +kernel
theorem dL_law_991 : decode cL_law 991 = .ok (.iaload, 1) := by decide +kernel
theorem dL_law_992 : decode cL_law 992 = .ok (.aload_n 0, 1) := by decide +kernel
theorem dL_law_993 : decode cL_law 993 = .ok (.iload_n 3, 1) := by decide +kernel
theorem dL_law_994 : decode cL_law 994 = .ok (.iconst 2, 1) := by decide +kernel
theorem dL_law_995 : decode cL_law 995 = .ok (.iadd, 1) := by decide +kernel
theorem dL_law_996 : decode cL_law 996 = .ok (.iaload, 1) := by decide +kernel
theorem dL_law_997 : decode cL_law 997 = .ok (.invokevirtual 137, 3) := by decide +kernel
theorem dL_law_1000 : decode cL_law 1000 = .ok (.if_icmp .eq 328, 3) := by decide +kernel
theorem dL_law_1003 : decode cL_law 1003 = .ok (.iconst 0, 1) := by decide +kernel
theorem dL_law_1004 : decode cL_law 1004 = .ok (.ireturn, 1) := by decide +kernel
theorem dL_law_1005 : decode cL_law 1005 = .ok (.aload_n 1, 1) := by decide +kernel
theorem dL_law_1006 : decode cL_law 1006 = .ok (.aload_n 0, 1) := by decide +kernel
theorem dL_law_1007 : decode cL_law 1007 = .ok (.iload_n 3, 1) := by decide +kernel
theorem dL_law_1008 : decode cL_law 1008 = .ok (.iconst 1, 1) := by decide +kernel
theorem dL_law_1009 : decode cL_law 1009 = .ok (.iadd, 1) := by decide +kernel
theorem dL_law_1010 : decode cL_law 1010 = .ok (.iaload, 1) := by decide +kernel
theorem dL_law_1011 : decode cL_law 1011 = .ok (.aload_n 0, 1) := by decide +kernel
theorem dL_law_1012 : decode cL_law 1012 = .ok (.iload_n 3, 1) := by decide +kernel
theorem dL_law_1013 : decode cL_law 1013 = .ok (.iconst 2, 1) := by decide +kernel
theorem dL_law_1014 : decode cL_law 1014 = .ok (.iadd, 1) := by decide +kernel
theorem dL_law_1015 : decode cL_law 1015 = .ok (.iaload, 1) := by decide +kernel
theorem dL_law_1016 : decode cL_law 1016 = .ok (.invokevirtual 138, 3) := by decide +kernel
theorem dL_law_1019 : decode cL_law 1019 = .ok (.aload_n 2, 1) := by decide +kernel
theorem dL_law_1020 : decode cL_law 1020 = .ok (.aload_n 0, 1) := by decide +kernel
theorem dL_law_1021 : decode cL_law 1021 = .ok (.iload_n 3, 1) := by decide +kernel
theorem dL_law_1022 : decode cL_law 1022 = .ok (.iconst 1, 1) := by decide +kernel
theorem dL_law_1023 : decode cL_law 1023 = .ok (.iadd, 1) := by decide +kernel
theorem dL_law_1024 : decode cL_law 1024 = .ok (.iaload, 1) := by decide +kernel
theorem dL_law_1025 : decode cL_law 1025 = .ok (.aload_n 0, 1) := by decide +kernel
theorem dL_law_1026 : decode cL_law 1026 = .ok (.iload_n 3, 1) := by decide +kernel
theorem dL_law_1027 : decode cL_law 1027 = .ok (.iconst 2, 1) := by decide +kernel
theorem dL_law_1028 : decode cL_law 1028 = .ok (.iadd, 1) := by decide +kernel
theorem dL_law_1029 : decode cL_law 1029 = .ok (.iaload, 1) := by decide +kernel
theorem dL_law_1030 : decode cL_law 1030 = .ok (.invokevirtual 141, 3) := by decide +kernel
theorem dL_law_1033 : decode cL_law 1033 = .ok (.if_icmp .eq 295, 3) := by decide +kernel
theorem dL_law_1036 : decode cL_law 1036 = .ok (.iconst 0, 1) := by decide +kernel
theorem dL_law_1037 : decode cL_law 1037 = .ok (.ireturn, 1) := by decide +kernel
theorem dL_law_1038 : decode cL_law 1038 = .ok (.aload_n 1, 1) := by decide +kernel
theorem dL_law_1039 : decode cL_law 1039 = .ok (.aload_n 0, 1) := by decide +kernel
theorem dL_law_1040 : decode cL_law 1040 = .ok (.iload_n 3, 1) := by decide +kernel
theorem dL_law_1041 : decode cL_law 1041 = .ok (.iconst 1, 1) := by decide +kernel
theorem dL_law_1042 : decode cL_law 1042 = .ok (.iadd, 1) := by decide +kernel
theorem dL_law_1043 : decode cL_law 1043 = .ok (.iaload, 1) := by decide +kernel
theorem dL_law_1044 : decode cL_law 1044 = .ok (.invokevirtual 142, 3) := by decide +kernel
theorem dL_law_1047 : decode cL_law 1047 = .ok (.aload_n 2, 1) := by decide +kernel
theorem dL_law_1048 : decode cL_law 1048 = .ok (.aload_n 0, 1) := by decide +kernel
theorem dL_law_1049 : decode cL_law 1049 = .ok (.iload_n 3, 1) := by decide +kernel
theorem dL_law_1050 : decode cL_law 1050 = .ok (.iconst 1, 1) := by decide +kernel
theorem dL_law_1051 : decode cL_law 1051 = .ok (.iadd, 1) := by decide +kernel
theorem dL_law_1052 : decode cL_law 1052 = .ok (.iaload, 1) := by decide +kernel
theorem dL_law_1053 : decode cL_law 1053 = .ok (.invokevirtual 145, 3) := by decide +kernel
theorem dL_law_1056 : decode cL_law 1056 = .ok (.if_icmp .eq 272, 3) := by decide +kernel
theorem dL_law_1059 : decode cL_law 1059 = .ok (.iconst 0, 1) := by decide +kernel
theorem dL_law_1060 : decode cL_law 1060 = .ok (.ireturn, 1) := by decide +kernel
theorem dL_law_1061 : decode cL_law 1061 = .ok (.aload_n 1, 1) := by decide +kernel
theorem dL_law_1062 : decode cL_law 1062 = .ok (.aload_n 0, 1) := by decide +kernel
theorem dL_law_1063 : decode cL_law 1063 = .ok (.iload_n 3, 1) := by decide +kernel
theorem dL_law_1064 : decode cL_law 1064 = .ok (.iconst 1, 1) := by decide +kernel
theorem dL_law_1065 : decode cL_law 1065 = .ok (.iadd, 1) := by decide +kernel
theorem dL_law_1066 : decode cL_law 1066 = .ok (.iaload, 1) := by decide +kernel
theorem dL_law_1067 : decode cL_law 1067 = .ok (.invokevirtual 146, 3) := by decide +kernel
theorem dL_law_1070 : decode cL_law 1070 = .ok (.aload_n 2, 1) := by decide +kernel
theorem dL_law_1071 : decode cL_law 1071 = .ok (.aload_n 0, 1) := by decide +kernel
theorem dL_law_1072 : decode cL_law 1072 = .ok (.iload_n 3, 1) := by decide +kernel
theorem dL_law_1073 : decode cL_law 1073 = .ok (.iconst 1, 1) := by decide +kernel
theorem dL_law_1074 : decode cL_law 1074 = .ok (.iadd, 1) := by decide +kernel
theorem dL_law_1075 : decode cL_law 1075 = .ok (.iaload, 1) := by decide +kernel
theorem dL_law_1076 : decode cL_law 1076 = .ok (.invokevirtual 149, 3) := by decide +kernel
theorem dL_law_1079 : decode cL_law 1079 = .ok (.if_icmp .eq 249, 3) := by decide +kernel
theorem dL_law_1082 : decode cL_law 1082 = .ok (.iconst 0, 1) := by decide +kernel
theorem dL_law_1083 : decode cL_law 1083 = .ok (.ireturn, 1) := by decide +kernel
theorem dL_law_1084 : decode cL_law 1084 = .ok (.aload_n 1, 1) := by decide +kernel
theorem dL_law_1085 : decode cL_law 1085 = .ok (.aload_n 0, 1) := by decide +kernel
theorem dL_law_1086 : decode cL_law 1086 = .ok (.iload_n 3, 1) := by decide +kernel
theorem dL_law_1087 : decode cL_law 1087 = .ok (.iconst 1, 1) := by decide +kernel
theorem dL_law_1088 : decode cL_law 1088 = .ok (.iadd, 1) := by decide +kernel
theorem dL_law_1089 : decode cL_law 1089 = .ok (.iaload, 1) := by decide +kernel
theorem dL_law_1090 : decode cL_law 1090 = .ok (.aload_n 0, 1) := by decide +kernel
theorem dL_law_1091 : decode cL_law 1091 = .ok (.iload_n 3, 1) := by decide +kernel
theorem dL_law_1092 : decode cL_law 1092 = .ok (.iconst 2, 1) := by decide +kernel
theorem dL_law_1093 : decode cL_law 1093 = .ok (.iadd, 1) := by decide +kernel
theorem dL_law_1094 : decode cL_law 1094 = .ok (.iaload, 1) := by decide +kernel
theorem dL_law_1095 : decode cL_law 1095 = .ok (.invokevirtual 150, 3) := by decide +kernel
theorem dL_law_1098 : decode cL_law 1098 = .ok (.aload_n 2, 1) := by decide +kernel
theorem dL_law_1099 : decode cL_law 1099 = .ok (.aload_n 0, 1) := by decide +kernel
theorem dL_law_1100 : decode cL_law 1100 = .ok (.iload_n 3, 1) := by decide +kernel
theorem dL_law_1101 : decode cL_law 1101 = .ok (.iconst 1, 1) := by decide +kernel
theorem dL_law_1102 : decode cL_law 1102 = .ok (.iadd, 1) := by decide +kernel
theorem dL_law_1103 : decode cL_law 1103 = .ok (.iaload, 1) := by decide +kernel
theorem dL_law_1104 : decode cL_law 1104 = .ok (.aload_n 0, 1) := by decide +kernel
theorem dL_law_1105 : decode cL_law 1105 = .ok (.iload_n 3, 1) := by decide +kernel
theorem dL_law_1106 : decode cL_law 1106 = .ok (.iconst 2, 1) := by decide +kernel
theorem dL_law_1107 : decode cL_law 1107 = .ok (.iadd, 1) := by decide +kernel
theorem dL_law_1108 : decode cL_law 1108 = .ok (.iaload, 1) := by decide +kernel
theorem dL_law_1109 : decode cL_law 1109 = .ok (.invokevirtual 153, 3) := by decide +kernel
theorem dL_law_1112 : decode cL_law 1112 = .ok (.if_icmp .eq 216, 3) := by decide +kernel
theorem dL_law_1115 : decode cL_law 1115 = .ok (.iconst 0, 1) := by decide +kernel
theorem dL_law_1116 : decode cL_law 1116 = .ok (.ireturn, 1) := by decide +kernel
theorem dL_law_1117 : decode cL_law 1117 = .ok (.aload_n 1, 1) := by decide +kernel
theorem dL_law_1118 : decode cL_law 1118 = .ok (.aload_n 0, 1) := by decide +kernel
theorem dL_law_1119 : decode cL_law 1119 = .ok (.iload_n 3, 1) := by decide +kernel
theorem dL_law_1120 : decode cL_law 1120 = .ok (.iconst 1, 1) := by decide +kernel
theorem dL_law_1121 : decode cL_law 1121 = .ok (.iadd, 1) := by decide +kernel
theorem dL_law_1122 : decode cL_law 1122 = .ok (.iaload, 1) := by decide +kernel
theorem dL_law_1123 : decode cL_law 1123 = .ok (.invokevirtual 154, 3) := by decide +kernel
theorem dL_law_1126 : decode cL_law 1126 = .ok (.aload_n 2, 1) := by decide +kernel
theorem dL_law_1127 : decode cL_law 1127 = .ok (.aload_n 0, 1) := by decide +kernel
theorem dL_law_1128 : decode cL_law 1128 = .ok (.iload_n 3, 1) := by decide +kernel
theorem dL_law_1129 : decode cL_law 1129 = .ok (.iconst 1, 1) := by decide +kernel
theorem dL_law_1130 : decode cL_law 1130 = .ok (.iadd, 1) := by decide +kernel
theorem dL_law_1131 : decode cL_law 1131 = .ok (.iaload, 1) := by decide +kernel
theorem dL_law_1132 : decode cL_law 1132 = .ok (.invokevirtual 157, 3) := by decide +kernel
theorem dL_law_1135 : decode cL_law 1135 = .ok (.if_icmp .eq 193, 3) := by decide +kernel
theorem dL_law_1138 : decode cL_law 1138 = .ok (.iconst 0, 1) := by decide +kernel
theorem dL_law_1139 : decode cL_law 1139 = .ok (.ireturn, 1) := by decide +kernel
theorem dL_law_1140 : decode cL_law 1140 = .ok (.aload_n 1, 1) := by decide +kernel
theorem dL_law_1141 : decode cL_law 1141 = .ok (.aload_n 0, 1) := by decide +kernel
theorem dL_law_1142 : decode cL_law 1142 = .ok (.iload_n 3, 1) := by decide +kernel
theorem dL_law_1143 : decode cL_law 1143 = .ok (.iconst 1, 1) := by decide +kernel
theorem dL_law_1144 : decode cL_law 1144 = .ok (.iadd, 1) := by decide +kernel
theorem dL_law_1145 : decode cL_law 1145 = .ok (.iaload, 1) := by decide +kernel
theorem dL_law_1146 : decode cL_law 1146 = .ok (.invokevirtual 158, 3) := by decide +kernel
theorem dL_law_1149 : decode cL_law 1149 = .ok (.aload_n 2, 1) := by decide +kernel
theorem dL_law_1150 : decode cL_law 1150 = .ok (.aload_n 0, 1) := by decide +kernel
theorem dL_law_1151 : decode cL_law 1151 = .ok (.iload_n 3, 1) := by decide +kernel
theorem dL_law_1152 : decode cL_law 1152 = .ok (.iconst 1, 1) := by decide +kernel
theorem dL_law_1153 : decode cL_law 1153 = .ok (.iadd, 1) := by decide +kernel
theorem dL_law_1154 : decode cL_law 1154 = .ok (.iaload, 1) := by decide +kernel
theorem dL_law_1155 : decode cL_law 1155 = .ok (.invokevirtual 161, 3) := by decide +kernel
theorem dL_law_1158 : decode cL_law 1158 = .ok (.if_icmp .eq 170, 3) := by decide +kernel
theorem dL_law_1161 : decode cL_law 1161 = .ok (.iconst 0, 1) := by decide +kernel
theorem dL_law_1162 : decode cL_law 1162 = .ok (.ireturn, 1) := by decide +kernel
theorem dL_law_1163 : decode cL_law 1163 = .ok (.aload_n 1, 1) := by decide +kernel
theorem dL_law_1164 : decode cL_law 1164 = .ok (.aload_n 0, 1) := by decide +kernel
theorem dL_law_1165 : decode cL_law 1165 = .ok (.iload_n 3, 1) := by decide +kernel
theorem dL_law_1166 : decode cL_law 1166 = .ok (.iconst 1, 1) := by decide +kernel
theorem dL_law_1167 : decode cL_law 1167 = .ok (.iadd, 1) := by decide +kernel
theorem dL_law_1168 : decode cL_law 1168 = .ok (.iaload, 1) := by decide +kernel
theorem dL_law_1169 : decode cL_law 1169 = .ok (.aload_n 0, 1) := by decide +kernel
theorem dL_law_1170 : decode cL_law 1170 = .ok (.iload_n 3, 1) := by decide +kernel
theorem dL_law_1171 : decode cL_law 1171 = .ok (.iconst 2, 1) := by decide +kernel
theorem dL_law_1172 : decode cL_law 1172 = .ok (.iadd, 1) := by decide +kernel
theorem dL_law_1173 : decode cL_law 1173 = .ok (.iaload, 1) := by decide +kernel
theorem dL_law_1174 : decode cL_law 1174 = .ok (.invokevirtual 162, 3) := by decide +kernel
theorem dL_law_1177 : decode cL_law 1177 = .ok (.aload_n 2, 1) := by decide +kernel
theorem dL_law_1178 : decode cL_law 1178 = .ok (.aload_n 0, 1) := by decide +kernel
theorem dL_law_1179 : decode cL_law 1179 = .ok (.iload_n 3, 1) := by decide +kernel
theorem dL_law_1180 : decode cL_law 1180 = .ok (.iconst 1, 1) := by decide +kernel
theorem dL_law_1181 : decode cL_law 1181 = .ok (.iadd, 1) := by decide +kernel
theorem dL_law_1182 : decode cL_law 1182 = .ok (.iaload, 1) := by decide +kernel
theorem dL_law_1183 : decode cL_law 1183 = .ok (.aload_n 0, 1) := by decide +kernel
theorem dL_law_1184 : decode cL_law 1184 = .ok (.iload_n 3, 1) := by decide +kernel
theorem dL_law_1185 : decode cL_law 1185 = .ok (.iconst 2, 1) := by decide +kernel
theorem dL_law_1186 : decode cL_law 1186 = .ok (.iadd, 1) := by decide +kernel
theorem dL_law_1187 : decode cL_law 1187 = .ok (.iaload, 1) := by decide +kernel
theorem dL_law_1188 : decode cL_law 1188 = .ok (.invokevirtual 165, 3) := by decide +kernel
theorem dL_law_1191 : decode cL_law 1191 = .ok (.if_icmp .eq 137, 3) := by decide +kernel
theorem dL_law_1194 : decode cL_law 1194 = .ok (.iconst 0, 1) := by decide +kernel
theorem dL_law_1195 : decode cL_law 1195 = .ok (.ireturn, 1) := by decide +kernel
theorem dL_law_1196 : decode cL_law 1196 = .ok (.aload_n 1, 1) := by decide +kernel
theorem dL_law_1197 : decode cL_law 1197 = .ok (.aload_n 0, 1) := by decide +kernel
theorem dL_law_1198 : decode cL_law 1198 = .ok (.iload_n 3, 1) := by decide +kernel
theorem dL_law_1199 : decode cL_law 1199 = .ok (.iconst 1, 1) := by decide +kernel
theorem dL_law_1200 : decode cL_law 1200 = .ok (.iadd, 1) := by decide +kernel
theorem dL_law_1201 : decode cL_law 1201 = .ok (.iaload, 1) := by decide +kernel
theorem dL_law_1202 : decode cL_law 1202 = .ok (.aload_n 0, 1) := by decide +kernel
theorem dL_law_1203 : decode cL_law 1203 = .ok (.iload_n 3, 1) := by decide +kernel
theorem dL_law_1204 : decode cL_law 1204 = .ok (.iconst 2, 1) := by decide +kernel
theorem dL_law_1205 : decode cL_law 1205 = .ok (.iadd, 1) := by decide +kernel
theorem dL_law_1206 : decode cL_law 1206 = .ok (.iaload, 1) := by decide +kernel
theorem dL_law_1207 : decode cL_law 1207 = .ok (.invokevirtual 166, 3) := by decide +kernel
theorem dL_law_1210 : decode cL_law 1210 = .ok (.aload_n 2, 1) := by decide +kernel
theorem dL_law_1211 : decode cL_law 1211 = .ok (.aload_n 0, 1) := by decide +kernel
theorem dL_law_1212 : decode cL_law 1212 = .ok (.iload_n 3, 1) := by decide +kernel
theorem dL_law_1213 : decode cL_law 1213 = .ok (.iconst 1, 1) := by decide +kernel
theorem dL_law_1214 : decode cL_law 1214 = .ok (.iadd, 1) := by decide +kernel
theorem dL_law_1215 : decode cL_law 1215 = .ok (.iaload, 1) := by decide +kernel
theorem dL_law_1216 : decode cL_law 1216 = .ok (.aload_n 0, 1) := by decide +kernel
theorem dL_law_1217 : decode cL_law 1217 = .ok (.iload_n 3, 1) := by decide +kernel
theorem dL_law_1218 : decode cL_law 1218 = .ok (.iconst 2, 1) := by decide +kernel
theorem dL_law_1219 : decode cL_law 1219 = .ok (.iadd, 1) := by decide +kernel
theorem dL_law_1220 : decode cL_law 1220 = .ok (.iaload, 1) := by decide +kernel
theorem dL_law_1221 : decode cL_law 1221 = .ok (.invokevirtual 169, 3) := by decide +kernel
theorem dL_law_1224 : decode cL_law 1224 = .ok (.if_icmp .eq 104, 3) := by decide +kernel
theorem dL_law_1227 : decode cL_law 1227 = .ok (.iconst 0, 1) := by decide +kernel
theorem dL_law_1228 : decode cL_law 1228 = .ok (.ireturn, 1) := by decide +kernel
theorem dL_law_1229 : decode cL_law 1229 = .ok (.aload_n 1, 1) := by decide +kernel
theorem dL_law_1230 : decode cL_law 1230 = .ok (.aload_n 0, 1) := by decide +kernel
theorem dL_law_1231 : decode cL_law 1231 = .ok (.iload_n 3, 1) := by decide +kernel
theorem dL_law_1232 : decode cL_law 1232 = .ok (.iconst 1, 1) := by decide +kernel
theorem dL_law_1233 : decode cL_law 1233 = .ok (.iadd, 1) := by decide +kernel
theorem dL_law_1234 : decode cL_law 1234 = .ok (.iaload, 1) := by decide +kernel
theorem dL_law_1235 : decode cL_law 1235 = .ok (.aload_n 0, 1) := by decide +kernel
theorem dL_law_1236 : decode cL_law 1236 = .ok (.iload_n 3, 1) := by decide +kernel
theorem dL_law_1237 : decode cL_law 1237 = .ok (.iconst 2, 1) := by decide +kernel
theorem dL_law_1238 : decode cL_law 1238 = .ok (.iadd, 1) := by decide +kernel
theorem dL_law_1239 : decode cL_law 1239 = .ok (.iaload, 1) := by decide +kernel
theorem dL_law_1240 : decode cL_law 1240 = .ok (.aload_n 0, 1) := by decide +kernel
theorem dL_law_1241 : decode cL_law 1241 = .ok (.iload_n 3, 1) := by decide +kernel
theorem dL_law_1242 : decode cL_law 1242 = .ok (.iconst 3, 1) := by decide +kernel
theorem dL_law_1243 : decode cL_law 1243 = .ok (.iadd, 1) := by decide +kernel
theorem dL_law_1244 : decode cL_law 1244 = .ok (.iaload, 1) := by decide +kernel
theorem dL_law_1245 : decode cL_law 1245 = .ok (.aload_n 0, 1) := by decide +kernel
theorem dL_law_1246 : decode cL_law 1246 = .ok (.iload_n 3, 1) := by decide +kernel
theorem dL_law_1247 : decode cL_law 1247 = .ok (.iconst 4, 1) := by decide +kernel
theorem dL_law_1248 : decode cL_law 1248 = .ok (.iadd, 1) := by decide +kernel
theorem dL_law_1249 : decode cL_law 1249 = .ok (.iaload, 1) := by decide +kernel
theorem dL_law_1250 : decode cL_law 1250 = .ok (.invokevirtual 170, 3) := by decide +kernel
theorem dL_law_1253 : decode cL_law 1253 = .ok (.aload_n 2, 1) := by decide +kernel
theorem dL_law_1254 : decode cL_law 1254 = .ok (.aload_n 0, 1) := by decide +kernel
theorem dL_law_1255 : decode cL_law 1255 = .ok (.iload_n 3, 1) := by decide +kernel
theorem dL_law_1256 : decode cL_law 1256 = .ok (.iconst 1, 1) := by decide +kernel
theorem dL_law_1257 : decode cL_law 1257 = .ok (.iadd, 1) := by decide +kernel
theorem dL_law_1258 : decode cL_law 1258 = .ok (.iaload, 1) := by decide +kernel
theorem dL_law_1259 : decode cL_law 1259 = .ok (.aload_n 0, 1) := by decide +kernel
theorem dL_law_1260 : decode cL_law 1260 = .ok (.iload_n 3, 1) := by decide +kernel
theorem dL_law_1261 : decode cL_law 1261 = .ok (.iconst 2, 1) := by decide +kernel
theorem dL_law_1262 : decode cL_law 1262 = .ok (.iadd, 1) := by decide +kernel
theorem dL_law_1263 : decode cL_law 1263 = .ok (.iaload, 1) := by decide +kernel
theorem dL_law_1264 : decode cL_law 1264 = .ok (.aload_n 0, 1) := by decide +kernel
theorem dL_law_1265 : decode cL_law 1265 = .ok (.iload_n 3, 1) := by decide +kernel
theorem dL_law_1266 : decode cL_law 1266 = .ok (.iconst 3, 1) := by decide +kernel
theorem dL_law_1267 : decode cL_law 1267 = .ok (.iadd, 1) := by decide +kernel
theorem dL_law_1268 : decode cL_law 1268 = .ok (.iaload, 1) := by decide +kernel
theorem dL_law_1269 : decode cL_law 1269 = .ok (.aload_n 0, 1) := by decide +kernel
theorem dL_law_1270 : decode cL_law 1270 = .ok (.iload_n 3, 1) := by decide +kernel
theorem dL_law_1271 : decode cL_law 1271 = .ok (.iconst 4, 1) := by decide +kernel
theorem dL_law_1272 : decode cL_law 1272 = .ok (.iadd, 1) := by decide +kernel
theorem dL_law_1273 : decode cL_law 1273 = .ok (.iaload, 1) := by decide +kernel
theorem dL_law_1274 : decode cL_law 1274 = .ok (.invokevirtual 174, 3) := by decide +kernel
theorem dL_law_1277 : decode cL_law 1277 = .ok (.if_icmp .eq 51, 3) := by decide +kernel
theorem dL_law_1280 : decode cL_law 1280 = .ok (.iconst 0, 1) := by decide +kernel
theorem dL_law_1281 : decode cL_law 1281 = .ok (.ireturn, 1) := by decide +kernel
theorem dL_law_1282 : decode cL_law 1282 = .ok (.aload_n 1, 1) := by decide +kernel
theorem dL_law_1283 : decode cL_law 1283 = .ok (.aload_n 0, 1) := by decide +kernel
theorem dL_law_1284 : decode cL_law 1284 = .ok (.iload_n 3, 1) := by decide +kernel
theorem dL_law_1285 : decode cL_law 1285 = .ok (.iconst 1, 1) := by decide +kernel
theorem dL_law_1286 : decode cL_law 1286 = .ok (.iadd, 1) := by decide +kernel
theorem dL_law_1287 : decode cL_law 1287 = .ok (.iaload, 1) := by decide +kernel
theorem dL_law_1288 : decode cL_law 1288 = .ok (.invokevirtual 175, 3) := by decide +kernel
theorem dL_law_1291 : decode cL_law 1291 = .ok (.aload_n 2, 1) := by decide +kernel
theorem dL_law_1292 : decode cL_law 1292 = .ok (.aload_n 0, 1) := by decide +kernel
theorem dL_law_1293 : decode cL_law 1293 = .ok (.iload_n 3, 1) := by decide +kernel
theorem dL_law_1294 : decode cL_law 1294 = .ok (.iconst 1, 1) := by decide +kernel
theorem dL_law_1295 : decode cL_law 1295 = .ok (.iadd, 1) := by decide +kernel
theorem dL_law_1296 : decode cL_law 1296 = .ok (.iaload, 1) := by decide +kernel
theorem dL_law_1297 : decode cL_law 1297 = .ok (.invokevirtual 178, 3) := by decide +kernel
theorem dL_law_1300 : decode cL_law 1300 = .ok (.if_icmp .eq 28, 3) := by decide +kernel
theorem dL_law_1303 : decode cL_law 1303 = .ok (.iconst 0, 1) := by decide +kernel
theorem dL_law_1304 : decode cL_law 1304 = .ok (.ireturn, 1) := by decide +kernel
theorem dL_law_1305 : decode cL_law 1305 = .ok (.aload_n 1, 1) := by decide +kernel
theorem dL_law_1306 : decode cL_law 1306 = .ok (.aload_n 0, 1) := by decide +kernel
theorem dL_law_1307 : decode cL_law 1307 = .ok (.iload_n 3, 1) := by decide +kernel
theorem dL_law_1308 : decode cL_law 1308 = .ok (.iconst 1, 1) := by decide +kernel
theorem dL_law_1309 : decode cL_law 1309 = .ok (.iadd, 1) := by decide +kernel
theorem dL_law_1310 : decode cL_law 1310 = .ok (.iaload, 1) := by decide +kernel
theorem dL_law_1311 : decode cL_law 1311 = .ok (.invokevirtual 179, 3) := by decide +kernel
theorem dL_law_1314 : decode cL_law 1314 = .ok (.aload_n 2, 1) := by decide +kernel
theorem dL_law_1315 : decode cL_law 1315 = .ok (.aload_n 0, 1) := by decide +kernel
theorem dL_law_1316 : decode cL_law 1316 = .ok (.iload_n 3, 1) := by decide +kernel
theorem dL_law_1317 : decode cL_law 1317 = .ok (.iconst 1, 1) := by decide +kernel
theorem dL_law_1318 : decode cL_law 1318 = .ok (.iadd, 1) := by decide +kernel
theorem dL_law_1319 : decode cL_law 1319 = .ok (.iaload, 1) := by decide +kernel
theorem dL_law_1320 : decode cL_law 1320 = .ok (.invokevirtual 182, 3) := by decide +kernel
theorem dL_law_1323 : decode cL_law 1323 = .ok (.if_icmp .eq 5, 3) := by decide +kernel
theorem dL_law_1326 : decode cL_law 1326 = .ok (.iconst 0, 1) := by decide +kernel
theorem dL_law_1327 : decode cL_law 1327 = .ok (.ireturn, 1) := by decide +kernel
theorem dL_law_1328 : decode cL_law 1328 = .ok (.iinc 3 6, 3) := by decide +kernel
theorem dL_law_1331 : decode cL_law 1331 = .ok (.goto (-1313), 3) := by decide +kernel
theorem dL_law_1334 : decode cL_law 1334 = .ok (.iconst 1, 1) := by decide +kernel
theorem dL_law_1335 : decode cL_law 1335 = .ok (.ireturn, 1) := by decide +kernel
end
section
theorem zz_end : True := trivial
end
