-- ===== PART A: goes FIRST, ahead of the names: the tables' words, and 'selects' of the private methods out of them =====
/-- a private method of a class that the tables say can be made, by its rows of tables_1 -/
def lw_okq (q : MethodName × Nat) : Prop := (q.1.cls ≠ "java/lang/invoke/MethodHandle" ∧ q.1.cls ≠ "java/lang/invoke/VarHandle") ∧ Cond.instantiable q.1.cls q.2 ∈ tables_1 ∧ Cond.privateMethod q.1 ∈ tables_1 ∧ Cond.instanceMethod q.1 ∈ tables_1
theorem lw_p0 : lw_okq (⟨"ChanceSteps", "append", "(I)V"⟩, 13) := ⟨⟨by decide +kernel, by decide +kernel⟩, List.mem_of_getElem? (i := 22) (by decide +kernel), List.mem_of_getElem? (i := 178) (by decide +kernel), List.mem_of_getElem? (i := 179) (by decide +kernel)⟩
theorem lw_p1 : lw_okq (⟨"ChanceSteps$Reader", "advance", "()V"⟩, 9) := ⟨⟨by decide +kernel, by decide +kernel⟩, List.mem_of_getElem? (i := 34) (by decide +kernel), List.mem_of_getElem? (i := 370) (by decide +kernel), List.mem_of_getElem? (i := 371) (by decide +kernel)⟩
theorem lw_p2 : lw_okq (⟨"ChanceSteps$Reader", "byteAt", "(I)I"⟩, 9) := ⟨⟨by decide +kernel, by decide +kernel⟩, List.mem_of_getElem? (i := 34) (by decide +kernel), List.mem_of_getElem? (i := 374) (by decide +kernel), List.mem_of_getElem? (i := 375) (by decide +kernel)⟩
theorem lw_p3 : lw_okq (⟨"ChanceSteps$Reader", "takeWord", "()V"⟩, 9) := ⟨⟨by decide +kernel, by decide +kernel⟩, List.mem_of_getElem? (i := 34) (by decide +kernel), List.mem_of_getElem? (i := 381) (by decide +kernel), List.mem_of_getElem? (i := 382) (by decide +kernel)⟩
theorem lw_p4 : lw_okq (⟨"ChanceSteps$Reader", "isSpelt", "(Ljava/lang/String;)Z"⟩, 9) := ⟨⟨by decide +kernel, by decide +kernel⟩, List.mem_of_getElem? (i := 34) (by decide +kernel), List.mem_of_getElem? (i := 394) (by decide +kernel), List.mem_of_getElem? (i := 395) (by decide +kernel)⟩
theorem lw_p5 : lw_okq (⟨"ChanceSteps$Reader", "takeNumber", "()V"⟩, 9) := ⟨⟨by decide +kernel, by decide +kernel⟩, List.mem_of_getElem? (i := 34) (by decide +kernel), List.mem_of_getElem? (i := 449) (by decide +kernel), List.mem_of_getElem? (i := 450) (by decide +kernel)⟩
theorem lw_p6 : lw_okq (⟨"ChanceSteps$Reader", "takeSign", "()V"⟩, 9) := ⟨⟨by decide +kernel, by decide +kernel⟩, List.mem_of_getElem? (i := 34) (by decide +kernel), List.mem_of_getElem? (i := 453) (by decide +kernel), List.mem_of_getElem? (i := 454) (by decide +kernel)⟩
theorem lw_p7 : lw_okq (⟨"ChanceSteps$Reader", "readBlock", "()Z"⟩, 9) := ⟨⟨by decide +kernel, by decide +kernel⟩, List.mem_of_getElem? (i := 34) (by decide +kernel), List.mem_of_getElem? (i := 457) (by decide +kernel), List.mem_of_getElem? (i := 458) (by decide +kernel)⟩
theorem lw_p8 : lw_okq (⟨"ChanceSteps$Reader", "readStep", "()Z"⟩, 9) := ⟨⟨by decide +kernel, by decide +kernel⟩, List.mem_of_getElem? (i := 34) (by decide +kernel), List.mem_of_getElem? (i := 461) (by decide +kernel), List.mem_of_getElem? (i := 462) (by decide +kernel)⟩
theorem lw_p9 : lw_okq (⟨"ChanceSteps$Reader", "readRest", "(LChanceSteps$Step;)Z"⟩, 9) := ⟨⟨by decide +kernel, by decide +kernel⟩, List.mem_of_getElem? (i := 34) (by decide +kernel), List.mem_of_getElem? (i := 477) (by decide +kernel), List.mem_of_getElem? (i := 478) (by decide +kernel)⟩
theorem lw_p10 : lw_okq (⟨"ChanceSteps$Reader", "readName", "(LChanceSteps$Step;)Z"⟩, 9) := ⟨⟨by decide +kernel, by decide +kernel⟩, List.mem_of_getElem? (i := 34) (by decide +kernel), List.mem_of_getElem? (i := 481) (by decide +kernel), List.mem_of_getElem? (i := 482) (by decide +kernel)⟩
theorem lw_p11 : lw_okq (⟨"ChanceSteps$Reader", "readLots", "(LChanceSteps$Step;)Z"⟩, 9) := ⟨⟨by decide +kernel, by decide +kernel⟩, List.mem_of_getElem? (i := 34) (by decide +kernel), List.mem_of_getElem? (i := 485) (by decide +kernel), List.mem_of_getElem? (i := 486) (by decide +kernel)⟩
theorem lw_p12 : lw_okq (⟨"ChanceSteps$Reader", "readLot", "()I"⟩, 9) := ⟨⟨by decide +kernel, by decide +kernel⟩, List.mem_of_getElem? (i := 34) (by decide +kernel), List.mem_of_getElem? (i := 489) (by decide +kernel), List.mem_of_getElem? (i := 490) (by decide +kernel)⟩
theorem lw_p13 : lw_okq (⟨"ChanceSteps$Reader", "isSign", "(I)Z"⟩, 9) := ⟨⟨by decide +kernel, by decide +kernel⟩, List.mem_of_getElem? (i := 34) (by decide +kernel), List.mem_of_getElem? (i := 493) (by decide +kernel), List.mem_of_getElem? (i := 494) (by decide +kernel)⟩
theorem lw_p14 : lw_okq (⟨"ChanceSteps$Reader", "readFormula", "(LChanceSteps$Step;)Z"⟩, 9) := ⟨⟨by decide +kernel, by decide +kernel⟩, List.mem_of_getElem? (i := 34) (by decide +kernel), List.mem_of_getElem? (i := 501) (by decide +kernel), List.mem_of_getElem? (i := 502) (by decide +kernel)⟩
theorem lw_p15 : lw_okq (⟨"ChanceSteps$Reader", "readComparison", "(LChanceSteps$Step;)Z"⟩, 9) := ⟨⟨by decide +kernel, by decide +kernel⟩, List.mem_of_getElem? (i := 34) (by decide +kernel), List.mem_of_getElem? (i := 505) (by decide +kernel), List.mem_of_getElem? (i := 506) (by decide +kernel)⟩
def lw_privs_1 : List (MethodName × Nat) := [(⟨"ChanceSteps", "append", "(I)V"⟩, 13), (⟨"ChanceSteps$Reader", "advance", "()V"⟩, 9), (⟨"ChanceSteps$Reader", "byteAt", "(I)I"⟩, 9), (⟨"ChanceSteps$Reader", "takeWord", "()V"⟩, 9), (⟨"ChanceSteps$Reader", "isSpelt", "(Ljava/lang/String;)Z"⟩, 9), (⟨"ChanceSteps$Reader", "takeNumber", "()V"⟩, 9), (⟨"ChanceSteps$Reader", "takeSign", "()V"⟩, 9), (⟨"ChanceSteps$Reader", "readBlock", "()Z"⟩, 9), (⟨"ChanceSteps$Reader", "readStep", "()Z"⟩, 9), (⟨"ChanceSteps$Reader", "readRest", "(LChanceSteps$Step;)Z"⟩, 9), (⟨"ChanceSteps$Reader", "readName", "(LChanceSteps$Step;)Z"⟩, 9), (⟨"ChanceSteps$Reader", "readLots", "(LChanceSteps$Step;)Z"⟩, 9), (⟨"ChanceSteps$Reader", "readLot", "()I"⟩, 9), (⟨"ChanceSteps$Reader", "isSign", "(I)Z"⟩, 9), (⟨"ChanceSteps$Reader", "readFormula", "(LChanceSteps$Step;)Z"⟩, 9), (⟨"ChanceSteps$Reader", "readComparison", "(LChanceSteps$Step;)Z"⟩, 9)]
theorem lw_r1 : ∀ q ∈ lw_privs_1, lw_okq q := List.forall_mem_cons.mpr ⟨lw_p0, List.forall_mem_cons.mpr ⟨lw_p1, List.forall_mem_cons.mpr ⟨lw_p2, List.forall_mem_cons.mpr ⟨lw_p3, List.forall_mem_cons.mpr ⟨lw_p4, List.forall_mem_cons.mpr ⟨lw_p5, List.forall_mem_cons.mpr ⟨lw_p6, List.forall_mem_cons.mpr ⟨lw_p7, List.forall_mem_cons.mpr ⟨lw_p8, List.forall_mem_cons.mpr ⟨lw_p9, List.forall_mem_cons.mpr ⟨lw_p10, List.forall_mem_cons.mpr ⟨lw_p11, List.forall_mem_cons.mpr ⟨lw_p12, List.forall_mem_cons.mpr ⟨lw_p13, List.forall_mem_cons.mpr ⟨lw_p14, List.forall_mem_cons.mpr ⟨lw_p15, fun _ h => absurd h List.not_mem_nil⟩⟩⟩⟩⟩⟩⟩⟩⟩⟩⟩⟩⟩⟩⟩⟩
theorem lw_p16 : lw_okq (⟨"ChanceSteps$Reader", "readSum", "(LChanceSteps$Step;)Z"⟩, 9) := ⟨⟨by decide +kernel, by decide +kernel⟩, List.mem_of_getElem? (i := 34) (by decide +kernel), List.mem_of_getElem? (i := 509) (by decide +kernel), List.mem_of_getElem? (i := 510) (by decide +kernel)⟩
theorem lw_p17 : lw_okq (⟨"ChanceSteps$Reader", "readTerm", "(LChanceSteps$Step;)Z"⟩, 9) := ⟨⟨by decide +kernel, by decide +kernel⟩, List.mem_of_getElem? (i := 34) (by decide +kernel), List.mem_of_getElem? (i := 513) (by decide +kernel), List.mem_of_getElem? (i := 514) (by decide +kernel)⟩
theorem lw_p18 : lw_okq (⟨"ChanceSteps$Reader", "readOne", "(LChanceSteps$Step;)Z"⟩, 9) := ⟨⟨by decide +kernel, by decide +kernel⟩, List.mem_of_getElem? (i := 34) (by decide +kernel), List.mem_of_getElem? (i := 517) (by decide +kernel), List.mem_of_getElem? (i := 518) (by decide +kernel)⟩
theorem lw_p19 : lw_okq (⟨"ChanceSteps$Reader", "readBraces", "()Z"⟩, 9) := ⟨⟨by decide +kernel, by decide +kernel⟩, List.mem_of_getElem? (i := 34) (by decide +kernel), List.mem_of_getElem? (i := 525) (by decide +kernel), List.mem_of_getElem? (i := 526) (by decide +kernel)⟩
theorem lw_p20 : lw_okq (⟨"ChanceSteps$Reader", "readSecond", "(LChanceSteps$Step;)Z"⟩, 9) := ⟨⟨by decide +kernel, by decide +kernel⟩, List.mem_of_getElem? (i := 34) (by decide +kernel), List.mem_of_getElem? (i := 529) (by decide +kernel), List.mem_of_getElem? (i := 530) (by decide +kernel)⟩
theorem lw_p21 : lw_okq (⟨"ChanceSteps$Reader", "readNumber", "(LChanceSteps$Step;I)Z"⟩, 9) := ⟨⟨by decide +kernel, by decide +kernel⟩, List.mem_of_getElem? (i := 34) (by decide +kernel), List.mem_of_getElem? (i := 533) (by decide +kernel), List.mem_of_getElem? (i := 534) (by decide +kernel)⟩
theorem lw_p22 : lw_okq (⟨"ChanceSteps$Program", "weighStep", "(LChanceSteps$Step;I[LChanceSteps$Program;)V"⟩, 16) := ⟨⟨by decide +kernel, by decide +kernel⟩, List.mem_of_getElem? (i := 185) (by decide +kernel), List.mem_of_getElem? (i := 541) (by decide +kernel), List.mem_of_getElem? (i := 542) (by decide +kernel)⟩
theorem lw_p23 : lw_okq (⟨"ChanceSteps$Program", "bitsOf", "(II)I"⟩, 16) := ⟨⟨by decide +kernel, by decide +kernel⟩, List.mem_of_getElem? (i := 185) (by decide +kernel), List.mem_of_getElem? (i := 552) (by decide +kernel), List.mem_of_getElem? (i := 553) (by decide +kernel)⟩
theorem lw_p24 : lw_okq (⟨"ChanceSteps$Program", "turnsOf", "(II)I"⟩, 16) := ⟨⟨by decide +kernel, by decide +kernel⟩, List.mem_of_getElem? (i := 185) (by decide +kernel), List.mem_of_getElem? (i := 556) (by decide +kernel), List.mem_of_getElem? (i := 557) (by decide +kernel)⟩
theorem lw_p25 : lw_okq (⟨"ChanceSteps", "isProgram", "(I)Z"⟩, 13) := ⟨⟨by decide +kernel, by decide +kernel⟩, List.mem_of_getElem? (i := 22) (by decide +kernel), List.mem_of_getElem? (i := 584) (by decide +kernel), List.mem_of_getElem? (i := 585) (by decide +kernel)⟩
theorem lw_p26 : lw_okq (⟨"ChanceSteps", "endOf", "(I)LChanceSteps$Crowd;"⟩, 13) := ⟨⟨by decide +kernel, by decide +kernel⟩, List.mem_of_getElem? (i := 22) (by decide +kernel), List.mem_of_getElem? (i := 588) (by decide +kernel), List.mem_of_getElem? (i := 589) (by decide +kernel)⟩
theorem lw_p27 : lw_okq (⟨"ChanceSteps$Walker", "walkBlock", "(LChanceSteps$Program;IILChanceSteps$Crowd;II)Z"⟩, 4) := ⟨⟨by decide +kernel, by decide +kernel⟩, List.mem_of_getElem? (i := 69) (by decide +kernel), List.mem_of_getElem? (i := 632) (by decide +kernel), List.mem_of_getElem? (i := 633) (by decide +kernel)⟩
theorem lw_p28 : lw_okq (⟨"ChanceSteps$Program", "neededAhead", "(IIII)I"⟩, 16) := ⟨⟨by decide +kernel, by decide +kernel⟩, List.mem_of_getElem? (i := 185) (by decide +kernel), List.mem_of_getElem? (i := 641) (by decide +kernel), List.mem_of_getElem? (i := 642) (by decide +kernel)⟩
theorem lw_p29 : lw_okq (⟨"ChanceSteps$Program", "neededAheadOf", "(III)I"⟩, 16) := ⟨⟨by decide +kernel, by decide +kernel⟩, List.mem_of_getElem? (i := 185) (by decide +kernel), List.mem_of_getElem? (i := 645) (by decide +kernel), List.mem_of_getElem? (i := 646) (by decide +kernel)⟩
theorem lw_p30 : lw_okq (⟨"ChanceSteps$Program", "neededAheadOfTimes", "(IIII)I"⟩, 16) := ⟨⟨by decide +kernel, by decide +kernel⟩, List.mem_of_getElem? (i := 185) (by decide +kernel), List.mem_of_getElem? (i := 649) (by decide +kernel), List.mem_of_getElem? (i := 650) (by decide +kernel)⟩
theorem lw_p31 : lw_okq (⟨"ChanceSteps$Walker", "walkStep", "(LChanceSteps$Program;ILChanceSteps$Crowd;II)Z"⟩, 4) := ⟨⟨by decide +kernel, by decide +kernel⟩, List.mem_of_getElem? (i := 69) (by decide +kernel), List.mem_of_getElem? (i := 653) (by decide +kernel), List.mem_of_getElem? (i := 654) (by decide +kernel)⟩
def lw_privs_2 : List (MethodName × Nat) := [(⟨"ChanceSteps$Reader", "readSum", "(LChanceSteps$Step;)Z"⟩, 9), (⟨"ChanceSteps$Reader", "readTerm", "(LChanceSteps$Step;)Z"⟩, 9), (⟨"ChanceSteps$Reader", "readOne", "(LChanceSteps$Step;)Z"⟩, 9), (⟨"ChanceSteps$Reader", "readBraces", "()Z"⟩, 9), (⟨"ChanceSteps$Reader", "readSecond", "(LChanceSteps$Step;)Z"⟩, 9), (⟨"ChanceSteps$Reader", "readNumber", "(LChanceSteps$Step;I)Z"⟩, 9), (⟨"ChanceSteps$Program", "weighStep", "(LChanceSteps$Step;I[LChanceSteps$Program;)V"⟩, 16), (⟨"ChanceSteps$Program", "bitsOf", "(II)I"⟩, 16), (⟨"ChanceSteps$Program", "turnsOf", "(II)I"⟩, 16), (⟨"ChanceSteps", "isProgram", "(I)Z"⟩, 13), (⟨"ChanceSteps", "endOf", "(I)LChanceSteps$Crowd;"⟩, 13), (⟨"ChanceSteps$Walker", "walkBlock", "(LChanceSteps$Program;IILChanceSteps$Crowd;II)Z"⟩, 4), (⟨"ChanceSteps$Program", "neededAhead", "(IIII)I"⟩, 16), (⟨"ChanceSteps$Program", "neededAheadOf", "(III)I"⟩, 16), (⟨"ChanceSteps$Program", "neededAheadOfTimes", "(IIII)I"⟩, 16), (⟨"ChanceSteps$Walker", "walkStep", "(LChanceSteps$Program;ILChanceSteps$Crowd;II)Z"⟩, 4)]
theorem lw_r2 : ∀ q ∈ lw_privs_2, lw_okq q := List.forall_mem_cons.mpr ⟨lw_p16, List.forall_mem_cons.mpr ⟨lw_p17, List.forall_mem_cons.mpr ⟨lw_p18, List.forall_mem_cons.mpr ⟨lw_p19, List.forall_mem_cons.mpr ⟨lw_p20, List.forall_mem_cons.mpr ⟨lw_p21, List.forall_mem_cons.mpr ⟨lw_p22, List.forall_mem_cons.mpr ⟨lw_p23, List.forall_mem_cons.mpr ⟨lw_p24, List.forall_mem_cons.mpr ⟨lw_p25, List.forall_mem_cons.mpr ⟨lw_p26, List.forall_mem_cons.mpr ⟨lw_p27, List.forall_mem_cons.mpr ⟨lw_p28, List.forall_mem_cons.mpr ⟨lw_p29, List.forall_mem_cons.mpr ⟨lw_p30, List.forall_mem_cons.mpr ⟨lw_p31, fun _ h => absurd h List.not_mem_nil⟩⟩⟩⟩⟩⟩⟩⟩⟩⟩⟩⟩⟩⟩⟩⟩
theorem lw_p32 : lw_okq (⟨"ChanceSteps$Walker", "walkDraw", "(LChanceSteps$Program;LChanceSteps$Step;LChanceSteps$Crowd;I)Z"⟩, 4) := ⟨⟨by decide +kernel, by decide +kernel⟩, List.mem_of_getElem? (i := 69) (by decide +kernel), List.mem_of_getElem? (i := 661) (by decide +kernel), List.mem_of_getElem? (i := 662) (by decide +kernel)⟩
theorem lw_p33 : lw_okq (⟨"ChanceSteps$Mixer", "putNew", "(IJI)Z"⟩, 5) := ⟨⟨by decide +kernel, by decide +kernel⟩, List.mem_of_getElem? (i := 75) (by decide +kernel), List.mem_of_getElem? (i := 683) (by decide +kernel), List.mem_of_getElem? (i := 684) (by decide +kernel)⟩
theorem lw_p34 : lw_okq (⟨"ChanceSteps$Walker", "walkLet", "(LChanceSteps$Program;LChanceSteps$Step;LChanceSteps$Crowd;I)Z"⟩, 4) := ⟨⟨by decide +kernel, by decide +kernel⟩, List.mem_of_getElem? (i := 69) (by decide +kernel), List.mem_of_getElem? (i := 692) (by decide +kernel), List.mem_of_getElem? (i := 693) (by decide +kernel)⟩
theorem lw_p35 : lw_okq (⟨"ChanceSteps$Walker", "walkSee", "(LChanceSteps$Program;LChanceSteps$Step;LChanceSteps$Crowd;I)Z"⟩, 4) := ⟨⟨by decide +kernel, by decide +kernel⟩, List.mem_of_getElem? (i := 69) (by decide +kernel), List.mem_of_getElem? (i := 711) (by decide +kernel), List.mem_of_getElem? (i := 712) (by decide +kernel)⟩
theorem lw_p36 : lw_okq (⟨"ChanceSteps$Walker", "walkIf", "(LChanceSteps$Program;ILChanceSteps$Crowd;II)Z"⟩, 4) := ⟨⟨by decide +kernel, by decide +kernel⟩, List.mem_of_getElem? (i := 69) (by decide +kernel), List.mem_of_getElem? (i := 716) (by decide +kernel), List.mem_of_getElem? (i := 717) (by decide +kernel)⟩
theorem lw_p37 : lw_okq (⟨"ChanceSteps$Walker", "lend", "()LChanceSteps$Crowd;"⟩, 4) := ⟨⟨by decide +kernel, by decide +kernel⟩, List.mem_of_getElem? (i := 69) (by decide +kernel), List.mem_of_getElem? (i := 720) (by decide +kernel), List.mem_of_getElem? (i := 721) (by decide +kernel)⟩
theorem lw_p38 : lw_okq (⟨"ChanceSteps$Walker", "split", "(LChanceSteps$Program;LChanceSteps$Step;LChanceSteps$Crowd;LChanceSteps$Crowd;)V"⟩, 4) := ⟨⟨by decide +kernel, by decide +kernel⟩, List.mem_of_getElem? (i := 69) (by decide +kernel), List.mem_of_getElem? (i := 724) (by decide +kernel), List.mem_of_getElem? (i := 725) (by decide +kernel)⟩
theorem lw_p39 : lw_okq (⟨"ChanceSteps$Walker", "giveBack", "()V"⟩, 4) := ⟨⟨by decide +kernel, by decide +kernel⟩, List.mem_of_getElem? (i := 69) (by decide +kernel), List.mem_of_getElem? (i := 729) (by decide +kernel), List.mem_of_getElem? (i := 730) (by decide +kernel)⟩
theorem lw_p40 : lw_okq (⟨"ChanceSteps$Walker", "walkLoop", "(LChanceSteps$Program;ILChanceSteps$Crowd;II)Z"⟩, 4) := ⟨⟨by decide +kernel, by decide +kernel⟩, List.mem_of_getElem? (i := 69) (by decide +kernel), List.mem_of_getElem? (i := 739) (by decide +kernel), List.mem_of_getElem? (i := 740) (by decide +kernel)⟩
theorem lw_p41 : lw_okq (⟨"ChanceSteps$Walker", "forget", "(LChanceSteps$Crowd;I)Z"⟩, 4) := ⟨⟨by decide +kernel, by decide +kernel⟩, List.mem_of_getElem? (i := 69) (by decide +kernel), List.mem_of_getElem? (i := 747) (by decide +kernel), List.mem_of_getElem? (i := 748) (by decide +kernel)⟩
theorem lw_p42 : lw_okq (⟨"ChanceSteps$Walker", "walkRun", "(LChanceSteps$Program;LChanceSteps$Step;LChanceSteps$Crowd;II)Z"⟩, 4) := ⟨⟨by decide +kernel, by decide +kernel⟩, List.mem_of_getElem? (i := 69) (by decide +kernel), List.mem_of_getElem? (i := 751) (by decide +kernel), List.mem_of_getElem? (i := 752) (by decide +kernel)⟩
theorem lw_p43 : lw_okq (⟨"ChanceSteps$Walker", "canRun", "(LChanceSteps$Program;LChanceSteps$Step;LChanceSteps$Crowd;LChanceSteps$Program;I)Z"⟩, 4) := ⟨⟨by decide +kernel, by decide +kernel⟩, List.mem_of_getElem? (i := 69) (by decide +kernel), List.mem_of_getElem? (i := 755) (by decide +kernel), List.mem_of_getElem? (i := 756) (by decide +kernel)⟩
theorem lw_p44 : lw_okq (⟨"ChanceSteps$Walker", "walkWhole", "(LChanceSteps$Program;II)V"⟩, 4) := ⟨⟨by decide +kernel, by decide +kernel⟩, List.mem_of_getElem? (i := 69) (by decide +kernel), List.mem_of_getElem? (i := 764) (by decide +kernel), List.mem_of_getElem? (i := 765) (by decide +kernel)⟩
theorem lw_p45 : lw_okq (⟨"ChanceSteps$Walker", "followBlock", "(LChanceSteps$Program;IIII)I"⟩, 4) := ⟨⟨by decide +kernel, by decide +kernel⟩, List.mem_of_getElem? (i := 69) (by decide +kernel), List.mem_of_getElem? (i := 891) (by decide +kernel), List.mem_of_getElem? (i := 892) (by decide +kernel)⟩
theorem lw_p46 : lw_okq (⟨"ChanceSteps$Walker", "followStep", "(LChanceSteps$Program;III)I"⟩, 4) := ⟨⟨by decide +kernel, by decide +kernel⟩, List.mem_of_getElem? (i := 69) (by decide +kernel), List.mem_of_getElem? (i := 895) (by decide +kernel), List.mem_of_getElem? (i := 896) (by decide +kernel)⟩
theorem lw_p47 : lw_okq (⟨"ChanceSteps$Walker", "drawn", "(LChanceSteps$Program;LChanceSteps$Step;)I"⟩, 4) := ⟨⟨by decide +kernel, by decide +kernel⟩, List.mem_of_getElem? (i := 69) (by decide +kernel), List.mem_of_getElem? (i := 899) (by decide +kernel), List.mem_of_getElem? (i := 900) (by decide +kernel)⟩
def lw_privs_3 : List (MethodName × Nat) := [(⟨"ChanceSteps$Walker", "walkDraw", "(LChanceSteps$Program;LChanceSteps$Step;LChanceSteps$Crowd;I)Z"⟩, 4), (⟨"ChanceSteps$Mixer", "putNew", "(IJI)Z"⟩, 5), (⟨"ChanceSteps$Walker", "walkLet", "(LChanceSteps$Program;LChanceSteps$Step;LChanceSteps$Crowd;I)Z"⟩, 4), (⟨"ChanceSteps$Walker", "walkSee", "(LChanceSteps$Program;LChanceSteps$Step;LChanceSteps$Crowd;I)Z"⟩, 4), (⟨"ChanceSteps$Walker", "walkIf", "(LChanceSteps$Program;ILChanceSteps$Crowd;II)Z"⟩, 4), (⟨"ChanceSteps$Walker", "lend", "()LChanceSteps$Crowd;"⟩, 4), (⟨"ChanceSteps$Walker", "split", "(LChanceSteps$Program;LChanceSteps$Step;LChanceSteps$Crowd;LChanceSteps$Crowd;)V"⟩, 4), (⟨"ChanceSteps$Walker", "giveBack", "()V"⟩, 4), (⟨"ChanceSteps$Walker", "walkLoop", "(LChanceSteps$Program;ILChanceSteps$Crowd;II)Z"⟩, 4), (⟨"ChanceSteps$Walker", "forget", "(LChanceSteps$Crowd;I)Z"⟩, 4), (⟨"ChanceSteps$Walker", "walkRun", "(LChanceSteps$Program;LChanceSteps$Step;LChanceSteps$Crowd;II)Z"⟩, 4), (⟨"ChanceSteps$Walker", "canRun", "(LChanceSteps$Program;LChanceSteps$Step;LChanceSteps$Crowd;LChanceSteps$Program;I)Z"⟩, 4), (⟨"ChanceSteps$Walker", "walkWhole", "(LChanceSteps$Program;II)V"⟩, 4), (⟨"ChanceSteps$Walker", "followBlock", "(LChanceSteps$Program;IIII)I"⟩, 4), (⟨"ChanceSteps$Walker", "followStep", "(LChanceSteps$Program;III)I"⟩, 4), (⟨"ChanceSteps$Walker", "drawn", "(LChanceSteps$Program;LChanceSteps$Step;)I"⟩, 4)]
theorem lw_r3 : ∀ q ∈ lw_privs_3, lw_okq q := List.forall_mem_cons.mpr ⟨lw_p32, List.forall_mem_cons.mpr ⟨lw_p33, List.forall_mem_cons.mpr ⟨lw_p34, List.forall_mem_cons.mpr ⟨lw_p35, List.forall_mem_cons.mpr ⟨lw_p36, List.forall_mem_cons.mpr ⟨lw_p37, List.forall_mem_cons.mpr ⟨lw_p38, List.forall_mem_cons.mpr ⟨lw_p39, List.forall_mem_cons.mpr ⟨lw_p40, List.forall_mem_cons.mpr ⟨lw_p41, List.forall_mem_cons.mpr ⟨lw_p42, List.forall_mem_cons.mpr ⟨lw_p43, List.forall_mem_cons.mpr ⟨lw_p44, List.forall_mem_cons.mpr ⟨lw_p45, List.forall_mem_cons.mpr ⟨lw_p46, List.forall_mem_cons.mpr ⟨lw_p47, fun _ h => absurd h List.not_mem_nil⟩⟩⟩⟩⟩⟩⟩⟩⟩⟩⟩⟩⟩⟩⟩⟩
theorem lw_p48 : lw_okq (⟨"ChanceSteps$Walker", "followLoop", "(LChanceSteps$Program;III)I"⟩, 4) := ⟨⟨by decide +kernel, by decide +kernel⟩, List.mem_of_getElem? (i := 69) (by decide +kernel), List.mem_of_getElem? (i := 904) (by decide +kernel), List.mem_of_getElem? (i := 905) (by decide +kernel)⟩
theorem lw_p49 : lw_okq (⟨"ChanceSteps$Walker", "followRun", "(LChanceSteps$Program;LChanceSteps$Step;II)I"⟩, 4) := ⟨⟨by decide +kernel, by decide +kernel⟩, List.mem_of_getElem? (i := 69) (by decide +kernel), List.mem_of_getElem? (i := 908) (by decide +kernel), List.mem_of_getElem? (i := 909) (by decide +kernel)⟩
theorem lw_p50 : lw_okq (⟨"ChanceSteps", "firstOtherwise", "(LChanceSteps$Sheet;LChanceSteps$Crowd;I)I"⟩, 13) := ⟨⟨by decide +kernel, by decide +kernel⟩, List.mem_of_getElem? (i := 22) (by decide +kernel), List.mem_of_getElem? (i := 924) (by decide +kernel), List.mem_of_getElem? (i := 925) (by decide +kernel)⟩
theorem lw_p51 : lw_okq (⟨"ChanceSteps", "programsThatTell", "(LChanceSteps$Sheet;I)I"⟩, 13) := ⟨⟨by decide +kernel, by decide +kernel⟩, List.mem_of_getElem? (i := 22) (by decide +kernel), List.mem_of_getElem? (i := 932) (by decide +kernel), List.mem_of_getElem? (i := 933) (by decide +kernel)⟩
theorem lw_p52 : lw_okq (⟨"ChanceSteps", "wouldTell", "(LChanceSteps$Sheet;LChanceSteps$Crowd;I)Z"⟩, 13) := ⟨⟨by decide +kernel, by decide +kernel⟩, List.mem_of_getElem? (i := 22) (by decide +kernel), List.mem_of_getElem? (i := 936) (by decide +kernel), List.mem_of_getElem? (i := 937) (by decide +kernel)⟩
theorem lw_p53 : lw_okq (⟨"ChanceSteps", "namesThatTell", "(LChanceSteps$Sheet;LChanceSteps$Crowd;)I"⟩, 13) := ⟨⟨by decide +kernel, by decide +kernel⟩, List.mem_of_getElem? (i := 22) (by decide +kernel), List.mem_of_getElem? (i := 940) (by decide +kernel), List.mem_of_getElem? (i := 941) (by decide +kernel)⟩
theorem lw_p54 : lw_okq (⟨"ChanceSteps", "startsThatTell", "(LChanceSteps$Sheet;II)I"⟩, 13) := ⟨⟨by decide +kernel, by decide +kernel⟩, List.mem_of_getElem? (i := 22) (by decide +kernel), List.mem_of_getElem? (i := 944) (by decide +kernel), List.mem_of_getElem? (i := 945) (by decide +kernel)⟩
theorem lw_p55 : lw_okq (⟨"ChanceStepsModel", "next", "()V"⟩, 43) := ⟨⟨by decide +kernel, by decide +kernel⟩, List.mem_of_getElem? (i := 991) (by decide +kernel), List.mem_of_getElem? (i := 1169) (by decide +kernel), List.mem_of_getElem? (i := 1170) (by decide +kernel)⟩
theorem lw_p56 : lw_okq (⟨"ChanceStepsModel", "byteAt", "(I)I"⟩, 43) := ⟨⟨by decide +kernel, by decide +kernel⟩, List.mem_of_getElem? (i := 991) (by decide +kernel), List.mem_of_getElem? (i := 1173) (by decide +kernel), List.mem_of_getElem? (i := 1174) (by decide +kernel)⟩
theorem lw_p57 : lw_okq (⟨"ChanceStepsModel", "wordRead", "()I"⟩, 43) := ⟨⟨by decide +kernel, by decide +kernel⟩, List.mem_of_getElem? (i := 991) (by decide +kernel), List.mem_of_getElem? (i := 1177) (by decide +kernel), List.mem_of_getElem? (i := 1178) (by decide +kernel)⟩
theorem lw_p58 : lw_okq (⟨"ChanceStepsModel", "isWord", "(Ljava/lang/String;)Z"⟩, 43) := ⟨⟨by decide +kernel, by decide +kernel⟩, List.mem_of_getElem? (i := 991) (by decide +kernel), List.mem_of_getElem? (i := 1182) (by decide +kernel), List.mem_of_getElem? (i := 1183) (by decide +kernel)⟩
theorem lw_p59 : lw_okq (⟨"ChanceStepsModel", "block", "()V"⟩, 43) := ⟨⟨by decide +kernel, by decide +kernel⟩, List.mem_of_getElem? (i := 991) (by decide +kernel), List.mem_of_getElem? (i := 1249) (by decide +kernel), List.mem_of_getElem? (i := 1250) (by decide +kernel)⟩
theorem lw_p60 : lw_okq (⟨"ChanceStepsModel", "step", "()V"⟩, 43) := ⟨⟨by decide +kernel, by decide +kernel⟩, List.mem_of_getElem? (i := 991) (by decide +kernel), List.mem_of_getElem? (i := 1253) (by decide +kernel), List.mem_of_getElem? (i := 1254) (by decide +kernel)⟩
theorem lw_p61 : lw_okq (⟨"ChanceStepsModel", "takes", "(III)I"⟩, 43) := ⟨⟨by decide +kernel, by decide +kernel⟩, List.mem_of_getElem? (i := 991) (by decide +kernel), List.mem_of_getElem? (i := 1257) (by decide +kernel), List.mem_of_getElem? (i := 1258) (by decide +kernel)⟩
theorem lw_p62 : lw_okq (⟨"ChanceStepsModel", "lotsOf", "(II)V"⟩, 43) := ⟨⟨by decide +kernel, by decide +kernel⟩, List.mem_of_getElem? (i := 991) (by decide +kernel), List.mem_of_getElem? (i := 1261) (by decide +kernel), List.mem_of_getElem? (i := 1262) (by decide +kernel)⟩
theorem lw_p63 : lw_okq (⟨"ChanceStepsModel", "need", "(I)V"⟩, 43) := ⟨⟨by decide +kernel, by decide +kernel⟩, List.mem_of_getElem? (i := 991) (by decide +kernel), List.mem_of_getElem? (i := 1265) (by decide +kernel), List.mem_of_getElem? (i := 1266) (by decide +kernel)⟩
def lw_privs_4 : List (MethodName × Nat) := [(⟨"ChanceSteps$Walker", "followLoop", "(LChanceSteps$Program;III)I"⟩, 4), (⟨"ChanceSteps$Walker", "followRun", "(LChanceSteps$Program;LChanceSteps$Step;II)I"⟩, 4), (⟨"ChanceSteps", "firstOtherwise", "(LChanceSteps$Sheet;LChanceSteps$Crowd;I)I"⟩, 13), (⟨"ChanceSteps", "programsThatTell", "(LChanceSteps$Sheet;I)I"⟩, 13), (⟨"ChanceSteps", "wouldTell", "(LChanceSteps$Sheet;LChanceSteps$Crowd;I)Z"⟩, 13), (⟨"ChanceSteps", "namesThatTell", "(LChanceSteps$Sheet;LChanceSteps$Crowd;)I"⟩, 13), (⟨"ChanceSteps", "startsThatTell", "(LChanceSteps$Sheet;II)I"⟩, 13), (⟨"ChanceStepsModel", "next", "()V"⟩, 43), (⟨"ChanceStepsModel", "byteAt", "(I)I"⟩, 43), (⟨"ChanceStepsModel", "wordRead", "()I"⟩, 43), (⟨"ChanceStepsModel", "isWord", "(Ljava/lang/String;)Z"⟩, 43), (⟨"ChanceStepsModel", "block", "()V"⟩, 43), (⟨"ChanceStepsModel", "step", "()V"⟩, 43), (⟨"ChanceStepsModel", "takes", "(III)I"⟩, 43), (⟨"ChanceStepsModel", "lotsOf", "(II)V"⟩, 43), (⟨"ChanceStepsModel", "need", "(I)V"⟩, 43)]
theorem lw_r4 : ∀ q ∈ lw_privs_4, lw_okq q := List.forall_mem_cons.mpr ⟨lw_p48, List.forall_mem_cons.mpr ⟨lw_p49, List.forall_mem_cons.mpr ⟨lw_p50, List.forall_mem_cons.mpr ⟨lw_p51, List.forall_mem_cons.mpr ⟨lw_p52, List.forall_mem_cons.mpr ⟨lw_p53, List.forall_mem_cons.mpr ⟨lw_p54, List.forall_mem_cons.mpr ⟨lw_p55, List.forall_mem_cons.mpr ⟨lw_p56, List.forall_mem_cons.mpr ⟨lw_p57, List.forall_mem_cons.mpr ⟨lw_p58, List.forall_mem_cons.mpr ⟨lw_p59, List.forall_mem_cons.mpr ⟨lw_p60, List.forall_mem_cons.mpr ⟨lw_p61, List.forall_mem_cons.mpr ⟨lw_p62, List.forall_mem_cons.mpr ⟨lw_p63, fun _ h => absurd h List.not_mem_nil⟩⟩⟩⟩⟩⟩⟩⟩⟩⟩⟩⟩⟩⟩⟩⟩
theorem lw_p64 : lw_okq (⟨"ChanceStepsModel", "isSign", "(I)Z"⟩, 43) := ⟨⟨by decide +kernel, by decide +kernel⟩, List.mem_of_getElem? (i := 991) (by decide +kernel), List.mem_of_getElem? (i := 1269) (by decide +kernel), List.mem_of_getElem? (i := 1270) (by decide +kernel)⟩
theorem lw_p65 : lw_okq (⟨"ChanceStepsModel", "expression", "()I"⟩, 43) := ⟨⟨by decide +kernel, by decide +kernel⟩, List.mem_of_getElem? (i := 991) (by decide +kernel), List.mem_of_getElem? (i := 1273) (by decide +kernel), List.mem_of_getElem? (i := 1274) (by decide +kernel)⟩
theorem lw_p66 : lw_okq (⟨"ChanceStepsModel", "sum", "()I"⟩, 43) := ⟨⟨by decide +kernel, by decide +kernel⟩, List.mem_of_getElem? (i := 991) (by decide +kernel), List.mem_of_getElem? (i := 1277) (by decide +kernel), List.mem_of_getElem? (i := 1278) (by decide +kernel)⟩
theorem lw_p67 : lw_okq (⟨"ChanceStepsModel", "term", "()I"⟩, 43) := ⟨⟨by decide +kernel, by decide +kernel⟩, List.mem_of_getElem? (i := 991) (by decide +kernel), List.mem_of_getElem? (i := 1281) (by decide +kernel), List.mem_of_getElem? (i := 1282) (by decide +kernel)⟩
theorem lw_p68 : lw_okq (⟨"ChanceStepsModel", "one", "()I"⟩, 43) := ⟨⟨by decide +kernel, by decide +kernel⟩, List.mem_of_getElem? (i := 991) (by decide +kernel), List.mem_of_getElem? (i := 1285) (by decide +kernel), List.mem_of_getElem? (i := 1286) (by decide +kernel)⟩
theorem lw_p69 : lw_okq (⟨"ChanceStepsModel", "node", "(IIII)I"⟩, 43) := ⟨⟨by decide +kernel, by decide +kernel⟩, List.mem_of_getElem? (i := 991) (by decide +kernel), List.mem_of_getElem? (i := 1289) (by decide +kernel), List.mem_of_getElem? (i := 1290) (by decide +kernel)⟩
theorem lw_p70 : lw_okq (⟨"ChanceStepsModel", "inBraces", "()V"⟩, 43) := ⟨⟨by decide +kernel, by decide +kernel⟩, List.mem_of_getElem? (i := 991) (by decide +kernel), List.mem_of_getElem? (i := 1293) (by decide +kernel), List.mem_of_getElem? (i := 1294) (by decide +kernel)⟩
theorem lw_p71 : lw_okq (⟨"ChanceStepsModel", "bitsOf", "(III)I"⟩, 43) := ⟨⟨by decide +kernel, by decide +kernel⟩, List.mem_of_getElem? (i := 991) (by decide +kernel), List.mem_of_getElem? (i := 1297) (by decide +kernel), List.mem_of_getElem? (i := 1298) (by decide +kernel)⟩
theorem lw_p72 : lw_okq (⟨"ChanceStepsModel", "bitsOfStep", "(II)I"⟩, 43) := ⟨⟨by decide +kernel, by decide +kernel⟩, List.mem_of_getElem? (i := 991) (by decide +kernel), List.mem_of_getElem? (i := 1301) (by decide +kernel), List.mem_of_getElem? (i := 1302) (by decide +kernel)⟩
theorem lw_p73 : lw_okq (⟨"ChanceStepsModel", "lotsAll", "(II)I"⟩, 43) := ⟨⟨by decide +kernel, by decide +kernel⟩, List.mem_of_getElem? (i := 991) (by decide +kernel), List.mem_of_getElem? (i := 1305) (by decide +kernel), List.mem_of_getElem? (i := 1306) (by decide +kernel)⟩
theorem lw_p74 : lw_okq (⟨"ChanceStepsModel", "turnsOf", "(III)I"⟩, 43) := ⟨⟨by decide +kernel, by decide +kernel⟩, List.mem_of_getElem? (i := 991) (by decide +kernel), List.mem_of_getElem? (i := 1314) (by decide +kernel), List.mem_of_getElem? (i := 1315) (by decide +kernel)⟩
theorem lw_p75 : lw_okq (⟨"ChanceStepsModel", "turnsOfStep", "(II)I"⟩, 43) := ⟨⟨by decide +kernel, by decide +kernel⟩, List.mem_of_getElem? (i := 991) (by decide +kernel), List.mem_of_getElem? (i := 1318) (by decide +kernel), List.mem_of_getElem? (i := 1319) (by decide +kernel)⟩
theorem lw_p76 : lw_okq (⟨"ChanceStepsModel", "isProgram", "(I)Z"⟩, 43) := ⟨⟨by decide +kernel, by decide +kernel⟩, List.mem_of_getElem? (i := 991) (by decide +kernel), List.mem_of_getElem? (i := 1333) (by decide +kernel), List.mem_of_getElem? (i := 1334) (by decide +kernel)⟩
theorem lw_p77 : lw_okq (⟨"ChanceStepsModel", "neededFrom", "(IIII)I"⟩, 43) := ⟨⟨by decide +kernel, by decide +kernel⟩, List.mem_of_getElem? (i := 991) (by decide +kernel), List.mem_of_getElem? (i := 1337) (by decide +kernel), List.mem_of_getElem? (i := 1338) (by decide +kernel)⟩
theorem lw_p78 : lw_okq (⟨"ChanceStepsModel", "neededAhead", "(III)I"⟩, 43) := ⟨⟨by decide +kernel, by decide +kernel⟩, List.mem_of_getElem? (i := 991) (by decide +kernel), List.mem_of_getElem? (i := 1341) (by decide +kernel), List.mem_of_getElem? (i := 1342) (by decide +kernel)⟩
theorem lw_p79 : lw_okq (⟨"ChanceStepsModel", "namesIn", "(II)I"⟩, 43) := ⟨⟨by decide +kernel, by decide +kernel⟩, List.mem_of_getElem? (i := 991) (by decide +kernel), List.mem_of_getElem? (i := 1345) (by decide +kernel), List.mem_of_getElem? (i := 1346) (by decide +kernel)⟩
def lw_privs_5 : List (MethodName × Nat) := [(⟨"ChanceStepsModel", "isSign", "(I)Z"⟩, 43), (⟨"ChanceStepsModel", "expression", "()I"⟩, 43), (⟨"ChanceStepsModel", "sum", "()I"⟩, 43), (⟨"ChanceStepsModel", "term", "()I"⟩, 43), (⟨"ChanceStepsModel", "one", "()I"⟩, 43), (⟨"ChanceStepsModel", "node", "(IIII)I"⟩, 43), (⟨"ChanceStepsModel", "inBraces", "()V"⟩, 43), (⟨"ChanceStepsModel", "bitsOf", "(III)I"⟩, 43), (⟨"ChanceStepsModel", "bitsOfStep", "(II)I"⟩, 43), (⟨"ChanceStepsModel", "lotsAll", "(II)I"⟩, 43), (⟨"ChanceStepsModel", "turnsOf", "(III)I"⟩, 43), (⟨"ChanceStepsModel", "turnsOfStep", "(II)I"⟩, 43), (⟨"ChanceStepsModel", "isProgram", "(I)Z"⟩, 43), (⟨"ChanceStepsModel", "neededFrom", "(IIII)I"⟩, 43), (⟨"ChanceStepsModel", "neededAhead", "(III)I"⟩, 43), (⟨"ChanceStepsModel", "namesIn", "(II)I"⟩, 43)]
theorem lw_r5 : ∀ q ∈ lw_privs_5, lw_okq q := List.forall_mem_cons.mpr ⟨lw_p64, List.forall_mem_cons.mpr ⟨lw_p65, List.forall_mem_cons.mpr ⟨lw_p66, List.forall_mem_cons.mpr ⟨lw_p67, List.forall_mem_cons.mpr ⟨lw_p68, List.forall_mem_cons.mpr ⟨lw_p69, List.forall_mem_cons.mpr ⟨lw_p70, List.forall_mem_cons.mpr ⟨lw_p71, List.forall_mem_cons.mpr ⟨lw_p72, List.forall_mem_cons.mpr ⟨lw_p73, List.forall_mem_cons.mpr ⟨lw_p74, List.forall_mem_cons.mpr ⟨lw_p75, List.forall_mem_cons.mpr ⟨lw_p76, List.forall_mem_cons.mpr ⟨lw_p77, List.forall_mem_cons.mpr ⟨lw_p78, List.forall_mem_cons.mpr ⟨lw_p79, fun _ h => absurd h List.not_mem_nil⟩⟩⟩⟩⟩⟩⟩⟩⟩⟩⟩⟩⟩⟩⟩⟩
theorem lw_p80 : lw_okq (⟨"ChanceStepsModel", "sees", "(I)Z"⟩, 43) := ⟨⟨by decide +kernel, by decide +kernel⟩, List.mem_of_getElem? (i := 991) (by decide +kernel), List.mem_of_getElem? (i := 1349) (by decide +kernel), List.mem_of_getElem? (i := 1350) (by decide +kernel)⟩
theorem lw_p81 : lw_okq (⟨"ChanceStepsModel", "odds", "(II)LChanceStepsModel$Odds;"⟩, 43) := ⟨⟨by decide +kernel, by decide +kernel⟩, List.mem_of_getElem? (i := 991) (by decide +kernel), List.mem_of_getElem? (i := 1357) (by decide +kernel), List.mem_of_getElem? (i := 1358) (by decide +kernel)⟩
theorem lw_p82 : lw_okq (⟨"ChanceStepsModel", "oddsBeside", "(II)LChanceStepsModel$Odds;"⟩, 43) := ⟨⟨by decide +kernel, by decide +kernel⟩, List.mem_of_getElem? (i := 991) (by decide +kernel), List.mem_of_getElem? (i := 1361) (by decide +kernel), List.mem_of_getElem? (i := 1362) (by decide +kernel)⟩
theorem lw_p83 : lw_okq (⟨"ChanceStepsModel", "taken", "()LChanceStepsModel$Odds;"⟩, 43) := ⟨⟨by decide +kernel, by decide +kernel⟩, List.mem_of_getElem? (i := 991) (by decide +kernel), List.mem_of_getElem? (i := 1365) (by decide +kernel), List.mem_of_getElem? (i := 1366) (by decide +kernel)⟩
theorem lw_p84 : lw_okq (⟨"ChanceStepsModel", "startState", "()I"⟩, 43) := ⟨⟨by decide +kernel, by decide +kernel⟩, List.mem_of_getElem? (i := 991) (by decide +kernel), List.mem_of_getElem? (i := 1369) (by decide +kernel), List.mem_of_getElem? (i := 1370) (by decide +kernel)⟩
theorem lw_p85 : lw_okq (⟨"ChanceStepsModel", "forget", "(LChanceStepsModel$Odds;I)LChanceStepsModel$Odds;"⟩, 43) := ⟨⟨by decide +kernel, by decide +kernel⟩, List.mem_of_getElem? (i := 991) (by decide +kernel), List.mem_of_getElem? (i := 1379) (by decide +kernel), List.mem_of_getElem? (i := 1380) (by decide +kernel)⟩
theorem lw_p86 : lw_okq (⟨"ChanceStepsModel", "make", "(IIILChanceStepsModel$Odds;I)LChanceStepsModel$Odds;"⟩, 43) := ⟨⟨by decide +kernel, by decide +kernel⟩, List.mem_of_getElem? (i := 991) (by decide +kernel), List.mem_of_getElem? (i := 1392) (by decide +kernel), List.mem_of_getElem? (i := 1393) (by decide +kernel)⟩
theorem lw_p87 : lw_okq (⟨"ChanceStepsModel", "makeStep", "(IILChanceStepsModel$Odds;I)LChanceStepsModel$Odds;"⟩, 43) := ⟨⟨by decide +kernel, by decide +kernel⟩, List.mem_of_getElem? (i := 991) (by decide +kernel), List.mem_of_getElem? (i := 1400) (by decide +kernel), List.mem_of_getElem? (i := 1401) (by decide +kernel)⟩
theorem lw_p88 : lw_okq (⟨"ChanceStepsModel", "draw", "(IILChanceStepsModel$Odds;)LChanceStepsModel$Odds;"⟩, 43) := ⟨⟨by decide +kernel, by decide +kernel⟩, List.mem_of_getElem? (i := 991) (by decide +kernel), List.mem_of_getElem? (i := 1404) (by decide +kernel), List.mem_of_getElem? (i := 1405) (by decide +kernel)⟩
theorem lw_p89 : lw_okq (⟨"ChanceStepsModel", "let", "(IILChanceStepsModel$Odds;)LChanceStepsModel$Odds;"⟩, 43) := ⟨⟨by decide +kernel, by decide +kernel⟩, List.mem_of_getElem? (i := 991) (by decide +kernel), List.mem_of_getElem? (i := 1408) (by decide +kernel), List.mem_of_getElem? (i := 1409) (by decide +kernel)⟩
theorem lw_p90 : lw_okq (⟨"ChanceStepsModel", "worth", "(III)I"⟩, 43) := ⟨⟨by decide +kernel, by decide +kernel⟩, List.mem_of_getElem? (i := 991) (by decide +kernel), List.mem_of_getElem? (i := 1412) (by decide +kernel), List.mem_of_getElem? (i := 1413) (by decide +kernel)⟩
theorem lw_p91 : lw_okq (⟨"ChanceStepsModel", "split", "(IILChanceStepsModel$Odds;Z)LChanceStepsModel$Odds;"⟩, 43) := ⟨⟨by decide +kernel, by decide +kernel⟩, List.mem_of_getElem? (i := 991) (by decide +kernel), List.mem_of_getElem? (i := 1419) (by decide +kernel), List.mem_of_getElem? (i := 1420) (by decide +kernel)⟩
theorem lw_p92 : lw_okq (⟨"ChanceStepsModel", "choose", "(IILChanceStepsModel$Odds;I)LChanceStepsModel$Odds;"⟩, 43) := ⟨⟨by decide +kernel, by decide +kernel⟩, List.mem_of_getElem? (i := 991) (by decide +kernel), List.mem_of_getElem? (i := 1423) (by decide +kernel), List.mem_of_getElem? (i := 1424) (by decide +kernel)⟩
theorem lw_p93 : lw_okq (⟨"ChanceStepsModel", "loop", "(IILChanceStepsModel$Odds;I)LChanceStepsModel$Odds;"⟩, 43) := ⟨⟨by decide +kernel, by decide +kernel⟩, List.mem_of_getElem? (i := 991) (by decide +kernel), List.mem_of_getElem? (i := 1427) (by decide +kernel), List.mem_of_getElem? (i := 1428) (by decide +kernel)⟩
theorem lw_p94 : lw_okq (⟨"ChanceStepsModel", "run", "(IILChanceStepsModel$Odds;)LChanceStepsModel$Odds;"⟩, 43) := ⟨⟨by decide +kernel, by decide +kernel⟩, List.mem_of_getElem? (i := 991) (by decide +kernel), List.mem_of_getElem? (i := 1431) (by decide +kernel), List.mem_of_getElem? (i := 1432) (by decide +kernel)⟩
theorem lw_p95 : lw_okq (⟨"ChanceStepsModel", "tell", "(II)V"⟩, 43) := ⟨⟨by decide +kernel, by decide +kernel⟩, List.mem_of_getElem? (i := 991) (by decide +kernel), List.mem_of_getElem? (i := 1435) (by decide +kernel), List.mem_of_getElem? (i := 1436) (by decide +kernel)⟩
def lw_privs_6 : List (MethodName × Nat) := [(⟨"ChanceStepsModel", "sees", "(I)Z"⟩, 43), (⟨"ChanceStepsModel", "odds", "(II)LChanceStepsModel$Odds;"⟩, 43), (⟨"ChanceStepsModel", "oddsBeside", "(II)LChanceStepsModel$Odds;"⟩, 43), (⟨"ChanceStepsModel", "taken", "()LChanceStepsModel$Odds;"⟩, 43), (⟨"ChanceStepsModel", "startState", "()I"⟩, 43), (⟨"ChanceStepsModel", "forget", "(LChanceStepsModel$Odds;I)LChanceStepsModel$Odds;"⟩, 43), (⟨"ChanceStepsModel", "make", "(IIILChanceStepsModel$Odds;I)LChanceStepsModel$Odds;"⟩, 43), (⟨"ChanceStepsModel", "makeStep", "(IILChanceStepsModel$Odds;I)LChanceStepsModel$Odds;"⟩, 43), (⟨"ChanceStepsModel", "draw", "(IILChanceStepsModel$Odds;)LChanceStepsModel$Odds;"⟩, 43), (⟨"ChanceStepsModel", "let", "(IILChanceStepsModel$Odds;)LChanceStepsModel$Odds;"⟩, 43), (⟨"ChanceStepsModel", "worth", "(III)I"⟩, 43), (⟨"ChanceStepsModel", "split", "(IILChanceStepsModel$Odds;Z)LChanceStepsModel$Odds;"⟩, 43), (⟨"ChanceStepsModel", "choose", "(IILChanceStepsModel$Odds;I)LChanceStepsModel$Odds;"⟩, 43), (⟨"ChanceStepsModel", "loop", "(IILChanceStepsModel$Odds;I)LChanceStepsModel$Odds;"⟩, 43), (⟨"ChanceStepsModel", "run", "(IILChanceStepsModel$Odds;)LChanceStepsModel$Odds;"⟩, 43), (⟨"ChanceStepsModel", "tell", "(II)V"⟩, 43)]
theorem lw_r6 : ∀ q ∈ lw_privs_6, lw_okq q := List.forall_mem_cons.mpr ⟨lw_p80, List.forall_mem_cons.mpr ⟨lw_p81, List.forall_mem_cons.mpr ⟨lw_p82, List.forall_mem_cons.mpr ⟨lw_p83, List.forall_mem_cons.mpr ⟨lw_p84, List.forall_mem_cons.mpr ⟨lw_p85, List.forall_mem_cons.mpr ⟨lw_p86, List.forall_mem_cons.mpr ⟨lw_p87, List.forall_mem_cons.mpr ⟨lw_p88, List.forall_mem_cons.mpr ⟨lw_p89, List.forall_mem_cons.mpr ⟨lw_p90, List.forall_mem_cons.mpr ⟨lw_p91, List.forall_mem_cons.mpr ⟨lw_p92, List.forall_mem_cons.mpr ⟨lw_p93, List.forall_mem_cons.mpr ⟨lw_p94, List.forall_mem_cons.mpr ⟨lw_p95, fun _ h => absurd h List.not_mem_nil⟩⟩⟩⟩⟩⟩⟩⟩⟩⟩⟩⟩⟩⟩⟩⟩
theorem lw_p96 : lw_okq (⟨"ChanceStepsModel", "against", "(LChanceStepsModel$Odds;)I"⟩, 43) := ⟨⟨by decide +kernel, by decide +kernel⟩, List.mem_of_getElem? (i := 991) (by decide +kernel), List.mem_of_getElem? (i := 1474) (by decide +kernel), List.mem_of_getElem? (i := 1475) (by decide +kernel)⟩
theorem lw_p97 : lw_okq (⟨"ChanceStepsModel", "comesBy", "(II)I"⟩, 43) := ⟨⟨by decide +kernel, by decide +kernel⟩, List.mem_of_getElem? (i := 991) (by decide +kernel), List.mem_of_getElem? (i := 1515) (by decide +kernel), List.mem_of_getElem? (i := 1516) (by decide +kernel)⟩
theorem lw_p98 : lw_okq (⟨"ChanceStepsModel", "come", "(IIII)I"⟩, 43) := ⟨⟨by decide +kernel, by decide +kernel⟩, List.mem_of_getElem? (i := 991) (by decide +kernel), List.mem_of_getElem? (i := 1519) (by decide +kernel), List.mem_of_getElem? (i := 1520) (by decide +kernel)⟩
theorem lw_p99 : lw_okq (⟨"ChanceStepsModel", "comeStep", "(III)I"⟩, 43) := ⟨⟨by decide +kernel, by decide +kernel⟩, List.mem_of_getElem? (i := 991) (by decide +kernel), List.mem_of_getElem? (i := 1523) (by decide +kernel), List.mem_of_getElem? (i := 1524) (by decide +kernel)⟩
theorem lw_p100 : lw_okq (⟨"ChanceStepsModel", "otherwise", "(ILChanceStepsModel$Odds;I)I"⟩, 43) := ⟨⟨by decide +kernel, by decide +kernel⟩, List.mem_of_getElem? (i := 991) (by decide +kernel), List.mem_of_getElem? (i := 1539) (by decide +kernel), List.mem_of_getElem? (i := 1540) (by decide +kernel)⟩
theorem lw_p101 : lw_okq (⟨"ChanceStepsModel", "isSo", "(III)Z"⟩, 43) := ⟨⟨by decide +kernel, by decide +kernel⟩, List.mem_of_getElem? (i := 991) (by decide +kernel), List.mem_of_getElem? (i := 1547) (by decide +kernel), List.mem_of_getElem? (i := 1548) (by decide +kernel)⟩
def lw_privs_7 : List (MethodName × Nat) := [(⟨"ChanceStepsModel", "against", "(LChanceStepsModel$Odds;)I"⟩, 43), (⟨"ChanceStepsModel", "comesBy", "(II)I"⟩, 43), (⟨"ChanceStepsModel", "come", "(IIII)I"⟩, 43), (⟨"ChanceStepsModel", "comeStep", "(III)I"⟩, 43), (⟨"ChanceStepsModel", "otherwise", "(ILChanceStepsModel$Odds;I)I"⟩, 43), (⟨"ChanceStepsModel", "isSo", "(III)Z"⟩, 43)]
theorem lw_r7 : ∀ q ∈ lw_privs_7, lw_okq q := List.forall_mem_cons.mpr ⟨lw_p96, List.forall_mem_cons.mpr ⟨lw_p97, List.forall_mem_cons.mpr ⟨lw_p98, List.forall_mem_cons.mpr ⟨lw_p99, List.forall_mem_cons.mpr ⟨lw_p100, List.forall_mem_cons.mpr ⟨lw_p101, fun _ h => absurd h List.not_mem_nil⟩⟩⟩⟩⟩⟩
def lw_privs : List (MethodName × Nat) := lw_privs_1 ++ (lw_privs_2 ++ (lw_privs_3 ++ (lw_privs_4 ++ (lw_privs_5 ++ (lw_privs_6 ++ (lw_privs_7))))))
def lw_tbl : List Cond := k2_sels lw_privs ++ tables_1
theorem lw_privs_ok : ∀ q ∈ lw_privs, lw_okq q := by
  show ∀ q ∈ lw_privs_1 ++ (lw_privs_2 ++ (lw_privs_3 ++ (lw_privs_4 ++ (lw_privs_5 ++ (lw_privs_6 ++ (lw_privs_7)))))), lw_okq q
  exact List.forall_mem_append.mpr ⟨lw_r1, List.forall_mem_append.mpr ⟨lw_r2, List.forall_mem_append.mpr ⟨lw_r3, List.forall_mem_append.mpr ⟨lw_r4, List.forall_mem_append.mpr ⟨lw_r5, List.forall_mem_append.mpr ⟨lw_r6, lw_r7⟩⟩⟩⟩⟩⟩
-- class tables, as printed
def RX0 : String := "ChanceSteps$Crowd"
def TX0 : u_T := fun k => match k with
  | 0 => ("ChanceSteps$Crowd", "states", "[I", false)
  | 1 => ("ChanceSteps$Crowd", "weights", "[J", false)
  | 2 => ("ChanceSteps$Crowd", "size", "I", false)
  | _ => ("ChanceSteps$Crowd", "most", "I", false)
def tyX0 : Nat → FieldType := fun k => match k with
  | 0 => .array .int
  | 1 => .array .long
  | 2 => .int
  | _ => .int
theorem nmX0 : ∀ a, a < 4 → ∀ b, b < 4 → a ≠ b → (TX0 a).2.1 ≠ (TX0 b).2.1 := by decide +kernel
theorem tyX0_ok : ∀ k, k < 4 → parseFieldDescriptor (TX0 k).2.2.1 = some (tyX0 k) := by decide +kernel
def RX1 : String := "ChanceSteps$Mixer"
def TX1 : u_T := fun k => match k with
  | 0 => ("ChanceSteps$Mixer", "states", "[I", false)
  | 1 => ("ChanceSteps$Mixer", "weights", "[J", false)
  | 2 => ("ChanceSteps$Mixer", "size", "I", false)
  | 3 => ("ChanceSteps$Mixer", "slots", "[I", true)
  | _ => ("ChanceSteps$Mixer", "homes", "[I", true)
def tyX1 : Nat → FieldType := fun k => match k with
  | 0 => .array .int
  | 1 => .array .long
  | 2 => .int
  | 3 => .array .int
  | _ => .array .int
theorem nmX1 : ∀ a, a < 5 → ∀ b, b < 5 → a ≠ b → (TX1 a).2.1 ≠ (TX1 b).2.1 := by decide +kernel
theorem tyX1_ok : ∀ k, k < 5 → parseFieldDescriptor (TX1 k).2.2.1 = some (tyX1 k) := by decide +kernel
def RX2 : String := "ChanceSteps$Program"
def TX2 : u_T := fun k => match k with
  | 0 => ("ChanceSteps$Program", "steps", "[LChanceSteps$Step;", true)
  | 1 => ("ChanceSteps$Program", "size", "I", false)
  | 2 => ("ChanceSteps$Program", "code", "[I", true)
  | 3 => ("ChanceSteps$Program", "codeSize", "I", false)
  | 4 => ("ChanceSteps$Program", "lotValues", "[I", true)
  | 5 => ("ChanceSteps$Program", "lotWeights", "[I", true)
  | 6 => ("ChanceSteps$Program", "lotSize", "I", false)
  | 7 => ("ChanceSteps$Program", "stack", "[I", true)
  | 8 => ("ChanceSteps$Program", "bits", "I", false)
  | 9 => ("ChanceSteps$Program", "turns", "I", false)
  | 10 => ("ChanceSteps$Program", "names", "I", false)
  | 11 => ("ChanceSteps$Program", "sees", "Z", false)
  | 12 => ("ChanceSteps$Program", "runs", "LChanceSteps$Runs;", true)
  | 13 => ("ChanceSteps$Program", "end", "LChanceSteps$Crowd;", false)
  | 14 => ("ChanceSteps$Program", "endStart", "I", false)
  | _ => ("ChanceSteps$Program", "endFits", "Z", false)
def tyX2 : Nat → FieldType := fun k => match k with
  | 0 => .array (.object "ChanceSteps$Step")
  | 1 => .int
  | 2 => .array .int
  | 3 => .int
  | 4 => .array .int
  | 5 => .array .int
  | 6 => .int
  | 7 => .array .int
  | 8 => .int
  | 9 => .int
  | 10 => .int
  | 11 => .boolean
  | 12 => .object "ChanceSteps$Runs"
  | 13 => .object "ChanceSteps$Crowd"
  | 14 => .int
  | _ => .boolean
theorem nmX2 : ∀ a, a < 16 → ∀ b, b < 16 → a ≠ b → (TX2 a).2.1 ≠ (TX2 b).2.1 := by decide +kernel
theorem tyX2_ok : ∀ k, k < 16 → parseFieldDescriptor (TX2 k).2.2.1 = some (tyX2 k) := by decide +kernel
def RX3 : String := "ChanceSteps$Reader"
def TX3 : u_T := fun k => match k with
  | 0 => ("ChanceSteps$Reader", "text", "[I", false)
  | 1 => ("ChanceSteps$Reader", "size", "I", false)
  | 2 => ("ChanceSteps$Reader", "program", "LChanceSteps$Program;", false)
  | 3 => ("ChanceSteps$Reader", "others", "I", false)
  | 4 => ("ChanceSteps$Reader", "at", "I", false)
  | 5 => ("ChanceSteps$Reader", "open", "I", false)
  | 6 => ("ChanceSteps$Reader", "place", "I", false)
  | 7 => ("ChanceSteps$Reader", "sort", "I", false)
  | _ => ("ChanceSteps$Reader", "value", "I", false)
def tyX3 : Nat → FieldType := fun k => match k with
  | 0 => .array .int
  | 1 => .int
  | 2 => .object "ChanceSteps$Program"
  | 3 => .int
  | 4 => .int
  | 5 => .int
  | 6 => .int
  | 7 => .int
  | _ => .int
theorem nmX3 : ∀ a, a < 9 → ∀ b, b < 9 → a ≠ b → (TX3 a).2.1 ≠ (TX3 b).2.1 := by decide +kernel
theorem tyX3_ok : ∀ k, k < 9 → parseFieldDescriptor (TX3 k).2.2.1 = some (tyX3 k) := by decide +kernel
def RX4 : String := "ChanceSteps$Runs"
def TX4 : u_T := fun k => match k with
  | 0 => ("ChanceSteps$Runs", "standing", "[I", true)
  | 1 => ("ChanceSteps$Runs", "weights", "[J", true)
  | _ => ("ChanceSteps$Runs", "row", "[J", true)
def tyX4 : Nat → FieldType := fun k => match k with
  | 0 => .array .int
  | 1 => .array .long
  | _ => .array .long
theorem nmX4 : ∀ a, a < 3 → ∀ b, b < 3 → a ≠ b → (TX4 a).2.1 ≠ (TX4 b).2.1 := by decide +kernel
theorem tyX4_ok : ∀ k, k < 3 → parseFieldDescriptor (TX4 k).2.2.1 = some (tyX4 k) := by decide +kernel
def RX5 : String := "ChanceSteps$Sheet"
def TX5 : u_T := fun k => match k with
  | 0 => ("ChanceSteps$Sheet", "cells", "[I", true)
  | 1 => ("ChanceSteps$Sheet", "sort", "I", false)
  | _ => ("ChanceSteps$Sheet", "size", "I", false)
def tyX5 : Nat → FieldType := fun k => match k with
  | 0 => .array .int
  | 1 => .int
  | _ => .int
theorem nmX5 : ∀ a, a < 3 → ∀ b, b < 3 → a ≠ b → (TX5 a).2.1 ≠ (TX5 b).2.1 := by decide +kernel
theorem tyX5_ok : ∀ k, k < 3 → parseFieldDescriptor (TX5 k).2.2.1 = some (tyX5 k) := by decide +kernel
def RX6 : String := "ChanceSteps$Step"
def TX6 : u_T := fun k => match k with
  | 0 => ("ChanceSteps$Step", "kind", "I", false)
  | 1 => ("ChanceSteps$Step", "name", "I", false)
  | 2 => ("ChanceSteps$Step", "number", "I", false)
  | 3 => ("ChanceSteps$Step", "inside", "I", false)
  | 4 => ("ChanceSteps$Step", "level", "I", false)
  | 5 => ("ChanceSteps$Step", "second", "I", false)
  | 6 => ("ChanceSteps$Step", "seen", "I", false)
  | 7 => ("ChanceSteps$Step", "bits", "I", false)
  | 8 => ("ChanceSteps$Step", "turns", "I", false)
  | 9 => ("ChanceSteps$Step", "codeFrom", "I", false)
  | 10 => ("ChanceSteps$Step", "codeTo", "I", false)
  | 11 => ("ChanceSteps$Step", "lotFrom", "I", false)
  | 12 => ("ChanceSteps$Step", "sees", "Z", false)
  | _ => ("ChanceSteps$Step", "ran", "LChanceSteps$Program;", false)
def tyX6 : Nat → FieldType := fun k => match k with
  | 0 => .int
  | 1 => .int
  | 2 => .int
  | 3 => .int
  | 4 => .int
  | 5 => .int
  | 6 => .int
  | 7 => .int
  | 8 => .int
  | 9 => .int
  | 10 => .int
  | 11 => .int
  | 12 => .boolean
  | _ => .object "ChanceSteps$Program"
theorem nmX6 : ∀ a, a < 14 → ∀ b, b < 14 → a ≠ b → (TX6 a).2.1 ≠ (TX6 b).2.1 := by decide +kernel
theorem tyX6_ok : ∀ k, k < 14 → parseFieldDescriptor (TX6 k).2.2.1 = some (tyX6 k) := by decide +kernel
def RX7 : String := "ChanceSteps$Walker"
def TX7 : u_T := fun k => match k with
  | 0 => ("ChanceSteps$Walker", "mixer", "LChanceSteps$Mixer;", true)
  | 1 => ("ChanceSteps$Walker", "spare", "[LChanceSteps$Crowd;", true)
  | 2 => ("ChanceSteps$Walker", "lent", "I", false)
  | _ => ("ChanceSteps$Walker", "z", "I", false)
def tyX7 : Nat → FieldType := fun k => match k with
  | 0 => .object "ChanceSteps$Mixer"
  | 1 => .array (.object "ChanceSteps$Crowd")
  | 2 => .int
  | _ => .int
theorem nmX7 : ∀ a, a < 4 → ∀ b, b < 4 → a ≠ b → (TX7 a).2.1 ≠ (TX7 b).2.1 := by decide +kernel
theorem tyX7_ok : ∀ k, k < 4 → parseFieldDescriptor (TX7 k).2.2.1 = some (tyX7 k) := by decide +kernel
def RX8 : String := "ChanceSteps"
def TX8 : u_T := fun k => match k with
  | 0 => ("ChanceSteps", "tape", "[I", true)
  | 1 => ("ChanceSteps", "tapeSize", "I", false)
  | 2 => ("ChanceSteps", "programs", "[LChanceSteps$Program;", true)
  | 3 => ("ChanceSteps", "programCount", "I", false)
  | 4 => ("ChanceSteps", "start", "I", false)
  | 5 => ("ChanceSteps", "imageKept", "Z", false)
  | 6 => ("ChanceSteps", "imageStart", "I", false)
  | 7 => ("ChanceSteps", "imagePrograms", "I", false)
  | 8 => ("ChanceSteps", "sheets", "[LChanceSteps$Sheet;", true)
  | 9 => ("ChanceSteps", "reader", "LChanceSteps$Reader;", true)
  | 10 => ("ChanceSteps", "walker", "LChanceSteps$Walker;", true)
  | 11 => ("ChanceSteps", "firstRow", "[J", true)
  | _ => ("ChanceSteps", "secondRow", "[J", true)
def tyX8 : Nat → FieldType := fun k => match k with
  | 0 => .array .int
  | 1 => .int
  | 2 => .array (.object "ChanceSteps$Program")
  | 3 => .int
  | 4 => .int
  | 5 => .boolean
  | 6 => .int
  | 7 => .int
  | 8 => .array (.object "ChanceSteps$Sheet")
  | 9 => .object "ChanceSteps$Reader"
  | 10 => .object "ChanceSteps$Walker"
  | 11 => .array .long
  | _ => .array .long
theorem nmX8 : ∀ a, a < 13 → ∀ b, b < 13 → a ≠ b → (TX8 a).2.1 ≠ (TX8 b).2.1 := by decide +kernel
theorem tyX8_ok : ∀ k, k < 13 → parseFieldDescriptor (TX8 k).2.2.1 = some (tyX8 k) := by decide +kernel
def RX9 : String := "ChanceStepsModel$Odds"
def TX9 : u_T := fun k => match k with
  | 0 => ("ChanceStepsModel$Odds", "states", "[I", true)
  | 1 => ("ChanceStepsModel$Odds", "weights", "[J", true)
  | _ => ("ChanceStepsModel$Odds", "many", "I", false)
def tyX9 : Nat → FieldType := fun k => match k with
  | 0 => .array .int
  | 1 => .array .long
  | _ => .int
theorem nmX9 : ∀ a, a < 3 → ∀ b, b < 3 → a ≠ b → (TX9 a).2.1 ≠ (TX9 b).2.1 := by decide +kernel
theorem tyX9_ok : ∀ k, k < 3 → parseFieldDescriptor (TX9 k).2.2.1 = some (tyX9 k) := by decide +kernel
def RX10 : String := "ChanceStepsModel"
def TX10 : u_T := fun k => match k with
  | 0 => ("ChanceStepsModel", "programs", "I", false)
  | 1 => ("ChanceStepsModel", "sizes", "[I", true)
  | 2 => ("ChanceStepsModel", "bits", "[I", true)
  | 3 => ("ChanceStepsModel", "turns", "[I", true)
  | 4 => ("ChanceStepsModel", "kinds", "[[I", true)
  | 5 => ("ChanceStepsModel", "names", "[[I", true)
  | 6 => ("ChanceStepsModel", "numbers", "[[I", true)
  | 7 => ("ChanceStepsModel", "ends", "[[I", true)
  | 8 => ("ChanceStepsModel", "others", "[[I", true)
  | 9 => ("ChanceStepsModel", "tops", "[[I", true)
  | 10 => ("ChanceStepsModel", "firstLots", "[[I", true)
  | 11 => ("ChanceStepsModel", "lotValues", "[[I", true)
  | 12 => ("ChanceStepsModel", "lotWeights", "[[I", true)
  | 13 => ("ChanceStepsModel", "acts", "[[I", true)
  | 14 => ("ChanceStepsModel", "figures", "[[I", true)
  | 15 => ("ChanceStepsModel", "firsts", "[[I", true)
  | 16 => ("ChanceStepsModel", "seconds", "[[I", true)
  | 17 => ("ChanceStepsModel", "start", "[I", true)
  | 18 => ("ChanceStepsModel", "isTold", "[[Z", true)
  | 19 => ("ChanceStepsModel", "isWideSo", "[[Z", true)
  | 20 => ("ChanceStepsModel", "made", "[[[J", true)
  | 21 => ("ChanceStepsModel", "tape", "[I", true)
  | 22 => ("ChanceStepsModel", "taped", "I", false)
  | 23 => ("ChanceStepsModel", "at", "I", false)
  | 24 => ("ChanceStepsModel", "begin", "I", false)
  | 25 => ("ChanceStepsModel", "token", "I", false)
  | 26 => ("ChanceStepsModel", "value", "I", false)
  | 27 => ("ChanceStepsModel", "opened", "I", false)
  | 28 => ("ChanceStepsModel", "steps", "I", false)
  | 29 => ("ChanceStepsModel", "lots", "I", false)
  | 30 => ("ChanceStepsModel", "nodes", "I", false)
  | 31 => ("ChanceStepsModel", "isWrong", "Z", false)
  | 32 => ("ChanceStepsModel", "pool", "[LChanceStepsModel$Odds;", true)
  | 33 => ("ChanceStepsModel", "used", "I", false)
  | 34 => ("ChanceStepsModel", "isWide", "Z", false)
  | 35 => ("ChanceStepsModel", "peak", "I", false)
  | 36 => ("ChanceStepsModel", "z", "I", false)
  | 37 => ("ChanceStepsModel", "imagePrograms", "I", false)
  | 38 => ("ChanceStepsModel", "imageStart", "[I", true)
  | 39 => ("ChanceStepsModel", "sorts", "[I", true)
  | 40 => ("ChanceStepsModel", "lengths", "[I", true)
  | 41 => ("ChanceStepsModel", "items", "[[I", true)
  | _ => ("ChanceStepsModel", "passed", "[I", true)
def tyX10 : Nat → FieldType := fun k => match k with
  | 0 => .int
  | 1 => .array .int
  | 2 => .array .int
  | 3 => .array .int
  | 4 => .array (.array .int)
  | 5 => .array (.array .int)
  | 6 => .array (.array .int)
  | 7 => .array (.array .int)
  | 8 => .array (.array .int)
  | 9 => .array (.array .int)
  | 10 => .array (.array .int)
  | 11 => .array (.array .int)
  | 12 => .array (.array .int)
  | 13 => .array (.array .int)
  | 14 => .array (.array .int)
  | 15 => .array (.array .int)
  | 16 => .array (.array .int)
  | 17 => .array .int
  | 18 => .array (.array .boolean)
  | 19 => .array (.array .boolean)
  | 20 => .array (.array (.array .long))
  | 21 => .array .int
  | 22 => .int
  | 23 => .int
  | 24 => .int
  | 25 => .int
  | 26 => .int
  | 27 => .int
  | 28 => .int
  | 29 => .int
  | 30 => .int
  | 31 => .boolean
  | 32 => .array (.object "ChanceStepsModel$Odds")
  | 33 => .int
  | 34 => .boolean
  | 35 => .int
  | 36 => .int
  | 37 => .int
  | 38 => .array .int
  | 39 => .array .int
  | 40 => .array .int
  | 41 => .array (.array .int)
  | _ => .array .int
theorem nmX10 : ∀ a, a < 43 → ∀ b, b < 43 → a ≠ b → (TX10 a).2.1 ≠ (TX10 b).2.1 := by decide +kernel
theorem tyX10_ok : ∀ k, k < 43 → parseFieldDescriptor (TX10 k).2.2.1 = some (tyX10 k) := by decide +kernel
abbrev vwCl : List vw_C := [(RX0, TX0, 4), (RX1, TX1, 5), (RX2, TX2, 16), (RX3, TX3, 9), (RX4, TX4, 3), (RX5, TX5, 3), (RX6, TX6, 14), (RX7, TX7, 4), (RX8, TX8, 13), (RX9, TX9, 3), (RX10, TX10, 43)]
