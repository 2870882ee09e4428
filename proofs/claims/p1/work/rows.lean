section
-- ===== PART A: goes FIRST, ahead of the names: the tables' words, and 'selects' of the private methods out of them =====
/-- a private method of a class that the tables say can be made, by its rows of tables_1 -/
def lw_okq (q : MethodName × Nat) : Prop := (q.1.cls ≠ "java/lang/invoke/MethodHandle" ∧ q.1.cls ≠ "java/lang/invoke/VarHandle") ∧ Cond.instantiable q.1.cls q.2 ∈ tables_1 ∧ Cond.privateMethod q.1 ∈ tables_1 ∧ Cond.instanceMethod q.1 ∈ tables_1
theorem lw_p0 : lw_okq (⟨"ChanceSteps", "append", "(I)V"⟩, 13) := ⟨⟨by decide +kernel, by decide +kernel⟩, List.mem_of_getElem? (i := 22) (by decide +kernel), List.mem_of_getElem? (i := 178) (by decide +kernel), List.mem_of_getElem? (i := 179) (by decide +kernel)⟩
theorem lw_p1 : lw_okq (⟨"ChanceSteps$Reader", "advance", "()V"⟩, 9) := ⟨⟨by decide +kernel, by decide +kernel⟩, List.mem_of_getElem? (i := 34) (by decide +kernel), List.mem_of_getElem? (i := 370) (by decide +kernel), List.mem_of_getElem? (i := 371) (by decide +kernel)⟩
theorem lw_p2 : lw_okq (⟨"ChanceSteps$Reader", "byteAt", "(I)I"⟩, 9) := ⟨⟨by decide +kernel, by decide +kernel⟩, List.mem_of_getElem? (i := 34) (by decide +kernel), List.mem_of_getElem? (i := 374) (by decide +kernel), List.mem_of_getElem? (i := 375) (by decide +kernel)⟩
theorem lw_p3 : lw_okq (⟨"ChanceSteps$Reader", "takeWord", "()V"⟩, 9) := ⟨⟨by decide +kernel, by decide +kernel⟩, List.mem_of_getElem? (i := 34) (by decide +kernel), List.mem_of_getElem? (i := 381) (by decide +kernel), List.mem_of_getElem? (i := 382) (by decide +kernel)⟩
theorem lw_p4 : lw_okq (⟨"ChanceSteps$Reader", "isSpelt", "(Ljava/lang/String;)Z"⟩, 9) := ⟨⟨by decide +kernel, by decide +kernel⟩, List.mem_of_getElem? (i := 34) (by decide +kernel), List.mem_of_getElem? (i := 394) (by decide +kernel), List.mem_of_getElem? (i := 395) (by decide +kernel)⟩
theorem lw_p5 : lw_okq (⟨"ChanceSteps$Reader", "takeNumber", "()V"⟩, 9) := ⟨⟨by decide +kernel, by decide +kernel⟩, List.mem_of_getElem? (i := 34) (by decide +kernel), List.mem_of_getElem? (i := 449) (by decide +kernel), List.mem_of_getElem? (i := 450) (by decide +kernel)⟩
theorem lw_p6 : lw_okq (⟨"ChanceSteps$Reader", "takeSign", "()V"⟩, 9) := ⟨⟨by decide +kernel, by decide +kernel⟩, List.mem_of_getElem? (i := 34) (by decide +kernel), List.mem_of_getElem? (i := 453) (by decide +kernel), List.mem_of_getElem? (i := 454) (by decide +kernel)⟩
theorem lw_p7 : lw_okq (⟨"ChanceSteps$Reader", "readBlock", "()Z"⟩, 9) := ⟨⟨by decide +kernel, by decide +kernel⟩, List.mem_of_getElem? (i := 34) (by decide +kernel), List.mem_of_getElem? (i := 457) (by decide +kernel), List.mem_of_getElem? (i := 458) (by decide +kernel)⟩
theorem lw_p8 : lw_okq (⟨"ChanceSteps$Reader", "readStep", "()Z"⟩, 9) := ⟨⟨by decide +kernel, by decide +kernel⟩, List.mem_of_getElem? (i := 34) (by decide +kernel), List.mem_of_getElem? (i := 461) (by decide +kernel), List.mem_of_getElem? (i := 462) (by decide +kernel)⟩
theorem lw_p9 : lw_okq (⟨"ChanceSteps$Reader", "readRest", "(LChanceSteps$Step;)Z"⟩, 9) := ⟨⟨by decide +kernel, by decide +kernel⟩, List.mem_of_getElem? (i := 34) (by decide +kernel), List.mem_of_getElem? (i := 477) (by decide +kernel), List.mem_of_getElem? (i := 478) (by decide +kernel)⟩
theorem lw_p10 : lw_okq (⟨"ChanceSteps$Reader", "readName", "(LChanceSteps$Step;)Z"⟩, 9) := ⟨⟨by decide +kernel, by decide +kernel⟩, List.mem_of_getElem? (i := 34) (by decide +kernel), List.mem_of_getElem? (i := 481) (by decide +kernel), List.mem_of_getElem? (i := 482) (by decide +kernel)⟩
theorem lw_p11 : lw_okq (⟨"ChanceSteps$Reader", "readLots", "(LChanceSteps$Step;)Z"⟩, 9) := ⟨⟨by decide +kernel, by decide +kernel⟩, List.mem_of_getElem? (i := 34) (by decide +kernel), List.mem_of_getElem? (i := 485) (by decide +kernel), List.mem_of_getElem? (i := 486) (by decide +kernel)⟩
theorem lw_p12 : lw_okq (⟨"ChanceSteps$Reader", "readLot", "()I"⟩, 9) := ⟨⟨by decide +kernel, by decide +kernel⟩, List.mem_of_getElem? (i := 34) (by decide +kernel), List.mem_of_getElem? (i := 489) (by decide +kernel), List.mem_of_getElem? (i := 490) (by decide +kernel)⟩
theorem lw_p13 : lw_okq (⟨"ChanceSteps$Reader", "isSign", "(I)Z"⟩, 9) := ⟨⟨by decide +kernel, by decide +kernel⟩, List.mem_of_getElem? (i := 34) (by decide +kernel), List.mem_of_getElem? (i := 493) (by decide +kernel), List.mem_of_getElem? (i := 494) (by decide +kernel)⟩
theorem lw_p14 : lw_okq (⟨"ChanceSteps$Reader", "readFormula", "(LChanceSteps$Step;)Z"⟩, 9) := ⟨⟨by decide +kernel, by decide +kernel⟩, List.mem_of_getElem? (i := 34) (by decide +kernel), List.mem_of_getElem? (i := 501) (by decide +kernel), List.mem_of_getElem? (i := 502) (by decide +kernel)⟩
theorem lw_p15 : lw_okq (⟨"ChanceSteps$Reader", "readComparison", "(LChanceSteps$Step;)Z"⟩, 9) := ⟨⟨by decide +kernel, by decide +kernel⟩, List.mem_of_getElem? (i := 34) (by decide +kernel), List.mem_of_getElem? (i := 505) (by decide +kernel), List.mem_of_getElem? (i := 506) (by decide +kernel)⟩
def lw_privs_1 : List (MethodName × Nat) := [(⟨"ChanceSteps", "append", "(I)V"⟩, 13), (⟨"ChanceSteps$Reader", "advance", "()V"⟩, 9), (⟨"ChanceSteps$Reader", "byteAt", "(I)I"⟩, 9), (⟨"ChanceSteps$Reader", "takeWord", "()V"⟩, 9), (⟨"ChanceSteps$Reader", "isSpelt", "(Ljava/lang/String;)Z"⟩, 9), (⟨"ChanceSteps$Reader", "takeNumber", "()V"⟩, 9), (⟨"ChanceSteps$Reader", "takeSign", "()V"⟩, 9), (⟨"ChanceSteps$Reader", "readBlock", "()Z"⟩, 9), (⟨"ChanceSteps$Reader", "readStep", "()Z"⟩, 9), (⟨"ChanceSteps$Reader", "readRest", "(LChanceSteps$Step;)Z"⟩, 9), (⟨"ChanceSteps$Reader", "readName", "(LChanceSteps$Step;)Z"⟩, 9), (⟨"ChanceSteps$Reader", "readLots", "(LChanceSteps$Step;)Z"⟩, 9), (⟨"ChanceSteps$Reader", "readLot", "()I"⟩, 9), (⟨"ChanceSteps$Reader", "isSign", "(I)Z"⟩, 9), (⟨"ChanceSteps$Reader", "readFormula", "(LChanceSteps$Step;)Z"⟩, 9), (⟨"ChanceSteps$Reader", "readComparison", "(LChanceSteps$Step;)Z"⟩, 9)]
theorem lw_r1 : ∀ q ∈ lw_privs_1, lw_okq q := List.forall_mem_cons.mpr ⟨lw_p0, List.forall_mem_cons.mpr ⟨lw_p1, List.forall_mem_cons.mpr ⟨lw_p2, List.forall_mem_cons.mpr ⟨lw_p3, List.forall_mem_cons.mpr ⟨lw_p4, List.forall_mem_cons.mpr ⟨lw_p5, List.forall_mem_cons.mpr ⟨lw_p6, List.forall_mem_cons.mpr ⟨lw_p7, List.forall_mem_cons.mpr ⟨lw_p8, List.forall_mem_cons.mpr ⟨lw_p9, List.forall_mem_cons.mpr ⟨lw_p10, List.forall_mem_cons.mpr ⟨lw_p11, List.forall_mem_cons.mpr ⟨lw_p12, List.forall_mem_cons.mpr ⟨lw_p13, List.forall_mem_cons.mpr ⟨lw_p14, List.forall_mem_cons.mpr ⟨lw_p15, fun _ h => absurd h List.not_mem_nil⟩⟩⟩⟩⟩⟩⟩⟩⟩⟩⟩⟩⟩⟩⟩⟩
theorem lw_p16 : lw_okq (⟨"ChanceSteps$Reader", "readSum", "(LChanceSteps$Step;)Z"⟩, 9) := ⟨⟨by decide +kernel, by decide +kernel⟩, List.mem_of_getElem? (i := 34) (by decide +kernel), List.mem_of_getElem? (i := 509) (by decide +kernel), List.mem_of_getElem? (i := 510) (by decide +kernel)⟩
theorem lw_p17 : lw_okq (⟨"ChanceSteps$Reader", "readTerm", "(LChanceSteps$Step;)Z"⟩, 9) := ⟨⟨by decide +kernel, by decide +kernel⟩, List.mem_of_getElem? (i := 34) (by decide +kernel), List.mem_of_getElem? (i := 513) (by decide +kernel), List.mem_of_getElem? (i := 514) (by decide +kernel)⟩
theorem lw_p18 : lw_okq (⟨"ChanceSteps$Reader", "readOne", "(LChanceSteps$Step;)Z"⟩, 9) := ⟨⟨by decide +kernel, by decide +kernel⟩, List.mem_of_getElem? (i := 34) (by decide +kernel), List.mem_of_getElem? (i := 517) (by decide +kernel), List.mem_of_getElem? (i := 518) (by decide +kernel)⟩
theorem lw_p19 : lw_okq (⟨"ChanceSteps$Reader", "readBraces", "()Z"⟩, 9) := ⟨⟨by decide +kernel, by decide +kernel⟩, List.mem_of_getElem? (i := 34) (by decide +kernel), List.mem_of_getElem? (i := 525) (by decide +kernel), List.mem_of_getElem? (i := 526) (by decide +kernel)⟩
theorem lw_p20 : lw_okq (⟨"ChanceSteps$Reader", "readSecond", "(LChanceSteps$Step;)Z"⟩, 9) := ⟨⟨by decide +kernel, by decide +kernel⟩, List.mem_of_getElem? (i := 34) (by decide +kernel), List.mem_of_getElem? (i := 529) (by decide +kernel), List.mem_of_getElem? (i := 530) (by decide +kernel)⟩
theorem lw_p21 : lw_okq (⟨"ChanceSteps$Reader", "readNumber", "(LChanceSteps$Step;I)Z"⟩, 9) := ⟨⟨by decide +kernel, by decide +kernel⟩, List.mem_of_getElem? (i := 34) (by decide +kernel), List.mem_of_getElem? (i := 533) (by decide +kernel), List.mem_of_getElem? (i := 534) (by decide +kernel)⟩
theorem lw_p22 : lw_okq (⟨"ChanceSteps$Program", "weighStep", "(LChanceSteps$Step;I[LChanceSteps$Program;)V"⟩, 16) := ⟨⟨by decide +kernel, by decide +kernel⟩, List.mem_of_getElem? (i := 185) (by decide +kernel), List.mem_of_getElem? (i := 541) (by decide +kernel), List.mem_of_getElem? (i := 542) (by decide +kernel)⟩
theorem lw_p23 : lw_okq (⟨"ChanceSteps$Program", "bitsOf", "(II)I"⟩, 16) := ⟨⟨by decide +kernel, by decide +kernel⟩, List.mem_of_getElem? (i := 185) (by decide +kernel), List.mem_of_getElem? (i := 552) (by decide +kernel), List.mem_of_getElem? (i := 553) (by decide +kernel)⟩
theorem lw_p24 : lw_okq (⟨"ChanceSteps$Program", "turnsOf", "(II)I"⟩, 16) := ⟨⟨by decide +kernel, by decide +kernel⟩, List.mem_of_getElem? (i := 185) (by decide +kernel), List.mem_of_getElem? (i := 556) (by decide +kernel), List.mem_of_getElem? (i := 557) (by decide +kernel)⟩
theorem lw_p25 : lw_okq (⟨"ChanceSteps", "isProgram", "(I)Z"⟩, 13) := ⟨⟨by decide +kernel, by decide +kernel⟩, List.mem_of_getElem? (i := 22) (by decide +kernel), List.mem_of_getElem? (i := 584) (by decide +kernel), List.mem_of_getElem? (i := 585) (by decide +kernel)⟩
theorem lw_p26 : lw_okq (⟨"ChanceSteps", "endOf", "(I)LChanceSteps$Crowd;"⟩, 13) := ⟨⟨by decide +kernel, by decide +kernel⟩, List.mem_of_getElem? (i := 22) (by decide +kernel), List.mem_of_getElem? (i := 588) (by decide +kernel), List.mem_of_getElem? (i := 589) (by decide +kernel)⟩
theorem lw_p27 : lw_okq (⟨"ChanceSteps$Walker", "walkBlock", "(LChanceSteps$Program;IILChanceSteps$Crowd;II)Z"⟩, 4) := ⟨⟨by decide +kernel, by decide +kernel⟩, List.mem_of_getElem? (i := 69) (by decide +kernel), List.mem_of_getElem? (i := 632) (by decide +kernel), List.mem_of_getElem? (i := 633) (by decide +kernel)⟩
theorem lw_p28 : lw_okq (⟨"ChanceSteps$Program", "neededAhead", "(IIII)I"⟩, 16) := ⟨⟨by decide +kernel, by decide +kernel⟩, List.mem_of_getElem? (i := 185) (by decide +kernel), List.mem_of_getElem? (i := 641) (by decide +kernel), List.mem_of_getElem? (i := 642) (by decide +kernel)⟩
theorem lw_p29 : lw_okq (⟨"ChanceSteps$Program", "neededAheadOf", "(III)I"⟩, 16) := ⟨⟨by decide +kernel, by decide +kernel⟩, List.mem_of_getElem? (i := 185) (by decide +kernel), List.mem_of_getElem? (i := 645) (by decide +kernel), List.mem_of_getElem? (i := 646) (by decide +kernel)⟩
theorem lw_p30 : lw_okq (⟨"ChanceSteps$Program", "neededAheadOfTimes", "(IIII)I"⟩, 16) := ⟨⟨by decide +kernel, by decide +kernel⟩, List.mem_of_getElem? (i := 185) (by decide +kernel), List.mem_of_getElem? (i := 649) (by decide +kernel), List.mem_of_getElem? (i := 650) (by decide +kernel)⟩
theorem lw_p31 : lw_okq (⟨"ChanceSteps$Walker", "walkStep", "(LChanceSteps$Program;ILChanceSteps$Crowd;II)Z"⟩, 4) := ⟨⟨by decide +kernel, by decide +kernel⟩, List.mem_of_getElem? (i := 69) (by decide +kernel), List.mem_of_getElem? (i := 653) (by decide +kernel), List.mem_of_getElem? (i := 654) (by decide +kernel)⟩
def lw_privs_2 : List (MethodName × Nat) := [(⟨"ChanceSteps$Reader", "readSum", "(LChanceSteps$Step;)Z"⟩, 9), (⟨"ChanceSteps$Reader", "readTerm", "(LChanceSteps$Step;)Z"⟩, 9), (⟨"ChanceSteps$Reader", "readOne", "(LChanceSteps$Step;)Z"⟩, 9), (⟨"ChanceSteps$Reader", "readBraces", "()Z"⟩, 9), (⟨"ChanceSteps$Reader", "readSecond", "(LChanceSteps$Step;)Z"⟩, 9), (⟨"ChanceSteps$Reader", "readNumber", "(LChanceSteps$Step;I)Z"⟩, 9), (⟨"ChanceSteps$Program", "weighStep", "(LChanceSteps$Step;I[LChanceSteps$Program;)V"⟩, 16), (⟨"ChanceSteps$Program", "bitsOf", "(II)I"⟩, 16), (⟨"ChanceSteps$Program", "turnsOf", "(II)I"⟩, 16), (⟨"ChanceSteps", "isProgram", "(I)Z"⟩, 13), (⟨"ChanceSteps", "endOf", "(I)LChanceSteps$Crowd;"⟩, 13), (⟨"ChanceSteps$Walker", "walkBlock", "(LChanceSteps$Program;IILChanceSteps$Crowd;II)Z"⟩, 4), (⟨"ChanceSteps$Program", "neededAhead", "(IIII)I"⟩, 16), (⟨"ChanceSteps$Program", "neededAheadOf", "(III)I"⟩, 16), (⟨"ChanceSteps$Program", "neededAheadOfTimes", "(IIII)I"⟩, 16), (⟨"ChanceSteps$Walker", "walkStep", "(LChanceSteps$Program;ILChanceSteps$Crowd;II)Z"⟩, 4)]
theorem lw_r2 : ∀ q ∈ lw_privs_2, lw_okq q := List.forall_mem_cons.mpr ⟨lw_p16, List.forall_mem_cons.mpr ⟨lw_p17, List.forall_mem_cons.mpr ⟨lw_p18, List.forall_mem_cons.mpr ⟨lw_p19, List.forall_mem_cons.mpr ⟨lw_p20, List.forall_mem_cons.mpr ⟨lw_p21, List.forall_mem_cons.mpr ⟨lw_p22, List.forall_mem_cons.mpr ⟨lw_p23, List.forall_mem_cons.mpr ⟨lw_p24, List.forall_mem_cons.mpr ⟨lw_p25, List.forall_mem_cons.mpr ⟨lw_p26, List.forall_mem_cons.mpr ⟨lw_p27, List.forall_mem_cons.mpr ⟨lw_p28, List.forall_mem_cons.mpr ⟨lw_p29, List.forall_mem_cons.mpr ⟨lw_p30, List.forall_mem_cons.mpr ⟨lw_p31, fun _ h => absurd h List.not_mem_nil⟩⟩⟩⟩⟩⟩⟩⟩⟩⟩⟩⟩⟩⟩⟩⟩
theorem lw_p32 : lw_okq (⟨"ChanceSteps$Walker", "walkDraw", "(LChanceSteps$Program;LChanceSteps$Step;LChanceSteps$Crowd;I)Z"⟩, 4) := ⟨⟨by decide +kernel, by decide +kernel⟩, List.mem_of_getElem? (i := 69) (by decide +kernel), List.mem_of_getElem? (i := 661) (by decide +kernel), List.mem_of_getElem? (i := 662) (by decide +kernel)⟩
theorem lw_p33 : lw_okq (⟨"ChanceSteps$Mixer", "putNew", "(IJI)Z"⟩, 5) := ⟨⟨by decide +kernel, by decide +kernel⟩, List.mem_of_getElem? (i := 75) (by decide +kernel), List.mem_of_getElem? (i := 683) (by decide +kernel), List.mem_of_getElem? (i := 684) (by decide +kernel)⟩
theorem lw_p34 : lw_okq (⟨"ChanceSteps$Walker", "walkLet", "(LChanceSteps$Program;LChanceSteps$Step;LChanceSteps$Crowd;I)Z"⟩, 4) := ⟨⟨by decide +kernel, by decide +kernel⟩, List.mem_of_getElem? (i := 69) (by decide +kernel), List.mem_of_getElem? (i := 692) (by decide +kernel), List.mem_of_getElem? (i := 693) (by decide +kernel)⟩
theorem lw_p35 : lw_okq (⟨"ChanceSteps$Walker", "walkSee", "(LChanceSteps$Program;LChanceSteps$Step;LChanceSteps$Crowd;I)Z"⟩, 4) := ⟨⟨by decide +kernel, by decide +kernel⟩, List.mem_of_getElem? (i := 69) (by decide +kernel), List.mem_of_getElem? (i := 711) (by decide +kernel), List.mem_of_getElem? (i := 712) (by decide +kernel)⟩
theorem lw_p36 : lw_okq (⟨"ChanceSteps$Walker", "walkIf", "(LChanceSteps$Program;ILChanceSteps$Crowd;II)Z"⟩, 4) := ⟨⟨by decide +kernel, by decide +kernel⟩, List.mem_of_getElem? (i := 69) (by decide +kernel), List.mem_of_getElem? (i := 716) (by decide +kernel), List.mem_of_getElem? (i := 717) (by decide +kernel)⟩
theorem lw_p37 : lw_okq (⟨"ChanceSteps$Walker", "lend", "()LChanceSteps$Crowd;"⟩, 4) := ⟨⟨by decide +kernel, by decide +kernel⟩, List.mem_of_getElem? (i := 69) (by decide +kernel), List.mem_of_getElem? (i := 720) (by decide +kernel), List.mem_of_getElem? (i := 721) (by decide +kernel)⟩
theorem lw_p38 : lw_okq (⟨"ChanceSteps$Walker", "split", "(LChanceSteps$Program;LChanceSteps$Step;LChanceSteps$Crowd;LChanceSteps$Crowd;)V"⟩, 4) := ⟨⟨by decide +kernel, by decide +kernel⟩, List.mem_of_getElem? (i := 69) (by decide +kernel), List.mem_of_getElem? (i := 724) (by decide +kernel), List.mem_of_getElem? (i := 725) (by decide +kernel)⟩
theorem lw_p39 : lw_okq (⟨"ChanceSteps$Walker", "giveBack", "()V"⟩, 4) := ⟨⟨by decide +kernel, by decide +kernel⟩, List.mem_of_getElem? (i := 69) (by decide +kernel), List.mem_of_getElem? (i := 729) (by decide +kernel), List.mem_of_getElem? (i := 730) (by decide +kernel)⟩
theorem lw_p40 : lw_okq (⟨"ChanceSteps$Walker", "walkLoop", "(LChanceSteps$Program;ILChanceSteps$Crowd;II)Z"⟩, 4) := ⟨⟨by decide +kernel, by decide +kernel⟩, List.mem_of_getElem? (i := 69) (by decide +kernel), List.mem_of_getElem? (i := 739) (by decide +kernel), List.mem_of_getElem? (i := 740) (by decide +kernel)⟩
theorem lw_p41 : lw_okq (⟨"ChanceSteps$Walker", "forget", "(LChanceSteps$Crowd;I)Z"⟩, 4) := ⟨⟨by decide +kernel, by decide +kernel⟩, List.mem_of_getElem? (i := 69) (by decide +kernel), List.mem_of_getElem? (i := 747) (by decide +kernel), List.mem_of_getElem? (i := 748) (by decide +kernel)⟩
theorem lw_p42 : lw_okq (⟨"ChanceSteps$Walker", "walkRun", "(LChanceSteps$Program;LChanceSteps$Step;LChanceSteps$Crowd;II)Z"⟩, 4) := ⟨⟨by decide +kernel, by decide +kernel⟩, List.mem_of_getElem? (i := 69) (by decide +kernel), List.mem_of_getElem? (i := 751) (by decide +kernel), List.mem_of_getElem? (i := 752) (by decide +kernel)⟩
theorem lw_p43 : lw_okq (⟨"ChanceSteps$Walker", "canRun", "(LChanceSteps$Program;LChanceSteps$Step;LChanceSteps$Crowd;LChanceSteps$Program;I)Z"⟩, 4) := ⟨⟨by decide +kernel, by decide +kernel⟩, List.mem_of_getElem? (i := 69) (by decide +kernel), List.mem_of_getElem? (i := 755) (by decide +kernel), List.mem_of_getElem? (i := 756) (by decide +kernel)⟩
theorem lw_p44 : lw_okq (⟨"ChanceSteps$Walker", "walkWhole", "(LChanceSteps$Program;II)V"⟩, 4) := ⟨⟨by decide +kernel, by decide +kernel⟩, List.mem_of_getElem? (i := 69) (by decide +kernel), List.mem_of_getElem? (i := 764) (by decide +kernel), List.mem_of_getElem? (i := 765) (by decide +kernel)⟩
theorem lw_p45 : lw_okq (⟨"ChanceSteps$Walker", "followBlock", "(LChanceSteps$Program;IIII)I"⟩, 4) := ⟨⟨by decide +kernel, by decide +kernel⟩, List.mem_of_getElem? (i := 69) (by decide +kernel), List.mem_of_getElem? (i := 891) (by decide +kernel), List.mem_of_getElem? (i := 892) (by decide +kernel)⟩
theorem lw_p46 : lw_okq (⟨"ChanceSteps$Walker", "followStep", "(LChanceSteps$Program;III)I"⟩, 4) := ⟨⟨by decide +kernel, by decide +kernel⟩, List.mem_of_getElem? (i := 69) (by decide +kernel), List.mem_of_getElem? (i := 895) (by decide +kernel), List.mem_of_getElem? (i := 896) (by decide +kernel)⟩
theorem lw_p47 : lw_okq (⟨"ChanceSteps$Walker", "drawn", "(LChanceSteps$Program;LChanceSteps$Step;)I"⟩, 4) := ⟨⟨by decide +kernel, by decide +kernel⟩, List.mem_of_getElem? (i := 69) (by decide +kernel), List.mem_of_getElem? (i := 899) (by decide +kernel), List.mem_of_getElem? (i := 900) (by decide +kernel)⟩
def lw_privs_3 : List (MethodName × Nat) := [(⟨"ChanceSteps$Walker", "walkDraw", "(LChanceSteps$Program;LChanceSteps$Step;LChanceSteps$Crowd;I)Z"⟩, 4), (⟨"ChanceSteps$Mixer", "putNew", "(IJI)Z"⟩, 5), (⟨"ChanceSteps$Walker", "walkLet", "(LChanceSteps$Program;LChanceSteps$Step;LChanceSteps$Crowd;I)Z"⟩, 4), (⟨"ChanceSteps$Walker", "walkSee", "(LChanceSteps$Program;LChanceSteps$Step;LChanceSteps$Crowd;I)Z"⟩, 4), (⟨"ChanceSteps$Walker", "walkIf", "(LChanceSteps$Program;ILChanceSteps$Crowd;II)Z"⟩, 4), (⟨"ChanceSteps$Walker", "lend", "()LChanceSteps$Crowd;"⟩, 4), (⟨"ChanceSteps$Walker", "split", "(LChanceSteps$Program;LChanceSteps$Step;LChanceSteps$Crowd;LChanceSteps$Crowd;)V"⟩, 4), (⟨"ChanceSteps$Walker", "giveBack", "()V"⟩, 4), (⟨"ChanceSteps$Walker", "walkLoop", "(LChanceSteps$Program;ILChanceSteps$Crowd;II)Z"⟩, 4), (⟨"ChanceSteps$Walker", "forget", "(LChanceSteps$Crowd;I)Z"⟩, 4), (⟨"ChanceSteps$Walker", "walkRun", "(LChanceSteps$Program;LChanceSteps$Step;LChanceSteps$Crowd;II)Z"⟩, 4), (⟨"ChanceSteps$Walker", "canRun", "(LChanceSteps$Program;LChanceSteps$Step;LChanceSteps$Crowd;LChanceSteps$Program;I)Z"⟩, 4), (⟨"ChanceSteps$Walker", "walkWhole", "(LChanceSteps$Program;II)V"⟩, 4), (⟨"ChanceSteps$Walker", "followBlock", "(LChanceSteps$Program;IIII)I"⟩, 4), (⟨"ChanceSteps$Walker", "followStep", "(LChanceSteps$Program;III)I"⟩, 4), (⟨"ChanceSteps$Walker", "drawn", "(LChanceSteps$Program;LChanceSteps$Step;)I"⟩, 4)]
theorem lw_r3 : ∀ q ∈ lw_privs_3, lw_okq q := List.forall_mem_cons.mpr ⟨lw_p32, List.forall_mem_cons.mpr ⟨lw_p33, List.forall_mem_cons.mpr ⟨lw_p34, List.forall_mem_cons.mpr ⟨lw_p35, List.forall_mem_cons.mpr ⟨lw_p36, List.forall_mem_cons.mpr ⟨lw_p37, List.forall_mem_cons.mpr ⟨lw_p38, List.forall_mem_cons.mpr ⟨lw_p39, List.forall_mem_cons.mpr ⟨lw_p40, List.forall_mem_cons.mpr ⟨lw_p41, List.forall_mem_cons.mpr ⟨lw_p42, List.forall_mem_cons.mpr ⟨lw_p43, List.forall_mem_cons.mpr ⟨lw_p44, List.forall_mem_cons.mpr ⟨lw_p45, List.forall_mem_cons.mpr ⟨lw_p46, List.forall_mem_cons.mpr ⟨lw_p47, fun _ h => absurd h List.not_mem_nil⟩⟩⟩⟩⟩⟩⟩⟩⟩⟩⟩⟩⟩⟩⟩⟩
theorem lw_p48 : lw_okq (⟨"ChanceSteps$Walker", "followLoop", "(LChanceSteps$Program;III)I"⟩, 4) := ⟨⟨by decide +kernel, by decide +kernel⟩, List.mem_of_getElem? (i := 69) (by decide +kernel), List.mem_of_getElem? (i := 904) (by decide +kernel), List.mem_of_getElem? (i := 905) (by decide +kernel)⟩
theorem lw_p49 : lw_okq (⟨"ChanceSteps$Walker", "followRun", "(LChanceSteps$Program;LChanceSteps$Step;II)I"⟩, 4) := ⟨⟨by decide +kernel, by decide +kernel⟩, List.mem_of_getElem? (i := 69) (by decide +kernel), List.mem_of_getElem? (i := 908) (by decide +kernel), List.mem_of_getElem? (i := 909) (by decide +kernel)⟩
theorem lw_p50 : lw_okq (⟨"ChanceSteps", "firstOtherwise", "(LChanceSteps$Sheet;LChanceSteps$Crowd;I)I"⟩, 13) := ⟨⟨by decide +kernel, by decide +kernel⟩, List.mem_of_getElem? (i := 22) (by decide +kernel), List.mem_of_getElem? (i := 924) (by decide +kernel), List.mem_of_getElem? (i := 925) (by decide +kernel)⟩
theorem lw_p51 : lw_okq (⟨"ChanceSteps", "programsThatTell", "(LChanceSteps$Sheet;I)I"⟩, 13) := ⟨⟨by decide +kernel, by decide +kernel⟩, List.mem_of_getElem? (i := 22) (by decide +kernel), List.mem_of_getElem? (i := 932) (by decide +kernel), List.mem_of_getElem? (i := 933) (by decide +kernel)⟩
theorem lw_p52 : lw_okq (⟨"ChanceSteps", "wouldTell", "(LChanceSteps$Sheet;LChanceSteps$Crowd;I)Z"⟩, 13) := ⟨⟨by decide +kernel, by decide +kernel⟩, List.mem_of_getElem? (i := 22) (by decide +kernel), List.mem_of_getElem? (i := 936) (by decide +kernel), List.mem_of_getElem? (i := 937) (by decide +kernel)⟩
theorem lw_p53 : lw_okq (⟨"ChanceSteps", "namesThatTell", "(LChanceSteps$Sheet;LChanceSteps$Crowd;)I"⟩, 13) := ⟨⟨by decide +kernel, by decide +kernel⟩, List.mem_of_getElem? (i := 22) (by decide +kernel), List.mem_of_getElem? (i := 940) (by decide +kernel), List.mem_of_getElem? (i := 941) (by decide +kernel)⟩
theorem lw_p54 : lw_okq (⟨"ChanceSteps", "startsThatTell", "(LChanceSteps$Sheet;II)I"⟩, 13) := ⟨⟨by decide +kernel, by decide +kernel⟩, List.mem_of_getElem? (i := 22) (by decide +kernel), List.mem_of_getElem? (i := 944) (by decide +kernel), List.mem_of_getElem? (i := 945) (by decide +kernel)⟩
theorem lw_p55 : lw_okq (⟨"ChanceStepsModel", "next", "()V"⟩, 43) := ⟨⟨by decide +kernel, by decide +kernel⟩, List.mem_of_getElem? (i := 991) (by decide +kernel), List.mem_of_getElem? (i := 1169) (by decide +kernel), List.mem_of_getElem? (i := 1170) (by decide +kernel)⟩
theorem lw_p56 : lw_okq (⟨"ChanceStepsModel", "byteAt", "(I)I"⟩, 43) := ⟨⟨by decide +kernel, by decide +kernel⟩, List.mem_of_getElem? (i := 991) (by decide +kernel), List.mem_of_getElem? (i := 1173) (by decide +kernel), List.mem_of_getElem? (i := 1174) (by decide +kernel)⟩
theorem lw_p57 : lw_okq (⟨"ChanceStepsModel", "wordRead", "()I"⟩, 43) := ⟨⟨by decide +kernel, by decide +kernel⟩, List.mem_of_getElem? (i := 991) (by decide +kernel), List.mem_of_getElem? (i := 1177) (by decide +kernel), List.mem_of_getElem? (i := 1178) (by decide +kernel)⟩
theorem lw_p58 : lw_okq (⟨"ChanceStepsModel", "isWord", "(Ljava/lang/String;)Z"⟩, 43) := ⟨⟨by decide +kernel, by decide +kernel⟩, List.mem_of_getElem? (i := 991) (by decide +kernel), List.mem_of_getElem? (i := 1182) (by decide +kernel), List.mem_of_getElem? (i := 1183) (by decide +kernel)⟩
theorem lw_p59 : lw_okq (⟨"ChanceStepsModel", "block", "()V"⟩, 43) := ⟨⟨by decide +kernel, by decide +kernel⟩, List.mem_of_getElem? (i := 991) (by decide +kernel), List.mem_of_getElem? (i := 1249) (by decide +kernel), List.mem_of_getElem? (i := 1250) (by decide +kernel)⟩
theorem lw_p60 : lw_okq (⟨"ChanceStepsModel", "step", "()V"⟩, 43) := ⟨⟨by decide +kernel, by decide +kernel⟩, List.mem_of_getElem? (i := 991) (by decide +kernel), List.mem_of_getElem? (i := 1253) (by decide +kernel), List.mem_of_getElem? (i := 1254) (by decide +kernel)⟩
theorem lw_p61 : lw_okq (⟨"ChanceStepsModel", "takes", "(III)I"⟩, 43) := ⟨⟨by decide +kernel, by decide +kernel⟩, List.mem_of_getElem? (i := 991) (by decide +kernel), List.mem_of_getElem? (i := 1257) (by decide +kernel), List.mem_of_getElem? (i := 1258) (by decide +kernel)⟩
theorem lw_p62 : lw_okq (⟨"ChanceStepsModel", "lotsOf", "(II)V"⟩, 43) := ⟨⟨by decide +kernel, by decide +kernel⟩, List.mem_of_getElem? (i := 991) (by decide +kernel), List.mem_of_getElem? (i := 1261) (by decide +kernel), List.mem_of_getElem? (i := 1262) (by decide +kernel)⟩
theorem lw_p63 : lw_okq (⟨"ChanceStepsModel", "need", "(I)V"⟩, 43) := ⟨⟨by decide +kernel, by decide +kernel⟩, List.mem_of_getElem? (i := 991) (by decide +kernel), List.mem_of_getElem? (i := 1265) (by decide +kernel), List.mem_of_getElem? (i := 1266) (by decide +kernel)⟩
def lw_privs_4 : List (MethodName × Nat) := [(⟨"ChanceSteps$Walker", "followLoop", "(LChanceSteps$Program;III)I"⟩, 4), (⟨"ChanceSteps$Walker", "followRun", "(LChanceSteps$Program;LChanceSteps$Step;II)I"⟩, 4), (⟨"ChanceSteps", "firstOtherwise", "(LChanceSteps$Sheet;LChanceSteps$Crowd;I)I"⟩, 13), (⟨"ChanceSteps", "programsThatTell", "(LChanceSteps$Sheet;I)I"⟩, 13), (⟨"ChanceSteps", "wouldTell", "(LChanceSteps$Sheet;LChanceSteps$Crowd;I)Z"⟩, 13), (⟨"ChanceSteps", "namesThatTell", "(LChanceSteps$Sheet;LChanceSteps$Crowd;)I"⟩, 13), (⟨"ChanceSteps", "startsThatTell", "(LChanceSteps$Sheet;II)I"⟩, 13), (⟨"ChanceStepsModel", "next", "()V"⟩, 43), (⟨"ChanceStepsModel", "byteAt", "(I)I"⟩, 43), (⟨"ChanceStepsModel", "wordRead", "()I"⟩, 43), (⟨"ChanceStepsModel", "isWord", "(Ljava/lang/String;)Z"⟩, 43), (⟨"ChanceStepsModel", "block", "()V"⟩, 43), (⟨"ChanceStepsModel", "step", "()V"⟩, 43), (⟨"ChanceStepsModel", "takes", "(III)I"⟩, 43), (⟨"ChanceStepsModel", "lotsOf", "(II)V"⟩, 43), (⟨"ChanceStepsModel", "need", "(I)V"⟩, 43)]
theorem lw_r4 : ∀ q ∈ lw_privs_4, lw_okq q := List.forall_mem_cons.mpr ⟨lw_p48, List.forall_mem_cons.mpr ⟨lw_p49, List.forall_mem_cons.mpr ⟨lw_p50, List.forall_mem_cons.mpr ⟨lw_p51, List.forall_mem_cons.mpr ⟨lw_p52, List.forall_mem_cons.mpr ⟨lw_p53, List.forall_mem_cons.mpr ⟨lw_p54, List.forall_mem_cons.mpr ⟨lw_p55, List.forall_mem_cons.mpr ⟨lw_p56, List.forall_mem_cons.mpr ⟨lw_p57, List.forall_mem_cons.mpr ⟨lw_p58, List.forall_mem_cons.mpr ⟨lw_p59, List.forall_mem_cons.mpr ⟨lw_p60, List.forall_mem_cons.mpr ⟨lw_p61, List.forall_mem_cons.mpr ⟨lw_p62, List.forall_mem_cons.mpr ⟨lw_p63, fun _ h => absurd h List.not_mem_nil⟩⟩⟩⟩⟩⟩⟩⟩⟩⟩⟩⟩⟩⟩⟩⟩
theorem lw_p64 : lw_okq (⟨"ChanceStepsModel", "isSign", "(I)Z"⟩, 43) := ⟨⟨by decide +kernel, by decide +kernel⟩, List.mem_of_getElem? (i := 991) (by decide +kernel), List.mem_of_getElem? (i := 1269) (by decide +kernel), List.mem_of_getElem? (i := 1270) (by decide +kernel)⟩
theorem lw_p65 : lw_okq (⟨"ChanceStepsModel", "expression", "()I"⟩, 43) := ⟨⟨by decide +kernel, by decide +kernel⟩, List.mem_of_getElem? (i := 991) (by decide +kernel), List.mem_of_getElem? (i := 1273) (by decide +kernel), List.mem_of_getElem? (i := 1274) (by decide +kernel)⟩
theorem lw_p66 : lw_okq (⟨"ChanceStepsModel", "sum", "()I"⟩, 43) := ⟨⟨by decide +kernel, by decide +kernel⟩, List.mem_of_getElem? (i := 991) (by decide +kernel), List.mem_of_getElem? (i := 1277) (by decide +kernel), List.mem_of_getElem? (i := 1278) (by decide +kernel)⟩
theorem lw_p67 : lw_okq (⟨"ChanceStepsModel", "term", "()I"⟩, 43) := ⟨⟨by decide +kernel, by decide +kernel⟩, List.mem_of_getElem? (i := 991) (by decide +kernel), List.mem_of_getElem? (i := 1281) (by decide +kernel), List.mem_of_getElem? (i := 1282) (by decide +kernel)⟩
theorem lw_p68 : lw_okq (⟨"ChanceStepsModel", "one", "()I"⟩, 43) := ⟨⟨by decide +kernel, by decide +kernel⟩, List.mem_of_getElem? (i := 991) (by decide +kernel), List.mem_of_getElem? (i := 1285) (by decide +kernel), List.mem_of_getElem? (i := 1286) (by decide +kernel)⟩
theorem lw_p69 : lw_okq (⟨"ChanceStepsModel", "node", "(IIII)I"⟩, 43) := ⟨⟨by decide +kernel, by decide +kernel⟩, List.mem_of_getElem? (i := 991) (by decide +kernel), List.mem_of_getElem? (i := 1289) (by decide +kernel), List.mem_of_getElem? (i := 1290) (by decide +kernel)⟩
theorem lw_p70 : lw_okq (⟨"ChanceStepsModel", "inBraces", "()V"⟩, 43) := ⟨⟨by decide +kernel, by decide +kernel⟩, List.mem_of_getElem? (i := 991) (by decide +kernel), List.mem_of_getElem? (i := 1293) (by decide +kernel), List.mem_of_getElem? (i := 1294) (by decide +kernel)⟩
theorem lw_p71 : lw_okq (⟨"ChanceStepsModel", "bitsOf", "(III)I"⟩, 43) := ⟨⟨by decide +kernel, by decide +kernel⟩, List.mem_of_getElem? (i := 991) (by decide +kernel), List.mem_of_getElem? (i := 1297) (by decide +kernel), List.mem_of_getElem? (i := 1298) (by decide +kernel)⟩
theorem lw_p72 : lw_okq (⟨"ChanceStepsModel", "bitsOfStep", "(II)I"⟩, 43) := ⟨⟨by decide +kernel, by decide +kernel⟩, List.mem_of_getElem? (i := 991) (by decide +kernel), List.mem_of_getElem? (i := 1301) (by decide +kernel), List.mem_of_getElem? (i := 1302) (by decide +kernel)⟩
theorem lw_p73 : lw_okq (⟨"ChanceStepsModel", "lotsAll", "(II)I"⟩, 43) := ⟨⟨by decide +kernel, by decide +kernel⟩, List.mem_of_getElem? (i := 991) (by decide +kernel), List.mem_of_getElem? (i := 1305) (by decide +kernel), List.mem_of_getElem? (i := 1306) (by decide +kernel)⟩
theorem lw_p74 : lw_okq (⟨"ChanceStepsModel", "turnsOf", "(III)I"⟩, 43) := ⟨⟨by decide +kernel, by decide +kernel⟩, List.mem_of_getElem? (i := 991) (by decide +kernel), List.mem_of_getElem? (i := 1314) (by decide +kernel), List.mem_of_getElem? (i := 1315) (by decide +kernel)⟩
theorem lw_p75 : lw_okq (⟨"ChanceStepsModel", "turnsOfStep", "(II)I"⟩, 43) := ⟨⟨by decide +kernel, by decide +kernel⟩, List.mem_of_getElem? (i := 991) (by decide +kernel), List.mem_of_getElem? (i := 1318) (by decide +kernel), List.mem_of_getElem? (i := 1319) (by decide +kernel)⟩
theorem lw_p76 : lw_okq (⟨"ChanceStepsModel", "isProgram", "(I)Z"⟩, 43) := ⟨⟨by decide +kernel, by decide +kernel⟩, List.mem_of_getElem? (i := 991) (by decide +kernel), List.mem_of_getElem? (i := 1333) (by decide +kernel), List.mem_of_getElem? (i := 1334) (by decide +kernel)⟩
theorem lw_p77 : lw_okq (⟨"ChanceStepsModel", "neededFrom", "(IIII)I"⟩, 43) := ⟨⟨by decide +kernel, by decide +kernel⟩, List.mem_of_getElem? (i := 991) (by decide +kernel), List.mem_of_getElem? (i := 1337) (by decide +kernel), List.mem_of_getElem? (i := 1338) (by decide +kernel)⟩
theorem lw_p78 : lw_okq (⟨"ChanceStepsModel", "neededAhead", "(III)I"⟩, 43) := ⟨⟨by decide +kernel, by decide +kernel⟩, List.mem_of_getElem? (i := 991) (by decide +kernel), List.mem_of_getElem? (i := 1341) (by decide +kernel), List.mem_of_getElem? (i := 1342) (by decide +kernel)⟩
theorem lw_p79 : lw_okq (⟨"ChanceStepsModel", "namesIn", "(II)I"⟩, 43) := ⟨⟨by decide +kernel, by decide +kernel⟩, List.mem_of_getElem? (i := 991) (by decide +kernel), List.mem_of_getElem? (i := 1345) (by decide +kernel), List.mem_of_getElem? (i := 1346) (by decide +kernel)⟩
def lw_privs_5 : List (MethodName × Nat) := [(⟨"ChanceStepsModel", "isSign", "(I)Z"⟩, 43), (⟨"ChanceStepsModel", "expression", "()I"⟩, 43), (⟨"ChanceStepsModel", "sum", "()I"⟩, 43), (⟨"ChanceStepsModel", "term", "()I"⟩, 43), (⟨"ChanceStepsModel", "one", "()I"⟩, 43), (⟨"ChanceStepsModel", "node", "(IIII)I"⟩, 43), (⟨"ChanceStepsModel", "inBraces", "()V"⟩, 43), (⟨"ChanceStepsModel", "bitsOf", "(III)I"⟩, 43), (⟨"ChanceStepsModel", "bitsOfStep", "(II)I"⟩, 43), (⟨"ChanceStepsModel", "lotsAll", "(II)I"⟩, 43), (⟨"ChanceStepsModel", "turnsOf", "(III)I"⟩, 43), (⟨"ChanceStepsModel", "turnsOfStep", "(II)I"⟩, 43), (⟨"ChanceStepsModel", "isProgram", "(I)Z"⟩, 43), (⟨"ChanceStepsModel", "neededFrom", "(IIII)I"⟩, 43), (⟨"ChanceStepsModel", "neededAhead", "(III)I"⟩, 43), (⟨"ChanceStepsModel", "namesIn", "(II)I"⟩, 43)]
theorem lw_r5 : ∀ q ∈ lw_privs_5, lw_okq q := List.forall_mem_cons.mpr ⟨lw_p64, List.forall_mem_cons.mpr ⟨lw_p65, List.forall_mem_cons.mpr ⟨lw_p66, List.forall_mem_cons.mpr ⟨lw_p67, List.forall_mem_cons.mpr ⟨lw_p68, List.forall_mem_cons.mpr ⟨lw_p69, List.forall_mem_cons.mpr ⟨lw_p70, List.forall_mem_cons.mpr ⟨lw_p71, List.forall_mem_cons.mpr ⟨lw_p72, List.forall_mem_cons.mpr ⟨lw_p73, List.forall_mem_cons.mpr ⟨lw_p74, List.forall_mem_cons.mpr ⟨lw_p75, List.forall_mem_cons.mpr ⟨lw_p76, List.forall_mem_cons.mpr ⟨lw_p77, List.forall_mem_cons.mpr ⟨lw_p78, List.forall_mem_cons.mpr ⟨lw_p79, fun _ h => absurd h List.not_mem_nil⟩⟩⟩⟩⟩⟩⟩⟩⟩⟩⟩⟩⟩⟩⟩⟩
theorem lw_p80 : lw_okq (⟨"ChanceStepsModel", "sees", "(I)Z"⟩, 43) := ⟨⟨by decide +kernel, by decide +kernel⟩, List.mem_of_getElem? (i := 991) (by decide +kernel), List.mem_of_getElem? (i := 1349) (by decide +kernel), List.mem_of_getElem? (i := 1350) (by decide +kernel)⟩
theorem lw_p81 : lw_okq (⟨"ChanceStepsModel", "odds", "(II)LChanceStepsModel$Odds;"⟩, 43) := ⟨⟨by decide +kernel, by decide +kernel⟩, List.mem_of_getElem? (i := 991) (by decide +kernel), List.mem_of_getElem? (i := 1357) (by decide +kernel), List.mem_of_getElem? (i := 1358) (by decide +kernel)⟩
theorem lw_p82 : lw_okq (⟨"ChanceStepsModel", "oddsBeside", "(II)LChanceStepsModel$Odds;"⟩, 43) := ⟨⟨by decide +kernel, by decide +kernel⟩, List.mem_of_getElem? (i := 991) (by decide +kernel), List.mem_of_getElem? (i := 1361) (by decide +kernel), List.mem_of_getElem? (i := 1362) (by decide +kernel)⟩
theorem lw_p83 : lw_okq (⟨"ChanceStepsModel", "taken", "()LChanceStepsModel$Odds;"⟩, 43) := ⟨⟨by decide +kernel, by decide +kernel⟩, List.mem_of_getElem? (i := 991) (by decide +kernel), List.mem_of_getElem? (i := 1365) (by decide +kernel), List.mem_of_getElem? (i := 1366) (by decide +kernel)⟩
theorem lw_p84 : lw_okq (⟨"ChanceStepsModel", "startState", "()I"⟩, 43) := ⟨⟨by decide +kernel, by decide +kernel⟩, List.mem_of_getElem? (i := 991) (by decide +kernel), List.mem_of_getElem? (i := 1369) (by decide +kernel), List.mem_of_getElem? (i := 1370) (by decide +kernel)⟩
theorem lw_p85 : lw_okq (⟨"ChanceStepsModel", "forget", "(LChanceStepsModel$Odds;I)LChanceStepsModel$Odds;"⟩, 43) := ⟨⟨by decide +kernel, by decide +kernel⟩, List.mem_of_getElem? (i := 991) (by decide +kernel), List.mem_of_getElem? (i := 1379) (by decide +kernel), List.mem_of_getElem? (i := 1380) (by decide +kernel)⟩
theorem lw_p86 : lw_okq (⟨"ChanceStepsModel", "make", "(IIILChanceStepsModel$Odds;I)LChanceStepsModel$Odds;"⟩, 43) := ⟨⟨by decide +kernel, by decide +kernel⟩, List.mem_of_getElem? (i := 991) (by decide +kernel), List.mem_of_getElem? (i := 1392) (by decide +kernel), List.mem_of_getElem? (i := 1393) (by decide +kernel)⟩
theorem lw_p87 : lw_okq (⟨"ChanceStepsModel", "makeStep", "(IILChanceStepsModel$Odds;I)LChanceStepsModel$Odds;"⟩, 43) := ⟨⟨by decide +kernel, by decide +kernel⟩, List.mem_of_getElem? (i := 991) (by decide +kernel), List.mem_of_getElem? (i := 1400) (by decide +kernel), List.mem_of_getElem? (i := 1401) (by decide +kernel)⟩
theorem lw_p88 : lw_okq (⟨"ChanceStepsModel", "draw", "(IILChanceStepsModel$Odds;)LChanceStepsModel$Odds;"⟩, 43) := ⟨⟨by decide +kernel, by decide +kernel⟩, List.mem_of_getElem? (i := 991) (by decide +kernel), List.mem_of_getElem? (i := 1404) (by decide +kernel), List.mem_of_getElem? (i := 1405) (by decide +kernel)⟩
theorem lw_p89 : lw_okq (⟨"ChanceStepsModel", "let", "(IILChanceStepsModel$Odds;)LChanceStepsModel$Odds;"⟩, 43) := ⟨⟨by decide +kernel, by decide +kernel⟩, List.mem_of_getElem? (i := 991) (by decide +kernel), List.mem_of_getElem? (i := 1408) (by decide +kernel), List.mem_of_getElem? (i := 1409) (by decide +kernel)⟩
theorem lw_p90 : lw_okq (⟨"ChanceStepsModel", "worth", "(III)I"⟩, 43) := ⟨⟨by decide +kernel, by decide +kernel⟩, List.mem_of_getElem? (i := 991) (by decide +kernel), List.mem_of_getElem? (i := 1412) (by decide +kernel), List.mem_of_getElem? (i := 1413) (by decide +kernel)⟩
theorem lw_p91 : lw_okq (⟨"ChanceStepsModel", "split", "(IILChanceStepsModel$Odds;Z)LChanceStepsModel$Odds;"⟩, 43) := ⟨⟨by decide +kernel, by decide +kernel⟩, List.mem_of_getElem? (i := 991) (by decide +kernel), List.mem_of_getElem? (i := 1419) (by decide +kernel), List.mem_of_getElem? (i := 1420) (by decide +kernel)⟩
theorem lw_p92 : lw_okq (⟨"ChanceStepsModel", "choose", "(IILChanceStepsModel$Odds;I)LChanceStepsModel$Odds;"⟩, 43) := ⟨⟨by decide +kernel, by decide +kernel⟩, List.mem_of_getElem? (i := 991) (by decide +kernel), List.mem_of_getElem? (i := 1423) (by decide +kernel), List.mem_of_getElem? (i := 1424) (by decide +kernel)⟩
theorem lw_p93 : lw_okq (⟨"ChanceStepsModel", "loop", "(IILChanceStepsModel$Odds;I)LChanceStepsModel$Odds;"⟩, 43) := ⟨⟨by decide +kernel, by decide +kernel⟩, List.mem_of_getElem? (i := 991) (by decide +kernel), List.mem_of_getElem? (i := 1427) (by decide +kernel), List.mem_of_getElem? (i := 1428) (by decide +kernel)⟩
theorem lw_p94 : lw_okq (⟨"ChanceStepsModel", "run", "(IILChanceStepsModel$Odds;)LChanceStepsModel$Odds;"⟩, 43) := ⟨⟨by decide +kernel, by decide +kernel⟩, List.mem_of_getElem? (i := 991) (by decide +kernel), List.mem_of_getElem? (i := 1431) (by decide +kernel), List.mem_of_getElem? (i := 1432) (by decide +kernel)⟩
theorem lw_p95 : lw_okq (⟨"ChanceStepsModel", "tell", "(II)V"⟩, 43) := ⟨⟨by decide +kernel, by decide +kernel⟩, List.mem_of_getElem? (i := 991) (by decide +kernel), List.mem_of_getElem? (i := 1435) (by decide +kernel), List.mem_of_getElem? (i := 1436) (by decide +kernel)⟩
def lw_privs_6 : List (MethodName × Nat) := [(⟨"ChanceStepsModel", "sees", "(I)Z"⟩, 43), (⟨"ChanceStepsModel", "odds", "(II)LChanceStepsModel$Odds;"⟩, 43), (⟨"ChanceStepsModel", "oddsBeside", "(II)LChanceStepsModel$Odds;"⟩, 43), (⟨"ChanceStepsModel", "taken", "()LChanceStepsModel$Odds;"⟩, 43), (⟨"ChanceStepsModel", "startState", "()I"⟩, 43), (⟨"ChanceStepsModel", "forget", "(LChanceStepsModel$Odds;I)LChanceStepsModel$Odds;"⟩, 43), (⟨"ChanceStepsModel", "make", "(IIILChanceStepsModel$Odds;I)LChanceStepsModel$Odds;"⟩, 43), (⟨"ChanceStepsModel", "makeStep", "(IILChanceStepsModel$Odds;I)LChanceStepsModel$Odds;"⟩, 43), (⟨"ChanceStepsModel", "draw", "(IILChanceStepsModel$Odds;)LChanceStepsModel$Odds;"⟩, 43), (⟨"ChanceStepsModel", "let", "(IILChanceStepsModel$Odds;)LChanceStepsModel$Odds;"⟩, 43), (⟨"ChanceStepsModel", "worth", "(III)I"⟩, 43), (⟨"ChanceStepsModel", "split", "(IILChanceStepsModel$Odds;Z)LChanceStepsModel$Odds;"⟩, 43), (⟨"ChanceStepsModel", "choose", "(IILChanceStepsModel$Odds;I)LChanceStepsModel$Odds;"⟩, 43), (⟨"ChanceStepsModel", "loop", "(IILChanceStepsModel$Odds;I)LChanceStepsModel$Odds;"⟩, 43), (⟨"ChanceStepsModel", "run", "(IILChanceStepsModel$Odds;)LChanceStepsModel$Odds;"⟩, 43), (⟨"ChanceStepsModel", "tell", "(II)V"⟩, 43)]
theorem lw_r6 : ∀ q ∈ lw_privs_6, lw_okq q := List.forall_mem_cons.mpr ⟨lw_p80, List.forall_mem_cons.mpr ⟨lw_p81, List.forall_mem_cons.mpr ⟨lw_p82, List.forall_mem_cons.mpr ⟨lw_p83, List.forall_mem_cons.mpr ⟨lw_p84, List.forall_mem_cons.mpr ⟨lw_p85, List.forall_mem_cons.mpr ⟨lw_p86, List.forall_mem_cons.mpr ⟨lw_p87, List.forall_mem_cons.mpr ⟨lw_p88, List.forall_mem_cons.mpr ⟨lw_p89, List.forall_mem_cons.mpr ⟨lw_p90, List.forall_mem_cons.mpr ⟨lw_p91, List.forall_mem_cons.mpr ⟨lw_p92, List.forall_mem_cons.mpr ⟨lw_p93, List.forall_mem_cons.mpr ⟨lw_p94, List.forall_mem_cons.mpr ⟨lw_p95, fun _ h => absurd h List.not_mem_nil⟩⟩⟩⟩⟩⟩⟩⟩⟩⟩⟩⟩⟩⟩⟩⟩
theorem lw_p96 : lw_okq (⟨"ChanceStepsModel", "against", "(LChanceStepsModel$Odds;)I"⟩, 43) := ⟨⟨by decide +kernel, by decide +kernel⟩, List.mem_of_getElem? (i := 991) (by decide +kernel), List.mem_of_getElem? (i := 1474) (by decide +kernel), List.mem_of_getElem? (i := 1475) (by decide +kernel)⟩
theorem lw_p97 : lw_okq (⟨"ChanceStepsModel", "comesBy", "(II)I"⟩, 43) := ⟨⟨by decide +kernel, by decide +kernel⟩, List.mem_of_getElem? (i := 991) (by decide +kernel), List.mem_of_getElem? (i := 1515) (by decide +kernel), List.mem_of_getElem? (i := 1516) (by decide +kernel)⟩
theorem lw_p98 : lw_okq (⟨"ChanceStepsModel", "come", "(IIII)I"⟩, 43) := ⟨⟨by decide +kernel, by decide +kernel⟩, List.mem_of_getElem? (i := 991) (by decide +kernel), List.mem_of_getElem? (i := 1519) (by decide +kernel), List.mem_of_getElem? (i := 1520) (by decide +kernel)⟩
theorem lw_p99 : lw_okq (⟨"ChanceStepsModel", "comeStep", "(III)I"⟩, 43) := ⟨⟨by decide +kernel, by decide +kernel⟩, List.mem_of_getElem? (i := 991) (by decide +kernel), List.mem_of_getElem? (i := 1523) (by decide +kernel), List.mem_of_getElem? (i := 1524) (by decide +kernel)⟩
theorem lw_p100 : lw_okq (⟨"ChanceStepsModel", "otherwise", "(ILChanceStepsModel$Odds;I)I"⟩, 43) := ⟨⟨by decide +kernel, by decide +kernel⟩, List.mem_of_getElem? (i := 991) (by decide +kernel), List.mem_of_getElem? (i := 1539) (by decide +kernel), List.mem_of_getElem? (i := 1540) (by decide +kernel)⟩
theorem lw_p101 : lw_okq (⟨"ChanceStepsModel", "isSo", "(III)Z"⟩, 43) := ⟨⟨by decide +kernel, by decide +kernel⟩, List.mem_of_getElem? (i := 991) (by decide +kernel), List.mem_of_getElem? (i := 1547) (by decide +kernel), List.mem_of_getElem? (i := 1548) (by decide +kernel)⟩
def lw_privs_7 : List (MethodName × Nat) := [(⟨"ChanceStepsModel", "against", "(LChanceStepsModel$Odds;)I"⟩, 43), (⟨"ChanceStepsModel", "comesBy", "(II)I"⟩, 43), (⟨"ChanceStepsModel", "come", "(IIII)I"⟩, 43), (⟨"ChanceStepsModel", "comeStep", "(III)I"⟩, 43), (⟨"ChanceStepsModel", "otherwise", "(ILChanceStepsModel$Odds;I)I"⟩, 43), (⟨"ChanceStepsModel", "isSo", "(III)Z"⟩, 43)]
theorem lw_r7 : ∀ q ∈ lw_privs_7, lw_okq q := List.forall_mem_cons.mpr ⟨lw_p96, List.forall_mem_cons.mpr ⟨lw_p97, List.forall_mem_cons.mpr ⟨lw_p98, List.forall_mem_cons.mpr ⟨lw_p99, List.forall_mem_cons.mpr ⟨lw_p100, List.forall_mem_cons.mpr ⟨lw_p101, fun _ h => absurd h List.not_mem_nil⟩⟩⟩⟩⟩⟩
def lw_privs : List (MethodName × Nat) := lw_privs_1 ++ (lw_privs_2 ++ (lw_privs_3 ++ (lw_privs_4 ++ (lw_privs_5 ++ (lw_privs_6 ++ (lw_privs_7))))))
def lw_tbl : List Cond := k2_sels lw_privs ++ tables_1
theorem lw_privs_ok : ∀ q ∈ lw_privs, lw_okq q := by
  show ∀ q ∈ lw_privs_1 ++ (lw_privs_2 ++ (lw_privs_3 ++ (lw_privs_4 ++ (lw_privs_5 ++ (lw_privs_6 ++ (lw_privs_7)))))), lw_okq q
  exact List.forall_mem_append.mpr ⟨lw_r1, List.forall_mem_append.mpr ⟨lw_r2, List.forall_mem_append.mpr ⟨lw_r3, List.forall_mem_append.mpr ⟨lw_r4, List.forall_mem_append.mpr ⟨lw_r5, List.forall_mem_append.mpr ⟨lw_r6, lw_r7⟩⟩⟩⟩⟩⟩
-- class tables, as printed
def RX0 : String := "ChanceSteps$Crowd"
def TX0 : u_T := fun k => match k with
  | 0 => ("ChanceSteps$Crowd", "states", "[I", false)
  | 1 => ("ChanceSteps$Crowd", "weights", "[J", false)
  | 2 => ("ChanceSteps$Crowd", "size", "I", false)
  | _ => ("ChanceSteps$Crowd", "most", "I", false)
def tyX0 : Nat → FieldType := fun k => match k with
  | 0 => .array .int
  | 1 => .array .long
  | 2 => .int
  | _ => .int
theorem nmX0 : ∀ a, a < 4 → ∀ b, b < 4 → a ≠ b → (TX0 a).2.1 ≠ (TX0 b).2.1 := by decide +kernel
theorem tyX0_ok : ∀ k, k < 4 → parseFieldDescriptor (TX0 k).2.2.1 = some (tyX0 k) := by decide +kernel
def RX1 : String := "ChanceSteps$Mixer"
def TX1 : u_T := fun k => match k with
  | 0 => ("ChanceSteps$Mixer", "states", "[I", false)
  | 1 => ("ChanceSteps$Mixer", "weights", "[J", false)
  | 2 => ("ChanceSteps$Mixer", "size", "I", false)
  | 3 => ("ChanceSteps$Mixer", "slots", "[I", true)
  | _ => ("ChanceSteps$Mixer", "homes", "[I", true)
def tyX1 : Nat → FieldType := fun k => match k with
  | 0 => .array .int
  | 1 => .array .long
  | 2 => .int
  | 3 => .array .int
  | _ => .array .int
theorem nmX1 : ∀ a, a < 5 → ∀ b, b < 5 → a ≠ b → (TX1 a).2.1 ≠ (TX1 b).2.1 := by decide +kernel
theorem tyX1_ok : ∀ k, k < 5 → parseFieldDescriptor (TX1 k).2.2.1 = some (tyX1 k) := by decide +kernel
def RX2 : String := "ChanceSteps$Program"
def TX2 : u_T := fun k => match k with
  | 0 => ("ChanceSteps$Program", "steps", "[LChanceSteps$Step;", true)
  | 1 => ("ChanceSteps$Program", "size", "I", false)
  | 2 => ("ChanceSteps$Program", "code", "[I", true)
  | 3 => ("ChanceSteps$Program", "codeSize", "I", false)
  | 4 => ("ChanceSteps$Program", "lotValues", "[I", true)
  | 5 => ("ChanceSteps$Program", "lotWeights", "[I", true)
  | 6 => ("ChanceSteps$Program", "lotSize", "I", false)
  | 7 => ("ChanceSteps$Program", "stack", "[I", true)
  | 8 => ("ChanceSteps$Program", "bits", "I", false)
  | 9 => ("ChanceSteps$Program", "turns", "I", false)
  | 10 => ("ChanceSteps$Program", "names", "I", false)
  | 11 => ("ChanceSteps$Program", "sees", "Z", false)
  | 12 => ("ChanceSteps$Program", "runs", "LChanceSteps$Runs;", true)
  | 13 => ("ChanceSteps$Program", "end", "LChanceSteps$Crowd;", false)
  | 14 => ("ChanceSteps$Program", "endStart", "I", false)
  | _ => ("ChanceSteps$Program", "endFits", "Z", false)
def tyX2 : Nat → FieldType := fun k => match k with
  | 0 => .array (.object "ChanceSteps$Step")
  | 1 => .int
  | 2 => .array .int
  | 3 => .int
  | 4 => .array .int
  | 5 => .array .int
  | 6 => .int
  | 7 => .array .int
  | 8 => .int
  | 9 => .int
  | 10 => .int
  | 11 => .boolean
  | 12 => .object "ChanceSteps$Runs"
  | 13 => .object "ChanceSteps$Crowd"
  | 14 => .int
  | _ => .boolean
theorem nmX2 : ∀ a, a < 16 → ∀ b, b < 16 → a ≠ b → (TX2 a).2.1 ≠ (TX2 b).2.1 := by decide +kernel
theorem tyX2_ok : ∀ k, k < 16 → parseFieldDescriptor (TX2 k).2.2.1 = some (tyX2 k) := by decide +kernel
def RX3 : String := "ChanceSteps$Reader"
def TX3 : u_T := fun k => match k with
  | 0 => ("ChanceSteps$Reader", "text", "[I", false)
  | 1 => ("ChanceSteps$Reader", "size", "I", false)
  | 2 => ("ChanceSteps$Reader", "program", "LChanceSteps$Program;", false)
  | 3 => ("ChanceSteps$Reader", "others", "I", false)
  | 4 => ("ChanceSteps$Reader", "at", "I", false)
  | 5 => ("ChanceSteps$Reader", "open", "I", false)
  | 6 => ("ChanceSteps$Reader", "place", "I", false)
  | 7 => ("ChanceSteps$Reader", "sort", "I", false)
  | _ => ("ChanceSteps$Reader", "value", "I", false)
def tyX3 : Nat → FieldType := fun k => match k with
  | 0 => .array .int
  | 1 => .int
  | 2 => .object "ChanceSteps$Program"
  | 3 => .int
  | 4 => .int
  | 5 => .int
  | 6 => .int
  | 7 => .int
  | _ => .int
theorem nmX3 : ∀ a, a < 9 → ∀ b, b < 9 → a ≠ b → (TX3 a).2.1 ≠ (TX3 b).2.1 := by decide +kernel
theorem tyX3_ok : ∀ k, k < 9 → parseFieldDescriptor (TX3 k).2.2.1 = some (tyX3 k) := by decide +kernel
def RX4 : String := "ChanceSteps$Runs"
def TX4 : u_T := fun k => match k with
  | 0 => ("ChanceSteps$Runs", "standing", "[I", true)
  | 1 => ("ChanceSteps$Runs", "weights", "[J", true)
  | _ => ("ChanceSteps$Runs", "row", "[J", true)
def tyX4 : Nat → FieldType := fun k => match k with
  | 0 => .array .int
  | 1 => .array .long
  | _ => .array .long
theorem nmX4 : ∀ a, a < 3 → ∀ b, b < 3 → a ≠ b → (TX4 a).2.1 ≠ (TX4 b).2.1 := by decide +kernel
theorem tyX4_ok : ∀ k, k < 3 → parseFieldDescriptor (TX4 k).2.2.1 = some (tyX4 k) := by decide +kernel
def RX5 : String := "ChanceSteps$Sheet"
def TX5 : u_T := fun k => match k with
  | 0 => ("ChanceSteps$Sheet", "cells", "[I", true)
  | 1 => ("ChanceSteps$Sheet", "sort", "I", false)
  | _ => ("ChanceSteps$Sheet", "size", "I", false)
def tyX5 : Nat → FieldType := fun k => match k with
  | 0 => .array .int
  | 1 => .int
  | _ => .int
theorem nmX5 : ∀ a, a < 3 → ∀ b, b < 3 → a ≠ b → (TX5 a).2.1 ≠ (TX5 b).2.1 := by decide +kernel
theorem tyX5_ok : ∀ k, k < 3 → parseFieldDescriptor (TX5 k).2.2.1 = some (tyX5 k) := by decide +kernel
def RX6 : String := "ChanceSteps$Step"
def TX6 : u_T := fun k => match k with
  | 0 => ("ChanceSteps$Step", "kind", "I", false)
  | 1 => ("ChanceSteps$Step", "name", "I", false)
  | 2 => ("ChanceSteps$Step", "number", "I", false)
  | 3 => ("ChanceSteps$Step", "inside", "I", false)
  | 4 => ("ChanceSteps$Step", "level", "I", false)
  | 5 => ("ChanceSteps$Step", "second", "I", false)
  | 6 => ("ChanceSteps$Step", "seen", "I", false)
  | 7 => ("ChanceSteps$Step", "bits", "I", false)
  | 8 => ("ChanceSteps$Step", "turns", "I", false)
  | 9 => ("ChanceSteps$Step", "codeFrom", "I", false)
  | 10 => ("ChanceSteps$Step", "codeTo", "I", false)
  | 11 => ("ChanceSteps$Step", "lotFrom", "I", false)
  | 12 => ("ChanceSteps$Step", "sees", "Z", false)
  | _ => ("ChanceSteps$Step", "ran", "LChanceSteps$Program;", false)
def tyX6 : Nat → FieldType := fun k => match k with
  | 0 => .int
  | 1 => .int
  | 2 => .int
  | 3 => .int
  | 4 => .int
  | 5 => .int
  | 6 => .int
  | 7 => .int
  | 8 => .int
  | 9 => .int
  | 10 => .int
  | 11 => .int
  | 12 => .boolean
  | _ => .object "ChanceSteps$Program"
theorem nmX6 : ∀ a, a < 14 → ∀ b, b < 14 → a ≠ b → (TX6 a).2.1 ≠ (TX6 b).2.1 := by decide +kernel
theorem tyX6_ok : ∀ k, k < 14 → parseFieldDescriptor (TX6 k).2.2.1 = some (tyX6 k) := by decide +kernel
def RX7 : String := "ChanceSteps$Walker"
def TX7 : u_T := fun k => match k with
  | 0 => ("ChanceSteps$Walker", "mixer", "LChanceSteps$Mixer;", true)
  | 1 => ("ChanceSteps$Walker", "spare", "[LChanceSteps$Crowd;", true)
  | 2 => ("ChanceSteps$Walker", "lent", "I", false)
  | _ => ("ChanceSteps$Walker", "z", "I", false)
def tyX7 : Nat → FieldType := fun k => match k with
  | 0 => .object "ChanceSteps$Mixer"
  | 1 => .array (.object "ChanceSteps$Crowd")
  | 2 => .int
  | _ => .int
theorem nmX7 : ∀ a, a < 4 → ∀ b, b < 4 → a ≠ b → (TX7 a).2.1 ≠ (TX7 b).2.1 := by decide +kernel
theorem tyX7_ok : ∀ k, k < 4 → parseFieldDescriptor (TX7 k).2.2.1 = some (tyX7 k) := by decide +kernel
def RX8 : String := "ChanceSteps"
def TX8 : u_T := fun k => match k with
  | 0 => ("ChanceSteps", "tape", "[I", true)
  | 1 => ("ChanceSteps", "tapeSize", "I", false)
  | 2 => ("ChanceSteps", "programs", "[LChanceSteps$Program;", true)
  | 3 => ("ChanceSteps", "programCount", "I", false)
  | 4 => ("ChanceSteps", "start", "I", false)
  | 5 => ("ChanceSteps", "imageKept", "Z", false)
  | 6 => ("ChanceSteps", "imageStart", "I", false)
  | 7 => ("ChanceSteps", "imagePrograms", "I", false)
  | 8 => ("ChanceSteps", "sheets", "[LChanceSteps$Sheet;", true)
  | 9 => ("ChanceSteps", "reader", "LChanceSteps$Reader;", true)
  | 10 => ("ChanceSteps", "walker", "LChanceSteps$Walker;", true)
  | 11 => ("ChanceSteps", "firstRow", "[J", true)
  | _ => ("ChanceSteps", "secondRow", "[J", true)
def tyX8 : Nat → FieldType := fun k => match k with
  | 0 => .array .int
  | 1 => .int
  | 2 => .array (.object "ChanceSteps$Program")
  | 3 => .int
  | 4 => .int
  | 5 => .boolean
  | 6 => .int
  | 7 => .int
  | 8 => .array (.object "ChanceSteps$Sheet")
  | 9 => .object "ChanceSteps$Reader"
  | 10 => .object "ChanceSteps$Walker"
  | 11 => .array .long
  | _ => .array .long
theorem nmX8 : ∀ a, a < 13 → ∀ b, b < 13 → a ≠ b → (TX8 a).2.1 ≠ (TX8 b).2.1 := by decide +kernel
theorem tyX8_ok : ∀ k, k < 13 → parseFieldDescriptor (TX8 k).2.2.1 = some (tyX8 k) := by decide +kernel
def RX9 : String := "ChanceStepsModel$Odds"
def TX9 : u_T := fun k => match k with
  | 0 => ("ChanceStepsModel$Odds", "states", "[I", true)
  | 1 => ("ChanceStepsModel$Odds", "weights", "[J", true)
  | _ => ("ChanceStepsModel$Odds", "many", "I", false)
def tyX9 : Nat → FieldType := fun k => match k with
  | 0 => .array .int
  | 1 => .array .long
  | _ => .int
theorem nmX9 : ∀ a, a < 3 → ∀ b, b < 3 → a ≠ b → (TX9 a).2.1 ≠ (TX9 b).2.1 := by decide +kernel
theorem tyX9_ok : ∀ k, k < 3 → parseFieldDescriptor (TX9 k).2.2.1 = some (tyX9 k) := by decide +kernel
def RX10 : String := "ChanceStepsModel"
def TX10 : u_T := fun k => match k with
  | 0 => ("ChanceStepsModel", "programs", "I", false)
  | 1 => ("ChanceStepsModel", "sizes", "[I", true)
  | 2 => ("ChanceStepsModel", "bits", "[I", true)
  | 3 => ("ChanceStepsModel", "turns", "[I", true)
  | 4 => ("ChanceStepsModel", "kinds", "[[I", true)
  | 5 => ("ChanceStepsModel", "names", "[[I", true)
  | 6 => ("ChanceStepsModel", "numbers", "[[I", true)
  | 7 => ("ChanceStepsModel", "ends", "[[I", true)
  | 8 => ("ChanceStepsModel", "others", "[[I", true)
  | 9 => ("ChanceStepsModel", "tops", "[[I", true)
  | 10 => ("ChanceStepsModel", "firstLots", "[[I", true)
  | 11 => ("ChanceStepsModel", "lotValues", "[[I", true)
  | 12 => ("ChanceStepsModel", "lotWeights", "[[I", true)
  | 13 => ("ChanceStepsModel", "acts", "[[I", true)
  | 14 => ("ChanceStepsModel", "figures", "[[I", true)
  | 15 => ("ChanceStepsModel", "firsts", "[[I", true)
  | 16 => ("ChanceStepsModel", "seconds", "[[I", true)
  | 17 => ("ChanceStepsModel", "start", "[I", true)
  | 18 => ("ChanceStepsModel", "isTold", "[[Z", true)
  | 19 => ("ChanceStepsModel", "isWideSo", "[[Z", true)
  | 20 => ("ChanceStepsModel", "made", "[[[J", true)
  | 21 => ("ChanceStepsModel", "tape", "[I", true)
  | 22 => ("ChanceStepsModel", "taped", "I", false)
  | 23 => ("ChanceStepsModel", "at", "I", false)
  | 24 => ("ChanceStepsModel", "begin", "I", false)
  | 25 => ("ChanceStepsModel", "token", "I", false)
  | 26 => ("ChanceStepsModel", "value", "I", false)
  | 27 => ("ChanceStepsModel", "opened", "I", false)
  | 28 => ("ChanceStepsModel", "steps", "I", false)
  | 29 => ("ChanceStepsModel", "lots", "I", false)
  | 30 => ("ChanceStepsModel", "nodes", "I", false)
  | 31 => ("ChanceStepsModel", "isWrong", "Z", false)
  | 32 => ("ChanceStepsModel", "pool", "[LChanceStepsModel$Odds;", true)
  | 33 => ("ChanceStepsModel", "used", "I", false)
  | 34 => ("ChanceStepsModel", "isWide", "Z", false)
  | 35 => ("ChanceStepsModel", "peak", "I", false)
  | 36 => ("ChanceStepsModel", "z", "I", false)
  | 37 => ("ChanceStepsModel", "imagePrograms", "I", false)
  | 38 => ("ChanceStepsModel", "imageStart", "[I", true)
  | 39 => ("ChanceStepsModel", "sorts", "[I", true)
  | 40 => ("ChanceStepsModel", "lengths", "[I", true)
  | 41 => ("ChanceStepsModel", "items", "[[I", true)
  | _ => ("ChanceStepsModel", "passed", "[I", true)
def tyX10 : Nat → FieldType := fun k => match k with
  | 0 => .int
  | 1 => .array .int
  | 2 => .array .int
  | 3 => .array .int
  | 4 => .array (.array .int)
  | 5 => .array (.array .int)
  | 6 => .array (.array .int)
  | 7 => .array (.array .int)
  | 8 => .array (.array .int)
  | 9 => .array (.array .int)
  | 10 => .array (.array .int)
  | 11 => .array (.array .int)
  | 12 => .array (.array .int)
  | 13 => .array (.array .int)
  | 14 => .array (.array .int)
  | 15 => .array (.array .int)
  | 16 => .array (.array .int)
  | 17 => .array .int
  | 18 => .array (.array .boolean)
  | 19 => .array (.array .boolean)
  | 20 => .array (.array (.array .long))
  | 21 => .array .int
  | 22 => .int
  | 23 => .int
  | 24 => .int
  | 25 => .int
  | 26 => .int
  | 27 => .int
  | 28 => .int
  | 29 => .int
  | 30 => .int
  | 31 => .boolean
  | 32 => .array (.object "ChanceStepsModel$Odds")
  | 33 => .int
  | 34 => .boolean
  | 35 => .int
  | 36 => .int
  | 37 => .int
  | 38 => .array .int
  | 39 => .array .int
  | 40 => .array .int
  | 41 => .array (.array .int)
  | _ => .array .int
theorem nmX10 : ∀ a, a < 43 → ∀ b, b < 43 → a ≠ b → (TX10 a).2.1 ≠ (TX10 b).2.1 := by decide +kernel
theorem tyX10_ok : ∀ k, k < 43 → parseFieldDescriptor (TX10 k).2.2.1 = some (tyX10 k) := by decide +kernel
abbrev vwCl : List vw_C := [(RX0, TX0, 4), (RX1, TX1, 5), (RX2, TX2, 16), (RX3, TX3, 9), (RX4, TX4, 3), (RX5, TX5, 3), (RX6, TX6, 14), (RX7, TX7, 4), (RX8, TX8, 13), (RX9, TX9, 3), (RX10, TX10, 43)]
end
section
/-! THE J LAYER (own work): a method's world as a map from addresses to cells, its frame as a list of locals and a stack; a block of plain instructions is run by evaluation. -/
abbrev jM : Type := Nat → Option va_E
abbrev jW : Type := jM × Nat × Nat
def jsum (H : Heap) (B : Nat) : Nat := ((H.toList.drop B).map (·.slots.size)).sum
def jH (D : va_G) (B : Nat) (H0 : Heap) (w : jW) (H : Heap) : Prop :=
  H.size = B + w.2.1 ∧ jsum H B = w.2.2 ∧ (∀ q, q < B → H[q]? = H0[q]?) ∧ ∀ a e, w.1 a = some e → B ≤ a ∧ va_at D vwCl (a, e) H
theorem jH.at {D : va_G} {B : Nat} {H0 : Heap} {w : jW} {H : Heap} (h : jH D B H0 w H) {a : Nat} {e : va_E} (ha : w.1 a = some e) : va_at D vwCl (a, e) H := (h.2.2.2 a e ha).2
theorem jH.le {D : va_G} {B : Nat} {H0 : Heap} {w : jW} {H : Heap} (h : jH D B H0 w H) {a : Nat} {e : va_E} (ha : w.1 a = some e) : B ≤ a := (h.2.2.2 a e ha).1
theorem jsum_set {H H1 : Heap} {B a : Nat} {c c1 : Cell} (hs : H1.size = H.size) (h : H[a]? = some c) (h1 : H1[a]? = some c1) (hc : c1.slots.size = c.slots.size) (oq : ∀ q, q ≠ a → H1[q]? = H[q]?) : jsum H1 B = jsum H B := by
  unfold jsum
  congr 1
  apply List.ext_getElem?
  intro i
  rw [List.getElem?_map, List.getElem?_map, List.getElem?_drop, List.getElem?_drop, Array.getElem?_toList, Array.getElem?_toList]
  by_cases e : B + i = a
  · rw [e, h, h1]
    simp [hc]
  · rw [oq _ e]
theorem jH.set {D : va_G} {B : Nat} {H0 : Heap} {w : jW} {H H1 : Heap} (h : jH D B H0 w H) {a : Nat} {e0 e : va_E} (ha : w.1 a = some e0) {c c1 : Cell} (hs : H1.size = H.size) (hc0 : H[a]? = some c) (h1 : H1[a]? = some c1) (hc : c1.slots.size = c.slots.size) (oq : ∀ q, q ≠ a → H1[q]? = H[q]?) (he : va_at D vwCl (a, e) H1) : jH D B H0 (va_up w.1 a (some e), w.2) H1 := by
  have hB := h.le ha
  refine ⟨by rw [hs]; exact h.1, by rw [jsum_set hs hc0 h1 hc oq]; exact h.2.1, fun q hq => by rw [oq q (by omega)]; exact h.2.2.1 q hq, fun b f hb => ?_⟩
  by_cases hba : b = a
  · subst hba
    simp only [va_up, if_true] at hb
    cases hb
    exact ⟨hB, he⟩
  · simp only [va_up, if_neg hba] at hb
    exact ⟨h.le hb, (h.at hb).kept (oq b hba)⟩
theorem jsum_push {H H1 : Heap} {B : Nat} {c : Cell} (hB : B ≤ H.size) (hs : H1 = H.push c) : jsum H1 B = jsum H B + c.slots.size := by
  subst hs
  unfold jsum
  rw [Array.toList_push, List.drop_append_of_le_length (by simpa using hB)]
  simp
theorem jH.push {D : va_G} {B : Nat} {H0 : Heap} {w : jW} {H : Heap} (h : jH D B H0 w H) {c : Cell} {e : va_E} (he : va_at D vwCl (H.size, e) (H.push c)) : jH D B H0 (va_up w.1 H.size (some e), w.2.1 + 1, w.2.2 + c.slots.size) (H.push c) := by
  have hB : B ≤ H.size := by rw [h.1]; omega
  refine ⟨by rw [Array.size_push, h.1]; show _ = B + (w.2.1 + 1); omega, by rw [jsum_push hB rfl, h.2.1], fun q hq => by rw [Array.getElem?_push, if_neg (by omega)]; exact h.2.2.1 q hq, fun b f hb => ?_⟩
  by_cases hba : b = H.size
  · subst hba
    simp only [va_up, if_true] at hb
    cases hb
    exact ⟨hB, he⟩
  · simp only [va_up, if_neg hba] at hb
    refine ⟨h.le hb, (h.at hb).kept ?_⟩
    have := (h.at hb).lt
    rw [Array.getElem?_push, if_neg hba]
theorem jH.fresh {D : va_G} {B : Nat} {H0 : Heap} {w : jW} {H : Heap} (h : jH D B H0 w H) : ∀ a e, w.1 a = some e → a ≠ H.size := fun _ _ ha => Nat.ne_of_lt (h.at ha).lt
/-- the tables' words that a callee inherits -/
def jwd : List Cond := lw_tbl.filter goodWord
theorem jmem {w : Cond} (i : Nat) (h : lw_tbl[i]? = some w) (hg : goodWord w = true) : w ∈ jwd := List.mem_filter.mpr ⟨List.mem_of_getElem? h, hg⟩
/-- words between nest mates -/
def jnw : Cond → Bool
  | .fieldLinkNest .. => true
  | .methodLinkNest .. => true
  | _ => false
def jnest : List Cond := lw_tbl.filter jnw
theorem jmemN {w : Cond} (i : Nat) (h : lw_tbl[i]? = some w) (hg : jnw w = true) : w ∈ jnest := List.mem_filter.mpr ⟨List.mem_of_getElem? h, hg⟩
def jAT : List FieldType := [.int, .long, .boolean, .array .int, .array .boolean, .array .long, .array (.array .long), .object "ChanceSteps$Crowd", .object "ChanceSteps$Program", .object "ChanceSteps$Sheet", .object "ChanceSteps$Step", .object "ChanceStepsModel$Odds"]
/-- the array class over a type, and its component -/
def jcn : FieldType → String
  | .object C => C
  | t => t.toString
def jA (U : State) (cA : ClassId) (ty : FieldType) : Prop := ∃ (kA : Class) (comp : ClassId), U.vm.classes[cA]? = some kA ∧ kA.kind = .array comp ty ∧ U.vm.findClass ("[" ++ ty.toString) = some cA ∧ (ty.isReference = true → U.vm.findClass (jcn ty) = some comp)
theorem jA.moved {u U : State} (hvm : u.vm.Alike U.vm) {cA : ClassId} {ty : FieldType} (h : jA u cA ty) : jA U cA ty := by
  obtain ⟨kA, comp, h1, h2, h3, h4⟩ := h
  obtain ⟨k', hk', he⟩ := hvm.2.2 _ _ h1
  exact ⟨k', comp, hk', by rw [he]; exact h2, by rw [hvm.findClass]; exact h3, fun hr => by rw [hvm.findClass]; exact h4 hr⟩
theorem jA.arr {U : State} {cA : ClassId} {ty : FieldType} (h : jA U cA ty) : ArrOfT U cA ty := by
  obtain ⟨kA, comp, h1, h2, -⟩ := h
  exact fun N z => ⟨(fun k h => by cases h), kA, h1, comp, h2⟩
def jAO : List String := ["ChanceSteps$Crowd", "ChanceSteps$Program", "ChanceSteps$Sheet", "ChanceSteps$Step", "ChanceStepsModel$Odds"]
def jK (D : va_G) (U : State) : Prop :=
  (∀ (c : Nat) (q : vw_C), vwCl[c]? = some q → u_Kn U q.1 q.2.1 q.2.2 (D.1 c) (D.2 c)) ∧
  (∀ (k : Nat) (ty : FieldType), jAT[k]? = some ty → jA U (D.1 (100 + k)) ty) ∧
  (∀ C ∈ jAO, va_AO C U) ∧ ∀ w ∈ jnest, w.before #[] U = true
end
section
/-! THE J LAYER: the judgement and the block runner (own work) -/
theorem jnest_warm {s U : State} (hW : s.WarmedH U.vm) {w : Cond} (hw : w ∈ jnest) (h : w.before #[] s = true) : w.before #[] U = true := by
  have h1 := (List.mem_filter.mp hw).2
  cases w with
  | fieldLinkNest a i b n d h2 => exact va_Nw.warmF hW h
  | methodLinkNest a i x h2 => exact va_Nw.warmM hW h
  | _ => simp [jnw] at h1
theorem jK.moved {D : va_G} {s U : State} (hW : s.WarmedH U.vm) (h : jK D s) : jK D U := by
  have hvm := hW.alike
  obtain ⟨h1, h2, h3, h4⟩ := h
  exact ⟨fun c q hq => u_Kn_moved hvm (h1 c q hq), fun k ty hk => (h2 k ty hk).moved hvm, fun C hC => (h3 C hC).moved hvm, fun w hw => jnest_warm hW hw (h4 w hw)⟩

/-- what is fixed within a method: program, launch, outside, room, entry state, method, arguments, frames below, method record, code, class numbers, base, the heap at the base, counts at the entry, number of locals, the goal, the bytes, the method's name -/
abbrev jG : Type := Program × Launch × Env × Room × State × MethodId × Array Value × List Frame × Method × Code × va_G × Nat × Heap × Nat × Nat × Nat × (State → Prop) × ByteArray × MethodName
abbrev jGp (g : jG) : Program := g.1
abbrev jGl (g : jG) : Launch := g.2.1
abbrev jGe (g : jG) : Env := g.2.2.1
abbrev jGR (g : jG) : Room := g.2.2.2.1
abbrev jGs (g : jG) : State := g.2.2.2.2.1
abbrev jGm (g : jG) : MethodId := g.2.2.2.2.2.1
abbrev jGa (g : jG) : Array Value := g.2.2.2.2.2.2.1
abbrev jGb (g : jG) : List Frame := g.2.2.2.2.2.2.2.1
abbrev jGt (g : jG) : Method := g.2.2.2.2.2.2.2.2.1
abbrev jGc (g : jG) : Code := g.2.2.2.2.2.2.2.2.2.1
abbrev jGD (g : jG) : va_G := g.2.2.2.2.2.2.2.2.2.2.1
abbrev jGB (g : jG) : Nat := g.2.2.2.2.2.2.2.2.2.2.2.1
abbrev jGH (g : jG) : Heap := g.2.2.2.2.2.2.2.2.2.2.2.2.1
abbrev jGk (g : jG) : Nat := g.2.2.2.2.2.2.2.2.2.2.2.2.2.1
abbrev jGn (g : jG) : Nat := g.2.2.2.2.2.2.2.2.2.2.2.2.2.2.1
abbrev jGL (g : jG) : Nat := g.2.2.2.2.2.2.2.2.2.2.2.2.2.2.2.1
abbrev jGQ (g : jG) : State → Prop := g.2.2.2.2.2.2.2.2.2.2.2.2.2.2.2.2.1
abbrev jGo (g : jG) : ByteArray := g.2.2.2.2.2.2.2.2.2.2.2.2.2.2.2.2.2.1
abbrev jGy (g : jG) : MethodName := g.2.2.2.2.2.2.2.2.2.2.2.2.2.2.2.2.2.2
/-- what holds of it -/
def jC (g : jG) : Prop := (jGp g).tables.exec = Jvm.exec ∧ (jGc g).code = jGo g ∧ (jGc g).maxLocals = jGL g ∧ (jGs g).vm.findClass (jGy g).cls = some (jGm g).cls ∧ (∀ w ∈ jwd, w.before (jGa g) (jGs g) = true) ∧ jK (jGD g) (jGs g) ∧ (jGt g).name = (jGy g).name ∧ (jGt g).locks = false ∧ ∃ M0, jH (jGD g) (jGB g) (jGH g) (M0, jGk g, jGn g) (jGs g).heap
/-- THE JUDGEMENT: with the world w, at pc, with these locals and this stack, the goal is reached -/
def JJ (g : jG) (w : jW) (pc : Nat) (L : List (Nat × Value)) (st : List Value) : Prop :=
  ∀ (H : Heap) (locs : List Loc) (ls : Array Slot), jH (jGD g) (jGB g) (jGH g) w H → jGk g ≤ w.2.1 → jGn g ≤ w.2.2 → (∀ q ∈ locs, jGB g ≤ q.base) → lv_has ls (jGL g) L →
    W (jGp g) (jGl g) (jGe g) (jGR g) (jGs g) (jGm g) (jGa g) (jGb g) (jGt g) (jGc g) H locs (w.2.1 - jGk g) (w.2.2 - jGn g) (jGQ g) (F0 (jGm g) pc ls st)
theorem JJ.sub {g : jG} {w : jW} {pc : Nat} {L L' : List (Nat × Value)} {st : List Value} (ks : List Nat) (h : lv_pick L ks = L') (k : JJ g w pc L' st) : JJ g w pc L st :=
  fun H locs ls h1 h2 h3 h4 h5 => k H locs ls h1 h2 h3 h4 (lv_sub h5 ks h)
/-- fewer locals, in any order, each by a look-up -/
def jlk : List (Nat × Value) → Nat → Option Value
  | [], _ => none
  | q :: l, i => match Nat.beq q.1 i with
    | true => some q.2
    | false => jlk l i
theorem jlk_mem {l : List (Nat × Value)} {i : Nat} {v : Value} (h : jlk l i = some v) : (i, v) ∈ l := by
  induction l with
  | nil => cases h
  | cons q l ih =>
    unfold jlk at h
    split at h
    · rename_i hb
      have := Nat.eq_of_beq_eq_true hb
      cases h
      rw [← this]
      exact List.mem_cons_self
    · exact List.mem_cons_of_mem _ (ih h)
theorem jlk_at {ls : Array Slot} {nL : Nat} {l : List (Nat × Value)} {i : Nat} {v : Value} (h : lv_has ls nL l) (hk : jlk l i = some v) : ls[i]? = some (.val v) := h.2.2 (i, v) (jlk_mem hk)
def jall (L : List (Nat × Value)) : List (Nat × Value) → Prop
  | [] => True
  | q :: l => jlk L q.1 = some q.2 ∧ jall L l
theorem jall_has {ls : Array Slot} {nL : Nat} {L L' : List (Nat × Value)} (h : lv_has ls nL L) (ha : jall L L') : lv_has ls nL L' := by
  refine ⟨h.1, h.2.1, ?_⟩
  induction L' with
  | nil => intro q hq; cases hq
  | cons q l ih =>
    intro q' hq'
    rcases List.mem_cons.mp hq' with rfl | h1
    · exact jlk_at h ha.1
    · exact ih ha.2 q' h1
theorem JJ.loc {g : jG} {w : jW} {pc : Nat} {L : List (Nat × Value)} (L' : List (Nat × Value)) {st : List Value} (h : jall L L') (k : JJ g w pc L' st) : JJ g w pc L st :=
  fun H locs ls h1 h2 h3 h4 h5 => k H locs ls h1 h2 h3 h4 (jall_has h5 h)
end
section
/-! THE J LAYER: plain instructions, and blocks of them by evaluation (own work) -/
/-- the locals behind a store -/
def jst (L : List (Nat × Value)) (i : Nat) (v : Value) : List (Nat × Value) := (i, v) :: L.filter (fun q => !(q.1 == i) && !(q.1 + 1 == i && q.2.category == 2))
def jst2 (L : List (Nat × Value)) (i : Nat) (v : Value) : List (Nat × Value) := (i, v) :: L.filter (fun q => !(q.1 == i) && (!(q.1 == i + 1) && !(q.1 + 1 == i && q.2.category == 2)))
section J1
variable {g : jG} {w : jW} {pc : Nat} {L : List (Nat × Value)} {st : List Value}

theorem j1_iconst (C : jC g) {n : Int} {v : Value} (hd : decode (jGo g) pc = .ok (.iconst n, 1)) (hv : Value.int (Int32.ofInt n) = v) (kk : JJ g w (pc + 1) L (v :: st)) : JJ g w pc L st := fun H locs ls h1 h2 h3 h4 h5 => lv_iconst C.1 C.2.1 hd rfl (by rw [← hv] at kk; exact kk H locs ls h1 h2 h3 h4 h5)
theorem j1_bipush (C : jC g) {n : Int} {v : Value} (hd : decode (jGo g) pc = .ok (.bipush n, 2)) (hv : Value.int (Int8.ofInt n).toInt32 = v) (kk : JJ g w (pc + 2) L (v :: st)) : JJ g w pc L st := fun H locs ls h1 h2 h3 h4 h5 => lv_bipush C.1 C.2.1 hd rfl (by rw [← hv] at kk; exact kk H locs ls h1 h2 h3 h4 h5)
theorem j1_sipush (C : jC g) {n : Int} {v : Value} (hd : decode (jGo g) pc = .ok (.sipush n, 3)) (hv : Value.int (Int16.ofInt n).toInt32 = v) (kk : JJ g w (pc + 3) L (v :: st)) : JJ g w pc L st := fun H locs ls h1 h2 h3 h4 h5 => lv_sipush C.1 C.2.1 hd rfl (by rw [← hv] at kk; exact kk H locs ls h1 h2 h3 h4 h5)
theorem j1_lconst (C : jC g) {n : Fin 2} {v : Value} (hd : decode (jGo g) pc = .ok (.lconst n, 1)) (hv : Value.long (Int64.ofNat (n : Nat)) = v) (kk : JJ g w (pc + 1) L (v :: st)) : JJ g w pc L st := fun H locs ls h1 h2 h3 h4 h5 => lv_lconst C.1 C.2.1 hd rfl (by rw [← hv] at kk; exact kk H locs ls h1 h2 h3 h4 h5)
theorem j1_aconst_null (C : jC g) (hd : decode (jGo g) pc = .ok (.aconst_null, 1)) (kk : JJ g w (pc + 1) L (.null :: st)) : JJ g w pc L st := fun H locs ls h1 h2 h3 h4 h5 => lv_null C.1 C.2.1 hd (kk H locs ls h1 h2 h3 h4 h5)
theorem j1_iload (C : jC g) {k : Nat} {x : Int32} (hd : decode (jGo g) pc = .ok (.iload k, 2)) (hl : jlk L k = some (.int x)) (kk : JJ g w (pc + 2) L (.int x :: st)) : JJ g w pc L st := fun H locs ls h1 h2 h3 h4 h5 => lv_iload C.1 C.2.1 hd (jlk_at h5 hl) (kk H locs ls h1 h2 h3 h4 h5)
theorem j1_iload_n (C : jC g) {k : Fin 4} {x : Int32} (hd : decode (jGo g) pc = .ok (.iload_n k, 1)) (hl : jlk L k.1 = some (.int x)) (kk : JJ g w (pc + 1) L (.int x :: st)) : JJ g w pc L st := fun H locs ls h1 h2 h3 h4 h5 => lv_iload_n C.1 C.2.1 hd rfl (jlk_at h5 hl) (kk H locs ls h1 h2 h3 h4 h5)
theorem j1_lload (C : jC g) {k : Nat} {x : Int64} (hd : decode (jGo g) pc = .ok (.lload k, 2)) (hl : jlk L k = some (.long x)) (kk : JJ g w (pc + 2) L (.long x :: st)) : JJ g w pc L st := fun H locs ls h1 h2 h3 h4 h5 => lv_lload C.1 C.2.1 hd (jlk_at h5 hl) (kk H locs ls h1 h2 h3 h4 h5)
theorem j1_lload_n (C : jC g) {k : Fin 4} {x : Int64} (hd : decode (jGo g) pc = .ok (.lload_n k, 1)) (hl : jlk L k.1 = some (.long x)) (kk : JJ g w (pc + 1) L (.long x :: st)) : JJ g w pc L st := fun H locs ls h1 h2 h3 h4 h5 => lv_lload_n C.1 C.2.1 hd rfl (jlk_at h5 hl) (kk H locs ls h1 h2 h3 h4 h5)
theorem j1_aload (C : jC g) {k : Nat} {x : Nat} (hd : decode (jGo g) pc = .ok (.aload k, 2)) (hl : jlk L k = some (.ref x)) (kk : JJ g w (pc + 2) L (.ref x :: st)) : JJ g w pc L st := fun H locs ls h1 h2 h3 h4 h5 => lv_aload C.1 C.2.1 hd (jlk_at h5 hl) (kk H locs ls h1 h2 h3 h4 h5)
theorem j1_aload_n (C : jC g) {k : Fin 4} {x : Nat} (hd : decode (jGo g) pc = .ok (.aload_n k, 1)) (hl : jlk L k.1 = some (.ref x)) (kk : JJ g w (pc + 1) L (.ref x :: st)) : JJ g w pc L st := fun H locs ls h1 h2 h3 h4 h5 => lv_aload_n C.1 C.2.1 hd rfl (jlk_at h5 hl) (kk H locs ls h1 h2 h3 h4 h5)
theorem j1_aloadN (C : jC g) {k : Nat} (hd : decode (jGo g) pc = .ok (.aload k, 2)) (hl : jlk L k = some .null) (kk : JJ g w (pc + 2) L (.null :: st)) : JJ g w pc L st := fun H locs ls h1 h2 h3 h4 h5 => lv_aloadN C.1 C.2.1 hd (jlk_at h5 hl) (kk H locs ls h1 h2 h3 h4 h5)
theorem j1_aload_nN (C : jC g) {k : Fin 4} (hd : decode (jGo g) pc = .ok (.aload_n k, 1)) (hl : jlk L k.1 = some .null) (kk : JJ g w (pc + 1) L (.null :: st)) : JJ g w pc L st := fun H locs ls h1 h2 h3 h4 h5 => lv_aload_nN C.1 C.2.1 hd rfl (jlk_at h5 hl) (kk H locs ls h1 h2 h3 h4 h5)
theorem j1_istore (C : jC g) {nL k : Nat} {x : Int32} (hn : jGL g = nL) (hd : decode (jGo g) pc = .ok (.istore k, 2)) (hk : k < nL) (kk : JJ g w (pc + 2) (jst L k (.int x)) st) : JJ g w pc L (.int x :: st) := fun H locs ls h1 h2 h3 h4 h5 => lv_istore C.1 C.2.1 hd h5 (by rw [hn]; exact hk) rfl (fun ls9 h9 => kk H locs ls9 h1 h2 h3 h4 h9)
theorem j1_istore_n (C : jC g) {nL : Nat} {k : Fin 4} {x : Int32} (hn : jGL g = nL) (hd : decode (jGo g) pc = .ok (.istore_n k, 1)) (hk : k.1 < nL) (kk : JJ g w (pc + 1) (jst L k.1 (.int x)) st) : JJ g w pc L (.int x :: st) := fun H locs ls h1 h2 h3 h4 h5 => lv_istore_n C.1 C.2.1 hd rfl h5 (by rw [hn]; exact hk) rfl (fun ls9 h9 => kk H locs ls9 h1 h2 h3 h4 h9)
theorem j1_astore (C : jC g) {nL k : Nat} {x : Nat} (hn : jGL g = nL) (hd : decode (jGo g) pc = .ok (.astore k, 2)) (hk : k < nL) (kk : JJ g w (pc + 2) (jst L k (.ref x)) st) : JJ g w pc L (.ref x :: st) := fun H locs ls h1 h2 h3 h4 h5 => lv_astore C.1 C.2.1 hd h5 (by rw [hn]; exact hk) rfl (fun ls9 h9 => kk H locs ls9 h1 h2 h3 h4 h9)
theorem j1_astore_n (C : jC g) {nL : Nat} {k : Fin 4} {x : Nat} (hn : jGL g = nL) (hd : decode (jGo g) pc = .ok (.astore_n k, 1)) (hk : k.1 < nL) (kk : JJ g w (pc + 1) (jst L k.1 (.ref x)) st) : JJ g w pc L (.ref x :: st) := fun H locs ls h1 h2 h3 h4 h5 => lv_astore_n C.1 C.2.1 hd rfl h5 (by rw [hn]; exact hk) rfl (fun ls9 h9 => kk H locs ls9 h1 h2 h3 h4 h9)
theorem j1_lstore (C : jC g) {nL k : Nat} {x : Int64} (hn : jGL g = nL) (hd : decode (jGo g) pc = .ok (.lstore k, 2)) (hk : k + 1 < nL) (kk : JJ g w (pc + 2) (jst2 L k (.long x)) st) : JJ g w pc L (.long x :: st) := fun H locs ls h1 h2 h3 h4 h5 => lv_lstore C.1 C.2.1 hd h5 (by rw [hn]; exact hk) rfl (fun ls9 h9 => kk H locs ls9 h1 h2 h3 h4 h9)
theorem j1_lstore_n (C : jC g) {nL : Nat} {k : Fin 4} {x : Int64} (hn : jGL g = nL) (hd : decode (jGo g) pc = .ok (.lstore_n k, 1)) (hk : k.1 + 1 < nL) (kk : JJ g w (pc + 1) (jst2 L k.1 (.long x)) st) : JJ g w pc L (.long x :: st) := fun H locs ls h1 h2 h3 h4 h5 => lv_lstore_n C.1 C.2.1 hd rfl h5 (by rw [hn]; exact hk) rfl (fun ls9 h9 => kk H locs ls9 h1 h2 h3 h4 h9)
theorem j1_astoreN (C : jC g) {nL k : Nat} (hn : jGL g = nL) (hd : decode (jGo g) pc = .ok (.astore k, 2)) (hk : k < nL) (kk : JJ g w (pc + 2) (jst L k .null) st) : JJ g w pc L (.null :: st) := fun H locs ls h1 h2 h3 h4 h5 => lv_astoreN C.1 C.2.1 hd h5 (by rw [hn]; exact hk) rfl (fun ls9 h9 => kk H locs ls9 h1 h2 h3 h4 h9)
theorem j1_astore_nN (C : jC g) {nL : Nat} {k : Fin 4} (hn : jGL g = nL) (hd : decode (jGo g) pc = .ok (.astore_n k, 1)) (hk : k.1 < nL) (kk : JJ g w (pc + 1) (jst L k.1 .null) st) : JJ g w pc L (.null :: st) := fun H locs ls h1 h2 h3 h4 h5 => lv_astore_nN C.1 C.2.1 hd rfl h5 (by rw [hn]; exact hk) rfl (fun ls9 h9 => kk H locs ls9 h1 h2 h3 h4 h9)
theorem j1_iinc (C : jC g) {nL k : Nat} {n : Int} {x c : Int32} (hn : jGL g = nL) (hd : decode (jGo g) pc = .ok (.iinc k n, 3)) (hc : Int32.ofInt n = c) (hk : k < nL) (hl : jlk L k = some (.int x)) (kk : JJ g w (pc + 3) (jst L k (.int (x + c))) st) : JJ g w pc L st := by
  intro H locs ls h1 h2 h3 h4 h5
  obtain ⟨i, hi⟩ := List.getElem?_of_mem (jlk_mem hl)
  exact lv_iinc C.1 C.2.1 hd h5 hi (by rw [hc]) (by rw [hn]; exact hk) rfl (fun ls9 h9 => kk H locs ls9 h1 h2 h3 h4 h9)
theorem j1_iadd (C : jC g) {x y : Int32} (hd : decode (jGo g) pc = .ok (.iadd, 1)) (kk : JJ g w (pc + 1) L (.int (x + y) :: st)) : JJ g w pc L (.int y :: .int x :: st) := fun H locs ls h1 h2 h3 h4 h5 => lv_iadd C.1 C.2.1 hd (kk H locs ls h1 h2 h3 h4 h5)
theorem j1_isub (C : jC g) {x y : Int32} (hd : decode (jGo g) pc = .ok (.isub, 1)) (kk : JJ g w (pc + 1) L (.int (x - y) :: st)) : JJ g w pc L (.int y :: .int x :: st) := fun H locs ls h1 h2 h3 h4 h5 => lv_isub C.1 C.2.1 hd (kk H locs ls h1 h2 h3 h4 h5)
theorem j1_imul (C : jC g) {x y : Int32} (hd : decode (jGo g) pc = .ok (.imul, 1)) (kk : JJ g w (pc + 1) L (.int (x * y) :: st)) : JJ g w pc L (.int y :: .int x :: st) := fun H locs ls h1 h2 h3 h4 h5 => lv_imul C.1 C.2.1 hd (kk H locs ls h1 h2 h3 h4 h5)
theorem j1_iand (C : jC g) {x y : Int32} (hd : decode (jGo g) pc = .ok (.iand, 1)) (kk : JJ g w (pc + 1) L (.int (x &&& y) :: st)) : JJ g w pc L (.int y :: .int x :: st) := fun H locs ls h1 h2 h3 h4 h5 => lv_iand C.1 C.2.1 hd (kk H locs ls h1 h2 h3 h4 h5)
theorem j1_ior (C : jC g) {x y : Int32} (hd : decode (jGo g) pc = .ok (.ior, 1)) (kk : JJ g w (pc + 1) L (.int (x ||| y) :: st)) : JJ g w pc L (.int y :: .int x :: st) := fun H locs ls h1 h2 h3 h4 h5 => lv_ior C.1 C.2.1 hd (kk H locs ls h1 h2 h3 h4 h5)
theorem j1_ixor (C : jC g) {x y : Int32} (hd : decode (jGo g) pc = .ok (.ixor, 1)) (kk : JJ g w (pc + 1) L (.int (x ^^^ y) :: st)) : JJ g w pc L (.int y :: .int x :: st) := fun H locs ls h1 h2 h3 h4 h5 => lv_ixor C.1 C.2.1 hd (kk H locs ls h1 h2 h3 h4 h5)
theorem j1_ishl (C : jC g) {x y : Int32} (hd : decode (jGo g) pc = .ok (.ishl, 1)) (kk : JJ g w (pc + 1) L (.int (x <<< (y &&& 31)) :: st)) : JJ g w pc L (.int y :: .int x :: st) := fun H locs ls h1 h2 h3 h4 h5 => lv_ishl C.1 C.2.1 hd (kk H locs ls h1 h2 h3 h4 h5)
theorem j1_ishr (C : jC g) {x y : Int32} (hd : decode (jGo g) pc = .ok (.ishr, 1)) (kk : JJ g w (pc + 1) L (.int (x >>> (y &&& 31)) :: st)) : JJ g w pc L (.int y :: .int x :: st) := fun H locs ls h1 h2 h3 h4 h5 => lv_ishr C.1 C.2.1 hd (kk H locs ls h1 h2 h3 h4 h5)
theorem j1_iushr (C : jC g) {x y : Int32} (hd : decode (jGo g) pc = .ok (.iushr, 1)) (kk : JJ g w (pc + 1) L (.int (x.toUInt32 >>> (y.toUInt32 &&& Int32.toUInt32 31)).toInt32 :: st)) : JJ g w pc L (.int y :: .int x :: st) := fun H locs ls h1 h2 h3 h4 h5 => lv_iushr C.1 C.2.1 hd rfl (kk H locs ls h1 h2 h3 h4 h5)
theorem j1_ineg (C : jC g) {x : Int32} (hd : decode (jGo g) pc = .ok (.ineg, 1)) (kk : JJ g w (pc + 1) L (.int (-x) :: st)) : JJ g w pc L (.int x :: st) := fun H locs ls h1 h2 h3 h4 h5 => lv_ineg C.1 C.2.1 hd (kk H locs ls h1 h2 h3 h4 h5)
theorem j1_ladd (C : jC g) {x y : Int64} (hd : decode (jGo g) pc = .ok (.ladd, 1)) (kk : JJ g w (pc + 1) L (.long (x + y) :: st)) : JJ g w pc L (.long y :: .long x :: st) := fun H locs ls h1 h2 h3 h4 h5 => lv_ladd C.1 C.2.1 hd (kk H locs ls h1 h2 h3 h4 h5)
theorem j1_lsub (C : jC g) {x y : Int64} (hd : decode (jGo g) pc = .ok (.lsub, 1)) (kk : JJ g w (pc + 1) L (.long (x - y) :: st)) : JJ g w pc L (.long y :: .long x :: st) := fun H locs ls h1 h2 h3 h4 h5 => lv_lsub C.1 C.2.1 hd (kk H locs ls h1 h2 h3 h4 h5)
theorem j1_lmul (C : jC g) {x y : Int64} (hd : decode (jGo g) pc = .ok (.lmul, 1)) (kk : JJ g w (pc + 1) L (.long (x * y) :: st)) : JJ g w pc L (.long y :: .long x :: st) := fun H locs ls h1 h2 h3 h4 h5 => lv_lmul C.1 C.2.1 hd (kk H locs ls h1 h2 h3 h4 h5)
theorem j1_land (C : jC g) {x y : Int64} (hd : decode (jGo g) pc = .ok (.land, 1)) (kk : JJ g w (pc + 1) L (.long (x &&& y) :: st)) : JJ g w pc L (.long y :: .long x :: st) := fun H locs ls h1 h2 h3 h4 h5 => lv_land C.1 C.2.1 hd (kk H locs ls h1 h2 h3 h4 h5)
theorem j1_lshr (C : jC g) {x : Int64} {y : Int32} (hd : decode (jGo g) pc = .ok (.lshr, 1)) (kk : JJ g w (pc + 1) L (.long (x >>> (y.toInt64 &&& 63)) :: st)) : JJ g w pc L (.int y :: .long x :: st) := fun H locs ls h1 h2 h3 h4 h5 => lv_lshr C.1 C.2.1 hd rfl (kk H locs ls h1 h2 h3 h4 h5)
theorem j1_i2l (C : jC g) {x : Int32} (hd : decode (jGo g) pc = .ok (.i2l, 1)) (kk : JJ g w (pc + 1) L (.long x.toInt64 :: st)) : JJ g w pc L (.int x :: st) := fun H locs ls h1 h2 h3 h4 h5 => lv_i2l C.1 C.2.1 hd rfl (kk H locs ls h1 h2 h3 h4 h5)
theorem j1_l2i (C : jC g) {x : Int64} (hd : decode (jGo g) pc = .ok (.l2i, 1)) (kk : JJ g w (pc + 1) L (.int x.toInt32 :: st)) : JJ g w pc L (.long x :: st) := fun H locs ls h1 h2 h3 h4 h5 => lv_l2i C.1 C.2.1 hd rfl (kk H locs ls h1 h2 h3 h4 h5)
theorem j1_i2b (C : jC g) {x : Int32} (hd : decode (jGo g) pc = .ok (.i2b, 1)) (kk : JJ g w (pc + 1) L (.int x.toInt8.toInt32 :: st)) : JJ g w pc L (.int x :: st) := fun H locs ls h1 h2 h3 h4 h5 => lv_i2b C.1 C.2.1 hd rfl (kk H locs ls h1 h2 h3 h4 h5)
theorem j1_dup (C : jC g) {v : Value} (hd : decode (jGo g) pc = .ok (.dup, 1)) (hv : v.category = 1) (kk : JJ g w (pc + 1) L (v :: v :: st)) : JJ g w pc L (v :: st) := fun H locs ls h1 h2 h3 h4 h5 => lv_dup C.1 C.2.1 hd hv (kk H locs ls h1 h2 h3 h4 h5)
theorem j1_dup2 (C : jC g) {v u : Value} (hd : decode (jGo g) pc = .ok (.dup2, 1)) (hv : v.category = 1) (hu : u.category = 1) (kk : JJ g w (pc + 1) L (v :: u :: v :: u :: st)) : JJ g w pc L (v :: u :: st) := fun H locs ls h1 h2 h3 h4 h5 => lv_dup2_11 C.1 C.2.1 hd hv hu (kk H locs ls h1 h2 h3 h4 h5)
theorem j1_pop (C : jC g) {v : Value} (hd : decode (jGo g) pc = .ok (.pop, 1)) (hv : v.category = 1) (kk : JJ g w (pc + 1) L st) : JJ g w pc L (v :: st) := fun H locs ls h1 h2 h3 h4 h5 => lv_pop C.1 C.2.1 hd hv (kk H locs ls h1 h2 h3 h4 h5)
theorem j1_pop2 (C : jC g) {v : Value} (hd : decode (jGo g) pc = .ok (.pop2, 1)) (hv : v.category = 2) (kk : JJ g w (pc + 1) L st) : JJ g w pc L (v :: st) := fun H locs ls h1 h2 h3 h4 h5 => lv_pop2_2 C.1 C.2.1 hd hv (kk H locs ls h1 h2 h3 h4 h5)
theorem j1_goto (C : jC g) {off : Int} {tgt : Nat} (hd : decode (jGo g) pc = .ok (.goto off, 3)) (ht : (pc : Int) + off = (tgt : Int)) (kk : JJ g w tgt L st) : JJ g w pc L st := fun H locs ls h1 h2 h3 h4 h5 => lv_goto C.1 C.2.1 hd ht (kk H locs ls h1 h2 h3 h4 h5)
end J1
end
section
/-! THE J LAYER: the block runner (own work). An entry of a block: place, instruction, and what it brings (a constant; a jump's goal as .retAddr) -/
abbrev jE : Type := Nat × Instr × Value
def slen : Instr → Nat
  | .bipush _ => 2
  | .sipush _ => 3
  | .iload _ => 2
  | .lload _ => 2
  | .aload _ => 2
  | .istore _ => 2
  | .lstore _ => 2
  | .astore _ => 2
  | .iinc _ _ => 3
  | .goto _ => 3
  | _ => 1
def scst (pc : Nat) (i : Instr) (v : Value) : Bool := match i with
  | .iconst n => decide (Value.int (Int32.ofInt n) = v)
  | .bipush n => decide (Value.int (Int8.ofInt n).toInt32 = v)
  | .sipush n => decide (Value.int (Int16.ofInt n).toInt32 = v)
  | .lconst n => decide (Value.long (Int64.ofNat (n : Nat)) = v)
  | .iinc _ n => decide (Value.int (Int32.ofInt n) = v)
  | .goto off => match v with
    | .retAddr t => decide ((pc : Int) + off = (t : Int))
    | _ => false
  | _ => true
def sok (cc : ByteArray) (q : jE) : Prop := decode cc q.1 = .ok (q.2.1, slen q.2.1) ∧ scst q.1 q.2.1 q.2.2 = true
/-- a block is as the bytes say -/
def sblk (cc : ByteArray) : List jE → Prop
  | [] => True
  | q :: l => sok cc q ∧ sblk cc l
abbrev jR : Type := Nat × List (Nat × Value) × List Value
def sld (L : List (Nat × Value)) (pc k : Nat) (st : List Value) : Option jR := match jlk L k with
  | some v => some (pc, L, v :: st)
  | none => none
def sist (nL k pc : Nat) (L : List (Nat × Value)) (st : List Value) : Option jR := match Nat.blt k nL with
  | true => (match st with
    | .int x :: r => some (pc, jst L k (.int x), r)
    | _ => none)
  | false => none
def slst (nL k pc : Nat) (L : List (Nat × Value)) (st : List Value) : Option jR := match Nat.blt (k + 1) nL with
  | true => (match st with
    | .long x :: r => some (pc, jst2 L k (.long x), r)
    | _ => none)
  | false => none
def sast (nL k pc : Nat) (L : List (Nat × Value)) (st : List Value) : Option jR := match Nat.blt k nL with
  | true => (match st with
    | .ref x :: r => some (pc, jst L k (.ref x), r)
    | .null :: r => some (pc, jst L k .null, r)
    | _ => none)
  | false => none
def sild (L : List (Nat × Value)) (pc k : Nat) (st : List Value) : Option jR := match jlk L k with
  | some (.int x) => some (pc, L, .int x :: st)
  | _ => none
def slld (L : List (Nat × Value)) (pc k : Nat) (st : List Value) : Option jR := match jlk L k with
  | some (.long x) => some (pc, L, .long x :: st)
  | _ => none
def sald (L : List (Nat × Value)) (pc k : Nat) (st : List Value) : Option jR := match jlk L k with
  | some (.ref x) => some (pc, L, .ref x :: st)
  | some .null => some (pc, L, .null :: st)
  | _ => none
def sb32 (f : Int32 → Int32 → Int32) (pc : Nat) (L : List (Nat × Value)) (st : List Value) : Option jR := match st with
  | .int y :: .int x :: r => some (pc, L, .int (f x y) :: r)
  | _ => none
def sb64 (f : Int64 → Int64 → Int64) (pc : Nat) (L : List (Nat × Value)) (st : List Value) : Option jR := match st with
  | .long y :: .long x :: r => some (pc, L, .long (f x y) :: r)
  | _ => none
def su32 (f : Int32 → Value) (pc : Nat) (L : List (Nat × Value)) (st : List Value) : Option jR := match st with
  | .int x :: r => some (pc, L, f x :: r)
  | _ => none
def su64 (f : Int64 → Value) (pc : Nat) (L : List (Nat × Value)) (st : List Value) : Option jR := match st with
  | .long x :: r => some (pc, L, f x :: r)
  | _ => none
def sx (nL pc : Nat) (i : Instr) (v : Value) (L : List (Nat × Value)) (st : List Value) : Option jR := match i with
  | .iconst _ => some (pc + 1, L, v :: st)
  | .bipush _ => some (pc + 2, L, v :: st)
  | .sipush _ => some (pc + 3, L, v :: st)
  | .lconst _ => some (pc + 1, L, v :: st)
  | .aconst_null => some (pc + 1, L, .null :: st)
  | .iload k => sild L (pc + 2) k st
  | .iload_n k => sild L (pc + 1) k.1 st
  | .lload k => slld L (pc + 2) k st
  | .lload_n k => slld L (pc + 1) k.1 st
  | .aload k => sald L (pc + 2) k st
  | .aload_n k => sald L (pc + 1) k.1 st
  | .istore k => sist nL k (pc + 2) L st
  | .istore_n k => sist nL k.1 (pc + 1) L st
  | .lstore k => slst nL k (pc + 2) L st
  | .lstore_n k => slst nL k.1 (pc + 1) L st
  | .astore k => sast nL k (pc + 2) L st
  | .astore_n k => sast nL k.1 (pc + 1) L st
  | .iinc k _ => (match Nat.blt k nL with
    | true => (match jlk L k with
      | some (.int x) => (match v with
        | .int c => some (pc + 3, jst L k (.int (x + c)), st)
        | _ => none)
      | _ => none)
    | false => none)
  | .iadd => sb32 (fun x y => x + y) (pc + 1) L st
  | .isub => sb32 (fun x y => x - y) (pc + 1) L st
  | .imul => sb32 (fun x y => x * y) (pc + 1) L st
  | .iand => sb32 (fun x y => x &&& y) (pc + 1) L st
  | .ior => sb32 (fun x y => x ||| y) (pc + 1) L st
  | .ixor => sb32 (fun x y => x ^^^ y) (pc + 1) L st
  | .ishl => sb32 (fun x y => x <<< (y &&& 31)) (pc + 1) L st
  | .ishr => sb32 (fun x y => x >>> (y &&& 31)) (pc + 1) L st
  | .iushr => sb32 (fun x y => (x.toUInt32 >>> (y.toUInt32 &&& Int32.toUInt32 31)).toInt32) (pc + 1) L st
  | .ineg => su32 (fun x => .int (-x)) (pc + 1) L st
  | .ladd => sb64 (fun x y => x + y) (pc + 1) L st
  | .lsub => sb64 (fun x y => x - y) (pc + 1) L st
  | .lmul => sb64 (fun x y => x * y) (pc + 1) L st
  | .land => sb64 (fun x y => x &&& y) (pc + 1) L st
  | .lshr => (match st with
    | .int y :: .long x :: r => some (pc + 1, L, .long (x >>> (y.toInt64 &&& 63)) :: r)
    | _ => none)
  | .i2l => su32 (fun x => .long x.toInt64) (pc + 1) L st
  | .l2i => su64 (fun x => .int x.toInt32) (pc + 1) L st
  | .i2b => su32 (fun x => .int x.toInt8.toInt32) (pc + 1) L st
  | .dup => (match st with
    | .int x :: r => some (pc + 1, L, .int x :: .int x :: r)
    | .ref x :: r => some (pc + 1, L, .ref x :: .ref x :: r)
    | .null :: r => some (pc + 1, L, .null :: .null :: r)
    | _ => none)
  | .dup2 => (match st with
    | .int x :: .int y :: r => some (pc + 1, L, .int x :: .int y :: .int x :: .int y :: r)
    | .int x :: .ref y :: r => some (pc + 1, L, .int x :: .ref y :: .int x :: .ref y :: r)
    | _ => none)
  | .pop => (match st with
    | .int _ :: r => some (pc + 1, L, r)
    | .ref _ :: r => some (pc + 1, L, r)
    | .null :: r => some (pc + 1, L, r)
    | _ => none)
  | .pop2 => (match st with
    | .long _ :: r => some (pc + 1, L, r)
    | _ => none)
  | .goto _ => (match v with
    | .retAddr t => some (t, L, st)
    | _ => none)
  | _ => none
/-- a block; at each entry the place must be its own -/
def sxs (nL : Nat) : List jE → Nat → List (Nat × Value) → List Value → Option jR
  | [], pc, L, st => some (pc, L, st)
  | q :: r, pc, L, st => match Nat.beq q.1 pc with
    | true => (match sx nL q.1 q.2.1 q.2.2 L st with
      | some z => sxs nL r z.1 z.2.1 z.2.2
      | none => none)
    | false => none
section SX
variable {g : jG} {w : jW} {nL pc pc' : Nat} {L L' : List (Nat × Value)} {st st' : List Value}
theorem sild_ok {k a : Nat} {st' : List Value} (h : sild L a k st = some (pc', L', st')) : ∃ x, jlk L k = some (.int x) ∧ pc' = a ∧ L' = L ∧ st' = .int x :: st := by
  unfold sild at h
  split at h
  · rename_i x hx; cases h; exact ⟨x, hx, rfl, rfl, rfl⟩
  · cases h
theorem slld_ok {k a : Nat} {st' : List Value} (h : slld L a k st = some (pc', L', st')) : ∃ x, jlk L k = some (.long x) ∧ pc' = a ∧ L' = L ∧ st' = .long x :: st := by
  unfold slld at h
  split at h
  · rename_i x hx; cases h; exact ⟨x, hx, rfl, rfl, rfl⟩
  · cases h
theorem sald_ok {k a : Nat} {st' : List Value} (h : sald L a k st = some (pc', L', st')) : (∃ x, jlk L k = some (.ref x) ∧ pc' = a ∧ L' = L ∧ st' = .ref x :: st) ∨ (jlk L k = some .null ∧ pc' = a ∧ L' = L ∧ st' = .null :: st) := by
  unfold sald at h
  split at h
  · rename_i x hx; cases h; exact Or.inl ⟨x, hx, rfl, rfl, rfl⟩
  · rename_i hx; cases h; exact Or.inr ⟨hx, rfl, rfl, rfl⟩
  · cases h
theorem sist_ok {k a : Nat} (h : sist nL k a L st = some (pc', L', st')) : ∃ x, k < nL ∧ st = .int x :: st' ∧ pc' = a ∧ L' = jst L k (.int x) := by
  unfold sist at h
  split at h
  · rename_i hb
    split at h
    · cases h; exact ⟨_, Nat.blt_eq.mp hb, rfl, rfl, rfl⟩
    · cases h
  · cases h
theorem slst_ok {k a : Nat} (h : slst nL k a L st = some (pc', L', st')) : ∃ x, k + 1 < nL ∧ st = .long x :: st' ∧ pc' = a ∧ L' = jst2 L k (.long x) := by
  unfold slst at h
  split at h
  · rename_i hb
    split at h
    · cases h; exact ⟨_, Nat.blt_eq.mp hb, rfl, rfl, rfl⟩
    · cases h
  · cases h
theorem sast_ok {k a : Nat} (h : sast nL k a L st = some (pc', L', st')) : k < nL ∧ ((∃ x, st = .ref x :: st' ∧ pc' = a ∧ L' = jst L k (.ref x)) ∨ (st = .null :: st' ∧ pc' = a ∧ L' = jst L k .null)) := by
  unfold sast at h
  split at h
  · rename_i hb
    split at h
    · cases h; exact ⟨Nat.blt_eq.mp hb, Or.inl ⟨_, rfl, rfl, rfl⟩⟩
    · cases h; exact ⟨Nat.blt_eq.mp hb, Or.inr ⟨rfl, rfl, rfl⟩⟩
    · cases h
  · cases h
theorem sb32_ok {f : Int32 → Int32 → Int32} {a : Nat} (h : sb32 f a L st = some (pc', L', st')) : ∃ x y r, st = .int y :: .int x :: r ∧ pc' = a ∧ L' = L ∧ st' = .int (f x y) :: r := by
  unfold sb32 at h
  split at h
  · cases h; exact ⟨_, _, _, rfl, rfl, rfl, rfl⟩
  · cases h
theorem sb64_ok {f : Int64 → Int64 → Int64} {a : Nat} (h : sb64 f a L st = some (pc', L', st')) : ∃ x y r, st = .long y :: .long x :: r ∧ pc' = a ∧ L' = L ∧ st' = .long (f x y) :: r := by
  unfold sb64 at h
  split at h
  · cases h; exact ⟨_, _, _, rfl, rfl, rfl, rfl⟩
  · cases h
theorem su32_ok {f : Int32 → Value} {a : Nat} (h : su32 f a L st = some (pc', L', st')) : ∃ x r, st = .int x :: r ∧ pc' = a ∧ L' = L ∧ st' = f x :: r := by
  unfold su32 at h
  split at h
  · cases h; exact ⟨_, _, rfl, rfl, rfl, rfl⟩
  · cases h
theorem su64_ok {f : Int64 → Value} {a : Nat} (h : su64 f a L st = some (pc', L', st')) : ∃ x r, st = .long x :: r ∧ pc' = a ∧ L' = L ∧ st' = f x :: r := by
  unfold su64 at h
  split at h
  · cases h; exact ⟨_, _, rfl, rfl, rfl, rfl⟩
  · cases h
end SX
section SXO
variable {g : jG} {w : jW} {nL pc pc' : Nat} {L L' : List (Nat × Value)} {st st' : List Value}
set_option maxHeartbeats 4000000 in
theorem sx_ok (C : jC g) (hn : jGL g = nL) {i : Instr} {v : Value} (hd : decode (jGo g) pc = .ok (i, slen i)) (hc : scst pc i v = true) (h : sx nL pc i v L st = some (pc', L', st')) (kk : JJ g w pc' L' st') : JJ g w pc L st := by
  cases i with
  | iconst n =>
    simp only [sx] at h; cases h
    simp only [scst, decide_eq_true_eq] at hc
    exact j1_iconst C hd hc kk
  | bipush n =>
    simp only [sx] at h; cases h
    simp only [scst, decide_eq_true_eq] at hc
    exact j1_bipush C hd hc kk
  | sipush n =>
    simp only [sx] at h; cases h
    simp only [scst, decide_eq_true_eq] at hc
    exact j1_sipush C hd hc kk
  | lconst n =>
    simp only [sx] at h; cases h
    simp only [scst, decide_eq_true_eq] at hc
    exact j1_lconst C hd hc kk
  | aconst_null =>
    simp only [sx] at h; cases h
    exact j1_aconst_null C hd kk
  | iload k =>
    obtain ⟨x, h1, rfl, rfl, rfl⟩ := sild_ok h
    exact j1_iload C hd h1 kk
  | iload_n k =>
    obtain ⟨x, h1, rfl, rfl, rfl⟩ := sild_ok h
    exact j1_iload_n C hd h1 kk
  | lload k =>
    obtain ⟨x, h1, rfl, rfl, rfl⟩ := slld_ok h
    exact j1_lload C hd h1 kk
  | lload_n k =>
    obtain ⟨x, h1, rfl, rfl, rfl⟩ := slld_ok h
    exact j1_lload_n C hd h1 kk
  | aload k =>
    rcases sald_ok h with ⟨x, h1, rfl, rfl, rfl⟩ | ⟨h1, rfl, rfl, rfl⟩
    · exact j1_aload C hd h1 kk
    · exact j1_aloadN C hd h1 kk
  | aload_n k =>
    rcases sald_ok h with ⟨x, h1, rfl, rfl, rfl⟩ | ⟨h1, rfl, rfl, rfl⟩
    · exact j1_aload_n C hd h1 kk
    · exact j1_aload_nN C hd h1 kk
  | istore k =>
    obtain ⟨x, h1, rfl, rfl, rfl⟩ := sist_ok h
    exact j1_istore C hn hd h1 kk
  | istore_n k =>
    obtain ⟨x, h1, rfl, rfl, rfl⟩ := sist_ok h
    exact j1_istore_n C hn hd h1 kk
  | lstore k =>
    obtain ⟨x, h1, rfl, rfl, rfl⟩ := slst_ok h
    exact j1_lstore C hn hd h1 kk
  | lstore_n k =>
    obtain ⟨x, h1, rfl, rfl, rfl⟩ := slst_ok h
    exact j1_lstore_n C hn hd h1 kk
  | astore k =>
    obtain ⟨h0, h1⟩ := sast_ok h
    rcases h1 with ⟨x, rfl, rfl, rfl⟩ | ⟨rfl, rfl, rfl⟩
    · exact j1_astore C hn hd h0 kk
    · exact j1_astoreN C hn hd h0 kk
  | astore_n k =>
    obtain ⟨h0, h1⟩ := sast_ok h
    rcases h1 with ⟨x, rfl, rfl, rfl⟩ | ⟨rfl, rfl, rfl⟩
    · exact j1_astore_n C hn hd h0 kk
    · exact j1_astore_nN C hn hd h0 kk
  | iinc k n =>
    simp only [sx] at h
    split at h
    · rename_i hb
      split at h
      · rename_i x hx
        split at h
        · cases h
          simp only [scst, decide_eq_true_eq, Value.int.injEq] at hc
          exact j1_iinc C hn hd hc (Nat.blt_eq.mp hb) hx kk
        · cases h
      · cases h
    · cases h
  | iadd =>
    obtain ⟨x, y, r, rfl, rfl, rfl, rfl⟩ := sb32_ok h
    exact j1_iadd C hd kk
  | isub =>
    obtain ⟨x, y, r, rfl, rfl, rfl, rfl⟩ := sb32_ok h
    exact j1_isub C hd kk
  | imul =>
    obtain ⟨x, y, r, rfl, rfl, rfl, rfl⟩ := sb32_ok h
    exact j1_imul C hd kk
  | iand =>
    obtain ⟨x, y, r, rfl, rfl, rfl, rfl⟩ := sb32_ok h
    exact j1_iand C hd kk
  | ior =>
    obtain ⟨x, y, r, rfl, rfl, rfl, rfl⟩ := sb32_ok h
    exact j1_ior C hd kk
  | ixor =>
    obtain ⟨x, y, r, rfl, rfl, rfl, rfl⟩ := sb32_ok h
    exact j1_ixor C hd kk
  | ishl =>
    obtain ⟨x, y, r, rfl, rfl, rfl, rfl⟩ := sb32_ok h
    exact j1_ishl C hd kk
  | ishr =>
    obtain ⟨x, y, r, rfl, rfl, rfl, rfl⟩ := sb32_ok h
    exact j1_ishr C hd kk
  | iushr =>
    obtain ⟨x, y, r, rfl, rfl, rfl, rfl⟩ := sb32_ok h
    exact j1_iushr C hd kk
  | ladd =>
    obtain ⟨x, y, r, rfl, rfl, rfl, rfl⟩ := sb64_ok h
    exact j1_ladd C hd kk
  | lsub =>
    obtain ⟨x, y, r, rfl, rfl, rfl, rfl⟩ := sb64_ok h
    exact j1_lsub C hd kk
  | lmul =>
    obtain ⟨x, y, r, rfl, rfl, rfl, rfl⟩ := sb64_ok h
    exact j1_lmul C hd kk
  | land =>
    obtain ⟨x, y, r, rfl, rfl, rfl, rfl⟩ := sb64_ok h
    exact j1_land C hd kk
  | ineg =>
    obtain ⟨x, r, rfl, rfl, rfl, rfl⟩ := su32_ok h
    exact j1_ineg C hd kk
  | i2l =>
    obtain ⟨x, r, rfl, rfl, rfl, rfl⟩ := su32_ok h
    exact j1_i2l C hd kk
  | i2b =>
    obtain ⟨x, r, rfl, rfl, rfl, rfl⟩ := su32_ok h
    exact j1_i2b C hd kk
  | l2i =>
    obtain ⟨x, r, rfl, rfl, rfl, rfl⟩ := su64_ok h
    exact j1_l2i C hd kk
  | lshr =>
    simp only [sx] at h
    split at h
    · cases h; exact j1_lshr C hd kk
    · cases h
  | dup =>
    simp only [sx] at h
    split at h
    · cases h; exact j1_dup C hd rfl kk
    · cases h; exact j1_dup C hd rfl kk
    · cases h; exact j1_dup C hd rfl kk
    · cases h
  | dup2 =>
    simp only [sx] at h
    split at h
    · cases h; exact j1_dup2 C hd rfl rfl kk
    · cases h; exact j1_dup2 C hd rfl rfl kk
    · cases h
  | pop =>
    simp only [sx] at h
    split at h
    · cases h; exact j1_pop C hd rfl kk
    · cases h; exact j1_pop C hd rfl kk
    · cases h; exact j1_pop C hd rfl kk
    · cases h
  | pop2 =>
    simp only [sx] at h
    split at h
    · cases h; exact j1_pop2 C hd rfl kk
    · cases h
  | goto n =>
    simp only [sx] at h
    split at h
    · cases h
      simp only [scst, decide_eq_true_eq] at hc
      exact j1_goto C hd hc kk
    · cases h
  | _ => simp only [sx] at h; cases h
theorem sxs_ok (C : jC g) (hn : jGL g = nL) : ∀ (b : List jE) (pc : Nat) (L : List (Nat × Value)) (st : List Value), sblk (jGo g) b → sxs nL b pc L st = some (pc', L', st') → JJ g w pc' L' st' → JJ g w pc L st
  | [], pc, L, st, _, h, kk => by
    simp only [sxs] at h; cases h; exact kk
  | q :: r, pc, L, st, hb, h, kk => by
    simp only [sxs] at h
    split at h
    · rename_i hq
      have hq := Nat.eq_of_beq_eq_true hq
      subst hq
      split at h
      · rename_i z hz
        obtain ⟨a, b, c⟩ := z
        exact sx_ok C hn hb.1.1 hb.1.2 hz (sxs_ok C hn r _ _ _ hb.2 h kk)
      · cases h
    · cases h
/-- A BLOCK -/
theorem j_run {b : List jE} {cc : ByteArray} (pc' : Nat) (L' : List (Nat × Value)) (st' : List Value) (C : jC g) (hn : jGL g = nL) (hcc : jGo g = cc) (hb : sblk cc b) (h : sxs nL b pc L st = some (pc', L', st')) (kk : JJ g w pc' L' st') : JJ g w pc L st := sxs_ok C hn b pc L st (by rw [hcc]; exact hb) h kk
end SXO
def sblkB (cc : ByteArray) (b : List jE) : Bool := b.all (fun q => decide (decode cc q.1 = .ok (q.2.1, slen q.2.1)) && scst q.1 q.2.1 q.2.2)
theorem sblk_of {cc : ByteArray} : ∀ {b : List jE}, sblkB cc b = true → sblk cc b
  | [], _ => trivial
  | q :: r, h => by
    simp only [sblkB, List.all_cons, Bool.and_eq_true, decide_eq_true_eq] at h
    exact ⟨h.1, sblk_of (b := r) (by simp only [sblkB]; exact h.2)⟩
end
section
/-! THE J LAYER: the heap (own work) -/
abbrev aI (D : va_G) (n : Nat) (f : Nat → Int32) : va_E := .inl (D.1 100, n, .inl f)
abbrev aJ (D : va_G) (n : Nat) (f : Nat → Int64) : va_E := .inl (D.1 101, n, .inr (.inl f))
abbrev aZ (D : va_G) (n : Nat) (f : Nat → Int32) : va_E := .inl (D.1 102, n, .inl f)
abbrev aR (D : va_G) (t : Nat) (n : Nat) (f : Nat → Option Nat) : va_E := .inl (D.1 (100 + t), n, .inr (.inr (.inr (.inr f))))
abbrev oB (ci : Nat) (fs : List Value) : va_E := .inr (ci, fs)
/-- the context, with its bytes, number of locals, class and class numbers named -/
def jX (g : jG) (cc : ByteArray) (nL : Nat) (own : String) (D : va_G) : Prop := jC g ∧ jGo g = cc ∧ jGL g = nL ∧ (jGy g).cls = own ∧ jGD g = D
/-- the room, named -/
def jRm (g : jG) (k n : Nat) (rm : Room) : Prop := jGk g = k ∧ jGn g = n ∧ jGR g = rm
theorem jP1 {D : va_G} {cl : List vw_C} {q : Nat × va_E} {H : Heap} (h : va_at D cl q H) : va_P D cl [q] H := fun k x hx => by
  have h0 : k < 1 := (List.getElem?_eq_some_iff.mp hx).1
  rw [show k = 0 by omega] at hx
  cases hx
  exact h
theorem jK0 {D : va_G} {s : State} (h : jK D s) : va_K D vwCl [] s := ⟨h.1, fun k q h => by simp at h⟩
theorem jK1 {D : va_G} {s : State} (h : jK D s) {k : Nat} {ty : FieldType} (hk : jAT[k]? = some ty) : ArrOfT s (D.1 (100 + k)) ty := (h.2.1 k ty hk).arr
section JH
variable {g : jG} {w : jW} {cc : ByteArray} {nL pc : Nat} {own : String} {D : va_G} {L : List (Nat × Value)} {st : List Value}
theorem j_blk {b : List jE} (pc' : Nat) (L' : List (Nat × Value)) (st' : List Value) (C : jX g cc nL own D) (hb : sblk cc b) (h : sxs nL b pc L st = some (pc', L', st')) (kk : JJ g w pc' L' st') : JJ g w pc L st := j_run pc' L' st' C.1 C.2.2.1 C.2.1 hb h kk
/-- fields -/
def jF (own : String) (idx ci k : Nat) : Prop := ∃ (C : String) (T : u_T) (N : Nat), vwCl[ci]? = some (C, T, N) ∧ k < N ∧ Cond.fieldLink own idx (T k).1 (T k).2.1 (T k).2.2.1 ∈ jwd ∧ (∀ w ∈ u_ws C T N, w ∈ jwd)
def jFn (own : String) (idx ci k : Nat) : Prop := ∃ (C : String) (T : u_T) (N : Nat) (host : String), vwCl[ci]? = some (C, T, N) ∧ k < N ∧ Cond.fieldLinkNest own idx (T k).1 (T k).2.1 (T k).2.2.1 host ∈ jnest ∧ (∀ w ∈ u_ws C T N, w ∈ jwd)
/-- a class's table is in order -/
def jT (T : u_T) (N : Nat) : Prop := (∃ ty : Nat → FieldType, ∀ k, k < N → parseFieldDescriptor (T k).2.2.1 = some (ty k)) ∧ ∀ a, a < N → ∀ b, b < N → a ≠ b → (T a).2.1 ≠ (T b).2.1
def jFp (own : String) (idx ci k : Nat) (ty : FieldType) : Prop := ∃ (C : String) (T : u_T) (N : Nat), vwCl[ci]? = some (C, T, N) ∧ k < N ∧ Cond.fieldLink own idx (T k).1 (T k).2.1 (T k).2.2.1 ∈ jwd ∧ (∀ w ∈ u_ws C T N, w ∈ jwd) ∧ jT T N ∧ (T k).2.2.2 = false ∧ parseFieldDescriptor (T k).2.2.1 = some ty
def jFpn (own : String) (idx ci k : Nat) (ty : FieldType) : Prop := ∃ (C : String) (T : u_T) (N : Nat) (host : String), vwCl[ci]? = some (C, T, N) ∧ k < N ∧ Cond.fieldLinkNest own idx (T k).1 (T k).2.1 (T k).2.2.1 host ∈ jnest ∧ (∀ w ∈ u_ws C T N, w ∈ jwd) ∧ jT T N ∧ (T k).2.2.2 = false ∧ parseFieldDescriptor (T k).2.2.1 = some ty
def jFf (own : String) (idx ci k : Nat) (ty : FieldType) : Prop := ∃ (C : String) (T : u_T) (N : Nat), vwCl[ci]? = some (C, T, N) ∧ k < N ∧ Cond.fieldLink own idx (T k).1 (T k).2.1 (T k).2.2.1 ∈ jwd ∧ (∀ w ∈ u_ws C T N, w ∈ jwd) ∧ jT T N ∧ (T k).2.2.2 = true ∧ (T k).1 = own ∧ parseFieldDescriptor (T k).2.2.1 = some ty
theorem j_get (C : jX g cc nL own D) {a idx ci k : Nat} {fs : List Value} {v : Value} (hd : decode cc pc = .ok (.getfield idx, 3)) (hf : jF own idx ci k) (hM : w.1 a = some (.inr (ci, fs))) (hv : fs[k]? = some v) (kk : JJ g w (pc + 3) L (v :: st)) : JJ g w pc L (.ref a :: st) := by
  obtain ⟨⟨hx, hb, hml, ho, hts, hK, -⟩, rfl, rfl, rfl, rfl⟩ := C
  obtain ⟨C0, T, N, hc, hk, hl, hin⟩ := hf
  intro H locs ls h1 h2 h3 h4 h5
  exact va_get hx hb hts hin ho (jK0 hK) (jP1 (h1.at hM)) 0 rfl hc k hk (hts _ hl) (fun _ h => h) hv hd (kk H locs ls h1 h2 h3 h4 h5)
theorem j_getN (C : jX g cc nL own D) {a idx ci k : Nat} {fs : List Value} {v : Value} (hd : decode cc pc = .ok (.getfield idx, 3)) (hf : jFn own idx ci k) (hM : w.1 a = some (.inr (ci, fs))) (hv : fs[k]? = some v) (kk : JJ g w (pc + 3) L (v :: st)) : JJ g w pc L (.ref a :: st) := by
  obtain ⟨⟨hx, hb, hml, ho, hts, hK, -⟩, rfl, rfl, rfl, rfl⟩ := C
  obtain ⟨C0, T, N, host, hc, hk, hl, hin⟩ := hf
  intro H locs ls h1 h2 h3 h4 h5
  exact va_getN hx hb hts hin ho (jK0 hK) (jP1 (h1.at hM)) 0 rfl hc k hk (va_Nw.use rfl (hK.2.2.2 _ hl)) (fun _ h => h) hv hd (kk H locs ls h1 h2 h3 h4 h5)
theorem jlcs {locs : List Loc} {B a i : Nat} (h : ∀ q ∈ locs, B ≤ q.base) (ha : B ≤ a) : ∀ q ∈ locs ++ [(⟨a, i⟩ : Loc)], B ≤ q.base := fun q hq => by
  rcases List.mem_append.mp hq with h1 | h1
  · exact h q h1
  · rw [List.mem_singleton] at h1; subst h1; exact ha
theorem jsz (c : Cell) (i : Nat) (v : Value) : (c.setSlot i v).slots.size = c.slots.size := by simp [Cell.setSlot]
theorem j_put (C : jX g cc nL own D) {a idx ci k : Nat} {fs : List Value} {v : Value} {ty : FieldType} (hd : decode cc pc = .ok (.putfield idx, 3)) (hf : jFp own idx ci k ty) (hM : w.1 a = some (.inr (ci, fs))) (hn : narrow ty v = v) (hfit : fits ty v = true) (hl : k < fs.length) (kk : JJ g (va_up w.1 a (some (.inr (ci, fs.set k v))), w.2) (pc + 3) L st) : JJ g w pc L (v :: .ref a :: st) := by
  obtain ⟨⟨hx, hb, hml, ho, hts, hK, -⟩, rfl, rfl, rfl, rfl⟩ := C
  obtain ⟨C0, T, N, hc, hk, hlk, hin, ⟨⟨ty0, hty⟩, hnm⟩, hfin, hpd⟩ := hf
  intro H locs ls h1 h2 h3 h4 h5
  have hap := va_apart (own := (jGy g).cls) hts hin ty0 hty hnm (jK0 hK) hc
  obtain ⟨r, hr1, cell, q1, q2, q3, q4⟩ := h1.at hM
  have hr : r = (C0, T, N) := Option.some.inj (hr1.symm.trans hc)
  subst hr
  obtain ⟨hS, hfc, kC, hkC, hkind⟩ := hK.1 ci _ hc
  obtain ⟨cf, kf, fi, f, hi, hsl⟩ := hS k hk
  have hlay := hts _ (hin _ (u_in_lay hk))
  unfold u_lay at hlay
  rw [if_neg (by rw [hfin]; decide)] at hlay
  have hst := (u_facts hfc hkC (u_lays hts hin hk) hi).1
  have h6 := u_store hfc hkC hkind hlay hi hpd hn hfit
  refine W.putK hx hb (f := f) ⟨ho, hts _ hlk, ⟨_, _, _, hi⟩, hst⟩ (by rw [q2]; exact h6) q1 q3 (by rw [hsl]; exact k2_hasslot (q4 k hk)) rfl rfl hd fun H' e1 e2 e3 => ?_
  have e4 := e1
  rw [hsl] at e4
  exact kk H' _ ls (h1.set hM e2 q1 e1 (jsz _ _ _) e3 ⟨_, hc, t_OB.to (V := updV (vp_V fs) k v) ⟨_, e4, q2, q3, t_set q4 hap hk v⟩ (fun j _ => vp_updV_set hl v j)⟩) h2 h3 (jlcs h4 (h1.le hM)) h5
theorem j_putN (C : jX g cc nL own D) {a idx ci k : Nat} {fs : List Value} {v : Value} {ty : FieldType} (hd : decode cc pc = .ok (.putfield idx, 3)) (hf : jFpn own idx ci k ty) (hM : w.1 a = some (.inr (ci, fs))) (hn : narrow ty v = v) (hfit : fits ty v = true) (hl : k < fs.length) (kk : JJ g (va_up w.1 a (some (.inr (ci, fs.set k v))), w.2) (pc + 3) L st) : JJ g w pc L (v :: .ref a :: st) := by
  obtain ⟨⟨hx, hb, hml, ho, hts, hK, -⟩, rfl, rfl, rfl, rfl⟩ := C
  obtain ⟨C0, T, N, host, hc, hk, hlk, hin, ⟨⟨ty0, hty⟩, hnm⟩, hfin, hpd⟩ := hf
  intro H locs ls h1 h2 h3 h4 h5
  have hap := va_apart (own := (jGy g).cls) hts hin ty0 hty hnm (jK0 hK) hc
  obtain ⟨r, hr1, cell, q1, q2, q3, q4⟩ := h1.at hM
  have hr : r = (C0, T, N) := Option.some.inj (hr1.symm.trans hc)
  subst hr
  obtain ⟨hS, hfc, kC, hkC, hkind⟩ := hK.1 ci _ hc
  obtain ⟨cf, kf, fi, f, hi, hsl⟩ := hS k hk
  have hlay := hts _ (hin _ (u_in_lay hk))
  unfold u_lay at hlay
  rw [if_neg (by rw [hfin]; decide)] at hlay
  have hst := (u_facts hfc hkC (u_lays hts hin hk) hi).1
  have h6 := u_store hfc hkC hkind hlay hi hpd hn hfit
  refine va_WputK hx hb (f := f) ho (va_Nw.use rfl (hK.2.2.2 _ hlk)) hi hst (by rw [q2]; exact h6) q1 q3 (by rw [hsl]; exact k2_hasslot (q4 k hk)) rfl rfl hd fun H' e1 e2 e3 => ?_
  have e4 := e1
  rw [hsl] at e4
  exact kk H' _ ls (h1.set hM e2 q1 e1 (jsz _ _ _) e3 ⟨_, hc, t_OB.to (V := updV (vp_V fs) k v) ⟨_, e4, q2, q3, t_set q4 hap hk v⟩ (fun j _ => vp_updV_set hl v j)⟩) h2 h3 (jlcs h4 (h1.le hM)) h5
theorem j_putF (C : jX g cc nL own D) (hin9 : (jGy g).name = "<init>") {a idx ci k : Nat} {fs : List Value} {v : Value} {ty : FieldType} (hd : decode cc pc = .ok (.putfield idx, 3)) (hf : jFf own idx ci k ty) (hM : w.1 a = some (.inr (ci, fs))) (hn : narrow ty v = v) (hfit : fits ty v = true) (hl : k < fs.length) (kk : JJ g (va_up w.1 a (some (.inr (ci, fs.set k v))), w.2) (pc + 3) L st) : JJ g w pc L (v :: .ref a :: st) := by
  obtain ⟨⟨hx, hb, hml, ho, hts, hK, hnam, -⟩, rfl, rfl, rfl, rfl⟩ := C
  obtain ⟨C0, T, N, hc, hk, hlk, hin, ⟨⟨ty0, hty⟩, hnm⟩, hfin, hdecl, hpd⟩ := hf
  intro H locs ls h1 h2 h3 h4 h5
  have hap := va_apart (own := (jGy g).cls) hts hin ty0 hty hnm (jK0 hK) hc
  obtain ⟨r, hr1, cell, q1, q2, q3, q4⟩ := h1.at hM
  have hr : r = (C0, T, N) := Option.some.inj (hr1.symm.trans hc)
  subst hr
  obtain ⟨hS, hfc, kC, hkC, hkind⟩ := hK.1 ci _ hc
  obtain ⟨cf, kf, fi, f, hi, hsl⟩ := hS k hk
  have hlay := hts _ (hin _ (u_in_lay hk))
  unfold u_lay at hlay
  rw [if_pos hfin] at hlay
  have hst := (u_facts hfc hkC (u_lays hts hin hk) hi).1
  have hcf : (jGm g).cls = cf := by
    obtain ⟨_, _, c', _, _, _, -, -, hf', -, -, -, hown2, -⟩ := Cond.laysFinal_spec hlay
    have e1 : c' = cf := by have := hi.symm.trans hf'; simp at this; exact this.1.symm
    rw [hdecl] at hown2
    rw [← e1]; exact Option.some.inj (ho.symm.trans hown2)
  have h6 := u_fits hfc hkC hkind (Or.inr hlay) hi hpd hn hfit
  refine W.putFinK hx hb ho (hts _ hlk) hi hst hcf (hnam.trans hin9) (by rw [q2]; exact h6) q1 q3 (by rw [hsl]; exact k2_hasslot (q4 k hk)) rfl rfl hd fun H' e1 e2 e3 => ?_
  have e4 := e1
  rw [hsl] at e4
  exact kk H' _ ls (h1.set hM e2 q1 e1 (jsz _ _ _) e3 ⟨_, hc, t_OB.to (V := updV (vp_V fs) k v) ⟨_, e4, q2, q3, t_set q4 hap hk v⟩ (fun j _ => vp_updV_set hl v j)⟩) h2 h3 (jlcs h4 (h1.le hM)) h5
theorem j_iald (C : jX g cc nL own D) {a n : Nat} {f : Nat → Int32} {i : Int32} (hd : decode cc pc = .ok (.iaload, 1)) (hM : w.1 a = some (aI D n f)) (hin : vp_in i n) (kk : JJ g w (pc + 1) L (.int (f i.toNatClampNeg) :: st)) : JJ g w pc L (.int i :: .ref a :: st) := by
  obtain ⟨⟨hx, hb, hml, ho, hts, hK, -⟩, rfl, rfl, rfl, rfl⟩ := C
  intro H locs ls h1 h2 h3 h4 h5
  have hlt : i.toNatClampNeg < n := Nat.not_le.mp fun q => hin (Or.inr q)
  exact W.iald (v := .int (f i.toNatClampNeg)) hx hb (h1.at hM) (jK1 hK (k := 0) rfl n (fun j => .int (f j))) (fun q => by cases q) (by show ¬ (i < 0 ∨ (arrV _ _ _).slots.size ≤ _); rw [arrV_size]; exact hin) (by show (arrV _ _ _).slots[_]? = _; rw [arrV_read _ _ hlt]) rfl rfl hd (kk H locs ls h1 h2 h3 h4 h5)
theorem j_lald (C : jX g cc nL own D) {a n : Nat} {f : Nat → Int64} {i : Int32} (hd : decode cc pc = .ok (.laload, 1)) (hM : w.1 a = some (aJ D n f)) (hin : vp_in i n) (kk : JJ g w (pc + 1) L (.long (f i.toNatClampNeg) :: st)) : JJ g w pc L (.int i :: .ref a :: st) := by
  obtain ⟨⟨hx, hb, hml, ho, hts, hK, -⟩, rfl, rfl, rfl, rfl⟩ := C
  intro H locs ls h1 h2 h3 h4 h5
  have hlt : i.toNatClampNeg < n := Nat.not_le.mp fun q => hin (Or.inr q)
  exact W.lald (v := .long (f i.toNatClampNeg)) hx hb (h1.at hM) (jK1 hK (k := 1) rfl n (fun j => .long (f j))) (fun q => by cases q) (by show ¬ (i < 0 ∨ (arrV _ _ _).slots.size ≤ _); rw [arrV_size]; exact hin) (by show (arrV _ _ _).slots[_]? = _; rw [arrV_read _ _ hlt]) rfl rfl hd (kk H locs ls h1 h2 h3 h4 h5)
theorem j_zald (C : jX g cc nL own D) {a n : Nat} {f : Nat → Int32} {i : Int32} (hd : decode cc pc = .ok (.baload, 1)) (hM : w.1 a = some (aZ D n f)) (hin : vp_in i n) (kk : JJ g w (pc + 1) L (.int (f i.toNatClampNeg) :: st)) : JJ g w pc L (.int i :: .ref a :: st) := by
  obtain ⟨⟨hx, hb, hml, ho, hts, hK, -⟩, rfl, rfl, rfl, rfl⟩ := C
  intro H locs ls h1 h2 h3 h4 h5
  have hlt : i.toNatClampNeg < n := Nat.not_le.mp fun q => hin (Or.inr q)
  exact W.zald (v := .int (f i.toNatClampNeg)) hx hb (h1.at hM) (jK1 hK (k := 2) rfl n (fun j => .int (f j))) (fun q => by cases q) (by show ¬ (i < 0 ∨ (arrV _ _ _).slots.size ≤ _); rw [arrV_size]; exact hin) (by show (arrV _ _ _).slots[_]? = _; rw [arrV_read _ _ hlt]) rfl rfl hd (kk H locs ls h1 h2 h3 h4 h5)
theorem j_aald (C : jX g cc nL own D) {a n t : Nat} {f : Nat → Option Nat} {i : Int32} {v : Value} {ty : FieldType} (hd : decode cc pc = .ok (.aaload, 1)) (ht : jAT[t]? = some ty) (hr : ty.isReference = true) (hM : w.1 a = some (aR D t n f)) (hin : vp_in i n) (hv : va_rf (f i.toNatClampNeg) = v) (kk : JJ g w (pc + 1) L (v :: st)) : JJ g w pc L (.int i :: .ref a :: st) := by
  obtain ⟨⟨hx, hb, hml, ho, hts, hK, -⟩, rfl, rfl, rfl, rfl⟩ := C
  subst hv
  intro H locs ls h1 h2 h3 h4 h5
  have hlt : i.toNatClampNeg < n := Nat.not_le.mp fun q => hin (Or.inr q)
  exact W.aald (v := va_rf (f i.toNatClampNeg)) (ty := ty) hx hb (h1.at hM) (jK1 hK ht n (fun j => va_rf (f j))) hr (fun q => by cases q) (by show ¬ (i < 0 ∨ (arrV _ _ _).slots.size ≤ _); rw [arrV_size]; exact hin) (by show (arrV _ _ _).slots[_]? = _; rw [arrV_read _ _ hlt]) rfl rfl hd (kk H locs ls h1 h2 h3 h4 h5)
theorem jarrsz (c : ClassId) (n : Nat) (f f' : Nat → Value) : (arrV c n f).slots.size = (arrV c n f').slots.size := by rw [arrV_size, arrV_size]
theorem j_iast (C : jX g cc nL own D) {a n : Nat} {f : Nat → Int32} {i : Int32} {x : Int32} (hd : decode cc pc = .ok (.iastore, 1)) (hM : w.1 a = some (aI D n f)) (hin : vp_in i n) (kk : JJ g (va_up w.1 a (some (aI D n (upd f i.toNatClampNeg x))), w.2) (pc + 1) L st) : JJ g w pc L (.int x :: .int i :: .ref a :: st) := by
  obtain ⟨⟨hx, hb, hml, ho, hts, hK, -⟩, rfl, rfl, rfl, rfl⟩ := C
  intro H locs ls h1 h2 h3 h4 h5
  refine W.iast hx hb (h1.at hM) (jK1 hK (k := 0) rfl n (fun j => .int (f j))) (fun q => by cases q) (by show ¬ (i < 0 ∨ (arrV _ _ _).slots.size ≤ _); rw [arrV_size]; exact hin) rfl rfl hd fun H1 e z oq => ?_
  have ec : H1[a]? = some (vp_cell ((jGD g).1 100) (n, .inl (upd f i.toNatClampNeg x))) := by
    rw [e]
    rw [vp_cell_i, vp_cell_i, arrV_store]
    congr 2
    funext q
    by_cases hq : q = i.toNatClampNeg
    · subst hq
      simp [updV, upd]
      try rfl
    · simp [updV, upd, hq]
  exact kk H1 _ ls (h1.set hM z (h1.at hM) ec (by rw [vp_cell_i, vp_cell_i]; exact jarrsz _ _ _ _) oq ec) h2 h3 (jlcs h4 (h1.le hM)) h5
theorem j_last (C : jX g cc nL own D) {a n : Nat} {f : Nat → Int64} {i : Int32} {x : Int64} (hd : decode cc pc = .ok (.lastore, 1)) (hM : w.1 a = some (aJ D n f)) (hin : vp_in i n) (kk : JJ g (va_up w.1 a (some (aJ D n (vp_updL f i.toNatClampNeg x))), w.2) (pc + 1) L st) : JJ g w pc L (.long x :: .int i :: .ref a :: st) := by
  obtain ⟨⟨hx, hb, hml, ho, hts, hK, -⟩, rfl, rfl, rfl, rfl⟩ := C
  intro H locs ls h1 h2 h3 h4 h5
  refine W.last hx hb (h1.at hM) (jK1 hK (k := 1) rfl n (fun j => .long (f j))) (fun q => by cases q) (by show ¬ (i < 0 ∨ (arrV _ _ _).slots.size ≤ _); rw [arrV_size]; exact hin) rfl rfl hd fun H1 e z oq => ?_
  have ec : H1[a]? = some (vp_cell ((jGD g).1 101) (n, .inr <| .inl (vp_updL f i.toNatClampNeg x))) := by
    rw [e]
    rw [vp_cell_l, vp_cell_l, arrV_store]
    congr 2
    funext q
    by_cases hq : q = i.toNatClampNeg
    · subst hq
      simp [updV, vp_updL]
      try rfl
    · simp [updV, vp_updL, hq]
  exact kk H1 _ ls (h1.set hM z (h1.at hM) ec (by rw [vp_cell_l, vp_cell_l]; exact jarrsz _ _ _ _) oq ec) h2 h3 (jlcs h4 (h1.le hM)) h5
theorem j_zast (C : jX g cc nL own D) {a n : Nat} {f : Nat → Int32} {i : Int32} {x : Int32} (hd : decode cc pc = .ok (.bastore, 1)) (hM : w.1 a = some (aZ D n f)) (hin : vp_in i n) (kk : JJ g (va_up w.1 a (some (aZ D n (upd f i.toNatClampNeg (vp_nar .boolean x)))), w.2) (pc + 1) L st) : JJ g w pc L (.int x :: .int i :: .ref a :: st) := by
  obtain ⟨⟨hx, hb, hml, ho, hts, hK, -⟩, rfl, rfl, rfl, rfl⟩ := C
  intro H locs ls h1 h2 h3 h4 h5
  refine W.zast hx hb (h1.at hM) (jK1 hK (k := 2) rfl n (fun j => .int (f j))) (fun q => by cases q) (by show ¬ (i < 0 ∨ (arrV _ _ _).slots.size ≤ _); rw [arrV_size]; exact hin) rfl rfl hd fun H1 e z oq => ?_
  have ec : H1[a]? = some (vp_cell ((jGD g).1 102) (n, .inl (upd f i.toNatClampNeg (vp_nar .boolean x)))) := by
    rw [e]
    rw [vp_cell_i, vp_cell_i, arrV_store]
    congr 2
    funext q
    by_cases hq : q = i.toNatClampNeg
    · subst hq
      simp [updV, upd, vp_nar]
      try rfl
    · simp [updV, upd, hq]
  exact kk H1 _ ls (h1.set hM z (h1.at hM) ec (by rw [vp_cell_i, vp_cell_i]; exact jarrsz _ _ _ _) oq ec) h2 h3 (jlcs h4 (h1.le hM)) h5
theorem j_alen (C : jX g cc nL own D) {a n t : Nat} {x : vp_A} {ty : FieldType} (hd : decode cc pc = .ok (.arraylength, 1)) (ht : jAT[t]? = some ty) (hM : w.1 a = some (.inl (D.1 (100 + t), x))) (hn : x.1 = n) (kk : JJ g w (pc + 1) L (.int (Int32.ofNat n) :: st)) : JJ g w pc L (.ref a :: st) := by
  obtain ⟨⟨hx, hb, hml, ho, hts, hK, -⟩, rfl, rfl, rfl, rfl⟩ := C
  intro H locs ls h1 h2 h3 h4 h5
  obtain ⟨k, y⟩ := x
  cases hn
  have ha := h1.at hM
  have key : ∃ z : Nat → Value, vp_cell ((jGD g).1 (100 + t)) (k, y) = arrV ((jGD g).1 (100 + t)) k z := by
    rcases y with f | f | f | f | f
    · exact ⟨_, vp_cell_i _ _ _⟩
    · exact ⟨_, vp_cell_l _ _ _⟩
    · exact ⟨_, vp_cell_f _ _ _⟩
    · exact ⟨_, vp_cell_d _ _ _⟩
    · exact ⟨_, vp_cell_q _ _ _⟩
  obtain ⟨z, hz⟩ := key
  exact W.alen (n := Int32.ofNat k) hx hb (ha.trans (congrArg some hz)) (jK1 hK ht k z) (by rw [arrV_size] <;> rfl) rfl rfl hd (kk H locs ls h1 h2 h3 h4 h5)
theorem j_aast (C : jX g cc nL own D) {a n t v ci : Nat} {r : vw_C} {vs : List Value} {f : Nat → Option Nat} {i : Int32} (hd : decode cc pc = .ok (.aastore, 1)) (hc : vwCl[ci]? = some r) (ht : jAT[t]? = some (.object r.1)) (hM : w.1 a = some (aR D t n f)) (hv : w.1 v = some (.inr (ci, vs))) (hin : vp_in i n) (kk : JJ g (va_up w.1 a (some (aR D t n (va_up f i.toNatClampNeg (some v)))), w.2) (pc + 1) L st) : JJ g w pc L (.ref v :: .int i :: .ref a :: st) := by
  obtain ⟨⟨hx, hb, hml, ho, hts, hK, -⟩, rfl, rfl, rfl, rfl⟩ := C
  intro H locs ls h1 h2 h3 h4 h5
  have hlt : i.toNatClampNeg < n := Nat.not_le.mp fun q => hin (Or.inr q)
  have h0 : ¬ i < 0 := fun q => hin (Or.inl q)
  obtain ⟨r', hr', cellV, g1, g2, g3, -⟩ := h1.at hv
  have hcls := (hK.1 ci r hc).2
  obtain ⟨kA, comp, k1, k2, -, k3⟩ := hK.2.1 t _ ht
  have hcomp : comp = (jGD g).1 ci := Option.some.inj ((k3 rfl).symm.trans hcls.1)
  subst hcomp
  obtain ⟨kC, hkC, -⟩ := hcls.2
  refine W.aast hx hb (h1.at hM) (fun q h => by cases h) (fun h => by cases h) k1 k2 rfl hkC ⟨h0, by show _ < (arrV _ _ _).slots.size; rw [arrV_size]; exact hlt⟩ g1 (fun q h => by rw [g3] at h; cases h) (by rw [g2]; exact hkC) (by rw [g2]; exact va_assign hcls) rfl rfl hd fun H1 e z oq => ?_
  have ec : H1[a]? = some (vp_cell ((jGD g).1 (100 + t)) (n, .inr (.inr (.inr (.inr (va_up f i.toNatClampNeg (some v))))))) := by
    rw [e]
    rw [vp_cell_q, vp_cell_q, arrV_store]
    congr 2
    funext q
    by_cases hq : q = i.toNatClampNeg
    · subst hq
      simp [updV, va_up, va_rf]
    · simp [updV, va_up, hq]
  exact kk H1 _ ls (h1.set hM z (h1.at hM) ec (by rw [vp_cell_q, vp_cell_q]; exact jarrsz _ _ _ _) oq ec) h2 h3 (jlcs h4 (h1.le hM)) h5
end JH
end
section
/-! THE J LAYER: making, branches, ends, calls (own work) -/
section JN
variable {g : jG} {w : jW} {cc : ByteArray} {nL pc : Nat} {own : String} {D : va_G} {L : List (Nat × Value)} {st : List Value} {k0 n0 : Nat} {rm : Room}
/-- a class's objects as they are made -/
def jNew (own : String) (idx ci n : Nat) (fs : List Value) : Prop := ∃ (C : String) (T : u_T) (N : Nat) (ty : Nat → FieldType), vwCl[ci]? = some (C, T, N) ∧ Cond.classLink own idx C ∈ jwd ∧ Cond.instantiable C n ∈ jwd ∧ Cond.initialized C ∈ jwd ∧ (∀ w ∈ u_ws C T N, w ∈ jwd) ∧ (∀ k, k < N → parseFieldDescriptor (T k).2.2.1 = some (ty k)) ∧ ∀ k, k < N → vp_V fs k = defaultValue (ty k)
theorem j_new (C : jX g cc nL own D) (Rm : jRm g k0 n0 rm) {idx ci n : Nat} {fs : List Value} (hd : decode cc pc = .ok (.new idx, 3)) (hf : jNew own idx ci n fs) (hc1 : w.2.1 + 1 ≤ k0 + rm.cells) (hc2 : w.2.2 + n ≤ n0 + rm.slots)
    (kk : ∀ q : Nat, (∀ a e, w.1 a = some e → a ≠ q) → JJ g (va_up w.1 q (some (.inr (ci, fs))), w.2.1 + 1, w.2.2 + n) (pc + 3) L (.ref q :: st)) : JJ g w pc L st := by
  obtain ⟨⟨hx, hb, hml, ho, hts, hK, -⟩, rfl, rfl, rfl, rfl⟩ := C
  obtain ⟨C0, T, N, ty, hc, hcl, hins, hini, hin, hty, hfs⟩ := hf
  obtain ⟨rfl, rfl, rfl⟩ := Rm
  intro H locs ls h1 h2 h3 h4 h5
  refine W.newc hx hb ho (hts _ hcl) (hts _ hins) (hts _ hini) rfl hd (by omega) (by omega) fun cC kC e1 e2 e3 e4 => ?_
  have hKn := hK.1 ci _ hc
  have ecC : cC = (jGD g).1 ci := Option.some.inj (e1.symm.trans hKn.2.1)
  subst ecC
  have hob : t_OB H.size ((jGD g).1 ci) N ((jGD g).2 ci) (H.push (blank ((jGD g).1 ci) kC)) (vp_V fs) := (u_born ty hts hin hKn e2 (by rw [Array.getElem?_push_size]) hty).to (fun k hk => (hfs k hk).symm)
  have hsz : (blank ((jGD g).1 ci) kC).slots.size = n := by show (kC.instanceTypes.map defaultValue).size = n; rw [Array.size_map]; exact e4
  have hH := h1.push (c := blank ((jGD g).1 ci) kC) (e := .inr (ci, fs)) ⟨_, hc, hob⟩
  rw [hsz] at hH
  have := kk H.size h1.fresh _ locs ls hH (by show _ ≤ w.2.1 + 1; omega) (by show _ ≤ w.2.2 + n; omega) h4 h5
  have a1 : w.2.1 + 1 - jGk g = w.2.1 - jGk g + 1 := by omega
  have a2 : w.2.2 + n - jGn g = w.2.2 - jGn g + n := by omega
  simp only [a1, a2] at this
  exact this
/-- a new array of a primitive type -/
def jaN (D : va_G) (t : ArrayType) (n : Nat) : va_E := match t with
  | .long => aJ D n (fun _ => 0)
  | .boolean => aZ D n (fun _ => 0)
  | _ => aI D n (fun _ => 0)
def jaT (t : ArrayType) : Option Nat := match t with
  | .int => some 0
  | .long => some 1
  | .boolean => some 2
  | _ => none
theorem j_newa (C : jX g cc nL own D) (Rm : jRm g k0 n0 rm) {at9 : ArrayType} {t n : Nat} {x : Int32} (hd : decode cc pc = .ok (.newarray at9, 2)) (ht : jaT at9 = some t) (hw : Cond.arrayClass (newarray.typeOf at9) ∈ jwd) (hx0 : ¬ x < 0) (hxn : x.toNatClampNeg = n) (hby : n * 8 ≤ 536870912) (hc1 : w.2.1 + 1 ≤ k0 + rm.cells) (hc2 : w.2.2 + n ≤ n0 + rm.slots)
    (kk : ∀ q : Nat, (∀ a e, w.1 a = some e → a ≠ q) → JJ g (va_up w.1 q (some (jaN D at9 n)), w.2.1 + 1, w.2.2 + n) (pc + 2) L (.ref q :: st)) : JJ g w pc L (.int x :: st) := by
  obtain ⟨⟨hx, hb, hml, ho, hts, hK, -⟩, rfl, rfl, rfl, rfl⟩ := C
  obtain ⟨rfl, rfl, rfl⟩ := Rm
  subst hxn
  intro H locs ls h1 h2 h3 h4 h5
  have hcb : componentBytes (newarray.typeOf at9) ≤ 8 := by cases at9 <;> simp [newarray.typeOf, componentBytes]
  have hby2 : x.toNatClampNeg * componentBytes (newarray.typeOf at9) ≤ 536870912 := Nat.le_trans (Nat.mul_le_mul_left _ hcb) hby
  refine W.newa hx hb (hts _ hw) rfl hd rfl hx0 hby2 (by omega) (by omega) fun cA kA comp f1 f2 f3 => ?_
  have key : jAT[t]? = some (newarray.typeOf at9) ∧ ∀ D' : va_G, jaN D' at9 x.toNatClampNeg = .inl (D'.1 (100 + t), (match at9 with | .long => (x.toNatClampNeg, .inr (.inl (fun _ => 0))) | _ => (x.toNatClampNeg, .inl (fun _ => 0)) : vp_A)) ∧ vp_cell (D'.1 (100 + t)) (match at9 with | .long => (x.toNatClampNeg, .inr (.inl (fun _ => 0))) | _ => (x.toNatClampNeg, .inl (fun _ => 0)) : vp_A) = arrV (D'.1 (100 + t)) x.toNatClampNeg (fun _ => defaultValue (newarray.typeOf at9)) := by
    cases at9 <;> simp only [jaT] at ht <;> cases ht <;> exact ⟨rfl, fun _ => ⟨rfl, rfl⟩⟩
  have ecA : cA = (jGD g).1 (100 + t) := by
    obtain ⟨kA2, comp2, -, -, g3, -⟩ := hK.2.1 t _ key.1
    exact Option.some.inj (f1.symm.trans g3)
  subst ecA
  obtain ⟨key1, key2⟩ := key
  obtain ⟨key2, key3⟩ := key2 (jGD g)
  have hce : ({ cls := (jGD g).1 (100 + t), slots := Array.replicate x.toNatClampNeg (defaultValue (newarray.typeOf at9)), vm := .none } : Cell) = arrV ((jGD g).1 (100 + t)) x.toNatClampNeg (fun _ => defaultValue (newarray.typeOf at9)) := arrV_new _ _ _
  rw [hce]
  have hH := h1.push (c := arrV ((jGD g).1 (100 + t)) x.toNatClampNeg (fun _ => defaultValue (newarray.typeOf at9))) (e := jaN (jGD g) at9 x.toNatClampNeg) (by rw [key2]; show _ = some _; rw [Array.getElem?_push_size]; exact congrArg some key3.symm)
  rw [arrV_size] at hH
  have := kk H.size h1.fresh _ locs ls hH (by show _ ≤ w.2.1 + 1; omega) (by show _ ≤ w.2.2 + x.toNatClampNeg; omega) h4 h5
  have a1 : w.2.1 + 1 - jGk g = w.2.1 - jGk g + 1 := by omega
  have a2 : w.2.2 + x.toNatClampNeg - jGn g = w.2.2 - jGn g + x.toNatClampNeg := by omega
  simp only [a1, a2] at this
  exact this
theorem j_anew (C : jX g cc nL own D) (Rm : jRm g k0 n0 rm) {idx t n : Nat} {Cn : String} {x : Int32} (hd : decode cc pc = .ok (.anewarray idx, 3)) (ht : jAT[t]? = some (.object Cn)) (hao : Cn ∈ jAO) (hw : Cond.classLink own idx Cn ∈ jwd) (hx0 : ¬ x < 0) (hxn : x.toNatClampNeg = n) (hby : n * 4 ≤ 536870912) (hc1 : w.2.1 + 1 ≤ k0 + rm.cells) (hc2 : w.2.2 + n ≤ n0 + rm.slots)
    (kk : ∀ q : Nat, (∀ a e, w.1 a = some e → a ≠ q) → JJ g (va_up w.1 q (some (aR D t n (fun _ => none))), w.2.1 + 1, w.2.2 + n) (pc + 3) L (.ref q :: st)) : JJ g w pc L (.int x :: st) := by
  obtain ⟨⟨hx, hb, hml, ho, hts, hK, -⟩, rfl, rfl, rfl, rfl⟩ := C
  obtain ⟨rfl, rfl, rfl⟩ := Rm
  subst hxn
  intro H locs ls h1 h2 h3 h4 h5
  refine W.anew hx hb ho (hts _ hw) (va_AO.use (hK.2.2.1 _ hao)) rfl hd rfl hx0 hby (by omega) (by omega) fun cA kA comp f1 f2 f3 f4 => ?_
  have ecA : cA = (jGD g).1 (100 + t) := by
    obtain ⟨kA2, comp2, -, -, g3, -⟩ := hK.2.1 t _ ht
    exact Option.some.inj (f1.symm.trans g3)
  subst ecA
  rw [show ({ cls := (jGD g).1 (100 + t), slots := Array.replicate x.toNatClampNeg .null, vm := .none } : Cell) = arrV ((jGD g).1 (100 + t)) x.toNatClampNeg (fun _ => .null) from arrV_new _ _ _]
  have hH := h1.push (c := arrV ((jGD g).1 (100 + t)) x.toNatClampNeg (fun _ => .null)) (e := aR (jGD g) t x.toNatClampNeg (fun _ => none)) (by show _ = some _; rw [Array.getElem?_push_size, vp_cell_q]; rfl)
  rw [arrV_size] at hH
  have := kk H.size h1.fresh _ locs ls hH (by show _ ≤ w.2.1 + 1; omega) (by show _ ≤ w.2.2 + x.toNatClampNeg; omega) h4 h5
  have a1 : w.2.1 + 1 - jGk g = w.2.1 - jGk g + 1 := by omega
  have a2 : w.2.2 + x.toNatClampNeg - jGn g = w.2.2 - jGn g + x.toNatClampNeg := by omega
  simp only [a1, a2] at this
  exact this
theorem j_ldc (C : jX g cc nL own D) {idx : Nat} {v : Int32} (hd : decode cc pc = .ok (.ldc idx, 2)) (hw : Cond.constant own idx v ∈ jwd) (kk : JJ g w (pc + 2) L (.int v :: st)) : JJ g w pc L st := by
  obtain ⟨⟨hx, hb, hml, ho, hts, hK, -⟩, rfl, rfl, rfl, rfl⟩ := C
  exact fun H locs ls h1 h2 h3 h4 h5 => lv_ldc hx hb ho (hts _ hw) hd (kk H locs ls h1 h2 h3 h4 h5)
theorem j_ldcw (C : jX g cc nL own D) {idx : Nat} {v : Int32} (hd : decode cc pc = .ok (.ldc_w idx, 3)) (hw : Cond.constant own idx v ∈ jwd) (kk : JJ g w (pc + 3) L (.int v :: st)) : JJ g w pc L st := by
  obtain ⟨⟨hx, hb, hml, ho, hts, hK, -⟩, rfl, rfl, rfl, rfl⟩ := C
  exact fun H locs ls h1 h2 h3 h4 h5 => lv_ldcw hx hb ho (hts _ hw) hd (kk H locs ls h1 h2 h3 h4 h5)
theorem j_ldc2 (C : jX g cc nL own D) {idx : Nat} {v : Int64} (hd : decode cc pc = .ok (.ldc2_w idx, 3)) (hw : Cond.constantLong own idx v ∈ jwd) (kk : JJ g w (pc + 3) L (.long v :: st)) : JJ g w pc L st := by
  obtain ⟨⟨hx, hb, hml, ho, hts, hK, -⟩, rfl, rfl, rfl, rfl⟩ := C
  exact fun H locs ls h1 h2 h3 h4 h5 => lv_ldc2 hx hb ho (hts _ hw) hd (kk H locs ls h1 h2 h3 h4 h5)
theorem j_if_eq (C : jX g cc nL own D) {x : Int32} {off : Int} {tgt : Nat} (hd : decode cc pc = .ok (.ifCond .eq off, 3)) (ht : (pc : Int) + off = (tgt : Int)) (kt : x = 0 → JJ g w tgt L st) (kf : ¬ (x = 0) → JJ g w (pc + 3) L st) : JJ g w pc L (.int x :: st) := by
  obtain ⟨⟨hx, hb, -⟩, rfl, -⟩ := C
  exact fun H locs ls h1 h2 h3 h4 h5 => lv_if_eq hx hb hd ht (fun h => kt h H locs ls h1 h2 h3 h4 h5) (fun h => kf h H locs ls h1 h2 h3 h4 h5)
theorem j_icmp_eq (C : jX g cc nL own D) {x y : Int32} {off : Int} {tgt : Nat} (hd : decode cc pc = .ok (.if_icmp .eq off, 3)) (ht : (pc : Int) + off = (tgt : Int)) (kt : x = y → JJ g w tgt L st) (kf : ¬ (x = y) → JJ g w (pc + 3) L st) : JJ g w pc L (.int y :: .int x :: st) := by
  obtain ⟨⟨hx, hb, -⟩, rfl, -⟩ := C
  exact fun H locs ls h1 h2 h3 h4 h5 => lv_icmp_eq hx hb hd ht (fun h => kt h H locs ls h1 h2 h3 h4 h5) (fun h => kf h H locs ls h1 h2 h3 h4 h5)
theorem j_if_ne (C : jX g cc nL own D) {x : Int32} {off : Int} {tgt : Nat} (hd : decode cc pc = .ok (.ifCond .ne off, 3)) (ht : (pc : Int) + off = (tgt : Int)) (kt : ¬ x = 0 → JJ g w tgt L st) (kf : x = 0 → JJ g w (pc + 3) L st) : JJ g w pc L (.int x :: st) := by
  obtain ⟨⟨hx, hb, -⟩, rfl, -⟩ := C
  exact fun H locs ls h1 h2 h3 h4 h5 => lv_if_ne hx hb hd ht (fun h => kt h H locs ls h1 h2 h3 h4 h5) (fun h => kf h H locs ls h1 h2 h3 h4 h5)
theorem j_icmp_ne (C : jX g cc nL own D) {x y : Int32} {off : Int} {tgt : Nat} (hd : decode cc pc = .ok (.if_icmp .ne off, 3)) (ht : (pc : Int) + off = (tgt : Int)) (kt : ¬ x = y → JJ g w tgt L st) (kf : x = y → JJ g w (pc + 3) L st) : JJ g w pc L (.int y :: .int x :: st) := by
  obtain ⟨⟨hx, hb, -⟩, rfl, -⟩ := C
  exact fun H locs ls h1 h2 h3 h4 h5 => lv_icmp_ne hx hb hd ht (fun h => kt h H locs ls h1 h2 h3 h4 h5) (fun h => kf h H locs ls h1 h2 h3 h4 h5)
theorem j_if_lt (C : jX g cc nL own D) {x : Int32} {off : Int} {tgt : Nat} (hd : decode cc pc = .ok (.ifCond .lt off, 3)) (ht : (pc : Int) + off = (tgt : Int)) (kt : x < 0 → JJ g w tgt L st) (kf : ¬ (x < 0) → JJ g w (pc + 3) L st) : JJ g w pc L (.int x :: st) := by
  obtain ⟨⟨hx, hb, -⟩, rfl, -⟩ := C
  exact fun H locs ls h1 h2 h3 h4 h5 => lv_if_lt hx hb hd ht (fun h => kt h H locs ls h1 h2 h3 h4 h5) (fun h => kf h H locs ls h1 h2 h3 h4 h5)
theorem j_icmp_lt (C : jX g cc nL own D) {x y : Int32} {off : Int} {tgt : Nat} (hd : decode cc pc = .ok (.if_icmp .lt off, 3)) (ht : (pc : Int) + off = (tgt : Int)) (kt : x < y → JJ g w tgt L st) (kf : ¬ (x < y) → JJ g w (pc + 3) L st) : JJ g w pc L (.int y :: .int x :: st) := by
  obtain ⟨⟨hx, hb, -⟩, rfl, -⟩ := C
  exact fun H locs ls h1 h2 h3 h4 h5 => lv_icmp_lt hx hb hd ht (fun h => kt h H locs ls h1 h2 h3 h4 h5) (fun h => kf h H locs ls h1 h2 h3 h4 h5)
theorem j_if_ge (C : jX g cc nL own D) {x : Int32} {off : Int} {tgt : Nat} (hd : decode cc pc = .ok (.ifCond .ge off, 3)) (ht : (pc : Int) + off = (tgt : Int)) (kt : 0 ≤ x → JJ g w tgt L st) (kf : ¬ (0 ≤ x) → JJ g w (pc + 3) L st) : JJ g w pc L (.int x :: st) := by
  obtain ⟨⟨hx, hb, -⟩, rfl, -⟩ := C
  exact fun H locs ls h1 h2 h3 h4 h5 => lv_if_ge hx hb hd ht (fun h => kt h H locs ls h1 h2 h3 h4 h5) (fun h => kf h H locs ls h1 h2 h3 h4 h5)
theorem j_icmp_ge (C : jX g cc nL own D) {x y : Int32} {off : Int} {tgt : Nat} (hd : decode cc pc = .ok (.if_icmp .ge off, 3)) (ht : (pc : Int) + off = (tgt : Int)) (kt : y ≤ x → JJ g w tgt L st) (kf : ¬ (y ≤ x) → JJ g w (pc + 3) L st) : JJ g w pc L (.int y :: .int x :: st) := by
  obtain ⟨⟨hx, hb, -⟩, rfl, -⟩ := C
  exact fun H locs ls h1 h2 h3 h4 h5 => lv_icmp_ge hx hb hd ht (fun h => kt h H locs ls h1 h2 h3 h4 h5) (fun h => kf h H locs ls h1 h2 h3 h4 h5)
theorem j_if_gt (C : jX g cc nL own D) {x : Int32} {off : Int} {tgt : Nat} (hd : decode cc pc = .ok (.ifCond .gt off, 3)) (ht : (pc : Int) + off = (tgt : Int)) (kt : 0 < x → JJ g w tgt L st) (kf : ¬ (0 < x) → JJ g w (pc + 3) L st) : JJ g w pc L (.int x :: st) := by
  obtain ⟨⟨hx, hb, -⟩, rfl, -⟩ := C
  exact fun H locs ls h1 h2 h3 h4 h5 => lv_if_gt hx hb hd ht (fun h => kt h H locs ls h1 h2 h3 h4 h5) (fun h => kf h H locs ls h1 h2 h3 h4 h5)
theorem j_icmp_gt (C : jX g cc nL own D) {x y : Int32} {off : Int} {tgt : Nat} (hd : decode cc pc = .ok (.if_icmp .gt off, 3)) (ht : (pc : Int) + off = (tgt : Int)) (kt : y < x → JJ g w tgt L st) (kf : ¬ (y < x) → JJ g w (pc + 3) L st) : JJ g w pc L (.int y :: .int x :: st) := by
  obtain ⟨⟨hx, hb, -⟩, rfl, -⟩ := C
  exact fun H locs ls h1 h2 h3 h4 h5 => lv_icmp_gt hx hb hd ht (fun h => kt h H locs ls h1 h2 h3 h4 h5) (fun h => kf h H locs ls h1 h2 h3 h4 h5)
theorem j_if_le (C : jX g cc nL own D) {x : Int32} {off : Int} {tgt : Nat} (hd : decode cc pc = .ok (.ifCond .le off, 3)) (ht : (pc : Int) + off = (tgt : Int)) (kt : x ≤ 0 → JJ g w tgt L st) (kf : ¬ (x ≤ 0) → JJ g w (pc + 3) L st) : JJ g w pc L (.int x :: st) := by
  obtain ⟨⟨hx, hb, -⟩, rfl, -⟩ := C
  exact fun H locs ls h1 h2 h3 h4 h5 => lv_if_le hx hb hd ht (fun h => kt h H locs ls h1 h2 h3 h4 h5) (fun h => kf h H locs ls h1 h2 h3 h4 h5)
theorem j_icmp_le (C : jX g cc nL own D) {x y : Int32} {off : Int} {tgt : Nat} (hd : decode cc pc = .ok (.if_icmp .le off, 3)) (ht : (pc : Int) + off = (tgt : Int)) (kt : x ≤ y → JJ g w tgt L st) (kf : ¬ (x ≤ y) → JJ g w (pc + 3) L st) : JJ g w pc L (.int y :: .int x :: st) := by
  obtain ⟨⟨hx, hb, -⟩, rfl, -⟩ := C
  exact fun H locs ls h1 h2 h3 h4 h5 => lv_icmp_le hx hb hd ht (fun h => kt h H locs ls h1 h2 h3 h4 h5) (fun h => kf h H locs ls h1 h2 h3 h4 h5)
theorem j_ifnull (C : jX g cc nL own D) {a : Nat} {off : Int} (hd : decode cc pc = .ok (.ifnull off, 3)) (kk : JJ g w (pc + 3) L st) : JJ g w pc L (.ref a :: st) := by
  obtain ⟨⟨hx, hb, -⟩, rfl, -⟩ := C
  exact fun H locs ls h1 h2 h3 h4 h5 => lv_ifnull hx hb hd (kk H locs ls h1 h2 h3 h4 h5)
theorem j_ifnullN (C : jX g cc nL own D) {off : Int} {tgt : Nat} (hd : decode cc pc = .ok (.ifnull off, 3)) (ht : (pc : Int) + off = (tgt : Int)) (kk : JJ g w tgt L st) : JJ g w pc L (.null :: st) := by
  obtain ⟨⟨hx, hb, -⟩, rfl, -⟩ := C
  exact fun H locs ls h1 h2 h3 h4 h5 => lv_ifnullN hx hb hd ht (kk H locs ls h1 h2 h3 h4 h5)
theorem j_ifnonnull (C : jX g cc nL own D) {a : Nat} {off : Int} {tgt : Nat} (hd : decode cc pc = .ok (.ifnonnull off, 3)) (ht : (pc : Int) + off = (tgt : Int)) (kk : JJ g w tgt L st) : JJ g w pc L (.ref a :: st) := by
  obtain ⟨⟨hx, hb, -⟩, rfl, -⟩ := C
  exact fun H locs ls h1 h2 h3 h4 h5 => lv_ifnonnull hx hb hd ht (kk H locs ls h1 h2 h3 h4 h5)
theorem j_ifnonnullN (C : jX g cc nL own D) {off : Int} (hd : decode cc pc = .ok (.ifnonnull off, 3)) (kk : JJ g w (pc + 3) L st) : JJ g w pc L (.null :: st) := by
  obtain ⟨⟨hx, hb, -⟩, rfl, -⟩ := C
  exact fun H locs ls h1 h2 h3 h4 h5 => lv_ifnonnullN hx hb hd (kk H locs ls h1 h2 h3 h4 h5)
theorem j_tabIn (C : jX g cc nL own D) {dflt lo hi : Int} {offs : Array Int} {len : Nat} {x : Int32} {off : Int} {tgt : Nat} (hd : decode cc pc = .ok (.tableswitch dflt lo hi offs, len)) (q1 : ¬ x.toInt < lo) (q2 : ¬ hi < x.toInt) (ho : offs[(x.toInt - lo).toNat]? = some off) (ht : (pc : Int) + off = (tgt : Int)) (kk : JJ g w tgt L st) : JJ g w pc L (.int x :: st) := by
  obtain ⟨⟨hx, hb, -⟩, rfl, -⟩ := C
  exact fun H locs ls h1 h2 h3 h4 h5 => lv_tableIn hx hb hd q1 q2 ho ht (kk H locs ls h1 h2 h3 h4 h5)
theorem j_tabOut (C : jX g cc nL own D) {dflt lo hi : Int} {offs : Array Int} {len : Nat} {x : Int32} {tgt : Nat} (hd : decode cc pc = .ok (.tableswitch dflt lo hi offs, len)) (q : x.toInt < lo ∨ hi < x.toInt) (ht : (pc : Int) + dflt = (tgt : Int)) (kk : JJ g w tgt L st) : JJ g w pc L (.int x :: st) := by
  obtain ⟨⟨hx, hb, -⟩, rfl, -⟩ := C
  exact fun H locs ls h1 h2 h3 h4 h5 => lv_tableOut hx hb hd q ht (kk H locs ls h1 h2 h3 h4 h5)
theorem j_idiv (C : jX g cc nL own D) {x y : Int32} (hd : decode cc pc = .ok (.idiv, 1)) (hne : ¬ y = 0) (kk : JJ g w (pc + 1) L (.int (x / y) :: st)) : JJ g w pc L (.int y :: .int x :: st) := by
  obtain ⟨⟨hx, hb, -⟩, rfl, -⟩ := C
  exact fun H locs ls h1 h2 h3 h4 h5 => lv_idiv hx hb hd hne (kk H locs ls h1 h2 h3 h4 h5)
theorem j_irem (C : jX g cc nL own D) {x y : Int32} (hd : decode cc pc = .ok (.irem, 1)) (hne : ¬ y = 0) (kk : JJ g w (pc + 1) L (.int (x - x / y * y) :: st)) : JJ g w pc L (.int y :: .int x :: st) := by
  obtain ⟨⟨hx, hb, -⟩, rfl, -⟩ := C
  exact fun H locs ls h1 h2 h3 h4 h5 => lv_irem hx hb hd hne (kk H locs ls h1 h2 h3 h4 h5)
theorem j_ldiv (C : jX g cc nL own D) {x y : Int64} (hd : decode cc pc = .ok (.ldiv, 1)) (hne : ¬ y = 0) (kk : JJ g w (pc + 1) L (.long (x / y) :: st)) : JJ g w pc L (.long y :: .long x :: st) := by
  obtain ⟨⟨hx, hb, -⟩, rfl, -⟩ := C
  exact fun H locs ls h1 h2 h3 h4 h5 => lv_ldiv hx hb hd hne (kk H locs ls h1 h2 h3 h4 h5)
theorem j_lrem (C : jX g cc nL own D) {x y : Int64} (hd : decode cc pc = .ok (.lrem, 1)) (hne : ¬ y = 0) (kk : JJ g w (pc + 1) L (.long (x - x / y * y) :: st)) : JJ g w pc L (.long y :: .long x :: st) := by
  obtain ⟨⟨hx, hb, -⟩, rfl, -⟩ := C
  exact fun H locs ls h1 h2 h3 h4 h5 => lv_lrem hx hb hd hne (kk H locs ls h1 h2 h3 h4 h5)
end JN
end
section
/-! THE J LAYER: contracts (own work) -/
def jPc (D : va_G) (B : Nat) (H0 : Heap) (av : List Value) (w : jW) : Array Value → State → Prop := va_Pc av (fun U => jH D B H0 w U.heap ∧ jK D U)
def jQ (D : va_G) (B : Nat) (H0 : Heap) (post : Option Value → jW → Prop) : Array Value → State → Outcome → State → Prop := fun _ _ oc t => ∃ (v : Option Value) (w' : jW), oc = .returned v ∧ post v w' ∧ jH D B H0 w' t.heap
/-- a contract -/
abbrev jMet (l : Launch) (D : va_G) (B : Nat) (H0 : Heap) (y : MethodName) (cc : ByteArray) (maxL : Nat) (ret : Option FieldType) (fr lo mc ms : Nat) (av : List Value) (w : jW) (post : Option Value → jW → Prop) : Prop :=
  Met l y (Cond.code y cc maxL ret :: jwd) ({ frames := fr, cells := mc, slots := ms, locals := lo } : Room) (jPc D B H0 av w) (jQ D B H0 post) mc ms (fun q => B ≤ q)
def jY (g : jG) (l : Launch) (B : Nat) (H0 : Heap) (y : MethodName) : Prop := jGl g = l ∧ jGB g = B ∧ jGH g = H0 ∧ jGy g = y
def jEnd (g : jG) (post : Option Value → jW → Prop) (mc ms : Nat) (ret : Option FieldType) : Prop := (jGt g).sig.returnType = ret ∧ jGQ g = MQ (jGb g) (jQ (jGD g) (jGB g) (jGH g) post) (jGa g) (jGs g) mc ms (fun q => jGB g ≤ q)
theorem jK.same {D : va_G} {s U : State} (hv : s.vm = U.vm) (h : jK D s) : jK D U := by
  have hvm : s.vm.Alike U.vm := by rw [hv]; exact Vm.Alike.refl _
  obtain ⟨h1, h2, h3, h4⟩ := h
  refine ⟨fun c q hq => u_Kn_moved hvm (h1 c q hq), fun k ty hk => (h2 k ty hk).moved hvm, fun C hC => (h3 C hC).moved hvm, fun w hw => ?_⟩
  have h5 := (List.mem_filter.mp hw).2
  have h6 := h4 w hw
  cases w with
  | fieldLinkNest a i b n d h2 => exact va_Nw.same rfl hv h6
  | methodLinkNest a i x h2 => exact va_Nw.same rfl hv h6
  | _ => simp [jnw] at h5
theorem jPc_blind (D : va_G) (B : Nat) (H0 : Heap) (av : List Value) (w : jW) : FrameBlind (jPc D B H0 av w) := fun a U g mk h => ⟨h.1, h.2.1, jK.same (s := U) (U := U.calling g mk a) rfl h.2.2⟩
/-- the books are exact: a state's counts are those of its world -/
theorem jsum_split {H : Heap} {B k : Nat} : jsum H B = (((H.toList.drop B).take k).map (fun c : Cell => c.slots.size)).sum + jsum H (B + k) := by
  unfold jsum
  conv => lhs; rw [← List.take_append_drop k (H.toList.drop B)]
  rw [List.map_append, List.sum_append, List.drop_drop]
theorem jtight {p : Program} {l : Launch} {e : Env} {R : Room} {s : State} {m : MethodId} {args : Array Value} {below : List Frame} {meth : Method} {c : Code} {T : State} {locs : List Loc} {cells slots : Nat} {D : va_G} {B k0 n0 : Nat} {H0 : Heap} {M0 : jM} {w : jW} (X : Stand p l e R s m args below meth c T locs cells slots) (h0 : jH D B H0 (M0, k0, n0) s.heap) (h : jH D B H0 w T.heap) : k0 ≤ w.2.1 ∧ n0 ≤ w.2.2 ∧ Stand p l e R s m args below meth c T locs (w.2.1 - k0) (w.2.2 - n0) := by
  obtain ⟨e1, e2, e3, e4, e5, e6⟩ := X.same
  have e2 : s.heap.size ≤ T.heap.size := e2
  have hs0 : s.heap.size = B + k0 := h0.1
  have hs : T.heap.size = B + w.2.1 := h.1
  have hj0 : jsum s.heap B = n0 := h0.2.1
  have hj : jsum T.heap B = w.2.2 := h.2.1
  have hk : k0 ≤ w.2.1 := by omega
  have hold : ((T.heap.toList.drop B).take k0).map (fun c : Cell => c.slots.size) = (s.heap.toList.drop B).map (fun c : Cell => c.slots.size) := by
    apply List.ext_getElem?
    intro i
    rw [List.getElem?_map, List.getElem?_map, List.getElem?_take, List.getElem?_drop, List.getElem?_drop, Array.getElem?_toList, Array.getElem?_toList]
    by_cases hi : i < k0
    · rw [if_pos hi]
      have hlt : B + i < s.heap.size := by omega
      obtain ⟨c', q1, -, q3, -⟩ := e6 (B + i) s.heap[B + i] (Array.getElem?_eq_getElem hlt)
      have q1 : T.heap[B + i]? = some c' := q1
      rw [q1, Array.getElem?_eq_getElem hlt]
      simp [q3]
    · rw [if_neg hi]
      have : s.heap[B + i]? = none := Array.getElem?_eq_none (by omega)
      rw [this]
  have hsp := jsum_split (H := T.heap) (B := B) (k := k0)
  rw [hold, hj, ← hs0] at hsp
  have hj0' : ((s.heap.toList.drop B).map (fun c : Cell => c.slots.size)).sum = n0 := hj0
  rw [hj0'] at hsp
  have hnew : (((T.setVm s.vm).heap.toList.drop s.heap.size).map (·.slots.size)).sum = jsum T.heap s.heap.size := rfl
  refine ⟨hk, by omega, { X with same := ⟨e1, e2, ?_, e4, ?_, e6⟩ }⟩
  · show T.heap.size ≤ s.heap.size + (w.2.1 - k0)
    omega
  · rw [hnew]; omega
section JC
variable {g : jG} {w : jW} {cc : ByteArray} {nL pc : Nat} {own : String} {D : va_G} {L : List (Nat × Value)} {st : List Value} {k0 n0 : Nat} {rm : Room} {l : Launch} {B : Nat} {H0 : Heap} {y0 : MethodName} {post : Option Value → jW → Prop} {mc ms : Nat}
theorem j_iret (C : jX g cc nL own D) (Rm : jRm g k0 n0 rm) (E : jEnd g post mc ms (some .int)) {x : Int32} (hd : decode cc pc = .ok (.ireturn, 1)) (hp : post (some (.int x)) w) (hc : w.2.1 ≤ k0 + mc) (hs : w.2.2 ≤ n0 + ms) : JJ g w pc L [.int x] := by
  obtain ⟨⟨hx, hb, hml, ho, hts, hK, hnm, hlk, -⟩, rfl, rfl, rfl, rfl⟩ := C
  obtain ⟨rfl, rfl, rfl⟩ := Rm
  intro H locs ls h1 h2 h3 h4 h5
  rw [E.2]
  refine W.widen (k := mc) (n := ms) (by omega) (by omega) ?_
  exact W.iret hx hb E.1 (fun t ht hW => ⟨_, w, rfl, hp, by rw [ht]; exact h1⟩) h4 hd hlk
theorem j_zret (C : jX g cc nL own D) (Rm : jRm g k0 n0 rm) {ty : FieldType} (E : jEnd g post mc ms (some ty)) {x : Int32} (hn : narrow ty (.int x) = .int x) (hd : decode cc pc = .ok (.ireturn, 1)) (hp : post (some (.int x)) w) (hc : w.2.1 ≤ k0 + mc) (hs : w.2.2 ≤ n0 + ms) : JJ g w pc L [.int x] := by
  obtain ⟨⟨hx, hb, hml, ho, hts, hK, hnm, hlk, -⟩, rfl, rfl, rfl, rfl⟩ := C
  obtain ⟨rfl, rfl, rfl⟩ := Rm
  intro H locs ls h1 h2 h3 h4 h5
  rw [E.2]
  refine W.widen (k := mc) (n := ms) (by omega) (by omega) ?_
  exact W.zret hx hb E.1 hn (fun t ht hW => ⟨_, w, rfl, hp, by rw [ht]; exact h1⟩) h4 hd hlk
theorem j_lret (C : jX g cc nL own D) (Rm : jRm g k0 n0 rm) (E : jEnd g post mc ms (some .long)) {x : Int64} (hd : decode cc pc = .ok (.lreturn, 1)) (hp : post (some (.long x)) w) (hc : w.2.1 ≤ k0 + mc) (hs : w.2.2 ≤ n0 + ms) : JJ g w pc L [.long x] := by
  obtain ⟨⟨hx, hb, hml, ho, hts, hK, hnm, hlk, -⟩, rfl, rfl, rfl, rfl⟩ := C
  obtain ⟨rfl, rfl, rfl⟩ := Rm
  intro H locs ls h1 h2 h3 h4 h5
  rw [E.2]
  refine W.widen (k := mc) (n := ms) (by omega) (by omega) ?_
  exact W.lret hx hb E.1 (fun t ht hW => ⟨_, w, rfl, hp, by rw [ht]; exact h1⟩) h4 hd hlk
theorem j_vret (C : jX g cc nL own D) (Rm : jRm g k0 n0 rm) (E : jEnd g post mc ms none) (hd : decode cc pc = .ok (.return_, 1)) (hp : post none w) (hc : w.2.1 ≤ k0 + mc) (hs : w.2.2 ≤ n0 + ms) : JJ g w pc L [] := by
  obtain ⟨⟨hx, hb, hml, ho, hts, hK, hnm, hlk, -⟩, rfl, rfl, rfl, rfl⟩ := C
  obtain ⟨rfl, rfl, rfl⟩ := Rm
  intro H locs ls h1 h2 h3 h4 h5
  rw [E.2]
  refine W.widen (k := mc) (n := ms) (by omega) (by omega) ?_
  exact W.vret hx hb E.1 (fun t ht hW => ⟨_, w, rfl, hp, by rw [ht]; exact h1⟩) h4 hd hlk
theorem j_aret (C : jX g cc nL own D) (Rm : jRm g k0 n0 rm) {Cn : String} (E : jEnd g post mc ms (some (.object Cn))) {v : Value} (hv : v = .null ∨ ∃ a, v = .ref a) (hd : decode cc pc = .ok (.areturn, 1)) (hp : post (some v) w) (hc : w.2.1 ≤ k0 + mc) (hs : w.2.2 ≤ n0 + ms) : JJ g w pc L [v] := by
  obtain ⟨⟨hx, hb, hml, ho, hts, hK, hnm, hlk, -⟩, rfl, rfl, rfl, rfl⟩ := C
  obtain ⟨rfl, rfl, rfl⟩ := Rm
  intro H locs ls h1 h2 h3 h4 h5
  rw [E.2]
  refine W.widen (k := mc) (n := ms) (by omega) (by omega) ?_
  exact W.aret hx hb E.1 (Or.inl ⟨_, rfl⟩) hv (fun t ht hW => ⟨_, w, rfl, hp, by rw [ht]; exact h1⟩) h4 hd hlk
/-- THE START OF A METHOD -/
theorem j_met {y : MethodName} {maxL : Nat} {ret : Option FieldType} {av : List Value} {fr lo : Nat} (hy : plainName y.cls = true) (hav : (lg_sl av).length ≤ maxL)
    (body : ∀ g : jG, jX g cc maxL y.cls D → jRm g w.2.1 w.2.2 { frames := fr, cells := mc, slots := ms, locals := lo } → jY g l B H0 y → jEnd g post mc ms ret → JJ g w 0 (lv_args 0 av) []) : jMet l D B H0 y cc maxL ret fr lo mc ms av w post := by
  refine Met.ofW (cc := cc) (maxL := maxL) (ret := ret) hy rfl ?_
  intro p e s m args below meth c s₁ Bd hml hv
  obtain ⟨rfl, hH, hK⟩ := hv
  have hts := atoms_spec (ws := Cond.code y cc maxL ret :: jwd) Bd.pre
  have hl := lv_entry av (n := maxL) hav
  rw [lg_entry_eq]
  generalize (lg_sl av ++ List.replicate (maxL - (lg_sl av).length) Slot.unset).toArray = ls at hl ⊢
  have hfind : s.vm.findClass y.cls = some m.cls := findClass_of_methodNamed Bd.named
  have hnam : meth.name = y.name := (name_of_methodNamed Bd.named Bd.method).1
  have key := body (p, l, e, ({ frames := fr, cells := mc, slots := ms, locals := lo } : Room), s, m, av.toArray, below, meth, c, D, B, H0, w.2.1, w.2.2, maxL, MQ below (jQ D B H0 post) av.toArray s mc ms (fun q => B ≤ q), cc, y)
    ⟨⟨Bd.exec, Bd.bytes, hml, hfind, fun w9 h9 => hts w9 (List.mem_cons_of_mem _ h9), hK, hnam, Bd.notSynchronized, w.1, hH⟩, rfl, rfl, rfl, rfl⟩ ⟨rfl, rfl, rfl⟩ ⟨rfl, rfl, rfl, rfl⟩ ⟨Bd.returns, rfl⟩
  have k2 := key s.heap [] ls hH (Nat.le_refl _) (Nat.le_refl _) (fun q h => by cases h) hl
  have a1 : w.2.1 - w.2.1 = 0 := Nat.sub_self _
  have a2 : w.2.2 - w.2.2 = 0 := Nat.sub_self _
  simp only [jGp, jGl, jGe, jGR, jGs, jGm, jGa, jGb, jGt, jGc, jGk, jGn, jGQ, a1, a2] at k2
  exact k2
theorem jgood {y : MethodName} {b : ByteArray} {n : Nat} {r : Option FieldType} (h : Cond.code y b n r ∈ jwd) : GoodIn jwd (Cond.code y b n r :: jwd) := fun w hw => by
  rcases List.mem_cons.mp hw with rfl | h1
  · exact ⟨h, good_of_word (List.mem_filter.mp h).2⟩
  · exact ⟨h1, good_of_word (List.mem_filter.mp h1).2⟩
/-- behind a call -/
theorem j_after (C : jC g) {H : Heap} {locs : List Loc} {ls : Array Slot} (h4 : ∀ q ∈ locs, jGB g ≤ q.base) (h5 : lv_has ls (jGL g) L) {rest st0 : List Value} {a : Array Value} {k n : Nat}
    (hr : va_Run (jGp g) (jGl g) (jGe g) (jGR g) (jGs g) (jGm g) (jGa g) (jGb g) (jGt g) (jGc g) H locs k n mc ms (F0 (jGm g) pc ls st0) rest (jQ (jGD g) (jGB g) (jGH g) post a) (fun q => jGB g ≤ q))
    (kk : ∀ (v : Option Value) (w' : jW), post v w' → JJ g w' (pc + 3) L (v.toList ++ rest)) : W (jGp g) (jGl g) (jGe g) (jGR g) (jGs g) (jGm g) (jGa g) (jGb g) (jGt g) (jGc g) H locs k n (jGQ g) (F0 (jGm g) pc ls st0) := by
  obtain ⟨-, -, -, -, -, -, -, -, M0, hM0⟩ := C
  intro T hT X
  obtain ⟨v, st₀, t, T', L', h0, X', hL, e1, e2, ⟨v2, w', hv, hp, hH'⟩, hst⟩ := hr T hT X
  cases hv
  rw [← e1] at hH'
  obtain ⟨g1, g2, X2⟩ := jtight X' hM0 hH'
  obtain ⟨t2, a1, b1⟩ := kk v w' hp T'.heap (locs ++ L') ls hH' g1 g2 (fun q hq => by
    rcases List.mem_append.mp hq with h | h
    · exact h4 q h
    · exact hL q h) h5 T' rfl X2
  exact ⟨t2, hst t2 a1, b1⟩
def jcB (y : MethodName) (bytes : ByteArray) (maxL : Nat) (ret : Option FieldType) (n : Nat) : Prop := Cond.initialized y.cls ∈ jwd ∧ Cond.code y bytes maxL ret ∈ jwd ∧ (y.cls ≠ "java/lang/invoke/MethodHandle" ∧ y.cls ≠ "java/lang/invoke/VarHandle") ∧ (parseMethodDescriptor y.desc).map (fun d => d.parameters.length) = some n
def jcS (own : String) (idx : Nat) (y : MethodName) (bytes : ByteArray) (maxL : Nat) (ret : Option FieldType) (n : Nat) : Prop := jcB y bytes maxL ret n ∧ Cond.static y ∈ jwd ∧ Cond.methodLink own idx y ∈ jwd
def jcSn (own : String) (idx : Nat) (y : MethodName) (bytes : ByteArray) (maxL : Nat) (ret : Option FieldType) (n : Nat) : Prop := jcB y bytes maxL ret n ∧ Cond.static y ∈ jwd ∧ ∃ host, Cond.methodLinkNest own idx y host ∈ jnest
def jcV (own : String) (idx : Nat) (y : MethodName) (bytes : ByteArray) (maxL : Nat) (ret : Option FieldType) (n : Nat) : Prop := jcB y bytes maxL ret n ∧ Cond.instanceMethod y ∈ jwd ∧ Cond.selects y.cls y y ∈ jwd ∧ Cond.methodLink own idx y ∈ jwd
def jcI (own : String) (idx : Nat) (y : MethodName) (bytes : ByteArray) (maxL n : Nat) : Prop := jcB y bytes maxL none n ∧ Cond.instanceMethod y ∈ jwd ∧ y.name = "<init>" ∧ Cond.methodLink own idx y ∈ jwd
def jcIn (own : String) (idx : Nat) (y : MethodName) (bytes : ByteArray) (maxL n : Nat) : Prop := jcB y bytes maxL none n ∧ Cond.instanceMethod y ∈ jwd ∧ y.name = "<init>" ∧ ∃ host, Cond.methodLinkNest own idx y host ∈ jnest
theorem jcB.call {y : MethodName} {bytes : ByteArray} {maxL n idx fr lo : Nat} {ret : Option FieldType} {s : State} {args : Array Value} {R : Room} (h : jcB y bytes maxL ret n) (hts : ∀ w ∈ jwd, w.before args s = true) (hl : (Cond.methodLink own idx y).before args s = true) (hR : fr + 1 ≤ R.frames ∧ 8 + (maxL + 11) + lo ≤ R.locals) : CallB R s args own idx y bytes maxL ret (Cond.code y bytes maxL ret :: jwd) ({ frames := fr, cells := mc, slots := ms, locals := lo } : Room) mc ms n :=
  callB_of n hts (jgood h.2.1) rfl rfl rfl (hts _ h.1) hl ⟨h.2.2.1.1, h.2.2.1.2, h.2.2.2⟩ hR
theorem j_callS (C : jX g cc nL own D) (Rm : jRm g k0 n0 rm) (Y : jY g l B H0 y0) {idx n maxL fr lo : Nat} {y : MethodName} {bytes : ByteArray} {ret : Option FieldType} {As : List Value} (rest : List Value) (hM : jMet l D B H0 y bytes maxL ret fr lo mc ms As w post) (hc : jcS own idx y bytes maxL ret n) (hd : decode cc pc = .ok (.invokestatic idx, 3)) (hn : As.length = n) (hst : st = As.reverse ++ rest) (h8 : (rest.map fun v => v.category).sum ≤ 8) (hR : fr + 1 ≤ rm.frames ∧ 8 + (maxL + 11) + lo ≤ rm.locals) (hroom : w.2.1 + mc ≤ k0 + rm.cells ∧ w.2.2 + ms ≤ n0 + rm.slots)
    (kk : ∀ (v : Option Value) (w' : jW), post v w' → JJ g w' (pc + 3) L (v.toList ++ rest)) : JJ g w pc L st := by
  obtain ⟨hC, rfl, rfl, rfl, rfl⟩ := C
  obtain ⟨rfl, rfl, rfl⟩ := Rm
  obtain ⟨rfl, rfl, rfl, rfl⟩ := Y
  obtain ⟨hx, hb, hml, ho, hts, hK, -⟩ := id hC
  subst hst
  intro H locs ls h1 h2 h3 h4 h5
  exact j_after hC h4 h5 (va_runS (As := As) (rest := rest) ⟨hx, hb, hml, ho, hts⟩ hM ⟨hc.1.call hts (hts _ hc.2.2) hR, hts _ hc.2.1⟩ ⟨jPc_blind _ _ _ _ _, fun U hU hW => ⟨rfl, by rw [hU]; exact h1, hK.moved hW⟩⟩ rfl hn h5.1 rfl (lv_room h8) hd ⟨by omega, by omega⟩) kk
theorem j_callV (C : jX g cc nL own D) (Rm : jRm g k0 n0 rm) (Y : jY g l B H0 y0) {idx n maxL fr lo a ci : Nat} {fs : List Value} {r : vw_C} {y : MethodName} {bytes : ByteArray} {ret : Option FieldType} (As rest : List Value) (hM : jMet l D B H0 y bytes maxL ret fr lo mc ms (.ref a :: As) w post) (hc : jcV own idx y bytes maxL ret n) (hci : vwCl[ci]? = some r) (hrc : r.1 = y.cls) (ha : w.1 a = some (.inr (ci, fs))) (hd : decode cc pc = .ok (.invokevirtual idx, 3)) (hn : As.length = n) (hst : st = As.reverse ++ .ref a :: rest) (h8 : (rest.map fun v => v.category).sum ≤ 8) (hR : fr + 1 ≤ rm.frames ∧ 8 + (maxL + 11) + lo ≤ rm.locals) (hroom : w.2.1 + mc ≤ k0 + rm.cells ∧ w.2.2 + ms ≤ n0 + rm.slots)
    (kk : ∀ (v : Option Value) (w' : jW), post v w' → JJ g w' (pc + 3) L (v.toList ++ rest)) : JJ g w pc L st := by
  obtain ⟨hC, rfl, rfl, rfl, rfl⟩ := C
  obtain ⟨rfl, rfl, rfl⟩ := Rm
  obtain ⟨rfl, rfl, rfl, rfl⟩ := Y
  obtain ⟨hx, hb, hml, ho, hts, hK, -⟩ := id hC
  subst hst
  intro H locs ls h1 h2 h3 h4 h5
  have hrec := va_recv (jK0 hK) (jP1 (h1.at ha)) hci (q0 := 0) rfl
  rw [hrc] at hrec
  exact j_after hC h4 h5 (va_runV (C := y.cls) (As := As) (rest := rest) ⟨hx, hb, hml, ho, hts⟩ hM ⟨hc.1.call hts (hts _ hc.2.2.2) hR, hts _ hc.2.1, hts _ hc.2.2.1⟩ ⟨jPc_blind _ _ _ _ _, hrec, fun U hU hW => ⟨rfl, by rw [hU]; exact h1, hK.moved hW⟩⟩ rfl hn h5.1 rfl (lv_room h8) hd ⟨by omega, by omega⟩) kk
theorem j_callI (C : jX g cc nL own D) (Rm : jRm g k0 n0 rm) (Y : jY g l B H0 y0) {idx n maxL fr lo a : Nat} {y : MethodName} {bytes : ByteArray} (As rest : List Value) (hM : jMet l D B H0 y bytes maxL none fr lo mc ms (.ref a :: As) w post) (hc : jcI own idx y bytes maxL n) (hd : decode cc pc = .ok (.invokespecial idx, 3)) (hn : As.length = n) (hst : st = As.reverse ++ .ref a :: rest) (h8 : (rest.map fun v => v.category).sum ≤ 8) (hR : fr + 1 ≤ rm.frames ∧ 8 + (maxL + 11) + lo ≤ rm.locals) (hroom : w.2.1 + mc ≤ k0 + rm.cells ∧ w.2.2 + ms ≤ n0 + rm.slots)
    (kk : ∀ (v : Option Value) (w' : jW), post v w' → JJ g w' (pc + 3) L (v.toList ++ rest)) : JJ g w pc L st := by
  obtain ⟨hC, rfl, rfl, rfl, rfl⟩ := C
  obtain ⟨rfl, rfl, rfl⟩ := Rm
  obtain ⟨rfl, rfl, rfl, rfl⟩ := Y
  obtain ⟨hx, hb, hml, ho, hts, hK, -⟩ := id hC
  subst hst
  intro H locs ls h1 h2 h3 h4 h5
  exact j_after hC h4 h5 (va_runI (As := As) (rest := rest) ⟨hx, hb, hml, ho, hts⟩ hM ⟨hc.1.call hts (hts _ hc.2.2.2) hR, hc.2.2.1, hts _ hc.2.1⟩ ⟨jPc_blind _ _ _ _ _, fun U hU hW => ⟨rfl, by rw [hU]; exact h1, hK.moved hW⟩⟩ rfl hn h5.1 rfl (lv_room h8) hd ⟨by omega, by omega⟩) kk
theorem jcB.callN {y : MethodName} {host : String} {bytes : ByteArray} {maxL n idx fr lo : Nat} {ret : Option FieldType} {s : State} {args : Array Value} {R : Room} (h : jcB y bytes maxL ret n) (hts : ∀ w ∈ jwd, w.before args s = true) (hl : va_Nw (.methodLinkNest own idx y host) s) (hR : fr + 1 ≤ R.frames ∧ 8 + (maxL + 11) + lo ≤ R.locals) : va_CN R s args own idx y host bytes maxL ret (Cond.code y bytes maxL ret :: jwd) ({ frames := fr, cells := mc, slots := ms, locals := lo } : Room) mc ms n :=
  va_cnB n hts (jgood h.2.1) rfl rfl rfl hl (hts _ h.1) ⟨h.2.2.1.1, h.2.2.1.2, h.2.2.2⟩ hR
theorem j_callSn (C : jX g cc nL own D) (Rm : jRm g k0 n0 rm) (Y : jY g l B H0 y0) {idx n maxL fr lo : Nat} {y : MethodName} {bytes : ByteArray} {ret : Option FieldType} {As : List Value} (rest : List Value) (hM : jMet l D B H0 y bytes maxL ret fr lo mc ms As w post) (hc : jcSn own idx y bytes maxL ret n) (hd : decode cc pc = .ok (.invokestatic idx, 3)) (hn : As.length = n) (hst : st = As.reverse ++ rest) (h8 : (rest.map fun v => v.category).sum ≤ 8) (hR : fr + 1 ≤ rm.frames ∧ 8 + (maxL + 11) + lo ≤ rm.locals) (hroom : w.2.1 + mc ≤ k0 + rm.cells ∧ w.2.2 + ms ≤ n0 + rm.slots)
    (kk : ∀ (v : Option Value) (w' : jW), post v w' → JJ g w' (pc + 3) L (v.toList ++ rest)) : JJ g w pc L st := by
  obtain ⟨hC, rfl, rfl, rfl, rfl⟩ := C
  obtain ⟨rfl, rfl, rfl⟩ := Rm
  obtain ⟨rfl, rfl, rfl, rfl⟩ := Y
  obtain ⟨hx, hb, hml, ho, hts, hK, -⟩ := id hC
  obtain ⟨hcB, hcs, host, hch⟩ := hc
  subst hst
  intro H locs ls h1 h2 h3 h4 h5
  exact j_after hC h4 h5 (va_runSN (As := As) (rest := rest) ⟨hx, hb, hml, ho, hts⟩ hM ⟨hcB.callN hts (hK.2.2.2 _ hch) hR, hts _ hcs, trivial⟩ ⟨jPc_blind _ _ _ _ _, fun U hU hW => ⟨rfl, by rw [hU]; exact h1, hK.moved hW⟩⟩ rfl hn h5.1 rfl (lv_room h8) hd ⟨by omega, by omega⟩) kk
theorem j_callIn (C : jX g cc nL own D) (Rm : jRm g k0 n0 rm) (Y : jY g l B H0 y0) {idx n maxL fr lo a : Nat} {y : MethodName} {bytes : ByteArray} (As rest : List Value) (hM : jMet l D B H0 y bytes maxL none fr lo mc ms (.ref a :: As) w post) (hc : jcIn own idx y bytes maxL n) (hd : decode cc pc = .ok (.invokespecial idx, 3)) (hn : As.length = n) (hst : st = As.reverse ++ .ref a :: rest) (h8 : (rest.map fun v => v.category).sum ≤ 8) (hR : fr + 1 ≤ rm.frames ∧ 8 + (maxL + 11) + lo ≤ rm.locals) (hroom : w.2.1 + mc ≤ k0 + rm.cells ∧ w.2.2 + ms ≤ n0 + rm.slots)
    (kk : ∀ (v : Option Value) (w' : jW), post v w' → JJ g w' (pc + 3) L (v.toList ++ rest)) : JJ g w pc L st := by
  obtain ⟨hC, rfl, rfl, rfl, rfl⟩ := C
  obtain ⟨rfl, rfl, rfl⟩ := Rm
  obtain ⟨rfl, rfl, rfl, rfl⟩ := Y
  obtain ⟨hx, hb, hml, ho, hts, hK, -⟩ := id hC
  obtain ⟨hcB, hci, hcn, host, hch⟩ := hc
  subst hst
  intro H locs ls h1 h2 h3 h4 h5
  exact j_after hC h4 h5 (va_runIN (As := As) (rest := rest) ⟨hx, hb, hml, ho, hts⟩ hM ⟨hcB.callN hts (hK.2.2.2 _ hch) hR, hcn, hts _ hci⟩ ⟨jPc_blind _ _ _ _ _, fun U hU hW => ⟨rfl, by rw [hU]; exact h1, hK.moved hW⟩⟩ rfl hn h5.1 rfl (lv_room h8) hd ⟨by omega, by omega⟩) kk
/-- Object.<init> -/
def jcO (own : String) (idx : Nat) : Prop := Cond.methodLink own idx objectInit ∈ jwd ∧ Cond.instanceMethod objectInit ∈ jwd ∧ Cond.code objectInit ⟨#[0xb1]⟩ 1 none ∈ jwd
theorem j_obj (C : jX g cc nL own D) (Rm : jRm g k0 n0 rm) {idx a : Nat} (hc : jcO own idx) (hd : decode cc pc = .ok (.invokespecial idx, 3)) (hf : 1 ≤ rm.frames) (hl : (st.map fun v => v.category).sum + 12 ≤ rm.locals) (kk : JJ g w (pc + 3) L st) : JJ g w pc L (.ref a :: st) := by
  obtain ⟨⟨hx, hb, hml, ho, hts, hK, -⟩, rfl, rfl, rfl, rfl⟩ := C
  obtain ⟨rfl, rfl, rfl⟩ := Rm
  intro H locs ls h1 h2 h3 h4 h5
  refine W.objInit hx hb ho (hts _ hc.1) (hts _ hc.2.1) (hts _ hc.2.2) rfl (by rw [hml]; exact h5.1) rfl hd hf (by show 2 * 0 + _ + 12 ≤ _; omega) ?_
  exact kk H locs ls h1 h2 h3 h4 h5
end JC
end
