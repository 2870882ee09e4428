section
-- ===== PART A: goes FIRST, ahead of the names: the tables' words, and 'selects' of the private methods out of them =====
/-- a private method of a class that the tables say can be made, by its rows of tables_1 -/
def lw_okq (q : MethodName × Nat) : Prop := (q.1.cls ≠ "java/lang/invoke/MethodHandle" ∧ q.1.cls ≠ "java/lang/invoke/VarHandle") ∧ Cond.instantiable q.1.cls q.2 ∈ tables_1 ∧ Cond.privateMethod q.1 ∈ tables_1 ∧ Cond.instanceMethod q.1 ∈ tables_1
theorem lw_p0 : lw_okq (⟨"ChanceSteps", "append", "(I)V"⟩, 13) := ⟨⟨by decide +kernel, by decide +kernel⟩, List.mem_of_getElem? (i := 22) (by decide +kernel), List.mem_of_getElem? (i := 178) (by decide +kernel), List.mem_of_getElem? (i := 179) (by decide +kernel)⟩
theorem lw_p1 : lw_okq (⟨"ChanceSteps$Reader", "advance", "()V"⟩, 9) := ⟨⟨by decide +kernel, by decide +kernel⟩, List.mem_of_getElem? (i := 34) (by decide +kernel), List.mem_of_getElem? (i := 370) (by decide +kernel), List.mem_of_getElem? (i := 371) (by decide +kernel)⟩
theorem lw_p2 : lw_okq (⟨"ChanceSteps$Reader", "byteAt", "(I)I"⟩, 9) := ⟨⟨by decide +kernel, by decide +kernel⟩, List.mem_of_getElem? (i := 34) (by decide +kernel), List.mem_of_getElem? (i := 374) (by decide +kernel), List.mem_of_getElem? (i := 375) (by decide +kernel)⟩
theorem lw_p3 : lw_okq (⟨"ChanceSteps$Reader", "takeWord", "()V"⟩, 9) := ⟨⟨by decide +kernel, by decide +kernel⟩, List.mem_of_getElem? (i := 34) (by decide +kernel), List.mem_of_getElem? (i := 381) (by decide +kernel), List.mem_of_getElem? (i := 382) (by decide +kernel)⟩
theorem lw_p4 : lw_okq (⟨"ChanceSteps$Reader", "isSpelt", "(Ljava/lang/String;)Z"⟩, 9) := ⟨⟨by decide +kernel, by decide +kernel⟩, List.mem_of_getElem? (i := 34) (by decide +kernel), List.mem_of_getElem? (i := 394) (by decide +kernel), List.mem_of_getElem? (i := 395) (by decide +kernel)⟩
theorem lw_p5 : lw_okq (⟨"ChanceSteps$Reader", "takeNumber", "()V"⟩, 9) := ⟨⟨by decide +kernel, by decide +kernel⟩, List.mem_of_getElem? (i := 34) (by decide +kernel), List.mem_of_getElem? (i := 449) (by decide +kernel), List.mem_of_getElem? (i := 450) (by decide +kernel)⟩
theorem lw_p6 : lw_okq (⟨"ChanceSteps$Reader", "takeSign", "()V"⟩, 9) := ⟨⟨by decide +kernel, by decide +kernel⟩, List.mem_of_getElem? (i := 34) (by decide +kernel), List.mem_of_getElem? (i := 453) (by decide +kernel), List.mem_of_getElem? (i := 454) (by decide +kernel)⟩
theorem lw_p7 : lw_okq (⟨"ChanceSteps$Reader", "readBlock", "()Z"⟩, 9) := ⟨⟨by decide +kernel, by decide +kernel⟩, List.mem_of_getElem? (i := 34) (by decide +kernel), List.mem_of_getElem? (i := 457) (by decide +kernel), List.mem_of_getElem? (i := 458) (by decide +kernel)⟩
theorem lw_p8 : lw_okq (⟨"ChanceSteps$Reader", "readStep", "()Z"⟩, 9) := ⟨⟨by decide +kernel, by decide +kernel⟩, List.mem_of_getElem? (i := 34) (by decide +kernel), List.mem_of_getElem? (i := 461) (by decide +kernel), List.mem_of_getElem? (i := 462) (by decide +kernel)⟩
theorem lw_p9 : lw_okq (⟨"ChanceSteps$Reader", "readRest", "(LChanceSteps$Step;)Z"⟩, 9) := ⟨⟨by decide +kernel, by decide +kernel⟩, List.mem_of_getElem? (i := 34) (by decide +kernel), List.mem_of_getElem? (i := 477) (by decide +kernel), List.mem_of_getElem? (i := 478) (by decide +kernel)⟩
theorem lw_p10 : lw_okq (⟨"ChanceSteps$Reader", "readName", "(LChanceSteps$Step;)Z"⟩, 9) := ⟨⟨by decide +kernel, by decide +kernel⟩, List.mem_of_getElem? (i := 34) (by decide +kernel), List.mem_of_getElem? (i := 481) (by decide +kernel), List.mem_of_getElem? (i := 482) (by decide +kernel)⟩
theorem lw_p11 : lw_okq (⟨"ChanceSteps$Reader", "readLots", "(LChanceSteps$Step;)Z"⟩, 9) := ⟨⟨by decide +kernel, by decide +kernel⟩, List.mem_of_getElem? (i := 34) (by decide +kernel), List.mem_of_getElem? (i := 485) (by decide +kernel), List.mem_of_getElem? (i := 486) (by decide +kernel)⟩
theorem lw_p12 : lw_okq (⟨"ChanceSteps$Reader", "readLot", "()I"⟩, 9) := ⟨⟨by decide +kernel, by decide +kernel⟩, List.mem_of_getElem? (i := 34) (by decide +kernel), List.mem_of_getElem? (i := 489) (by decide +kernel), List.mem_of_getElem? (i := 490) (by decide +kernel)⟩
theorem lw_p13 : lw_okq (⟨"ChanceSteps$Reader", "isSign", "(I)Z"⟩, 9) := ⟨⟨by decide +kernel, by decide +kernel⟩, List.mem_of_getElem? (i := 34) (by decide +kernel), List.mem_of_getElem? (i := 493) (by decide +kernel), List.mem_of_getElem? (i := 494) (by decide +kernel)⟩
theorem lw_p14 : lw_okq (⟨"ChanceSteps$Reader", "readFormula", "(LChanceSteps$Step;)Z"⟩, 9) := ⟨⟨by decide +kernel, by decide +kernel⟩, List.mem_of_getElem? (i := 34) (by decide +kernel), List.mem_of_getElem? (i := 501) (by decide +kernel), List.mem_of_getElem? (i := 502) (by decide +kernel)⟩
theorem lw_p15 : lw_okq (⟨"ChanceSteps$Reader", "readComparison", "(LChanceSteps$Step;)Z"⟩, 9) := ⟨⟨by decide +kernel, by decide +kernel⟩, List.mem_of_getElem? (i := 34) (by decide +kernel), List.mem_of_getElem? (i := 505) (by decide +kernel), List.mem_of_getElem? (i := 506) (by decide +kernel)⟩
def lw_privs_1 : List (MethodName × Nat) := [(⟨"ChanceSteps", "append", "(I)V"⟩, 13), (⟨"ChanceSteps$Reader", "advance", "()V"⟩, 9), (⟨"ChanceSteps$Reader", "byteAt", "(I)I"⟩, 9), (⟨"ChanceSteps$Reader", "takeWord", "()V"⟩, 9), (⟨"ChanceSteps$Reader", "isSpelt", "(Ljava/lang/String;)Z"⟩, 9), (⟨"ChanceSteps$Reader", "takeNumber", "()V"⟩, 9), (⟨"ChanceSteps$Reader", "takeSign", "()V"⟩, 9), (⟨"ChanceSteps$Reader", "readBlock", "()Z"⟩, 9), (⟨"ChanceSteps$Reader", "readStep", "()Z"⟩, 9), (⟨"ChanceSteps$Reader", "readRest", "(LChanceSteps$Step;)Z"⟩, 9), (⟨"ChanceSteps$Reader", "readName", "(LChanceSteps$Step;)Z"⟩, 9), (⟨"ChanceSteps$Reader", "readLots", "(LChanceSteps$Step;)Z"⟩, 9), (⟨"ChanceSteps$Reader", "readLot", "()I"⟩, 9), (⟨"ChanceSteps$Reader", "isSign", "(I)Z"⟩, 9), (⟨"ChanceSteps$Reader", "readFormula", "(LChanceSteps$Step;)Z"⟩, 9), (⟨"ChanceSteps$Reader", "readComparison", "(LChanceSteps$Step;)Z"⟩, 9)]
theorem lw_r1 : ∀ q ∈ lw_privs_1, lw_okq q := List.forall_mem_cons.mpr ⟨lw_p0, List.forall_mem_cons.mpr ⟨lw_p1, List.forall_mem_cons.mpr ⟨lw_p2, List.forall_mem_cons.mpr ⟨lw_p3, List.forall_mem_cons.mpr ⟨lw_p4, List.forall_mem_cons.mpr ⟨lw_p5, List.forall_mem_cons.mpr ⟨lw_p6, List.forall_mem_cons.mpr ⟨lw_p7, List.forall_mem_cons.mpr ⟨lw_p8, List.forall_mem_cons.mpr ⟨lw_p9, List.forall_mem_cons.mpr ⟨lw_p10, List.forall_mem_cons.mpr ⟨lw_p11, List.forall_mem_cons.mpr ⟨lw_p12, List.forall_mem_cons.mpr ⟨lw_p13, List.forall_mem_cons.mpr ⟨lw_p14, List.forall_mem_cons.mpr ⟨lw_p15, fun _ h => absurd h List.not_mem_nil⟩⟩⟩⟩⟩⟩⟩⟩⟩⟩⟩⟩⟩⟩⟩⟩
theorem lw_p16 : lw_okq (⟨"ChanceSteps$Reader", "readSum", "(LChanceSteps$Step;)Z"⟩, 9) := ⟨⟨by decide +kernel, by decide +kernel⟩, List.mem_of_getElem? (i := 34) (by decide +kernel), List.mem_of_getElem? (i := 509) (by decide +kernel), List.mem_of_getElem? (i := 510) (by decide +kernel)⟩
theorem lw_p17 : lw_okq (⟨"ChanceSteps$Reader", "readTerm", "(LChanceSteps$Step;)Z"⟩, 9) := ⟨⟨by decide +kernel, by decide +kernel⟩, List.mem_of_getElem? (i := 34) (by decide +kernel), List.mem_of_getElem? (i := 513) (by decide +kernel), List.mem_of_getElem? (i := 514) (by decide +kernel)⟩
theorem lw_p18 : lw_okq (⟨"ChanceSteps$Reader", "readOne", "(LChanceSteps$Step;)Z"⟩, 9) := ⟨⟨by decide +kernel, by decide +kernel⟩, List.mem_of_getElem? (i := 34) (by decide +kernel), List.mem_of_getElem? (i := 517) (by decide +kernel), List.mem_of_getElem? (i := 518) (by decide +kernel)⟩
theorem lw_p19 : lw_okq (⟨"ChanceSteps$Reader", "readBraces", "()Z"⟩, 9) := ⟨⟨by decide +kernel, by decide +kernel⟩, List.mem_of_getElem? (i := 34) (by decide +kernel), List.mem_of_getElem? (i := 525) (by decide +kernel), List.mem_of_getElem? (i := 526) (by decide +kernel)⟩
theorem lw_p20 : lw_okq (⟨"ChanceSteps$Reader", "readSecond", "(LChanceSteps$Step;)Z"⟩, 9) := ⟨⟨by decide +kernel, by decide +kernel⟩, List.mem_of_getElem? (i := 34) (by decide +kernel), List.mem_of_getElem? (i := 529) (by decide +kernel), List.mem_of_getElem? (i := 530) (by decide +kernel)⟩
theorem lw_p21 : lw_okq (⟨"ChanceSteps$Reader", "readNumber", "(LChanceSteps$Step;I)Z"⟩, 9) := ⟨⟨by decide +kernel, by decide +kernel⟩, List.mem_of_getElem? (i := 34) (by decide +kernel), List.mem_of_getElem? (i := 533) (by decide +kernel), List.mem_of_getElem? (i := 534) (by decide +kernel)⟩
theorem lw_p22 : lw_okq (⟨"ChanceSteps$Program", "weighStep", "(LChanceSteps$Step;I[LChanceSteps$Program;)V"⟩, 16) := ⟨⟨by decide +kernel, by decide +kernel⟩, List.mem_of_getElem? (i := 185) (by decide +kernel), List.mem_of_getElem? (i := 541) (by decide +kernel), List.mem_of_getElem? (i := 542) (by decide +kernel)⟩
theorem lw_p23 : lw_okq (⟨"ChanceSteps$Program", "bitsOf", "(II)I"⟩, 16) := ⟨⟨by decide +kernel, by decide +kernel⟩, List.mem_of_getElem? (i := 185) (by decide +kernel), List.mem_of_getElem? (i := 552) (by decide +kernel), List.mem_of_getElem? (i := 553) (by decide +kernel)⟩
theorem lw_p24 : lw_okq (⟨"ChanceSteps$Program", "turnsOf", "(II)I"⟩, 16) := ⟨⟨by decide +kernel, by decide +kernel⟩, List.mem_of_getElem? (i := 185) (by decide +kernel), List.mem_of_getElem? (i := 556) (by decide +kernel), List.mem_of_getElem? (i := 557) (by decide +kernel)⟩
theorem lw_p25 : lw_okq (⟨"ChanceSteps", "isProgram", "(I)Z"⟩, 13) := ⟨⟨by decide +kernel, by decide +kernel⟩, List.mem_of_getElem? (i := 22) (by decide +kernel), List.mem_of_getElem? (i := 584) (by decide +kernel), List.mem_of_getElem? (i := 585) (by decide +kernel)⟩
theorem lw_p26 : lw_okq (⟨"ChanceSteps", "endOf", "(I)LChanceSteps$Crowd;"⟩, 13) := ⟨⟨by decide +kernel, by decide +kernel⟩, List.mem_of_getElem? (i := 22) (by decide +kernel), List.mem_of_getElem? (i := 588) (by decide +kernel), List.mem_of_getElem? (i := 589) (by decide +kernel)⟩
theorem lw_p27 : lw_okq (⟨"ChanceSteps$Walker", "walkBlock", "(LChanceSteps$Program;IILChanceSteps$Crowd;II)Z"⟩, 4) := ⟨⟨by decide +kernel, by decide +kernel⟩, List.mem_of_getElem? (i := 69) (by decide +kernel), List.mem_of_getElem? (i := 632) (by decide +kernel), List.mem_of_getElem? (i := 633) (by decide +kernel)⟩
theorem lw_p28 : lw_okq (⟨"ChanceSteps$Program", "neededAhead", "(IIII)I"⟩, 16) := ⟨⟨by decide +kernel, by decide +kernel⟩, List.mem_of_getElem? (i := 185) (by decide +kernel), List.mem_of_getElem? (i := 641) (by decide +kernel), List.mem_of_getElem? (i := 642) (by decide +kernel)⟩
theorem lw_p29 : lw_okq (⟨"ChanceSteps$Program", "neededAheadOf", "(III)I"⟩, 16) := ⟨⟨by decide +kernel, by decide +kernel⟩, List.mem_of_getElem? (i := 185) (by decide +kernel), List.mem_of_getElem? (i := 645) (by decide +kernel), List.mem_of_getElem? (i := 646) (by decide +kernel)⟩
theorem lw_p30 : lw_okq (⟨"ChanceSteps$Program", "neededAheadOfTimes", "(IIII)I"⟩, 16) := ⟨⟨by decide +kernel, by decide +kernel⟩, List.mem_of_getElem? (i := 185) (by decide +kernel), List.mem_of_getElem? (i := 649) (by decide +kernel), List.mem_of_getElem? (i := 650) (by decide +kernel)⟩
theorem lw_p31 : lw_okq (⟨"ChanceSteps$Walker", "walkStep", "(LChanceSteps$Program;ILChanceSteps$Crowd;II)Z"⟩, 4) := ⟨⟨by decide +kernel, by decide +kernel⟩, List.mem_of_getElem? (i := 69) (by decide +kernel), List.mem_of_getElem? (i := 653) (by decide +kernel), List.mem_of_getElem? (i := 654) (by decide +kernel)⟩
def lw_privs_2 : List (MethodName × Nat) := [(⟨"ChanceSteps$Reader", "readSum", "(LChanceSteps$Step;)Z"⟩, 9), (⟨"ChanceSteps$Reader", "readTerm", "(LChanceSteps$Step;)Z"⟩, 9), (⟨"ChanceSteps$Reader", "readOne", "(LChanceSteps$Step;)Z"⟩, 9), (⟨"ChanceSteps$Reader", "readBraces", "()Z"⟩, 9), (⟨"ChanceSteps$Reader", "readSecond", "(LChanceSteps$Step;)Z"⟩, 9), (⟨"ChanceSteps$Reader", "readNumber", "(LChanceSteps$Step;I)Z"⟩, 9), (⟨"ChanceSteps$Program", "weighStep", "(LChanceSteps$Step;I[LChanceSteps$Program;)V"⟩, 16), (⟨"ChanceSteps$Program", "bitsOf", "(II)I"⟩, 16), (⟨"ChanceSteps$Program", "turnsOf", "(II)I"⟩, 16), (⟨"ChanceSteps", "isProgram", "(I)Z"⟩, 13), (⟨"ChanceSteps", "endOf", "(I)LChanceSteps$Crowd;"⟩, 13), (⟨"ChanceSteps$Walker", "walkBlock", "(LChanceSteps$Program;IILChanceSteps$Crowd;II)Z"⟩, 4), (⟨"ChanceSteps$Program", "neededAhead", "(IIII)I"⟩, 16), (⟨"ChanceSteps$Program", "neededAheadOf", "(III)I"⟩, 16), (⟨"ChanceSteps$Program", "neededAheadOfTimes", "(IIII)I"⟩, 16), (⟨"ChanceSteps$Walker", "walkStep", "(LChanceSteps$Program;ILChanceSteps$Crowd;II)Z"⟩, 4)]
theorem lw_r2 : ∀ q ∈ lw_privs_2, lw_okq q := List.forall_mem_cons.mpr ⟨lw_p16, List.forall_mem_cons.mpr ⟨lw_p17, List.forall_mem_cons.mpr ⟨lw_p18, List.forall_mem_cons.mpr ⟨lw_p19, List.forall_mem_cons.mpr ⟨lw_p20, List.forall_mem_cons.mpr ⟨lw_p21, List.forall_mem_cons.mpr ⟨lw_p22, List.forall_mem_cons.mpr ⟨lw_p23, List.forall_mem_cons.mpr ⟨lw_p24, List.forall_mem_cons.mpr ⟨lw_p25, List.forall_mem_cons.mpr ⟨lw_p26, List.forall_mem_cons.mpr ⟨lw_p27, List.forall_mem_cons.mpr ⟨lw_p28, List.forall_mem_cons.mpr ⟨lw_p29, List.forall_mem_cons.mpr ⟨lw_p30, List.forall_mem_cons.mpr ⟨lw_p31, fun _ h => absurd h List.not_mem_nil⟩⟩⟩⟩⟩⟩⟩⟩⟩⟩⟩⟩⟩⟩⟩⟩
theorem lw_p32 : lw_okq (⟨"ChanceSteps$Walker", "walkDraw", "(LChanceSteps$Program;LChanceSteps$Step;LChanceSteps$Crowd;I)Z"⟩, 4) := ⟨⟨by decide +kernel, by decide +kernel⟩, List.mem_of_getElem? (i := 69) (by decide +kernel), List.mem_of_getElem? (i := 661) (by decide +kernel), List.mem_of_getElem? (i := 662) (by decide +kernel)⟩
theorem lw_p33 : lw_okq (⟨"ChanceSteps$Mixer", "putNew", "(IJI)Z"⟩, 5) := ⟨⟨by decide +kernel, by decide +kernel⟩, List.mem_of_getElem? (i := 75) (by decide +kernel), List.mem_of_getElem? (i := 683) (by decide +kernel), List.mem_of_getElem? (i := 684) (by decide +kernel)⟩
theorem lw_p34 : lw_okq (⟨"ChanceSteps$Walker", "walkLet", "(LChanceSteps$Program;LChanceSteps$Step;LChanceSteps$Crowd;I)Z"⟩, 4) := ⟨⟨by decide +kernel, by decide +kernel⟩, List.mem_of_getElem? (i := 69) (by decide +kernel), List.mem_of_getElem? (i := 692) (by decide +kernel), List.mem_of_getElem? (i := 693) (by decide +kernel)⟩
theorem lw_p35 : lw_okq (⟨"ChanceSteps$Walker", "walkSee", "(LChanceSteps$Program;LChanceSteps$Step;LChanceSteps$Crowd;I)Z"⟩, 4) := ⟨⟨by decide +kernel, by decide +kernel⟩, List.mem_of_getElem? (i := 69) (by decide +kernel), List.mem_of_getElem? (i := 711) (by decide +kernel), List.mem_of_getElem? (i := 712) (by decide +kernel)⟩
theorem lw_p36 : lw_okq (⟨"ChanceSteps$Walker", "walkIf", "(LChanceSteps$Program;ILChanceSteps$Crowd;II)Z"⟩, 4) := ⟨⟨by decide +kernel, by decide +kernel⟩, List.mem_of_getElem? (i := 69) (by decide +kernel), List.mem_of_getElem? (i := 716) (by decide +kernel), List.mem_of_getElem? (i := 717) (by decide +kernel)⟩
theorem lw_p37 : lw_okq (⟨"ChanceSteps$Walker", "lend", "()LChanceSteps$Crowd;"⟩, 4) := ⟨⟨by decide +kernel, by decide +kernel⟩, List.mem_of_getElem? (i := 69) (by decide +kernel), List.mem_of_getElem? (i := 720) (by decide +kernel), List.mem_of_getElem? (i := 721) (by decide +kernel)⟩
theorem lw_p38 : lw_okq (⟨"ChanceSteps$Walker", "split", "(LChanceSteps$Program;LChanceSteps$Step;LChanceSteps$Crowd;LChanceSteps$Crowd;)V"⟩, 4) := ⟨⟨by decide +kernel, by decide +kernel⟩, List.mem_of_getElem? (i := 69) (by decide +kernel), List.mem_of_getElem? (i := 724) (by decide +kernel), List.mem_of_getElem? (i := 725) (by decide +kernel)⟩
theorem lw_p39 : lw_okq (⟨"ChanceSteps$Walker", "giveBack", "()V"⟩, 4) := ⟨⟨by decide +kernel, by decide +kernel⟩, List.mem_of_getElem? (i := 69) (by decide +kernel), List.mem_of_getElem? (i := 729) (by decide +kernel), List.mem_of_getElem? (i := 730) (by decide +kernel)⟩
theorem lw_p40 : lw_okq (⟨"ChanceSteps$Walker", "walkLoop", "(LChanceSteps$Program;ILChanceSteps$Crowd;II)Z"⟩, 4) := ⟨⟨by decide +kernel, by decide +kernel⟩, List.mem_of_getElem? (i := 69) (by decide +kernel), List.mem_of_getElem? (i := 739) (by decide +kernel), List.mem_of_getElem? (i := 740) (by decide +kernel)⟩
theorem lw_p41 : lw_okq (⟨"ChanceSteps$Walker", "forget", "(LChanceSteps$Crowd;I)Z"⟩, 4) := ⟨⟨by decide +kernel, by decide +kernel⟩, List.mem_of_getElem? (i := 69) (by decide +kernel), List.mem_of_getElem? (i := 747) (by decide +kernel), List.mem_of_getElem? (i := 748) (by decide +kernel)⟩
theorem lw_p42 : lw_okq (⟨"ChanceSteps$Walker", "walkRun", "(LChanceSteps$Program;LChanceSteps$Step;LChanceSteps$Crowd;II)Z"⟩, 4) := ⟨⟨by decide +kernel, by decide +kernel⟩, List.mem_of_getElem? (i := 69) (by decide +kernel), List.mem_of_getElem? (i := 751) (by decide +kernel), List.mem_of_getElem? (i := 752) (by decide +kernel)⟩
theorem lw_p43 : lw_okq (⟨"ChanceSteps$Walker", "canRun", "(LChanceSteps$Program;LChanceSteps$Step;LChanceSteps$Crowd;LChanceSteps$Program;I)Z"⟩, 4) := ⟨⟨by decide +kernel, by decide +kernel⟩, List.mem_of_getElem? (i := 69) (by decide +kernel), List.mem_of_getElem? (i := 755) (by decide +kernel), List.mem_of_getElem? (i := 756) (by decide +kernel)⟩
theorem lw_p44 : lw_okq (⟨"ChanceSteps$Walker", "walkWhole", "(LChanceSteps$Program;II)V"⟩, 4) := ⟨⟨by decide +kernel, by decide +kernel⟩, List.mem_of_getElem? (i := 69) (by decide +kernel), List.mem_of_getElem? (i := 764) (by decide +kernel), List.mem_of_getElem? (i := 765) (by decide +kernel)⟩
theorem lw_p45 : lw_okq (⟨"ChanceSteps$Walker", "followBlock", "(LChanceSteps$Program;IIII)I"⟩, 4) := ⟨⟨by decide +kernel, by decide +kernel⟩, List.mem_of_getElem? (i := 69) (by decide +kernel), List.mem_of_getElem? (i := 891) (by decide +kernel), List.mem_of_getElem? (i := 892) (by decide +kernel)⟩
theorem lw_p46 : lw_okq (⟨"ChanceSteps$Walker", "followStep", "(LChanceSteps$Program;III)I"⟩, 4) := ⟨⟨by decide +kernel, by decide +kernel⟩, List.mem_of_getElem? (i := 69) (by decide +kernel), List.mem_of_getElem? (i := 895) (by decide +kernel), List.mem_of_getElem? (i := 896) (by decide +kernel)⟩
theorem lw_p47 : lw_okq (⟨"ChanceSteps$Walker", "drawn", "(LChanceSteps$Program;LChanceSteps$Step;)I"⟩, 4) := ⟨⟨by decide +kernel, by decide +kernel⟩, List.mem_of_getElem? (i := 69) (by decide +kernel), List.mem_of_getElem? (i := 899) (by decide +kernel), List.mem_of_getElem? (i := 900) (by decide +kernel)⟩
def lw_privs_3 : List (MethodName × Nat) := [(⟨"ChanceSteps$Walker", "walkDraw", "(LChanceSteps$Program;LChanceSteps$Step;LChanceSteps$Crowd;I)Z"⟩, 4), (⟨"ChanceSteps$Mixer", "putNew", "(IJI)Z"⟩, 5), (⟨"ChanceSteps$Walker", "walkLet", "(LChanceSteps$Program;LChanceSteps$Step;LChanceSteps$Crowd;I)Z"⟩, 4), (⟨"ChanceSteps$Walker", "walkSee", "(LChanceSteps$Program;LChanceSteps$Step;LChanceSteps$Crowd;I)Z"⟩, 4), (⟨"ChanceSteps$Walker", "walkIf", "(LChanceSteps$Program;ILChanceSteps$Crowd;II)Z"⟩, 4), (⟨"ChanceSteps$Walker", "lend", "()LChanceSteps$Crowd;"⟩, 4), (⟨"ChanceSteps$Walker", "split", "(LChanceSteps$Program;LChanceSteps$Step;LChanceSteps$Crowd;LChanceSteps$Crowd;)V"⟩, 4), (⟨"ChanceSteps$Walker", "giveBack", "()V"⟩, 4), (⟨"ChanceSteps$Walker", "walkLoop", "(LChanceSteps$Program;ILChanceSteps$Crowd;II)Z"⟩, 4), (⟨"ChanceSteps$Walker", "forget", "(LChanceSteps$Crowd;I)Z"⟩, 4), (⟨"ChanceSteps$Walker", "walkRun", "(LChanceSteps$Program;LChanceSteps$Step;LChanceSteps$Crowd;II)Z"⟩, 4), (⟨"ChanceSteps$Walker", "canRun", "(LChanceSteps$Program;LChanceSteps$Step;LChanceSteps$Crowd;LChanceSteps$Program;I)Z"⟩, 4), (⟨"ChanceSteps$Walker", "walkWhole", "(LChanceSteps$Program;II)V"⟩, 4), (⟨"ChanceSteps$Walker", "followBlock", "(LChanceSteps$Program;IIII)I"⟩, 4), (⟨"ChanceSteps$Walker", "followStep", "(LChanceSteps$Program;III)I"⟩, 4), (⟨"ChanceSteps$Walker", "drawn", "(LChanceSteps$Program;LChanceSteps$Step;)I"⟩, 4)]
theorem lw_r3 : ∀ q ∈ lw_privs_3, lw_okq q := List.forall_mem_cons.mpr ⟨lw_p32, List.forall_mem_cons.mpr ⟨lw_p33, List.forall_mem_cons.mpr ⟨lw_p34, List.forall_mem_cons.mpr ⟨lw_p35, List.forall_mem_cons.mpr ⟨lw_p36, List.forall_mem_cons.mpr ⟨lw_p37, List.forall_mem_cons.mpr ⟨lw_p38, List.forall_mem_cons.mpr ⟨lw_p39, List.forall_mem_cons.mpr ⟨lw_p40, List.forall_mem_cons.mpr ⟨lw_p41, List.forall_mem_cons.mpr ⟨lw_p42, List.forall_mem_cons.mpr ⟨lw_p43, List.forall_mem_cons.mpr ⟨lw_p44, List.forall_mem_cons.mpr ⟨lw_p45, List.forall_mem_cons.mpr ⟨lw_p46, List.forall_mem_cons.mpr ⟨lw_p47, fun _ h => absurd h List.not_mem_nil⟩⟩⟩⟩⟩⟩⟩⟩⟩⟩⟩⟩⟩⟩⟩⟩
theorem lw_p48 : lw_okq (⟨"ChanceSteps$Walker", "followLoop", "(LChanceSteps$Program;III)I"⟩, 4) := ⟨⟨by decide +kernel, by decide +kernel⟩, List.mem_of_getElem? (i := 69) (by decide +kernel), List.mem_of_getElem? (i := 904) (by decide +kernel), List.mem_of_getElem? (i := 905) (by decide +kernel)⟩
theorem lw_p49 : lw_okq (⟨"ChanceSteps$Walker", "followRun", "(LChanceSteps$Program;LChanceSteps$Step;II)I"⟩, 4) := ⟨⟨by decide +kernel, by decide +kernel⟩, List.mem_of_getElem? (i := 69) (by decide +kernel), List.mem_of_getElem? (i := 908) (by decide +kernel), List.mem_of_getElem? (i := 909) (by decide +kernel)⟩
theorem lw_p50 : lw_okq (⟨"ChanceSteps", "firstOtherwise", "(LChanceSteps$Sheet;LChanceSteps$Crowd;I)I"⟩, 13) := ⟨⟨by decide +kernel, by decide +kernel⟩, List.mem_of_getElem? (i := 22) (by decide +kernel), List.mem_of_getElem? (i := 924) (by decide +kernel), List.mem_of_getElem? (i := 925) (by decide +kernel)⟩
theorem lw_p51 : lw_okq (⟨"ChanceSteps", "programsThatTell", "(LChanceSteps$Sheet;I)I"⟩, 13) := ⟨⟨by decide +kernel, by decide +kernel⟩, List.mem_of_getElem? (i := 22) (by decide +kernel), List.mem_of_getElem? (i := 932) (by decide +kernel), List.mem_of_getElem? (i := 933) (by decide +kernel)⟩
theorem lw_p52 : lw_okq (⟨"ChanceSteps", "wouldTell", "(LChanceSteps$Sheet;LChanceSteps$Crowd;I)Z"⟩, 13) := ⟨⟨by decide +kernel, by decide +kernel⟩, List.mem_of_getElem? (i := 22) (by decide +kernel), List.mem_of_getElem? (i := 936) (by decide +kernel), List.mem_of_getElem? (i := 937) (by decide +kernel)⟩
theorem lw_p53 : lw_okq (⟨"ChanceSteps", "namesThatTell", "(LChanceSteps$Sheet;LChanceSteps$Crowd;)I"⟩, 13) := ⟨⟨by decide +kernel, by decide +kernel⟩, List.mem_of_getElem? (i := 22) (by decide +kernel), List.mem_of_getElem? (i := 940) (by decide +kernel), List.mem_of_getElem? (i := 941) (by decide +kernel)⟩
theorem lw_p54 : lw_okq (⟨"ChanceSteps", "startsThatTell", "(LChanceSteps$Sheet;II)I"⟩, 13) := ⟨⟨by decide +kernel, by decide +kernel⟩, List.mem_of_getElem? (i := 22) (by decide +kernel), List.mem_of_getElem? (i := 944) (by decide +kernel), List.mem_of_getElem? (i := 945) (by decide +kernel)⟩
theorem lw_p55 : lw_okq (⟨"ChanceStepsModel", "next", "()V"⟩, 43) := ⟨⟨by decide +kernel, by decide +kernel⟩, List.mem_of_getElem? (i := 991) (by decide +kernel), List.mem_of_getElem? (i := 1169) (by decide +kernel), List.mem_of_getElem? (i := 1170) (by decide +kernel)⟩
theorem lw_p56 : lw_okq (⟨"ChanceStepsModel", "byteAt", "(I)I"⟩, 43) := ⟨⟨by decide +kernel, by decide +kernel⟩, List.mem_of_getElem? (i := 991) (by decide +kernel), List.mem_of_getElem? (i := 1173) (by decide +kernel), List.mem_of_getElem? (i := 1174) (by decide +kernel)⟩
theorem lw_p57 : lw_okq (⟨"ChanceStepsModel", "wordRead", "()I"⟩, 43) := ⟨⟨by decide +kernel, by decide +kernel⟩, List.mem_of_getElem? (i := 991) (by decide +kernel), List.mem_of_getElem? (i := 1177) (by decide +kernel), List.mem_of_getElem? (i := 1178) (by decide +kernel)⟩
theorem lw_p58 : lw_okq (⟨"ChanceStepsModel", "isWord", "(Ljava/lang/String;)Z"⟩, 43) := ⟨⟨by decide +kernel, by decide +kernel⟩, List.mem_of_getElem? (i := 991) (by decide +kernel), List.mem_of_getElem? (i := 1182) (by decide +kernel), List.mem_of_getElem? (i := 1183) (by decide +kernel)⟩
theorem lw_p59 : lw_okq (⟨"ChanceStepsModel", "block", "()V"⟩, 43) := ⟨⟨by decide +kernel, by decide +kernel⟩, List.mem_of_getElem? (i := 991) (by decide +kernel), List.mem_of_getElem? (i := 1249) (by decide +kernel), List.mem_of_getElem? (i := 1250) (by decide +kernel)⟩
theorem lw_p60 : lw_okq (⟨"ChanceStepsModel", "step", "()V"⟩, 43) := ⟨⟨by decide +kernel, by decide +kernel⟩, List.mem_of_getElem? (i := 991) (by decide +kernel), List.mem_of_getElem? (i := 1253) (by decide +kernel), List.mem_of_getElem? (i := 1254) (by decide +kernel)⟩
theorem lw_p61 : lw_okq (⟨"ChanceStepsModel", "takes", "(III)I"⟩, 43) := ⟨⟨by decide +kernel, by decide +kernel⟩, List.mem_of_getElem? (i := 991) (by decide +kernel), List.mem_of_getElem? (i := 1257) (by decide +kernel), List.mem_of_getElem? (i := 1258) (by decide +kernel)⟩
theorem lw_p62 : lw_okq (⟨"ChanceStepsModel", "lotsOf", "(II)V"⟩, 43) := ⟨⟨by decide +kernel, by decide +kernel⟩, List.mem_of_getElem? (i := 991) (by decide +kernel), List.mem_of_getElem? (i := 1261) (by decide +kernel), List.mem_of_getElem? (i := 1262) (by decide +kernel)⟩
theorem lw_p63 : lw_okq (⟨"ChanceStepsModel", "need", "(I)V"⟩, 43) := ⟨⟨by decide +kernel, by decide +kernel⟩, List.mem_of_getElem? (i := 991) (by decide +kernel), List.mem_of_getElem? (i := 1265) (by decide +kernel), List.mem_of_getElem? (i := 1266) (by decide +kernel)⟩
def lw_privs_4 : List (MethodName × Nat) := [(⟨"ChanceSteps$Walker", "followLoop", "(LChanceSteps$Program;III)I"⟩, 4), (⟨"ChanceSteps$Walker", "followRun", "(LChanceSteps$Program;LChanceSteps$Step;II)I"⟩, 4), (⟨"ChanceSteps", "firstOtherwise", "(LChanceSteps$Sheet;LChanceSteps$Crowd;I)I"⟩, 13), (⟨"ChanceSteps", "programsThatTell", "(LChanceSteps$Sheet;I)I"⟩, 13), (⟨"ChanceSteps", "wouldTell", "(LChanceSteps$Sheet;LChanceSteps$Crowd;I)Z"⟩, 13), (⟨"ChanceSteps", "namesThatTell", "(LChanceSteps$Sheet;LChanceSteps$Crowd;)I"⟩, 13), (⟨"ChanceSteps", "startsThatTell", "(LChanceSteps$Sheet;II)I"⟩, 13), (⟨"ChanceStepsModel", "next", "()V"⟩, 43), (⟨"ChanceStepsModel", "byteAt", "(I)I"⟩, 43), (⟨"ChanceStepsModel", "wordRead", "()I"⟩, 43), (⟨"ChanceStepsModel", "isWord", "(Ljava/lang/String;)Z"⟩, 43), (⟨"ChanceStepsModel", "block", "()V"⟩, 43), (⟨"ChanceStepsModel", "step", "()V"⟩, 43), (⟨"ChanceStepsModel", "takes", "(III)I"⟩, 43), (⟨"ChanceStepsModel", "lotsOf", "(II)V"⟩, 43), (⟨"ChanceStepsModel", "need", "(I)V"⟩, 43)]
theorem lw_r4 : ∀ q ∈ lw_privs_4, lw_okq q := List.forall_mem_cons.mpr ⟨lw_p48, List.forall_mem_cons.mpr ⟨lw_p49, List.forall_mem_cons.mpr ⟨lw_p50, List.forall_mem_cons.mpr ⟨lw_p51, List.forall_mem_cons.mpr ⟨lw_p52, List.forall_mem_cons.mpr ⟨lw_p53, List.forall_mem_cons.mpr ⟨lw_p54, List.forall_mem_cons.mpr ⟨lw_p55, List.forall_mem_cons.mpr ⟨lw_p56, List.forall_mem_cons.mpr ⟨lw_p57, List.forall_mem_cons.mpr ⟨lw_p58, List.forall_mem_cons.mpr ⟨lw_p59, List.forall_mem_cons.mpr ⟨lw_p60, List.forall_mem_cons.mpr ⟨lw_p61, List.forall_mem_cons.mpr ⟨lw_p62, List.forall_mem_cons.mpr ⟨lw_p63, fun _ h => absurd h List.not_mem_nil⟩⟩⟩⟩⟩⟩⟩⟩⟩⟩⟩⟩⟩⟩⟩⟩
theorem lw_p64 : lw_okq (⟨"ChanceStepsModel", "isSign", "(I)Z"⟩, 43) := ⟨⟨by decide +kernel, by decide +kernel⟩, List.mem_of_getElem? (i := 991) (by decide +kernel), List.mem_of_getElem? (i := 1269) (by decide +kernel), List.mem_of_getElem? (i := 1270) (by decide +kernel)⟩
theorem lw_p65 : lw_okq (⟨"ChanceStepsModel", "expression", "()I"⟩, 43) := ⟨⟨by decide +kernel, by decide +kernel⟩, List.mem_of_getElem? (i := 991) (by decide +kernel), List.mem_of_getElem? (i := 1273) (by decide +kernel), List.mem_of_getElem? (i := 1274) (by decide +kernel)⟩
theorem lw_p66 : lw_okq (⟨"ChanceStepsModel", "sum", "()I"⟩, 43) := ⟨⟨by decide +kernel, by decide +kernel⟩, List.mem_of_getElem? (i := 991) (by decide +kernel), List.mem_of_getElem? (i := 1277) (by decide +kernel), List.mem_of_getElem? (i := 1278) (by decide +kernel)⟩
theorem lw_p67 : lw_okq (⟨"ChanceStepsModel", "term", "()I"⟩, 43) := ⟨⟨by decide +kernel, by decide +kernel⟩, List.mem_of_getElem? (i := 991) (by decide +kernel), List.mem_of_getElem? (i := 1281) (by decide +kernel), List.mem_of_getElem? (i := 1282) (by decide +kernel)⟩
theorem lw_p68 : lw_okq (⟨"ChanceStepsModel", "one", "()I"⟩, 43) := ⟨⟨by decide +kernel, by decide +kernel⟩, List.mem_of_getElem? (i := 991) (by decide +kernel), List.mem_of_getElem? (i := 1285) (by decide +kernel), List.mem_of_getElem? (i := 1286) (by decide +kernel)⟩
theorem lw_p69 : lw_okq (⟨"ChanceStepsModel", "node", "(IIII)I"⟩, 43) := ⟨⟨by decide +kernel, by decide +kernel⟩, List.mem_of_getElem? (i := 991) (by decide +kernel), List.mem_of_getElem? (i := 1289) (by decide +kernel), List.mem_of_getElem? (i := 1290) (by decide +kernel)⟩
theorem lw_p70 : lw_okq (⟨"ChanceStepsModel", "inBraces", "()V"⟩, 43) := ⟨⟨by decide +kernel, by decide +kernel⟩, List.mem_of_getElem? (i := 991) (by decide +kernel), List.mem_of_getElem? (i := 1293) (by decide +kernel), List.mem_of_getElem? (i := 1294) (by decide +kernel)⟩
theorem lw_p71 : lw_okq (⟨"ChanceStepsModel", "bitsOf", "(III)I"⟩, 43) := ⟨⟨by decide +kernel, by decide +kernel⟩, List.mem_of_getElem? (i := 991) (by decide +kernel), List.mem_of_getElem? (i := 1297) (by decide +kernel), List.mem_of_getElem? (i := 1298) (by decide +kernel)⟩
theorem lw_p72 : lw_okq (⟨"ChanceStepsModel", "bitsOfStep", "(II)I"⟩, 43) := ⟨⟨by decide +kernel, by decide +kernel⟩, List.mem_of_getElem? (i := 991) (by decide +kernel), List.mem_of_getElem? (i := 1301) (by decide +kernel), List.mem_of_getElem? (i := 1302) (by decide +kernel)⟩
theorem lw_p73 : lw_okq (⟨"ChanceStepsModel", "lotsAll", "(II)I"⟩, 43) := ⟨⟨by decide +kernel, by decide +kernel⟩, List.mem_of_getElem? (i := 991) (by decide +kernel), List.mem_of_getElem? (i := 1305) (by decide +kernel), List.mem_of_getElem? (i := 1306) (by decide +kernel)⟩
theorem lw_p74 : lw_okq (⟨"ChanceStepsModel", "turnsOf", "(III)I"⟩, 43) := ⟨⟨by decide +kernel, by decide +kernel⟩, List.mem_of_getElem? (i := 991) (by decide +kernel), List.mem_of_getElem? (i := 1314) (by decide +kernel), List.mem_of_getElem? (i := 1315) (by decide +kernel)⟩
theorem lw_p75 : lw_okq (⟨"ChanceStepsModel", "turnsOfStep", "(II)I"⟩, 43) := ⟨⟨by decide +kernel, by decide +kernel⟩, List.mem_of_getElem? (i := 991) (by decide +kernel), List.mem_of_getElem? (i := 1318) (by decide +kernel), List.mem_of_getElem? (i := 1319) (by decide +kernel)⟩
theorem lw_p76 : lw_okq (⟨"ChanceStepsModel", "isProgram", "(I)Z"⟩, 43) := ⟨⟨by decide +kernel, by decide +kernel⟩, List.mem_of_getElem? (i := 991) (by decide +kernel), List.mem_of_getElem? (i := 1333) (by decide +kernel), List.mem_of_getElem? (i := 1334) (by decide +kernel)⟩
theorem lw_p77 : lw_okq (⟨"ChanceStepsModel", "neededFrom", "(IIII)I"⟩, 43) := ⟨⟨by decide +kernel, by decide +kernel⟩, List.mem_of_getElem? (i := 991) (by decide +kernel), List.mem_of_getElem? (i := 1337) (by decide +kernel), List.mem_of_getElem? (i := 1338) (by decide +kernel)⟩
theorem lw_p78 : lw_okq (⟨"ChanceStepsModel", "neededAhead", "(III)I"⟩, 43) := ⟨⟨by decide +kernel, by decide +kernel⟩, List.mem_of_getElem? (i := 991) (by decide +kernel), List.mem_of_getElem? (i := 1341) (by decide +kernel), List.mem_of_getElem? (i := 1342) (by decide +kernel)⟩
theorem lw_p79 : lw_okq (⟨"ChanceStepsModel", "namesIn", "(II)I"⟩, 43) := ⟨⟨by decide +kernel, by decide +kernel⟩, List.mem_of_getElem? (i := 991) (by decide +kernel), List.mem_of_getElem? (i := 1345) (by decide +kernel), List.mem_of_getElem? (i := 1346) (by decide +kernel)⟩
def lw_privs_5 : List (MethodName × Nat) := [(⟨"ChanceStepsModel", "isSign", "(I)Z"⟩, 43), (⟨"ChanceStepsModel", "expression", "()I"⟩, 43), (⟨"ChanceStepsModel", "sum", "()I"⟩, 43), (⟨"ChanceStepsModel", "term", "()I"⟩, 43), (⟨"ChanceStepsModel", "one", "()I"⟩, 43), (⟨"ChanceStepsModel", "node", "(IIII)I"⟩, 43), (⟨"ChanceStepsModel", "inBraces", "()V"⟩, 43), (⟨"ChanceStepsModel", "bitsOf", "(III)I"⟩, 43), (⟨"ChanceStepsModel", "bitsOfStep", "(II)I"⟩, 43), (⟨"ChanceStepsModel", "lotsAll", "(II)I"⟩, 43), (⟨"ChanceStepsModel", "turnsOf", "(III)I"⟩, 43), (⟨"ChanceStepsModel", "turnsOfStep", "(II)I"⟩, 43), (⟨"ChanceStepsModel", "isProgram", "(I)Z"⟩, 43), (⟨"ChanceStepsModel", "neededFrom", "(IIII)I"⟩, 43), (⟨"ChanceStepsModel", "neededAhead", "(III)I"⟩, 43), (⟨"ChanceStepsModel", "namesIn", "(II)I"⟩, 43)]
theorem lw_r5 : ∀ q ∈ lw_privs_5, lw_okq q := List.forall_mem_cons.mpr ⟨lw_p64, List.forall_mem_cons.mpr ⟨lw_p65, List.forall_mem_cons.mpr ⟨lw_p66, List.forall_mem_cons.mpr ⟨lw_p67, List.forall_mem_cons.mpr ⟨lw_p68, List.forall_mem_cons.mpr ⟨lw_p69, List.forall_mem_cons.mpr ⟨lw_p70, List.forall_mem_cons.mpr ⟨lw_p71, List.forall_mem_cons.mpr ⟨lw_p72, List.forall_mem_cons.mpr ⟨lw_p73, List.forall_mem_cons.mpr ⟨lw_p74, List.forall_mem_cons.mpr ⟨lw_p75, List.forall_mem_cons.mpr ⟨lw_p76, List.forall_mem_cons.mpr ⟨lw_p77, List.forall_mem_cons.mpr ⟨lw_p78, List.forall_mem_cons.mpr ⟨lw_p79, fun _ h => absurd h List.not_mem_nil⟩⟩⟩⟩⟩⟩⟩⟩⟩⟩⟩⟩⟩⟩⟩⟩
theorem lw_p80 : lw_okq (⟨"ChanceStepsModel", "sees", "(I)Z"⟩, 43) := ⟨⟨by decide +kernel, by decide +kernel⟩, List.mem_of_getElem? (i := 991) (by decide +kernel), List.mem_of_getElem? (i := 1349) (by decide +kernel), List.mem_of_getElem? (i := 1350) (by decide +kernel)⟩
theorem lw_p81 : lw_okq (⟨"ChanceStepsModel", "odds", "(II)LChanceStepsModel$Odds;"⟩, 43) := ⟨⟨by decide +kernel, by decide +kernel⟩, List.mem_of_getElem? (i := 991) (by decide +kernel), List.mem_of_getElem? (i := 1357) (by decide +kernel), List.mem_of_getElem? (i := 1358) (by decide +kernel)⟩
theorem lw_p82 : lw_okq (⟨"ChanceStepsModel", "oddsBeside", "(II)LChanceStepsModel$Odds;"⟩, 43) := ⟨⟨by decide +kernel, by decide +kernel⟩, List.mem_of_getElem? (i := 991) (by decide +kernel), List.mem_of_getElem? (i := 1361) (by decide +kernel), List.mem_of_getElem? (i := 1362) (by decide +kernel)⟩
theorem lw_p83 : lw_okq (⟨"ChanceStepsModel", "taken", "()LChanceStepsModel$Odds;"⟩, 43) := ⟨⟨by decide +kernel, by decide +kernel⟩, List.mem_of_getElem? (i := 991) (by decide +kernel), List.mem_of_getElem? (i := 1365) (by decide +kernel), List.mem_of_getElem? (i := 1366) (by decide +kernel)⟩
theorem lw_p84 : lw_okq (⟨"ChanceStepsModel", "startState", "()I"⟩, 43) := ⟨⟨by decide +kernel, by decide +kernel⟩, List.mem_of_getElem? (i := 991) (by decide +kernel), List.mem_of_getElem? (i := 1369) (by decide +kernel), List.mem_of_getElem? (i := 1370) (by decide +kernel)⟩
theorem lw_p85 : lw_okq (⟨"ChanceStepsModel", "forget", "(LChanceStepsModel$Odds;I)LChanceStepsModel$Odds;"⟩, 43) := ⟨⟨by decide +kernel, by decide +kernel⟩, List.mem_of_getElem? (i := 991) (by decide +kernel), List.mem_of_getElem? (i := 1379) (by decide +kernel), List.mem_of_getElem? (i := 1380) (by decide +kernel)⟩
theorem lw_p86 : lw_okq (⟨"ChanceStepsModel", "make", "(IIILChanceStepsModel$Odds;I)LChanceStepsModel$Odds;"⟩, 43) := ⟨⟨by decide +kernel, by decide +kernel⟩, List.mem_of_getElem? (i := 991) (by decide +kernel), List.mem_of_getElem? (i := 1392) (by decide +kernel), List.mem_of_getElem? (i := 1393) (by decide +kernel)⟩
theorem lw_p87 : lw_okq (⟨"ChanceStepsModel", "makeStep", "(IILChanceStepsModel$Odds;I)LChanceStepsModel$Odds;"⟩, 43) := ⟨⟨by decide +kernel, by decide +kernel⟩, List.mem_of_getElem? (i := 991) (by decide +kernel), List.mem_of_getElem? (i := 1400) (by decide +kernel), List.mem_of_getElem? (i := 1401) (by decide +kernel)⟩
theorem lw_p88 : lw_okq (⟨"ChanceStepsModel", "draw", "(IILChanceStepsModel$Odds;)LChanceStepsModel$Odds;"⟩, 43) := ⟨⟨by decide +kernel, by decide +kernel⟩, List.mem_of_getElem? (i := 991) (by decide +kernel), List.mem_of_getElem? (i := 1404) (by decide +kernel), List.mem_of_getElem? (i := 1405) (by decide +kernel)⟩
theorem lw_p89 : lw_okq (⟨"ChanceStepsModel", "let", "(IILChanceStepsModel$Odds;)LChanceStepsModel$Odds;"⟩, 43) := ⟨⟨by decide +kernel, by decide +kernel⟩, List.mem_of_getElem? (i := 991) (by decide +kernel), List.mem_of_getElem? (i := 1408) (by decide +kernel), List.mem_of_getElem? (i := 1409) (by decide +kernel)⟩
theorem lw_p90 : lw_okq (⟨"ChanceStepsModel", "worth", "(III)I"⟩, 43) := ⟨⟨by decide +kernel, by decide +kernel⟩, List.mem_of_getElem? (i := 991) (by decide +kernel), List.mem_of_getElem? (i := 1412) (by decide +kernel), List.mem_of_getElem? (i := 1413) (by decide +kernel)⟩
theorem lw_p91 : lw_okq (⟨"ChanceStepsModel", "split", "(IILChanceStepsModel$Odds;Z)LChanceStepsModel$Odds;"⟩, 43) := ⟨⟨by decide +kernel, by decide +kernel⟩, List.mem_of_getElem? (i := 991) (by decide +kernel), List.mem_of_getElem? (i := 1419) (by decide +kernel), List.mem_of_getElem? (i := 1420) (by decide +kernel)⟩
theorem lw_p92 : lw_okq (⟨"ChanceStepsModel", "choose", "(IILChanceStepsModel$Odds;I)LChanceStepsModel$Odds;"⟩, 43) := ⟨⟨by decide +kernel, by decide +kernel⟩, List.mem_of_getElem? (i := 991) (by decide +kernel), List.mem_of_getElem? (i := 1423) (by decide +kernel), List.mem_of_getElem? (i := 1424) (by decide +kernel)⟩
theorem lw_p93 : lw_okq (⟨"ChanceStepsModel", "loop", "(IILChanceStepsModel$Odds;I)LChanceStepsModel$Odds;"⟩, 43) := ⟨⟨by decide +kernel, by decide +kernel⟩, List.mem_of_getElem? (i := 991) (by decide +kernel), List.mem_of_getElem? (i := 1427) (by decide +kernel), List.mem_of_getElem? (i := 1428) (by decide +kernel)⟩
theorem lw_p94 : lw_okq (⟨"ChanceStepsModel", "run", "(IILChanceStepsModel$Odds;)LChanceStepsModel$Odds;"⟩, 43) := ⟨⟨by decide +kernel, by decide +kernel⟩, List.mem_of_getElem? (i := 991) (by decide +kernel), List.mem_of_getElem? (i := 1431) (by decide +kernel), List.mem_of_getElem? (i := 1432) (by decide +kernel)⟩
theorem lw_p95 : lw_okq (⟨"ChanceStepsModel", "tell", "(II)V"⟩, 43) := ⟨⟨by decide +kernel, by decide +kernel⟩, List.mem_of_getElem? (i := 991) (by decide +kernel), List.mem_of_getElem? (i := 1435) (by decide +kernel), List.mem_of_getElem? (i := 1436) (by decide +kernel)⟩
def lw_privs_6 : List (MethodName × Nat) := [(⟨"ChanceStepsModel", "sees", "(I)Z"⟩, 43), (⟨"ChanceStepsModel", "odds", "(II)LChanceStepsModel$Odds;"⟩, 43), (⟨"ChanceStepsModel", "oddsBeside", "(II)LChanceStepsModel$Odds;"⟩, 43), (⟨"ChanceStepsModel", "taken", "()LChanceStepsModel$Odds;"⟩, 43), (⟨"ChanceStepsModel", "startState", "()I"⟩, 43), (⟨"ChanceStepsModel", "forget", "(LChanceStepsModel$Odds;I)LChanceStepsModel$Odds;"⟩, 43), (⟨"ChanceStepsModel", "make", "(IIILChanceStepsModel$Odds;I)LChanceStepsModel$Odds;"⟩, 43), (⟨"ChanceStepsModel", "makeStep", "(IILChanceStepsModel$Odds;I)LChanceStepsModel$Odds;"⟩, 43), (⟨"ChanceStepsModel", "draw", "(IILChanceStepsModel$Odds;)LChanceStepsModel$Odds;"⟩, 43), (⟨"ChanceStepsModel", "let", "(IILChanceStepsModel$Odds;)LChanceStepsModel$Odds;"⟩, 43), (⟨"ChanceStepsModel", "worth", "(III)I"⟩, 43), (⟨"ChanceStepsModel", "split", "(IILChanceStepsModel$Odds;Z)LChanceStepsModel$Odds;"⟩, 43), (⟨"ChanceStepsModel", "choose", "(IILChanceStepsModel$Odds;I)LChanceStepsModel$Odds;"⟩, 43), (⟨"ChanceStepsModel", "loop", "(IILChanceStepsModel$Odds;I)LChanceStepsModel$Odds;"⟩, 43), (⟨"ChanceStepsModel", "run", "(IILChanceStepsModel$Odds;)LChanceStepsModel$Odds;"⟩, 43), (⟨"ChanceStepsModel", "tell", "(II)V"⟩, 43)]
theorem lw_r6 : ∀ q ∈ lw_privs_6, lw_okq q := List.forall_mem_cons.mpr ⟨lw_p80, List.forall_mem_cons.mpr ⟨lw_p81, List.forall_mem_cons.mpr ⟨lw_p82, List.forall_mem_cons.mpr ⟨lw_p83, List.forall_mem_cons.mpr ⟨lw_p84, List.forall_mem_cons.mpr ⟨lw_p85, List.forall_mem_cons.mpr ⟨lw_p86, List.forall_mem_cons.mpr ⟨lw_p87, List.forall_mem_cons.mpr ⟨lw_p88, List.forall_mem_cons.mpr ⟨lw_p89, List.forall_mem_cons.mpr ⟨lw_p90, List.forall_mem_cons.mpr ⟨lw_p91, List.forall_mem_cons.mpr ⟨lw_p92, List.forall_mem_cons.mpr ⟨lw_p93, List.forall_mem_cons.mpr ⟨lw_p94, List.forall_mem_cons.mpr ⟨lw_p95, fun _ h => absurd h List.not_mem_nil⟩⟩⟩⟩⟩⟩⟩⟩⟩⟩⟩⟩⟩⟩⟩⟩
theorem lw_p96 : lw_okq (⟨"ChanceStepsModel", "against", "(LChanceStepsModel$Odds;)I"⟩, 43) := ⟨⟨by decide +kernel, by decide +kernel⟩, List.mem_of_getElem? (i := 991) (by decide +kernel), List.mem_of_getElem? (i := 1474) (by decide +kernel), List.mem_of_getElem? (i := 1475) (by decide +kernel)⟩
theorem lw_p97 : lw_okq (⟨"ChanceStepsModel", "comesBy", "(II)I"⟩, 43) := ⟨⟨by decide +kernel, by decide +kernel⟩, List.mem_of_getElem? (i := 991) (by decide +kernel), List.mem_of_getElem? (i := 1515) (by decide +kernel), List.mem_of_getElem? (i := 1516) (by decide +kernel)⟩
theorem lw_p98 : lw_okq (⟨"ChanceStepsModel", "come", "(IIII)I"⟩, 43) := ⟨⟨by decide +kernel, by decide +kernel⟩, List.mem_of_getElem? (i := 991) (by decide +kernel), List.mem_of_getElem? (i := 1519) (by decide +kernel), List.mem_of_getElem? (i := 1520) (by decide +kernel)⟩
theorem lw_p99 : lw_okq (⟨"ChanceStepsModel", "comeStep", "(III)I"⟩, 43) := ⟨⟨by decide +kernel, by decide +kernel⟩, List.mem_of_getElem? (i := 991) (by decide +kernel), List.mem_of_getElem? (i := 1523) (by decide +kernel), List.mem_of_getElem? (i := 1524) (by decide +kernel)⟩
theorem lw_p100 : lw_okq (⟨"ChanceStepsModel", "otherwise", "(ILChanceStepsModel$Odds;I)I"⟩, 43) := ⟨⟨by decide +kernel, by decide +kernel⟩, List.mem_of_getElem? (i := 991) (by decide +kernel), List.mem_of_getElem? (i := 1539) (by decide +kernel), List.mem_of_getElem? (i := 1540) (by decide +kernel)⟩
theorem lw_p101 : lw_okq (⟨"ChanceStepsModel", "isSo", "(III)Z"⟩, 43) := ⟨⟨by decide +kernel, by decide +kernel⟩, List.mem_of_getElem? (i := 991) (by decide +kernel), List.mem_of_getElem? (i := 1547) (by decide +kernel), List.mem_of_getElem? (i := 1548) (by decide +kernel)⟩
def lw_privs_7 : List (MethodName × Nat) := [(⟨"ChanceStepsModel", "against", "(LChanceStepsModel$Odds;)I"⟩, 43), (⟨"ChanceStepsModel", "comesBy", "(II)I"⟩, 43), (⟨"ChanceStepsModel", "come", "(IIII)I"⟩, 43), (⟨"ChanceStepsModel", "comeStep", "(III)I"⟩, 43), (⟨"ChanceStepsModel", "otherwise", "(ILChanceStepsModel$Odds;I)I"⟩, 43), (⟨"ChanceStepsModel", "isSo", "(III)Z"⟩, 43)]
theorem lw_r7 : ∀ q ∈ lw_privs_7, lw_okq q := List.forall_mem_cons.mpr ⟨lw_p96, List.forall_mem_cons.mpr ⟨lw_p97, List.forall_mem_cons.mpr ⟨lw_p98, List.forall_mem_cons.mpr ⟨lw_p99, List.forall_mem_cons.mpr ⟨lw_p100, List.forall_mem_cons.mpr ⟨lw_p101, fun _ h => absurd h List.not_mem_nil⟩⟩⟩⟩⟩⟩
def lw_privs : List (MethodName × Nat) := lw_privs_1 ++ (lw_privs_2 ++ (lw_privs_3 ++ (lw_privs_4 ++ (lw_privs_5 ++ (lw_privs_6 ++ (lw_privs_7))))))
def lw_tbl : List Cond := k2_sels lw_privs ++ tables_1
theorem lw_privs_ok : ∀ q ∈ lw_privs, lw_okq q := by
  show ∀ q ∈ lw_privs_1 ++ (lw_privs_2 ++ (lw_privs_3 ++ (lw_privs_4 ++ (lw_privs_5 ++ (lw_privs_6 ++ (lw_privs_7)))))), lw_okq q
  exact List.forall_mem_append.mpr ⟨lw_r1, List.forall_mem_append.mpr ⟨lw_r2, List.forall_mem_append.mpr ⟨lw_r3, List.forall_mem_append.mpr ⟨lw_r4, List.forall_mem_append.mpr ⟨lw_r5, List.forall_mem_append.mpr ⟨lw_r6, lw_r7⟩⟩⟩⟩⟩⟩
-- class tables, as printed
def RX0 : String := "ChanceSteps$Crowd"
def TX0 : u_T := fun k => match k with
  | 0 => ("ChanceSteps$Crowd", "states", "[I", false)
  | 1 => ("ChanceSteps$Crowd", "weights", "[J", false)
  | 2 => ("ChanceSteps$Crowd", "size", "I", false)
  | _ => ("ChanceSteps$Crowd", "most", "I", false)
def tyX0 : Nat → FieldType := fun k => match k with
  | 0 => .array .int
  | 1 => .array .long
  | 2 => .int
  | _ => .int
theorem nmX0 : ∀ a, a < 4 → ∀ b, b < 4 → a ≠ b → (TX0 a).2.1 ≠ (TX0 b).2.1 := by decide +kernel
theorem tyX0_ok : ∀ k, k < 4 → parseFieldDescriptor (TX0 k).2.2.1 = some (tyX0 k) := by decide +kernel
def RX1 : String := "ChanceSteps$Mixer"
def TX1 : u_T := fun k => match k with
  | 0 => ("ChanceSteps$Mixer", "states", "[I", false)
  | 1 => ("ChanceSteps$Mixer", "weights", "[J", false)
  | 2 => ("ChanceSteps$Mixer", "size", "I", false)
  | 3 => ("ChanceSteps$Mixer", "slots", "[I", true)
  | _ => ("ChanceSteps$Mixer", "homes", "[I", true)
def tyX1 : Nat → FieldType := fun k => match k with
  | 0 => .array .int
  | 1 => .array .long
  | 2 => .int
  | 3 => .array .int
  | _ => .array .int
theorem nmX1 : ∀ a, a < 5 → ∀ b, b < 5 → a ≠ b → (TX1 a).2.1 ≠ (TX1 b).2.1 := by decide +kernel
theorem tyX1_ok : ∀ k, k < 5 → parseFieldDescriptor (TX1 k).2.2.1 = some (tyX1 k) := by decide +kernel
def RX2 : String := "ChanceSteps$Program"
def TX2 : u_T := fun k => match k with
  | 0 => ("ChanceSteps$Program", "steps", "[LChanceSteps$Step;", true)
  | 1 => ("ChanceSteps$Program", "size", "I", false)
  | 2 => ("ChanceSteps$Program", "code", "[I", true)
  | 3 => ("ChanceSteps$Program", "codeSize", "I", false)
  | 4 => ("ChanceSteps$Program", "lotValues", "[I", true)
  | 5 => ("ChanceSteps$Program", "lotWeights", "[I", true)
  | 6 => ("ChanceSteps$Program", "lotSize", "I", false)
  | 7 => ("ChanceSteps$Program", "stack", "[I", true)
  | 8 => ("ChanceSteps$Program", "bits", "I", false)
  | 9 => ("ChanceSteps$Program", "turns", "I", false)
  | 10 => ("ChanceSteps$Program", "names", "I", false)
  | 11 => ("ChanceSteps$Program", "sees", "Z", false)
  | 12 => ("ChanceSteps$Program", "runs", "LChanceSteps$Runs;", true)
  | 13 => ("ChanceSteps$Program", "end", "LChanceSteps$Crowd;", false)
  | 14 => ("ChanceSteps$Program", "endStart", "I", false)
  | _ => ("ChanceSteps$Program", "endFits", "Z", false)
def tyX2 : Nat → FieldType := fun k => match k with
  | 0 => .array (.object "ChanceSteps$Step")
  | 1 => .int
  | 2 => .array .int
  | 3 => .int
  | 4 => .array .int
  | 5 => .array .int
  | 6 => .int
  | 7 => .array .int
  | 8 => .int
  | 9 => .int
  | 10 => .int
  | 11 => .boolean
  | 12 => .object "ChanceSteps$Runs"
  | 13 => .object "ChanceSteps$Crowd"
  | 14 => .int
  | _ => .boolean
theorem nmX2 : ∀ a, a < 16 → ∀ b, b < 16 → a ≠ b → (TX2 a).2.1 ≠ (TX2 b).2.1 := by decide +kernel
theorem tyX2_ok : ∀ k, k < 16 → parseFieldDescriptor (TX2 k).2.2.1 = some (tyX2 k) := by decide +kernel
def RX3 : String := "ChanceSteps$Reader"
def TX3 : u_T := fun k => match k with
  | 0 => ("ChanceSteps$Reader", "text", "[I", false)
  | 1 => ("ChanceSteps$Reader", "size", "I", false)
  | 2 => ("ChanceSteps$Reader", "program", "LChanceSteps$Program;", false)
  | 3 => ("ChanceSteps$Reader", "others", "I", false)
  | 4 => ("ChanceSteps$Reader", "at", "I", false)
  | 5 => ("ChanceSteps$Reader", "open", "I", false)
  | 6 => ("ChanceSteps$Reader", "place", "I", false)
  | 7 => ("ChanceSteps$Reader", "sort", "I", false)
  | _ => ("ChanceSteps$Reader", "value", "I", false)
def tyX3 : Nat → FieldType := fun k => match k with
  | 0 => .array .int
  | 1 => .int
  | 2 => .object "ChanceSteps$Program"
  | 3 => .int
  | 4 => .int
  | 5 => .int
  | 6 => .int
  | 7 => .int
  | _ => .int
theorem nmX3 : ∀ a, a < 9 → ∀ b, b < 9 → a ≠ b → (TX3 a).2.1 ≠ (TX3 b).2.1 := by decide +kernel
theorem tyX3_ok : ∀ k, k < 9 → parseFieldDescriptor (TX3 k).2.2.1 = some (tyX3 k) := by decide +kernel
def RX4 : String := "ChanceSteps$Runs"
def TX4 : u_T := fun k => match k with
  | 0 => ("ChanceSteps$Runs", "standing", "[I", true)
  | 1 => ("ChanceSteps$Runs", "weights", "[J", true)
  | _ => ("ChanceSteps$Runs", "row", "[J", true)
def tyX4 : Nat → FieldType := fun k => match k with
  | 0 => .array .int
  | 1 => .array .long
  | _ => .array .long
theorem nmX4 : ∀ a, a < 3 → ∀ b, b < 3 → a ≠ b → (TX4 a).2.1 ≠ (TX4 b).2.1 := by decide +kernel
theorem tyX4_ok : ∀ k, k < 3 → parseFieldDescriptor (TX4 k).2.2.1 = some (tyX4 k) := by decide +kernel
def RX5 : String := "ChanceSteps$Sheet"
def TX5 : u_T := fun k => match k with
  | 0 => ("ChanceSteps$Sheet", "cells", "[I", true)
  | 1 => ("ChanceSteps$Sheet", "sort", "I", false)
  | _ => ("ChanceSteps$Sheet", "size", "I", false)
def tyX5 : Nat → FieldType := fun k => match k with
  | 0 => .array .int
  | 1 => .int
  | _ => .int
theorem nmX5 : ∀ a, a < 3 → ∀ b, b < 3 → a ≠ b → (TX5 a).2.1 ≠ (TX5 b).2.1 := by decide +kernel
theorem tyX5_ok : ∀ k, k < 3 → parseFieldDescriptor (TX5 k).2.2.1 = some (tyX5 k) := by decide +kernel
def RX6 : String := "ChanceSteps$Step"
def TX6 : u_T := fun k => match k with
  | 0 => ("ChanceSteps$Step", "kind", "I", false)
  | 1 => ("ChanceSteps$Step", "name", "I", false)
  | 2 => ("ChanceSteps$Step", "number", "I", false)
  | 3 => ("ChanceSteps$Step", "inside", "I", false)
  | 4 => ("ChanceSteps$Step", "level", "I", false)
  | 5 => ("ChanceSteps$Step", "second", "I", false)
  | 6 => ("ChanceSteps$Step", "seen", "I", false)
  | 7 => ("ChanceSteps$Step", "bits", "I", false)
  | 8 => ("ChanceSteps$Step", "turns", "I", false)
  | 9 => ("ChanceSteps$Step", "codeFrom", "I", false)
  | 10 => ("ChanceSteps$Step", "codeTo", "I", false)
  | 11 => ("ChanceSteps$Step", "lotFrom", "I", false)
  | 12 => ("ChanceSteps$Step", "sees", "Z", false)
  | _ => ("ChanceSteps$Step", "ran", "LChanceSteps$Program;", false)
def tyX6 : Nat → FieldType := fun k => match k with
  | 0 => .int
  | 1 => .int
  | 2 => .int
  | 3 => .int
  | 4 => .int
  | 5 => .int
  | 6 => .int
  | 7 => .int
  | 8 => .int
  | 9 => .int
  | 10 => .int
  | 11 => .int
  | 12 => .boolean
  | _ => .object "ChanceSteps$Program"
theorem nmX6 : ∀ a, a < 14 → ∀ b, b < 14 → a ≠ b → (TX6 a).2.1 ≠ (TX6 b).2.1 := by decide +kernel
theorem tyX6_ok : ∀ k, k < 14 → parseFieldDescriptor (TX6 k).2.2.1 = some (tyX6 k) := by decide +kernel
def RX7 : String := "ChanceSteps$Walker"
def TX7 : u_T := fun k => match k with
  | 0 => ("ChanceSteps$Walker", "mixer", "LChanceSteps$Mixer;", true)
  | 1 => ("ChanceSteps$Walker", "spare", "[LChanceSteps$Crowd;", true)
  | 2 => ("ChanceSteps$Walker", "lent", "I", false)
  | _ => ("ChanceSteps$Walker", "z", "I", false)
def tyX7 : Nat → FieldType := fun k => match k with
  | 0 => .object "ChanceSteps$Mixer"
  | 1 => .array (.object "ChanceSteps$Crowd")
  | 2 => .int
  | _ => .int
theorem nmX7 : ∀ a, a < 4 → ∀ b, b < 4 → a ≠ b → (TX7 a).2.1 ≠ (TX7 b).2.1 := by decide +kernel
theorem tyX7_ok : ∀ k, k < 4 → parseFieldDescriptor (TX7 k).2.2.1 = some (tyX7 k) := by decide +kernel
def RX8 : String := "ChanceSteps"
def TX8 : u_T := fun k => match k with
  | 0 => ("ChanceSteps", "tape", "[I", true)
  | 1 => ("ChanceSteps", "tapeSize", "I", false)
  | 2 => ("ChanceSteps", "programs", "[LChanceSteps$Program;", true)
  | 3 => ("ChanceSteps", "programCount", "I", false)
  | 4 => ("ChanceSteps", "start", "I", false)
  | 5 => ("ChanceSteps", "imageKept", "Z", false)
  | 6 => ("ChanceSteps", "imageStart", "I", false)
  | 7 => ("ChanceSteps", "imagePrograms", "I", false)
  | 8 => ("ChanceSteps", "sheets", "[LChanceSteps$Sheet;", true)
  | 9 => ("ChanceSteps", "reader", "LChanceSteps$Reader;", true)
  | 10 => ("ChanceSteps", "walker", "LChanceSteps$Walker;", true)
  | 11 => ("ChanceSteps", "firstRow", "[J", true)
  | _ => ("ChanceSteps", "secondRow", "[J", true)
def tyX8 : Nat → FieldType := fun k => match k with
  | 0 => .array .int
  | 1 => .int
  | 2 => .array (.object "ChanceSteps$Program")
  | 3 => .int
  | 4 => .int
  | 5 => .boolean
  | 6 => .int
  | 7 => .int
  | 8 => .array (.object "ChanceSteps$Sheet")
  | 9 => .object "ChanceSteps$Reader"
  | 10 => .object "ChanceSteps$Walker"
  | 11 => .array .long
  | _ => .array .long
theorem nmX8 : ∀ a, a < 13 → ∀ b, b < 13 → a ≠ b → (TX8 a).2.1 ≠ (TX8 b).2.1 := by decide +kernel
theorem tyX8_ok : ∀ k, k < 13 → parseFieldDescriptor (TX8 k).2.2.1 = some (tyX8 k) := by decide +kernel
def RX9 : String := "ChanceStepsModel$Odds"
def TX9 : u_T := fun k => match k with
  | 0 => ("ChanceStepsModel$Odds", "states", "[I", true)
  | 1 => ("ChanceStepsModel$Odds", "weights", "[J", true)
  | _ => ("ChanceStepsModel$Odds", "many", "I", false)
def tyX9 : Nat → FieldType := fun k => match k with
  | 0 => .array .int
  | 1 => .array .long
  | _ => .int
theorem nmX9 : ∀ a, a < 3 → ∀ b, b < 3 → a ≠ b → (TX9 a).2.1 ≠ (TX9 b).2.1 := by decide +kernel
theorem tyX9_ok : ∀ k, k < 3 → parseFieldDescriptor (TX9 k).2.2.1 = some (tyX9 k) := by decide +kernel
def RX10 : String := "ChanceStepsModel"
def TX10 : u_T := fun k => match k with
  | 0 => ("ChanceStepsModel", "programs", "I", false)
  | 1 => ("ChanceStepsModel", "sizes", "[I", true)
  | 2 => ("ChanceStepsModel", "bits", "[I", true)
  | 3 => ("ChanceStepsModel", "turns", "[I", true)
  | 4 => ("ChanceStepsModel", "kinds", "[[I", true)
  | 5 => ("ChanceStepsModel", "names", "[[I", true)
  | 6 => ("ChanceStepsModel", "numbers", "[[I", true)
  | 7 => ("ChanceStepsModel", "ends", "[[I", true)
  | 8 => ("ChanceStepsModel", "others", "[[I", true)
  | 9 => ("ChanceStepsModel", "tops", "[[I", true)
  | 10 => ("ChanceStepsModel", "firstLots", "[[I", true)
  | 11 => ("ChanceStepsModel", "lotValues", "[[I", true)
  | 12 => ("ChanceStepsModel", "lotWeights", "[[I", true)
  | 13 => ("ChanceStepsModel", "acts", "[[I", true)
  | 14 => ("ChanceStepsModel", "figures", "[[I", true)
  | 15 => ("ChanceStepsModel", "firsts", "[[I", true)
  | 16 => ("ChanceStepsModel", "seconds", "[[I", true)
  | 17 => ("ChanceStepsModel", "start", "[I", true)
  | 18 => ("ChanceStepsModel", "isTold", "[[Z", true)
  | 19 => ("ChanceStepsModel", "isWideSo", "[[Z", true)
  | 20 => ("ChanceStepsModel", "made", "[[[J", true)
  | 21 => ("ChanceStepsModel", "tape", "[I", true)
  | 22 => ("ChanceStepsModel", "taped", "I", false)
  | 23 => ("ChanceStepsModel", "at", "I", false)
  | 24 => ("ChanceStepsModel", "begin", "I", false)
  | 25 => ("ChanceStepsModel", "token", "I", false)
  | 26 => ("ChanceStepsModel", "value", "I", false)
  | 27 => ("ChanceStepsModel", "opened", "I", false)
  | 28 => ("ChanceStepsModel", "steps", "I", false)
  | 29 => ("ChanceStepsModel", "lots", "I", false)
  | 30 => ("ChanceStepsModel", "nodes", "I", false)
  | 31 => ("ChanceStepsModel", "isWrong", "Z", false)
  | 32 => ("ChanceStepsModel", "pool", "[LChanceStepsModel$Odds;", true)
  | 33 => ("ChanceStepsModel", "used", "I", false)
  | 34 => ("ChanceStepsModel", "isWide", "Z", false)
  | 35 => ("ChanceStepsModel", "peak", "I", false)
  | 36 => ("ChanceStepsModel", "z", "I", false)
  | 37 => ("ChanceStepsModel", "imagePrograms", "I", false)
  | 38 => ("ChanceStepsModel", "imageStart", "[I", true)
  | 39 => ("ChanceStepsModel", "sorts", "[I", true)
  | 40 => ("ChanceStepsModel", "lengths", "[I", true)
  | 41 => ("ChanceStepsModel", "items", "[[I", true)
  | _ => ("ChanceStepsModel", "passed", "[I", true)
def tyX10 : Nat → FieldType := fun k => match k with
  | 0 => .int
  | 1 => .array .int
  | 2 => .array .int
  | 3 => .array .int
  | 4 => .array (.array .int)
  | 5 => .array (.array .int)
  | 6 => .array (.array .int)
  | 7 => .array (.array .int)
  | 8 => .array (.array .int)
  | 9 => .array (.array .int)
  | 10 => .array (.array .int)
  | 11 => .array (.array .int)
  | 12 => .array (.array .int)
  | 13 => .array (.array .int)
  | 14 => .array (.array .int)
  | 15 => .array (.array .int)
  | 16 => .array (.array .int)
  | 17 => .array .int
  | 18 => .array (.array .boolean)
  | 19 => .array (.array .boolean)
  | 20 => .array (.array (.array .long))
  | 21 => .array .int
  | 22 => .int
  | 23 => .int
  | 24 => .int
  | 25 => .int
  | 26 => .int
  | 27 => .int
  | 28 => .int
  | 29 => .int
  | 30 => .int
  | 31 => .boolean
  | 32 => .array (.object "ChanceStepsModel$Odds")
  | 33 => .int
  | 34 => .boolean
  | 35 => .int
  | 36 => .int
  | 37 => .int
  | 38 => .array .int
  | 39 => .array .int
  | 40 => .array .int
  | 41 => .array (.array .int)
  | _ => .array .int
theorem nmX10 : ∀ a, a < 43 → ∀ b, b < 43 → a ≠ b → (TX10 a).2.1 ≠ (TX10 b).2.1 := by decide +kernel
theorem tyX10_ok : ∀ k, k < 43 → parseFieldDescriptor (TX10 k).2.2.1 = some (tyX10 k) := by decide +kernel
abbrev vwCl : List vw_C := [(RX0, TX0, 4), (RX1, TX1, 5), (RX2, TX2, 16), (RX3, TX3, 9), (RX4, TX4, 3), (RX5, TX5, 3), (RX6, TX6, 14), (RX7, TX7, 4), (RX8, TX8, 13), (RX9, TX9, 3), (RX10, TX10, 43)]
end
section
/-! THE J LAYER (own work): a method's world as a map from addresses to cells, its frame as a list of locals and a stack; a block of plain instructions is run by evaluation. -/
/-- a cell: an array (class number, contents), or an object (place of its class, its fields by their places) -/
abbrev jEl : Type := (ClassId × vp_A) ⊕ (Nat × (Nat → Value))
def jat (D : va_G) (a : Nat) (e : jEl) (H : Heap) : Prop := match e with
  | .inl x => H[a]? = some (vp_cell x.1 x.2)
  | .inr o => ∃ r : vw_C, vwCl[o.1]? = some r ∧ t_OB a (D.1 o.1) r.2.2 (D.2 o.1) H o.2
theorem jat.kept {D : va_G} {a : Nat} {e : jEl} {H H1 : Heap} (h : jat D a e H) (hq : H1[a]? = H[a]?) : jat D a e H1 := by
  cases e with
  | inl x => exact hq.trans h
  | inr o =>
    obtain ⟨r, h1, h2⟩ := h
    exact ⟨r, h1, h2.kept hq⟩
theorem jat.lt {D : va_G} {a : Nat} {e : jEl} {H : Heap} (h : jat D a e H) : a < H.size := by
  cases e with
  | inl x => exact (Array.getElem?_eq_some_iff.mp h).1
  | inr o =>
    obtain ⟨r, h1, cell, h2, -⟩ := h
    exact (Array.getElem?_eq_some_iff.mp h2).1
abbrev jM : Type := Nat → Option jEl
abbrev jW : Type := jM × Nat × Nat
def jsum (H : Heap) (B : Nat) : Nat := ((H.toList.drop B).map (·.slots.size)).sum
def jH (D : va_G) (B : Nat) (H0 : Heap) (w : jW) (H : Heap) : Prop :=
  H.size = B + w.2.1 ∧ jsum H B = w.2.2 ∧ (∀ q, q < B → H[q]? = H0[q]?) ∧ ∀ a e, w.1 a = some e → B ≤ a ∧ jat D a e H
theorem jH.at {D : va_G} {B : Nat} {H0 : Heap} {w : jW} {H : Heap} (h : jH D B H0 w H) {a : Nat} {e : jEl} (ha : w.1 a = some e) : jat D a e H := (h.2.2.2 a e ha).2
theorem jH.le {D : va_G} {B : Nat} {H0 : Heap} {w : jW} {H : Heap} (h : jH D B H0 w H) {a : Nat} {e : jEl} (ha : w.1 a = some e) : B ≤ a := (h.2.2.2 a e ha).1
theorem jsum_set {H H1 : Heap} {B a : Nat} {c c1 : Cell} (hs : H1.size = H.size) (h : H[a]? = some c) (h1 : H1[a]? = some c1) (hc : c1.slots.size = c.slots.size) (oq : ∀ q, q ≠ a → H1[q]? = H[q]?) : jsum H1 B = jsum H B := by
  unfold jsum
  congr 1
  apply List.ext_getElem?
  intro i
  rw [List.getElem?_map, List.getElem?_map, List.getElem?_drop, List.getElem?_drop, Array.getElem?_toList, Array.getElem?_toList]
  by_cases e : B + i = a
  · rw [e, h, h1]
    simp [hc]
  · rw [oq _ e]
theorem jH.set {D : va_G} {B : Nat} {H0 : Heap} {w : jW} {H H1 : Heap} (h : jH D B H0 w H) {a : Nat} {e0 e : jEl} (ha : w.1 a = some e0) {c c1 : Cell} (hs : H1.size = H.size) (hc0 : H[a]? = some c) (h1 : H1[a]? = some c1) (hc : c1.slots.size = c.slots.size) (oq : ∀ q, q ≠ a → H1[q]? = H[q]?) (he : jat D a e H1) : jH D B H0 (va_up w.1 a (some e), w.2) H1 := by
  have hB := h.le ha
  refine ⟨by rw [hs]; exact h.1, by rw [jsum_set hs hc0 h1 hc oq]; exact h.2.1, fun q hq => by rw [oq q (by omega)]; exact h.2.2.1 q hq, fun b f hb => ?_⟩
  by_cases hba : b = a
  · subst hba
    simp only [va_up, if_true] at hb
    cases hb
    exact ⟨hB, he⟩
  · simp only [va_up, if_neg hba] at hb
    exact ⟨h.le hb, (h.at hb).kept (oq b hba)⟩
theorem jsum_push {H H1 : Heap} {B : Nat} {c : Cell} (hB : B ≤ H.size) (hs : H1 = H.push c) : jsum H1 B = jsum H B + c.slots.size := by
  subst hs
  unfold jsum
  rw [Array.toList_push, List.drop_append_of_le_length (by simpa using hB)]
  simp
theorem jH.push {D : va_G} {B : Nat} {H0 : Heap} {w : jW} {H : Heap} (h : jH D B H0 w H) {c : Cell} {e : jEl} (he : jat D H.size e (H.push c)) : jH D B H0 (va_up w.1 H.size (some e), w.2.1 + 1, w.2.2 + c.slots.size) (H.push c) := by
  have hB : B ≤ H.size := by rw [h.1]; omega
  refine ⟨by rw [Array.size_push, h.1]; show _ = B + (w.2.1 + 1); omega, by rw [jsum_push hB rfl, h.2.1], fun q hq => by rw [Array.getElem?_push, if_neg (by omega)]; exact h.2.2.1 q hq, fun b f hb => ?_⟩
  by_cases hba : b = H.size
  · subst hba
    simp only [va_up, if_true] at hb
    cases hb
    exact ⟨hB, he⟩
  · simp only [va_up, if_neg hba] at hb
    refine ⟨h.le hb, (h.at hb).kept ?_⟩
    have := (h.at hb).lt
    rw [Array.getElem?_push, if_neg hba]
theorem jH.fresh {D : va_G} {B : Nat} {H0 : Heap} {w : jW} {H : Heap} (h : jH D B H0 w H) : ∀ a e, w.1 a = some e → a < H.size := fun _ _ ha => (h.at ha).lt
/-- the tables' words that a callee inherits -/
def jwd : List Cond := lw_tbl.filter goodWord
theorem jmem {w : Cond} (i : Nat) (h : lw_tbl[i]? = some w) (hg : goodWord w = true) : w ∈ jwd := List.mem_filter.mpr ⟨List.mem_of_getElem? h, hg⟩
/-- words between nest mates -/
def jnw : Cond → Bool
  | .fieldLinkNest .. => true
  | .methodLinkNest .. => true
  | _ => false
def jnest : List Cond := lw_tbl.filter jnw
theorem jmemN {w : Cond} (i : Nat) (h : lw_tbl[i]? = some w) (hg : jnw w = true) : w ∈ jnest := List.mem_filter.mpr ⟨List.mem_of_getElem? h, hg⟩
def jAT : List FieldType := [.int, .long, .boolean, .array .int, .array .boolean, .array .long, .array (.array .long), .object "ChanceSteps$Crowd", .object "ChanceSteps$Program", .object "ChanceSteps$Sheet", .object "ChanceSteps$Step", .object "ChanceStepsModel$Odds"]
/-- the array class over a type, and its component -/
def jcn : FieldType → String
  | .object C => C
  | t => t.toString
def jA (U : State) (cA : ClassId) (ty : FieldType) : Prop := ∃ (kA : Class) (comp : ClassId), U.vm.classes[cA]? = some kA ∧ kA.kind = .array comp ty ∧ U.vm.findClass ("[" ++ ty.toString) = some cA ∧ (ty.isReference = true → U.vm.findClass (jcn ty) = some comp)
theorem jA.moved {u U : State} (hvm : u.vm.Alike U.vm) {cA : ClassId} {ty : FieldType} (h : jA u cA ty) : jA U cA ty := by
  obtain ⟨kA, comp, h1, h2, h3, h4⟩ := h
  obtain ⟨k', hk', he⟩ := hvm.2.2 _ _ h1
  exact ⟨k', comp, hk', by rw [he]; exact h2, by rw [hvm.findClass]; exact h3, fun hr => by rw [hvm.findClass]; exact h4 hr⟩
theorem jA.arr {U : State} {cA : ClassId} {ty : FieldType} (h : jA U cA ty) : ArrOfT U cA ty := by
  obtain ⟨kA, comp, h1, h2, -⟩ := h
  exact fun N z => ⟨(fun k h => by cases h), kA, h1, comp, h2⟩
def jAO : List String := ["ChanceSteps$Crowd", "ChanceSteps$Program", "ChanceSteps$Sheet", "ChanceSteps$Step", "ChanceStepsModel$Odds"]
def jK (D : va_G) (U : State) : Prop :=
  (∀ (c : Nat) (q : vw_C), vwCl[c]? = some q → u_Kn U q.1 q.2.1 q.2.2 (D.1 c) (D.2 c)) ∧
  (∀ (k : Nat) (ty : FieldType), jAT[k]? = some ty → jA U (D.1 (100 + k)) ty) ∧
  (∀ C ∈ jAO, va_AO C U) ∧ ∀ w ∈ jnest, w.before #[] U = true
end
section
/-! THE J LAYER: the judgement and the block runner (own work) -/
theorem jnest_warm {s U : State} (hW : s.WarmedH U.vm) {w : Cond} (hw : w ∈ jnest) (h : w.before #[] s = true) : w.before #[] U = true := by
  have h1 := (List.mem_filter.mp hw).2
  cases w with
  | fieldLinkNest a i b n d h2 => exact va_Nw.warmF hW h
  | methodLinkNest a i x h2 => exact va_Nw.warmM hW h
  | _ => simp [jnw] at h1
theorem jK.moved {D : va_G} {s U : State} (hW : s.WarmedH U.vm) (h : jK D s) : jK D U := by
  have hvm := hW.alike
  obtain ⟨h1, h2, h3, h4⟩ := h
  exact ⟨fun c q hq => u_Kn_moved hvm (h1 c q hq), fun k ty hk => (h2 k ty hk).moved hvm, fun C hC => (h3 C hC).moved hvm, fun w hw => jnest_warm hW hw (h4 w hw)⟩

/-- what is fixed within a method: program, launch, outside, room, entry state, method, arguments, frames below, method record, code, class numbers, base, the heap at the base, counts at the entry, number of locals, the goal, the bytes, the method's name -/
abbrev jG : Type := Program × Launch × Env × Room × State × MethodId × Array Value × List Frame × Method × Code × va_G × Nat × Heap × Nat × Nat × Nat × (State → Prop) × ByteArray × MethodName
abbrev jGp (g : jG) : Program := g.1
abbrev jGl (g : jG) : Launch := g.2.1
abbrev jGe (g : jG) : Env := g.2.2.1
abbrev jGR (g : jG) : Room := g.2.2.2.1
abbrev jGs (g : jG) : State := g.2.2.2.2.1
abbrev jGm (g : jG) : MethodId := g.2.2.2.2.2.1
abbrev jGa (g : jG) : Array Value := g.2.2.2.2.2.2.1
abbrev jGb (g : jG) : List Frame := g.2.2.2.2.2.2.2.1
abbrev jGt (g : jG) : Method := g.2.2.2.2.2.2.2.2.1
abbrev jGc (g : jG) : Code := g.2.2.2.2.2.2.2.2.2.1
abbrev jGD (g : jG) : va_G := g.2.2.2.2.2.2.2.2.2.2.1
abbrev jGB (g : jG) : Nat := g.2.2.2.2.2.2.2.2.2.2.2.1
abbrev jGH (g : jG) : Heap := g.2.2.2.2.2.2.2.2.2.2.2.2.1
abbrev jGk (g : jG) : Nat := g.2.2.2.2.2.2.2.2.2.2.2.2.2.1
abbrev jGn (g : jG) : Nat := g.2.2.2.2.2.2.2.2.2.2.2.2.2.2.1
abbrev jGL (g : jG) : Nat := g.2.2.2.2.2.2.2.2.2.2.2.2.2.2.2.1
abbrev jGQ (g : jG) : State → Prop := g.2.2.2.2.2.2.2.2.2.2.2.2.2.2.2.2.1
abbrev jGo (g : jG) : ByteArray := g.2.2.2.2.2.2.2.2.2.2.2.2.2.2.2.2.2.1
abbrev jGy (g : jG) : MethodName := g.2.2.2.2.2.2.2.2.2.2.2.2.2.2.2.2.2.2
/-- what holds of it -/
def jC (g : jG) : Prop := (jGp g).tables.exec = Jvm.exec ∧ (jGc g).code = jGo g ∧ (jGc g).maxLocals = jGL g ∧ (jGs g).vm.findClass (jGy g).cls = some (jGm g).cls ∧ (∀ w ∈ jwd, w.before (jGa g) (jGs g) = true) ∧ jK (jGD g) (jGs g) ∧ (jGt g).name = (jGy g).name ∧ (jGt g).locks = false ∧ ∃ M0, jH (jGD g) (jGB g) (jGH g) (M0, jGk g, jGn g) (jGs g).heap
/-- THE JUDGEMENT: with the world w, at pc, with these locals and this stack, the goal is reached -/
def JJ (g : jG) (w : jW) (pc : Nat) (L : List (Nat × Value)) (st : List Value) : Prop :=
  ∀ (H : Heap) (locs : List Loc) (ls : Array Slot), jH (jGD g) (jGB g) (jGH g) w H → jGk g ≤ w.2.1 → jGn g ≤ w.2.2 → (∀ q ∈ locs, jGB g ≤ q.base) → lv_has ls (jGL g) L →
    W (jGp g) (jGl g) (jGe g) (jGR g) (jGs g) (jGm g) (jGa g) (jGb g) (jGt g) (jGc g) H locs (w.2.1 - jGk g) (w.2.2 - jGn g) (jGQ g) (F0 (jGm g) pc ls st)
theorem JJ.sub {g : jG} {w : jW} {pc : Nat} {L L' : List (Nat × Value)} {st : List Value} (ks : List Nat) (h : lv_pick L ks = L') (k : JJ g w pc L' st) : JJ g w pc L st :=
  fun H locs ls h1 h2 h3 h4 h5 => k H locs ls h1 h2 h3 h4 (lv_sub h5 ks h)
/-- fewer locals, in any order, each by a look-up -/
def jlk : List (Nat × Value) → Nat → Option Value
  | [], _ => none
  | q :: l, i => match Nat.beq q.1 i with
    | true => some q.2
    | false => jlk l i
theorem jlk_mem {l : List (Nat × Value)} {i : Nat} {v : Value} (h : jlk l i = some v) : (i, v) ∈ l := by
  induction l with
  | nil => cases h
  | cons q l ih =>
    unfold jlk at h
    split at h
    · rename_i hb
      have := Nat.eq_of_beq_eq_true hb
      cases h
      rw [← this]
      exact List.mem_cons_self
    · exact List.mem_cons_of_mem _ (ih h)
theorem jlk_at {ls : Array Slot} {nL : Nat} {l : List (Nat × Value)} {i : Nat} {v : Value} (h : lv_has ls nL l) (hk : jlk l i = some v) : ls[i]? = some (.val v) := h.2.2 (i, v) (jlk_mem hk)
def jall (L : List (Nat × Value)) : List (Nat × Value) → Prop
  | [] => True
  | q :: l => jlk L q.1 = some q.2 ∧ jall L l
theorem jall_has {ls : Array Slot} {nL : Nat} {L L' : List (Nat × Value)} (h : lv_has ls nL L) (ha : jall L L') : lv_has ls nL L' := by
  refine ⟨h.1, h.2.1, ?_⟩
  induction L' with
  | nil => intro q hq; cases hq
  | cons q l ih =>
    intro q' hq'
    rcases List.mem_cons.mp hq' with rfl | h1
    · exact jlk_at h ha.1
    · exact ih ha.2 q' h1
theorem JJ.loc {g : jG} {w : jW} {pc : Nat} {L : List (Nat × Value)} (L' : List (Nat × Value)) {st : List Value} (h : jall L L') (k : JJ g w pc L' st) : JJ g w pc L st :=
  fun H locs ls h1 h2 h3 h4 h5 => k H locs ls h1 h2 h3 h4 (jall_has h5 h)
end
section
/-! THE J LAYER: plain instructions, and blocks of them by evaluation (own work) -/
/-- the locals behind a store -/
def jst (L : List (Nat × Value)) (i : Nat) (v : Value) : List (Nat × Value) := (i, v) :: L.filter (fun q => !(q.1 == i) && !(q.1 + 1 == i && q.2.category == 2))
def jst2 (L : List (Nat × Value)) (i : Nat) (v : Value) : List (Nat × Value) := (i, v) :: L.filter (fun q => !(q.1 == i) && (!(q.1 == i + 1) && !(q.1 + 1 == i && q.2.category == 2)))
section J1
variable {g : jG} {w : jW} {pc : Nat} {L : List (Nat × Value)} {st : List Value}

theorem j1_iconst (C : jC g) {n : Int} {v : Value} (hd : decode (jGo g) pc = .ok (.iconst n, 1)) (hv : Value.int (Int32.ofInt n) = v) (kk : JJ g w (pc + 1) L (v :: st)) : JJ g w pc L st := fun H locs ls h1 h2 h3 h4 h5 => lv_iconst C.1 C.2.1 hd rfl (by rw [← hv] at kk; exact kk H locs ls h1 h2 h3 h4 h5)
theorem j1_bipush (C : jC g) {n : Int} {v : Value} (hd : decode (jGo g) pc = .ok (.bipush n, 2)) (hv : Value.int (Int8.ofInt n).toInt32 = v) (kk : JJ g w (pc + 2) L (v :: st)) : JJ g w pc L st := fun H locs ls h1 h2 h3 h4 h5 => lv_bipush C.1 C.2.1 hd rfl (by rw [← hv] at kk; exact kk H locs ls h1 h2 h3 h4 h5)
theorem j1_sipush (C : jC g) {n : Int} {v : Value} (hd : decode (jGo g) pc = .ok (.sipush n, 3)) (hv : Value.int (Int16.ofInt n).toInt32 = v) (kk : JJ g w (pc + 3) L (v :: st)) : JJ g w pc L st := fun H locs ls h1 h2 h3 h4 h5 => lv_sipush C.1 C.2.1 hd rfl (by rw [← hv] at kk; exact kk H locs ls h1 h2 h3 h4 h5)
theorem j1_lconst (C : jC g) {n : Fin 2} {v : Value} (hd : decode (jGo g) pc = .ok (.lconst n, 1)) (hv : Value.long (Int64.ofNat (n : Nat)) = v) (kk : JJ g w (pc + 1) L (v :: st)) : JJ g w pc L st := fun H locs ls h1 h2 h3 h4 h5 => lv_lconst C.1 C.2.1 hd rfl (by rw [← hv] at kk; exact kk H locs ls h1 h2 h3 h4 h5)
theorem j1_aconst_null (C : jC g) (hd : decode (jGo g) pc = .ok (.aconst_null, 1)) (kk : JJ g w (pc + 1) L (.null :: st)) : JJ g w pc L st := fun H locs ls h1 h2 h3 h4 h5 => lv_null C.1 C.2.1 hd (kk H locs ls h1 h2 h3 h4 h5)
theorem j1_iload (C : jC g) {k : Nat} {x : Int32} (hd : decode (jGo g) pc = .ok (.iload k, 2)) (hl : jlk L k = some (.int x)) (kk : JJ g w (pc + 2) L (.int x :: st)) : JJ g w pc L st := fun H locs ls h1 h2 h3 h4 h5 => lv_iload C.1 C.2.1 hd (jlk_at h5 hl) (kk H locs ls h1 h2 h3 h4 h5)
theorem j1_iload_n (C : jC g) {k : Fin 4} {x : Int32} (hd : decode (jGo g) pc = .ok (.iload_n k, 1)) (hl : jlk L k.1 = some (.int x)) (kk : JJ g w (pc + 1) L (.int x :: st)) : JJ g w pc L st := fun H locs ls h1 h2 h3 h4 h5 => lv_iload_n C.1 C.2.1 hd rfl (jlk_at h5 hl) (kk H locs ls h1 h2 h3 h4 h5)
theorem j1_lload (C : jC g) {k : Nat} {x : Int64} (hd : decode (jGo g) pc = .ok (.lload k, 2)) (hl : jlk L k = some (.long x)) (kk : JJ g w (pc + 2) L (.long x :: st)) : JJ g w pc L st := fun H locs ls h1 h2 h3 h4 h5 => lv_lload C.1 C.2.1 hd (jlk_at h5 hl) (kk H locs ls h1 h2 h3 h4 h5)
theorem j1_lload_n (C : jC g) {k : Fin 4} {x : Int64} (hd : decode (jGo g) pc = .ok (.lload_n k, 1)) (hl : jlk L k.1 = some (.long x)) (kk : JJ g w (pc + 1) L (.long x :: st)) : JJ g w pc L st := fun H locs ls h1 h2 h3 h4 h5 => lv_lload_n C.1 C.2.1 hd rfl (jlk_at h5 hl) (kk H locs ls h1 h2 h3 h4 h5)
theorem j1_aload (C : jC g) {k : Nat} {x : Nat} (hd : decode (jGo g) pc = .ok (.aload k, 2)) (hl : jlk L k = some (.ref x)) (kk : JJ g w (pc + 2) L (.ref x :: st)) : JJ g w pc L st := fun H locs ls h1 h2 h3 h4 h5 => lv_aload C.1 C.2.1 hd (jlk_at h5 hl) (kk H locs ls h1 h2 h3 h4 h5)
theorem j1_aload_n (C : jC g) {k : Fin 4} {x : Nat} (hd : decode (jGo g) pc = .ok (.aload_n k, 1)) (hl : jlk L k.1 = some (.ref x)) (kk : JJ g w (pc + 1) L (.ref x :: st)) : JJ g w pc L st := fun H locs ls h1 h2 h3 h4 h5 => lv_aload_n C.1 C.2.1 hd rfl (jlk_at h5 hl) (kk H locs ls h1 h2 h3 h4 h5)
theorem j1_aloadN (C : jC g) {k : Nat} (hd : decode (jGo g) pc = .ok (.aload k, 2)) (hl : jlk L k = some .null) (kk : JJ g w (pc + 2) L (.null :: st)) : JJ g w pc L st := fun H locs ls h1 h2 h3 h4 h5 => lv_aloadN C.1 C.2.1 hd (jlk_at h5 hl) (kk H locs ls h1 h2 h3 h4 h5)
theorem j1_aload_nN (C : jC g) {k : Fin 4} (hd : decode (jGo g) pc = .ok (.aload_n k, 1)) (hl : jlk L k.1 = some .null) (kk : JJ g w (pc + 1) L (.null :: st)) : JJ g w pc L st := fun H locs ls h1 h2 h3 h4 h5 => lv_aload_nN C.1 C.2.1 hd rfl (jlk_at h5 hl) (kk H locs ls h1 h2 h3 h4 h5)
theorem j1_istore (C : jC g) {nL k : Nat} {x : Int32} (hn : jGL g = nL) (hd : decode (jGo g) pc = .ok (.istore k, 2)) (hk : k < nL) (kk : JJ g w (pc + 2) (jst L k (.int x)) st) : JJ g w pc L (.int x :: st) := fun H locs ls h1 h2 h3 h4 h5 => lv_istore C.1 C.2.1 hd h5 (by rw [hn]; exact hk) rfl (fun ls9 h9 => kk H locs ls9 h1 h2 h3 h4 h9)
theorem j1_istore_n (C : jC g) {nL : Nat} {k : Fin 4} {x : Int32} (hn : jGL g = nL) (hd : decode (jGo g) pc = .ok (.istore_n k, 1)) (hk : k.1 < nL) (kk : JJ g w (pc + 1) (jst L k.1 (.int x)) st) : JJ g w pc L (.int x :: st) := fun H locs ls h1 h2 h3 h4 h5 => lv_istore_n C.1 C.2.1 hd rfl h5 (by rw [hn]; exact hk) rfl (fun ls9 h9 => kk H locs ls9 h1 h2 h3 h4 h9)
theorem j1_astore (C : jC g) {nL k : Nat} {x : Nat} (hn : jGL g = nL) (hd : decode (jGo g) pc = .ok (.astore k, 2)) (hk : k < nL) (kk : JJ g w (pc + 2) (jst L k (.ref x)) st) : JJ g w pc L (.ref x :: st) := fun H locs ls h1 h2 h3 h4 h5 => lv_astore C.1 C.2.1 hd h5 (by rw [hn]; exact hk) rfl (fun ls9 h9 => kk H locs ls9 h1 h2 h3 h4 h9)
theorem j1_astore_n (C : jC g) {nL : Nat} {k : Fin 4} {x : Nat} (hn : jGL g = nL) (hd : decode (jGo g) pc = .ok (.astore_n k, 1)) (hk : k.1 < nL) (kk : JJ g w (pc + 1) (jst L k.1 (.ref x)) st) : JJ g w pc L (.ref x :: st) := fun H locs ls h1 h2 h3 h4 h5 => lv_astore_n C.1 C.2.1 hd rfl h5 (by rw [hn]; exact hk) rfl (fun ls9 h9 => kk H locs ls9 h1 h2 h3 h4 h9)
theorem j1_lstore (C : jC g) {nL k : Nat} {x : Int64} (hn : jGL g = nL) (hd : decode (jGo g) pc = .ok (.lstore k, 2)) (hk : k + 1 < nL) (kk : JJ g w (pc + 2) (jst2 L k (.long x)) st) : JJ g w pc L (.long x :: st) := fun H locs ls h1 h2 h3 h4 h5 => lv_lstore C.1 C.2.1 hd h5 (by rw [hn]; exact hk) rfl (fun ls9 h9 => kk H locs ls9 h1 h2 h3 h4 h9)
theorem j1_lstore_n (C : jC g) {nL : Nat} {k : Fin 4} {x : Int64} (hn : jGL g = nL) (hd : decode (jGo g) pc = .ok (.lstore_n k, 1)) (hk : k.1 + 1 < nL) (kk : JJ g w (pc + 1) (jst2 L k.1 (.long x)) st) : JJ g w pc L (.long x :: st) := fun H locs ls h1 h2 h3 h4 h5 => lv_lstore_n C.1 C.2.1 hd rfl h5 (by rw [hn]; exact hk) rfl (fun ls9 h9 => kk H locs ls9 h1 h2 h3 h4 h9)
theorem j1_astoreN (C : jC g) {nL k : Nat} (hn : jGL g = nL) (hd : decode (jGo g) pc = .ok (.astore k, 2)) (hk : k < nL) (kk : JJ g w (pc + 2) (jst L k .null) st) : JJ g w pc L (.null :: st) := fun H locs ls h1 h2 h3 h4 h5 => lv_astoreN C.1 C.2.1 hd h5 (by rw [hn]; exact hk) rfl (fun ls9 h9 => kk H locs ls9 h1 h2 h3 h4 h9)
theorem j1_astore_nN (C : jC g) {nL : Nat} {k : Fin 4} (hn : jGL g = nL) (hd : decode (jGo g) pc = .ok (.astore_n k, 1)) (hk : k.1 < nL) (kk : JJ g w (pc + 1) (jst L k.1 .null) st) : JJ g w pc L (.null :: st) := fun H locs ls h1 h2 h3 h4 h5 => lv_astore_nN C.1 C.2.1 hd rfl h5 (by rw [hn]; exact hk) rfl (fun ls9 h9 => kk H locs ls9 h1 h2 h3 h4 h9)
theorem j1_iinc (C : jC g) {nL k : Nat} {n : Int} {x c : Int32} (hn : jGL g = nL) (hd : decode (jGo g) pc = .ok (.iinc k n, 3)) (hc : Int32.ofInt n = c) (hk : k < nL) (hl : jlk L k = some (.int x)) (kk : JJ g w (pc + 3) (jst L k (.int (x + c))) st) : JJ g w pc L st := by
  intro H locs ls h1 h2 h3 h4 h5
  obtain ⟨i, hi⟩ := List.getElem?_of_mem (jlk_mem hl)
  exact lv_iinc C.1 C.2.1 hd h5 hi (by rw [hc]) (by rw [hn]; exact hk) rfl (fun ls9 h9 => kk H locs ls9 h1 h2 h3 h4 h9)
theorem j1_iadd (C : jC g) {x y : Int32} (hd : decode (jGo g) pc = .ok (.iadd, 1)) (kk : JJ g w (pc + 1) L (.int (x + y) :: st)) : JJ g w pc L (.int y :: .int x :: st) := fun H locs ls h1 h2 h3 h4 h5 => lv_iadd C.1 C.2.1 hd (kk H locs ls h1 h2 h3 h4 h5)
theorem j1_isub (C : jC g) {x y : Int32} (hd : decode (jGo g) pc = .ok (.isub, 1)) (kk : JJ g w (pc + 1) L (.int (x - y) :: st)) : JJ g w pc L (.int y :: .int x :: st) := fun H locs ls h1 h2 h3 h4 h5 => lv_isub C.1 C.2.1 hd (kk H locs ls h1 h2 h3 h4 h5)
theorem j1_imul (C : jC g) {x y : Int32} (hd : decode (jGo g) pc = .ok (.imul, 1)) (kk : JJ g w (pc + 1) L (.int (x * y) :: st)) : JJ g w pc L (.int y :: .int x :: st) := fun H locs ls h1 h2 h3 h4 h5 => lv_imul C.1 C.2.1 hd (kk H locs ls h1 h2 h3 h4 h5)
theorem j1_iand (C : jC g) {x y : Int32} (hd : decode (jGo g) pc = .ok (.iand, 1)) (kk : JJ g w (pc + 1) L (.int (x &&& y) :: st)) : JJ g w pc L (.int y :: .int x :: st) := fun H locs ls h1 h2 h3 h4 h5 => lv_iand C.1 C.2.1 hd (kk H locs ls h1 h2 h3 h4 h5)
theorem j1_ior (C : jC g) {x y : Int32} (hd : decode (jGo g) pc = .ok (.ior, 1)) (kk : JJ g w (pc + 1) L (.int (x ||| y) :: st)) : JJ g w pc L (.int y :: .int x :: st) := fun H locs ls h1 h2 h3 h4 h5 => lv_ior C.1 C.2.1 hd (kk H locs ls h1 h2 h3 h4 h5)
theorem j1_ixor (C : jC g) {x y : Int32} (hd : decode (jGo g) pc = .ok (.ixor, 1)) (kk : JJ g w (pc + 1) L (.int (x ^^^ y) :: st)) : JJ g w pc L (.int y :: .int x :: st) := fun H locs ls h1 h2 h3 h4 h5 => lv_ixor C.1 C.2.1 hd (kk H locs ls h1 h2 h3 h4 h5)
theorem j1_ishl (C : jC g) {x y : Int32} (hd : decode (jGo g) pc = .ok (.ishl, 1)) (kk : JJ g w (pc + 1) L (.int (x <<< (y &&& 31)) :: st)) : JJ g w pc L (.int y :: .int x :: st) := fun H locs ls h1 h2 h3 h4 h5 => lv_ishl C.1 C.2.1 hd (kk H locs ls h1 h2 h3 h4 h5)
theorem j1_ishr (C : jC g) {x y : Int32} (hd : decode (jGo g) pc = .ok (.ishr, 1)) (kk : JJ g w (pc + 1) L (.int (x >>> (y &&& 31)) :: st)) : JJ g w pc L (.int y :: .int x :: st) := fun H locs ls h1 h2 h3 h4 h5 => lv_ishr C.1 C.2.1 hd (kk H locs ls h1 h2 h3 h4 h5)
theorem j1_iushr (C : jC g) {x y : Int32} (hd : decode (jGo g) pc = .ok (.iushr, 1)) (kk : JJ g w (pc + 1) L (.int (x.toUInt32 >>> (y.toUInt32 &&& Int32.toUInt32 31)).toInt32 :: st)) : JJ g w pc L (.int y :: .int x :: st) := fun H locs ls h1 h2 h3 h4 h5 => lv_iushr C.1 C.2.1 hd rfl (kk H locs ls h1 h2 h3 h4 h5)
theorem j1_ineg (C : jC g) {x : Int32} (hd : decode (jGo g) pc = .ok (.ineg, 1)) (kk : JJ g w (pc + 1) L (.int (-x) :: st)) : JJ g w pc L (.int x :: st) := fun H locs ls h1 h2 h3 h4 h5 => lv_ineg C.1 C.2.1 hd (kk H locs ls h1 h2 h3 h4 h5)
theorem j1_ladd (C : jC g) {x y : Int64} (hd : decode (jGo g) pc = .ok (.ladd, 1)) (kk : JJ g w (pc + 1) L (.long (x + y) :: st)) : JJ g w pc L (.long y :: .long x :: st) := fun H locs ls h1 h2 h3 h4 h5 => lv_ladd C.1 C.2.1 hd (kk H locs ls h1 h2 h3 h4 h5)
theorem j1_lsub (C : jC g) {x y : Int64} (hd : decode (jGo g) pc = .ok (.lsub, 1)) (kk : JJ g w (pc + 1) L (.long (x - y) :: st)) : JJ g w pc L (.long y :: .long x :: st) := fun H locs ls h1 h2 h3 h4 h5 => lv_lsub C.1 C.2.1 hd (kk H locs ls h1 h2 h3 h4 h5)
theorem j1_lmul (C : jC g) {x y : Int64} (hd : decode (jGo g) pc = .ok (.lmul, 1)) (kk : JJ g w (pc + 1) L (.long (x * y) :: st)) : JJ g w pc L (.long y :: .long x :: st) := fun H locs ls h1 h2 h3 h4 h5 => lv_lmul C.1 C.2.1 hd (kk H locs ls h1 h2 h3 h4 h5)
theorem j1_land (C : jC g) {x y : Int64} (hd : decode (jGo g) pc = .ok (.land, 1)) (kk : JJ g w (pc + 1) L (.long (x &&& y) :: st)) : JJ g w pc L (.long y :: .long x :: st) := fun H locs ls h1 h2 h3 h4 h5 => lv_land C.1 C.2.1 hd (kk H locs ls h1 h2 h3 h4 h5)
theorem j1_lshr (C : jC g) {x : Int64} {y : Int32} (hd : decode (jGo g) pc = .ok (.lshr, 1)) (kk : JJ g w (pc + 1) L (.long (x >>> (y.toInt64 &&& 63)) :: st)) : JJ g w pc L (.int y :: .long x :: st) := fun H locs ls h1 h2 h3 h4 h5 => lv_lshr C.1 C.2.1 hd rfl (kk H locs ls h1 h2 h3 h4 h5)
theorem j1_i2l (C : jC g) {x : Int32} (hd : decode (jGo g) pc = .ok (.i2l, 1)) (kk : JJ g w (pc + 1) L (.long x.toInt64 :: st)) : JJ g w pc L (.int x :: st) := fun H locs ls h1 h2 h3 h4 h5 => lv_i2l C.1 C.2.1 hd rfl (kk H locs ls h1 h2 h3 h4 h5)
theorem j1_l2i (C : jC g) {x : Int64} (hd : decode (jGo g) pc = .ok (.l2i, 1)) (kk : JJ g w (pc + 1) L (.int x.toInt32 :: st)) : JJ g w pc L (.long x :: st) := fun H locs ls h1 h2 h3 h4 h5 => lv_l2i C.1 C.2.1 hd rfl (kk H locs ls h1 h2 h3 h4 h5)
theorem j1_i2b (C : jC g) {x : Int32} (hd : decode (jGo g) pc = .ok (.i2b, 1)) (kk : JJ g w (pc + 1) L (.int x.toInt8.toInt32 :: st)) : JJ g w pc L (.int x :: st) := fun H locs ls h1 h2 h3 h4 h5 => lv_i2b C.1 C.2.1 hd rfl (kk H locs ls h1 h2 h3 h4 h5)
theorem j1_dup (C : jC g) {v : Value} (hd : decode (jGo g) pc = .ok (.dup, 1)) (hv : v.category = 1) (kk : JJ g w (pc + 1) L (v :: v :: st)) : JJ g w pc L (v :: st) := fun H locs ls h1 h2 h3 h4 h5 => lv_dup C.1 C.2.1 hd hv (kk H locs ls h1 h2 h3 h4 h5)
theorem j1_dup2 (C : jC g) {v u : Value} (hd : decode (jGo g) pc = .ok (.dup2, 1)) (hv : v.category = 1) (hu : u.category = 1) (kk : JJ g w (pc + 1) L (v :: u :: v :: u :: st)) : JJ g w pc L (v :: u :: st) := fun H locs ls h1 h2 h3 h4 h5 => lv_dup2_11 C.1 C.2.1 hd hv hu (kk H locs ls h1 h2 h3 h4 h5)
theorem j1_pop (C : jC g) {v : Value} (hd : decode (jGo g) pc = .ok (.pop, 1)) (hv : v.category = 1) (kk : JJ g w (pc + 1) L st) : JJ g w pc L (v :: st) := fun H locs ls h1 h2 h3 h4 h5 => lv_pop C.1 C.2.1 hd hv (kk H locs ls h1 h2 h3 h4 h5)
theorem j1_pop2 (C : jC g) {v : Value} (hd : decode (jGo g) pc = .ok (.pop2, 1)) (hv : v.category = 2) (kk : JJ g w (pc + 1) L st) : JJ g w pc L (v :: st) := fun H locs ls h1 h2 h3 h4 h5 => lv_pop2_2 C.1 C.2.1 hd hv (kk H locs ls h1 h2 h3 h4 h5)
theorem j1_goto (C : jC g) {off : Int} {tgt : Nat} (hd : decode (jGo g) pc = .ok (.goto off, 3)) (ht : (pc : Int) + off = (tgt : Int)) (kk : JJ g w tgt L st) : JJ g w pc L st := fun H locs ls h1 h2 h3 h4 h5 => lv_goto C.1 C.2.1 hd ht (kk H locs ls h1 h2 h3 h4 h5)
end J1
end
section
/-! THE J LAYER: the block runner (own work). An entry of a block: place, instruction, and what it brings (a constant; a jump's goal as .retAddr) -/
abbrev jE : Type := Nat × Instr × Value
def slen : Instr → Nat
  | .bipush _ => 2
  | .sipush _ => 3
  | .iload _ => 2
  | .lload _ => 2
  | .aload _ => 2
  | .istore _ => 2
  | .lstore _ => 2
  | .astore _ => 2
  | .iinc _ _ => 3
  | .goto _ => 3
  | _ => 1
def scst (pc : Nat) (i : Instr) (v : Value) : Bool := match i with
  | .iconst n => decide (Value.int (Int32.ofInt n) = v)
  | .bipush n => decide (Value.int (Int8.ofInt n).toInt32 = v)
  | .sipush n => decide (Value.int (Int16.ofInt n).toInt32 = v)
  | .lconst n => decide (Value.long (Int64.ofNat (n : Nat)) = v)
  | .iinc _ n => decide (Value.int (Int32.ofInt n) = v)
  | .goto off => match v with
    | .retAddr t => decide ((pc : Int) + off = (t : Int))
    | _ => false
  | _ => true
def sok (cc : ByteArray) (q : jE) : Prop := decode cc q.1 = .ok (q.2.1, slen q.2.1) ∧ scst q.1 q.2.1 q.2.2 = true
/-- a block is as the bytes say -/
def sblk (cc : ByteArray) : List jE → Prop
  | [] => True
  | q :: l => sok cc q ∧ sblk cc l
abbrev jR : Type := Nat × List (Nat × Value) × List Value
def sld (L : List (Nat × Value)) (pc k : Nat) (st : List Value) : Option jR := match jlk L k with
  | some v => some (pc, L, v :: st)
  | none => none
def sist (nL k pc : Nat) (L : List (Nat × Value)) (st : List Value) : Option jR := match Nat.blt k nL with
  | true => (match st with
    | .int x :: r => some (pc, jst L k (.int x), r)
    | _ => none)
  | false => none
def slst (nL k pc : Nat) (L : List (Nat × Value)) (st : List Value) : Option jR := match Nat.blt (k + 1) nL with
  | true => (match st with
    | .long x :: r => some (pc, jst2 L k (.long x), r)
    | _ => none)
  | false => none
def sast (nL k pc : Nat) (L : List (Nat × Value)) (st : List Value) : Option jR := match Nat.blt k nL with
  | true => (match st with
    | .ref x :: r => some (pc, jst L k (.ref x), r)
    | .null :: r => some (pc, jst L k .null, r)
    | _ => none)
  | false => none
def sild (L : List (Nat × Value)) (pc k : Nat) (st : List Value) : Option jR := match jlk L k with
  | some (.int x) => some (pc, L, .int x :: st)
  | _ => none
def slld (L : List (Nat × Value)) (pc k : Nat) (st : List Value) : Option jR := match jlk L k with
  | some (.long x) => some (pc, L, .long x :: st)
  | _ => none
def sald (L : List (Nat × Value)) (pc k : Nat) (st : List Value) : Option jR := match jlk L k with
  | some (.ref x) => some (pc, L, .ref x :: st)
  | some .null => some (pc, L, .null :: st)
  | _ => none
def sb32 (f : Int32 → Int32 → Int32) (pc : Nat) (L : List (Nat × Value)) (st : List Value) : Option jR := match st with
  | .int y :: .int x :: r => some (pc, L, .int (f x y) :: r)
  | _ => none
def sb64 (f : Int64 → Int64 → Int64) (pc : Nat) (L : List (Nat × Value)) (st : List Value) : Option jR := match st with
  | .long y :: .long x :: r => some (pc, L, .long (f x y) :: r)
  | _ => none
def su32 (f : Int32 → Value) (pc : Nat) (L : List (Nat × Value)) (st : List Value) : Option jR := match st with
  | .int x :: r => some (pc, L, f x :: r)
  | _ => none
def su64 (f : Int64 → Value) (pc : Nat) (L : List (Nat × Value)) (st : List Value) : Option jR := match st with
  | .long x :: r => some (pc, L, f x :: r)
  | _ => none
def sx (nL pc : Nat) (i : Instr) (v : Value) (L : List (Nat × Value)) (st : List Value) : Option jR := match i with
  | .iconst _ => some (pc + 1, L, v :: st)
  | .bipush _ => some (pc + 2, L, v :: st)
  | .sipush _ => some (pc + 3, L, v :: st)
  | .lconst _ => some (pc + 1, L, v :: st)
  | .aconst_null => some (pc + 1, L, .null :: st)
  | .iload k => sild L (pc + 2) k st
  | .iload_n k => sild L (pc + 1) k.1 st
  | .lload k => slld L (pc + 2) k st
  | .lload_n k => slld L (pc + 1) k.1 st
  | .aload k => sald L (pc + 2) k st
  | .aload_n k => sald L (pc + 1) k.1 st
  | .istore k => sist nL k (pc + 2) L st
  | .istore_n k => sist nL k.1 (pc + 1) L st
  | .lstore k => slst nL k (pc + 2) L st
  | .lstore_n k => slst nL k.1 (pc + 1) L st
  | .astore k => sast nL k (pc + 2) L st
  | .astore_n k => sast nL k.1 (pc + 1) L st
  | .iinc k _ => (match Nat.blt k nL with
    | true => (match jlk L k with
      | some (.int x) => (match v with
        | .int c => some (pc + 3, jst L k (.int (x + c)), st)
        | _ => none)
      | _ => none)
    | false => none)
  | .iadd => sb32 (fun x y => x + y) (pc + 1) L st
  | .isub => sb32 (fun x y => x - y) (pc + 1) L st
  | .imul => sb32 (fun x y => x * y) (pc + 1) L st
  | .iand => sb32 (fun x y => x &&& y) (pc + 1) L st
  | .ior => sb32 (fun x y => x ||| y) (pc + 1) L st
  | .ixor => sb32 (fun x y => x ^^^ y) (pc + 1) L st
  | .ishl => sb32 (fun x y => x <<< (y &&& 31)) (pc + 1) L st
  | .ishr => sb32 (fun x y => x >>> (y &&& 31)) (pc + 1) L st
  | .iushr => sb32 (fun x y => (x.toUInt32 >>> (y.toUInt32 &&& Int32.toUInt32 31)).toInt32) (pc + 1) L st
  | .ineg => su32 (fun x => .int (-x)) (pc + 1) L st
  | .ladd => sb64 (fun x y => x + y) (pc + 1) L st
  | .lsub => sb64 (fun x y => x - y) (pc + 1) L st
  | .lmul => sb64 (fun x y => x * y) (pc + 1) L st
  | .land => sb64 (fun x y => x &&& y) (pc + 1) L st
  | .lshr => (match st with
    | .int y :: .long x :: r => some (pc + 1, L, .long (x >>> (y.toInt64 &&& 63)) :: r)
    | _ => none)
  | .i2l => su32 (fun x => .long x.toInt64) (pc + 1) L st
  | .l2i => su64 (fun x => .int x.toInt32) (pc + 1) L st
  | .i2b => su32 (fun x => .int x.toInt8.toInt32) (pc + 1) L st
  | .dup => (match st with
    | .int x :: r => some (pc + 1, L, .int x :: .int x :: r)
    | .ref x :: r => some (pc + 1, L, .ref x :: .ref x :: r)
    | .null :: r => some (pc + 1, L, .null :: .null :: r)
    | _ => none)
  | .dup2 => (match st with
    | .int x :: .int y :: r => some (pc + 1, L, .int x :: .int y :: .int x :: .int y :: r)
    | .int x :: .ref y :: r => some (pc + 1, L, .int x :: .ref y :: .int x :: .ref y :: r)
    | _ => none)
  | .pop => (match st with
    | .int _ :: r => some (pc + 1, L, r)
    | .ref _ :: r => some (pc + 1, L, r)
    | .null :: r => some (pc + 1, L, r)
    | _ => none)
  | .pop2 => (match st with
    | .long _ :: r => some (pc + 1, L, r)
    | _ => none)
  | .goto _ => (match v with
    | .retAddr t => some (t, L, st)
    | _ => none)
  | _ => none
/-- a block; at each entry the place must be its own -/
def sxs (nL : Nat) : List jE → Nat → List (Nat × Value) → List Value → Option jR
  | [], pc, L, st => some (pc, L, st)
  | q :: r, pc, L, st => match Nat.beq q.1 pc with
    | true => (match sx nL q.1 q.2.1 q.2.2 L st with
      | some z => sxs nL r z.1 z.2.1 z.2.2
      | none => none)
    | false => none
section SX
variable {g : jG} {w : jW} {nL pc pc' : Nat} {L L' : List (Nat × Value)} {st st' : List Value}
theorem sild_ok {k a : Nat} {st' : List Value} (h : sild L a k st = some (pc', L', st')) : ∃ x, jlk L k = some (.int x) ∧ pc' = a ∧ L' = L ∧ st' = .int x :: st := by
  unfold sild at h
  split at h
  · rename_i x hx; cases h; exact ⟨x, hx, rfl, rfl, rfl⟩
  · cases h
theorem slld_ok {k a : Nat} {st' : List Value} (h : slld L a k st = some (pc', L', st')) : ∃ x, jlk L k = some (.long x) ∧ pc' = a ∧ L' = L ∧ st' = .long x :: st := by
  unfold slld at h
  split at h
  · rename_i x hx; cases h; exact ⟨x, hx, rfl, rfl, rfl⟩
  · cases h
theorem sald_ok {k a : Nat} {st' : List Value} (h : sald L a k st = some (pc', L', st')) : (∃ x, jlk L k = some (.ref x) ∧ pc' = a ∧ L' = L ∧ st' = .ref x :: st) ∨ (jlk L k = some .null ∧ pc' = a ∧ L' = L ∧ st' = .null :: st) := by
  unfold sald at h
  split at h
  · rename_i x hx; cases h; exact Or.inl ⟨x, hx, rfl, rfl, rfl⟩
  · rename_i hx; cases h; exact Or.inr ⟨hx, rfl, rfl, rfl⟩
  · cases h
theorem sist_ok {k a : Nat} (h : sist nL k a L st = some (pc', L', st')) : ∃ x, k < nL ∧ st = .int x :: st' ∧ pc' = a ∧ L' = jst L k (.int x) := by
  unfold sist at h
  split at h
  · rename_i hb
    split at h
    · cases h; exact ⟨_, Nat.blt_eq.mp hb, rfl, rfl, rfl⟩
    · cases h
  · cases h
theorem slst_ok {k a : Nat} (h : slst nL k a L st = some (pc', L', st')) : ∃ x, k + 1 < nL ∧ st = .long x :: st' ∧ pc' = a ∧ L' = jst2 L k (.long x) := by
  unfold slst at h
  split at h
  · rename_i hb
    split at h
    · cases h; exact ⟨_, Nat.blt_eq.mp hb, rfl, rfl, rfl⟩
    · cases h
  · cases h
theorem sast_ok {k a : Nat} (h : sast nL k a L st = some (pc', L', st')) : k < nL ∧ ((∃ x, st = .ref x :: st' ∧ pc' = a ∧ L' = jst L k (.ref x)) ∨ (st = .null :: st' ∧ pc' = a ∧ L' = jst L k .null)) := by
  unfold sast at h
  split at h
  · rename_i hb
    split at h
    · cases h; exact ⟨Nat.blt_eq.mp hb, Or.inl ⟨_, rfl, rfl, rfl⟩⟩
    · cases h; exact ⟨Nat.blt_eq.mp hb, Or.inr ⟨rfl, rfl, rfl⟩⟩
    · cases h
  · cases h
theorem sb32_ok {f : Int32 → Int32 → Int32} {a : Nat} (h : sb32 f a L st = some (pc', L', st')) : ∃ x y r, st = .int y :: .int x :: r ∧ pc' = a ∧ L' = L ∧ st' = .int (f x y) :: r := by
  unfold sb32 at h
  split at h
  · cases h; exact ⟨_, _, _, rfl, rfl, rfl, rfl⟩
  · cases h
theorem sb64_ok {f : Int64 → Int64 → Int64} {a : Nat} (h : sb64 f a L st = some (pc', L', st')) : ∃ x y r, st = .long y :: .long x :: r ∧ pc' = a ∧ L' = L ∧ st' = .long (f x y) :: r := by
  unfold sb64 at h
  split at h
  · cases h; exact ⟨_, _, _, rfl, rfl, rfl, rfl⟩
  · cases h
theorem su32_ok {f : Int32 → Value} {a : Nat} (h : su32 f a L st = some (pc', L', st')) : ∃ x r, st = .int x :: r ∧ pc' = a ∧ L' = L ∧ st' = f x :: r := by
  unfold su32 at h
  split at h
  · cases h; exact ⟨_, _, rfl, rfl, rfl, rfl⟩
  · cases h
theorem su64_ok {f : Int64 → Value} {a : Nat} (h : su64 f a L st = some (pc', L', st')) : ∃ x r, st = .long x :: r ∧ pc' = a ∧ L' = L ∧ st' = f x :: r := by
  unfold su64 at h
  split at h
  · cases h; exact ⟨_, _, rfl, rfl, rfl, rfl⟩
  · cases h
end SX
section SXO
variable {g : jG} {w : jW} {nL pc pc' : Nat} {L L' : List (Nat × Value)} {st st' : List Value}
set_option maxHeartbeats 4000000 in
theorem sx_ok (C : jC g) (hn : jGL g = nL) {i : Instr} {v : Value} (hd : decode (jGo g) pc = .ok (i, slen i)) (hc : scst pc i v = true) (h : sx nL pc i v L st = some (pc', L', st')) (kk : JJ g w pc' L' st') : JJ g w pc L st := by
  cases i with
  | iconst n =>
    simp only [sx] at h; cases h
    simp only [scst, decide_eq_true_eq] at hc
    exact j1_iconst C hd hc kk
  | bipush n =>
    simp only [sx] at h; cases h
    simp only [scst, decide_eq_true_eq] at hc
    exact j1_bipush C hd hc kk
  | sipush n =>
    simp only [sx] at h; cases h
    simp only [scst, decide_eq_true_eq] at hc
    exact j1_sipush C hd hc kk
  | lconst n =>
    simp only [sx] at h; cases h
    simp only [scst, decide_eq_true_eq] at hc
    exact j1_lconst C hd hc kk
  | aconst_null =>
    simp only [sx] at h; cases h
    exact j1_aconst_null C hd kk
  | iload k =>
    obtain ⟨x, h1, rfl, rfl, rfl⟩ := sild_ok h
    exact j1_iload C hd h1 kk
  | iload_n k =>
    obtain ⟨x, h1, rfl, rfl, rfl⟩ := sild_ok h
    exact j1_iload_n C hd h1 kk
  | lload k =>
    obtain ⟨x, h1, rfl, rfl, rfl⟩ := slld_ok h
    exact j1_lload C hd h1 kk
  | lload_n k =>
    obtain ⟨x, h1, rfl, rfl, rfl⟩ := slld_ok h
    exact j1_lload_n C hd h1 kk
  | aload k =>
    rcases sald_ok h with ⟨x, h1, rfl, rfl, rfl⟩ | ⟨h1, rfl, rfl, rfl⟩
    · exact j1_aload C hd h1 kk
    · exact j1_aloadN C hd h1 kk
  | aload_n k =>
    rcases sald_ok h with ⟨x, h1, rfl, rfl, rfl⟩ | ⟨h1, rfl, rfl, rfl⟩
    · exact j1_aload_n C hd h1 kk
    · exact j1_aload_nN C hd h1 kk
  | istore k =>
    obtain ⟨x, h1, rfl, rfl, rfl⟩ := sist_ok h
    exact j1_istore C hn hd h1 kk
  | istore_n k =>
    obtain ⟨x, h1, rfl, rfl, rfl⟩ := sist_ok h
    exact j1_istore_n C hn hd h1 kk
  | lstore k =>
    obtain ⟨x, h1, rfl, rfl, rfl⟩ := slst_ok h
    exact j1_lstore C hn hd h1 kk
  | lstore_n k =>
    obtain ⟨x, h1, rfl, rfl, rfl⟩ := slst_ok h
    exact j1_lstore_n C hn hd h1 kk
  | astore k =>
    obtain ⟨h0, h1⟩ := sast_ok h
    rcases h1 with ⟨x, rfl, rfl, rfl⟩ | ⟨rfl, rfl, rfl⟩
    · exact j1_astore C hn hd h0 kk
    · exact j1_astoreN C hn hd h0 kk
  | astore_n k =>
    obtain ⟨h0, h1⟩ := sast_ok h
    rcases h1 with ⟨x, rfl, rfl, rfl⟩ | ⟨rfl, rfl, rfl⟩
    · exact j1_astore_n C hn hd h0 kk
    · exact j1_astore_nN C hn hd h0 kk
  | iinc k n =>
    simp only [sx] at h
    split at h
    · rename_i hb
      split at h
      · rename_i x hx
        split at h
        · cases h
          simp only [scst, decide_eq_true_eq, Value.int.injEq] at hc
          exact j1_iinc C hn hd hc (Nat.blt_eq.mp hb) hx kk
        · cases h
      · cases h
    · cases h
  | iadd =>
    obtain ⟨x, y, r, rfl, rfl, rfl, rfl⟩ := sb32_ok h
    exact j1_iadd C hd kk
  | isub =>
    obtain ⟨x, y, r, rfl, rfl, rfl, rfl⟩ := sb32_ok h
    exact j1_isub C hd kk
  | imul =>
    obtain ⟨x, y, r, rfl, rfl, rfl, rfl⟩ := sb32_ok h
    exact j1_imul C hd kk
  | iand =>
    obtain ⟨x, y, r, rfl, rfl, rfl, rfl⟩ := sb32_ok h
    exact j1_iand C hd kk
  | ior =>
    obtain ⟨x, y, r, rfl, rfl, rfl, rfl⟩ := sb32_ok h
    exact j1_ior C hd kk
  | ixor =>
    obtain ⟨x, y, r, rfl, rfl, rfl, rfl⟩ := sb32_ok h
    exact j1_ixor C hd kk
  | ishl =>
    obtain ⟨x, y, r, rfl, rfl, rfl, rfl⟩ := sb32_ok h
    exact j1_ishl C hd kk
  | ishr =>
    obtain ⟨x, y, r, rfl, rfl, rfl, rfl⟩ := sb32_ok h
    exact j1_ishr C hd kk
  | iushr =>
    obtain ⟨x, y, r, rfl, rfl, rfl, rfl⟩ := sb32_ok h
    exact j1_iushr C hd kk
  | ladd =>
    obtain ⟨x, y, r, rfl, rfl, rfl, rfl⟩ := sb64_ok h
    exact j1_ladd C hd kk
  | lsub =>
    obtain ⟨x, y, r, rfl, rfl, rfl, rfl⟩ := sb64_ok h
    exact j1_lsub C hd kk
  | lmul =>
    obtain ⟨x, y, r, rfl, rfl, rfl, rfl⟩ := sb64_ok h
    exact j1_lmul C hd kk
  | land =>
    obtain ⟨x, y, r, rfl, rfl, rfl, rfl⟩ := sb64_ok h
    exact j1_land C hd kk
  | ineg =>
    obtain ⟨x, r, rfl, rfl, rfl, rfl⟩ := su32_ok h
    exact j1_ineg C hd kk
  | i2l =>
    obtain ⟨x, r, rfl, rfl, rfl, rfl⟩ := su32_ok h
    exact j1_i2l C hd kk
  | i2b =>
    obtain ⟨x, r, rfl, rfl, rfl, rfl⟩ := su32_ok h
    exact j1_i2b C hd kk
  | l2i =>
    obtain ⟨x, r, rfl, rfl, rfl, rfl⟩ := su64_ok h
    exact j1_l2i C hd kk
  | lshr =>
    simp only [sx] at h
    split at h
    · cases h; exact j1_lshr C hd kk
    · cases h
  | dup =>
    simp only [sx] at h
    split at h
    · cases h; exact j1_dup C hd rfl kk
    · cases h; exact j1_dup C hd rfl kk
    · cases h; exact j1_dup C hd rfl kk
    · cases h
  | dup2 =>
    simp only [sx] at h
    split at h
    · cases h; exact j1_dup2 C hd rfl rfl kk
    · cases h; exact j1_dup2 C hd rfl rfl kk
    · cases h
  | pop =>
    simp only [sx] at h
    split at h
    · cases h; exact j1_pop C hd rfl kk
    · cases h; exact j1_pop C hd rfl kk
    · cases h; exact j1_pop C hd rfl kk
    · cases h
  | pop2 =>
    simp only [sx] at h
    split at h
    · cases h; exact j1_pop2 C hd rfl kk
    · cases h
  | goto n =>
    simp only [sx] at h
    split at h
    · cases h
      simp only [scst, decide_eq_true_eq] at hc
      exact j1_goto C hd hc kk
    · cases h
  | _ => simp only [sx] at h; cases h
theorem sxs_ok (C : jC g) (hn : jGL g = nL) : ∀ (b : List jE) (pc : Nat) (L : List (Nat × Value)) (st : List Value), sblk (jGo g) b → sxs nL b pc L st = some (pc', L', st') → JJ g w pc' L' st' → JJ g w pc L st
  | [], pc, L, st, _, h, kk => by
    simp only [sxs] at h; cases h; exact kk
  | q :: r, pc, L, st, hb, h, kk => by
    simp only [sxs] at h
    split at h
    · rename_i hq
      have hq := Nat.eq_of_beq_eq_true hq
      subst hq
      split at h
      · rename_i z hz
        obtain ⟨a, b, c⟩ := z
        exact sx_ok C hn hb.1.1 hb.1.2 hz (sxs_ok C hn r _ _ _ hb.2 h kk)
      · cases h
    · cases h
/-- A BLOCK -/
theorem j_run {b : List jE} {cc : ByteArray} (pc' : Nat) (L' : List (Nat × Value)) (st' : List Value) (C : jC g) (hn : jGL g = nL) (hcc : jGo g = cc) (hb : sblk cc b) (h : sxs nL b pc L st = some (pc', L', st')) (kk : JJ g w pc' L' st') : JJ g w pc L st := sxs_ok C hn b pc L st (by rw [hcc]; exact hb) h kk
end SXO
def sblkB (cc : ByteArray) (b : List jE) : Bool := b.all (fun q => decide (decode cc q.1 = .ok (q.2.1, slen q.2.1)) && scst q.1 q.2.1 q.2.2)
theorem sblk_of {cc : ByteArray} : ∀ {b : List jE}, sblkB cc b = true → sblk cc b
  | [], _ => trivial
  | q :: r, h => by
    simp only [sblkB, List.all_cons, Bool.and_eq_true, decide_eq_true_eq] at h
    exact ⟨h.1, sblk_of (b := r) (by simp only [sblkB]; exact h.2)⟩
end
section
/-! THE J LAYER: the heap (own work) -/
abbrev aI (D : va_G) (n : Nat) (f : Nat → Int32) : jEl := .inl (D.1 100, n, .inl f)
abbrev aJ (D : va_G) (n : Nat) (f : Nat → Int64) : jEl := .inl (D.1 101, n, .inr (.inl f))
abbrev aZ (D : va_G) (n : Nat) (f : Nat → Int32) : jEl := .inl (D.1 102, n, .inl f)
abbrev aR (D : va_G) (t : Nat) (n : Nat) (f : Nat → Option Nat) : jEl := .inl (D.1 (100 + t), n, .inr (.inr (.inr (.inr f))))
/-- an object's fields from a list -/
def jf (fs : List Value) : Nat → Value := fun k => fs.getD k .null
/-- the context, with its bytes, number of locals, class and class numbers named -/
def jX (g : jG) (cc : ByteArray) (nL : Nat) (own : String) (D : va_G) : Prop := jC g ∧ jGo g = cc ∧ jGL g = nL ∧ (jGy g).cls = own ∧ jGD g = D
/-- the room, named -/
def jRm (g : jG) (k n : Nat) (rm : Room) : Prop := jGk g = k ∧ jGn g = n ∧ jGR g = rm
theorem jK0 {D : va_G} {s : State} (h : jK D s) : va_K D vwCl [] s := ⟨h.1, fun k q h => by simp at h⟩
theorem jK1 {D : va_G} {s : State} (h : jK D s) {k : Nat} {ty : FieldType} (hk : jAT[k]? = some ty) : ArrOfT s (D.1 (100 + k)) ty := (h.2.1 k ty hk).arr
section JH
variable {g : jG} {w : jW} {cc : ByteArray} {nL pc : Nat} {own : String} {D : va_G} {L : List (Nat × Value)} {st : List Value}
theorem j_blk {b : List jE} (pc' : Nat) (L' : List (Nat × Value)) (st' : List Value) (C : jX g cc nL own D) (hb : sblk cc b) (h : sxs nL b pc L st = some (pc', L', st')) (kk : JJ g w pc' L' st') : JJ g w pc L st := j_run pc' L' st' C.1 C.2.2.1 C.2.1 hb h kk
/-- fields -/
def jF (own : String) (idx ci k : Nat) : Prop := ∃ (C : String) (T : u_T) (N : Nat), vwCl[ci]? = some (C, T, N) ∧ k < N ∧ Cond.fieldLink own idx (T k).1 (T k).2.1 (T k).2.2.1 ∈ jwd ∧ (∀ w ∈ u_ws C T N, w ∈ jwd)
def jFn (own : String) (idx ci k : Nat) : Prop := ∃ (C : String) (T : u_T) (N : Nat) (host : String), vwCl[ci]? = some (C, T, N) ∧ k < N ∧ Cond.fieldLinkNest own idx (T k).1 (T k).2.1 (T k).2.2.1 host ∈ jnest ∧ (∀ w ∈ u_ws C T N, w ∈ jwd)
/-- a class's table is in order -/
def jT (T : u_T) (N : Nat) : Prop := (∃ ty : Nat → FieldType, ∀ k, k < N → parseFieldDescriptor (T k).2.2.1 = some (ty k)) ∧ ∀ a, a < N → ∀ b, b < N → a ≠ b → (T a).2.1 ≠ (T b).2.1
def jFp (own : String) (idx ci k : Nat) (ty : FieldType) : Prop := ∃ (C : String) (T : u_T) (N : Nat), vwCl[ci]? = some (C, T, N) ∧ k < N ∧ Cond.fieldLink own idx (T k).1 (T k).2.1 (T k).2.2.1 ∈ jwd ∧ (∀ w ∈ u_ws C T N, w ∈ jwd) ∧ jT T N ∧ (T k).2.2.2 = false ∧ parseFieldDescriptor (T k).2.2.1 = some ty
def jFpn (own : String) (idx ci k : Nat) (ty : FieldType) : Prop := ∃ (C : String) (T : u_T) (N : Nat) (host : String), vwCl[ci]? = some (C, T, N) ∧ k < N ∧ Cond.fieldLinkNest own idx (T k).1 (T k).2.1 (T k).2.2.1 host ∈ jnest ∧ (∀ w ∈ u_ws C T N, w ∈ jwd) ∧ jT T N ∧ (T k).2.2.2 = false ∧ parseFieldDescriptor (T k).2.2.1 = some ty
def jFf (own : String) (idx ci k : Nat) (ty : FieldType) : Prop := ∃ (C : String) (T : u_T) (N : Nat), vwCl[ci]? = some (C, T, N) ∧ k < N ∧ Cond.fieldLink own idx (T k).1 (T k).2.1 (T k).2.2.1 ∈ jwd ∧ (∀ w ∈ u_ws C T N, w ∈ jwd) ∧ jT T N ∧ (T k).2.2.2 = true ∧ (T k).1 = own ∧ parseFieldDescriptor (T k).2.2.1 = some ty
theorem j_get (C : jX g cc nL own D) {a idx ci k : Nat} {V : Nat → Value} {v : Value} (hd : decode cc pc = .ok (.getfield idx, 3)) (hf : jF own idx ci k) (hM : w.1 a = some (.inr (ci, V))) (hv : V k = v) (kk : JJ g w (pc + 3) L (v :: st)) : JJ g w pc L (.ref a :: st) := by
  obtain ⟨⟨hx, hb, hml, ho, hts, hK, -⟩, rfl, rfl, rfl, rfl⟩ := C
  obtain ⟨C0, T, N, hc, hk, hl, hin⟩ := hf
  intro H locs ls h1 h2 h3 h4 h5
  obtain ⟨r, hr1, cell, q1, q2, q3, q4⟩ := h1.at hM
  have hr : r = (C0, T, N) := Option.some.inj (hr1.symm.trans hc)
  subst hr
  obtain ⟨hS, hfc, kC, hkC, hkind⟩ := hK.1 ci _ hc
  obtain ⟨cf, kf, fi, f, hi, hsl⟩ := hS k hk
  exact W.getf hx hb ho (hts _ hl) hi (u_facts hfc hkC (u_lays hts hin hk) hi).1 q1 (by rw [q3]; exact fun h => by cases h) (v := v) (by rw [hsl, q4 k hk]; exact congrArg some hv) rfl rfl hd (kk H locs ls h1 h2 h3 h4 h5)
theorem j_getN (C : jX g cc nL own D) {a idx ci k : Nat} {V : Nat → Value} {v : Value} (hd : decode cc pc = .ok (.getfield idx, 3)) (hf : jFn own idx ci k) (hM : w.1 a = some (.inr (ci, V))) (hv : V k = v) (kk : JJ g w (pc + 3) L (v :: st)) : JJ g w pc L (.ref a :: st) := by
  obtain ⟨⟨hx, hb, hml, ho, hts, hK, -⟩, rfl, rfl, rfl, rfl⟩ := C
  obtain ⟨C0, T, N, host, hc, hk, hl, hin⟩ := hf
  intro H locs ls h1 h2 h3 h4 h5
  obtain ⟨r, hr1, cell, q1, q2, q3, q4⟩ := h1.at hM
  have hr : r = (C0, T, N) := Option.some.inj (hr1.symm.trans hc)
  subst hr
  obtain ⟨hS, hfc, kC, hkC, hkind⟩ := hK.1 ci _ hc
  obtain ⟨cf, kf, fi, f, hi, hsl⟩ := hS k hk
  exact va_Wgetf hx hb ho (va_Nw.use rfl (hK.2.2.2 _ hl)) hi (u_facts hfc hkC (u_lays hts hin hk) hi).1 q1 (by rw [q3]; exact fun h => by cases h) (v := v) (by rw [hsl, q4 k hk]; exact congrArg some hv) rfl rfl hd (kk H locs ls h1 h2 h3 h4 h5)
theorem jlcs {locs : List Loc} {B a i : Nat} (h : ∀ q ∈ locs, B ≤ q.base) (ha : B ≤ a) : ∀ q ∈ locs ++ [(⟨a, i⟩ : Loc)], B ≤ q.base := fun q hq => by
  rcases List.mem_append.mp hq with h1 | h1
  · exact h q h1
  · rw [List.mem_singleton] at h1; subst h1; exact ha
theorem jsz (c : Cell) (i : Nat) (v : Value) : (c.setSlot i v).slots.size = c.slots.size := by simp [Cell.setSlot]
theorem j_put (C : jX g cc nL own D) {a idx ci k : Nat} {V : Nat → Value} {v : Value} {ty : FieldType} (hd : decode cc pc = .ok (.putfield idx, 3)) (hf : jFp own idx ci k ty) (hM : w.1 a = some (.inr (ci, V))) (hn : narrow ty v = v) (hfit : fits ty v = true) (kk : JJ g (va_up w.1 a (some (.inr (ci, updV V k v))), w.2) (pc + 3) L st) : JJ g w pc L (v :: .ref a :: st) := by
  obtain ⟨⟨hx, hb, hml, ho, hts, hK, -⟩, rfl, rfl, rfl, rfl⟩ := C
  obtain ⟨C0, T, N, hc, hk, hlk, hin, ⟨⟨ty0, hty⟩, hnm⟩, hfin, hpd⟩ := hf
  intro H locs ls h1 h2 h3 h4 h5
  have hap := va_apart (own := (jGy g).cls) hts hin ty0 hty hnm (jK0 hK) hc
  obtain ⟨r, hr1, cell, q1, q2, q3, q4⟩ := h1.at hM
  have hr : r = (C0, T, N) := Option.some.inj (hr1.symm.trans hc)
  subst hr
  obtain ⟨hS, hfc, kC, hkC, hkind⟩ := hK.1 ci _ hc
  obtain ⟨cf, kf, fi, f, hi, hsl⟩ := hS k hk
  have hlay := hts _ (hin _ (u_in_lay hk))
  unfold u_lay at hlay
  rw [if_neg (by rw [hfin]; decide)] at hlay
  have hst := (u_facts hfc hkC (u_lays hts hin hk) hi).1
  have h6 := u_store hfc hkC hkind hlay hi hpd hn hfit
  refine W.putK hx hb (f := f) ⟨ho, hts _ hlk, ⟨_, _, _, hi⟩, hst⟩ (by rw [q2]; exact h6) q1 q3 (by rw [hsl]; exact k2_hasslot (q4 k hk)) rfl rfl hd fun H' e1 e2 e3 => ?_
  have e4 := e1
  rw [hsl] at e4
  exact kk H' _ ls (h1.set hM e2 q1 e1 (jsz _ _ _) e3 ⟨_, hc, ⟨_, e4, q2, q3, t_set q4 hap hk v⟩⟩) h2 h3 (jlcs h4 (h1.le hM)) h5
theorem j_putN (C : jX g cc nL own D) {a idx ci k : Nat} {V : Nat → Value} {v : Value} {ty : FieldType} (hd : decode cc pc = .ok (.putfield idx, 3)) (hf : jFpn own idx ci k ty) (hM : w.1 a = some (.inr (ci, V))) (hn : narrow ty v = v) (hfit : fits ty v = true) (kk : JJ g (va_up w.1 a (some (.inr (ci, updV V k v))), w.2) (pc + 3) L st) : JJ g w pc L (v :: .ref a :: st) := by
  obtain ⟨⟨hx, hb, hml, ho, hts, hK, -⟩, rfl, rfl, rfl, rfl⟩ := C
  obtain ⟨C0, T, N, host, hc, hk, hlk, hin, ⟨⟨ty0, hty⟩, hnm⟩, hfin, hpd⟩ := hf
  intro H locs ls h1 h2 h3 h4 h5
  have hap := va_apart (own := (jGy g).cls) hts hin ty0 hty hnm (jK0 hK) hc
  obtain ⟨r, hr1, cell, q1, q2, q3, q4⟩ := h1.at hM
  have hr : r = (C0, T, N) := Option.some.inj (hr1.symm.trans hc)
  subst hr
  obtain ⟨hS, hfc, kC, hkC, hkind⟩ := hK.1 ci _ hc
  obtain ⟨cf, kf, fi, f, hi, hsl⟩ := hS k hk
  have hlay := hts _ (hin _ (u_in_lay hk))
  unfold u_lay at hlay
  rw [if_neg (by rw [hfin]; decide)] at hlay
  have hst := (u_facts hfc hkC (u_lays hts hin hk) hi).1
  have h6 := u_store hfc hkC hkind hlay hi hpd hn hfit
  refine va_WputK hx hb (f := f) ho (va_Nw.use rfl (hK.2.2.2 _ hlk)) hi hst (by rw [q2]; exact h6) q1 q3 (by rw [hsl]; exact k2_hasslot (q4 k hk)) rfl rfl hd fun H' e1 e2 e3 => ?_
  have e4 := e1
  rw [hsl] at e4
  exact kk H' _ ls (h1.set hM e2 q1 e1 (jsz _ _ _) e3 ⟨_, hc, ⟨_, e4, q2, q3, t_set q4 hap hk v⟩⟩) h2 h3 (jlcs h4 (h1.le hM)) h5
theorem j_putF (C : jX g cc nL own D) (hin9 : (jGy g).name = "<init>") {a idx ci k : Nat} {V : Nat → Value} {v : Value} {ty : FieldType} (hd : decode cc pc = .ok (.putfield idx, 3)) (hf : jFf own idx ci k ty) (hM : w.1 a = some (.inr (ci, V))) (hn : narrow ty v = v) (hfit : fits ty v = true) (kk : JJ g (va_up w.1 a (some (.inr (ci, updV V k v))), w.2) (pc + 3) L st) : JJ g w pc L (v :: .ref a :: st) := by
  obtain ⟨⟨hx, hb, hml, ho, hts, hK, hnam, -⟩, rfl, rfl, rfl, rfl⟩ := C
  obtain ⟨C0, T, N, hc, hk, hlk, hin, ⟨⟨ty0, hty⟩, hnm⟩, hfin, hdecl, hpd⟩ := hf
  intro H locs ls h1 h2 h3 h4 h5
  have hap := va_apart (own := (jGy g).cls) hts hin ty0 hty hnm (jK0 hK) hc
  obtain ⟨r, hr1, cell, q1, q2, q3, q4⟩ := h1.at hM
  have hr : r = (C0, T, N) := Option.some.inj (hr1.symm.trans hc)
  subst hr
  obtain ⟨hS, hfc, kC, hkC, hkind⟩ := hK.1 ci _ hc
  obtain ⟨cf, kf, fi, f, hi, hsl⟩ := hS k hk
  have hlay := hts _ (hin _ (u_in_lay hk))
  unfold u_lay at hlay
  rw [if_pos hfin] at hlay
  have hst := (u_facts hfc hkC (u_lays hts hin hk) hi).1
  have hcf : (jGm g).cls = cf := by
    obtain ⟨_, _, c', _, _, _, -, -, hf', -, -, -, hown2, -⟩ := Cond.laysFinal_spec hlay
    have e1 : c' = cf := by have := hi.symm.trans hf'; simp at this; exact this.1.symm
    rw [hdecl] at hown2
    rw [← e1]; exact Option.some.inj (ho.symm.trans hown2)
  have h6 := u_fits hfc hkC hkind (Or.inr hlay) hi hpd hn hfit
  refine W.putFinK hx hb ho (hts _ hlk) hi hst hcf (hnam.trans hin9) (by rw [q2]; exact h6) q1 q3 (by rw [hsl]; exact k2_hasslot (q4 k hk)) rfl rfl hd fun H' e1 e2 e3 => ?_
  have e4 := e1
  rw [hsl] at e4
  exact kk H' _ ls (h1.set hM e2 q1 e1 (jsz _ _ _) e3 ⟨_, hc, ⟨_, e4, q2, q3, t_set q4 hap hk v⟩⟩) h2 h3 (jlcs h4 (h1.le hM)) h5
theorem j_iald (C : jX g cc nL own D) {a n : Nat} {f : Nat → Int32} {i : Int32} (hd : decode cc pc = .ok (.iaload, 1)) (hM : w.1 a = some (aI D n f)) (hin : vp_in i n) (kk : JJ g w (pc + 1) L (.int (f i.toNatClampNeg) :: st)) : JJ g w pc L (.int i :: .ref a :: st) := by
  obtain ⟨⟨hx, hb, hml, ho, hts, hK, -⟩, rfl, rfl, rfl, rfl⟩ := C
  intro H locs ls h1 h2 h3 h4 h5
  have hlt : i.toNatClampNeg < n := Nat.not_le.mp fun q => hin (Or.inr q)
  exact W.iald (v := .int (f i.toNatClampNeg)) hx hb (h1.at hM) (jK1 hK (k := 0) rfl n (fun j => .int (f j))) (fun q => by cases q) (by show ¬ (i < 0 ∨ (arrV _ _ _).slots.size ≤ _); rw [arrV_size]; exact hin) (by show (arrV _ _ _).slots[_]? = _; rw [arrV_read _ _ hlt]) rfl rfl hd (kk H locs ls h1 h2 h3 h4 h5)
theorem j_lald (C : jX g cc nL own D) {a n : Nat} {f : Nat → Int64} {i : Int32} (hd : decode cc pc = .ok (.laload, 1)) (hM : w.1 a = some (aJ D n f)) (hin : vp_in i n) (kk : JJ g w (pc + 1) L (.long (f i.toNatClampNeg) :: st)) : JJ g w pc L (.int i :: .ref a :: st) := by
  obtain ⟨⟨hx, hb, hml, ho, hts, hK, -⟩, rfl, rfl, rfl, rfl⟩ := C
  intro H locs ls h1 h2 h3 h4 h5
  have hlt : i.toNatClampNeg < n := Nat.not_le.mp fun q => hin (Or.inr q)
  exact W.lald (v := .long (f i.toNatClampNeg)) hx hb (h1.at hM) (jK1 hK (k := 1) rfl n (fun j => .long (f j))) (fun q => by cases q) (by show ¬ (i < 0 ∨ (arrV _ _ _).slots.size ≤ _); rw [arrV_size]; exact hin) (by show (arrV _ _ _).slots[_]? = _; rw [arrV_read _ _ hlt]) rfl rfl hd (kk H locs ls h1 h2 h3 h4 h5)
theorem j_zald (C : jX g cc nL own D) {a n : Nat} {f : Nat → Int32} {i : Int32} (hd : decode cc pc = .ok (.baload, 1)) (hM : w.1 a = some (aZ D n f)) (hin : vp_in i n) (kk : JJ g w (pc + 1) L (.int (f i.toNatClampNeg) :: st)) : JJ g w pc L (.int i :: .ref a :: st) := by
  obtain ⟨⟨hx, hb, hml, ho, hts, hK, -⟩, rfl, rfl, rfl, rfl⟩ := C
  intro H locs ls h1 h2 h3 h4 h5
  have hlt : i.toNatClampNeg < n := Nat.not_le.mp fun q => hin (Or.inr q)
  exact W.zald (v := .int (f i.toNatClampNeg)) hx hb (h1.at hM) (jK1 hK (k := 2) rfl n (fun j => .int (f j))) (fun q => by cases q) (by show ¬ (i < 0 ∨ (arrV _ _ _).slots.size ≤ _); rw [arrV_size]; exact hin) (by show (arrV _ _ _).slots[_]? = _; rw [arrV_read _ _ hlt]) rfl rfl hd (kk H locs ls h1 h2 h3 h4 h5)
theorem j_aald (C : jX g cc nL own D) {a n t : Nat} {f : Nat → Option Nat} {i : Int32} {v : Value} {ty : FieldType} (hd : decode cc pc = .ok (.aaload, 1)) (ht : jAT[t]? = some ty) (hr : ty.isReference = true) (hM : w.1 a = some (aR D t n f)) (hin : vp_in i n) (hv : va_rf (f i.toNatClampNeg) = v) (kk : JJ g w (pc + 1) L (v :: st)) : JJ g w pc L (.int i :: .ref a :: st) := by
  obtain ⟨⟨hx, hb, hml, ho, hts, hK, -⟩, rfl, rfl, rfl, rfl⟩ := C
  subst hv
  intro H locs ls h1 h2 h3 h4 h5
  have hlt : i.toNatClampNeg < n := Nat.not_le.mp fun q => hin (Or.inr q)
  exact W.aald (v := va_rf (f i.toNatClampNeg)) (ty := ty) hx hb (h1.at hM) (jK1 hK ht n (fun j => va_rf (f j))) hr (fun q => by cases q) (by show ¬ (i < 0 ∨ (arrV _ _ _).slots.size ≤ _); rw [arrV_size]; exact hin) (by show (arrV _ _ _).slots[_]? = _; rw [arrV_read _ _ hlt]) rfl rfl hd (kk H locs ls h1 h2 h3 h4 h5)
theorem jarrsz (c : ClassId) (n : Nat) (f f' : Nat → Value) : (arrV c n f).slots.size = (arrV c n f').slots.size := by rw [arrV_size, arrV_size]
theorem j_iast (C : jX g cc nL own D) {a n : Nat} {f : Nat → Int32} {i : Int32} {x : Int32} (hd : decode cc pc = .ok (.iastore, 1)) (hM : w.1 a = some (aI D n f)) (hin : vp_in i n) (kk : JJ g (va_up w.1 a (some (aI D n (upd f i.toNatClampNeg x))), w.2) (pc + 1) L st) : JJ g w pc L (.int x :: .int i :: .ref a :: st) := by
  obtain ⟨⟨hx, hb, hml, ho, hts, hK, -⟩, rfl, rfl, rfl, rfl⟩ := C
  intro H locs ls h1 h2 h3 h4 h5
  refine W.iast hx hb (h1.at hM) (jK1 hK (k := 0) rfl n (fun j => .int (f j))) (fun q => by cases q) (by show ¬ (i < 0 ∨ (arrV _ _ _).slots.size ≤ _); rw [arrV_size]; exact hin) rfl rfl hd fun H1 e z oq => ?_
  have ec : H1[a]? = some (vp_cell ((jGD g).1 100) (n, .inl (upd f i.toNatClampNeg x))) := by
    rw [e]
    rw [vp_cell_i, vp_cell_i, arrV_store]
    congr 2
    funext q
    by_cases hq : q = i.toNatClampNeg
    · subst hq
      simp [updV, upd]
      try rfl
    · simp [updV, upd, hq]
  exact kk H1 _ ls (h1.set hM z (h1.at hM) ec (by rw [vp_cell_i, vp_cell_i]; exact jarrsz _ _ _ _) oq ec) h2 h3 (jlcs h4 (h1.le hM)) h5
theorem j_last (C : jX g cc nL own D) {a n : Nat} {f : Nat → Int64} {i : Int32} {x : Int64} (hd : decode cc pc = .ok (.lastore, 1)) (hM : w.1 a = some (aJ D n f)) (hin : vp_in i n) (kk : JJ g (va_up w.1 a (some (aJ D n (vp_updL f i.toNatClampNeg x))), w.2) (pc + 1) L st) : JJ g w pc L (.long x :: .int i :: .ref a :: st) := by
  obtain ⟨⟨hx, hb, hml, ho, hts, hK, -⟩, rfl, rfl, rfl, rfl⟩ := C
  intro H locs ls h1 h2 h3 h4 h5
  refine W.last hx hb (h1.at hM) (jK1 hK (k := 1) rfl n (fun j => .long (f j))) (fun q => by cases q) (by show ¬ (i < 0 ∨ (arrV _ _ _).slots.size ≤ _); rw [arrV_size]; exact hin) rfl rfl hd fun H1 e z oq => ?_
  have ec : H1[a]? = some (vp_cell ((jGD g).1 101) (n, .inr <| .inl (vp_updL f i.toNatClampNeg x))) := by
    rw [e]
    rw [vp_cell_l, vp_cell_l, arrV_store]
    congr 2
    funext q
    by_cases hq : q = i.toNatClampNeg
    · subst hq
      simp [updV, vp_updL]
      try rfl
    · simp [updV, vp_updL, hq]
  exact kk H1 _ ls (h1.set hM z (h1.at hM) ec (by rw [vp_cell_l, vp_cell_l]; exact jarrsz _ _ _ _) oq ec) h2 h3 (jlcs h4 (h1.le hM)) h5
theorem j_zast (C : jX g cc nL own D) {a n : Nat} {f : Nat → Int32} {i : Int32} {x : Int32} (hd : decode cc pc = .ok (.bastore, 1)) (hM : w.1 a = some (aZ D n f)) (hin : vp_in i n) (kk : JJ g (va_up w.1 a (some (aZ D n (upd f i.toNatClampNeg (vp_nar .boolean x)))), w.2) (pc + 1) L st) : JJ g w pc L (.int x :: .int i :: .ref a :: st) := by
  obtain ⟨⟨hx, hb, hml, ho, hts, hK, -⟩, rfl, rfl, rfl, rfl⟩ := C
  intro H locs ls h1 h2 h3 h4 h5
  refine W.zast hx hb (h1.at hM) (jK1 hK (k := 2) rfl n (fun j => .int (f j))) (fun q => by cases q) (by show ¬ (i < 0 ∨ (arrV _ _ _).slots.size ≤ _); rw [arrV_size]; exact hin) rfl rfl hd fun H1 e z oq => ?_
  have ec : H1[a]? = some (vp_cell ((jGD g).1 102) (n, .inl (upd f i.toNatClampNeg (vp_nar .boolean x)))) := by
    rw [e]
    rw [vp_cell_i, vp_cell_i, arrV_store]
    congr 2
    funext q
    by_cases hq : q = i.toNatClampNeg
    · subst hq
      simp [updV, upd, vp_nar]
      try rfl
    · simp [updV, upd, hq]
  exact kk H1 _ ls (h1.set hM z (h1.at hM) ec (by rw [vp_cell_i, vp_cell_i]; exact jarrsz _ _ _ _) oq ec) h2 h3 (jlcs h4 (h1.le hM)) h5
theorem j_alen (C : jX g cc nL own D) {a n t : Nat} {x : vp_A} {ty : FieldType} (hd : decode cc pc = .ok (.arraylength, 1)) (ht : jAT[t]? = some ty) (hM : w.1 a = some (.inl (D.1 (100 + t), x))) (hn : x.1 = n) (kk : JJ g w (pc + 1) L (.int (Int32.ofNat n) :: st)) : JJ g w pc L (.ref a :: st) := by
  obtain ⟨⟨hx, hb, hml, ho, hts, hK, -⟩, rfl, rfl, rfl, rfl⟩ := C
  intro H locs ls h1 h2 h3 h4 h5
  obtain ⟨k, y⟩ := x
  cases hn
  have ha := h1.at hM
  have key : ∃ z : Nat → Value, vp_cell ((jGD g).1 (100 + t)) (k, y) = arrV ((jGD g).1 (100 + t)) k z := by
    rcases y with f | f | f | f | f
    · exact ⟨_, vp_cell_i _ _ _⟩
    · exact ⟨_, vp_cell_l _ _ _⟩
    · exact ⟨_, vp_cell_f _ _ _⟩
    · exact ⟨_, vp_cell_d _ _ _⟩
    · exact ⟨_, vp_cell_q _ _ _⟩
  obtain ⟨z, hz⟩ := key
  exact W.alen (n := Int32.ofNat k) hx hb (ha.trans (congrArg some hz)) (jK1 hK ht k z) (by rw [arrV_size] <;> rfl) rfl rfl hd (kk H locs ls h1 h2 h3 h4 h5)
theorem j_aast (C : jX g cc nL own D) {a n t v ci : Nat} {r : vw_C} {vs : Nat → Value} {f : Nat → Option Nat} {i : Int32} (hd : decode cc pc = .ok (.aastore, 1)) (hc : vwCl[ci]? = some r) (ht : jAT[t]? = some (.object r.1)) (hM : w.1 a = some (aR D t n f)) (hv : w.1 v = some (.inr (ci, vs))) (hin : vp_in i n) (kk : JJ g (va_up w.1 a (some (aR D t n (va_up f i.toNatClampNeg (some v)))), w.2) (pc + 1) L st) : JJ g w pc L (.ref v :: .int i :: .ref a :: st) := by
  obtain ⟨⟨hx, hb, hml, ho, hts, hK, -⟩, rfl, rfl, rfl, rfl⟩ := C
  intro H locs ls h1 h2 h3 h4 h5
  have hlt : i.toNatClampNeg < n := Nat.not_le.mp fun q => hin (Or.inr q)
  have h0 : ¬ i < 0 := fun q => hin (Or.inl q)
  obtain ⟨r', hr', cellV, g1, g2, g3, -⟩ := h1.at hv
  have hcls := (hK.1 ci r hc).2
  obtain ⟨kA, comp, k1, k2, -, k3⟩ := hK.2.1 t _ ht
  have hcomp : comp = (jGD g).1 ci := Option.some.inj ((k3 rfl).symm.trans hcls.1)
  subst hcomp
  obtain ⟨kC, hkC, -⟩ := hcls.2
  refine W.aast hx hb (h1.at hM) (fun q h => by cases h) (fun h => by cases h) k1 k2 rfl hkC ⟨h0, by show _ < (arrV _ _ _).slots.size; rw [arrV_size]; exact hlt⟩ g1 (fun q h => by rw [g3] at h; cases h) (by rw [g2]; exact hkC) (by rw [g2]; exact va_assign hcls) rfl rfl hd fun H1 e z oq => ?_
  have ec : H1[a]? = some (vp_cell ((jGD g).1 (100 + t)) (n, .inr (.inr (.inr (.inr (va_up f i.toNatClampNeg (some v))))))) := by
    rw [e]
    rw [vp_cell_q, vp_cell_q, arrV_store]
    congr 2
    funext q
    by_cases hq : q = i.toNatClampNeg
    · subst hq
      simp [updV, va_up, va_rf]
    · simp [updV, va_up, hq]
  exact kk H1 _ ls (h1.set hM z (h1.at hM) ec (by rw [vp_cell_q, vp_cell_q]; exact jarrsz _ _ _ _) oq ec) h2 h3 (jlcs h4 (h1.le hM)) h5
end JH
end
section
/-! THE J LAYER: making, branches, ends, calls (own work) -/
section JN
variable {g : jG} {w : jW} {cc : ByteArray} {nL pc : Nat} {own : String} {D : va_G} {L : List (Nat × Value)} {st : List Value} {k0 n0 : Nat} {rm : Room}
/-- a class's objects as they are made -/
def jNew (own : String) (idx ci n : Nat) (V : Nat → Value) : Prop := ∃ (C : String) (T : u_T) (N : Nat) (ty : Nat → FieldType), vwCl[ci]? = some (C, T, N) ∧ Cond.classLink own idx C ∈ jwd ∧ Cond.instantiable C n ∈ jwd ∧ Cond.initialized C ∈ jwd ∧ (∀ w ∈ u_ws C T N, w ∈ jwd) ∧ (∀ k, k < N → parseFieldDescriptor (T k).2.2.1 = some (ty k)) ∧ ∀ k, k < N → V k = defaultValue (ty k)
theorem j_new (C : jX g cc nL own D) (Rm : jRm g k0 n0 rm) {idx ci n : Nat} {V : Nat → Value} (hd : decode cc pc = .ok (.new idx, 3)) (hf : jNew own idx ci n V) (hc1 : w.2.1 + 1 ≤ k0 + rm.cells) (hc2 : w.2.2 + n ≤ n0 + rm.slots)
    (kk : ∀ q : Nat, (∀ a e, w.1 a = some e → a < q) → JJ g (va_up w.1 q (some (.inr (ci, V))), w.2.1 + 1, w.2.2 + n) (pc + 3) L (.ref q :: st)) : JJ g w pc L st := by
  obtain ⟨⟨hx, hb, hml, ho, hts, hK, -⟩, rfl, rfl, rfl, rfl⟩ := C
  obtain ⟨C0, T, N, ty, hc, hcl, hins, hini, hin, hty, hfs⟩ := hf
  obtain ⟨rfl, rfl, rfl⟩ := Rm
  intro H locs ls h1 h2 h3 h4 h5
  refine W.newc hx hb ho (hts _ hcl) (hts _ hins) (hts _ hini) rfl hd (by omega) (by omega) fun cC kC e1 e2 e3 e4 => ?_
  have hKn := hK.1 ci _ hc
  have ecC : cC = (jGD g).1 ci := Option.some.inj (e1.symm.trans hKn.2.1)
  subst ecC
  have hob : t_OB H.size ((jGD g).1 ci) N ((jGD g).2 ci) (H.push (blank ((jGD g).1 ci) kC)) V := (u_born ty hts hin hKn e2 (by rw [Array.getElem?_push_size]) hty).to (fun k hk => (hfs k hk).symm)
  have hsz : (blank ((jGD g).1 ci) kC).slots.size = n := by show (kC.instanceTypes.map defaultValue).size = n; rw [Array.size_map]; exact e4
  have hH := h1.push (c := blank ((jGD g).1 ci) kC) (e := .inr (ci, V)) ⟨_, hc, hob⟩
  rw [hsz] at hH
  have := kk H.size h1.fresh _ locs ls hH (by show _ ≤ w.2.1 + 1; omega) (by show _ ≤ w.2.2 + n; omega) h4 h5
  have a1 : w.2.1 + 1 - jGk g = w.2.1 - jGk g + 1 := by omega
  have a2 : w.2.2 + n - jGn g = w.2.2 - jGn g + n := by omega
  simp only [a1, a2] at this
  exact this
/-- a new array of a primitive type -/
def jaN (D : va_G) (t : ArrayType) (n : Nat) : jEl := match t with
  | .long => aJ D n (fun _ => 0)
  | .boolean => aZ D n (fun _ => 0)
  | _ => aI D n (fun _ => 0)
def jaT (t : ArrayType) : Option Nat := match t with
  | .int => some 0
  | .long => some 1
  | .boolean => some 2
  | _ => none
theorem j_newa (C : jX g cc nL own D) (Rm : jRm g k0 n0 rm) {at9 : ArrayType} {t n : Nat} {x : Int32} (hd : decode cc pc = .ok (.newarray at9, 2)) (ht : jaT at9 = some t) (hw : Cond.arrayClass (newarray.typeOf at9) ∈ jwd) (hx0 : ¬ x < 0) (hxn : x.toNatClampNeg = n) (hby : n * 8 ≤ 536870912) (hc1 : w.2.1 + 1 ≤ k0 + rm.cells) (hc2 : w.2.2 + n ≤ n0 + rm.slots)
    (kk : ∀ q : Nat, (∀ a e, w.1 a = some e → a < q) → JJ g (va_up w.1 q (some (jaN D at9 n)), w.2.1 + 1, w.2.2 + n) (pc + 2) L (.ref q :: st)) : JJ g w pc L (.int x :: st) := by
  obtain ⟨⟨hx, hb, hml, ho, hts, hK, -⟩, rfl, rfl, rfl, rfl⟩ := C
  obtain ⟨rfl, rfl, rfl⟩ := Rm
  subst hxn
  intro H locs ls h1 h2 h3 h4 h5
  have hcb : componentBytes (newarray.typeOf at9) ≤ 8 := by cases at9 <;> simp [newarray.typeOf, componentBytes]
  have hby2 : x.toNatClampNeg * componentBytes (newarray.typeOf at9) ≤ 536870912 := Nat.le_trans (Nat.mul_le_mul_left _ hcb) hby
  refine W.newa hx hb (hts _ hw) rfl hd rfl hx0 hby2 (by omega) (by omega) fun cA kA comp f1 f2 f3 => ?_
  have key : jAT[t]? = some (newarray.typeOf at9) ∧ ∀ D' : va_G, jaN D' at9 x.toNatClampNeg = .inl (D'.1 (100 + t), (match at9 with | .long => (x.toNatClampNeg, .inr (.inl (fun _ => 0))) | _ => (x.toNatClampNeg, .inl (fun _ => 0)) : vp_A)) ∧ vp_cell (D'.1 (100 + t)) (match at9 with | .long => (x.toNatClampNeg, .inr (.inl (fun _ => 0))) | _ => (x.toNatClampNeg, .inl (fun _ => 0)) : vp_A) = arrV (D'.1 (100 + t)) x.toNatClampNeg (fun _ => defaultValue (newarray.typeOf at9)) := by
    cases at9 <;> simp only [jaT] at ht <;> cases ht <;> exact ⟨rfl, fun _ => ⟨rfl, rfl⟩⟩
  have ecA : cA = (jGD g).1 (100 + t) := by
    obtain ⟨kA2, comp2, -, -, g3, -⟩ := hK.2.1 t _ key.1
    exact Option.some.inj (f1.symm.trans g3)
  subst ecA
  obtain ⟨key1, key2⟩ := key
  obtain ⟨key2, key3⟩ := key2 (jGD g)
  have hce : ({ cls := (jGD g).1 (100 + t), slots := Array.replicate x.toNatClampNeg (defaultValue (newarray.typeOf at9)), vm := .none } : Cell) = arrV ((jGD g).1 (100 + t)) x.toNatClampNeg (fun _ => defaultValue (newarray.typeOf at9)) := arrV_new _ _ _
  rw [hce]
  have hH := h1.push (c := arrV ((jGD g).1 (100 + t)) x.toNatClampNeg (fun _ => defaultValue (newarray.typeOf at9))) (e := jaN (jGD g) at9 x.toNatClampNeg) (by rw [key2]; show _ = some _; rw [Array.getElem?_push_size]; exact congrArg some key3.symm)
  rw [arrV_size] at hH
  have := kk H.size h1.fresh _ locs ls hH (by show _ ≤ w.2.1 + 1; omega) (by show _ ≤ w.2.2 + x.toNatClampNeg; omega) h4 h5
  have a1 : w.2.1 + 1 - jGk g = w.2.1 - jGk g + 1 := by omega
  have a2 : w.2.2 + x.toNatClampNeg - jGn g = w.2.2 - jGn g + x.toNatClampNeg := by omega
  simp only [a1, a2] at this
  exact this
theorem j_anew (C : jX g cc nL own D) (Rm : jRm g k0 n0 rm) {idx t n : Nat} {Cn : String} {x : Int32} (hd : decode cc pc = .ok (.anewarray idx, 3)) (ht : jAT[t]? = some (.object Cn)) (hao : Cn ∈ jAO) (hw : Cond.classLink own idx Cn ∈ jwd) (hx0 : ¬ x < 0) (hxn : x.toNatClampNeg = n) (hby : n * 4 ≤ 536870912) (hc1 : w.2.1 + 1 ≤ k0 + rm.cells) (hc2 : w.2.2 + n ≤ n0 + rm.slots)
    (kk : ∀ q : Nat, (∀ a e, w.1 a = some e → a < q) → JJ g (va_up w.1 q (some (aR D t n (fun _ => none))), w.2.1 + 1, w.2.2 + n) (pc + 3) L (.ref q :: st)) : JJ g w pc L (.int x :: st) := by
  obtain ⟨⟨hx, hb, hml, ho, hts, hK, -⟩, rfl, rfl, rfl, rfl⟩ := C
  obtain ⟨rfl, rfl, rfl⟩ := Rm
  subst hxn
  intro H locs ls h1 h2 h3 h4 h5
  refine W.anew hx hb ho (hts _ hw) (va_AO.use (hK.2.2.1 _ hao)) rfl hd rfl hx0 hby (by omega) (by omega) fun cA kA comp f1 f2 f3 f4 => ?_
  have ecA : cA = (jGD g).1 (100 + t) := by
    obtain ⟨kA2, comp2, -, -, g3, -⟩ := hK.2.1 t _ ht
    exact Option.some.inj (f1.symm.trans g3)
  subst ecA
  rw [show ({ cls := (jGD g).1 (100 + t), slots := Array.replicate x.toNatClampNeg .null, vm := .none } : Cell) = arrV ((jGD g).1 (100 + t)) x.toNatClampNeg (fun _ => .null) from arrV_new _ _ _]
  have hH := h1.push (c := arrV ((jGD g).1 (100 + t)) x.toNatClampNeg (fun _ => .null)) (e := aR (jGD g) t x.toNatClampNeg (fun _ => none)) (by show _ = some _; rw [Array.getElem?_push_size, vp_cell_q]; rfl)
  rw [arrV_size] at hH
  have := kk H.size h1.fresh _ locs ls hH (by show _ ≤ w.2.1 + 1; omega) (by show _ ≤ w.2.2 + x.toNatClampNeg; omega) h4 h5
  have a1 : w.2.1 + 1 - jGk g = w.2.1 - jGk g + 1 := by omega
  have a2 : w.2.2 + x.toNatClampNeg - jGn g = w.2.2 - jGn g + x.toNatClampNeg := by omega
  simp only [a1, a2] at this
  exact this
theorem j_ldc (C : jX g cc nL own D) {idx : Nat} {v : Int32} (hd : decode cc pc = .ok (.ldc idx, 2)) (hw : Cond.constant own idx v ∈ jwd) (kk : JJ g w (pc + 2) L (.int v :: st)) : JJ g w pc L st := by
  obtain ⟨⟨hx, hb, hml, ho, hts, hK, -⟩, rfl, rfl, rfl, rfl⟩ := C
  exact fun H locs ls h1 h2 h3 h4 h5 => lv_ldc hx hb ho (hts _ hw) hd (kk H locs ls h1 h2 h3 h4 h5)
theorem j_ldcw (C : jX g cc nL own D) {idx : Nat} {v : Int32} (hd : decode cc pc = .ok (.ldc_w idx, 3)) (hw : Cond.constant own idx v ∈ jwd) (kk : JJ g w (pc + 3) L (.int v :: st)) : JJ g w pc L st := by
  obtain ⟨⟨hx, hb, hml, ho, hts, hK, -⟩, rfl, rfl, rfl, rfl⟩ := C
  exact fun H locs ls h1 h2 h3 h4 h5 => lv_ldcw hx hb ho (hts _ hw) hd (kk H locs ls h1 h2 h3 h4 h5)
theorem j_ldc2 (C : jX g cc nL own D) {idx : Nat} {v : Int64} (hd : decode cc pc = .ok (.ldc2_w idx, 3)) (hw : Cond.constantLong own idx v ∈ jwd) (kk : JJ g w (pc + 3) L (.long v :: st)) : JJ g w pc L st := by
  obtain ⟨⟨hx, hb, hml, ho, hts, hK, -⟩, rfl, rfl, rfl, rfl⟩ := C
  exact fun H locs ls h1 h2 h3 h4 h5 => lv_ldc2 hx hb ho (hts _ hw) hd (kk H locs ls h1 h2 h3 h4 h5)
theorem j_if_eq (C : jX g cc nL own D) {x : Int32} {off : Int} {tgt : Nat} (hd : decode cc pc = .ok (.ifCond .eq off, 3)) (ht : (pc : Int) + off = (tgt : Int)) (kt : x = 0 → JJ g w tgt L st) (kf : ¬ (x = 0) → JJ g w (pc + 3) L st) : JJ g w pc L (.int x :: st) := by
  obtain ⟨⟨hx, hb, -⟩, rfl, -⟩ := C
  exact fun H locs ls h1 h2 h3 h4 h5 => lv_if_eq hx hb hd ht (fun h => kt h H locs ls h1 h2 h3 h4 h5) (fun h => kf h H locs ls h1 h2 h3 h4 h5)
theorem j_icmp_eq (C : jX g cc nL own D) {x y : Int32} {off : Int} {tgt : Nat} (hd : decode cc pc = .ok (.if_icmp .eq off, 3)) (ht : (pc : Int) + off = (tgt : Int)) (kt : x = y → JJ g w tgt L st) (kf : ¬ (x = y) → JJ g w (pc + 3) L st) : JJ g w pc L (.int y :: .int x :: st) := by
  obtain ⟨⟨hx, hb, -⟩, rfl, -⟩ := C
  exact fun H locs ls h1 h2 h3 h4 h5 => lv_icmp_eq hx hb hd ht (fun h => kt h H locs ls h1 h2 h3 h4 h5) (fun h => kf h H locs ls h1 h2 h3 h4 h5)
theorem j_if_ne (C : jX g cc nL own D) {x : Int32} {off : Int} {tgt : Nat} (hd : decode cc pc = .ok (.ifCond .ne off, 3)) (ht : (pc : Int) + off = (tgt : Int)) (kt : ¬ x = 0 → JJ g w tgt L st) (kf : x = 0 → JJ g w (pc + 3) L st) : JJ g w pc L (.int x :: st) := by
  obtain ⟨⟨hx, hb, -⟩, rfl, -⟩ := C
  exact fun H locs ls h1 h2 h3 h4 h5 => lv_if_ne hx hb hd ht (fun h => kt h H locs ls h1 h2 h3 h4 h5) (fun h => kf h H locs ls h1 h2 h3 h4 h5)
theorem j_icmp_ne (C : jX g cc nL own D) {x y : Int32} {off : Int} {tgt : Nat} (hd : decode cc pc = .ok (.if_icmp .ne off, 3)) (ht : (pc : Int) + off = (tgt : Int)) (kt : ¬ x = y → JJ g w tgt L st) (kf : x = y → JJ g w (pc + 3) L st) : JJ g w pc L (.int y :: .int x :: st) := by
  obtain ⟨⟨hx, hb, -⟩, rfl, -⟩ := C
  exact fun H locs ls h1 h2 h3 h4 h5 => lv_icmp_ne hx hb hd ht (fun h => kt h H locs ls h1 h2 h3 h4 h5) (fun h => kf h H locs ls h1 h2 h3 h4 h5)
theorem j_if_lt (C : jX g cc nL own D) {x : Int32} {off : Int} {tgt : Nat} (hd : decode cc pc = .ok (.ifCond .lt off, 3)) (ht : (pc : Int) + off = (tgt : Int)) (kt : x < 0 → JJ g w tgt L st) (kf : ¬ (x < 0) → JJ g w (pc + 3) L st) : JJ g w pc L (.int x :: st) := by
  obtain ⟨⟨hx, hb, -⟩, rfl, -⟩ := C
  exact fun H locs ls h1 h2 h3 h4 h5 => lv_if_lt hx hb hd ht (fun h => kt h H locs ls h1 h2 h3 h4 h5) (fun h => kf h H locs ls h1 h2 h3 h4 h5)
theorem j_icmp_lt (C : jX g cc nL own D) {x y : Int32} {off : Int} {tgt : Nat} (hd : decode cc pc = .ok (.if_icmp .lt off, 3)) (ht : (pc : Int) + off = (tgt : Int)) (kt : x < y → JJ g w tgt L st) (kf : ¬ (x < y) → JJ g w (pc + 3) L st) : JJ g w pc L (.int y :: .int x :: st) := by
  obtain ⟨⟨hx, hb, -⟩, rfl, -⟩ := C
  exact fun H locs ls h1 h2 h3 h4 h5 => lv_icmp_lt hx hb hd ht (fun h => kt h H locs ls h1 h2 h3 h4 h5) (fun h => kf h H locs ls h1 h2 h3 h4 h5)
theorem j_if_ge (C : jX g cc nL own D) {x : Int32} {off : Int} {tgt : Nat} (hd : decode cc pc = .ok (.ifCond .ge off, 3)) (ht : (pc : Int) + off = (tgt : Int)) (kt : 0 ≤ x → JJ g w tgt L st) (kf : ¬ (0 ≤ x) → JJ g w (pc + 3) L st) : JJ g w pc L (.int x :: st) := by
  obtain ⟨⟨hx, hb, -⟩, rfl, -⟩ := C
  exact fun H locs ls h1 h2 h3 h4 h5 => lv_if_ge hx hb hd ht (fun h => kt h H locs ls h1 h2 h3 h4 h5) (fun h => kf h H locs ls h1 h2 h3 h4 h5)
theorem j_icmp_ge (C : jX g cc nL own D) {x y : Int32} {off : Int} {tgt : Nat} (hd : decode cc pc = .ok (.if_icmp .ge off, 3)) (ht : (pc : Int) + off = (tgt : Int)) (kt : y ≤ x → JJ g w tgt L st) (kf : ¬ (y ≤ x) → JJ g w (pc + 3) L st) : JJ g w pc L (.int y :: .int x :: st) := by
  obtain ⟨⟨hx, hb, -⟩, rfl, -⟩ := C
  exact fun H locs ls h1 h2 h3 h4 h5 => lv_icmp_ge hx hb hd ht (fun h => kt h H locs ls h1 h2 h3 h4 h5) (fun h => kf h H locs ls h1 h2 h3 h4 h5)
theorem j_if_gt (C : jX g cc nL own D) {x : Int32} {off : Int} {tgt : Nat} (hd : decode cc pc = .ok (.ifCond .gt off, 3)) (ht : (pc : Int) + off = (tgt : Int)) (kt : 0 < x → JJ g w tgt L st) (kf : ¬ (0 < x) → JJ g w (pc + 3) L st) : JJ g w pc L (.int x :: st) := by
  obtain ⟨⟨hx, hb, -⟩, rfl, -⟩ := C
  exact fun H locs ls h1 h2 h3 h4 h5 => lv_if_gt hx hb hd ht (fun h => kt h H locs ls h1 h2 h3 h4 h5) (fun h => kf h H locs ls h1 h2 h3 h4 h5)
theorem j_icmp_gt (C : jX g cc nL own D) {x y : Int32} {off : Int} {tgt : Nat} (hd : decode cc pc = .ok (.if_icmp .gt off, 3)) (ht : (pc : Int) + off = (tgt : Int)) (kt : y < x → JJ g w tgt L st) (kf : ¬ (y < x) → JJ g w (pc + 3) L st) : JJ g w pc L (.int y :: .int x :: st) := by
  obtain ⟨⟨hx, hb, -⟩, rfl, -⟩ := C
  exact fun H locs ls h1 h2 h3 h4 h5 => lv_icmp_gt hx hb hd ht (fun h => kt h H locs ls h1 h2 h3 h4 h5) (fun h => kf h H locs ls h1 h2 h3 h4 h5)
theorem j_if_le (C : jX g cc nL own D) {x : Int32} {off : Int} {tgt : Nat} (hd : decode cc pc = .ok (.ifCond .le off, 3)) (ht : (pc : Int) + off = (tgt : Int)) (kt : x ≤ 0 → JJ g w tgt L st) (kf : ¬ (x ≤ 0) → JJ g w (pc + 3) L st) : JJ g w pc L (.int x :: st) := by
  obtain ⟨⟨hx, hb, -⟩, rfl, -⟩ := C
  exact fun H locs ls h1 h2 h3 h4 h5 => lv_if_le hx hb hd ht (fun h => kt h H locs ls h1 h2 h3 h4 h5) (fun h => kf h H locs ls h1 h2 h3 h4 h5)
theorem j_icmp_le (C : jX g cc nL own D) {x y : Int32} {off : Int} {tgt : Nat} (hd : decode cc pc = .ok (.if_icmp .le off, 3)) (ht : (pc : Int) + off = (tgt : Int)) (kt : x ≤ y → JJ g w tgt L st) (kf : ¬ (x ≤ y) → JJ g w (pc + 3) L st) : JJ g w pc L (.int y :: .int x :: st) := by
  obtain ⟨⟨hx, hb, -⟩, rfl, -⟩ := C
  exact fun H locs ls h1 h2 h3 h4 h5 => lv_icmp_le hx hb hd ht (fun h => kt h H locs ls h1 h2 h3 h4 h5) (fun h => kf h H locs ls h1 h2 h3 h4 h5)
theorem j_ifnull (C : jX g cc nL own D) {a : Nat} {off : Int} (hd : decode cc pc = .ok (.ifnull off, 3)) (kk : JJ g w (pc + 3) L st) : JJ g w pc L (.ref a :: st) := by
  obtain ⟨⟨hx, hb, -⟩, rfl, -⟩ := C
  exact fun H locs ls h1 h2 h3 h4 h5 => lv_ifnull hx hb hd (kk H locs ls h1 h2 h3 h4 h5)
theorem j_ifnullN (C : jX g cc nL own D) {off : Int} {tgt : Nat} (hd : decode cc pc = .ok (.ifnull off, 3)) (ht : (pc : Int) + off = (tgt : Int)) (kk : JJ g w tgt L st) : JJ g w pc L (.null :: st) := by
  obtain ⟨⟨hx, hb, -⟩, rfl, -⟩ := C
  exact fun H locs ls h1 h2 h3 h4 h5 => lv_ifnullN hx hb hd ht (kk H locs ls h1 h2 h3 h4 h5)
theorem j_ifnonnull (C : jX g cc nL own D) {a : Nat} {off : Int} {tgt : Nat} (hd : decode cc pc = .ok (.ifnonnull off, 3)) (ht : (pc : Int) + off = (tgt : Int)) (kk : JJ g w tgt L st) : JJ g w pc L (.ref a :: st) := by
  obtain ⟨⟨hx, hb, -⟩, rfl, -⟩ := C
  exact fun H locs ls h1 h2 h3 h4 h5 => lv_ifnonnull hx hb hd ht (kk H locs ls h1 h2 h3 h4 h5)
theorem j_ifnonnullN (C : jX g cc nL own D) {off : Int} (hd : decode cc pc = .ok (.ifnonnull off, 3)) (kk : JJ g w (pc + 3) L st) : JJ g w pc L (.null :: st) := by
  obtain ⟨⟨hx, hb, -⟩, rfl, -⟩ := C
  exact fun H locs ls h1 h2 h3 h4 h5 => lv_ifnonnullN hx hb hd (kk H locs ls h1 h2 h3 h4 h5)
theorem j_tabIn (C : jX g cc nL own D) {dflt lo hi : Int} {offs : Array Int} {len : Nat} {x : Int32} {off : Int} {tgt : Nat} (hd : decode cc pc = .ok (.tableswitch dflt lo hi offs, len)) (q1 : ¬ x.toInt < lo) (q2 : ¬ hi < x.toInt) (ho : offs[(x.toInt - lo).toNat]? = some off) (ht : (pc : Int) + off = (tgt : Int)) (kk : JJ g w tgt L st) : JJ g w pc L (.int x :: st) := by
  obtain ⟨⟨hx, hb, -⟩, rfl, -⟩ := C
  exact fun H locs ls h1 h2 h3 h4 h5 => lv_tableIn hx hb hd q1 q2 ho ht (kk H locs ls h1 h2 h3 h4 h5)
theorem j_tabOut (C : jX g cc nL own D) {dflt lo hi : Int} {offs : Array Int} {len : Nat} {x : Int32} {tgt : Nat} (hd : decode cc pc = .ok (.tableswitch dflt lo hi offs, len)) (q : x.toInt < lo ∨ hi < x.toInt) (ht : (pc : Int) + dflt = (tgt : Int)) (kk : JJ g w tgt L st) : JJ g w pc L (.int x :: st) := by
  obtain ⟨⟨hx, hb, -⟩, rfl, -⟩ := C
  exact fun H locs ls h1 h2 h3 h4 h5 => lv_tableOut hx hb hd q ht (kk H locs ls h1 h2 h3 h4 h5)
theorem j_idiv (C : jX g cc nL own D) {x y : Int32} (hd : decode cc pc = .ok (.idiv, 1)) (hne : ¬ y = 0) (kk : JJ g w (pc + 1) L (.int (x / y) :: st)) : JJ g w pc L (.int y :: .int x :: st) := by
  obtain ⟨⟨hx, hb, -⟩, rfl, -⟩ := C
  exact fun H locs ls h1 h2 h3 h4 h5 => lv_idiv hx hb hd hne (kk H locs ls h1 h2 h3 h4 h5)
theorem j_irem (C : jX g cc nL own D) {x y : Int32} (hd : decode cc pc = .ok (.irem, 1)) (hne : ¬ y = 0) (kk : JJ g w (pc + 1) L (.int (x - x / y * y) :: st)) : JJ g w pc L (.int y :: .int x :: st) := by
  obtain ⟨⟨hx, hb, -⟩, rfl, -⟩ := C
  exact fun H locs ls h1 h2 h3 h4 h5 => lv_irem hx hb hd hne (kk H locs ls h1 h2 h3 h4 h5)
theorem j_ldiv (C : jX g cc nL own D) {x y : Int64} (hd : decode cc pc = .ok (.ldiv, 1)) (hne : ¬ y = 0) (kk : JJ g w (pc + 1) L (.long (x / y) :: st)) : JJ g w pc L (.long y :: .long x :: st) := by
  obtain ⟨⟨hx, hb, -⟩, rfl, -⟩ := C
  exact fun H locs ls h1 h2 h3 h4 h5 => lv_ldiv hx hb hd hne (kk H locs ls h1 h2 h3 h4 h5)
theorem j_lrem (C : jX g cc nL own D) {x y : Int64} (hd : decode cc pc = .ok (.lrem, 1)) (hne : ¬ y = 0) (kk : JJ g w (pc + 1) L (.long (x - x / y * y) :: st)) : JJ g w pc L (.long y :: .long x :: st) := by
  obtain ⟨⟨hx, hb, -⟩, rfl, -⟩ := C
  exact fun H locs ls h1 h2 h3 h4 h5 => lv_lrem hx hb hd hne (kk H locs ls h1 h2 h3 h4 h5)
end JN
end
section
/-! THE J LAYER: contracts (own work) -/
def jPc (D : va_G) (B : Nat) (H0 : Heap) (av : List Value) (w : jW) : Array Value → State → Prop := va_Pc av (fun U => jH D B H0 w U.heap ∧ jK D U)
def jQ (D : va_G) (B : Nat) (H0 : Heap) (post : Option Value → jW → Prop) : Array Value → State → Outcome → State → Prop := fun _ _ oc t => ∃ (v : Option Value) (w' : jW), oc = .returned v ∧ post v w' ∧ jH D B H0 w' t.heap
/-- a contract -/
abbrev jMet (l : Launch) (D : va_G) (B : Nat) (H0 : Heap) (y : MethodName) (cc : ByteArray) (maxL : Nat) (ret : Option FieldType) (fr lo mc ms : Nat) (av : List Value) (w : jW) (post : Option Value → jW → Prop) : Prop :=
  Met l y (Cond.code y cc maxL ret :: jwd) ({ frames := fr, cells := mc, slots := ms, locals := lo } : Room) (jPc D B H0 av w) (jQ D B H0 post) mc ms (fun q => B ≤ q)
def jY (g : jG) (l : Launch) (B : Nat) (H0 : Heap) (y : MethodName) : Prop := jGl g = l ∧ jGB g = B ∧ jGH g = H0 ∧ jGy g = y
def jEnd (g : jG) (post : Option Value → jW → Prop) (mc ms : Nat) (ret : Option FieldType) : Prop := (jGt g).sig.returnType = ret ∧ jGQ g = MQ (jGb g) (jQ (jGD g) (jGB g) (jGH g) post) (jGa g) (jGs g) mc ms (fun q => jGB g ≤ q)
theorem jK.same {D : va_G} {s U : State} (hv : s.vm = U.vm) (h : jK D s) : jK D U := by
  have hvm : s.vm.Alike U.vm := by rw [hv]; exact Vm.Alike.refl _
  obtain ⟨h1, h2, h3, h4⟩ := h
  refine ⟨fun c q hq => u_Kn_moved hvm (h1 c q hq), fun k ty hk => (h2 k ty hk).moved hvm, fun C hC => (h3 C hC).moved hvm, fun w hw => ?_⟩
  have h5 := (List.mem_filter.mp hw).2
  have h6 := h4 w hw
  cases w with
  | fieldLinkNest a i b n d h2 => exact va_Nw.same rfl hv h6
  | methodLinkNest a i x h2 => exact va_Nw.same rfl hv h6
  | _ => simp [jnw] at h5
theorem jPc_blind (D : va_G) (B : Nat) (H0 : Heap) (av : List Value) (w : jW) : FrameBlind (jPc D B H0 av w) := fun a U g mk h => ⟨h.1, h.2.1, jK.same (s := U) (U := U.calling g mk a) rfl h.2.2⟩
/-- the books are exact: a state's counts are those of its world -/
theorem jsum_split {H : Heap} {B k : Nat} : jsum H B = (((H.toList.drop B).take k).map (fun c : Cell => c.slots.size)).sum + jsum H (B + k) := by
  unfold jsum
  conv => lhs; rw [← List.take_append_drop k (H.toList.drop B)]
  rw [List.map_append, List.sum_append, List.drop_drop]
theorem jtight {p : Program} {l : Launch} {e : Env} {R : Room} {s : State} {m : MethodId} {args : Array Value} {below : List Frame} {meth : Method} {c : Code} {T : State} {locs : List Loc} {cells slots : Nat} {D : va_G} {B k0 n0 : Nat} {H0 : Heap} {M0 : jM} {w : jW} (X : Stand p l e R s m args below meth c T locs cells slots) (h0 : jH D B H0 (M0, k0, n0) s.heap) (h : jH D B H0 w T.heap) : k0 ≤ w.2.1 ∧ n0 ≤ w.2.2 ∧ Stand p l e R s m args below meth c T locs (w.2.1 - k0) (w.2.2 - n0) := by
  obtain ⟨e1, e2, e3, e4, e5, e6⟩ := X.same
  have e2 : s.heap.size ≤ T.heap.size := e2
  have hs0 : s.heap.size = B + k0 := h0.1
  have hs : T.heap.size = B + w.2.1 := h.1
  have hj0 : jsum s.heap B = n0 := h0.2.1
  have hj : jsum T.heap B = w.2.2 := h.2.1
  have hk : k0 ≤ w.2.1 := by omega
  have hold : ((T.heap.toList.drop B).take k0).map (fun c : Cell => c.slots.size) = (s.heap.toList.drop B).map (fun c : Cell => c.slots.size) := by
    apply List.ext_getElem?
    intro i
    rw [List.getElem?_map, List.getElem?_map, List.getElem?_take, List.getElem?_drop, List.getElem?_drop, Array.getElem?_toList, Array.getElem?_toList]
    by_cases hi : i < k0
    · rw [if_pos hi]
      have hlt : B + i < s.heap.size := by omega
      obtain ⟨c', q1, -, q3, -⟩ := e6 (B + i) s.heap[B + i] (Array.getElem?_eq_getElem hlt)
      have q1 : T.heap[B + i]? = some c' := q1
      rw [q1, Array.getElem?_eq_getElem hlt]
      simp [q3]
    · rw [if_neg hi]
      have : s.heap[B + i]? = none := Array.getElem?_eq_none (by omega)
      rw [this]
  have hsp := jsum_split (H := T.heap) (B := B) (k := k0)
  rw [hold, hj, ← hs0] at hsp
  have hj0' : ((s.heap.toList.drop B).map (fun c : Cell => c.slots.size)).sum = n0 := hj0
  rw [hj0'] at hsp
  have hnew : (((T.setVm s.vm).heap.toList.drop s.heap.size).map (·.slots.size)).sum = jsum T.heap s.heap.size := rfl
  refine ⟨hk, by omega, { X with same := ⟨e1, e2, ?_, e4, ?_, e6⟩ }⟩
  · show T.heap.size ≤ s.heap.size + (w.2.1 - k0)
    omega
  · rw [hnew]; omega
section JC
variable {g : jG} {w : jW} {cc : ByteArray} {nL pc : Nat} {own : String} {D : va_G} {L : List (Nat × Value)} {st : List Value} {k0 n0 : Nat} {rm : Room} {l : Launch} {B : Nat} {H0 : Heap} {y0 : MethodName} {post : Option Value → jW → Prop} {mc ms : Nat}
theorem j_iret (C : jX g cc nL own D) (Rm : jRm g k0 n0 rm) (E : jEnd g post mc ms (some .int)) {x : Int32} (hd : decode cc pc = .ok (.ireturn, 1)) (hp : post (some (.int x)) w) (hc : w.2.1 ≤ k0 + mc) (hs : w.2.2 ≤ n0 + ms) : JJ g w pc L [.int x] := by
  obtain ⟨⟨hx, hb, hml, ho, hts, hK, hnm, hlk, -⟩, rfl, rfl, rfl, rfl⟩ := C
  obtain ⟨rfl, rfl, rfl⟩ := Rm
  intro H locs ls h1 h2 h3 h4 h5
  rw [E.2]
  refine W.widen (k := mc) (n := ms) (by omega) (by omega) ?_
  exact W.iret hx hb E.1 (fun t ht hW => ⟨_, w, rfl, hp, by rw [ht]; exact h1⟩) h4 hd hlk
theorem j_zret (C : jX g cc nL own D) (Rm : jRm g k0 n0 rm) {ty : FieldType} (E : jEnd g post mc ms (some ty)) {x : Int32} (hn : narrow ty (.int x) = .int x) (hd : decode cc pc = .ok (.ireturn, 1)) (hp : post (some (.int x)) w) (hc : w.2.1 ≤ k0 + mc) (hs : w.2.2 ≤ n0 + ms) : JJ g w pc L [.int x] := by
  obtain ⟨⟨hx, hb, hml, ho, hts, hK, hnm, hlk, -⟩, rfl, rfl, rfl, rfl⟩ := C
  obtain ⟨rfl, rfl, rfl⟩ := Rm
  intro H locs ls h1 h2 h3 h4 h5
  rw [E.2]
  refine W.widen (k := mc) (n := ms) (by omega) (by omega) ?_
  exact W.zret hx hb E.1 hn (fun t ht hW => ⟨_, w, rfl, hp, by rw [ht]; exact h1⟩) h4 hd hlk
theorem j_lret (C : jX g cc nL own D) (Rm : jRm g k0 n0 rm) (E : jEnd g post mc ms (some .long)) {x : Int64} (hd : decode cc pc = .ok (.lreturn, 1)) (hp : post (some (.long x)) w) (hc : w.2.1 ≤ k0 + mc) (hs : w.2.2 ≤ n0 + ms) : JJ g w pc L [.long x] := by
  obtain ⟨⟨hx, hb, hml, ho, hts, hK, hnm, hlk, -⟩, rfl, rfl, rfl, rfl⟩ := C
  obtain ⟨rfl, rfl, rfl⟩ := Rm
  intro H locs ls h1 h2 h3 h4 h5
  rw [E.2]
  refine W.widen (k := mc) (n := ms) (by omega) (by omega) ?_
  exact W.lret hx hb E.1 (fun t ht hW => ⟨_, w, rfl, hp, by rw [ht]; exact h1⟩) h4 hd hlk
theorem j_vret (C : jX g cc nL own D) (Rm : jRm g k0 n0 rm) (E : jEnd g post mc ms none) (hd : decode cc pc = .ok (.return_, 1)) (hp : post none w) (hc : w.2.1 ≤ k0 + mc) (hs : w.2.2 ≤ n0 + ms) : JJ g w pc L [] := by
  obtain ⟨⟨hx, hb, hml, ho, hts, hK, hnm, hlk, -⟩, rfl, rfl, rfl, rfl⟩ := C
  obtain ⟨rfl, rfl, rfl⟩ := Rm
  intro H locs ls h1 h2 h3 h4 h5
  rw [E.2]
  refine W.widen (k := mc) (n := ms) (by omega) (by omega) ?_
  exact W.vret hx hb E.1 (fun t ht hW => ⟨_, w, rfl, hp, by rw [ht]; exact h1⟩) h4 hd hlk
theorem j_aret (C : jX g cc nL own D) (Rm : jRm g k0 n0 rm) {Cn : String} (E : jEnd g post mc ms (some (.object Cn))) {v : Value} (hv : v = .null ∨ ∃ a, v = .ref a) (hd : decode cc pc = .ok (.areturn, 1)) (hp : post (some v) w) (hc : w.2.1 ≤ k0 + mc) (hs : w.2.2 ≤ n0 + ms) : JJ g w pc L [v] := by
  obtain ⟨⟨hx, hb, hml, ho, hts, hK, hnm, hlk, -⟩, rfl, rfl, rfl, rfl⟩ := C
  obtain ⟨rfl, rfl, rfl⟩ := Rm
  intro H locs ls h1 h2 h3 h4 h5
  rw [E.2]
  refine W.widen (k := mc) (n := ms) (by omega) (by omega) ?_
  exact W.aret hx hb E.1 (Or.inl ⟨_, rfl⟩) hv (fun t ht hW => ⟨_, w, rfl, hp, by rw [ht]; exact h1⟩) h4 hd hlk
/-- THE START OF A METHOD -/
theorem j_met {y : MethodName} {maxL : Nat} {ret : Option FieldType} {av : List Value} {fr lo : Nat} (hy : plainName y.cls = true) (hav : (lg_sl av).length ≤ maxL)
    (body : ∀ g : jG, jX g cc maxL y.cls D → jRm g w.2.1 w.2.2 { frames := fr, cells := mc, slots := ms, locals := lo } → jY g l B H0 y → jEnd g post mc ms ret → JJ g w 0 (lv_args 0 av) []) : jMet l D B H0 y cc maxL ret fr lo mc ms av w post := by
  refine Met.ofW (cc := cc) (maxL := maxL) (ret := ret) hy rfl ?_
  intro p e s m args below meth c s₁ Bd hml hv
  obtain ⟨rfl, hH, hK⟩ := hv
  have hts := atoms_spec (ws := Cond.code y cc maxL ret :: jwd) Bd.pre
  have hl := lv_entry av (n := maxL) hav
  rw [lg_entry_eq]
  generalize (lg_sl av ++ List.replicate (maxL - (lg_sl av).length) Slot.unset).toArray = ls at hl ⊢
  have hfind : s.vm.findClass y.cls = some m.cls := findClass_of_methodNamed Bd.named
  have hnam : meth.name = y.name := (name_of_methodNamed Bd.named Bd.method).1
  have key := body (p, l, e, ({ frames := fr, cells := mc, slots := ms, locals := lo } : Room), s, m, av.toArray, below, meth, c, D, B, H0, w.2.1, w.2.2, maxL, MQ below (jQ D B H0 post) av.toArray s mc ms (fun q => B ≤ q), cc, y)
    ⟨⟨Bd.exec, Bd.bytes, hml, hfind, fun w9 h9 => hts w9 (List.mem_cons_of_mem _ h9), hK, hnam, Bd.notSynchronized, w.1, hH⟩, rfl, rfl, rfl, rfl⟩ ⟨rfl, rfl, rfl⟩ ⟨rfl, rfl, rfl, rfl⟩ ⟨Bd.returns, rfl⟩
  have k2 := key s.heap [] ls hH (Nat.le_refl _) (Nat.le_refl _) (fun q h => by cases h) hl
  have a1 : w.2.1 - w.2.1 = 0 := Nat.sub_self _
  have a2 : w.2.2 - w.2.2 = 0 := Nat.sub_self _
  simp only [jGp, jGl, jGe, jGR, jGs, jGm, jGa, jGb, jGt, jGc, jGk, jGn, jGQ, a1, a2] at k2
  exact k2
theorem jgood {y : MethodName} {b : ByteArray} {n : Nat} {r : Option FieldType} (h : Cond.code y b n r ∈ jwd) : GoodIn jwd (Cond.code y b n r :: jwd) := fun w hw => by
  rcases List.mem_cons.mp hw with rfl | h1
  · exact ⟨h, good_of_word (List.mem_filter.mp h).2⟩
  · exact ⟨h1, good_of_word (List.mem_filter.mp h1).2⟩
/-- behind a call -/
theorem j_after (C : jC g) {H : Heap} {locs : List Loc} {ls : Array Slot} (h4 : ∀ q ∈ locs, jGB g ≤ q.base) (h5 : lv_has ls (jGL g) L) {rest st0 : List Value} {a : Array Value} {k n : Nat}
    (hr : va_Run (jGp g) (jGl g) (jGe g) (jGR g) (jGs g) (jGm g) (jGa g) (jGb g) (jGt g) (jGc g) H locs k n mc ms (F0 (jGm g) pc ls st0) rest (jQ (jGD g) (jGB g) (jGH g) post a) (fun q => jGB g ≤ q))
    (kk : ∀ (v : Option Value) (w' : jW), post v w' → JJ g w' (pc + 3) L (v.toList ++ rest)) : W (jGp g) (jGl g) (jGe g) (jGR g) (jGs g) (jGm g) (jGa g) (jGb g) (jGt g) (jGc g) H locs k n (jGQ g) (F0 (jGm g) pc ls st0) := by
  obtain ⟨-, -, -, -, -, -, -, -, M0, hM0⟩ := C
  intro T hT X
  obtain ⟨v, st₀, t, T', L', h0, X', hL, e1, e2, ⟨v2, w', hv, hp, hH'⟩, hst⟩ := hr T hT X
  cases hv
  rw [← e1] at hH'
  obtain ⟨g1, g2, X2⟩ := jtight X' hM0 hH'
  obtain ⟨t2, a1, b1⟩ := kk v w' hp T'.heap (locs ++ L') ls hH' g1 g2 (fun q hq => by
    rcases List.mem_append.mp hq with h | h
    · exact h4 q h
    · exact hL q h) h5 T' rfl X2
  exact ⟨t2, hst t2 a1, b1⟩
def jcB (y : MethodName) (bytes : ByteArray) (maxL : Nat) (ret : Option FieldType) (n : Nat) : Prop := Cond.initialized y.cls ∈ jwd ∧ Cond.code y bytes maxL ret ∈ jwd ∧ (y.cls ≠ "java/lang/invoke/MethodHandle" ∧ y.cls ≠ "java/lang/invoke/VarHandle") ∧ (parseMethodDescriptor y.desc).map (fun d => d.parameters.length) = some n
def jcS (own : String) (idx : Nat) (y : MethodName) (bytes : ByteArray) (maxL : Nat) (ret : Option FieldType) (n : Nat) : Prop := jcB y bytes maxL ret n ∧ Cond.static y ∈ jwd ∧ Cond.methodLink own idx y ∈ jwd
def jcSn (own : String) (idx : Nat) (y : MethodName) (bytes : ByteArray) (maxL : Nat) (ret : Option FieldType) (n : Nat) : Prop := jcB y bytes maxL ret n ∧ Cond.static y ∈ jwd ∧ ∃ host, Cond.methodLinkNest own idx y host ∈ jnest
def jcV (own : String) (idx : Nat) (y : MethodName) (bytes : ByteArray) (maxL : Nat) (ret : Option FieldType) (n : Nat) : Prop := jcB y bytes maxL ret n ∧ Cond.instanceMethod y ∈ jwd ∧ Cond.selects y.cls y y ∈ jwd ∧ Cond.methodLink own idx y ∈ jwd
def jcI (own : String) (idx : Nat) (y : MethodName) (bytes : ByteArray) (maxL n : Nat) : Prop := jcB y bytes maxL none n ∧ Cond.instanceMethod y ∈ jwd ∧ y.name = "<init>" ∧ Cond.methodLink own idx y ∈ jwd
def jcIn (own : String) (idx : Nat) (y : MethodName) (bytes : ByteArray) (maxL n : Nat) : Prop := jcB y bytes maxL none n ∧ Cond.instanceMethod y ∈ jwd ∧ y.name = "<init>" ∧ ∃ host, Cond.methodLinkNest own idx y host ∈ jnest
theorem jcB.call {y : MethodName} {bytes : ByteArray} {maxL n idx fr lo : Nat} {ret : Option FieldType} {s : State} {args : Array Value} {R : Room} (h : jcB y bytes maxL ret n) (hts : ∀ w ∈ jwd, w.before args s = true) (hl : (Cond.methodLink own idx y).before args s = true) (hR : fr + 1 ≤ R.frames ∧ 8 + (maxL + 11) + lo ≤ R.locals) : CallB R s args own idx y bytes maxL ret (Cond.code y bytes maxL ret :: jwd) ({ frames := fr, cells := mc, slots := ms, locals := lo } : Room) mc ms n :=
  callB_of n hts (jgood h.2.1) rfl rfl rfl (hts _ h.1) hl ⟨h.2.2.1.1, h.2.2.1.2, h.2.2.2⟩ hR
theorem j_callS (C : jX g cc nL own D) (Rm : jRm g k0 n0 rm) (Y : jY g l B H0 y0) {idx n maxL fr lo : Nat} {y : MethodName} {bytes : ByteArray} {ret : Option FieldType} {As : List Value} (rest : List Value) (hM : jMet l D B H0 y bytes maxL ret fr lo mc ms As w post) (hc : jcS own idx y bytes maxL ret n) (hd : decode cc pc = .ok (.invokestatic idx, 3)) (hn : As.length = n) (hst : st = As.reverse ++ rest) (h8 : (rest.map fun v => v.category).sum ≤ 8) (hR : fr + 1 ≤ rm.frames ∧ 8 + (maxL + 11) + lo ≤ rm.locals) (hroom : w.2.1 + mc ≤ k0 + rm.cells ∧ w.2.2 + ms ≤ n0 + rm.slots)
    (kk : ∀ (v : Option Value) (w' : jW), post v w' → JJ g w' (pc + 3) L (v.toList ++ rest)) : JJ g w pc L st := by
  obtain ⟨hC, rfl, rfl, rfl, rfl⟩ := C
  obtain ⟨rfl, rfl, rfl⟩ := Rm
  obtain ⟨rfl, rfl, rfl, rfl⟩ := Y
  obtain ⟨hx, hb, hml, ho, hts, hK, -⟩ := id hC
  subst hst
  intro H locs ls h1 h2 h3 h4 h5
  exact j_after hC h4 h5 (va_runS (As := As) (rest := rest) ⟨hx, hb, hml, ho, hts⟩ hM ⟨hc.1.call hts (hts _ hc.2.2) hR, hts _ hc.2.1⟩ ⟨jPc_blind _ _ _ _ _, fun U hU hW => ⟨rfl, by rw [hU]; exact h1, hK.moved hW⟩⟩ rfl hn h5.1 rfl (lv_room h8) hd ⟨by omega, by omega⟩) kk
theorem j_callV (C : jX g cc nL own D) (Rm : jRm g k0 n0 rm) (Y : jY g l B H0 y0) {idx n maxL fr lo a ci : Nat} {V : Nat → Value} {r : vw_C} {y : MethodName} {bytes : ByteArray} {ret : Option FieldType} (As rest : List Value) (hM : jMet l D B H0 y bytes maxL ret fr lo mc ms (.ref a :: As) w post) (hc : jcV own idx y bytes maxL ret n) (hci : vwCl[ci]? = some r) (hrc : r.1 = y.cls) (ha : w.1 a = some (.inr (ci, V))) (hd : decode cc pc = .ok (.invokevirtual idx, 3)) (hn : As.length = n) (hst : st = As.reverse ++ .ref a :: rest) (h8 : (rest.map fun v => v.category).sum ≤ 8) (hR : fr + 1 ≤ rm.frames ∧ 8 + (maxL + 11) + lo ≤ rm.locals) (hroom : w.2.1 + mc ≤ k0 + rm.cells ∧ w.2.2 + ms ≤ n0 + rm.slots)
    (kk : ∀ (v : Option Value) (w' : jW), post v w' → JJ g w' (pc + 3) L (v.toList ++ rest)) : JJ g w pc L st := by
  obtain ⟨hC, rfl, rfl, rfl, rfl⟩ := C
  obtain ⟨rfl, rfl, rfl⟩ := Rm
  obtain ⟨rfl, rfl, rfl, rfl⟩ := Y
  obtain ⟨hx, hb, hml, ho, hts, hK, -⟩ := id hC
  subst hst
  intro H locs ls h1 h2 h3 h4 h5
  obtain ⟨r', g0, cell, g1, g2, g3, -⟩ := h1.at ha
  have hrr : r' = r := Option.some.inj (g0.symm.trans hci)
  subst hrr
  have hrec : ∃ cell : Cell, H[a]? = some cell ∧ cell.vm.isStatics = false ∧ (jGs g).vm.findClass y.cls = some cell.cls := ⟨cell, g1, by rw [g3]; rfl, by rw [g2, ← hrc]; exact (hK.1 ci _ hci).2.1⟩
  exact j_after hC h4 h5 (va_runV (C := y.cls) (As := As) (rest := rest) ⟨hx, hb, hml, ho, hts⟩ hM ⟨hc.1.call hts (hts _ hc.2.2.2) hR, hts _ hc.2.1, hts _ hc.2.2.1⟩ ⟨jPc_blind _ _ _ _ _, hrec, fun U hU hW => ⟨rfl, by rw [hU]; exact h1, hK.moved hW⟩⟩ rfl hn h5.1 rfl (lv_room h8) hd ⟨by omega, by omega⟩) kk
theorem j_callI (C : jX g cc nL own D) (Rm : jRm g k0 n0 rm) (Y : jY g l B H0 y0) {idx n maxL fr lo a : Nat} {y : MethodName} {bytes : ByteArray} (As rest : List Value) (hM : jMet l D B H0 y bytes maxL none fr lo mc ms (.ref a :: As) w post) (hc : jcI own idx y bytes maxL n) (hd : decode cc pc = .ok (.invokespecial idx, 3)) (hn : As.length = n) (hst : st = As.reverse ++ .ref a :: rest) (h8 : (rest.map fun v => v.category).sum ≤ 8) (hR : fr + 1 ≤ rm.frames ∧ 8 + (maxL + 11) + lo ≤ rm.locals) (hroom : w.2.1 + mc ≤ k0 + rm.cells ∧ w.2.2 + ms ≤ n0 + rm.slots)
    (kk : ∀ (v : Option Value) (w' : jW), post v w' → JJ g w' (pc + 3) L (v.toList ++ rest)) : JJ g w pc L st := by
  obtain ⟨hC, rfl, rfl, rfl, rfl⟩ := C
  obtain ⟨rfl, rfl, rfl⟩ := Rm
  obtain ⟨rfl, rfl, rfl, rfl⟩ := Y
  obtain ⟨hx, hb, hml, ho, hts, hK, -⟩ := id hC
  subst hst
  intro H locs ls h1 h2 h3 h4 h5
  exact j_after hC h4 h5 (va_runI (As := As) (rest := rest) ⟨hx, hb, hml, ho, hts⟩ hM ⟨hc.1.call hts (hts _ hc.2.2.2) hR, hc.2.2.1, hts _ hc.2.1⟩ ⟨jPc_blind _ _ _ _ _, fun U hU hW => ⟨rfl, by rw [hU]; exact h1, hK.moved hW⟩⟩ rfl hn h5.1 rfl (lv_room h8) hd ⟨by omega, by omega⟩) kk
theorem jcB.callN {y : MethodName} {host : String} {bytes : ByteArray} {maxL n idx fr lo : Nat} {ret : Option FieldType} {s : State} {args : Array Value} {R : Room} (h : jcB y bytes maxL ret n) (hts : ∀ w ∈ jwd, w.before args s = true) (hl : va_Nw (.methodLinkNest own idx y host) s) (hR : fr + 1 ≤ R.frames ∧ 8 + (maxL + 11) + lo ≤ R.locals) : va_CN R s args own idx y host bytes maxL ret (Cond.code y bytes maxL ret :: jwd) ({ frames := fr, cells := mc, slots := ms, locals := lo } : Room) mc ms n :=
  va_cnB n hts (jgood h.2.1) rfl rfl rfl hl (hts _ h.1) ⟨h.2.2.1.1, h.2.2.1.2, h.2.2.2⟩ hR
theorem j_callSn (C : jX g cc nL own D) (Rm : jRm g k0 n0 rm) (Y : jY g l B H0 y0) {idx n maxL fr lo : Nat} {y : MethodName} {bytes : ByteArray} {ret : Option FieldType} {As : List Value} (rest : List Value) (hM : jMet l D B H0 y bytes maxL ret fr lo mc ms As w post) (hc : jcSn own idx y bytes maxL ret n) (hd : decode cc pc = .ok (.invokestatic idx, 3)) (hn : As.length = n) (hst : st = As.reverse ++ rest) (h8 : (rest.map fun v => v.category).sum ≤ 8) (hR : fr + 1 ≤ rm.frames ∧ 8 + (maxL + 11) + lo ≤ rm.locals) (hroom : w.2.1 + mc ≤ k0 + rm.cells ∧ w.2.2 + ms ≤ n0 + rm.slots)
    (kk : ∀ (v : Option Value) (w' : jW), post v w' → JJ g w' (pc + 3) L (v.toList ++ rest)) : JJ g w pc L st := by
  obtain ⟨hC, rfl, rfl, rfl, rfl⟩ := C
  obtain ⟨rfl, rfl, rfl⟩ := Rm
  obtain ⟨rfl, rfl, rfl, rfl⟩ := Y
  obtain ⟨hx, hb, hml, ho, hts, hK, -⟩ := id hC
  obtain ⟨hcB, hcs, host, hch⟩ := hc
  subst hst
  intro H locs ls h1 h2 h3 h4 h5
  exact j_after hC h4 h5 (va_runSN (As := As) (rest := rest) ⟨hx, hb, hml, ho, hts⟩ hM ⟨hcB.callN hts (hK.2.2.2 _ hch) hR, hts _ hcs, trivial⟩ ⟨jPc_blind _ _ _ _ _, fun U hU hW => ⟨rfl, by rw [hU]; exact h1, hK.moved hW⟩⟩ rfl hn h5.1 rfl (lv_room h8) hd ⟨by omega, by omega⟩) kk
theorem j_callIn (C : jX g cc nL own D) (Rm : jRm g k0 n0 rm) (Y : jY g l B H0 y0) {idx n maxL fr lo a : Nat} {y : MethodName} {bytes : ByteArray} (As rest : List Value) (hM : jMet l D B H0 y bytes maxL none fr lo mc ms (.ref a :: As) w post) (hc : jcIn own idx y bytes maxL n) (hd : decode cc pc = .ok (.invokespecial idx, 3)) (hn : As.length = n) (hst : st = As.reverse ++ .ref a :: rest) (h8 : (rest.map fun v => v.category).sum ≤ 8) (hR : fr + 1 ≤ rm.frames ∧ 8 + (maxL + 11) + lo ≤ rm.locals) (hroom : w.2.1 + mc ≤ k0 + rm.cells ∧ w.2.2 + ms ≤ n0 + rm.slots)
    (kk : ∀ (v : Option Value) (w' : jW), post v w' → JJ g w' (pc + 3) L (v.toList ++ rest)) : JJ g w pc L st := by
  obtain ⟨hC, rfl, rfl, rfl, rfl⟩ := C
  obtain ⟨rfl, rfl, rfl⟩ := Rm
  obtain ⟨rfl, rfl, rfl, rfl⟩ := Y
  obtain ⟨hx, hb, hml, ho, hts, hK, -⟩ := id hC
  obtain ⟨hcB, hci, hcn, host, hch⟩ := hc
  subst hst
  intro H locs ls h1 h2 h3 h4 h5
  exact j_after hC h4 h5 (va_runIN (As := As) (rest := rest) ⟨hx, hb, hml, ho, hts⟩ hM ⟨hcB.callN hts (hK.2.2.2 _ hch) hR, hcn, hts _ hci⟩ ⟨jPc_blind _ _ _ _ _, fun U hU hW => ⟨rfl, by rw [hU]; exact h1, hK.moved hW⟩⟩ rfl hn h5.1 rfl (lv_room h8) hd ⟨by omega, by omega⟩) kk
/-- Object.<init> -/
def jcO (own : String) (idx : Nat) : Prop := Cond.methodLink own idx objectInit ∈ jwd ∧ Cond.instanceMethod objectInit ∈ jwd ∧ Cond.code objectInit ⟨#[0xb1]⟩ 1 none ∈ jwd
theorem j_obj (C : jX g cc nL own D) (Rm : jRm g k0 n0 rm) {idx a : Nat} (hc : jcO own idx) (hd : decode cc pc = .ok (.invokespecial idx, 3)) (hf : 1 ≤ rm.frames) (hl : (st.map fun v => v.category).sum + 12 ≤ rm.locals) (kk : JJ g w (pc + 3) L st) : JJ g w pc L (.ref a :: st) := by
  obtain ⟨⟨hx, hb, hml, ho, hts, hK, -⟩, rfl, rfl, rfl, rfl⟩ := C
  obtain ⟨rfl, rfl, rfl⟩ := Rm
  intro H locs ls h1 h2 h3 h4 h5
  refine W.objInit hx hb ho (hts _ hc.1) (hts _ hc.2.1) (hts _ hc.2.2) rfl (by rw [hml]; exact h5.1) rfl hd hf (by show 2 * 0 + _ + 12 ≤ _; omega) ?_
  exact kk H locs ls h1 h2 h3 h4 h5
end JC
end
section
/-! THE LINK SITES, by program (own work) -/
theorem jmems (ws : List Cond) (ps : List Nat) (hp : ws = ps.filterMap (fun i => lw_tbl[i]?)) (h : ws.all goodWord = true) : ∀ w ∈ ws, w ∈ jwd := fun w hw => by
  have hg := List.all_eq_true.mp h w hw
  rw [hp] at hw
  obtain ⟨i, -, hi⟩ := List.mem_filterMap.mp hw
  exact jmem i hi hg
theorem uw_0 : ∀ w ∈ u_ws RX0 TX0 4, w ∈ jwd := jmems _ [715, 717, 719, 721] (by decide +kernel) (by decide +kernel)
theorem jt_0 : jT TX0 4 := ⟨⟨tyX0, tyX0_ok⟩, nmX0⟩
def v0_0 : Nat → Value := jf [.null, .null, .int 0, .int 0]
theorem uw_1 : ∀ w ∈ u_ws RX1 TX1 5, w ∈ jwd := jmems _ [187, 189, 191, 193, 195] (by decide +kernel) (by decide +kernel)
theorem jt_1 : jT TX1 5 := ⟨⟨tyX1, tyX1_ok⟩, nmX1⟩
def v0_1 : Nat → Value := jf [.null, .null, .int 0, .null, .null]
theorem uw_2 : ∀ w ∈ u_ws RX2 TX2 16, w ∈ jwd := jmems _ [423, 425, 427, 429, 431, 433, 435, 437, 439, 441, 443, 445, 447, 449, 451, 453] (by decide +kernel) (by decide +kernel)
theorem jt_2 : jT TX2 16 := ⟨⟨tyX2, tyX2_ok⟩, nmX2⟩
def v0_2 : Nat → Value := jf [.null, .int 0, .null, .int 0, .null, .null, .int 0, .null, .int 0, .int 0, .int 0, .int 0, .null, .null, .int 0, .int 0]
theorem uw_3 : ∀ w ∈ u_ws RX3 TX3 9, w ∈ jwd := jmems _ [150, 152, 154, 156, 158, 160, 162, 164, 166] (by decide +kernel) (by decide +kernel)
theorem jt_3 : jT TX3 9 := ⟨⟨tyX3, tyX3_ok⟩, nmX3⟩
def v0_3 : Nat → Value := jf [.null, .int 0, .null, .int 0, .int 0, .int 0, .int 0, .int 0, .int 0]
theorem uw_4 : ∀ w ∈ u_ws RX4 TX4 3, w ∈ jwd := jmems _ [303, 305, 307] (by decide +kernel) (by decide +kernel)
theorem jt_4 : jT TX4 3 := ⟨⟨tyX4, tyX4_ok⟩, nmX4⟩
def v0_4 : Nat → Value := jf [.null, .null, .null]
theorem uw_5 : ∀ w ∈ u_ws RX5 TX5 3, w ∈ jwd := jmems _ [225, 227, 229] (by decide +kernel) (by decide +kernel)
theorem jt_5 : jT TX5 3 := ⟨⟨tyX5, tyX5_ok⟩, nmX5⟩
def v0_5 : Nat → Value := jf [.null, .int 0, .int 0]
theorem uw_6 : ∀ w ∈ u_ws RX6 TX6 14, w ∈ jwd := jmems _ [366, 368, 370, 372, 374, 376, 378, 380, 382, 384, 386, 388, 390, 392] (by decide +kernel) (by decide +kernel)
theorem jt_6 : jT TX6 14 := ⟨⟨tyX6, tyX6_ok⟩, nmX6⟩
def v0_6 : Nat → Value := jf [.int 0, .int 0, .int 0, .int 0, .int 0, .int 0, .int 0, .int 0, .int 0, .int 0, .int 0, .int 0, .int 0, .null]
theorem uw_7 : ∀ w ∈ u_ws RX7 TX7 4, w ∈ jwd := jmems _ [205, 207, 209, 211] (by decide +kernel) (by decide +kernel)
theorem jt_7 : jT TX7 4 := ⟨⟨tyX7, tyX7_ok⟩, nmX7⟩
def v0_7 : Nat → Value := jf [.null, .null, .int 0, .int 0]
theorem uw_8 : ∀ w ∈ u_ws RX8 TX8 13, w ∈ jwd := jmems _ [245, 247, 249, 251, 253, 255, 257, 259, 261, 263, 265, 267, 269] (by decide +kernel) (by decide +kernel)
theorem jt_8 : jT TX8 13 := ⟨⟨tyX8, tyX8_ok⟩, nmX8⟩
def v0_8 : Nat → Value := jf [.null, .int 0, .null, .int 0, .int 0, .int 0, .int 0, .int 0, .null, .null, .null, .null, .null]
theorem uw_9 : ∀ w ∈ u_ws RX9 TX9 3, w ∈ jwd := jmems _ [1118, 1120, 1122] (by decide +kernel) (by decide +kernel)
theorem jt_9 : jT TX9 3 := ⟨⟨tyX9, tyX9_ok⟩, nmX9⟩
def v0_9 : Nat → Value := jf [.null, .null, .int 0]
theorem uw_10 : ∀ w ∈ u_ws RX10 TX10 43, w ∈ jwd := jmems _ [1169, 1171, 1173, 1175, 1177, 1179, 1181, 1183, 1185, 1187, 1189, 1191, 1193, 1195, 1197, 1199, 1201, 1203, 1205, 1207, 1209, 1211, 1213, 1215, 1217, 1219, 1221, 1223, 1225, 1227, 1229, 1231, 1233, 1235, 1237, 1239, 1241, 1243, 1245, 1247, 1249, 1251, 1253] (by decide +kernel) (by decide +kernel)
theorem jt_10 : jT TX10 43 := ⟨⟨tyX10, tyX10_ok⟩, nmX10⟩
def v0_10 : Nat → Value := jf [.int 0, .null, .null, .null, .null, .null, .null, .null, .null, .null, .null, .null, .null, .null, .null, .null, .null, .null, .null, .null, .null, .null, .int 0, .int 0, .int 0, .int 0, .int 0, .int 0, .int 0, .int 0, .int 0, .int 0, .null, .int 0, .int 0, .int 0, .int 0, .int 0, .null, .null, .null, .null, .null]
def y_CS_init : MethodName := ⟨"ChanceSteps", "<init>", "()V"⟩
abbrev b_CS_init : ByteArray := prog_1_method_1_code
theorem jb_CS_init : jcB y_CS_init b_CS_init 2 none 0 := ⟨jmem 103 (by decide +kernel) rfl, jmem 127 (by decide +kernel) rfl, ⟨by decide +kernel, by decide +kernel⟩, by decide +kernel⟩
def y_CS_alike : MethodName := ⟨"ChanceSteps", "alike", "(II)I"⟩
abbrev b_CS_alike : ByteArray := prog_1_method_16_code
theorem jb_CS_alike : jcB y_CS_alike b_CS_alike 7 (some .int) 2 := ⟨jmem 103 (by decide +kernel) rfl, jmem 983 (by decide +kernel) rfl, ⟨by decide +kernel, by decide +kernel⟩, by decide +kernel⟩
def y_CS_apart : MethodName := ⟨"ChanceSteps", "apart", "(III)I"⟩
abbrev b_CS_apart : ByteArray := prog_1_method_13_code
theorem jb_CS_apart : jcB y_CS_apart b_CS_apart 11 (some .int) 3 := ⟨jmem 103 (by decide +kernel) rfl, jmem 955 (by decide +kernel) rfl, ⟨by decide +kernel, by decide +kernel⟩, by decide +kernel⟩
def y_CS_append : MethodName := ⟨"ChanceSteps", "append", "(I)V"⟩
abbrev b_CS_append : ByteArray := prog_1_method_35_code
theorem jb_CS_append : jcB y_CS_append b_CS_append 2 none 1 := ⟨jmem 103 (by decide +kernel) rfl, jmem 282 (by decide +kernel) rfl, ⟨by decide +kernel, by decide +kernel⟩, by decide +kernel⟩
def y_CS_areNames : MethodName := ⟨"ChanceSteps", "areNames", "(I)Z"⟩
abbrev b_CS_areNames : ByteArray := prog_1_method_29_code
theorem jb_CS_areNames : jcB y_CS_areNames b_CS_areNames 1 (some .boolean) 1 := ⟨jmem 103 (by decide +kernel) rfl, jmem 969 (by decide +kernel) rfl, ⟨by decide +kernel, by decide +kernel⟩, by decide +kernel⟩
def y_CS_back : MethodName := ⟨"ChanceSteps", "back", "()I"⟩
abbrev b_CS_back : ByteArray := prog_1_method_22_code
theorem jb_CS_back : jcB y_CS_back b_CS_back 1 (some .int) 0 := ⟨jmem 103 (by decide +kernel) rfl, jmem 1068 (by decide +kernel) rfl, ⟨by decide +kernel, by decide +kernel⟩, by decide +kernel⟩
def y_CS_cell : MethodName := ⟨"ChanceSteps", "cell", "(III)I"⟩
abbrev b_CS_cell : ByteArray := prog_1_method_25_code
theorem jb_CS_cell : jcB y_CS_cell b_CS_cell 5 (some .int) 3 := ⟨jmem 103 (by decide +kernel) rfl, jmem 1080 (by decide +kernel) rfl, ⟨by decide +kernel, by decide +kernel⟩, by decide +kernel⟩
def y_CS_comes : MethodName := ⟨"ChanceSteps", "comes", "(II)I"⟩
abbrev b_CS_comes : ByteArray := prog_1_method_17_code
theorem jb_CS_comes : jcB y_CS_comes b_CS_comes 4 (some .int) 2 := ⟨jmem 103 (by decide +kernel) rfl, jmem 987 (by decide +kernel) rfl, ⟨by decide +kernel, by decide +kernel⟩, by decide +kernel⟩
def y_CS_copy : MethodName := ⟨"ChanceSteps", "copy", "(IIIII)I"⟩
abbrev b_CS_copy : ByteArray := prog_1_method_26_code
theorem jb_CS_copy : jcB y_CS_copy b_CS_copy 8 (some .int) 5 := ⟨jmem 103 (by decide +kernel) rfl, jmem 1084 (by decide +kernel) rfl, ⟨by decide +kernel, by decide +kernel⟩, by decide +kernel⟩
def y_CS_count : MethodName := ⟨"ChanceSteps", "count", "(I)I"⟩
abbrev b_CS_count : ByteArray := prog_1_method_23_code
theorem jb_CS_count : jcB y_CS_count b_CS_count 2 (some .int) 1 := ⟨jmem 103 (by decide +kernel) rfl, jmem 1072 (by decide +kernel) rfl, ⟨by decide +kernel, by decide +kernel⟩, by decide +kernel⟩
def y_CS_digitAt : MethodName := ⟨"ChanceSteps", "digitAt", "(II)I"⟩
abbrev b_CS_digitAt : ByteArray := prog_1_method_48_code
theorem jb_CS_digitAt : jcB y_CS_digitAt b_CS_digitAt 2 (some .int) 2 := ⟨jmem 103 (by decide +kernel) rfl, jmem 674 (by decide +kernel) rfl, ⟨by decide +kernel, by decide +kernel⟩, by decide +kernel⟩
def y_CS_divisorOf : MethodName := ⟨"ChanceSteps", "divisorOf", "(JJ)J"⟩
abbrev b_CS_divisorOf : ByteArray := prog_1_method_43_code
theorem jb_CS_divisorOf : jcB y_CS_divisorOf b_CS_divisorOf 11 (some .long) 2 := ⟨jmem 103 (by decide +kernel) rfl, jmem 916 (by decide +kernel) rfl, ⟨by decide +kernel, by decide +kernel⟩, by decide +kernel⟩
def y_CS_endOf : MethodName := ⟨"ChanceSteps", "endOf", "(I)LChanceSteps$Crowd;"⟩
abbrev b_CS_endOf : ByteArray := prog_1_method_36_code
theorem jb_CS_endOf : jcB y_CS_endOf b_CS_endOf 2 (some (.object "ChanceSteps$Crowd")) 1 := ⟨jmem 103 (by decide +kernel) rfl, jmem 692 (by decide +kernel) rfl, ⟨by decide +kernel, by decide +kernel⟩, by decide +kernel⟩
def y_CS_feed : MethodName := ⟨"ChanceSteps", "feed", "(IIIIII)I"⟩
abbrev b_CS_feed : ByteArray := prog_1_method_2_code
theorem jb_CS_feed : jcB y_CS_feed b_CS_feed 8 (some .int) 6 := ⟨jmem 103 (by decide +kernel) rfl, jmem 275 (by decide +kernel) rfl, ⟨by decide +kernel, by decide +kernel⟩, by decide +kernel⟩
def y_CS_film : MethodName := ⟨"ChanceSteps", "film", "(III)I"⟩
abbrev b_CS_film : ByteArray := prog_1_method_20_code
theorem jb_CS_film : jcB y_CS_film b_CS_film 7 (some .int) 3 := ⟨jmem 103 (by decide +kernel) rfl, jmem 1052 (by decide +kernel) rfl, ⟨by decide +kernel, by decide +kernel⟩, by decide +kernel⟩
def y_CS_firstOtherwise : MethodName := ⟨"ChanceSteps", "firstOtherwise", "(LChanceSteps$Sheet;LChanceSteps$Crowd;I)I"⟩
abbrev b_CS_firstOtherwise : ByteArray := prog_1_method_38_code
theorem jb_CS_firstOtherwise : jcB y_CS_firstOtherwise b_CS_firstOtherwise 5 (some .int) 3 := ⟨jmem 103 (by decide +kernel) rfl, jmem 1028 (by decide +kernel) rfl, ⟨by decide +kernel, by decide +kernel⟩, by decide +kernel⟩
def y_CS_fold : MethodName := ⟨"ChanceSteps", "fold", "(IIII)J"⟩
abbrev b_CS_fold : ByteArray := prog_1_method_11_code
theorem jb_CS_fold : jcB y_CS_fold b_CS_fold 9 (some .long) 4 := ⟨jmem 103 (by decide +kernel) rfl, jmem 937 (by decide +kernel) rfl, ⟨by decide +kernel, by decide +kernel⟩, by decide +kernel⟩
def y_CS_foldedBy : MethodName := ⟨"ChanceSteps", "foldedBy", "(II)J"⟩
abbrev b_CS_foldedBy : ByteArray := prog_1_method_37_code
theorem jb_CS_foldedBy : jcB y_CS_foldedBy b_CS_foldedBy 2 (some .long) 2 := ⟨jmem 103 (by decide +kernel) rfl, jmem 940 (by decide +kernel) rfl, ⟨by decide +kernel, by decide +kernel⟩, by decide +kernel⟩
def y_CS_hundredths : MethodName := ⟨"ChanceSteps", "hundredths", "(JJ)I"⟩
abbrev b_CS_hundredths : ByteArray := prog_1_method_46_code
theorem jb_CS_hundredths : jcB y_CS_hundredths b_CS_hundredths 4 (some .int) 2 := ⟨jmem 103 (by decide +kernel) rfl, jmem 1031 (by decide +kernel) rfl, ⟨by decide +kernel, by decide +kernel⟩, by decide +kernel⟩
def y_CS_image : MethodName := ⟨"ChanceSteps", "image", "()I"⟩
abbrev b_CS_image : ByteArray := prog_1_method_21_code
theorem jb_CS_image : jcB y_CS_image b_CS_image 1 (some .int) 0 := ⟨jmem 103 (by decide +kernel) rfl, jmem 1064 (by decide +kernel) rfl, ⟨by decide +kernel, by decide +kernel⟩, by decide +kernel⟩
def y_CS_isByte : MethodName := ⟨"ChanceSteps", "isByte", "(I)Z"⟩
abbrev b_CS_isByte : ByteArray := prog_1_method_27_code
theorem jb_CS_isByte : jcB y_CS_isByte b_CS_isByte 1 (some .boolean) 1 := ⟨jmem 103 (by decide +kernel) rfl, jmem 278 (by decide +kernel) rfl, ⟨by decide +kernel, by decide +kernel⟩, by decide +kernel⟩
def y_CS_isName : MethodName := ⟨"ChanceSteps", "isName", "(I)Z"⟩
abbrev b_CS_isName : ByteArray := prog_1_method_28_code
theorem jb_CS_isName : jcB y_CS_isName b_CS_isName 1 (some .boolean) 1 := ⟨jmem 103 (by decide +kernel) rfl, jmem 668 (by decide +kernel) rfl, ⟨by decide +kernel, by decide +kernel⟩, by decide +kernel⟩
def y_CS_isOfGroup : MethodName := ⟨"ChanceSteps", "isOfGroup", "(II)Z"⟩
abbrev b_CS_isOfGroup : ByteArray := prog_1_method_34_code
theorem jb_CS_isOfGroup : jcB y_CS_isOfGroup b_CS_isOfGroup 2 (some .boolean) 2 := ⟨jmem 103 (by decide +kernel) rfl, jmem 897 (by decide +kernel) rfl, ⟨by decide +kernel, by decide +kernel⟩, by decide +kernel⟩
def y_CS_isPart : MethodName := ⟨"ChanceSteps", "isPart", "(I)Z"⟩
abbrev b_CS_isPart : ByteArray := prog_1_method_31_code
theorem jb_CS_isPart : jcB y_CS_isPart b_CS_isPart 1 (some .boolean) 1 := ⟨jmem 103 (by decide +kernel) rfl, jmem 904 (by decide +kernel) rfl, ⟨by decide +kernel, by decide +kernel⟩, by decide +kernel⟩
def y_CS_isProgram : MethodName := ⟨"ChanceSteps", "isProgram", "(I)Z"⟩
abbrev b_CS_isProgram : ByteArray := prog_1_method_33_code
theorem jb_CS_isProgram : jcB y_CS_isProgram b_CS_isProgram 2 (some .boolean) 1 := ⟨jmem 103 (by decide +kernel) rfl, jmem 688 (by decide +kernel) rfl, ⟨by decide +kernel, by decide +kernel⟩, by decide +kernel⟩
def y_CS_isSameRatio : MethodName := ⟨"ChanceSteps", "isSameRatio", "(JJJJ)Z"⟩
abbrev b_CS_isSameRatio : ByteArray := prog_1_method_45_code
theorem jb_CS_isSameRatio : jcB y_CS_isSameRatio b_CS_isSameRatio 8 (some .boolean) 4 := ⟨jmem 103 (by decide +kernel) rfl, jmem 962 (by decide +kernel) rfl, ⟨by decide +kernel, by decide +kernel⟩, by decide +kernel⟩
def y_CS_isSheet : MethodName := ⟨"ChanceSteps", "isSheet", "(I)Z"⟩
abbrev b_CS_isSheet : ByteArray := prog_1_method_32_code
theorem jb_CS_isSheet : jcB y_CS_isSheet b_CS_isSheet 1 (some .boolean) 1 := ⟨jmem 103 (by decide +kernel) rfl, jmem 1024 (by decide +kernel) rfl, ⟨by decide +kernel, by decide +kernel⟩, by decide +kernel⟩
def y_CS_isValue : MethodName := ⟨"ChanceSteps", "isValue", "(I)Z"⟩
abbrev b_CS_isValue : ByteArray := prog_1_method_30_code
theorem jb_CS_isValue : jcB y_CS_isValue b_CS_isValue 1 (some .boolean) 1 := ⟨jmem 103 (by decide +kernel) rfl, jmem 671 (by decide +kernel) rfl, ⟨by decide +kernel, by decide +kernel⟩, by decide +kernel⟩
def y_CS_left : MethodName := ⟨"ChanceSteps", "left", "(II)J"⟩
abbrev b_CS_left : ByteArray := prog_1_method_8_code
theorem jb_CS_left : jcB y_CS_left b_CS_left 4 (some .long) 2 := ⟨jmem 103 (by decide +kernel) rfl, jmem 901 (by decide +kernel) rfl, ⟨by decide +kernel, by decide +kernel⟩, by decide +kernel⟩
def y_CS_let : MethodName := ⟨"ChanceSteps", "let", "(II)I"⟩
abbrev b_CS_let : ByteArray := prog_1_method_4_code
theorem jb_CS_let : jcB y_CS_let b_CS_let 4 (some .int) 2 := ⟨jmem 103 (by decide +kernel) rfl, jmem 665 (by decide +kernel) rfl, ⟨by decide +kernel, by decide +kernel⟩, by decide +kernel⟩
def y_CS_likeliest : MethodName := ⟨"ChanceSteps", "likeliest", "(II)I"⟩
abbrev b_CS_likeliest : ByteArray := prog_1_method_12_code
theorem jb_CS_likeliest : jcB y_CS_likeliest b_CS_likeliest 6 (some .int) 2 := ⟨jmem 103 (by decide +kernel) rfl, jmem 944 (by decide +kernel) rfl, ⟨by decide +kernel, by decide +kernel⟩, by decide +kernel⟩
def y_CS_maskOf : MethodName := ⟨"ChanceSteps", "maskOf", "(I)I"⟩
abbrev b_CS_maskOf : ByteArray := prog_1_method_52_code
theorem jb_CS_maskOf : jcB y_CS_maskOf b_CS_maskOf 3 (some .int) 1 := ⟨jmem 103 (by decide +kernel) rfl, jmem 761 (by decide +kernel) rfl, ⟨by decide +kernel, by decide +kernel⟩, by decide +kernel⟩
def y_CS_namesThatTell : MethodName := ⟨"ChanceSteps", "namesThatTell", "(LChanceSteps$Sheet;LChanceSteps$Crowd;)I"⟩
abbrev b_CS_namesThatTell : ByteArray := prog_1_method_41_code
theorem jb_CS_namesThatTell : jcB y_CS_namesThatTell b_CS_namesThatTell 5 (some .int) 2 := ⟨jmem 103 (by decide +kernel) rfl, jmem 1044 (by decide +kernel) rfl, ⟨by decide +kernel, by decide +kernel⟩, by decide +kernel⟩
def y_CS_needed : MethodName := ⟨"ChanceSteps", "needed", "(II)I"⟩
abbrev b_CS_needed : ByteArray := prog_1_method_14_code
theorem jb_CS_needed : jcB y_CS_needed b_CS_needed 4 (some .int) 2 := ⟨jmem 103 (by decide +kernel) rfl, jmem 966 (by decide +kernel) rfl, ⟨by decide +kernel, by decide +kernel⟩, by decide +kernel⟩
def y_CS_odds : MethodName := ⟨"ChanceSteps", "odds", "(IIII)J"⟩
abbrev b_CS_odds : ByteArray := prog_1_method_9_code
theorem jb_CS_odds : jcB y_CS_odds b_CS_odds 6 (some .long) 4 := ⟨jmem 103 (by decide +kernel) rfl, jmem 920 (by decide +kernel) rfl, ⟨by decide +kernel, by decide +kernel⟩, by decide +kernel⟩
def y_CS_often : MethodName := ⟨"ChanceSteps", "often", "(IIIIII)I"⟩
abbrev b_CS_often : ByteArray := prog_1_method_18_code
theorem jb_CS_often : jcB y_CS_often b_CS_often 11 (some .int) 6 := ⟨jmem 103 (by decide +kernel) rfl, jmem 1017 (by decide +kernel) rfl, ⟨by decide +kernel, by decide +kernel⟩, by decide +kernel⟩
def y_CS_packed : MethodName := ⟨"ChanceSteps", "packed", "(I)I"⟩
abbrev b_CS_packed : ByteArray := prog_1_method_50_code
theorem jb_CS_packed : jcB y_CS_packed b_CS_packed 4 (some .int) 1 := ⟨jmem 103 (by decide +kernel) rfl, jmem 929 (by decide +kernel) rfl, ⟨by decide +kernel, by decide +kernel⟩, by decide +kernel⟩
def y_CS_partOf : MethodName := ⟨"ChanceSteps", "partOf", "(JJI)J"⟩
abbrev b_CS_partOf : ByteArray := prog_1_method_44_code
theorem jb_CS_partOf : jcB y_CS_partOf b_CS_partOf 7 (some .long) 3 := ⟨jmem 103 (by decide +kernel) rfl, jmem 913 (by decide +kernel) rfl, ⟨by decide +kernel, by decide +kernel⟩, by decide +kernel⟩
def y_CS_peak : MethodName := ⟨"ChanceSteps", "peak", "(II)I"⟩
abbrev b_CS_peak : ByteArray := prog_1_method_15_code
theorem jb_CS_peak : jcB y_CS_peak b_CS_peak 3 (some .int) 2 := ⟨jmem 103 (by decide +kernel) rfl, jmem 974 (by decide +kernel) rfl, ⟨by decide +kernel, by decide +kernel⟩, by decide +kernel⟩
def y_CS_program : MethodName := ⟨"ChanceSteps", "program", "()I"⟩
abbrev b_CS_program : ByteArray := prog_1_method_3_code
theorem jb_CS_program : jcB y_CS_program b_CS_program 3 (some .int) 0 := ⟨jmem 103 (by decide +kernel) rfl, jmem 286 (by decide +kernel) rfl, ⟨by decide +kernel, by decide +kernel⟩, by decide +kernel⟩
def y_CS_programsThatTell : MethodName := ⟨"ChanceSteps", "programsThatTell", "(LChanceSteps$Sheet;I)I"⟩
abbrev b_CS_programsThatTell : ByteArray := prog_1_method_40_code
theorem jb_CS_programsThatTell : jcB y_CS_programsThatTell b_CS_programsThatTell 5 (some .int) 2 := ⟨jmem 103 (by decide +kernel) rfl, jmem 1036 (by decide +kernel) rfl, ⟨by decide +kernel, by decide +kernel⟩, by decide +kernel⟩
def y_CS_sheet : MethodName := ⟨"ChanceSteps", "sheet", "(III)I"⟩
abbrev b_CS_sheet : ByteArray := prog_1_method_24_code
theorem jb_CS_sheet : jcB y_CS_sheet b_CS_sheet 4 (some .int) 3 := ⟨jmem 103 (by decide +kernel) rfl, jmem 1076 (by decide +kernel) rfl, ⟨by decide +kernel, by decide +kernel⟩, by decide +kernel⟩
def y_CS_shiftOf : MethodName := ⟨"ChanceSteps", "shiftOf", "(I)I"⟩
abbrev b_CS_shiftOf : ByteArray := prog_1_method_47_code
theorem jb_CS_shiftOf : jcB y_CS_shiftOf b_CS_shiftOf 1 (some .int) 1 := ⟨jmem 103 (by decide +kernel) rfl, jmem 680 (by decide +kernel) rfl, ⟨by decide +kernel, by decide +kernel⟩, by decide +kernel⟩
def y_CS_startsThatTell : MethodName := ⟨"ChanceSteps", "startsThatTell", "(LChanceSteps$Sheet;II)I"⟩
abbrev b_CS_startsThatTell : ByteArray := prog_1_method_42_code
theorem jb_CS_startsThatTell : jcB y_CS_startsThatTell b_CS_startsThatTell 9 (some .int) 3 := ⟨jmem 103 (by decide +kernel) rfl, jmem 1048 (by decide +kernel) rfl, ⟨by decide +kernel, by decide +kernel⟩, by decide +kernel⟩
def y_CS_state : MethodName := ⟨"ChanceSteps", "state", "(III)J"⟩
abbrev b_CS_state : ByteArray := prog_1_method_10_code
theorem jb_CS_state : jcB y_CS_state b_CS_state 5 (some .long) 3 := ⟨jmem 103 (by decide +kernel) rfl, jmem 925 (by decide +kernel) rfl, ⟨by decide +kernel, by decide +kernel⟩, by decide +kernel⟩
def y_CS_step : MethodName := ⟨"ChanceSteps", "step", "(III)I"⟩
abbrev b_CS_step : ByteArray := prog_1_method_6_code
theorem jb_CS_step : jcB y_CS_step b_CS_step 5 (some .int) 3 := ⟨jmem 103 (by decide +kernel) rfl, jmem 889 (by decide +kernel) rfl, ⟨by decide +kernel, by decide +kernel⟩, by decide +kernel⟩
def y_CS_taken : MethodName := ⟨"ChanceSteps", "taken", "(III)I"⟩
abbrev b_CS_taken : ByteArray := prog_1_method_7_code
theorem jb_CS_taken : jcB y_CS_taken b_CS_taken 5 (some .int) 3 := ⟨jmem 103 (by decide +kernel) rfl, jmem 894 (by decide +kernel) rfl, ⟨by decide +kernel, by decide +kernel⟩, by decide +kernel⟩
def y_CS_tells : MethodName := ⟨"ChanceSteps", "tells", "(IIII)I"⟩
abbrev b_CS_tells : ByteArray := prog_1_method_19_code
theorem jb_CS_tells : jcB y_CS_tells b_CS_tells 7 (some .int) 4 := ⟨jmem 103 (by decide +kernel) rfl, jmem 1021 (by decide +kernel) rfl, ⟨by decide +kernel, by decide +kernel⟩, by decide +kernel⟩
def y_CS_told : MethodName := ⟨"ChanceSteps", "told", "(II)I"⟩
abbrev b_CS_told : ByteArray := prog_1_method_5_code
theorem jb_CS_told : jcB y_CS_told b_CS_told 5 (some .int) 2 := ⟨jmem 103 (by decide +kernel) rfl, jmem 684 (by decide +kernel) rfl, ⟨by decide +kernel, by decide +kernel⟩, by decide +kernel⟩
def y_CS_unpacked : MethodName := ⟨"ChanceSteps", "unpacked", "(I)I"⟩
abbrev b_CS_unpacked : ByteArray := prog_1_method_51_code
theorem jb_CS_unpacked : jcB y_CS_unpacked b_CS_unpacked 3 (some .int) 1 := ⟨jmem 103 (by decide +kernel) rfl, jmem 951 (by decide +kernel) rfl, ⟨by decide +kernel, by decide +kernel⟩, by decide +kernel⟩
def y_CS_withDigit : MethodName := ⟨"ChanceSteps", "withDigit", "(III)I"⟩
abbrev b_CS_withDigit : ByteArray := prog_1_method_49_code
theorem jb_CS_withDigit : jcB y_CS_withDigit b_CS_withDigit 3 (some .int) 3 := ⟨jmem 103 (by decide +kernel) rfl, jmem 677 (by decide +kernel) rfl, ⟨by decide +kernel, by decide +kernel⟩, by decide +kernel⟩
def y_CS_wouldTell : MethodName := ⟨"ChanceSteps", "wouldTell", "(LChanceSteps$Sheet;LChanceSteps$Crowd;I)Z"⟩
abbrev b_CS_wouldTell : ByteArray := prog_1_method_39_code
theorem jb_CS_wouldTell : jcB y_CS_wouldTell b_CS_wouldTell 4 (some .boolean) 3 := ⟨jmem 103 (by decide +kernel) rfl, jmem 1040 (by decide +kernel) rfl, ⟨by decide +kernel, by decide +kernel⟩, by decide +kernel⟩
def y_Crowd_init : MethodName := ⟨"ChanceSteps$Crowd", "<init>", "()V"⟩
abbrev b_Crowd_init : ByteArray := prog_2_method_1_code
theorem jb_Crowd_init : jcB y_Crowd_init b_Crowd_init 1 none 0 := ⟨jmem 120 (by decide +kernel) rfl, jmem 700 (by decide +kernel) rfl, ⟨by decide +kernel, by decide +kernel⟩, by decide +kernel⟩
def y_Crowd_add : MethodName := ⟨"ChanceSteps$Crowd", "add", "(IJ)V"⟩
abbrev b_Crowd_add : ByteArray := prog_2_method_3_code
theorem jb_Crowd_add : jcB y_Crowd_add b_Crowd_add 4 none 2 := ⟨jmem 120 (by decide +kernel) rfl, jmem 732 (by decide +kernel) rfl, ⟨by decide +kernel, by decide +kernel⟩, by decide +kernel⟩
def y_Crowd_begin : MethodName := ⟨"ChanceSteps$Crowd", "begin", "(I)V"⟩
abbrev b_Crowd_begin : ByteArray := prog_2_method_2_code
theorem jb_Crowd_begin : jcB y_Crowd_begin b_Crowd_begin 2 none 1 := ⟨jmem 120 (by decide +kernel) rfl, jmem 727 (by decide +kernel) rfl, ⟨by decide +kernel, by decide +kernel⟩, by decide +kernel⟩
def y_Crowd_likeliestState : MethodName := ⟨"ChanceSteps$Crowd", "likeliestState", "()I"⟩
abbrev b_Crowd_likeliestState : ByteArray := prog_2_method_6_code
theorem jb_Crowd_likeliestState : jcB y_Crowd_likeliestState b_Crowd_likeliestState 4 (some .int) 0 := ⟨jmem 120 (by decide +kernel) rfl, jmem 948 (by decide +kernel) rfl, ⟨by decide +kernel, by decide +kernel⟩, by decide +kernel⟩
def y_Crowd_spread : MethodName := ⟨"ChanceSteps$Crowd", "spread", "(I[J)V"⟩
abbrev b_Crowd_spread : ByteArray := prog_2_method_7_code
theorem jb_Crowd_spread : jcB y_Crowd_spread b_Crowd_spread 5 none 2 := ⟨jmem 120 (by decide +kernel) rfl, jmem 876 (by decide +kernel) rfl, ⟨by decide +kernel, by decide +kernel⟩, by decide +kernel⟩
def y_Crowd_spreadWhere : MethodName := ⟨"ChanceSteps$Crowd", "spreadWhere", "(III[J)J"⟩
abbrev b_Crowd_spreadWhere : ByteArray := prog_2_method_8_code
theorem jb_Crowd_spreadWhere : jcB y_Crowd_spreadWhere b_Crowd_spreadWhere 9 (some .long) 4 := ⟨jmem 120 (by decide +kernel) rfl, jmem 959 (by decide +kernel) rfl, ⟨by decide +kernel, by decide +kernel⟩, by decide +kernel⟩
def y_Crowd_weight : MethodName := ⟨"ChanceSteps$Crowd", "weight", "()J"⟩
abbrev b_Crowd_weight : ByteArray := prog_2_method_4_code
theorem jb_Crowd_weight : jcB y_Crowd_weight b_Crowd_weight 4 (some .long) 0 := ⟨jmem 120 (by decide +kernel) rfl, jmem 909 (by decide +kernel) rfl, ⟨by decide +kernel, by decide +kernel⟩, by decide +kernel⟩
def y_Crowd_weightOf : MethodName := ⟨"ChanceSteps$Crowd", "weightOf", "(I)J"⟩
abbrev b_Crowd_weightOf : ByteArray := prog_2_method_5_code
theorem jb_Crowd_weightOf : jcB y_Crowd_weightOf b_Crowd_weightOf 3 (some .long) 1 := ⟨jmem 120 (by decide +kernel) rfl, jmem 933 (by decide +kernel) rfl, ⟨by decide +kernel, by decide +kernel⟩, by decide +kernel⟩
def y_Mixer_init : MethodName := ⟨"ChanceSteps$Mixer", "<init>", "()V"⟩
abbrev b_Mixer_init : ByteArray := prog_3_method_1_code
theorem jb_Mixer_init : jcB y_Mixer_init b_Mixer_init 1 none 0 := ⟨jmem 106 (by decide +kernel) rfl, jmem 180 (by decide +kernel) rfl, ⟨by decide +kernel, by decide +kernel⟩, by decide +kernel⟩
def y_Mixer_clear : MethodName := ⟨"ChanceSteps$Mixer", "clear", "()V"⟩
abbrev b_Mixer_clear : ByteArray := prog_3_method_2_code
theorem jb_Mixer_clear : jcB y_Mixer_clear b_Mixer_clear 1 none 0 := ⟨jmem 106 (by decide +kernel) rfl, jmem 769 (by decide +kernel) rfl, ⟨by decide +kernel, by decide +kernel⟩, by decide +kernel⟩
def y_Mixer_pourInto : MethodName := ⟨"ChanceSteps$Mixer", "pourInto", "(LChanceSteps$Crowd;)V"⟩
abbrev b_Mixer_pourInto : ByteArray := prog_3_method_6_code
theorem jb_Mixer_pourInto : jcB y_Mixer_pourInto b_Mixer_pourInto 4 none 1 := ⟨jmem 106 (by decide +kernel) rfl, jmem 791 (by decide +kernel) rfl, ⟨by decide +kernel, by decide +kernel⟩, by decide +kernel⟩
def y_Mixer_put : MethodName := ⟨"ChanceSteps$Mixer", "put", "(IJ)Z"⟩
abbrev b_Mixer_put : ByteArray := prog_3_method_3_code
theorem jb_Mixer_put : jcB y_Mixer_put b_Mixer_put 7 (some .boolean) 2 := ⟨jmem 106 (by decide +kernel) rfl, jmem 782 (by decide +kernel) rfl, ⟨by decide +kernel, by decide +kernel⟩, by decide +kernel⟩
def y_Mixer_putAll : MethodName := ⟨"ChanceSteps$Mixer", "putAll", "(LChanceSteps$Crowd;I)Z"⟩
abbrev b_Mixer_putAll : ByteArray := prog_3_method_5_code
theorem jb_Mixer_putAll : jcB y_Mixer_putAll b_Mixer_putAll 5 (some .boolean) 2 := ⟨jmem 106 (by decide +kernel) rfl, jmem 838 (by decide +kernel) rfl, ⟨by decide +kernel, by decide +kernel⟩, by decide +kernel⟩
def y_Mixer_putNew : MethodName := ⟨"ChanceSteps$Mixer", "putNew", "(IJI)Z"⟩
abbrev b_Mixer_putNew : ByteArray := prog_3_method_4_code
theorem jb_Mixer_putNew : jcB y_Mixer_putNew b_Mixer_putNew 5 (some .boolean) 3 := ⟨jmem 106 (by decide +kernel) rfl, jmem 787 (by decide +kernel) rfl, ⟨by decide +kernel, by decide +kernel⟩, by decide +kernel⟩
def y_Prog_init : MethodName := ⟨"ChanceSteps$Program", "<init>", "()V"⟩
abbrev b_Prog_init : ByteArray := prog_4_method_1_code
theorem jb_Prog_init : jcB y_Prog_init b_Prog_init 2 none 0 := ⟨jmem 110 (by decide +kernel) rfl, jmem 290 (by decide +kernel) rfl, ⟨by decide +kernel, by decide +kernel⟩, by decide +kernel⟩
def y_Prog_addLot : MethodName := ⟨"ChanceSteps$Program", "addLot", "(II)V"⟩
abbrev b_Prog_addLot : ByteArray := prog_4_method_6_code
theorem jb_Prog_addLot : jcB y_Prog_addLot b_Prog_addLot 3 none 2 := ⟨jmem 110 (by decide +kernel) rfl, jmem 601 (by decide +kernel) rfl, ⟨by decide +kernel, by decide +kernel⟩, by decide +kernel⟩
def y_Prog_beginStep : MethodName := ⟨"ChanceSteps$Program", "beginStep", "(II)LChanceSteps$Step;"⟩
abbrev b_Prog_beginStep : ByteArray := prog_4_method_4_code
theorem jb_Prog_beginStep : jcB y_Prog_beginStep b_Prog_beginStep 4 (some (.object "ChanceSteps$Step")) 2 := ⟨jmem 110 (by decide +kernel) rfl, jmem 569 (by decide +kernel) rfl, ⟨by decide +kernel, by decide +kernel⟩, by decide +kernel⟩
def y_Prog_behind : MethodName := ⟨"ChanceSteps$Program", "behind", "(I)I"⟩
abbrev b_Prog_behind : ByteArray := prog_4_method_9_code
theorem jb_Prog_behind : jcB y_Prog_behind b_Prog_behind 2 (some .int) 1 := ⟨jmem 110 (by decide +kernel) rfl, jmem 649 (by decide +kernel) rfl, ⟨by decide +kernel, by decide +kernel⟩, by decide +kernel⟩
def y_Prog_bitsOf : MethodName := ⟨"ChanceSteps$Program", "bitsOf", "(II)I"⟩
abbrev b_Prog_bitsOf : ByteArray := prog_4_method_12_code
theorem jb_Prog_bitsOf : jcB y_Prog_bitsOf b_Prog_bitsOf 5 (some .int) 2 := ⟨jmem 110 (by decide +kernel) rfl, jmem 656 (by decide +kernel) rfl, ⟨by decide +kernel, by decide +kernel⟩, by decide +kernel⟩
def y_Prog_clear : MethodName := ⟨"ChanceSteps$Program", "clear", "()V"⟩
abbrev b_Prog_clear : ByteArray := prog_4_method_2_code
theorem jb_Prog_clear : jcB y_Prog_clear b_Prog_clear 1 none 0 := ⟨jmem 110 (by decide +kernel) rfl, jmem 466 (by decide +kernel) rfl, ⟨by decide +kernel, by decide +kernel⟩, by decide +kernel⟩
def y_Prog_digitOf : MethodName := ⟨"ChanceSteps$Program", "digitOf", "(LChanceSteps$Step;I)I"⟩
abbrev b_Prog_digitOf : ByteArray := prog_4_method_20_code
theorem jb_Prog_digitOf : jcB y_Prog_digitOf b_Prog_digitOf 3 (some .int) 2 := ⟨jmem 110 (by decide +kernel) rfl, jmem 800 (by decide +kernel) rfl, ⟨by decide +kernel, by decide +kernel⟩, by decide +kernel⟩
def y_Prog_emit : MethodName := ⟨"ChanceSteps$Program", "emit", "(I)V"⟩
abbrev b_Prog_emit : ByteArray := prog_4_method_5_code
theorem jb_Prog_emit : jcB y_Prog_emit b_Prog_emit 2 none 1 := ⟨jmem 110 (by decide +kernel) rfl, jmem 625 (by decide +kernel) rfl, ⟨by decide +kernel, by decide +kernel⟩, by decide +kernel⟩
def y_Prog_joined : MethodName := ⟨"ChanceSteps$Program", "joined", "(III)I"⟩
abbrev b_Prog_joined : ByteArray := prog_4_method_21_code
theorem jb_Prog_joined : jcB y_Prog_joined b_Prog_joined 3 (some .int) 3 := ⟨jmem 110 (by decide +kernel) rfl, jmem 807 (by decide +kernel) rfl, ⟨by decide +kernel, by decide +kernel⟩, by decide +kernel⟩
def y_Prog_lotValue : MethodName := ⟨"ChanceSteps$Program", "lotValue", "(LChanceSteps$Step;I)I"⟩
abbrev b_Prog_lotValue : ByteArray := prog_4_method_7_code
theorem jb_Prog_lotValue : jcB y_Prog_lotValue b_Prog_lotValue 4 (some .int) 2 := ⟨jmem 110 (by decide +kernel) rfl, jmem 773 (by decide +kernel) rfl, ⟨by decide +kernel, by decide +kernel⟩, by decide +kernel⟩
def y_Prog_lotWeight : MethodName := ⟨"ChanceSteps$Program", "lotWeight", "(LChanceSteps$Step;I)I"⟩
abbrev b_Prog_lotWeight : ByteArray := prog_4_method_8_code
theorem jb_Prog_lotWeight : jcB y_Prog_lotWeight b_Prog_lotWeight 4 (some .int) 2 := ⟨jmem 110 (by decide +kernel) rfl, jmem 778 (by decide +kernel) rfl, ⟨by decide +kernel, by decide +kernel⟩, by decide +kernel⟩
def y_Prog_neededAhead : MethodName := ⟨"ChanceSteps$Program", "neededAhead", "(IIII)I"⟩
abbrev b_Prog_neededAhead : ByteArray := prog_4_method_16_code
theorem jb_Prog_neededAhead : jcB y_Prog_neededAhead b_Prog_neededAhead 7 (some .int) 4 := ⟨jmem 110 (by decide +kernel) rfl, jmem 745 (by decide +kernel) rfl, ⟨by decide +kernel, by decide +kernel⟩, by decide +kernel⟩
def y_Prog_neededAheadOf : MethodName := ⟨"ChanceSteps$Program", "neededAheadOf", "(III)I"⟩
abbrev b_Prog_neededAheadOf : ByteArray := prog_4_method_17_code
theorem jb_Prog_neededAheadOf : jcB y_Prog_neededAheadOf b_Prog_neededAheadOf 7 (some .int) 3 := ⟨jmem 110 (by decide +kernel) rfl, jmem 749 (by decide +kernel) rfl, ⟨by decide +kernel, by decide +kernel⟩, by decide +kernel⟩
def y_Prog_neededAheadOfTimes : MethodName := ⟨"ChanceSteps$Program", "neededAheadOfTimes", "(IIII)I"⟩
abbrev b_Prog_neededAheadOfTimes : ByteArray := prog_4_method_18_code
theorem jb_Prog_neededAheadOfTimes : jcB y_Prog_neededAheadOfTimes b_Prog_neededAheadOfTimes 7 (some .int) 4 := ⟨jmem 110 (by decide +kernel) rfl, jmem 753 (by decide +kernel) rfl, ⟨by decide +kernel, by decide +kernel⟩, by decide +kernel⟩
def y_Prog_neededFrom : MethodName := ⟨"ChanceSteps$Program", "neededFrom", "(III)I"⟩
abbrev b_Prog_neededFrom : ByteArray := prog_4_method_14_code
theorem jb_Prog_neededFrom : jcB y_Prog_neededFrom b_Prog_neededFrom 4 (some .int) 3 := ⟨jmem 110 (by decide +kernel) rfl, jmem 741 (by decide +kernel) rfl, ⟨by decide +kernel, by decide +kernel⟩, by decide +kernel⟩
def y_Prog_neededFromTimes : MethodName := ⟨"ChanceSteps$Program", "neededFromTimes", "(III)I"⟩
abbrev b_Prog_neededFromTimes : ByteArray := prog_4_method_15_code
theorem jb_Prog_neededFromTimes : jcB y_Prog_neededFromTimes b_Prog_neededFromTimes 4 (some .int) 3 := ⟨jmem 110 (by decide +kernel) rfl, jmem 847 (by decide +kernel) rfl, ⟨by decide +kernel, by decide +kernel⟩, by decide +kernel⟩
def y_Prog_stepAt : MethodName := ⟨"ChanceSteps$Program", "stepAt", "(I)LChanceSteps$Step;"⟩
abbrev b_Prog_stepAt : ByteArray := prog_4_method_3_code
theorem jb_Prog_stepAt : jcB y_Prog_stepAt b_Prog_stepAt 2 (some (.object "ChanceSteps$Step")) 1 := ⟨jmem 110 (by decide +kernel) rfl, jmem 573 (by decide +kernel) rfl, ⟨by decide +kernel, by decide +kernel⟩, by decide +kernel⟩
def y_Prog_turnsOf : MethodName := ⟨"ChanceSteps$Program", "turnsOf", "(II)I"⟩
abbrev b_Prog_turnsOf : ByteArray := prog_4_method_13_code
theorem jb_Prog_turnsOf : jcB y_Prog_turnsOf b_Prog_turnsOf 5 (some .int) 2 := ⟨jmem 110 (by decide +kernel) rfl, jmem 660 (by decide +kernel) rfl, ⟨by decide +kernel, by decide +kernel⟩, by decide +kernel⟩
def y_Prog_valueOf : MethodName := ⟨"ChanceSteps$Program", "valueOf", "(LChanceSteps$Step;I)I"⟩
abbrev b_Prog_valueOf : ByteArray := prog_4_method_19_code
theorem jb_Prog_valueOf : jcB y_Prog_valueOf b_Prog_valueOf 6 (some .int) 2 := ⟨jmem 110 (by decide +kernel) rfl, jmem 804 (by decide +kernel) rfl, ⟨by decide +kernel, by decide +kernel⟩, by decide +kernel⟩
def y_Prog_weigh : MethodName := ⟨"ChanceSteps$Program", "weigh", "([LChanceSteps$Program;)V"⟩
abbrev b_Prog_weigh : ByteArray := prog_4_method_10_code
theorem jb_Prog_weigh : jcB y_Prog_weigh b_Prog_weigh 4 none 1 := ⟨jmem 110 (by decide +kernel) rfl, jmem 641 (by decide +kernel) rfl, ⟨by decide +kernel, by decide +kernel⟩, by decide +kernel⟩
def y_Prog_weighStep : MethodName := ⟨"ChanceSteps$Program", "weighStep", "(LChanceSteps$Step;I[LChanceSteps$Program;)V"⟩
abbrev b_Prog_weighStep : ByteArray := prog_4_method_11_code
theorem jb_Prog_weighStep : jcB y_Prog_weighStep b_Prog_weighStep 5 none 3 := ⟨jmem 110 (by decide +kernel) rfl, jmem 645 (by decide +kernel) rfl, ⟨by decide +kernel, by decide +kernel⟩, by decide +kernel⟩
def y_Read_init : MethodName := ⟨"ChanceSteps$Reader", "<init>", "()V"⟩
abbrev b_Read_init : ByteArray := prog_5_method_1_code
theorem jb_Read_init : jcB y_Read_init b_Read_init 1 none 0 := ⟨jmem 104 (by decide +kernel) rfl, jmem 139 (by decide +kernel) rfl, ⟨by decide +kernel, by decide +kernel⟩, by decide +kernel⟩
def y_Read_advance : MethodName := ⟨"ChanceSteps$Reader", "advance", "()V"⟩
abbrev b_Read_advance : ByteArray := prog_5_method_19_code
theorem jb_Read_advance : jcB y_Read_advance b_Read_advance 1 none 0 := ⟨jmem 104 (by decide +kernel) rfl, jmem 474 (by decide +kernel) rfl, ⟨by decide +kernel, by decide +kernel⟩, by decide +kernel⟩
def y_Read_byteAt : MethodName := ⟨"ChanceSteps$Reader", "byteAt", "(I)I"⟩
abbrev b_Read_byteAt : ByteArray := prog_5_method_18_code
theorem jb_Read_byteAt : jcB y_Read_byteAt b_Read_byteAt 2 (some .int) 1 := ⟨jmem 104 (by decide +kernel) rfl, jmem 478 (by decide +kernel) rfl, ⟨by decide +kernel, by decide +kernel⟩, by decide +kernel⟩
def y_Read_faultOf : MethodName := ⟨"ChanceSteps$Reader", "faultOf", "([IILChanceSteps$Program;I)I"⟩
abbrev b_Read_faultOf : ByteArray := prog_5_method_2_code
theorem jb_Read_faultOf : jcB y_Read_faultOf b_Read_faultOf 5 (some .int) 4 := ⟨jmem 104 (by decide +kernel) rfl, jmem 459 (by decide +kernel) rfl, ⟨by decide +kernel, by decide +kernel⟩, by decide +kernel⟩
def y_Read_isDigit : MethodName := ⟨"ChanceSteps$Reader", "isDigit", "(I)Z"⟩
abbrev b_Read_isDigit : ByteArray := prog_5_method_24_code
theorem jb_Read_isDigit : jcB y_Read_isDigit b_Read_isDigit 1 (some .boolean) 1 := ⟨jmem 104 (by decide +kernel) rfl, jmem 549 (by decide +kernel) rfl, ⟨by decide +kernel, by decide +kernel⟩, by decide +kernel⟩
def y_Read_isLetter : MethodName := ⟨"ChanceSteps$Reader", "isLetter", "(I)Z"⟩
abbrev b_Read_isLetter : ByteArray := prog_5_method_23_code
theorem jb_Read_isLetter : jcB y_Read_isLetter b_Read_isLetter 1 (some .boolean) 1 := ⟨jmem 104 (by decide +kernel) rfl, jmem 481 (by decide +kernel) rfl, ⟨by decide +kernel, by decide +kernel⟩, by decide +kernel⟩
def y_Read_isSign : MethodName := ⟨"ChanceSteps$Reader", "isSign", "(I)Z"⟩
abbrev b_Read_isSign : ByteArray := prog_5_method_17_code
theorem jb_Read_isSign : jcB y_Read_isSign b_Read_isSign 2 (some .boolean) 1 := ⟨jmem 104 (by decide +kernel) rfl, jmem 597 (by decide +kernel) rfl, ⟨by decide +kernel, by decide +kernel⟩, by decide +kernel⟩
def y_Read_isSpelt : MethodName := ⟨"ChanceSteps$Reader", "isSpelt", "(Ljava/lang/String;)Z"⟩
abbrev b_Read_isSpelt : ByteArray := prog_5_method_26_code
theorem jb_Read_isSpelt : jcB y_Read_isSpelt b_Read_isSpelt 4 (some .boolean) 1 := ⟨jmem 104 (by decide +kernel) rfl, jmem 498 (by decide +kernel) rfl, ⟨by decide +kernel, by decide +kernel⟩, by decide +kernel⟩
def y_Read_readBlock : MethodName := ⟨"ChanceSteps$Reader", "readBlock", "()Z"⟩
abbrev b_Read_readBlock : ByteArray := prog_5_method_3_code
theorem jb_Read_readBlock : jcB y_Read_readBlock b_Read_readBlock 2 (some .boolean) 0 := ⟨jmem 104 (by decide +kernel) rfl, jmem 561 (by decide +kernel) rfl, ⟨by decide +kernel, by decide +kernel⟩, by decide +kernel⟩
def y_Read_readBraces : MethodName := ⟨"ChanceSteps$Reader", "readBraces", "()Z"⟩
abbrev b_Read_readBraces : ByteArray := prog_5_method_9_code
theorem jb_Read_readBraces : jcB y_Read_readBraces b_Read_readBraces 1 (some .boolean) 0 := ⟨jmem 104 (by decide +kernel) rfl, jmem 629 (by decide +kernel) rfl, ⟨by decide +kernel, by decide +kernel⟩, by decide +kernel⟩
def y_Read_readComparison : MethodName := ⟨"ChanceSteps$Reader", "readComparison", "(LChanceSteps$Step;)Z"⟩
abbrev b_Read_readComparison : ByteArray := prog_5_method_13_code
theorem jb_Read_readComparison : jcB y_Read_readComparison b_Read_readComparison 4 (some .boolean) 1 := ⟨jmem 104 (by decide +kernel) rfl, jmem 609 (by decide +kernel) rfl, ⟨by decide +kernel, by decide +kernel⟩, by decide +kernel⟩
def y_Read_readFormula : MethodName := ⟨"ChanceSteps$Reader", "readFormula", "(LChanceSteps$Step;)Z"⟩
abbrev b_Read_readFormula : ByteArray := prog_5_method_12_code
theorem jb_Read_readFormula : jcB y_Read_readFormula b_Read_readFormula 3 (some .boolean) 1 := ⟨jmem 104 (by decide +kernel) rfl, jmem 605 (by decide +kernel) rfl, ⟨by decide +kernel, by decide +kernel⟩, by decide +kernel⟩
def y_Read_readLot : MethodName := ⟨"ChanceSteps$Reader", "readLot", "()I"⟩
abbrev b_Read_readLot : ByteArray := prog_5_method_11_code
theorem jb_Read_readLot : jcB y_Read_readLot b_Read_readLot 3 (some .int) 0 := ⟨jmem 104 (by decide +kernel) rfl, jmem 593 (by decide +kernel) rfl, ⟨by decide +kernel, by decide +kernel⟩, by decide +kernel⟩
def y_Read_readLots : MethodName := ⟨"ChanceSteps$Reader", "readLots", "(LChanceSteps$Step;)Z"⟩
abbrev b_Read_readLots : ByteArray := prog_5_method_10_code
theorem jb_Read_readLots : jcB y_Read_readLots b_Read_readLots 6 (some .boolean) 1 := ⟨jmem 104 (by decide +kernel) rfl, jmem 589 (by decide +kernel) rfl, ⟨by decide +kernel, by decide +kernel⟩, by decide +kernel⟩
def y_Read_readName : MethodName := ⟨"ChanceSteps$Reader", "readName", "(LChanceSteps$Step;)Z"⟩
abbrev b_Read_readName : ByteArray := prog_5_method_6_code
theorem jb_Read_readName : jcB y_Read_readName b_Read_readName 2 (some .boolean) 1 := ⟨jmem 104 (by decide +kernel) rfl, jmem 585 (by decide +kernel) rfl, ⟨by decide +kernel, by decide +kernel⟩, by decide +kernel⟩
def y_Read_readNumber : MethodName := ⟨"ChanceSteps$Reader", "readNumber", "(LChanceSteps$Step;I)Z"⟩
abbrev b_Read_readNumber : ByteArray := prog_5_method_7_code
theorem jb_Read_readNumber : jcB y_Read_readNumber b_Read_readNumber 3 (some .boolean) 2 := ⟨jmem 104 (by decide +kernel) rfl, jmem 637 (by decide +kernel) rfl, ⟨by decide +kernel, by decide +kernel⟩, by decide +kernel⟩
def y_Read_readOne : MethodName := ⟨"ChanceSteps$Reader", "readOne", "(LChanceSteps$Step;)Z"⟩
abbrev b_Read_readOne : ByteArray := prog_5_method_16_code
theorem jb_Read_readOne : jcB y_Read_readOne b_Read_readOne 4 (some .boolean) 1 := ⟨jmem 104 (by decide +kernel) rfl, jmem 621 (by decide +kernel) rfl, ⟨by decide +kernel, by decide +kernel⟩, by decide +kernel⟩
def y_Read_readRest : MethodName := ⟨"ChanceSteps$Reader", "readRest", "(LChanceSteps$Step;)Z"⟩
abbrev b_Read_readRest : ByteArray := prog_5_method_5_code
theorem jb_Read_readRest : jcB y_Read_readRest b_Read_readRest 2 (some .boolean) 1 := ⟨jmem 104 (by decide +kernel) rfl, jmem 581 (by decide +kernel) rfl, ⟨by decide +kernel, by decide +kernel⟩, by decide +kernel⟩
def y_Read_readSecond : MethodName := ⟨"ChanceSteps$Reader", "readSecond", "(LChanceSteps$Step;)Z"⟩
abbrev b_Read_readSecond : ByteArray := prog_5_method_8_code
theorem jb_Read_readSecond : jcB y_Read_readSecond b_Read_readSecond 2 (some .boolean) 1 := ⟨jmem 104 (by decide +kernel) rfl, jmem 633 (by decide +kernel) rfl, ⟨by decide +kernel, by decide +kernel⟩, by decide +kernel⟩
def y_Read_readStep : MethodName := ⟨"ChanceSteps$Reader", "readStep", "()Z"⟩
abbrev b_Read_readStep : ByteArray := prog_5_method_4_code
theorem jb_Read_readStep : jcB y_Read_readStep b_Read_readStep 4 (some .boolean) 0 := ⟨jmem 104 (by decide +kernel) rfl, jmem 565 (by decide +kernel) rfl, ⟨by decide +kernel, by decide +kernel⟩, by decide +kernel⟩
def y_Read_readSum : MethodName := ⟨"ChanceSteps$Reader", "readSum", "(LChanceSteps$Step;)Z"⟩
abbrev b_Read_readSum : ByteArray := prog_5_method_14_code
theorem jb_Read_readSum : jcB y_Read_readSum b_Read_readSum 5 (some .boolean) 1 := ⟨jmem 104 (by decide +kernel) rfl, jmem 613 (by decide +kernel) rfl, ⟨by decide +kernel, by decide +kernel⟩, by decide +kernel⟩
def y_Read_readTerm : MethodName := ⟨"ChanceSteps$Reader", "readTerm", "(LChanceSteps$Step;)Z"⟩
abbrev b_Read_readTerm : ByteArray := prog_5_method_15_code
theorem jb_Read_readTerm : jcB y_Read_readTerm b_Read_readTerm 5 (some .boolean) 1 := ⟨jmem 104 (by decide +kernel) rfl, jmem 617 (by decide +kernel) rfl, ⟨by decide +kernel, by decide +kernel⟩, by decide +kernel⟩
def y_Read_takeNumber : MethodName := ⟨"ChanceSteps$Reader", "takeNumber", "()V"⟩
abbrev b_Read_takeNumber : ByteArray := prog_5_method_21_code
theorem jb_Read_takeNumber : jcB y_Read_takeNumber b_Read_takeNumber 2 none 0 := ⟨jmem 104 (by decide +kernel) rfl, jmem 553 (by decide +kernel) rfl, ⟨by decide +kernel, by decide +kernel⟩, by decide +kernel⟩
def y_Read_takeSign : MethodName := ⟨"ChanceSteps$Reader", "takeSign", "()V"⟩
abbrev b_Read_takeSign : ByteArray := prog_5_method_22_code
theorem jb_Read_takeSign : jcB y_Read_takeSign b_Read_takeSign 1 none 0 := ⟨jmem 104 (by decide +kernel) rfl, jmem 557 (by decide +kernel) rfl, ⟨by decide +kernel, by decide +kernel⟩, by decide +kernel⟩
def y_Read_takeWord : MethodName := ⟨"ChanceSteps$Reader", "takeWord", "()V"⟩
abbrev b_Read_takeWord : ByteArray := prog_5_method_20_code
theorem jb_Read_takeWord : jcB y_Read_takeWord b_Read_takeWord 2 none 0 := ⟨jmem 104 (by decide +kernel) rfl, jmem 485 (by decide +kernel) rfl, ⟨by decide +kernel, by decide +kernel⟩, by decide +kernel⟩
def y_Read_wordOf : MethodName := ⟨"ChanceSteps$Reader", "wordOf", "(I)Ljava/lang/String;"⟩
abbrev b_Read_wordOf : ByteArray := prog_5_method_25_code
theorem jb_Read_wordOf : jcB y_Read_wordOf b_Read_wordOf 1 (some (.object "java/lang/String")) 1 := ⟨jmem 104 (by decide +kernel) rfl, jmem 488 (by decide +kernel) rfl, ⟨by decide +kernel, by decide +kernel⟩, by decide +kernel⟩
def y_Runs_init : MethodName := ⟨"ChanceSteps$Runs", "<init>", "()V"⟩
abbrev b_Runs_init : ByteArray := prog_6_method_1_code
theorem jb_Runs_init : jcB y_Runs_init b_Runs_init 1 none 0 := ⟨jmem 111 (by decide +kernel) rfl, jmem 298 (by decide +kernel) rfl, ⟨by decide +kernel, by decide +kernel⟩, by decide +kernel⟩
def y_Runs_clear : MethodName := ⟨"ChanceSteps$Runs", "clear", "()V"⟩
abbrev b_Runs_clear : ByteArray := prog_6_method_2_code
theorem jb_Runs_clear : jcB y_Runs_clear b_Runs_clear 2 none 0 := ⟨jmem 111 (by decide +kernel) rfl, jmem 470 (by decide +kernel) rfl, ⟨by decide +kernel, by decide +kernel⟩, by decide +kernel⟩
def y_Runs_fits : MethodName := ⟨"ChanceSteps$Runs", "fits", "(I)Z"⟩
abbrev b_Runs_fits : ByteArray := prog_6_method_4_code
theorem jb_Runs_fits : jcB y_Runs_fits b_Runs_fits 2 (some .boolean) 1 := ⟨jmem 111 (by decide +kernel) rfl, jmem 881 (by decide +kernel) rfl, ⟨by decide +kernel, by decide +kernel⟩, by decide +kernel⟩
def y_Runs_isKnown : MethodName := ⟨"ChanceSteps$Runs", "isKnown", "(I)Z"⟩
abbrev b_Runs_isKnown : ByteArray := prog_6_method_3_code
theorem jb_Runs_isKnown : jcB y_Runs_isKnown b_Runs_isKnown 2 (some .boolean) 1 := ⟨jmem 111 (by decide +kernel) rfl, jmem 863 (by decide +kernel) rfl, ⟨by decide +kernel, by decide +kernel⟩, by decide +kernel⟩
def y_Runs_keep : MethodName := ⟨"ChanceSteps$Runs", "keep", "(ILChanceSteps$Crowd;Z)V"⟩
abbrev b_Runs_keep : ByteArray := prog_6_method_6_code
theorem jb_Runs_keep : jcB y_Runs_keep b_Runs_keep 5 none 3 := ⟨jmem 111 (by decide +kernel) rfl, jmem 872 (by decide +kernel) rfl, ⟨by decide +kernel, by decide +kernel⟩, by decide +kernel⟩
def y_Runs_weight : MethodName := ⟨"ChanceSteps$Runs", "weight", "(II)J"⟩
abbrev b_Runs_weight : ByteArray := prog_6_method_5_code
theorem jb_Runs_weight : jcB y_Runs_weight b_Runs_weight 3 (some .long) 2 := ⟨jmem 111 (by decide +kernel) rfl, jmem 885 (by decide +kernel) rfl, ⟨by decide +kernel, by decide +kernel⟩, by decide +kernel⟩
def y_Sheet_init : MethodName := ⟨"ChanceSteps$Sheet", "<init>", "()V"⟩
abbrev b_Sheet_init : ByteArray := prog_7_method_1_code
theorem jb_Sheet_init : jcB y_Sheet_init b_Sheet_init 1 none 0 := ⟨jmem 107 (by decide +kernel) rfl, jmem 217 (by decide +kernel) rfl, ⟨by decide +kernel, by decide +kernel⟩, by decide +kernel⟩
def y_Sheet_become : MethodName := ⟨"ChanceSteps$Sheet", "become", "(II)V"⟩
abbrev b_Sheet_become : ByteArray := prog_7_method_2_code
theorem jb_Sheet_become : jcB y_Sheet_become b_Sheet_become 4 none 2 := ⟨jmem 107 (by decide +kernel) rfl, jmem 1056 (by decide +kernel) rfl, ⟨by decide +kernel, by decide +kernel⟩, by decide +kernel⟩
def y_Sheet_hasRoom : MethodName := ⟨"ChanceSteps$Sheet", "hasRoom", "(II)Z"⟩
abbrev b_Sheet_hasRoom : ByteArray := prog_7_method_4_code
theorem jb_Sheet_hasRoom : jcB y_Sheet_hasRoom b_Sheet_hasRoom 3 (some .boolean) 2 := ⟨jmem 107 (by decide +kernel) rfl, jmem 1088 (by decide +kernel) rfl, ⟨by decide +kernel, by decide +kernel⟩, by decide +kernel⟩
def y_Sheet_write : MethodName := ⟨"ChanceSteps$Sheet", "write", "(II)V"⟩
abbrev b_Sheet_write : ByteArray := prog_7_method_3_code
theorem jb_Sheet_write : jcB y_Sheet_write b_Sheet_write 3 none 2 := ⟨jmem 107 (by decide +kernel) rfl, jmem 1060 (by decide +kernel) rfl, ⟨by decide +kernel, by decide +kernel⟩, by decide +kernel⟩
def y_Step_init : MethodName := ⟨"ChanceSteps$Step", "<init>", "()V"⟩
abbrev b_Step_init : ByteArray := prog_8_method_1_code
theorem jb_Step_init : jcB y_Step_init b_Step_init 1 none 0 := ⟨jmem 112 (by decide +kernel) rfl, jmem 313 (by decide +kernel) rfl, ⟨by decide +kernel, by decide +kernel⟩, by decide +kernel⟩
def y_Step_begin : MethodName := ⟨"ChanceSteps$Step", "begin", "(II)V"⟩
abbrev b_Step_begin : ByteArray := prog_8_method_2_code
theorem jb_Step_begin : jcB y_Step_begin b_Step_begin 3 none 2 := ⟨jmem 112 (by decide +kernel) rfl, jmem 577 (by decide +kernel) rfl, ⟨by decide +kernel, by decide +kernel⟩, by decide +kernel⟩
def y_Walk_init : MethodName := ⟨"ChanceSteps$Walker", "<init>", "()V"⟩
abbrev b_Walk_init : ByteArray := prog_9_method_1_code
theorem jb_Walk_init : jcB y_Walk_init b_Walk_init 1 none 0 := ⟨jmem 105 (by decide +kernel) rfl, jmem 174 (by decide +kernel) rfl, ⟨by decide +kernel, by decide +kernel⟩, by decide +kernel⟩
def y_Walk_canRun : MethodName := ⟨"ChanceSteps$Walker", "canRun", "(LChanceSteps$Program;LChanceSteps$Step;LChanceSteps$Crowd;LChanceSteps$Program;I)Z"⟩
abbrev b_Walk_canRun : ByteArray := prog_9_method_16_code
theorem jb_Walk_canRun : jcB y_Walk_canRun b_Walk_canRun 9 (some .boolean) 5 := ⟨jmem 105 (by decide +kernel) rfl, jmem 859 (by decide +kernel) rfl, ⟨by decide +kernel, by decide +kernel⟩, by decide +kernel⟩
def y_Walk_comingBy : MethodName := ⟨"ChanceSteps$Walker", "comingBy", "(LChanceSteps$Program;II)I"⟩
abbrev b_Walk_comingBy : ByteArray := prog_9_method_18_code
theorem jb_Walk_comingBy : jcB y_Walk_comingBy b_Walk_comingBy 4 (some .int) 3 := ⟨jmem 105 (by decide +kernel) rfl, jmem 991 (by decide +kernel) rfl, ⟨by decide +kernel, by decide +kernel⟩, by decide +kernel⟩
def y_Walk_drawn : MethodName := ⟨"ChanceSteps$Walker", "drawn", "(LChanceSteps$Program;LChanceSteps$Step;)I"⟩
abbrev b_Walk_drawn : ByteArray := prog_9_method_21_code
theorem jb_Walk_drawn : jcB y_Walk_drawn b_Walk_drawn 6 (some .int) 2 := ⟨jmem 105 (by decide +kernel) rfl, jmem 1003 (by decide +kernel) rfl, ⟨by decide +kernel, by decide +kernel⟩, by decide +kernel⟩
def y_Walk_endFrom : MethodName := ⟨"ChanceSteps$Walker", "endFrom", "(LChanceSteps$Program;I)LChanceSteps$Crowd;"⟩
abbrev b_Walk_endFrom : ByteArray := prog_9_method_2_code
theorem jb_Walk_endFrom : jcB y_Walk_endFrom b_Walk_endFrom 3 (some (.object "ChanceSteps$Crowd")) 2 := ⟨jmem 105 (by decide +kernel) rfl, jmem 696 (by decide +kernel) rfl, ⟨by decide +kernel, by decide +kernel⟩, by decide +kernel⟩
def y_Walk_followBlock : MethodName := ⟨"ChanceSteps$Walker", "followBlock", "(LChanceSteps$Program;IIII)I"⟩
abbrev b_Walk_followBlock : ByteArray := prog_9_method_19_code
theorem jb_Walk_followBlock : jcB y_Walk_followBlock b_Walk_followBlock 9 (some .int) 5 := ⟨jmem 105 (by decide +kernel) rfl, jmem 995 (by decide +kernel) rfl, ⟨by decide +kernel, by decide +kernel⟩, by decide +kernel⟩
def y_Walk_followLoop : MethodName := ⟨"ChanceSteps$Walker", "followLoop", "(LChanceSteps$Program;III)I"⟩
abbrev b_Walk_followLoop : ByteArray := prog_9_method_22_code
theorem jb_Walk_followLoop : jcB y_Walk_followLoop b_Walk_followLoop 8 (some .int) 4 := ⟨jmem 105 (by decide +kernel) rfl, jmem 1008 (by decide +kernel) rfl, ⟨by decide +kernel, by decide +kernel⟩, by decide +kernel⟩
def y_Walk_followRun : MethodName := ⟨"ChanceSteps$Walker", "followRun", "(LChanceSteps$Program;LChanceSteps$Step;II)I"⟩
abbrev b_Walk_followRun : ByteArray := prog_9_method_23_code
theorem jb_Walk_followRun : jcB y_Walk_followRun b_Walk_followRun 8 (some .int) 4 := ⟨jmem 105 (by decide +kernel) rfl, jmem 1012 (by decide +kernel) rfl, ⟨by decide +kernel, by decide +kernel⟩, by decide +kernel⟩
def y_Walk_followStep : MethodName := ⟨"ChanceSteps$Walker", "followStep", "(LChanceSteps$Program;III)I"⟩
abbrev b_Walk_followStep : ByteArray := prog_9_method_20_code
theorem jb_Walk_followStep : jcB y_Walk_followStep b_Walk_followStep 6 (some .int) 4 := ⟨jmem 105 (by decide +kernel) rfl, jmem 999 (by decide +kernel) rfl, ⟨by decide +kernel, by decide +kernel⟩, by decide +kernel⟩
def y_Walk_forget : MethodName := ⟨"ChanceSteps$Walker", "forget", "(LChanceSteps$Crowd;I)Z"⟩
abbrev b_Walk_forget : ByteArray := prog_9_method_14_code
theorem jb_Walk_forget : jcB y_Walk_forget b_Walk_forget 4 (some .boolean) 2 := ⟨jmem 105 (by decide +kernel) rfl, jmem 851 (by decide +kernel) rfl, ⟨by decide +kernel, by decide +kernel⟩, by decide +kernel⟩
def y_Walk_giveBack : MethodName := ⟨"ChanceSteps$Walker", "giveBack", "()V"⟩
abbrev b_Walk_giveBack : ByteArray := prog_9_method_5_code
theorem jb_Walk_giveBack : jcB y_Walk_giveBack b_Walk_giveBack 1 none 0 := ⟨jmem 105 (by decide +kernel) rfl, jmem 833 (by decide +kernel) rfl, ⟨by decide +kernel, by decide +kernel⟩, by decide +kernel⟩
def y_Walk_lend : MethodName := ⟨"ChanceSteps$Walker", "lend", "()LChanceSteps$Crowd;"⟩
abbrev b_Walk_lend : ByteArray := prog_9_method_4_code
theorem jb_Walk_lend : jcB y_Walk_lend b_Walk_lend 1 (some (.object "ChanceSteps$Crowd")) 0 := ⟨jmem 105 (by decide +kernel) rfl, jmem 824 (by decide +kernel) rfl, ⟨by decide +kernel, by decide +kernel⟩, by decide +kernel⟩
def y_Walk_mostAtOnce : MethodName := ⟨"ChanceSteps$Walker", "mostAtOnce", "(LChanceSteps$Program;II)I"⟩
abbrev b_Walk_mostAtOnce : ByteArray := prog_9_method_3_code
theorem jb_Walk_mostAtOnce : jcB y_Walk_mostAtOnce b_Walk_mostAtOnce 6 (some .int) 3 := ⟨jmem 105 (by decide +kernel) rfl, jmem 978 (by decide +kernel) rfl, ⟨by decide +kernel, by decide +kernel⟩, by decide +kernel⟩
def y_Walk_split : MethodName := ⟨"ChanceSteps$Walker", "split", "(LChanceSteps$Program;LChanceSteps$Step;LChanceSteps$Crowd;LChanceSteps$Crowd;)V"⟩
abbrev b_Walk_split : ByteArray := prog_9_method_12_code
theorem jb_Walk_split : jcB y_Walk_split b_Walk_split 8 none 4 := ⟨jmem 105 (by decide +kernel) rfl, jmem 828 (by decide +kernel) rfl, ⟨by decide +kernel, by decide +kernel⟩, by decide +kernel⟩
def y_Walk_walkBlock : MethodName := ⟨"ChanceSteps$Walker", "walkBlock", "(LChanceSteps$Program;IILChanceSteps$Crowd;II)Z"⟩
abbrev b_Walk_walkBlock : ByteArray := prog_9_method_6_code
theorem jb_Walk_walkBlock : jcB y_Walk_walkBlock b_Walk_walkBlock 12 (some .boolean) 6 := ⟨jmem 105 (by decide +kernel) rfl, jmem 736 (by decide +kernel) rfl, ⟨by decide +kernel, by decide +kernel⟩, by decide +kernel⟩
def y_Walk_walkDraw : MethodName := ⟨"ChanceSteps$Walker", "walkDraw", "(LChanceSteps$Program;LChanceSteps$Step;LChanceSteps$Crowd;I)Z"⟩
abbrev b_Walk_walkDraw : ByteArray := prog_9_method_8_code
theorem jb_Walk_walkDraw : jcB y_Walk_walkDraw b_Walk_walkDraw 10 (some .boolean) 4 := ⟨jmem 105 (by decide +kernel) rfl, jmem 765 (by decide +kernel) rfl, ⟨by decide +kernel, by decide +kernel⟩, by decide +kernel⟩
def y_Walk_walkIf : MethodName := ⟨"ChanceSteps$Walker", "walkIf", "(LChanceSteps$Program;ILChanceSteps$Crowd;II)Z"⟩
abbrev b_Walk_walkIf : ByteArray := prog_9_method_11_code
theorem jb_Walk_walkIf : jcB y_Walk_walkIf b_Walk_walkIf 9 (some .boolean) 5 := ⟨jmem 105 (by decide +kernel) rfl, jmem 820 (by decide +kernel) rfl, ⟨by decide +kernel, by decide +kernel⟩, by decide +kernel⟩
def y_Walk_walkLet : MethodName := ⟨"ChanceSteps$Walker", "walkLet", "(LChanceSteps$Program;LChanceSteps$Step;LChanceSteps$Crowd;I)Z"⟩
abbrev b_Walk_walkLet : ByteArray := prog_9_method_9_code
theorem jb_Walk_walkLet : jcB y_Walk_walkLet b_Walk_walkLet 7 (some .boolean) 4 := ⟨jmem 105 (by decide +kernel) rfl, jmem 796 (by decide +kernel) rfl, ⟨by decide +kernel, by decide +kernel⟩, by decide +kernel⟩
def y_Walk_walkLoop : MethodName := ⟨"ChanceSteps$Walker", "walkLoop", "(LChanceSteps$Program;ILChanceSteps$Crowd;II)Z"⟩
abbrev b_Walk_walkLoop : ByteArray := prog_9_method_13_code
theorem jb_Walk_walkLoop : jcB y_Walk_walkLoop b_Walk_walkLoop 10 (some .boolean) 5 := ⟨jmem 105 (by decide +kernel) rfl, jmem 843 (by decide +kernel) rfl, ⟨by decide +kernel, by decide +kernel⟩, by decide +kernel⟩
def y_Walk_walkRun : MethodName := ⟨"ChanceSteps$Walker", "walkRun", "(LChanceSteps$Program;LChanceSteps$Step;LChanceSteps$Crowd;II)Z"⟩
abbrev b_Walk_walkRun : ByteArray := prog_9_method_15_code
theorem jb_Walk_walkRun : jcB y_Walk_walkRun b_Walk_walkRun 15 (some .boolean) 5 := ⟨jmem 105 (by decide +kernel) rfl, jmem 855 (by decide +kernel) rfl, ⟨by decide +kernel, by decide +kernel⟩, by decide +kernel⟩
def y_Walk_walkSee : MethodName := ⟨"ChanceSteps$Walker", "walkSee", "(LChanceSteps$Program;LChanceSteps$Step;LChanceSteps$Crowd;I)Z"⟩
abbrev b_Walk_walkSee : ByteArray := prog_9_method_10_code
theorem jb_Walk_walkSee : jcB y_Walk_walkSee b_Walk_walkSee 7 (some .boolean) 4 := ⟨jmem 105 (by decide +kernel) rfl, jmem 815 (by decide +kernel) rfl, ⟨by decide +kernel, by decide +kernel⟩, by decide +kernel⟩
def y_Walk_walkStep : MethodName := ⟨"ChanceSteps$Walker", "walkStep", "(LChanceSteps$Program;ILChanceSteps$Crowd;II)Z"⟩
abbrev b_Walk_walkStep : ByteArray := prog_9_method_7_code
theorem jb_Walk_walkStep : jcB y_Walk_walkStep b_Walk_walkStep 7 (some .boolean) 5 := ⟨jmem 105 (by decide +kernel) rfl, jmem 757 (by decide +kernel) rfl, ⟨by decide +kernel, by decide +kernel⟩, by decide +kernel⟩
def y_Walk_walkWhole : MethodName := ⟨"ChanceSteps$Walker", "walkWhole", "(LChanceSteps$Program;II)V"⟩
abbrev b_Walk_walkWhole : ByteArray := prog_9_method_17_code
theorem jb_Walk_walkWhole : jcB y_Walk_walkWhole b_Walk_walkWhole 6 none 3 := ⟨jmem 105 (by decide +kernel) rfl, jmem 868 (by decide +kernel) rfl, ⟨by decide +kernel, by decide +kernel⟩, by decide +kernel⟩
def y_Mo_init : MethodName := ⟨"ChanceStepsModel", "<init>", "()V"⟩
abbrev b_Mo_init : ByteArray := prog_11_method_1_code
theorem jb_Mo_init : jcB y_Mo_init b_Mo_init 2 none 0 := ⟨jmem 108 (by decide +kernel) rfl, jmem 1096 (by decide +kernel) rfl, ⟨by decide +kernel, by decide +kernel⟩, by decide +kernel⟩
def y_Mo_against : MethodName := ⟨"ChanceStepsModel", "against", "(LChanceStepsModel$Odds;)I"⟩
abbrev b_Mo_against : ByteArray := prog_11_method_62_code
theorem jb_Mo_against : jcB y_Mo_against b_Mo_against 2 (some .int) 1 := ⟨jmem 108 (by decide +kernel) rfl, jmem 1578 (by decide +kernel) rfl, ⟨by decide +kernel, by decide +kernel⟩, by decide +kernel⟩
def y_Mo_alike : MethodName := ⟨"ChanceStepsModel", "alike", "(II)I"⟩
abbrev b_Mo_alike : ByteArray := prog_11_method_71_code
theorem jb_Mo_alike : jcB y_Mo_alike b_Mo_alike 8 (some .int) 2 := ⟨jmem 108 (by decide +kernel) rfl, jmem 1611 (by decide +kernel) rfl, ⟨by decide +kernel, by decide +kernel⟩, by decide +kernel⟩
def y_Mo_apart : MethodName := ⟨"ChanceStepsModel", "apart", "(III)I"⟩
abbrev b_Mo_apart : ByteArray := prog_11_method_70_code
theorem jb_Mo_apart : jcB y_Mo_apart b_Mo_apart 12 (some .int) 3 := ⟨jmem 108 (by decide +kernel) rfl, jmem 1601 (by decide +kernel) rfl, ⟨by decide +kernel, by decide +kernel⟩, by decide +kernel⟩
def y_Mo_areSame : MethodName := ⟨"ChanceStepsModel", "areSame", "(JJJJ)Z"⟩
abbrev b_Mo_areSame : ByteArray := prog_11_method_69_code
theorem jb_Mo_areSame : jcB y_Mo_areSame b_Mo_areSame 8 (some .boolean) 4 := ⟨jmem 108 (by decide +kernel) rfl, jmem 1607 (by decide +kernel) rfl, ⟨by decide +kernel, by decide +kernel⟩, by decide +kernel⟩
def y_Mo_back : MethodName := ⟨"ChanceStepsModel", "back", "()I"⟩
abbrev b_Mo_back : ByteArray := prog_11_method_83_code
theorem jb_Mo_back : jcB y_Mo_back b_Mo_back 1 (some .int) 0 := ⟨jmem 108 (by decide +kernel) rfl, jmem 1664 (by decide +kernel) rfl, ⟨by decide +kernel, by decide +kernel⟩, by decide +kernel⟩
def y_Mo_bitsOf : MethodName := ⟨"ChanceStepsModel", "bitsOf", "(III)I"⟩
abbrev b_Mo_bitsOf : ByteArray := prog_11_method_24_code
theorem jb_Mo_bitsOf : jcB y_Mo_bitsOf b_Mo_bitsOf 6 (some .int) 3 := ⟨jmem 108 (by decide +kernel) rfl, jmem 1401 (by decide +kernel) rfl, ⟨by decide +kernel, by decide +kernel⟩, by decide +kernel⟩
def y_Mo_bitsOfStep : MethodName := ⟨"ChanceStepsModel", "bitsOfStep", "(II)I"⟩
abbrev b_Mo_bitsOfStep : ByteArray := prog_11_method_25_code
theorem jb_Mo_bitsOfStep : jcB y_Mo_bitsOfStep b_Mo_bitsOfStep 3 (some .int) 2 := ⟨jmem 108 (by decide +kernel) rfl, jmem 1405 (by decide +kernel) rfl, ⟨by decide +kernel, by decide +kernel⟩, by decide +kernel⟩
def y_Mo_block : MethodName := ⟨"ChanceStepsModel", "block", "()V"⟩
abbrev b_Mo_block : ByteArray := prog_11_method_14_code
theorem jb_Mo_block : jcB y_Mo_block b_Mo_block 1 none 0 := ⟨jmem 108 (by decide +kernel) rfl, jmem 1353 (by decide +kernel) rfl, ⟨by decide +kernel, by decide +kernel⟩, by decide +kernel⟩
def y_Mo_both : MethodName := ⟨"ChanceStepsModel", "both", "(LChanceStepsModel$Odds;IIII)J"⟩
abbrev b_Mo_both : ByteArray := prog_11_method_68_code
theorem jb_Mo_both : jcB y_Mo_both b_Mo_both 8 (some .long) 5 := ⟨jmem 108 (by decide +kernel) rfl, jmem 1604 (by decide +kernel) rfl, ⟨by decide +kernel, by decide +kernel⟩, by decide +kernel⟩
def y_Mo_byteAt : MethodName := ⟨"ChanceStepsModel", "byteAt", "(I)I"⟩
abbrev b_Mo_byteAt : ByteArray := prog_11_method_7_code
theorem jb_Mo_byteAt : jcB y_Mo_byteAt b_Mo_byteAt 2 (some .int) 1 := ⟨jmem 108 (by decide +kernel) rfl, jmem 1277 (by decide +kernel) rfl, ⟨by decide +kernel, by decide +kernel⟩, by decide +kernel⟩
def y_Mo_cell : MethodName := ⟨"ChanceStepsModel", "cell", "(III)I"⟩
abbrev b_Mo_cell : ByteArray := prog_11_method_87_code
theorem jb_Mo_cell : jcB y_Mo_cell b_Mo_cell 4 (some .int) 3 := ⟨jmem 108 (by decide +kernel) rfl, jmem 1676 (by decide +kernel) rfl, ⟨by decide +kernel, by decide +kernel⟩, by decide +kernel⟩
def y_Mo_choose : MethodName := ⟨"ChanceStepsModel", "choose", "(IILChanceStepsModel$Odds;I)LChanceStepsModel$Odds;"⟩
abbrev b_Mo_choose : ByteArray := prog_11_method_44_code
theorem jb_Mo_choose : jcB y_Mo_choose b_Mo_choose 9 (some (.object "ChanceStepsModel$Odds")) 4 := ⟨jmem 108 (by decide +kernel) rfl, jmem 1527 (by decide +kernel) rfl, ⟨by decide +kernel, by decide +kernel⟩, by decide +kernel⟩
def y_Mo_come : MethodName := ⟨"ChanceStepsModel", "come", "(IIII)I"⟩
abbrev b_Mo_come : ByteArray := prog_11_method_72_code
theorem jb_Mo_come : jcB y_Mo_come b_Mo_come 7 (some .int) 4 := ⟨jmem 108 (by decide +kernel) rfl, jmem 1623 (by decide +kernel) rfl, ⟨by decide +kernel, by decide +kernel⟩, by decide +kernel⟩
def y_Mo_comeStep : MethodName := ⟨"ChanceStepsModel", "comeStep", "(III)I"⟩
abbrev b_Mo_comeStep : ByteArray := prog_11_method_73_code
theorem jb_Mo_comeStep : jcB y_Mo_comeStep b_Mo_comeStep 10 (some .int) 3 := ⟨jmem 108 (by decide +kernel) rfl, jmem 1627 (by decide +kernel) rfl, ⟨by decide +kernel, by decide +kernel⟩, by decide +kernel⟩
def y_Mo_comes : MethodName := ⟨"ChanceStepsModel", "comes", "(II)I"⟩
abbrev b_Mo_comes : ByteArray := prog_11_method_75_code
theorem jb_Mo_comes : jcB y_Mo_comes b_Mo_comes 3 (some .int) 2 := ⟨jmem 108 (by decide +kernel) rfl, jmem 1615 (by decide +kernel) rfl, ⟨by decide +kernel, by decide +kernel⟩, by decide +kernel⟩
def y_Mo_comesBy : MethodName := ⟨"ChanceStepsModel", "comesBy", "(II)I"⟩
abbrev b_Mo_comesBy : ByteArray := prog_11_method_74_code
theorem jb_Mo_comesBy : jcB y_Mo_comesBy b_Mo_comesBy 3 (some .int) 2 := ⟨jmem 108 (by decide +kernel) rfl, jmem 1619 (by decide +kernel) rfl, ⟨by decide +kernel, by decide +kernel⟩, by decide +kernel⟩
def y_Mo_copy : MethodName := ⟨"ChanceStepsModel", "copy", "(IIIII)I"⟩
abbrev b_Mo_copy : ByteArray := prog_11_method_88_code
theorem jb_Mo_copy : jcB y_Mo_copy b_Mo_copy 6 (some .int) 5 := ⟨jmem 108 (by decide +kernel) rfl, jmem 1680 (by decide +kernel) rfl, ⟨by decide +kernel, by decide +kernel⟩, by decide +kernel⟩
def y_Mo_count : MethodName := ⟨"ChanceStepsModel", "count", "(I)I"⟩
abbrev b_Mo_count : ByteArray := prog_11_method_84_code
theorem jb_Mo_count : jcB y_Mo_count b_Mo_count 2 (some .int) 1 := ⟨jmem 108 (by decide +kernel) rfl, jmem 1668 (by decide +kernel) rfl, ⟨by decide +kernel, by decide +kernel⟩, by decide +kernel⟩
def y_Mo_digit : MethodName := ⟨"ChanceStepsModel", "digit", "(I)I"⟩
abbrev b_Mo_digit : ByteArray := prog_11_method_35_code
theorem jb_Mo_digit : jcB y_Mo_digit b_Mo_digit 2 (some .int) 1 := ⟨jmem 108 (by decide +kernel) rfl, jmem 1519 (by decide +kernel) rfl, ⟨by decide +kernel, by decide +kernel⟩, by decide +kernel⟩
def y_Mo_draw : MethodName := ⟨"ChanceStepsModel", "draw", "(IILChanceStepsModel$Odds;)LChanceStepsModel$Odds;"⟩
abbrev b_Mo_draw : ByteArray := prog_11_method_41_code
theorem jb_Mo_draw : jcB y_Mo_draw b_Mo_draw 8 (some (.object "ChanceStepsModel$Odds")) 3 := ⟨jmem 108 (by decide +kernel) rfl, jmem 1508 (by decide +kernel) rfl, ⟨by decide +kernel, by decide +kernel⟩, by decide +kernel⟩
def y_Mo_expression : MethodName := ⟨"ChanceStepsModel", "expression", "()I"⟩
abbrev b_Mo_expression : ByteArray := prog_11_method_19_code
theorem jb_Mo_expression : jcB y_Mo_expression b_Mo_expression 4 (some .int) 0 := ⟨jmem 108 (by decide +kernel) rfl, jmem 1377 (by decide +kernel) rfl, ⟨by decide +kernel, by decide +kernel⟩, by decide +kernel⟩
def y_Mo_feed : MethodName := ⟨"ChanceStepsModel", "feed", "(IIIIII)I"⟩
abbrev b_Mo_feed : ByteArray := prog_11_method_6_code
theorem jb_Mo_feed : jcB y_Mo_feed b_Mo_feed 8 (some .int) 6 := ⟨jmem 108 (by decide +kernel) rfl, jmem 1259 (by decide +kernel) rfl, ⟨by decide +kernel, by decide +kernel⟩, by decide +kernel⟩
def y_Mo_film : MethodName := ⟨"ChanceStepsModel", "film", "(III)I"⟩
abbrev b_Mo_film : ByteArray := prog_11_method_81_code
theorem jb_Mo_film : jcB y_Mo_film b_Mo_film 7 (some .int) 3 := ⟨jmem 108 (by decide +kernel) rfl, jmem 1655 (by decide +kernel) rfl, ⟨by decide +kernel, by decide +kernel⟩, by decide +kernel⟩
def y_Mo_fold_0 : MethodName := ⟨"ChanceStepsModel", "fold", "(II)I"⟩
abbrev b_Mo_fold_0 : ByteArray := prog_11_method_65_code
theorem jb_Mo_fold_0 : jcB y_Mo_fold_0 b_Mo_fold_0 2 (some .int) 2 := ⟨jmem 108 (by decide +kernel) rfl, jmem 1593 (by decide +kernel) rfl, ⟨by decide +kernel, by decide +kernel⟩, by decide +kernel⟩
def y_Mo_fold_1 : MethodName := ⟨"ChanceStepsModel", "fold", "(IIII)J"⟩
abbrev b_Mo_fold_1 : ByteArray := prog_11_method_66_code
theorem jb_Mo_fold_1 : jcB y_Mo_fold_1 b_Mo_fold_1 9 (some .long) 4 := ⟨jmem 108 (by decide +kernel) rfl, jmem 1590 (by decide +kernel) rfl, ⟨by decide +kernel, by decide +kernel⟩, by decide +kernel⟩
def y_Mo_forget : MethodName := ⟨"ChanceStepsModel", "forget", "(LChanceStepsModel$Odds;I)LChanceStepsModel$Odds;"⟩
abbrev b_Mo_forget : ByteArray := prog_11_method_38_code
theorem jb_Mo_forget : jcB y_Mo_forget b_Mo_forget 7 (some (.object "ChanceStepsModel$Odds")) 2 := ⟨jmem 108 (by decide +kernel) rfl, jmem 1483 (by decide +kernel) rfl, ⟨by decide +kernel, by decide +kernel⟩, by decide +kernel⟩
def y_Mo_hundredths : MethodName := ⟨"ChanceStepsModel", "hundredths", "(LChanceStepsModel$Odds;II)I"⟩
abbrev b_Mo_hundredths : ByteArray := prog_11_method_77_code
theorem jb_Mo_hundredths : jcB y_Mo_hundredths b_Mo_hundredths 3 (some .int) 3 := ⟨jmem 108 (by decide +kernel) rfl, jmem 1646 (by decide +kernel) rfl, ⟨by decide +kernel, by decide +kernel⟩, by decide +kernel⟩
def y_Mo_image : MethodName := ⟨"ChanceStepsModel", "image", "()I"⟩
abbrev b_Mo_image : ByteArray := prog_11_method_82_code
theorem jb_Mo_image : jcB y_Mo_image b_Mo_image 1 (some .int) 0 := ⟨jmem 108 (by decide +kernel) rfl, jmem 1659 (by decide +kernel) rfl, ⟨by decide +kernel, by decide +kernel⟩, by decide +kernel⟩
def y_Mo_in : MethodName := ⟨"ChanceStepsModel", "in", "(III)Z"⟩
abbrev b_Mo_in : ByteArray := prog_11_method_2_code
theorem jb_Mo_in : jcB y_Mo_in b_Mo_in 3 (some .boolean) 3 := ⟨jmem 108 (by decide +kernel) rfl, jmem 1262 (by decide +kernel) rfl, ⟨by decide +kernel, by decide +kernel⟩, by decide +kernel⟩
def y_Mo_inBraces : MethodName := ⟨"ChanceStepsModel", "inBraces", "()V"⟩
abbrev b_Mo_inBraces : ByteArray := prog_11_method_15_code
theorem jb_Mo_inBraces : jcB y_Mo_inBraces b_Mo_inBraces 1 none 0 := ⟨jmem 108 (by decide +kernel) rfl, jmem 1397 (by decide +kernel) rfl, ⟨by decide +kernel, by decide +kernel⟩, by decide +kernel⟩
def y_Mo_isByte : MethodName := ⟨"ChanceStepsModel", "isByte", "(I)Z"⟩
abbrev b_Mo_isByte : ByteArray := prog_11_method_5_code
theorem jb_Mo_isByte : jcB y_Mo_isByte b_Mo_isByte 1 (some .boolean) 1 := ⟨jmem 108 (by decide +kernel) rfl, jmem 1265 (by decide +kernel) rfl, ⟨by decide +kernel, by decide +kernel⟩, by decide +kernel⟩
def y_Mo_isName : MethodName := ⟨"ChanceStepsModel", "isName", "(I)Z"⟩
abbrev b_Mo_isName : ByteArray := prog_11_method_4_code
theorem jb_Mo_isName : jcB y_Mo_isName b_Mo_isName 1 (some .boolean) 1 := ⟨jmem 108 (by decide +kernel) rfl, jmem 1429 (by decide +kernel) rfl, ⟨by decide +kernel, by decide +kernel⟩, by decide +kernel⟩
def y_Mo_isProgram : MethodName := ⟨"ChanceStepsModel", "isProgram", "(I)Z"⟩
abbrev b_Mo_isProgram : ByteArray := prog_11_method_3_code
theorem jb_Mo_isProgram : jcB y_Mo_isProgram b_Mo_isProgram 2 (some .boolean) 1 := ⟨jmem 108 (by decide +kernel) rfl, jmem 1437 (by decide +kernel) rfl, ⟨by decide +kernel, by decide +kernel⟩, by decide +kernel⟩
def y_Mo_isSheet : MethodName := ⟨"ChanceStepsModel", "isSheet", "(I)Z"⟩
abbrev b_Mo_isSheet : ByteArray := prog_11_method_85_code
theorem jb_Mo_isSheet : jcB y_Mo_isSheet b_Mo_isSheet 1 (some .boolean) 1 := ⟨jmem 108 (by decide +kernel) rfl, jmem 1639 (by decide +kernel) rfl, ⟨by decide +kernel, by decide +kernel⟩, by decide +kernel⟩
def y_Mo_isSign : MethodName := ⟨"ChanceStepsModel", "isSign", "(I)Z"⟩
abbrev b_Mo_isSign : ByteArray := prog_11_method_11_code
theorem jb_Mo_isSign : jcB y_Mo_isSign b_Mo_isSign 2 (some .boolean) 1 := ⟨jmem 108 (by decide +kernel) rfl, jmem 1373 (by decide +kernel) rfl, ⟨by decide +kernel, by decide +kernel⟩, by decide +kernel⟩
def y_Mo_isSo : MethodName := ⟨"ChanceStepsModel", "isSo", "(III)Z"⟩
abbrev b_Mo_isSo : ByteArray := prog_11_method_79_code
theorem jb_Mo_isSo : jcB y_Mo_isSo b_Mo_isSo 5 (some .boolean) 3 := ⟨jmem 108 (by decide +kernel) rfl, jmem 1651 (by decide +kernel) rfl, ⟨by decide +kernel, by decide +kernel⟩, by decide +kernel⟩
def y_Mo_isWord : MethodName := ⟨"ChanceStepsModel", "isWord", "(Ljava/lang/String;)Z"⟩
abbrev b_Mo_isWord : ByteArray := prog_11_method_8_code
theorem jb_Mo_isWord : jcB y_Mo_isWord b_Mo_isWord 3 (some .boolean) 1 := ⟨jmem 108 (by decide +kernel) rfl, jmem 1286 (by decide +kernel) rfl, ⟨by decide +kernel, by decide +kernel⟩, by decide +kernel⟩
def y_Mo_left : MethodName := ⟨"ChanceStepsModel", "left", "(II)J"⟩
abbrev b_Mo_left : ByteArray := prog_11_method_60_code
theorem jb_Mo_left : jcB y_Mo_left b_Mo_left 4 (some .long) 2 := ⟨jmem 108 (by decide +kernel) rfl, jmem 1562 (by decide +kernel) rfl, ⟨by decide +kernel, by decide +kernel⟩, by decide +kernel⟩
def y_Mo_let_0 : MethodName := ⟨"ChanceStepsModel", "let", "(II)I"⟩
abbrev b_Mo_let_0 : ByteArray := prog_11_method_29_code
theorem jb_Mo_let_0 : jcB y_Mo_let_0 b_Mo_let_0 4 (some .int) 2 := ⟨jmem 108 (by decide +kernel) rfl, jmem 1426 (by decide +kernel) rfl, ⟨by decide +kernel, by decide +kernel⟩, by decide +kernel⟩
def y_Mo_let_1 : MethodName := ⟨"ChanceStepsModel", "let", "(IILChanceStepsModel$Odds;)LChanceStepsModel$Odds;"⟩
abbrev b_Mo_let_1 : ByteArray := prog_11_method_42_code
theorem jb_Mo_let_1 : jcB y_Mo_let_1 b_Mo_let_1 6 (some (.object "ChanceStepsModel$Odds")) 3 := ⟨jmem 108 (by decide +kernel) rfl, jmem 1512 (by decide +kernel) rfl, ⟨by decide +kernel, by decide +kernel⟩, by decide +kernel⟩
def y_Mo_likeliest : MethodName := ⟨"ChanceStepsModel", "likeliest", "(II)I"⟩
abbrev b_Mo_likeliest : ByteArray := prog_11_method_67_code
theorem jb_Mo_likeliest : jcB y_Mo_likeliest b_Mo_likeliest 12 (some .int) 2 := ⟨jmem 108 (by decide +kernel) rfl, jmem 1597 (by decide +kernel) rfl, ⟨by decide +kernel, by decide +kernel⟩, by decide +kernel⟩
def y_Mo_loop : MethodName := ⟨"ChanceStepsModel", "loop", "(IILChanceStepsModel$Odds;I)LChanceStepsModel$Odds;"⟩
abbrev b_Mo_loop : ByteArray := prog_11_method_45_code
theorem jb_Mo_loop : jcB y_Mo_loop b_Mo_loop 11 (some (.object "ChanceStepsModel$Odds")) 4 := ⟨jmem 108 (by decide +kernel) rfl, jmem 1531 (by decide +kernel) rfl, ⟨by decide +kernel, by decide +kernel⟩, by decide +kernel⟩
def y_Mo_lotsAll : MethodName := ⟨"ChanceStepsModel", "lotsAll", "(II)I"⟩
abbrev b_Mo_lotsAll : ByteArray := prog_11_method_23_code
theorem jb_Mo_lotsAll : jcB y_Mo_lotsAll b_Mo_lotsAll 5 (some .int) 2 := ⟨jmem 108 (by decide +kernel) rfl, jmem 1409 (by decide +kernel) rfl, ⟨by decide +kernel, by decide +kernel⟩, by decide +kernel⟩
def y_Mo_lotsOf : MethodName := ⟨"ChanceStepsModel", "lotsOf", "(II)V"⟩
abbrev b_Mo_lotsOf : ByteArray := prog_11_method_17_code
theorem jb_Mo_lotsOf : jcB y_Mo_lotsOf b_Mo_lotsOf 8 none 2 := ⟨jmem 108 (by decide +kernel) rfl, jmem 1365 (by decide +kernel) rfl, ⟨by decide +kernel, by decide +kernel⟩, by decide +kernel⟩
def y_Mo_lowest : MethodName := ⟨"ChanceStepsModel", "lowest", "(JJI)J"⟩
abbrev b_Mo_lowest : ByteArray := prog_11_method_59_code
theorem jb_Mo_lowest : jcB y_Mo_lowest b_Mo_lowest 11 (some .long) 3 := ⟨jmem 108 (by decide +kernel) rfl, jmem 1570 (by decide +kernel) rfl, ⟨by decide +kernel, by decide +kernel⟩, by decide +kernel⟩
def y_Mo_make : MethodName := ⟨"ChanceStepsModel", "make", "(IIILChanceStepsModel$Odds;I)LChanceStepsModel$Odds;"⟩
abbrev b_Mo_make : ByteArray := prog_11_method_39_code
theorem jb_Mo_make : jcB y_Mo_make b_Mo_make 11 (some (.object "ChanceStepsModel$Odds")) 5 := ⟨jmem 108 (by decide +kernel) rfl, jmem 1496 (by decide +kernel) rfl, ⟨by decide +kernel, by decide +kernel⟩, by decide +kernel⟩
def y_Mo_makeStep : MethodName := ⟨"ChanceStepsModel", "makeStep", "(IILChanceStepsModel$Odds;I)LChanceStepsModel$Odds;"⟩
abbrev b_Mo_makeStep : ByteArray := prog_11_method_40_code
theorem jb_Mo_makeStep : jcB y_Mo_makeStep b_Mo_makeStep 5 (some (.object "ChanceStepsModel$Odds")) 4 := ⟨jmem 108 (by decide +kernel) rfl, jmem 1504 (by decide +kernel) rfl, ⟨by decide +kernel, by decide +kernel⟩, by decide +kernel⟩
def y_Mo_namesIn : MethodName := ⟨"ChanceStepsModel", "namesIn", "(II)I"⟩
abbrev b_Mo_namesIn : ByteArray := prog_11_method_36_code
theorem jb_Mo_namesIn : jcB y_Mo_namesIn b_Mo_namesIn 3 (some .int) 2 := ⟨jmem 108 (by decide +kernel) rfl, jmem 1449 (by decide +kernel) rfl, ⟨by decide +kernel, by decide +kernel⟩, by decide +kernel⟩
def y_Mo_need : MethodName := ⟨"ChanceStepsModel", "need", "(I)V"⟩
abbrev b_Mo_need : ByteArray := prog_11_method_12_code
theorem jb_Mo_need : jcB y_Mo_need b_Mo_need 2 none 1 := ⟨jmem 108 (by decide +kernel) rfl, jmem 1369 (by decide +kernel) rfl, ⟨by decide +kernel, by decide +kernel⟩, by decide +kernel⟩
def y_Mo_needed : MethodName := ⟨"ChanceStepsModel", "needed", "(II)I"⟩
abbrev b_Mo_needed : ByteArray := prog_11_method_54_code
theorem jb_Mo_needed : jcB y_Mo_needed b_Mo_needed 3 (some .int) 2 := ⟨jmem 108 (by decide +kernel) rfl, jmem 1433 (by decide +kernel) rfl, ⟨by decide +kernel, by decide +kernel⟩, by decide +kernel⟩
def y_Mo_neededAhead : MethodName := ⟨"ChanceStepsModel", "neededAhead", "(III)I"⟩
abbrev b_Mo_neededAhead : ByteArray := prog_11_method_53_code
theorem jb_Mo_neededAhead : jcB y_Mo_neededAhead b_Mo_neededAhead 8 (some .int) 3 := ⟨jmem 108 (by decide +kernel) rfl, jmem 1445 (by decide +kernel) rfl, ⟨by decide +kernel, by decide +kernel⟩, by decide +kernel⟩
def y_Mo_neededFrom : MethodName := ⟨"ChanceStepsModel", "neededFrom", "(IIII)I"⟩
abbrev b_Mo_neededFrom : ByteArray := prog_11_method_52_code
theorem jb_Mo_neededFrom : jcB y_Mo_neededFrom b_Mo_neededFrom 5 (some .int) 4 := ⟨jmem 108 (by decide +kernel) rfl, jmem 1441 (by decide +kernel) rfl, ⟨by decide +kernel, by decide +kernel⟩, by decide +kernel⟩
def y_Mo_next : MethodName := ⟨"ChanceStepsModel", "next", "()V"⟩
abbrev b_Mo_next : ByteArray := prog_11_method_10_code
theorem jb_Mo_next : jcB y_Mo_next b_Mo_next 3 none 0 := ⟨jmem 108 (by decide +kernel) rfl, jmem 1273 (by decide +kernel) rfl, ⟨by decide +kernel, by decide +kernel⟩, by decide +kernel⟩
def y_Mo_node : MethodName := ⟨"ChanceStepsModel", "node", "(IIII)I"⟩
abbrev b_Mo_node : ByteArray := prog_11_method_18_code
theorem jb_Mo_node : jcB y_Mo_node b_Mo_node 5 (some .int) 4 := ⟨jmem 108 (by decide +kernel) rfl, jmem 1393 (by decide +kernel) rfl, ⟨by decide +kernel, by decide +kernel⟩, by decide +kernel⟩
def y_Mo_odds_0 : MethodName := ⟨"ChanceStepsModel", "odds", "(II)LChanceStepsModel$Odds;"⟩
abbrev b_Mo_odds_0 : ByteArray := prog_11_method_49_code
theorem jb_Mo_odds_0 : jcB y_Mo_odds_0 b_Mo_odds_0 3 (some (.object "ChanceStepsModel$Odds")) 2 := ⟨jmem 108 (by decide +kernel) rfl, jmem 1461 (by decide +kernel) rfl, ⟨by decide +kernel, by decide +kernel⟩, by decide +kernel⟩
def y_Mo_odds_1 : MethodName := ⟨"ChanceStepsModel", "odds", "(IIII)J"⟩
abbrev b_Mo_odds_1 : ByteArray := prog_11_method_63_code
theorem jb_Mo_odds_1 : jcB y_Mo_odds_1 b_Mo_odds_1 6 (some .long) 4 := ⟨jmem 108 (by decide +kernel) rfl, jmem 1574 (by decide +kernel) rfl, ⟨by decide +kernel, by decide +kernel⟩, by decide +kernel⟩
def y_Mo_oddsBeside : MethodName := ⟨"ChanceStepsModel", "oddsBeside", "(II)LChanceStepsModel$Odds;"⟩
abbrev b_Mo_oddsBeside : ByteArray := prog_11_method_50_code
theorem jb_Mo_oddsBeside : jcB y_Mo_oddsBeside b_Mo_oddsBeside 4 (some (.object "ChanceStepsModel$Odds")) 2 := ⟨jmem 108 (by decide +kernel) rfl, jmem 1465 (by decide +kernel) rfl, ⟨by decide +kernel, by decide +kernel⟩, by decide +kernel⟩
def y_Mo_often : MethodName := ⟨"ChanceStepsModel", "often", "(IIIIII)I"⟩
abbrev b_Mo_often : ByteArray := prog_11_method_76_code
theorem jb_Mo_often : jcB y_Mo_often b_Mo_often 11 (some .int) 6 := ⟨jmem 108 (by decide +kernel) rfl, jmem 1632 (by decide +kernel) rfl, ⟨by decide +kernel, by decide +kernel⟩, by decide +kernel⟩
def y_Mo_one : MethodName := ⟨"ChanceStepsModel", "one", "()I"⟩
abbrev b_Mo_one : ByteArray := prog_11_method_22_code
theorem jb_Mo_one : jcB y_Mo_one b_Mo_one 3 (some .int) 0 := ⟨jmem 108 (by decide +kernel) rfl, jmem 1389 (by decide +kernel) rfl, ⟨by decide +kernel, by decide +kernel⟩, by decide +kernel⟩
def y_Mo_otherwise : MethodName := ⟨"ChanceStepsModel", "otherwise", "(ILChanceStepsModel$Odds;I)I"⟩
abbrev b_Mo_otherwise : ByteArray := prog_11_method_78_code
theorem jb_Mo_otherwise : jcB y_Mo_otherwise b_Mo_otherwise 5 (some .int) 3 := ⟨jmem 108 (by decide +kernel) rfl, jmem 1643 (by decide +kernel) rfl, ⟨by decide +kernel, by decide +kernel⟩, by decide +kernel⟩
def y_Mo_peak : MethodName := ⟨"ChanceStepsModel", "peak", "(II)I"⟩
abbrev b_Mo_peak : ByteArray := prog_11_method_55_code
theorem jb_Mo_peak : jcB y_Mo_peak b_Mo_peak 4 (some .int) 2 := ⟨jmem 108 (by decide +kernel) rfl, jmem 1457 (by decide +kernel) rfl, ⟨by decide +kernel, by decide +kernel⟩, by decide +kernel⟩
def y_Mo_program : MethodName := ⟨"ChanceStepsModel", "program", "()I"⟩
abbrev b_Mo_program : ByteArray := prog_11_method_28_code
theorem jb_Mo_program : jcB y_Mo_program b_Mo_program 2 (some .int) 0 := ⟨jmem 108 (by decide +kernel) rfl, jmem 1269 (by decide +kernel) rfl, ⟨by decide +kernel, by decide +kernel⟩, by decide +kernel⟩
def y_Mo_run : MethodName := ⟨"ChanceStepsModel", "run", "(IILChanceStepsModel$Odds;)LChanceStepsModel$Odds;"⟩
abbrev b_Mo_run : ByteArray := prog_11_method_48_code
theorem jb_Mo_run : jcB y_Mo_run b_Mo_run 9 (some (.object "ChanceStepsModel$Odds")) 3 := ⟨jmem 108 (by decide +kernel) rfl, jmem 1535 (by decide +kernel) rfl, ⟨by decide +kernel, by decide +kernel⟩, by decide +kernel⟩
def y_Mo_sees : MethodName := ⟨"ChanceStepsModel", "sees", "(I)Z"⟩
abbrev b_Mo_sees : ByteArray := prog_11_method_51_code
theorem jb_Mo_sees : jcB y_Mo_sees b_Mo_sees 3 (some .boolean) 1 := ⟨jmem 108 (by decide +kernel) rfl, jmem 1453 (by decide +kernel) rfl, ⟨by decide +kernel, by decide +kernel⟩, by decide +kernel⟩
def y_Mo_sheet : MethodName := ⟨"ChanceStepsModel", "sheet", "(III)I"⟩
abbrev b_Mo_sheet : ByteArray := prog_11_method_86_code
theorem jb_Mo_sheet : jcB y_Mo_sheet b_Mo_sheet 5 (some .int) 3 := ⟨jmem 108 (by decide +kernel) rfl, jmem 1672 (by decide +kernel) rfl, ⟨by decide +kernel, by decide +kernel⟩, by decide +kernel⟩
def y_Mo_split : MethodName := ⟨"ChanceStepsModel", "split", "(IILChanceStepsModel$Odds;Z)LChanceStepsModel$Odds;"⟩
abbrev b_Mo_split : ByteArray := prog_11_method_43_code
theorem jb_Mo_split : jcB y_Mo_split b_Mo_split 7 (some (.object "ChanceStepsModel$Odds")) 4 := ⟨jmem 108 (by decide +kernel) rfl, jmem 1523 (by decide +kernel) rfl, ⟨by decide +kernel, by decide +kernel⟩, by decide +kernel⟩
def y_Mo_startState : MethodName := ⟨"ChanceStepsModel", "startState", "()I"⟩
abbrev b_Mo_startState : ByteArray := prog_11_method_33_code
theorem jb_Mo_startState : jcB y_Mo_startState b_Mo_startState 3 (some .int) 0 := ⟨jmem 108 (by decide +kernel) rfl, jmem 1473 (by decide +kernel) rfl, ⟨by decide +kernel, by decide +kernel⟩, by decide +kernel⟩
def y_Mo_state : MethodName := ⟨"ChanceStepsModel", "state", "(III)J"⟩
abbrev b_Mo_state : ByteArray := prog_11_method_64_code
theorem jb_Mo_state : jcB y_Mo_state b_Mo_state 8 (some .long) 3 := ⟨jmem 108 (by decide +kernel) rfl, jmem 1585 (by decide +kernel) rfl, ⟨by decide +kernel, by decide +kernel⟩, by decide +kernel⟩
def y_Mo_step_0 : MethodName := ⟨"ChanceStepsModel", "step", "()V"⟩
abbrev b_Mo_step_0 : ByteArray := prog_11_method_16_code
theorem jb_Mo_step_0 : jcB y_Mo_step_0 b_Mo_step_0 4 none 0 := ⟨jmem 108 (by decide +kernel) rfl, jmem 1357 (by decide +kernel) rfl, ⟨by decide +kernel, by decide +kernel⟩, by decide +kernel⟩
def y_Mo_step_1 : MethodName := ⟨"ChanceStepsModel", "step", "(III)I"⟩
abbrev b_Mo_step_1 : ByteArray := prog_11_method_57_code
theorem jb_Mo_step_1 : jcB y_Mo_step_1 b_Mo_step_1 4 (some .int) 3 := ⟨jmem 108 (by decide +kernel) rfl, jmem 1554 (by decide +kernel) rfl, ⟨by decide +kernel, by decide +kernel⟩, by decide +kernel⟩
def y_Mo_sum : MethodName := ⟨"ChanceStepsModel", "sum", "()I"⟩
abbrev b_Mo_sum : ByteArray := prog_11_method_20_code
theorem jb_Mo_sum : jcB y_Mo_sum b_Mo_sum 4 (some .int) 0 := ⟨jmem 108 (by decide +kernel) rfl, jmem 1381 (by decide +kernel) rfl, ⟨by decide +kernel, by decide +kernel⟩, by decide +kernel⟩
def y_Mo_taken_0 : MethodName := ⟨"ChanceStepsModel", "taken", "()LChanceStepsModel$Odds;"⟩
abbrev b_Mo_taken_0 : ByteArray := prog_11_method_37_code
theorem jb_Mo_taken_0 : jcB y_Mo_taken_0 b_Mo_taken_0 2 (some (.object "ChanceStepsModel$Odds")) 0 := ⟨jmem 108 (by decide +kernel) rfl, jmem 1469 (by decide +kernel) rfl, ⟨by decide +kernel, by decide +kernel⟩, by decide +kernel⟩
def y_Mo_taken_1 : MethodName := ⟨"ChanceStepsModel", "taken", "(III)I"⟩
abbrev b_Mo_taken_1 : ByteArray := prog_11_method_58_code
theorem jb_Mo_taken_1 : jcB y_Mo_taken_1 b_Mo_taken_1 6 (some .int) 3 := ⟨jmem 108 (by decide +kernel) rfl, jmem 1558 (by decide +kernel) rfl, ⟨by decide +kernel, by decide +kernel⟩, by decide +kernel⟩
def y_Mo_takes : MethodName := ⟨"ChanceStepsModel", "takes", "(III)I"⟩
abbrev b_Mo_takes : ByteArray := prog_11_method_13_code
theorem jb_Mo_takes : jcB y_Mo_takes b_Mo_takes 5 (some .int) 3 := ⟨jmem 108 (by decide +kernel) rfl, jmem 1361 (by decide +kernel) rfl, ⟨by decide +kernel, by decide +kernel⟩, by decide +kernel⟩
def y_Mo_tell : MethodName := ⟨"ChanceStepsModel", "tell", "(II)V"⟩
abbrev b_Mo_tell : ByteArray := prog_11_method_46_code
theorem jb_Mo_tell : jcB y_Mo_tell b_Mo_tell 9 none 2 := ⟨jmem 108 (by decide +kernel) rfl, jmem 1539 (by decide +kernel) rfl, ⟨by decide +kernel, by decide +kernel⟩, by decide +kernel⟩
def y_Mo_tells : MethodName := ⟨"ChanceStepsModel", "tells", "(IIII)I"⟩
abbrev b_Mo_tells : ByteArray := prog_11_method_80_code
theorem jb_Mo_tells : jcB y_Mo_tells b_Mo_tells 10 (some .int) 4 := ⟨jmem 108 (by decide +kernel) rfl, jmem 1636 (by decide +kernel) rfl, ⟨by decide +kernel, by decide +kernel⟩, by decide +kernel⟩
def y_Mo_tens : MethodName := ⟨"ChanceStepsModel", "tens", "(I)I"⟩
abbrev b_Mo_tens : ByteArray := prog_11_method_30_code
theorem jb_Mo_tens : jcB y_Mo_tens b_Mo_tens 3 (some .int) 1 := ⟨jmem 108 (by decide +kernel) rfl, jmem 1492 (by decide +kernel) rfl, ⟨by decide +kernel, by decide +kernel⟩, by decide +kernel⟩
def y_Mo_term : MethodName := ⟨"ChanceStepsModel", "term", "()I"⟩
abbrev b_Mo_term : ByteArray := prog_11_method_21_code
theorem jb_Mo_term : jcB y_Mo_term b_Mo_term 4 (some .int) 0 := ⟨jmem 108 (by decide +kernel) rfl, jmem 1385 (by decide +kernel) rfl, ⟨by decide +kernel, by decide +kernel⟩, by decide +kernel⟩
def y_Mo_times : MethodName := ⟨"ChanceStepsModel", "times", "(JJ)J"⟩
abbrev b_Mo_times : ByteArray := prog_11_method_47_code
theorem jb_Mo_times : jcB y_Mo_times b_Mo_times 5 (some .long) 2 := ⟨jmem 108 (by decide +kernel) rfl, jmem 1542 (by decide +kernel) rfl, ⟨by decide +kernel, by decide +kernel⟩, by decide +kernel⟩
def y_Mo_told : MethodName := ⟨"ChanceStepsModel", "told", "(II)I"⟩
abbrev b_Mo_told : ByteArray := prog_11_method_56_code
theorem jb_Mo_told : jcB y_Mo_told b_Mo_told 5 (some .int) 2 := ⟨jmem 108 (by decide +kernel) rfl, jmem 1550 (by decide +kernel) rfl, ⟨by decide +kernel, by decide +kernel⟩, by decide +kernel⟩
def y_Mo_turnsOf : MethodName := ⟨"ChanceStepsModel", "turnsOf", "(III)I"⟩
abbrev b_Mo_turnsOf : ByteArray := prog_11_method_26_code
theorem jb_Mo_turnsOf : jcB y_Mo_turnsOf b_Mo_turnsOf 6 (some .int) 3 := ⟨jmem 108 (by decide +kernel) rfl, jmem 1418 (by decide +kernel) rfl, ⟨by decide +kernel, by decide +kernel⟩, by decide +kernel⟩
def y_Mo_turnsOfStep : MethodName := ⟨"ChanceStepsModel", "turnsOfStep", "(II)I"⟩
abbrev b_Mo_turnsOfStep : ByteArray := prog_11_method_27_code
theorem jb_Mo_turnsOfStep : jcB y_Mo_turnsOfStep b_Mo_turnsOfStep 3 (some .int) 2 := ⟨jmem 108 (by decide +kernel) rfl, jmem 1422 (by decide +kernel) rfl, ⟨by decide +kernel, by decide +kernel⟩, by decide +kernel⟩
def y_Mo_valueOf : MethodName := ⟨"ChanceStepsModel", "valueOf", "(II)I"⟩
abbrev b_Mo_valueOf : ByteArray := prog_11_method_31_code
theorem jb_Mo_valueOf : jcB y_Mo_valueOf b_Mo_valueOf 2 (some .int) 2 := ⟨jmem 108 (by decide +kernel) rfl, jmem 1489 (by decide +kernel) rfl, ⟨by decide +kernel, by decide +kernel⟩, by decide +kernel⟩
def y_Mo_weightOf : MethodName := ⟨"ChanceStepsModel", "weightOf", "(LChanceStepsModel$Odds;II)J"⟩
abbrev b_Mo_weightOf : ByteArray := prog_11_method_61_code
theorem jb_Mo_weightOf : jcB y_Mo_weightOf b_Mo_weightOf 6 (some .long) 3 := ⟨jmem 108 (by decide +kernel) rfl, jmem 1581 (by decide +kernel) rfl, ⟨by decide +kernel, by decide +kernel⟩, by decide +kernel⟩
def y_Mo_with : MethodName := ⟨"ChanceStepsModel", "with", "(III)I"⟩
abbrev b_Mo_with : ByteArray := prog_11_method_32_code
theorem jb_Mo_with : jcB y_Mo_with b_Mo_with 3 (some .int) 3 := ⟨jmem 108 (by decide +kernel) rfl, jmem 1486 (by decide +kernel) rfl, ⟨by decide +kernel, by decide +kernel⟩, by decide +kernel⟩
def y_Mo_wordRead : MethodName := ⟨"ChanceStepsModel", "wordRead", "()I"⟩
abbrev b_Mo_wordRead : ByteArray := prog_11_method_9_code
theorem jb_Mo_wordRead : jcB y_Mo_wordRead b_Mo_wordRead 1 (some .int) 0 := ⟨jmem 108 (by decide +kernel) rfl, jmem 1281 (by decide +kernel) rfl, ⟨by decide +kernel, by decide +kernel⟩, by decide +kernel⟩
def y_Mo_worth : MethodName := ⟨"ChanceStepsModel", "worth", "(III)I"⟩
abbrev b_Mo_worth : ByteArray := prog_11_method_34_code
theorem jb_Mo_worth : jcB y_Mo_worth b_Mo_worth 7 (some .int) 3 := ⟨jmem 108 (by decide +kernel) rfl, jmem 1516 (by decide +kernel) rfl, ⟨by decide +kernel, by decide +kernel⟩, by decide +kernel⟩
def y_Odds_init : MethodName := ⟨"ChanceStepsModel$Odds", "<init>", "()V"⟩
abbrev b_Odds_init : ByteArray := prog_12_method_1_code
theorem jb_Odds_init : jcB y_Odds_init b_Odds_init 1 none 0 := ⟨jmem 109 (by decide +kernel) rfl, jmem 1110 (by decide +kernel) rfl, ⟨by decide +kernel, by decide +kernel⟩, by decide +kernel⟩
def y_Odds_all : MethodName := ⟨"ChanceStepsModel$Odds", "all", "()J"⟩
abbrev b_Odds_all : ByteArray := prog_12_method_4_code
theorem jb_Odds_all : jcB y_Odds_all b_Odds_all 4 (some .long) 0 := ⟨jmem 109 (by decide +kernel) rfl, jmem 1567 (by decide +kernel) rfl, ⟨by decide +kernel, by decide +kernel⟩, by decide +kernel⟩
def y_Odds_becomes : MethodName := ⟨"ChanceStepsModel$Odds", "becomes", "(LChanceStepsModel$Odds;)V"⟩
abbrev b_Odds_becomes : ByteArray := prog_12_method_2_code
theorem jb_Odds_becomes : jcB y_Odds_becomes b_Odds_becomes 2 none 1 := ⟨jmem 109 (by decide +kernel) rfl, jmem 1500 (by decide +kernel) rfl, ⟨by decide +kernel, by decide +kernel⟩, by decide +kernel⟩
def y_Odds_come : MethodName := ⟨"ChanceStepsModel$Odds", "come", "(IJ)V"⟩
abbrev b_Odds_come : ByteArray := prog_12_method_3_code
theorem jb_Odds_come : jcB y_Odds_come b_Odds_come 7 none 2 := ⟨jmem 109 (by decide +kernel) rfl, jmem 1478 (by decide +kernel) rfl, ⟨by decide +kernel, by decide +kernel⟩, by decide +kernel⟩
theorem cl_CS_3 : jcO "ChanceSteps" 3 := ⟨jmem 128 (by decide +kernel) rfl, jmem 129 (by decide +kernel) rfl, jmem 130 (by decide +kernel) rfl⟩
theorem ff_CS_9 : jFf "ChanceSteps" 9 8 0 (.array .int) := ⟨RX8, TX8, 13, rfl, by decide, jmem 232 (by decide +kernel) rfl, uw_8, jt_8, rfl, rfl, by decide +kernel⟩
theorem ca_CS_13 : Cond.classLink "ChanceSteps" 13 "ChanceSteps$Program" ∈ jwd := jmem 131 (by decide +kernel) rfl
theorem ff_CS_15 : jFf "ChanceSteps" 15 8 2 (.array (.object "ChanceSteps$Program")) := ⟨RX8, TX8, 13, rfl, by decide, jmem 234 (by decide +kernel) rfl, uw_8, jt_8, rfl, rfl, by decide +kernel⟩
theorem ca_CS_19 : Cond.classLink "ChanceSteps" 19 "ChanceSteps$Sheet" ∈ jwd := jmem 133 (by decide +kernel) rfl
theorem ff_CS_21 : jFf "ChanceSteps" 21 8 8 (.array (.object "ChanceSteps$Sheet")) := ⟨RX8, TX8, 13, rfl, by decide, jmem 240 (by decide +kernel) rfl, uw_8, jt_8, rfl, rfl, by decide +kernel⟩
theorem nw_CS_25 : jNew "ChanceSteps" 25 3 9 v0_3 := ⟨RX3, TX3, 9, tyX3, rfl, jmem 135 (by decide +kernel) rfl, jmem 136 (by decide +kernel) rfl, jmem 104 (by decide +kernel) rfl, uw_3, tyX3_ok, by decide +kernel⟩
theorem cl_CS_27 : jcIn "ChanceSteps" 27 y_Read_init b_Read_init 1 0 := ⟨jb_Read_init, jmem 138 (by decide +kernel) rfl, rfl, "ChanceSteps", jmemN 137 (by decide +kernel) rfl⟩
theorem ff_CS_28 : jFf "ChanceSteps" 28 8 9 (.object "ChanceSteps$Reader") := ⟨RX8, TX8, 13, rfl, by decide, jmem 241 (by decide +kernel) rfl, uw_8, jt_8, rfl, rfl, by decide +kernel⟩
theorem nw_CS_32 : jNew "ChanceSteps" 32 7 4 v0_7 := ⟨RX7, TX7, 4, tyX7, rfl, jmem 170 (by decide +kernel) rfl, jmem 171 (by decide +kernel) rfl, jmem 105 (by decide +kernel) rfl, uw_7, tyX7_ok, by decide +kernel⟩
theorem cl_CS_34 : jcIn "ChanceSteps" 34 y_Walk_init b_Walk_init 1 0 := ⟨jb_Walk_init, jmem 173 (by decide +kernel) rfl, rfl, "ChanceSteps", jmemN 172 (by decide +kernel) rfl⟩
theorem ff_CS_35 : jFf "ChanceSteps" 35 8 10 (.object "ChanceSteps$Walker") := ⟨RX8, TX8, 13, rfl, by decide, jmem 242 (by decide +kernel) rfl, uw_8, jt_8, rfl, rfl, by decide +kernel⟩
theorem ff_CS_39 : jFf "ChanceSteps" 39 8 11 (.array .long) := ⟨RX8, TX8, 13, rfl, by decide, jmem 243 (by decide +kernel) rfl, uw_8, jt_8, rfl, rfl, by decide +kernel⟩
theorem ff_CS_43 : jFf "ChanceSteps" 43 8 12 (.array .long) := ⟨RX8, TX8, 13, rfl, by decide, jmem 244 (by decide +kernel) rfl, uw_8, jt_8, rfl, rfl, by decide +kernel⟩
theorem fg_CS_21 : jF "ChanceSteps" 21 8 8 := ⟨RX8, TX8, 13, rfl, by decide, jmem 240 (by decide +kernel) rfl, uw_8⟩
theorem nw_CS_19 : jNew "ChanceSteps" 19 5 3 v0_5 := ⟨RX5, TX5, 3, tyX5, rfl, jmem 133 (by decide +kernel) rfl, jmem 214 (by decide +kernel) rfl, jmem 107 (by decide +kernel) rfl, uw_5, tyX5_ok, by decide +kernel⟩
theorem cl_CS_46 : jcIn "ChanceSteps" 46 y_Sheet_init b_Sheet_init 1 0 := ⟨jb_Sheet_init, jmem 216 (by decide +kernel) rfl, rfl, "ChanceSteps", jmemN 215 (by decide +kernel) rfl⟩
theorem cl_CS_94 : jcV "ChanceSteps" 94 y_CS_isProgram b_CS_isProgram 2 (some .boolean) 1 := ⟨jb_CS_isProgram, jmem 687 (by decide +kernel) rfl, jmem 25 (by decide +kernel) rfl, jmem 685 (by decide +kernel) rfl⟩
theorem cl_CS_107 : jcV "ChanceSteps" 107 y_CS_endOf b_CS_endOf 2 (some (.object "ChanceSteps$Crowd")) 1 := ⟨jb_CS_endOf, jmem 691 (by decide +kernel) rfl, jmem 26 (by decide +kernel) rfl, jmem 689 (by decide +kernel) rfl⟩
theorem fg_CS_111 : jF "ChanceSteps" 111 0 2 := ⟨RX0, TX0, 4, rfl, by decide, jmem 710 (by decide +kernel) rfl, uw_0⟩
theorem fg_CS_39 : jF "ChanceSteps" 39 8 11 := ⟨RX8, TX8, 13, rfl, by decide, jmem 243 (by decide +kernel) rfl, uw_8⟩
theorem cl_CS_155 : jcV "ChanceSteps" 155 y_Crowd_spread b_Crowd_spread 5 none 2 := ⟨jb_Crowd_spread, jmem 874 (by decide +kernel) rfl, jmem 875 (by decide +kernel) rfl, jmem 921 (by decide +kernel) rfl⟩
theorem fg_CS_43 : jF "ChanceSteps" 43 8 12 := ⟨RX8, TX8, 13, rfl, by decide, jmem 244 (by decide +kernel) rfl, uw_8⟩
theorem cl_CS_145 : jcV "ChanceSteps" 145 y_Crowd_weight b_Crowd_weight 4 (some .long) 0 := ⟨jb_Crowd_weight, jmem 907 (by decide +kernel) rfl, jmem 908 (by decide +kernel) rfl, jmem 906 (by decide +kernel) rfl⟩
theorem cl_CS_183 : jcS "ChanceSteps" 183 y_CS_isSameRatio b_CS_isSameRatio 8 (some .boolean) 4 := ⟨jb_CS_isSameRatio, jmem 961 (by decide +kernel) rfl, jmem 960 (by decide +kernel) rfl⟩
theorem cl_CS_77 : jcS "ChanceSteps" 77 y_CS_isName b_CS_isName 1 (some .boolean) 1 := ⟨jb_CS_isName, jmem 667 (by decide +kernel) rfl, jmem 666 (by decide +kernel) rfl⟩
theorem cl_CS_179 : jcV "ChanceSteps" 179 y_Crowd_spreadWhere b_Crowd_spreadWhere 9 (some .long) 4 := ⟨jb_Crowd_spreadWhere, jmem 957 (by decide +kernel) rfl, jmem 958 (by decide +kernel) rfl, jmem 956 (by decide +kernel) rfl⟩
theorem fg_CS_51 : jF "ChanceSteps" 51 8 1 := ⟨RX8, TX8, 13, rfl, by decide, jmem 233 (by decide +kernel) rfl, uw_8⟩
theorem fg_CS_9 : jF "ChanceSteps" 9 8 0 := ⟨RX8, TX8, 13, rfl, by decide, jmem 232 (by decide +kernel) rfl, uw_8⟩
theorem fp_CS_51 : jFp "ChanceSteps" 51 8 1 .int := ⟨RX8, TX8, 13, rfl, by decide, jmem 233 (by decide +kernel) rfl, uw_8, jt_8, rfl, by decide +kernel⟩
theorem fg_CS_234 : jF "ChanceSteps" 234 8 5 := ⟨RX8, TX8, 13, rfl, by decide, jmem 237 (by decide +kernel) rfl, uw_8⟩
theorem fg_CS_237 : jF "ChanceSteps" 237 8 6 := ⟨RX8, TX8, 13, rfl, by decide, jmem 238 (by decide +kernel) rfl, uw_8⟩
theorem fp_CS_83 : jFp "ChanceSteps" 83 8 4 .int := ⟨RX8, TX8, 13, rfl, by decide, jmem 236 (by decide +kernel) rfl, uw_8, jt_8, rfl, by decide +kernel⟩
theorem fg_CS_240 : jF "ChanceSteps" 240 8 7 := ⟨RX8, TX8, 13, rfl, by decide, jmem 239 (by decide +kernel) rfl, uw_8⟩
theorem fp_CS_59 : jFp "ChanceSteps" 59 8 3 .int := ⟨RX8, TX8, 13, rfl, by decide, jmem 235 (by decide +kernel) rfl, uw_8, jt_8, rfl, by decide +kernel⟩
theorem fg_CS_59 : jF "ChanceSteps" 59 8 3 := ⟨RX8, TX8, 13, rfl, by decide, jmem 235 (by decide +kernel) rfl, uw_8⟩
theorem cl_CS_200 : jcS "ChanceSteps" 200 y_CS_isSheet b_CS_isSheet 1 (some .boolean) 1 := ⟨jb_CS_isSheet, jmem 1023 (by decide +kernel) rfl, jmem 1022 (by decide +kernel) rfl⟩
theorem fg_CS_203 : jF "ChanceSteps" 203 5 1 := ⟨RX5, TX5, 3, rfl, by decide, jmem 222 (by decide +kernel) rfl, uw_5⟩
theorem fg_CS_206 : jF "ChanceSteps" 206 5 2 := ⟨RX5, TX5, 3, rfl, by decide, jmem 224 (by decide +kernel) rfl, uw_5⟩
theorem cl_CS_231 : jcV "ChanceSteps" 231 y_Sheet_write b_Sheet_write 3 none 2 := ⟨jb_Sheet_write, jmem 1058 (by decide +kernel) rfl, jmem 1059 (by decide +kernel) rfl, jmem 1057 (by decide +kernel) rfl⟩
theorem fg_CS_35 : jF "ChanceSteps" 35 8 10 := ⟨RX8, TX8, 13, rfl, by decide, jmem 242 (by decide +kernel) rfl, uw_8⟩
theorem fg_CS_15 : jF "ChanceSteps" 15 8 2 := ⟨RX8, TX8, 13, rfl, by decide, jmem 234 (by decide +kernel) rfl, uw_8⟩
theorem fg_CS_83 : jF "ChanceSteps" 83 8 4 := ⟨RX8, TX8, 13, rfl, by decide, jmem 236 (by decide +kernel) rfl, uw_8⟩
theorem cl_CS_197 : jcV "ChanceSteps" 197 y_Walk_comingBy b_Walk_comingBy 4 (some .int) 3 := ⟨jb_Walk_comingBy, jmem 989 (by decide +kernel) rfl, jmem 990 (by decide +kernel) rfl, jmem 988 (by decide +kernel) rfl⟩
theorem cl_CS_176 : jcS "ChanceSteps" 176 y_CS_unpacked b_CS_unpacked 3 (some .int) 1 := ⟨jb_CS_unpacked, jmem 950 (by decide +kernel) rfl, jmem 949 (by decide +kernel) rfl⟩
theorem cl_CS_243 : jcV "ChanceSteps" 243 y_Sheet_hasRoom b_Sheet_hasRoom 3 (some .boolean) 2 := ⟨jb_Sheet_hasRoom, jmem 1086 (by decide +kernel) rfl, jmem 1087 (by decide +kernel) rfl, jmem 1085 (by decide +kernel) rfl⟩
theorem fg_CS_246 : jF "ChanceSteps" 246 5 0 := ⟨RX5, TX5, 3, rfl, by decide, jmem 220 (by decide +kernel) rfl, uw_5⟩
theorem cl_CS_255 : jcV "ChanceSteps" 255 y_Walk_endFrom b_Walk_endFrom 3 (some (.object "ChanceSteps$Crowd")) 2 := ⟨jb_Walk_endFrom, jmem 694 (by decide +kernel) rfl, jmem 695 (by decide +kernel) rfl, jmem 693 (by decide +kernel) rfl⟩
theorem cl_CS_47 : jcS "ChanceSteps" 47 y_CS_isByte b_CS_isByte 1 (some .boolean) 1 := ⟨jb_CS_isByte, jmem 277 (by decide +kernel) rfl, jmem 276 (by decide +kernel) rfl⟩
theorem cl_CS_55 : jcV "ChanceSteps" 55 y_CS_append b_CS_append 2 none 1 := ⟨jb_CS_append, jmem 281 (by decide +kernel) rfl, jmem 0 (by decide +kernel) rfl, jmem 279 (by decide +kernel) rfl⟩
theorem cl_CS_223 : jcV "ChanceSteps" 223 y_Sheet_become b_Sheet_become 4 none 2 := ⟨jb_Sheet_become, jmem 1054 (by decide +kernel) rfl, jmem 1055 (by decide +kernel) rfl, jmem 1053 (by decide +kernel) rfl⟩
theorem cl_CS_227 : jcS "ChanceSteps" 227 y_CS_hundredths b_CS_hundredths 4 (some .int) 2 := ⟨jb_CS_hundredths, jmem 1030 (by decide +kernel) rfl, jmem 1029 (by decide +kernel) rfl⟩
theorem cl_CS_140 : jcS "ChanceSteps" 140 y_CS_isPart b_CS_isPart 1 (some .boolean) 1 := ⟨jb_CS_isPart, jmem 903 (by decide +kernel) rfl, jmem 902 (by decide +kernel) rfl⟩
theorem ld_CS_143 : Cond.constantLong "ChanceSteps" 143 (-4611686018427387904) ∈ jwd := jmem 905 (by decide +kernel) rfl
theorem cl_CS_168 : jcS "ChanceSteps" 168 y_CS_foldedBy b_CS_foldedBy 2 (some .long) 2 := ⟨jb_CS_foldedBy, jmem 939 (by decide +kernel) rfl, jmem 938 (by decide +kernel) rfl⟩
theorem cl_CS_151 : jcS "ChanceSteps" 151 y_CS_partOf b_CS_partOf 7 (some .long) 3 := ⟨jb_CS_partOf, jmem 912 (by decide +kernel) rfl, jmem 911 (by decide +kernel) rfl⟩
theorem ld_CS_267 : Cond.constantLong "ChanceSteps" 267 (100) ∈ jwd := jmem 1032 (by decide +kernel) rfl
theorem fp_CS_234 : jFp "ChanceSteps" 234 8 5 .boolean := ⟨RX8, TX8, 13, rfl, by decide, jmem 237 (by decide +kernel) rfl, uw_8, jt_8, rfl, by decide +kernel⟩
theorem fp_CS_237 : jFp "ChanceSteps" 237 8 6 .int := ⟨RX8, TX8, 13, rfl, by decide, jmem 238 (by decide +kernel) rfl, uw_8, jt_8, rfl, by decide +kernel⟩
theorem fp_CS_240 : jFp "ChanceSteps" 240 8 7 .int := ⟨RX8, TX8, 13, rfl, by decide, jmem 239 (by decide +kernel) rfl, uw_8, jt_8, rfl, by decide +kernel⟩
theorem ld_CS_149 : Cond.constantLong "ChanceSteps" 149 (1125899906842624) ∈ jwd := jmem 910 (by decide +kernel) rfl
theorem cl_CS_80 : jcS "ChanceSteps" 80 y_CS_isValue b_CS_isValue 1 (some .boolean) 1 := ⟨jb_CS_isValue, jmem 670 (by decide +kernel) rfl, jmem 669 (by decide +kernel) rfl⟩
theorem cl_CS_86 : jcS "ChanceSteps" 86 y_CS_digitAt b_CS_digitAt 2 (some .int) 2 := ⟨jb_CS_digitAt, jmem 673 (by decide +kernel) rfl, jmem 672 (by decide +kernel) rfl⟩
theorem cl_CS_90 : jcS "ChanceSteps" 90 y_CS_withDigit b_CS_withDigit 3 (some .int) 3 := ⟨jb_CS_withDigit, jmem 676 (by decide +kernel) rfl, jmem 675 (by decide +kernel) rfl⟩
theorem cl_CS_172 : jcV "ChanceSteps" 172 y_Crowd_likeliestState b_Crowd_likeliestState 4 (some .int) 0 := ⟨jb_Crowd_likeliestState, jmem 946 (by decide +kernel) rfl, jmem 947 (by decide +kernel) rfl, jmem 945 (by decide +kernel) rfl⟩
theorem cl_CS_269 : jcS "ChanceSteps" 269 y_CS_shiftOf b_CS_shiftOf 1 (some .int) 1 := ⟨jb_CS_shiftOf, jmem 679 (by decide +kernel) rfl, jmem 678 (by decide +kernel) rfl⟩
theorem cl_CS_259 : jcV "ChanceSteps" 259 y_CS_wouldTell b_CS_wouldTell 4 (some .boolean) 3 := ⟨jb_CS_wouldTell, jmem 1039 (by decide +kernel) rfl, jmem 52 (by decide +kernel) rfl, jmem 1037 (by decide +kernel) rfl⟩
theorem cl_CS_187 : jcS "ChanceSteps" 187 y_CS_areNames b_CS_areNames 1 (some .boolean) 1 := ⟨jb_CS_areNames, jmem 968 (by decide +kernel) rfl, jmem 967 (by decide +kernel) rfl⟩
theorem fg_CS_97 : jF "ChanceSteps" 97 2 1 := ⟨RX2, TX2, 16, rfl, by decide, jmem 399 (by decide +kernel) rfl, uw_2⟩
theorem cl_CS_190 : jcV "ChanceSteps" 190 y_Prog_neededFrom b_Prog_neededFrom 4 (some .int) 3 := ⟨jb_Prog_neededFrom, jmem 739 (by decide +kernel) rfl, jmem 740 (by decide +kernel) rfl, jmem 970 (by decide +kernel) rfl⟩
theorem cl_CS_263 : jcS "ChanceSteps" 263 y_CS_divisorOf b_CS_divisorOf 11 (some .long) 2 := ⟨jb_CS_divisorOf, jmem 915 (by decide +kernel) rfl, jmem 914 (by decide +kernel) rfl⟩
theorem cl_CS_193 : jcV "ChanceSteps" 193 y_Walk_mostAtOnce b_Walk_mostAtOnce 6 (some .int) 3 := ⟨jb_Walk_mostAtOnce, jmem 976 (by decide +kernel) rfl, jmem 977 (by decide +kernel) rfl, jmem 975 (by decide +kernel) rfl⟩
theorem nw_CS_13 : jNew "ChanceSteps" 13 2 16 v0_2 := ⟨RX2, TX2, 16, tyX2, rfl, jmem 131 (by decide +kernel) rfl, jmem 287 (by decide +kernel) rfl, jmem 110 (by decide +kernel) rfl, uw_2, tyX2_ok, by decide +kernel⟩
theorem cl_CS_62 : jcI "ChanceSteps" 62 y_Prog_init b_Prog_init 2 0 := ⟨jb_Prog_init, jmem 289 (by decide +kernel) rfl, rfl, jmem 288 (by decide +kernel) rfl⟩
theorem fg_CS_28 : jF "ChanceSteps" 28 8 9 := ⟨RX8, TX8, 13, rfl, by decide, jmem 241 (by decide +kernel) rfl, uw_8⟩
theorem cl_CS_63 : jcV "ChanceSteps" 63 y_Read_faultOf b_Read_faultOf 5 (some .int) 4 := ⟨jb_Read_faultOf, jmem 457 (by decide +kernel) rfl, jmem 458 (by decide +kernel) rfl, jmem 456 (by decide +kernel) rfl⟩
theorem cl_CS_67 : jcV "ChanceSteps" 67 y_Prog_weigh b_Prog_weigh 4 none 1 := ⟨jb_Prog_weigh, jmem 639 (by decide +kernel) rfl, jmem 640 (by decide +kernel) rfl, jmem 638 (by decide +kernel) rfl⟩
theorem fg_CS_71 : jF "ChanceSteps" 71 2 8 := ⟨RX2, TX2, 16, rfl, by decide, jmem 408 (by decide +kernel) rfl, uw_2⟩
theorem fg_CS_74 : jF "ChanceSteps" 74 2 9 := ⟨RX2, TX2, 16, rfl, by decide, jmem 411 (by decide +kernel) rfl, uw_2⟩
theorem ld_CS_159 : Cond.constant "ChanceSteps" 159 (1000000) ∈ jwd := jmem 926 (by decide +kernel) rfl
theorem cl_CS_160 : jcS "ChanceSteps" 160 y_CS_packed b_CS_packed 4 (some .int) 1 := ⟨jb_CS_packed, jmem 928 (by decide +kernel) rfl, jmem 927 (by decide +kernel) rfl⟩
theorem cl_CS_164 : jcV "ChanceSteps" 164 y_Crowd_weightOf b_Crowd_weightOf 3 (some .long) 1 := ⟨jb_Crowd_weightOf, jmem 931 (by decide +kernel) rfl, jmem 932 (by decide +kernel) rfl, jmem 930 (by decide +kernel) rfl⟩
theorem cl_CS_114 : jcV "ChanceSteps" 114 y_Prog_stepAt b_Prog_stepAt 2 (some (.object "ChanceSteps$Step")) 1 := ⟨jb_Prog_stepAt, jmem 571 (by decide +kernel) rfl, jmem 572 (by decide +kernel) rfl, jmem 890 (by decide +kernel) rfl⟩
theorem fg_CS_118 : jF "ChanceSteps" 118 6 0 := ⟨RX6, TX6, 14, rfl, by decide, jmem 317 (by decide +kernel) rfl, uw_6⟩
theorem fg_CS_123 : jF "ChanceSteps" 123 6 1 := ⟨RX6, TX6, 14, rfl, by decide, jmem 322 (by decide +kernel) rfl, uw_6⟩
theorem fg_CS_126 : jF "ChanceSteps" 126 6 3 := ⟨RX6, TX6, 14, rfl, by decide, jmem 332 (by decide +kernel) rfl, uw_6⟩
theorem fg_CS_129 : jF "ChanceSteps" 129 6 7 := ⟨RX6, TX6, 14, rfl, by decide, jmem 345 (by decide +kernel) rfl, uw_6⟩
theorem fg_CS_130 : jF "ChanceSteps" 130 6 6 := ⟨RX6, TX6, 14, rfl, by decide, jmem 341 (by decide +kernel) rfl, uw_6⟩
theorem fg_CS_133 : jF "ChanceSteps" 133 6 2 := ⟨RX6, TX6, 14, rfl, by decide, jmem 326 (by decide +kernel) rfl, uw_6⟩
theorem cl_CS_136 : jcS "ChanceSteps" 136 y_CS_isOfGroup b_CS_isOfGroup 2 (some .boolean) 2 := ⟨jb_CS_isOfGroup, jmem 896 (by decide +kernel) rfl, jmem 895 (by decide +kernel) rfl⟩
theorem cl_CS_207 : jcV "ChanceSteps" 207 y_CS_firstOtherwise b_CS_firstOtherwise 5 (some .int) 3 := ⟨jb_CS_firstOtherwise, jmem 1027 (by decide +kernel) rfl, jmem 50 (by decide +kernel) rfl, jmem 1025 (by decide +kernel) rfl⟩
theorem cl_CS_211 : jcV "ChanceSteps" 211 y_CS_programsThatTell b_CS_programsThatTell 5 (some .int) 2 := ⟨jb_CS_programsThatTell, jmem 1035 (by decide +kernel) rfl, jmem 51 (by decide +kernel) rfl, jmem 1033 (by decide +kernel) rfl⟩
theorem cl_CS_215 : jcV "ChanceSteps" 215 y_CS_namesThatTell b_CS_namesThatTell 5 (some .int) 2 := ⟨jb_CS_namesThatTell, jmem 1043 (by decide +kernel) rfl, jmem 53 (by decide +kernel) rfl, jmem 1041 (by decide +kernel) rfl⟩
theorem cl_CS_219 : jcV "ChanceSteps" 219 y_CS_startsThatTell b_CS_startsThatTell 9 (some .int) 3 := ⟨jb_CS_startsThatTell, jmem 1047 (by decide +kernel) rfl, jmem 54 (by decide +kernel) rfl, jmem 1045 (by decide +kernel) rfl⟩
theorem fg_CS_100 : jF "ChanceSteps" 100 2 11 := ⟨RX2, TX2, 16, rfl, by decide, jmem 415 (by decide +kernel) rfl, uw_2⟩
theorem fg_CS_104 : jF "ChanceSteps" 104 2 10 := ⟨RX2, TX2, 16, rfl, by decide, jmem 413 (by decide +kernel) rfl, uw_2⟩
theorem cl_Crowd_3 : jcO "ChanceSteps$Crowd" 3 := ⟨jmem 701 (by decide +kernel) rfl, jmem 129 (by decide +kernel) rfl, jmem 130 (by decide +kernel) rfl⟩
theorem fp_Crowd_9 : jFp "ChanceSteps$Crowd" 9 0 0 (.array .int) := ⟨RX0, TX0, 4, rfl, by decide, jmem 702 (by decide +kernel) rfl, uw_0, jt_0, rfl, by decide +kernel⟩
theorem fp_Crowd_15 : jFp "ChanceSteps$Crowd" 15 0 1 (.array .long) := ⟨RX0, TX0, 4, rfl, by decide, jmem 705 (by decide +kernel) rfl, uw_0, jt_0, rfl, by decide +kernel⟩
theorem fg_Crowd_19 : jF "ChanceSteps$Crowd" 19 0 2 := ⟨RX0, TX0, 4, rfl, by decide, jmem 708 (by decide +kernel) rfl, uw_0⟩
theorem fg_Crowd_9 : jF "ChanceSteps$Crowd" 9 0 0 := ⟨RX0, TX0, 4, rfl, by decide, jmem 702 (by decide +kernel) rfl, uw_0⟩
theorem fg_Crowd_15 : jF "ChanceSteps$Crowd" 15 0 1 := ⟨RX0, TX0, 4, rfl, by decide, jmem 705 (by decide +kernel) rfl, uw_0⟩
theorem fp_Crowd_19 : jFp "ChanceSteps$Crowd" 19 0 2 .int := ⟨RX0, TX0, 4, rfl, by decide, jmem 708 (by decide +kernel) rfl, uw_0, jt_0, rfl, by decide +kernel⟩
theorem ld_Crowd_23 : Cond.constantLong "ChanceSteps$Crowd" 23 (1125899906842624) ∈ jwd := jmem 728 (by decide +kernel) rfl
theorem cl_Crowd_25 : jcV "ChanceSteps$Crowd" 25 y_Crowd_add b_Crowd_add 4 none 2 := ⟨jb_Crowd_add, jmem 730 (by decide +kernel) rfl, jmem 731 (by decide +kernel) rfl, jmem 729 (by decide +kernel) rfl⟩
theorem fp_Crowd_29 : jFp "ChanceSteps$Crowd" 29 0 3 .int := ⟨RX0, TX0, 4, rfl, by decide, jmem 712 (by decide +kernel) rfl, uw_0, jt_0, rfl, by decide +kernel⟩
theorem cl_Crowd_32 : jcSn "ChanceSteps$Crowd" 32 y_CS_digitAt b_CS_digitAt 2 (some .int) 2 := ⟨jb_CS_digitAt, jmem 673 (by decide +kernel) rfl, "ChanceSteps", jmemN 877 (by decide +kernel) rfl⟩
theorem cl_Mixer_3 : jcO "ChanceSteps$Mixer" 3 := ⟨jmem 181 (by decide +kernel) rfl, jmem 129 (by decide +kernel) rfl, jmem 130 (by decide +kernel) rfl⟩
theorem fp_Mixer_9 : jFp "ChanceSteps$Mixer" 9 1 0 (.array .int) := ⟨RX1, TX1, 5, rfl, by decide, jmem 182 (by decide +kernel) rfl, uw_1, jt_1, rfl, by decide +kernel⟩
theorem fp_Mixer_15 : jFp "ChanceSteps$Mixer" 15 1 1 (.array .long) := ⟨RX1, TX1, 5, rfl, by decide, jmem 183 (by decide +kernel) rfl, uw_1, jt_1, rfl, by decide +kernel⟩
theorem ff_Mixer_19 : jFf "ChanceSteps$Mixer" 19 1 3 (.array .int) := ⟨RX1, TX1, 5, rfl, by decide, jmem 185 (by decide +kernel) rfl, uw_1, jt_1, rfl, rfl, by decide +kernel⟩
theorem ff_Mixer_22 : jFf "ChanceSteps$Mixer" 22 1 4 (.array .int) := ⟨RX1, TX1, 5, rfl, by decide, jmem 186 (by decide +kernel) rfl, uw_1, jt_1, rfl, rfl, by decide +kernel⟩
theorem fp_Mixer_25 : jFp "ChanceSteps$Mixer" 25 1 2 .int := ⟨RX1, TX1, 5, rfl, by decide, jmem 184 (by decide +kernel) rfl, uw_1, jt_1, rfl, by decide +kernel⟩
theorem fg_Mixer_37 : jF "ChanceSteps$Mixer" 37 0 0 := ⟨RX0, TX0, 4, rfl, by decide, jmem 703 (by decide +kernel) rfl, uw_0⟩
theorem fg_Mixer_38 : jF "ChanceSteps$Mixer" 38 0 1 := ⟨RX0, TX0, 4, rfl, by decide, jmem 706 (by decide +kernel) rfl, uw_0⟩
theorem fg_Mixer_9 : jF "ChanceSteps$Mixer" 9 1 0 := ⟨RX1, TX1, 5, rfl, by decide, jmem 182 (by decide +kernel) rfl, uw_1⟩
theorem fp_Mixer_37 : jFp "ChanceSteps$Mixer" 37 0 0 (.array .int) := ⟨RX0, TX0, 4, rfl, by decide, jmem 703 (by decide +kernel) rfl, uw_0, jt_0, rfl, by decide +kernel⟩
theorem fg_Mixer_15 : jF "ChanceSteps$Mixer" 15 1 1 := ⟨RX1, TX1, 5, rfl, by decide, jmem 183 (by decide +kernel) rfl, uw_1⟩
theorem fp_Mixer_38 : jFp "ChanceSteps$Mixer" 38 0 1 (.array .long) := ⟨RX0, TX0, 4, rfl, by decide, jmem 706 (by decide +kernel) rfl, uw_0, jt_0, rfl, by decide +kernel⟩
theorem fg_Mixer_25 : jF "ChanceSteps$Mixer" 25 1 2 := ⟨RX1, TX1, 5, rfl, by decide, jmem 184 (by decide +kernel) rfl, uw_1⟩
theorem fp_Mixer_34 : jFp "ChanceSteps$Mixer" 34 0 2 .int := ⟨RX0, TX0, 4, rfl, by decide, jmem 709 (by decide +kernel) rfl, uw_0, jt_0, rfl, by decide +kernel⟩
theorem fg_Mixer_43 : jF "ChanceSteps$Mixer" 43 0 3 := ⟨RX0, TX0, 4, rfl, by decide, jmem 714 (by decide +kernel) rfl, uw_0⟩
theorem fp_Mixer_43 : jFp "ChanceSteps$Mixer" 43 0 3 .int := ⟨RX0, TX0, 4, rfl, by decide, jmem 714 (by decide +kernel) rfl, uw_0, jt_0, rfl, by decide +kernel⟩
theorem ld_Mixer_29 : Cond.constant "ChanceSteps$Mixer" 29 (-1640531535) ∈ jwd := jmem 783 (by decide +kernel) rfl
theorem fg_Mixer_19 : jF "ChanceSteps$Mixer" 19 1 3 := ⟨RX1, TX1, 5, rfl, by decide, jmem 185 (by decide +kernel) rfl, uw_1⟩
theorem fg_Mixer_22 : jF "ChanceSteps$Mixer" 22 1 4 := ⟨RX1, TX1, 5, rfl, by decide, jmem 186 (by decide +kernel) rfl, uw_1⟩
theorem cl_Mixer_30 : jcV "ChanceSteps$Mixer" 30 y_Mixer_putNew b_Mixer_putNew 5 (some .boolean) 3 := ⟨jb_Mixer_putNew, jmem 786 (by decide +kernel) rfl, jmem 33 (by decide +kernel) rfl, jmem 784 (by decide +kernel) rfl⟩
theorem fg_Mixer_34 : jF "ChanceSteps$Mixer" 34 0 2 := ⟨RX0, TX0, 4, rfl, by decide, jmem 709 (by decide +kernel) rfl, uw_0⟩
theorem cl_Mixer_39 : jcV "ChanceSteps$Mixer" 39 y_Mixer_put b_Mixer_put 7 (some .boolean) 2 := ⟨jb_Mixer_put, jmem 780 (by decide +kernel) rfl, jmem 781 (by decide +kernel) rfl, jmem 839 (by decide +kernel) rfl⟩
theorem cl_Prog_3 : jcO "ChanceSteps$Program" 3 := ⟨jmem 291 (by decide +kernel) rfl, jmem 129 (by decide +kernel) rfl, jmem 130 (by decide +kernel) rfl⟩
theorem ca_Prog_9 : Cond.classLink "ChanceSteps$Program" 9 "ChanceSteps$Step" ∈ jwd := jmem 292 (by decide +kernel) rfl
theorem ff_Prog_11 : jFf "ChanceSteps$Program" 11 2 0 (.array (.object "ChanceSteps$Step")) := ⟨RX2, TX2, 16, rfl, by decide, jmem 395 (by decide +kernel) rfl, uw_2, jt_2, rfl, rfl, by decide +kernel⟩
theorem ff_Prog_17 : jFf "ChanceSteps$Program" 17 2 2 (.array .int) := ⟨RX2, TX2, 16, rfl, by decide, jmem 400 (by decide +kernel) rfl, uw_2, jt_2, rfl, rfl, by decide +kernel⟩
theorem ff_Prog_21 : jFf "ChanceSteps$Program" 21 2 4 (.array .int) := ⟨RX2, TX2, 16, rfl, by decide, jmem 403 (by decide +kernel) rfl, uw_2, jt_2, rfl, rfl, by decide +kernel⟩
theorem ff_Prog_24 : jFf "ChanceSteps$Program" 24 2 5 (.array .int) := ⟨RX2, TX2, 16, rfl, by decide, jmem 404 (by decide +kernel) rfl, uw_2, jt_2, rfl, rfl, by decide +kernel⟩
theorem ff_Prog_27 : jFf "ChanceSteps$Program" 27 2 7 (.array .int) := ⟨RX2, TX2, 16, rfl, by decide, jmem 407 (by decide +kernel) rfl, uw_2, jt_2, rfl, rfl, by decide +kernel⟩
theorem nw_Prog_30 : jNew "ChanceSteps$Program" 30 4 3 v0_4 := ⟨RX4, TX4, 3, tyX4, rfl, jmem 294 (by decide +kernel) rfl, jmem 295 (by decide +kernel) rfl, jmem 111 (by decide +kernel) rfl, uw_4, tyX4_ok, by decide +kernel⟩
theorem cl_Prog_32 : jcIn "ChanceSteps$Program" 32 y_Runs_init b_Runs_init 1 0 := ⟨jb_Runs_init, jmem 297 (by decide +kernel) rfl, rfl, "ChanceSteps", jmemN 296 (by decide +kernel) rfl⟩
theorem ff_Prog_33 : jFf "ChanceSteps$Program" 33 2 12 (.object "ChanceSteps$Runs") := ⟨RX2, TX2, 16, rfl, by decide, jmem 417 (by decide +kernel) rfl, uw_2, jt_2, rfl, rfl, by decide +kernel⟩
theorem fp_Prog_37 : jFp "ChanceSteps$Program" 37 2 14 .int := ⟨RX2, TX2, 16, rfl, by decide, jmem 420 (by decide +kernel) rfl, uw_2, jt_2, rfl, by decide +kernel⟩
theorem fg_Prog_11 : jF "ChanceSteps$Program" 11 2 0 := ⟨RX2, TX2, 16, rfl, by decide, jmem 395 (by decide +kernel) rfl, uw_2⟩
theorem nw_Prog_9 : jNew "ChanceSteps$Program" 9 6 14 v0_6 := ⟨RX6, TX6, 14, tyX6, rfl, jmem 292 (by decide +kernel) rfl, jmem 310 (by decide +kernel) rfl, jmem 112 (by decide +kernel) rfl, uw_6, tyX6_ok, by decide +kernel⟩
theorem cl_Prog_41 : jcIn "ChanceSteps$Program" 41 y_Step_init b_Step_init 1 0 := ⟨jb_Step_init, jmem 312 (by decide +kernel) rfl, rfl, "ChanceSteps", jmemN 311 (by decide +kernel) rfl⟩
theorem fg_Prog_48 : jF "ChanceSteps$Program" 48 2 6 := ⟨RX2, TX2, 16, rfl, by decide, jmem 405 (by decide +kernel) rfl, uw_2⟩
theorem fg_Prog_21 : jF "ChanceSteps$Program" 21 2 4 := ⟨RX2, TX2, 16, rfl, by decide, jmem 403 (by decide +kernel) rfl, uw_2⟩
theorem fg_Prog_24 : jF "ChanceSteps$Program" 24 2 5 := ⟨RX2, TX2, 16, rfl, by decide, jmem 404 (by decide +kernel) rfl, uw_2⟩
theorem fp_Prog_48 : jFp "ChanceSteps$Program" 48 2 6 .int := ⟨RX2, TX2, 16, rfl, by decide, jmem 405 (by decide +kernel) rfl, uw_2, jt_2, rfl, by decide +kernel⟩
theorem fg_Prog_42 : jF "ChanceSteps$Program" 42 2 1 := ⟨RX2, TX2, 16, rfl, by decide, jmem 396 (by decide +kernel) rfl, uw_2⟩
theorem cl_Prog_54 : jcV "ChanceSteps$Program" 54 y_Prog_stepAt b_Prog_stepAt 2 (some (.object "ChanceSteps$Step")) 1 := ⟨jb_Prog_stepAt, jmem 571 (by decide +kernel) rfl, jmem 572 (by decide +kernel) rfl, jmem 570 (by decide +kernel) rfl⟩
theorem cl_Prog_58 : jcV "ChanceSteps$Program" 58 y_Step_begin b_Step_begin 3 none 2 := ⟨jb_Step_begin, jmem 575 (by decide +kernel) rfl, jmem 576 (by decide +kernel) rfl, jmem 574 (by decide +kernel) rfl⟩
theorem fp_Prog_42 : jFp "ChanceSteps$Program" 42 2 1 .int := ⟨RX2, TX2, 16, rfl, by decide, jmem 396 (by decide +kernel) rfl, uw_2, jt_2, rfl, by decide +kernel⟩
theorem fg_Prog_65 : jF "ChanceSteps$Program" 65 6 3 := ⟨RX6, TX6, 14, rfl, by decide, jmem 333 (by decide +kernel) rfl, uw_6⟩
theorem fg_Prog_123 : jF "ChanceSteps$Program" 123 6 4 := ⟨RX6, TX6, 14, rfl, by decide, jmem 335 (by decide +kernel) rfl, uw_6⟩
theorem fg_Prog_114 : jF "ChanceSteps$Program" 114 6 7 := ⟨RX6, TX6, 14, rfl, by decide, jmem 348 (by decide +kernel) rfl, uw_6⟩
theorem fp_Prog_45 : jFp "ChanceSteps$Program" 45 2 3 .int := ⟨RX2, TX2, 16, rfl, by decide, jmem 401 (by decide +kernel) rfl, uw_2, jt_2, rfl, by decide +kernel⟩
theorem fg_Prog_33 : jF "ChanceSteps$Program" 33 2 12 := ⟨RX2, TX2, 16, rfl, by decide, jmem 417 (by decide +kernel) rfl, uw_2⟩
theorem cl_Prog_51 : jcV "ChanceSteps$Program" 51 y_Runs_clear b_Runs_clear 2 none 0 := ⟨jb_Runs_clear, jmem 468 (by decide +kernel) rfl, jmem 469 (by decide +kernel) rfl, jmem 467 (by decide +kernel) rfl⟩
theorem cl_Prog_149 : jcV "ChanceSteps$Program" 149 y_Prog_valueOf b_Prog_valueOf 6 (some .int) 2 := ⟨jb_Prog_valueOf, jmem 802 (by decide +kernel) rfl, jmem 803 (by decide +kernel) rfl, jmem 801 (by decide +kernel) rfl⟩
theorem fg_Prog_45 : jF "ChanceSteps$Program" 45 2 3 := ⟨RX2, TX2, 16, rfl, by decide, jmem 401 (by decide +kernel) rfl, uw_2⟩
theorem fg_Prog_17 : jF "ChanceSteps$Program" 17 2 2 := ⟨RX2, TX2, 16, rfl, by decide, jmem 400 (by decide +kernel) rfl, uw_2⟩
theorem fg_Prog_62 : jF "ChanceSteps$Program" 62 6 11 := ⟨RX6, TX6, 14, rfl, by decide, jmem 358 (by decide +kernel) rfl, uw_6⟩
theorem cl_Prog_133 : jcV "ChanceSteps$Program" 133 y_Prog_neededAheadOf b_Prog_neededAheadOf 7 (some .int) 3 := ⟨jb_Prog_neededAheadOf, jmem 748 (by decide +kernel) rfl, jmem 29 (by decide +kernel) rfl, jmem 746 (by decide +kernel) rfl⟩
theorem cl_Prog_104 : jcV "ChanceSteps$Program" 104 y_Prog_behind b_Prog_behind 2 (some .int) 1 := ⟨jb_Prog_behind, jmem 647 (by decide +kernel) rfl, jmem 648 (by decide +kernel) rfl, jmem 646 (by decide +kernel) rfl⟩
theorem fg_Prog_88 : jF "ChanceSteps$Program" 88 6 1 := ⟨RX6, TX6, 14, rfl, by decide, jmem 324 (by decide +kernel) rfl, uw_6⟩
theorem fg_Prog_108 : jF "ChanceSteps$Program" 108 6 0 := ⟨RX6, TX6, 14, rfl, by decide, jmem 319 (by decide +kernel) rfl, uw_6⟩
theorem fg_Prog_85 : jF "ChanceSteps$Program" 85 6 6 := ⟨RX6, TX6, 14, rfl, by decide, jmem 342 (by decide +kernel) rfl, uw_6⟩
theorem fg_Prog_111 : jF "ChanceSteps$Program" 111 6 5 := ⟨RX6, TX6, 14, rfl, by decide, jmem 338 (by decide +kernel) rfl, uw_6⟩
theorem cl_Prog_126 : jcV "ChanceSteps$Program" 126 y_Prog_neededAhead b_Prog_neededAhead 7 (some .int) 4 := ⟨jb_Prog_neededAhead, jmem 744 (by decide +kernel) rfl, jmem 28 (by decide +kernel) rfl, jmem 742 (by decide +kernel) rfl⟩
theorem fg_Prog_116 : jF "ChanceSteps$Program" 116 6 2 := ⟨RX6, TX6, 14, rfl, by decide, jmem 329 (by decide +kernel) rfl, uw_6⟩
theorem cl_Prog_130 : jcV "ChanceSteps$Program" 130 y_Prog_neededAheadOfTimes b_Prog_neededAheadOfTimes 7 (some .int) 4 := ⟨jb_Prog_neededAheadOfTimes, jmem 752 (by decide +kernel) rfl, jmem 30 (by decide +kernel) rfl, jmem 750 (by decide +kernel) rfl⟩
theorem fg_Prog_91 : jF "ChanceSteps$Program" 91 6 12 := ⟨RX6, TX6, 14, rfl, by decide, jmem 361 (by decide +kernel) rfl, uw_6⟩
theorem fg_Prog_115 : jF "ChanceSteps$Program" 115 6 8 := ⟨RX6, TX6, 14, rfl, by decide, jmem 350 (by decide +kernel) rfl, uw_6⟩
theorem fg_Prog_137 : jF "ChanceSteps$Program" 137 6 9 := ⟨RX6, TX6, 14, rfl, by decide, jmem 353 (by decide +kernel) rfl, uw_6⟩
theorem fg_Prog_140 : jF "ChanceSteps$Program" 140 6 10 := ⟨RX6, TX6, 14, rfl, by decide, jmem 356 (by decide +kernel) rfl, uw_6⟩
theorem fg_Prog_27 : jF "ChanceSteps$Program" 27 2 7 := ⟨RX2, TX2, 16, rfl, by decide, jmem 407 (by decide +kernel) rfl, uw_2⟩
theorem cl_Prog_143 : jcS "ChanceSteps$Program" 143 y_Prog_joined b_Prog_joined 3 (some .int) 3 := ⟨jb_Prog_joined, jmem 806 (by decide +kernel) rfl, jmem 805 (by decide +kernel) rfl⟩
theorem cl_Prog_146 : jcSn "ChanceSteps$Program" 146 y_CS_digitAt b_CS_digitAt 2 (some .int) 2 := ⟨jb_CS_digitAt, jmem 673 (by decide +kernel) rfl, "ChanceSteps", jmemN 808 (by decide +kernel) rfl⟩
theorem fp_Prog_74 : jFp "ChanceSteps$Program" 74 2 10 .int := ⟨RX2, TX2, 16, rfl, by decide, jmem 414 (by decide +kernel) rfl, uw_2, jt_2, rfl, by decide +kernel⟩
theorem fp_Prog_77 : jFp "ChanceSteps$Program" 77 2 11 .boolean := ⟨RX2, TX2, 16, rfl, by decide, jmem 416 (by decide +kernel) rfl, uw_2, jt_2, rfl, by decide +kernel⟩
theorem cl_Prog_81 : jcV "ChanceSteps$Program" 81 y_Prog_weighStep b_Prog_weighStep 5 none 3 := ⟨jb_Prog_weighStep, jmem 644 (by decide +kernel) rfl, jmem 22 (by decide +kernel) rfl, jmem 642 (by decide +kernel) rfl⟩
theorem fg_Prog_74 : jF "ChanceSteps$Program" 74 2 10 := ⟨RX2, TX2, 16, rfl, by decide, jmem 414 (by decide +kernel) rfl, uw_2⟩
theorem fg_Prog_77 : jF "ChanceSteps$Program" 77 2 11 := ⟨RX2, TX2, 16, rfl, by decide, jmem 416 (by decide +kernel) rfl, uw_2⟩
theorem cl_Prog_92 : jcV "ChanceSteps$Program" 92 y_Prog_bitsOf b_Prog_bitsOf 5 (some .int) 2 := ⟨jb_Prog_bitsOf, jmem 655 (by decide +kernel) rfl, jmem 23 (by decide +kernel) rfl, jmem 653 (by decide +kernel) rfl⟩
theorem fp_Prog_95 : jFp "ChanceSteps$Program" 95 2 8 .int := ⟨RX2, TX2, 16, rfl, by decide, jmem 409 (by decide +kernel) rfl, uw_2, jt_2, rfl, by decide +kernel⟩
theorem cl_Prog_98 : jcV "ChanceSteps$Program" 98 y_Prog_turnsOf b_Prog_turnsOf 5 (some .int) 2 := ⟨jb_Prog_turnsOf, jmem 659 (by decide +kernel) rfl, jmem 24 (by decide +kernel) rfl, jmem 657 (by decide +kernel) rfl⟩
theorem fp_Prog_101 : jFp "ChanceSteps$Program" 101 2 9 .int := ⟨RX2, TX2, 16, rfl, by decide, jmem 412 (by decide +kernel) rfl, uw_2, jt_2, rfl, by decide +kernel⟩
theorem fp_Prog_91 : jFp "ChanceSteps$Program" 91 6 12 .boolean := ⟨RX6, TX6, 14, rfl, by decide, jmem 361 (by decide +kernel) rfl, uw_6, jt_6, rfl, by decide +kernel⟩
theorem fp_Prog_114 : jFp "ChanceSteps$Program" 114 6 7 .int := ⟨RX6, TX6, 14, rfl, by decide, jmem 348 (by decide +kernel) rfl, uw_6, jt_6, rfl, by decide +kernel⟩
theorem fp_Prog_115 : jFp "ChanceSteps$Program" 115 6 8 .int := ⟨RX6, TX6, 14, rfl, by decide, jmem 350 (by decide +kernel) rfl, uw_6, jt_6, rfl, by decide +kernel⟩
theorem fp_Prog_119 : jFp "ChanceSteps$Program" 119 6 13 (.object "ChanceSteps$Program") := ⟨RX6, TX6, 14, rfl, by decide, jmem 364 (by decide +kernel) rfl, uw_6, jt_6, rfl, by decide +kernel⟩
theorem fg_Prog_119 : jF "ChanceSteps$Program" 119 6 13 := ⟨RX6, TX6, 14, rfl, by decide, jmem 364 (by decide +kernel) rfl, uw_6⟩
theorem fg_Prog_95 : jF "ChanceSteps$Program" 95 2 8 := ⟨RX2, TX2, 16, rfl, by decide, jmem 409 (by decide +kernel) rfl, uw_2⟩
theorem fg_Prog_101 : jF "ChanceSteps$Program" 101 2 9 := ⟨RX2, TX2, 16, rfl, by decide, jmem 412 (by decide +kernel) rfl, uw_2⟩
theorem cl_Read_3 : jcO "ChanceSteps$Reader" 3 := ⟨jmem 140 (by decide +kernel) rfl, jmem 129 (by decide +kernel) rfl, jmem 130 (by decide +kernel) rfl⟩
theorem fg_Read_37 : jF "ChanceSteps$Reader" 37 3 4 := ⟨RX3, TX3, 9, rfl, by decide, jmem 145 (by decide +kernel) rfl, uw_3⟩
theorem fg_Read_21 : jF "ChanceSteps$Reader" 21 3 1 := ⟨RX3, TX3, 9, rfl, by decide, jmem 142 (by decide +kernel) rfl, uw_3⟩
theorem cl_Read_156 : jcV "ChanceSteps$Reader" 156 y_Read_byteAt b_Read_byteAt 2 (some .int) 1 := ⟨jb_Read_byteAt, jmem 477 (by decide +kernel) rfl, jmem 2 (by decide +kernel) rfl, jmem 475 (by decide +kernel) rfl⟩
theorem fp_Read_37 : jFp "ChanceSteps$Reader" 37 3 4 .int := ⟨RX3, TX3, 9, rfl, by decide, jmem 145 (by decide +kernel) rfl, uw_3, jt_3, rfl, by decide +kernel⟩
theorem fp_Read_53 : jFp "ChanceSteps$Reader" 53 3 6 .int := ⟨RX3, TX3, 9, rfl, by decide, jmem 147 (by decide +kernel) rfl, uw_3, jt_3, rfl, by decide +kernel⟩
theorem fp_Read_64 : jFp "ChanceSteps$Reader" 64 3 8 .int := ⟨RX3, TX3, 9, rfl, by decide, jmem 149 (by decide +kernel) rfl, uw_3, jt_3, rfl, by decide +kernel⟩
theorem fp_Read_50 : jFp "ChanceSteps$Reader" 50 3 7 .int := ⟨RX3, TX3, 9, rfl, by decide, jmem 148 (by decide +kernel) rfl, uw_3, jt_3, rfl, by decide +kernel⟩
theorem cl_Read_160 : jcS "ChanceSteps$Reader" 160 y_Read_isLetter b_Read_isLetter 1 (some .boolean) 1 := ⟨jb_Read_isLetter, jmem 480 (by decide +kernel) rfl, jmem 479 (by decide +kernel) rfl⟩
theorem cl_Read_163 : jcV "ChanceSteps$Reader" 163 y_Read_takeWord b_Read_takeWord 2 none 0 := ⟨jb_Read_takeWord, jmem 484 (by decide +kernel) rfl, jmem 3 (by decide +kernel) rfl, jmem 482 (by decide +kernel) rfl⟩
theorem cl_Read_166 : jcS "ChanceSteps$Reader" 166 y_Read_isDigit b_Read_isDigit 1 (some .boolean) 1 := ⟨jb_Read_isDigit, jmem 548 (by decide +kernel) rfl, jmem 547 (by decide +kernel) rfl⟩
theorem cl_Read_169 : jcV "ChanceSteps$Reader" 169 y_Read_takeNumber b_Read_takeNumber 2 none 0 := ⟨jb_Read_takeNumber, jmem 552 (by decide +kernel) rfl, jmem 5 (by decide +kernel) rfl, jmem 550 (by decide +kernel) rfl⟩
theorem cl_Read_172 : jcV "ChanceSteps$Reader" 172 y_Read_takeSign b_Read_takeSign 1 none 0 := ⟨jb_Read_takeSign, jmem 556 (by decide +kernel) rfl, jmem 6 (by decide +kernel) rfl, jmem 554 (by decide +kernel) rfl⟩
theorem fg_Read_9 : jF "ChanceSteps$Reader" 9 3 0 := ⟨RX3, TX3, 9, rfl, by decide, jmem 141 (by decide +kernel) rfl, uw_3⟩
theorem fp_Read_9 : jFp "ChanceSteps$Reader" 9 3 0 (.array .int) := ⟨RX3, TX3, 9, rfl, by decide, jmem 141 (by decide +kernel) rfl, uw_3, jt_3, rfl, by decide +kernel⟩
theorem fp_Read_21 : jFp "ChanceSteps$Reader" 21 3 1 .int := ⟨RX3, TX3, 9, rfl, by decide, jmem 142 (by decide +kernel) rfl, uw_3, jt_3, rfl, by decide +kernel⟩
theorem fp_Read_25 : jFp "ChanceSteps$Reader" 25 3 2 (.object "ChanceSteps$Program") := ⟨RX3, TX3, 9, rfl, by decide, jmem 143 (by decide +kernel) rfl, uw_3, jt_3, rfl, by decide +kernel⟩
theorem fg_Read_25 : jF "ChanceSteps$Reader" 25 3 2 := ⟨RX3, TX3, 9, rfl, by decide, jmem 143 (by decide +kernel) rfl, uw_3⟩
theorem cl_Read_29 : jcV "ChanceSteps$Reader" 29 y_Prog_clear b_Prog_clear 1 none 0 := ⟨jb_Prog_clear, jmem 464 (by decide +kernel) rfl, jmem 465 (by decide +kernel) rfl, jmem 463 (by decide +kernel) rfl⟩
theorem fp_Read_34 : jFp "ChanceSteps$Reader" 34 3 3 .int := ⟨RX3, TX3, 9, rfl, by decide, jmem 144 (by decide +kernel) rfl, uw_3, jt_3, rfl, by decide +kernel⟩
theorem fp_Read_40 : jFp "ChanceSteps$Reader" 40 3 5 .int := ⟨RX3, TX3, 9, rfl, by decide, jmem 146 (by decide +kernel) rfl, uw_3, jt_3, rfl, by decide +kernel⟩
theorem cl_Read_43 : jcV "ChanceSteps$Reader" 43 y_Read_advance b_Read_advance 1 none 0 := ⟨jb_Read_advance, jmem 473 (by decide +kernel) rfl, jmem 1 (by decide +kernel) rfl, jmem 471 (by decide +kernel) rfl⟩
theorem cl_Read_46 : jcV "ChanceSteps$Reader" 46 y_Read_readBlock b_Read_readBlock 2 (some .boolean) 0 := ⟨jb_Read_readBlock, jmem 560 (by decide +kernel) rfl, jmem 7 (by decide +kernel) rfl, jmem 558 (by decide +kernel) rfl⟩
theorem fg_Read_50 : jF "ChanceSteps$Reader" 50 3 7 := ⟨RX3, TX3, 9, rfl, by decide, jmem 148 (by decide +kernel) rfl, uw_3⟩
theorem fg_Read_53 : jF "ChanceSteps$Reader" 53 3 6 := ⟨RX3, TX3, 9, rfl, by decide, jmem 147 (by decide +kernel) rfl, uw_3⟩
theorem fg_Read_64 : jF "ChanceSteps$Reader" 64 3 8 := ⟨RX3, TX3, 9, rfl, by decide, jmem 149 (by decide +kernel) rfl, uw_3⟩
theorem cl_Read_56 : jcV "ChanceSteps$Reader" 56 y_Read_readStep b_Read_readStep 4 (some .boolean) 0 := ⟨jb_Read_readStep, jmem 564 (by decide +kernel) rfl, jmem 8 (by decide +kernel) rfl, jmem 562 (by decide +kernel) rfl⟩
theorem cl_Read_59 : jcV "ChanceSteps$Reader" 59 y_Read_isSign b_Read_isSign 2 (some .boolean) 1 := ⟨jb_Read_isSign, jmem 596 (by decide +kernel) rfl, jmem 13 (by decide +kernel) rfl, jmem 594 (by decide +kernel) rfl⟩
theorem fg_Read_40 : jF "ChanceSteps$Reader" 40 3 5 := ⟨RX3, TX3, 9, rfl, by decide, jmem 146 (by decide +kernel) rfl, uw_3⟩
theorem cl_Read_140 : jcV "ChanceSteps$Reader" 140 y_Read_readSum b_Read_readSum 5 (some .boolean) 1 := ⟨jb_Read_readSum, jmem 612 (by decide +kernel) rfl, jmem 16 (by decide +kernel) rfl, jmem 610 (by decide +kernel) rfl⟩
theorem cl_Read_143 : jcV "ChanceSteps$Reader" 143 y_Prog_emit b_Prog_emit 2 none 1 := ⟨jb_Prog_emit, jmem 623 (by decide +kernel) rfl, jmem 624 (by decide +kernel) rfl, jmem 622 (by decide +kernel) rfl⟩
theorem fg_Read_128 : jF "ChanceSteps$Reader" 128 2 3 := ⟨RX2, TX2, 16, rfl, by decide, jmem 402 (by decide +kernel) rfl, uw_2⟩
theorem fp_Read_131 : jFp "ChanceSteps$Reader" 131 6 9 .int := ⟨RX6, TX6, 14, rfl, by decide, jmem 352 (by decide +kernel) rfl, uw_6, jt_6, rfl, by decide +kernel⟩
theorem cl_Read_134 : jcV "ChanceSteps$Reader" 134 y_Read_readComparison b_Read_readComparison 4 (some .boolean) 1 := ⟨jb_Read_readComparison, jmem 608 (by decide +kernel) rfl, jmem 15 (by decide +kernel) rfl, jmem 606 (by decide +kernel) rfl⟩
theorem fp_Read_137 : jFp "ChanceSteps$Reader" 137 6 10 .int := ⟨RX6, TX6, 14, rfl, by decide, jmem 355 (by decide +kernel) rfl, uw_6, jt_6, rfl, by decide +kernel⟩
theorem cl_Read_124 : jcV "ChanceSteps$Reader" 124 y_Prog_addLot b_Prog_addLot 3 none 2 := ⟨jb_Prog_addLot, jmem 599 (by decide +kernel) rfl, jmem 600 (by decide +kernel) rfl, jmem 598 (by decide +kernel) rfl⟩
theorem fg_Read_111 : jF "ChanceSteps$Reader" 111 2 6 := ⟨RX2, TX2, 16, rfl, by decide, jmem 406 (by decide +kernel) rfl, uw_2⟩
theorem fp_Read_114 : jFp "ChanceSteps$Reader" 114 6 11 .int := ⟨RX6, TX6, 14, rfl, by decide, jmem 359 (by decide +kernel) rfl, uw_6, jt_6, rfl, by decide +kernel⟩
theorem cl_Read_117 : jcV "ChanceSteps$Reader" 117 y_Read_readLot b_Read_readLot 3 (some .int) 0 := ⟨jb_Read_readLot, jmem 592 (by decide +kernel) rfl, jmem 12 (by decide +kernel) rfl, jmem 590 (by decide +kernel) rfl⟩
theorem fp_Read_105 : jFp "ChanceSteps$Reader" 105 6 2 .int := ⟨RX6, TX6, 14, rfl, by decide, jmem 327 (by decide +kernel) rfl, uw_6, jt_6, rfl, by decide +kernel⟩
theorem fp_Read_121 : jFp "ChanceSteps$Reader" 121 6 7 .int := ⟨RX6, TX6, 14, rfl, by decide, jmem 347 (by decide +kernel) rfl, uw_6, jt_6, rfl, by decide +kernel⟩
theorem fg_Read_121 : jF "ChanceSteps$Reader" 121 6 7 := ⟨RX6, TX6, 14, rfl, by decide, jmem 347 (by decide +kernel) rfl, uw_6⟩
theorem fp_Read_102 : jFp "ChanceSteps$Reader" 102 6 1 .int := ⟨RX6, TX6, 14, rfl, by decide, jmem 321 (by decide +kernel) rfl, uw_6, jt_6, rfl, by decide +kernel⟩
theorem fg_Read_153 : jF "ChanceSteps$Reader" 153 6 6 := ⟨RX6, TX6, 14, rfl, by decide, jmem 343 (by decide +kernel) rfl, uw_6⟩
theorem fp_Read_153 : jFp "ChanceSteps$Reader" 153 6 6 .int := ⟨RX6, TX6, 14, rfl, by decide, jmem 343 (by decide +kernel) rfl, uw_6, jt_6, rfl, by decide +kernel⟩
theorem cl_Read_150 : jcV "ChanceSteps$Reader" 150 y_Read_readOne b_Read_readOne 4 (some .boolean) 1 := ⟨jb_Read_readOne, jmem 620 (by decide +kernel) rfl, jmem 18 (by decide +kernel) rfl, jmem 618 (by decide +kernel) rfl⟩
theorem fg_Read_80 : jF "ChanceSteps$Reader" 80 6 0 := ⟨RX6, TX6, 14, rfl, by decide, jmem 316 (by decide +kernel) rfl, uw_6⟩
theorem cl_Read_83 : jcV "ChanceSteps$Reader" 83 y_Read_readName b_Read_readName 2 (some .boolean) 1 := ⟨jb_Read_readName, jmem 584 (by decide +kernel) rfl, jmem 10 (by decide +kernel) rfl, jmem 582 (by decide +kernel) rfl⟩
theorem cl_Read_86 : jcV "ChanceSteps$Reader" 86 y_Read_readLots b_Read_readLots 6 (some .boolean) 1 := ⟨jb_Read_readLots, jmem 588 (by decide +kernel) rfl, jmem 11 (by decide +kernel) rfl, jmem 586 (by decide +kernel) rfl⟩
theorem cl_Read_89 : jcV "ChanceSteps$Reader" 89 y_Read_readFormula b_Read_readFormula 3 (some .boolean) 1 := ⟨jb_Read_readFormula, jmem 604 (by decide +kernel) rfl, jmem 14 (by decide +kernel) rfl, jmem 602 (by decide +kernel) rfl⟩
theorem cl_Read_92 : jcV "ChanceSteps$Reader" 92 y_Read_readBraces b_Read_readBraces 1 (some .boolean) 0 := ⟨jb_Read_readBraces, jmem 628 (by decide +kernel) rfl, jmem 19 (by decide +kernel) rfl, jmem 626 (by decide +kernel) rfl⟩
theorem cl_Read_95 : jcV "ChanceSteps$Reader" 95 y_Read_readSecond b_Read_readSecond 2 (some .boolean) 1 := ⟨jb_Read_readSecond, jmem 632 (by decide +kernel) rfl, jmem 20 (by decide +kernel) rfl, jmem 630 (by decide +kernel) rfl⟩
theorem cl_Read_98 : jcV "ChanceSteps$Reader" 98 y_Read_readNumber b_Read_readNumber 3 (some .boolean) 2 := ⟨jb_Read_readNumber, jmem 636 (by decide +kernel) rfl, jmem 21 (by decide +kernel) rfl, jmem 634 (by decide +kernel) rfl⟩
theorem fg_Read_34 : jF "ChanceSteps$Reader" 34 3 3 := ⟨RX3, TX3, 9, rfl, by decide, jmem 144 (by decide +kernel) rfl, uw_3⟩
theorem fg_Read_63 : jF "ChanceSteps$Reader" 63 2 1 := ⟨RX2, TX2, 16, rfl, by decide, jmem 398 (by decide +kernel) rfl, uw_2⟩
theorem fp_Read_108 : jFp "ChanceSteps$Reader" 108 6 5 .int := ⟨RX6, TX6, 14, rfl, by decide, jmem 337 (by decide +kernel) rfl, uw_6, jt_6, rfl, by decide +kernel⟩
theorem cl_Read_67 : jcV "ChanceSteps$Reader" 67 y_Prog_beginStep b_Prog_beginStep 4 (some (.object "ChanceSteps$Step")) 2 := ⟨jb_Prog_beginStep, jmem 567 (by decide +kernel) rfl, jmem 568 (by decide +kernel) rfl, jmem 566 (by decide +kernel) rfl⟩
theorem cl_Read_71 : jcV "ChanceSteps$Reader" 71 y_Read_readRest b_Read_readRest 2 (some .boolean) 1 := ⟨jb_Read_readRest, jmem 580 (by decide +kernel) rfl, jmem 9 (by decide +kernel) rfl, jmem 578 (by decide +kernel) rfl⟩
theorem fp_Read_75 : jFp "ChanceSteps$Reader" 75 6 3 .int := ⟨RX6, TX6, 14, rfl, by decide, jmem 331 (by decide +kernel) rfl, uw_6, jt_6, rfl, by decide +kernel⟩
theorem cl_Read_147 : jcV "ChanceSteps$Reader" 147 y_Read_readTerm b_Read_readTerm 5 (some .boolean) 1 := ⟨jb_Read_readTerm, jmem 616 (by decide +kernel) rfl, jmem 17 (by decide +kernel) rfl, jmem 614 (by decide +kernel) rfl⟩
theorem cl_Read_175 : jcS "ChanceSteps$Reader" 175 y_Read_wordOf b_Read_wordOf 1 (some (.object "java/lang/String")) 1 := ⟨jb_Read_wordOf, jmem 487 (by decide +kernel) rfl, jmem 486 (by decide +kernel) rfl⟩
theorem cl_Read_179 : jcV "ChanceSteps$Reader" 179 y_Read_isSpelt b_Read_isSpelt 4 (some .boolean) 1 := ⟨jb_Read_isSpelt, jmem 497 (by decide +kernel) rfl, jmem 4 (by decide +kernel) rfl, jmem 495 (by decide +kernel) rfl⟩
theorem cl_Runs_3 : jcO "ChanceSteps$Runs" 3 := ⟨jmem 299 (by decide +kernel) rfl, jmem 129 (by decide +kernel) rfl, jmem 130 (by decide +kernel) rfl⟩
theorem ff_Runs_9 : jFf "ChanceSteps$Runs" 9 4 0 (.array .int) := ⟨RX4, TX4, 3, rfl, by decide, jmem 300 (by decide +kernel) rfl, uw_4, jt_4, rfl, rfl, by decide +kernel⟩
theorem ff_Runs_15 : jFf "ChanceSteps$Runs" 15 4 1 (.array .long) := ⟨RX4, TX4, 3, rfl, by decide, jmem 301 (by decide +kernel) rfl, uw_4, jt_4, rfl, rfl, by decide +kernel⟩
theorem ff_Runs_19 : jFf "ChanceSteps$Runs" 19 4 2 (.array .long) := ⟨RX4, TX4, 3, rfl, by decide, jmem 302 (by decide +kernel) rfl, uw_4, jt_4, rfl, rfl, by decide +kernel⟩
theorem fg_Runs_9 : jF "ChanceSteps$Runs" 9 4 0 := ⟨RX4, TX4, 3, rfl, by decide, jmem 300 (by decide +kernel) rfl, uw_4⟩
theorem cl_Runs_22 : jcSn "ChanceSteps$Runs" 22 y_CS_isValue b_CS_isValue 1 (some .boolean) 1 := ⟨jb_CS_isValue, jmem 670 (by decide +kernel) rfl, "ChanceSteps", jmemN 864 (by decide +kernel) rfl⟩
theorem fg_Runs_19 : jF "ChanceSteps$Runs" 19 4 2 := ⟨RX4, TX4, 3, rfl, by decide, jmem 302 (by decide +kernel) rfl, uw_4⟩
theorem cl_Runs_26 : jcV "ChanceSteps$Runs" 26 y_Crowd_spread b_Crowd_spread 5 none 2 := ⟨jb_Crowd_spread, jmem 874 (by decide +kernel) rfl, jmem 875 (by decide +kernel) rfl, jmem 873 (by decide +kernel) rfl⟩
theorem fg_Runs_15 : jF "ChanceSteps$Runs" 15 4 1 := ⟨RX4, TX4, 3, rfl, by decide, jmem 301 (by decide +kernel) rfl, uw_4⟩
theorem cl_Sheet_3 : jcO "ChanceSteps$Sheet" 3 := ⟨jmem 218 (by decide +kernel) rfl, jmem 129 (by decide +kernel) rfl, jmem 130 (by decide +kernel) rfl⟩
theorem ff_Sheet_9 : jFf "ChanceSteps$Sheet" 9 5 0 (.array .int) := ⟨RX5, TX5, 3, rfl, by decide, jmem 219 (by decide +kernel) rfl, uw_5, jt_5, rfl, rfl, by decide +kernel⟩
theorem fp_Sheet_15 : jFp "ChanceSteps$Sheet" 15 5 1 .int := ⟨RX5, TX5, 3, rfl, by decide, jmem 221 (by decide +kernel) rfl, uw_5, jt_5, rfl, by decide +kernel⟩
theorem fp_Sheet_19 : jFp "ChanceSteps$Sheet" 19 5 2 .int := ⟨RX5, TX5, 3, rfl, by decide, jmem 223 (by decide +kernel) rfl, uw_5, jt_5, rfl, by decide +kernel⟩
theorem fg_Sheet_9 : jF "ChanceSteps$Sheet" 9 5 0 := ⟨RX5, TX5, 3, rfl, by decide, jmem 219 (by decide +kernel) rfl, uw_5⟩
theorem fg_Sheet_19 : jF "ChanceSteps$Sheet" 19 5 2 := ⟨RX5, TX5, 3, rfl, by decide, jmem 223 (by decide +kernel) rfl, uw_5⟩
theorem fg_Sheet_15 : jF "ChanceSteps$Sheet" 15 5 1 := ⟨RX5, TX5, 3, rfl, by decide, jmem 221 (by decide +kernel) rfl, uw_5⟩
theorem cl_Step_3 : jcO "ChanceSteps$Step" 3 := ⟨jmem 314 (by decide +kernel) rfl, jmem 129 (by decide +kernel) rfl, jmem 130 (by decide +kernel) rfl⟩
theorem fp_Step_9 : jFp "ChanceSteps$Step" 9 6 0 .int := ⟨RX6, TX6, 14, rfl, by decide, jmem 315 (by decide +kernel) rfl, uw_6, jt_6, rfl, by decide +kernel⟩
theorem fp_Step_15 : jFp "ChanceSteps$Step" 15 6 4 .int := ⟨RX6, TX6, 14, rfl, by decide, jmem 334 (by decide +kernel) rfl, uw_6, jt_6, rfl, by decide +kernel⟩
theorem fp_Step_18 : jFp "ChanceSteps$Step" 18 6 1 .int := ⟨RX6, TX6, 14, rfl, by decide, jmem 320 (by decide +kernel) rfl, uw_6, jt_6, rfl, by decide +kernel⟩
theorem fp_Step_21 : jFp "ChanceSteps$Step" 21 6 2 .int := ⟨RX6, TX6, 14, rfl, by decide, jmem 325 (by decide +kernel) rfl, uw_6, jt_6, rfl, by decide +kernel⟩
theorem fp_Step_24 : jFp "ChanceSteps$Step" 24 6 3 .int := ⟨RX6, TX6, 14, rfl, by decide, jmem 330 (by decide +kernel) rfl, uw_6, jt_6, rfl, by decide +kernel⟩
theorem fp_Step_27 : jFp "ChanceSteps$Step" 27 6 5 .int := ⟨RX6, TX6, 14, rfl, by decide, jmem 336 (by decide +kernel) rfl, uw_6, jt_6, rfl, by decide +kernel⟩
theorem fp_Step_30 : jFp "ChanceSteps$Step" 30 6 6 .int := ⟨RX6, TX6, 14, rfl, by decide, jmem 340 (by decide +kernel) rfl, uw_6, jt_6, rfl, by decide +kernel⟩
theorem fp_Step_33 : jFp "ChanceSteps$Step" 33 6 7 .int := ⟨RX6, TX6, 14, rfl, by decide, jmem 344 (by decide +kernel) rfl, uw_6, jt_6, rfl, by decide +kernel⟩
theorem fp_Step_36 : jFp "ChanceSteps$Step" 36 6 8 .int := ⟨RX6, TX6, 14, rfl, by decide, jmem 349 (by decide +kernel) rfl, uw_6, jt_6, rfl, by decide +kernel⟩
theorem fp_Step_39 : jFp "ChanceSteps$Step" 39 6 9 .int := ⟨RX6, TX6, 14, rfl, by decide, jmem 351 (by decide +kernel) rfl, uw_6, jt_6, rfl, by decide +kernel⟩
theorem fp_Step_42 : jFp "ChanceSteps$Step" 42 6 10 .int := ⟨RX6, TX6, 14, rfl, by decide, jmem 354 (by decide +kernel) rfl, uw_6, jt_6, rfl, by decide +kernel⟩
theorem fp_Step_45 : jFp "ChanceSteps$Step" 45 6 11 .int := ⟨RX6, TX6, 14, rfl, by decide, jmem 357 (by decide +kernel) rfl, uw_6, jt_6, rfl, by decide +kernel⟩
theorem fp_Step_48 : jFp "ChanceSteps$Step" 48 6 12 .boolean := ⟨RX6, TX6, 14, rfl, by decide, jmem 360 (by decide +kernel) rfl, uw_6, jt_6, rfl, by decide +kernel⟩
theorem fp_Step_52 : jFp "ChanceSteps$Step" 52 6 13 (.object "ChanceSteps$Program") := ⟨RX6, TX6, 14, rfl, by decide, jmem 363 (by decide +kernel) rfl, uw_6, jt_6, rfl, by decide +kernel⟩
theorem cl_Walk_3 : jcO "ChanceSteps$Walker" 3 := ⟨jmem 175 (by decide +kernel) rfl, jmem 129 (by decide +kernel) rfl, jmem 130 (by decide +kernel) rfl⟩
theorem nw_Walk_9 : jNew "ChanceSteps$Walker" 9 1 5 v0_1 := ⟨RX1, TX1, 5, tyX1, rfl, jmem 176 (by decide +kernel) rfl, jmem 177 (by decide +kernel) rfl, jmem 106 (by decide +kernel) rfl, uw_1, tyX1_ok, by decide +kernel⟩
theorem cl_Walk_11 : jcIn "ChanceSteps$Walker" 11 y_Mixer_init b_Mixer_init 1 0 := ⟨jb_Mixer_init, jmem 179 (by decide +kernel) rfl, rfl, "ChanceSteps", jmemN 178 (by decide +kernel) rfl⟩
theorem ff_Walk_12 : jFf "ChanceSteps$Walker" 12 7 0 (.object "ChanceSteps$Mixer") := ⟨RX7, TX7, 4, rfl, by decide, jmem 201 (by decide +kernel) rfl, uw_7, jt_7, rfl, rfl, by decide +kernel⟩
theorem ca_Walk_18 : Cond.classLink "ChanceSteps$Walker" 18 "ChanceSteps$Crowd" ∈ jwd := jmem 199 (by decide +kernel) rfl
theorem ff_Walk_20 : jFf "ChanceSteps$Walker" 20 7 1 (.array (.object "ChanceSteps$Crowd")) := ⟨RX7, TX7, 4, rfl, by decide, jmem 202 (by decide +kernel) rfl, uw_7, jt_7, rfl, rfl, by decide +kernel⟩
theorem fg_Walk_120 : jF "ChanceSteps$Walker" 120 0 2 := ⟨RX0, TX0, 4, rfl, by decide, jmem 711 (by decide +kernel) rfl, uw_0⟩
theorem fg_Walk_124 : jF "ChanceSteps$Walker" 124 0 0 := ⟨RX0, TX0, 4, rfl, by decide, jmem 704 (by decide +kernel) rfl, uw_0⟩
theorem cl_Walk_156 : jcV "ChanceSteps$Walker" 156 y_Prog_digitOf b_Prog_digitOf 3 (some .int) 2 := ⟨jb_Prog_digitOf, jmem 798 (by decide +kernel) rfl, jmem 799 (by decide +kernel) rfl, jmem 797 (by decide +kernel) rfl⟩
theorem fg_Walk_195 : jF "ChanceSteps$Walker" 195 2 12 := ⟨RX2, TX2, 16, rfl, by decide, jmem 418 (by decide +kernel) rfl, uw_2⟩
theorem cl_Walk_205 : jcV "ChanceSteps$Walker" 205 y_Runs_isKnown b_Runs_isKnown 2 (some .boolean) 1 := ⟨jb_Runs_isKnown, jmem 861 (by decide +kernel) rfl, jmem 862 (by decide +kernel) rfl, jmem 860 (by decide +kernel) rfl⟩
theorem cl_Walk_209 : jcV "ChanceSteps$Walker" 209 y_Walk_walkWhole b_Walk_walkWhole 6 none 3 := ⟨jb_Walk_walkWhole, jmem 867 (by decide +kernel) rfl, jmem 44 (by decide +kernel) rfl, jmem 865 (by decide +kernel) rfl⟩
theorem cl_Walk_213 : jcV "ChanceSteps$Walker" 213 y_Runs_fits b_Runs_fits 2 (some .boolean) 1 := ⟨jb_Runs_fits, jmem 879 (by decide +kernel) rfl, jmem 880 (by decide +kernel) rfl, jmem 878 (by decide +kernel) rfl⟩
theorem fp_Walk_220 : jFp "ChanceSteps$Walker" 220 7 3 .int := ⟨RX7, TX7, 4, rfl, by decide, jmem 204 (by decide +kernel) rfl, uw_7, jt_7, rfl, by decide +kernel⟩
theorem fg_Walk_39 : jF "ChanceSteps$Walker" 39 2 1 := ⟨RX2, TX2, 16, rfl, by decide, jmem 397 (by decide +kernel) rfl, uw_2⟩
theorem cl_Walk_223 : jcV "ChanceSteps$Walker" 223 y_Walk_followBlock b_Walk_followBlock 9 (some .int) 5 := ⟨jb_Walk_followBlock, jmem 994 (by decide +kernel) rfl, jmem 45 (by decide +kernel) rfl, jmem 992 (by decide +kernel) rfl⟩
theorem fg_Walk_220 : jF "ChanceSteps$Walker" 220 7 3 := ⟨RX7, TX7, 4, rfl, by decide, jmem 204 (by decide +kernel) rfl, uw_7⟩
theorem ld_Walk_242 : Cond.constant "ChanceSteps$Walker" 242 (1103515245) ∈ jwd := jmem 1004 (by decide +kernel) rfl
theorem fg_Walk_145 : jF "ChanceSteps$Walker" 145 6 7 := ⟨RX6, TX6, 14, rfl, by decide, jmem 346 (by decide +kernel) rfl, uw_6⟩
theorem cl_Walk_142 : jcV "ChanceSteps$Walker" 142 y_Prog_lotWeight b_Prog_lotWeight 4 (some .int) 2 := ⟨jb_Prog_lotWeight, jmem 776 (by decide +kernel) rfl, jmem 777 (by decide +kernel) rfl, jmem 775 (by decide +kernel) rfl⟩
theorem cl_Walk_131 : jcV "ChanceSteps$Walker" 131 y_Prog_lotValue b_Prog_lotValue 4 (some .int) 2 := ⟨jb_Prog_lotValue, jmem 771 (by decide +kernel) rfl, jmem 772 (by decide +kernel) rfl, jmem 770 (by decide +kernel) rfl⟩
theorem fg_Walk_24 : jF "ChanceSteps$Walker" 24 2 13 := ⟨RX2, TX2, 16, rfl, by decide, jmem 419 (by decide +kernel) rfl, uw_2⟩
theorem nw_Walk_18 : jNew "ChanceSteps$Walker" 18 0 4 v0_0 := ⟨RX0, TX0, 4, tyX0, rfl, jmem 199 (by decide +kernel) rfl, jmem 697 (by decide +kernel) rfl, jmem 120 (by decide +kernel) rfl, uw_0, tyX0_ok, by decide +kernel⟩
theorem cl_Walk_30 : jcIn "ChanceSteps$Walker" 30 y_Crowd_init b_Crowd_init 1 0 := ⟨jb_Crowd_init, jmem 699 (by decide +kernel) rfl, rfl, "ChanceSteps", jmemN 698 (by decide +kernel) rfl⟩
theorem fp_Walk_24 : jFp "ChanceSteps$Walker" 24 2 13 (.object "ChanceSteps$Crowd") := ⟨RX2, TX2, 16, rfl, by decide, jmem 419 (by decide +kernel) rfl, uw_2, jt_2, rfl, by decide +kernel⟩
theorem fg_Walk_31 : jF "ChanceSteps$Walker" 31 2 14 := ⟨RX2, TX2, 16, rfl, by decide, jmem 421 (by decide +kernel) rfl, uw_2⟩
theorem fp_Walk_31 : jFp "ChanceSteps$Walker" 31 2 14 .int := ⟨RX2, TX2, 16, rfl, by decide, jmem 421 (by decide +kernel) rfl, uw_2, jt_2, rfl, by decide +kernel⟩
theorem cl_Walk_35 : jcV "ChanceSteps$Walker" 35 y_Crowd_begin b_Crowd_begin 2 none 1 := ⟨jb_Crowd_begin, jmem 725 (by decide +kernel) rfl, jmem 726 (by decide +kernel) rfl, jmem 724 (by decide +kernel) rfl⟩
theorem cl_Walk_42 : jcV "ChanceSteps$Walker" 42 y_Walk_walkBlock b_Walk_walkBlock 12 (some .boolean) 6 := ⟨jb_Walk_walkBlock, jmem 735 (by decide +kernel) rfl, jmem 27 (by decide +kernel) rfl, jmem 733 (by decide +kernel) rfl⟩
theorem fp_Walk_46 : jFp "ChanceSteps$Walker" 46 2 15 .boolean := ⟨RX2, TX2, 16, rfl, by decide, jmem 422 (by decide +kernel) rfl, uw_2, jt_2, rfl, by decide +kernel⟩
theorem fg_Walk_46 : jF "ChanceSteps$Walker" 46 2 15 := ⟨RX2, TX2, 16, rfl, by decide, jmem 422 (by decide +kernel) rfl, uw_2⟩
theorem cl_Walk_227 : jcV "ChanceSteps$Walker" 227 y_Walk_followStep b_Walk_followStep 6 (some .int) 4 := ⟨jb_Walk_followStep, jmem 998 (by decide +kernel) rfl, jmem 46 (by decide +kernel) rfl, jmem 996 (by decide +kernel) rfl⟩
theorem cl_Walk_81 : jcV "ChanceSteps$Walker" 81 y_Prog_behind b_Prog_behind 2 (some .int) 1 := ⟨jb_Prog_behind, jmem 647 (by decide +kernel) rfl, jmem 648 (by decide +kernel) rfl, jmem 737 (by decide +kernel) rfl⟩
theorem cl_Walk_88 : jcV "ChanceSteps$Walker" 88 y_Prog_stepAt b_Prog_stepAt 2 (some (.object "ChanceSteps$Step")) 1 := ⟨jb_Prog_stepAt, jmem 571 (by decide +kernel) rfl, jmem 572 (by decide +kernel) rfl, jmem 758 (by decide +kernel) rfl⟩
theorem fg_Walk_121 : jF "ChanceSteps$Walker" 121 6 2 := ⟨RX6, TX6, 14, rfl, by decide, jmem 328 (by decide +kernel) rfl, uw_6⟩
theorem fg_Walk_186 : jF "ChanceSteps$Walker" 186 6 13 := ⟨RX6, TX6, 14, rfl, by decide, jmem 365 (by decide +kernel) rfl, uw_6⟩
theorem cl_Walk_135 : jcSn "ChanceSteps$Walker" 135 y_CS_withDigit b_CS_withDigit 3 (some .int) 3 := ⟨jb_CS_withDigit, jmem 676 (by decide +kernel) rfl, "ChanceSteps", jmemN 774 (by decide +kernel) rfl⟩
theorem fg_Walk_128 : jF "ChanceSteps$Walker" 128 6 1 := ⟨RX6, TX6, 14, rfl, by decide, jmem 323 (by decide +kernel) rfl, uw_6⟩
theorem cl_Walk_243 : jcSn "ChanceSteps$Walker" 243 y_CS_digitAt b_CS_digitAt 2 (some .int) 2 := ⟨jb_CS_digitAt, jmem 673 (by decide +kernel) rfl, "ChanceSteps", jmemN 1013 (by decide +kernel) rfl⟩
theorem fg_Walk_92 : jF "ChanceSteps$Walker" 92 6 0 := ⟨RX6, TX6, 14, rfl, by decide, jmem 318 (by decide +kernel) rfl, uw_6⟩
theorem cl_Walk_231 : jcV "ChanceSteps$Walker" 231 y_Walk_drawn b_Walk_drawn 6 (some .int) 2 := ⟨jb_Walk_drawn, jmem 1002 (by decide +kernel) rfl, jmem 47 (by decide +kernel) rfl, jmem 1000 (by decide +kernel) rfl⟩
theorem cl_Walk_159 : jcV "ChanceSteps$Walker" 159 y_Prog_valueOf b_Prog_valueOf 6 (some .int) 2 := ⟨jb_Prog_valueOf, jmem 802 (by decide +kernel) rfl, jmem 803 (by decide +kernel) rfl, jmem 816 (by decide +kernel) rfl⟩
theorem fg_Walk_166 : jF "ChanceSteps$Walker" 166 6 5 := ⟨RX6, TX6, 14, rfl, by decide, jmem 339 (by decide +kernel) rfl, uw_6⟩
theorem cl_Walk_235 : jcV "ChanceSteps$Walker" 235 y_Walk_followLoop b_Walk_followLoop 8 (some .int) 4 := ⟨jb_Walk_followLoop, jmem 1007 (by decide +kernel) rfl, jmem 48 (by decide +kernel) rfl, jmem 1005 (by decide +kernel) rfl⟩
theorem cl_Walk_238 : jcV "ChanceSteps$Walker" 238 y_Walk_followRun b_Walk_followRun 8 (some .int) 4 := ⟨jb_Walk_followRun, jmem 1011 (by decide +kernel) rfl, jmem 49 (by decide +kernel) rfl, jmem 1009 (by decide +kernel) rfl⟩
theorem fg_Walk_12 : jF "ChanceSteps$Walker" 12 7 0 := ⟨RX7, TX7, 4, rfl, by decide, jmem 201 (by decide +kernel) rfl, uw_7⟩
theorem cl_Walk_117 : jcV "ChanceSteps$Walker" 117 y_Mixer_clear b_Mixer_clear 1 none 0 := ⟨jb_Mixer_clear, jmem 767 (by decide +kernel) rfl, jmem 768 (by decide +kernel) rfl, jmem 766 (by decide +kernel) rfl⟩
theorem cl_Walk_65 : jcSn "ChanceSteps$Walker" 65 y_CS_maskOf b_CS_maskOf 3 (some .int) 1 := ⟨jb_CS_maskOf, jmem 760 (by decide +kernel) rfl, "ChanceSteps", jmemN 759 (by decide +kernel) rfl⟩
theorem cl_Walk_169 : jcV "ChanceSteps$Walker" 169 y_Mixer_putAll b_Mixer_putAll 5 (some .boolean) 2 := ⟨jb_Mixer_putAll, jmem 836 (by decide +kernel) rfl, jmem 837 (by decide +kernel) rfl, jmem 835 (by decide +kernel) rfl⟩
theorem cl_Walk_152 : jcV "ChanceSteps$Walker" 152 y_Mixer_pourInto b_Mixer_pourInto 4 none 1 := ⟨jb_Mixer_pourInto, jmem 789 (by decide +kernel) rfl, jmem 790 (by decide +kernel) rfl, jmem 788 (by decide +kernel) rfl⟩
theorem fg_Walk_72 : jF "ChanceSteps$Walker" 72 7 2 := ⟨RX7, TX7, 4, rfl, by decide, jmem 203 (by decide +kernel) rfl, uw_7⟩
theorem fp_Walk_72 : jFp "ChanceSteps$Walker" 72 7 2 .int := ⟨RX7, TX7, 4, rfl, by decide, jmem 203 (by decide +kernel) rfl, uw_7, jt_7, rfl, by decide +kernel⟩
theorem fg_Walk_20 : jF "ChanceSteps$Walker" 20 7 1 := ⟨RX7, TX7, 4, rfl, by decide, jmem 202 (by decide +kernel) rfl, uw_7⟩
theorem cl_Walk_50 : jcV "ChanceSteps$Walker" 50 y_Walk_endFrom b_Walk_endFrom 3 (some (.object "ChanceSteps$Crowd")) 2 := ⟨jb_Walk_endFrom, jmem 694 (by decide +kernel) rfl, jmem 695 (by decide +kernel) rfl, jmem 979 (by decide +kernel) rfl⟩
theorem fg_Walk_54 : jF "ChanceSteps$Walker" 54 0 3 := ⟨RX0, TX0, 4, rfl, by decide, jmem 713 (by decide +kernel) rfl, uw_0⟩
theorem cl_Walk_57 : jcV "ChanceSteps$Walker" 57 y_Walk_lend b_Walk_lend 1 (some (.object "ChanceSteps$Crowd")) 0 := ⟨jb_Walk_lend, jmem 823 (by decide +kernel) rfl, jmem 37 (by decide +kernel) rfl, jmem 821 (by decide +kernel) rfl⟩
theorem cl_Walk_61 : jcV "ChanceSteps$Walker" 61 y_Prog_neededFrom b_Prog_neededFrom 4 (some .int) 3 := ⟨jb_Prog_neededFrom, jmem 739 (by decide +kernel) rfl, jmem 740 (by decide +kernel) rfl, jmem 738 (by decide +kernel) rfl⟩
theorem cl_Walk_69 : jcV "ChanceSteps$Walker" 69 y_Walk_giveBack b_Walk_giveBack 1 none 0 := ⟨jb_Walk_giveBack, jmem 832 (by decide +kernel) rfl, jmem 39 (by decide +kernel) rfl, jmem 830 (by decide +kernel) rfl⟩
theorem fp_Walk_120 : jFp "ChanceSteps$Walker" 120 0 2 .int := ⟨RX0, TX0, 4, rfl, by decide, jmem 711 (by decide +kernel) rfl, uw_0, jt_0, rfl, by decide +kernel⟩
theorem fp_Walk_54 : jFp "ChanceSteps$Walker" 54 0 3 .int := ⟨RX0, TX0, 4, rfl, by decide, jmem 713 (by decide +kernel) rfl, uw_0, jt_0, rfl, by decide +kernel⟩
theorem fg_Walk_138 : jF "ChanceSteps$Walker" 138 0 1 := ⟨RX0, TX0, 4, rfl, by decide, jmem 707 (by decide +kernel) rfl, uw_0⟩
theorem cl_Walk_173 : jcV "ChanceSteps$Walker" 173 y_Crowd_add b_Crowd_add 4 none 2 := ⟨jb_Crowd_add, jmem 730 (by decide +kernel) rfl, jmem 731 (by decide +kernel) rfl, jmem 829 (by decide +kernel) rfl⟩
theorem cl_Walk_84 : jcV "ChanceSteps$Walker" 84 y_Walk_walkStep b_Walk_walkStep 7 (some .boolean) 5 := ⟨jb_Walk_walkStep, jmem 756 (by decide +kernel) rfl, jmem 31 (by decide +kernel) rfl, jmem 754 (by decide +kernel) rfl⟩
theorem cl_Walk_148 : jcV "ChanceSteps$Walker" 148 y_Mixer_put b_Mixer_put 7 (some .boolean) 2 := ⟨jb_Mixer_put, jmem 780 (by decide +kernel) rfl, jmem 781 (by decide +kernel) rfl, jmem 779 (by decide +kernel) rfl⟩
theorem cl_Walk_162 : jcV "ChanceSteps$Walker" 162 y_Walk_split b_Walk_split 8 none 4 := ⟨jb_Walk_split, jmem 827 (by decide +kernel) rfl, jmem 38 (by decide +kernel) rfl, jmem 825 (by decide +kernel) rfl⟩
theorem cl_Walk_177 : jcV "ChanceSteps$Walker" 177 y_Prog_neededFromTimes b_Prog_neededFromTimes 4 (some .int) 3 := ⟨jb_Prog_neededFromTimes, jmem 845 (by decide +kernel) rfl, jmem 846 (by decide +kernel) rfl, jmem 844 (by decide +kernel) rfl⟩
theorem cl_Walk_180 : jcV "ChanceSteps$Walker" 180 y_Walk_forget b_Walk_forget 4 (some .boolean) 2 := ⟨jb_Walk_forget, jmem 850 (by decide +kernel) rfl, jmem 41 (by decide +kernel) rfl, jmem 848 (by decide +kernel) rfl⟩
theorem fg_Walk_183 : jF "ChanceSteps$Walker" 183 6 12 := ⟨RX6, TX6, 14, rfl, by decide, jmem 362 (by decide +kernel) rfl, uw_6⟩
theorem cl_Walk_190 : jcV "ChanceSteps$Walker" 190 y_Walk_canRun b_Walk_canRun 9 (some .boolean) 5 := ⟨jb_Walk_canRun, jmem 858 (by decide +kernel) rfl, jmem 43 (by decide +kernel) rfl, jmem 856 (by decide +kernel) rfl⟩
theorem fg_Walk_194 : jF "ChanceSteps$Walker" 194 2 8 := ⟨RX2, TX2, 16, rfl, by decide, jmem 410 (by decide +kernel) rfl, uw_2⟩
theorem cl_Walk_199 : jcV "ChanceSteps$Walker" 199 y_Runs_weight b_Runs_weight 3 (some .long) 2 := ⟨jb_Runs_weight, jmem 883 (by decide +kernel) rfl, jmem 884 (by decide +kernel) rfl, jmem 882 (by decide +kernel) rfl⟩
theorem cl_Walk_97 : jcV "ChanceSteps$Walker" 97 y_Walk_walkDraw b_Walk_walkDraw 10 (some .boolean) 4 := ⟨jb_Walk_walkDraw, jmem 764 (by decide +kernel) rfl, jmem 32 (by decide +kernel) rfl, jmem 762 (by decide +kernel) rfl⟩
theorem cl_Walk_101 : jcV "ChanceSteps$Walker" 101 y_Walk_walkLet b_Walk_walkLet 7 (some .boolean) 4 := ⟨jb_Walk_walkLet, jmem 795 (by decide +kernel) rfl, jmem 34 (by decide +kernel) rfl, jmem 793 (by decide +kernel) rfl⟩
theorem cl_Walk_104 : jcV "ChanceSteps$Walker" 104 y_Walk_walkSee b_Walk_walkSee 7 (some .boolean) 4 := ⟨jb_Walk_walkSee, jmem 814 (by decide +kernel) rfl, jmem 35 (by decide +kernel) rfl, jmem 812 (by decide +kernel) rfl⟩
theorem cl_Walk_107 : jcV "ChanceSteps$Walker" 107 y_Walk_walkIf b_Walk_walkIf 9 (some .boolean) 5 := ⟨jb_Walk_walkIf, jmem 819 (by decide +kernel) rfl, jmem 36 (by decide +kernel) rfl, jmem 817 (by decide +kernel) rfl⟩
theorem cl_Walk_110 : jcV "ChanceSteps$Walker" 110 y_Walk_walkLoop b_Walk_walkLoop 10 (some .boolean) 5 := ⟨jb_Walk_walkLoop, jmem 842 (by decide +kernel) rfl, jmem 40 (by decide +kernel) rfl, jmem 840 (by decide +kernel) rfl⟩
theorem cl_Walk_113 : jcV "ChanceSteps$Walker" 113 y_Walk_walkRun b_Walk_walkRun 15 (some .boolean) 5 := ⟨jb_Walk_walkRun, jmem 854 (by decide +kernel) rfl, jmem 42 (by decide +kernel) rfl, jmem 852 (by decide +kernel) rfl⟩
theorem cl_Walk_216 : jcV "ChanceSteps$Walker" 216 y_Runs_keep b_Runs_keep 5 none 3 := ⟨jb_Runs_keep, jmem 870 (by decide +kernel) rfl, jmem 871 (by decide +kernel) rfl, jmem 869 (by decide +kernel) rfl⟩
theorem cl_Mo_1 : jcO "ChanceStepsModel" 1 := ⟨jmem 1097 (by decide +kernel) rfl, jmem 129 (by decide +kernel) rfl, jmem 130 (by decide +kernel) rfl⟩
theorem ff_Mo_9 : jFf "ChanceStepsModel" 9 10 1 (.array .int) := ⟨RX10, TX10, 43, rfl, by decide, jmem 1127 (by decide +kernel) rfl, uw_10, jt_10, rfl, rfl, by decide +kernel⟩
theorem ff_Mo_13 : jFf "ChanceStepsModel" 13 10 2 (.array .int) := ⟨RX10, TX10, 43, rfl, by decide, jmem 1128 (by decide +kernel) rfl, uw_10, jt_10, rfl, rfl, by decide +kernel⟩
theorem ff_Mo_16 : jFf "ChanceStepsModel" 16 10 3 (.array .int) := ⟨RX10, TX10, 43, rfl, by decide, jmem 1129 (by decide +kernel) rfl, uw_10, jt_10, rfl, rfl, by decide +kernel⟩
theorem ca_Mo_19 : Cond.classLink "ChanceStepsModel" 19 "[[I" ∈ jwd := jmem 1098 (by decide +kernel) rfl
theorem ff_Mo_21 : jFf "ChanceStepsModel" 21 10 4 (.array (.array .int)) := ⟨RX10, TX10, 43, rfl, by decide, jmem 1130 (by decide +kernel) rfl, uw_10, jt_10, rfl, rfl, by decide +kernel⟩
theorem ff_Mo_24 : jFf "ChanceStepsModel" 24 10 5 (.array (.array .int)) := ⟨RX10, TX10, 43, rfl, by decide, jmem 1131 (by decide +kernel) rfl, uw_10, jt_10, rfl, rfl, by decide +kernel⟩
theorem ff_Mo_27 : jFf "ChanceStepsModel" 27 10 6 (.array (.array .int)) := ⟨RX10, TX10, 43, rfl, by decide, jmem 1132 (by decide +kernel) rfl, uw_10, jt_10, rfl, rfl, by decide +kernel⟩
theorem ff_Mo_30 : jFf "ChanceStepsModel" 30 10 7 (.array (.array .int)) := ⟨RX10, TX10, 43, rfl, by decide, jmem 1133 (by decide +kernel) rfl, uw_10, jt_10, rfl, rfl, by decide +kernel⟩
theorem ff_Mo_33 : jFf "ChanceStepsModel" 33 10 8 (.array (.array .int)) := ⟨RX10, TX10, 43, rfl, by decide, jmem 1134 (by decide +kernel) rfl, uw_10, jt_10, rfl, rfl, by decide +kernel⟩
theorem ff_Mo_36 : jFf "ChanceStepsModel" 36 10 9 (.array (.array .int)) := ⟨RX10, TX10, 43, rfl, by decide, jmem 1135 (by decide +kernel) rfl, uw_10, jt_10, rfl, rfl, by decide +kernel⟩
theorem ff_Mo_39 : jFf "ChanceStepsModel" 39 10 10 (.array (.array .int)) := ⟨RX10, TX10, 43, rfl, by decide, jmem 1136 (by decide +kernel) rfl, uw_10, jt_10, rfl, rfl, by decide +kernel⟩
theorem ff_Mo_42 : jFf "ChanceStepsModel" 42 10 11 (.array (.array .int)) := ⟨RX10, TX10, 43, rfl, by decide, jmem 1137 (by decide +kernel) rfl, uw_10, jt_10, rfl, rfl, by decide +kernel⟩
theorem ff_Mo_45 : jFf "ChanceStepsModel" 45 10 12 (.array (.array .int)) := ⟨RX10, TX10, 43, rfl, by decide, jmem 1138 (by decide +kernel) rfl, uw_10, jt_10, rfl, rfl, by decide +kernel⟩
theorem ff_Mo_48 : jFf "ChanceStepsModel" 48 10 13 (.array (.array .int)) := ⟨RX10, TX10, 43, rfl, by decide, jmem 1139 (by decide +kernel) rfl, uw_10, jt_10, rfl, rfl, by decide +kernel⟩
theorem ff_Mo_51 : jFf "ChanceStepsModel" 51 10 14 (.array (.array .int)) := ⟨RX10, TX10, 43, rfl, by decide, jmem 1140 (by decide +kernel) rfl, uw_10, jt_10, rfl, rfl, by decide +kernel⟩
theorem ff_Mo_54 : jFf "ChanceStepsModel" 54 10 15 (.array (.array .int)) := ⟨RX10, TX10, 43, rfl, by decide, jmem 1141 (by decide +kernel) rfl, uw_10, jt_10, rfl, rfl, by decide +kernel⟩
theorem ff_Mo_57 : jFf "ChanceStepsModel" 57 10 16 (.array (.array .int)) := ⟨RX10, TX10, 43, rfl, by decide, jmem 1142 (by decide +kernel) rfl, uw_10, jt_10, rfl, rfl, by decide +kernel⟩
theorem ff_Mo_60 : jFf "ChanceStepsModel" 60 10 17 (.array .int) := ⟨RX10, TX10, 43, rfl, by decide, jmem 1143 (by decide +kernel) rfl, uw_10, jt_10, rfl, rfl, by decide +kernel⟩
theorem ca_Mo_63 : Cond.classLink "ChanceStepsModel" 63 "[[Z" ∈ jwd := jmem 1100 (by decide +kernel) rfl
theorem ff_Mo_65 : jFf "ChanceStepsModel" 65 10 18 (.array (.array .boolean)) := ⟨RX10, TX10, 43, rfl, by decide, jmem 1144 (by decide +kernel) rfl, uw_10, jt_10, rfl, rfl, by decide +kernel⟩
theorem ff_Mo_68 : jFf "ChanceStepsModel" 68 10 19 (.array (.array .boolean)) := ⟨RX10, TX10, 43, rfl, by decide, jmem 1145 (by decide +kernel) rfl, uw_10, jt_10, rfl, rfl, by decide +kernel⟩
theorem ca_Mo_71 : Cond.classLink "ChanceStepsModel" 71 "[[[J" ∈ jwd := jmem 1102 (by decide +kernel) rfl
theorem ff_Mo_73 : jFf "ChanceStepsModel" 73 10 20 (.array (.array (.array .long))) := ⟨RX10, TX10, 43, rfl, by decide, jmem 1146 (by decide +kernel) rfl, uw_10, jt_10, rfl, rfl, by decide +kernel⟩
theorem ff_Mo_76 : jFf "ChanceStepsModel" 76 10 21 (.array .int) := ⟨RX10, TX10, 43, rfl, by decide, jmem 1147 (by decide +kernel) rfl, uw_10, jt_10, rfl, rfl, by decide +kernel⟩
theorem ca_Mo_79 : Cond.classLink "ChanceStepsModel" 79 "ChanceStepsModel$Odds" ∈ jwd := jmem 1105 (by decide +kernel) rfl
theorem ff_Mo_81 : jFf "ChanceStepsModel" 81 10 32 (.array (.object "ChanceStepsModel$Odds")) := ⟨RX10, TX10, 43, rfl, by decide, jmem 1158 (by decide +kernel) rfl, uw_10, jt_10, rfl, rfl, by decide +kernel⟩
theorem fp_Mo_85 : jFp "ChanceStepsModel" 85 10 37 .int := ⟨RX10, TX10, 43, rfl, by decide, jmem 1163 (by decide +kernel) rfl, uw_10, jt_10, rfl, by decide +kernel⟩
theorem ff_Mo_89 : jFf "ChanceStepsModel" 89 10 38 (.array .int) := ⟨RX10, TX10, 43, rfl, by decide, jmem 1164 (by decide +kernel) rfl, uw_10, jt_10, rfl, rfl, by decide +kernel⟩
theorem ff_Mo_92 : jFf "ChanceStepsModel" 92 10 39 (.array .int) := ⟨RX10, TX10, 43, rfl, by decide, jmem 1165 (by decide +kernel) rfl, uw_10, jt_10, rfl, rfl, by decide +kernel⟩
theorem ff_Mo_95 : jFf "ChanceStepsModel" 95 10 40 (.array .int) := ⟨RX10, TX10, 43, rfl, by decide, jmem 1166 (by decide +kernel) rfl, uw_10, jt_10, rfl, rfl, by decide +kernel⟩
theorem ff_Mo_98 : jFf "ChanceStepsModel" 98 10 41 (.array (.array .int)) := ⟨RX10, TX10, 43, rfl, by decide, jmem 1167 (by decide +kernel) rfl, uw_10, jt_10, rfl, rfl, by decide +kernel⟩
theorem ff_Mo_101 : jFf "ChanceStepsModel" 101 10 42 (.array .int) := ⟨RX10, TX10, 43, rfl, by decide, jmem 1168 (by decide +kernel) rfl, uw_10, jt_10, rfl, rfl, by decide +kernel⟩
theorem fg_Mo_81 : jF "ChanceStepsModel" 81 10 32 := ⟨RX10, TX10, 43, rfl, by decide, jmem 1158 (by decide +kernel) rfl, uw_10⟩
theorem nw_Mo_79 : jNew "ChanceStepsModel" 79 9 3 v0_9 := ⟨RX9, TX9, 3, tyX9, rfl, jmem 1105 (by decide +kernel) rfl, jmem 1107 (by decide +kernel) rfl, jmem 109 (by decide +kernel) rfl, uw_9, tyX9_ok, by decide +kernel⟩
theorem cl_Mo_104 : jcIn "ChanceStepsModel" 104 y_Odds_init b_Odds_init 1 0 := ⟨jb_Odds_init, jmem 1109 (by decide +kernel) rfl, rfl, "ChanceStepsModel", jmemN 1108 (by decide +kernel) rfl⟩
theorem fg_Mo_297 : jF "ChanceStepsModel" 297 10 34 := ⟨RX10, TX10, 43, rfl, by decide, jmem 1160 (by decide +kernel) rfl, uw_10⟩
theorem fg_Mo_272 : jFn "ChanceStepsModel" 272 9 2 := ⟨RX9, TX9, 3, _, rfl, by decide, (jmemN 1117 (by decide +kernel) rfl : Cond.fieldLinkNest _ _ _ _ _ "ChanceStepsModel" ∈ jnest), uw_9⟩
theorem cl_Mo_364 : jcV "ChanceStepsModel" 364 y_Mo_isProgram b_Mo_isProgram 2 (some .boolean) 1 := ⟨jb_Mo_isProgram, jmem 1436 (by decide +kernel) rfl, jmem 76 (by decide +kernel) rfl, jmem 1434 (by decide +kernel) rfl⟩
theorem cl_Mo_367 : jcV "ChanceStepsModel" 367 y_Mo_odds_0 b_Mo_odds_0 3 (some (.object "ChanceStepsModel$Odds")) 2 := ⟨jb_Mo_odds_0, jmem 1460 (by decide +kernel) rfl, jmem 81 (by decide +kernel) rfl, jmem 1458 (by decide +kernel) rfl⟩
theorem cl_Mo_354 : jcV "ChanceStepsModel" 354 y_Mo_oddsBeside b_Mo_oddsBeside 4 (some (.object "ChanceStepsModel$Odds")) 2 := ⟨jb_Mo_oddsBeside, jmem 1464 (by decide +kernel) rfl, jmem 82 (by decide +kernel) rfl, jmem 1462 (by decide +kernel) rfl⟩
theorem cl_Mo_384 : jcS "ChanceStepsModel" 384 y_Mo_weightOf b_Mo_weightOf 6 (some .long) 3 := ⟨jb_Mo_weightOf, jmem 1580 (by decide +kernel) rfl, jmem 1579 (by decide +kernel) rfl⟩
theorem cl_Mo_372 : jcV "ChanceStepsModel" 372 y_Odds_all b_Odds_all 4 (some .long) 0 := ⟨jb_Odds_all, jmem 1565 (by decide +kernel) rfl, jmem 1566 (by decide +kernel) rfl, jmem 1564 (by decide +kernel) rfl⟩
theorem cl_Mo_396 : jcS "ChanceStepsModel" 396 y_Mo_areSame b_Mo_areSame 8 (some .boolean) 4 := ⟨jb_Mo_areSame, jmem 1606 (by decide +kernel) rfl, jmem 1605 (by decide +kernel) rfl⟩
theorem cl_Mo_254 : jcS "ChanceStepsModel" 254 y_Mo_isName b_Mo_isName 1 (some .boolean) 1 := ⟨jb_Mo_isName, jmem 1428 (by decide +kernel) rfl, jmem 1427 (by decide +kernel) rfl⟩
theorem cl_Mo_380 : jcV "ChanceStepsModel" 380 y_Mo_against b_Mo_against 2 (some .int) 1 := ⟨jb_Mo_against, jmem 1577 (by decide +kernel) rfl, jmem 96 (by decide +kernel) rfl, jmem 1575 (by decide +kernel) rfl⟩
theorem cl_Mo_392 : jcS "ChanceStepsModel" 392 y_Mo_both b_Mo_both 8 (some .long) 5 := ⟨jb_Mo_both, jmem 1603 (by decide +kernel) rfl, jmem 1602 (by decide +kernel) rfl⟩
theorem cl_Mo_376 : jcS "ChanceStepsModel" 376 y_Mo_lowest b_Mo_lowest 11 (some .long) 3 := ⟨jb_Mo_lowest, jmem 1569 (by decide +kernel) rfl, jmem 1568 (by decide +kernel) rfl⟩
theorem fg_Mo_85 : jF "ChanceStepsModel" 85 10 37 := ⟨RX10, TX10, 43, rfl, by decide, jmem 1163 (by decide +kernel) rfl, uw_10⟩
theorem fp_Mo_105 : jFp "ChanceStepsModel" 105 10 0 .int := ⟨RX10, TX10, 43, rfl, by decide, jmem 1126 (by decide +kernel) rfl, uw_10, jt_10, rfl, by decide +kernel⟩
theorem fg_Mo_89 : jF "ChanceStepsModel" 89 10 38 := ⟨RX10, TX10, 43, rfl, by decide, jmem 1164 (by decide +kernel) rfl, uw_10⟩
theorem fg_Mo_60 : jF "ChanceStepsModel" 60 10 17 := ⟨RX10, TX10, 43, rfl, by decide, jmem 1143 (by decide +kernel) rfl, uw_10⟩
theorem fg_Mo_105 : jF "ChanceStepsModel" 105 10 0 := ⟨RX10, TX10, 43, rfl, by decide, jmem 1126 (by decide +kernel) rfl, uw_10⟩
theorem cl_Mo_228 : jcV "ChanceStepsModel" 228 y_Mo_bitsOfStep b_Mo_bitsOfStep 3 (some .int) 2 := ⟨jb_Mo_bitsOfStep, jmem 1404 (by decide +kernel) rfl, jmem 72 (by decide +kernel) rfl, jmem 1402 (by decide +kernel) rfl⟩
theorem fg_Mo_30 : jF "ChanceStepsModel" 30 10 7 := ⟨RX10, TX10, 43, rfl, by decide, jmem 1133 (by decide +kernel) rfl, uw_10⟩
theorem fg_Mo_21 : jF "ChanceStepsModel" 21 10 4 := ⟨RX10, TX10, 43, rfl, by decide, jmem 1130 (by decide +kernel) rfl, uw_10⟩
theorem cl_Mo_232 : jcV "ChanceStepsModel" 232 y_Mo_lotsAll b_Mo_lotsAll 5 (some .int) 2 := ⟨jb_Mo_lotsAll, jmem 1408 (by decide +kernel) rfl, jmem 73 (by decide +kernel) rfl, jmem 1406 (by decide +kernel) rfl⟩
theorem fg_Mo_33 : jF "ChanceStepsModel" 33 10 8 := ⟨RX10, TX10, 43, rfl, by decide, jmem 1134 (by decide +kernel) rfl, uw_10⟩
theorem cl_Mo_240 : jcV "ChanceStepsModel" 240 y_Mo_bitsOf b_Mo_bitsOf 6 (some .int) 3 := ⟨jb_Mo_bitsOf, jmem 1400 (by decide +kernel) rfl, jmem 71 (by decide +kernel) rfl, jmem 1398 (by decide +kernel) rfl⟩
theorem fg_Mo_27 : jF "ChanceStepsModel" 27 10 6 := ⟨RX10, TX10, 43, rfl, by decide, jmem 1132 (by decide +kernel) rfl, uw_10⟩
theorem fg_Mo_13 : jF "ChanceStepsModel" 13 10 2 := ⟨RX10, TX10, 43, rfl, by decide, jmem 1128 (by decide +kernel) rfl, uw_10⟩
theorem cl_Mo_179 : jcV "ChanceStepsModel" 179 y_Mo_step_0 b_Mo_step_0 4 none 0 := ⟨jb_Mo_step_0, jmem 1356 (by decide +kernel) rfl, jmem 60 (by decide +kernel) rfl, jmem 1354 (by decide +kernel) rfl⟩
theorem cl_Mo_173 : jcV "ChanceStepsModel" 173 y_Mo_isSign b_Mo_isSign 2 (some .boolean) 1 := ⟨jb_Mo_isSign, jmem 1372 (by decide +kernel) rfl, jmem 64 (by decide +kernel) rfl, jmem 1370 (by decide +kernel) rfl⟩
theorem cl_Mo_176 : jcV "ChanceStepsModel" 176 y_Mo_next b_Mo_next 3 none 0 := ⟨jb_Mo_next, jmem 1272 (by decide +kernel) rfl, jmem 55 (by decide +kernel) rfl, jmem 1270 (by decide +kernel) rfl⟩
theorem fg_Mo_279 : jFn "ChanceStepsModel" 279 9 0 := ⟨RX9, TX9, 3, _, rfl, by decide, (jmemN 1113 (by decide +kernel) rfl : Cond.fieldLinkNest _ _ _ _ _ "ChanceStepsModel" ∈ jnest), uw_9⟩
theorem cl_Mo_260 : jcS "ChanceStepsModel" 260 y_Mo_valueOf b_Mo_valueOf 2 (some .int) 2 := ⟨jb_Mo_valueOf, jmem 1488 (by decide +kernel) rfl, jmem 1487 (by decide +kernel) rfl⟩
theorem fg_Mo_285 : jFn "ChanceStepsModel" 285 9 1 := ⟨RX9, TX9, 3, _, rfl, by decide, (jmemN 1115 (by decide +kernel) rfl : Cond.fieldLinkNest _ _ _ _ _ "ChanceStepsModel" ∈ jnest), uw_9⟩
theorem fg_Mo_116 : jF "ChanceStepsModel" 116 10 22 := ⟨RX10, TX10, 43, rfl, by decide, jmem 1148 (by decide +kernel) rfl, uw_10⟩
theorem fg_Mo_76 : jF "ChanceStepsModel" 76 10 21 := ⟨RX10, TX10, 43, rfl, by decide, jmem 1147 (by decide +kernel) rfl, uw_10⟩
theorem cl_Mo_422 : jcS "ChanceStepsModel" 422 y_Mo_isSheet b_Mo_isSheet 1 (some .boolean) 1 := ⟨jb_Mo_isSheet, jmem 1638 (by decide +kernel) rfl, jmem 1637 (by decide +kernel) rfl⟩
theorem fg_Mo_92 : jF "ChanceStepsModel" 92 10 39 := ⟨RX10, TX10, 43, rfl, by decide, jmem 1165 (by decide +kernel) rfl, uw_10⟩
theorem fg_Mo_95 : jF "ChanceStepsModel" 95 10 40 := ⟨RX10, TX10, 43, rfl, by decide, jmem 1166 (by decide +kernel) rfl, uw_10⟩
theorem cl_Mo_108 : jcS "ChanceStepsModel" 108 y_Mo_in b_Mo_in 3 (some .boolean) 3 := ⟨jb_Mo_in, jmem 1261 (by decide +kernel) rfl, jmem 1260 (by decide +kernel) rfl⟩
theorem fg_Mo_98 : jF "ChanceStepsModel" 98 10 41 := ⟨RX10, TX10, 43, rfl, by decide, jmem 1167 (by decide +kernel) rfl, uw_10⟩
theorem cl_Mo_322 : jcV "ChanceStepsModel" 322 y_Mo_split b_Mo_split 7 (some (.object "ChanceStepsModel$Odds")) 4 := ⟨jb_Mo_split, jmem 1522 (by decide +kernel) rfl, jmem 91 (by decide +kernel) rfl, jmem 1520 (by decide +kernel) rfl⟩
theorem cl_Mo_336 : jcV "ChanceStepsModel" 336 y_Mo_make b_Mo_make 11 (some (.object "ChanceStepsModel$Odds")) 5 := ⟨jb_Mo_make, jmem 1495 (by decide +kernel) rfl, jmem 86 (by decide +kernel) rfl, jmem 1493 (by decide +kernel) rfl⟩
theorem cl_Mo_275 : jcV "ChanceStepsModel" 275 y_Mo_taken_0 b_Mo_taken_0 2 (some (.object "ChanceStepsModel$Odds")) 0 := ⟨jb_Mo_taken_0, jmem 1468 (by decide +kernel) rfl, jmem 83 (by decide +kernel) rfl, jmem 1466 (by decide +kernel) rfl⟩
theorem cl_Mo_289 : jcV "ChanceStepsModel" 289 y_Odds_come b_Odds_come 7 none 2 := ⟨jb_Odds_come, jmem 1476 (by decide +kernel) rfl, jmem 1477 (by decide +kernel) rfl, jmem 1475 (by decide +kernel) rfl⟩
theorem cl_Mo_400 : jcV "ChanceStepsModel" 400 y_Mo_comeStep b_Mo_comeStep 10 (some .int) 3 := ⟨jb_Mo_comeStep, jmem 1626 (by decide +kernel) rfl, jmem 99 (by decide +kernel) rfl, jmem 1624 (by decide +kernel) rfl⟩
theorem fg_Mo_36 : jF "ChanceStepsModel" 36 10 9 := ⟨RX10, TX10, 43, rfl, by decide, jmem 1135 (by decide +kernel) rfl, uw_10⟩
theorem cl_Mo_263 : jcV "ChanceStepsModel" 263 y_Mo_worth b_Mo_worth 7 (some .int) 3 := ⟨jb_Mo_worth, jmem 1515 (by decide +kernel) rfl, jmem 90 (by decide +kernel) rfl, jmem 1513 (by decide +kernel) rfl⟩
theorem fg_Mo_403 : jF "ChanceStepsModel" 403 10 36 := ⟨RX10, TX10, 43, rfl, by decide, jmem 1162 (by decide +kernel) rfl, uw_10⟩
theorem ld_Mo_406 : Cond.constant "ChanceStepsModel" 406 (1103515245) ∈ jwd := jmem 1628 (by decide +kernel) rfl
theorem fp_Mo_403 : jFp "ChanceStepsModel" 403 10 36 .int := ⟨RX10, TX10, 43, rfl, by decide, jmem 1162 (by decide +kernel) rfl, uw_10, jt_10, rfl, by decide +kernel⟩
theorem fg_Mo_39 : jF "ChanceStepsModel" 39 10 10 := ⟨RX10, TX10, 43, rfl, by decide, jmem 1136 (by decide +kernel) rfl, uw_10⟩
theorem fg_Mo_45 : jF "ChanceStepsModel" 45 10 12 := ⟨RX10, TX10, 43, rfl, by decide, jmem 1138 (by decide +kernel) rfl, uw_10⟩
theorem fg_Mo_24 : jF "ChanceStepsModel" 24 10 5 := ⟨RX10, TX10, 43, rfl, by decide, jmem 1131 (by decide +kernel) rfl, uw_10⟩
theorem fg_Mo_42 : jF "ChanceStepsModel" 42 10 11 := ⟨RX10, TX10, 43, rfl, by decide, jmem 1137 (by decide +kernel) rfl, uw_10⟩
theorem cl_Mo_282 : jcS "ChanceStepsModel" 282 y_Mo_with b_Mo_with 3 (some .int) 3 := ⟨jb_Mo_with, jmem 1485 (by decide +kernel) rfl, jmem 1484 (by decide +kernel) rfl⟩
theorem cl_Mo_333 : jcS "ChanceStepsModel" 333 y_Mo_digit b_Mo_digit 2 (some .int) 1 := ⟨jb_Mo_digit, jmem 1518 (by decide +kernel) rfl, jmem 1517 (by decide +kernel) rfl⟩
theorem cl_Mo_407 : jcV "ChanceStepsModel" 407 y_Mo_come b_Mo_come 7 (some .int) 4 := ⟨jb_Mo_come, jmem 1622 (by decide +kernel) rfl, jmem 98 (by decide +kernel) rfl, jmem 1620 (by decide +kernel) rfl⟩
theorem fg_Mo_9 : jF "ChanceStepsModel" 9 10 1 := ⟨RX10, TX10, 43, rfl, by decide, jmem 1127 (by decide +kernel) rfl, uw_10⟩
theorem cl_Mo_409 : jcV "ChanceStepsModel" 409 y_Mo_comesBy b_Mo_comesBy 3 (some .int) 2 := ⟨jb_Mo_comesBy, jmem 1618 (by decide +kernel) rfl, jmem 97 (by decide +kernel) rfl, jmem 1616 (by decide +kernel) rfl⟩
theorem cl_Mo_358 : jcV "ChanceStepsModel" 358 y_Mo_startState b_Mo_startState 3 (some .int) 0 := ⟨jb_Mo_startState, jmem 1472 (by decide +kernel) rfl, jmem 84 (by decide +kernel) rfl, jmem 1470 (by decide +kernel) rfl⟩
theorem fg_Mo_101 : jF "ChanceStepsModel" 101 10 42 := ⟨RX10, TX10, 43, rfl, by decide, jmem 1168 (by decide +kernel) rfl, uw_10⟩
theorem cl_Mo_215 : jcV "ChanceStepsModel" 215 y_Mo_sum b_Mo_sum 4 (some .int) 0 := ⟨jb_Mo_sum, jmem 1380 (by decide +kernel) rfl, jmem 66 (by decide +kernel) rfl, jmem 1378 (by decide +kernel) rfl⟩
theorem fg_Mo_165 : jF "ChanceStepsModel" 165 10 26 := ⟨RX10, TX10, 43, rfl, by decide, jmem 1152 (by decide +kernel) rfl, uw_10⟩
theorem cl_Mo_218 : jcV "ChanceStepsModel" 218 y_Mo_node b_Mo_node 5 (some .int) 4 := ⟨jb_Mo_node, jmem 1392 (by decide +kernel) rfl, jmem 69 (by decide +kernel) rfl, jmem 1390 (by decide +kernel) rfl⟩
theorem cl_Mo_112 : jcS "ChanceStepsModel" 112 y_Mo_isByte b_Mo_isByte 1 (some .boolean) 1 := ⟨jb_Mo_isByte, jmem 1264 (by decide +kernel) rfl, jmem 1263 (by decide +kernel) rfl⟩
theorem fp_Mo_116 : jFp "ChanceStepsModel" 116 10 22 .int := ⟨RX10, TX10, 43, rfl, by decide, jmem 1148 (by decide +kernel) rfl, uw_10, jt_10, rfl, by decide +kernel⟩
theorem cl_Mo_414 : jcS "ChanceStepsModel" 414 y_Mo_hundredths b_Mo_hundredths 3 (some .int) 3 := ⟨jb_Mo_hundredths, jmem 1645 (by decide +kernel) rfl, jmem 1644 (by decide +kernel) rfl⟩
theorem ld_Mo_370 : Cond.constantLong "ChanceStepsModel" 370 (-4611686018427387904) ∈ jwd := jmem 1563 (by decide +kernel) rfl
theorem cl_Mo_389 : jcS "ChanceStepsModel" 389 y_Mo_fold_0 b_Mo_fold_0 2 (some .int) 2 := ⟨jb_Mo_fold_0, jmem 1592 (by decide +kernel) rfl, jmem 1591 (by decide +kernel) rfl⟩
theorem ld_Mo_412 : Cond.constantLong "ChanceStepsModel" 412 (100) ∈ jwd := jmem 1647 (by decide +kernel) rfl
theorem fg_Mo_182 : jF "ChanceStepsModel" 182 10 27 := ⟨RX10, TX10, 43, rfl, by decide, jmem 1153 (by decide +kernel) rfl, uw_10⟩
theorem fp_Mo_155 : jFp "ChanceStepsModel" 155 10 31 .boolean := ⟨RX10, TX10, 43, rfl, by decide, jmem 1157 (by decide +kernel) rfl, uw_10, jt_10, rfl, by decide +kernel⟩
theorem fp_Mo_182 : jFp "ChanceStepsModel" 182 10 27 .int := ⟨RX10, TX10, 43, rfl, by decide, jmem 1153 (by decide +kernel) rfl, uw_10, jt_10, rfl, by decide +kernel⟩
theorem cl_Mo_185 : jcV "ChanceStepsModel" 185 y_Mo_block b_Mo_block 1 none 0 := ⟨jb_Mo_block, jmem 1352 (by decide +kernel) rfl, jmem 59 (by decide +kernel) rfl, jmem 1350 (by decide +kernel) rfl⟩
theorem cl_Mo_188 : jcV "ChanceStepsModel" 188 y_Mo_need b_Mo_need 2 none 1 := ⟨jb_Mo_need, jmem 1368 (by decide +kernel) rfl, jmem 63 (by decide +kernel) rfl, jmem 1366 (by decide +kernel) rfl⟩
theorem fg_Mo_155 : jF "ChanceStepsModel" 155 10 31 := ⟨RX10, TX10, 43, rfl, by decide, jmem 1157 (by decide +kernel) rfl, uw_10⟩
theorem fg_Mo_159 : jF "ChanceStepsModel" 159 10 25 := ⟨RX10, TX10, 43, rfl, by decide, jmem 1151 (by decide +kernel) rfl, uw_10⟩
theorem cl_Mo_418 : jcV "ChanceStepsModel" 418 y_Mo_otherwise b_Mo_otherwise 5 (some .int) 3 := ⟨jb_Mo_otherwise, jmem 1642 (by decide +kernel) rfl, jmem 100 (by decide +kernel) rfl, jmem 1640 (by decide +kernel) rfl⟩
theorem fg_Mo_125 : jF "ChanceStepsModel" 125 10 23 := ⟨RX10, TX10, 43, rfl, by decide, jmem 1149 (by decide +kernel) rfl, uw_10⟩
theorem fg_Mo_128 : jF "ChanceStepsModel" 128 10 24 := ⟨RX10, TX10, 43, rfl, by decide, jmem 1150 (by decide +kernel) rfl, uw_10⟩
theorem cl_Mo_135 : jcV "ChanceStepsModel" 135 y_Mo_byteAt b_Mo_byteAt 2 (some .int) 1 := ⟨jb_Mo_byteAt, jmem 1276 (by decide +kernel) rfl, jmem 56 (by decide +kernel) rfl, jmem 1274 (by decide +kernel) rfl⟩
theorem ld_Mo_340 : Cond.constantLong "ChanceStepsModel" 340 (1125899906842624) ∈ jwd := jmem 1474 (by decide +kernel) rfl
theorem cl_Mo_293 : jcV "ChanceStepsModel" 293 y_Odds_becomes b_Odds_becomes 2 none 1 := ⟨jb_Odds_becomes, jmem 1498 (by decide +kernel) rfl, jmem 1499 (by decide +kernel) rfl, jmem 1497 (by decide +kernel) rfl⟩
theorem fg_Mo_269 : jF "ChanceStepsModel" 269 10 33 := ⟨RX10, TX10, 43, rfl, by decide, jmem 1159 (by decide +kernel) rfl, uw_10⟩
theorem cl_Mo_300 : jcV "ChanceStepsModel" 300 y_Mo_neededFrom b_Mo_neededFrom 5 (some .int) 4 := ⟨jb_Mo_neededFrom, jmem 1440 (by decide +kernel) rfl, jmem 77 (by decide +kernel) rfl, jmem 1438 (by decide +kernel) rfl⟩
theorem fp_Mo_269 : jFp "ChanceStepsModel" 269 10 33 .int := ⟨RX10, TX10, 43, rfl, by decide, jmem 1159 (by decide +kernel) rfl, uw_10, jt_10, rfl, by decide +kernel⟩
theorem cl_Mo_198 : jcV "ChanceStepsModel" 198 y_Mo_takes b_Mo_takes 5 (some .int) 3 := ⟨jb_Mo_takes, jmem 1360 (by decide +kernel) rfl, jmem 61 (by decide +kernel) rfl, jmem 1358 (by decide +kernel) rfl⟩
theorem fg_Mo_195 : jF "ChanceStepsModel" 195 10 29 := ⟨RX10, TX10, 43, rfl, by decide, jmem 1155 (by decide +kernel) rfl, uw_10⟩
theorem fp_Mo_195 : jFp "ChanceStepsModel" 195 10 29 .int := ⟨RX10, TX10, 43, rfl, by decide, jmem 1155 (by decide +kernel) rfl, uw_10, jt_10, rfl, by decide +kernel⟩
theorem cl_Mo_303 : jcV "ChanceStepsModel" 303 y_Mo_sees b_Mo_sees 3 (some .boolean) 1 := ⟨jb_Mo_sees, jmem 1452 (by decide +kernel) rfl, jmem 80 (by decide +kernel) rfl, jmem 1450 (by decide +kernel) rfl⟩
theorem cl_Mo_306 : jcV "ChanceStepsModel" 306 y_Mo_makeStep b_Mo_makeStep 5 (some (.object "ChanceStepsModel$Odds")) 4 := ⟨jb_Mo_makeStep, jmem 1503 (by decide +kernel) rfl, jmem 87 (by decide +kernel) rfl, jmem 1501 (by decide +kernel) rfl⟩
theorem cl_Mo_310 : jcV "ChanceStepsModel" 310 y_Mo_forget b_Mo_forget 7 (some (.object "ChanceStepsModel$Odds")) 2 := ⟨jb_Mo_forget, jmem 1482 (by decide +kernel) rfl, jmem 85 (by decide +kernel) rfl, jmem 1480 (by decide +kernel) rfl⟩
theorem fg_Mo_314 : jF "ChanceStepsModel" 314 10 35 := ⟨RX10, TX10, 43, rfl, by decide, jmem 1161 (by decide +kernel) rfl, uw_10⟩
theorem fp_Mo_314 : jFp "ChanceStepsModel" 314 10 35 .int := ⟨RX10, TX10, 43, rfl, by decide, jmem 1161 (by decide +kernel) rfl, uw_10, jt_10, rfl, by decide +kernel⟩
theorem fp_Mo_297 : jFp "ChanceStepsModel" 297 10 34 .boolean := ⟨RX10, TX10, 43, rfl, by decide, jmem 1160 (by decide +kernel) rfl, uw_10, jt_10, rfl, by decide +kernel⟩
theorem cl_Mo_317 : jcV "ChanceStepsModel" 317 y_Mo_draw b_Mo_draw 8 (some (.object "ChanceStepsModel$Odds")) 3 := ⟨jb_Mo_draw, jmem 1507 (by decide +kernel) rfl, jmem 88 (by decide +kernel) rfl, jmem 1505 (by decide +kernel) rfl⟩
theorem cl_Mo_320 : jcV "ChanceStepsModel" 320 y_Mo_let_1 b_Mo_let_1 6 (some (.object "ChanceStepsModel$Odds")) 3 := ⟨jb_Mo_let_1, jmem 1511 (by decide +kernel) rfl, jmem 89 (by decide +kernel) rfl, jmem 1509 (by decide +kernel) rfl⟩
theorem cl_Mo_326 : jcV "ChanceStepsModel" 326 y_Mo_choose b_Mo_choose 9 (some (.object "ChanceStepsModel$Odds")) 4 := ⟨jb_Mo_choose, jmem 1526 (by decide +kernel) rfl, jmem 92 (by decide +kernel) rfl, jmem 1524 (by decide +kernel) rfl⟩
theorem cl_Mo_329 : jcV "ChanceStepsModel" 329 y_Mo_loop b_Mo_loop 11 (some (.object "ChanceStepsModel$Odds")) 4 := ⟨jb_Mo_loop, jmem 1530 (by decide +kernel) rfl, jmem 93 (by decide +kernel) rfl, jmem 1528 (by decide +kernel) rfl⟩
theorem cl_Mo_331 : jcV "ChanceStepsModel" 331 y_Mo_run b_Mo_run 9 (some (.object "ChanceStepsModel$Odds")) 3 := ⟨jb_Mo_run, jmem 1534 (by decide +kernel) rfl, jmem 94 (by decide +kernel) rfl, jmem 1532 (by decide +kernel) rfl⟩
theorem fg_Mo_48 : jF "ChanceStepsModel" 48 10 13 := ⟨RX10, TX10, 43, rfl, by decide, jmem 1139 (by decide +kernel) rfl, uw_10⟩
theorem fg_Mo_51 : jF "ChanceStepsModel" 51 10 14 := ⟨RX10, TX10, 43, rfl, by decide, jmem 1140 (by decide +kernel) rfl, uw_10⟩
theorem fg_Mo_54 : jF "ChanceStepsModel" 54 10 15 := ⟨RX10, TX10, 43, rfl, by decide, jmem 1141 (by decide +kernel) rfl, uw_10⟩
theorem cl_Mo_266 : jcV "ChanceStepsModel" 266 y_Mo_namesIn b_Mo_namesIn 3 (some .int) 2 := ⟨jb_Mo_namesIn, jmem 1448 (by decide +kernel) rfl, jmem 79 (by decide +kernel) rfl, jmem 1446 (by decide +kernel) rfl⟩
theorem fg_Mo_57 : jF "ChanceStepsModel" 57 10 16 := ⟨RX10, TX10, 43, rfl, by decide, jmem 1142 (by decide +kernel) rfl, uw_10⟩
theorem cl_Mo_361 : jcV "ChanceStepsModel" 361 y_Mo_neededAhead b_Mo_neededAhead 8 (some .int) 3 := ⟨jb_Mo_neededAhead, jmem 1444 (by decide +kernel) rfl, jmem 78 (by decide +kernel) rfl, jmem 1442 (by decide +kernel) rfl⟩
theorem fp_Mo_125 : jFp "ChanceStepsModel" 125 10 23 .int := ⟨RX10, TX10, 43, rfl, by decide, jmem 1149 (by decide +kernel) rfl, uw_10, jt_10, rfl, by decide +kernel⟩
theorem fp_Mo_128 : jFp "ChanceStepsModel" 128 10 24 .int := ⟨RX10, TX10, 43, rfl, by decide, jmem 1150 (by decide +kernel) rfl, uw_10, jt_10, rfl, by decide +kernel⟩
theorem fp_Mo_159 : jFp "ChanceStepsModel" 159 10 25 .int := ⟨RX10, TX10, 43, rfl, by decide, jmem 1151 (by decide +kernel) rfl, uw_10, jt_10, rfl, by decide +kernel⟩
theorem cl_Mo_162 : jcV "ChanceStepsModel" 162 y_Mo_wordRead b_Mo_wordRead 1 (some .int) 0 := ⟨jb_Mo_wordRead, jmem 1280 (by decide +kernel) rfl, jmem 57 (by decide +kernel) rfl, jmem 1278 (by decide +kernel) rfl⟩
theorem fp_Mo_165 : jFp "ChanceStepsModel" 165 10 26 .int := ⟨RX10, TX10, 43, rfl, by decide, jmem 1152 (by decide +kernel) rfl, uw_10, jt_10, rfl, by decide +kernel⟩
theorem fg_Mo_212 : jF "ChanceStepsModel" 212 10 30 := ⟨RX10, TX10, 43, rfl, by decide, jmem 1156 (by decide +kernel) rfl, uw_10⟩
theorem fp_Mo_212 : jFp "ChanceStepsModel" 212 10 30 .int := ⟨RX10, TX10, 43, rfl, by decide, jmem 1156 (by decide +kernel) rfl, uw_10, jt_10, rfl, by decide +kernel⟩
theorem cl_Mo_225 : jcV "ChanceStepsModel" 225 y_Mo_one b_Mo_one 3 (some .int) 0 := ⟨jb_Mo_one, jmem 1388 (by decide +kernel) rfl, jmem 68 (by decide +kernel) rfl, jmem 1386 (by decide +kernel) rfl⟩
theorem cl_Mo_206 : jcV "ChanceStepsModel" 206 y_Mo_expression b_Mo_expression 4 (some .int) 0 := ⟨jb_Mo_expression, jmem 1376 (by decide +kernel) rfl, jmem 65 (by decide +kernel) rfl, jmem 1374 (by decide +kernel) rfl⟩
theorem fp_Mo_192 : jFp "ChanceStepsModel" 192 10 28 .int := ⟨RX10, TX10, 43, rfl, by decide, jmem 1154 (by decide +kernel) rfl, uw_10, jt_10, rfl, by decide +kernel⟩
theorem fg_Mo_192 : jF "ChanceStepsModel" 192 10 28 := ⟨RX10, TX10, 43, rfl, by decide, jmem 1154 (by decide +kernel) rfl, uw_10⟩
theorem fg_Mo_16 : jF "ChanceStepsModel" 16 10 3 := ⟨RX10, TX10, 43, rfl, by decide, jmem 1129 (by decide +kernel) rfl, uw_10⟩
theorem cl_Mo_251 : jcV "ChanceStepsModel" 251 y_Mo_turnsOf b_Mo_turnsOf 6 (some .int) 3 := ⟨jb_Mo_turnsOf, jmem 1417 (by decide +kernel) rfl, jmem 74 (by decide +kernel) rfl, jmem 1415 (by decide +kernel) rfl⟩
theorem fg_Mo_65 : jF "ChanceStepsModel" 65 10 18 := ⟨RX10, TX10, 43, rfl, by decide, jmem 1144 (by decide +kernel) rfl, uw_10⟩
theorem cl_Mo_347 : jcV "ChanceStepsModel" 347 y_Mo_tell b_Mo_tell 9 none 2 := ⟨jb_Mo_tell, jmem 1538 (by decide +kernel) rfl, jmem 95 (by decide +kernel) rfl, jmem 1536 (by decide +kernel) rfl⟩
theorem fg_Mo_68 : jF "ChanceStepsModel" 68 10 19 := ⟨RX10, TX10, 43, rfl, by decide, jmem 1145 (by decide +kernel) rfl, uw_10⟩
theorem fg_Mo_73 : jF "ChanceStepsModel" 73 10 20 := ⟨RX10, TX10, 43, rfl, by decide, jmem 1146 (by decide +kernel) rfl, uw_10⟩
theorem cl_Mo_350 : jcS "ChanceStepsModel" 350 y_Mo_times b_Mo_times 5 (some .long) 2 := ⟨jb_Mo_times, jmem 1541 (by decide +kernel) rfl, jmem 1540 (by decide +kernel) rfl⟩
theorem ld_Mo_388 : Cond.constant "ChanceStepsModel" 388 (999999) ∈ jwd := jmem 1586 (by decide +kernel) rfl
theorem cl_Mo_202 : jcV "ChanceStepsModel" 202 y_Mo_lotsOf b_Mo_lotsOf 8 none 2 := ⟨jb_Mo_lotsOf, jmem 1364 (by decide +kernel) rfl, jmem 62 (by decide +kernel) rfl, jmem 1362 (by decide +kernel) rfl⟩
theorem cl_Mo_209 : jcV "ChanceStepsModel" 209 y_Mo_inBraces b_Mo_inBraces 1 none 0 := ⟨jb_Mo_inBraces, jmem 1396 (by decide +kernel) rfl, jmem 70 (by decide +kernel) rfl, jmem 1394 (by decide +kernel) rfl⟩
theorem cl_Mo_222 : jcV "ChanceStepsModel" 222 y_Mo_term b_Mo_term 4 (some .int) 0 := ⟨jb_Mo_term, jmem 1384 (by decide +kernel) rfl, jmem 67 (by decide +kernel) rfl, jmem 1382 (by decide +kernel) rfl⟩
theorem fp_Mo_272 : jFpn "ChanceStepsModel" 272 9 2 .int := ⟨RX9, TX9, 3, _, rfl, by decide, (jmemN 1117 (by decide +kernel) rfl : Cond.fieldLinkNest _ _ _ _ _ "ChanceStepsModel" ∈ jnest), uw_9, jt_9, rfl, by decide +kernel⟩
theorem cl_Mo_425 : jcV "ChanceStepsModel" 425 y_Mo_isSo b_Mo_isSo 5 (some .boolean) 3 := ⟨jb_Mo_isSo, jmem 1650 (by decide +kernel) rfl, jmem 101 (by decide +kernel) rfl, jmem 1648 (by decide +kernel) rfl⟩
theorem cl_Mo_248 : jcV "ChanceStepsModel" 248 y_Mo_turnsOfStep b_Mo_turnsOfStep 3 (some .int) 2 := ⟨jb_Mo_turnsOfStep, jmem 1421 (by decide +kernel) rfl, jmem 75 (by decide +kernel) rfl, jmem 1419 (by decide +kernel) rfl⟩
theorem cl_Mo_257 : jcS "ChanceStepsModel" 257 y_Mo_tens b_Mo_tens 3 (some .int) 1 := ⟨jb_Mo_tens, jmem 1491 (by decide +kernel) rfl, jmem 1490 (by decide +kernel) rfl⟩
theorem cl_Mo_141 : jcV "ChanceStepsModel" 141 y_Mo_isWord b_Mo_isWord 3 (some .boolean) 1 := ⟨jb_Mo_isWord, jmem 1285 (by decide +kernel) rfl, jmem 58 (by decide +kernel) rfl, jmem 1283 (by decide +kernel) rfl⟩
theorem cl_Odds_3 : jcO "ChanceStepsModel$Odds" 3 := ⟨jmem 1111 (by decide +kernel) rfl, jmem 129 (by decide +kernel) rfl, jmem 130 (by decide +kernel) rfl⟩
theorem ff_Odds_9 : jFf "ChanceStepsModel$Odds" 9 9 0 (.array .int) := ⟨RX9, TX9, 3, rfl, by decide, jmem 1112 (by decide +kernel) rfl, uw_9, jt_9, rfl, rfl, by decide +kernel⟩
theorem ff_Odds_15 : jFf "ChanceStepsModel$Odds" 15 9 1 (.array .long) := ⟨RX9, TX9, 3, rfl, by decide, jmem 1114 (by decide +kernel) rfl, uw_9, jt_9, rfl, rfl, by decide +kernel⟩
theorem fg_Odds_19 : jF "ChanceStepsModel$Odds" 19 9 2 := ⟨RX9, TX9, 3, rfl, by decide, jmem 1116 (by decide +kernel) rfl, uw_9⟩
theorem fg_Odds_15 : jF "ChanceStepsModel$Odds" 15 9 1 := ⟨RX9, TX9, 3, rfl, by decide, jmem 1114 (by decide +kernel) rfl, uw_9⟩
theorem fp_Odds_19 : jFp "ChanceStepsModel$Odds" 19 9 2 .int := ⟨RX9, TX9, 3, rfl, by decide, jmem 1116 (by decide +kernel) rfl, uw_9, jt_9, rfl, by decide +kernel⟩
theorem fg_Odds_9 : jF "ChanceStepsModel$Odds" 9 9 0 := ⟨RX9, TX9, 3, rfl, by decide, jmem 1112 (by decide +kernel) rfl, uw_9⟩
theorem nw_Law_7 : jNew "ChanceStepsLaw" 7 8 13 v0_8 := ⟨RX8, TX8, 13, tyX8, rfl, jmem 123 (by decide +kernel) rfl, jmem 124 (by decide +kernel) rfl, jmem 103 (by decide +kernel) rfl, uw_8, tyX8_ok, by decide +kernel⟩
theorem cl_Law_9 : jcI "ChanceStepsLaw" 9 y_CS_init b_CS_init 2 0 := ⟨jb_CS_init, jmem 126 (by decide +kernel) rfl, rfl, jmem 125 (by decide +kernel) rfl⟩
theorem nw_Law_10 : jNew "ChanceStepsLaw" 10 10 43 v0_10 := ⟨RX10, TX10, 43, tyX10, rfl, jmem 1092 (by decide +kernel) rfl, jmem 1093 (by decide +kernel) rfl, jmem 108 (by decide +kernel) rfl, uw_10, tyX10_ok, by decide +kernel⟩
theorem cl_Law_12 : jcI "ChanceStepsLaw" 12 y_Mo_init b_Mo_init 2 0 := ⟨jb_Mo_init, jmem 1095 (by decide +kernel) rfl, rfl, jmem 1094 (by decide +kernel) rfl⟩
theorem cl_Law_13 : jcV "ChanceStepsLaw" 13 y_CS_feed b_CS_feed 8 (some .int) 6 := ⟨jb_CS_feed, jmem 273 (by decide +kernel) rfl, jmem 274 (by decide +kernel) rfl, jmem 272 (by decide +kernel) rfl⟩
theorem cl_Law_17 : jcV "ChanceStepsLaw" 17 y_Mo_feed b_Mo_feed 8 (some .int) 6 := ⟨jb_Mo_feed, jmem 1257 (by decide +kernel) rfl, jmem 1258 (by decide +kernel) rfl, jmem 1256 (by decide +kernel) rfl⟩
theorem cl_Law_18 : jcV "ChanceStepsLaw" 18 y_CS_program b_CS_program 3 (some .int) 0 := ⟨jb_CS_program, jmem 284 (by decide +kernel) rfl, jmem 285 (by decide +kernel) rfl, jmem 283 (by decide +kernel) rfl⟩
theorem cl_Law_22 : jcV "ChanceStepsLaw" 22 y_Mo_program b_Mo_program 2 (some .int) 0 := ⟨jb_Mo_program, jmem 1267 (by decide +kernel) rfl, jmem 1268 (by decide +kernel) rfl, jmem 1266 (by decide +kernel) rfl⟩
theorem cl_Law_23 : jcV "ChanceStepsLaw" 23 y_CS_let b_CS_let 4 (some .int) 2 := ⟨jb_CS_let, jmem 663 (by decide +kernel) rfl, jmem 664 (by decide +kernel) rfl, jmem 662 (by decide +kernel) rfl⟩
theorem cl_Law_27 : jcV "ChanceStepsLaw" 27 y_Mo_let_0 b_Mo_let_0 4 (some .int) 2 := ⟨jb_Mo_let_0, jmem 1424 (by decide +kernel) rfl, jmem 1425 (by decide +kernel) rfl, jmem 1423 (by decide +kernel) rfl⟩
theorem cl_Law_28 : jcV "ChanceStepsLaw" 28 y_CS_told b_CS_told 5 (some .int) 2 := ⟨jb_CS_told, jmem 682 (by decide +kernel) rfl, jmem 683 (by decide +kernel) rfl, jmem 681 (by decide +kernel) rfl⟩
theorem cl_Law_31 : jcV "ChanceStepsLaw" 31 y_Mo_told b_Mo_told 5 (some .int) 2 := ⟨jb_Mo_told, jmem 1548 (by decide +kernel) rfl, jmem 1549 (by decide +kernel) rfl, jmem 1547 (by decide +kernel) rfl⟩
theorem cl_Law_32 : jcV "ChanceStepsLaw" 32 y_CS_step b_CS_step 5 (some .int) 3 := ⟨jb_CS_step, jmem 887 (by decide +kernel) rfl, jmem 888 (by decide +kernel) rfl, jmem 886 (by decide +kernel) rfl⟩
theorem cl_Law_36 : jcV "ChanceStepsLaw" 36 y_Mo_step_1 b_Mo_step_1 4 (some .int) 3 := ⟨jb_Mo_step_1, jmem 1552 (by decide +kernel) rfl, jmem 1553 (by decide +kernel) rfl, jmem 1551 (by decide +kernel) rfl⟩
theorem cl_Law_37 : jcV "ChanceStepsLaw" 37 y_CS_taken b_CS_taken 5 (some .int) 3 := ⟨jb_CS_taken, jmem 892 (by decide +kernel) rfl, jmem 893 (by decide +kernel) rfl, jmem 891 (by decide +kernel) rfl⟩
theorem cl_Law_40 : jcV "ChanceStepsLaw" 40 y_Mo_taken_1 b_Mo_taken_1 6 (some .int) 3 := ⟨jb_Mo_taken_1, jmem 1556 (by decide +kernel) rfl, jmem 1557 (by decide +kernel) rfl, jmem 1555 (by decide +kernel) rfl⟩
theorem cl_Law_41 : jcV "ChanceStepsLaw" 41 y_CS_left b_CS_left 4 (some .long) 2 := ⟨jb_CS_left, jmem 899 (by decide +kernel) rfl, jmem 900 (by decide +kernel) rfl, jmem 898 (by decide +kernel) rfl⟩
theorem cl_Law_45 : jcV "ChanceStepsLaw" 45 y_Mo_left b_Mo_left 4 (some .long) 2 := ⟨jb_Mo_left, jmem 1560 (by decide +kernel) rfl, jmem 1561 (by decide +kernel) rfl, jmem 1559 (by decide +kernel) rfl⟩
theorem cl_Law_46 : jcV "ChanceStepsLaw" 46 y_CS_odds b_CS_odds 6 (some .long) 4 := ⟨jb_CS_odds, jmem 918 (by decide +kernel) rfl, jmem 919 (by decide +kernel) rfl, jmem 917 (by decide +kernel) rfl⟩
theorem cl_Law_50 : jcV "ChanceStepsLaw" 50 y_Mo_odds_1 b_Mo_odds_1 6 (some .long) 4 := ⟨jb_Mo_odds_1, jmem 1572 (by decide +kernel) rfl, jmem 1573 (by decide +kernel) rfl, jmem 1571 (by decide +kernel) rfl⟩
theorem cl_Law_51 : jcV "ChanceStepsLaw" 51 y_CS_state b_CS_state 5 (some .long) 3 := ⟨jb_CS_state, jmem 923 (by decide +kernel) rfl, jmem 924 (by decide +kernel) rfl, jmem 922 (by decide +kernel) rfl⟩
theorem cl_Law_55 : jcV "ChanceStepsLaw" 55 y_Mo_state b_Mo_state 8 (some .long) 3 := ⟨jb_Mo_state, jmem 1583 (by decide +kernel) rfl, jmem 1584 (by decide +kernel) rfl, jmem 1582 (by decide +kernel) rfl⟩
theorem cl_Law_56 : jcV "ChanceStepsLaw" 56 y_CS_fold b_CS_fold 9 (some .long) 4 := ⟨jb_CS_fold, jmem 935 (by decide +kernel) rfl, jmem 936 (by decide +kernel) rfl, jmem 934 (by decide +kernel) rfl⟩
theorem cl_Law_59 : jcV "ChanceStepsLaw" 59 y_Mo_fold_1 b_Mo_fold_1 9 (some .long) 4 := ⟨jb_Mo_fold_1, jmem 1588 (by decide +kernel) rfl, jmem 1589 (by decide +kernel) rfl, jmem 1587 (by decide +kernel) rfl⟩
theorem cl_Law_60 : jcV "ChanceStepsLaw" 60 y_CS_likeliest b_CS_likeliest 6 (some .int) 2 := ⟨jb_CS_likeliest, jmem 942 (by decide +kernel) rfl, jmem 943 (by decide +kernel) rfl, jmem 941 (by decide +kernel) rfl⟩
theorem cl_Law_63 : jcV "ChanceStepsLaw" 63 y_Mo_likeliest b_Mo_likeliest 12 (some .int) 2 := ⟨jb_Mo_likeliest, jmem 1595 (by decide +kernel) rfl, jmem 1596 (by decide +kernel) rfl, jmem 1594 (by decide +kernel) rfl⟩
theorem cl_Law_64 : jcV "ChanceStepsLaw" 64 y_CS_apart b_CS_apart 11 (some .int) 3 := ⟨jb_CS_apart, jmem 953 (by decide +kernel) rfl, jmem 954 (by decide +kernel) rfl, jmem 952 (by decide +kernel) rfl⟩
theorem cl_Law_67 : jcV "ChanceStepsLaw" 67 y_Mo_apart b_Mo_apart 12 (some .int) 3 := ⟨jb_Mo_apart, jmem 1599 (by decide +kernel) rfl, jmem 1600 (by decide +kernel) rfl, jmem 1598 (by decide +kernel) rfl⟩
theorem cl_Law_68 : jcV "ChanceStepsLaw" 68 y_CS_needed b_CS_needed 4 (some .int) 2 := ⟨jb_CS_needed, jmem 964 (by decide +kernel) rfl, jmem 965 (by decide +kernel) rfl, jmem 963 (by decide +kernel) rfl⟩
theorem cl_Law_71 : jcV "ChanceStepsLaw" 71 y_Mo_needed b_Mo_needed 3 (some .int) 2 := ⟨jb_Mo_needed, jmem 1431 (by decide +kernel) rfl, jmem 1432 (by decide +kernel) rfl, jmem 1430 (by decide +kernel) rfl⟩
theorem cl_Law_72 : jcV "ChanceStepsLaw" 72 y_CS_peak b_CS_peak 3 (some .int) 2 := ⟨jb_CS_peak, jmem 972 (by decide +kernel) rfl, jmem 973 (by decide +kernel) rfl, jmem 971 (by decide +kernel) rfl⟩
theorem cl_Law_75 : jcV "ChanceStepsLaw" 75 y_Mo_peak b_Mo_peak 4 (some .int) 2 := ⟨jb_Mo_peak, jmem 1455 (by decide +kernel) rfl, jmem 1456 (by decide +kernel) rfl, jmem 1454 (by decide +kernel) rfl⟩
theorem cl_Law_76 : jcV "ChanceStepsLaw" 76 y_CS_alike b_CS_alike 7 (some .int) 2 := ⟨jb_CS_alike, jmem 981 (by decide +kernel) rfl, jmem 982 (by decide +kernel) rfl, jmem 980 (by decide +kernel) rfl⟩
theorem cl_Law_79 : jcV "ChanceStepsLaw" 79 y_Mo_alike b_Mo_alike 8 (some .int) 2 := ⟨jb_Mo_alike, jmem 1609 (by decide +kernel) rfl, jmem 1610 (by decide +kernel) rfl, jmem 1608 (by decide +kernel) rfl⟩
theorem cl_Law_80 : jcV "ChanceStepsLaw" 80 y_CS_comes b_CS_comes 4 (some .int) 2 := ⟨jb_CS_comes, jmem 985 (by decide +kernel) rfl, jmem 986 (by decide +kernel) rfl, jmem 984 (by decide +kernel) rfl⟩
theorem cl_Law_83 : jcV "ChanceStepsLaw" 83 y_Mo_comes b_Mo_comes 3 (some .int) 2 := ⟨jb_Mo_comes, jmem 1613 (by decide +kernel) rfl, jmem 1614 (by decide +kernel) rfl, jmem 1612 (by decide +kernel) rfl⟩
theorem cl_Law_84 : jcV "ChanceStepsLaw" 84 y_CS_often b_CS_often 11 (some .int) 6 := ⟨jb_CS_often, jmem 1015 (by decide +kernel) rfl, jmem 1016 (by decide +kernel) rfl, jmem 1014 (by decide +kernel) rfl⟩
theorem cl_Law_87 : jcV "ChanceStepsLaw" 87 y_Mo_often b_Mo_often 11 (some .int) 6 := ⟨jb_Mo_often, jmem 1630 (by decide +kernel) rfl, jmem 1631 (by decide +kernel) rfl, jmem 1629 (by decide +kernel) rfl⟩
theorem cl_Law_88 : jcV "ChanceStepsLaw" 88 y_CS_tells b_CS_tells 7 (some .int) 4 := ⟨jb_CS_tells, jmem 1019 (by decide +kernel) rfl, jmem 1020 (by decide +kernel) rfl, jmem 1018 (by decide +kernel) rfl⟩
theorem cl_Law_92 : jcV "ChanceStepsLaw" 92 y_Mo_tells b_Mo_tells 10 (some .int) 4 := ⟨jb_Mo_tells, jmem 1634 (by decide +kernel) rfl, jmem 1635 (by decide +kernel) rfl, jmem 1633 (by decide +kernel) rfl⟩
theorem cl_Law_93 : jcV "ChanceStepsLaw" 93 y_CS_film b_CS_film 7 (some .int) 3 := ⟨jb_CS_film, jmem 1050 (by decide +kernel) rfl, jmem 1051 (by decide +kernel) rfl, jmem 1049 (by decide +kernel) rfl⟩
theorem cl_Law_96 : jcV "ChanceStepsLaw" 96 y_Mo_film b_Mo_film 7 (some .int) 3 := ⟨jb_Mo_film, jmem 1653 (by decide +kernel) rfl, jmem 1654 (by decide +kernel) rfl, jmem 1652 (by decide +kernel) rfl⟩
theorem cl_Law_97 : jcV "ChanceStepsLaw" 97 y_CS_image b_CS_image 1 (some .int) 0 := ⟨jb_CS_image, jmem 1062 (by decide +kernel) rfl, jmem 1063 (by decide +kernel) rfl, jmem 1061 (by decide +kernel) rfl⟩
theorem cl_Law_100 : jcV "ChanceStepsLaw" 100 y_Mo_image b_Mo_image 1 (some .int) 0 := ⟨jb_Mo_image, jmem 1657 (by decide +kernel) rfl, jmem 1658 (by decide +kernel) rfl, jmem 1656 (by decide +kernel) rfl⟩
theorem cl_Law_101 : jcV "ChanceStepsLaw" 101 y_CS_back b_CS_back 1 (some .int) 0 := ⟨jb_CS_back, jmem 1066 (by decide +kernel) rfl, jmem 1067 (by decide +kernel) rfl, jmem 1065 (by decide +kernel) rfl⟩
theorem cl_Law_104 : jcV "ChanceStepsLaw" 104 y_Mo_back b_Mo_back 1 (some .int) 0 := ⟨jb_Mo_back, jmem 1662 (by decide +kernel) rfl, jmem 1663 (by decide +kernel) rfl, jmem 1661 (by decide +kernel) rfl⟩
theorem cl_Law_105 : jcV "ChanceStepsLaw" 105 y_CS_count b_CS_count 2 (some .int) 1 := ⟨jb_CS_count, jmem 1070 (by decide +kernel) rfl, jmem 1071 (by decide +kernel) rfl, jmem 1069 (by decide +kernel) rfl⟩
theorem cl_Law_109 : jcV "ChanceStepsLaw" 109 y_Mo_count b_Mo_count 2 (some .int) 1 := ⟨jb_Mo_count, jmem 1666 (by decide +kernel) rfl, jmem 1667 (by decide +kernel) rfl, jmem 1665 (by decide +kernel) rfl⟩
theorem cl_Law_110 : jcV "ChanceStepsLaw" 110 y_CS_sheet b_CS_sheet 4 (some .int) 3 := ⟨jb_CS_sheet, jmem 1074 (by decide +kernel) rfl, jmem 1075 (by decide +kernel) rfl, jmem 1073 (by decide +kernel) rfl⟩
theorem cl_Law_113 : jcV "ChanceStepsLaw" 113 y_Mo_sheet b_Mo_sheet 5 (some .int) 3 := ⟨jb_Mo_sheet, jmem 1670 (by decide +kernel) rfl, jmem 1671 (by decide +kernel) rfl, jmem 1669 (by decide +kernel) rfl⟩
theorem cl_Law_114 : jcV "ChanceStepsLaw" 114 y_CS_cell b_CS_cell 5 (some .int) 3 := ⟨jb_CS_cell, jmem 1078 (by decide +kernel) rfl, jmem 1079 (by decide +kernel) rfl, jmem 1077 (by decide +kernel) rfl⟩
theorem cl_Law_117 : jcV "ChanceStepsLaw" 117 y_Mo_cell b_Mo_cell 4 (some .int) 3 := ⟨jb_Mo_cell, jmem 1674 (by decide +kernel) rfl, jmem 1675 (by decide +kernel) rfl, jmem 1673 (by decide +kernel) rfl⟩
theorem cl_Law_118 : jcV "ChanceStepsLaw" 118 y_CS_copy b_CS_copy 8 (some .int) 5 := ⟨jb_CS_copy, jmem 1082 (by decide +kernel) rfl, jmem 1083 (by decide +kernel) rfl, jmem 1081 (by decide +kernel) rfl⟩
theorem cl_Law_122 : jcV "ChanceStepsLaw" 122 y_Mo_copy b_Mo_copy 6 (some .int) 5 := ⟨jb_Mo_copy, jmem 1678 (by decide +kernel) rfl, jmem 1679 (by decide +kernel) rfl, jmem 1677 (by decide +kernel) rfl⟩
theorem ac_int : Cond.arrayClass (newarray.typeOf .int) ∈ jwd := jmem 169 (by decide +kernel) rfl
theorem ac_long : Cond.arrayClass (newarray.typeOf .long) ∈ jwd := jmem 198 (by decide +kernel) rfl
theorem ac_boolean : Cond.arrayClass (newarray.typeOf .boolean) ∈ jwd := jmem 1125 (by decide +kernel) rfl
end
section
/-! THE J LAYER: small rows for the walks (own work) -/
theorem jnv {g : jG} {w : jW} {pc : Nat} {L : List (Nat × Value)} {st : List Value} (h : ∀ x : jW, x = w → JJ g x pc L st) : JJ g w pc L st := h w rfl
/-- what a write leaves -/
theorem jus {w w1 : jW} {a : Nat} {e : jEl} {p : Nat × Nat} (h : w1 = (va_up w.1 a (some e), p)) : w1.1 a = some e := by rw [h]; exact va_up_self _ _ _
theorem jun {w w1 : jW} {a b : Nat} {e : jEl} {r : Option jEl} {p : Nat × Nat} (h : w1 = (va_up w.1 a (some e), p)) (hb : w.1 b = r) (hn : b ≠ a) : w1.1 b = r := by rw [h]; exact (va_up_ne _ _ hn).trans hb
theorem jk0 {w0 w w1 : jW} {a c s : Nat} {e : jEl} (h : w1 = (va_up w.1 a (some e), w.2)) (hc : w.2.1 = w0.2.1 + c ∧ w.2.2 = w0.2.2 + s) : w1.2.1 = w0.2.1 + c ∧ w1.2.2 = w0.2.2 + s := by rw [h]; exact hc
theorem jk1 {w0 w w1 : jW} {a c s n : Nat} {e : jEl} (h : w1 = (va_up w.1 a (some e), w.2.1 + 1, w.2.2 + n)) (hc : w.2.1 = w0.2.1 + c ∧ w.2.2 = w0.2.2 + s) : w1.2.1 = w0.2.1 + (c + 1) ∧ w1.2.2 = w0.2.2 + (s + n) := by
  rw [h]
  exact ⟨by show w.2.1 + 1 = _; omega, by show w.2.2 + n = _; omega⟩
theorem jkz (w : jW) : w.2.1 = w.2.1 + 0 ∧ w.2.2 = w.2.2 + 0 := ⟨rfl, rfl⟩
/-- cells of unlike contents are apart -/
theorem jne {w : jW} {a b : Nat} {e f : jEl} (ha : w.1 a = some e) (hb : w.1 b = some f) (h : e ≠ f) : a ≠ b := fun q => h (Option.some.inj (ha.symm.trans ((congrArg w.1 q).trans hb)))
theorem jneO {w : jW} {a b i j : Nat} {e f : Nat → Value} (ha : w.1 a = some (.inr (i, e))) (hb : w.1 b = some (.inr (j, f))) (h : i ≠ j) : a ≠ b := jne ha hb (fun q => h (congrArg Prod.fst (Sum.inr.inj q)))
theorem jneOA {w : jW} {a b i : Nat} {e : Nat → Value} {x : ClassId × vp_A} (ha : w.1 a = some (.inr (i, e))) (hb : w.1 b = some (.inl x)) : a ≠ b := jne ha hb (fun q => by cases q)
theorem jneAO {w : jW} {a b i : Nat} {e : Nat → Value} {x : ClassId × vp_A} (ha : w.1 a = some (.inl x)) (hb : w.1 b = some (.inr (i, e))) : a ≠ b := jne ha hb (fun q => by cases q)
theorem jneN {w : jW} {a b n m : Nat} {c d : ClassId} {x y : (Nat → Int32) ⊕ (Nat → Int64) ⊕ (Nat → UInt32) ⊕ (Nat → UInt64) ⊕ (Nat → Option Nat)} (ha : w.1 a = some (.inl (c, n, x))) (hb : w.1 b = some (.inl (d, m, y))) (h : Nat.beq n m = false) : a ≠ b := jne ha hb (fun q => by
  have e : n = m := congrArg (fun z : ClassId × vp_A => z.2.1) (Sum.inl.inj q)
  rw [e, Nat.beq_refl] at h
  cases h)
theorem jneIJ {w : jW} {a b n m : Nat} {c d : ClassId} {x : Nat → Int32} {y : (Nat → Int64) ⊕ (Nat → UInt32) ⊕ (Nat → UInt64) ⊕ (Nat → Option Nat)} (ha : w.1 a = some (.inl (c, n, .inl x))) (hb : w.1 b = some (.inl (d, m, .inr y))) : a ≠ b := jne ha hb (fun q => by
  have h := congrArg (fun z : ClassId × vp_A => z.2.2) (Sum.inl.inj q)
  cases h)
/-- booleans -/
theorem jbz {p : Prop} [Decidable p] : (if p then (1 : Int32) else 0) = 0 ↔ ¬ p := by
  by_cases h : p
  · simp [h]
  · simp [h]
theorem jbo {p : Prop} [Decidable p] : ¬ (if p then (1 : Int32) else 0) = 0 ↔ p := by
  by_cases h : p
  · simp [h]
  · simp [h]
theorem jif {p : Prop} [Decidable p] (h : p) : (1 : Int32) = if p then 1 else 0 := by rw [if_pos h]
theorem jelse {p : Prop} [Decidable p] (h : ¬ p) : (0 : Int32) = if p then 1 else 0 := by rw [if_neg h]
theorem jbn (p : Prop) [Decidable p] : narrow .boolean (.int (if p then 1 else 0)) = .int (if p then 1 else 0) := by
  by_cases h : p
  · simp only [h, if_true]; rfl
  · simp only [h, if_false]; rfl
/-- ints by their numbers -/
theorem jlt {x y : Int32} : x < y ↔ x.toInt < y.toInt := Int32.lt_iff_toInt_lt
theorem jle {x y : Int32} : x ≤ y ↔ x.toInt ≤ y.toInt := Int32.le_iff_toInt_le
theorem jeq {x y : Int32} : x = y ↔ x.toInt = y.toInt := ⟨fun h => by rw [h], fun h => Int32.toInt_inj.mp h⟩
theorem jlo (x : Int32) : -2147483648 ≤ x.toInt := Int32.le_toInt x
theorem jhi (x : Int32) : x.toInt < 2147483648 := Int32.toInt_lt x
theorem jin {x : Int32} {n : Nat} (h0 : 0 ≤ x.toInt) (h1 : x.toInt < n) : vp_in x n := vp_in_iff.mpr ⟨h0, h1⟩
theorem jbf (p : Prop) [Decidable p] : fits .boolean (.int (if p then 1 else 0)) = true := by
  by_cases h : p
  · simp only [h, if_true]; rfl
  · simp only [h, if_false]; rfl
/-- what a method keeps: cells with P are as they were, no cell is lost -/
def jfr (P : Nat → Prop) (w0 w : jW) : Prop := ∀ b e, w0.1 b = some e → (P b → w.1 b = some e) ∧ ∃ e', w.1 b = some e'
theorem jfr0 {P : Nat → Prop} {w : jW} : jfr P w w := fun _ e h => ⟨fun _ => h, e, h⟩
theorem jfrW {P : Nat → Prop} {w0 w w1 : jW} {a : Nat} {e0 : jEl} {p : Nat × Nat} (eq : w1 = (va_up w.1 a (some e0), p)) (F : jfr P w0 w) (hp : ∀ b e, P b → w0.1 b = some e → b ≠ a) : jfr P w0 w1 := fun b e he => by
  rw [eq]
  refine ⟨fun hb => (va_up_ne _ _ (hp b e hb he)).trans ((F b e he).1 hb), ?_⟩
  by_cases h : b = a
  · exact ⟨e0, by rw [h]; exact va_up_self _ _ _⟩
  · obtain ⟨e', h'⟩ := (F b e he).2
    exact ⟨e', (va_up_ne _ _ h).trans h'⟩
theorem jfrN {P : Nat → Prop} {w0 w w1 : jW} {q : Nat} {e0 : jEl} {p : Nat × Nat} (eq : w1 = (va_up w.1 q (some e0), p)) (F : jfr P w0 w) (hf : ∀ a e, w.1 a = some e → a < q) : jfr P w0 w1 := jfrW eq F (fun b e hb he => Nat.ne_of_lt (hf b e ((F b e he).1 hb)))
theorem jfrL {P : Nat → Prop} {w0 w : jW} {q : Nat} (F : jfr P w0 w) (hf : ∀ a e, w.1 a = some e → a < q) : ∀ b e, w0.1 b = some e → b < q := fun b e he => by
  obtain ⟨e', h'⟩ := (F b e he).2
  exact hf b e' h'
theorem jfrT {P P2 : Nat → Prop} {w0 w w1 : jW} (F : jfr P w0 w) (G : jfr P2 w w1) (h : ∀ b e, P b → w0.1 b = some e → P2 b) : jfr P w0 w1 := fun b e he => by
  refine ⟨fun hb => (G b e ((F b e he).1 hb)).1 (h b e hb he), ?_⟩
  obtain ⟨e', h'⟩ := (F b e he).2
  exact (G b e' h').2
theorem jkT {w0 w w1 : jW} {c s c2 s2 : Nat} (h : w.2.1 = w0.2.1 + c ∧ w.2.2 = w0.2.2 + s) (h2 : w1.2.1 = w.2.1 + c2 ∧ w1.2.2 = w.2.2 + s2) : w1.2.1 = w0.2.1 + (c + c2) ∧ w1.2.2 = w0.2.2 + (s + s2) := ⟨by omega, by omega⟩
theorem jkM {w0 w w1 : jW} {M : jM} {c s c2 s2 : Nat} (eq : w1 = (M, w.2.1 + c2, w.2.2 + s2)) (h : w.2.1 = w0.2.1 + c ∧ w.2.2 = w0.2.2 + s) : w1.2.1 = w0.2.1 + (c + c2) ∧ w1.2.2 = w0.2.2 + (s + s2) := by
  rw [eq]
  exact ⟨by show w.2.1 + c2 = _; omega, by show w.2.2 + s2 = _; omega⟩
theorem JJ.bnd {g : jG} {w : jW} {pc : Nat} {L : List (Nat × Value)} {st : List Value} (h : (∀ a e, w.1 a = some e → a < jGB g + w.2.1) → JJ g w pc L st) : JJ g w pc L st := fun H locs ls h1 h2 h3 h4 h5 => h (fun a e ha => by have := (h1.at ha).lt; rw [← h1.1]; exact this) H locs ls h1 h2 h3 h4 h5
theorem jroom {a b c k K : Nat} (h : a = b + c) (hle : Nat.ble (c + k) K = true) : a + k ≤ b + K := by have := Nat.le_of_ble_eq_true hle; omega
theorem jbnd {a b c K : Nat} (h : a = b + c) (hle : Nat.ble c K = true) : a ≤ b + K := by have := Nat.le_of_ble_eq_true hle; omega
end
section
/-! leaf methods (own work, by program) -/
theorem kt_0 : Int32.toInt 0 = 0 := by decide
theorem kt_1 : Int32.toInt 1 = 1 := by decide
theorem kt_2 : Int32.toInt 2 = 2 := by decide
theorem kt_3 : Int32.toInt 3 = 3 := by decide
theorem kt_4 : Int32.toInt 4 = 4 := by decide
theorem kt_5 : Int32.toInt 5 = 5 := by decide
theorem kt_6 : Int32.toInt 6 = 6 := by decide
theorem kt_7 : Int32.toInt 7 = 7 := by decide
theorem kt_8 : Int32.toInt 8 = 8 := by decide
theorem kt_9 : Int32.toInt 9 = 9 := by decide
theorem kt_10 : Int32.toInt 10 = 10 := by decide
theorem kt_11 : Int32.toInt 11 = 11 := by decide
theorem kt_12 : Int32.toInt 12 = 12 := by decide
theorem kt_13 : Int32.toInt 13 = 13 := by decide
theorem kt_15 : Int32.toInt 15 = 15 := by decide
theorem kt_16 : Int32.toInt 16 = 16 := by decide
theorem kt_19 : Int32.toInt 19 = 19 := by decide
theorem kt_20 : Int32.toInt 20 = 20 := by decide
theorem kt_24 : Int32.toInt 24 = 24 := by decide
theorem kt_25 : Int32.toInt 25 = 25 := by decide
theorem kt_31 : Int32.toInt 31 = 31 := by decide
theorem kt_32 : Int32.toInt 32 = 32 := by decide
theorem kt_40 : Int32.toInt 40 = 40 := by decide
theorem kt_50 : Int32.toInt 50 = 50 := by decide
theorem kt_60 : Int32.toInt 60 = 60 := by decide
theorem kt_63 : Int32.toInt 63 = 63 := by decide
theorem kt_100 : Int32.toInt 100 = 100 := by decide
theorem kt_120 : Int32.toInt 120 = 120 := by decide
theorem kt_255 : Int32.toInt 255 = 255 := by decide
theorem kt_300 : Int32.toInt 300 = 300 := by decide
theorem kt_999999 : Int32.toInt 999999 = 999999 := by decide
theorem kt_1000000 : Int32.toInt 1000000 = 1000000 := by decide
theorem kt_m1 : Int32.toInt (-1) = -1 := by decide
theorem kt_m2 : Int32.toInt (-2) = -2 := by decide
theorem kt_m3 : Int32.toInt (-3) = -3 := by decide
theorem kt_m4 : Int32.toInt (-4) = -4 := by decide
theorem kt_m6 : Int32.toInt (-6) = -6 := by decide
theorem kt_m7 : Int32.toInt (-7) = -7 := by decide
theorem kt_m11 : Int32.toInt (-11) = -11 := by decide
theorem kt_m12 : Int32.toInt (-12) = -12 := by decide
theorem kt_m13 : Int32.toInt (-13) = -13 := by decide
theorem kt_m14 : Int32.toInt (-14) = -14 := by decide
theorem kt_m100 : Int32.toInt (-100) = -100 := by decide

theorem k_c_CS_isByte_0_1 : sblk b_CS_isByte [(0, .iload_n 0, .null)] := sblk_of (by decide +kernel)
theorem d_c_CS_isByte_1 : decode b_CS_isByte 1 = .ok (.ifCond .lt 14, 3) := by decide +kernel
theorem k_c_CS_isByte_15_1 : sblk b_CS_isByte [(15, .iconst 0, .int 0)] := sblk_of (by decide +kernel)
theorem d_c_CS_isByte_16 : decode b_CS_isByte 16 = .ok (.ireturn, 1) := by decide +kernel
theorem k_c_CS_isByte_4_2 : sblk b_CS_isByte [(4, .iload_n 0, .null), (5, .sipush 255, .int 255)] := sblk_of (by decide +kernel)
theorem d_c_CS_isByte_8 : decode b_CS_isByte 8 = .ok (.if_icmp .gt 7, 3) := by decide +kernel
theorem k_c_CS_isByte_11_2 : sblk b_CS_isByte [(11, .iconst 1, .int 1), (12, .goto 4, .retAddr 16)] := sblk_of (by decide +kernel)
set_option maxHeartbeats 4000000 in
set_option maxRecDepth 100000 in
theorem c_CS_isByte (l : Launch) (D : va_G) (B : Nat) (H0 : Heap) (w : jW) (x : Int32) : jMet l D B H0 y_CS_isByte b_CS_isByte 1 (some .boolean) 0 0 0 0 [.int x] w (fun v w9 => v = some (.int (if 0 ≤ x.toInt ∧ x.toInt ≤ 255 then 1 else 0)) ∧ w = w9) := by
  refine j_met (by decide) (Nat.le_of_ble_eq_true rfl) (fun g C Rm Y E => ?_)
  have hk := jkz w
  show JJ g w 0 [(0, .int x)] []
  refine j_blk 1 [(0, .int x)] [.int x] C k_c_CS_isByte_0_1 rfl ?_
  refine j_if_lt (tgt := 15) C d_c_CS_isByte_1 (by decide) (fun c1 => ?_) (fun c1 => ?_)
  · refine j_blk 16 [(0, .int x)] [.int 0] C k_c_CS_isByte_15_1 rfl ?_
    exact j_zret C Rm E rfl d_c_CS_isByte_16 ⟨congrArg (fun z => some (Value.int z)) (jelse (by (try simp only [jlt, jle, jeq, kt_0, kt_1, kt_2, kt_3, kt_4, kt_5, kt_6, kt_7, kt_8, kt_9, kt_10, kt_11, kt_12, kt_13, kt_15, kt_16, kt_19, kt_20, kt_24, kt_25, kt_31, kt_32, kt_40, kt_50, kt_60, kt_63, kt_100, kt_120, kt_255, kt_300, kt_999999, kt_1000000, kt_m1, kt_m2, kt_m3, kt_m4, kt_m6, kt_m7, kt_m11, kt_m12, kt_m13, kt_m14, kt_m100] at c1); omega)), rfl⟩ (jbnd hk.1 rfl) (jbnd hk.2 rfl)
  · refine j_blk 8 [(0, .int x)] [.int 255, .int x] C k_c_CS_isByte_4_2 rfl ?_
    refine j_icmp_gt (tgt := 15) C d_c_CS_isByte_8 (by decide) (fun c2 => ?_) (fun c2 => ?_)
    · refine j_blk 16 [(0, .int x)] [.int 0] C k_c_CS_isByte_15_1 rfl ?_
      exact j_zret C Rm E rfl d_c_CS_isByte_16 ⟨congrArg (fun z => some (Value.int z)) (jelse (by (try simp only [jlt, jle, jeq, kt_0, kt_1, kt_2, kt_3, kt_4, kt_5, kt_6, kt_7, kt_8, kt_9, kt_10, kt_11, kt_12, kt_13, kt_15, kt_16, kt_19, kt_20, kt_24, kt_25, kt_31, kt_32, kt_40, kt_50, kt_60, kt_63, kt_100, kt_120, kt_255, kt_300, kt_999999, kt_1000000, kt_m1, kt_m2, kt_m3, kt_m4, kt_m6, kt_m7, kt_m11, kt_m12, kt_m13, kt_m14, kt_m100] at c1 c2); omega)), rfl⟩ (jbnd hk.1 rfl) (jbnd hk.2 rfl)
    · refine j_blk 16 [(0, .int x)] [.int 1] C k_c_CS_isByte_11_2 rfl ?_
      exact j_zret C Rm E rfl d_c_CS_isByte_16 ⟨congrArg (fun z => some (Value.int z)) (jif (by (try simp only [jlt, jle, jeq, kt_0, kt_1, kt_2, kt_3, kt_4, kt_5, kt_6, kt_7, kt_8, kt_9, kt_10, kt_11, kt_12, kt_13, kt_15, kt_16, kt_19, kt_20, kt_24, kt_25, kt_31, kt_32, kt_40, kt_50, kt_60, kt_63, kt_100, kt_120, kt_255, kt_300, kt_999999, kt_1000000, kt_m1, kt_m2, kt_m3, kt_m4, kt_m6, kt_m7, kt_m11, kt_m12, kt_m13, kt_m14, kt_m100] at c1 c2); omega)), rfl⟩ (jbnd hk.1 rfl) (jbnd hk.2 rfl)

theorem k_c_CS_isName_0_1 : sblk b_CS_isName [(0, .iload_n 0, .null)] := sblk_of (by decide +kernel)
theorem d_c_CS_isName_1 : decode b_CS_isName 1 = .ok (.ifCond .lt 13, 3) := by decide +kernel
theorem k_c_CS_isName_14_1 : sblk b_CS_isName [(14, .iconst 0, .int 0)] := sblk_of (by decide +kernel)
theorem d_c_CS_isName_15 : decode b_CS_isName 15 = .ok (.ireturn, 1) := by decide +kernel
theorem k_c_CS_isName_4_2 : sblk b_CS_isName [(4, .iload_n 0, .null), (5, .bipush 6, .int 6)] := sblk_of (by decide +kernel)
theorem d_c_CS_isName_7 : decode b_CS_isName 7 = .ok (.if_icmp .ge 7, 3) := by decide +kernel
theorem k_c_CS_isName_10_2 : sblk b_CS_isName [(10, .iconst 1, .int 1), (11, .goto 4, .retAddr 15)] := sblk_of (by decide +kernel)
set_option maxHeartbeats 4000000 in
set_option maxRecDepth 100000 in
theorem c_CS_isName (l : Launch) (D : va_G) (B : Nat) (H0 : Heap) (w : jW) (x : Int32) : jMet l D B H0 y_CS_isName b_CS_isName 1 (some .boolean) 0 0 0 0 [.int x] w (fun v w9 => v = some (.int (if 0 ≤ x.toInt ∧ x.toInt < 6 then 1 else 0)) ∧ w = w9) := by
  refine j_met (by decide) (Nat.le_of_ble_eq_true rfl) (fun g C Rm Y E => ?_)
  have hk := jkz w
  show JJ g w 0 [(0, .int x)] []
  refine j_blk 1 [(0, .int x)] [.int x] C k_c_CS_isName_0_1 rfl ?_
  refine j_if_lt (tgt := 14) C d_c_CS_isName_1 (by decide) (fun c1 => ?_) (fun c1 => ?_)
  · refine j_blk 15 [(0, .int x)] [.int 0] C k_c_CS_isName_14_1 rfl ?_
    exact j_zret C Rm E rfl d_c_CS_isName_15 ⟨congrArg (fun z => some (Value.int z)) (jelse (by (try simp only [jlt, jle, jeq, kt_0, kt_1, kt_2, kt_3, kt_4, kt_5, kt_6, kt_7, kt_8, kt_9, kt_10, kt_11, kt_12, kt_13, kt_15, kt_16, kt_19, kt_20, kt_24, kt_25, kt_31, kt_32, kt_40, kt_50, kt_60, kt_63, kt_100, kt_120, kt_255, kt_300, kt_999999, kt_1000000, kt_m1, kt_m2, kt_m3, kt_m4, kt_m6, kt_m7, kt_m11, kt_m12, kt_m13, kt_m14, kt_m100] at c1); omega)), rfl⟩ (jbnd hk.1 rfl) (jbnd hk.2 rfl)
  · refine j_blk 7 [(0, .int x)] [.int 6, .int x] C k_c_CS_isName_4_2 rfl ?_
    refine j_icmp_ge (tgt := 14) C d_c_CS_isName_7 (by decide) (fun c2 => ?_) (fun c2 => ?_)
    · refine j_blk 15 [(0, .int x)] [.int 0] C k_c_CS_isName_14_1 rfl ?_
      exact j_zret C Rm E rfl d_c_CS_isName_15 ⟨congrArg (fun z => some (Value.int z)) (jelse (by (try simp only [jlt, jle, jeq, kt_0, kt_1, kt_2, kt_3, kt_4, kt_5, kt_6, kt_7, kt_8, kt_9, kt_10, kt_11, kt_12, kt_13, kt_15, kt_16, kt_19, kt_20, kt_24, kt_25, kt_31, kt_32, kt_40, kt_50, kt_60, kt_63, kt_100, kt_120, kt_255, kt_300, kt_999999, kt_1000000, kt_m1, kt_m2, kt_m3, kt_m4, kt_m6, kt_m7, kt_m11, kt_m12, kt_m13, kt_m14, kt_m100] at c1 c2); omega)), rfl⟩ (jbnd hk.1 rfl) (jbnd hk.2 rfl)
    · refine j_blk 15 [(0, .int x)] [.int 1] C k_c_CS_isName_10_2 rfl ?_
      exact j_zret C Rm E rfl d_c_CS_isName_15 ⟨congrArg (fun z => some (Value.int z)) (jif (by (try simp only [jlt, jle, jeq, kt_0, kt_1, kt_2, kt_3, kt_4, kt_5, kt_6, kt_7, kt_8, kt_9, kt_10, kt_11, kt_12, kt_13, kt_15, kt_16, kt_19, kt_20, kt_24, kt_25, kt_31, kt_32, kt_40, kt_50, kt_60, kt_63, kt_100, kt_120, kt_255, kt_300, kt_999999, kt_1000000, kt_m1, kt_m2, kt_m3, kt_m4, kt_m6, kt_m7, kt_m11, kt_m12, kt_m13, kt_m14, kt_m100] at c1 c2); omega)), rfl⟩ (jbnd hk.1 rfl) (jbnd hk.2 rfl)

theorem k_c_CS_areNames_0_1 : sblk b_CS_areNames [(0, .iload_n 0, .null)] := sblk_of (by decide +kernel)
theorem d_c_CS_areNames_1 : decode b_CS_areNames 1 = .ok (.ifCond .lt 13, 3) := by decide +kernel
theorem k_c_CS_areNames_14_1 : sblk b_CS_areNames [(14, .iconst 0, .int 0)] := sblk_of (by decide +kernel)
theorem d_c_CS_areNames_15 : decode b_CS_areNames 15 = .ok (.ireturn, 1) := by decide +kernel
theorem k_c_CS_areNames_4_2 : sblk b_CS_areNames [(4, .iload_n 0, .null), (5, .bipush 63, .int 63)] := sblk_of (by decide +kernel)
theorem d_c_CS_areNames_7 : decode b_CS_areNames 7 = .ok (.if_icmp .gt 7, 3) := by decide +kernel
theorem k_c_CS_areNames_10_2 : sblk b_CS_areNames [(10, .iconst 1, .int 1), (11, .goto 4, .retAddr 15)] := sblk_of (by decide +kernel)
set_option maxHeartbeats 4000000 in
set_option maxRecDepth 100000 in
theorem c_CS_areNames (l : Launch) (D : va_G) (B : Nat) (H0 : Heap) (w : jW) (x : Int32) : jMet l D B H0 y_CS_areNames b_CS_areNames 1 (some .boolean) 0 0 0 0 [.int x] w (fun v w9 => v = some (.int (if 0 ≤ x.toInt ∧ x.toInt ≤ 63 then 1 else 0)) ∧ w = w9) := by
  refine j_met (by decide) (Nat.le_of_ble_eq_true rfl) (fun g C Rm Y E => ?_)
  have hk := jkz w
  show JJ g w 0 [(0, .int x)] []
  refine j_blk 1 [(0, .int x)] [.int x] C k_c_CS_areNames_0_1 rfl ?_
  refine j_if_lt (tgt := 14) C d_c_CS_areNames_1 (by decide) (fun c1 => ?_) (fun c1 => ?_)
  · refine j_blk 15 [(0, .int x)] [.int 0] C k_c_CS_areNames_14_1 rfl ?_
    exact j_zret C Rm E rfl d_c_CS_areNames_15 ⟨congrArg (fun z => some (Value.int z)) (jelse (by (try simp only [jlt, jle, jeq, kt_0, kt_1, kt_2, kt_3, kt_4, kt_5, kt_6, kt_7, kt_8, kt_9, kt_10, kt_11, kt_12, kt_13, kt_15, kt_16, kt_19, kt_20, kt_24, kt_25, kt_31, kt_32, kt_40, kt_50, kt_60, kt_63, kt_100, kt_120, kt_255, kt_300, kt_999999, kt_1000000, kt_m1, kt_m2, kt_m3, kt_m4, kt_m6, kt_m7, kt_m11, kt_m12, kt_m13, kt_m14, kt_m100] at c1); omega)), rfl⟩ (jbnd hk.1 rfl) (jbnd hk.2 rfl)
  · refine j_blk 7 [(0, .int x)] [.int 63, .int x] C k_c_CS_areNames_4_2 rfl ?_
    refine j_icmp_gt (tgt := 14) C d_c_CS_areNames_7 (by decide) (fun c2 => ?_) (fun c2 => ?_)
    · refine j_blk 15 [(0, .int x)] [.int 0] C k_c_CS_areNames_14_1 rfl ?_
      exact j_zret C Rm E rfl d_c_CS_areNames_15 ⟨congrArg (fun z => some (Value.int z)) (jelse (by (try simp only [jlt, jle, jeq, kt_0, kt_1, kt_2, kt_3, kt_4, kt_5, kt_6, kt_7, kt_8, kt_9, kt_10, kt_11, kt_12, kt_13, kt_15, kt_16, kt_19, kt_20, kt_24, kt_25, kt_31, kt_32, kt_40, kt_50, kt_60, kt_63, kt_100, kt_120, kt_255, kt_300, kt_999999, kt_1000000, kt_m1, kt_m2, kt_m3, kt_m4, kt_m6, kt_m7, kt_m11, kt_m12, kt_m13, kt_m14, kt_m100] at c1 c2); omega)), rfl⟩ (jbnd hk.1 rfl) (jbnd hk.2 rfl)
    · refine j_blk 15 [(0, .int x)] [.int 1] C k_c_CS_areNames_10_2 rfl ?_
      exact j_zret C Rm E rfl d_c_CS_areNames_15 ⟨congrArg (fun z => some (Value.int z)) (jif (by (try simp only [jlt, jle, jeq, kt_0, kt_1, kt_2, kt_3, kt_4, kt_5, kt_6, kt_7, kt_8, kt_9, kt_10, kt_11, kt_12, kt_13, kt_15, kt_16, kt_19, kt_20, kt_24, kt_25, kt_31, kt_32, kt_40, kt_50, kt_60, kt_63, kt_100, kt_120, kt_255, kt_300, kt_999999, kt_1000000, kt_m1, kt_m2, kt_m3, kt_m4, kt_m6, kt_m7, kt_m11, kt_m12, kt_m13, kt_m14, kt_m100] at c1 c2); omega)), rfl⟩ (jbnd hk.1 rfl) (jbnd hk.2 rfl)

theorem k_c_CS_isValue_0_1 : sblk b_CS_isValue [(0, .iload_n 0, .null)] := sblk_of (by decide +kernel)
theorem d_c_CS_isValue_1 : decode b_CS_isValue 1 = .ok (.ifCond .lt 13, 3) := by decide +kernel
theorem k_c_CS_isValue_14_1 : sblk b_CS_isValue [(14, .iconst 0, .int 0)] := sblk_of (by decide +kernel)
theorem d_c_CS_isValue_15 : decode b_CS_isValue 15 = .ok (.ireturn, 1) := by decide +kernel
theorem k_c_CS_isValue_4_2 : sblk b_CS_isValue [(4, .iload_n 0, .null), (5, .bipush 10, .int 10)] := sblk_of (by decide +kernel)
theorem d_c_CS_isValue_7 : decode b_CS_isValue 7 = .ok (.if_icmp .ge 7, 3) := by decide +kernel
theorem k_c_CS_isValue_10_2 : sblk b_CS_isValue [(10, .iconst 1, .int 1), (11, .goto 4, .retAddr 15)] := sblk_of (by decide +kernel)
set_option maxHeartbeats 4000000 in
set_option maxRecDepth 100000 in
theorem c_CS_isValue (l : Launch) (D : va_G) (B : Nat) (H0 : Heap) (w : jW) (x : Int32) : jMet l D B H0 y_CS_isValue b_CS_isValue 1 (some .boolean) 0 0 0 0 [.int x] w (fun v w9 => v = some (.int (if 0 ≤ x.toInt ∧ x.toInt < 10 then 1 else 0)) ∧ w = w9) := by
  refine j_met (by decide) (Nat.le_of_ble_eq_true rfl) (fun g C Rm Y E => ?_)
  have hk := jkz w
  show JJ g w 0 [(0, .int x)] []
  refine j_blk 1 [(0, .int x)] [.int x] C k_c_CS_isValue_0_1 rfl ?_
  refine j_if_lt (tgt := 14) C d_c_CS_isValue_1 (by decide) (fun c1 => ?_) (fun c1 => ?_)
  · refine j_blk 15 [(0, .int x)] [.int 0] C k_c_CS_isValue_14_1 rfl ?_
    exact j_zret C Rm E rfl d_c_CS_isValue_15 ⟨congrArg (fun z => some (Value.int z)) (jelse (by (try simp only [jlt, jle, jeq, kt_0, kt_1, kt_2, kt_3, kt_4, kt_5, kt_6, kt_7, kt_8, kt_9, kt_10, kt_11, kt_12, kt_13, kt_15, kt_16, kt_19, kt_20, kt_24, kt_25, kt_31, kt_32, kt_40, kt_50, kt_60, kt_63, kt_100, kt_120, kt_255, kt_300, kt_999999, kt_1000000, kt_m1, kt_m2, kt_m3, kt_m4, kt_m6, kt_m7, kt_m11, kt_m12, kt_m13, kt_m14, kt_m100] at c1); omega)), rfl⟩ (jbnd hk.1 rfl) (jbnd hk.2 rfl)
  · refine j_blk 7 [(0, .int x)] [.int 10, .int x] C k_c_CS_isValue_4_2 rfl ?_
    refine j_icmp_ge (tgt := 14) C d_c_CS_isValue_7 (by decide) (fun c2 => ?_) (fun c2 => ?_)
    · refine j_blk 15 [(0, .int x)] [.int 0] C k_c_CS_isValue_14_1 rfl ?_
      exact j_zret C Rm E rfl d_c_CS_isValue_15 ⟨congrArg (fun z => some (Value.int z)) (jelse (by (try simp only [jlt, jle, jeq, kt_0, kt_1, kt_2, kt_3, kt_4, kt_5, kt_6, kt_7, kt_8, kt_9, kt_10, kt_11, kt_12, kt_13, kt_15, kt_16, kt_19, kt_20, kt_24, kt_25, kt_31, kt_32, kt_40, kt_50, kt_60, kt_63, kt_100, kt_120, kt_255, kt_300, kt_999999, kt_1000000, kt_m1, kt_m2, kt_m3, kt_m4, kt_m6, kt_m7, kt_m11, kt_m12, kt_m13, kt_m14, kt_m100] at c1 c2); omega)), rfl⟩ (jbnd hk.1 rfl) (jbnd hk.2 rfl)
    · refine j_blk 15 [(0, .int x)] [.int 1] C k_c_CS_isValue_10_2 rfl ?_
      exact j_zret C Rm E rfl d_c_CS_isValue_15 ⟨congrArg (fun z => some (Value.int z)) (jif (by (try simp only [jlt, jle, jeq, kt_0, kt_1, kt_2, kt_3, kt_4, kt_5, kt_6, kt_7, kt_8, kt_9, kt_10, kt_11, kt_12, kt_13, kt_15, kt_16, kt_19, kt_20, kt_24, kt_25, kt_31, kt_32, kt_40, kt_50, kt_60, kt_63, kt_100, kt_120, kt_255, kt_300, kt_999999, kt_1000000, kt_m1, kt_m2, kt_m3, kt_m4, kt_m6, kt_m7, kt_m11, kt_m12, kt_m13, kt_m14, kt_m100] at c1 c2); omega)), rfl⟩ (jbnd hk.1 rfl) (jbnd hk.2 rfl)

theorem k_c_CS_isPart_0_1 : sblk b_CS_isPart [(0, .iload_n 0, .null)] := sblk_of (by decide +kernel)
theorem d_c_CS_isPart_1 : decode b_CS_isPart 1 = .ok (.ifCond .eq 8, 3) := by decide +kernel
theorem k_c_CS_isPart_9_2 : sblk b_CS_isPart [(9, .iconst 1, .int 1), (10, .goto 4, .retAddr 14)] := sblk_of (by decide +kernel)
theorem d_c_CS_isPart_14 : decode b_CS_isPart 14 = .ok (.ireturn, 1) := by decide +kernel
theorem k_c_CS_isPart_4_2 : sblk b_CS_isPart [(4, .iload_n 0, .null), (5, .iconst 1, .int 1)] := sblk_of (by decide +kernel)
theorem d_c_CS_isPart_6 : decode b_CS_isPart 6 = .ok (.if_icmp .ne 7, 3) := by decide +kernel
theorem k_c_CS_isPart_13_1 : sblk b_CS_isPart [(13, .iconst 0, .int 0)] := sblk_of (by decide +kernel)
set_option maxHeartbeats 4000000 in
set_option maxRecDepth 100000 in
theorem c_CS_isPart (l : Launch) (D : va_G) (B : Nat) (H0 : Heap) (w : jW) (x : Int32) : jMet l D B H0 y_CS_isPart b_CS_isPart 1 (some .boolean) 0 0 0 0 [.int x] w (fun v w9 => v = some (.int (if x.toInt = 0 ∨ x.toInt = 1 then 1 else 0)) ∧ w = w9) := by
  refine j_met (by decide) (Nat.le_of_ble_eq_true rfl) (fun g C Rm Y E => ?_)
  have hk := jkz w
  show JJ g w 0 [(0, .int x)] []
  refine j_blk 1 [(0, .int x)] [.int x] C k_c_CS_isPart_0_1 rfl ?_
  refine j_if_eq (tgt := 9) C d_c_CS_isPart_1 (by decide) (fun c1 => ?_) (fun c1 => ?_)
  · refine j_blk 14 [(0, .int x)] [.int 1] C k_c_CS_isPart_9_2 rfl ?_
    exact j_zret C Rm E rfl d_c_CS_isPart_14 ⟨congrArg (fun z => some (Value.int z)) (jif (by (try simp only [jlt, jle, jeq, kt_0, kt_1, kt_2, kt_3, kt_4, kt_5, kt_6, kt_7, kt_8, kt_9, kt_10, kt_11, kt_12, kt_13, kt_15, kt_16, kt_19, kt_20, kt_24, kt_25, kt_31, kt_32, kt_40, kt_50, kt_60, kt_63, kt_100, kt_120, kt_255, kt_300, kt_999999, kt_1000000, kt_m1, kt_m2, kt_m3, kt_m4, kt_m6, kt_m7, kt_m11, kt_m12, kt_m13, kt_m14, kt_m100] at c1); omega)), rfl⟩ (jbnd hk.1 rfl) (jbnd hk.2 rfl)
  · refine j_blk 6 [(0, .int x)] [.int 1, .int x] C k_c_CS_isPart_4_2 rfl ?_
    refine j_icmp_ne (tgt := 13) C d_c_CS_isPart_6 (by decide) (fun c2 => ?_) (fun c2 => ?_)
    · refine j_blk 14 [(0, .int x)] [.int 0] C k_c_CS_isPart_13_1 rfl ?_
      exact j_zret C Rm E rfl d_c_CS_isPart_14 ⟨congrArg (fun z => some (Value.int z)) (jelse (by (try simp only [jlt, jle, jeq, kt_0, kt_1, kt_2, kt_3, kt_4, kt_5, kt_6, kt_7, kt_8, kt_9, kt_10, kt_11, kt_12, kt_13, kt_15, kt_16, kt_19, kt_20, kt_24, kt_25, kt_31, kt_32, kt_40, kt_50, kt_60, kt_63, kt_100, kt_120, kt_255, kt_300, kt_999999, kt_1000000, kt_m1, kt_m2, kt_m3, kt_m4, kt_m6, kt_m7, kt_m11, kt_m12, kt_m13, kt_m14, kt_m100] at c1 c2); omega)), rfl⟩ (jbnd hk.1 rfl) (jbnd hk.2 rfl)
    · refine j_blk 14 [(0, .int x)] [.int 1] C k_c_CS_isPart_9_2 rfl ?_
      exact j_zret C Rm E rfl d_c_CS_isPart_14 ⟨congrArg (fun z => some (Value.int z)) (jif (by (try simp only [jlt, jle, jeq, kt_0, kt_1, kt_2, kt_3, kt_4, kt_5, kt_6, kt_7, kt_8, kt_9, kt_10, kt_11, kt_12, kt_13, kt_15, kt_16, kt_19, kt_20, kt_24, kt_25, kt_31, kt_32, kt_40, kt_50, kt_60, kt_63, kt_100, kt_120, kt_255, kt_300, kt_999999, kt_1000000, kt_m1, kt_m2, kt_m3, kt_m4, kt_m6, kt_m7, kt_m11, kt_m12, kt_m13, kt_m14, kt_m100] at c1 c2); omega)), rfl⟩ (jbnd hk.1 rfl) (jbnd hk.2 rfl)

theorem k_c_CS_isSheet_0_1 : sblk b_CS_isSheet [(0, .iload_n 0, .null)] := sblk_of (by decide +kernel)
theorem d_c_CS_isSheet_1 : decode b_CS_isSheet 1 = .ok (.ifCond .lt 12, 3) := by decide +kernel
theorem k_c_CS_isSheet_13_1 : sblk b_CS_isSheet [(13, .iconst 0, .int 0)] := sblk_of (by decide +kernel)
theorem d_c_CS_isSheet_14 : decode b_CS_isSheet 14 = .ok (.ireturn, 1) := by decide +kernel
theorem k_c_CS_isSheet_4_2 : sblk b_CS_isSheet [(4, .iload_n 0, .null), (5, .iconst 4, .int 4)] := sblk_of (by decide +kernel)
theorem d_c_CS_isSheet_6 : decode b_CS_isSheet 6 = .ok (.if_icmp .ge 7, 3) := by decide +kernel
theorem k_c_CS_isSheet_9_2 : sblk b_CS_isSheet [(9, .iconst 1, .int 1), (10, .goto 4, .retAddr 14)] := sblk_of (by decide +kernel)
set_option maxHeartbeats 4000000 in
set_option maxRecDepth 100000 in
theorem c_CS_isSheet (l : Launch) (D : va_G) (B : Nat) (H0 : Heap) (w : jW) (x : Int32) : jMet l D B H0 y_CS_isSheet b_CS_isSheet 1 (some .boolean) 0 0 0 0 [.int x] w (fun v w9 => v = some (.int (if 0 ≤ x.toInt ∧ x.toInt < 4 then 1 else 0)) ∧ w = w9) := by
  refine j_met (by decide) (Nat.le_of_ble_eq_true rfl) (fun g C Rm Y E => ?_)
  have hk := jkz w
  show JJ g w 0 [(0, .int x)] []
  refine j_blk 1 [(0, .int x)] [.int x] C k_c_CS_isSheet_0_1 rfl ?_
  refine j_if_lt (tgt := 13) C d_c_CS_isSheet_1 (by decide) (fun c1 => ?_) (fun c1 => ?_)
  · refine j_blk 14 [(0, .int x)] [.int 0] C k_c_CS_isSheet_13_1 rfl ?_
    exact j_zret C Rm E rfl d_c_CS_isSheet_14 ⟨congrArg (fun z => some (Value.int z)) (jelse (by (try simp only [jlt, jle, jeq, kt_0, kt_1, kt_2, kt_3, kt_4, kt_5, kt_6, kt_7, kt_8, kt_9, kt_10, kt_11, kt_12, kt_13, kt_15, kt_16, kt_19, kt_20, kt_24, kt_25, kt_31, kt_32, kt_40, kt_50, kt_60, kt_63, kt_100, kt_120, kt_255, kt_300, kt_999999, kt_1000000, kt_m1, kt_m2, kt_m3, kt_m4, kt_m6, kt_m7, kt_m11, kt_m12, kt_m13, kt_m14, kt_m100] at c1); omega)), rfl⟩ (jbnd hk.1 rfl) (jbnd hk.2 rfl)
  · refine j_blk 6 [(0, .int x)] [.int 4, .int x] C k_c_CS_isSheet_4_2 rfl ?_
    refine j_icmp_ge (tgt := 13) C d_c_CS_isSheet_6 (by decide) (fun c2 => ?_) (fun c2 => ?_)
    · refine j_blk 14 [(0, .int x)] [.int 0] C k_c_CS_isSheet_13_1 rfl ?_
      exact j_zret C Rm E rfl d_c_CS_isSheet_14 ⟨congrArg (fun z => some (Value.int z)) (jelse (by (try simp only [jlt, jle, jeq, kt_0, kt_1, kt_2, kt_3, kt_4, kt_5, kt_6, kt_7, kt_8, kt_9, kt_10, kt_11, kt_12, kt_13, kt_15, kt_16, kt_19, kt_20, kt_24, kt_25, kt_31, kt_32, kt_40, kt_50, kt_60, kt_63, kt_100, kt_120, kt_255, kt_300, kt_999999, kt_1000000, kt_m1, kt_m2, kt_m3, kt_m4, kt_m6, kt_m7, kt_m11, kt_m12, kt_m13, kt_m14, kt_m100] at c1 c2); omega)), rfl⟩ (jbnd hk.1 rfl) (jbnd hk.2 rfl)
    · refine j_blk 14 [(0, .int x)] [.int 1] C k_c_CS_isSheet_9_2 rfl ?_
      exact j_zret C Rm E rfl d_c_CS_isSheet_14 ⟨congrArg (fun z => some (Value.int z)) (jif (by (try simp only [jlt, jle, jeq, kt_0, kt_1, kt_2, kt_3, kt_4, kt_5, kt_6, kt_7, kt_8, kt_9, kt_10, kt_11, kt_12, kt_13, kt_15, kt_16, kt_19, kt_20, kt_24, kt_25, kt_31, kt_32, kt_40, kt_50, kt_60, kt_63, kt_100, kt_120, kt_255, kt_300, kt_999999, kt_1000000, kt_m1, kt_m2, kt_m3, kt_m4, kt_m6, kt_m7, kt_m11, kt_m12, kt_m13, kt_m14, kt_m100] at c1 c2); omega)), rfl⟩ (jbnd hk.1 rfl) (jbnd hk.2 rfl)

theorem k_c_Mo_in_0_2 : sblk b_Mo_in [(0, .iload_n 0, .null), (1, .iload_n 1, .null)] := sblk_of (by decide +kernel)
theorem d_c_Mo_in_2 : decode b_Mo_in 2 = .ok (.if_icmp .lt 12, 3) := by decide +kernel
theorem k_c_Mo_in_14_1 : sblk b_Mo_in [(14, .iconst 0, .int 0)] := sblk_of (by decide +kernel)
theorem d_c_Mo_in_15 : decode b_Mo_in 15 = .ok (.ireturn, 1) := by decide +kernel
theorem k_c_Mo_in_5_2 : sblk b_Mo_in [(5, .iload_n 0, .null), (6, .iload_n 2, .null)] := sblk_of (by decide +kernel)
theorem d_c_Mo_in_7 : decode b_Mo_in 7 = .ok (.if_icmp .gt 7, 3) := by decide +kernel
theorem k_c_Mo_in_10_2 : sblk b_Mo_in [(10, .iconst 1, .int 1), (11, .goto 4, .retAddr 15)] := sblk_of (by decide +kernel)
set_option maxHeartbeats 4000000 in
set_option maxRecDepth 100000 in
theorem c_Mo_in (l : Launch) (D : va_G) (B : Nat) (H0 : Heap) (w : jW) (x : Int32) (a : Int32) (b : Int32) : jMet l D B H0 y_Mo_in b_Mo_in 3 (some .boolean) 0 0 0 0 [.int x, .int a, .int b] w (fun v w9 => v = some (.int (if a.toInt ≤ x.toInt ∧ x.toInt ≤ b.toInt then 1 else 0)) ∧ w = w9) := by
  refine j_met (by decide) (Nat.le_of_ble_eq_true rfl) (fun g C Rm Y E => ?_)
  have hk := jkz w
  show JJ g w 0 [(0, .int x), (1, .int a), (2, .int b)] []
  refine j_blk 2 [(0, .int x), (1, .int a), (2, .int b)] [.int a, .int x] C k_c_Mo_in_0_2 rfl ?_
  refine j_icmp_lt (tgt := 14) C d_c_Mo_in_2 (by decide) (fun c1 => ?_) (fun c1 => ?_)
  · refine j_blk 15 [(0, .int x), (1, .int a), (2, .int b)] [.int 0] C k_c_Mo_in_14_1 rfl ?_
    exact j_zret C Rm E rfl d_c_Mo_in_15 ⟨congrArg (fun z => some (Value.int z)) (jelse (by (try simp only [jlt, jle, jeq, kt_0, kt_1, kt_2, kt_3, kt_4, kt_5, kt_6, kt_7, kt_8, kt_9, kt_10, kt_11, kt_12, kt_13, kt_15, kt_16, kt_19, kt_20, kt_24, kt_25, kt_31, kt_32, kt_40, kt_50, kt_60, kt_63, kt_100, kt_120, kt_255, kt_300, kt_999999, kt_1000000, kt_m1, kt_m2, kt_m3, kt_m4, kt_m6, kt_m7, kt_m11, kt_m12, kt_m13, kt_m14, kt_m100] at c1); omega)), rfl⟩ (jbnd hk.1 rfl) (jbnd hk.2 rfl)
  · refine j_blk 7 [(0, .int x), (1, .int a), (2, .int b)] [.int b, .int x] C k_c_Mo_in_5_2 rfl ?_
    refine j_icmp_gt (tgt := 14) C d_c_Mo_in_7 (by decide) (fun c2 => ?_) (fun c2 => ?_)
    · refine j_blk 15 [(0, .int x), (1, .int a), (2, .int b)] [.int 0] C k_c_Mo_in_14_1 rfl ?_
      exact j_zret C Rm E rfl d_c_Mo_in_15 ⟨congrArg (fun z => some (Value.int z)) (jelse (by (try simp only [jlt, jle, jeq, kt_0, kt_1, kt_2, kt_3, kt_4, kt_5, kt_6, kt_7, kt_8, kt_9, kt_10, kt_11, kt_12, kt_13, kt_15, kt_16, kt_19, kt_20, kt_24, kt_25, kt_31, kt_32, kt_40, kt_50, kt_60, kt_63, kt_100, kt_120, kt_255, kt_300, kt_999999, kt_1000000, kt_m1, kt_m2, kt_m3, kt_m4, kt_m6, kt_m7, kt_m11, kt_m12, kt_m13, kt_m14, kt_m100] at c1 c2); omega)), rfl⟩ (jbnd hk.1 rfl) (jbnd hk.2 rfl)
    · refine j_blk 15 [(0, .int x), (1, .int a), (2, .int b)] [.int 1] C k_c_Mo_in_10_2 rfl ?_
      exact j_zret C Rm E rfl d_c_Mo_in_15 ⟨congrArg (fun z => some (Value.int z)) (jif (by (try simp only [jlt, jle, jeq, kt_0, kt_1, kt_2, kt_3, kt_4, kt_5, kt_6, kt_7, kt_8, kt_9, kt_10, kt_11, kt_12, kt_13, kt_15, kt_16, kt_19, kt_20, kt_24, kt_25, kt_31, kt_32, kt_40, kt_50, kt_60, kt_63, kt_100, kt_120, kt_255, kt_300, kt_999999, kt_1000000, kt_m1, kt_m2, kt_m3, kt_m4, kt_m6, kt_m7, kt_m11, kt_m12, kt_m13, kt_m14, kt_m100] at c1 c2); omega)), rfl⟩ (jbnd hk.1 rfl) (jbnd hk.2 rfl)

theorem k_c_Mo_isName_0_3 : sblk b_Mo_isName [(0, .iload_n 0, .null), (1, .iconst 0, .int 0), (2, .iconst 5, .int 5)] := sblk_of (by decide +kernel)
theorem d_c_Mo_isName_3 : decode b_Mo_isName 3 = .ok (.invokestatic 108, 3) := by decide +kernel
theorem d_c_Mo_isName_6 : decode b_Mo_isName 6 = .ok (.ireturn, 1) := by decide +kernel
set_option maxHeartbeats 4000000 in
set_option maxRecDepth 100000 in
theorem c_Mo_isName (l : Launch) (D : va_G) (B : Nat) (H0 : Heap) (w : jW) (x : Int32) : jMet l D B H0 y_Mo_isName b_Mo_isName 1 (some .boolean) 1 40 0 0 [.int x] w (fun v w9 => v = some (.int (if (0 : Int32).toInt ≤ x.toInt ∧ x.toInt ≤ (5 : Int32).toInt then 1 else 0)) ∧ w = w9) := by
  refine j_met (by decide) (Nat.le_of_ble_eq_true rfl) (fun g C Rm Y E => ?_)
  have hk := jkz w
  show JJ g w 0 [(0, .int x)] []
  refine j_blk 3 [(0, .int x)] [.int 5, .int 0, .int x] C k_c_Mo_isName_0_3 rfl ?_
  refine j_callS (As := [.int x, .int 0, .int 5]) C Rm Y [] (c_Mo_in l D B H0 w x 0 5) cl_Mo_108 d_c_Mo_isName_3 rfl rfl (Nat.le_of_ble_eq_true rfl) ⟨by decide, by decide⟩ ⟨jroom hk.1 rfl, jroom hk.2 rfl⟩ (fun v1 w_1 pw_1 => ?_)
  obtain ⟨rfl, rfl⟩ := pw_1
  show JJ g w 6 [(0, .int x)] [.int (if (0 : Int32).toInt ≤ x.toInt ∧ x.toInt ≤ (5 : Int32).toInt then 1 else 0)]
  exact j_zret C Rm E (jbn _) d_c_Mo_isName_6 ⟨rfl, rfl⟩ (jbnd hk.1 rfl) (jbnd hk.2 rfl)

theorem k_c_Mo_isByte_0_3 : sblk b_Mo_isByte [(0, .iload_n 0, .null), (1, .iconst 0, .int 0), (2, .sipush 255, .int 255)] := sblk_of (by decide +kernel)
theorem d_c_Mo_isByte_5 : decode b_Mo_isByte 5 = .ok (.invokestatic 108, 3) := by decide +kernel
theorem d_c_Mo_isByte_8 : decode b_Mo_isByte 8 = .ok (.ireturn, 1) := by decide +kernel
set_option maxHeartbeats 4000000 in
set_option maxRecDepth 100000 in
theorem c_Mo_isByte (l : Launch) (D : va_G) (B : Nat) (H0 : Heap) (w : jW) (x : Int32) : jMet l D B H0 y_Mo_isByte b_Mo_isByte 1 (some .boolean) 1 40 0 0 [.int x] w (fun v w9 => v = some (.int (if (0 : Int32).toInt ≤ x.toInt ∧ x.toInt ≤ (255 : Int32).toInt then 1 else 0)) ∧ w = w9) := by
  refine j_met (by decide) (Nat.le_of_ble_eq_true rfl) (fun g C Rm Y E => ?_)
  have hk := jkz w
  show JJ g w 0 [(0, .int x)] []
  refine j_blk 5 [(0, .int x)] [.int 255, .int 0, .int x] C k_c_Mo_isByte_0_3 rfl ?_
  refine j_callS (As := [.int x, .int 0, .int 255]) C Rm Y [] (c_Mo_in l D B H0 w x 0 255) cl_Mo_108 d_c_Mo_isByte_5 rfl rfl (Nat.le_of_ble_eq_true rfl) ⟨by decide, by decide⟩ ⟨jroom hk.1 rfl, jroom hk.2 rfl⟩ (fun v1 w_1 pw_1 => ?_)
  obtain ⟨rfl, rfl⟩ := pw_1
  show JJ g w 8 [(0, .int x)] [.int (if (0 : Int32).toInt ≤ x.toInt ∧ x.toInt ≤ (255 : Int32).toInt then 1 else 0)]
  exact j_zret C Rm E (jbn _) d_c_Mo_isByte_8 ⟨rfl, rfl⟩ (jbnd hk.1 rfl) (jbnd hk.2 rfl)

theorem k_c_Mo_isSheet_0_3 : sblk b_Mo_isSheet [(0, .iload_n 0, .null), (1, .iconst 0, .int 0), (2, .iconst 3, .int 3)] := sblk_of (by decide +kernel)
theorem d_c_Mo_isSheet_3 : decode b_Mo_isSheet 3 = .ok (.invokestatic 108, 3) := by decide +kernel
theorem d_c_Mo_isSheet_6 : decode b_Mo_isSheet 6 = .ok (.ireturn, 1) := by decide +kernel
set_option maxHeartbeats 4000000 in
set_option maxRecDepth 100000 in
theorem c_Mo_isSheet (l : Launch) (D : va_G) (B : Nat) (H0 : Heap) (w : jW) (x : Int32) : jMet l D B H0 y_Mo_isSheet b_Mo_isSheet 1 (some .boolean) 1 40 0 0 [.int x] w (fun v w9 => v = some (.int (if (0 : Int32).toInt ≤ x.toInt ∧ x.toInt ≤ (3 : Int32).toInt then 1 else 0)) ∧ w = w9) := by
  refine j_met (by decide) (Nat.le_of_ble_eq_true rfl) (fun g C Rm Y E => ?_)
  have hk := jkz w
  show JJ g w 0 [(0, .int x)] []
  refine j_blk 3 [(0, .int x)] [.int 3, .int 0, .int x] C k_c_Mo_isSheet_0_3 rfl ?_
  refine j_callS (As := [.int x, .int 0, .int 3]) C Rm Y [] (c_Mo_in l D B H0 w x 0 3) cl_Mo_108 d_c_Mo_isSheet_3 rfl rfl (Nat.le_of_ble_eq_true rfl) ⟨by decide, by decide⟩ ⟨jroom hk.1 rfl, jroom hk.2 rfl⟩ (fun v1 w_1 pw_1 => ?_)
  obtain ⟨rfl, rfl⟩ := pw_1
  show JJ g w 6 [(0, .int x)] [.int (if (0 : Int32).toInt ≤ x.toInt ∧ x.toInt ≤ (3 : Int32).toInt then 1 else 0)]
  exact j_zret C Rm E (jbn _) d_c_Mo_isSheet_6 ⟨rfl, rfl⟩ (jbnd hk.1 rfl) (jbnd hk.2 rfl)
end
section
/-! THE J LAYER: arrays of arrays, two and three deep (own work) -/
def g1C (c : ClassId) (n : Nat) (dv : Value) : Cell := { cls := c, slots := Array.replicate n dv, vm := .none }
def gOC (c : ClassId) (n : Nat) (ad : Nat → Nat) (i : Nat) : Cell := arrV c n (fun j => if j < i then .ref (ad j) else .null)
theorem gOC_step (c : ClassId) (n : Nat) (ad : Nat → Nat) (i : Nat) : (gOC c n ad i).setSlot i (.ref (ad i)) = gOC c n ad (i + 1) := by
  unfold gOC
  rw [arrV_store]
  refine congrArg (arrV c n) (funext fun j => ?_)
  by_cases e : j = i
  · subst e; simp [updV]
  · by_cases h : j < i
    · simp [updV, e, h, Nat.lt_succ_of_lt h]
    · simp [updV, e, h, show ¬ j < i + 1 by omega]
theorem gOC_0 (c : ClassId) (n : Nat) (ad : Nat → Nat) : ({ cls := c, slots := Array.replicate n .null, vm := .none } : Cell) = gOC c n ad 0 := by
  unfold gOC
  rw [arrV_new]
  refine congrArg (arrV c n) (funext fun j => ?_)
  simp
theorem gOC_sz (c : ClassId) (n : Nat) (ad : Nat → Nat) (i : Nat) : (gOC c n ad i).slots.size = n := arrV_size _ _ _
def f2S (s : State) (c ci : ClassId) (n k : Nat) (dv : Value) : Nat → State
  | 0 => s.pushCell (gOC c n (fun j => s.heap.size + 1 + j) 0)
  | i + 1 => ((f2S s c ci n k dv i).pushCell (g1C ci k dv)).setCell s.heap.size (gOC c n (fun j => s.heap.size + 1 + j) (i + 1))
theorem f2S_facts (s : State) (c ci : ClassId) (n k : Nat) (dv : Value) : ∀ i, (f2S s c ci n k dv i).heap.size = s.heap.size + 1 + i ∧ (f2S s c ci n k dv i).heap[s.heap.size]? = some (gOC c n (fun j => s.heap.size + 1 + j) i) ∧ (f2S s c ci n k dv i).vm = s.vm ∧ (f2S s c ci n k dv i).slotsUsed = s.slotsUsed + n + i * k
  | 0 => ⟨by simp [f2S], by simp [f2S], rfl, by simp [f2S, gOC_sz]⟩
  | i + 1 => by
    obtain ⟨a, b, d, u⟩ := f2S_facts s c ci n k dv i
    have hlt : s.heap.size < (f2S s c ci n k dv i).heap.size := by omega
    have hb' : ((f2S s c ci n k dv i).pushCell (g1C ci k dv)).heap[s.heap.size]? = some (gOC c n (fun j => s.heap.size + 1 + j) i) := by rw [State.heap_pushCell_of_lt (h := hlt)]; exact b
    refine ⟨?_, State.heap_setCell_self hb', by simp [f2S, d], ?_⟩
    · simp [f2S, State.setCell, a]; omega
    · simp [f2S, u, g1C, Nat.succ_mul]; omega
theorem f2S_old (s : State) (c ci : ClassId) (n k : Nat) (dv : Value) {a : Nat} (ha : a < s.heap.size) : ∀ i, (f2S s c ci n k dv i).heap[a]? = s.heap[a]?
  | 0 => State.heap_pushCell_of_lt _ _ ha
  | i + 1 => by
    have f1 := (f2S_facts s c ci n k dv i).1
    show (((f2S s c ci n k dv i).pushCell (g1C ci k dv)).setCell s.heap.size _).heap[a]? = _
    rw [State.heap_setCell_other (Nat.ne_of_gt ha), State.heap_pushCell_of_lt (h := show a < (f2S s c ci n k dv i).heap.size by rw [f1]; have : a < s.heap.size := ha; omega)]
    exact f2S_old s c ci n k dv ha i
theorem f2S_in (s : State) (c ci : ClassId) (n k : Nat) (dv : Value) : ∀ i j, j < i → (f2S s c ci n k dv i).heap[s.heap.size + 1 + j]? = some (g1C ci k dv)
  | 0, _, h => absurd h (Nat.not_lt_zero _)
  | i + 1, j, h => by
    have f1 := (f2S_facts s c ci n k dv i).1
    show (((f2S s c ci n k dv i).pushCell (g1C ci k dv)).setCell s.heap.size _).heap[s.heap.size + 1 + j]? = _
    rw [State.heap_setCell_other (show s.heap.size ≠ s.heap.size + 1 + j by omega)]
    rcases Nat.lt_or_ge j i with hj | hj
    · rw [State.heap_pushCell_of_lt (h := show s.heap.size + 1 + j < (f2S s c ci n k dv i).heap.size by omega)]
      exact f2S_in s c ci n k dv i j hj
    · have hji : j = i := by omega
      subst hji
      show ((f2S s c ci n k dv j).heap.push _)[_]? = _
      rw [← f1, Array.getElem?_push_size]
theorem f2S_top (s : State) (f : JFrame) (c ci : ClassId) (n k : Nat) (dv : Value) : ∀ i, f2S (s.setTop f) c ci n k dv i = (f2S s c ci n k dv i).setTop f
  | 0 => rfl
  | i + 1 => by simp only [f2S, f2S_top s f c ci n k dv i, State.heap_setTop, State.pushCell_setTop, State.setCell_setTop]
def f3S (s : State) (c cm ci : ClassId) (n m k : Nat) (dv : Value) : Nat → State
  | 0 => s.pushCell (gOC c n (fun j => s.heap.size + 1 + j * (m + 1)) 0)
  | i + 1 => (f2S (f3S s c cm ci n m k dv i) cm ci m k dv m).setCell s.heap.size (gOC c n (fun j => s.heap.size + 1 + j * (m + 1)) (i + 1))
theorem f3S_facts (s : State) (c cm ci : ClassId) (n m k : Nat) (dv : Value) : ∀ i, (f3S s c cm ci n m k dv i).heap.size = s.heap.size + 1 + i * (m + 1) ∧ (f3S s c cm ci n m k dv i).heap[s.heap.size]? = some (gOC c n (fun j => s.heap.size + 1 + j * (m + 1)) i) ∧ (f3S s c cm ci n m k dv i).vm = s.vm ∧ (f3S s c cm ci n m k dv i).slotsUsed = s.slotsUsed + n + i * (m + m * k)
  | 0 => ⟨by simp [f3S], by simp [f3S], rfl, by simp [f3S, gOC_sz]⟩
  | i + 1 => by
    obtain ⟨a, b, d, u⟩ := f3S_facts s c cm ci n m k dv i
    obtain ⟨a2, b2, d2, u2⟩ := f2S_facts (f3S s c cm ci n m k dv i) cm ci m k dv m
    have hlt : s.heap.size < (f3S s c cm ci n m k dv i).heap.size := by omega
    have hb' : (f2S (f3S s c cm ci n m k dv i) cm ci m k dv m).heap[s.heap.size]? = some (gOC c n (fun j => s.heap.size + 1 + j * (m + 1)) i) := by rw [f2S_old _ _ _ _ _ _ hlt]; exact b
    refine ⟨?_, State.heap_setCell_self hb', by simp [f3S, d2, d], ?_⟩
    · simp [f3S, State.setCell, a2, a, Nat.succ_mul]; omega
    · simp [f3S, u2, u, Nat.succ_mul]; omega
theorem f3S_old (s : State) (c cm ci : ClassId) (n m k : Nat) (dv : Value) {a : Nat} (ha : a < s.heap.size) : ∀ i, (f3S s c cm ci n m k dv i).heap[a]? = s.heap[a]?
  | 0 => State.heap_pushCell_of_lt _ _ ha
  | i + 1 => by
    have f1 := (f3S_facts s c cm ci n m k dv i).1
    show ((f2S (f3S s c cm ci n m k dv i) cm ci m k dv m).setCell s.heap.size _).heap[a]? = _
    rw [State.heap_setCell_other (Nat.ne_of_gt ha), f2S_old (f3S s c cm ci n m k dv i) cm ci m k dv (show a < (f3S s c cm ci n m k dv i).heap.size by rw [f1]; have : a < s.heap.size := ha; omega)]
    exact f3S_old s c cm ci n m k dv ha i
theorem f3S_in (s : State) (c cm ci : ClassId) (n m k : Nat) (dv : Value) : ∀ i j, j < i → (f3S s c cm ci n m k dv i).heap[s.heap.size + 1 + j * (m + 1)]? = some (gOC cm m (fun r => s.heap.size + 1 + j * (m + 1) + 1 + r) m) ∧ ∀ r, r < m → (f3S s c cm ci n m k dv i).heap[s.heap.size + 1 + j * (m + 1) + 1 + r]? = some (g1C ci k dv)
  | 0, _, h => absurd h (Nat.not_lt_zero _)
  | i + 1, j, h => by
    have f1 := (f3S_facts s c cm ci n m k dv i).1
    have key : ∀ a, s.heap.size < a → (f3S s c cm ci n m k dv (i + 1)).heap[a]? = (f2S (f3S s c cm ci n m k dv i) cm ci m k dv m).heap[a]? := fun a ha => by
      show ((f2S (f3S s c cm ci n m k dv i) cm ci m k dv m).setCell s.heap.size _).heap[a]? = _
      rw [State.heap_setCell_other (Nat.ne_of_lt ha)]
    rcases Nat.lt_or_ge j i with hj | hj
    · have hm : (j + 1) * (m + 1) ≤ i * (m + 1) := Nat.mul_le_mul_right _ hj
      rw [Nat.succ_mul] at hm
      obtain ⟨g1, g2⟩ := f3S_in s c cm ci n m k dv i j hj
      refine ⟨?_, fun r hr => ?_⟩
      · rw [key _ (by omega), f2S_old (f3S s c cm ci n m k dv i) cm ci m k dv (show s.heap.size + 1 + j * (m + 1) < (f3S s c cm ci n m k dv i).heap.size by rw [f1]; omega)]; exact g1
      · rw [key _ (by omega), f2S_old (f3S s c cm ci n m k dv i) cm ci m k dv (show s.heap.size + 1 + j * (m + 1) + 1 + r < (f3S s c cm ci n m k dv i).heap.size by rw [f1]; omega)]; exact g2 r hr
    · have hji : j = i := by omega
      subst hji
      obtain ⟨-, b2, -, -⟩ := f2S_facts (f3S s c cm ci n m k dv j) cm ci m k dv m
      have b3 := f2S_in (f3S s c cm ci n m k dv j) cm ci m k dv m
      rw [f1] at b2 b3
      refine ⟨?_, fun r hr => ?_⟩
      · rw [key _ (by omega)]; exact b2
      · rw [key _ (by omega)]; exact b3 r hr
theorem f3S_top (s : State) (f : JFrame) (c cm ci : ClassId) (n m k : Nat) (dv : Value) : ∀ i, f3S (s.setTop f) c cm ci n m k dv i = (f3S s c cm ci n m k dv i).setTop f
  | 0 => rfl
  | i + 1 => by simp only [f3S, f3S_top s f c cm ci n m k dv i, f2S_top, State.heap_setTop, State.setCell_setTop]
section GWP
variable {E : CtlPost} {e : Env} {d : Bool} {acts : List Action} {s : State}
theorem g_new {c comp : ClassId} {k : Class} {type : FieldType} {len : Nat} {init : Value} (hk : s.vm.classes[c]? = some k) (hkind : k.kind = .array comp type)
    (hlimit : ¬ len > e.platform.arrayLengthLimit) (hheap : ¬ len * componentBytes type > e.platform.maxHeapBytes) (hfit : fits type init = true) (hdef : init.isDefault = true) {Q : Addr → Pre}
    (h1 : s.heap.size < e.platform.maxCells) (h2 : s.slotsUsed + len ≤ e.platform.maxSlots) (hq : Q s.heap.size d acts (s.pushCell (g1C c len init))) : wp (Jvm.newArray c len init) Q E e d acts s := by
  have hfits : ∀ i v, (Array.replicate len init)[i]? = some v → s.fitsSlot c .none i v = true := by
    intro i v hv
    simp only [Array.getElem?_replicate] at hv
    split at hv
    · cases hv; simp [State.fitsSlot, State.slotType?, hk, hkind, hfit]
    · cases hv
  have hda : allocActs (Array.replicate len init) s.heap.size acts = acts := by
    have hall : ((Array.replicate len init).all (·.isDefault)) = true := by
      rw [Array.all_replicate]; split <;> simp [hdef]
    unfold allocActs; rw [if_pos hall]
  simp only [Jvm.newArray, Jvm.arrayFits, wp_bind', W.ask, W.ite, hlimit, if_false, wp_pure', W.theClass, hk, hkind, hheap, W.alloc, W.stop, Option.some.injEq, exists_eq_left', Array.size_replicate, hda]
  rw [if_neg (by omega)]
  exact ⟨h1, h2, hfits, hq⟩
theorem g_fit {t : FieldType} (h : t.isReference = true) (v : Value) (hv : v = .null ∨ ∃ a, v = .ref a) : fits t v = true := by
  rcases hv with rfl | ⟨a, rfl⟩ <;> cases t <;> simp [FieldType.isReference] at h <;> rfl
theorem g_make1 {comp cc : ClassId} {kc : Class} {type : FieldType} {m : Int32} (hkc : s.vm.classes[comp]? = some kc) (hkindc : kc.kind = .array cc type) (hm : ¬ m < 0)
    (hl2 : ¬ m.toNatClampNeg > e.platform.arrayLengthLimit) (hh2 : ¬ m.toNatClampNeg * componentBytes type > e.platform.maxHeapBytes)
    (hdf : fits type (defaultValue type) = true) (hdd : (defaultValue type).isDefault = true)
    (h1 : s.heap.size < e.platform.maxCells) (h2 : s.slotsUsed + m.toNatClampNeg ≤ e.platform.maxSlots)
    {Q : Addr → Pre} (hq : Q s.heap.size d acts (s.pushCell (g1C comp m.toNatClampNeg (defaultValue type)))) : wp (multianewarray.make comp [m]) Q E e d acts s := by
  rw [multianewarray.make]
  simp only [wp_bind', W.ite, hm, if_false, wp_pure', W.theClass, hkc, hkindc, Option.some.injEq, exists_eq_left']
  exact g_new hkc hkindc hl2 hh2 hdf hdd h1 h2 hq
theorem g_make2 {c comp cc : ClassId} {k kc : Class} {t0 type : FieldType} {n m : Int32} (hk : s.vm.classes[c]? = some k) (hkind : k.kind = .array comp t0) (href : t0.isReference = true)
    (hkc : s.vm.classes[comp]? = some kc) (hkindc : kc.kind = .array cc type) (hn : ¬ n < 0) (hm : ¬ m < 0)
    (hl1 : ¬ n.toNatClampNeg > e.platform.arrayLengthLimit) (hh1 : ¬ n.toNatClampNeg * componentBytes t0 > e.platform.maxHeapBytes)
    (hl2 : ¬ m.toNatClampNeg > e.platform.arrayLengthLimit) (hh2 : ¬ m.toNatClampNeg * componentBytes type > e.platform.maxHeapBytes)
    (hdf : fits type (defaultValue type) = true) (hdd : (defaultValue type).isDefault = true)
    (hc : s.heap.size + 1 + n.toNatClampNeg ≤ e.platform.maxCells) (hs : s.slotsUsed + n.toNatClampNeg + n.toNatClampNeg * m.toNatClampNeg ≤ e.platform.maxSlots)
    {Q : Addr → Pre} (hq : ∀ d' acts', Q s.heap.size d' acts' (f2S s c comp n.toNatClampNeg m.toNatClampNeg (defaultValue type) n.toNatClampNeg)) :
    wp (multianewarray.make c [n, m]) Q E e d acts s := by
  have hfind : ([m].find? (· < 0)) = none := by simp [hm]
  rw [multianewarray.make]
  simp only [wp_bind', W.ite, hn, if_false, wp_pure', W.theClass, hk, hkind, Option.some.injEq, exists_eq_left']
  refine g_new hk hkind hl1 hh1 (g_fit href _ (Or.inl rfl)) rfl (by omega) (by have := Nat.zero_le (n.toNatClampNeg * m.toNatClampNeg); omega) ?_
  have e0 : s.pushCell (g1C c n.toNatClampNeg .null) = f2S s c comp n.toNatClampNeg m.toNatClampNeg (defaultValue type) 0 := congrArg s.pushCell (gOC_0 c n.toNatClampNeg _)
  rw [e0]
  simp only [hfind]
  rw [ite_self, wp_bind', Std.Legacy.Range.forIn_eq_forIn_range']
  have hsz : ([:n.toNatClampNeg] : Std.Legacy.Range).size = n.toNatClampNeg := by simp [Std.Legacy.Range.size]
  rw [hsz]
  show wp (forIn (List.range' 0 n.toNatClampNeg 1) PUnit.unit _) _ E e d acts _
  refine wp_forIn_inv (fun rest s' => ∃ i, i ≤ n.toNatClampNeg ∧ rest = List.range' i (n.toNatClampNeg - i) ∧ s' = f2S s c comp n.toNatClampNeg m.toNatClampNeg (defaultValue type) i) _ _ ⟨0, Nat.zero_le _, rfl, rfl⟩ ?_ ?_
  · rintro x rest s' d' acts' Q' ⟨i, hi, hl, rfl⟩ hnext
    have hlt : i < n.toNatClampNeg := by
      rcases Nat.lt_or_ge i n.toNatClampNeg with h | h
      · exact h
      · rw [show n.toNatClampNeg - i = 0 from by omega] at hl; simp at hl
    obtain ⟨rfl, hrest⟩ : x = i ∧ rest = List.range' (i + 1) (n.toNatClampNeg - (i + 1)) := by
      rw [show n.toNatClampNeg - i = (n.toNatClampNeg - (i + 1)) + 1 from by omega, List.range'_succ] at hl
      exact ⟨(List.cons.inj hl).1, (List.cons.inj hl).2⟩
    obtain ⟨f1, f2, f3, f4⟩ := f2S_facts s c comp n.toNatClampNeg m.toNatClampNeg (defaultValue type) x
    have hmul : x * m.toNatClampNeg + m.toNatClampNeg ≤ n.toNatClampNeg * m.toNatClampNeg := by
      have := Nat.mul_le_mul_right m.toNatClampNeg (show x + 1 ≤ n.toNatClampNeg from hlt)
      rw [Nat.succ_mul] at this; exact this
    simp only [wp_bind']
    refine g_make1 (by rw [f3]; exact hkc) hkindc hm hl2 hh2 hdf hdd (by rw [f1]; omega) (by rw [f4]; omega) ?_
    have hlt0 : s.heap.size < (f2S s c comp n.toNatClampNeg m.toNatClampNeg (defaultValue type) x).heap.size := by rw [f1]; omega
    simp only [wp_bind', W.writeLoc, wp_pure']
    refine ⟨gOC c n.toNatClampNeg (fun j => s.heap.size + 1 + j) x, by rw [State.heap_pushCell_of_lt (h := hlt0)]; exact f2, by simp [gOC, arrV], by rw [gOC_sz]; exact hlt, ?_, hnext _ _ _ ⟨x + 1, hlt, hrest, ?_⟩⟩
    · simp [gOC, arrV, State.fitsSlot, State.slotType?, f3, hk, hkind, g_fit href _ (Or.inr ⟨_, rfl⟩)]
    · rw [f1, gOC_step c n.toNatClampNeg (fun j => s.heap.size + 1 + j) x]; rfl
  · rintro s' d' acts' ⟨i, hi, hl, rfl⟩
    have hiN : i = n.toNatClampNeg := by
      rcases Nat.lt_or_ge i n.toNatClampNeg with h | h
      · rw [show n.toNatClampNeg - i = (n.toNatClampNeg - (i + 1)) + 1 from by omega, List.range'_succ] at hl; cases hl
      · omega
    subst hiN
    simp only [wp_pure']
    exact hq _ _
theorem g_make3 {c cm ci cc : ClassId} {k km kc : Class} {t0 t1 type : FieldType} {n m r : Int32} (hk : s.vm.classes[c]? = some k) (hkind : k.kind = .array cm t0) (href : t0.isReference = true)
    (hkm : s.vm.classes[cm]? = some km) (hkindm : km.kind = .array ci t1) (href1 : t1.isReference = true)
    (hkc : s.vm.classes[ci]? = some kc) (hkindc : kc.kind = .array cc type) (hn : ¬ n < 0) (hm : ¬ m < 0) (hr : ¬ r < 0)
    (hl1 : ¬ n.toNatClampNeg > e.platform.arrayLengthLimit) (hh1 : ¬ n.toNatClampNeg * componentBytes t0 > e.platform.maxHeapBytes)
    (hl2 : ¬ m.toNatClampNeg > e.platform.arrayLengthLimit) (hh2 : ¬ m.toNatClampNeg * componentBytes t1 > e.platform.maxHeapBytes)
    (hl3 : ¬ r.toNatClampNeg > e.platform.arrayLengthLimit) (hh3 : ¬ r.toNatClampNeg * componentBytes type > e.platform.maxHeapBytes)
    (hdf : fits type (defaultValue type) = true) (hdd : (defaultValue type).isDefault = true)
    (hc : s.heap.size + 1 + n.toNatClampNeg * (m.toNatClampNeg + 1) ≤ e.platform.maxCells) (hs : s.slotsUsed + n.toNatClampNeg + n.toNatClampNeg * (m.toNatClampNeg + m.toNatClampNeg * r.toNatClampNeg) ≤ e.platform.maxSlots)
    {Q : Addr → Pre} (hq : ∀ d' acts', Q s.heap.size d' acts' (f3S s c cm ci n.toNatClampNeg m.toNatClampNeg r.toNatClampNeg (defaultValue type) n.toNatClampNeg)) :
    wp (multianewarray.make c [n, m, r]) Q E e d acts s := by
  have hfind : ([m, r].find? (· < 0)) = none := by simp [hm, hr]
  rw [multianewarray.make]
  simp only [wp_bind', W.ite, hn, if_false, wp_pure', W.theClass, hk, hkind, Option.some.injEq, exists_eq_left']
  refine g_new hk hkind hl1 hh1 (g_fit href _ (Or.inl rfl)) rfl (by omega) (by have := Nat.zero_le (n.toNatClampNeg * (m.toNatClampNeg + m.toNatClampNeg * r.toNatClampNeg)); omega) ?_
  have e0 : s.pushCell (g1C c n.toNatClampNeg .null) = f3S s c cm ci n.toNatClampNeg m.toNatClampNeg r.toNatClampNeg (defaultValue type) 0 := congrArg s.pushCell (gOC_0 c n.toNatClampNeg _)
  rw [e0]
  simp only [hfind]
  rw [ite_self, wp_bind', Std.Legacy.Range.forIn_eq_forIn_range']
  have hsz : ([:n.toNatClampNeg] : Std.Legacy.Range).size = n.toNatClampNeg := by simp [Std.Legacy.Range.size]
  rw [hsz]
  show wp (forIn (List.range' 0 n.toNatClampNeg 1) PUnit.unit _) _ E e d acts _
  refine wp_forIn_inv (fun rest s' => ∃ i, i ≤ n.toNatClampNeg ∧ rest = List.range' i (n.toNatClampNeg - i) ∧ s' = f3S s c cm ci n.toNatClampNeg m.toNatClampNeg r.toNatClampNeg (defaultValue type) i) _ _ ⟨0, Nat.zero_le _, rfl, rfl⟩ ?_ ?_
  · rintro x rest s' d' acts' Q' ⟨i, hi, hl, rfl⟩ hnext
    have hlt : i < n.toNatClampNeg := by
      rcases Nat.lt_or_ge i n.toNatClampNeg with h | h
      · exact h
      · rw [show n.toNatClampNeg - i = 0 from by omega] at hl; simp at hl
    obtain ⟨rfl, hrest⟩ : x = i ∧ rest = List.range' (i + 1) (n.toNatClampNeg - (i + 1)) := by
      rw [show n.toNatClampNeg - i = (n.toNatClampNeg - (i + 1)) + 1 from by omega, List.range'_succ] at hl
      exact ⟨(List.cons.inj hl).1, (List.cons.inj hl).2⟩
    obtain ⟨f1, f2, f3, f4⟩ := f3S_facts s c cm ci n.toNatClampNeg m.toNatClampNeg r.toNatClampNeg (defaultValue type) x
    have hmul : x * (m.toNatClampNeg + m.toNatClampNeg * r.toNatClampNeg) + (m.toNatClampNeg + m.toNatClampNeg * r.toNatClampNeg) ≤ n.toNatClampNeg * (m.toNatClampNeg + m.toNatClampNeg * r.toNatClampNeg) := by
      have := Nat.mul_le_mul_right (m.toNatClampNeg + m.toNatClampNeg * r.toNatClampNeg) (show x + 1 ≤ n.toNatClampNeg from hlt)
      rw [Nat.succ_mul] at this; exact this
    have hmul2 : x * (m.toNatClampNeg + 1) + (m.toNatClampNeg + 1) ≤ n.toNatClampNeg * (m.toNatClampNeg + 1) := by
      have := Nat.mul_le_mul_right (m.toNatClampNeg + 1) (show x + 1 ≤ n.toNatClampNeg from hlt)
      rw [Nat.succ_mul] at this; exact this
    simp only [wp_bind']
    refine g_make2 (by rw [f3]; exact hkm) hkindm href1 (by rw [f3]; exact hkc) hkindc hm hr hl2 hh2 hl3 hh3 hdf hdd (by rw [f1]; omega) (by rw [f4]; omega) (fun d9 acts9 => ?_)
    have hlt0 : s.heap.size < (f3S s c cm ci n.toNatClampNeg m.toNatClampNeg r.toNatClampNeg (defaultValue type) x).heap.size := by rw [f1]; omega
    simp only [wp_bind', W.writeLoc, wp_pure']
    refine ⟨gOC c n.toNatClampNeg (fun j => s.heap.size + 1 + j * (m.toNatClampNeg + 1)) x, by rw [f2S_old _ _ _ _ _ _ hlt0]; exact f2, by simp [gOC, arrV], by rw [gOC_sz]; exact hlt, ?_, hnext _ _ _ ⟨x + 1, hlt, hrest, ?_⟩⟩
    · have hvm := (f2S_facts (f3S s c cm ci n.toNatClampNeg m.toNatClampNeg r.toNatClampNeg (defaultValue type) x) cm ci m.toNatClampNeg r.toNatClampNeg (defaultValue type) m.toNatClampNeg).2.2.1
      simp [gOC, arrV, State.fitsSlot, State.slotType?, hvm, f3, hk, hkind, g_fit href _ (Or.inr ⟨_, rfl⟩)]
    · rw [f1, gOC_step c n.toNatClampNeg (fun j => s.heap.size + 1 + j * (m.toNatClampNeg + 1)) x]; rfl
  · rintro s' d' acts' ⟨i, hi, hl, rfl⟩
    have hiN : i = n.toNatClampNeg := by
      rcases Nat.lt_or_ge i n.toNatClampNeg with h | h
      · rw [show n.toNatClampNeg - i = (n.toNatClampNeg - (i + 1)) + 1 from by omega, List.range'_succ] at hl; cases hl
      · omega
    subst hiN
    simp only [wp_pure']
    exact hq _ _
end GWP
end
section
/-! THE J LAYER: multianewarray (own work) -/
section GST
variable {p : Program} {l : Launch} {e : Env} {R : Room} {s : State} {m : MethodId} {args : Array Value} {below : List Frame} {meth : Method} {c : Code} {T : State} {locs : List Loc} {cells slots : Nat}
theorem g_fill2 (X : Stand p l e R s m args below meth c T locs cells slots) (cA ci : ClassId) (n k : Nat) (dv : Value) : ∀ i, Stand p l e R s m args below meth c (f2S T cA ci n k dv i) (locs ++ (List.range i).map fun j => ⟨T.heap.size, j⟩) (cells + 1 + i) (slots + n + i * k)
  | 0 => by
    have h := X.pushed (gOC cA n (fun j => T.heap.size + 1 + j) 0)
    rw [gOC_sz] at h
    simpa [f2S] using h
  | i + 1 => by
    have Xi := g_fill2 X cA ci n k dv i
    obtain ⟨f1, f2, f3, f4⟩ := f2S_facts T cA ci n k dv i
    have hlt0 : T.heap.size < (f2S T cA ci n k dv i).heap.size := by rw [f1]; omega
    have hcell : ((f2S T cA ci n k dv i).pushCell (g1C ci k dv)).heap[T.heap.size]? = some (gOC cA n (fun j => T.heap.size + 1 + j) i) := by rw [State.heap_pushCell_of_lt (h := hlt0)]; exact f2
    have h := (Xi.pushed (g1C ci k dv)).stored hcell i (.ref (T.heap.size + 1 + i))
    rw [gOC_step cA n (fun j => T.heap.size + 1 + j) i] at h
    have e1 : (g1C ci k dv).slots.size = k := by simp [g1C]
    rw [e1] at h
    have e2 : (locs ++ (List.range (i + 1)).map fun j => (⟨T.heap.size, j⟩ : Loc)) = (locs ++ (List.range i).map fun j => (⟨T.heap.size, j⟩ : Loc)) ++ [⟨T.heap.size, i⟩] := by simp [List.range_succ, List.append_assoc]
    have e3 : slots + n + (i + 1) * k = slots + n + i * k + k := by rw [Nat.succ_mul]; omega
    rw [e2, e3]
    exact h
theorem g_fill3 (X : Stand p l e R s m args below meth c T locs cells slots) {B : Nat} (hB : B ≤ T.heap.size) (hl : ∀ q ∈ locs, B ≤ q.base) (cA cm ci : ClassId) (n m9 k : Nat) (dv : Value) : ∀ i, ∃ L : List Loc, (∀ q ∈ L, B ≤ q.base) ∧ Stand p l e R s m args below meth c (f3S T cA cm ci n m9 k dv i) L (cells + 1 + i * (m9 + 1)) (slots + n + i * (m9 + m9 * k))
  | 0 => by
    have h := X.pushed (gOC cA n (fun j => T.heap.size + 1 + j * (m9 + 1)) 0)
    rw [gOC_sz] at h
    exact ⟨locs, hl, by simpa [f3S] using h⟩
  | i + 1 => by
    obtain ⟨L, hL, Xi⟩ := g_fill3 X hB hl cA cm ci n m9 k dv i
    obtain ⟨f1, f2, f3, f4⟩ := f3S_facts T cA cm ci n m9 k dv i
    have hlt0 : T.heap.size < (f3S T cA cm ci n m9 k dv i).heap.size := by rw [f1]; omega
    have X2 := g_fill2 Xi cm ci m9 k dv m9
    have hcell : (f2S (f3S T cA cm ci n m9 k dv i) cm ci m9 k dv m9).heap[T.heap.size]? = some (gOC cA n (fun j => T.heap.size + 1 + j * (m9 + 1)) i) := by rw [f2S_old _ _ _ _ _ _ hlt0]; exact f2
    have h := X2.stored hcell i (.ref (T.heap.size + 1 + i * (m9 + 1)))
    rw [gOC_step cA n (fun j => T.heap.size + 1 + j * (m9 + 1)) i] at h
    have e1 : cells + 1 + i * (m9 + 1) + 1 + m9 = cells + 1 + (i + 1) * (m9 + 1) := by rw [Nat.succ_mul]; omega
    have e3 : slots + n + i * (m9 + m9 * k) + m9 + m9 * k = slots + n + (i + 1) * (m9 + m9 * k) := by rw [Nat.succ_mul]; omega
    rw [e1, e3] at h
    refine ⟨_, fun q hq => ?_, h⟩
    rcases List.mem_append.mp hq with h1 | h1
    · rcases List.mem_append.mp h1 with h2 | h2
      · exact hL q h2
      · obtain ⟨j, -, rfl⟩ := List.mem_map.mp h2
        show B ≤ (f3S T cA cm ci n m9 k dv i).heap.size
        rw [f1]
        omega
    · rw [List.mem_singleton] at h1; subst h1; exact hB
theorem jslots {D : va_G} {B k0 n0 : Nat} {H0 : Heap} {M0 : jM} (X : Stand p l e R s m args below meth c T locs cells slots) (h0 : jH D B H0 (M0, k0, n0) s.heap) (hB : B ≤ T.heap.size) : T.slotsUsed + n0 = s.slotsUsed + jsum T.heap B := by
  obtain ⟨e1, e2, e3, e4, e5, e6⟩ := X.same
  have e2 : s.heap.size ≤ T.heap.size := e2
  have hs0 : s.heap.size = B + k0 := h0.1
  have hj0 : jsum s.heap B = n0 := h0.2.1
  have hold : ((T.heap.toList.drop B).take k0).map (fun c : Cell => c.slots.size) = (s.heap.toList.drop B).map (fun c : Cell => c.slots.size) := by
    apply List.ext_getElem?
    intro i
    rw [List.getElem?_map, List.getElem?_map, List.getElem?_take, List.getElem?_drop, List.getElem?_drop, Array.getElem?_toList, Array.getElem?_toList]
    by_cases hi : i < k0
    · rw [if_pos hi]
      have hlt : B + i < s.heap.size := by omega
      obtain ⟨c', q1, -, q3, -⟩ := e6 (B + i) s.heap[B + i] (Array.getElem?_eq_getElem hlt)
      have q1 : T.heap[B + i]? = some c' := q1
      rw [q1, Array.getElem?_eq_getElem hlt]
      simp [q3]
    · rw [if_neg hi]
      have : s.heap[B + i]? = none := Array.getElem?_eq_none (by omega)
      rw [this]
  have hsp := jsum_split (H := T.heap) (B := B) (k := k0)
  have hj0' : ((s.heap.toList.drop B).map (fun c : Cell => c.slots.size)).sum = n0 := hj0
  rw [hold, hj0', ← hs0] at hsp
  have e4 : T.slotsUsed = s.slotsUsed + jsum T.heap s.heap.size := e4
  omega
/-- the instruction, two deep -/
theorem g_mn2 (X : Stand p l e R s m args below meth c T locs cells slots) (hexec : p.tables.exec = Jvm.exec) {own nm : String} {index : Nat} {ty : FieldType} {cA comp cc : ClassId} {kA kC : Class}
    (hown : s.vm.findClass own = some m.cls) (hclink : (Cond.classLink own index nm).before args s = true) (hname : s.vm.findClass nm = some cA)
    (hkA : s.vm.classes[cA]? = some kA) (hkindA : kA.kind = .array comp (.array ty)) (hkC : s.vm.classes[comp]? = some kC) (hkindC : kC.kind = .array cc ty)
    {g : JFrame} (hg : g.method = m) (hdg : decode c.code g.pc = .ok (.multianewarray index 2, 4)) {n k : Int32} {rest : List Value} (hstack : g.stack = .int k :: .int n :: rest)
    (hn : ¬ n < 0) (hk : ¬ k < 0) (hb1 : n.toNatClampNeg ≤ 65536) (hb2 : k.toNatClampNeg ≤ 65536)
    (hdf : fits ty (defaultValue ty) = true) (hdd : (defaultValue ty).isDefault = true)
    (hcells : cells + (1 + n.toNatClampNeg) ≤ R.cells) (hslots : slots + (n.toNatClampNeg + n.toNatClampNeg * k.toNatClampNeg) ≤ R.slots) :
    ∃ vm₁ : Vm, s.WarmedH vm₁ ∧ Stand p l e R s m args below meth c (T.setVm vm₁) locs cells slots ∧
      Stand p l e R s m args below meth c (f2S (T.setVm vm₁) cA comp n.toNatClampNeg k.toNatClampNeg (defaultValue ty) n.toNatClampNeg) (locs ++ (List.range n.toNatClampNeg).map fun j => ⟨T.heap.size, j⟩) (cells + 1 + n.toNatClampNeg) (slots + n.toNatClampNeg + n.toNatClampNeg * k.toNatClampNeg) ∧
      ∀ target, Steps p.tables e below ((f2S (T.setVm vm₁) cA comp n.toNatClampNeg k.toNatClampNeg (defaultValue ty) n.toNatClampNeg).setTop { g with pc := g.pc + 4, stack := .ref T.heap.size :: rest }) target → Steps p.tables e below (T.setTop g) target := by
  subst hg
  have hpl : e.platform.magicAccessors = ({} : Platform).magicAccessors := by rw [X.admits.platform]
  obtain ⟨c0, hfc0, hcl⟩ := Cond.classLink_spec hown hclink e.platform hpl
  cases hname.symm.trans hfc0
  obtain ⟨hg₁, hwarm₁, hready₁⟩ := State.classEntry (e := e) X.warmed hcl
  generalize T.vm.noted g.method.cls index (.cls cA) = vm₁ at hg₁ hwarm₁ hready₁
  have hal : s.vm.Alike vm₁ := hwarm₁.alike
  obtain ⟨kA₁, hkA₁, heA⟩ := hal.2.2 _ _ hkA
  obtain ⟨kC₁, hkC₁, heC⟩ := hal.2.2 _ _ hkC
  have hkindA₁ : kA₁.kind = .array comp (.array ty) := by rw [heA]; exact hkindA
  have hkindC₁ : kC₁.kind = .array cc ty := by rw [heC]; exact hkindC
  have X₁ := X.noted hwarm₁
  obtain ⟨hr1, hr2⟩ := X.roomAbove hcells hslots
  have hcb : componentBytes ty ≤ 8 := by cases ty <;> simp [componentBytes]
  have hkb : k.toNatClampNeg * componentBytes ty ≤ 65536 * 8 := Nat.mul_le_mul hb2 hcb
  refine ⟨vm₁, hwarm₁, X₁, g_fill2 X₁ cA comp _ _ _ _, fun target hrest => ?_⟩
  have hl1 : ¬ n.toNatClampNeg > e.platform.arrayLengthLimit := by rw [Launch.admits_arrayLengthLimit X.admits]; omega
  have hh1 : ¬ n.toNatClampNeg * componentBytes (.array ty) > e.platform.maxHeapBytes := by
    rw [Launch.admits_maxHeapBytes X.admits]; show ¬ n.toNatClampNeg * 4 > 536870912; omega
  have hl2 : ¬ k.toNatClampNeg > e.platform.arrayLengthLimit := by rw [Launch.admits_arrayLengthLimit X.admits]; omega
  have hh2 : ¬ k.toNatClampNeg * componentBytes ty > e.platform.maxHeapBytes := by rw [Launch.admits_maxHeapBytes X.admits]; omega
  jvm_step X.here [hexec, hdg]
  simp only [multianewarray.sem, wp_bind', W.resolveClassAt_links (State.method?_setTop g X.here.top) hg₁]
  rw [W.popN, if_neg (by decide)]
  refine ⟨g, State.topJava?_setTop' (s := T.setVm vm₁) g X.here.top, [.int n, .int k], rest, rfl, hstack, ?_⟩
  simp only [List.mapM_cons, List.mapM_nil, wp_bind', wp_pure']
  refine g_make2 (k := kA₁) (kc := kC₁) (comp := comp) (cc := cc) (t0 := .array ty) (type := ty) hkA₁ hkindA₁ rfl hkC₁ hkindC₁ hn hk hl1 hh1 hl2 hh2 hdf hdd (by show T.heap.size + 1 + _ ≤ _; omega) (by show T.slotsUsed + _ + _ ≤ _; omega) (fun d' acts' => ?_)
  have XF := g_fill2 X₁ cA comp n.toNatClampNeg k.toNatClampNeg (defaultValue ty) n.toNatClampNeg
  have eS : ((T.setTop g).setVm vm₁).setTop { g with stack := rest } = (T.setVm vm₁).setTop { g with stack := rest } := by
    show ((T.setVm vm₁).setTop g).setTop _ = _
    rw [State.setTop_setTop]
  rw [eS, f2S_top]
  simp only [wp_bind', W.mark, W.pushRef, State.topJava?_setTop' _ XF.here.top, Option.some.injEq, exists_eq_left', State.setTop_setTop, State.heap_setTop]
  intro acts
  simp [jvm, XF.here.top]
  exact hrest
/-- the instruction, three deep -/
theorem g_mn3 (X : Stand p l e R s m args below meth c T locs cells slots) {B : Nat} (hB : B ≤ T.heap.size) (hlocs : ∀ q ∈ locs, B ≤ q.base) (hexec : p.tables.exec = Jvm.exec) {own nm : String} {index : Nat} {t0 ty : FieldType} {cA cm comp cc : ClassId} {kA kM kC : Class}
    (hown : s.vm.findClass own = some m.cls) (hclink : (Cond.classLink own index nm).before args s = true) (hname : s.vm.findClass nm = some cA)
    (hkA : s.vm.classes[cA]? = some kA) (hkindA : kA.kind = .array cm (.array t0)) (hkM : s.vm.classes[cm]? = some kM) (hkindM : kM.kind = .array comp (.array ty)) (hkC : s.vm.classes[comp]? = some kC) (hkindC : kC.kind = .array cc ty)
    {g : JFrame} (hg : g.method = m) (hdg : decode c.code g.pc = .ok (.multianewarray index 3, 4)) {n k r : Int32} {rest : List Value} (hstack : g.stack = .int r :: .int k :: .int n :: rest)
    (hn : ¬ n < 0) (hk : ¬ k < 0) (hr : ¬ r < 0) (hb1 : n.toNatClampNeg ≤ 65536) (hb2 : k.toNatClampNeg ≤ 65536) (hb3 : r.toNatClampNeg ≤ 65536)
    (hdf : fits ty (defaultValue ty) = true) (hdd : (defaultValue ty).isDefault = true)
    (hcells : cells + (1 + n.toNatClampNeg * (k.toNatClampNeg + 1)) ≤ R.cells) (hslots : slots + (n.toNatClampNeg + n.toNatClampNeg * (k.toNatClampNeg + k.toNatClampNeg * r.toNatClampNeg)) ≤ R.slots) :
    ∃ (vm₁ : Vm) (L : List Loc), s.WarmedH vm₁ ∧ Stand p l e R s m args below meth c (T.setVm vm₁) locs cells slots ∧ (∀ q ∈ L, B ≤ q.base) ∧
      Stand p l e R s m args below meth c (f3S (T.setVm vm₁) cA cm comp n.toNatClampNeg k.toNatClampNeg r.toNatClampNeg (defaultValue ty) n.toNatClampNeg) L (cells + 1 + n.toNatClampNeg * (k.toNatClampNeg + 1)) (slots + n.toNatClampNeg + n.toNatClampNeg * (k.toNatClampNeg + k.toNatClampNeg * r.toNatClampNeg)) ∧
      ∀ target, Steps p.tables e below ((f3S (T.setVm vm₁) cA cm comp n.toNatClampNeg k.toNatClampNeg r.toNatClampNeg (defaultValue ty) n.toNatClampNeg).setTop { g with pc := g.pc + 4, stack := .ref T.heap.size :: rest }) target → Steps p.tables e below (T.setTop g) target := by
  subst hg
  have hpl : e.platform.magicAccessors = ({} : Platform).magicAccessors := by rw [X.admits.platform]
  obtain ⟨c0, hfc0, hcl⟩ := Cond.classLink_spec hown hclink e.platform hpl
  cases hname.symm.trans hfc0
  obtain ⟨hg₁, hwarm₁, hready₁⟩ := State.classEntry (e := e) X.warmed hcl
  generalize T.vm.noted g.method.cls index (.cls cA) = vm₁ at hg₁ hwarm₁ hready₁
  have hal : s.vm.Alike vm₁ := hwarm₁.alike
  obtain ⟨kA₁, hkA₁, heA⟩ := hal.2.2 _ _ hkA
  obtain ⟨kM₁, hkM₁, heM⟩ := hal.2.2 _ _ hkM
  obtain ⟨kC₁, hkC₁, heC⟩ := hal.2.2 _ _ hkC
  have hkindA₁ : kA₁.kind = .array cm (.array t0) := by rw [heA]; exact hkindA
  have hkindM₁ : kM₁.kind = .array comp (.array ty) := by rw [heM]; exact hkindM
  have hkindC₁ : kC₁.kind = .array cc ty := by rw [heC]; exact hkindC
  have X₁ := X.noted hwarm₁
  obtain ⟨hr1, hr2⟩ := X.roomAbove hcells hslots
  have hcb : componentBytes ty ≤ 8 := by cases ty <;> simp [componentBytes]
  have hkb : r.toNatClampNeg * componentBytes ty ≤ 65536 * 8 := Nat.mul_le_mul hb3 hcb
  obtain ⟨L, hL, XF⟩ := g_fill3 X₁ hB hlocs cA cm comp n.toNatClampNeg k.toNatClampNeg r.toNatClampNeg (defaultValue ty) n.toNatClampNeg
  refine ⟨vm₁, L, hwarm₁, X₁, hL, XF, fun target hrest => ?_⟩
  have hl1 : ¬ n.toNatClampNeg > e.platform.arrayLengthLimit := by rw [Launch.admits_arrayLengthLimit X.admits]; omega
  have hh1 : ¬ n.toNatClampNeg * componentBytes (.array t0) > e.platform.maxHeapBytes := by
    rw [Launch.admits_maxHeapBytes X.admits]; show ¬ n.toNatClampNeg * 4 > 536870912; omega
  have hl2 : ¬ k.toNatClampNeg > e.platform.arrayLengthLimit := by rw [Launch.admits_arrayLengthLimit X.admits]; omega
  have hh2 : ¬ k.toNatClampNeg * componentBytes (.array ty) > e.platform.maxHeapBytes := by
    rw [Launch.admits_maxHeapBytes X.admits]; show ¬ k.toNatClampNeg * 4 > 536870912; omega
  have hl3 : ¬ r.toNatClampNeg > e.platform.arrayLengthLimit := by rw [Launch.admits_arrayLengthLimit X.admits]; omega
  have hh3 : ¬ r.toNatClampNeg * componentBytes ty > e.platform.maxHeapBytes := by rw [Launch.admits_maxHeapBytes X.admits]; omega
  jvm_step X.here [hexec, hdg]
  simp only [multianewarray.sem, wp_bind', W.resolveClassAt_links (State.method?_setTop g X.here.top) hg₁]
  rw [W.popN, if_neg (by decide)]
  refine ⟨g, State.topJava?_setTop' (s := T.setVm vm₁) g X.here.top, [.int n, .int k, .int r], rest, rfl, hstack, ?_⟩
  simp only [List.mapM_cons, List.mapM_nil, wp_bind', wp_pure']
  refine g_make3 (k := kA₁) (km := kM₁) (kc := kC₁) (cm := cm) (ci := comp) (cc := cc) (t0 := .array t0) (t1 := .array ty) (type := ty) hkA₁ hkindA₁ rfl hkM₁ hkindM₁ rfl hkC₁ hkindC₁ hn hk hr hl1 hh1 hl2 hh2 hl3 hh3 hdf hdd (by show T.heap.size + 1 + _ ≤ _; omega) (by show T.slotsUsed + _ + _ ≤ _; omega) (fun d' acts' => ?_)
  have eS : ((T.setTop g).setVm vm₁).setTop { g with stack := rest } = (T.setVm vm₁).setTop { g with stack := rest } := by
    show ((T.setVm vm₁).setTop g).setTop _ = _
    rw [State.setTop_setTop]
  rw [eS, f3S_top]
  simp only [wp_bind', W.mark, W.pushRef, State.topJava?_setTop' _ XF.here.top, Option.some.injEq, exists_eq_left', State.setTop_setTop, State.heap_setTop]
  intro acts
  simp [jvm, XF.here.top]
  exact hrest
end GST
end
section
/-! THE J LAYER: new T[n][k], new T[n][k][r] as rows (own work) -/
def jrow (D : va_G) (t0 k : Nat) : jEl := match t0 with
  | 1 => aJ D k (fun _ => 0)
  | 2 => aZ D k (fun _ => 0)
  | _ => aI D k (fun _ => 0)
def jrT (t0 : Nat) : FieldType := match t0 with
  | 1 => .long
  | 2 => .boolean
  | _ => .int
theorem jrow_cell (D : va_G) (t0 k : Nat) (ht : t0 < 3) {H : Heap} {a : Nat} (h : H[a]? = some (g1C (D.1 (100 + t0)) k (defaultValue (jrT t0)))) : jat D a (jrow D t0 k) H := by
  have e : g1C (D.1 (100 + t0)) k (defaultValue (jrT t0)) = arrV (D.1 (100 + t0)) k (fun _ => defaultValue (jrT t0)) := arrV_new _ _ _
  rw [e] at h
  match t0, ht with
  | 0, _ => show _ = some _; rw [h]; rfl
  | 1, _ => show _ = some _; rw [h]; rfl
  | 2, _ => show _ = some _; rw [h]; rfl
def jro (n : Nat) (ad : Nat → Nat) : Nat → Option Nat := fun j => if j < n then some (ad j) else none
theorem gOC_cell (D : va_G) (t n : Nat) (ad : Nat → Nat) {H : Heap} {a : Nat} (h : H[a]? = some (gOC (D.1 (100 + t)) n ad n)) : jat D a (aR D t n (jro n ad)) H := by
  show _ = some _
  rw [h, vp_cell_q]
  unfold gOC jro
  refine congrArg (fun f => some (arrV (D.1 (100 + t)) n f)) (funext fun j => ?_)
  by_cases hj : j < n
  · simp [hj, va_rf]
  · simp [hj, va_rf]
def jm2 (M : jM) (q n : Nat) (eo ei : jEl) : jM := fun a => if a = q then some eo else if q < a ∧ a < q + 1 + n then some ei else M a
def jm3 (M : jM) (q n m : Nat) (eo : jEl) (em : Nat → jEl) (ei : jEl) : jM := fun a => if a = q then some eo else if q < a ∧ a < q + 1 + n * (m + 1) then (if (a - q - 1) % (m + 1) = 0 then some (em (q + 1 + (a - q - 1) / (m + 1) * (m + 1))) else some ei) else M a
section JM
variable {g : jG} {w : jW} {cc : ByteArray} {nL pc : Nat} {own : String} {D : va_G} {L : List (Nat × Value)} {st : List Value} {k0 n0 : Nat} {rm : Room}
theorem j_mn2 (C : jX g cc nL own D) (Rm : jRm g k0 n0 rm) {idx t t0 n k : Nat} {x y : Int32} (hd : decode cc pc = .ok (.multianewarray idx 2, 4)) (h3 : t0 < 3) (ht : jAT[t]? = some (.array (jrT t0))) (ht0 : jAT[t0]? = some (jrT t0)) (hw : Cond.classLink own idx ("[" ++ (FieldType.array (jrT t0)).toString) ∈ jwd) (hx0 : ¬ x < 0) (hy0 : ¬ y < 0) (hxn : x.toNatClampNeg = n) (hyn : y.toNatClampNeg = k) (hn : n ≤ 65536) (hk : k ≤ 65536) (hc1 : w.2.1 + (1 + n) ≤ k0 + rm.cells) (hc2 : w.2.2 + (n + n * k) ≤ n0 + rm.slots)
    (kk : ∀ q : Nat, (∀ a e, w.1 a = some e → a < q) → JJ g (jm2 w.1 q n (aR D t n (jro n (fun j => q + 1 + j))) (jrow D t0 k), w.2.1 + (1 + n), w.2.2 + (n + n * k)) (pc + 4) L (.ref q :: st)) : JJ g w pc L (.int y :: .int x :: st) := by
  obtain ⟨⟨hx, hb, hml, ho, hts, hK, hnm, hlk, M0, hM0⟩, rfl, rfl, rfl, rfl⟩ := C
  obtain ⟨rfl, rfl, rfl⟩ := Rm
  subst hxn; subst hyn
  intro H locs ls h1 h2 h3' h4 h5
  obtain ⟨kA, comp, a1, a2, a3, a4⟩ := hK.2.1 t _ ht
  obtain ⟨kC, cc9, b1, b2, b3, b4⟩ := hK.2.1 t0 _ ht0
  have ec : comp = (jGD g).1 (100 + t0) := Option.some.inj ((a4 rfl).symm.trans b3)
  subst ec
  have hB : jGB g ≤ H.size := by rw [h1.1]; omega
  intro T hT X
  have hdf : fits (jrT t0) (defaultValue (jrT t0)) = true ∧ (defaultValue (jrT t0)).isDefault = true := by
    match t0, h3 with
    | 0, _ => exact ⟨rfl, rfl⟩
    | 1, _ => exact ⟨rfl, rfl⟩
    | 2, _ => exact ⟨rfl, rfl⟩
  obtain ⟨vm₁, hW, X1, X2, hst⟩ := g_mn2 X hx ho (hts _ hw) a3 a1 a2 b1 b2 (g := F0 (jGm g) pc ls (.int y :: .int x :: st)) rfl (by rw [hb]; exact hd) rfl hx0 hy0 hn hk hdf.1 hdf.2 (by omega) (by omega)
  generalize hF : f2S (T.setVm vm₁) ((jGD g).1 (100 + t)) ((jGD g).1 (100 + t0)) x.toNatClampNeg y.toNatClampNeg (defaultValue (jrT t0)) x.toNatClampNeg = F at X2 hst
  have hTh : (T.setVm vm₁).heap = H := hT
  obtain ⟨f1, f2, f3, f4⟩ := f2S_facts (T.setVm vm₁) ((jGD g).1 (100 + t)) ((jGD g).1 (100 + t0)) x.toNatClampNeg y.toNatClampNeg (defaultValue (jrT t0)) x.toNatClampNeg
  rw [hF, hTh] at f1 f2
  rw [hF] at f4
  have hold : ∀ a : Nat, a < H.size → F.heap[a]? = H[a]? := fun a ha => by
    have := f2S_old (T.setVm vm₁) ((jGD g).1 (100 + t)) ((jGD g).1 (100 + t0)) x.toNatClampNeg y.toNatClampNeg (defaultValue (jrT t0)) (a := a) (by rw [hTh]; exact ha) x.toNatClampNeg
    rw [hF, hTh] at this; exact this
  have hin : ∀ j : Nat, j < x.toNatClampNeg → F.heap[H.size + 1 + j]? = some (g1C ((jGD g).1 (100 + t0)) y.toNatClampNeg (defaultValue (jrT t0))) := fun j hj => by
    have := f2S_in (T.setVm vm₁) ((jGD g).1 (100 + t)) ((jGD g).1 (100 + t0)) x.toNatClampNeg y.toNatClampNeg (defaultValue (jrT t0)) x.toNatClampNeg j hj
    rw [hF, hTh] at this; exact this
  have s1 := jslots X1 hM0 (by rw [hTh]; exact hB)
  have s2 := jslots X2 hM0 (by rw [f1]; omega)
  rw [hTh] at s1
  rw [h1.2.1] at s1
  have f4' : F.slotsUsed = (T.setVm vm₁).slotsUsed + x.toNatClampNeg + x.toNatClampNeg * y.toNatClampNeg := f4
  have hj : jsum F.heap (jGB g) = w.2.2 + (x.toNatClampNeg + x.toNatClampNeg * y.toNatClampNeg) := by omega
  have hH : jH (jGD g) (jGB g) (jGH g) (jm2 w.1 H.size x.toNatClampNeg (aR (jGD g) t x.toNatClampNeg (jro x.toNatClampNeg (fun j => H.size + 1 + j))) (jrow (jGD g) t0 y.toNatClampNeg), w.2.1 + (1 + x.toNatClampNeg), w.2.2 + (x.toNatClampNeg + x.toNatClampNeg * y.toNatClampNeg)) F.heap := by
    refine ⟨by rw [f1, h1.1]; show _ = _ + (w.2.1 + (1 + x.toNatClampNeg)); omega, hj, fun q hq => by rw [hold q (by omega)]; exact h1.2.2.1 q hq, fun a e ha => ?_⟩
    unfold jm2 at ha
    by_cases q1 : a = H.size
    · subst q1
      simp only [if_true] at ha
      cases ha
      exact ⟨hB, gOC_cell _ _ _ _ f2⟩
    · by_cases q2 : H.size < a ∧ a < H.size + 1 + x.toNatClampNeg
      · simp only [if_neg q1, if_pos q2] at ha
        cases ha
        obtain ⟨j, rfl⟩ : ∃ j, a = H.size + 1 + j := ⟨a - H.size - 1, by omega⟩
        exact ⟨by omega, jrow_cell _ _ _ h3 (hin j (by omega))⟩
      · simp only [if_neg q1, if_neg q2] at ha
        exact ⟨h1.le ha, (h1.at ha).kept (hold _ (h1.at ha).lt)⟩
  have key := kk H.size (fun a e ha => (h1.at ha).lt) F.heap (locs ++ (List.range x.toNatClampNeg).map fun j => (⟨T.heap.size, j⟩ : Loc)) ls hH (by show _ ≤ w.2.1 + _; omega) (by show _ ≤ w.2.2 + _; omega) (fun q hq => by
    rcases List.mem_append.mp hq with h | h
    · exact h4 q h
    · obtain ⟨j, -, rfl⟩ := List.mem_map.mp h
      show jGB g ≤ T.heap.size
      rw [hT]; exact hB) h5
  have a5 : w.2.1 + (1 + x.toNatClampNeg) - jGk g = w.2.1 - jGk g + 1 + x.toNatClampNeg := by omega
  have a6 : w.2.2 + (x.toNatClampNeg + x.toNatClampNeg * y.toNatClampNeg) - jGn g = w.2.2 - jGn g + x.toNatClampNeg + x.toNatClampNeg * y.toNatClampNeg := by omega
  simp only [a5, a6] at key
  obtain ⟨t2, c1, c2⟩ := key F rfl X2
  refine ⟨t2, hst t2 ?_, c2⟩
  have e : T.heap.size = H.size := by rw [hT]
  rw [e]
  exact c1
theorem j_mn3 (C : jX g cc nL own D) (Rm : jRm g k0 n0 rm) {idx t t1 t0 n m9 k : Nat} {x y z : Int32} (hd : decode cc pc = .ok (.multianewarray idx 3, 4)) (h3 : t0 < 3) (ht : jAT[t]? = some (.array (.array (jrT t0)))) (ht1 : jAT[t1]? = some (.array (jrT t0))) (ht0 : jAT[t0]? = some (jrT t0)) (hw : Cond.classLink own idx ("[" ++ (FieldType.array (.array (jrT t0))).toString) ∈ jwd) (hx0 : ¬ x < 0) (hy0 : ¬ y < 0) (hz0 : ¬ z < 0) (hxn : x.toNatClampNeg = n) (hyn : y.toNatClampNeg = m9) (hzn : z.toNatClampNeg = k) (hn : n ≤ 65536) (hm : m9 ≤ 65536) (hk : k ≤ 65536) (hc1 : w.2.1 + (1 + n * (m9 + 1)) ≤ k0 + rm.cells) (hc2 : w.2.2 + (n + n * (m9 + m9 * k)) ≤ n0 + rm.slots)
    (kk : ∀ q : Nat, (∀ a e, w.1 a = some e → a < q) → JJ g (jm3 w.1 q n m9 (aR D t n (jro n (fun j => q + 1 + j * (m9 + 1)))) (fun b => aR D t1 m9 (jro m9 (fun j => b + 1 + j))) (jrow D t0 k), w.2.1 + (1 + n * (m9 + 1)), w.2.2 + (n + n * (m9 + m9 * k))) (pc + 4) L (.ref q :: st)) : JJ g w pc L (.int z :: .int y :: .int x :: st) := by
  obtain ⟨⟨hx, hb, hml, ho, hts, hK, hnm, hlk, M0, hM0⟩, rfl, rfl, rfl, rfl⟩ := C
  obtain ⟨rfl, rfl, rfl⟩ := Rm
  subst hxn; subst hyn; subst hzn
  intro H locs ls h1 h2 h3' h4 h5
  obtain ⟨kA, cm, a1, a2, a3, a4⟩ := hK.2.1 t _ ht
  obtain ⟨kM, comp, m1, m2, m3, m4⟩ := hK.2.1 t1 _ ht1
  obtain ⟨kC, cc9, b1, b2, b3, b4⟩ := hK.2.1 t0 _ ht0
  have em : cm = (jGD g).1 (100 + t1) := Option.some.inj ((a4 rfl).symm.trans m3)
  subst em
  have ec : comp = (jGD g).1 (100 + t0) := Option.some.inj ((m4 rfl).symm.trans b3)
  subst ec
  have hB : jGB g ≤ H.size := by rw [h1.1]; omega
  intro T hT X
  have hdf : fits (jrT t0) (defaultValue (jrT t0)) = true ∧ (defaultValue (jrT t0)).isDefault = true := by
    match t0, h3 with
    | 0, _ => exact ⟨rfl, rfl⟩
    | 1, _ => exact ⟨rfl, rfl⟩
    | 2, _ => exact ⟨rfl, rfl⟩
  obtain ⟨vm₁, L9, hW, X1, hL9, X2, hst⟩ := g_mn3 X (B := jGB g) (by rw [hT]; exact hB) h4 hx ho (hts _ hw) a3 a1 a2 m1 m2 b1 b2 (g := F0 (jGm g) pc ls (.int z :: .int y :: .int x :: st)) rfl (by rw [hb]; exact hd) rfl hx0 hy0 hz0 hn hm hk hdf.1 hdf.2 (by omega) (by omega)
  generalize hF : f3S (T.setVm vm₁) ((jGD g).1 (100 + t)) ((jGD g).1 (100 + t1)) ((jGD g).1 (100 + t0)) x.toNatClampNeg y.toNatClampNeg z.toNatClampNeg (defaultValue (jrT t0)) x.toNatClampNeg = F at X2 hst
  have hTh : (T.setVm vm₁).heap = H := hT
  obtain ⟨f1, f2, f3, f4⟩ := f3S_facts (T.setVm vm₁) ((jGD g).1 (100 + t)) ((jGD g).1 (100 + t1)) ((jGD g).1 (100 + t0)) x.toNatClampNeg y.toNatClampNeg z.toNatClampNeg (defaultValue (jrT t0)) x.toNatClampNeg
  rw [hF, hTh] at f1 f2
  rw [hF] at f4
  have hold : ∀ a : Nat, a < H.size → F.heap[a]? = H[a]? := fun a ha => by
    have := f3S_old (T.setVm vm₁) ((jGD g).1 (100 + t)) ((jGD g).1 (100 + t1)) ((jGD g).1 (100 + t0)) x.toNatClampNeg y.toNatClampNeg z.toNatClampNeg (defaultValue (jrT t0)) (a := a) (by rw [hTh]; exact ha) x.toNatClampNeg
    rw [hF, hTh] at this; exact this
  have hin := f3S_in (T.setVm vm₁) ((jGD g).1 (100 + t)) ((jGD g).1 (100 + t1)) ((jGD g).1 (100 + t0)) x.toNatClampNeg y.toNatClampNeg z.toNatClampNeg (defaultValue (jrT t0)) x.toNatClampNeg
  rw [hF, hTh] at hin
  have s1 := jslots X1 hM0 (by rw [hTh]; exact hB)
  have s2 := jslots X2 hM0 (by rw [f1]; omega)
  rw [hTh] at s1
  rw [h1.2.1] at s1
  have f4' : F.slotsUsed = (T.setVm vm₁).slotsUsed + x.toNatClampNeg + x.toNatClampNeg * (y.toNatClampNeg + y.toNatClampNeg * z.toNatClampNeg) := f4
  have hj : jsum F.heap (jGB g) = w.2.2 + (x.toNatClampNeg + x.toNatClampNeg * (y.toNatClampNeg + y.toNatClampNeg * z.toNatClampNeg)) := by omega
  have hH : jH (jGD g) (jGB g) (jGH g) (jm3 w.1 H.size x.toNatClampNeg y.toNatClampNeg (aR (jGD g) t x.toNatClampNeg (jro x.toNatClampNeg (fun j => H.size + 1 + j * (y.toNatClampNeg + 1)))) (fun b => aR (jGD g) t1 y.toNatClampNeg (jro y.toNatClampNeg (fun j => b + 1 + j))) (jrow (jGD g) t0 z.toNatClampNeg), w.2.1 + (1 + x.toNatClampNeg * (y.toNatClampNeg + 1)), w.2.2 + (x.toNatClampNeg + x.toNatClampNeg * (y.toNatClampNeg + y.toNatClampNeg * z.toNatClampNeg))) F.heap := by
    refine ⟨by rw [f1, h1.1]; show _ = _ + (w.2.1 + (1 + _)); omega, hj, fun q hq => by rw [hold q (by omega)]; exact h1.2.2.1 q hq, fun a e ha => ?_⟩
    unfold jm3 at ha
    by_cases q1 : a = H.size
    · subst q1
      simp only [if_true] at ha
      cases ha
      exact ⟨hB, gOC_cell _ _ _ _ f2⟩
    · by_cases q2 : H.size < a ∧ a < H.size + 1 + x.toNatClampNeg * (y.toNatClampNeg + 1)
      · simp only [if_neg q1, if_pos q2] at ha
        have hdv := Nat.div_add_mod (a - H.size - 1) (y.toNatClampNeg + 1)
        have hj1 : (a - H.size - 1) / (y.toNatClampNeg + 1) < x.toNatClampNeg := by
          rw [Nat.div_lt_iff_lt_mul (by omega)]; omega
        rw [Nat.mul_comm] at hdv
        have hml := Nat.mod_lt (a - H.size - 1) (show 0 < y.toNatClampNeg + 1 by omega)
        obtain ⟨g1, g2⟩ := hin ((a - H.size - 1) / (y.toNatClampNeg + 1)) hj1
        by_cases q3 : (a - H.size - 1) % (y.toNatClampNeg + 1) = 0
        · rw [if_pos q3] at ha
          cases ha
          have ea : a = H.size + 1 + (a - H.size - 1) / (y.toNatClampNeg + 1) * (y.toNatClampNeg + 1) := by omega
          refine ⟨by omega, ?_⟩
          rw [← ea] at g1 ⊢
          exact gOC_cell _ _ _ _ g1
        · rw [if_neg q3] at ha
          cases ha
          have g3 := g2 ((a - H.size - 1) % (y.toNatClampNeg + 1) - 1) (by omega)
          have ea : H.size + 1 + (a - H.size - 1) / (y.toNatClampNeg + 1) * (y.toNatClampNeg + 1) + 1 + ((a - H.size - 1) % (y.toNatClampNeg + 1) - 1) = a := by omega
          rw [ea] at g3
          exact ⟨by omega, jrow_cell _ _ _ h3 g3⟩
      · simp only [if_neg q1, if_neg q2] at ha
        exact ⟨h1.le ha, (h1.at ha).kept (hold _ (h1.at ha).lt)⟩
  have key := kk H.size (fun a e ha => (h1.at ha).lt) F.heap _ ls hH (by show _ ≤ w.2.1 + _; omega) (by show _ ≤ w.2.2 + _; omega) hL9 h5
  have a5 : w.2.1 + (1 + x.toNatClampNeg * (y.toNatClampNeg + 1)) - jGk g = w.2.1 - jGk g + 1 + x.toNatClampNeg * (y.toNatClampNeg + 1) := by omega
  have a6 : w.2.2 + (x.toNatClampNeg + x.toNatClampNeg * (y.toNatClampNeg + y.toNatClampNeg * z.toNatClampNeg)) - jGn g = w.2.2 - jGn g + x.toNatClampNeg + x.toNatClampNeg * (y.toNatClampNeg + y.toNatClampNeg * z.toNatClampNeg) := by omega
  simp only [a5, a6] at key
  obtain ⟨t2, c1, c2⟩ := key F rfl X2
  refine ⟨t2, hst t2 ?_, c2⟩
  have e : T.heap.size = H.size := by rw [hT]
  rw [e]
  exact c1
end JM
theorem jm2_old {M : jM} {q n a : Nat} {eo ei : jEl} (h : a < q) : jm2 M q n eo ei a = M a := by
  unfold jm2; rw [if_neg (by omega), if_neg (by omega)]
theorem jm2_out {M : jM} {q n : Nat} {eo ei : jEl} : jm2 M q n eo ei q = some eo := by unfold jm2; rw [if_pos rfl]
theorem jm2_in {M : jM} {q n j : Nat} {eo ei : jEl} (h : j < n) : jm2 M q n eo ei (q + 1 + j) = some ei := by
  unfold jm2; rw [if_neg (by omega), if_pos (by omega)]
theorem jm3_old {M : jM} {q n m a : Nat} {eo ei : jEl} {em : Nat → jEl} (h : a < q) : jm3 M q n m eo em ei a = M a := by
  unfold jm3; rw [if_neg (by omega), if_neg (by omega)]
theorem jm3_out {M : jM} {q n m : Nat} {eo ei : jEl} {em : Nat → jEl} : jm3 M q n m eo em ei q = some eo := by unfold jm3; rw [if_pos rfl]
theorem jm3_mid {M : jM} {q n m j : Nat} {eo ei : jEl} {em : Nat → jEl} (h : j < n) : jm3 M q n m eo em ei (q + 1 + j * (m + 1)) = some (em (q + 1 + j * (m + 1))) := by
  have h2 : (j + 1) * (m + 1) ≤ n * (m + 1) := Nat.mul_le_mul_right _ h
  rw [Nat.succ_mul] at h2
  have e : q + 1 + j * (m + 1) - q - 1 = j * (m + 1) := by omega
  unfold jm3; rw [if_neg (by omega), if_pos (by omega), e, Nat.mul_mod_left, if_pos rfl, Nat.mul_div_cancel _ (by omega)]
theorem jm3_in {M : jM} {q n m j r : Nat} {eo ei : jEl} {em : Nat → jEl} (h : j < n) (hr : r < m) : jm3 M q n m eo em ei (q + 1 + j * (m + 1) + 1 + r) = some ei := by
  have h2 : (j + 1) * (m + 1) ≤ n * (m + 1) := Nat.mul_le_mul_right _ h
  rw [Nat.succ_mul] at h2
  have e : q + 1 + j * (m + 1) + 1 + r - q - 1 = (r + 1) + j * (m + 1) := by omega
  unfold jm3; rw [if_neg (by omega), if_pos (by omega), e, Nat.add_mul_mod_self_right, Nat.mod_eq_of_lt (by omega), if_neg (by omega)]
theorem jfrM2 {P : Nat → Prop} {w0 w w1 : jW} {q n : Nat} {eo ei : jEl} {p : Nat × Nat} (eq : w1 = (jm2 w.1 q n eo ei, p)) (F : jfr P w0 w) (hf : ∀ a e, w.1 a = some e → a < q) : jfr P w0 w1 := fun b e he => by
  obtain ⟨h1, e', h2⟩ := F b e he
  rw [eq]
  have hlt := hf b e' h2
  exact ⟨fun hb => (jm2_old hlt).trans (h1 hb), e', (jm2_old hlt).trans h2⟩
theorem jfrM3 {P : Nat → Prop} {w0 w w1 : jW} {q n m : Nat} {eo ei : jEl} {em : Nat → jEl} {p : Nat × Nat} (eq : w1 = (jm3 w.1 q n m eo em ei, p)) (F : jfr P w0 w) (hf : ∀ a e, w.1 a = some e → a < q) : jfr P w0 w1 := fun b e he => by
  obtain ⟨h1, e', h2⟩ := F b e he
  rw [eq]
  have hlt := hf b e' h2
  exact ⟨fun hb => (jm3_old hlt).trans (h1 hb), e', (jm3_old hlt).trans h2⟩
theorem jm2o {w w1 : jW} {q n : Nat} {eo ei : jEl} {p : Nat × Nat} (eq : w1 = (jm2 w.1 q n eo ei, p)) : w1.1 q = some eo := by rw [eq]; exact jm2_out
theorem jm2i {w w1 : jW} {q n j : Nat} {eo ei : jEl} {p : Nat × Nat} (eq : w1 = (jm2 w.1 q n eo ei, p)) (h : j < n) : w1.1 (q + 1 + j) = some ei := by rw [eq]; exact jm2_in h
theorem jm2p {w w1 : jW} {q n a : Nat} {eo ei e : jEl} {p : Nat × Nat} (eq : w1 = (jm2 w.1 q n eo ei, p)) (hf : ∀ a e, w.1 a = some e → a < q) (h : w.1 a = some e) : w1.1 a = some e := by rw [eq]; exact (jm2_old (hf a e h)).trans h
theorem jm3o {w w1 : jW} {q n m : Nat} {eo ei : jEl} {em : Nat → jEl} {p : Nat × Nat} (eq : w1 = (jm3 w.1 q n m eo em ei, p)) : w1.1 q = some eo := by rw [eq]; exact jm3_out
theorem jm3m {w w1 : jW} {q n m j : Nat} {eo ei : jEl} {em : Nat → jEl} {p : Nat × Nat} (eq : w1 = (jm3 w.1 q n m eo em ei, p)) (h : j < n) : w1.1 (q + 1 + j * (m + 1)) = some (em (q + 1 + j * (m + 1))) := by rw [eq]; exact jm3_mid h
theorem jm3i {w w1 : jW} {q n m j r : Nat} {eo ei : jEl} {em : Nat → jEl} {p : Nat × Nat} (eq : w1 = (jm3 w.1 q n m eo em ei, p)) (h : j < n) (hr : r < m) : w1.1 (q + 1 + j * (m + 1) + 1 + r) = some ei := by rw [eq]; exact jm3_in h hr
theorem jm3p {w w1 : jW} {q n m a : Nat} {eo ei e : jEl} {em : Nat → jEl} {p : Nat × Nat} (eq : w1 = (jm3 w.1 q n m eo em ei, p)) (hf : ∀ a e, w.1 a = some e → a < q) (h : w.1 a = some e) : w1.1 a = some e := by rw [eq]; exact (jm3_old (hf a e h)).trans h
end
section
/-! constructors (own work, by program) -/
theorem sj_0 : "[" ++ (FieldType.array (jrT 0)).toString = "[[I" := by decide +kernel
theorem sj_1 : "[" ++ (FieldType.array (jrT 1)).toString = "[[J" := by decide +kernel
theorem sj_2 : "[" ++ (FieldType.array (jrT 2)).toString = "[[Z" := by decide +kernel
theorem sj_3 : "[" ++ (FieldType.array (.array (jrT 1))).toString = "[[[J" := by decide +kernel
theorem k_c_Sheet_init_0_1 : sblk b_Sheet_init [(0, .aload_n 0, .null)] := sblk_of (by decide +kernel)
theorem d_c_Sheet_init_1 : decode b_Sheet_init 1 = .ok (.invokespecial 3, 3) := by decide +kernel
theorem k_c_Sheet_init_4_2 : sblk b_Sheet_init [(4, .aload_n 0, .null), (5, .bipush 40, .int 40)] := sblk_of (by decide +kernel)
theorem d_c_Sheet_init_7 : decode b_Sheet_init 7 = .ok (.newarray .int, 2) := by decide +kernel
theorem d_c_Sheet_init_9 : decode b_Sheet_init 9 = .ok (.putfield 9, 3) := by decide +kernel
theorem k_c_Sheet_init_12_2 : sblk b_Sheet_init [(12, .aload_n 0, .null), (13, .iconst (-1), .int (-1))] := sblk_of (by decide +kernel)
theorem d_c_Sheet_init_14 : decode b_Sheet_init 14 = .ok (.putfield 15, 3) := by decide +kernel
theorem d_c_Sheet_init_17 : decode b_Sheet_init 17 = .ok (.return_, 1) := by decide +kernel
set_option maxHeartbeats 40000000 in
set_option maxRecDepth 100000 in
theorem c_Sheet_init (l : Launch) (D : va_G) (B : Nat) (H0 : Heap) (w : jW) (a : Nat) (V : Nat → Value) (ha : w.1 a = some (.inr (5, V))) : jMet l D B H0 y_Sheet_init b_Sheet_init 1 none 1 40 1 40 [.ref a] w (fun v w9 => v = none ∧ (w9.2.1 = w.2.1 + 1 ∧ w9.2.2 = w.2.2 + 40) ∧ jfr (fun b => b ≠ a) w w9 ∧ ∃ (V9 : Nat → Value) (c1 : Nat), (∀ b e, w.1 b = some e → b < c1) ∧ w9.1 a = some (.inr (5, V9)) ∧ V9 0 = .ref c1 ∧ V9 1 = .int (-1) ∧ V9 2 = V 2 ∧ w9.1 c1 = some (aI D 40 (fun _ => 0))) := by
  refine j_met (by decide) (Nat.le_of_ble_eq_true rfl) (fun g C Rm Y E => ?_)
  have hin : (jGy g).name = "<init>" := congrArg MethodName.name Y.2.2.2
  have hk := jkz w
  have fr0 : jfr (fun b => b ≠ a) w w := jfr0
  show JJ g w 0 [(0, .ref a)] []
  refine j_blk 1 [(0, .ref a)] [.ref a] C k_c_Sheet_init_0_1 rfl ?_
  refine j_obj C Rm cl_Sheet_3 d_c_Sheet_init_1 (by decide) (by decide) ?_
  refine j_blk 7 [(0, .ref a)] [.int 40, .ref a] C k_c_Sheet_init_4_2 rfl ?_
  refine j_newa (n := 40) C Rm d_c_Sheet_init_7 rfl ac_int (by decide) (by decide) (by decide) (jroom hk.1 rfl) (jroom hk.2 rfl) (fun q1 f_q1 => ?_)
  refine jnv (fun w_1 ew_1 => ?_)
  have m_q1_w_1 : w_1.1 q1 = some (aI D 40 (fun _ => 0)) := jus ew_1
  have hk_w_1 := jk1 ew_1 hk
  have lt_q1 := jfrL fr0 f_q1
  have fr_w_1 := jfrN ew_1 fr0 f_q1
  have x_a_q1 := Nat.ne_of_lt (f_q1 _ _ ha)
  have m_a_w_1 := jun ew_1 ha x_a_q1
  refine j_putF C hin d_c_Sheet_init_9 ff_Sheet_9 m_a_w_1 rfl rfl ?_
  refine jnv (fun w_2 ew_2 => ?_)
  have m_a_w_2 : w_2.1 a = some (.inr (5, (updV V 0 (.ref q1)))) := jus ew_2
  have hk_w_2 := jk0 ew_2 hk_w_1
  have fr_w_2 := jfrW ew_2 fr_w_1 (fun b e hb _ => hb)
  refine j_blk 14 [(0, .ref a)] [.int (-1), .ref a] C k_c_Sheet_init_12_2 rfl ?_
  refine j_put C d_c_Sheet_init_14 fp_Sheet_15 m_a_w_2 rfl rfl ?_
  refine jnv (fun w_3 ew_3 => ?_)
  have m_a_w_3 : w_3.1 a = some (.inr (5, (updV (updV V 0 (.ref q1)) 1 (.int (-1))))) := jus ew_3
  have hk_w_3 := jk0 ew_3 hk_w_2
  have fr_w_3 := jfrW ew_3 fr_w_2 (fun b e hb _ => hb)
  have m_q1_w_2 := jun ew_2 m_q1_w_1 (Ne.symm x_a_q1)
  have m_q1_w_3 := jun ew_3 m_q1_w_2 (Ne.symm x_a_q1)
  exact j_vret C Rm E d_c_Sheet_init_17 ⟨rfl, hk_w_3, fr_w_3, _, q1, lt_q1, m_a_w_3, rfl, rfl, rfl, m_q1_w_3⟩ (jbnd hk_w_3.1 rfl) (jbnd hk_w_3.2 rfl)

theorem k_c_Read_init_0_1 : sblk b_Read_init [(0, .aload_n 0, .null)] := sblk_of (by decide +kernel)
theorem d_c_Read_init_1 : decode b_Read_init 1 = .ok (.invokespecial 3, 3) := by decide +kernel
theorem d_c_Read_init_4 : decode b_Read_init 4 = .ok (.return_, 1) := by decide +kernel
set_option maxHeartbeats 40000000 in
set_option maxRecDepth 100000 in
theorem c_Read_init (l : Launch) (D : va_G) (B : Nat) (H0 : Heap) (w : jW) (a : Nat) (V : Nat → Value) (ha : w.1 a = some (.inr (3, V))) : jMet l D B H0 y_Read_init b_Read_init 1 none 1 40 0 0 [.ref a] w (fun v w9 => v = none ∧ (w9.2.1 = w.2.1 + 0 ∧ w9.2.2 = w.2.2 + 0) ∧ jfr (fun b => b ≠ a) w w9 ∧ ∃ (V9 : Nat → Value), w9.1 a = some (.inr (3, V9)) ∧ V9 0 = V 0 ∧ V9 1 = V 1 ∧ V9 2 = V 2 ∧ V9 3 = V 3 ∧ V9 4 = V 4 ∧ V9 5 = V 5 ∧ V9 6 = V 6 ∧ V9 7 = V 7 ∧ V9 8 = V 8) := by
  refine j_met (by decide) (Nat.le_of_ble_eq_true rfl) (fun g C Rm Y E => ?_)
  have hin : (jGy g).name = "<init>" := congrArg MethodName.name Y.2.2.2
  have hk := jkz w
  have fr0 : jfr (fun b => b ≠ a) w w := jfr0
  show JJ g w 0 [(0, .ref a)] []
  refine j_blk 1 [(0, .ref a)] [.ref a] C k_c_Read_init_0_1 rfl ?_
  refine j_obj C Rm cl_Read_3 d_c_Read_init_1 (by decide) (by decide) ?_
  exact j_vret C Rm E d_c_Read_init_4 ⟨rfl, hk, fr0, _, ha, rfl, rfl, rfl, rfl, rfl, rfl, rfl, rfl, rfl⟩ (jbnd hk.1 rfl) (jbnd hk.2 rfl)

theorem k_c_Mixer_init_0_1 : sblk b_Mixer_init [(0, .aload_n 0, .null)] := sblk_of (by decide +kernel)
theorem d_c_Mixer_init_1 : decode b_Mixer_init 1 = .ok (.invokespecial 3, 3) := by decide +kernel
theorem k_c_Mixer_init_4_2 : sblk b_Mixer_init [(4, .aload_n 0, .null), (5, .sipush 300, .int 300)] := sblk_of (by decide +kernel)
theorem d_c_Mixer_init_8 : decode b_Mixer_init 8 = .ok (.newarray .int, 2) := by decide +kernel
theorem d_c_Mixer_init_10 : decode b_Mixer_init 10 = .ok (.putfield 9, 3) := by decide +kernel
theorem k_c_Mixer_init_13_2 : sblk b_Mixer_init [(13, .aload_n 0, .null), (14, .sipush 300, .int 300)] := sblk_of (by decide +kernel)
theorem d_c_Mixer_init_17 : decode b_Mixer_init 17 = .ok (.newarray .long, 2) := by decide +kernel
theorem d_c_Mixer_init_19 : decode b_Mixer_init 19 = .ok (.putfield 15, 3) := by decide +kernel
theorem k_c_Mixer_init_22_2 : sblk b_Mixer_init [(22, .aload_n 0, .null), (23, .sipush 1024, .int 1024)] := sblk_of (by decide +kernel)
theorem d_c_Mixer_init_26 : decode b_Mixer_init 26 = .ok (.newarray .int, 2) := by decide +kernel
theorem d_c_Mixer_init_28 : decode b_Mixer_init 28 = .ok (.putfield 19, 3) := by decide +kernel
theorem k_c_Mixer_init_31_2 : sblk b_Mixer_init [(31, .aload_n 0, .null), (32, .sipush 300, .int 300)] := sblk_of (by decide +kernel)
theorem d_c_Mixer_init_35 : decode b_Mixer_init 35 = .ok (.newarray .int, 2) := by decide +kernel
theorem d_c_Mixer_init_37 : decode b_Mixer_init 37 = .ok (.putfield 22, 3) := by decide +kernel
theorem d_c_Mixer_init_40 : decode b_Mixer_init 40 = .ok (.return_, 1) := by decide +kernel
set_option maxHeartbeats 40000000 in
set_option maxRecDepth 100000 in
theorem c_Mixer_init (l : Launch) (D : va_G) (B : Nat) (H0 : Heap) (w : jW) (a : Nat) (V : Nat → Value) (ha : w.1 a = some (.inr (1, V))) : jMet l D B H0 y_Mixer_init b_Mixer_init 1 none 1 40 4 1924 [.ref a] w (fun v w9 => v = none ∧ (w9.2.1 = w.2.1 + 4 ∧ w9.2.2 = w.2.2 + 1924) ∧ jfr (fun b => b ≠ a) w w9 ∧ ∃ (V9 : Nat → Value) (c1 c2 c3 c4 : Nat), (∀ b e, w.1 b = some e → b < c1) ∧ (∀ b e, w.1 b = some e → b < c2) ∧ (∀ b e, w.1 b = some e → b < c3) ∧ (∀ b e, w.1 b = some e → b < c4) ∧ w9.1 a = some (.inr (1, V9)) ∧ V9 0 = .ref c1 ∧ V9 1 = .ref c2 ∧ V9 2 = V 2 ∧ V9 3 = .ref c3 ∧ V9 4 = .ref c4 ∧ w9.1 c1 = some (aI D 300 (fun _ => 0)) ∧ w9.1 c2 = some (aJ D 300 (fun _ => 0)) ∧ w9.1 c3 = some (aI D 1024 (fun _ => 0)) ∧ w9.1 c4 = some (aI D 300 (fun _ => 0))) := by
  refine j_met (by decide) (Nat.le_of_ble_eq_true rfl) (fun g C Rm Y E => ?_)
  have hin : (jGy g).name = "<init>" := congrArg MethodName.name Y.2.2.2
  have hk := jkz w
  have fr0 : jfr (fun b => b ≠ a) w w := jfr0
  show JJ g w 0 [(0, .ref a)] []
  refine j_blk 1 [(0, .ref a)] [.ref a] C k_c_Mixer_init_0_1 rfl ?_
  refine j_obj C Rm cl_Mixer_3 d_c_Mixer_init_1 (by decide) (by decide) ?_
  refine j_blk 8 [(0, .ref a)] [.int 300, .ref a] C k_c_Mixer_init_4_2 rfl ?_
  refine j_newa (n := 300) C Rm d_c_Mixer_init_8 rfl ac_int (by decide) (by decide) (by decide) (jroom hk.1 rfl) (jroom hk.2 rfl) (fun q1 f_q1 => ?_)
  refine jnv (fun w_1 ew_1 => ?_)
  have m_q1_w_1 : w_1.1 q1 = some (aI D 300 (fun _ => 0)) := jus ew_1
  have hk_w_1 := jk1 ew_1 hk
  have lt_q1 := jfrL fr0 f_q1
  have fr_w_1 := jfrN ew_1 fr0 f_q1
  have x_a_q1 := Nat.ne_of_lt (f_q1 _ _ ha)
  have m_a_w_1 := jun ew_1 ha x_a_q1
  refine j_put C d_c_Mixer_init_10 fp_Mixer_9 m_a_w_1 rfl rfl ?_
  refine jnv (fun w_2 ew_2 => ?_)
  have m_a_w_2 : w_2.1 a = some (.inr (1, (updV V 0 (.ref q1)))) := jus ew_2
  have hk_w_2 := jk0 ew_2 hk_w_1
  have fr_w_2 := jfrW ew_2 fr_w_1 (fun b e hb _ => hb)
  refine j_blk 17 [(0, .ref a)] [.int 300, .ref a] C k_c_Mixer_init_13_2 rfl ?_
  refine j_newa (n := 300) C Rm d_c_Mixer_init_17 rfl ac_long (by decide) (by decide) (by decide) (jroom hk_w_2.1 rfl) (jroom hk_w_2.2 rfl) (fun q2 f_q2 => ?_)
  refine jnv (fun w_3 ew_3 => ?_)
  have m_q2_w_3 : w_3.1 q2 = some (aJ D 300 (fun _ => 0)) := jus ew_3
  have hk_w_3 := jk1 ew_3 hk_w_2
  have lt_q2 := jfrL fr_w_2 f_q2
  have fr_w_3 := jfrN ew_3 fr_w_2 f_q2
  have x_a_q2 := Nat.ne_of_lt (f_q2 _ _ m_a_w_2)
  have m_a_w_3 := jun ew_3 m_a_w_2 x_a_q2
  refine j_put C d_c_Mixer_init_19 fp_Mixer_15 m_a_w_3 rfl rfl ?_
  refine jnv (fun w_4 ew_4 => ?_)
  have m_a_w_4 : w_4.1 a = some (.inr (1, (updV (updV V 0 (.ref q1)) 1 (.ref q2)))) := jus ew_4
  have hk_w_4 := jk0 ew_4 hk_w_3
  have fr_w_4 := jfrW ew_4 fr_w_3 (fun b e hb _ => hb)
  refine j_blk 26 [(0, .ref a)] [.int 1024, .ref a] C k_c_Mixer_init_22_2 rfl ?_
  refine j_newa (n := 1024) C Rm d_c_Mixer_init_26 rfl ac_int (by decide) (by decide) (by decide) (jroom hk_w_4.1 rfl) (jroom hk_w_4.2 rfl) (fun q3 f_q3 => ?_)
  refine jnv (fun w_5 ew_5 => ?_)
  have m_q3_w_5 : w_5.1 q3 = some (aI D 1024 (fun _ => 0)) := jus ew_5
  have hk_w_5 := jk1 ew_5 hk_w_4
  have lt_q3 := jfrL fr_w_4 f_q3
  have fr_w_5 := jfrN ew_5 fr_w_4 f_q3
  have x_a_q3 := Nat.ne_of_lt (f_q3 _ _ m_a_w_4)
  have m_a_w_5 := jun ew_5 m_a_w_4 x_a_q3
  refine j_putF C hin d_c_Mixer_init_28 ff_Mixer_19 m_a_w_5 rfl rfl ?_
  refine jnv (fun w_6 ew_6 => ?_)
  have m_a_w_6 : w_6.1 a = some (.inr (1, (updV (updV (updV V 0 (.ref q1)) 1 (.ref q2)) 3 (.ref q3)))) := jus ew_6
  have hk_w_6 := jk0 ew_6 hk_w_5
  have fr_w_6 := jfrW ew_6 fr_w_5 (fun b e hb _ => hb)
  refine j_blk 35 [(0, .ref a)] [.int 300, .ref a] C k_c_Mixer_init_31_2 rfl ?_
  refine j_newa (n := 300) C Rm d_c_Mixer_init_35 rfl ac_int (by decide) (by decide) (by decide) (jroom hk_w_6.1 rfl) (jroom hk_w_6.2 rfl) (fun q4 f_q4 => ?_)
  refine jnv (fun w_7 ew_7 => ?_)
  have m_q4_w_7 : w_7.1 q4 = some (aI D 300 (fun _ => 0)) := jus ew_7
  have hk_w_7 := jk1 ew_7 hk_w_6
  have lt_q4 := jfrL fr_w_6 f_q4
  have fr_w_7 := jfrN ew_7 fr_w_6 f_q4
  have x_a_q4 := Nat.ne_of_lt (f_q4 _ _ m_a_w_6)
  have m_a_w_7 := jun ew_7 m_a_w_6 x_a_q4
  refine j_putF C hin d_c_Mixer_init_37 ff_Mixer_22 m_a_w_7 rfl rfl ?_
  refine jnv (fun w_8 ew_8 => ?_)
  have m_a_w_8 : w_8.1 a = some (.inr (1, (updV (updV (updV (updV V 0 (.ref q1)) 1 (.ref q2)) 3 (.ref q3)) 4 (.ref q4)))) := jus ew_8
  have hk_w_8 := jk0 ew_8 hk_w_7
  have fr_w_8 := jfrW ew_8 fr_w_7 (fun b e hb _ => hb)
  have m_q1_w_2 := jun ew_2 m_q1_w_1 (Ne.symm x_a_q1)
  have x_q1_q2 := Nat.ne_of_lt (f_q2 _ _ m_q1_w_2)
  have m_q1_w_3 := jun ew_3 m_q1_w_2 x_q1_q2
  have m_q1_w_4 := jun ew_4 m_q1_w_3 (Ne.symm x_a_q1)
  have x_q1_q3 := Nat.ne_of_lt (f_q3 _ _ m_q1_w_4)
  have m_q1_w_5 := jun ew_5 m_q1_w_4 x_q1_q3
  have m_q1_w_6 := jun ew_6 m_q1_w_5 (Ne.symm x_a_q1)
  have x_q1_q4 := Nat.ne_of_lt (f_q4 _ _ m_q1_w_6)
  have m_q1_w_7 := jun ew_7 m_q1_w_6 x_q1_q4
  have m_q1_w_8 := jun ew_8 m_q1_w_7 (Ne.symm x_a_q1)
  have m_q2_w_4 := jun ew_4 m_q2_w_3 (Ne.symm x_a_q2)
  have x_q2_q3 := Nat.ne_of_lt (f_q3 _ _ m_q2_w_4)
  have m_q2_w_5 := jun ew_5 m_q2_w_4 x_q2_q3
  have m_q2_w_6 := jun ew_6 m_q2_w_5 (Ne.symm x_a_q2)
  have x_q2_q4 := Nat.ne_of_lt (f_q4 _ _ m_q2_w_6)
  have m_q2_w_7 := jun ew_7 m_q2_w_6 x_q2_q4
  have m_q2_w_8 := jun ew_8 m_q2_w_7 (Ne.symm x_a_q2)
  have m_q3_w_6 := jun ew_6 m_q3_w_5 (Ne.symm x_a_q3)
  have x_q3_q4 := Nat.ne_of_lt (f_q4 _ _ m_q3_w_6)
  have m_q3_w_7 := jun ew_7 m_q3_w_6 x_q3_q4
  have m_q3_w_8 := jun ew_8 m_q3_w_7 (Ne.symm x_a_q3)
  have m_q4_w_8 := jun ew_8 m_q4_w_7 (Ne.symm x_a_q4)
  exact j_vret C Rm E d_c_Mixer_init_40 ⟨rfl, hk_w_8, fr_w_8, _, q1, q2, q3, q4, lt_q1, lt_q2, lt_q3, lt_q4, m_a_w_8, rfl, rfl, rfl, rfl, rfl, m_q1_w_8, m_q2_w_8, m_q3_w_8, m_q4_w_8⟩ (jbnd hk_w_8.1 rfl) (jbnd hk_w_8.2 rfl)

theorem k_c_Odds_init_0_1 : sblk b_Odds_init [(0, .aload_n 0, .null)] := sblk_of (by decide +kernel)
theorem d_c_Odds_init_1 : decode b_Odds_init 1 = .ok (.invokespecial 3, 3) := by decide +kernel
theorem k_c_Odds_init_4_2 : sblk b_Odds_init [(4, .aload_n 0, .null), (5, .sipush 301, .int 301)] := sblk_of (by decide +kernel)
theorem d_c_Odds_init_8 : decode b_Odds_init 8 = .ok (.newarray .int, 2) := by decide +kernel
theorem d_c_Odds_init_10 : decode b_Odds_init 10 = .ok (.putfield 9, 3) := by decide +kernel
theorem k_c_Odds_init_13_2 : sblk b_Odds_init [(13, .aload_n 0, .null), (14, .sipush 301, .int 301)] := sblk_of (by decide +kernel)
theorem d_c_Odds_init_17 : decode b_Odds_init 17 = .ok (.newarray .long, 2) := by decide +kernel
theorem d_c_Odds_init_19 : decode b_Odds_init 19 = .ok (.putfield 15, 3) := by decide +kernel
theorem d_c_Odds_init_22 : decode b_Odds_init 22 = .ok (.return_, 1) := by decide +kernel
set_option maxHeartbeats 40000000 in
set_option maxRecDepth 100000 in
theorem c_Odds_init (l : Launch) (D : va_G) (B : Nat) (H0 : Heap) (w : jW) (a : Nat) (V : Nat → Value) (ha : w.1 a = some (.inr (9, V))) : jMet l D B H0 y_Odds_init b_Odds_init 1 none 1 40 2 602 [.ref a] w (fun v w9 => v = none ∧ (w9.2.1 = w.2.1 + 2 ∧ w9.2.2 = w.2.2 + 602) ∧ jfr (fun b => b ≠ a) w w9 ∧ ∃ (V9 : Nat → Value) (c1 c2 : Nat), (∀ b e, w.1 b = some e → b < c1) ∧ (∀ b e, w.1 b = some e → b < c2) ∧ w9.1 a = some (.inr (9, V9)) ∧ V9 0 = .ref c1 ∧ V9 1 = .ref c2 ∧ V9 2 = V 2 ∧ w9.1 c1 = some (aI D 301 (fun _ => 0)) ∧ w9.1 c2 = some (aJ D 301 (fun _ => 0))) := by
  refine j_met (by decide) (Nat.le_of_ble_eq_true rfl) (fun g C Rm Y E => ?_)
  have hin : (jGy g).name = "<init>" := congrArg MethodName.name Y.2.2.2
  have hk := jkz w
  have fr0 : jfr (fun b => b ≠ a) w w := jfr0
  show JJ g w 0 [(0, .ref a)] []
  refine j_blk 1 [(0, .ref a)] [.ref a] C k_c_Odds_init_0_1 rfl ?_
  refine j_obj C Rm cl_Odds_3 d_c_Odds_init_1 (by decide) (by decide) ?_
  refine j_blk 8 [(0, .ref a)] [.int 301, .ref a] C k_c_Odds_init_4_2 rfl ?_
  refine j_newa (n := 301) C Rm d_c_Odds_init_8 rfl ac_int (by decide) (by decide) (by decide) (jroom hk.1 rfl) (jroom hk.2 rfl) (fun q1 f_q1 => ?_)
  refine jnv (fun w_1 ew_1 => ?_)
  have m_q1_w_1 : w_1.1 q1 = some (aI D 301 (fun _ => 0)) := jus ew_1
  have hk_w_1 := jk1 ew_1 hk
  have lt_q1 := jfrL fr0 f_q1
  have fr_w_1 := jfrN ew_1 fr0 f_q1
  have x_a_q1 := Nat.ne_of_lt (f_q1 _ _ ha)
  have m_a_w_1 := jun ew_1 ha x_a_q1
  refine j_putF C hin d_c_Odds_init_10 ff_Odds_9 m_a_w_1 rfl rfl ?_
  refine jnv (fun w_2 ew_2 => ?_)
  have m_a_w_2 : w_2.1 a = some (.inr (9, (updV V 0 (.ref q1)))) := jus ew_2
  have hk_w_2 := jk0 ew_2 hk_w_1
  have fr_w_2 := jfrW ew_2 fr_w_1 (fun b e hb _ => hb)
  refine j_blk 17 [(0, .ref a)] [.int 301, .ref a] C k_c_Odds_init_13_2 rfl ?_
  refine j_newa (n := 301) C Rm d_c_Odds_init_17 rfl ac_long (by decide) (by decide) (by decide) (jroom hk_w_2.1 rfl) (jroom hk_w_2.2 rfl) (fun q2 f_q2 => ?_)
  refine jnv (fun w_3 ew_3 => ?_)
  have m_q2_w_3 : w_3.1 q2 = some (aJ D 301 (fun _ => 0)) := jus ew_3
  have hk_w_3 := jk1 ew_3 hk_w_2
  have lt_q2 := jfrL fr_w_2 f_q2
  have fr_w_3 := jfrN ew_3 fr_w_2 f_q2
  have x_a_q2 := Nat.ne_of_lt (f_q2 _ _ m_a_w_2)
  have m_a_w_3 := jun ew_3 m_a_w_2 x_a_q2
  refine j_putF C hin d_c_Odds_init_19 ff_Odds_15 m_a_w_3 rfl rfl ?_
  refine jnv (fun w_4 ew_4 => ?_)
  have m_a_w_4 : w_4.1 a = some (.inr (9, (updV (updV V 0 (.ref q1)) 1 (.ref q2)))) := jus ew_4
  have hk_w_4 := jk0 ew_4 hk_w_3
  have fr_w_4 := jfrW ew_4 fr_w_3 (fun b e hb _ => hb)
  have m_q1_w_2 := jun ew_2 m_q1_w_1 (Ne.symm x_a_q1)
  have x_q1_q2 := Nat.ne_of_lt (f_q2 _ _ m_q1_w_2)
  have m_q1_w_3 := jun ew_3 m_q1_w_2 x_q1_q2
  have m_q1_w_4 := jun ew_4 m_q1_w_3 (Ne.symm x_a_q1)
  have m_q2_w_4 := jun ew_4 m_q2_w_3 (Ne.symm x_a_q2)
  exact j_vret C Rm E d_c_Odds_init_22 ⟨rfl, hk_w_4, fr_w_4, _, q1, q2, lt_q1, lt_q2, m_a_w_4, rfl, rfl, rfl, m_q1_w_4, m_q2_w_4⟩ (jbnd hk_w_4.1 rfl) (jbnd hk_w_4.2 rfl)

theorem k_c_Crowd_init_0_1 : sblk b_Crowd_init [(0, .aload_n 0, .null)] := sblk_of (by decide +kernel)
theorem d_c_Crowd_init_1 : decode b_Crowd_init 1 = .ok (.invokespecial 3, 3) := by decide +kernel
theorem k_c_Crowd_init_4_2 : sblk b_Crowd_init [(4, .aload_n 0, .null), (5, .sipush 300, .int 300)] := sblk_of (by decide +kernel)
theorem d_c_Crowd_init_8 : decode b_Crowd_init 8 = .ok (.newarray .int, 2) := by decide +kernel
theorem d_c_Crowd_init_10 : decode b_Crowd_init 10 = .ok (.putfield 9, 3) := by decide +kernel
theorem k_c_Crowd_init_13_2 : sblk b_Crowd_init [(13, .aload_n 0, .null), (14, .sipush 300, .int 300)] := sblk_of (by decide +kernel)
theorem d_c_Crowd_init_17 : decode b_Crowd_init 17 = .ok (.newarray .long, 2) := by decide +kernel
theorem d_c_Crowd_init_19 : decode b_Crowd_init 19 = .ok (.putfield 15, 3) := by decide +kernel
theorem d_c_Crowd_init_22 : decode b_Crowd_init 22 = .ok (.return_, 1) := by decide +kernel
set_option maxHeartbeats 40000000 in
set_option maxRecDepth 100000 in
theorem c_Crowd_init (l : Launch) (D : va_G) (B : Nat) (H0 : Heap) (w : jW) (a : Nat) (V : Nat → Value) (ha : w.1 a = some (.inr (0, V))) : jMet l D B H0 y_Crowd_init b_Crowd_init 1 none 1 40 2 600 [.ref a] w (fun v w9 => v = none ∧ (w9.2.1 = w.2.1 + 2 ∧ w9.2.2 = w.2.2 + 600) ∧ jfr (fun b => b ≠ a) w w9 ∧ ∃ (V9 : Nat → Value) (c1 c2 : Nat), (∀ b e, w.1 b = some e → b < c1) ∧ (∀ b e, w.1 b = some e → b < c2) ∧ w9.1 a = some (.inr (0, V9)) ∧ V9 0 = .ref c1 ∧ V9 1 = .ref c2 ∧ V9 2 = V 2 ∧ V9 3 = V 3 ∧ w9.1 c1 = some (aI D 300 (fun _ => 0)) ∧ w9.1 c2 = some (aJ D 300 (fun _ => 0))) := by
  refine j_met (by decide) (Nat.le_of_ble_eq_true rfl) (fun g C Rm Y E => ?_)
  have hin : (jGy g).name = "<init>" := congrArg MethodName.name Y.2.2.2
  have hk := jkz w
  have fr0 : jfr (fun b => b ≠ a) w w := jfr0
  show JJ g w 0 [(0, .ref a)] []
  refine j_blk 1 [(0, .ref a)] [.ref a] C k_c_Crowd_init_0_1 rfl ?_
  refine j_obj C Rm cl_Crowd_3 d_c_Crowd_init_1 (by decide) (by decide) ?_
  refine j_blk 8 [(0, .ref a)] [.int 300, .ref a] C k_c_Crowd_init_4_2 rfl ?_
  refine j_newa (n := 300) C Rm d_c_Crowd_init_8 rfl ac_int (by decide) (by decide) (by decide) (jroom hk.1 rfl) (jroom hk.2 rfl) (fun q1 f_q1 => ?_)
  refine jnv (fun w_1 ew_1 => ?_)
  have m_q1_w_1 : w_1.1 q1 = some (aI D 300 (fun _ => 0)) := jus ew_1
  have hk_w_1 := jk1 ew_1 hk
  have lt_q1 := jfrL fr0 f_q1
  have fr_w_1 := jfrN ew_1 fr0 f_q1
  have x_a_q1 := Nat.ne_of_lt (f_q1 _ _ ha)
  have m_a_w_1 := jun ew_1 ha x_a_q1
  refine j_put C d_c_Crowd_init_10 fp_Crowd_9 m_a_w_1 rfl rfl ?_
  refine jnv (fun w_2 ew_2 => ?_)
  have m_a_w_2 : w_2.1 a = some (.inr (0, (updV V 0 (.ref q1)))) := jus ew_2
  have hk_w_2 := jk0 ew_2 hk_w_1
  have fr_w_2 := jfrW ew_2 fr_w_1 (fun b e hb _ => hb)
  refine j_blk 17 [(0, .ref a)] [.int 300, .ref a] C k_c_Crowd_init_13_2 rfl ?_
  refine j_newa (n := 300) C Rm d_c_Crowd_init_17 rfl ac_long (by decide) (by decide) (by decide) (jroom hk_w_2.1 rfl) (jroom hk_w_2.2 rfl) (fun q2 f_q2 => ?_)
  refine jnv (fun w_3 ew_3 => ?_)
  have m_q2_w_3 : w_3.1 q2 = some (aJ D 300 (fun _ => 0)) := jus ew_3
  have hk_w_3 := jk1 ew_3 hk_w_2
  have lt_q2 := jfrL fr_w_2 f_q2
  have fr_w_3 := jfrN ew_3 fr_w_2 f_q2
  have x_a_q2 := Nat.ne_of_lt (f_q2 _ _ m_a_w_2)
  have m_a_w_3 := jun ew_3 m_a_w_2 x_a_q2
  refine j_put C d_c_Crowd_init_19 fp_Crowd_15 m_a_w_3 rfl rfl ?_
  refine jnv (fun w_4 ew_4 => ?_)
  have m_a_w_4 : w_4.1 a = some (.inr (0, (updV (updV V 0 (.ref q1)) 1 (.ref q2)))) := jus ew_4
  have hk_w_4 := jk0 ew_4 hk_w_3
  have fr_w_4 := jfrW ew_4 fr_w_3 (fun b e hb _ => hb)
  have m_q1_w_2 := jun ew_2 m_q1_w_1 (Ne.symm x_a_q1)
  have x_q1_q2 := Nat.ne_of_lt (f_q2 _ _ m_q1_w_2)
  have m_q1_w_3 := jun ew_3 m_q1_w_2 x_q1_q2
  have m_q1_w_4 := jun ew_4 m_q1_w_3 (Ne.symm x_a_q1)
  have m_q2_w_4 := jun ew_4 m_q2_w_3 (Ne.symm x_a_q2)
  exact j_vret C Rm E d_c_Crowd_init_22 ⟨rfl, hk_w_4, fr_w_4, _, q1, q2, lt_q1, lt_q2, m_a_w_4, rfl, rfl, rfl, rfl, m_q1_w_4, m_q2_w_4⟩ (jbnd hk_w_4.1 rfl) (jbnd hk_w_4.2 rfl)

theorem k_c_Step_init_0_1 : sblk b_Step_init [(0, .aload_n 0, .null)] := sblk_of (by decide +kernel)
theorem d_c_Step_init_1 : decode b_Step_init 1 = .ok (.invokespecial 3, 3) := by decide +kernel
theorem d_c_Step_init_4 : decode b_Step_init 4 = .ok (.return_, 1) := by decide +kernel
set_option maxHeartbeats 40000000 in
set_option maxRecDepth 100000 in
theorem c_Step_init (l : Launch) (D : va_G) (B : Nat) (H0 : Heap) (w : jW) (a : Nat) (V : Nat → Value) (ha : w.1 a = some (.inr (6, V))) : jMet l D B H0 y_Step_init b_Step_init 1 none 1 40 0 0 [.ref a] w (fun v w9 => v = none ∧ (w9.2.1 = w.2.1 + 0 ∧ w9.2.2 = w.2.2 + 0) ∧ jfr (fun b => b ≠ a) w w9 ∧ ∃ (V9 : Nat → Value), w9.1 a = some (.inr (6, V9)) ∧ V9 0 = V 0 ∧ V9 1 = V 1 ∧ V9 2 = V 2 ∧ V9 3 = V 3 ∧ V9 4 = V 4 ∧ V9 5 = V 5 ∧ V9 6 = V 6 ∧ V9 7 = V 7 ∧ V9 8 = V 8 ∧ V9 9 = V 9 ∧ V9 10 = V 10 ∧ V9 11 = V 11 ∧ V9 12 = V 12 ∧ V9 13 = V 13) := by
  refine j_met (by decide) (Nat.le_of_ble_eq_true rfl) (fun g C Rm Y E => ?_)
  have hin : (jGy g).name = "<init>" := congrArg MethodName.name Y.2.2.2
  have hk := jkz w
  have fr0 : jfr (fun b => b ≠ a) w w := jfr0
  show JJ g w 0 [(0, .ref a)] []
  refine j_blk 1 [(0, .ref a)] [.ref a] C k_c_Step_init_0_1 rfl ?_
  refine j_obj C Rm cl_Step_3 d_c_Step_init_1 (by decide) (by decide) ?_
  exact j_vret C Rm E d_c_Step_init_4 ⟨rfl, hk, fr0, _, ha, rfl, rfl, rfl, rfl, rfl, rfl, rfl, rfl, rfl, rfl, rfl, rfl, rfl, rfl⟩ (jbnd hk.1 rfl) (jbnd hk.2 rfl)

theorem k_c_Runs_init_0_1 : sblk b_Runs_init [(0, .aload_n 0, .null)] := sblk_of (by decide +kernel)
theorem d_c_Runs_init_1 : decode b_Runs_init 1 = .ok (.invokespecial 3, 3) := by decide +kernel
theorem k_c_Runs_init_4_2 : sblk b_Runs_init [(4, .aload_n 0, .null), (5, .bipush 10, .int 10)] := sblk_of (by decide +kernel)
theorem d_c_Runs_init_7 : decode b_Runs_init 7 = .ok (.newarray .int, 2) := by decide +kernel
theorem d_c_Runs_init_9 : decode b_Runs_init 9 = .ok (.putfield 9, 3) := by decide +kernel
theorem k_c_Runs_init_12_2 : sblk b_Runs_init [(12, .aload_n 0, .null), (13, .bipush 100, .int 100)] := sblk_of (by decide +kernel)
theorem d_c_Runs_init_15 : decode b_Runs_init 15 = .ok (.newarray .long, 2) := by decide +kernel
theorem d_c_Runs_init_17 : decode b_Runs_init 17 = .ok (.putfield 15, 3) := by decide +kernel
theorem k_c_Runs_init_20_2 : sblk b_Runs_init [(20, .aload_n 0, .null), (21, .bipush 10, .int 10)] := sblk_of (by decide +kernel)
theorem d_c_Runs_init_23 : decode b_Runs_init 23 = .ok (.newarray .long, 2) := by decide +kernel
theorem d_c_Runs_init_25 : decode b_Runs_init 25 = .ok (.putfield 19, 3) := by decide +kernel
theorem d_c_Runs_init_28 : decode b_Runs_init 28 = .ok (.return_, 1) := by decide +kernel
set_option maxHeartbeats 40000000 in
set_option maxRecDepth 100000 in
theorem c_Runs_init (l : Launch) (D : va_G) (B : Nat) (H0 : Heap) (w : jW) (a : Nat) (V : Nat → Value) (ha : w.1 a = some (.inr (4, V))) : jMet l D B H0 y_Runs_init b_Runs_init 1 none 1 40 3 120 [.ref a] w (fun v w9 => v = none ∧ (w9.2.1 = w.2.1 + 3 ∧ w9.2.2 = w.2.2 + 120) ∧ jfr (fun b => b ≠ a) w w9 ∧ ∃ (V9 : Nat → Value) (c1 c2 c3 : Nat), (∀ b e, w.1 b = some e → b < c1) ∧ (∀ b e, w.1 b = some e → b < c2) ∧ (∀ b e, w.1 b = some e → b < c3) ∧ w9.1 a = some (.inr (4, V9)) ∧ V9 0 = .ref c1 ∧ V9 1 = .ref c2 ∧ V9 2 = .ref c3 ∧ w9.1 c1 = some (aI D 10 (fun _ => 0)) ∧ w9.1 c2 = some (aJ D 100 (fun _ => 0)) ∧ w9.1 c3 = some (aJ D 10 (fun _ => 0))) := by
  refine j_met (by decide) (Nat.le_of_ble_eq_true rfl) (fun g C Rm Y E => ?_)
  have hin : (jGy g).name = "<init>" := congrArg MethodName.name Y.2.2.2
  have hk := jkz w
  have fr0 : jfr (fun b => b ≠ a) w w := jfr0
  show JJ g w 0 [(0, .ref a)] []
  refine j_blk 1 [(0, .ref a)] [.ref a] C k_c_Runs_init_0_1 rfl ?_
  refine j_obj C Rm cl_Runs_3 d_c_Runs_init_1 (by decide) (by decide) ?_
  refine j_blk 7 [(0, .ref a)] [.int 10, .ref a] C k_c_Runs_init_4_2 rfl ?_
  refine j_newa (n := 10) C Rm d_c_Runs_init_7 rfl ac_int (by decide) (by decide) (by decide) (jroom hk.1 rfl) (jroom hk.2 rfl) (fun q1 f_q1 => ?_)
  refine jnv (fun w_1 ew_1 => ?_)
  have m_q1_w_1 : w_1.1 q1 = some (aI D 10 (fun _ => 0)) := jus ew_1
  have hk_w_1 := jk1 ew_1 hk
  have lt_q1 := jfrL fr0 f_q1
  have fr_w_1 := jfrN ew_1 fr0 f_q1
  have x_a_q1 := Nat.ne_of_lt (f_q1 _ _ ha)
  have m_a_w_1 := jun ew_1 ha x_a_q1
  refine j_putF C hin d_c_Runs_init_9 ff_Runs_9 m_a_w_1 rfl rfl ?_
  refine jnv (fun w_2 ew_2 => ?_)
  have m_a_w_2 : w_2.1 a = some (.inr (4, (updV V 0 (.ref q1)))) := jus ew_2
  have hk_w_2 := jk0 ew_2 hk_w_1
  have fr_w_2 := jfrW ew_2 fr_w_1 (fun b e hb _ => hb)
  refine j_blk 15 [(0, .ref a)] [.int 100, .ref a] C k_c_Runs_init_12_2 rfl ?_
  refine j_newa (n := 100) C Rm d_c_Runs_init_15 rfl ac_long (by decide) (by decide) (by decide) (jroom hk_w_2.1 rfl) (jroom hk_w_2.2 rfl) (fun q2 f_q2 => ?_)
  refine jnv (fun w_3 ew_3 => ?_)
  have m_q2_w_3 : w_3.1 q2 = some (aJ D 100 (fun _ => 0)) := jus ew_3
  have hk_w_3 := jk1 ew_3 hk_w_2
  have lt_q2 := jfrL fr_w_2 f_q2
  have fr_w_3 := jfrN ew_3 fr_w_2 f_q2
  have x_a_q2 := Nat.ne_of_lt (f_q2 _ _ m_a_w_2)
  have m_a_w_3 := jun ew_3 m_a_w_2 x_a_q2
  refine j_putF C hin d_c_Runs_init_17 ff_Runs_15 m_a_w_3 rfl rfl ?_
  refine jnv (fun w_4 ew_4 => ?_)
  have m_a_w_4 : w_4.1 a = some (.inr (4, (updV (updV V 0 (.ref q1)) 1 (.ref q2)))) := jus ew_4
  have hk_w_4 := jk0 ew_4 hk_w_3
  have fr_w_4 := jfrW ew_4 fr_w_3 (fun b e hb _ => hb)
  refine j_blk 23 [(0, .ref a)] [.int 10, .ref a] C k_c_Runs_init_20_2 rfl ?_
  refine j_newa (n := 10) C Rm d_c_Runs_init_23 rfl ac_long (by decide) (by decide) (by decide) (jroom hk_w_4.1 rfl) (jroom hk_w_4.2 rfl) (fun q3 f_q3 => ?_)
  refine jnv (fun w_5 ew_5 => ?_)
  have m_q3_w_5 : w_5.1 q3 = some (aJ D 10 (fun _ => 0)) := jus ew_5
  have hk_w_5 := jk1 ew_5 hk_w_4
  have lt_q3 := jfrL fr_w_4 f_q3
  have fr_w_5 := jfrN ew_5 fr_w_4 f_q3
  have x_a_q3 := Nat.ne_of_lt (f_q3 _ _ m_a_w_4)
  have m_a_w_5 := jun ew_5 m_a_w_4 x_a_q3
  refine j_putF C hin d_c_Runs_init_25 ff_Runs_19 m_a_w_5 rfl rfl ?_
  refine jnv (fun w_6 ew_6 => ?_)
  have m_a_w_6 : w_6.1 a = some (.inr (4, (updV (updV (updV V 0 (.ref q1)) 1 (.ref q2)) 2 (.ref q3)))) := jus ew_6
  have hk_w_6 := jk0 ew_6 hk_w_5
  have fr_w_6 := jfrW ew_6 fr_w_5 (fun b e hb _ => hb)
  have m_q1_w_2 := jun ew_2 m_q1_w_1 (Ne.symm x_a_q1)
  have x_q1_q2 := Nat.ne_of_lt (f_q2 _ _ m_q1_w_2)
  have m_q1_w_3 := jun ew_3 m_q1_w_2 x_q1_q2
  have m_q1_w_4 := jun ew_4 m_q1_w_3 (Ne.symm x_a_q1)
  have x_q1_q3 := Nat.ne_of_lt (f_q3 _ _ m_q1_w_4)
  have m_q1_w_5 := jun ew_5 m_q1_w_4 x_q1_q3
  have m_q1_w_6 := jun ew_6 m_q1_w_5 (Ne.symm x_a_q1)
  have m_q2_w_4 := jun ew_4 m_q2_w_3 (Ne.symm x_a_q2)
  have x_q2_q3 := Nat.ne_of_lt (f_q3 _ _ m_q2_w_4)
  have m_q2_w_5 := jun ew_5 m_q2_w_4 x_q2_q3
  have m_q2_w_6 := jun ew_6 m_q2_w_5 (Ne.symm x_a_q2)
  have m_q3_w_6 := jun ew_6 m_q3_w_5 (Ne.symm x_a_q3)
  exact j_vret C Rm E d_c_Runs_init_28 ⟨rfl, hk_w_6, fr_w_6, _, q1, q2, q3, lt_q1, lt_q2, lt_q3, m_a_w_6, rfl, rfl, rfl, m_q1_w_6, m_q2_w_6, m_q3_w_6⟩ (jbnd hk_w_6.1 rfl) (jbnd hk_w_6.2 rfl)

theorem k_c_Walk_init_0_1 : sblk b_Walk_init [(0, .aload_n 0, .null)] := sblk_of (by decide +kernel)
theorem d_c_Walk_init_1 : decode b_Walk_init 1 = .ok (.invokespecial 3, 3) := by decide +kernel
theorem k_c_Walk_init_4_1 : sblk b_Walk_init [(4, .aload_n 0, .null)] := sblk_of (by decide +kernel)
theorem d_c_Walk_init_5 : decode b_Walk_init 5 = .ok (.new 9, 3) := by decide +kernel
theorem k_c_Walk_init_8_1 : sblk b_Walk_init [(8, .dup, .null)] := sblk_of (by decide +kernel)
theorem d_c_Walk_init_9 : decode b_Walk_init 9 = .ok (.invokespecial 11, 3) := by decide +kernel
theorem d_c_Walk_init_12 : decode b_Walk_init 12 = .ok (.putfield 12, 3) := by decide +kernel
theorem k_c_Walk_init_15_2 : sblk b_Walk_init [(15, .aload_n 0, .null), (16, .bipush 40, .int 40)] := sblk_of (by decide +kernel)
theorem d_c_Walk_init_18 : decode b_Walk_init 18 = .ok (.anewarray 18, 3) := by decide +kernel
theorem d_c_Walk_init_21 : decode b_Walk_init 21 = .ok (.putfield 20, 3) := by decide +kernel
theorem d_c_Walk_init_24 : decode b_Walk_init 24 = .ok (.return_, 1) := by decide +kernel
set_option maxHeartbeats 40000000 in
set_option maxRecDepth 100000 in
theorem c_Walk_init (l : Launch) (D : va_G) (B : Nat) (H0 : Heap) (w : jW) (a : Nat) (V : Nat → Value) (ha : w.1 a = some (.inr (7, V))) : jMet l D B H0 y_Walk_init b_Walk_init 1 none 2 80 6 1969 [.ref a] w (fun v w9 => v = none ∧ (w9.2.1 = w.2.1 + 6 ∧ w9.2.2 = w.2.2 + 1969) ∧ jfr (fun b => b ≠ a) w w9 ∧ ∃ (V9 : Nat → Value) (x1 c1 c2 c3 c4 sp : Nat), (∀ b e, w.1 b = some e → b < x1) ∧ (∀ b e, w.1 b = some e → b < c1) ∧ (∀ b e, w.1 b = some e → b < c2) ∧ (∀ b e, w.1 b = some e → b < c3) ∧ (∀ b e, w.1 b = some e → b < c4) ∧ (∀ b e, w.1 b = some e → b < sp) ∧ w9.1 a = some (.inr (7, V9)) ∧ V9 0 = .ref x1 ∧ V9 1 = .ref sp ∧ V9 2 = V 2 ∧ V9 3 = V 3 ∧ w9.1 c1 = some (aI D 300 (fun _ => 0)) ∧ w9.1 c2 = some (aJ D 300 (fun _ => 0)) ∧ w9.1 c3 = some (aI D 1024 (fun _ => 0)) ∧ w9.1 c4 = some (aI D 300 (fun _ => 0)) ∧ w9.1 sp = some (aR D 7 40 (fun _ => none))) := by
  refine j_met (by decide) (Nat.le_of_ble_eq_true rfl) (fun g C Rm Y E => ?_)
  have hin : (jGy g).name = "<init>" := congrArg MethodName.name Y.2.2.2
  have hk := jkz w
  have fr0 : jfr (fun b => b ≠ a) w w := jfr0
  show JJ g w 0 [(0, .ref a)] []
  refine j_blk 1 [(0, .ref a)] [.ref a] C k_c_Walk_init_0_1 rfl ?_
  refine j_obj C Rm cl_Walk_3 d_c_Walk_init_1 (by decide) (by decide) ?_
  refine j_blk 5 [(0, .ref a)] [.ref a] C k_c_Walk_init_4_1 rfl ?_
  refine j_new C Rm d_c_Walk_init_5 nw_Walk_9 (jroom hk.1 rfl) (jroom hk.2 rfl) (fun q1 f_q1 => ?_)
  refine jnv (fun w_1 ew_1 => ?_)
  have m_q1_w_1 : w_1.1 q1 = some (.inr (1, v0_1)) := jus ew_1
  have hk_w_1 := jk1 ew_1 hk
  have lt_q1 := jfrL fr0 f_q1
  have fr_w_1 := jfrN ew_1 fr0 f_q1
  refine j_blk 9 [(0, .ref a)] [.ref q1, .ref q1, .ref a] C k_c_Walk_init_8_1 rfl ?_
  refine j_callIn C Rm Y [] [.ref q1, .ref a] (c_Mixer_init l D B H0 w_1 q1 v0_1 m_q1_w_1) cl_Walk_11 d_c_Walk_init_9 rfl rfl (Nat.le_of_ble_eq_true rfl) ⟨by decide, by decide⟩ ⟨jroom hk_w_1.1 rfl, jroom hk_w_1.2 rfl⟩ (fun v2 w_2 pw_2 => ?_)
  obtain ⟨rfl, hc_w_2, G_w_2, V_w_2, q3, q4, q5, q6, ltq3_w_2, ltq4_w_2, ltq5_w_2, ltq6_w_2, mo_w_2, hV0_w_2, hV1_w_2, hV2_w_2, hV3_w_2, hV4_w_2, mmq3_w_2, mmq4_w_2, mmq5_w_2, mmq6_w_2⟩ := pw_2
  have hk_w_2 := jkT hk_w_1 hc_w_2
  have lt_q3 := jfrL fr_w_1 ltq3_w_2
  have lt_q4 := jfrL fr_w_1 ltq4_w_2
  have lt_q5 := jfrL fr_w_1 ltq5_w_2
  have lt_q6 := jfrL fr_w_1 ltq6_w_2
  have fr_w_2 := jfrT fr_w_1 G_w_2 (fun b _ _ he => Nat.ne_of_lt (lt_q1 b _ he))
  show JJ g w_2 12 [(0, .ref a)] [.ref q1, .ref a]
  have x_a_q1 := Nat.ne_of_lt (f_q1 _ _ ha)
  have m_a_w_1 := jun ew_1 ha x_a_q1
  have m_a_w_2 := (G_w_2 _ _ m_a_w_1).1 x_a_q1
  refine j_putF C hin d_c_Walk_init_12 ff_Walk_12 m_a_w_2 rfl rfl ?_
  refine jnv (fun w_3 ew_3 => ?_)
  have m_a_w_3 : w_3.1 a = some (.inr (7, (updV V 0 (.ref q1)))) := jus ew_3
  have hk_w_3 := jk0 ew_3 hk_w_2
  have fr_w_3 := jfrW ew_3 fr_w_2 (fun b e hb _ => hb)
  refine j_blk 18 [(0, .ref a)] [.int 40, .ref a] C k_c_Walk_init_15_2 rfl ?_
  refine j_anew (t := 7) (n := 40) C Rm d_c_Walk_init_18 rfl (by decide) ca_Walk_18 (by decide) (by decide) (by decide) (jroom hk_w_3.1 rfl) (jroom hk_w_3.2 rfl) (fun q7 f_q7 => ?_)
  refine jnv (fun w_4 ew_4 => ?_)
  have m_q7_w_4 : w_4.1 q7 = some (aR D 7 40 (fun _ => none)) := jus ew_4
  have hk_w_4 := jk1 ew_4 hk_w_3
  have lt_q7 := jfrL fr_w_3 f_q7
  have fr_w_4 := jfrN ew_4 fr_w_3 f_q7
  have x_a_q7 := Nat.ne_of_lt (f_q7 _ _ m_a_w_3)
  have m_a_w_4 := jun ew_4 m_a_w_3 x_a_q7
  refine j_putF C hin d_c_Walk_init_21 ff_Walk_20 m_a_w_4 rfl rfl ?_
  refine jnv (fun w_5 ew_5 => ?_)
  have m_a_w_5 : w_5.1 a = some (.inr (7, (updV (updV V 0 (.ref q1)) 1 (.ref q7)))) := jus ew_5
  have hk_w_5 := jk0 ew_5 hk_w_4
  have fr_w_5 := jfrW ew_5 fr_w_4 (fun b e hb _ => hb)
  have m_q3_w_3 := jun ew_3 mmq3_w_2 (jneAO mmq3_w_2 m_a_w_2)
  have x_q3_q7 := Nat.ne_of_lt (f_q7 _ _ m_q3_w_3)
  have m_q3_w_4 := jun ew_4 m_q3_w_3 x_q3_q7
  have m_q3_w_5 := jun ew_5 m_q3_w_4 (jneAO m_q3_w_4 m_a_w_4)
  have m_q4_w_3 := jun ew_3 mmq4_w_2 (jneAO mmq4_w_2 m_a_w_2)
  have x_q4_q7 := Nat.ne_of_lt (f_q7 _ _ m_q4_w_3)
  have m_q4_w_4 := jun ew_4 m_q4_w_3 x_q4_q7
  have m_q4_w_5 := jun ew_5 m_q4_w_4 (jneAO m_q4_w_4 m_a_w_4)
  have m_q5_w_3 := jun ew_3 mmq5_w_2 (jneAO mmq5_w_2 m_a_w_2)
  have x_q5_q7 := Nat.ne_of_lt (f_q7 _ _ m_q5_w_3)
  have m_q5_w_4 := jun ew_4 m_q5_w_3 x_q5_q7
  have m_q5_w_5 := jun ew_5 m_q5_w_4 (jneAO m_q5_w_4 m_a_w_4)
  have m_q6_w_3 := jun ew_3 mmq6_w_2 (jneAO mmq6_w_2 m_a_w_2)
  have x_q6_q7 := Nat.ne_of_lt (f_q7 _ _ m_q6_w_3)
  have m_q6_w_4 := jun ew_4 m_q6_w_3 x_q6_q7
  have m_q6_w_5 := jun ew_5 m_q6_w_4 (jneAO m_q6_w_4 m_a_w_4)
  have m_q7_w_5 := jun ew_5 m_q7_w_4 (Ne.symm x_a_q7)
  exact j_vret C Rm E d_c_Walk_init_24 ⟨rfl, hk_w_5, fr_w_5, _, q1, q3, q4, q5, q6, q7, lt_q1, lt_q3, lt_q4, lt_q5, lt_q6, lt_q7, m_a_w_5, rfl, rfl, rfl, rfl, m_q3_w_5, m_q4_w_5, m_q5_w_5, m_q6_w_5, m_q7_w_5⟩ (jbnd hk_w_5.1 rfl) (jbnd hk_w_5.2 rfl)
end
section
/-! THE J LAYER: comparing longs, Math, System.arraycopy (own work) -/
section J8
variable {g : jG} {w : jW} {cc : ByteArray} {nL pc : Nat} {own : String} {D : va_G} {L : List (Nat × Value)} {st : List Value} {k0 n0 : Nat} {rm : Room}
theorem j_lcmp (C : jX g cc nL own D) {x y : Int64} (hd : decode cc pc = .ok (.lcmp, 1)) (kk : JJ g w (pc + 1) L (.int (lg_cmp x y) :: st)) : JJ g w pc L (.long y :: .long x :: st) := by
  obtain ⟨⟨hx, hb, -⟩, rfl, -⟩ := C
  exact fun H locs ls h1 h2 h3 h4 h5 => W.lcmp hx hb hd (kk H locs ls h1 h2 h3 h4 h5)
def jcM (own : String) (idx : Nat) (y : MethodName) (b : ByteArray) : Prop := Cond.methodLink own idx y ∈ jwd ∧ Cond.static y ∈ jwd ∧ Cond.initialized "java/lang/Math" ∈ jwd ∧ Cond.code y b 2 (some .int) ∈ jwd
theorem j_mmin (C : jX g cc nL own D) (Rm : jRm g k0 n0 rm) {idx : Nat} {x y : Int32} (hc : jcM own idx Lib.Math.min.name Lib.Math.min.code) (hd : decode cc pc = .ok (.invokestatic idx, 3)) (hf : 1 ≤ rm.frames) (hl : (st.map fun v => v.category).sum + 13 ≤ rm.locals) (h1c : w.2.1 ≤ k0 + rm.cells) (h2c : w.2.2 ≤ n0 + rm.slots)
    (kk : JJ g w (pc + 3) L (.int (if y < x then y else x) :: st)) : JJ g w pc L (.int y :: .int x :: st) := by
  obtain ⟨⟨hx, hb, hml, ho, hts, hK, -⟩, rfl, rfl, rfl, rfl⟩ := C
  obtain ⟨rfl, rfl, rfl⟩ := Rm
  intro H locs ls h1 h2 h3 h4 h5
  exact va_mmin hx hb (hml.trans h5.1.symm) ho (hts _ hc.1) (hts _ hc.2.1) (hts _ hc.2.2.1) (hts _ hc.2.2.2) hf hl (by omega) (by omega) hd (kk H locs ls h1 h2 h3 h4 h5)
theorem j_mmax (C : jX g cc nL own D) (Rm : jRm g k0 n0 rm) {idx : Nat} {x y : Int32} (hc : jcM own idx Lib.Math.max.name Lib.Math.max.code) (hd : decode cc pc = .ok (.invokestatic idx, 3)) (hf : 1 ≤ rm.frames) (hl : (st.map fun v => v.category).sum + 13 ≤ rm.locals) (h1c : w.2.1 ≤ k0 + rm.cells) (h2c : w.2.2 ≤ n0 + rm.slots)
    (kk : JJ g w (pc + 3) L (.int (if x < y then y else x) :: st)) : JJ g w pc L (.int y :: .int x :: st) := by
  obtain ⟨⟨hx, hb, hml, ho, hts, hK, -⟩, rfl, rfl, rfl, rfl⟩ := C
  obtain ⟨rfl, rfl, rfl⟩ := Rm
  intro H locs ls h1 h2 h3 h4 h5
  exact va_mmax hx hb (hml.trans h5.1.symm) ho (hts _ hc.1) (hts _ hc.2.1) (hts _ hc.2.2.1) (hts _ hc.2.2.2) hf hl (by omega) (by omega) hd (kk H locs ls h1 h2 h3 h4 h5)
def jcY (own : String) (idx : Nat) : Prop := Cond.methodLink own idx arraycopyName ∈ jwd ∧ Cond.native arraycopyName ∈ jwd ∧ Cond.static arraycopyName ∈ jwd ∧ Cond.initialized "java/lang/System" ∈ jwd
theorem jclN {z : Int32} (h : ¬ z < 0) : z.toInt = (z.toNatClampNeg : Int) := by
  have hz0 : (0 : Int) ≤ z.toInt := by
    have := Int32.not_lt.mp h
    simpa using Int32.le_iff_toInt_le.mp this
  show z.toInt = ((z.toInt.toNat : Nat) : Int)
  omega
theorem j_copyi (C : jX g cc nL own D) (Rm : jRm g k0 n0 rm) {idx a0 a m0 m1 : Nat} {f f1 : Nat → Int32} {sp dp n : Int32} (hc : jcY own idx) (hd : decode cc pc = .ok (.invokestatic idx, 3)) (ha0 : w.1 a0 = some (aI D m0 f)) (ha1 : w.1 a = some (aI D m1 f1)) (q1 : ¬ sp < 0) (q2 : ¬ dp < 0) (q3 : ¬ n < 0) (q4 : sp.toNatClampNeg + n.toNatClampNeg ≤ m0) (q5 : dp.toNatClampNeg + n.toNatClampNeg ≤ m1) (hf : 1 ≤ rm.frames) (hl : (st.map fun v => v.category).sum + (nativeFrameWords "java/lang/System" "arraycopy" 5 + 11) ≤ rm.locals)
    (kk : JJ g (va_up w.1 a (some (aI D m1 (va_cpy f f1 sp.toNatClampNeg dp.toNatClampNeg n.toNatClampNeg))), w.2) (pc + 3) L st) : JJ g w pc L (.int n :: .int dp :: .ref a :: .int sp :: .ref a0 :: st) := by
  obtain ⟨⟨hx, hb, hml, ho, hts, hK, -⟩, rfl, rfl, rfl, rfl⟩ := C
  obtain ⟨rfl, rfl, rfl⟩ := Rm
  intro H locs ls h1 h2 h3 h4 h5
  intro T hT X
  have hc0 : H[a0]? = some (vp_cell ((jGD g).1 100) (m0, .inl f)) := h1.at ha0
  have hc1 : H[a]? = some (vp_cell ((jGD g).1 100) (m1, .inl f1)) := h1.at ha1
  obtain ⟨-, e0, hk0, cm0, hkk0⟩ := jK1 hK (k := 0) rfl m0 (fun j => .int (f j))
  obtain ⟨-, e1, hk1, cm1, hkk1⟩ := jK1 hK (k := 0) rfl m1 (fun j => .int (f1 j))
  obtain ⟨vm', X', step⟩ := X.arraycopy hx ho (hts _ hc.1) (hts _ hc.2.1) (hts _ hc.2.2.1) (hts _ hc.2.2.2) (src := a0) (dst := a) (cs := vp_cell ((jGD g).1 100) (m0, .inl f)) (cd := vp_cell ((jGD g).1 100) (m1, .inl f1)) (srcPos := sp) (destPos := dp) (n := n) (by rw [hT]; exact hc0) (by rw [hT]; exact hc1)
    (fun _ h => by cases h) (fun _ h => by cases h) (fun h => by cases h) (fun h => by cases h) hk0 hk1 hkk0 hkk1 (by simp [refKind]) q1 q2 q3
    (by rw [jclN q1, jclN q3]; show ¬ _ > ((arrV ((jGD g).1 100) m0 (fun j => .int (f j))).slots.size : Int); rw [arrV_size]; omega)
    (by rw [jclN q2, jclN q3]; show ¬ _ > ((arrV ((jGD g).1 100) m1 (fun j => .int (f1 j))).slots.size : Int); rw [arrV_size]; omega)
    (fun vm₁ _ i hi => by
      have e : (vp_cell ((jGD g).1 100) (m0, .inl f)).slots.getD (sp.toNatClampNeg + i) .null = .int (f (sp.toNatClampNeg + i)) := by
        show (arrV ((jGD g).1 100) m0 (fun j => .int (f j))).slots.getD _ _ = _
        rw [Array.getD_eq_getD_getElem?, arrV_read _ _ (by omega)]
        rfl
      refine ⟨?_, ?_⟩
      · rw [e]; rfl
      · rw [e]; exact trivial)
    (g := F0 (jGm g) pc ls (.int n :: .int dp :: .ref a :: .int sp :: .ref a0 :: st)) rfl (h5.1.trans hml.symm) (rest := st) rfl (by rw [hb]; exact hd) hf (by show 2 * 0 + _ + _ ≤ _; omega)
  have e1 : copied (vp_cell ((jGD g).1 100) (m0, .inl f)) (vp_cell ((jGD g).1 100) (m1, .inl f1)) sp dp n = vp_cell ((jGD g).1 100) (m1, .inl (va_cpy f f1 sp.toNatClampNeg dp.toNatClampNeg n.toNatClampNeg)) := va_copied (fun z => .int z) _ _ f f1 q4
  rw [e1] at X' step
  have hla : a < H.size := (Array.getElem?_eq_some_iff.mp hc1).1
  have hheap : ((T.setVm vm').setCell a (vp_cell ((jGD g).1 100) (m1, .inl (va_cpy f f1 sp.toNatClampNeg dp.toNatClampNeg n.toNatClampNeg)))).heap = H.setIfInBounds a (vp_cell ((jGD g).1 100) (m1, .inl (va_cpy f f1 sp.toNatClampNeg dp.toNatClampNeg n.toNatClampNeg))) := by rw [← hT]; rfl
  have oq : ∀ q : Nat, q ≠ a → (H.setIfInBounds a (vp_cell ((jGD g).1 100) (m1, .inl (va_cpy f f1 sp.toNatClampNeg dp.toNatClampNeg n.toNatClampNeg))))[q]? = H[q]? := fun q hq => by simp [Array.getElem?_setIfInBounds, Ne.symm hq]
  have hself : (H.setIfInBounds a (vp_cell ((jGD g).1 100) (m1, .inl (va_cpy f f1 sp.toNatClampNeg dp.toNatClampNeg n.toNatClampNeg))))[a]? = some (vp_cell ((jGD g).1 100) (m1, .inl (va_cpy f f1 sp.toNatClampNeg dp.toNatClampNeg n.toNatClampNeg))) := by simp [Array.getElem?_setIfInBounds, hla]
  have hH := h1.set (e := aI (jGD g) m1 (va_cpy f f1 sp.toNatClampNeg dp.toNatClampNeg n.toNatClampNeg)) ha1 (by simp) hc1 hself (by rw [vp_cell_i, vp_cell_i]; exact jarrsz _ _ _ _) oq hself
  obtain ⟨t, a1, b1⟩ := kk _ _ ls hH h2 h3 (fun q hq => by
    rcases List.mem_append.mp hq with h | h
    · exact h4 q h
    · obtain ⟨z, -, hz⟩ := List.mem_map.mp h
      rw [← hz]
      exact h1.le ha1) h5 _ hheap X'
  exact ⟨t, step t a1, b1⟩
theorem j_copyl (C : jX g cc nL own D) (Rm : jRm g k0 n0 rm) {idx a0 a m0 m1 : Nat} {f f1 : Nat → Int64} {sp dp n : Int32} (hc : jcY own idx) (hd : decode cc pc = .ok (.invokestatic idx, 3)) (ha0 : w.1 a0 = some (aJ D m0 f)) (ha1 : w.1 a = some (aJ D m1 f1)) (q1 : ¬ sp < 0) (q2 : ¬ dp < 0) (q3 : ¬ n < 0) (q4 : sp.toNatClampNeg + n.toNatClampNeg ≤ m0) (q5 : dp.toNatClampNeg + n.toNatClampNeg ≤ m1) (hf : 1 ≤ rm.frames) (hl : (st.map fun v => v.category).sum + (nativeFrameWords "java/lang/System" "arraycopy" 5 + 11) ≤ rm.locals)
    (kk : JJ g (va_up w.1 a (some (aJ D m1 (va_cpy f f1 sp.toNatClampNeg dp.toNatClampNeg n.toNatClampNeg))), w.2) (pc + 3) L st) : JJ g w pc L (.int n :: .int dp :: .ref a :: .int sp :: .ref a0 :: st) := by
  obtain ⟨⟨hx, hb, hml, ho, hts, hK, -⟩, rfl, rfl, rfl, rfl⟩ := C
  obtain ⟨rfl, rfl, rfl⟩ := Rm
  intro H locs ls h1 h2 h3 h4 h5
  intro T hT X
  have hc0 : H[a0]? = some (vp_cell ((jGD g).1 101) (m0, .inr (.inl f))) := h1.at ha0
  have hc1 : H[a]? = some (vp_cell ((jGD g).1 101) (m1, .inr (.inl f1))) := h1.at ha1
  obtain ⟨-, e0, hk0, cm0, hkk0⟩ := jK1 hK (k := 1) rfl m0 (fun j => .long (f j))
  obtain ⟨-, e1, hk1, cm1, hkk1⟩ := jK1 hK (k := 1) rfl m1 (fun j => .long (f1 j))
  obtain ⟨vm', X', step⟩ := X.arraycopy hx ho (hts _ hc.1) (hts _ hc.2.1) (hts _ hc.2.2.1) (hts _ hc.2.2.2) (src := a0) (dst := a) (cs := vp_cell ((jGD g).1 101) (m0, .inr (.inl f))) (cd := vp_cell ((jGD g).1 101) (m1, .inr (.inl f1))) (srcPos := sp) (destPos := dp) (n := n) (by rw [hT]; exact hc0) (by rw [hT]; exact hc1)
    (fun _ h => by cases h) (fun _ h => by cases h) (fun h => by cases h) (fun h => by cases h) hk0 hk1 hkk0 hkk1 (by simp [refKind]) q1 q2 q3
    (by rw [jclN q1, jclN q3]; show ¬ _ > ((arrV ((jGD g).1 101) m0 (fun j => .long (f j))).slots.size : Int); rw [arrV_size]; omega)
    (by rw [jclN q2, jclN q3]; show ¬ _ > ((arrV ((jGD g).1 101) m1 (fun j => .long (f1 j))).slots.size : Int); rw [arrV_size]; omega)
    (fun vm₁ _ i hi => by
      have e : (vp_cell ((jGD g).1 101) (m0, .inr (.inl f))).slots.getD (sp.toNatClampNeg + i) .null = .long (f (sp.toNatClampNeg + i)) := by
        show (arrV ((jGD g).1 101) m0 (fun j => .long (f j))).slots.getD _ _ = _
        rw [Array.getD_eq_getD_getElem?, arrV_read _ _ (by omega)]
        rfl
      refine ⟨?_, ?_⟩
      · rw [e]; rfl
      · rw [e]; exact trivial)
    (g := F0 (jGm g) pc ls (.int n :: .int dp :: .ref a :: .int sp :: .ref a0 :: st)) rfl (h5.1.trans hml.symm) (rest := st) rfl (by rw [hb]; exact hd) hf (by show 2 * 0 + _ + _ ≤ _; omega)
  have e1 : copied (vp_cell ((jGD g).1 101) (m0, .inr (.inl f))) (vp_cell ((jGD g).1 101) (m1, .inr (.inl f1))) sp dp n = vp_cell ((jGD g).1 101) (m1, .inr <| .inl (va_cpy f f1 sp.toNatClampNeg dp.toNatClampNeg n.toNatClampNeg)) := va_copied (fun z => .long z) _ _ f f1 q4
  rw [e1] at X' step
  have hla : a < H.size := (Array.getElem?_eq_some_iff.mp hc1).1
  have hheap : ((T.setVm vm').setCell a (vp_cell ((jGD g).1 101) (m1, .inr <| .inl (va_cpy f f1 sp.toNatClampNeg dp.toNatClampNeg n.toNatClampNeg)))).heap = H.setIfInBounds a (vp_cell ((jGD g).1 101) (m1, .inr <| .inl (va_cpy f f1 sp.toNatClampNeg dp.toNatClampNeg n.toNatClampNeg))) := by rw [← hT]; rfl
  have oq : ∀ q : Nat, q ≠ a → (H.setIfInBounds a (vp_cell ((jGD g).1 101) (m1, .inr <| .inl (va_cpy f f1 sp.toNatClampNeg dp.toNatClampNeg n.toNatClampNeg))))[q]? = H[q]? := fun q hq => by simp [Array.getElem?_setIfInBounds, Ne.symm hq]
  have hself : (H.setIfInBounds a (vp_cell ((jGD g).1 101) (m1, .inr <| .inl (va_cpy f f1 sp.toNatClampNeg dp.toNatClampNeg n.toNatClampNeg))))[a]? = some (vp_cell ((jGD g).1 101) (m1, .inr <| .inl (va_cpy f f1 sp.toNatClampNeg dp.toNatClampNeg n.toNatClampNeg))) := by simp [Array.getElem?_setIfInBounds, hla]
  have hH := h1.set (e := aJ (jGD g) m1 (va_cpy f f1 sp.toNatClampNeg dp.toNatClampNeg n.toNatClampNeg)) ha1 (by simp) hc1 hself (by rw [vp_cell_l, vp_cell_l]; exact jarrsz _ _ _ _) oq hself
  obtain ⟨t, a1, b1⟩ := kk _ _ ls hH h2 h3 (fun q hq => by
    rcases List.mem_append.mp hq with h | h
    · exact h4 q h
    · obtain ⟨z, -, hz⟩ := List.mem_map.mp h
      rw [← hz]
      exact h1.le ha1) h5 _ hheap X'
  exact ⟨t, step t a1, b1⟩
end J8
end
section
theorem cl_CS_249 : jcY "ChanceSteps" 249 := ⟨jmem 1089 (by decide +kernel) rfl, jmem 1091 (by decide +kernel) rfl, jmem 1090 (by decide +kernel) rfl, jmem 121 (by decide +kernel) rfl⟩
theorem cl_Mixer_46 : jcM "ChanceSteps$Mixer" 46 Lib.Math.max.name Lib.Math.max.code := ⟨jmem 792 (by decide +kernel) rfl, jmem 651 (by decide +kernel) rfl, jmem 113 (by decide +kernel) rfl, jmem 652 (by decide +kernel) rfl⟩
theorem cl_Prog_68 : jcM "ChanceSteps$Program" 68 Lib.Math.max.name Lib.Math.max.code := ⟨jmem 650 (by decide +kernel) rfl, jmem 651 (by decide +kernel) rfl, jmem 113 (by decide +kernel) rfl, jmem 652 (by decide +kernel) rfl⟩
theorem cl_Read_15 : jcM "ChanceSteps$Reader" 15 Lib.Math.min.name Lib.Math.min.code := ⟨jmem 460 (by decide +kernel) rfl, jmem 461 (by decide +kernel) rfl, jmem 113 (by decide +kernel) rfl, jmem 462 (by decide +kernel) rfl⟩
theorem cl_Walk_75 : jcM "ChanceSteps$Walker" 75 Lib.Math.max.name Lib.Math.max.code := ⟨jmem 834 (by decide +kernel) rfl, jmem 651 (by decide +kernel) rfl, jmem 113 (by decide +kernel) rfl, jmem 652 (by decide +kernel) rfl⟩
theorem cl_Mo_428 : jcY "ChanceStepsModel" 428 := ⟨jmem 1660 (by decide +kernel) rfl, jmem 1091 (by decide +kernel) rfl, jmem 1090 (by decide +kernel) rfl, jmem 121 (by decide +kernel) rfl⟩
theorem cl_Mo_243 : jcM "ChanceStepsModel" 243 Lib.Math.max.name Lib.Math.max.code := ⟨jmem 1414 (by decide +kernel) rfl, jmem 651 (by decide +kernel) rfl, jmem 113 (by decide +kernel) rfl, jmem 652 (by decide +kernel) rfl⟩
theorem cl_Odds_23 : jcY "ChanceStepsModel$Odds" 23 := ⟨jmem 1479 (by decide +kernel) rfl, jmem 1091 (by decide +kernel) rfl, jmem 1090 (by decide +kernel) rfl, jmem 121 (by decide +kernel) rfl⟩
end
section
/-! the two objects (own work, by program) -/
theorem k_c_CS_init_0_1 : sblk b_CS_init [(0, .aload_n 0, .null)] := sblk_of (by decide +kernel)
theorem d_c_CS_init_1 : decode b_CS_init 1 = .ok (.invokespecial 3, 3) := by decide +kernel
theorem k_c_CS_init_4_2 : sblk b_CS_init [(4, .aload_n 0, .null), (5, .bipush 120, .int 120)] := sblk_of (by decide +kernel)
theorem d_c_CS_init_7 : decode b_CS_init 7 = .ok (.newarray .int, 2) := by decide +kernel
theorem d_c_CS_init_9 : decode b_CS_init 9 = .ok (.putfield 9, 3) := by decide +kernel
theorem k_c_CS_init_12_2 : sblk b_CS_init [(12, .aload_n 0, .null), (13, .bipush 6, .int 6)] := sblk_of (by decide +kernel)
theorem d_c_CS_init_15 : decode b_CS_init 15 = .ok (.anewarray 13, 3) := by decide +kernel
theorem d_c_CS_init_18 : decode b_CS_init 18 = .ok (.putfield 15, 3) := by decide +kernel
theorem k_c_CS_init_21_2 : sblk b_CS_init [(21, .aload_n 0, .null), (22, .iconst 4, .int 4)] := sblk_of (by decide +kernel)
theorem d_c_CS_init_23 : decode b_CS_init 23 = .ok (.anewarray 19, 3) := by decide +kernel
theorem d_c_CS_init_26 : decode b_CS_init 26 = .ok (.putfield 21, 3) := by decide +kernel
theorem k_c_CS_init_29_1 : sblk b_CS_init [(29, .aload_n 0, .null)] := sblk_of (by decide +kernel)
theorem d_c_CS_init_30 : decode b_CS_init 30 = .ok (.new 25, 3) := by decide +kernel
theorem k_c_CS_init_33_1 : sblk b_CS_init [(33, .dup, .null)] := sblk_of (by decide +kernel)
theorem d_c_CS_init_34 : decode b_CS_init 34 = .ok (.invokespecial 27, 3) := by decide +kernel
theorem d_c_CS_init_37 : decode b_CS_init 37 = .ok (.putfield 28, 3) := by decide +kernel
theorem k_c_CS_init_40_1 : sblk b_CS_init [(40, .aload_n 0, .null)] := sblk_of (by decide +kernel)
theorem d_c_CS_init_41 : decode b_CS_init 41 = .ok (.new 32, 3) := by decide +kernel
theorem k_c_CS_init_44_1 : sblk b_CS_init [(44, .dup, .null)] := sblk_of (by decide +kernel)
theorem d_c_CS_init_45 : decode b_CS_init 45 = .ok (.invokespecial 34, 3) := by decide +kernel
theorem d_c_CS_init_48 : decode b_CS_init 48 = .ok (.putfield 35, 3) := by decide +kernel
theorem k_c_CS_init_51_2 : sblk b_CS_init [(51, .aload_n 0, .null), (52, .bipush 10, .int 10)] := sblk_of (by decide +kernel)
theorem d_c_CS_init_54 : decode b_CS_init 54 = .ok (.newarray .long, 2) := by decide +kernel
theorem d_c_CS_init_56 : decode b_CS_init 56 = .ok (.putfield 39, 3) := by decide +kernel
theorem k_c_CS_init_59_2 : sblk b_CS_init [(59, .aload_n 0, .null), (60, .bipush 10, .int 10)] := sblk_of (by decide +kernel)
theorem d_c_CS_init_62 : decode b_CS_init 62 = .ok (.newarray .long, 2) := by decide +kernel
theorem d_c_CS_init_64 : decode b_CS_init 64 = .ok (.putfield 43, 3) := by decide +kernel
theorem k_c_CS_init_67_4 : sblk b_CS_init [(67, .iconst 0, .int 0), (68, .istore_n 1, .null), (69, .iload_n 1, .null), (70, .iconst 4, .int 4)] := sblk_of (by decide +kernel)
theorem d_c_CS_init_71 : decode b_CS_init 71 = .ok (.if_icmp .ge 22, 3) := by decide +kernel
theorem k_c_CS_init_74_1 : sblk b_CS_init [(74, .aload_n 0, .null)] := sblk_of (by decide +kernel)
theorem d_c_CS_init_75 : decode b_CS_init 75 = .ok (.getfield 21, 3) := by decide +kernel
theorem k_c_CS_init_78_1 : sblk b_CS_init [(78, .iload_n 1, .null)] := sblk_of (by decide +kernel)
theorem d_c_CS_init_79 : decode b_CS_init 79 = .ok (.new 19, 3) := by decide +kernel
theorem k_c_CS_init_82_1 : sblk b_CS_init [(82, .dup, .null)] := sblk_of (by decide +kernel)
theorem d_c_CS_init_83 : decode b_CS_init 83 = .ok (.invokespecial 46, 3) := by decide +kernel
theorem d_c_CS_init_86 : decode b_CS_init 86 = .ok (.aastore, 1) := by decide +kernel
theorem k_c_CS_init_87_2 : sblk b_CS_init [(87, .iinc 1 1, .int 1), (90, .goto (-21), .retAddr 69)] := sblk_of (by decide +kernel)
theorem k_c_CS_init_69_2 : sblk b_CS_init [(69, .iload_n 1, .null), (70, .iconst 4, .int 4)] := sblk_of (by decide +kernel)
theorem d_c_CS_init_93 : decode b_CS_init 93 = .ok (.return_, 1) := by decide +kernel
set_option maxHeartbeats 4000000 in
set_option maxRecDepth 100000 in
theorem c_CS_init (l : Launch) (D : va_G) (B : Nat) (H0 : Heap) (w : jW) (a : Nat) (V : Nat → Value) (ha : w.1 a = some (.inr (8, V))) : jMet l D B H0 y_CS_init b_CS_init 2 none 3 160 21 2304 [.ref a] w (fun v w9 => v = none ∧ (w9.2.1 = w.2.1 + 21 ∧ w9.2.2 = w.2.2 + 2304) ∧ jfr (fun b => b ≠ a) w w9 ∧ ∃ (V9 : Nat → Value) (tp pg sh rd wk f1 f2 : Nat) (F : Nat → Option Nat) (Vr : Nat → Value), (∀ b e, w.1 b = some e → b < tp) ∧ (∀ b e, w.1 b = some e → b < pg) ∧ (∀ b e, w.1 b = some e → b < sh) ∧ (∀ b e, w.1 b = some e → b < rd) ∧ (∀ b e, w.1 b = some e → b < wk) ∧ (∀ b e, w.1 b = some e → b < f1) ∧ (∀ b e, w.1 b = some e → b < f2) ∧ w9.1 a = some (.inr (8, V9)) ∧ V9 0 = .ref tp ∧ V9 1 = V 1 ∧ V9 2 = .ref pg ∧ V9 3 = V 3 ∧ V9 4 = V 4 ∧ V9 5 = V 5 ∧ V9 6 = V 6 ∧ V9 7 = V 7 ∧ V9 8 = .ref sh ∧ V9 9 = .ref rd ∧ V9 10 = .ref wk ∧ V9 11 = .ref f1 ∧ V9 12 = .ref f2 ∧ w9.1 tp = some (aI D 120 (fun _ => 0)) ∧ w9.1 pg = some (aR D 8 6 (fun _ => none)) ∧ w9.1 sh = some (aR D 9 4 F) ∧ w9.1 rd = some (.inr (3, Vr)) ∧ w9.1 f1 = some (aJ D 10 (fun _ => 0)) ∧ w9.1 f2 = some (aJ D 10 (fun _ => 0)) ∧ (∀ j, j < 4 → ∃ (s e : Nat) (Vs : Nat → Value), F j = some s ∧ w9.1 s = some (.inr (5, Vs)) ∧ Vs 0 = .ref e ∧ Vs 1 = .int (-1) ∧ Vs 2 = .int 0 ∧ w9.1 e = some (aI D 40 (fun _ => 0)) ∧ (∀ b x, w.1 b = some x → b < s ∧ b < e))) := by
  refine j_met (by decide) (Nat.le_of_ble_eq_true rfl) (fun g C Rm Y E => ?_)
  have hin : (jGy g).name = "<init>" := congrArg MethodName.name Y.2.2.2
  have hk := jkz w
  have fr0 : jfr (fun b => b ≠ a) w w := jfr0
  show JJ g w 0 [(0, .ref a)] []
  refine j_blk 1 [(0, .ref a)] [.ref a] C k_c_CS_init_0_1 rfl ?_
  refine j_obj C Rm cl_CS_3 d_c_CS_init_1 (by decide) (by decide) ?_
  refine j_blk 7 [(0, .ref a)] [.int 120, .ref a] C k_c_CS_init_4_2 rfl ?_
  refine j_newa (n := 120) C Rm d_c_CS_init_7 rfl ac_int (by decide) (by decide) (by decide) (jroom hk.1 rfl) (jroom hk.2 rfl) (fun q1 f_q1 => ?_)
  refine jnv (fun w_1 ew_1 => ?_)
  have m_q1_w_1 : w_1.1 q1 = some (aI D 120 (fun _ => 0)) := jus ew_1
  have hk_w_1 := jk1 ew_1 hk
  have lt_q1 := jfrL fr0 f_q1
  have fr_w_1 := jfrN ew_1 fr0 f_q1
  have x_a_q1 := Nat.ne_of_lt (f_q1 _ _ ha)
  have m_a_w_1 := jun ew_1 ha x_a_q1
  refine j_putF C hin d_c_CS_init_9 ff_CS_9 m_a_w_1 rfl rfl ?_
  refine jnv (fun w_2 ew_2 => ?_)
  have m_a_w_2 : w_2.1 a = some (.inr (8, (updV V 0 (.ref q1)))) := jus ew_2
  have hk_w_2 := jk0 ew_2 hk_w_1
  have fr_w_2 := jfrW ew_2 fr_w_1 (fun b e hb _ => hb)
  refine j_blk 15 [(0, .ref a)] [.int 6, .ref a] C k_c_CS_init_12_2 rfl ?_
  refine j_anew (t := 8) (n := 6) C Rm d_c_CS_init_15 rfl (by decide) ca_CS_13 (by decide) (by decide) (by decide) (jroom hk_w_2.1 rfl) (jroom hk_w_2.2 rfl) (fun q2 f_q2 => ?_)
  refine jnv (fun w_3 ew_3 => ?_)
  have m_q2_w_3 : w_3.1 q2 = some (aR D 8 6 (fun _ => none)) := jus ew_3
  have hk_w_3 := jk1 ew_3 hk_w_2
  have lt_q2 := jfrL fr_w_2 f_q2
  have fr_w_3 := jfrN ew_3 fr_w_2 f_q2
  have x_a_q2 := Nat.ne_of_lt (f_q2 _ _ m_a_w_2)
  have m_a_w_3 := jun ew_3 m_a_w_2 x_a_q2
  refine j_putF C hin d_c_CS_init_18 ff_CS_15 m_a_w_3 rfl rfl ?_
  refine jnv (fun w_4 ew_4 => ?_)
  have m_a_w_4 : w_4.1 a = some (.inr (8, (updV (updV V 0 (.ref q1)) 2 (.ref q2)))) := jus ew_4
  have hk_w_4 := jk0 ew_4 hk_w_3
  have fr_w_4 := jfrW ew_4 fr_w_3 (fun b e hb _ => hb)
  refine j_blk 23 [(0, .ref a)] [.int 4, .ref a] C k_c_CS_init_21_2 rfl ?_
  refine j_anew (t := 9) (n := 4) C Rm d_c_CS_init_23 rfl (by decide) ca_CS_19 (by decide) (by decide) (by decide) (jroom hk_w_4.1 rfl) (jroom hk_w_4.2 rfl) (fun q3 f_q3 => ?_)
  refine jnv (fun w_5 ew_5 => ?_)
  have m_q3_w_5 : w_5.1 q3 = some (aR D 9 4 (fun _ => none)) := jus ew_5
  have hk_w_5 := jk1 ew_5 hk_w_4
  have lt_q3 := jfrL fr_w_4 f_q3
  have fr_w_5 := jfrN ew_5 fr_w_4 f_q3
  have x_a_q3 := Nat.ne_of_lt (f_q3 _ _ m_a_w_4)
  have m_a_w_5 := jun ew_5 m_a_w_4 x_a_q3
  refine j_putF C hin d_c_CS_init_26 ff_CS_21 m_a_w_5 rfl rfl ?_
  refine jnv (fun w_6 ew_6 => ?_)
  have m_a_w_6 : w_6.1 a = some (.inr (8, (updV (updV (updV V 0 (.ref q1)) 2 (.ref q2)) 8 (.ref q3)))) := jus ew_6
  have hk_w_6 := jk0 ew_6 hk_w_5
  have fr_w_6 := jfrW ew_6 fr_w_5 (fun b e hb _ => hb)
  refine j_blk 30 [(0, .ref a)] [.ref a] C k_c_CS_init_29_1 rfl ?_
  refine j_new C Rm d_c_CS_init_30 nw_CS_25 (jroom hk_w_6.1 rfl) (jroom hk_w_6.2 rfl) (fun q4 f_q4 => ?_)
  refine jnv (fun w_7 ew_7 => ?_)
  have m_q4_w_7 : w_7.1 q4 = some (.inr (3, v0_3)) := jus ew_7
  have hk_w_7 := jk1 ew_7 hk_w_6
  have lt_q4 := jfrL fr_w_6 f_q4
  have fr_w_7 := jfrN ew_7 fr_w_6 f_q4
  refine j_blk 34 [(0, .ref a)] [.ref q4, .ref q4, .ref a] C k_c_CS_init_33_1 rfl ?_
  refine j_callIn C Rm Y [] [.ref q4, .ref a] (c_Read_init l D B H0 w_7 q4 v0_3 m_q4_w_7) cl_CS_27 d_c_CS_init_34 rfl rfl (Nat.le_of_ble_eq_true rfl) ⟨by decide, by decide⟩ ⟨jroom hk_w_7.1 rfl, jroom hk_w_7.2 rfl⟩ (fun v5 w_8 pw_8 => ?_)
  obtain ⟨rfl, hc_w_8, G_w_8, V_w_8, mo_w_8, hV0_w_8, hV1_w_8, hV2_w_8, hV3_w_8, hV4_w_8, hV5_w_8, hV6_w_8, hV7_w_8, hV8_w_8⟩ := pw_8
  have hk_w_8 := jkT hk_w_7 hc_w_8
  have fr_w_8 := jfrT fr_w_7 G_w_8 (fun b _ _ he => Nat.ne_of_lt (lt_q4 b _ he))
  show JJ g w_8 37 [(0, .ref a)] [.ref q4, .ref a]
  have x_a_q4 := Nat.ne_of_lt (f_q4 _ _ m_a_w_6)
  have m_a_w_7 := jun ew_7 m_a_w_6 x_a_q4
  have m_a_w_8 := (G_w_8 _ _ m_a_w_7).1 x_a_q4
  refine j_putF C hin d_c_CS_init_37 ff_CS_28 m_a_w_8 rfl rfl ?_
  refine jnv (fun w_9 ew_9 => ?_)
  have m_a_w_9 : w_9.1 a = some (.inr (8, (updV (updV (updV (updV V 0 (.ref q1)) 2 (.ref q2)) 8 (.ref q3)) 9 (.ref q4)))) := jus ew_9
  have hk_w_9 := jk0 ew_9 hk_w_8
  have fr_w_9 := jfrW ew_9 fr_w_8 (fun b e hb _ => hb)
  refine j_blk 41 [(0, .ref a)] [.ref a] C k_c_CS_init_40_1 rfl ?_
  refine j_new C Rm d_c_CS_init_41 nw_CS_32 (jroom hk_w_9.1 rfl) (jroom hk_w_9.2 rfl) (fun q6 f_q6 => ?_)
  refine jnv (fun w_10 ew_10 => ?_)
  have m_q6_w_10 : w_10.1 q6 = some (.inr (7, v0_7)) := jus ew_10
  have hk_w_10 := jk1 ew_10 hk_w_9
  have lt_q6 := jfrL fr_w_9 f_q6
  have fr_w_10 := jfrN ew_10 fr_w_9 f_q6
  refine j_blk 45 [(0, .ref a)] [.ref q6, .ref q6, .ref a] C k_c_CS_init_44_1 rfl ?_
  refine j_callIn C Rm Y [] [.ref q6, .ref a] (c_Walk_init l D B H0 w_10 q6 v0_7 m_q6_w_10) cl_CS_34 d_c_CS_init_45 rfl rfl (Nat.le_of_ble_eq_true rfl) ⟨by decide, by decide⟩ ⟨jroom hk_w_10.1 rfl, jroom hk_w_10.2 rfl⟩ (fun v7 w_11 pw_11 => ?_)
  obtain ⟨rfl, hc_w_11, G_w_11, V_w_11, q8, q9, q10, q11, q12, q13, ltq8_w_11, ltq9_w_11, ltq10_w_11, ltq11_w_11, ltq12_w_11, ltq13_w_11, mo_w_11, hV0_w_11, hV1_w_11, hV2_w_11, hV3_w_11, mmq9_w_11, mmq10_w_11, mmq11_w_11, mmq12_w_11, mmq13_w_11⟩ := pw_11
  have hk_w_11 := jkT hk_w_10 hc_w_11
  have lt_q8 := jfrL fr_w_10 ltq8_w_11
  have lt_q9 := jfrL fr_w_10 ltq9_w_11
  have lt_q10 := jfrL fr_w_10 ltq10_w_11
  have lt_q11 := jfrL fr_w_10 ltq11_w_11
  have lt_q12 := jfrL fr_w_10 ltq12_w_11
  have lt_q13 := jfrL fr_w_10 ltq13_w_11
  have fr_w_11 := jfrT fr_w_10 G_w_11 (fun b _ _ he => Nat.ne_of_lt (lt_q6 b _ he))
  show JJ g w_11 48 [(0, .ref a)] [.ref q6, .ref a]
  have x_a_q6 := Nat.ne_of_lt (f_q6 _ _ m_a_w_9)
  have m_a_w_10 := jun ew_10 m_a_w_9 x_a_q6
  have m_a_w_11 := (G_w_11 _ _ m_a_w_10).1 x_a_q6
  refine j_putF C hin d_c_CS_init_48 ff_CS_35 m_a_w_11 rfl rfl ?_
  refine jnv (fun w_12 ew_12 => ?_)
  have m_a_w_12 : w_12.1 a = some (.inr (8, (updV (updV (updV (updV (updV V 0 (.ref q1)) 2 (.ref q2)) 8 (.ref q3)) 9 (.ref q4)) 10 (.ref q6)))) := jus ew_12
  have hk_w_12 := jk0 ew_12 hk_w_11
  have fr_w_12 := jfrW ew_12 fr_w_11 (fun b e hb _ => hb)
  refine j_blk 54 [(0, .ref a)] [.int 10, .ref a] C k_c_CS_init_51_2 rfl ?_
  refine j_newa (n := 10) C Rm d_c_CS_init_54 rfl ac_long (by decide) (by decide) (by decide) (jroom hk_w_12.1 rfl) (jroom hk_w_12.2 rfl) (fun q14 f_q14 => ?_)
  refine jnv (fun w_13 ew_13 => ?_)
  have m_q14_w_13 : w_13.1 q14 = some (aJ D 10 (fun _ => 0)) := jus ew_13
  have hk_w_13 := jk1 ew_13 hk_w_12
  have lt_q14 := jfrL fr_w_12 f_q14
  have fr_w_13 := jfrN ew_13 fr_w_12 f_q14
  have x_a_q14 := Nat.ne_of_lt (f_q14 _ _ m_a_w_12)
  have m_a_w_13 := jun ew_13 m_a_w_12 x_a_q14
  refine j_putF C hin d_c_CS_init_56 ff_CS_39 m_a_w_13 rfl rfl ?_
  refine jnv (fun w_14 ew_14 => ?_)
  have m_a_w_14 : w_14.1 a = some (.inr (8, (updV (updV (updV (updV (updV (updV V 0 (.ref q1)) 2 (.ref q2)) 8 (.ref q3)) 9 (.ref q4)) 10 (.ref q6)) 11 (.ref q14)))) := jus ew_14
  have hk_w_14 := jk0 ew_14 hk_w_13
  have fr_w_14 := jfrW ew_14 fr_w_13 (fun b e hb _ => hb)
  refine j_blk 62 [(0, .ref a)] [.int 10, .ref a] C k_c_CS_init_59_2 rfl ?_
  refine j_newa (n := 10) C Rm d_c_CS_init_62 rfl ac_long (by decide) (by decide) (by decide) (jroom hk_w_14.1 rfl) (jroom hk_w_14.2 rfl) (fun q15 f_q15 => ?_)
  refine jnv (fun w_15 ew_15 => ?_)
  have m_q15_w_15 : w_15.1 q15 = some (aJ D 10 (fun _ => 0)) := jus ew_15
  have hk_w_15 := jk1 ew_15 hk_w_14
  have lt_q15 := jfrL fr_w_14 f_q15
  have fr_w_15 := jfrN ew_15 fr_w_14 f_q15
  have x_a_q15 := Nat.ne_of_lt (f_q15 _ _ m_a_w_14)
  have m_a_w_15 := jun ew_15 m_a_w_14 x_a_q15
  refine j_putF C hin d_c_CS_init_64 ff_CS_43 m_a_w_15 rfl rfl ?_
  refine jnv (fun w_16 ew_16 => ?_)
  have m_a_w_16 : w_16.1 a = some (.inr (8, (updV (updV (updV (updV (updV (updV (updV V 0 (.ref q1)) 2 (.ref q2)) 8 (.ref q3)) 9 (.ref q4)) 10 (.ref q6)) 11 (.ref q14)) 12 (.ref q15)))) := jus ew_16
  have hk_w_16 := jk0 ew_16 hk_w_15
  have fr_w_16 := jfrW ew_16 fr_w_15 (fun b e hb _ => hb)
  refine j_blk 71 [(1, .int 0), (0, .ref a)] [.int 4, .int 0] C k_c_CS_init_67_4 rfl ?_
  refine j_icmp_ge (tgt := 93) C d_c_CS_init_71 (by decide) (fun c16 => absurd c16 (by decide)) (fun c16 => ?_)
  refine j_blk 75 [(1, .int 0), (0, .ref a)] [.ref a] C k_c_CS_init_74_1 rfl ?_
  refine j_get C d_c_CS_init_75 fg_CS_21 m_a_w_16 rfl ?_
  refine j_blk 79 [(1, .int 0), (0, .ref a)] [.int 0, .ref q3] C k_c_CS_init_78_1 rfl ?_
  refine j_new C Rm d_c_CS_init_79 nw_CS_19 (jroom hk_w_16.1 rfl) (jroom hk_w_16.2 rfl) (fun q17 f_q17 => ?_)
  refine jnv (fun w_17 ew_17 => ?_)
  have m_q17_w_17 : w_17.1 q17 = some (.inr (5, v0_5)) := jus ew_17
  have hk_w_17 := jk1 ew_17 hk_w_16
  have lt_q17 := jfrL fr_w_16 f_q17
  have fr_w_17 := jfrN ew_17 fr_w_16 f_q17
  refine j_blk 83 [(1, .int 0), (0, .ref a)] [.ref q17, .ref q17, .int 0, .ref q3] C k_c_CS_init_82_1 rfl ?_
  refine j_callIn C Rm Y [] [.ref q17, .int 0, .ref q3] (c_Sheet_init l D B H0 w_17 q17 v0_5 m_q17_w_17) cl_CS_46 d_c_CS_init_83 rfl rfl (Nat.le_of_ble_eq_true rfl) ⟨by decide, by decide⟩ ⟨jroom hk_w_17.1 rfl, jroom hk_w_17.2 rfl⟩ (fun v18 w_18 pw_18 => ?_)
  obtain ⟨rfl, hc_w_18, G_w_18, V_w_18, q19, ltq19_w_18, mo_w_18, hV0_w_18, hV1_w_18, hV2_w_18, mmq19_w_18⟩ := pw_18
  have hk_w_18 := jkT hk_w_17 hc_w_18
  have lt_q19 := jfrL fr_w_17 ltq19_w_18
  have fr_w_18 := jfrT fr_w_17 G_w_18 (fun b _ _ he => Nat.ne_of_lt (lt_q17 b _ he))
  show JJ g w_18 86 [(1, .int 0), (0, .ref a)] [.ref q17, .int 0, .ref q3]
  have m_q3_w_6 := jun ew_6 m_q3_w_5 (Ne.symm x_a_q3)
  have x_q3_q4 := Nat.ne_of_lt (f_q4 _ _ m_q3_w_6)
  have m_q3_w_7 := jun ew_7 m_q3_w_6 x_q3_q4
  have m_q3_w_8 := (G_w_8 _ _ m_q3_w_7).1 x_q3_q4
  have m_q3_w_9 := jun ew_9 m_q3_w_8 (Ne.symm x_a_q3)
  have x_q3_q6 := Nat.ne_of_lt (f_q6 _ _ m_q3_w_9)
  have m_q3_w_10 := jun ew_10 m_q3_w_9 x_q3_q6
  have m_q3_w_11 := (G_w_11 _ _ m_q3_w_10).1 x_q3_q6
  have m_q3_w_12 := jun ew_12 m_q3_w_11 (Ne.symm x_a_q3)
  have x_q3_q14 := Nat.ne_of_lt (f_q14 _ _ m_q3_w_12)
  have m_q3_w_13 := jun ew_13 m_q3_w_12 x_q3_q14
  have m_q3_w_14 := jun ew_14 m_q3_w_13 (Ne.symm x_a_q3)
  have x_q3_q15 := Nat.ne_of_lt (f_q15 _ _ m_q3_w_14)
  have m_q3_w_15 := jun ew_15 m_q3_w_14 x_q3_q15
  have m_q3_w_16 := jun ew_16 m_q3_w_15 (Ne.symm x_a_q3)
  have x_q3_q17 := Nat.ne_of_lt (f_q17 _ _ m_q3_w_16)
  have m_q3_w_17 := jun ew_17 m_q3_w_16 x_q3_q17
  have m_q3_w_18 := (G_w_18 _ _ m_q3_w_17).1 x_q3_q17
  refine j_aast C d_c_CS_init_86 (by rfl) (by rfl) m_q3_w_18 mo_w_18 (jin (by decide) (by decide)) ?_
  refine jnv (fun w_19 ew_19 => ?_)
  have m_q3_w_19 : w_19.1 q3 = some (aR D 9 4 (va_up (fun _ => none) 0 (some q17))) := jus ew_19
  have hk_w_19 := jk0 ew_19 hk_w_18
  have fr_w_19 := jfrW ew_19 fr_w_18 (fun b _ _ he => Nat.ne_of_lt (lt_q3 b _ he))
  refine j_blk 69 [(1, .int 1), (0, .ref a)] [] C k_c_CS_init_87_2 rfl ?_
  refine j_blk 71 [(1, .int 1), (0, .ref a)] [.int 4, .int 1] C k_c_CS_init_69_2 rfl ?_
  refine j_icmp_ge (tgt := 93) C d_c_CS_init_71 (by decide) (fun c20 => absurd c20 (by decide)) (fun c20 => ?_)
  refine j_blk 75 [(1, .int 1), (0, .ref a)] [.ref a] C k_c_CS_init_74_1 rfl ?_
  have x_a_q17 := Nat.ne_of_lt (f_q17 _ _ m_a_w_16)
  have m_a_w_17 := jun ew_17 m_a_w_16 x_a_q17
  have m_a_w_18 := (G_w_18 _ _ m_a_w_17).1 x_a_q17
  have m_a_w_19 := jun ew_19 m_a_w_18 x_a_q3
  refine j_get C d_c_CS_init_75 fg_CS_21 m_a_w_19 rfl ?_
  refine j_blk 79 [(1, .int 1), (0, .ref a)] [.int 1, .ref q3] C k_c_CS_init_78_1 rfl ?_
  refine j_new C Rm d_c_CS_init_79 nw_CS_19 (jroom hk_w_19.1 rfl) (jroom hk_w_19.2 rfl) (fun q21 f_q21 => ?_)
  refine jnv (fun w_20 ew_20 => ?_)
  have m_q21_w_20 : w_20.1 q21 = some (.inr (5, v0_5)) := jus ew_20
  have hk_w_20 := jk1 ew_20 hk_w_19
  have lt_q21 := jfrL fr_w_19 f_q21
  have fr_w_20 := jfrN ew_20 fr_w_19 f_q21
  refine j_blk 83 [(1, .int 1), (0, .ref a)] [.ref q21, .ref q21, .int 1, .ref q3] C k_c_CS_init_82_1 rfl ?_
  refine j_callIn C Rm Y [] [.ref q21, .int 1, .ref q3] (c_Sheet_init l D B H0 w_20 q21 v0_5 m_q21_w_20) cl_CS_46 d_c_CS_init_83 rfl rfl (Nat.le_of_ble_eq_true rfl) ⟨by decide, by decide⟩ ⟨jroom hk_w_20.1 rfl, jroom hk_w_20.2 rfl⟩ (fun v22 w_21 pw_21 => ?_)
  obtain ⟨rfl, hc_w_21, G_w_21, V_w_21, q23, ltq23_w_21, mo_w_21, hV0_w_21, hV1_w_21, hV2_w_21, mmq23_w_21⟩ := pw_21
  have hk_w_21 := jkT hk_w_20 hc_w_21
  have lt_q23 := jfrL fr_w_20 ltq23_w_21
  have fr_w_21 := jfrT fr_w_20 G_w_21 (fun b _ _ he => Nat.ne_of_lt (lt_q21 b _ he))
  show JJ g w_21 86 [(1, .int 1), (0, .ref a)] [.ref q21, .int 1, .ref q3]
  have x_q3_q21 := Nat.ne_of_lt (f_q21 _ _ m_q3_w_19)
  have m_q3_w_20 := jun ew_20 m_q3_w_19 x_q3_q21
  have m_q3_w_21 := (G_w_21 _ _ m_q3_w_20).1 x_q3_q21
  refine j_aast C d_c_CS_init_86 (by rfl) (by rfl) m_q3_w_21 mo_w_21 (jin (by decide) (by decide)) ?_
  refine jnv (fun w_22 ew_22 => ?_)
  have m_q3_w_22 : w_22.1 q3 = some (aR D 9 4 (va_up (va_up (fun _ => none) 0 (some q17)) 1 (some q21))) := jus ew_22
  have hk_w_22 := jk0 ew_22 hk_w_21
  have fr_w_22 := jfrW ew_22 fr_w_21 (fun b _ _ he => Nat.ne_of_lt (lt_q3 b _ he))
  refine j_blk 69 [(1, .int 2), (0, .ref a)] [] C k_c_CS_init_87_2 rfl ?_
  refine j_blk 71 [(1, .int 2), (0, .ref a)] [.int 4, .int 2] C k_c_CS_init_69_2 rfl ?_
  refine j_icmp_ge (tgt := 93) C d_c_CS_init_71 (by decide) (fun c24 => absurd c24 (by decide)) (fun c24 => ?_)
  refine j_blk 75 [(1, .int 2), (0, .ref a)] [.ref a] C k_c_CS_init_74_1 rfl ?_
  have x_a_q21 := Nat.ne_of_lt (f_q21 _ _ m_a_w_19)
  have m_a_w_20 := jun ew_20 m_a_w_19 x_a_q21
  have m_a_w_21 := (G_w_21 _ _ m_a_w_20).1 x_a_q21
  have m_a_w_22 := jun ew_22 m_a_w_21 x_a_q3
  refine j_get C d_c_CS_init_75 fg_CS_21 m_a_w_22 rfl ?_
  refine j_blk 79 [(1, .int 2), (0, .ref a)] [.int 2, .ref q3] C k_c_CS_init_78_1 rfl ?_
  refine j_new C Rm d_c_CS_init_79 nw_CS_19 (jroom hk_w_22.1 rfl) (jroom hk_w_22.2 rfl) (fun q25 f_q25 => ?_)
  refine jnv (fun w_23 ew_23 => ?_)
  have m_q25_w_23 : w_23.1 q25 = some (.inr (5, v0_5)) := jus ew_23
  have hk_w_23 := jk1 ew_23 hk_w_22
  have lt_q25 := jfrL fr_w_22 f_q25
  have fr_w_23 := jfrN ew_23 fr_w_22 f_q25
  refine j_blk 83 [(1, .int 2), (0, .ref a)] [.ref q25, .ref q25, .int 2, .ref q3] C k_c_CS_init_82_1 rfl ?_
  refine j_callIn C Rm Y [] [.ref q25, .int 2, .ref q3] (c_Sheet_init l D B H0 w_23 q25 v0_5 m_q25_w_23) cl_CS_46 d_c_CS_init_83 rfl rfl (Nat.le_of_ble_eq_true rfl) ⟨by decide, by decide⟩ ⟨jroom hk_w_23.1 rfl, jroom hk_w_23.2 rfl⟩ (fun v26 w_24 pw_24 => ?_)
  obtain ⟨rfl, hc_w_24, G_w_24, V_w_24, q27, ltq27_w_24, mo_w_24, hV0_w_24, hV1_w_24, hV2_w_24, mmq27_w_24⟩ := pw_24
  have hk_w_24 := jkT hk_w_23 hc_w_24
  have lt_q27 := jfrL fr_w_23 ltq27_w_24
  have fr_w_24 := jfrT fr_w_23 G_w_24 (fun b _ _ he => Nat.ne_of_lt (lt_q25 b _ he))
  show JJ g w_24 86 [(1, .int 2), (0, .ref a)] [.ref q25, .int 2, .ref q3]
  have x_q3_q25 := Nat.ne_of_lt (f_q25 _ _ m_q3_w_22)
  have m_q3_w_23 := jun ew_23 m_q3_w_22 x_q3_q25
  have m_q3_w_24 := (G_w_24 _ _ m_q3_w_23).1 x_q3_q25
  refine j_aast C d_c_CS_init_86 (by rfl) (by rfl) m_q3_w_24 mo_w_24 (jin (by decide) (by decide)) ?_
  refine jnv (fun w_25 ew_25 => ?_)
  have m_q3_w_25 : w_25.1 q3 = some (aR D 9 4 (va_up (va_up (va_up (fun _ => none) 0 (some q17)) 1 (some q21)) 2 (some q25))) := jus ew_25
  have hk_w_25 := jk0 ew_25 hk_w_24
  have fr_w_25 := jfrW ew_25 fr_w_24 (fun b _ _ he => Nat.ne_of_lt (lt_q3 b _ he))
  refine j_blk 69 [(1, .int 3), (0, .ref a)] [] C k_c_CS_init_87_2 rfl ?_
  refine j_blk 71 [(1, .int 3), (0, .ref a)] [.int 4, .int 3] C k_c_CS_init_69_2 rfl ?_
  refine j_icmp_ge (tgt := 93) C d_c_CS_init_71 (by decide) (fun c28 => absurd c28 (by decide)) (fun c28 => ?_)
  refine j_blk 75 [(1, .int 3), (0, .ref a)] [.ref a] C k_c_CS_init_74_1 rfl ?_
  have x_a_q25 := Nat.ne_of_lt (f_q25 _ _ m_a_w_22)
  have m_a_w_23 := jun ew_23 m_a_w_22 x_a_q25
  have m_a_w_24 := (G_w_24 _ _ m_a_w_23).1 x_a_q25
  have m_a_w_25 := jun ew_25 m_a_w_24 x_a_q3
  refine j_get C d_c_CS_init_75 fg_CS_21 m_a_w_25 rfl ?_
  refine j_blk 79 [(1, .int 3), (0, .ref a)] [.int 3, .ref q3] C k_c_CS_init_78_1 rfl ?_
  refine j_new C Rm d_c_CS_init_79 nw_CS_19 (jroom hk_w_25.1 rfl) (jroom hk_w_25.2 rfl) (fun q29 f_q29 => ?_)
  refine jnv (fun w_26 ew_26 => ?_)
  have m_q29_w_26 : w_26.1 q29 = some (.inr (5, v0_5)) := jus ew_26
  have hk_w_26 := jk1 ew_26 hk_w_25
  have lt_q29 := jfrL fr_w_25 f_q29
  have fr_w_26 := jfrN ew_26 fr_w_25 f_q29
  refine j_blk 83 [(1, .int 3), (0, .ref a)] [.ref q29, .ref q29, .int 3, .ref q3] C k_c_CS_init_82_1 rfl ?_
  refine j_callIn C Rm Y [] [.ref q29, .int 3, .ref q3] (c_Sheet_init l D B H0 w_26 q29 v0_5 m_q29_w_26) cl_CS_46 d_c_CS_init_83 rfl rfl (Nat.le_of_ble_eq_true rfl) ⟨by decide, by decide⟩ ⟨jroom hk_w_26.1 rfl, jroom hk_w_26.2 rfl⟩ (fun v30 w_27 pw_27 => ?_)
  obtain ⟨rfl, hc_w_27, G_w_27, V_w_27, q31, ltq31_w_27, mo_w_27, hV0_w_27, hV1_w_27, hV2_w_27, mmq31_w_27⟩ := pw_27
  have hk_w_27 := jkT hk_w_26 hc_w_27
  have lt_q31 := jfrL fr_w_26 ltq31_w_27
  have fr_w_27 := jfrT fr_w_26 G_w_27 (fun b _ _ he => Nat.ne_of_lt (lt_q29 b _ he))
  show JJ g w_27 86 [(1, .int 3), (0, .ref a)] [.ref q29, .int 3, .ref q3]
  have x_q3_q29 := Nat.ne_of_lt (f_q29 _ _ m_q3_w_25)
  have m_q3_w_26 := jun ew_26 m_q3_w_25 x_q3_q29
  have m_q3_w_27 := (G_w_27 _ _ m_q3_w_26).1 x_q3_q29
  refine j_aast C d_c_CS_init_86 (by rfl) (by rfl) m_q3_w_27 mo_w_27 (jin (by decide) (by decide)) ?_
  refine jnv (fun w_28 ew_28 => ?_)
  have m_q3_w_28 : w_28.1 q3 = some (aR D 9 4 (va_up (va_up (va_up (va_up (fun _ => none) 0 (some q17)) 1 (some q21)) 2 (some q25)) 3 (some q29))) := jus ew_28
  have hk_w_28 := jk0 ew_28 hk_w_27
  have fr_w_28 := jfrW ew_28 fr_w_27 (fun b _ _ he => Nat.ne_of_lt (lt_q3 b _ he))
  refine j_blk 69 [(1, .int 4), (0, .ref a)] [] C k_c_CS_init_87_2 rfl ?_
  refine j_blk 71 [(1, .int 4), (0, .ref a)] [.int 4, .int 4] C k_c_CS_init_69_2 rfl ?_
  refine j_icmp_ge (tgt := 93) C d_c_CS_init_71 (by decide) (fun c32 => ?_) (fun c32 => absurd (by decide) c32)
  have m_q17_w_19 := jun ew_19 mo_w_18 (Ne.symm x_q3_q17)
  have x_q17_q21 := Nat.ne_of_lt (f_q21 _ _ m_q17_w_19)
  have m_q17_w_20 := jun ew_20 m_q17_w_19 x_q17_q21
  have m_q17_w_21 := (G_w_21 _ _ m_q17_w_20).1 x_q17_q21
  have m_q17_w_22 := jun ew_22 m_q17_w_21 (Ne.symm x_q3_q17)
  have x_q17_q25 := Nat.ne_of_lt (f_q25 _ _ m_q17_w_22)
  have m_q17_w_23 := jun ew_23 m_q17_w_22 x_q17_q25
  have m_q17_w_24 := (G_w_24 _ _ m_q17_w_23).1 x_q17_q25
  have m_q17_w_25 := jun ew_25 m_q17_w_24 (Ne.symm x_q3_q17)
  have x_q17_q29 := Nat.ne_of_lt (f_q29 _ _ m_q17_w_25)
  have m_q17_w_26 := jun ew_26 m_q17_w_25 x_q17_q29
  have m_q17_w_27 := (G_w_27 _ _ m_q17_w_26).1 x_q17_q29
  have m_q17_w_28 := jun ew_28 m_q17_w_27 (Ne.symm x_q3_q17)
  have m_q19_w_19 := jun ew_19 mmq19_w_18 (jneN mmq19_w_18 m_q3_w_18 rfl)
  have x_q19_q21 := Nat.ne_of_lt (f_q21 _ _ m_q19_w_19)
  have m_q19_w_20 := jun ew_20 m_q19_w_19 x_q19_q21
  have m_q19_w_21 := (G_w_21 _ _ m_q19_w_20).1 x_q19_q21
  have m_q19_w_22 := jun ew_22 m_q19_w_21 (jneN m_q19_w_21 m_q3_w_21 rfl)
  have x_q19_q25 := Nat.ne_of_lt (f_q25 _ _ m_q19_w_22)
  have m_q19_w_23 := jun ew_23 m_q19_w_22 x_q19_q25
  have m_q19_w_24 := (G_w_24 _ _ m_q19_w_23).1 x_q19_q25
  have m_q19_w_25 := jun ew_25 m_q19_w_24 (jneN m_q19_w_24 m_q3_w_24 rfl)
  have x_q19_q29 := Nat.ne_of_lt (f_q29 _ _ m_q19_w_25)
  have m_q19_w_26 := jun ew_26 m_q19_w_25 x_q19_q29
  have m_q19_w_27 := (G_w_27 _ _ m_q19_w_26).1 x_q19_q29
  have m_q19_w_28 := jun ew_28 m_q19_w_27 (jneN m_q19_w_27 m_q3_w_27 rfl)
  have m_q21_w_22 := jun ew_22 mo_w_21 (Ne.symm x_q3_q21)
  have x_q21_q25 := Nat.ne_of_lt (f_q25 _ _ m_q21_w_22)
  have m_q21_w_23 := jun ew_23 m_q21_w_22 x_q21_q25
  have m_q21_w_24 := (G_w_24 _ _ m_q21_w_23).1 x_q21_q25
  have m_q21_w_25 := jun ew_25 m_q21_w_24 (Ne.symm x_q3_q21)
  have x_q21_q29 := Nat.ne_of_lt (f_q29 _ _ m_q21_w_25)
  have m_q21_w_26 := jun ew_26 m_q21_w_25 x_q21_q29
  have m_q21_w_27 := (G_w_27 _ _ m_q21_w_26).1 x_q21_q29
  have m_q21_w_28 := jun ew_28 m_q21_w_27 (Ne.symm x_q3_q21)
  have m_q23_w_22 := jun ew_22 mmq23_w_21 (jneN mmq23_w_21 m_q3_w_21 rfl)
  have x_q23_q25 := Nat.ne_of_lt (f_q25 _ _ m_q23_w_22)
  have m_q23_w_23 := jun ew_23 m_q23_w_22 x_q23_q25
  have m_q23_w_24 := (G_w_24 _ _ m_q23_w_23).1 x_q23_q25
  have m_q23_w_25 := jun ew_25 m_q23_w_24 (jneN m_q23_w_24 m_q3_w_24 rfl)
  have x_q23_q29 := Nat.ne_of_lt (f_q29 _ _ m_q23_w_25)
  have m_q23_w_26 := jun ew_26 m_q23_w_25 x_q23_q29
  have m_q23_w_27 := (G_w_27 _ _ m_q23_w_26).1 x_q23_q29
  have m_q23_w_28 := jun ew_28 m_q23_w_27 (jneN m_q23_w_27 m_q3_w_27 rfl)
  have m_q25_w_25 := jun ew_25 mo_w_24 (Ne.symm x_q3_q25)
  have x_q25_q29 := Nat.ne_of_lt (f_q29 _ _ m_q25_w_25)
  have m_q25_w_26 := jun ew_26 m_q25_w_25 x_q25_q29
  have m_q25_w_27 := (G_w_27 _ _ m_q25_w_26).1 x_q25_q29
  have m_q25_w_28 := jun ew_28 m_q25_w_27 (Ne.symm x_q3_q25)
  have m_q27_w_25 := jun ew_25 mmq27_w_24 (jneN mmq27_w_24 m_q3_w_24 rfl)
  have x_q27_q29 := Nat.ne_of_lt (f_q29 _ _ m_q27_w_25)
  have m_q27_w_26 := jun ew_26 m_q27_w_25 x_q27_q29
  have m_q27_w_27 := (G_w_27 _ _ m_q27_w_26).1 x_q27_q29
  have m_q27_w_28 := jun ew_28 m_q27_w_27 (jneN m_q27_w_27 m_q3_w_27 rfl)
  have m_q29_w_28 := jun ew_28 mo_w_27 (Ne.symm x_q3_q29)
  have m_q31_w_28 := jun ew_28 mmq31_w_27 (jneN mmq31_w_27 m_q3_w_27 rfl)
  have x_a_q29 := Nat.ne_of_lt (f_q29 _ _ m_a_w_25)
  have m_a_w_26 := jun ew_26 m_a_w_25 x_a_q29
  have m_a_w_27 := (G_w_27 _ _ m_a_w_26).1 x_a_q29
  have m_a_w_28 := jun ew_28 m_a_w_27 x_a_q3
  have m_q1_w_2 := jun ew_2 m_q1_w_1 (Ne.symm x_a_q1)
  have x_q1_q2 := Nat.ne_of_lt (f_q2 _ _ m_q1_w_2)
  have m_q1_w_3 := jun ew_3 m_q1_w_2 x_q1_q2
  have m_q1_w_4 := jun ew_4 m_q1_w_3 (Ne.symm x_a_q1)
  have x_q1_q3 := Nat.ne_of_lt (f_q3 _ _ m_q1_w_4)
  have m_q1_w_5 := jun ew_5 m_q1_w_4 x_q1_q3
  have m_q1_w_6 := jun ew_6 m_q1_w_5 (Ne.symm x_a_q1)
  have x_q1_q4 := Nat.ne_of_lt (f_q4 _ _ m_q1_w_6)
  have m_q1_w_7 := jun ew_7 m_q1_w_6 x_q1_q4
  have m_q1_w_8 := (G_w_8 _ _ m_q1_w_7).1 x_q1_q4
  have m_q1_w_9 := jun ew_9 m_q1_w_8 (Ne.symm x_a_q1)
  have x_q1_q6 := Nat.ne_of_lt (f_q6 _ _ m_q1_w_9)
  have m_q1_w_10 := jun ew_10 m_q1_w_9 x_q1_q6
  have m_q1_w_11 := (G_w_11 _ _ m_q1_w_10).1 x_q1_q6
  have m_q1_w_12 := jun ew_12 m_q1_w_11 (Ne.symm x_a_q1)
  have x_q1_q14 := Nat.ne_of_lt (f_q14 _ _ m_q1_w_12)
  have m_q1_w_13 := jun ew_13 m_q1_w_12 x_q1_q14
  have m_q1_w_14 := jun ew_14 m_q1_w_13 (Ne.symm x_a_q1)
  have x_q1_q15 := Nat.ne_of_lt (f_q15 _ _ m_q1_w_14)
  have m_q1_w_15 := jun ew_15 m_q1_w_14 x_q1_q15
  have m_q1_w_16 := jun ew_16 m_q1_w_15 (Ne.symm x_a_q1)
  have x_q1_q17 := Nat.ne_of_lt (f_q17 _ _ m_q1_w_16)
  have m_q1_w_17 := jun ew_17 m_q1_w_16 x_q1_q17
  have m_q1_w_18 := (G_w_18 _ _ m_q1_w_17).1 x_q1_q17
  have m_q1_w_19 := jun ew_19 m_q1_w_18 x_q1_q3
  have x_q1_q21 := Nat.ne_of_lt (f_q21 _ _ m_q1_w_19)
  have m_q1_w_20 := jun ew_20 m_q1_w_19 x_q1_q21
  have m_q1_w_21 := (G_w_21 _ _ m_q1_w_20).1 x_q1_q21
  have m_q1_w_22 := jun ew_22 m_q1_w_21 x_q1_q3
  have x_q1_q25 := Nat.ne_of_lt (f_q25 _ _ m_q1_w_22)
  have m_q1_w_23 := jun ew_23 m_q1_w_22 x_q1_q25
  have m_q1_w_24 := (G_w_24 _ _ m_q1_w_23).1 x_q1_q25
  have m_q1_w_25 := jun ew_25 m_q1_w_24 x_q1_q3
  have x_q1_q29 := Nat.ne_of_lt (f_q29 _ _ m_q1_w_25)
  have m_q1_w_26 := jun ew_26 m_q1_w_25 x_q1_q29
  have m_q1_w_27 := (G_w_27 _ _ m_q1_w_26).1 x_q1_q29
  have m_q1_w_28 := jun ew_28 m_q1_w_27 x_q1_q3
  have m_q2_w_4 := jun ew_4 m_q2_w_3 (Ne.symm x_a_q2)
  have x_q2_q3 := Nat.ne_of_lt (f_q3 _ _ m_q2_w_4)
  have m_q2_w_5 := jun ew_5 m_q2_w_4 x_q2_q3
  have m_q2_w_6 := jun ew_6 m_q2_w_5 (Ne.symm x_a_q2)
  have x_q2_q4 := Nat.ne_of_lt (f_q4 _ _ m_q2_w_6)
  have m_q2_w_7 := jun ew_7 m_q2_w_6 x_q2_q4
  have m_q2_w_8 := (G_w_8 _ _ m_q2_w_7).1 x_q2_q4
  have m_q2_w_9 := jun ew_9 m_q2_w_8 (Ne.symm x_a_q2)
  have x_q2_q6 := Nat.ne_of_lt (f_q6 _ _ m_q2_w_9)
  have m_q2_w_10 := jun ew_10 m_q2_w_9 x_q2_q6
  have m_q2_w_11 := (G_w_11 _ _ m_q2_w_10).1 x_q2_q6
  have m_q2_w_12 := jun ew_12 m_q2_w_11 (Ne.symm x_a_q2)
  have x_q2_q14 := Nat.ne_of_lt (f_q14 _ _ m_q2_w_12)
  have m_q2_w_13 := jun ew_13 m_q2_w_12 x_q2_q14
  have m_q2_w_14 := jun ew_14 m_q2_w_13 (Ne.symm x_a_q2)
  have x_q2_q15 := Nat.ne_of_lt (f_q15 _ _ m_q2_w_14)
  have m_q2_w_15 := jun ew_15 m_q2_w_14 x_q2_q15
  have m_q2_w_16 := jun ew_16 m_q2_w_15 (Ne.symm x_a_q2)
  have x_q2_q17 := Nat.ne_of_lt (f_q17 _ _ m_q2_w_16)
  have m_q2_w_17 := jun ew_17 m_q2_w_16 x_q2_q17
  have m_q2_w_18 := (G_w_18 _ _ m_q2_w_17).1 x_q2_q17
  have m_q2_w_19 := jun ew_19 m_q2_w_18 x_q2_q3
  have x_q2_q21 := Nat.ne_of_lt (f_q21 _ _ m_q2_w_19)
  have m_q2_w_20 := jun ew_20 m_q2_w_19 x_q2_q21
  have m_q2_w_21 := (G_w_21 _ _ m_q2_w_20).1 x_q2_q21
  have m_q2_w_22 := jun ew_22 m_q2_w_21 x_q2_q3
  have x_q2_q25 := Nat.ne_of_lt (f_q25 _ _ m_q2_w_22)
  have m_q2_w_23 := jun ew_23 m_q2_w_22 x_q2_q25
  have m_q2_w_24 := (G_w_24 _ _ m_q2_w_23).1 x_q2_q25
  have m_q2_w_25 := jun ew_25 m_q2_w_24 x_q2_q3
  have x_q2_q29 := Nat.ne_of_lt (f_q29 _ _ m_q2_w_25)
  have m_q2_w_26 := jun ew_26 m_q2_w_25 x_q2_q29
  have m_q2_w_27 := (G_w_27 _ _ m_q2_w_26).1 x_q2_q29
  have m_q2_w_28 := jun ew_28 m_q2_w_27 x_q2_q3
  have m_q4_w_9 := jun ew_9 mo_w_8 (Ne.symm x_a_q4)
  have x_q4_q6 := Nat.ne_of_lt (f_q6 _ _ m_q4_w_9)
  have m_q4_w_10 := jun ew_10 m_q4_w_9 x_q4_q6
  have m_q4_w_11 := (G_w_11 _ _ m_q4_w_10).1 x_q4_q6
  have m_q4_w_12 := jun ew_12 m_q4_w_11 (Ne.symm x_a_q4)
  have x_q4_q14 := Nat.ne_of_lt (f_q14 _ _ m_q4_w_12)
  have m_q4_w_13 := jun ew_13 m_q4_w_12 x_q4_q14
  have m_q4_w_14 := jun ew_14 m_q4_w_13 (Ne.symm x_a_q4)
  have x_q4_q15 := Nat.ne_of_lt (f_q15 _ _ m_q4_w_14)
  have m_q4_w_15 := jun ew_15 m_q4_w_14 x_q4_q15
  have m_q4_w_16 := jun ew_16 m_q4_w_15 (Ne.symm x_a_q4)
  have x_q4_q17 := Nat.ne_of_lt (f_q17 _ _ m_q4_w_16)
  have m_q4_w_17 := jun ew_17 m_q4_w_16 x_q4_q17
  have m_q4_w_18 := (G_w_18 _ _ m_q4_w_17).1 x_q4_q17
  have m_q4_w_19 := jun ew_19 m_q4_w_18 (Ne.symm x_q3_q4)
  have x_q4_q21 := Nat.ne_of_lt (f_q21 _ _ m_q4_w_19)
  have m_q4_w_20 := jun ew_20 m_q4_w_19 x_q4_q21
  have m_q4_w_21 := (G_w_21 _ _ m_q4_w_20).1 x_q4_q21
  have m_q4_w_22 := jun ew_22 m_q4_w_21 (Ne.symm x_q3_q4)
  have x_q4_q25 := Nat.ne_of_lt (f_q25 _ _ m_q4_w_22)
  have m_q4_w_23 := jun ew_23 m_q4_w_22 x_q4_q25
  have m_q4_w_24 := (G_w_24 _ _ m_q4_w_23).1 x_q4_q25
  have m_q4_w_25 := jun ew_25 m_q4_w_24 (Ne.symm x_q3_q4)
  have x_q4_q29 := Nat.ne_of_lt (f_q29 _ _ m_q4_w_25)
  have m_q4_w_26 := jun ew_26 m_q4_w_25 x_q4_q29
  have m_q4_w_27 := (G_w_27 _ _ m_q4_w_26).1 x_q4_q29
  have m_q4_w_28 := jun ew_28 m_q4_w_27 (Ne.symm x_q3_q4)
  have m_q14_w_14 := jun ew_14 m_q14_w_13 (Ne.symm x_a_q14)
  have x_q14_q15 := Nat.ne_of_lt (f_q15 _ _ m_q14_w_14)
  have m_q14_w_15 := jun ew_15 m_q14_w_14 x_q14_q15
  have m_q14_w_16 := jun ew_16 m_q14_w_15 (Ne.symm x_a_q14)
  have x_q14_q17 := Nat.ne_of_lt (f_q17 _ _ m_q14_w_16)
  have m_q14_w_17 := jun ew_17 m_q14_w_16 x_q14_q17
  have m_q14_w_18 := (G_w_18 _ _ m_q14_w_17).1 x_q14_q17
  have m_q14_w_19 := jun ew_19 m_q14_w_18 (Ne.symm x_q3_q14)
  have x_q14_q21 := Nat.ne_of_lt (f_q21 _ _ m_q14_w_19)
  have m_q14_w_20 := jun ew_20 m_q14_w_19 x_q14_q21
  have m_q14_w_21 := (G_w_21 _ _ m_q14_w_20).1 x_q14_q21
  have m_q14_w_22 := jun ew_22 m_q14_w_21 (Ne.symm x_q3_q14)
  have x_q14_q25 := Nat.ne_of_lt (f_q25 _ _ m_q14_w_22)
  have m_q14_w_23 := jun ew_23 m_q14_w_22 x_q14_q25
  have m_q14_w_24 := (G_w_24 _ _ m_q14_w_23).1 x_q14_q25
  have m_q14_w_25 := jun ew_25 m_q14_w_24 (Ne.symm x_q3_q14)
  have x_q14_q29 := Nat.ne_of_lt (f_q29 _ _ m_q14_w_25)
  have m_q14_w_26 := jun ew_26 m_q14_w_25 x_q14_q29
  have m_q14_w_27 := (G_w_27 _ _ m_q14_w_26).1 x_q14_q29
  have m_q14_w_28 := jun ew_28 m_q14_w_27 (Ne.symm x_q3_q14)
  have m_q15_w_16 := jun ew_16 m_q15_w_15 (Ne.symm x_a_q15)
  have x_q15_q17 := Nat.ne_of_lt (f_q17 _ _ m_q15_w_16)
  have m_q15_w_17 := jun ew_17 m_q15_w_16 x_q15_q17
  have m_q15_w_18 := (G_w_18 _ _ m_q15_w_17).1 x_q15_q17
  have m_q15_w_19 := jun ew_19 m_q15_w_18 (Ne.symm x_q3_q15)
  have x_q15_q21 := Nat.ne_of_lt (f_q21 _ _ m_q15_w_19)
  have m_q15_w_20 := jun ew_20 m_q15_w_19 x_q15_q21
  have m_q15_w_21 := (G_w_21 _ _ m_q15_w_20).1 x_q15_q21
  have m_q15_w_22 := jun ew_22 m_q15_w_21 (Ne.symm x_q3_q15)
  have x_q15_q25 := Nat.ne_of_lt (f_q25 _ _ m_q15_w_22)
  have m_q15_w_23 := jun ew_23 m_q15_w_22 x_q15_q25
  have m_q15_w_24 := (G_w_24 _ _ m_q15_w_23).1 x_q15_q25
  have m_q15_w_25 := jun ew_25 m_q15_w_24 (Ne.symm x_q3_q15)
  have x_q15_q29 := Nat.ne_of_lt (f_q29 _ _ m_q15_w_25)
  have m_q15_w_26 := jun ew_26 m_q15_w_25 x_q15_q29
  have m_q15_w_27 := (G_w_27 _ _ m_q15_w_26).1 x_q15_q29
  have m_q15_w_28 := jun ew_28 m_q15_w_27 (Ne.symm x_q3_q15)
  exact j_vret C Rm E d_c_CS_init_93 ⟨rfl, hk_w_28, fr_w_28, _, q1, q2, q3, q4, q6, q14, q15, _, _, lt_q1, lt_q2, lt_q3, lt_q4, lt_q6, lt_q14, lt_q15, m_a_w_28, rfl, rfl, rfl, rfl, rfl, rfl, rfl, rfl, rfl, rfl, rfl, rfl, rfl, m_q1_w_28, m_q2_w_28, m_q3_w_28, m_q4_w_28, m_q14_w_28, m_q15_w_28, (fun j hj => match j, hj with | 0, _ => ⟨q17, q19, _, rfl, m_q17_w_28, hV0_w_18, hV1_w_18, hV2_w_18, m_q19_w_28, fun b x hb => ⟨lt_q17 b x hb, lt_q19 b x hb⟩⟩ | 1, _ => ⟨q21, q23, _, rfl, m_q21_w_28, hV0_w_21, hV1_w_21, hV2_w_21, m_q23_w_28, fun b x hb => ⟨lt_q21 b x hb, lt_q23 b x hb⟩⟩ | 2, _ => ⟨q25, q27, _, rfl, m_q25_w_28, hV0_w_24, hV1_w_24, hV2_w_24, m_q27_w_28, fun b x hb => ⟨lt_q25 b x hb, lt_q27 b x hb⟩⟩ | 3, _ => ⟨q29, q31, _, rfl, m_q29_w_28, hV0_w_27, hV1_w_27, hV2_w_27, m_q31_w_28, fun b x hb => ⟨lt_q29 b x hb, lt_q31 b x hb⟩⟩)⟩ (jbnd hk_w_28.1 rfl) (jbnd hk_w_28.2 rfl)
end
section
/-! the reference as it is made (own work, by program) -/
theorem kt_200 : Int32.toInt 200 = 200 := by decide
theorem jl_lt {k : Nat} (h : ¬ (200 : Int32) ≤ nI k) (hk : k ≤ 200) : k < 200 := by rw [jle, kt_200, nI_toInt (show k < 2 ^ 31 by omega)] at h; omega
theorem jl_eq {k : Nat} (h : (200 : Int32) ≤ nI k) (hk : k ≤ 200) : k = 200 := by rw [jle, kt_200, nI_toInt (show k < 2 ^ 31 by omega)] at h; omega
theorem jl_fu {k n : Nat} (h : 200 < k + (n + 1)) : 200 < k + 1 + n := by omega
theorem jl_c (a c k : Nat) {n b : Nat} (e : n = b + (a + c * k + c)) : n = b + (a + c * (k + 1)) := by rw [e, Nat.mul_succ]; omega
theorem jl_r (m : Nat) {a c k d n b r t : Nat} (hk : k ≤ m) (e : n = b + (a + c * k + d)) (h : Nat.ble (a + c * m + d + r) t = true) : n + r ≤ b + t := by have h1 := Nat.le_of_ble_eq_true h; have h2 := Nat.mul_le_mul_left c hk; omega
theorem k_c_Mo_init_0_1 : sblk b_Mo_init [(0, .aload_n 0, .null)] := sblk_of (by decide +kernel)
theorem d_c_Mo_init_1 : decode b_Mo_init 1 = .ok (.invokespecial 1, 3) := by decide +kernel
theorem k_c_Mo_init_4_2 : sblk b_Mo_init [(4, .aload_n 0, .null), (5, .bipush 6, .int 6)] := sblk_of (by decide +kernel)
theorem d_c_Mo_init_7 : decode b_Mo_init 7 = .ok (.newarray .int, 2) := by decide +kernel
theorem d_c_Mo_init_9 : decode b_Mo_init 9 = .ok (.putfield 9, 3) := by decide +kernel
theorem k_c_Mo_init_12_2 : sblk b_Mo_init [(12, .aload_n 0, .null), (13, .bipush 6, .int 6)] := sblk_of (by decide +kernel)
theorem d_c_Mo_init_15 : decode b_Mo_init 15 = .ok (.newarray .int, 2) := by decide +kernel
theorem d_c_Mo_init_17 : decode b_Mo_init 17 = .ok (.putfield 13, 3) := by decide +kernel
theorem k_c_Mo_init_20_2 : sblk b_Mo_init [(20, .aload_n 0, .null), (21, .bipush 6, .int 6)] := sblk_of (by decide +kernel)
theorem d_c_Mo_init_23 : decode b_Mo_init 23 = .ok (.newarray .int, 2) := by decide +kernel
theorem d_c_Mo_init_25 : decode b_Mo_init 25 = .ok (.putfield 16, 3) := by decide +kernel
theorem k_c_Mo_init_28_3 : sblk b_Mo_init [(28, .aload_n 0, .null), (29, .bipush 6, .int 6), (31, .bipush 16, .int 16)] := sblk_of (by decide +kernel)
theorem d_c_Mo_init_33 : decode b_Mo_init 33 = .ok (.multianewarray 19 2, 4) := by decide +kernel
theorem d_c_Mo_init_37 : decode b_Mo_init 37 = .ok (.putfield 21, 3) := by decide +kernel
theorem k_c_Mo_init_40_3 : sblk b_Mo_init [(40, .aload_n 0, .null), (41, .bipush 6, .int 6), (43, .bipush 16, .int 16)] := sblk_of (by decide +kernel)
theorem d_c_Mo_init_45 : decode b_Mo_init 45 = .ok (.multianewarray 19 2, 4) := by decide +kernel
theorem d_c_Mo_init_49 : decode b_Mo_init 49 = .ok (.putfield 24, 3) := by decide +kernel
theorem k_c_Mo_init_52_3 : sblk b_Mo_init [(52, .aload_n 0, .null), (53, .bipush 6, .int 6), (55, .bipush 16, .int 16)] := sblk_of (by decide +kernel)
theorem d_c_Mo_init_57 : decode b_Mo_init 57 = .ok (.multianewarray 19 2, 4) := by decide +kernel
theorem d_c_Mo_init_61 : decode b_Mo_init 61 = .ok (.putfield 27, 3) := by decide +kernel
theorem k_c_Mo_init_64_3 : sblk b_Mo_init [(64, .aload_n 0, .null), (65, .bipush 6, .int 6), (67, .bipush 16, .int 16)] := sblk_of (by decide +kernel)
theorem d_c_Mo_init_69 : decode b_Mo_init 69 = .ok (.multianewarray 19 2, 4) := by decide +kernel
theorem d_c_Mo_init_73 : decode b_Mo_init 73 = .ok (.putfield 30, 3) := by decide +kernel
theorem k_c_Mo_init_76_3 : sblk b_Mo_init [(76, .aload_n 0, .null), (77, .bipush 6, .int 6), (79, .bipush 16, .int 16)] := sblk_of (by decide +kernel)
theorem d_c_Mo_init_81 : decode b_Mo_init 81 = .ok (.multianewarray 19 2, 4) := by decide +kernel
theorem d_c_Mo_init_85 : decode b_Mo_init 85 = .ok (.putfield 33, 3) := by decide +kernel
theorem k_c_Mo_init_88_3 : sblk b_Mo_init [(88, .aload_n 0, .null), (89, .bipush 6, .int 6), (91, .bipush 16, .int 16)] := sblk_of (by decide +kernel)
theorem d_c_Mo_init_93 : decode b_Mo_init 93 = .ok (.multianewarray 19 2, 4) := by decide +kernel
theorem d_c_Mo_init_97 : decode b_Mo_init 97 = .ok (.putfield 36, 3) := by decide +kernel
theorem k_c_Mo_init_100_3 : sblk b_Mo_init [(100, .aload_n 0, .null), (101, .bipush 6, .int 6), (103, .bipush 16, .int 16)] := sblk_of (by decide +kernel)
theorem d_c_Mo_init_105 : decode b_Mo_init 105 = .ok (.multianewarray 19 2, 4) := by decide +kernel
theorem d_c_Mo_init_109 : decode b_Mo_init 109 = .ok (.putfield 39, 3) := by decide +kernel
theorem k_c_Mo_init_112_3 : sblk b_Mo_init [(112, .aload_n 0, .null), (113, .bipush 6, .int 6), (115, .bipush 120, .int 120)] := sblk_of (by decide +kernel)
theorem d_c_Mo_init_117 : decode b_Mo_init 117 = .ok (.multianewarray 19 2, 4) := by decide +kernel
theorem d_c_Mo_init_121 : decode b_Mo_init 121 = .ok (.putfield 42, 3) := by decide +kernel
theorem k_c_Mo_init_124_3 : sblk b_Mo_init [(124, .aload_n 0, .null), (125, .bipush 6, .int 6), (127, .bipush 120, .int 120)] := sblk_of (by decide +kernel)
theorem d_c_Mo_init_129 : decode b_Mo_init 129 = .ok (.multianewarray 19 2, 4) := by decide +kernel
theorem d_c_Mo_init_133 : decode b_Mo_init 133 = .ok (.putfield 45, 3) := by decide +kernel
theorem k_c_Mo_init_136_3 : sblk b_Mo_init [(136, .aload_n 0, .null), (137, .bipush 6, .int 6), (139, .bipush 120, .int 120)] := sblk_of (by decide +kernel)
theorem d_c_Mo_init_141 : decode b_Mo_init 141 = .ok (.multianewarray 19 2, 4) := by decide +kernel
theorem d_c_Mo_init_145 : decode b_Mo_init 145 = .ok (.putfield 48, 3) := by decide +kernel
theorem k_c_Mo_init_148_3 : sblk b_Mo_init [(148, .aload_n 0, .null), (149, .bipush 6, .int 6), (151, .bipush 120, .int 120)] := sblk_of (by decide +kernel)
theorem d_c_Mo_init_153 : decode b_Mo_init 153 = .ok (.multianewarray 19 2, 4) := by decide +kernel
theorem d_c_Mo_init_157 : decode b_Mo_init 157 = .ok (.putfield 51, 3) := by decide +kernel
theorem k_c_Mo_init_160_3 : sblk b_Mo_init [(160, .aload_n 0, .null), (161, .bipush 6, .int 6), (163, .bipush 120, .int 120)] := sblk_of (by decide +kernel)
theorem d_c_Mo_init_165 : decode b_Mo_init 165 = .ok (.multianewarray 19 2, 4) := by decide +kernel
theorem d_c_Mo_init_169 : decode b_Mo_init 169 = .ok (.putfield 54, 3) := by decide +kernel
theorem k_c_Mo_init_172_3 : sblk b_Mo_init [(172, .aload_n 0, .null), (173, .bipush 6, .int 6), (175, .bipush 120, .int 120)] := sblk_of (by decide +kernel)
theorem d_c_Mo_init_177 : decode b_Mo_init 177 = .ok (.multianewarray 19 2, 4) := by decide +kernel
theorem d_c_Mo_init_181 : decode b_Mo_init 181 = .ok (.putfield 57, 3) := by decide +kernel
theorem k_c_Mo_init_184_2 : sblk b_Mo_init [(184, .aload_n 0, .null), (185, .bipush 6, .int 6)] := sblk_of (by decide +kernel)
theorem d_c_Mo_init_187 : decode b_Mo_init 187 = .ok (.newarray .int, 2) := by decide +kernel
theorem d_c_Mo_init_189 : decode b_Mo_init 189 = .ok (.putfield 60, 3) := by decide +kernel
theorem k_c_Mo_init_192_3 : sblk b_Mo_init [(192, .aload_n 0, .null), (193, .bipush 6, .int 6), (195, .bipush 10, .int 10)] := sblk_of (by decide +kernel)
theorem d_c_Mo_init_197 : decode b_Mo_init 197 = .ok (.multianewarray 63 2, 4) := by decide +kernel
theorem d_c_Mo_init_201 : decode b_Mo_init 201 = .ok (.putfield 65, 3) := by decide +kernel
theorem k_c_Mo_init_204_3 : sblk b_Mo_init [(204, .aload_n 0, .null), (205, .bipush 6, .int 6), (207, .bipush 10, .int 10)] := sblk_of (by decide +kernel)
theorem d_c_Mo_init_209 : decode b_Mo_init 209 = .ok (.multianewarray 63 2, 4) := by decide +kernel
theorem d_c_Mo_init_213 : decode b_Mo_init 213 = .ok (.putfield 68, 3) := by decide +kernel
theorem k_c_Mo_init_216_4 : sblk b_Mo_init [(216, .aload_n 0, .null), (217, .bipush 6, .int 6), (219, .bipush 10, .int 10), (221, .bipush 10, .int 10)] := sblk_of (by decide +kernel)
theorem d_c_Mo_init_223 : decode b_Mo_init 223 = .ok (.multianewarray 71 3, 4) := by decide +kernel
theorem d_c_Mo_init_227 : decode b_Mo_init 227 = .ok (.putfield 73, 3) := by decide +kernel
theorem k_c_Mo_init_230_2 : sblk b_Mo_init [(230, .aload_n 0, .null), (231, .bipush 120, .int 120)] := sblk_of (by decide +kernel)
theorem d_c_Mo_init_233 : decode b_Mo_init 233 = .ok (.newarray .int, 2) := by decide +kernel
theorem d_c_Mo_init_235 : decode b_Mo_init 235 = .ok (.putfield 76, 3) := by decide +kernel
theorem k_c_Mo_init_238_2 : sblk b_Mo_init [(238, .aload_n 0, .null), (239, .sipush 200, .int 200)] := sblk_of (by decide +kernel)
theorem d_c_Mo_init_242 : decode b_Mo_init 242 = .ok (.anewarray 79, 3) := by decide +kernel
theorem d_c_Mo_init_245 : decode b_Mo_init 245 = .ok (.putfield 81, 3) := by decide +kernel
theorem k_c_Mo_init_248_2 : sblk b_Mo_init [(248, .aload_n 0, .null), (249, .iconst (-1), .int (-1))] := sblk_of (by decide +kernel)
theorem d_c_Mo_init_250 : decode b_Mo_init 250 = .ok (.putfield 85, 3) := by decide +kernel
theorem k_c_Mo_init_253_2 : sblk b_Mo_init [(253, .aload_n 0, .null), (254, .bipush 6, .int 6)] := sblk_of (by decide +kernel)
theorem d_c_Mo_init_256 : decode b_Mo_init 256 = .ok (.newarray .int, 2) := by decide +kernel
theorem d_c_Mo_init_258 : decode b_Mo_init 258 = .ok (.putfield 89, 3) := by decide +kernel
theorem k_c_Mo_init_261_2 : sblk b_Mo_init [(261, .aload_n 0, .null), (262, .iconst 4, .int 4)] := sblk_of (by decide +kernel)
theorem d_c_Mo_init_263 : decode b_Mo_init 263 = .ok (.newarray .int, 2) := by decide +kernel
theorem k_c_Mo_init_265_3 : sblk b_Mo_init [(265, .dup, .null), (266, .iconst 0, .int 0), (267, .iconst (-1), .int (-1))] := sblk_of (by decide +kernel)
theorem d_c_Mo_init_268 : decode b_Mo_init 268 = .ok (.iastore, 1) := by decide +kernel
theorem k_c_Mo_init_269_3 : sblk b_Mo_init [(269, .dup, .null), (270, .iconst 1, .int 1), (271, .iconst (-1), .int (-1))] := sblk_of (by decide +kernel)
theorem d_c_Mo_init_272 : decode b_Mo_init 272 = .ok (.iastore, 1) := by decide +kernel
theorem k_c_Mo_init_273_3 : sblk b_Mo_init [(273, .dup, .null), (274, .iconst 2, .int 2), (275, .iconst (-1), .int (-1))] := sblk_of (by decide +kernel)
theorem d_c_Mo_init_276 : decode b_Mo_init 276 = .ok (.iastore, 1) := by decide +kernel
theorem k_c_Mo_init_277_3 : sblk b_Mo_init [(277, .dup, .null), (278, .iconst 3, .int 3), (279, .iconst (-1), .int (-1))] := sblk_of (by decide +kernel)
theorem d_c_Mo_init_280 : decode b_Mo_init 280 = .ok (.iastore, 1) := by decide +kernel
theorem d_c_Mo_init_281 : decode b_Mo_init 281 = .ok (.putfield 92, 3) := by decide +kernel
theorem k_c_Mo_init_284_2 : sblk b_Mo_init [(284, .aload_n 0, .null), (285, .iconst 4, .int 4)] := sblk_of (by decide +kernel)
theorem d_c_Mo_init_286 : decode b_Mo_init 286 = .ok (.newarray .int, 2) := by decide +kernel
theorem d_c_Mo_init_288 : decode b_Mo_init 288 = .ok (.putfield 95, 3) := by decide +kernel
theorem k_c_Mo_init_291_3 : sblk b_Mo_init [(291, .aload_n 0, .null), (292, .iconst 4, .int 4), (293, .bipush 40, .int 40)] := sblk_of (by decide +kernel)
theorem d_c_Mo_init_295 : decode b_Mo_init 295 = .ok (.multianewarray 19 2, 4) := by decide +kernel
theorem d_c_Mo_init_299 : decode b_Mo_init 299 = .ok (.putfield 98, 3) := by decide +kernel
theorem k_c_Mo_init_302_2 : sblk b_Mo_init [(302, .aload_n 0, .null), (303, .bipush 40, .int 40)] := sblk_of (by decide +kernel)
theorem d_c_Mo_init_305 : decode b_Mo_init 305 = .ok (.newarray .int, 2) := by decide +kernel
theorem d_c_Mo_init_307 : decode b_Mo_init 307 = .ok (.putfield 101, 3) := by decide +kernel
theorem k_c_Mo_init_310_2 : sblk b_Mo_init [(310, .iconst 0, .int 0), (311, .istore_n 1, .null)] := sblk_of (by decide +kernel)
theorem k_c_Mo_init_312_2 : sblk b_Mo_init [(312, .iload_n 1, .null), (313, .sipush 200, .int 200)] := sblk_of (by decide +kernel)
theorem d_c_Mo_init_316 : decode b_Mo_init 316 = .ok (.if_icmp .ge 22, 3) := by decide +kernel
theorem d_c_Mo_init_338 : decode b_Mo_init 338 = .ok (.return_, 1) := by decide +kernel
theorem k_c_Mo_init_319_1 : sblk b_Mo_init [(319, .aload_n 0, .null)] := sblk_of (by decide +kernel)
theorem d_c_Mo_init_320 : decode b_Mo_init 320 = .ok (.getfield 81, 3) := by decide +kernel
theorem k_c_Mo_init_323_1 : sblk b_Mo_init [(323, .iload_n 1, .null)] := sblk_of (by decide +kernel)
theorem d_c_Mo_init_324 : decode b_Mo_init 324 = .ok (.new 79, 3) := by decide +kernel
theorem k_c_Mo_init_327_1 : sblk b_Mo_init [(327, .dup, .null)] := sblk_of (by decide +kernel)
theorem d_c_Mo_init_328 : decode b_Mo_init 328 = .ok (.invokespecial 104, 3) := by decide +kernel
theorem d_c_Mo_init_331 : decode b_Mo_init 331 = .ok (.aastore, 1) := by decide +kernel
theorem k_c_Mo_init_332_2 : sblk b_Mo_init [(332, .iinc 1 1, .int 1), (335, .goto (-23), .retAddr 312)] := sblk_of (by decide +kernel)
set_option maxHeartbeats 40000000 in
set_option maxRecDepth 100000 in
theorem c_Mo_init (l : Launch) (D : va_G) (B : Nat) (H0 : Heap) (w : jW) (a : Nat) (V : Nat → Value) (ha : w.1 a = some (.inr (10, V))) : jMet l D B H0 y_Mo_init b_Mo_init 2 none 2 80 787 127430 [.ref a] w (fun v w9 => v = none ∧ (w9.2.1 = w.2.1 + 787 ∧ w9.2.2 = w.2.2 + 127430) ∧ jfr (fun b => b ≠ a) w w9 ∧ ∃ (V9 : Nat → Value) (msizes mbits mturns mkinds mnames mnumbers mends mothers mtops mfirstLots mlotValues mlotWeights macts mfigures mfirsts mseconds mstart misTold misWideSo mmade mtape mpool mimageStart msorts mlengths mitems mpassed : Nat) (fS : Nat → Int32), (∀ b e, w.1 b = some e → b < msizes) ∧ (∀ b e, w.1 b = some e → b < mbits) ∧ (∀ b e, w.1 b = some e → b < mturns) ∧ (∀ b e, w.1 b = some e → b < mkinds) ∧ (∀ b e, w.1 b = some e → b < mnames) ∧ (∀ b e, w.1 b = some e → b < mnumbers) ∧ (∀ b e, w.1 b = some e → b < mends) ∧ (∀ b e, w.1 b = some e → b < mothers) ∧ (∀ b e, w.1 b = some e → b < mtops) ∧ (∀ b e, w.1 b = some e → b < mfirstLots) ∧ (∀ b e, w.1 b = some e → b < mlotValues) ∧ (∀ b e, w.1 b = some e → b < mlotWeights) ∧ (∀ b e, w.1 b = some e → b < macts) ∧ (∀ b e, w.1 b = some e → b < mfigures) ∧ (∀ b e, w.1 b = some e → b < mfirsts) ∧ (∀ b e, w.1 b = some e → b < mseconds) ∧ (∀ b e, w.1 b = some e → b < mstart) ∧ (∀ b e, w.1 b = some e → b < misTold) ∧ (∀ b e, w.1 b = some e → b < misWideSo) ∧ (∀ b e, w.1 b = some e → b < mmade) ∧ (∀ b e, w.1 b = some e → b < mtape) ∧ (∀ b e, w.1 b = some e → b < mpool) ∧ (∀ b e, w.1 b = some e → b < mimageStart) ∧ (∀ b e, w.1 b = some e → b < msorts) ∧ (∀ b e, w.1 b = some e → b < mlengths) ∧ (∀ b e, w.1 b = some e → b < mitems) ∧ (∀ b e, w.1 b = some e → b < mpassed) ∧ w9.1 a = some (.inr (10, V9)) ∧ V9 0 = V 0 ∧ V9 1 = .ref msizes ∧ V9 2 = .ref mbits ∧ V9 3 = .ref mturns ∧ V9 4 = .ref mkinds ∧ V9 5 = .ref mnames ∧ V9 6 = .ref mnumbers ∧ V9 7 = .ref mends ∧ V9 8 = .ref mothers ∧ V9 9 = .ref mtops ∧ V9 10 = .ref mfirstLots ∧ V9 11 = .ref mlotValues ∧ V9 12 = .ref mlotWeights ∧ V9 13 = .ref macts ∧ V9 14 = .ref mfigures ∧ V9 15 = .ref mfirsts ∧ V9 16 = .ref mseconds ∧ V9 17 = .ref mstart ∧ V9 18 = .ref misTold ∧ V9 19 = .ref misWideSo ∧ V9 20 = .ref mmade ∧ V9 21 = .ref mtape ∧ V9 22 = V 22 ∧ V9 23 = V 23 ∧ V9 24 = V 24 ∧ V9 25 = V 25 ∧ V9 26 = V 26 ∧ V9 27 = V 27 ∧ V9 28 = V 28 ∧ V9 29 = V 29 ∧ V9 30 = V 30 ∧ V9 31 = V 31 ∧ V9 32 = .ref mpool ∧ V9 33 = V 33 ∧ V9 34 = V 34 ∧ V9 35 = V 35 ∧ V9 36 = V 36 ∧ V9 37 = .int (-1) ∧ V9 38 = .ref mimageStart ∧ V9 39 = .ref msorts ∧ V9 40 = .ref mlengths ∧ V9 41 = .ref mitems ∧ V9 42 = .ref mpassed ∧ w9.1 mtape = some (aI D 120 (fun _ => 0)) ∧ w9.1 mstart = some (aI D 6 (fun _ => 0)) ∧ w9.1 mimageStart = some (aI D 6 (fun _ => 0)) ∧ w9.1 msorts = some (aI D 4 fS) ∧ (∀ j, j < 4 → fS j = -1) ∧ w9.1 mlengths = some (aI D 4 (fun _ => 0)) ∧ w9.1 mitems = some (aR D 3 4 (jro 4 (fun j => mitems + 1 + j))) ∧ (∀ j, j < 4 → w9.1 (mitems + 1 + j) = some (aI D 40 (fun _ => 0))) ∧ msorts ≠ mlengths) := by
  refine j_met (by decide) (Nat.le_of_ble_eq_true rfl) (fun g C Rm Y E => ?_)
  have hin : (jGy g).name = "<init>" := congrArg MethodName.name Y.2.2.2
  have hk := jkz w
  have fr0 : jfr (fun b => b ≠ a) w w := jfr0
  show JJ g w 0 [(0, .ref a)] []
  refine j_blk 1 [(0, .ref a)] [.ref a] C k_c_Mo_init_0_1 rfl ?_
  refine j_obj C Rm cl_Mo_1 d_c_Mo_init_1 (by decide) (by decide) ?_
  refine j_blk 7 [(0, .ref a)] [.int 6, .ref a] C k_c_Mo_init_4_2 rfl ?_
  refine j_newa (n := 6) C Rm d_c_Mo_init_7 rfl ac_int (by decide) (by decide) (by decide) (jroom hk.1 rfl) (jroom hk.2 rfl) (fun q1 f_q1 => ?_)
  refine jnv (fun w_1 ew_1 => ?_)
  have m_q1_w_1 : w_1.1 q1 = some (aI D 6 (fun _ => 0)) := jus ew_1
  have hk_w_1 := jk1 ew_1 hk
  have lt_q1 := jfrL fr0 f_q1
  have fr_w_1 := jfrN ew_1 fr0 f_q1
  have x_a_q1 := Nat.ne_of_lt (f_q1 _ _ ha)
  have m_a_w_1 := jun ew_1 ha x_a_q1
  refine j_putF C hin d_c_Mo_init_9 ff_Mo_9 m_a_w_1 rfl rfl ?_
  refine jnv (fun w_2 ew_2 => ?_)
  have m_a_w_2 : w_2.1 a = some (.inr (10, (updV V 1 (.ref q1)))) := jus ew_2
  have hk_w_2 := jk0 ew_2 hk_w_1
  have fr_w_2 := jfrW ew_2 fr_w_1 (fun b e hb _ => hb)
  refine j_blk 15 [(0, .ref a)] [.int 6, .ref a] C k_c_Mo_init_12_2 rfl ?_
  refine j_newa (n := 6) C Rm d_c_Mo_init_15 rfl ac_int (by decide) (by decide) (by decide) (jroom hk_w_2.1 rfl) (jroom hk_w_2.2 rfl) (fun q2 f_q2 => ?_)
  refine jnv (fun w_3 ew_3 => ?_)
  have m_q2_w_3 : w_3.1 q2 = some (aI D 6 (fun _ => 0)) := jus ew_3
  have hk_w_3 := jk1 ew_3 hk_w_2
  have lt_q2 := jfrL fr_w_2 f_q2
  have fr_w_3 := jfrN ew_3 fr_w_2 f_q2
  have x_a_q2 := Nat.ne_of_lt (f_q2 _ _ m_a_w_2)
  have m_a_w_3 := jun ew_3 m_a_w_2 x_a_q2
  refine j_putF C hin d_c_Mo_init_17 ff_Mo_13 m_a_w_3 rfl rfl ?_
  refine jnv (fun w_4 ew_4 => ?_)
  have m_a_w_4 : w_4.1 a = some (.inr (10, (updV (updV V 1 (.ref q1)) 2 (.ref q2)))) := jus ew_4
  have hk_w_4 := jk0 ew_4 hk_w_3
  have fr_w_4 := jfrW ew_4 fr_w_3 (fun b e hb _ => hb)
  refine j_blk 23 [(0, .ref a)] [.int 6, .ref a] C k_c_Mo_init_20_2 rfl ?_
  refine j_newa (n := 6) C Rm d_c_Mo_init_23 rfl ac_int (by decide) (by decide) (by decide) (jroom hk_w_4.1 rfl) (jroom hk_w_4.2 rfl) (fun q3 f_q3 => ?_)
  refine jnv (fun w_5 ew_5 => ?_)
  have m_q3_w_5 : w_5.1 q3 = some (aI D 6 (fun _ => 0)) := jus ew_5
  have hk_w_5 := jk1 ew_5 hk_w_4
  have lt_q3 := jfrL fr_w_4 f_q3
  have fr_w_5 := jfrN ew_5 fr_w_4 f_q3
  have x_a_q3 := Nat.ne_of_lt (f_q3 _ _ m_a_w_4)
  have m_a_w_5 := jun ew_5 m_a_w_4 x_a_q3
  refine j_putF C hin d_c_Mo_init_25 ff_Mo_16 m_a_w_5 rfl rfl ?_
  refine jnv (fun w_6 ew_6 => ?_)
  have m_a_w_6 : w_6.1 a = some (.inr (10, (updV (updV (updV V 1 (.ref q1)) 2 (.ref q2)) 3 (.ref q3)))) := jus ew_6
  have hk_w_6 := jk0 ew_6 hk_w_5
  have fr_w_6 := jfrW ew_6 fr_w_5 (fun b e hb _ => hb)
  refine j_blk 33 [(0, .ref a)] [.int 16, .int 6, .ref a] C k_c_Mo_init_28_3 rfl ?_
  refine j_mn2 (t := 3) (t0 := 0) (n := 6) (k := 16) C Rm d_c_Mo_init_33 (by decide) rfl rfl (by rw [sj_0]; exact ca_Mo_19) (by decide) (by decide) (by decide) (by decide) (by decide) (by decide) (jroom hk_w_6.1 rfl) (jroom hk_w_6.2 rfl) (fun q4 f_q4 => ?_)
  refine jnv (fun w_7 ew_7 => ?_)
  have m_q4_w_7 : w_7.1 q4 = some (aR D 3 6 (jro 6 (fun j => q4 + 1 + j))) := jm2o ew_7
  have r_q4 : ∀ j, j < 6 → w_7.1 (q4 + 1 + j) = some (aI D 16 (fun _ => 0)) := fun j hj => jm2i ew_7 hj
  have hk_w_7 := jkM ew_7 hk_w_6
  have lt_q4 := jfrL fr_w_6 f_q4
  have fr_w_7 := jfrM2 ew_7 fr_w_6 f_q4
  have m_a_w_7 := jm2p ew_7 f_q4 m_a_w_6
  refine j_putF C hin d_c_Mo_init_37 ff_Mo_21 m_a_w_7 rfl rfl ?_
  refine jnv (fun w_8 ew_8 => ?_)
  have m_a_w_8 : w_8.1 a = some (.inr (10, (updV (updV (updV (updV V 1 (.ref q1)) 2 (.ref q2)) 3 (.ref q3)) 4 (.ref q4)))) := jus ew_8
  have hk_w_8 := jk0 ew_8 hk_w_7
  have fr_w_8 := jfrW ew_8 fr_w_7 (fun b e hb _ => hb)
  refine j_blk 45 [(0, .ref a)] [.int 16, .int 6, .ref a] C k_c_Mo_init_40_3 rfl ?_
  refine j_mn2 (t := 3) (t0 := 0) (n := 6) (k := 16) C Rm d_c_Mo_init_45 (by decide) rfl rfl (by rw [sj_0]; exact ca_Mo_19) (by decide) (by decide) (by decide) (by decide) (by decide) (by decide) (jroom hk_w_8.1 rfl) (jroom hk_w_8.2 rfl) (fun q5 f_q5 => ?_)
  refine jnv (fun w_9 ew_9 => ?_)
  have m_q5_w_9 : w_9.1 q5 = some (aR D 3 6 (jro 6 (fun j => q5 + 1 + j))) := jm2o ew_9
  have r_q5 : ∀ j, j < 6 → w_9.1 (q5 + 1 + j) = some (aI D 16 (fun _ => 0)) := fun j hj => jm2i ew_9 hj
  have hk_w_9 := jkM ew_9 hk_w_8
  have lt_q5 := jfrL fr_w_8 f_q5
  have fr_w_9 := jfrM2 ew_9 fr_w_8 f_q5
  have m_a_w_9 := jm2p ew_9 f_q5 m_a_w_8
  refine j_putF C hin d_c_Mo_init_49 ff_Mo_24 m_a_w_9 rfl rfl ?_
  refine jnv (fun w_10 ew_10 => ?_)
  have m_a_w_10 : w_10.1 a = some (.inr (10, (updV (updV (updV (updV (updV V 1 (.ref q1)) 2 (.ref q2)) 3 (.ref q3)) 4 (.ref q4)) 5 (.ref q5)))) := jus ew_10
  have hk_w_10 := jk0 ew_10 hk_w_9
  have fr_w_10 := jfrW ew_10 fr_w_9 (fun b e hb _ => hb)
  refine j_blk 57 [(0, .ref a)] [.int 16, .int 6, .ref a] C k_c_Mo_init_52_3 rfl ?_
  refine j_mn2 (t := 3) (t0 := 0) (n := 6) (k := 16) C Rm d_c_Mo_init_57 (by decide) rfl rfl (by rw [sj_0]; exact ca_Mo_19) (by decide) (by decide) (by decide) (by decide) (by decide) (by decide) (jroom hk_w_10.1 rfl) (jroom hk_w_10.2 rfl) (fun q6 f_q6 => ?_)
  refine jnv (fun w_11 ew_11 => ?_)
  have m_q6_w_11 : w_11.1 q6 = some (aR D 3 6 (jro 6 (fun j => q6 + 1 + j))) := jm2o ew_11
  have r_q6 : ∀ j, j < 6 → w_11.1 (q6 + 1 + j) = some (aI D 16 (fun _ => 0)) := fun j hj => jm2i ew_11 hj
  have hk_w_11 := jkM ew_11 hk_w_10
  have lt_q6 := jfrL fr_w_10 f_q6
  have fr_w_11 := jfrM2 ew_11 fr_w_10 f_q6
  have m_a_w_11 := jm2p ew_11 f_q6 m_a_w_10
  refine j_putF C hin d_c_Mo_init_61 ff_Mo_27 m_a_w_11 rfl rfl ?_
  refine jnv (fun w_12 ew_12 => ?_)
  have m_a_w_12 : w_12.1 a = some (.inr (10, (updV (updV (updV (updV (updV (updV V 1 (.ref q1)) 2 (.ref q2)) 3 (.ref q3)) 4 (.ref q4)) 5 (.ref q5)) 6 (.ref q6)))) := jus ew_12
  have hk_w_12 := jk0 ew_12 hk_w_11
  have fr_w_12 := jfrW ew_12 fr_w_11 (fun b e hb _ => hb)
  refine j_blk 69 [(0, .ref a)] [.int 16, .int 6, .ref a] C k_c_Mo_init_64_3 rfl ?_
  refine j_mn2 (t := 3) (t0 := 0) (n := 6) (k := 16) C Rm d_c_Mo_init_69 (by decide) rfl rfl (by rw [sj_0]; exact ca_Mo_19) (by decide) (by decide) (by decide) (by decide) (by decide) (by decide) (jroom hk_w_12.1 rfl) (jroom hk_w_12.2 rfl) (fun q7 f_q7 => ?_)
  refine jnv (fun w_13 ew_13 => ?_)
  have m_q7_w_13 : w_13.1 q7 = some (aR D 3 6 (jro 6 (fun j => q7 + 1 + j))) := jm2o ew_13
  have r_q7 : ∀ j, j < 6 → w_13.1 (q7 + 1 + j) = some (aI D 16 (fun _ => 0)) := fun j hj => jm2i ew_13 hj
  have hk_w_13 := jkM ew_13 hk_w_12
  have lt_q7 := jfrL fr_w_12 f_q7
  have fr_w_13 := jfrM2 ew_13 fr_w_12 f_q7
  have m_a_w_13 := jm2p ew_13 f_q7 m_a_w_12
  refine j_putF C hin d_c_Mo_init_73 ff_Mo_30 m_a_w_13 rfl rfl ?_
  refine jnv (fun w_14 ew_14 => ?_)
  have m_a_w_14 : w_14.1 a = some (.inr (10, (updV (updV (updV (updV (updV (updV (updV V 1 (.ref q1)) 2 (.ref q2)) 3 (.ref q3)) 4 (.ref q4)) 5 (.ref q5)) 6 (.ref q6)) 7 (.ref q7)))) := jus ew_14
  have hk_w_14 := jk0 ew_14 hk_w_13
  have fr_w_14 := jfrW ew_14 fr_w_13 (fun b e hb _ => hb)
  refine j_blk 81 [(0, .ref a)] [.int 16, .int 6, .ref a] C k_c_Mo_init_76_3 rfl ?_
  refine j_mn2 (t := 3) (t0 := 0) (n := 6) (k := 16) C Rm d_c_Mo_init_81 (by decide) rfl rfl (by rw [sj_0]; exact ca_Mo_19) (by decide) (by decide) (by decide) (by decide) (by decide) (by decide) (jroom hk_w_14.1 rfl) (jroom hk_w_14.2 rfl) (fun q8 f_q8 => ?_)
  refine jnv (fun w_15 ew_15 => ?_)
  have m_q8_w_15 : w_15.1 q8 = some (aR D 3 6 (jro 6 (fun j => q8 + 1 + j))) := jm2o ew_15
  have r_q8 : ∀ j, j < 6 → w_15.1 (q8 + 1 + j) = some (aI D 16 (fun _ => 0)) := fun j hj => jm2i ew_15 hj
  have hk_w_15 := jkM ew_15 hk_w_14
  have lt_q8 := jfrL fr_w_14 f_q8
  have fr_w_15 := jfrM2 ew_15 fr_w_14 f_q8
  have m_a_w_15 := jm2p ew_15 f_q8 m_a_w_14
  refine j_putF C hin d_c_Mo_init_85 ff_Mo_33 m_a_w_15 rfl rfl ?_
  refine jnv (fun w_16 ew_16 => ?_)
  have m_a_w_16 : w_16.1 a = some (.inr (10, (updV (updV (updV (updV (updV (updV (updV (updV V 1 (.ref q1)) 2 (.ref q2)) 3 (.ref q3)) 4 (.ref q4)) 5 (.ref q5)) 6 (.ref q6)) 7 (.ref q7)) 8 (.ref q8)))) := jus ew_16
  have hk_w_16 := jk0 ew_16 hk_w_15
  have fr_w_16 := jfrW ew_16 fr_w_15 (fun b e hb _ => hb)
  refine j_blk 93 [(0, .ref a)] [.int 16, .int 6, .ref a] C k_c_Mo_init_88_3 rfl ?_
  refine j_mn2 (t := 3) (t0 := 0) (n := 6) (k := 16) C Rm d_c_Mo_init_93 (by decide) rfl rfl (by rw [sj_0]; exact ca_Mo_19) (by decide) (by decide) (by decide) (by decide) (by decide) (by decide) (jroom hk_w_16.1 rfl) (jroom hk_w_16.2 rfl) (fun q9 f_q9 => ?_)
  refine jnv (fun w_17 ew_17 => ?_)
  have m_q9_w_17 : w_17.1 q9 = some (aR D 3 6 (jro 6 (fun j => q9 + 1 + j))) := jm2o ew_17
  have r_q9 : ∀ j, j < 6 → w_17.1 (q9 + 1 + j) = some (aI D 16 (fun _ => 0)) := fun j hj => jm2i ew_17 hj
  have hk_w_17 := jkM ew_17 hk_w_16
  have lt_q9 := jfrL fr_w_16 f_q9
  have fr_w_17 := jfrM2 ew_17 fr_w_16 f_q9
  have m_a_w_17 := jm2p ew_17 f_q9 m_a_w_16
  refine j_putF C hin d_c_Mo_init_97 ff_Mo_36 m_a_w_17 rfl rfl ?_
  refine jnv (fun w_18 ew_18 => ?_)
  have m_a_w_18 : w_18.1 a = some (.inr (10, (updV (updV (updV (updV (updV (updV (updV (updV (updV V 1 (.ref q1)) 2 (.ref q2)) 3 (.ref q3)) 4 (.ref q4)) 5 (.ref q5)) 6 (.ref q6)) 7 (.ref q7)) 8 (.ref q8)) 9 (.ref q9)))) := jus ew_18
  have hk_w_18 := jk0 ew_18 hk_w_17
  have fr_w_18 := jfrW ew_18 fr_w_17 (fun b e hb _ => hb)
  refine j_blk 105 [(0, .ref a)] [.int 16, .int 6, .ref a] C k_c_Mo_init_100_3 rfl ?_
  refine j_mn2 (t := 3) (t0 := 0) (n := 6) (k := 16) C Rm d_c_Mo_init_105 (by decide) rfl rfl (by rw [sj_0]; exact ca_Mo_19) (by decide) (by decide) (by decide) (by decide) (by decide) (by decide) (jroom hk_w_18.1 rfl) (jroom hk_w_18.2 rfl) (fun q10 f_q10 => ?_)
  refine jnv (fun w_19 ew_19 => ?_)
  have m_q10_w_19 : w_19.1 q10 = some (aR D 3 6 (jro 6 (fun j => q10 + 1 + j))) := jm2o ew_19
  have r_q10 : ∀ j, j < 6 → w_19.1 (q10 + 1 + j) = some (aI D 16 (fun _ => 0)) := fun j hj => jm2i ew_19 hj
  have hk_w_19 := jkM ew_19 hk_w_18
  have lt_q10 := jfrL fr_w_18 f_q10
  have fr_w_19 := jfrM2 ew_19 fr_w_18 f_q10
  have m_a_w_19 := jm2p ew_19 f_q10 m_a_w_18
  refine j_putF C hin d_c_Mo_init_109 ff_Mo_39 m_a_w_19 rfl rfl ?_
  refine jnv (fun w_20 ew_20 => ?_)
  have m_a_w_20 : w_20.1 a = some (.inr (10, (updV (updV (updV (updV (updV (updV (updV (updV (updV (updV V 1 (.ref q1)) 2 (.ref q2)) 3 (.ref q3)) 4 (.ref q4)) 5 (.ref q5)) 6 (.ref q6)) 7 (.ref q7)) 8 (.ref q8)) 9 (.ref q9)) 10 (.ref q10)))) := jus ew_20
  have hk_w_20 := jk0 ew_20 hk_w_19
  have fr_w_20 := jfrW ew_20 fr_w_19 (fun b e hb _ => hb)
  refine j_blk 117 [(0, .ref a)] [.int 120, .int 6, .ref a] C k_c_Mo_init_112_3 rfl ?_
  refine j_mn2 (t := 3) (t0 := 0) (n := 6) (k := 120) C Rm d_c_Mo_init_117 (by decide) rfl rfl (by rw [sj_0]; exact ca_Mo_19) (by decide) (by decide) (by decide) (by decide) (by decide) (by decide) (jroom hk_w_20.1 rfl) (jroom hk_w_20.2 rfl) (fun q11 f_q11 => ?_)
  refine jnv (fun w_21 ew_21 => ?_)
  have m_q11_w_21 : w_21.1 q11 = some (aR D 3 6 (jro 6 (fun j => q11 + 1 + j))) := jm2o ew_21
  have r_q11 : ∀ j, j < 6 → w_21.1 (q11 + 1 + j) = some (aI D 120 (fun _ => 0)) := fun j hj => jm2i ew_21 hj
  have hk_w_21 := jkM ew_21 hk_w_20
  have lt_q11 := jfrL fr_w_20 f_q11
  have fr_w_21 := jfrM2 ew_21 fr_w_20 f_q11
  have m_a_w_21 := jm2p ew_21 f_q11 m_a_w_20
  refine j_putF C hin d_c_Mo_init_121 ff_Mo_42 m_a_w_21 rfl rfl ?_
  refine jnv (fun w_22 ew_22 => ?_)
  have m_a_w_22 : w_22.1 a = some (.inr (10, (updV (updV (updV (updV (updV (updV (updV (updV (updV (updV (updV V 1 (.ref q1)) 2 (.ref q2)) 3 (.ref q3)) 4 (.ref q4)) 5 (.ref q5)) 6 (.ref q6)) 7 (.ref q7)) 8 (.ref q8)) 9 (.ref q9)) 10 (.ref q10)) 11 (.ref q11)))) := jus ew_22
  have hk_w_22 := jk0 ew_22 hk_w_21
  have fr_w_22 := jfrW ew_22 fr_w_21 (fun b e hb _ => hb)
  refine j_blk 129 [(0, .ref a)] [.int 120, .int 6, .ref a] C k_c_Mo_init_124_3 rfl ?_
  refine j_mn2 (t := 3) (t0 := 0) (n := 6) (k := 120) C Rm d_c_Mo_init_129 (by decide) rfl rfl (by rw [sj_0]; exact ca_Mo_19) (by decide) (by decide) (by decide) (by decide) (by decide) (by decide) (jroom hk_w_22.1 rfl) (jroom hk_w_22.2 rfl) (fun q12 f_q12 => ?_)
  refine jnv (fun w_23 ew_23 => ?_)
  have m_q12_w_23 : w_23.1 q12 = some (aR D 3 6 (jro 6 (fun j => q12 + 1 + j))) := jm2o ew_23
  have r_q12 : ∀ j, j < 6 → w_23.1 (q12 + 1 + j) = some (aI D 120 (fun _ => 0)) := fun j hj => jm2i ew_23 hj
  have hk_w_23 := jkM ew_23 hk_w_22
  have lt_q12 := jfrL fr_w_22 f_q12
  have fr_w_23 := jfrM2 ew_23 fr_w_22 f_q12
  have m_a_w_23 := jm2p ew_23 f_q12 m_a_w_22
  refine j_putF C hin d_c_Mo_init_133 ff_Mo_45 m_a_w_23 rfl rfl ?_
  refine jnv (fun w_24 ew_24 => ?_)
  have m_a_w_24 : w_24.1 a = some (.inr (10, (updV (updV (updV (updV (updV (updV (updV (updV (updV (updV (updV (updV V 1 (.ref q1)) 2 (.ref q2)) 3 (.ref q3)) 4 (.ref q4)) 5 (.ref q5)) 6 (.ref q6)) 7 (.ref q7)) 8 (.ref q8)) 9 (.ref q9)) 10 (.ref q10)) 11 (.ref q11)) 12 (.ref q12)))) := jus ew_24
  have hk_w_24 := jk0 ew_24 hk_w_23
  have fr_w_24 := jfrW ew_24 fr_w_23 (fun b e hb _ => hb)
  refine j_blk 141 [(0, .ref a)] [.int 120, .int 6, .ref a] C k_c_Mo_init_136_3 rfl ?_
  refine j_mn2 (t := 3) (t0 := 0) (n := 6) (k := 120) C Rm d_c_Mo_init_141 (by decide) rfl rfl (by rw [sj_0]; exact ca_Mo_19) (by decide) (by decide) (by decide) (by decide) (by decide) (by decide) (jroom hk_w_24.1 rfl) (jroom hk_w_24.2 rfl) (fun q13 f_q13 => ?_)
  refine jnv (fun w_25 ew_25 => ?_)
  have m_q13_w_25 : w_25.1 q13 = some (aR D 3 6 (jro 6 (fun j => q13 + 1 + j))) := jm2o ew_25
  have r_q13 : ∀ j, j < 6 → w_25.1 (q13 + 1 + j) = some (aI D 120 (fun _ => 0)) := fun j hj => jm2i ew_25 hj
  have hk_w_25 := jkM ew_25 hk_w_24
  have lt_q13 := jfrL fr_w_24 f_q13
  have fr_w_25 := jfrM2 ew_25 fr_w_24 f_q13
  have m_a_w_25 := jm2p ew_25 f_q13 m_a_w_24
  refine j_putF C hin d_c_Mo_init_145 ff_Mo_48 m_a_w_25 rfl rfl ?_
  refine jnv (fun w_26 ew_26 => ?_)
  have m_a_w_26 : w_26.1 a = some (.inr (10, (updV (updV (updV (updV (updV (updV (updV (updV (updV (updV (updV (updV (updV V 1 (.ref q1)) 2 (.ref q2)) 3 (.ref q3)) 4 (.ref q4)) 5 (.ref q5)) 6 (.ref q6)) 7 (.ref q7)) 8 (.ref q8)) 9 (.ref q9)) 10 (.ref q10)) 11 (.ref q11)) 12 (.ref q12)) 13 (.ref q13)))) := jus ew_26
  have hk_w_26 := jk0 ew_26 hk_w_25
  have fr_w_26 := jfrW ew_26 fr_w_25 (fun b e hb _ => hb)
  refine j_blk 153 [(0, .ref a)] [.int 120, .int 6, .ref a] C k_c_Mo_init_148_3 rfl ?_
  refine j_mn2 (t := 3) (t0 := 0) (n := 6) (k := 120) C Rm d_c_Mo_init_153 (by decide) rfl rfl (by rw [sj_0]; exact ca_Mo_19) (by decide) (by decide) (by decide) (by decide) (by decide) (by decide) (jroom hk_w_26.1 rfl) (jroom hk_w_26.2 rfl) (fun q14 f_q14 => ?_)
  refine jnv (fun w_27 ew_27 => ?_)
  have m_q14_w_27 : w_27.1 q14 = some (aR D 3 6 (jro 6 (fun j => q14 + 1 + j))) := jm2o ew_27
  have r_q14 : ∀ j, j < 6 → w_27.1 (q14 + 1 + j) = some (aI D 120 (fun _ => 0)) := fun j hj => jm2i ew_27 hj
  have hk_w_27 := jkM ew_27 hk_w_26
  have lt_q14 := jfrL fr_w_26 f_q14
  have fr_w_27 := jfrM2 ew_27 fr_w_26 f_q14
  have m_a_w_27 := jm2p ew_27 f_q14 m_a_w_26
  refine j_putF C hin d_c_Mo_init_157 ff_Mo_51 m_a_w_27 rfl rfl ?_
  refine jnv (fun w_28 ew_28 => ?_)
  have m_a_w_28 : w_28.1 a = some (.inr (10, (updV (updV (updV (updV (updV (updV (updV (updV (updV (updV (updV (updV (updV (updV V 1 (.ref q1)) 2 (.ref q2)) 3 (.ref q3)) 4 (.ref q4)) 5 (.ref q5)) 6 (.ref q6)) 7 (.ref q7)) 8 (.ref q8)) 9 (.ref q9)) 10 (.ref q10)) 11 (.ref q11)) 12 (.ref q12)) 13 (.ref q13)) 14 (.ref q14)))) := jus ew_28
  have hk_w_28 := jk0 ew_28 hk_w_27
  have fr_w_28 := jfrW ew_28 fr_w_27 (fun b e hb _ => hb)
  refine j_blk 165 [(0, .ref a)] [.int 120, .int 6, .ref a] C k_c_Mo_init_160_3 rfl ?_
  refine j_mn2 (t := 3) (t0 := 0) (n := 6) (k := 120) C Rm d_c_Mo_init_165 (by decide) rfl rfl (by rw [sj_0]; exact ca_Mo_19) (by decide) (by decide) (by decide) (by decide) (by decide) (by decide) (jroom hk_w_28.1 rfl) (jroom hk_w_28.2 rfl) (fun q15 f_q15 => ?_)
  refine jnv (fun w_29 ew_29 => ?_)
  have m_q15_w_29 : w_29.1 q15 = some (aR D 3 6 (jro 6 (fun j => q15 + 1 + j))) := jm2o ew_29
  have r_q15 : ∀ j, j < 6 → w_29.1 (q15 + 1 + j) = some (aI D 120 (fun _ => 0)) := fun j hj => jm2i ew_29 hj
  have hk_w_29 := jkM ew_29 hk_w_28
  have lt_q15 := jfrL fr_w_28 f_q15
  have fr_w_29 := jfrM2 ew_29 fr_w_28 f_q15
  have m_a_w_29 := jm2p ew_29 f_q15 m_a_w_28
  refine j_putF C hin d_c_Mo_init_169 ff_Mo_54 m_a_w_29 rfl rfl ?_
  refine jnv (fun w_30 ew_30 => ?_)
  have m_a_w_30 : w_30.1 a = some (.inr (10, (updV (updV (updV (updV (updV (updV (updV (updV (updV (updV (updV (updV (updV (updV (updV V 1 (.ref q1)) 2 (.ref q2)) 3 (.ref q3)) 4 (.ref q4)) 5 (.ref q5)) 6 (.ref q6)) 7 (.ref q7)) 8 (.ref q8)) 9 (.ref q9)) 10 (.ref q10)) 11 (.ref q11)) 12 (.ref q12)) 13 (.ref q13)) 14 (.ref q14)) 15 (.ref q15)))) := jus ew_30
  have hk_w_30 := jk0 ew_30 hk_w_29
  have fr_w_30 := jfrW ew_30 fr_w_29 (fun b e hb _ => hb)
  refine j_blk 177 [(0, .ref a)] [.int 120, .int 6, .ref a] C k_c_Mo_init_172_3 rfl ?_
  refine j_mn2 (t := 3) (t0 := 0) (n := 6) (k := 120) C Rm d_c_Mo_init_177 (by decide) rfl rfl (by rw [sj_0]; exact ca_Mo_19) (by decide) (by decide) (by decide) (by decide) (by decide) (by decide) (jroom hk_w_30.1 rfl) (jroom hk_w_30.2 rfl) (fun q16 f_q16 => ?_)
  refine jnv (fun w_31 ew_31 => ?_)
  have m_q16_w_31 : w_31.1 q16 = some (aR D 3 6 (jro 6 (fun j => q16 + 1 + j))) := jm2o ew_31
  have r_q16 : ∀ j, j < 6 → w_31.1 (q16 + 1 + j) = some (aI D 120 (fun _ => 0)) := fun j hj => jm2i ew_31 hj
  have hk_w_31 := jkM ew_31 hk_w_30
  have lt_q16 := jfrL fr_w_30 f_q16
  have fr_w_31 := jfrM2 ew_31 fr_w_30 f_q16
  have m_a_w_31 := jm2p ew_31 f_q16 m_a_w_30
  refine j_putF C hin d_c_Mo_init_181 ff_Mo_57 m_a_w_31 rfl rfl ?_
  refine jnv (fun w_32 ew_32 => ?_)
  have m_a_w_32 : w_32.1 a = some (.inr (10, (updV (updV (updV (updV (updV (updV (updV (updV (updV (updV (updV (updV (updV (updV (updV (updV V 1 (.ref q1)) 2 (.ref q2)) 3 (.ref q3)) 4 (.ref q4)) 5 (.ref q5)) 6 (.ref q6)) 7 (.ref q7)) 8 (.ref q8)) 9 (.ref q9)) 10 (.ref q10)) 11 (.ref q11)) 12 (.ref q12)) 13 (.ref q13)) 14 (.ref q14)) 15 (.ref q15)) 16 (.ref q16)))) := jus ew_32
  have hk_w_32 := jk0 ew_32 hk_w_31
  have fr_w_32 := jfrW ew_32 fr_w_31 (fun b e hb _ => hb)
  refine j_blk 187 [(0, .ref a)] [.int 6, .ref a] C k_c_Mo_init_184_2 rfl ?_
  refine j_newa (n := 6) C Rm d_c_Mo_init_187 rfl ac_int (by decide) (by decide) (by decide) (jroom hk_w_32.1 rfl) (jroom hk_w_32.2 rfl) (fun q17 f_q17 => ?_)
  refine jnv (fun w_33 ew_33 => ?_)
  have m_q17_w_33 : w_33.1 q17 = some (aI D 6 (fun _ => 0)) := jus ew_33
  have hk_w_33 := jk1 ew_33 hk_w_32
  have lt_q17 := jfrL fr_w_32 f_q17
  have fr_w_33 := jfrN ew_33 fr_w_32 f_q17
  have x_a_q17 := Nat.ne_of_lt (f_q17 _ _ m_a_w_32)
  have m_a_w_33 := jun ew_33 m_a_w_32 x_a_q17
  refine j_putF C hin d_c_Mo_init_189 ff_Mo_60 m_a_w_33 rfl rfl ?_
  refine jnv (fun w_34 ew_34 => ?_)
  have m_a_w_34 : w_34.1 a = some (.inr (10, (updV (updV (updV (updV (updV (updV (updV (updV (updV (updV (updV (updV (updV (updV (updV (updV (updV V 1 (.ref q1)) 2 (.ref q2)) 3 (.ref q3)) 4 (.ref q4)) 5 (.ref q5)) 6 (.ref q6)) 7 (.ref q7)) 8 (.ref q8)) 9 (.ref q9)) 10 (.ref q10)) 11 (.ref q11)) 12 (.ref q12)) 13 (.ref q13)) 14 (.ref q14)) 15 (.ref q15)) 16 (.ref q16)) 17 (.ref q17)))) := jus ew_34
  have hk_w_34 := jk0 ew_34 hk_w_33
  have fr_w_34 := jfrW ew_34 fr_w_33 (fun b e hb _ => hb)
  refine j_blk 197 [(0, .ref a)] [.int 10, .int 6, .ref a] C k_c_Mo_init_192_3 rfl ?_
  refine j_mn2 (t := 4) (t0 := 2) (n := 6) (k := 10) C Rm d_c_Mo_init_197 (by decide) rfl rfl (by rw [sj_2]; exact ca_Mo_63) (by decide) (by decide) (by decide) (by decide) (by decide) (by decide) (jroom hk_w_34.1 rfl) (jroom hk_w_34.2 rfl) (fun q18 f_q18 => ?_)
  refine jnv (fun w_35 ew_35 => ?_)
  have m_q18_w_35 : w_35.1 q18 = some (aR D 4 6 (jro 6 (fun j => q18 + 1 + j))) := jm2o ew_35
  have r_q18 : ∀ j, j < 6 → w_35.1 (q18 + 1 + j) = some (aZ D 10 (fun _ => 0)) := fun j hj => jm2i ew_35 hj
  have hk_w_35 := jkM ew_35 hk_w_34
  have lt_q18 := jfrL fr_w_34 f_q18
  have fr_w_35 := jfrM2 ew_35 fr_w_34 f_q18
  have m_a_w_35 := jm2p ew_35 f_q18 m_a_w_34
  refine j_putF C hin d_c_Mo_init_201 ff_Mo_65 m_a_w_35 rfl rfl ?_
  refine jnv (fun w_36 ew_36 => ?_)
  have m_a_w_36 : w_36.1 a = some (.inr (10, (updV (updV (updV (updV (updV (updV (updV (updV (updV (updV (updV (updV (updV (updV (updV (updV (updV (updV V 1 (.ref q1)) 2 (.ref q2)) 3 (.ref q3)) 4 (.ref q4)) 5 (.ref q5)) 6 (.ref q6)) 7 (.ref q7)) 8 (.ref q8)) 9 (.ref q9)) 10 (.ref q10)) 11 (.ref q11)) 12 (.ref q12)) 13 (.ref q13)) 14 (.ref q14)) 15 (.ref q15)) 16 (.ref q16)) 17 (.ref q17)) 18 (.ref q18)))) := jus ew_36
  have hk_w_36 := jk0 ew_36 hk_w_35
  have fr_w_36 := jfrW ew_36 fr_w_35 (fun b e hb _ => hb)
  refine j_blk 209 [(0, .ref a)] [.int 10, .int 6, .ref a] C k_c_Mo_init_204_3 rfl ?_
  refine j_mn2 (t := 4) (t0 := 2) (n := 6) (k := 10) C Rm d_c_Mo_init_209 (by decide) rfl rfl (by rw [sj_2]; exact ca_Mo_63) (by decide) (by decide) (by decide) (by decide) (by decide) (by decide) (jroom hk_w_36.1 rfl) (jroom hk_w_36.2 rfl) (fun q19 f_q19 => ?_)
  refine jnv (fun w_37 ew_37 => ?_)
  have m_q19_w_37 : w_37.1 q19 = some (aR D 4 6 (jro 6 (fun j => q19 + 1 + j))) := jm2o ew_37
  have r_q19 : ∀ j, j < 6 → w_37.1 (q19 + 1 + j) = some (aZ D 10 (fun _ => 0)) := fun j hj => jm2i ew_37 hj
  have hk_w_37 := jkM ew_37 hk_w_36
  have lt_q19 := jfrL fr_w_36 f_q19
  have fr_w_37 := jfrM2 ew_37 fr_w_36 f_q19
  have m_a_w_37 := jm2p ew_37 f_q19 m_a_w_36
  refine j_putF C hin d_c_Mo_init_213 ff_Mo_68 m_a_w_37 rfl rfl ?_
  refine jnv (fun w_38 ew_38 => ?_)
  have m_a_w_38 : w_38.1 a = some (.inr (10, (updV (updV (updV (updV (updV (updV (updV (updV (updV (updV (updV (updV (updV (updV (updV (updV (updV (updV (updV V 1 (.ref q1)) 2 (.ref q2)) 3 (.ref q3)) 4 (.ref q4)) 5 (.ref q5)) 6 (.ref q6)) 7 (.ref q7)) 8 (.ref q8)) 9 (.ref q9)) 10 (.ref q10)) 11 (.ref q11)) 12 (.ref q12)) 13 (.ref q13)) 14 (.ref q14)) 15 (.ref q15)) 16 (.ref q16)) 17 (.ref q17)) 18 (.ref q18)) 19 (.ref q19)))) := jus ew_38
  have hk_w_38 := jk0 ew_38 hk_w_37
  have fr_w_38 := jfrW ew_38 fr_w_37 (fun b e hb _ => hb)
  refine j_blk 223 [(0, .ref a)] [.int 10, .int 10, .int 6, .ref a] C k_c_Mo_init_216_4 rfl ?_
  refine j_mn3 (t := 6) (t1 := 5) (t0 := 1) (n := 6) (m9 := 10) (k := 10) C Rm d_c_Mo_init_223 (by decide) rfl rfl rfl (by rw [sj_3]; exact ca_Mo_71) (by decide) (by decide) (by decide) (by decide) (by decide) (by decide) (by decide) (by decide) (by decide) (jroom hk_w_38.1 rfl) (jroom hk_w_38.2 rfl) (fun q20 f_q20 => ?_)
  refine jnv (fun w_39 ew_39 => ?_)
  have m_q20_w_39 : w_39.1 q20 = some (aR D 6 6 (jro 6 (fun j => q20 + 1 + j * (10 + 1)))) := jm3o ew_39
  have r_q20 : ∀ j, j < 6 → w_39.1 (q20 + 1 + j * (10 + 1)) = some (aR D 5 10 (jro 10 (fun i => q20 + 1 + j * (10 + 1) + 1 + i))) := fun j hj => jm3m ew_39 hj
  have r2_q20 : ∀ j, j < 6 → ∀ i, i < 10 → w_39.1 (q20 + 1 + j * (10 + 1) + 1 + i) = some (aJ D 10 (fun _ => 0)) := fun j hj i hi => jm3i ew_39 hj hi
  have hk_w_39 := jkM ew_39 hk_w_38
  have lt_q20 := jfrL fr_w_38 f_q20
  have fr_w_39 := jfrM3 ew_39 fr_w_38 f_q20
  have m_a_w_39 := jm3p ew_39 f_q20 m_a_w_38
  refine j_putF C hin d_c_Mo_init_227 ff_Mo_73 m_a_w_39 rfl rfl ?_
  refine jnv (fun w_40 ew_40 => ?_)
  have m_a_w_40 : w_40.1 a = some (.inr (10, (updV (updV (updV (updV (updV (updV (updV (updV (updV (updV (updV (updV (updV (updV (updV (updV (updV (updV (updV (updV V 1 (.ref q1)) 2 (.ref q2)) 3 (.ref q3)) 4 (.ref q4)) 5 (.ref q5)) 6 (.ref q6)) 7 (.ref q7)) 8 (.ref q8)) 9 (.ref q9)) 10 (.ref q10)) 11 (.ref q11)) 12 (.ref q12)) 13 (.ref q13)) 14 (.ref q14)) 15 (.ref q15)) 16 (.ref q16)) 17 (.ref q17)) 18 (.ref q18)) 19 (.ref q19)) 20 (.ref q20)))) := jus ew_40
  have hk_w_40 := jk0 ew_40 hk_w_39
  have fr_w_40 := jfrW ew_40 fr_w_39 (fun b e hb _ => hb)
  refine j_blk 233 [(0, .ref a)] [.int 120, .ref a] C k_c_Mo_init_230_2 rfl ?_
  refine j_newa (n := 120) C Rm d_c_Mo_init_233 rfl ac_int (by decide) (by decide) (by decide) (jroom hk_w_40.1 rfl) (jroom hk_w_40.2 rfl) (fun q21 f_q21 => ?_)
  refine jnv (fun w_41 ew_41 => ?_)
  have m_q21_w_41 : w_41.1 q21 = some (aI D 120 (fun _ => 0)) := jus ew_41
  have hk_w_41 := jk1 ew_41 hk_w_40
  have lt_q21 := jfrL fr_w_40 f_q21
  have fr_w_41 := jfrN ew_41 fr_w_40 f_q21
  have x_a_q21 := Nat.ne_of_lt (f_q21 _ _ m_a_w_40)
  have m_a_w_41 := jun ew_41 m_a_w_40 x_a_q21
  refine j_putF C hin d_c_Mo_init_235 ff_Mo_76 m_a_w_41 rfl rfl ?_
  refine jnv (fun w_42 ew_42 => ?_)
  have m_a_w_42 : w_42.1 a = some (.inr (10, (updV (updV (updV (updV (updV (updV (updV (updV (updV (updV (updV (updV (updV (updV (updV (updV (updV (updV (updV (updV (updV V 1 (.ref q1)) 2 (.ref q2)) 3 (.ref q3)) 4 (.ref q4)) 5 (.ref q5)) 6 (.ref q6)) 7 (.ref q7)) 8 (.ref q8)) 9 (.ref q9)) 10 (.ref q10)) 11 (.ref q11)) 12 (.ref q12)) 13 (.ref q13)) 14 (.ref q14)) 15 (.ref q15)) 16 (.ref q16)) 17 (.ref q17)) 18 (.ref q18)) 19 (.ref q19)) 20 (.ref q20)) 21 (.ref q21)))) := jus ew_42
  have hk_w_42 := jk0 ew_42 hk_w_41
  have fr_w_42 := jfrW ew_42 fr_w_41 (fun b e hb _ => hb)
  refine j_blk 242 [(0, .ref a)] [.int 200, .ref a] C k_c_Mo_init_238_2 rfl ?_
  refine j_anew (t := 11) (n := 200) C Rm d_c_Mo_init_242 rfl (by decide) ca_Mo_79 (by decide) (by decide) (by decide) (jroom hk_w_42.1 rfl) (jroom hk_w_42.2 rfl) (fun q22 f_q22 => ?_)
  refine jnv (fun w_43 ew_43 => ?_)
  have m_q22_w_43 : w_43.1 q22 = some (aR D 11 200 (fun _ => none)) := jus ew_43
  have hk_w_43 := jk1 ew_43 hk_w_42
  have lt_q22 := jfrL fr_w_42 f_q22
  have fr_w_43 := jfrN ew_43 fr_w_42 f_q22
  have x_a_q22 := Nat.ne_of_lt (f_q22 _ _ m_a_w_42)
  have m_a_w_43 := jun ew_43 m_a_w_42 x_a_q22
  refine j_putF C hin d_c_Mo_init_245 ff_Mo_81 m_a_w_43 rfl rfl ?_
  refine jnv (fun w_44 ew_44 => ?_)
  have m_a_w_44 : w_44.1 a = some (.inr (10, (updV (updV (updV (updV (updV (updV (updV (updV (updV (updV (updV (updV (updV (updV (updV (updV (updV (updV (updV (updV (updV (updV V 1 (.ref q1)) 2 (.ref q2)) 3 (.ref q3)) 4 (.ref q4)) 5 (.ref q5)) 6 (.ref q6)) 7 (.ref q7)) 8 (.ref q8)) 9 (.ref q9)) 10 (.ref q10)) 11 (.ref q11)) 12 (.ref q12)) 13 (.ref q13)) 14 (.ref q14)) 15 (.ref q15)) 16 (.ref q16)) 17 (.ref q17)) 18 (.ref q18)) 19 (.ref q19)) 20 (.ref q20)) 21 (.ref q21)) 32 (.ref q22)))) := jus ew_44
  have hk_w_44 := jk0 ew_44 hk_w_43
  have fr_w_44 := jfrW ew_44 fr_w_43 (fun b e hb _ => hb)
  refine j_blk 250 [(0, .ref a)] [.int (-1), .ref a] C k_c_Mo_init_248_2 rfl ?_
  refine j_put C d_c_Mo_init_250 fp_Mo_85 m_a_w_44 rfl rfl ?_
  refine jnv (fun w_45 ew_45 => ?_)
  have m_a_w_45 : w_45.1 a = some (.inr (10, (updV (updV (updV (updV (updV (updV (updV (updV (updV (updV (updV (updV (updV (updV (updV (updV (updV (updV (updV (updV (updV (updV (updV V 1 (.ref q1)) 2 (.ref q2)) 3 (.ref q3)) 4 (.ref q4)) 5 (.ref q5)) 6 (.ref q6)) 7 (.ref q7)) 8 (.ref q8)) 9 (.ref q9)) 10 (.ref q10)) 11 (.ref q11)) 12 (.ref q12)) 13 (.ref q13)) 14 (.ref q14)) 15 (.ref q15)) 16 (.ref q16)) 17 (.ref q17)) 18 (.ref q18)) 19 (.ref q19)) 20 (.ref q20)) 21 (.ref q21)) 32 (.ref q22)) 37 (.int (-1))))) := jus ew_45
  have hk_w_45 := jk0 ew_45 hk_w_44
  have fr_w_45 := jfrW ew_45 fr_w_44 (fun b e hb _ => hb)
  refine j_blk 256 [(0, .ref a)] [.int 6, .ref a] C k_c_Mo_init_253_2 rfl ?_
  refine j_newa (n := 6) C Rm d_c_Mo_init_256 rfl ac_int (by decide) (by decide) (by decide) (jroom hk_w_45.1 rfl) (jroom hk_w_45.2 rfl) (fun q23 f_q23 => ?_)
  refine jnv (fun w_46 ew_46 => ?_)
  have m_q23_w_46 : w_46.1 q23 = some (aI D 6 (fun _ => 0)) := jus ew_46
  have hk_w_46 := jk1 ew_46 hk_w_45
  have lt_q23 := jfrL fr_w_45 f_q23
  have fr_w_46 := jfrN ew_46 fr_w_45 f_q23
  have x_a_q23 := Nat.ne_of_lt (f_q23 _ _ m_a_w_45)
  have m_a_w_46 := jun ew_46 m_a_w_45 x_a_q23
  refine j_putF C hin d_c_Mo_init_258 ff_Mo_89 m_a_w_46 rfl rfl ?_
  refine jnv (fun w_47 ew_47 => ?_)
  have m_a_w_47 : w_47.1 a = some (.inr (10, (updV (updV (updV (updV (updV (updV (updV (updV (updV (updV (updV (updV (updV (updV (updV (updV (updV (updV (updV (updV (updV (updV (updV (updV V 1 (.ref q1)) 2 (.ref q2)) 3 (.ref q3)) 4 (.ref q4)) 5 (.ref q5)) 6 (.ref q6)) 7 (.ref q7)) 8 (.ref q8)) 9 (.ref q9)) 10 (.ref q10)) 11 (.ref q11)) 12 (.ref q12)) 13 (.ref q13)) 14 (.ref q14)) 15 (.ref q15)) 16 (.ref q16)) 17 (.ref q17)) 18 (.ref q18)) 19 (.ref q19)) 20 (.ref q20)) 21 (.ref q21)) 32 (.ref q22)) 37 (.int (-1))) 38 (.ref q23)))) := jus ew_47
  have hk_w_47 := jk0 ew_47 hk_w_46
  have fr_w_47 := jfrW ew_47 fr_w_46 (fun b e hb _ => hb)
  refine j_blk 263 [(0, .ref a)] [.int 4, .ref a] C k_c_Mo_init_261_2 rfl ?_
  refine j_newa (n := 4) C Rm d_c_Mo_init_263 rfl ac_int (by decide) (by decide) (by decide) (jroom hk_w_47.1 rfl) (jroom hk_w_47.2 rfl) (fun q24 f_q24 => ?_)
  refine jnv (fun w_48 ew_48 => ?_)
  have m_q24_w_48 : w_48.1 q24 = some (aI D 4 (fun _ => 0)) := jus ew_48
  have hk_w_48 := jk1 ew_48 hk_w_47
  have lt_q24 := jfrL fr_w_47 f_q24
  have fr_w_48 := jfrN ew_48 fr_w_47 f_q24
  refine j_blk 268 [(0, .ref a)] [.int (-1), .int 0, .ref q24, .ref q24, .ref a] C k_c_Mo_init_265_3 rfl ?_
  refine j_iast C d_c_Mo_init_268 m_q24_w_48 (jin (by decide) (by decide)) ?_
  refine jnv (fun w_49 ew_49 => ?_)
  have m_q24_w_49 : w_49.1 q24 = some (aI D 4 (upd (fun _ => 0) 0 (-1))) := jus ew_49
  have hk_w_49 := jk0 ew_49 hk_w_48
  have fr_w_49 := jfrW ew_49 fr_w_48 (fun b _ _ he => Nat.ne_of_lt (lt_q24 b _ he))
  refine j_blk 272 [(0, .ref a)] [.int (-1), .int 1, .ref q24, .ref q24, .ref a] C k_c_Mo_init_269_3 rfl ?_
  refine j_iast C d_c_Mo_init_272 m_q24_w_49 (jin (by decide) (by decide)) ?_
  refine jnv (fun w_50 ew_50 => ?_)
  have m_q24_w_50 : w_50.1 q24 = some (aI D 4 (upd (upd (fun _ => 0) 0 (-1)) 1 (-1))) := jus ew_50
  have hk_w_50 := jk0 ew_50 hk_w_49
  have fr_w_50 := jfrW ew_50 fr_w_49 (fun b _ _ he => Nat.ne_of_lt (lt_q24 b _ he))
  refine j_blk 276 [(0, .ref a)] [.int (-1), .int 2, .ref q24, .ref q24, .ref a] C k_c_Mo_init_273_3 rfl ?_
  refine j_iast C d_c_Mo_init_276 m_q24_w_50 (jin (by decide) (by decide)) ?_
  refine jnv (fun w_51 ew_51 => ?_)
  have m_q24_w_51 : w_51.1 q24 = some (aI D 4 (upd (upd (upd (fun _ => 0) 0 (-1)) 1 (-1)) 2 (-1))) := jus ew_51
  have hk_w_51 := jk0 ew_51 hk_w_50
  have fr_w_51 := jfrW ew_51 fr_w_50 (fun b _ _ he => Nat.ne_of_lt (lt_q24 b _ he))
  refine j_blk 280 [(0, .ref a)] [.int (-1), .int 3, .ref q24, .ref q24, .ref a] C k_c_Mo_init_277_3 rfl ?_
  refine j_iast C d_c_Mo_init_280 m_q24_w_51 (jin (by decide) (by decide)) ?_
  refine jnv (fun w_52 ew_52 => ?_)
  have m_q24_w_52 : w_52.1 q24 = some (aI D 4 (upd (upd (upd (upd (fun _ => 0) 0 (-1)) 1 (-1)) 2 (-1)) 3 (-1))) := jus ew_52
  have hk_w_52 := jk0 ew_52 hk_w_51
  have fr_w_52 := jfrW ew_52 fr_w_51 (fun b _ _ he => Nat.ne_of_lt (lt_q24 b _ he))
  have x_a_q24 := Nat.ne_of_lt (f_q24 _ _ m_a_w_47)
  have m_a_w_48 := jun ew_48 m_a_w_47 x_a_q24
  have m_a_w_49 := jun ew_49 m_a_w_48 x_a_q24
  have m_a_w_50 := jun ew_50 m_a_w_49 x_a_q24
  have m_a_w_51 := jun ew_51 m_a_w_50 x_a_q24
  have m_a_w_52 := jun ew_52 m_a_w_51 x_a_q24
  refine j_putF C hin d_c_Mo_init_281 ff_Mo_92 m_a_w_52 rfl rfl ?_
  refine jnv (fun w_53 ew_53 => ?_)
  have m_a_w_53 : w_53.1 a = some (.inr (10, (updV (updV (updV (updV (updV (updV (updV (updV (updV (updV (updV (updV (updV (updV (updV (updV (updV (updV (updV (updV (updV (updV (updV (updV (updV V 1 (.ref q1)) 2 (.ref q2)) 3 (.ref q3)) 4 (.ref q4)) 5 (.ref q5)) 6 (.ref q6)) 7 (.ref q7)) 8 (.ref q8)) 9 (.ref q9)) 10 (.ref q10)) 11 (.ref q11)) 12 (.ref q12)) 13 (.ref q13)) 14 (.ref q14)) 15 (.ref q15)) 16 (.ref q16)) 17 (.ref q17)) 18 (.ref q18)) 19 (.ref q19)) 20 (.ref q20)) 21 (.ref q21)) 32 (.ref q22)) 37 (.int (-1))) 38 (.ref q23)) 39 (.ref q24)))) := jus ew_53
  have hk_w_53 := jk0 ew_53 hk_w_52
  have fr_w_53 := jfrW ew_53 fr_w_52 (fun b e hb _ => hb)
  refine j_blk 286 [(0, .ref a)] [.int 4, .ref a] C k_c_Mo_init_284_2 rfl ?_
  refine j_newa (n := 4) C Rm d_c_Mo_init_286 rfl ac_int (by decide) (by decide) (by decide) (jroom hk_w_53.1 rfl) (jroom hk_w_53.2 rfl) (fun q25 f_q25 => ?_)
  refine jnv (fun w_54 ew_54 => ?_)
  have m_q25_w_54 : w_54.1 q25 = some (aI D 4 (fun _ => 0)) := jus ew_54
  have hk_w_54 := jk1 ew_54 hk_w_53
  have lt_q25 := jfrL fr_w_53 f_q25
  have fr_w_54 := jfrN ew_54 fr_w_53 f_q25
  have x_a_q25 := Nat.ne_of_lt (f_q25 _ _ m_a_w_53)
  have m_a_w_54 := jun ew_54 m_a_w_53 x_a_q25
  refine j_putF C hin d_c_Mo_init_288 ff_Mo_95 m_a_w_54 rfl rfl ?_
  refine jnv (fun w_55 ew_55 => ?_)
  have m_a_w_55 : w_55.1 a = some (.inr (10, (updV (updV (updV (updV (updV (updV (updV (updV (updV (updV (updV (updV (updV (updV (updV (updV (updV (updV (updV (updV (updV (updV (updV (updV (updV (updV V 1 (.ref q1)) 2 (.ref q2)) 3 (.ref q3)) 4 (.ref q4)) 5 (.ref q5)) 6 (.ref q6)) 7 (.ref q7)) 8 (.ref q8)) 9 (.ref q9)) 10 (.ref q10)) 11 (.ref q11)) 12 (.ref q12)) 13 (.ref q13)) 14 (.ref q14)) 15 (.ref q15)) 16 (.ref q16)) 17 (.ref q17)) 18 (.ref q18)) 19 (.ref q19)) 20 (.ref q20)) 21 (.ref q21)) 32 (.ref q22)) 37 (.int (-1))) 38 (.ref q23)) 39 (.ref q24)) 40 (.ref q25)))) := jus ew_55
  have hk_w_55 := jk0 ew_55 hk_w_54
  have fr_w_55 := jfrW ew_55 fr_w_54 (fun b e hb _ => hb)
  refine j_blk 295 [(0, .ref a)] [.int 40, .int 4, .ref a] C k_c_Mo_init_291_3 rfl ?_
  refine j_mn2 (t := 3) (t0 := 0) (n := 4) (k := 40) C Rm d_c_Mo_init_295 (by decide) rfl rfl (by rw [sj_0]; exact ca_Mo_19) (by decide) (by decide) (by decide) (by decide) (by decide) (by decide) (jroom hk_w_55.1 rfl) (jroom hk_w_55.2 rfl) (fun q26 f_q26 => ?_)
  refine jnv (fun w_56 ew_56 => ?_)
  have m_q26_w_56 : w_56.1 q26 = some (aR D 3 4 (jro 4 (fun j => q26 + 1 + j))) := jm2o ew_56
  have r_q26 : ∀ j, j < 4 → w_56.1 (q26 + 1 + j) = some (aI D 40 (fun _ => 0)) := fun j hj => jm2i ew_56 hj
  have hk_w_56 := jkM ew_56 hk_w_55
  have lt_q26 := jfrL fr_w_55 f_q26
  have fr_w_56 := jfrM2 ew_56 fr_w_55 f_q26
  have m_a_w_56 := jm2p ew_56 f_q26 m_a_w_55
  refine j_putF C hin d_c_Mo_init_299 ff_Mo_98 m_a_w_56 rfl rfl ?_
  refine jnv (fun w_57 ew_57 => ?_)
  have m_a_w_57 : w_57.1 a = some (.inr (10, (updV (updV (updV (updV (updV (updV (updV (updV (updV (updV (updV (updV (updV (updV (updV (updV (updV (updV (updV (updV (updV (updV (updV (updV (updV (updV (updV V 1 (.ref q1)) 2 (.ref q2)) 3 (.ref q3)) 4 (.ref q4)) 5 (.ref q5)) 6 (.ref q6)) 7 (.ref q7)) 8 (.ref q8)) 9 (.ref q9)) 10 (.ref q10)) 11 (.ref q11)) 12 (.ref q12)) 13 (.ref q13)) 14 (.ref q14)) 15 (.ref q15)) 16 (.ref q16)) 17 (.ref q17)) 18 (.ref q18)) 19 (.ref q19)) 20 (.ref q20)) 21 (.ref q21)) 32 (.ref q22)) 37 (.int (-1))) 38 (.ref q23)) 39 (.ref q24)) 40 (.ref q25)) 41 (.ref q26)))) := jus ew_57
  have hk_w_57 := jk0 ew_57 hk_w_56
  have fr_w_57 := jfrW ew_57 fr_w_56 (fun b e hb _ => hb)
  refine j_blk 305 [(0, .ref a)] [.int 40, .ref a] C k_c_Mo_init_302_2 rfl ?_
  refine j_newa (n := 40) C Rm d_c_Mo_init_305 rfl ac_int (by decide) (by decide) (by decide) (jroom hk_w_57.1 rfl) (jroom hk_w_57.2 rfl) (fun q27 f_q27 => ?_)
  refine jnv (fun w_58 ew_58 => ?_)
  have m_q27_w_58 : w_58.1 q27 = some (aI D 40 (fun _ => 0)) := jus ew_58
  have hk_w_58 := jk1 ew_58 hk_w_57
  have lt_q27 := jfrL fr_w_57 f_q27
  have fr_w_58 := jfrN ew_58 fr_w_57 f_q27
  have x_a_q27 := Nat.ne_of_lt (f_q27 _ _ m_a_w_57)
  have m_a_w_58 := jun ew_58 m_a_w_57 x_a_q27
  refine j_putF C hin d_c_Mo_init_307 ff_Mo_101 m_a_w_58 rfl rfl ?_
  refine jnv (fun w_59 ew_59 => ?_)
  have m_a_w_59 : w_59.1 a = some (.inr (10, (updV (updV (updV (updV (updV (updV (updV (updV (updV (updV (updV (updV (updV (updV (updV (updV (updV (updV (updV (updV (updV (updV (updV (updV (updV (updV (updV (updV V 1 (.ref q1)) 2 (.ref q2)) 3 (.ref q3)) 4 (.ref q4)) 5 (.ref q5)) 6 (.ref q6)) 7 (.ref q7)) 8 (.ref q8)) 9 (.ref q9)) 10 (.ref q10)) 11 (.ref q11)) 12 (.ref q12)) 13 (.ref q13)) 14 (.ref q14)) 15 (.ref q15)) 16 (.ref q16)) 17 (.ref q17)) 18 (.ref q18)) 19 (.ref q19)) 20 (.ref q20)) 21 (.ref q21)) 32 (.ref q22)) 37 (.int (-1))) 38 (.ref q23)) 39 (.ref q24)) 40 (.ref q25)) 41 (.ref q26)) 42 (.ref q27)))) := jus ew_59
  have hk_w_59 := jk0 ew_59 hk_w_58
  have fr_w_59 := jfrW ew_59 fr_w_58 (fun b e hb _ => hb)
  refine j_blk 312 [(1, .int 0), (0, .ref a)] [] C k_c_Mo_init_310_2 rfl ?_
  have m_q21_w_42 := jun ew_42 m_q21_w_41 (Ne.symm x_a_q21)
  have x_q21_q22 := Nat.ne_of_lt (f_q22 _ _ m_q21_w_42)
  have m_q21_w_43 := jun ew_43 m_q21_w_42 x_q21_q22
  have m_q21_w_44 := jun ew_44 m_q21_w_43 (Ne.symm x_a_q21)
  have m_q21_w_45 := jun ew_45 m_q21_w_44 (Ne.symm x_a_q21)
  have x_q21_q23 := Nat.ne_of_lt (f_q23 _ _ m_q21_w_45)
  have m_q21_w_46 := jun ew_46 m_q21_w_45 x_q21_q23
  have m_q21_w_47 := jun ew_47 m_q21_w_46 (Ne.symm x_a_q21)
  have x_q21_q24 := Nat.ne_of_lt (f_q24 _ _ m_q21_w_47)
  have m_q21_w_48 := jun ew_48 m_q21_w_47 x_q21_q24
  have m_q21_w_49 := jun ew_49 m_q21_w_48 x_q21_q24
  have m_q21_w_50 := jun ew_50 m_q21_w_49 x_q21_q24
  have m_q21_w_51 := jun ew_51 m_q21_w_50 x_q21_q24
  have m_q21_w_52 := jun ew_52 m_q21_w_51 x_q21_q24
  have m_q21_w_53 := jun ew_53 m_q21_w_52 (Ne.symm x_a_q21)
  have x_q21_q25 := Nat.ne_of_lt (f_q25 _ _ m_q21_w_53)
  have m_q21_w_54 := jun ew_54 m_q21_w_53 x_q21_q25
  have m_q21_w_55 := jun ew_55 m_q21_w_54 (Ne.symm x_a_q21)
  have m_q21_w_56 := jm2p ew_56 f_q26 m_q21_w_55
  have m_q21_w_57 := jun ew_57 m_q21_w_56 (Ne.symm x_a_q21)
  have x_q21_q27 := Nat.ne_of_lt (f_q27 _ _ m_q21_w_57)
  have m_q21_w_58 := jun ew_58 m_q21_w_57 x_q21_q27
  have m_q21_w_59 := jun ew_59 m_q21_w_58 (Ne.symm x_a_q21)
  have m_q17_w_34 := jun ew_34 m_q17_w_33 (Ne.symm x_a_q17)
  have m_q17_w_35 := jm2p ew_35 f_q18 m_q17_w_34
  have m_q17_w_36 := jun ew_36 m_q17_w_35 (Ne.symm x_a_q17)
  have m_q17_w_37 := jm2p ew_37 f_q19 m_q17_w_36
  have m_q17_w_38 := jun ew_38 m_q17_w_37 (Ne.symm x_a_q17)
  have m_q17_w_39 := jm3p ew_39 f_q20 m_q17_w_38
  have m_q17_w_40 := jun ew_40 m_q17_w_39 (Ne.symm x_a_q17)
  have x_q17_q21 := Nat.ne_of_lt (f_q21 _ _ m_q17_w_40)
  have m_q17_w_41 := jun ew_41 m_q17_w_40 x_q17_q21
  have m_q17_w_42 := jun ew_42 m_q17_w_41 (Ne.symm x_a_q17)
  have x_q17_q22 := Nat.ne_of_lt (f_q22 _ _ m_q17_w_42)
  have m_q17_w_43 := jun ew_43 m_q17_w_42 x_q17_q22
  have m_q17_w_44 := jun ew_44 m_q17_w_43 (Ne.symm x_a_q17)
  have m_q17_w_45 := jun ew_45 m_q17_w_44 (Ne.symm x_a_q17)
  have x_q17_q23 := Nat.ne_of_lt (f_q23 _ _ m_q17_w_45)
  have m_q17_w_46 := jun ew_46 m_q17_w_45 x_q17_q23
  have m_q17_w_47 := jun ew_47 m_q17_w_46 (Ne.symm x_a_q17)
  have x_q17_q24 := Nat.ne_of_lt (f_q24 _ _ m_q17_w_47)
  have m_q17_w_48 := jun ew_48 m_q17_w_47 x_q17_q24
  have m_q17_w_49 := jun ew_49 m_q17_w_48 x_q17_q24
  have m_q17_w_50 := jun ew_50 m_q17_w_49 x_q17_q24
  have m_q17_w_51 := jun ew_51 m_q17_w_50 x_q17_q24
  have m_q17_w_52 := jun ew_52 m_q17_w_51 x_q17_q24
  have m_q17_w_53 := jun ew_53 m_q17_w_52 (Ne.symm x_a_q17)
  have x_q17_q25 := Nat.ne_of_lt (f_q25 _ _ m_q17_w_53)
  have m_q17_w_54 := jun ew_54 m_q17_w_53 x_q17_q25
  have m_q17_w_55 := jun ew_55 m_q17_w_54 (Ne.symm x_a_q17)
  have m_q17_w_56 := jm2p ew_56 f_q26 m_q17_w_55
  have m_q17_w_57 := jun ew_57 m_q17_w_56 (Ne.symm x_a_q17)
  have x_q17_q27 := Nat.ne_of_lt (f_q27 _ _ m_q17_w_57)
  have m_q17_w_58 := jun ew_58 m_q17_w_57 x_q17_q27
  have m_q17_w_59 := jun ew_59 m_q17_w_58 (Ne.symm x_a_q17)
  have m_q23_w_47 := jun ew_47 m_q23_w_46 (Ne.symm x_a_q23)
  have x_q23_q24 := Nat.ne_of_lt (f_q24 _ _ m_q23_w_47)
  have m_q23_w_48 := jun ew_48 m_q23_w_47 x_q23_q24
  have m_q23_w_49 := jun ew_49 m_q23_w_48 x_q23_q24
  have m_q23_w_50 := jun ew_50 m_q23_w_49 x_q23_q24
  have m_q23_w_51 := jun ew_51 m_q23_w_50 x_q23_q24
  have m_q23_w_52 := jun ew_52 m_q23_w_51 x_q23_q24
  have m_q23_w_53 := jun ew_53 m_q23_w_52 (Ne.symm x_a_q23)
  have x_q23_q25 := Nat.ne_of_lt (f_q25 _ _ m_q23_w_53)
  have m_q23_w_54 := jun ew_54 m_q23_w_53 x_q23_q25
  have m_q23_w_55 := jun ew_55 m_q23_w_54 (Ne.symm x_a_q23)
  have m_q23_w_56 := jm2p ew_56 f_q26 m_q23_w_55
  have m_q23_w_57 := jun ew_57 m_q23_w_56 (Ne.symm x_a_q23)
  have x_q23_q27 := Nat.ne_of_lt (f_q27 _ _ m_q23_w_57)
  have m_q23_w_58 := jun ew_58 m_q23_w_57 x_q23_q27
  have m_q23_w_59 := jun ew_59 m_q23_w_58 (Ne.symm x_a_q23)
  have m_q24_w_53 := jun ew_53 m_q24_w_52 (Ne.symm x_a_q24)
  have x_q24_q25 := Nat.ne_of_lt (f_q25 _ _ m_q24_w_53)
  have m_q24_w_54 := jun ew_54 m_q24_w_53 x_q24_q25
  have m_q24_w_55 := jun ew_55 m_q24_w_54 (Ne.symm x_a_q24)
  have m_q24_w_56 := jm2p ew_56 f_q26 m_q24_w_55
  have m_q24_w_57 := jun ew_57 m_q24_w_56 (Ne.symm x_a_q24)
  have x_q24_q27 := Nat.ne_of_lt (f_q27 _ _ m_q24_w_57)
  have m_q24_w_58 := jun ew_58 m_q24_w_57 x_q24_q27
  have m_q24_w_59 := jun ew_59 m_q24_w_58 (Ne.symm x_a_q24)
  have m_q25_w_55 := jun ew_55 m_q25_w_54 (Ne.symm x_a_q25)
  have m_q25_w_56 := jm2p ew_56 f_q26 m_q25_w_55
  have m_q25_w_57 := jun ew_57 m_q25_w_56 (Ne.symm x_a_q25)
  have x_q25_q27 := Nat.ne_of_lt (f_q27 _ _ m_q25_w_57)
  have m_q25_w_58 := jun ew_58 m_q25_w_57 x_q25_q27
  have m_q25_w_59 := jun ew_59 m_q25_w_58 (Ne.symm x_a_q25)
  have m_q26_w_57 := jun ew_57 m_q26_w_56 (jneAO m_q26_w_56 m_a_w_56)
  have x_q26_q27 := Nat.ne_of_lt (f_q27 _ _ m_q26_w_57)
  have m_q26_w_58 := jun ew_58 m_q26_w_57 x_q26_q27
  have m_q26_w_59 := jun ew_59 m_q26_w_58 (jneAO m_q26_w_58 m_a_w_58)
  have m_q22_w_44 := jun ew_44 m_q22_w_43 (Ne.symm x_a_q22)
  have m_q22_w_45 := jun ew_45 m_q22_w_44 (Ne.symm x_a_q22)
  have x_q22_q23 := Nat.ne_of_lt (f_q23 _ _ m_q22_w_45)
  have m_q22_w_46 := jun ew_46 m_q22_w_45 x_q22_q23
  have m_q22_w_47 := jun ew_47 m_q22_w_46 (Ne.symm x_a_q22)
  have x_q22_q24 := Nat.ne_of_lt (f_q24 _ _ m_q22_w_47)
  have m_q22_w_48 := jun ew_48 m_q22_w_47 x_q22_q24
  have m_q22_w_49 := jun ew_49 m_q22_w_48 x_q22_q24
  have m_q22_w_50 := jun ew_50 m_q22_w_49 x_q22_q24
  have m_q22_w_51 := jun ew_51 m_q22_w_50 x_q22_q24
  have m_q22_w_52 := jun ew_52 m_q22_w_51 x_q22_q24
  have m_q22_w_53 := jun ew_53 m_q22_w_52 (Ne.symm x_a_q22)
  have x_q22_q25 := Nat.ne_of_lt (f_q25 _ _ m_q22_w_53)
  have m_q22_w_54 := jun ew_54 m_q22_w_53 x_q22_q25
  have m_q22_w_55 := jun ew_55 m_q22_w_54 (Ne.symm x_a_q22)
  have m_q22_w_56 := jm2p ew_56 f_q26 m_q22_w_55
  have m_q22_w_57 := jun ew_57 m_q22_w_56 (Ne.symm x_a_q22)
  have x_q22_q27 := Nat.ne_of_lt (f_q27 _ _ m_q22_w_57)
  have m_q22_w_58 := jun ew_58 m_q22_w_57 x_q22_q27
  have m_q22_w_59 := jun ew_59 m_q22_w_58 (Ne.symm x_a_q22)
  have r56_q26 : ∀ j, j < 4 → w_57.1 (q26 + 1 + j) = some (aI D 40 (fun _ => 0)) := fun j hj => jun ew_57 (r_q26 j hj) (jneAO (r_q26 j hj) m_a_w_56)
  have r57_q26 : ∀ j, j < 4 → w_58.1 (q26 + 1 + j) = some (aI D 40 (fun _ => 0)) := fun j hj => jun ew_58 (r56_q26 j hj) (Nat.ne_of_lt (f_q27 _ _ (r56_q26 j hj)))
  have r58_q26 : ∀ j, j < 4 → w_59.1 (q26 + 1 + j) = some (aI D 40 (fun _ => 0)) := fun j hj => jun ew_59 (r57_q26 j hj) (jneAO (r57_q26 j hj) m_a_w_58)
  have lp : ∀ (n k : Nat) (w1 : jW) (F : Nat → Option Nat), k ≤ 200 → 200 < k + n → w1.1 q22 = some (aR D 11 200 F) → jfr (fun b => b ≠ q22) w_59 w1 → (w1.2.1 = w.2.1 + (187 + 3 * k) ∧ w1.2.2 = w.2.2 + (6430 + 605 * k)) → JJ g w1 312 [(1, .int (nI k)), (0, .ref a)] [] := by
    intro n
    induction n with
    | zero => intro k w1 F h1 h2; exact absurd h2 (Nat.not_lt.mpr h1)
    | succ n ih =>
      intro k w1 F hk1 hk2 hF hfr hc1
      have hcz : w1.2.1 = w.2.1 + (187 + 3 * k + 0) ∧ w1.2.2 = w.2.2 + (6430 + 605 * k + 0) := hc1
      refine j_blk 316 [(1, .int (nI k)), (0, .ref a)] [.int 200, .int (nI k)] C k_c_Mo_init_312_2 rfl ?_
      refine j_icmp_ge (tgt := 338) C d_c_Mo_init_316 (by decide) (fun c28 => ?_) (fun c28 => ?_)
      · have hk : k = 200 := jl_eq c28 hk1
        subst hk
        have fo := jfrT fr_w_59 hfr (fun b e _ he => Nat.ne_of_lt (lt_q22 b _ he))
        have m_a_w1 := (hfr _ _ m_a_w_59).1 x_a_q22
        have m_q21_w1 := (hfr _ _ m_q21_w_59).1 x_q21_q22
        have m_q17_w1 := (hfr _ _ m_q17_w_59).1 x_q17_q22
        have m_q23_w1 := (hfr _ _ m_q23_w_59).1 (Ne.symm x_q22_q23)
        have m_q24_w1 := (hfr _ _ m_q24_w_59).1 (Ne.symm x_q22_q24)
        have m_q25_w1 := (hfr _ _ m_q25_w_59).1 (Ne.symm x_q22_q25)
        have m_q26_w1 := (hfr _ _ m_q26_w_59).1 (jneN m_q26_w_59 m_q22_w_59 rfl)
        have hrows : ∀ j, j < 4 → w1.1 (q26 + 1 + j) = some (aI D 40 (fun _ => 0)) := fun j hj => (hfr _ _ (r58_q26 j hj)).1 (jneIJ (r58_q26 j hj) m_q22_w_59)
        exact j_vret C Rm E d_c_Mo_init_338 ⟨rfl, ⟨hc1.1, hc1.2⟩, fo, _, q1, q2, q3, q4, q5, q6, q7, q8, q9, q10, q11, q12, q13, q14, q15, q16, q17, q18, q19, q20, q21, q22, q23, q24, q25, q26, q27, (upd (upd (upd (upd (fun _ => 0) 0 (-1)) 1 (-1)) 2 (-1)) 3 (-1)), lt_q1, lt_q2, lt_q3, lt_q4, lt_q5, lt_q6, lt_q7, lt_q8, lt_q9, lt_q10, lt_q11, lt_q12, lt_q13, lt_q14, lt_q15, lt_q16, lt_q17, lt_q18, lt_q19, lt_q20, lt_q21, lt_q22, lt_q23, lt_q24, lt_q25, lt_q26, lt_q27, m_a_w1, rfl, rfl, rfl, rfl, rfl, rfl, rfl, rfl, rfl, rfl, rfl, rfl, rfl, rfl, rfl, rfl, rfl, rfl, rfl, rfl, rfl, rfl, rfl, rfl, rfl, rfl, rfl, rfl, rfl, rfl, rfl, rfl, rfl, rfl, rfl, rfl, rfl, rfl, rfl, rfl, rfl, rfl, rfl, m_q21_w1, m_q17_w1, m_q23_w1, m_q24_w1, fun j hj => by match j, hj with | 0, _ => rfl | 1, _ => rfl | 2, _ => rfl | 3, _ => rfl, m_q25_w1, m_q26_w1, hrows, x_q24_q25⟩ (jbnd hc1.1 rfl) (jbnd hc1.2 rfl)
      · refine j_blk 320 [(1, .int (nI k)), (0, .ref a)] [.ref a] C k_c_Mo_init_319_1 rfl ?_
        have m_a_w1 := (hfr _ _ m_a_w_59).1 x_a_q22
        refine j_get C d_c_Mo_init_320 fg_Mo_81 m_a_w1 rfl ?_
        refine j_blk 324 [(1, .int (nI k)), (0, .ref a)] [.int (nI k), .ref q22] C k_c_Mo_init_323_1 rfl ?_
        refine j_new C Rm d_c_Mo_init_324 nw_Mo_79 (jl_r 199 (Nat.le_of_lt_succ (jl_lt c28 hk1)) hcz.1 rfl) (jl_r 199 (Nat.le_of_lt_succ (jl_lt c28 hk1)) hcz.2 rfl) (fun q29 f_q29 => ?_)
        refine jnv (fun w_60 ew_60 => ?_)
        have m_q29_w_60 : w_60.1 q29 = some (.inr (9, v0_9)) := jus ew_60
        have hk_w_60 := jk1 ew_60 hcz
        have lt_q29 := jfrL hfr f_q29
        have fr_w_60 := jfrN ew_60 hfr f_q29
        refine j_blk 328 [(1, .int (nI k)), (0, .ref a)] [.ref q29, .ref q29, .int (nI k), .ref q22] C k_c_Mo_init_327_1 rfl ?_
        refine j_callIn C Rm Y [] [.ref q29, .int (nI k), .ref q22] (c_Odds_init l D B H0 w_60 q29 v0_9 m_q29_w_60) cl_Mo_104 d_c_Mo_init_328 rfl rfl (Nat.le_of_ble_eq_true rfl) ⟨by decide, by decide⟩ ⟨(jl_r 199 (Nat.le_of_lt_succ (jl_lt c28 hk1)) hk_w_60.1 rfl), (jl_r 199 (Nat.le_of_lt_succ (jl_lt c28 hk1)) hk_w_60.2 rfl)⟩ (fun v30 w_61 pw_61 => ?_)
        obtain ⟨rfl, hc_w_61, G_w_61, V_w_61, q31, q32, ltq31_w_61, ltq32_w_61, mo_w_61, hV0_w_61, hV1_w_61, hV2_w_61, mmq31_w_61, mmq32_w_61⟩ := pw_61
        have hk_w_61 := jkT hk_w_60 hc_w_61
        have lt_q31 := jfrL fr_w_60 ltq31_w_61
        have lt_q32 := jfrL fr_w_60 ltq32_w_61
        have fr_w_61 := jfrT fr_w_60 G_w_61 (fun b _ _ he => Nat.ne_of_lt (lt_q29 b _ he))
        show JJ g w_61 331 [(1, .int (nI k)), (0, .ref a)] [.ref q29, .int (nI k), .ref q22]
        have x_q22_q29 := Nat.ne_of_lt (f_q29 _ _ hF)
        have m_q22_w_60 := jun ew_60 hF x_q22_q29
        have m_q22_w_61 := (G_w_61 _ _ m_q22_w_60).1 x_q22_q29
        refine j_aast C d_c_Mo_init_331 (by rfl) (by rfl) m_q22_w_61 mo_w_61 (vp_in_nI (jl_lt c28 hk1) (by decide)) ?_
        refine jnv (fun w_62 ew_62 => ?_)
        have m_q22_w_62 : w_62.1 q22 = some (aR D 11 200 (va_up F (Int32.toNatClampNeg (nI k)) (some q29))) := jus ew_62
        have hk_w_62 := jk0 ew_62 hk_w_61
        have fr_w_62 := jfrW ew_62 fr_w_61 (fun b e hb _ => hb)
        refine j_blk 312 [(1, .int ((nI k) + 1)), (0, .ref a)] [] C k_c_Mo_init_332_2 rfl ?_
        rw [nI_1]
        exact ih (k + 1) w_62 _ (jl_lt c28 hk1) (jl_fu hk2) m_q22_w_62 fr_w_62 ⟨jl_c 187 3 k hk_w_62.1, jl_c 6430 605 k hk_w_62.2⟩
  have hB := hk_w_59
  exact lp 201 0 w_59 _ (by decide) (by decide) m_q22_w_59 jfr0 ⟨hB.1, hB.2⟩
end
section
/-! the calls that name a program, on fresh objects (own work, by program) -/
theorem k_c_CS_isProgram_0_1 : sblk b_CS_isProgram [(0, .iload_n 1, .null)] := sblk_of (by decide +kernel)
theorem d_c_CS_isProgram_1 : decode b_CS_isProgram 1 = .ok (.ifCond .lt 30, 3) := by decide +kernel
theorem k_c_CS_isProgram_31_1 : sblk b_CS_isProgram [(31, .iconst 0, .int 0)] := sblk_of (by decide +kernel)
theorem d_c_CS_isProgram_32 : decode b_CS_isProgram 32 = .ok (.ireturn, 1) := by decide +kernel
theorem k_c_CS_isProgram_4_2 : sblk b_CS_isProgram [(4, .iload_n 1, .null), (5, .aload_n 0, .null)] := sblk_of (by decide +kernel)
theorem d_c_CS_isProgram_6 : decode b_CS_isProgram 6 = .ok (.getfield 59, 3) := by decide +kernel
theorem d_c_CS_isProgram_9 : decode b_CS_isProgram 9 = .ok (.if_icmp .ge 22, 3) := by decide +kernel
set_option maxHeartbeats 40000000 in
set_option maxRecDepth 100000 in
theorem c_CS_isProgram (l : Launch) (D : va_G) (B : Nat) (H0 : Heap) (w : jW) (p : Int32) (V : Nat → Value) (x : Nat) (hx : w.1 x = some (.inr (8, V))) (h3 : V 3 = .int 0) : jMet l D B H0 y_CS_isProgram b_CS_isProgram 2 (some .boolean) 0 0 0 0 [.ref x, .int p] w (fun v w9 => v = some (.int 0) ∧ w = w9) := by
  refine j_met (by decide) (Nat.le_of_ble_eq_true rfl) (fun g C Rm Y E => ?_)
  have hk := jkz w
  show JJ g w 0 [(0, .ref x), (1, .int p)] []
  refine j_blk 1 [(0, .ref x), (1, .int p)] [.int p] C k_c_CS_isProgram_0_1 rfl ?_
  refine j_if_lt (tgt := 31) C d_c_CS_isProgram_1 (by decide) (fun c1 => ?_) (fun c1 => ?_)
  · refine j_blk 32 [(0, .ref x), (1, .int p)] [.int 0] C k_c_CS_isProgram_31_1 rfl ?_
    exact j_zret C Rm E rfl d_c_CS_isProgram_32 ⟨rfl, rfl⟩ (jbnd hk.1 rfl) (jbnd hk.2 rfl)
  · refine j_blk 6 [(0, .ref x), (1, .int p)] [.ref x, .int p] C k_c_CS_isProgram_4_2 rfl ?_
    refine j_get C d_c_CS_isProgram_6 fg_CS_59 hx h3 ?_
    refine j_icmp_ge (tgt := 31) C d_c_CS_isProgram_9 (by decide) (fun c2 => ?_) (fun c2 => absurd (by simp only [jlt, jle, jeq, kt_0, kt_1, kt_2, kt_3, kt_4, kt_5, kt_6, kt_7, kt_8, kt_9, kt_10, kt_11, kt_12, kt_13, kt_15, kt_16, kt_19, kt_20, kt_24, kt_25, kt_31, kt_32, kt_40, kt_50, kt_60, kt_63, kt_100, kt_120, kt_255, kt_300, kt_999999, kt_1000000, kt_m1, kt_m2, kt_m3, kt_m4, kt_m6, kt_m7, kt_m11, kt_m12, kt_m13, kt_m14, kt_m100] at c1; simp only [jlt, jle, jeq, kt_0, kt_1, kt_2, kt_3, kt_4, kt_5, kt_6, kt_7, kt_8, kt_9, kt_10, kt_11, kt_12, kt_13, kt_15, kt_16, kt_19, kt_20, kt_24, kt_25, kt_31, kt_32, kt_40, kt_50, kt_60, kt_63, kt_100, kt_120, kt_255, kt_300, kt_999999, kt_1000000, kt_m1, kt_m2, kt_m3, kt_m4, kt_m6, kt_m7, kt_m11, kt_m12, kt_m13, kt_m14, kt_m100]; omega) c2)
    refine j_blk 32 [(0, .ref x), (1, .int p)] [.int 0] C k_c_CS_isProgram_31_1 rfl ?_
    exact j_zret C Rm E rfl d_c_CS_isProgram_32 ⟨rfl, rfl⟩ (jbnd hk.1 rfl) (jbnd hk.2 rfl)

theorem k_c_Mo_isProgram_0_3 : sblk b_Mo_isProgram [(0, .iload_n 1, .null), (1, .iconst 0, .int 0), (2, .aload_n 0, .null)] := sblk_of (by decide +kernel)
theorem d_c_Mo_isProgram_3 : decode b_Mo_isProgram 3 = .ok (.getfield 105, 3) := by decide +kernel
theorem k_c_Mo_isProgram_6_2 : sblk b_Mo_isProgram [(6, .iconst 1, .int 1), (7, .isub, .null)] := sblk_of (by decide +kernel)
theorem d_c_Mo_isProgram_8 : decode b_Mo_isProgram 8 = .ok (.invokestatic 108, 3) := by decide +kernel
theorem d_c_Mo_isProgram_11 : decode b_Mo_isProgram 11 = .ok (.ireturn, 1) := by decide +kernel
set_option maxHeartbeats 40000000 in
set_option maxRecDepth 100000 in
theorem c_Mo_isProgram (l : Launch) (D : va_G) (B : Nat) (H0 : Heap) (w : jW) (p : Int32) (V : Nat → Value) (x : Nat) (hx : w.1 x = some (.inr (10, V))) (h0 : V 0 = .int 0) : jMet l D B H0 y_Mo_isProgram b_Mo_isProgram 2 (some .boolean) 1 40 0 0 [.ref x, .int p] w (fun v w9 => v = some (.int 0) ∧ w = w9) := by
  refine j_met (by decide) (Nat.le_of_ble_eq_true rfl) (fun g C Rm Y E => ?_)
  have hk := jkz w
  show JJ g w 0 [(0, .ref x), (1, .int p)] []
  refine j_blk 3 [(0, .ref x), (1, .int p)] [.ref x, .int 0, .int p] C k_c_Mo_isProgram_0_3 rfl ?_
  refine j_get C d_c_Mo_isProgram_3 fg_Mo_105 hx h0 ?_
  refine j_blk 8 [(0, .ref x), (1, .int p)] [.int (-1), .int 0, .int p] C k_c_Mo_isProgram_6_2 rfl ?_
  refine j_callS (As := [.int p, .int 0, .int (-1)]) C Rm Y [] (c_Mo_in l D B H0 w p 0 (-1)) cl_Mo_108 d_c_Mo_isProgram_8 rfl rfl (Nat.le_of_ble_eq_true rfl) ⟨by decide, by decide⟩ ⟨jroom hk.1 rfl, jroom hk.2 rfl⟩ (fun v1 w_1 pw_1 => ?_)
  obtain ⟨rfl, rfl⟩ := pw_1
  show JJ g w 11 [(0, .ref x), (1, .int p)] [.int (if (0 : Int32).toInt ≤ p.toInt ∧ p.toInt ≤ ((-1) : Int32).toInt then 1 else 0)]
  exact j_zret C Rm E (jbn _) d_c_Mo_isProgram_11 ⟨congrArg (fun z => some (Value.int z)) (if_neg (by show ¬ (Int32.toInt 0 ≤ p.toInt ∧ p.toInt ≤ Int32.toInt (-1)); rw [kt_0, kt_m1]; omega)), rfl⟩ (jbnd hk.1 rfl) (jbnd hk.2 rfl)

theorem k_c_CS_told_0_2 : sblk b_CS_told [(0, .aload_n 0, .null), (1, .iload_n 1, .null)] := sblk_of (by decide +kernel)
theorem d_c_CS_told_2 : decode b_CS_told 2 = .ok (.invokevirtual 94, 3) := by decide +kernel
theorem d_c_CS_told_5 : decode b_CS_told 5 = .ok (.ifCond .eq 13, 3) := by decide +kernel
theorem k_c_CS_told_18_1 : sblk b_CS_told [(18, .bipush (-2), .int (-2))] := sblk_of (by decide +kernel)
theorem d_c_CS_told_20 : decode b_CS_told 20 = .ok (.ireturn, 1) := by decide +kernel
set_option maxHeartbeats 40000000 in
set_option maxRecDepth 100000 in
theorem c_CS_told (l : Launch) (D : va_G) (B : Nat) (H0 : Heap) (w : jW) (x : Nat) (V : Nat → Value) (a : Int32) (b : Int32) (hx : w.1 x = some (.inr (8, V))) (h3 : V 3 = .int 0) : jMet l D B H0 y_CS_told b_CS_told 5 (some .int) 3 160 0 0 [.ref x, .int a, .int b] w (fun v w9 => v = some (.int (-2)) ∧ w = w9) := by
  refine j_met (by decide) (Nat.le_of_ble_eq_true rfl) (fun g C Rm Y E => ?_)
  have hk := jkz w
  show JJ g w 0 [(0, .ref x), (1, .int a), (2, .int b)] []
  refine j_blk 2 [(0, .ref x), (1, .int a), (2, .int b)] [.int a, .ref x] C k_c_CS_told_0_2 rfl ?_
  refine j_callV C Rm Y [.int a] [] (c_CS_isProgram l D B H0 w a _ x hx h3) cl_CS_94 (by rfl) (by rfl) hx d_c_CS_told_2 rfl rfl (Nat.le_of_ble_eq_true rfl) ⟨by decide, by decide⟩ ⟨jroom hk.1 rfl, jroom hk.2 rfl⟩ (fun v1 w_1 pw_1 => ?_)
  obtain ⟨rfl, rfl⟩ := pw_1
  show JJ g w 5 [(0, .ref x), (1, .int a), (2, .int b)] [.int 0]
  refine j_if_eq (tgt := 18) C d_c_CS_told_5 (by decide) (fun c2 => ?_) (fun c2 => absurd (by decide) c2)
  refine j_blk 20 [(0, .ref x), (1, .int a), (2, .int b)] [.int (-2)] C k_c_CS_told_18_1 rfl ?_
  exact j_iret C Rm E d_c_CS_told_20 ⟨rfl, rfl⟩ (jbnd hk.1 rfl) (jbnd hk.2 rfl)

theorem k_c_CS_step_0_2 : sblk b_CS_step [(0, .aload_n 0, .null), (1, .iload_n 1, .null)] := sblk_of (by decide +kernel)
theorem d_c_CS_step_2 : decode b_CS_step 2 = .ok (.invokevirtual 94, 3) := by decide +kernel
theorem d_c_CS_step_5 : decode b_CS_step 5 = .ok (.ifCond .eq 12, 3) := by decide +kernel
theorem k_c_CS_step_17_1 : sblk b_CS_step [(17, .bipush (-2), .int (-2))] := sblk_of (by decide +kernel)
theorem d_c_CS_step_19 : decode b_CS_step 19 = .ok (.ireturn, 1) := by decide +kernel
set_option maxHeartbeats 40000000 in
set_option maxRecDepth 100000 in
theorem c_CS_step (l : Launch) (D : va_G) (B : Nat) (H0 : Heap) (w : jW) (x : Nat) (V : Nat → Value) (a : Int32) (b : Int32) (c : Int32) (hx : w.1 x = some (.inr (8, V))) (h3 : V 3 = .int 0) : jMet l D B H0 y_CS_step b_CS_step 5 (some .int) 3 160 0 0 [.ref x, .int a, .int b, .int c] w (fun v w9 => v = some (.int (-2)) ∧ w = w9) := by
  refine j_met (by decide) (Nat.le_of_ble_eq_true rfl) (fun g C Rm Y E => ?_)
  have hk := jkz w
  show JJ g w 0 [(0, .ref x), (1, .int a), (2, .int b), (3, .int c)] []
  refine j_blk 2 [(0, .ref x), (1, .int a), (2, .int b), (3, .int c)] [.int a, .ref x] C k_c_CS_step_0_2 rfl ?_
  refine j_callV C Rm Y [.int a] [] (c_CS_isProgram l D B H0 w a _ x hx h3) cl_CS_94 (by rfl) (by rfl) hx d_c_CS_step_2 rfl rfl (Nat.le_of_ble_eq_true rfl) ⟨by decide, by decide⟩ ⟨jroom hk.1 rfl, jroom hk.2 rfl⟩ (fun v1 w_1 pw_1 => ?_)
  obtain ⟨rfl, rfl⟩ := pw_1
  show JJ g w 5 [(0, .ref x), (1, .int a), (2, .int b), (3, .int c)] [.int 0]
  refine j_if_eq (tgt := 17) C d_c_CS_step_5 (by decide) (fun c2 => ?_) (fun c2 => absurd (by decide) c2)
  refine j_blk 19 [(0, .ref x), (1, .int a), (2, .int b), (3, .int c)] [.int (-2)] C k_c_CS_step_17_1 rfl ?_
  exact j_iret C Rm E d_c_CS_step_19 ⟨rfl, rfl⟩ (jbnd hk.1 rfl) (jbnd hk.2 rfl)

theorem k_c_CS_taken_0_2 : sblk b_CS_taken [(0, .aload_n 0, .null), (1, .iload_n 1, .null)] := sblk_of (by decide +kernel)
theorem d_c_CS_taken_2 : decode b_CS_taken 2 = .ok (.invokevirtual 94, 3) := by decide +kernel
theorem d_c_CS_taken_5 : decode b_CS_taken 5 = .ok (.ifCond .eq 12, 3) := by decide +kernel
theorem k_c_CS_taken_17_1 : sblk b_CS_taken [(17, .bipush (-2), .int (-2))] := sblk_of (by decide +kernel)
theorem d_c_CS_taken_19 : decode b_CS_taken 19 = .ok (.ireturn, 1) := by decide +kernel
set_option maxHeartbeats 40000000 in
set_option maxRecDepth 100000 in
theorem c_CS_taken (l : Launch) (D : va_G) (B : Nat) (H0 : Heap) (w : jW) (x : Nat) (V : Nat → Value) (a : Int32) (b : Int32) (c : Int32) (hx : w.1 x = some (.inr (8, V))) (h3 : V 3 = .int 0) : jMet l D B H0 y_CS_taken b_CS_taken 5 (some .int) 3 160 0 0 [.ref x, .int a, .int b, .int c] w (fun v w9 => v = some (.int (-2)) ∧ w = w9) := by
  refine j_met (by decide) (Nat.le_of_ble_eq_true rfl) (fun g C Rm Y E => ?_)
  have hk := jkz w
  show JJ g w 0 [(0, .ref x), (1, .int a), (2, .int b), (3, .int c)] []
  refine j_blk 2 [(0, .ref x), (1, .int a), (2, .int b), (3, .int c)] [.int a, .ref x] C k_c_CS_taken_0_2 rfl ?_
  refine j_callV C Rm Y [.int a] [] (c_CS_isProgram l D B H0 w a _ x hx h3) cl_CS_94 (by rfl) (by rfl) hx d_c_CS_taken_2 rfl rfl (Nat.le_of_ble_eq_true rfl) ⟨by decide, by decide⟩ ⟨jroom hk.1 rfl, jroom hk.2 rfl⟩ (fun v1 w_1 pw_1 => ?_)
  obtain ⟨rfl, rfl⟩ := pw_1
  show JJ g w 5 [(0, .ref x), (1, .int a), (2, .int b), (3, .int c)] [.int 0]
  refine j_if_eq (tgt := 17) C d_c_CS_taken_5 (by decide) (fun c2 => ?_) (fun c2 => absurd (by decide) c2)
  refine j_blk 19 [(0, .ref x), (1, .int a), (2, .int b), (3, .int c)] [.int (-2)] C k_c_CS_taken_17_1 rfl ?_
  exact j_iret C Rm E d_c_CS_taken_19 ⟨rfl, rfl⟩ (jbnd hk.1 rfl) (jbnd hk.2 rfl)

theorem k_c_CS_left_0_2 : sblk b_CS_left [(0, .aload_n 0, .null), (1, .iload_n 1, .null)] := sblk_of (by decide +kernel)
theorem d_c_CS_left_2 : decode b_CS_left 2 = .ok (.invokevirtual 94, 3) := by decide +kernel
theorem d_c_CS_left_5 : decode b_CS_left 5 = .ok (.ifCond .eq 10, 3) := by decide +kernel
theorem d_c_CS_left_15 : decode b_CS_left 15 = .ok (.ldc2_w 143, 3) := by decide +kernel
theorem d_c_CS_left_18 : decode b_CS_left 18 = .ok (.lreturn, 1) := by decide +kernel
set_option maxHeartbeats 40000000 in
set_option maxRecDepth 100000 in
theorem c_CS_left (l : Launch) (D : va_G) (B : Nat) (H0 : Heap) (w : jW) (x : Nat) (V : Nat → Value) (a : Int32) (b : Int32) (hx : w.1 x = some (.inr (8, V))) (h3 : V 3 = .int 0) : jMet l D B H0 y_CS_left b_CS_left 4 (some .long) 3 160 0 0 [.ref x, .int a, .int b] w (fun v w9 => v = some (.long (-4611686018427387904)) ∧ w = w9) := by
  refine j_met (by decide) (Nat.le_of_ble_eq_true rfl) (fun g C Rm Y E => ?_)
  have hk := jkz w
  show JJ g w 0 [(0, .ref x), (1, .int a), (2, .int b)] []
  refine j_blk 2 [(0, .ref x), (1, .int a), (2, .int b)] [.int a, .ref x] C k_c_CS_left_0_2 rfl ?_
  refine j_callV C Rm Y [.int a] [] (c_CS_isProgram l D B H0 w a _ x hx h3) cl_CS_94 (by rfl) (by rfl) hx d_c_CS_left_2 rfl rfl (Nat.le_of_ble_eq_true rfl) ⟨by decide, by decide⟩ ⟨jroom hk.1 rfl, jroom hk.2 rfl⟩ (fun v1 w_1 pw_1 => ?_)
  obtain ⟨rfl, rfl⟩ := pw_1
  show JJ g w 5 [(0, .ref x), (1, .int a), (2, .int b)] [.int 0]
  refine j_if_eq (tgt := 15) C d_c_CS_left_5 (by decide) (fun c2 => ?_) (fun c2 => absurd (by decide) c2)
  refine j_ldc2 C d_c_CS_left_15 ld_CS_143 ?_
  exact j_lret C Rm E d_c_CS_left_18 ⟨rfl, rfl⟩ (jbnd hk.1 rfl) (jbnd hk.2 rfl)

theorem k_c_CS_odds_0_2 : sblk b_CS_odds [(0, .aload_n 0, .null), (1, .iload_n 1, .null)] := sblk_of (by decide +kernel)
theorem d_c_CS_odds_2 : decode b_CS_odds 2 = .ok (.invokevirtual 94, 3) := by decide +kernel
theorem d_c_CS_odds_5 : decode b_CS_odds 5 = .ok (.ifCond .eq 25, 3) := by decide +kernel
theorem d_c_CS_odds_30 : decode b_CS_odds 30 = .ok (.ldc2_w 143, 3) := by decide +kernel
theorem d_c_CS_odds_33 : decode b_CS_odds 33 = .ok (.lreturn, 1) := by decide +kernel
set_option maxHeartbeats 40000000 in
set_option maxRecDepth 100000 in
theorem c_CS_odds (l : Launch) (D : va_G) (B : Nat) (H0 : Heap) (w : jW) (x : Nat) (V : Nat → Value) (a : Int32) (b : Int32) (c : Int32) (d : Int32) (hx : w.1 x = some (.inr (8, V))) (h3 : V 3 = .int 0) : jMet l D B H0 y_CS_odds b_CS_odds 6 (some .long) 3 160 0 0 [.ref x, .int a, .int b, .int c, .int d] w (fun v w9 => v = some (.long (-4611686018427387904)) ∧ w = w9) := by
  refine j_met (by decide) (Nat.le_of_ble_eq_true rfl) (fun g C Rm Y E => ?_)
  have hk := jkz w
  show JJ g w 0 [(0, .ref x), (1, .int a), (2, .int b), (3, .int c), (4, .int d)] []
  refine j_blk 2 [(0, .ref x), (1, .int a), (2, .int b), (3, .int c), (4, .int d)] [.int a, .ref x] C k_c_CS_odds_0_2 rfl ?_
  refine j_callV C Rm Y [.int a] [] (c_CS_isProgram l D B H0 w a _ x hx h3) cl_CS_94 (by rfl) (by rfl) hx d_c_CS_odds_2 rfl rfl (Nat.le_of_ble_eq_true rfl) ⟨by decide, by decide⟩ ⟨jroom hk.1 rfl, jroom hk.2 rfl⟩ (fun v1 w_1 pw_1 => ?_)
  obtain ⟨rfl, rfl⟩ := pw_1
  show JJ g w 5 [(0, .ref x), (1, .int a), (2, .int b), (3, .int c), (4, .int d)] [.int 0]
  refine j_if_eq (tgt := 30) C d_c_CS_odds_5 (by decide) (fun c2 => ?_) (fun c2 => absurd (by decide) c2)
  refine j_ldc2 C d_c_CS_odds_30 ld_CS_143 ?_
  exact j_lret C Rm E d_c_CS_odds_33 ⟨rfl, rfl⟩ (jbnd hk.1 rfl) (jbnd hk.2 rfl)

theorem k_c_CS_state_0_2 : sblk b_CS_state [(0, .aload_n 0, .null), (1, .iload_n 1, .null)] := sblk_of (by decide +kernel)
theorem d_c_CS_state_2 : decode b_CS_state 2 = .ok (.invokevirtual 94, 3) := by decide +kernel
theorem d_c_CS_state_5 : decode b_CS_state 5 = .ok (.ifCond .eq 20, 3) := by decide +kernel
theorem d_c_CS_state_25 : decode b_CS_state 25 = .ok (.ldc2_w 143, 3) := by decide +kernel
theorem d_c_CS_state_28 : decode b_CS_state 28 = .ok (.lreturn, 1) := by decide +kernel
set_option maxHeartbeats 40000000 in
set_option maxRecDepth 100000 in
theorem c_CS_state (l : Launch) (D : va_G) (B : Nat) (H0 : Heap) (w : jW) (x : Nat) (V : Nat → Value) (a : Int32) (b : Int32) (c : Int32) (hx : w.1 x = some (.inr (8, V))) (h3 : V 3 = .int 0) : jMet l D B H0 y_CS_state b_CS_state 5 (some .long) 3 160 0 0 [.ref x, .int a, .int b, .int c] w (fun v w9 => v = some (.long (-4611686018427387904)) ∧ w = w9) := by
  refine j_met (by decide) (Nat.le_of_ble_eq_true rfl) (fun g C Rm Y E => ?_)
  have hk := jkz w
  show JJ g w 0 [(0, .ref x), (1, .int a), (2, .int b), (3, .int c)] []
  refine j_blk 2 [(0, .ref x), (1, .int a), (2, .int b), (3, .int c)] [.int a, .ref x] C k_c_CS_state_0_2 rfl ?_
  refine j_callV C Rm Y [.int a] [] (c_CS_isProgram l D B H0 w a _ x hx h3) cl_CS_94 (by rfl) (by rfl) hx d_c_CS_state_2 rfl rfl (Nat.le_of_ble_eq_true rfl) ⟨by decide, by decide⟩ ⟨jroom hk.1 rfl, jroom hk.2 rfl⟩ (fun v1 w_1 pw_1 => ?_)
  obtain ⟨rfl, rfl⟩ := pw_1
  show JJ g w 5 [(0, .ref x), (1, .int a), (2, .int b), (3, .int c)] [.int 0]
  refine j_if_eq (tgt := 25) C d_c_CS_state_5 (by decide) (fun c2 => ?_) (fun c2 => absurd (by decide) c2)
  refine j_ldc2 C d_c_CS_state_25 ld_CS_143 ?_
  exact j_lret C Rm E d_c_CS_state_28 ⟨rfl, rfl⟩ (jbnd hk.1 rfl) (jbnd hk.2 rfl)

theorem k_c_CS_fold_0_2 : sblk b_CS_fold [(0, .aload_n 0, .null), (1, .iload_n 1, .null)] := sblk_of (by decide +kernel)
theorem d_c_CS_fold_2 : decode b_CS_fold 2 = .ok (.invokevirtual 94, 3) := by decide +kernel
theorem d_c_CS_fold_5 : decode b_CS_fold 5 = .ok (.ifCond .eq 27, 3) := by decide +kernel
theorem d_c_CS_fold_32 : decode b_CS_fold 32 = .ok (.ldc2_w 143, 3) := by decide +kernel
theorem d_c_CS_fold_35 : decode b_CS_fold 35 = .ok (.lreturn, 1) := by decide +kernel
set_option maxHeartbeats 40000000 in
set_option maxRecDepth 100000 in
theorem c_CS_fold (l : Launch) (D : va_G) (B : Nat) (H0 : Heap) (w : jW) (x : Nat) (V : Nat → Value) (a : Int32) (b : Int32) (c : Int32) (d : Int32) (hx : w.1 x = some (.inr (8, V))) (h3 : V 3 = .int 0) : jMet l D B H0 y_CS_fold b_CS_fold 9 (some .long) 3 160 0 0 [.ref x, .int a, .int b, .int c, .int d] w (fun v w9 => v = some (.long (-4611686018427387904)) ∧ w = w9) := by
  refine j_met (by decide) (Nat.le_of_ble_eq_true rfl) (fun g C Rm Y E => ?_)
  have hk := jkz w
  show JJ g w 0 [(0, .ref x), (1, .int a), (2, .int b), (3, .int c), (4, .int d)] []
  refine j_blk 2 [(0, .ref x), (1, .int a), (2, .int b), (3, .int c), (4, .int d)] [.int a, .ref x] C k_c_CS_fold_0_2 rfl ?_
  refine j_callV C Rm Y [.int a] [] (c_CS_isProgram l D B H0 w a _ x hx h3) cl_CS_94 (by rfl) (by rfl) hx d_c_CS_fold_2 rfl rfl (Nat.le_of_ble_eq_true rfl) ⟨by decide, by decide⟩ ⟨jroom hk.1 rfl, jroom hk.2 rfl⟩ (fun v1 w_1 pw_1 => ?_)
  obtain ⟨rfl, rfl⟩ := pw_1
  show JJ g w 5 [(0, .ref x), (1, .int a), (2, .int b), (3, .int c), (4, .int d)] [.int 0]
  refine j_if_eq (tgt := 32) C d_c_CS_fold_5 (by decide) (fun c2 => ?_) (fun c2 => absurd (by decide) c2)
  refine j_ldc2 C d_c_CS_fold_32 ld_CS_143 ?_
  exact j_lret C Rm E d_c_CS_fold_35 ⟨rfl, rfl⟩ (jbnd hk.1 rfl) (jbnd hk.2 rfl)

theorem k_c_CS_likeliest_0_2 : sblk b_CS_likeliest [(0, .aload_n 0, .null), (1, .iload_n 1, .null)] := sblk_of (by decide +kernel)
theorem d_c_CS_likeliest_2 : decode b_CS_likeliest 2 = .ok (.invokevirtual 94, 3) := by decide +kernel
theorem d_c_CS_likeliest_5 : decode b_CS_likeliest 5 = .ok (.ifCond .eq 13, 3) := by decide +kernel
theorem k_c_CS_likeliest_18_1 : sblk b_CS_likeliest [(18, .bipush (-2), .int (-2))] := sblk_of (by decide +kernel)
theorem d_c_CS_likeliest_20 : decode b_CS_likeliest 20 = .ok (.ireturn, 1) := by decide +kernel
set_option maxHeartbeats 40000000 in
set_option maxRecDepth 100000 in
theorem c_CS_likeliest (l : Launch) (D : va_G) (B : Nat) (H0 : Heap) (w : jW) (x : Nat) (V : Nat → Value) (a : Int32) (b : Int32) (hx : w.1 x = some (.inr (8, V))) (h3 : V 3 = .int 0) : jMet l D B H0 y_CS_likeliest b_CS_likeliest 6 (some .int) 3 160 0 0 [.ref x, .int a, .int b] w (fun v w9 => v = some (.int (-2)) ∧ w = w9) := by
  refine j_met (by decide) (Nat.le_of_ble_eq_true rfl) (fun g C Rm Y E => ?_)
  have hk := jkz w
  show JJ g w 0 [(0, .ref x), (1, .int a), (2, .int b)] []
  refine j_blk 2 [(0, .ref x), (1, .int a), (2, .int b)] [.int a, .ref x] C k_c_CS_likeliest_0_2 rfl ?_
  refine j_callV C Rm Y [.int a] [] (c_CS_isProgram l D B H0 w a _ x hx h3) cl_CS_94 (by rfl) (by rfl) hx d_c_CS_likeliest_2 rfl rfl (Nat.le_of_ble_eq_true rfl) ⟨by decide, by decide⟩ ⟨jroom hk.1 rfl, jroom hk.2 rfl⟩ (fun v1 w_1 pw_1 => ?_)
  obtain ⟨rfl, rfl⟩ := pw_1
  show JJ g w 5 [(0, .ref x), (1, .int a), (2, .int b)] [.int 0]
  refine j_if_eq (tgt := 18) C d_c_CS_likeliest_5 (by decide) (fun c2 => ?_) (fun c2 => absurd (by decide) c2)
  refine j_blk 20 [(0, .ref x), (1, .int a), (2, .int b)] [.int (-2)] C k_c_CS_likeliest_18_1 rfl ?_
  exact j_iret C Rm E d_c_CS_likeliest_20 ⟨rfl, rfl⟩ (jbnd hk.1 rfl) (jbnd hk.2 rfl)

theorem k_c_CS_apart_0_2 : sblk b_CS_apart [(0, .aload_n 0, .null), (1, .iload_n 1, .null)] := sblk_of (by decide +kernel)
theorem d_c_CS_apart_2 : decode b_CS_apart 2 = .ok (.invokevirtual 94, 3) := by decide +kernel
theorem d_c_CS_apart_5 : decode b_CS_apart 5 = .ok (.ifCond .eq 17, 3) := by decide +kernel
theorem k_c_CS_apart_22_1 : sblk b_CS_apart [(22, .bipush (-2), .int (-2))] := sblk_of (by decide +kernel)
theorem d_c_CS_apart_24 : decode b_CS_apart 24 = .ok (.ireturn, 1) := by decide +kernel
set_option maxHeartbeats 40000000 in
set_option maxRecDepth 100000 in
theorem c_CS_apart (l : Launch) (D : va_G) (B : Nat) (H0 : Heap) (w : jW) (x : Nat) (V : Nat → Value) (a : Int32) (b : Int32) (c : Int32) (hx : w.1 x = some (.inr (8, V))) (h3 : V 3 = .int 0) : jMet l D B H0 y_CS_apart b_CS_apart 11 (some .int) 3 160 0 0 [.ref x, .int a, .int b, .int c] w (fun v w9 => v = some (.int (-2)) ∧ w = w9) := by
  refine j_met (by decide) (Nat.le_of_ble_eq_true rfl) (fun g C Rm Y E => ?_)
  have hk := jkz w
  show JJ g w 0 [(0, .ref x), (1, .int a), (2, .int b), (3, .int c)] []
  refine j_blk 2 [(0, .ref x), (1, .int a), (2, .int b), (3, .int c)] [.int a, .ref x] C k_c_CS_apart_0_2 rfl ?_
  refine j_callV C Rm Y [.int a] [] (c_CS_isProgram l D B H0 w a _ x hx h3) cl_CS_94 (by rfl) (by rfl) hx d_c_CS_apart_2 rfl rfl (Nat.le_of_ble_eq_true rfl) ⟨by decide, by decide⟩ ⟨jroom hk.1 rfl, jroom hk.2 rfl⟩ (fun v1 w_1 pw_1 => ?_)
  obtain ⟨rfl, rfl⟩ := pw_1
  show JJ g w 5 [(0, .ref x), (1, .int a), (2, .int b), (3, .int c)] [.int 0]
  refine j_if_eq (tgt := 22) C d_c_CS_apart_5 (by decide) (fun c2 => ?_) (fun c2 => absurd (by decide) c2)
  refine j_blk 24 [(0, .ref x), (1, .int a), (2, .int b), (3, .int c)] [.int (-2)] C k_c_CS_apart_22_1 rfl ?_
  exact j_iret C Rm E d_c_CS_apart_24 ⟨rfl, rfl⟩ (jbnd hk.1 rfl) (jbnd hk.2 rfl)

theorem k_c_CS_needed_0_2 : sblk b_CS_needed [(0, .aload_n 0, .null), (1, .iload_n 1, .null)] := sblk_of (by decide +kernel)
theorem d_c_CS_needed_2 : decode b_CS_needed 2 = .ok (.invokevirtual 94, 3) := by decide +kernel
theorem d_c_CS_needed_5 : decode b_CS_needed 5 = .ok (.ifCond .eq 10, 3) := by decide +kernel
theorem k_c_CS_needed_15_1 : sblk b_CS_needed [(15, .bipush (-2), .int (-2))] := sblk_of (by decide +kernel)
theorem d_c_CS_needed_17 : decode b_CS_needed 17 = .ok (.ireturn, 1) := by decide +kernel
set_option maxHeartbeats 40000000 in
set_option maxRecDepth 100000 in
theorem c_CS_needed (l : Launch) (D : va_G) (B : Nat) (H0 : Heap) (w : jW) (x : Nat) (V : Nat → Value) (a : Int32) (b : Int32) (hx : w.1 x = some (.inr (8, V))) (h3 : V 3 = .int 0) : jMet l D B H0 y_CS_needed b_CS_needed 4 (some .int) 3 160 0 0 [.ref x, .int a, .int b] w (fun v w9 => v = some (.int (-2)) ∧ w = w9) := by
  refine j_met (by decide) (Nat.le_of_ble_eq_true rfl) (fun g C Rm Y E => ?_)
  have hk := jkz w
  show JJ g w 0 [(0, .ref x), (1, .int a), (2, .int b)] []
  refine j_blk 2 [(0, .ref x), (1, .int a), (2, .int b)] [.int a, .ref x] C k_c_CS_needed_0_2 rfl ?_
  refine j_callV C Rm Y [.int a] [] (c_CS_isProgram l D B H0 w a _ x hx h3) cl_CS_94 (by rfl) (by rfl) hx d_c_CS_needed_2 rfl rfl (Nat.le_of_ble_eq_true rfl) ⟨by decide, by decide⟩ ⟨jroom hk.1 rfl, jroom hk.2 rfl⟩ (fun v1 w_1 pw_1 => ?_)
  obtain ⟨rfl, rfl⟩ := pw_1
  show JJ g w 5 [(0, .ref x), (1, .int a), (2, .int b)] [.int 0]
  refine j_if_eq (tgt := 15) C d_c_CS_needed_5 (by decide) (fun c2 => ?_) (fun c2 => absurd (by decide) c2)
  refine j_blk 17 [(0, .ref x), (1, .int a), (2, .int b)] [.int (-2)] C k_c_CS_needed_15_1 rfl ?_
  exact j_iret C Rm E d_c_CS_needed_17 ⟨rfl, rfl⟩ (jbnd hk.1 rfl) (jbnd hk.2 rfl)

theorem k_c_CS_peak_0_2 : sblk b_CS_peak [(0, .aload_n 0, .null), (1, .iload_n 1, .null)] := sblk_of (by decide +kernel)
theorem d_c_CS_peak_2 : decode b_CS_peak 2 = .ok (.invokevirtual 94, 3) := by decide +kernel
theorem d_c_CS_peak_5 : decode b_CS_peak 5 = .ok (.ifCond .eq 15, 3) := by decide +kernel
theorem k_c_CS_peak_20_1 : sblk b_CS_peak [(20, .bipush (-2), .int (-2))] := sblk_of (by decide +kernel)
theorem d_c_CS_peak_22 : decode b_CS_peak 22 = .ok (.ireturn, 1) := by decide +kernel
set_option maxHeartbeats 40000000 in
set_option maxRecDepth 100000 in
theorem c_CS_peak (l : Launch) (D : va_G) (B : Nat) (H0 : Heap) (w : jW) (x : Nat) (V : Nat → Value) (a : Int32) (b : Int32) (hx : w.1 x = some (.inr (8, V))) (h3 : V 3 = .int 0) : jMet l D B H0 y_CS_peak b_CS_peak 3 (some .int) 3 160 0 0 [.ref x, .int a, .int b] w (fun v w9 => v = some (.int (-2)) ∧ w = w9) := by
  refine j_met (by decide) (Nat.le_of_ble_eq_true rfl) (fun g C Rm Y E => ?_)
  have hk := jkz w
  show JJ g w 0 [(0, .ref x), (1, .int a), (2, .int b)] []
  refine j_blk 2 [(0, .ref x), (1, .int a), (2, .int b)] [.int a, .ref x] C k_c_CS_peak_0_2 rfl ?_
  refine j_callV C Rm Y [.int a] [] (c_CS_isProgram l D B H0 w a _ x hx h3) cl_CS_94 (by rfl) (by rfl) hx d_c_CS_peak_2 rfl rfl (Nat.le_of_ble_eq_true rfl) ⟨by decide, by decide⟩ ⟨jroom hk.1 rfl, jroom hk.2 rfl⟩ (fun v1 w_1 pw_1 => ?_)
  obtain ⟨rfl, rfl⟩ := pw_1
  show JJ g w 5 [(0, .ref x), (1, .int a), (2, .int b)] [.int 0]
  refine j_if_eq (tgt := 20) C d_c_CS_peak_5 (by decide) (fun c2 => ?_) (fun c2 => absurd (by decide) c2)
  refine j_blk 22 [(0, .ref x), (1, .int a), (2, .int b)] [.int (-2)] C k_c_CS_peak_20_1 rfl ?_
  exact j_iret C Rm E d_c_CS_peak_22 ⟨rfl, rfl⟩ (jbnd hk.1 rfl) (jbnd hk.2 rfl)

theorem k_c_CS_alike_0_2 : sblk b_CS_alike [(0, .aload_n 0, .null), (1, .iload_n 1, .null)] := sblk_of (by decide +kernel)
theorem d_c_CS_alike_2 : decode b_CS_alike 2 = .ok (.invokevirtual 94, 3) := by decide +kernel
theorem d_c_CS_alike_5 : decode b_CS_alike 5 = .ok (.ifCond .eq 11, 3) := by decide +kernel
theorem k_c_CS_alike_16_1 : sblk b_CS_alike [(16, .bipush (-2), .int (-2))] := sblk_of (by decide +kernel)
theorem d_c_CS_alike_18 : decode b_CS_alike 18 = .ok (.ireturn, 1) := by decide +kernel
set_option maxHeartbeats 40000000 in
set_option maxRecDepth 100000 in
theorem c_CS_alike (l : Launch) (D : va_G) (B : Nat) (H0 : Heap) (w : jW) (x : Nat) (V : Nat → Value) (a : Int32) (b : Int32) (hx : w.1 x = some (.inr (8, V))) (h3 : V 3 = .int 0) : jMet l D B H0 y_CS_alike b_CS_alike 7 (some .int) 3 160 0 0 [.ref x, .int a, .int b] w (fun v w9 => v = some (.int (-2)) ∧ w = w9) := by
  refine j_met (by decide) (Nat.le_of_ble_eq_true rfl) (fun g C Rm Y E => ?_)
  have hk := jkz w
  show JJ g w 0 [(0, .ref x), (1, .int a), (2, .int b)] []
  refine j_blk 2 [(0, .ref x), (1, .int a), (2, .int b)] [.int a, .ref x] C k_c_CS_alike_0_2 rfl ?_
  refine j_callV C Rm Y [.int a] [] (c_CS_isProgram l D B H0 w a _ x hx h3) cl_CS_94 (by rfl) (by rfl) hx d_c_CS_alike_2 rfl rfl (Nat.le_of_ble_eq_true rfl) ⟨by decide, by decide⟩ ⟨jroom hk.1 rfl, jroom hk.2 rfl⟩ (fun v1 w_1 pw_1 => ?_)
  obtain ⟨rfl, rfl⟩ := pw_1
  show JJ g w 5 [(0, .ref x), (1, .int a), (2, .int b)] [.int 0]
  refine j_if_eq (tgt := 16) C d_c_CS_alike_5 (by decide) (fun c2 => ?_) (fun c2 => absurd (by decide) c2)
  refine j_blk 18 [(0, .ref x), (1, .int a), (2, .int b)] [.int (-2)] C k_c_CS_alike_16_1 rfl ?_
  exact j_iret C Rm E d_c_CS_alike_18 ⟨rfl, rfl⟩ (jbnd hk.1 rfl) (jbnd hk.2 rfl)

theorem k_c_CS_comes_0_2 : sblk b_CS_comes [(0, .aload_n 0, .null), (1, .iload_n 1, .null)] := sblk_of (by decide +kernel)
theorem d_c_CS_comes_2 : decode b_CS_comes 2 = .ok (.invokevirtual 94, 3) := by decide +kernel
theorem d_c_CS_comes_5 : decode b_CS_comes 5 = .ok (.ifCond .ne 6, 3) := by decide +kernel
theorem k_c_CS_comes_8_1 : sblk b_CS_comes [(8, .bipush (-2), .int (-2))] := sblk_of (by decide +kernel)
theorem d_c_CS_comes_10 : decode b_CS_comes 10 = .ok (.ireturn, 1) := by decide +kernel
set_option maxHeartbeats 40000000 in
set_option maxRecDepth 100000 in
theorem c_CS_comes (l : Launch) (D : va_G) (B : Nat) (H0 : Heap) (w : jW) (x : Nat) (V : Nat → Value) (a : Int32) (b : Int32) (hx : w.1 x = some (.inr (8, V))) (h3 : V 3 = .int 0) : jMet l D B H0 y_CS_comes b_CS_comes 4 (some .int) 3 160 0 0 [.ref x, .int a, .int b] w (fun v w9 => v = some (.int (-2)) ∧ w = w9) := by
  refine j_met (by decide) (Nat.le_of_ble_eq_true rfl) (fun g C Rm Y E => ?_)
  have hk := jkz w
  show JJ g w 0 [(0, .ref x), (1, .int a), (2, .int b)] []
  refine j_blk 2 [(0, .ref x), (1, .int a), (2, .int b)] [.int a, .ref x] C k_c_CS_comes_0_2 rfl ?_
  refine j_callV C Rm Y [.int a] [] (c_CS_isProgram l D B H0 w a _ x hx h3) cl_CS_94 (by rfl) (by rfl) hx d_c_CS_comes_2 rfl rfl (Nat.le_of_ble_eq_true rfl) ⟨by decide, by decide⟩ ⟨jroom hk.1 rfl, jroom hk.2 rfl⟩ (fun v1 w_1 pw_1 => ?_)
  obtain ⟨rfl, rfl⟩ := pw_1
  show JJ g w 5 [(0, .ref x), (1, .int a), (2, .int b)] [.int 0]
  refine j_if_ne (tgt := 11) C d_c_CS_comes_5 (by decide) (fun c2 => absurd (by decide) c2) (fun c2 => ?_)
  refine j_blk 10 [(0, .ref x), (1, .int a), (2, .int b)] [.int (-2)] C k_c_CS_comes_8_1 rfl ?_
  exact j_iret C Rm E d_c_CS_comes_10 ⟨rfl, rfl⟩ (jbnd hk.1 rfl) (jbnd hk.2 rfl)

theorem k_c_CS_often_0_2 : sblk b_CS_often [(0, .aload_n 0, .null), (1, .iload_n 1, .null)] := sblk_of (by decide +kernel)
theorem d_c_CS_often_2 : decode b_CS_often 2 = .ok (.invokevirtual 94, 3) := by decide +kernel
theorem d_c_CS_often_5 : decode b_CS_often 5 = .ok (.ifCond .eq 38, 3) := by decide +kernel
theorem k_c_CS_often_43_1 : sblk b_CS_often [(43, .bipush (-2), .int (-2))] := sblk_of (by decide +kernel)
theorem d_c_CS_often_45 : decode b_CS_often 45 = .ok (.ireturn, 1) := by decide +kernel
set_option maxHeartbeats 40000000 in
set_option maxRecDepth 100000 in
theorem c_CS_often (l : Launch) (D : va_G) (B : Nat) (H0 : Heap) (w : jW) (x : Nat) (V : Nat → Value) (a : Int32) (b : Int32) (c : Int32) (d : Int32) (e : Int32) (f : Int32) (hx : w.1 x = some (.inr (8, V))) (h3 : V 3 = .int 0) : jMet l D B H0 y_CS_often b_CS_often 11 (some .int) 3 160 0 0 [.ref x, .int a, .int b, .int c, .int d, .int e, .int f] w (fun v w9 => v = some (.int (-2)) ∧ w = w9) := by
  refine j_met (by decide) (Nat.le_of_ble_eq_true rfl) (fun g C Rm Y E => ?_)
  have hk := jkz w
  show JJ g w 0 [(0, .ref x), (1, .int a), (2, .int b), (3, .int c), (4, .int d), (5, .int e), (6, .int f)] []
  refine j_blk 2 [(0, .ref x), (1, .int a), (2, .int b), (3, .int c), (4, .int d), (5, .int e), (6, .int f)] [.int a, .ref x] C k_c_CS_often_0_2 rfl ?_
  refine j_callV C Rm Y [.int a] [] (c_CS_isProgram l D B H0 w a _ x hx h3) cl_CS_94 (by rfl) (by rfl) hx d_c_CS_often_2 rfl rfl (Nat.le_of_ble_eq_true rfl) ⟨by decide, by decide⟩ ⟨jroom hk.1 rfl, jroom hk.2 rfl⟩ (fun v1 w_1 pw_1 => ?_)
  obtain ⟨rfl, rfl⟩ := pw_1
  show JJ g w 5 [(0, .ref x), (1, .int a), (2, .int b), (3, .int c), (4, .int d), (5, .int e), (6, .int f)] [.int 0]
  refine j_if_eq (tgt := 43) C d_c_CS_often_5 (by decide) (fun c2 => ?_) (fun c2 => absurd (by decide) c2)
  refine j_blk 45 [(0, .ref x), (1, .int a), (2, .int b), (3, .int c), (4, .int d), (5, .int e), (6, .int f)] [.int (-2)] C k_c_CS_often_43_1 rfl ?_
  exact j_iret C Rm E d_c_CS_often_45 ⟨rfl, rfl⟩ (jbnd hk.1 rfl) (jbnd hk.2 rfl)

theorem k_c_CS_tells_0_1 : sblk b_CS_tells [(0, .iload_n 1, .null)] := sblk_of (by decide +kernel)
theorem d_c_CS_tells_1 : decode b_CS_tells 1 = .ok (.invokestatic 200, 3) := by decide +kernel
theorem d_c_CS_tells_4 : decode b_CS_tells 4 = .ok (.ifCond .eq 29, 3) := by decide +kernel
theorem k_c_CS_tells_33_1 : sblk b_CS_tells [(33, .bipush (-2), .int (-2))] := sblk_of (by decide +kernel)
theorem d_c_CS_tells_35 : decode b_CS_tells 35 = .ok (.ireturn, 1) := by decide +kernel
theorem k_c_CS_tells_7_2 : sblk b_CS_tells [(7, .aload_n 0, .null), (8, .iload_n 2, .null)] := sblk_of (by decide +kernel)
theorem d_c_CS_tells_9 : decode b_CS_tells 9 = .ok (.invokevirtual 94, 3) := by decide +kernel
theorem d_c_CS_tells_12 : decode b_CS_tells 12 = .ok (.ifCond .eq 21, 3) := by decide +kernel
set_option maxHeartbeats 40000000 in
set_option maxRecDepth 100000 in
theorem c_CS_tells (l : Launch) (D : va_G) (B : Nat) (H0 : Heap) (w : jW) (x : Nat) (V : Nat → Value) (a : Int32) (b : Int32) (c : Int32) (d : Int32) (hx : w.1 x = some (.inr (8, V))) (h3 : V 3 = .int 0) : jMet l D B H0 y_CS_tells b_CS_tells 7 (some .int) 3 160 0 0 [.ref x, .int a, .int b, .int c, .int d] w (fun v w9 => v = some (.int (-2)) ∧ w = w9) := by
  refine j_met (by decide) (Nat.le_of_ble_eq_true rfl) (fun g C Rm Y E => ?_)
  have hk := jkz w
  show JJ g w 0 [(0, .ref x), (1, .int a), (2, .int b), (3, .int c), (4, .int d)] []
  refine j_blk 1 [(0, .ref x), (1, .int a), (2, .int b), (3, .int c), (4, .int d)] [.int a] C k_c_CS_tells_0_1 rfl ?_
  refine j_callS (As := [.int a]) C Rm Y [] (c_CS_isSheet l D B H0 w a) cl_CS_200 d_c_CS_tells_1 rfl rfl (Nat.le_of_ble_eq_true rfl) ⟨by decide, by decide⟩ ⟨jroom hk.1 rfl, jroom hk.2 rfl⟩ (fun v1 w_1 pw_1 => ?_)
  obtain ⟨rfl, rfl⟩ := pw_1
  show JJ g w 4 [(0, .ref x), (1, .int a), (2, .int b), (3, .int c), (4, .int d)] [.int (if 0 ≤ a.toInt ∧ a.toInt < 4 then 1 else 0)]
  refine j_if_eq (tgt := 33) C d_c_CS_tells_4 (by decide) (fun c2 => ?_) (fun c2 => ?_)
  · have c2 := jbz.mp c2
    refine j_blk 35 [(0, .ref x), (1, .int a), (2, .int b), (3, .int c), (4, .int d)] [.int (-2)] C k_c_CS_tells_33_1 rfl ?_
    exact j_iret C Rm E d_c_CS_tells_35 ⟨rfl, rfl⟩ (jbnd hk.1 rfl) (jbnd hk.2 rfl)
  · have c2 := jbo.mp c2
    refine j_blk 9 [(0, .ref x), (1, .int a), (2, .int b), (3, .int c), (4, .int d)] [.int b, .ref x] C k_c_CS_tells_7_2 rfl ?_
    refine j_callV C Rm Y [.int b] [] (c_CS_isProgram l D B H0 w b _ x hx h3) cl_CS_94 (by rfl) (by rfl) hx d_c_CS_tells_9 rfl rfl (Nat.le_of_ble_eq_true rfl) ⟨by decide, by decide⟩ ⟨jroom hk.1 rfl, jroom hk.2 rfl⟩ (fun v3 w_2 pw_2 => ?_)
    obtain ⟨rfl, rfl⟩ := pw_2
    show JJ g w 12 [(0, .ref x), (1, .int a), (2, .int b), (3, .int c), (4, .int d)] [.int 0]
    refine j_if_eq (tgt := 33) C d_c_CS_tells_12 (by decide) (fun c4 => ?_) (fun c4 => absurd (by decide) c4)
    refine j_blk 35 [(0, .ref x), (1, .int a), (2, .int b), (3, .int c), (4, .int d)] [.int (-2)] C k_c_CS_tells_33_1 rfl ?_
    exact j_iret C Rm E d_c_CS_tells_35 ⟨rfl, rfl⟩ (jbnd hk.1 rfl) (jbnd hk.2 rfl)

theorem k_c_CS_film_0_1 : sblk b_CS_film [(0, .iload_n 1, .null)] := sblk_of (by decide +kernel)
theorem d_c_CS_film_1 : decode b_CS_film 1 = .ok (.invokestatic 200, 3) := by decide +kernel
theorem d_c_CS_film_4 : decode b_CS_film 4 = .ok (.ifCond .eq 18, 3) := by decide +kernel
theorem k_c_CS_film_22_1 : sblk b_CS_film [(22, .bipush (-2), .int (-2))] := sblk_of (by decide +kernel)
theorem d_c_CS_film_24 : decode b_CS_film 24 = .ok (.ireturn, 1) := by decide +kernel
theorem k_c_CS_film_7_2 : sblk b_CS_film [(7, .aload_n 0, .null), (8, .iload_n 2, .null)] := sblk_of (by decide +kernel)
theorem d_c_CS_film_9 : decode b_CS_film 9 = .ok (.invokevirtual 94, 3) := by decide +kernel
theorem d_c_CS_film_12 : decode b_CS_film 12 = .ok (.ifCond .eq 10, 3) := by decide +kernel
set_option maxHeartbeats 40000000 in
set_option maxRecDepth 100000 in
theorem c_CS_film (l : Launch) (D : va_G) (B : Nat) (H0 : Heap) (w : jW) (x : Nat) (V : Nat → Value) (a : Int32) (b : Int32) (c : Int32) (hx : w.1 x = some (.inr (8, V))) (h3 : V 3 = .int 0) : jMet l D B H0 y_CS_film b_CS_film 7 (some .int) 3 160 0 0 [.ref x, .int a, .int b, .int c] w (fun v w9 => v = some (.int (-2)) ∧ w = w9) := by
  refine j_met (by decide) (Nat.le_of_ble_eq_true rfl) (fun g C Rm Y E => ?_)
  have hk := jkz w
  show JJ g w 0 [(0, .ref x), (1, .int a), (2, .int b), (3, .int c)] []
  refine j_blk 1 [(0, .ref x), (1, .int a), (2, .int b), (3, .int c)] [.int a] C k_c_CS_film_0_1 rfl ?_
  refine j_callS (As := [.int a]) C Rm Y [] (c_CS_isSheet l D B H0 w a) cl_CS_200 d_c_CS_film_1 rfl rfl (Nat.le_of_ble_eq_true rfl) ⟨by decide, by decide⟩ ⟨jroom hk.1 rfl, jroom hk.2 rfl⟩ (fun v1 w_1 pw_1 => ?_)
  obtain ⟨rfl, rfl⟩ := pw_1
  show JJ g w 4 [(0, .ref x), (1, .int a), (2, .int b), (3, .int c)] [.int (if 0 ≤ a.toInt ∧ a.toInt < 4 then 1 else 0)]
  refine j_if_eq (tgt := 22) C d_c_CS_film_4 (by decide) (fun c2 => ?_) (fun c2 => ?_)
  · have c2 := jbz.mp c2
    refine j_blk 24 [(0, .ref x), (1, .int a), (2, .int b), (3, .int c)] [.int (-2)] C k_c_CS_film_22_1 rfl ?_
    exact j_iret C Rm E d_c_CS_film_24 ⟨rfl, rfl⟩ (jbnd hk.1 rfl) (jbnd hk.2 rfl)
  · have c2 := jbo.mp c2
    refine j_blk 9 [(0, .ref x), (1, .int a), (2, .int b), (3, .int c)] [.int b, .ref x] C k_c_CS_film_7_2 rfl ?_
    refine j_callV C Rm Y [.int b] [] (c_CS_isProgram l D B H0 w b _ x hx h3) cl_CS_94 (by rfl) (by rfl) hx d_c_CS_film_9 rfl rfl (Nat.le_of_ble_eq_true rfl) ⟨by decide, by decide⟩ ⟨jroom hk.1 rfl, jroom hk.2 rfl⟩ (fun v3 w_2 pw_2 => ?_)
    obtain ⟨rfl, rfl⟩ := pw_2
    show JJ g w 12 [(0, .ref x), (1, .int a), (2, .int b), (3, .int c)] [.int 0]
    refine j_if_eq (tgt := 22) C d_c_CS_film_12 (by decide) (fun c4 => ?_) (fun c4 => absurd (by decide) c4)
    refine j_blk 24 [(0, .ref x), (1, .int a), (2, .int b), (3, .int c)] [.int (-2)] C k_c_CS_film_22_1 rfl ?_
    exact j_iret C Rm E d_c_CS_film_24 ⟨rfl, rfl⟩ (jbnd hk.1 rfl) (jbnd hk.2 rfl)

theorem k_c_Mo_told_0_2 : sblk b_Mo_told [(0, .aload_n 0, .null), (1, .iload_n 1, .null)] := sblk_of (by decide +kernel)
theorem d_c_Mo_told_2 : decode b_Mo_told 2 = .ok (.invokevirtual 364, 3) := by decide +kernel
theorem d_c_Mo_told_5 : decode b_Mo_told 5 = .ok (.ifCond .eq 13, 3) := by decide +kernel
theorem k_c_Mo_told_18_1 : sblk b_Mo_told [(18, .bipush (-2), .int (-2))] := sblk_of (by decide +kernel)
theorem d_c_Mo_told_20 : decode b_Mo_told 20 = .ok (.ireturn, 1) := by decide +kernel
set_option maxHeartbeats 40000000 in
set_option maxRecDepth 100000 in
theorem c_Mo_told (l : Launch) (D : va_G) (B : Nat) (H0 : Heap) (w : jW) (x : Nat) (V : Nat → Value) (a : Int32) (b : Int32) (hx : w.1 x = some (.inr (10, V))) (h0 : V 0 = .int 0) : jMet l D B H0 y_Mo_told b_Mo_told 5 (some .int) 3 160 0 0 [.ref x, .int a, .int b] w (fun v w9 => v = some (.int (-2)) ∧ w = w9) := by
  refine j_met (by decide) (Nat.le_of_ble_eq_true rfl) (fun g C Rm Y E => ?_)
  have hk := jkz w
  show JJ g w 0 [(0, .ref x), (1, .int a), (2, .int b)] []
  refine j_blk 2 [(0, .ref x), (1, .int a), (2, .int b)] [.int a, .ref x] C k_c_Mo_told_0_2 rfl ?_
  refine j_callV C Rm Y [.int a] [] (c_Mo_isProgram l D B H0 w a _ x hx h0) cl_Mo_364 (by rfl) (by rfl) hx d_c_Mo_told_2 rfl rfl (Nat.le_of_ble_eq_true rfl) ⟨by decide, by decide⟩ ⟨jroom hk.1 rfl, jroom hk.2 rfl⟩ (fun v1 w_1 pw_1 => ?_)
  obtain ⟨rfl, rfl⟩ := pw_1
  show JJ g w 5 [(0, .ref x), (1, .int a), (2, .int b)] [.int 0]
  refine j_if_eq (tgt := 18) C d_c_Mo_told_5 (by decide) (fun c2 => ?_) (fun c2 => absurd (by decide) c2)
  refine j_blk 20 [(0, .ref x), (1, .int a), (2, .int b)] [.int (-2)] C k_c_Mo_told_18_1 rfl ?_
  exact j_iret C Rm E d_c_Mo_told_20 ⟨rfl, rfl⟩ (jbnd hk.1 rfl) (jbnd hk.2 rfl)

theorem k_c_Mo_step_1_0_2 : sblk b_Mo_step_1 [(0, .aload_n 0, .null), (1, .iload_n 1, .null)] := sblk_of (by decide +kernel)
theorem d_c_Mo_step_1_2 : decode b_Mo_step_1 2 = .ok (.invokevirtual 364, 3) := by decide +kernel
theorem d_c_Mo_step_1_5 : decode b_Mo_step_1 5 = .ok (.ifCond .eq 12, 3) := by decide +kernel
theorem k_c_Mo_step_1_17_1 : sblk b_Mo_step_1 [(17, .bipush (-2), .int (-2))] := sblk_of (by decide +kernel)
theorem d_c_Mo_step_1_19 : decode b_Mo_step_1 19 = .ok (.ireturn, 1) := by decide +kernel
set_option maxHeartbeats 40000000 in
set_option maxRecDepth 100000 in
theorem c_Mo_step_1 (l : Launch) (D : va_G) (B : Nat) (H0 : Heap) (w : jW) (x : Nat) (V : Nat → Value) (a : Int32) (b : Int32) (c : Int32) (hx : w.1 x = some (.inr (10, V))) (h0 : V 0 = .int 0) : jMet l D B H0 y_Mo_step_1 b_Mo_step_1 4 (some .int) 3 160 0 0 [.ref x, .int a, .int b, .int c] w (fun v w9 => v = some (.int (-2)) ∧ w = w9) := by
  refine j_met (by decide) (Nat.le_of_ble_eq_true rfl) (fun g C Rm Y E => ?_)
  have hk := jkz w
  show JJ g w 0 [(0, .ref x), (1, .int a), (2, .int b), (3, .int c)] []
  refine j_blk 2 [(0, .ref x), (1, .int a), (2, .int b), (3, .int c)] [.int a, .ref x] C k_c_Mo_step_1_0_2 rfl ?_
  refine j_callV C Rm Y [.int a] [] (c_Mo_isProgram l D B H0 w a _ x hx h0) cl_Mo_364 (by rfl) (by rfl) hx d_c_Mo_step_1_2 rfl rfl (Nat.le_of_ble_eq_true rfl) ⟨by decide, by decide⟩ ⟨jroom hk.1 rfl, jroom hk.2 rfl⟩ (fun v1 w_1 pw_1 => ?_)
  obtain ⟨rfl, rfl⟩ := pw_1
  show JJ g w 5 [(0, .ref x), (1, .int a), (2, .int b), (3, .int c)] [.int 0]
  refine j_if_eq (tgt := 17) C d_c_Mo_step_1_5 (by decide) (fun c2 => ?_) (fun c2 => absurd (by decide) c2)
  refine j_blk 19 [(0, .ref x), (1, .int a), (2, .int b), (3, .int c)] [.int (-2)] C k_c_Mo_step_1_17_1 rfl ?_
  exact j_iret C Rm E d_c_Mo_step_1_19 ⟨rfl, rfl⟩ (jbnd hk.1 rfl) (jbnd hk.2 rfl)

theorem k_c_Mo_taken_1_0_2 : sblk b_Mo_taken_1 [(0, .aload_n 0, .null), (1, .iload_n 1, .null)] := sblk_of (by decide +kernel)
theorem d_c_Mo_taken_1_2 : decode b_Mo_taken_1 2 = .ok (.invokevirtual 364, 3) := by decide +kernel
theorem d_c_Mo_taken_1_5 : decode b_Mo_taken_1 5 = .ok (.ifCond .eq 12, 3) := by decide +kernel
theorem k_c_Mo_taken_1_17_1 : sblk b_Mo_taken_1 [(17, .bipush (-2), .int (-2))] := sblk_of (by decide +kernel)
theorem d_c_Mo_taken_1_19 : decode b_Mo_taken_1 19 = .ok (.ireturn, 1) := by decide +kernel
set_option maxHeartbeats 40000000 in
set_option maxRecDepth 100000 in
theorem c_Mo_taken_1 (l : Launch) (D : va_G) (B : Nat) (H0 : Heap) (w : jW) (x : Nat) (V : Nat → Value) (a : Int32) (b : Int32) (c : Int32) (hx : w.1 x = some (.inr (10, V))) (h0 : V 0 = .int 0) : jMet l D B H0 y_Mo_taken_1 b_Mo_taken_1 6 (some .int) 3 160 0 0 [.ref x, .int a, .int b, .int c] w (fun v w9 => v = some (.int (-2)) ∧ w = w9) := by
  refine j_met (by decide) (Nat.le_of_ble_eq_true rfl) (fun g C Rm Y E => ?_)
  have hk := jkz w
  show JJ g w 0 [(0, .ref x), (1, .int a), (2, .int b), (3, .int c)] []
  refine j_blk 2 [(0, .ref x), (1, .int a), (2, .int b), (3, .int c)] [.int a, .ref x] C k_c_Mo_taken_1_0_2 rfl ?_
  refine j_callV C Rm Y [.int a] [] (c_Mo_isProgram l D B H0 w a _ x hx h0) cl_Mo_364 (by rfl) (by rfl) hx d_c_Mo_taken_1_2 rfl rfl (Nat.le_of_ble_eq_true rfl) ⟨by decide, by decide⟩ ⟨jroom hk.1 rfl, jroom hk.2 rfl⟩ (fun v1 w_1 pw_1 => ?_)
  obtain ⟨rfl, rfl⟩ := pw_1
  show JJ g w 5 [(0, .ref x), (1, .int a), (2, .int b), (3, .int c)] [.int 0]
  refine j_if_eq (tgt := 17) C d_c_Mo_taken_1_5 (by decide) (fun c2 => ?_) (fun c2 => absurd (by decide) c2)
  refine j_blk 19 [(0, .ref x), (1, .int a), (2, .int b), (3, .int c)] [.int (-2)] C k_c_Mo_taken_1_17_1 rfl ?_
  exact j_iret C Rm E d_c_Mo_taken_1_19 ⟨rfl, rfl⟩ (jbnd hk.1 rfl) (jbnd hk.2 rfl)

theorem k_c_Mo_left_0_2 : sblk b_Mo_left [(0, .aload_n 0, .null), (1, .iload_n 1, .null)] := sblk_of (by decide +kernel)
theorem d_c_Mo_left_2 : decode b_Mo_left 2 = .ok (.invokevirtual 364, 3) := by decide +kernel
theorem d_c_Mo_left_5 : decode b_Mo_left 5 = .ok (.ifCond .eq 12, 3) := by decide +kernel
theorem d_c_Mo_left_17 : decode b_Mo_left 17 = .ok (.ldc2_w 370, 3) := by decide +kernel
theorem d_c_Mo_left_20 : decode b_Mo_left 20 = .ok (.lreturn, 1) := by decide +kernel
set_option maxHeartbeats 40000000 in
set_option maxRecDepth 100000 in
theorem c_Mo_left (l : Launch) (D : va_G) (B : Nat) (H0 : Heap) (w : jW) (x : Nat) (V : Nat → Value) (a : Int32) (b : Int32) (hx : w.1 x = some (.inr (10, V))) (h0 : V 0 = .int 0) : jMet l D B H0 y_Mo_left b_Mo_left 4 (some .long) 3 160 0 0 [.ref x, .int a, .int b] w (fun v w9 => v = some (.long (-4611686018427387904)) ∧ w = w9) := by
  refine j_met (by decide) (Nat.le_of_ble_eq_true rfl) (fun g C Rm Y E => ?_)
  have hk := jkz w
  show JJ g w 0 [(0, .ref x), (1, .int a), (2, .int b)] []
  refine j_blk 2 [(0, .ref x), (1, .int a), (2, .int b)] [.int a, .ref x] C k_c_Mo_left_0_2 rfl ?_
  refine j_callV C Rm Y [.int a] [] (c_Mo_isProgram l D B H0 w a _ x hx h0) cl_Mo_364 (by rfl) (by rfl) hx d_c_Mo_left_2 rfl rfl (Nat.le_of_ble_eq_true rfl) ⟨by decide, by decide⟩ ⟨jroom hk.1 rfl, jroom hk.2 rfl⟩ (fun v1 w_1 pw_1 => ?_)
  obtain ⟨rfl, rfl⟩ := pw_1
  show JJ g w 5 [(0, .ref x), (1, .int a), (2, .int b)] [.int 0]
  refine j_if_eq (tgt := 17) C d_c_Mo_left_5 (by decide) (fun c2 => ?_) (fun c2 => absurd (by decide) c2)
  refine j_ldc2 C d_c_Mo_left_17 ld_Mo_370 ?_
  exact j_lret C Rm E d_c_Mo_left_20 ⟨rfl, rfl⟩ (jbnd hk.1 rfl) (jbnd hk.2 rfl)

theorem k_c_Mo_odds_1_0_2 : sblk b_Mo_odds_1 [(0, .aload_n 0, .null), (1, .iload_n 1, .null)] := sblk_of (by decide +kernel)
theorem d_c_Mo_odds_1_2 : decode b_Mo_odds_1 2 = .ok (.invokevirtual 364, 3) := by decide +kernel
theorem d_c_Mo_odds_1_5 : decode b_Mo_odds_1 5 = .ok (.ifCond .eq 30, 3) := by decide +kernel
theorem d_c_Mo_odds_1_35 : decode b_Mo_odds_1 35 = .ok (.ldc2_w 370, 3) := by decide +kernel
theorem d_c_Mo_odds_1_38 : decode b_Mo_odds_1 38 = .ok (.lreturn, 1) := by decide +kernel
set_option maxHeartbeats 40000000 in
set_option maxRecDepth 100000 in
theorem c_Mo_odds_1 (l : Launch) (D : va_G) (B : Nat) (H0 : Heap) (w : jW) (x : Nat) (V : Nat → Value) (a : Int32) (b : Int32) (c : Int32) (d : Int32) (hx : w.1 x = some (.inr (10, V))) (h0 : V 0 = .int 0) : jMet l D B H0 y_Mo_odds_1 b_Mo_odds_1 6 (some .long) 3 160 0 0 [.ref x, .int a, .int b, .int c, .int d] w (fun v w9 => v = some (.long (-4611686018427387904)) ∧ w = w9) := by
  refine j_met (by decide) (Nat.le_of_ble_eq_true rfl) (fun g C Rm Y E => ?_)
  have hk := jkz w
  show JJ g w 0 [(0, .ref x), (1, .int a), (2, .int b), (3, .int c), (4, .int d)] []
  refine j_blk 2 [(0, .ref x), (1, .int a), (2, .int b), (3, .int c), (4, .int d)] [.int a, .ref x] C k_c_Mo_odds_1_0_2 rfl ?_
  refine j_callV C Rm Y [.int a] [] (c_Mo_isProgram l D B H0 w a _ x hx h0) cl_Mo_364 (by rfl) (by rfl) hx d_c_Mo_odds_1_2 rfl rfl (Nat.le_of_ble_eq_true rfl) ⟨by decide, by decide⟩ ⟨jroom hk.1 rfl, jroom hk.2 rfl⟩ (fun v1 w_1 pw_1 => ?_)
  obtain ⟨rfl, rfl⟩ := pw_1
  show JJ g w 5 [(0, .ref x), (1, .int a), (2, .int b), (3, .int c), (4, .int d)] [.int 0]
  refine j_if_eq (tgt := 35) C d_c_Mo_odds_1_5 (by decide) (fun c2 => ?_) (fun c2 => absurd (by decide) c2)
  refine j_ldc2 C d_c_Mo_odds_1_35 ld_Mo_370 ?_
  exact j_lret C Rm E d_c_Mo_odds_1_38 ⟨rfl, rfl⟩ (jbnd hk.1 rfl) (jbnd hk.2 rfl)

theorem k_c_Mo_state_0_2 : sblk b_Mo_state [(0, .aload_n 0, .null), (1, .iload_n 1, .null)] := sblk_of (by decide +kernel)
theorem d_c_Mo_state_2 : decode b_Mo_state 2 = .ok (.invokevirtual 364, 3) := by decide +kernel
theorem d_c_Mo_state_5 : decode b_Mo_state 5 = .ok (.ifCond .eq 23, 3) := by decide +kernel
theorem d_c_Mo_state_28 : decode b_Mo_state 28 = .ok (.ldc2_w 370, 3) := by decide +kernel
theorem d_c_Mo_state_31 : decode b_Mo_state 31 = .ok (.lreturn, 1) := by decide +kernel
set_option maxHeartbeats 40000000 in
set_option maxRecDepth 100000 in
theorem c_Mo_state (l : Launch) (D : va_G) (B : Nat) (H0 : Heap) (w : jW) (x : Nat) (V : Nat → Value) (a : Int32) (b : Int32) (c : Int32) (hx : w.1 x = some (.inr (10, V))) (h0 : V 0 = .int 0) : jMet l D B H0 y_Mo_state b_Mo_state 8 (some .long) 3 160 0 0 [.ref x, .int a, .int b, .int c] w (fun v w9 => v = some (.long (-4611686018427387904)) ∧ w = w9) := by
  refine j_met (by decide) (Nat.le_of_ble_eq_true rfl) (fun g C Rm Y E => ?_)
  have hk := jkz w
  show JJ g w 0 [(0, .ref x), (1, .int a), (2, .int b), (3, .int c)] []
  refine j_blk 2 [(0, .ref x), (1, .int a), (2, .int b), (3, .int c)] [.int a, .ref x] C k_c_Mo_state_0_2 rfl ?_
  refine j_callV C Rm Y [.int a] [] (c_Mo_isProgram l D B H0 w a _ x hx h0) cl_Mo_364 (by rfl) (by rfl) hx d_c_Mo_state_2 rfl rfl (Nat.le_of_ble_eq_true rfl) ⟨by decide, by decide⟩ ⟨jroom hk.1 rfl, jroom hk.2 rfl⟩ (fun v1 w_1 pw_1 => ?_)
  obtain ⟨rfl, rfl⟩ := pw_1
  show JJ g w 5 [(0, .ref x), (1, .int a), (2, .int b), (3, .int c)] [.int 0]
  refine j_if_eq (tgt := 28) C d_c_Mo_state_5 (by decide) (fun c2 => ?_) (fun c2 => absurd (by decide) c2)
  refine j_ldc2 C d_c_Mo_state_28 ld_Mo_370 ?_
  exact j_lret C Rm E d_c_Mo_state_31 ⟨rfl, rfl⟩ (jbnd hk.1 rfl) (jbnd hk.2 rfl)

theorem k_c_Mo_fold_1_0_2 : sblk b_Mo_fold_1 [(0, .aload_n 0, .null), (1, .iload_n 1, .null)] := sblk_of (by decide +kernel)
theorem d_c_Mo_fold_1_2 : decode b_Mo_fold_1 2 = .ok (.invokevirtual 364, 3) := by decide +kernel
theorem d_c_Mo_fold_1_5 : decode b_Mo_fold_1 5 = .ok (.ifCond .eq 29, 3) := by decide +kernel
theorem d_c_Mo_fold_1_34 : decode b_Mo_fold_1 34 = .ok (.ldc2_w 370, 3) := by decide +kernel
theorem d_c_Mo_fold_1_37 : decode b_Mo_fold_1 37 = .ok (.lreturn, 1) := by decide +kernel
set_option maxHeartbeats 40000000 in
set_option maxRecDepth 100000 in
theorem c_Mo_fold_1 (l : Launch) (D : va_G) (B : Nat) (H0 : Heap) (w : jW) (x : Nat) (V : Nat → Value) (a : Int32) (b : Int32) (c : Int32) (d : Int32) (hx : w.1 x = some (.inr (10, V))) (h0 : V 0 = .int 0) : jMet l D B H0 y_Mo_fold_1 b_Mo_fold_1 9 (some .long) 3 160 0 0 [.ref x, .int a, .int b, .int c, .int d] w (fun v w9 => v = some (.long (-4611686018427387904)) ∧ w = w9) := by
  refine j_met (by decide) (Nat.le_of_ble_eq_true rfl) (fun g C Rm Y E => ?_)
  have hk := jkz w
  show JJ g w 0 [(0, .ref x), (1, .int a), (2, .int b), (3, .int c), (4, .int d)] []
  refine j_blk 2 [(0, .ref x), (1, .int a), (2, .int b), (3, .int c), (4, .int d)] [.int a, .ref x] C k_c_Mo_fold_1_0_2 rfl ?_
  refine j_callV C Rm Y [.int a] [] (c_Mo_isProgram l D B H0 w a _ x hx h0) cl_Mo_364 (by rfl) (by rfl) hx d_c_Mo_fold_1_2 rfl rfl (Nat.le_of_ble_eq_true rfl) ⟨by decide, by decide⟩ ⟨jroom hk.1 rfl, jroom hk.2 rfl⟩ (fun v1 w_1 pw_1 => ?_)
  obtain ⟨rfl, rfl⟩ := pw_1
  show JJ g w 5 [(0, .ref x), (1, .int a), (2, .int b), (3, .int c), (4, .int d)] [.int 0]
  refine j_if_eq (tgt := 34) C d_c_Mo_fold_1_5 (by decide) (fun c2 => ?_) (fun c2 => absurd (by decide) c2)
  refine j_ldc2 C d_c_Mo_fold_1_34 ld_Mo_370 ?_
  exact j_lret C Rm E d_c_Mo_fold_1_37 ⟨rfl, rfl⟩ (jbnd hk.1 rfl) (jbnd hk.2 rfl)

theorem k_c_Mo_likeliest_0_2 : sblk b_Mo_likeliest [(0, .aload_n 0, .null), (1, .iload_n 1, .null)] := sblk_of (by decide +kernel)
theorem d_c_Mo_likeliest_2 : decode b_Mo_likeliest 2 = .ok (.invokevirtual 364, 3) := by decide +kernel
theorem d_c_Mo_likeliest_5 : decode b_Mo_likeliest 5 = .ok (.ifCond .eq 13, 3) := by decide +kernel
theorem k_c_Mo_likeliest_18_1 : sblk b_Mo_likeliest [(18, .bipush (-2), .int (-2))] := sblk_of (by decide +kernel)
theorem d_c_Mo_likeliest_20 : decode b_Mo_likeliest 20 = .ok (.ireturn, 1) := by decide +kernel
set_option maxHeartbeats 40000000 in
set_option maxRecDepth 100000 in
theorem c_Mo_likeliest (l : Launch) (D : va_G) (B : Nat) (H0 : Heap) (w : jW) (x : Nat) (V : Nat → Value) (a : Int32) (b : Int32) (hx : w.1 x = some (.inr (10, V))) (h0 : V 0 = .int 0) : jMet l D B H0 y_Mo_likeliest b_Mo_likeliest 12 (some .int) 3 160 0 0 [.ref x, .int a, .int b] w (fun v w9 => v = some (.int (-2)) ∧ w = w9) := by
  refine j_met (by decide) (Nat.le_of_ble_eq_true rfl) (fun g C Rm Y E => ?_)
  have hk := jkz w
  show JJ g w 0 [(0, .ref x), (1, .int a), (2, .int b)] []
  refine j_blk 2 [(0, .ref x), (1, .int a), (2, .int b)] [.int a, .ref x] C k_c_Mo_likeliest_0_2 rfl ?_
  refine j_callV C Rm Y [.int a] [] (c_Mo_isProgram l D B H0 w a _ x hx h0) cl_Mo_364 (by rfl) (by rfl) hx d_c_Mo_likeliest_2 rfl rfl (Nat.le_of_ble_eq_true rfl) ⟨by decide, by decide⟩ ⟨jroom hk.1 rfl, jroom hk.2 rfl⟩ (fun v1 w_1 pw_1 => ?_)
  obtain ⟨rfl, rfl⟩ := pw_1
  show JJ g w 5 [(0, .ref x), (1, .int a), (2, .int b)] [.int 0]
  refine j_if_eq (tgt := 18) C d_c_Mo_likeliest_5 (by decide) (fun c2 => ?_) (fun c2 => absurd (by decide) c2)
  refine j_blk 20 [(0, .ref x), (1, .int a), (2, .int b)] [.int (-2)] C k_c_Mo_likeliest_18_1 rfl ?_
  exact j_iret C Rm E d_c_Mo_likeliest_20 ⟨rfl, rfl⟩ (jbnd hk.1 rfl) (jbnd hk.2 rfl)

theorem k_c_Mo_apart_0_2 : sblk b_Mo_apart [(0, .aload_n 0, .null), (1, .iload_n 1, .null)] := sblk_of (by decide +kernel)
theorem d_c_Mo_apart_2 : decode b_Mo_apart 2 = .ok (.invokevirtual 364, 3) := by decide +kernel
theorem d_c_Mo_apart_5 : decode b_Mo_apart 5 = .ok (.ifCond .eq 17, 3) := by decide +kernel
theorem k_c_Mo_apart_22_1 : sblk b_Mo_apart [(22, .bipush (-2), .int (-2))] := sblk_of (by decide +kernel)
theorem d_c_Mo_apart_24 : decode b_Mo_apart 24 = .ok (.ireturn, 1) := by decide +kernel
set_option maxHeartbeats 40000000 in
set_option maxRecDepth 100000 in
theorem c_Mo_apart (l : Launch) (D : va_G) (B : Nat) (H0 : Heap) (w : jW) (x : Nat) (V : Nat → Value) (a : Int32) (b : Int32) (c : Int32) (hx : w.1 x = some (.inr (10, V))) (h0 : V 0 = .int 0) : jMet l D B H0 y_Mo_apart b_Mo_apart 12 (some .int) 3 160 0 0 [.ref x, .int a, .int b, .int c] w (fun v w9 => v = some (.int (-2)) ∧ w = w9) := by
  refine j_met (by decide) (Nat.le_of_ble_eq_true rfl) (fun g C Rm Y E => ?_)
  have hk := jkz w
  show JJ g w 0 [(0, .ref x), (1, .int a), (2, .int b), (3, .int c)] []
  refine j_blk 2 [(0, .ref x), (1, .int a), (2, .int b), (3, .int c)] [.int a, .ref x] C k_c_Mo_apart_0_2 rfl ?_
  refine j_callV C Rm Y [.int a] [] (c_Mo_isProgram l D B H0 w a _ x hx h0) cl_Mo_364 (by rfl) (by rfl) hx d_c_Mo_apart_2 rfl rfl (Nat.le_of_ble_eq_true rfl) ⟨by decide, by decide⟩ ⟨jroom hk.1 rfl, jroom hk.2 rfl⟩ (fun v1 w_1 pw_1 => ?_)
  obtain ⟨rfl, rfl⟩ := pw_1
  show JJ g w 5 [(0, .ref x), (1, .int a), (2, .int b), (3, .int c)] [.int 0]
  refine j_if_eq (tgt := 22) C d_c_Mo_apart_5 (by decide) (fun c2 => ?_) (fun c2 => absurd (by decide) c2)
  refine j_blk 24 [(0, .ref x), (1, .int a), (2, .int b), (3, .int c)] [.int (-2)] C k_c_Mo_apart_22_1 rfl ?_
  exact j_iret C Rm E d_c_Mo_apart_24 ⟨rfl, rfl⟩ (jbnd hk.1 rfl) (jbnd hk.2 rfl)

theorem k_c_Mo_needed_0_2 : sblk b_Mo_needed [(0, .aload_n 0, .null), (1, .iload_n 1, .null)] := sblk_of (by decide +kernel)
theorem d_c_Mo_needed_2 : decode b_Mo_needed 2 = .ok (.invokevirtual 364, 3) := by decide +kernel
theorem d_c_Mo_needed_5 : decode b_Mo_needed 5 = .ok (.ifCond .eq 29, 3) := by decide +kernel
theorem k_c_Mo_needed_34_1 : sblk b_Mo_needed [(34, .bipush (-2), .int (-2))] := sblk_of (by decide +kernel)
theorem d_c_Mo_needed_36 : decode b_Mo_needed 36 = .ok (.ireturn, 1) := by decide +kernel
set_option maxHeartbeats 40000000 in
set_option maxRecDepth 100000 in
theorem c_Mo_needed (l : Launch) (D : va_G) (B : Nat) (H0 : Heap) (w : jW) (x : Nat) (V : Nat → Value) (a : Int32) (b : Int32) (hx : w.1 x = some (.inr (10, V))) (h0 : V 0 = .int 0) : jMet l D B H0 y_Mo_needed b_Mo_needed 3 (some .int) 3 160 0 0 [.ref x, .int a, .int b] w (fun v w9 => v = some (.int (-2)) ∧ w = w9) := by
  refine j_met (by decide) (Nat.le_of_ble_eq_true rfl) (fun g C Rm Y E => ?_)
  have hk := jkz w
  show JJ g w 0 [(0, .ref x), (1, .int a), (2, .int b)] []
  refine j_blk 2 [(0, .ref x), (1, .int a), (2, .int b)] [.int a, .ref x] C k_c_Mo_needed_0_2 rfl ?_
  refine j_callV C Rm Y [.int a] [] (c_Mo_isProgram l D B H0 w a _ x hx h0) cl_Mo_364 (by rfl) (by rfl) hx d_c_Mo_needed_2 rfl rfl (Nat.le_of_ble_eq_true rfl) ⟨by decide, by decide⟩ ⟨jroom hk.1 rfl, jroom hk.2 rfl⟩ (fun v1 w_1 pw_1 => ?_)
  obtain ⟨rfl, rfl⟩ := pw_1
  show JJ g w 5 [(0, .ref x), (1, .int a), (2, .int b)] [.int 0]
  refine j_if_eq (tgt := 34) C d_c_Mo_needed_5 (by decide) (fun c2 => ?_) (fun c2 => absurd (by decide) c2)
  refine j_blk 36 [(0, .ref x), (1, .int a), (2, .int b)] [.int (-2)] C k_c_Mo_needed_34_1 rfl ?_
  exact j_iret C Rm E d_c_Mo_needed_36 ⟨rfl, rfl⟩ (jbnd hk.1 rfl) (jbnd hk.2 rfl)

theorem k_c_Mo_peak_0_2 : sblk b_Mo_peak [(0, .aload_n 0, .null), (1, .iload_n 1, .null)] := sblk_of (by decide +kernel)
theorem d_c_Mo_peak_2 : decode b_Mo_peak 2 = .ok (.invokevirtual 364, 3) := by decide +kernel
theorem d_c_Mo_peak_5 : decode b_Mo_peak 5 = .ok (.ifCond .eq 13, 3) := by decide +kernel
theorem k_c_Mo_peak_18_1 : sblk b_Mo_peak [(18, .bipush (-2), .int (-2))] := sblk_of (by decide +kernel)
theorem d_c_Mo_peak_20 : decode b_Mo_peak 20 = .ok (.ireturn, 1) := by decide +kernel
set_option maxHeartbeats 40000000 in
set_option maxRecDepth 100000 in
theorem c_Mo_peak (l : Launch) (D : va_G) (B : Nat) (H0 : Heap) (w : jW) (x : Nat) (V : Nat → Value) (a : Int32) (b : Int32) (hx : w.1 x = some (.inr (10, V))) (h0 : V 0 = .int 0) : jMet l D B H0 y_Mo_peak b_Mo_peak 4 (some .int) 3 160 0 0 [.ref x, .int a, .int b] w (fun v w9 => v = some (.int (-2)) ∧ w = w9) := by
  refine j_met (by decide) (Nat.le_of_ble_eq_true rfl) (fun g C Rm Y E => ?_)
  have hk := jkz w
  show JJ g w 0 [(0, .ref x), (1, .int a), (2, .int b)] []
  refine j_blk 2 [(0, .ref x), (1, .int a), (2, .int b)] [.int a, .ref x] C k_c_Mo_peak_0_2 rfl ?_
  refine j_callV C Rm Y [.int a] [] (c_Mo_isProgram l D B H0 w a _ x hx h0) cl_Mo_364 (by rfl) (by rfl) hx d_c_Mo_peak_2 rfl rfl (Nat.le_of_ble_eq_true rfl) ⟨by decide, by decide⟩ ⟨jroom hk.1 rfl, jroom hk.2 rfl⟩ (fun v1 w_1 pw_1 => ?_)
  obtain ⟨rfl, rfl⟩ := pw_1
  show JJ g w 5 [(0, .ref x), (1, .int a), (2, .int b)] [.int 0]
  refine j_if_eq (tgt := 18) C d_c_Mo_peak_5 (by decide) (fun c2 => ?_) (fun c2 => absurd (by decide) c2)
  refine j_blk 20 [(0, .ref x), (1, .int a), (2, .int b)] [.int (-2)] C k_c_Mo_peak_18_1 rfl ?_
  exact j_iret C Rm E d_c_Mo_peak_20 ⟨rfl, rfl⟩ (jbnd hk.1 rfl) (jbnd hk.2 rfl)

theorem k_c_Mo_alike_0_2 : sblk b_Mo_alike [(0, .aload_n 0, .null), (1, .iload_n 1, .null)] := sblk_of (by decide +kernel)
theorem d_c_Mo_alike_2 : decode b_Mo_alike 2 = .ok (.invokevirtual 364, 3) := by decide +kernel
theorem d_c_Mo_alike_5 : decode b_Mo_alike 5 = .ok (.ifCond .eq 11, 3) := by decide +kernel
theorem k_c_Mo_alike_16_1 : sblk b_Mo_alike [(16, .bipush (-2), .int (-2))] := sblk_of (by decide +kernel)
theorem d_c_Mo_alike_18 : decode b_Mo_alike 18 = .ok (.ireturn, 1) := by decide +kernel
set_option maxHeartbeats 40000000 in
set_option maxRecDepth 100000 in
theorem c_Mo_alike (l : Launch) (D : va_G) (B : Nat) (H0 : Heap) (w : jW) (x : Nat) (V : Nat → Value) (a : Int32) (b : Int32) (hx : w.1 x = some (.inr (10, V))) (h0 : V 0 = .int 0) : jMet l D B H0 y_Mo_alike b_Mo_alike 8 (some .int) 3 160 0 0 [.ref x, .int a, .int b] w (fun v w9 => v = some (.int (-2)) ∧ w = w9) := by
  refine j_met (by decide) (Nat.le_of_ble_eq_true rfl) (fun g C Rm Y E => ?_)
  have hk := jkz w
  show JJ g w 0 [(0, .ref x), (1, .int a), (2, .int b)] []
  refine j_blk 2 [(0, .ref x), (1, .int a), (2, .int b)] [.int a, .ref x] C k_c_Mo_alike_0_2 rfl ?_
  refine j_callV C Rm Y [.int a] [] (c_Mo_isProgram l D B H0 w a _ x hx h0) cl_Mo_364 (by rfl) (by rfl) hx d_c_Mo_alike_2 rfl rfl (Nat.le_of_ble_eq_true rfl) ⟨by decide, by decide⟩ ⟨jroom hk.1 rfl, jroom hk.2 rfl⟩ (fun v1 w_1 pw_1 => ?_)
  obtain ⟨rfl, rfl⟩ := pw_1
  show JJ g w 5 [(0, .ref x), (1, .int a), (2, .int b)] [.int 0]
  refine j_if_eq (tgt := 16) C d_c_Mo_alike_5 (by decide) (fun c2 => ?_) (fun c2 => absurd (by decide) c2)
  refine j_blk 18 [(0, .ref x), (1, .int a), (2, .int b)] [.int (-2)] C k_c_Mo_alike_16_1 rfl ?_
  exact j_iret C Rm E d_c_Mo_alike_18 ⟨rfl, rfl⟩ (jbnd hk.1 rfl) (jbnd hk.2 rfl)

theorem k_c_Mo_comes_0_2 : sblk b_Mo_comes [(0, .aload_n 0, .null), (1, .iload_n 1, .null)] := sblk_of (by decide +kernel)
theorem d_c_Mo_comes_2 : decode b_Mo_comes 2 = .ok (.invokevirtual 364, 3) := by decide +kernel
theorem d_c_Mo_comes_5 : decode b_Mo_comes 5 = .ok (.ifCond .eq 12, 3) := by decide +kernel
theorem k_c_Mo_comes_17_1 : sblk b_Mo_comes [(17, .bipush (-2), .int (-2))] := sblk_of (by decide +kernel)
theorem d_c_Mo_comes_19 : decode b_Mo_comes 19 = .ok (.ireturn, 1) := by decide +kernel
set_option maxHeartbeats 40000000 in
set_option maxRecDepth 100000 in
theorem c_Mo_comes (l : Launch) (D : va_G) (B : Nat) (H0 : Heap) (w : jW) (x : Nat) (V : Nat → Value) (a : Int32) (b : Int32) (hx : w.1 x = some (.inr (10, V))) (h0 : V 0 = .int 0) : jMet l D B H0 y_Mo_comes b_Mo_comes 3 (some .int) 3 160 0 0 [.ref x, .int a, .int b] w (fun v w9 => v = some (.int (-2)) ∧ w = w9) := by
  refine j_met (by decide) (Nat.le_of_ble_eq_true rfl) (fun g C Rm Y E => ?_)
  have hk := jkz w
  show JJ g w 0 [(0, .ref x), (1, .int a), (2, .int b)] []
  refine j_blk 2 [(0, .ref x), (1, .int a), (2, .int b)] [.int a, .ref x] C k_c_Mo_comes_0_2 rfl ?_
  refine j_callV C Rm Y [.int a] [] (c_Mo_isProgram l D B H0 w a _ x hx h0) cl_Mo_364 (by rfl) (by rfl) hx d_c_Mo_comes_2 rfl rfl (Nat.le_of_ble_eq_true rfl) ⟨by decide, by decide⟩ ⟨jroom hk.1 rfl, jroom hk.2 rfl⟩ (fun v1 w_1 pw_1 => ?_)
  obtain ⟨rfl, rfl⟩ := pw_1
  show JJ g w 5 [(0, .ref x), (1, .int a), (2, .int b)] [.int 0]
  refine j_if_eq (tgt := 17) C d_c_Mo_comes_5 (by decide) (fun c2 => ?_) (fun c2 => absurd (by decide) c2)
  refine j_blk 19 [(0, .ref x), (1, .int a), (2, .int b)] [.int (-2)] C k_c_Mo_comes_17_1 rfl ?_
  exact j_iret C Rm E d_c_Mo_comes_19 ⟨rfl, rfl⟩ (jbnd hk.1 rfl) (jbnd hk.2 rfl)

theorem k_c_Mo_often_0_2 : sblk b_Mo_often [(0, .aload_n 0, .null), (1, .iload_n 1, .null)] := sblk_of (by decide +kernel)
theorem d_c_Mo_often_2 : decode b_Mo_often 2 = .ok (.invokevirtual 364, 3) := by decide +kernel
theorem d_c_Mo_often_5 : decode b_Mo_often 5 = .ok (.ifCond .eq 42, 3) := by decide +kernel
theorem k_c_Mo_often_47_1 : sblk b_Mo_often [(47, .bipush (-2), .int (-2))] := sblk_of (by decide +kernel)
theorem d_c_Mo_often_49 : decode b_Mo_often 49 = .ok (.ireturn, 1) := by decide +kernel
set_option maxHeartbeats 40000000 in
set_option maxRecDepth 100000 in
theorem c_Mo_often (l : Launch) (D : va_G) (B : Nat) (H0 : Heap) (w : jW) (x : Nat) (V : Nat → Value) (a : Int32) (b : Int32) (c : Int32) (d : Int32) (e : Int32) (f : Int32) (hx : w.1 x = some (.inr (10, V))) (h0 : V 0 = .int 0) : jMet l D B H0 y_Mo_often b_Mo_often 11 (some .int) 3 160 0 0 [.ref x, .int a, .int b, .int c, .int d, .int e, .int f] w (fun v w9 => v = some (.int (-2)) ∧ w = w9) := by
  refine j_met (by decide) (Nat.le_of_ble_eq_true rfl) (fun g C Rm Y E => ?_)
  have hk := jkz w
  show JJ g w 0 [(0, .ref x), (1, .int a), (2, .int b), (3, .int c), (4, .int d), (5, .int e), (6, .int f)] []
  refine j_blk 2 [(0, .ref x), (1, .int a), (2, .int b), (3, .int c), (4, .int d), (5, .int e), (6, .int f)] [.int a, .ref x] C k_c_Mo_often_0_2 rfl ?_
  refine j_callV C Rm Y [.int a] [] (c_Mo_isProgram l D B H0 w a _ x hx h0) cl_Mo_364 (by rfl) (by rfl) hx d_c_Mo_often_2 rfl rfl (Nat.le_of_ble_eq_true rfl) ⟨by decide, by decide⟩ ⟨jroom hk.1 rfl, jroom hk.2 rfl⟩ (fun v1 w_1 pw_1 => ?_)
  obtain ⟨rfl, rfl⟩ := pw_1
  show JJ g w 5 [(0, .ref x), (1, .int a), (2, .int b), (3, .int c), (4, .int d), (5, .int e), (6, .int f)] [.int 0]
  refine j_if_eq (tgt := 47) C d_c_Mo_often_5 (by decide) (fun c2 => ?_) (fun c2 => absurd (by decide) c2)
  refine j_blk 49 [(0, .ref x), (1, .int a), (2, .int b), (3, .int c), (4, .int d), (5, .int e), (6, .int f)] [.int (-2)] C k_c_Mo_often_47_1 rfl ?_
  exact j_iret C Rm E d_c_Mo_often_49 ⟨rfl, rfl⟩ (jbnd hk.1 rfl) (jbnd hk.2 rfl)

theorem k_c_Mo_tells_0_1 : sblk b_Mo_tells [(0, .iload_n 1, .null)] := sblk_of (by decide +kernel)
theorem d_c_Mo_tells_1 : decode b_Mo_tells 1 = .ok (.invokestatic 422, 3) := by decide +kernel
theorem d_c_Mo_tells_4 : decode b_Mo_tells 4 = .ok (.ifCond .eq 28, 3) := by decide +kernel
theorem k_c_Mo_tells_32_1 : sblk b_Mo_tells [(32, .bipush (-2), .int (-2))] := sblk_of (by decide +kernel)
theorem d_c_Mo_tells_34 : decode b_Mo_tells 34 = .ok (.ireturn, 1) := by decide +kernel
theorem k_c_Mo_tells_7_2 : sblk b_Mo_tells [(7, .aload_n 0, .null), (8, .iload_n 2, .null)] := sblk_of (by decide +kernel)
theorem d_c_Mo_tells_9 : decode b_Mo_tells 9 = .ok (.invokevirtual 364, 3) := by decide +kernel
theorem d_c_Mo_tells_12 : decode b_Mo_tells 12 = .ok (.ifCond .eq 20, 3) := by decide +kernel
set_option maxHeartbeats 40000000 in
set_option maxRecDepth 100000 in
theorem c_Mo_tells (l : Launch) (D : va_G) (B : Nat) (H0 : Heap) (w : jW) (x : Nat) (V : Nat → Value) (a : Int32) (b : Int32) (c : Int32) (d : Int32) (hx : w.1 x = some (.inr (10, V))) (h0 : V 0 = .int 0) : jMet l D B H0 y_Mo_tells b_Mo_tells 10 (some .int) 3 160 0 0 [.ref x, .int a, .int b, .int c, .int d] w (fun v w9 => v = some (.int (-2)) ∧ w = w9) := by
  refine j_met (by decide) (Nat.le_of_ble_eq_true rfl) (fun g C Rm Y E => ?_)
  have hk := jkz w
  show JJ g w 0 [(0, .ref x), (1, .int a), (2, .int b), (3, .int c), (4, .int d)] []
  refine j_blk 1 [(0, .ref x), (1, .int a), (2, .int b), (3, .int c), (4, .int d)] [.int a] C k_c_Mo_tells_0_1 rfl ?_
  refine j_callS (As := [.int a]) C Rm Y [] (c_Mo_isSheet l D B H0 w a) cl_Mo_422 d_c_Mo_tells_1 rfl rfl (Nat.le_of_ble_eq_true rfl) ⟨by decide, by decide⟩ ⟨jroom hk.1 rfl, jroom hk.2 rfl⟩ (fun v1 w_1 pw_1 => ?_)
  obtain ⟨rfl, rfl⟩ := pw_1
  show JJ g w 4 [(0, .ref x), (1, .int a), (2, .int b), (3, .int c), (4, .int d)] [.int (if (0 : Int32).toInt ≤ a.toInt ∧ a.toInt ≤ (3 : Int32).toInt then 1 else 0)]
  refine j_if_eq (tgt := 32) C d_c_Mo_tells_4 (by decide) (fun c2 => ?_) (fun c2 => ?_)
  · have c2 := jbz.mp c2
    refine j_blk 34 [(0, .ref x), (1, .int a), (2, .int b), (3, .int c), (4, .int d)] [.int (-2)] C k_c_Mo_tells_32_1 rfl ?_
    exact j_iret C Rm E d_c_Mo_tells_34 ⟨rfl, rfl⟩ (jbnd hk.1 rfl) (jbnd hk.2 rfl)
  · have c2 := jbo.mp c2
    refine j_blk 9 [(0, .ref x), (1, .int a), (2, .int b), (3, .int c), (4, .int d)] [.int b, .ref x] C k_c_Mo_tells_7_2 rfl ?_
    refine j_callV C Rm Y [.int b] [] (c_Mo_isProgram l D B H0 w b _ x hx h0) cl_Mo_364 (by rfl) (by rfl) hx d_c_Mo_tells_9 rfl rfl (Nat.le_of_ble_eq_true rfl) ⟨by decide, by decide⟩ ⟨jroom hk.1 rfl, jroom hk.2 rfl⟩ (fun v3 w_2 pw_2 => ?_)
    obtain ⟨rfl, rfl⟩ := pw_2
    show JJ g w 12 [(0, .ref x), (1, .int a), (2, .int b), (3, .int c), (4, .int d)] [.int 0]
    refine j_if_eq (tgt := 32) C d_c_Mo_tells_12 (by decide) (fun c4 => ?_) (fun c4 => absurd (by decide) c4)
    refine j_blk 34 [(0, .ref x), (1, .int a), (2, .int b), (3, .int c), (4, .int d)] [.int (-2)] C k_c_Mo_tells_32_1 rfl ?_
    exact j_iret C Rm E d_c_Mo_tells_34 ⟨rfl, rfl⟩ (jbnd hk.1 rfl) (jbnd hk.2 rfl)

theorem k_c_Mo_film_0_1 : sblk b_Mo_film [(0, .iload_n 1, .null)] := sblk_of (by decide +kernel)
theorem d_c_Mo_film_1 : decode b_Mo_film 1 = .ok (.invokestatic 422, 3) := by decide +kernel
theorem d_c_Mo_film_4 : decode b_Mo_film 4 = .ok (.ifCond .eq 18, 3) := by decide +kernel
theorem k_c_Mo_film_22_1 : sblk b_Mo_film [(22, .bipush (-2), .int (-2))] := sblk_of (by decide +kernel)
theorem d_c_Mo_film_24 : decode b_Mo_film 24 = .ok (.ireturn, 1) := by decide +kernel
theorem k_c_Mo_film_7_2 : sblk b_Mo_film [(7, .aload_n 0, .null), (8, .iload_n 2, .null)] := sblk_of (by decide +kernel)
theorem d_c_Mo_film_9 : decode b_Mo_film 9 = .ok (.invokevirtual 364, 3) := by decide +kernel
theorem d_c_Mo_film_12 : decode b_Mo_film 12 = .ok (.ifCond .eq 10, 3) := by decide +kernel
set_option maxHeartbeats 40000000 in
set_option maxRecDepth 100000 in
theorem c_Mo_film (l : Launch) (D : va_G) (B : Nat) (H0 : Heap) (w : jW) (x : Nat) (V : Nat → Value) (a : Int32) (b : Int32) (c : Int32) (hx : w.1 x = some (.inr (10, V))) (h0 : V 0 = .int 0) : jMet l D B H0 y_Mo_film b_Mo_film 7 (some .int) 3 160 0 0 [.ref x, .int a, .int b, .int c] w (fun v w9 => v = some (.int (-2)) ∧ w = w9) := by
  refine j_met (by decide) (Nat.le_of_ble_eq_true rfl) (fun g C Rm Y E => ?_)
  have hk := jkz w
  show JJ g w 0 [(0, .ref x), (1, .int a), (2, .int b), (3, .int c)] []
  refine j_blk 1 [(0, .ref x), (1, .int a), (2, .int b), (3, .int c)] [.int a] C k_c_Mo_film_0_1 rfl ?_
  refine j_callS (As := [.int a]) C Rm Y [] (c_Mo_isSheet l D B H0 w a) cl_Mo_422 d_c_Mo_film_1 rfl rfl (Nat.le_of_ble_eq_true rfl) ⟨by decide, by decide⟩ ⟨jroom hk.1 rfl, jroom hk.2 rfl⟩ (fun v1 w_1 pw_1 => ?_)
  obtain ⟨rfl, rfl⟩ := pw_1
  show JJ g w 4 [(0, .ref x), (1, .int a), (2, .int b), (3, .int c)] [.int (if (0 : Int32).toInt ≤ a.toInt ∧ a.toInt ≤ (3 : Int32).toInt then 1 else 0)]
  refine j_if_eq (tgt := 22) C d_c_Mo_film_4 (by decide) (fun c2 => ?_) (fun c2 => ?_)
  · have c2 := jbz.mp c2
    refine j_blk 24 [(0, .ref x), (1, .int a), (2, .int b), (3, .int c)] [.int (-2)] C k_c_Mo_film_22_1 rfl ?_
    exact j_iret C Rm E d_c_Mo_film_24 ⟨rfl, rfl⟩ (jbnd hk.1 rfl) (jbnd hk.2 rfl)
  · have c2 := jbo.mp c2
    refine j_blk 9 [(0, .ref x), (1, .int a), (2, .int b), (3, .int c)] [.int b, .ref x] C k_c_Mo_film_7_2 rfl ?_
    refine j_callV C Rm Y [.int b] [] (c_Mo_isProgram l D B H0 w b _ x hx h0) cl_Mo_364 (by rfl) (by rfl) hx d_c_Mo_film_9 rfl rfl (Nat.le_of_ble_eq_true rfl) ⟨by decide, by decide⟩ ⟨jroom hk.1 rfl, jroom hk.2 rfl⟩ (fun v3 w_2 pw_2 => ?_)
    obtain ⟨rfl, rfl⟩ := pw_2
    show JJ g w 12 [(0, .ref x), (1, .int a), (2, .int b), (3, .int c)] [.int 0]
    refine j_if_eq (tgt := 22) C d_c_Mo_film_12 (by decide) (fun c4 => ?_) (fun c4 => absurd (by decide) c4)
    refine j_blk 24 [(0, .ref x), (1, .int a), (2, .int b), (3, .int c)] [.int (-2)] C k_c_Mo_film_22_1 rfl ?_
    exact j_iret C Rm E d_c_Mo_film_24 ⟨rfl, rfl⟩ (jbnd hk.1 rfl) (jbnd hk.2 rfl)
end
section
/-! calls that need no program, on fresh objects (own work, by program) -/
def an_feed (n a b c d e : Int32) : Int32 := if (1 ≤ n.toInt ∧ n.toInt ≤ 5) ∧ (0 ≤ a.toInt ∧ a.toInt ≤ 255) ∧ (0 ≤ b.toInt ∧ b.toInt ≤ 255) ∧ (0 ≤ c.toInt ∧ c.toInt ≤ 255) ∧ (0 ≤ d.toInt ∧ d.toInt ≤ 255) ∧ (0 ≤ e.toInt ∧ e.toInt ≤ 255) then n else -2
def an_let (n v : Int32) : Int32 := if (0 ≤ n.toInt ∧ n.toInt < 6) ∧ (0 ≤ v.toInt ∧ v.toInt < 10) then 0 else -2
def an_count (n : Int32) : Int32 := if 0 ≤ n.toInt ∧ n.toInt ≤ 2 then 0 else -2
def an_sheet (s k n : Int32) : Int32 := if (0 ≤ s.toInt ∧ s.toInt < 4) ∧ (-1 ≤ k.toInt ∧ k.toInt ≤ 1) ∧ (k.toInt = -1 ∨ n.toInt ≤ 40) then (if k.toInt = -1 ∨ 0 ≤ n.toInt then 1 else -14) else -2
def an_cell (s : Int32) : Int32 := if 0 ≤ s.toInt ∧ s.toInt < 4 then -11 else -2
def an_copy (s o : Int32) : Int32 := if (0 ≤ s.toInt ∧ s.toInt < 4) ∧ (0 ≤ o.toInt ∧ o.toInt < 4) then -11 else -2
theorem jip {p : Prop} [Decidable p] {a b : Int32} (h : p) : some (Value.int a) = some (Value.int (if p then a else b)) := by rw [if_pos h]
theorem jin_ {p : Prop} [Decidable p] {a b : Int32} (h : ¬ p) : some (Value.int b) = some (Value.int (if p then a else b)) := by rw [if_neg h]
def fxS (D : va_G) (w : jW) (F : Nat → Option Nat) (q : Nat) : Prop := ∀ j, j < 4 → ∃ (s e : Nat) (Vs : Nat → Value), F j = some s ∧ w.1 s = some (.inr (5, Vs)) ∧ Vs 0 = .ref e ∧ Vs 1 = .int (-1) ∧ Vs 2 = .int 0 ∧ w.1 e = some (aI D 40 (fun _ => 0)) ∧ s < q ∧ e < q
theorem jcl {x : Int32} {n : Nat} (h0 : 0 ≤ x.toInt) (h1 : x.toInt < n) : Int32.toNatClampNeg x < n := by show x.toInt.toNat < n; omega
theorem k_c_CS_append_0_1 : sblk b_CS_append [(0, .aload_n 0, .null)] := sblk_of (by decide +kernel)
theorem d_c_CS_append_1 : decode b_CS_append 1 = .ok (.getfield 51, 3) := by decide +kernel
theorem k_c_CS_append_4_1 : sblk b_CS_append [(4, .bipush 120, .int 120)] := sblk_of (by decide +kernel)
theorem d_c_CS_append_6 : decode b_CS_append 6 = .ok (.if_icmp .ge 23, 3) := by decide +kernel
theorem k_c_CS_append_9_1 : sblk b_CS_append [(9, .aload_n 0, .null)] := sblk_of (by decide +kernel)
theorem d_c_CS_append_10 : decode b_CS_append 10 = .ok (.getfield 9, 3) := by decide +kernel
theorem k_c_CS_append_13_1 : sblk b_CS_append [(13, .aload_n 0, .null)] := sblk_of (by decide +kernel)
theorem d_c_CS_append_14 : decode b_CS_append 14 = .ok (.getfield 51, 3) := by decide +kernel
theorem k_c_CS_append_17_1 : sblk b_CS_append [(17, .iload_n 1, .null)] := sblk_of (by decide +kernel)
theorem d_c_CS_append_18 : decode b_CS_append 18 = .ok (.iastore, 1) := by decide +kernel
theorem k_c_CS_append_19_2 : sblk b_CS_append [(19, .aload_n 0, .null), (20, .dup, .null)] := sblk_of (by decide +kernel)
theorem d_c_CS_append_21 : decode b_CS_append 21 = .ok (.getfield 51, 3) := by decide +kernel
theorem k_c_CS_append_24_2 : sblk b_CS_append [(24, .iconst 1, .int 1), (25, .iadd, .null)] := sblk_of (by decide +kernel)
theorem d_c_CS_append_26 : decode b_CS_append 26 = .ok (.putfield 51, 3) := by decide +kernel
theorem d_c_CS_append_29 : decode b_CS_append 29 = .ok (.return_, 1) := by decide +kernel
set_option maxHeartbeats 40000000 in
set_option maxRecDepth 100000 in
theorem c_CS_append (l : Launch) (D : va_G) (B : Nat) (H0 : Heap) (w : jW) (x tp : Nat) (V : Nat → Value) (f : Nat → Int32) (t b : Int32) (hx : w.1 x = some (.inr (8, V))) (h0 : V 0 = .ref tp) (h1 : V 1 = .int t) (ht : w.1 tp = some (aI D 120 f)) (t0 : 0 ≤ t.toInt) (t1 : t.toInt < 120) : jMet l D B H0 y_CS_append b_CS_append 2 none 1 40 0 0 [.ref x, .int b] w (fun v w9 => v = none ∧ (w9.2.1 = w.2.1 + 0 ∧ w9.2.2 = w.2.2 + 0) ∧ jfr (fun b => b ≠ x ∧ b ≠ tp) w w9 ∧ w9.1 x = some (.inr (8, updV V 1 (.int (t + 1)))) ∧ w9.1 tp = some (aI D 120 (upd f (Int32.toNatClampNeg t) b))) := by
  refine j_met (by decide) (Nat.le_of_ble_eq_true rfl) (fun g C Rm Y E => ?_)
  have hk := jkz w
  have fr0 : jfr (fun b => b ≠ x ∧ b ≠ tp) w w := jfr0
  show JJ g w 0 [(0, .ref x), (1, .int b)] []
  refine j_blk 1 [(0, .ref x), (1, .int b)] [.ref x] C k_c_CS_append_0_1 rfl ?_
  refine j_get C d_c_CS_append_1 fg_CS_51 hx h1 ?_
  refine j_blk 6 [(0, .ref x), (1, .int b)] [.int 120, .int t] C k_c_CS_append_4_1 rfl ?_
  refine j_icmp_ge (tgt := 29) C d_c_CS_append_6 (by decide) (fun c1 => absurd c1 (by rw [jle, kt_120]; omega)) (fun c1 => ?_)
  refine j_blk 10 [(0, .ref x), (1, .int b)] [.ref x] C k_c_CS_append_9_1 rfl ?_
  refine j_get C d_c_CS_append_10 fg_CS_9 hx h0 ?_
  refine j_blk 14 [(0, .ref x), (1, .int b)] [.ref x, .ref tp] C k_c_CS_append_13_1 rfl ?_
  refine j_get C d_c_CS_append_14 fg_CS_51 hx h1 ?_
  refine j_blk 18 [(0, .ref x), (1, .int b)] [.int b, .int t, .ref tp] C k_c_CS_append_17_1 rfl ?_
  refine j_iast C d_c_CS_append_18 ht (jin t0 t1) ?_
  refine jnv (fun w_1 ew_1 => ?_)
  have m_tp_w_1 : w_1.1 tp = some (aI D 120 (upd f (Int32.toNatClampNeg t) b)) := jus ew_1
  have hk_w_1 := jk0 ew_1 hk
  have fr_w_1 := jfrW ew_1 fr0 (fun b e hb _ => hb.2)
  refine j_blk 21 [(0, .ref x), (1, .int b)] [.ref x, .ref x] C k_c_CS_append_19_2 rfl ?_
  have m_x_w_1 := jun ew_1 hx (jneOA hx ht)
  refine j_get C d_c_CS_append_21 fg_CS_51 m_x_w_1 h1 ?_
  refine j_blk 26 [(0, .ref x), (1, .int b)] [.int (t + 1), .ref x] C k_c_CS_append_24_2 rfl ?_
  refine j_put C d_c_CS_append_26 fp_CS_51 m_x_w_1 rfl rfl ?_
  refine jnv (fun w_2 ew_2 => ?_)
  have m_x_w_2 : w_2.1 x = some (.inr (8, (updV V 1 (.int (t + 1))))) := jus ew_2
  have hk_w_2 := jk0 ew_2 hk_w_1
  have fr_w_2 := jfrW ew_2 fr_w_1 (fun b e hb _ => hb.1)
  have m_tp_w_2 := jun ew_2 m_tp_w_1 (jneAO m_tp_w_1 m_x_w_1)
  exact j_vret C Rm E d_c_CS_append_29 ⟨rfl, hk_w_2, fr_w_2, m_x_w_2, m_tp_w_2⟩ (jbnd hk_w_2.1 rfl) (jbnd hk_w_2.2 rfl)

theorem k_c_CS_feed_0_2 : sblk b_CS_feed [(0, .iload_n 1, .null), (1, .iconst 1, .int 1)] := sblk_of (by decide +kernel)
theorem d_c_CS_feed_2 : decode b_CS_feed 2 = .ok (.if_icmp .lt 46, 3) := by decide +kernel
theorem k_c_CS_feed_48_1 : sblk b_CS_feed [(48, .bipush (-2), .int (-2))] := sblk_of (by decide +kernel)
theorem d_c_CS_feed_50 : decode b_CS_feed 50 = .ok (.ireturn, 1) := by decide +kernel
theorem k_c_CS_feed_5_2 : sblk b_CS_feed [(5, .iload_n 1, .null), (6, .iconst 5, .int 5)] := sblk_of (by decide +kernel)
theorem d_c_CS_feed_7 : decode b_CS_feed 7 = .ok (.if_icmp .gt 41, 3) := by decide +kernel
theorem k_c_CS_feed_10_1 : sblk b_CS_feed [(10, .iload_n 2, .null)] := sblk_of (by decide +kernel)
theorem d_c_CS_feed_11 : decode b_CS_feed 11 = .ok (.invokestatic 47, 3) := by decide +kernel
theorem d_c_CS_feed_14 : decode b_CS_feed 14 = .ok (.ifCond .eq 34, 3) := by decide +kernel
theorem k_c_CS_feed_17_1 : sblk b_CS_feed [(17, .iload_n 3, .null)] := sblk_of (by decide +kernel)
theorem d_c_CS_feed_18 : decode b_CS_feed 18 = .ok (.invokestatic 47, 3) := by decide +kernel
theorem d_c_CS_feed_21 : decode b_CS_feed 21 = .ok (.ifCond .eq 27, 3) := by decide +kernel
theorem k_c_CS_feed_24_1 : sblk b_CS_feed [(24, .iload 4, .null)] := sblk_of (by decide +kernel)
theorem d_c_CS_feed_26 : decode b_CS_feed 26 = .ok (.invokestatic 47, 3) := by decide +kernel
theorem d_c_CS_feed_29 : decode b_CS_feed 29 = .ok (.ifCond .eq 19, 3) := by decide +kernel
theorem k_c_CS_feed_32_1 : sblk b_CS_feed [(32, .iload 5, .null)] := sblk_of (by decide +kernel)
theorem d_c_CS_feed_34 : decode b_CS_feed 34 = .ok (.invokestatic 47, 3) := by decide +kernel
theorem d_c_CS_feed_37 : decode b_CS_feed 37 = .ok (.ifCond .eq 11, 3) := by decide +kernel
theorem k_c_CS_feed_40_1 : sblk b_CS_feed [(40, .iload 6, .null)] := sblk_of (by decide +kernel)
theorem d_c_CS_feed_42 : decode b_CS_feed 42 = .ok (.invokestatic 47, 3) := by decide +kernel
theorem d_c_CS_feed_45 : decode b_CS_feed 45 = .ok (.ifCond .ne 6, 3) := by decide +kernel
theorem k_c_CS_feed_51_3 : sblk b_CS_feed [(51, .iload_n 1, .null), (52, .bipush 120, .int 120), (54, .aload_n 0, .null)] := sblk_of (by decide +kernel)
theorem d_c_CS_feed_55 : decode b_CS_feed 55 = .ok (.getfield 51, 3) := by decide +kernel
theorem k_c_CS_feed_58_1 : sblk b_CS_feed [(58, .isub, .null)] := sblk_of (by decide +kernel)
theorem d_c_CS_feed_59 : decode b_CS_feed 59 = .ok (.if_icmp .le 6, 3) := by decide +kernel
theorem k_c_CS_feed_65_4 : sblk b_CS_feed [(65, .iconst 0, .int 0), (66, .istore 7, .null), (68, .iload 7, .null), (70, .iload_n 1, .null)] := sblk_of (by decide +kernel)
theorem d_c_CS_feed_71 : decode b_CS_feed 71 = .ok (.if_icmp .ge 56, 3) := by decide +kernel
theorem k_c_CS_feed_74_2 : sblk b_CS_feed [(74, .aload_n 0, .null), (75, .iload 7, .null)] := sblk_of (by decide +kernel)
theorem d_c_CS_feed_77 : decode b_CS_feed 77 = .ok (.ifCond .ne 7, 3) := by decide +kernel
theorem k_c_CS_feed_80_2 : sblk b_CS_feed [(80, .iload_n 2, .null), (81, .goto 37, .retAddr 118)] := sblk_of (by decide +kernel)
theorem d_c_CS_feed_118 : decode b_CS_feed 118 = .ok (.invokevirtual 55, 3) := by decide +kernel
theorem k_c_CS_feed_121_2 : sblk b_CS_feed [(121, .iinc 7 1, .int 1), (124, .goto (-56), .retAddr 68)] := sblk_of (by decide +kernel)
theorem k_c_CS_feed_68_2 : sblk b_CS_feed [(68, .iload 7, .null), (70, .iload_n 1, .null)] := sblk_of (by decide +kernel)
theorem k_c_CS_feed_127_1 : sblk b_CS_feed [(127, .aload_n 0, .null)] := sblk_of (by decide +kernel)
theorem d_c_CS_feed_128 : decode b_CS_feed 128 = .ok (.getfield 51, 3) := by decide +kernel
theorem d_c_CS_feed_131 : decode b_CS_feed 131 = .ok (.ireturn, 1) := by decide +kernel
theorem k_c_CS_feed_84_2 : sblk b_CS_feed [(84, .iload 7, .null), (86, .iconst 1, .int 1)] := sblk_of (by decide +kernel)
theorem d_c_CS_feed_87 : decode b_CS_feed 87 = .ok (.if_icmp .ne 7, 3) := by decide +kernel
theorem k_c_CS_feed_90_2 : sblk b_CS_feed [(90, .iload_n 3, .null), (91, .goto 27, .retAddr 118)] := sblk_of (by decide +kernel)
theorem k_c_CS_feed_94_2 : sblk b_CS_feed [(94, .iload 7, .null), (96, .iconst 2, .int 2)] := sblk_of (by decide +kernel)
theorem d_c_CS_feed_97 : decode b_CS_feed 97 = .ok (.if_icmp .ne 8, 3) := by decide +kernel
theorem k_c_CS_feed_100_2 : sblk b_CS_feed [(100, .iload 4, .null), (102, .goto 16, .retAddr 118)] := sblk_of (by decide +kernel)
theorem k_c_CS_feed_105_2 : sblk b_CS_feed [(105, .iload 7, .null), (107, .iconst 3, .int 3)] := sblk_of (by decide +kernel)
theorem d_c_CS_feed_108 : decode b_CS_feed 108 = .ok (.if_icmp .ne 8, 3) := by decide +kernel
theorem k_c_CS_feed_111_2 : sblk b_CS_feed [(111, .iload 5, .null), (113, .goto 5, .retAddr 118)] := sblk_of (by decide +kernel)
theorem k_c_CS_feed_116_1 : sblk b_CS_feed [(116, .iload 6, .null)] := sblk_of (by decide +kernel)
set_option maxHeartbeats 40000000 in
set_option maxRecDepth 100000 in
theorem c_CS_feed (l : Launch) (D : va_G) (B : Nat) (H0 : Heap) (w : jW) (x tp : Nat) (V : Nat → Value) (n a b c d e : Int32) (hx : w.1 x = some (.inr (8, V))) (h0 : V 0 = .ref tp) (h1 : V 1 = .int 0) (ht : w.1 tp = some (aI D 120 (fun _ => 0))) (q : Nat) (xq : x < q) (tq : tp < q) : jMet l D B H0 y_CS_feed b_CS_feed 8 (some .int) 3 160 0 0 [.ref x, .int n, .int a, .int b, .int c, .int d, .int e] w (fun v w9 => v = some (.int (an_feed n a b c d e)) ∧ jfr (fun b => q ≤ b) w w9) := by
  refine j_met (by decide) (Nat.le_of_ble_eq_true rfl) (fun g C Rm Y E => ?_)
  have hk := jkz w
  have fr0 : jfr (fun b => q ≤ b) w w := jfr0
  show JJ g w 0 [(0, .ref x), (1, .int n), (2, .int a), (3, .int b), (4, .int c), (5, .int d), (6, .int e)] []
  refine j_blk 2 [(0, .ref x), (1, .int n), (2, .int a), (3, .int b), (4, .int c), (5, .int d), (6, .int e)] [.int 1, .int n] C k_c_CS_feed_0_2 rfl ?_
  refine j_icmp_lt (tgt := 48) C d_c_CS_feed_2 (by decide) (fun c1 => ?_) (fun c1 => ?_)
  · refine j_blk 50 [(0, .ref x), (1, .int n), (2, .int a), (3, .int b), (4, .int c), (5, .int d), (6, .int e)] [.int (-2)] C k_c_CS_feed_48_1 rfl ?_
    exact j_iret C Rm E d_c_CS_feed_50 ⟨jin_ (fun hq => absurd hq (by (try simp only [jlt, jle, jeq, kt_0, kt_1, kt_2, kt_3, kt_4, kt_5, kt_6, kt_7, kt_8, kt_9, kt_10, kt_11, kt_12, kt_13, kt_15, kt_16, kt_19, kt_20, kt_24, kt_25, kt_31, kt_32, kt_40, kt_50, kt_60, kt_63, kt_100, kt_120, kt_255, kt_300, kt_999999, kt_1000000, kt_m1, kt_m2, kt_m3, kt_m4, kt_m6, kt_m7, kt_m11, kt_m12, kt_m13, kt_m14, kt_m100] at c1); (try simp only [kt_0, kt_1, kt_2, kt_3, kt_4, kt_5, kt_6, kt_7, kt_8, kt_9, kt_10, kt_11, kt_12, kt_13, kt_15, kt_16, kt_19, kt_20, kt_24, kt_25, kt_31, kt_32, kt_40, kt_50, kt_60, kt_63, kt_100, kt_120, kt_255, kt_300, kt_999999, kt_1000000, kt_m1, kt_m2, kt_m3, kt_m4, kt_m6, kt_m7, kt_m11, kt_m12, kt_m13, kt_m14, kt_m100]); omega)), fr0⟩ (jbnd hk.1 rfl) (jbnd hk.2 rfl)
  · refine j_blk 7 [(0, .ref x), (1, .int n), (2, .int a), (3, .int b), (4, .int c), (5, .int d), (6, .int e)] [.int 5, .int n] C k_c_CS_feed_5_2 rfl ?_
    refine j_icmp_gt (tgt := 48) C d_c_CS_feed_7 (by decide) (fun c2 => ?_) (fun c2 => ?_)
    · refine j_blk 50 [(0, .ref x), (1, .int n), (2, .int a), (3, .int b), (4, .int c), (5, .int d), (6, .int e)] [.int (-2)] C k_c_CS_feed_48_1 rfl ?_
      exact j_iret C Rm E d_c_CS_feed_50 ⟨jin_ (fun hq => absurd hq (by (try simp only [jlt, jle, jeq, kt_0, kt_1, kt_2, kt_3, kt_4, kt_5, kt_6, kt_7, kt_8, kt_9, kt_10, kt_11, kt_12, kt_13, kt_15, kt_16, kt_19, kt_20, kt_24, kt_25, kt_31, kt_32, kt_40, kt_50, kt_60, kt_63, kt_100, kt_120, kt_255, kt_300, kt_999999, kt_1000000, kt_m1, kt_m2, kt_m3, kt_m4, kt_m6, kt_m7, kt_m11, kt_m12, kt_m13, kt_m14, kt_m100] at c1); (try simp only [jlt, jle, jeq, kt_0, kt_1, kt_2, kt_3, kt_4, kt_5, kt_6, kt_7, kt_8, kt_9, kt_10, kt_11, kt_12, kt_13, kt_15, kt_16, kt_19, kt_20, kt_24, kt_25, kt_31, kt_32, kt_40, kt_50, kt_60, kt_63, kt_100, kt_120, kt_255, kt_300, kt_999999, kt_1000000, kt_m1, kt_m2, kt_m3, kt_m4, kt_m6, kt_m7, kt_m11, kt_m12, kt_m13, kt_m14, kt_m100] at c2); (try simp only [kt_0, kt_1, kt_2, kt_3, kt_4, kt_5, kt_6, kt_7, kt_8, kt_9, kt_10, kt_11, kt_12, kt_13, kt_15, kt_16, kt_19, kt_20, kt_24, kt_25, kt_31, kt_32, kt_40, kt_50, kt_60, kt_63, kt_100, kt_120, kt_255, kt_300, kt_999999, kt_1000000, kt_m1, kt_m2, kt_m3, kt_m4, kt_m6, kt_m7, kt_m11, kt_m12, kt_m13, kt_m14, kt_m100]); omega)), fr0⟩ (jbnd hk.1 rfl) (jbnd hk.2 rfl)
    · refine j_blk 11 [(0, .ref x), (1, .int n), (2, .int a), (3, .int b), (4, .int c), (5, .int d), (6, .int e)] [.int a] C k_c_CS_feed_10_1 rfl ?_
      refine j_callS (As := [.int a]) C Rm Y [] (c_CS_isByte l D B H0 w a) cl_CS_47 d_c_CS_feed_11 rfl rfl (Nat.le_of_ble_eq_true rfl) ⟨by decide, by decide⟩ ⟨jroom hk.1 rfl, jroom hk.2 rfl⟩ (fun v3 w_1 pw_1 => ?_)
      obtain ⟨rfl, rfl⟩ := pw_1
      show JJ g w 14 [(0, .ref x), (1, .int n), (2, .int a), (3, .int b), (4, .int c), (5, .int d), (6, .int e)] [.int (if 0 ≤ a.toInt ∧ a.toInt ≤ 255 then 1 else 0)]
      refine j_if_eq (tgt := 48) C d_c_CS_feed_14 (by decide) (fun c4 => ?_) (fun c4 => ?_)
      · have c4 := jbz.mp c4
        refine j_blk 50 [(0, .ref x), (1, .int n), (2, .int a), (3, .int b), (4, .int c), (5, .int d), (6, .int e)] [.int (-2)] C k_c_CS_feed_48_1 rfl ?_
        exact j_iret C Rm E d_c_CS_feed_50 ⟨jin_ (fun hq => absurd hq (by (try simp only [jlt, jle, jeq, kt_0, kt_1, kt_2, kt_3, kt_4, kt_5, kt_6, kt_7, kt_8, kt_9, kt_10, kt_11, kt_12, kt_13, kt_15, kt_16, kt_19, kt_20, kt_24, kt_25, kt_31, kt_32, kt_40, kt_50, kt_60, kt_63, kt_100, kt_120, kt_255, kt_300, kt_999999, kt_1000000, kt_m1, kt_m2, kt_m3, kt_m4, kt_m6, kt_m7, kt_m11, kt_m12, kt_m13, kt_m14, kt_m100] at c1); (try simp only [jlt, jle, jeq, kt_0, kt_1, kt_2, kt_3, kt_4, kt_5, kt_6, kt_7, kt_8, kt_9, kt_10, kt_11, kt_12, kt_13, kt_15, kt_16, kt_19, kt_20, kt_24, kt_25, kt_31, kt_32, kt_40, kt_50, kt_60, kt_63, kt_100, kt_120, kt_255, kt_300, kt_999999, kt_1000000, kt_m1, kt_m2, kt_m3, kt_m4, kt_m6, kt_m7, kt_m11, kt_m12, kt_m13, kt_m14, kt_m100] at c2); (try simp only [jlt, jle, jeq, kt_0, kt_1, kt_2, kt_3, kt_4, kt_5, kt_6, kt_7, kt_8, kt_9, kt_10, kt_11, kt_12, kt_13, kt_15, kt_16, kt_19, kt_20, kt_24, kt_25, kt_31, kt_32, kt_40, kt_50, kt_60, kt_63, kt_100, kt_120, kt_255, kt_300, kt_999999, kt_1000000, kt_m1, kt_m2, kt_m3, kt_m4, kt_m6, kt_m7, kt_m11, kt_m12, kt_m13, kt_m14, kt_m100] at c4); (try simp only [kt_0, kt_1, kt_2, kt_3, kt_4, kt_5, kt_6, kt_7, kt_8, kt_9, kt_10, kt_11, kt_12, kt_13, kt_15, kt_16, kt_19, kt_20, kt_24, kt_25, kt_31, kt_32, kt_40, kt_50, kt_60, kt_63, kt_100, kt_120, kt_255, kt_300, kt_999999, kt_1000000, kt_m1, kt_m2, kt_m3, kt_m4, kt_m6, kt_m7, kt_m11, kt_m12, kt_m13, kt_m14, kt_m100]); omega)), fr0⟩ (jbnd hk.1 rfl) (jbnd hk.2 rfl)
      · have c4 := jbo.mp c4
        refine j_blk 18 [(0, .ref x), (1, .int n), (2, .int a), (3, .int b), (4, .int c), (5, .int d), (6, .int e)] [.int b] C k_c_CS_feed_17_1 rfl ?_
        refine j_callS (As := [.int b]) C Rm Y [] (c_CS_isByte l D B H0 w b) cl_CS_47 d_c_CS_feed_18 rfl rfl (Nat.le_of_ble_eq_true rfl) ⟨by decide, by decide⟩ ⟨jroom hk.1 rfl, jroom hk.2 rfl⟩ (fun v5 w_2 pw_2 => ?_)
        obtain ⟨rfl, rfl⟩ := pw_2
        show JJ g w 21 [(0, .ref x), (1, .int n), (2, .int a), (3, .int b), (4, .int c), (5, .int d), (6, .int e)] [.int (if 0 ≤ b.toInt ∧ b.toInt ≤ 255 then 1 else 0)]
        refine j_if_eq (tgt := 48) C d_c_CS_feed_21 (by decide) (fun c6 => ?_) (fun c6 => ?_)
        · have c6 := jbz.mp c6
          refine j_blk 50 [(0, .ref x), (1, .int n), (2, .int a), (3, .int b), (4, .int c), (5, .int d), (6, .int e)] [.int (-2)] C k_c_CS_feed_48_1 rfl ?_
          exact j_iret C Rm E d_c_CS_feed_50 ⟨jin_ (fun hq => absurd hq (by (try simp only [jlt, jle, jeq, kt_0, kt_1, kt_2, kt_3, kt_4, kt_5, kt_6, kt_7, kt_8, kt_9, kt_10, kt_11, kt_12, kt_13, kt_15, kt_16, kt_19, kt_20, kt_24, kt_25, kt_31, kt_32, kt_40, kt_50, kt_60, kt_63, kt_100, kt_120, kt_255, kt_300, kt_999999, kt_1000000, kt_m1, kt_m2, kt_m3, kt_m4, kt_m6, kt_m7, kt_m11, kt_m12, kt_m13, kt_m14, kt_m100] at c1); (try simp only [jlt, jle, jeq, kt_0, kt_1, kt_2, kt_3, kt_4, kt_5, kt_6, kt_7, kt_8, kt_9, kt_10, kt_11, kt_12, kt_13, kt_15, kt_16, kt_19, kt_20, kt_24, kt_25, kt_31, kt_32, kt_40, kt_50, kt_60, kt_63, kt_100, kt_120, kt_255, kt_300, kt_999999, kt_1000000, kt_m1, kt_m2, kt_m3, kt_m4, kt_m6, kt_m7, kt_m11, kt_m12, kt_m13, kt_m14, kt_m100] at c2); (try simp only [jlt, jle, jeq, kt_0, kt_1, kt_2, kt_3, kt_4, kt_5, kt_6, kt_7, kt_8, kt_9, kt_10, kt_11, kt_12, kt_13, kt_15, kt_16, kt_19, kt_20, kt_24, kt_25, kt_31, kt_32, kt_40, kt_50, kt_60, kt_63, kt_100, kt_120, kt_255, kt_300, kt_999999, kt_1000000, kt_m1, kt_m2, kt_m3, kt_m4, kt_m6, kt_m7, kt_m11, kt_m12, kt_m13, kt_m14, kt_m100] at c4); (try simp only [jlt, jle, jeq, kt_0, kt_1, kt_2, kt_3, kt_4, kt_5, kt_6, kt_7, kt_8, kt_9, kt_10, kt_11, kt_12, kt_13, kt_15, kt_16, kt_19, kt_20, kt_24, kt_25, kt_31, kt_32, kt_40, kt_50, kt_60, kt_63, kt_100, kt_120, kt_255, kt_300, kt_999999, kt_1000000, kt_m1, kt_m2, kt_m3, kt_m4, kt_m6, kt_m7, kt_m11, kt_m12, kt_m13, kt_m14, kt_m100] at c6); (try simp only [kt_0, kt_1, kt_2, kt_3, kt_4, kt_5, kt_6, kt_7, kt_8, kt_9, kt_10, kt_11, kt_12, kt_13, kt_15, kt_16, kt_19, kt_20, kt_24, kt_25, kt_31, kt_32, kt_40, kt_50, kt_60, kt_63, kt_100, kt_120, kt_255, kt_300, kt_999999, kt_1000000, kt_m1, kt_m2, kt_m3, kt_m4, kt_m6, kt_m7, kt_m11, kt_m12, kt_m13, kt_m14, kt_m100]); omega)), fr0⟩ (jbnd hk.1 rfl) (jbnd hk.2 rfl)
        · have c6 := jbo.mp c6
          refine j_blk 26 [(0, .ref x), (1, .int n), (2, .int a), (3, .int b), (4, .int c), (5, .int d), (6, .int e)] [.int c] C k_c_CS_feed_24_1 rfl ?_
          refine j_callS (As := [.int c]) C Rm Y [] (c_CS_isByte l D B H0 w c) cl_CS_47 d_c_CS_feed_26 rfl rfl (Nat.le_of_ble_eq_true rfl) ⟨by decide, by decide⟩ ⟨jroom hk.1 rfl, jroom hk.2 rfl⟩ (fun v7 w_3 pw_3 => ?_)
          obtain ⟨rfl, rfl⟩ := pw_3
          show JJ g w 29 [(0, .ref x), (1, .int n), (2, .int a), (3, .int b), (4, .int c), (5, .int d), (6, .int e)] [.int (if 0 ≤ c.toInt ∧ c.toInt ≤ 255 then 1 else 0)]
          refine j_if_eq (tgt := 48) C d_c_CS_feed_29 (by decide) (fun c8 => ?_) (fun c8 => ?_)
          · have c8 := jbz.mp c8
            refine j_blk 50 [(0, .ref x), (1, .int n), (2, .int a), (3, .int b), (4, .int c), (5, .int d), (6, .int e)] [.int (-2)] C k_c_CS_feed_48_1 rfl ?_
            exact j_iret C Rm E d_c_CS_feed_50 ⟨jin_ (fun hq => absurd hq (by (try simp only [jlt, jle, jeq, kt_0, kt_1, kt_2, kt_3, kt_4, kt_5, kt_6, kt_7, kt_8, kt_9, kt_10, kt_11, kt_12, kt_13, kt_15, kt_16, kt_19, kt_20, kt_24, kt_25, kt_31, kt_32, kt_40, kt_50, kt_60, kt_63, kt_100, kt_120, kt_255, kt_300, kt_999999, kt_1000000, kt_m1, kt_m2, kt_m3, kt_m4, kt_m6, kt_m7, kt_m11, kt_m12, kt_m13, kt_m14, kt_m100] at c1); (try simp only [jlt, jle, jeq, kt_0, kt_1, kt_2, kt_3, kt_4, kt_5, kt_6, kt_7, kt_8, kt_9, kt_10, kt_11, kt_12, kt_13, kt_15, kt_16, kt_19, kt_20, kt_24, kt_25, kt_31, kt_32, kt_40, kt_50, kt_60, kt_63, kt_100, kt_120, kt_255, kt_300, kt_999999, kt_1000000, kt_m1, kt_m2, kt_m3, kt_m4, kt_m6, kt_m7, kt_m11, kt_m12, kt_m13, kt_m14, kt_m100] at c2); (try simp only [jlt, jle, jeq, kt_0, kt_1, kt_2, kt_3, kt_4, kt_5, kt_6, kt_7, kt_8, kt_9, kt_10, kt_11, kt_12, kt_13, kt_15, kt_16, kt_19, kt_20, kt_24, kt_25, kt_31, kt_32, kt_40, kt_50, kt_60, kt_63, kt_100, kt_120, kt_255, kt_300, kt_999999, kt_1000000, kt_m1, kt_m2, kt_m3, kt_m4, kt_m6, kt_m7, kt_m11, kt_m12, kt_m13, kt_m14, kt_m100] at c4); (try simp only [jlt, jle, jeq, kt_0, kt_1, kt_2, kt_3, kt_4, kt_5, kt_6, kt_7, kt_8, kt_9, kt_10, kt_11, kt_12, kt_13, kt_15, kt_16, kt_19, kt_20, kt_24, kt_25, kt_31, kt_32, kt_40, kt_50, kt_60, kt_63, kt_100, kt_120, kt_255, kt_300, kt_999999, kt_1000000, kt_m1, kt_m2, kt_m3, kt_m4, kt_m6, kt_m7, kt_m11, kt_m12, kt_m13, kt_m14, kt_m100] at c6); (try simp only [jlt, jle, jeq, kt_0, kt_1, kt_2, kt_3, kt_4, kt_5, kt_6, kt_7, kt_8, kt_9, kt_10, kt_11, kt_12, kt_13, kt_15, kt_16, kt_19, kt_20, kt_24, kt_25, kt_31, kt_32, kt_40, kt_50, kt_60, kt_63, kt_100, kt_120, kt_255, kt_300, kt_999999, kt_1000000, kt_m1, kt_m2, kt_m3, kt_m4, kt_m6, kt_m7, kt_m11, kt_m12, kt_m13, kt_m14, kt_m100] at c8); (try simp only [kt_0, kt_1, kt_2, kt_3, kt_4, kt_5, kt_6, kt_7, kt_8, kt_9, kt_10, kt_11, kt_12, kt_13, kt_15, kt_16, kt_19, kt_20, kt_24, kt_25, kt_31, kt_32, kt_40, kt_50, kt_60, kt_63, kt_100, kt_120, kt_255, kt_300, kt_999999, kt_1000000, kt_m1, kt_m2, kt_m3, kt_m4, kt_m6, kt_m7, kt_m11, kt_m12, kt_m13, kt_m14, kt_m100]); omega)), fr0⟩ (jbnd hk.1 rfl) (jbnd hk.2 rfl)
          · have c8 := jbo.mp c8
            refine j_blk 34 [(0, .ref x), (1, .int n), (2, .int a), (3, .int b), (4, .int c), (5, .int d), (6, .int e)] [.int d] C k_c_CS_feed_32_1 rfl ?_
            refine j_callS (As := [.int d]) C Rm Y [] (c_CS_isByte l D B H0 w d) cl_CS_47 d_c_CS_feed_34 rfl rfl (Nat.le_of_ble_eq_true rfl) ⟨by decide, by decide⟩ ⟨jroom hk.1 rfl, jroom hk.2 rfl⟩ (fun v9 w_4 pw_4 => ?_)
            obtain ⟨rfl, rfl⟩ := pw_4
            show JJ g w 37 [(0, .ref x), (1, .int n), (2, .int a), (3, .int b), (4, .int c), (5, .int d), (6, .int e)] [.int (if 0 ≤ d.toInt ∧ d.toInt ≤ 255 then 1 else 0)]
            refine j_if_eq (tgt := 48) C d_c_CS_feed_37 (by decide) (fun c10 => ?_) (fun c10 => ?_)
            · have c10 := jbz.mp c10
              refine j_blk 50 [(0, .ref x), (1, .int n), (2, .int a), (3, .int b), (4, .int c), (5, .int d), (6, .int e)] [.int (-2)] C k_c_CS_feed_48_1 rfl ?_
              exact j_iret C Rm E d_c_CS_feed_50 ⟨jin_ (fun hq => absurd hq (by (try simp only [jlt, jle, jeq, kt_0, kt_1, kt_2, kt_3, kt_4, kt_5, kt_6, kt_7, kt_8, kt_9, kt_10, kt_11, kt_12, kt_13, kt_15, kt_16, kt_19, kt_20, kt_24, kt_25, kt_31, kt_32, kt_40, kt_50, kt_60, kt_63, kt_100, kt_120, kt_255, kt_300, kt_999999, kt_1000000, kt_m1, kt_m2, kt_m3, kt_m4, kt_m6, kt_m7, kt_m11, kt_m12, kt_m13, kt_m14, kt_m100] at c1); (try simp only [jlt, jle, jeq, kt_0, kt_1, kt_2, kt_3, kt_4, kt_5, kt_6, kt_7, kt_8, kt_9, kt_10, kt_11, kt_12, kt_13, kt_15, kt_16, kt_19, kt_20, kt_24, kt_25, kt_31, kt_32, kt_40, kt_50, kt_60, kt_63, kt_100, kt_120, kt_255, kt_300, kt_999999, kt_1000000, kt_m1, kt_m2, kt_m3, kt_m4, kt_m6, kt_m7, kt_m11, kt_m12, kt_m13, kt_m14, kt_m100] at c2); (try simp only [jlt, jle, jeq, kt_0, kt_1, kt_2, kt_3, kt_4, kt_5, kt_6, kt_7, kt_8, kt_9, kt_10, kt_11, kt_12, kt_13, kt_15, kt_16, kt_19, kt_20, kt_24, kt_25, kt_31, kt_32, kt_40, kt_50, kt_60, kt_63, kt_100, kt_120, kt_255, kt_300, kt_999999, kt_1000000, kt_m1, kt_m2, kt_m3, kt_m4, kt_m6, kt_m7, kt_m11, kt_m12, kt_m13, kt_m14, kt_m100] at c4); (try simp only [jlt, jle, jeq, kt_0, kt_1, kt_2, kt_3, kt_4, kt_5, kt_6, kt_7, kt_8, kt_9, kt_10, kt_11, kt_12, kt_13, kt_15, kt_16, kt_19, kt_20, kt_24, kt_25, kt_31, kt_32, kt_40, kt_50, kt_60, kt_63, kt_100, kt_120, kt_255, kt_300, kt_999999, kt_1000000, kt_m1, kt_m2, kt_m3, kt_m4, kt_m6, kt_m7, kt_m11, kt_m12, kt_m13, kt_m14, kt_m100] at c6); (try simp only [jlt, jle, jeq, kt_0, kt_1, kt_2, kt_3, kt_4, kt_5, kt_6, kt_7, kt_8, kt_9, kt_10, kt_11, kt_12, kt_13, kt_15, kt_16, kt_19, kt_20, kt_24, kt_25, kt_31, kt_32, kt_40, kt_50, kt_60, kt_63, kt_100, kt_120, kt_255, kt_300, kt_999999, kt_1000000, kt_m1, kt_m2, kt_m3, kt_m4, kt_m6, kt_m7, kt_m11, kt_m12, kt_m13, kt_m14, kt_m100] at c8); (try simp only [jlt, jle, jeq, kt_0, kt_1, kt_2, kt_3, kt_4, kt_5, kt_6, kt_7, kt_8, kt_9, kt_10, kt_11, kt_12, kt_13, kt_15, kt_16, kt_19, kt_20, kt_24, kt_25, kt_31, kt_32, kt_40, kt_50, kt_60, kt_63, kt_100, kt_120, kt_255, kt_300, kt_999999, kt_1000000, kt_m1, kt_m2, kt_m3, kt_m4, kt_m6, kt_m7, kt_m11, kt_m12, kt_m13, kt_m14, kt_m100] at c10); (try simp only [kt_0, kt_1, kt_2, kt_3, kt_4, kt_5, kt_6, kt_7, kt_8, kt_9, kt_10, kt_11, kt_12, kt_13, kt_15, kt_16, kt_19, kt_20, kt_24, kt_25, kt_31, kt_32, kt_40, kt_50, kt_60, kt_63, kt_100, kt_120, kt_255, kt_300, kt_999999, kt_1000000, kt_m1, kt_m2, kt_m3, kt_m4, kt_m6, kt_m7, kt_m11, kt_m12, kt_m13, kt_m14, kt_m100]); omega)), fr0⟩ (jbnd hk.1 rfl) (jbnd hk.2 rfl)
            · have c10 := jbo.mp c10
              refine j_blk 42 [(0, .ref x), (1, .int n), (2, .int a), (3, .int b), (4, .int c), (5, .int d), (6, .int e)] [.int e] C k_c_CS_feed_40_1 rfl ?_
              refine j_callS (As := [.int e]) C Rm Y [] (c_CS_isByte l D B H0 w e) cl_CS_47 d_c_CS_feed_42 rfl rfl (Nat.le_of_ble_eq_true rfl) ⟨by decide, by decide⟩ ⟨jroom hk.1 rfl, jroom hk.2 rfl⟩ (fun v11 w_5 pw_5 => ?_)
              obtain ⟨rfl, rfl⟩ := pw_5
              show JJ g w 45 [(0, .ref x), (1, .int n), (2, .int a), (3, .int b), (4, .int c), (5, .int d), (6, .int e)] [.int (if 0 ≤ e.toInt ∧ e.toInt ≤ 255 then 1 else 0)]
              refine j_if_ne (tgt := 51) C d_c_CS_feed_45 (by decide) (fun c12 => ?_) (fun c12 => ?_)
              · have c12 := jbo.mp c12
                have hn : n = 1 ∨ n = 2 ∨ n = 3 ∨ n = 4 ∨ n = 5 := by
                  have g1 : 1 ≤ n.toInt ∧ n.toInt ≤ 5 := (by (try simp only [jlt, jle, jeq, kt_0, kt_1, kt_2, kt_3, kt_4, kt_5, kt_6, kt_7, kt_8, kt_9, kt_10, kt_11, kt_12, kt_13, kt_15, kt_16, kt_19, kt_20, kt_24, kt_25, kt_31, kt_32, kt_40, kt_50, kt_60, kt_63, kt_100, kt_120, kt_255, kt_300, kt_999999, kt_1000000, kt_m1, kt_m2, kt_m3, kt_m4, kt_m6, kt_m7, kt_m11, kt_m12, kt_m13, kt_m14, kt_m100] at c1); (try simp only [jlt, jle, jeq, kt_0, kt_1, kt_2, kt_3, kt_4, kt_5, kt_6, kt_7, kt_8, kt_9, kt_10, kt_11, kt_12, kt_13, kt_15, kt_16, kt_19, kt_20, kt_24, kt_25, kt_31, kt_32, kt_40, kt_50, kt_60, kt_63, kt_100, kt_120, kt_255, kt_300, kt_999999, kt_1000000, kt_m1, kt_m2, kt_m3, kt_m4, kt_m6, kt_m7, kt_m11, kt_m12, kt_m13, kt_m14, kt_m100] at c2); (try simp only [jlt, jle, jeq, kt_0, kt_1, kt_2, kt_3, kt_4, kt_5, kt_6, kt_7, kt_8, kt_9, kt_10, kt_11, kt_12, kt_13, kt_15, kt_16, kt_19, kt_20, kt_24, kt_25, kt_31, kt_32, kt_40, kt_50, kt_60, kt_63, kt_100, kt_120, kt_255, kt_300, kt_999999, kt_1000000, kt_m1, kt_m2, kt_m3, kt_m4, kt_m6, kt_m7, kt_m11, kt_m12, kt_m13, kt_m14, kt_m100] at c4); (try simp only [jlt, jle, jeq, kt_0, kt_1, kt_2, kt_3, kt_4, kt_5, kt_6, kt_7, kt_8, kt_9, kt_10, kt_11, kt_12, kt_13, kt_15, kt_16, kt_19, kt_20, kt_24, kt_25, kt_31, kt_32, kt_40, kt_50, kt_60, kt_63, kt_100, kt_120, kt_255, kt_300, kt_999999, kt_1000000, kt_m1, kt_m2, kt_m3, kt_m4, kt_m6, kt_m7, kt_m11, kt_m12, kt_m13, kt_m14, kt_m100] at c6); (try simp only [jlt, jle, jeq, kt_0, kt_1, kt_2, kt_3, kt_4, kt_5, kt_6, kt_7, kt_8, kt_9, kt_10, kt_11, kt_12, kt_13, kt_15, kt_16, kt_19, kt_20, kt_24, kt_25, kt_31, kt_32, kt_40, kt_50, kt_60, kt_63, kt_100, kt_120, kt_255, kt_300, kt_999999, kt_1000000, kt_m1, kt_m2, kt_m3, kt_m4, kt_m6, kt_m7, kt_m11, kt_m12, kt_m13, kt_m14, kt_m100] at c8); (try simp only [jlt, jle, jeq, kt_0, kt_1, kt_2, kt_3, kt_4, kt_5, kt_6, kt_7, kt_8, kt_9, kt_10, kt_11, kt_12, kt_13, kt_15, kt_16, kt_19, kt_20, kt_24, kt_25, kt_31, kt_32, kt_40, kt_50, kt_60, kt_63, kt_100, kt_120, kt_255, kt_300, kt_999999, kt_1000000, kt_m1, kt_m2, kt_m3, kt_m4, kt_m6, kt_m7, kt_m11, kt_m12, kt_m13, kt_m14, kt_m100] at c10); (try simp only [jlt, jle, jeq, kt_0, kt_1, kt_2, kt_3, kt_4, kt_5, kt_6, kt_7, kt_8, kt_9, kt_10, kt_11, kt_12, kt_13, kt_15, kt_16, kt_19, kt_20, kt_24, kt_25, kt_31, kt_32, kt_40, kt_50, kt_60, kt_63, kt_100, kt_120, kt_255, kt_300, kt_999999, kt_1000000, kt_m1, kt_m2, kt_m3, kt_m4, kt_m6, kt_m7, kt_m11, kt_m12, kt_m13, kt_m14, kt_m100] at c12); (try simp only [kt_0, kt_1, kt_2, kt_3, kt_4, kt_5, kt_6, kt_7, kt_8, kt_9, kt_10, kt_11, kt_12, kt_13, kt_15, kt_16, kt_19, kt_20, kt_24, kt_25, kt_31, kt_32, kt_40, kt_50, kt_60, kt_63, kt_100, kt_120, kt_255, kt_300, kt_999999, kt_1000000, kt_m1, kt_m2, kt_m3, kt_m4, kt_m6, kt_m7, kt_m11, kt_m12, kt_m13, kt_m14, kt_m100]); omega)
                  simp only [jeq, kt_0, kt_1, kt_2, kt_3, kt_4, kt_5, kt_6, kt_7, kt_8, kt_9, kt_10, kt_11, kt_12, kt_13, kt_15, kt_16, kt_19, kt_20, kt_24, kt_25, kt_31, kt_32, kt_40, kt_50, kt_60, kt_63, kt_100, kt_120, kt_255, kt_300, kt_999999, kt_1000000, kt_m1, kt_m2, kt_m3, kt_m4, kt_m6, kt_m7, kt_m11, kt_m12, kt_m13, kt_m14, kt_m100]; clear hk; omega
                have hal : (1 ≤ n.toInt ∧ n.toInt ≤ 5) ∧ (0 ≤ a.toInt ∧ a.toInt ≤ 255) ∧ (0 ≤ b.toInt ∧ b.toInt ≤ 255) ∧ (0 ≤ c.toInt ∧ c.toInt ≤ 255) ∧ (0 ≤ d.toInt ∧ d.toInt ≤ 255) ∧ (0 ≤ e.toInt ∧ e.toInt ≤ 255) := ⟨(by (try simp only [jlt, jle, jeq, kt_0, kt_1, kt_2, kt_3, kt_4, kt_5, kt_6, kt_7, kt_8, kt_9, kt_10, kt_11, kt_12, kt_13, kt_15, kt_16, kt_19, kt_20, kt_24, kt_25, kt_31, kt_32, kt_40, kt_50, kt_60, kt_63, kt_100, kt_120, kt_255, kt_300, kt_999999, kt_1000000, kt_m1, kt_m2, kt_m3, kt_m4, kt_m6, kt_m7, kt_m11, kt_m12, kt_m13, kt_m14, kt_m100] at c1); (try simp only [jlt, jle, jeq, kt_0, kt_1, kt_2, kt_3, kt_4, kt_5, kt_6, kt_7, kt_8, kt_9, kt_10, kt_11, kt_12, kt_13, kt_15, kt_16, kt_19, kt_20, kt_24, kt_25, kt_31, kt_32, kt_40, kt_50, kt_60, kt_63, kt_100, kt_120, kt_255, kt_300, kt_999999, kt_1000000, kt_m1, kt_m2, kt_m3, kt_m4, kt_m6, kt_m7, kt_m11, kt_m12, kt_m13, kt_m14, kt_m100] at c2); (try simp only [jlt, jle, jeq, kt_0, kt_1, kt_2, kt_3, kt_4, kt_5, kt_6, kt_7, kt_8, kt_9, kt_10, kt_11, kt_12, kt_13, kt_15, kt_16, kt_19, kt_20, kt_24, kt_25, kt_31, kt_32, kt_40, kt_50, kt_60, kt_63, kt_100, kt_120, kt_255, kt_300, kt_999999, kt_1000000, kt_m1, kt_m2, kt_m3, kt_m4, kt_m6, kt_m7, kt_m11, kt_m12, kt_m13, kt_m14, kt_m100] at c4); (try simp only [jlt, jle, jeq, kt_0, kt_1, kt_2, kt_3, kt_4, kt_5, kt_6, kt_7, kt_8, kt_9, kt_10, kt_11, kt_12, kt_13, kt_15, kt_16, kt_19, kt_20, kt_24, kt_25, kt_31, kt_32, kt_40, kt_50, kt_60, kt_63, kt_100, kt_120, kt_255, kt_300, kt_999999, kt_1000000, kt_m1, kt_m2, kt_m3, kt_m4, kt_m6, kt_m7, kt_m11, kt_m12, kt_m13, kt_m14, kt_m100] at c6); (try simp only [jlt, jle, jeq, kt_0, kt_1, kt_2, kt_3, kt_4, kt_5, kt_6, kt_7, kt_8, kt_9, kt_10, kt_11, kt_12, kt_13, kt_15, kt_16, kt_19, kt_20, kt_24, kt_25, kt_31, kt_32, kt_40, kt_50, kt_60, kt_63, kt_100, kt_120, kt_255, kt_300, kt_999999, kt_1000000, kt_m1, kt_m2, kt_m3, kt_m4, kt_m6, kt_m7, kt_m11, kt_m12, kt_m13, kt_m14, kt_m100] at c8); (try simp only [jlt, jle, jeq, kt_0, kt_1, kt_2, kt_3, kt_4, kt_5, kt_6, kt_7, kt_8, kt_9, kt_10, kt_11, kt_12, kt_13, kt_15, kt_16, kt_19, kt_20, kt_24, kt_25, kt_31, kt_32, kt_40, kt_50, kt_60, kt_63, kt_100, kt_120, kt_255, kt_300, kt_999999, kt_1000000, kt_m1, kt_m2, kt_m3, kt_m4, kt_m6, kt_m7, kt_m11, kt_m12, kt_m13, kt_m14, kt_m100] at c10); (try simp only [jlt, jle, jeq, kt_0, kt_1, kt_2, kt_3, kt_4, kt_5, kt_6, kt_7, kt_8, kt_9, kt_10, kt_11, kt_12, kt_13, kt_15, kt_16, kt_19, kt_20, kt_24, kt_25, kt_31, kt_32, kt_40, kt_50, kt_60, kt_63, kt_100, kt_120, kt_255, kt_300, kt_999999, kt_1000000, kt_m1, kt_m2, kt_m3, kt_m4, kt_m6, kt_m7, kt_m11, kt_m12, kt_m13, kt_m14, kt_m100] at c12); show 1 ≤ n.toInt ∧ n.toInt ≤ 5; (try simp only [kt_0, kt_1, kt_2, kt_3, kt_4, kt_5, kt_6, kt_7, kt_8, kt_9, kt_10, kt_11, kt_12, kt_13, kt_15, kt_16, kt_19, kt_20, kt_24, kt_25, kt_31, kt_32, kt_40, kt_50, kt_60, kt_63, kt_100, kt_120, kt_255, kt_300, kt_999999, kt_1000000, kt_m1, kt_m2, kt_m3, kt_m4, kt_m6, kt_m7, kt_m11, kt_m12, kt_m13, kt_m14, kt_m100]); omega), (by (try simp only [jlt, jle, jeq, kt_0, kt_1, kt_2, kt_3, kt_4, kt_5, kt_6, kt_7, kt_8, kt_9, kt_10, kt_11, kt_12, kt_13, kt_15, kt_16, kt_19, kt_20, kt_24, kt_25, kt_31, kt_32, kt_40, kt_50, kt_60, kt_63, kt_100, kt_120, kt_255, kt_300, kt_999999, kt_1000000, kt_m1, kt_m2, kt_m3, kt_m4, kt_m6, kt_m7, kt_m11, kt_m12, kt_m13, kt_m14, kt_m100] at c1); (try simp only [jlt, jle, jeq, kt_0, kt_1, kt_2, kt_3, kt_4, kt_5, kt_6, kt_7, kt_8, kt_9, kt_10, kt_11, kt_12, kt_13, kt_15, kt_16, kt_19, kt_20, kt_24, kt_25, kt_31, kt_32, kt_40, kt_50, kt_60, kt_63, kt_100, kt_120, kt_255, kt_300, kt_999999, kt_1000000, kt_m1, kt_m2, kt_m3, kt_m4, kt_m6, kt_m7, kt_m11, kt_m12, kt_m13, kt_m14, kt_m100] at c2); (try simp only [jlt, jle, jeq, kt_0, kt_1, kt_2, kt_3, kt_4, kt_5, kt_6, kt_7, kt_8, kt_9, kt_10, kt_11, kt_12, kt_13, kt_15, kt_16, kt_19, kt_20, kt_24, kt_25, kt_31, kt_32, kt_40, kt_50, kt_60, kt_63, kt_100, kt_120, kt_255, kt_300, kt_999999, kt_1000000, kt_m1, kt_m2, kt_m3, kt_m4, kt_m6, kt_m7, kt_m11, kt_m12, kt_m13, kt_m14, kt_m100] at c4); (try simp only [jlt, jle, jeq, kt_0, kt_1, kt_2, kt_3, kt_4, kt_5, kt_6, kt_7, kt_8, kt_9, kt_10, kt_11, kt_12, kt_13, kt_15, kt_16, kt_19, kt_20, kt_24, kt_25, kt_31, kt_32, kt_40, kt_50, kt_60, kt_63, kt_100, kt_120, kt_255, kt_300, kt_999999, kt_1000000, kt_m1, kt_m2, kt_m3, kt_m4, kt_m6, kt_m7, kt_m11, kt_m12, kt_m13, kt_m14, kt_m100] at c6); (try simp only [jlt, jle, jeq, kt_0, kt_1, kt_2, kt_3, kt_4, kt_5, kt_6, kt_7, kt_8, kt_9, kt_10, kt_11, kt_12, kt_13, kt_15, kt_16, kt_19, kt_20, kt_24, kt_25, kt_31, kt_32, kt_40, kt_50, kt_60, kt_63, kt_100, kt_120, kt_255, kt_300, kt_999999, kt_1000000, kt_m1, kt_m2, kt_m3, kt_m4, kt_m6, kt_m7, kt_m11, kt_m12, kt_m13, kt_m14, kt_m100] at c8); (try simp only [jlt, jle, jeq, kt_0, kt_1, kt_2, kt_3, kt_4, kt_5, kt_6, kt_7, kt_8, kt_9, kt_10, kt_11, kt_12, kt_13, kt_15, kt_16, kt_19, kt_20, kt_24, kt_25, kt_31, kt_32, kt_40, kt_50, kt_60, kt_63, kt_100, kt_120, kt_255, kt_300, kt_999999, kt_1000000, kt_m1, kt_m2, kt_m3, kt_m4, kt_m6, kt_m7, kt_m11, kt_m12, kt_m13, kt_m14, kt_m100] at c10); (try simp only [jlt, jle, jeq, kt_0, kt_1, kt_2, kt_3, kt_4, kt_5, kt_6, kt_7, kt_8, kt_9, kt_10, kt_11, kt_12, kt_13, kt_15, kt_16, kt_19, kt_20, kt_24, kt_25, kt_31, kt_32, kt_40, kt_50, kt_60, kt_63, kt_100, kt_120, kt_255, kt_300, kt_999999, kt_1000000, kt_m1, kt_m2, kt_m3, kt_m4, kt_m6, kt_m7, kt_m11, kt_m12, kt_m13, kt_m14, kt_m100] at c12); show 0 ≤ a.toInt ∧ a.toInt ≤ 255; (try simp only [kt_0, kt_1, kt_2, kt_3, kt_4, kt_5, kt_6, kt_7, kt_8, kt_9, kt_10, kt_11, kt_12, kt_13, kt_15, kt_16, kt_19, kt_20, kt_24, kt_25, kt_31, kt_32, kt_40, kt_50, kt_60, kt_63, kt_100, kt_120, kt_255, kt_300, kt_999999, kt_1000000, kt_m1, kt_m2, kt_m3, kt_m4, kt_m6, kt_m7, kt_m11, kt_m12, kt_m13, kt_m14, kt_m100]); omega), (by (try simp only [jlt, jle, jeq, kt_0, kt_1, kt_2, kt_3, kt_4, kt_5, kt_6, kt_7, kt_8, kt_9, kt_10, kt_11, kt_12, kt_13, kt_15, kt_16, kt_19, kt_20, kt_24, kt_25, kt_31, kt_32, kt_40, kt_50, kt_60, kt_63, kt_100, kt_120, kt_255, kt_300, kt_999999, kt_1000000, kt_m1, kt_m2, kt_m3, kt_m4, kt_m6, kt_m7, kt_m11, kt_m12, kt_m13, kt_m14, kt_m100] at c1); (try simp only [jlt, jle, jeq, kt_0, kt_1, kt_2, kt_3, kt_4, kt_5, kt_6, kt_7, kt_8, kt_9, kt_10, kt_11, kt_12, kt_13, kt_15, kt_16, kt_19, kt_20, kt_24, kt_25, kt_31, kt_32, kt_40, kt_50, kt_60, kt_63, kt_100, kt_120, kt_255, kt_300, kt_999999, kt_1000000, kt_m1, kt_m2, kt_m3, kt_m4, kt_m6, kt_m7, kt_m11, kt_m12, kt_m13, kt_m14, kt_m100] at c2); (try simp only [jlt, jle, jeq, kt_0, kt_1, kt_2, kt_3, kt_4, kt_5, kt_6, kt_7, kt_8, kt_9, kt_10, kt_11, kt_12, kt_13, kt_15, kt_16, kt_19, kt_20, kt_24, kt_25, kt_31, kt_32, kt_40, kt_50, kt_60, kt_63, kt_100, kt_120, kt_255, kt_300, kt_999999, kt_1000000, kt_m1, kt_m2, kt_m3, kt_m4, kt_m6, kt_m7, kt_m11, kt_m12, kt_m13, kt_m14, kt_m100] at c4); (try simp only [jlt, jle, jeq, kt_0, kt_1, kt_2, kt_3, kt_4, kt_5, kt_6, kt_7, kt_8, kt_9, kt_10, kt_11, kt_12, kt_13, kt_15, kt_16, kt_19, kt_20, kt_24, kt_25, kt_31, kt_32, kt_40, kt_50, kt_60, kt_63, kt_100, kt_120, kt_255, kt_300, kt_999999, kt_1000000, kt_m1, kt_m2, kt_m3, kt_m4, kt_m6, kt_m7, kt_m11, kt_m12, kt_m13, kt_m14, kt_m100] at c6); (try simp only [jlt, jle, jeq, kt_0, kt_1, kt_2, kt_3, kt_4, kt_5, kt_6, kt_7, kt_8, kt_9, kt_10, kt_11, kt_12, kt_13, kt_15, kt_16, kt_19, kt_20, kt_24, kt_25, kt_31, kt_32, kt_40, kt_50, kt_60, kt_63, kt_100, kt_120, kt_255, kt_300, kt_999999, kt_1000000, kt_m1, kt_m2, kt_m3, kt_m4, kt_m6, kt_m7, kt_m11, kt_m12, kt_m13, kt_m14, kt_m100] at c8); (try simp only [jlt, jle, jeq, kt_0, kt_1, kt_2, kt_3, kt_4, kt_5, kt_6, kt_7, kt_8, kt_9, kt_10, kt_11, kt_12, kt_13, kt_15, kt_16, kt_19, kt_20, kt_24, kt_25, kt_31, kt_32, kt_40, kt_50, kt_60, kt_63, kt_100, kt_120, kt_255, kt_300, kt_999999, kt_1000000, kt_m1, kt_m2, kt_m3, kt_m4, kt_m6, kt_m7, kt_m11, kt_m12, kt_m13, kt_m14, kt_m100] at c10); (try simp only [jlt, jle, jeq, kt_0, kt_1, kt_2, kt_3, kt_4, kt_5, kt_6, kt_7, kt_8, kt_9, kt_10, kt_11, kt_12, kt_13, kt_15, kt_16, kt_19, kt_20, kt_24, kt_25, kt_31, kt_32, kt_40, kt_50, kt_60, kt_63, kt_100, kt_120, kt_255, kt_300, kt_999999, kt_1000000, kt_m1, kt_m2, kt_m3, kt_m4, kt_m6, kt_m7, kt_m11, kt_m12, kt_m13, kt_m14, kt_m100] at c12); show 0 ≤ b.toInt ∧ b.toInt ≤ 255; (try simp only [kt_0, kt_1, kt_2, kt_3, kt_4, kt_5, kt_6, kt_7, kt_8, kt_9, kt_10, kt_11, kt_12, kt_13, kt_15, kt_16, kt_19, kt_20, kt_24, kt_25, kt_31, kt_32, kt_40, kt_50, kt_60, kt_63, kt_100, kt_120, kt_255, kt_300, kt_999999, kt_1000000, kt_m1, kt_m2, kt_m3, kt_m4, kt_m6, kt_m7, kt_m11, kt_m12, kt_m13, kt_m14, kt_m100]); omega), (by (try simp only [jlt, jle, jeq, kt_0, kt_1, kt_2, kt_3, kt_4, kt_5, kt_6, kt_7, kt_8, kt_9, kt_10, kt_11, kt_12, kt_13, kt_15, kt_16, kt_19, kt_20, kt_24, kt_25, kt_31, kt_32, kt_40, kt_50, kt_60, kt_63, kt_100, kt_120, kt_255, kt_300, kt_999999, kt_1000000, kt_m1, kt_m2, kt_m3, kt_m4, kt_m6, kt_m7, kt_m11, kt_m12, kt_m13, kt_m14, kt_m100] at c1); (try simp only [jlt, jle, jeq, kt_0, kt_1, kt_2, kt_3, kt_4, kt_5, kt_6, kt_7, kt_8, kt_9, kt_10, kt_11, kt_12, kt_13, kt_15, kt_16, kt_19, kt_20, kt_24, kt_25, kt_31, kt_32, kt_40, kt_50, kt_60, kt_63, kt_100, kt_120, kt_255, kt_300, kt_999999, kt_1000000, kt_m1, kt_m2, kt_m3, kt_m4, kt_m6, kt_m7, kt_m11, kt_m12, kt_m13, kt_m14, kt_m100] at c2); (try simp only [jlt, jle, jeq, kt_0, kt_1, kt_2, kt_3, kt_4, kt_5, kt_6, kt_7, kt_8, kt_9, kt_10, kt_11, kt_12, kt_13, kt_15, kt_16, kt_19, kt_20, kt_24, kt_25, kt_31, kt_32, kt_40, kt_50, kt_60, kt_63, kt_100, kt_120, kt_255, kt_300, kt_999999, kt_1000000, kt_m1, kt_m2, kt_m3, kt_m4, kt_m6, kt_m7, kt_m11, kt_m12, kt_m13, kt_m14, kt_m100] at c4); (try simp only [jlt, jle, jeq, kt_0, kt_1, kt_2, kt_3, kt_4, kt_5, kt_6, kt_7, kt_8, kt_9, kt_10, kt_11, kt_12, kt_13, kt_15, kt_16, kt_19, kt_20, kt_24, kt_25, kt_31, kt_32, kt_40, kt_50, kt_60, kt_63, kt_100, kt_120, kt_255, kt_300, kt_999999, kt_1000000, kt_m1, kt_m2, kt_m3, kt_m4, kt_m6, kt_m7, kt_m11, kt_m12, kt_m13, kt_m14, kt_m100] at c6); (try simp only [jlt, jle, jeq, kt_0, kt_1, kt_2, kt_3, kt_4, kt_5, kt_6, kt_7, kt_8, kt_9, kt_10, kt_11, kt_12, kt_13, kt_15, kt_16, kt_19, kt_20, kt_24, kt_25, kt_31, kt_32, kt_40, kt_50, kt_60, kt_63, kt_100, kt_120, kt_255, kt_300, kt_999999, kt_1000000, kt_m1, kt_m2, kt_m3, kt_m4, kt_m6, kt_m7, kt_m11, kt_m12, kt_m13, kt_m14, kt_m100] at c8); (try simp only [jlt, jle, jeq, kt_0, kt_1, kt_2, kt_3, kt_4, kt_5, kt_6, kt_7, kt_8, kt_9, kt_10, kt_11, kt_12, kt_13, kt_15, kt_16, kt_19, kt_20, kt_24, kt_25, kt_31, kt_32, kt_40, kt_50, kt_60, kt_63, kt_100, kt_120, kt_255, kt_300, kt_999999, kt_1000000, kt_m1, kt_m2, kt_m3, kt_m4, kt_m6, kt_m7, kt_m11, kt_m12, kt_m13, kt_m14, kt_m100] at c10); (try simp only [jlt, jle, jeq, kt_0, kt_1, kt_2, kt_3, kt_4, kt_5, kt_6, kt_7, kt_8, kt_9, kt_10, kt_11, kt_12, kt_13, kt_15, kt_16, kt_19, kt_20, kt_24, kt_25, kt_31, kt_32, kt_40, kt_50, kt_60, kt_63, kt_100, kt_120, kt_255, kt_300, kt_999999, kt_1000000, kt_m1, kt_m2, kt_m3, kt_m4, kt_m6, kt_m7, kt_m11, kt_m12, kt_m13, kt_m14, kt_m100] at c12); show 0 ≤ c.toInt ∧ c.toInt ≤ 255; (try simp only [kt_0, kt_1, kt_2, kt_3, kt_4, kt_5, kt_6, kt_7, kt_8, kt_9, kt_10, kt_11, kt_12, kt_13, kt_15, kt_16, kt_19, kt_20, kt_24, kt_25, kt_31, kt_32, kt_40, kt_50, kt_60, kt_63, kt_100, kt_120, kt_255, kt_300, kt_999999, kt_1000000, kt_m1, kt_m2, kt_m3, kt_m4, kt_m6, kt_m7, kt_m11, kt_m12, kt_m13, kt_m14, kt_m100]); omega), (by (try simp only [jlt, jle, jeq, kt_0, kt_1, kt_2, kt_3, kt_4, kt_5, kt_6, kt_7, kt_8, kt_9, kt_10, kt_11, kt_12, kt_13, kt_15, kt_16, kt_19, kt_20, kt_24, kt_25, kt_31, kt_32, kt_40, kt_50, kt_60, kt_63, kt_100, kt_120, kt_255, kt_300, kt_999999, kt_1000000, kt_m1, kt_m2, kt_m3, kt_m4, kt_m6, kt_m7, kt_m11, kt_m12, kt_m13, kt_m14, kt_m100] at c1); (try simp only [jlt, jle, jeq, kt_0, kt_1, kt_2, kt_3, kt_4, kt_5, kt_6, kt_7, kt_8, kt_9, kt_10, kt_11, kt_12, kt_13, kt_15, kt_16, kt_19, kt_20, kt_24, kt_25, kt_31, kt_32, kt_40, kt_50, kt_60, kt_63, kt_100, kt_120, kt_255, kt_300, kt_999999, kt_1000000, kt_m1, kt_m2, kt_m3, kt_m4, kt_m6, kt_m7, kt_m11, kt_m12, kt_m13, kt_m14, kt_m100] at c2); (try simp only [jlt, jle, jeq, kt_0, kt_1, kt_2, kt_3, kt_4, kt_5, kt_6, kt_7, kt_8, kt_9, kt_10, kt_11, kt_12, kt_13, kt_15, kt_16, kt_19, kt_20, kt_24, kt_25, kt_31, kt_32, kt_40, kt_50, kt_60, kt_63, kt_100, kt_120, kt_255, kt_300, kt_999999, kt_1000000, kt_m1, kt_m2, kt_m3, kt_m4, kt_m6, kt_m7, kt_m11, kt_m12, kt_m13, kt_m14, kt_m100] at c4); (try simp only [jlt, jle, jeq, kt_0, kt_1, kt_2, kt_3, kt_4, kt_5, kt_6, kt_7, kt_8, kt_9, kt_10, kt_11, kt_12, kt_13, kt_15, kt_16, kt_19, kt_20, kt_24, kt_25, kt_31, kt_32, kt_40, kt_50, kt_60, kt_63, kt_100, kt_120, kt_255, kt_300, kt_999999, kt_1000000, kt_m1, kt_m2, kt_m3, kt_m4, kt_m6, kt_m7, kt_m11, kt_m12, kt_m13, kt_m14, kt_m100] at c6); (try simp only [jlt, jle, jeq, kt_0, kt_1, kt_2, kt_3, kt_4, kt_5, kt_6, kt_7, kt_8, kt_9, kt_10, kt_11, kt_12, kt_13, kt_15, kt_16, kt_19, kt_20, kt_24, kt_25, kt_31, kt_32, kt_40, kt_50, kt_60, kt_63, kt_100, kt_120, kt_255, kt_300, kt_999999, kt_1000000, kt_m1, kt_m2, kt_m3, kt_m4, kt_m6, kt_m7, kt_m11, kt_m12, kt_m13, kt_m14, kt_m100] at c8); (try simp only [jlt, jle, jeq, kt_0, kt_1, kt_2, kt_3, kt_4, kt_5, kt_6, kt_7, kt_8, kt_9, kt_10, kt_11, kt_12, kt_13, kt_15, kt_16, kt_19, kt_20, kt_24, kt_25, kt_31, kt_32, kt_40, kt_50, kt_60, kt_63, kt_100, kt_120, kt_255, kt_300, kt_999999, kt_1000000, kt_m1, kt_m2, kt_m3, kt_m4, kt_m6, kt_m7, kt_m11, kt_m12, kt_m13, kt_m14, kt_m100] at c10); (try simp only [jlt, jle, jeq, kt_0, kt_1, kt_2, kt_3, kt_4, kt_5, kt_6, kt_7, kt_8, kt_9, kt_10, kt_11, kt_12, kt_13, kt_15, kt_16, kt_19, kt_20, kt_24, kt_25, kt_31, kt_32, kt_40, kt_50, kt_60, kt_63, kt_100, kt_120, kt_255, kt_300, kt_999999, kt_1000000, kt_m1, kt_m2, kt_m3, kt_m4, kt_m6, kt_m7, kt_m11, kt_m12, kt_m13, kt_m14, kt_m100] at c12); show 0 ≤ d.toInt ∧ d.toInt ≤ 255; (try simp only [kt_0, kt_1, kt_2, kt_3, kt_4, kt_5, kt_6, kt_7, kt_8, kt_9, kt_10, kt_11, kt_12, kt_13, kt_15, kt_16, kt_19, kt_20, kt_24, kt_25, kt_31, kt_32, kt_40, kt_50, kt_60, kt_63, kt_100, kt_120, kt_255, kt_300, kt_999999, kt_1000000, kt_m1, kt_m2, kt_m3, kt_m4, kt_m6, kt_m7, kt_m11, kt_m12, kt_m13, kt_m14, kt_m100]); omega), (by (try simp only [jlt, jle, jeq, kt_0, kt_1, kt_2, kt_3, kt_4, kt_5, kt_6, kt_7, kt_8, kt_9, kt_10, kt_11, kt_12, kt_13, kt_15, kt_16, kt_19, kt_20, kt_24, kt_25, kt_31, kt_32, kt_40, kt_50, kt_60, kt_63, kt_100, kt_120, kt_255, kt_300, kt_999999, kt_1000000, kt_m1, kt_m2, kt_m3, kt_m4, kt_m6, kt_m7, kt_m11, kt_m12, kt_m13, kt_m14, kt_m100] at c1); (try simp only [jlt, jle, jeq, kt_0, kt_1, kt_2, kt_3, kt_4, kt_5, kt_6, kt_7, kt_8, kt_9, kt_10, kt_11, kt_12, kt_13, kt_15, kt_16, kt_19, kt_20, kt_24, kt_25, kt_31, kt_32, kt_40, kt_50, kt_60, kt_63, kt_100, kt_120, kt_255, kt_300, kt_999999, kt_1000000, kt_m1, kt_m2, kt_m3, kt_m4, kt_m6, kt_m7, kt_m11, kt_m12, kt_m13, kt_m14, kt_m100] at c2); (try simp only [jlt, jle, jeq, kt_0, kt_1, kt_2, kt_3, kt_4, kt_5, kt_6, kt_7, kt_8, kt_9, kt_10, kt_11, kt_12, kt_13, kt_15, kt_16, kt_19, kt_20, kt_24, kt_25, kt_31, kt_32, kt_40, kt_50, kt_60, kt_63, kt_100, kt_120, kt_255, kt_300, kt_999999, kt_1000000, kt_m1, kt_m2, kt_m3, kt_m4, kt_m6, kt_m7, kt_m11, kt_m12, kt_m13, kt_m14, kt_m100] at c4); (try simp only [jlt, jle, jeq, kt_0, kt_1, kt_2, kt_3, kt_4, kt_5, kt_6, kt_7, kt_8, kt_9, kt_10, kt_11, kt_12, kt_13, kt_15, kt_16, kt_19, kt_20, kt_24, kt_25, kt_31, kt_32, kt_40, kt_50, kt_60, kt_63, kt_100, kt_120, kt_255, kt_300, kt_999999, kt_1000000, kt_m1, kt_m2, kt_m3, kt_m4, kt_m6, kt_m7, kt_m11, kt_m12, kt_m13, kt_m14, kt_m100] at c6); (try simp only [jlt, jle, jeq, kt_0, kt_1, kt_2, kt_3, kt_4, kt_5, kt_6, kt_7, kt_8, kt_9, kt_10, kt_11, kt_12, kt_13, kt_15, kt_16, kt_19, kt_20, kt_24, kt_25, kt_31, kt_32, kt_40, kt_50, kt_60, kt_63, kt_100, kt_120, kt_255, kt_300, kt_999999, kt_1000000, kt_m1, kt_m2, kt_m3, kt_m4, kt_m6, kt_m7, kt_m11, kt_m12, kt_m13, kt_m14, kt_m100] at c8); (try simp only [jlt, jle, jeq, kt_0, kt_1, kt_2, kt_3, kt_4, kt_5, kt_6, kt_7, kt_8, kt_9, kt_10, kt_11, kt_12, kt_13, kt_15, kt_16, kt_19, kt_20, kt_24, kt_25, kt_31, kt_32, kt_40, kt_50, kt_60, kt_63, kt_100, kt_120, kt_255, kt_300, kt_999999, kt_1000000, kt_m1, kt_m2, kt_m3, kt_m4, kt_m6, kt_m7, kt_m11, kt_m12, kt_m13, kt_m14, kt_m100] at c10); (try simp only [jlt, jle, jeq, kt_0, kt_1, kt_2, kt_3, kt_4, kt_5, kt_6, kt_7, kt_8, kt_9, kt_10, kt_11, kt_12, kt_13, kt_15, kt_16, kt_19, kt_20, kt_24, kt_25, kt_31, kt_32, kt_40, kt_50, kt_60, kt_63, kt_100, kt_120, kt_255, kt_300, kt_999999, kt_1000000, kt_m1, kt_m2, kt_m3, kt_m4, kt_m6, kt_m7, kt_m11, kt_m12, kt_m13, kt_m14, kt_m100] at c12); show 0 ≤ e.toInt ∧ e.toInt ≤ 255; (try simp only [kt_0, kt_1, kt_2, kt_3, kt_4, kt_5, kt_6, kt_7, kt_8, kt_9, kt_10, kt_11, kt_12, kt_13, kt_15, kt_16, kt_19, kt_20, kt_24, kt_25, kt_31, kt_32, kt_40, kt_50, kt_60, kt_63, kt_100, kt_120, kt_255, kt_300, kt_999999, kt_1000000, kt_m1, kt_m2, kt_m3, kt_m4, kt_m6, kt_m7, kt_m11, kt_m12, kt_m13, kt_m14, kt_m100]); omega)⟩
                have hres : some (Value.int n) = some (Value.int (an_feed n a b c d e)) := jip hal
                clear hal c1 c2 c4 c6 c8 c10 c12
                rcases hn with rfl | rfl | rfl | rfl | rfl
                · show JJ g w 51 [(0, .ref x), (1, .int 1), (2, .int a), (3, .int b), (4, .int c), (5, .int d), (6, .int e)] []
                  refine j_blk 55 [(0, .ref x), (1, .int 1), (2, .int a), (3, .int b), (4, .int c), (5, .int d), (6, .int e)] [.ref x, .int 120, .int 1] C k_c_CS_feed_51_3 rfl ?_
                  refine j_get C d_c_CS_feed_55 fg_CS_51 hx h1 ?_
                  refine j_blk 59 [(0, .ref x), (1, .int 1), (2, .int a), (3, .int b), (4, .int c), (5, .int d), (6, .int e)] [.int 120, .int 1] C k_c_CS_feed_58_1 rfl ?_
                  refine j_icmp_le (tgt := 65) C d_c_CS_feed_59 (by decide) (fun c13 => ?_) (fun c13 => absurd (by decide) c13)
                  refine j_blk 71 [(7, .int 0), (0, .ref x), (1, .int 1), (2, .int a), (3, .int b), (4, .int c), (5, .int d), (6, .int e)] [.int 1, .int 0] C k_c_CS_feed_65_4 rfl ?_
                  refine j_icmp_ge (tgt := 127) C d_c_CS_feed_71 (by decide) (fun c14 => absurd c14 (by decide)) (fun c14 => ?_)
                  refine j_blk 77 [(7, .int 0), (0, .ref x), (1, .int 1), (2, .int a), (3, .int b), (4, .int c), (5, .int d), (6, .int e)] [.int 0, .ref x] C k_c_CS_feed_74_2 rfl ?_
                  refine j_if_ne (tgt := 84) C d_c_CS_feed_77 (by decide) (fun c15 => absurd (by decide) c15) (fun c15 => ?_)
                  refine j_blk 118 [(7, .int 0), (0, .ref x), (1, .int 1), (2, .int a), (3, .int b), (4, .int c), (5, .int d), (6, .int e)] [.int a, .ref x] C k_c_CS_feed_80_2 rfl ?_
                  refine j_callV C Rm Y [.int a] [] (c_CS_append l D B H0 w x tp V (fun _ => 0) 0 a hx h0 h1 ht (by decide) (by decide)) cl_CS_55 (by rfl) (by rfl) hx d_c_CS_feed_118 rfl rfl (Nat.le_of_ble_eq_true rfl) ⟨by decide, by decide⟩ ⟨jroom hk.1 rfl, jroom hk.2 rfl⟩ (fun v16 w_6 pw_6 => ?_)
                  obtain ⟨rfl, hc_w_6, G_w_6, mx_w_6, mt_w_6⟩ := pw_6
                  have hk_w_6 := jkT hk hc_w_6
                  have fr_w_6 := jfrT fr0 G_w_6 (fun b e hb hv => ⟨(fun b e hb _ => Nat.ne_of_gt (Nat.lt_of_lt_of_le xq hb)) b e hb hv, (fun b e hb _ => Nat.ne_of_gt (Nat.lt_of_lt_of_le tq hb)) b e hb hv⟩)
                  show JJ g w_6 121 [(7, .int 0), (0, .ref x), (1, .int 1), (2, .int a), (3, .int b), (4, .int c), (5, .int d), (6, .int e)] []
                  refine j_blk 68 [(7, .int 1), (0, .ref x), (1, .int 1), (2, .int a), (3, .int b), (4, .int c), (5, .int d), (6, .int e)] [] C k_c_CS_feed_121_2 rfl ?_
                  refine j_blk 71 [(7, .int 1), (0, .ref x), (1, .int 1), (2, .int a), (3, .int b), (4, .int c), (5, .int d), (6, .int e)] [.int 1, .int 1] C k_c_CS_feed_68_2 rfl ?_
                  refine j_icmp_ge (tgt := 127) C d_c_CS_feed_71 (by decide) (fun c17 => ?_) (fun c17 => absurd (by decide) c17)
                  refine j_blk 128 [(7, .int 1), (0, .ref x), (1, .int 1), (2, .int a), (3, .int b), (4, .int c), (5, .int d), (6, .int e)] [.ref x] C k_c_CS_feed_127_1 rfl ?_
                  refine j_get C d_c_CS_feed_128 fg_CS_51 mx_w_6 rfl ?_
                  exact j_iret C Rm E d_c_CS_feed_131 ⟨hres, fr_w_6⟩ (jbnd hk_w_6.1 rfl) (jbnd hk_w_6.2 rfl)
                · show JJ g w 51 [(0, .ref x), (1, .int 2), (2, .int a), (3, .int b), (4, .int c), (5, .int d), (6, .int e)] []
                  refine j_blk 55 [(0, .ref x), (1, .int 2), (2, .int a), (3, .int b), (4, .int c), (5, .int d), (6, .int e)] [.ref x, .int 120, .int 2] C k_c_CS_feed_51_3 rfl ?_
                  refine j_get C d_c_CS_feed_55 fg_CS_51 hx h1 ?_
                  refine j_blk 59 [(0, .ref x), (1, .int 2), (2, .int a), (3, .int b), (4, .int c), (5, .int d), (6, .int e)] [.int 120, .int 2] C k_c_CS_feed_58_1 rfl ?_
                  refine j_icmp_le (tgt := 65) C d_c_CS_feed_59 (by decide) (fun c18 => ?_) (fun c18 => absurd (by decide) c18)
                  refine j_blk 71 [(7, .int 0), (0, .ref x), (1, .int 2), (2, .int a), (3, .int b), (4, .int c), (5, .int d), (6, .int e)] [.int 2, .int 0] C k_c_CS_feed_65_4 rfl ?_
                  refine j_icmp_ge (tgt := 127) C d_c_CS_feed_71 (by decide) (fun c19 => absurd c19 (by decide)) (fun c19 => ?_)
                  refine j_blk 77 [(7, .int 0), (0, .ref x), (1, .int 2), (2, .int a), (3, .int b), (4, .int c), (5, .int d), (6, .int e)] [.int 0, .ref x] C k_c_CS_feed_74_2 rfl ?_
                  refine j_if_ne (tgt := 84) C d_c_CS_feed_77 (by decide) (fun c20 => absurd (by decide) c20) (fun c20 => ?_)
                  refine j_blk 118 [(7, .int 0), (0, .ref x), (1, .int 2), (2, .int a), (3, .int b), (4, .int c), (5, .int d), (6, .int e)] [.int a, .ref x] C k_c_CS_feed_80_2 rfl ?_
                  refine j_callV C Rm Y [.int a] [] (c_CS_append l D B H0 w x tp V (fun _ => 0) 0 a hx h0 h1 ht (by decide) (by decide)) cl_CS_55 (by rfl) (by rfl) hx d_c_CS_feed_118 rfl rfl (Nat.le_of_ble_eq_true rfl) ⟨by decide, by decide⟩ ⟨jroom hk.1 rfl, jroom hk.2 rfl⟩ (fun v21 w_7 pw_7 => ?_)
                  obtain ⟨rfl, hc_w_7, G_w_7, mx_w_7, mt_w_7⟩ := pw_7
                  have hk_w_7 := jkT hk hc_w_7
                  have fr_w_7 := jfrT fr0 G_w_7 (fun b e hb hv => ⟨(fun b e hb _ => Nat.ne_of_gt (Nat.lt_of_lt_of_le xq hb)) b e hb hv, (fun b e hb _ => Nat.ne_of_gt (Nat.lt_of_lt_of_le tq hb)) b e hb hv⟩)
                  show JJ g w_7 121 [(7, .int 0), (0, .ref x), (1, .int 2), (2, .int a), (3, .int b), (4, .int c), (5, .int d), (6, .int e)] []
                  refine j_blk 68 [(7, .int 1), (0, .ref x), (1, .int 2), (2, .int a), (3, .int b), (4, .int c), (5, .int d), (6, .int e)] [] C k_c_CS_feed_121_2 rfl ?_
                  refine j_blk 71 [(7, .int 1), (0, .ref x), (1, .int 2), (2, .int a), (3, .int b), (4, .int c), (5, .int d), (6, .int e)] [.int 2, .int 1] C k_c_CS_feed_68_2 rfl ?_
                  refine j_icmp_ge (tgt := 127) C d_c_CS_feed_71 (by decide) (fun c22 => absurd c22 (by decide)) (fun c22 => ?_)
                  refine j_blk 77 [(7, .int 1), (0, .ref x), (1, .int 2), (2, .int a), (3, .int b), (4, .int c), (5, .int d), (6, .int e)] [.int 1, .ref x] C k_c_CS_feed_74_2 rfl ?_
                  refine j_if_ne (tgt := 84) C d_c_CS_feed_77 (by decide) (fun c23 => ?_) (fun c23 => absurd c23 (by decide))
                  refine j_blk 87 [(7, .int 1), (0, .ref x), (1, .int 2), (2, .int a), (3, .int b), (4, .int c), (5, .int d), (6, .int e)] [.int 1, .int 1, .ref x] C k_c_CS_feed_84_2 rfl ?_
                  refine j_icmp_ne (tgt := 94) C d_c_CS_feed_87 (by decide) (fun c24 => absurd (by decide) c24) (fun c24 => ?_)
                  refine j_blk 118 [(7, .int 1), (0, .ref x), (1, .int 2), (2, .int a), (3, .int b), (4, .int c), (5, .int d), (6, .int e)] [.int b, .ref x] C k_c_CS_feed_90_2 rfl ?_
                  refine j_callV C Rm Y [.int b] [] (c_CS_append l D B H0 w_7 x tp (updV V 1 (.int 1)) (upd (fun _ => 0) 0 a) 1 b mx_w_7 h0 rfl mt_w_7 (by decide) (by decide)) cl_CS_55 (by rfl) (by rfl) mx_w_7 d_c_CS_feed_118 rfl rfl (Nat.le_of_ble_eq_true rfl) ⟨by decide, by decide⟩ ⟨jroom hk_w_7.1 rfl, jroom hk_w_7.2 rfl⟩ (fun v25 w_8 pw_8 => ?_)
                  obtain ⟨rfl, hc_w_8, G_w_8, mx_w_8, mt_w_8⟩ := pw_8
                  have hk_w_8 := jkT hk_w_7 hc_w_8
                  have fr_w_8 := jfrT fr_w_7 G_w_8 (fun b e hb hv => ⟨(fun b e hb _ => Nat.ne_of_gt (Nat.lt_of_lt_of_le xq hb)) b e hb hv, (fun b e hb _ => Nat.ne_of_gt (Nat.lt_of_lt_of_le tq hb)) b e hb hv⟩)
                  show JJ g w_8 121 [(7, .int 1), (0, .ref x), (1, .int 2), (2, .int a), (3, .int b), (4, .int c), (5, .int d), (6, .int e)] []
                  refine j_blk 68 [(7, .int 2), (0, .ref x), (1, .int 2), (2, .int a), (3, .int b), (4, .int c), (5, .int d), (6, .int e)] [] C k_c_CS_feed_121_2 rfl ?_
                  refine j_blk 71 [(7, .int 2), (0, .ref x), (1, .int 2), (2, .int a), (3, .int b), (4, .int c), (5, .int d), (6, .int e)] [.int 2, .int 2] C k_c_CS_feed_68_2 rfl ?_
                  refine j_icmp_ge (tgt := 127) C d_c_CS_feed_71 (by decide) (fun c26 => ?_) (fun c26 => absurd (by decide) c26)
                  refine j_blk 128 [(7, .int 2), (0, .ref x), (1, .int 2), (2, .int a), (3, .int b), (4, .int c), (5, .int d), (6, .int e)] [.ref x] C k_c_CS_feed_127_1 rfl ?_
                  refine j_get C d_c_CS_feed_128 fg_CS_51 mx_w_8 rfl ?_
                  exact j_iret C Rm E d_c_CS_feed_131 ⟨hres, fr_w_8⟩ (jbnd hk_w_8.1 rfl) (jbnd hk_w_8.2 rfl)
                · show JJ g w 51 [(0, .ref x), (1, .int 3), (2, .int a), (3, .int b), (4, .int c), (5, .int d), (6, .int e)] []
                  refine j_blk 55 [(0, .ref x), (1, .int 3), (2, .int a), (3, .int b), (4, .int c), (5, .int d), (6, .int e)] [.ref x, .int 120, .int 3] C k_c_CS_feed_51_3 rfl ?_
                  refine j_get C d_c_CS_feed_55 fg_CS_51 hx h1 ?_
                  refine j_blk 59 [(0, .ref x), (1, .int 3), (2, .int a), (3, .int b), (4, .int c), (5, .int d), (6, .int e)] [.int 120, .int 3] C k_c_CS_feed_58_1 rfl ?_
                  refine j_icmp_le (tgt := 65) C d_c_CS_feed_59 (by decide) (fun c27 => ?_) (fun c27 => absurd (by decide) c27)
                  refine j_blk 71 [(7, .int 0), (0, .ref x), (1, .int 3), (2, .int a), (3, .int b), (4, .int c), (5, .int d), (6, .int e)] [.int 3, .int 0] C k_c_CS_feed_65_4 rfl ?_
                  refine j_icmp_ge (tgt := 127) C d_c_CS_feed_71 (by decide) (fun c28 => absurd c28 (by decide)) (fun c28 => ?_)
                  refine j_blk 77 [(7, .int 0), (0, .ref x), (1, .int 3), (2, .int a), (3, .int b), (4, .int c), (5, .int d), (6, .int e)] [.int 0, .ref x] C k_c_CS_feed_74_2 rfl ?_
                  refine j_if_ne (tgt := 84) C d_c_CS_feed_77 (by decide) (fun c29 => absurd (by decide) c29) (fun c29 => ?_)
                  refine j_blk 118 [(7, .int 0), (0, .ref x), (1, .int 3), (2, .int a), (3, .int b), (4, .int c), (5, .int d), (6, .int e)] [.int a, .ref x] C k_c_CS_feed_80_2 rfl ?_
                  refine j_callV C Rm Y [.int a] [] (c_CS_append l D B H0 w x tp V (fun _ => 0) 0 a hx h0 h1 ht (by decide) (by decide)) cl_CS_55 (by rfl) (by rfl) hx d_c_CS_feed_118 rfl rfl (Nat.le_of_ble_eq_true rfl) ⟨by decide, by decide⟩ ⟨jroom hk.1 rfl, jroom hk.2 rfl⟩ (fun v30 w_9 pw_9 => ?_)
                  obtain ⟨rfl, hc_w_9, G_w_9, mx_w_9, mt_w_9⟩ := pw_9
                  have hk_w_9 := jkT hk hc_w_9
                  have fr_w_9 := jfrT fr0 G_w_9 (fun b e hb hv => ⟨(fun b e hb _ => Nat.ne_of_gt (Nat.lt_of_lt_of_le xq hb)) b e hb hv, (fun b e hb _ => Nat.ne_of_gt (Nat.lt_of_lt_of_le tq hb)) b e hb hv⟩)
                  show JJ g w_9 121 [(7, .int 0), (0, .ref x), (1, .int 3), (2, .int a), (3, .int b), (4, .int c), (5, .int d), (6, .int e)] []
                  refine j_blk 68 [(7, .int 1), (0, .ref x), (1, .int 3), (2, .int a), (3, .int b), (4, .int c), (5, .int d), (6, .int e)] [] C k_c_CS_feed_121_2 rfl ?_
                  refine j_blk 71 [(7, .int 1), (0, .ref x), (1, .int 3), (2, .int a), (3, .int b), (4, .int c), (5, .int d), (6, .int e)] [.int 3, .int 1] C k_c_CS_feed_68_2 rfl ?_
                  refine j_icmp_ge (tgt := 127) C d_c_CS_feed_71 (by decide) (fun c31 => absurd c31 (by decide)) (fun c31 => ?_)
                  refine j_blk 77 [(7, .int 1), (0, .ref x), (1, .int 3), (2, .int a), (3, .int b), (4, .int c), (5, .int d), (6, .int e)] [.int 1, .ref x] C k_c_CS_feed_74_2 rfl ?_
                  refine j_if_ne (tgt := 84) C d_c_CS_feed_77 (by decide) (fun c32 => ?_) (fun c32 => absurd c32 (by decide))
                  refine j_blk 87 [(7, .int 1), (0, .ref x), (1, .int 3), (2, .int a), (3, .int b), (4, .int c), (5, .int d), (6, .int e)] [.int 1, .int 1, .ref x] C k_c_CS_feed_84_2 rfl ?_
                  refine j_icmp_ne (tgt := 94) C d_c_CS_feed_87 (by decide) (fun c33 => absurd (by decide) c33) (fun c33 => ?_)
                  refine j_blk 118 [(7, .int 1), (0, .ref x), (1, .int 3), (2, .int a), (3, .int b), (4, .int c), (5, .int d), (6, .int e)] [.int b, .ref x] C k_c_CS_feed_90_2 rfl ?_
                  refine j_callV C Rm Y [.int b] [] (c_CS_append l D B H0 w_9 x tp (updV V 1 (.int 1)) (upd (fun _ => 0) 0 a) 1 b mx_w_9 h0 rfl mt_w_9 (by decide) (by decide)) cl_CS_55 (by rfl) (by rfl) mx_w_9 d_c_CS_feed_118 rfl rfl (Nat.le_of_ble_eq_true rfl) ⟨by decide, by decide⟩ ⟨jroom hk_w_9.1 rfl, jroom hk_w_9.2 rfl⟩ (fun v34 w_10 pw_10 => ?_)
                  obtain ⟨rfl, hc_w_10, G_w_10, mx_w_10, mt_w_10⟩ := pw_10
                  have hk_w_10 := jkT hk_w_9 hc_w_10
                  have fr_w_10 := jfrT fr_w_9 G_w_10 (fun b e hb hv => ⟨(fun b e hb _ => Nat.ne_of_gt (Nat.lt_of_lt_of_le xq hb)) b e hb hv, (fun b e hb _ => Nat.ne_of_gt (Nat.lt_of_lt_of_le tq hb)) b e hb hv⟩)
                  show JJ g w_10 121 [(7, .int 1), (0, .ref x), (1, .int 3), (2, .int a), (3, .int b), (4, .int c), (5, .int d), (6, .int e)] []
                  refine j_blk 68 [(7, .int 2), (0, .ref x), (1, .int 3), (2, .int a), (3, .int b), (4, .int c), (5, .int d), (6, .int e)] [] C k_c_CS_feed_121_2 rfl ?_
                  refine j_blk 71 [(7, .int 2), (0, .ref x), (1, .int 3), (2, .int a), (3, .int b), (4, .int c), (5, .int d), (6, .int e)] [.int 3, .int 2] C k_c_CS_feed_68_2 rfl ?_
                  refine j_icmp_ge (tgt := 127) C d_c_CS_feed_71 (by decide) (fun c35 => absurd c35 (by decide)) (fun c35 => ?_)
                  refine j_blk 77 [(7, .int 2), (0, .ref x), (1, .int 3), (2, .int a), (3, .int b), (4, .int c), (5, .int d), (6, .int e)] [.int 2, .ref x] C k_c_CS_feed_74_2 rfl ?_
                  refine j_if_ne (tgt := 84) C d_c_CS_feed_77 (by decide) (fun c36 => ?_) (fun c36 => absurd c36 (by decide))
                  refine j_blk 87 [(7, .int 2), (0, .ref x), (1, .int 3), (2, .int a), (3, .int b), (4, .int c), (5, .int d), (6, .int e)] [.int 1, .int 2, .ref x] C k_c_CS_feed_84_2 rfl ?_
                  refine j_icmp_ne (tgt := 94) C d_c_CS_feed_87 (by decide) (fun c37 => ?_) (fun c37 => absurd c37 (by decide))
                  refine j_blk 97 [(7, .int 2), (0, .ref x), (1, .int 3), (2, .int a), (3, .int b), (4, .int c), (5, .int d), (6, .int e)] [.int 2, .int 2, .ref x] C k_c_CS_feed_94_2 rfl ?_
                  refine j_icmp_ne (tgt := 105) C d_c_CS_feed_97 (by decide) (fun c38 => absurd (by decide) c38) (fun c38 => ?_)
                  refine j_blk 118 [(7, .int 2), (0, .ref x), (1, .int 3), (2, .int a), (3, .int b), (4, .int c), (5, .int d), (6, .int e)] [.int c, .ref x] C k_c_CS_feed_100_2 rfl ?_
                  refine j_callV C Rm Y [.int c] [] (c_CS_append l D B H0 w_10 x tp (updV (updV V 1 (.int 1)) 1 (.int 2)) (upd (upd (fun _ => 0) 0 a) 1 b) 2 c mx_w_10 h0 rfl mt_w_10 (by decide) (by decide)) cl_CS_55 (by rfl) (by rfl) mx_w_10 d_c_CS_feed_118 rfl rfl (Nat.le_of_ble_eq_true rfl) ⟨by decide, by decide⟩ ⟨jroom hk_w_10.1 rfl, jroom hk_w_10.2 rfl⟩ (fun v39 w_11 pw_11 => ?_)
                  obtain ⟨rfl, hc_w_11, G_w_11, mx_w_11, mt_w_11⟩ := pw_11
                  have hk_w_11 := jkT hk_w_10 hc_w_11
                  have fr_w_11 := jfrT fr_w_10 G_w_11 (fun b e hb hv => ⟨(fun b e hb _ => Nat.ne_of_gt (Nat.lt_of_lt_of_le xq hb)) b e hb hv, (fun b e hb _ => Nat.ne_of_gt (Nat.lt_of_lt_of_le tq hb)) b e hb hv⟩)
                  show JJ g w_11 121 [(7, .int 2), (0, .ref x), (1, .int 3), (2, .int a), (3, .int b), (4, .int c), (5, .int d), (6, .int e)] []
                  refine j_blk 68 [(7, .int 3), (0, .ref x), (1, .int 3), (2, .int a), (3, .int b), (4, .int c), (5, .int d), (6, .int e)] [] C k_c_CS_feed_121_2 rfl ?_
                  refine j_blk 71 [(7, .int 3), (0, .ref x), (1, .int 3), (2, .int a), (3, .int b), (4, .int c), (5, .int d), (6, .int e)] [.int 3, .int 3] C k_c_CS_feed_68_2 rfl ?_
                  refine j_icmp_ge (tgt := 127) C d_c_CS_feed_71 (by decide) (fun c40 => ?_) (fun c40 => absurd (by decide) c40)
                  refine j_blk 128 [(7, .int 3), (0, .ref x), (1, .int 3), (2, .int a), (3, .int b), (4, .int c), (5, .int d), (6, .int e)] [.ref x] C k_c_CS_feed_127_1 rfl ?_
                  refine j_get C d_c_CS_feed_128 fg_CS_51 mx_w_11 rfl ?_
                  exact j_iret C Rm E d_c_CS_feed_131 ⟨hres, fr_w_11⟩ (jbnd hk_w_11.1 rfl) (jbnd hk_w_11.2 rfl)
                · show JJ g w 51 [(0, .ref x), (1, .int 4), (2, .int a), (3, .int b), (4, .int c), (5, .int d), (6, .int e)] []
                  refine j_blk 55 [(0, .ref x), (1, .int 4), (2, .int a), (3, .int b), (4, .int c), (5, .int d), (6, .int e)] [.ref x, .int 120, .int 4] C k_c_CS_feed_51_3 rfl ?_
                  refine j_get C d_c_CS_feed_55 fg_CS_51 hx h1 ?_
                  refine j_blk 59 [(0, .ref x), (1, .int 4), (2, .int a), (3, .int b), (4, .int c), (5, .int d), (6, .int e)] [.int 120, .int 4] C k_c_CS_feed_58_1 rfl ?_
                  refine j_icmp_le (tgt := 65) C d_c_CS_feed_59 (by decide) (fun c41 => ?_) (fun c41 => absurd (by decide) c41)
                  refine j_blk 71 [(7, .int 0), (0, .ref x), (1, .int 4), (2, .int a), (3, .int b), (4, .int c), (5, .int d), (6, .int e)] [.int 4, .int 0] C k_c_CS_feed_65_4 rfl ?_
                  refine j_icmp_ge (tgt := 127) C d_c_CS_feed_71 (by decide) (fun c42 => absurd c42 (by decide)) (fun c42 => ?_)
                  refine j_blk 77 [(7, .int 0), (0, .ref x), (1, .int 4), (2, .int a), (3, .int b), (4, .int c), (5, .int d), (6, .int e)] [.int 0, .ref x] C k_c_CS_feed_74_2 rfl ?_
                  refine j_if_ne (tgt := 84) C d_c_CS_feed_77 (by decide) (fun c43 => absurd (by decide) c43) (fun c43 => ?_)
                  refine j_blk 118 [(7, .int 0), (0, .ref x), (1, .int 4), (2, .int a), (3, .int b), (4, .int c), (5, .int d), (6, .int e)] [.int a, .ref x] C k_c_CS_feed_80_2 rfl ?_
                  refine j_callV C Rm Y [.int a] [] (c_CS_append l D B H0 w x tp V (fun _ => 0) 0 a hx h0 h1 ht (by decide) (by decide)) cl_CS_55 (by rfl) (by rfl) hx d_c_CS_feed_118 rfl rfl (Nat.le_of_ble_eq_true rfl) ⟨by decide, by decide⟩ ⟨jroom hk.1 rfl, jroom hk.2 rfl⟩ (fun v44 w_12 pw_12 => ?_)
                  obtain ⟨rfl, hc_w_12, G_w_12, mx_w_12, mt_w_12⟩ := pw_12
                  have hk_w_12 := jkT hk hc_w_12
                  have fr_w_12 := jfrT fr0 G_w_12 (fun b e hb hv => ⟨(fun b e hb _ => Nat.ne_of_gt (Nat.lt_of_lt_of_le xq hb)) b e hb hv, (fun b e hb _ => Nat.ne_of_gt (Nat.lt_of_lt_of_le tq hb)) b e hb hv⟩)
                  show JJ g w_12 121 [(7, .int 0), (0, .ref x), (1, .int 4), (2, .int a), (3, .int b), (4, .int c), (5, .int d), (6, .int e)] []
                  refine j_blk 68 [(7, .int 1), (0, .ref x), (1, .int 4), (2, .int a), (3, .int b), (4, .int c), (5, .int d), (6, .int e)] [] C k_c_CS_feed_121_2 rfl ?_
                  refine j_blk 71 [(7, .int 1), (0, .ref x), (1, .int 4), (2, .int a), (3, .int b), (4, .int c), (5, .int d), (6, .int e)] [.int 4, .int 1] C k_c_CS_feed_68_2 rfl ?_
                  refine j_icmp_ge (tgt := 127) C d_c_CS_feed_71 (by decide) (fun c45 => absurd c45 (by decide)) (fun c45 => ?_)
                  refine j_blk 77 [(7, .int 1), (0, .ref x), (1, .int 4), (2, .int a), (3, .int b), (4, .int c), (5, .int d), (6, .int e)] [.int 1, .ref x] C k_c_CS_feed_74_2 rfl ?_
                  refine j_if_ne (tgt := 84) C d_c_CS_feed_77 (by decide) (fun c46 => ?_) (fun c46 => absurd c46 (by decide))
                  refine j_blk 87 [(7, .int 1), (0, .ref x), (1, .int 4), (2, .int a), (3, .int b), (4, .int c), (5, .int d), (6, .int e)] [.int 1, .int 1, .ref x] C k_c_CS_feed_84_2 rfl ?_
                  refine j_icmp_ne (tgt := 94) C d_c_CS_feed_87 (by decide) (fun c47 => absurd (by decide) c47) (fun c47 => ?_)
                  refine j_blk 118 [(7, .int 1), (0, .ref x), (1, .int 4), (2, .int a), (3, .int b), (4, .int c), (5, .int d), (6, .int e)] [.int b, .ref x] C k_c_CS_feed_90_2 rfl ?_
                  refine j_callV C Rm Y [.int b] [] (c_CS_append l D B H0 w_12 x tp (updV V 1 (.int 1)) (upd (fun _ => 0) 0 a) 1 b mx_w_12 h0 rfl mt_w_12 (by decide) (by decide)) cl_CS_55 (by rfl) (by rfl) mx_w_12 d_c_CS_feed_118 rfl rfl (Nat.le_of_ble_eq_true rfl) ⟨by decide, by decide⟩ ⟨jroom hk_w_12.1 rfl, jroom hk_w_12.2 rfl⟩ (fun v48 w_13 pw_13 => ?_)
                  obtain ⟨rfl, hc_w_13, G_w_13, mx_w_13, mt_w_13⟩ := pw_13
                  have hk_w_13 := jkT hk_w_12 hc_w_13
                  have fr_w_13 := jfrT fr_w_12 G_w_13 (fun b e hb hv => ⟨(fun b e hb _ => Nat.ne_of_gt (Nat.lt_of_lt_of_le xq hb)) b e hb hv, (fun b e hb _ => Nat.ne_of_gt (Nat.lt_of_lt_of_le tq hb)) b e hb hv⟩)
                  show JJ g w_13 121 [(7, .int 1), (0, .ref x), (1, .int 4), (2, .int a), (3, .int b), (4, .int c), (5, .int d), (6, .int e)] []
                  refine j_blk 68 [(7, .int 2), (0, .ref x), (1, .int 4), (2, .int a), (3, .int b), (4, .int c), (5, .int d), (6, .int e)] [] C k_c_CS_feed_121_2 rfl ?_
                  refine j_blk 71 [(7, .int 2), (0, .ref x), (1, .int 4), (2, .int a), (3, .int b), (4, .int c), (5, .int d), (6, .int e)] [.int 4, .int 2] C k_c_CS_feed_68_2 rfl ?_
                  refine j_icmp_ge (tgt := 127) C d_c_CS_feed_71 (by decide) (fun c49 => absurd c49 (by decide)) (fun c49 => ?_)
                  refine j_blk 77 [(7, .int 2), (0, .ref x), (1, .int 4), (2, .int a), (3, .int b), (4, .int c), (5, .int d), (6, .int e)] [.int 2, .ref x] C k_c_CS_feed_74_2 rfl ?_
                  refine j_if_ne (tgt := 84) C d_c_CS_feed_77 (by decide) (fun c50 => ?_) (fun c50 => absurd c50 (by decide))
                  refine j_blk 87 [(7, .int 2), (0, .ref x), (1, .int 4), (2, .int a), (3, .int b), (4, .int c), (5, .int d), (6, .int e)] [.int 1, .int 2, .ref x] C k_c_CS_feed_84_2 rfl ?_
                  refine j_icmp_ne (tgt := 94) C d_c_CS_feed_87 (by decide) (fun c51 => ?_) (fun c51 => absurd c51 (by decide))
                  refine j_blk 97 [(7, .int 2), (0, .ref x), (1, .int 4), (2, .int a), (3, .int b), (4, .int c), (5, .int d), (6, .int e)] [.int 2, .int 2, .ref x] C k_c_CS_feed_94_2 rfl ?_
                  refine j_icmp_ne (tgt := 105) C d_c_CS_feed_97 (by decide) (fun c52 => absurd (by decide) c52) (fun c52 => ?_)
                  refine j_blk 118 [(7, .int 2), (0, .ref x), (1, .int 4), (2, .int a), (3, .int b), (4, .int c), (5, .int d), (6, .int e)] [.int c, .ref x] C k_c_CS_feed_100_2 rfl ?_
                  refine j_callV C Rm Y [.int c] [] (c_CS_append l D B H0 w_13 x tp (updV (updV V 1 (.int 1)) 1 (.int 2)) (upd (upd (fun _ => 0) 0 a) 1 b) 2 c mx_w_13 h0 rfl mt_w_13 (by decide) (by decide)) cl_CS_55 (by rfl) (by rfl) mx_w_13 d_c_CS_feed_118 rfl rfl (Nat.le_of_ble_eq_true rfl) ⟨by decide, by decide⟩ ⟨jroom hk_w_13.1 rfl, jroom hk_w_13.2 rfl⟩ (fun v53 w_14 pw_14 => ?_)
                  obtain ⟨rfl, hc_w_14, G_w_14, mx_w_14, mt_w_14⟩ := pw_14
                  have hk_w_14 := jkT hk_w_13 hc_w_14
                  have fr_w_14 := jfrT fr_w_13 G_w_14 (fun b e hb hv => ⟨(fun b e hb _ => Nat.ne_of_gt (Nat.lt_of_lt_of_le xq hb)) b e hb hv, (fun b e hb _ => Nat.ne_of_gt (Nat.lt_of_lt_of_le tq hb)) b e hb hv⟩)
                  show JJ g w_14 121 [(7, .int 2), (0, .ref x), (1, .int 4), (2, .int a), (3, .int b), (4, .int c), (5, .int d), (6, .int e)] []
                  refine j_blk 68 [(7, .int 3), (0, .ref x), (1, .int 4), (2, .int a), (3, .int b), (4, .int c), (5, .int d), (6, .int e)] [] C k_c_CS_feed_121_2 rfl ?_
                  refine j_blk 71 [(7, .int 3), (0, .ref x), (1, .int 4), (2, .int a), (3, .int b), (4, .int c), (5, .int d), (6, .int e)] [.int 4, .int 3] C k_c_CS_feed_68_2 rfl ?_
                  refine j_icmp_ge (tgt := 127) C d_c_CS_feed_71 (by decide) (fun c54 => absurd c54 (by decide)) (fun c54 => ?_)
                  refine j_blk 77 [(7, .int 3), (0, .ref x), (1, .int 4), (2, .int a), (3, .int b), (4, .int c), (5, .int d), (6, .int e)] [.int 3, .ref x] C k_c_CS_feed_74_2 rfl ?_
                  refine j_if_ne (tgt := 84) C d_c_CS_feed_77 (by decide) (fun c55 => ?_) (fun c55 => absurd c55 (by decide))
                  refine j_blk 87 [(7, .int 3), (0, .ref x), (1, .int 4), (2, .int a), (3, .int b), (4, .int c), (5, .int d), (6, .int e)] [.int 1, .int 3, .ref x] C k_c_CS_feed_84_2 rfl ?_
                  refine j_icmp_ne (tgt := 94) C d_c_CS_feed_87 (by decide) (fun c56 => ?_) (fun c56 => absurd c56 (by decide))
                  refine j_blk 97 [(7, .int 3), (0, .ref x), (1, .int 4), (2, .int a), (3, .int b), (4, .int c), (5, .int d), (6, .int e)] [.int 2, .int 3, .ref x] C k_c_CS_feed_94_2 rfl ?_
                  refine j_icmp_ne (tgt := 105) C d_c_CS_feed_97 (by decide) (fun c57 => ?_) (fun c57 => absurd c57 (by decide))
                  refine j_blk 108 [(7, .int 3), (0, .ref x), (1, .int 4), (2, .int a), (3, .int b), (4, .int c), (5, .int d), (6, .int e)] [.int 3, .int 3, .ref x] C k_c_CS_feed_105_2 rfl ?_
                  refine j_icmp_ne (tgt := 116) C d_c_CS_feed_108 (by decide) (fun c58 => absurd (by decide) c58) (fun c58 => ?_)
                  refine j_blk 118 [(7, .int 3), (0, .ref x), (1, .int 4), (2, .int a), (3, .int b), (4, .int c), (5, .int d), (6, .int e)] [.int d, .ref x] C k_c_CS_feed_111_2 rfl ?_
                  refine j_callV C Rm Y [.int d] [] (c_CS_append l D B H0 w_14 x tp (updV (updV (updV V 1 (.int 1)) 1 (.int 2)) 1 (.int 3)) (upd (upd (upd (fun _ => 0) 0 a) 1 b) 2 c) 3 d mx_w_14 h0 rfl mt_w_14 (by decide) (by decide)) cl_CS_55 (by rfl) (by rfl) mx_w_14 d_c_CS_feed_118 rfl rfl (Nat.le_of_ble_eq_true rfl) ⟨by decide, by decide⟩ ⟨jroom hk_w_14.1 rfl, jroom hk_w_14.2 rfl⟩ (fun v59 w_15 pw_15 => ?_)
                  obtain ⟨rfl, hc_w_15, G_w_15, mx_w_15, mt_w_15⟩ := pw_15
                  have hk_w_15 := jkT hk_w_14 hc_w_15
                  have fr_w_15 := jfrT fr_w_14 G_w_15 (fun b e hb hv => ⟨(fun b e hb _ => Nat.ne_of_gt (Nat.lt_of_lt_of_le xq hb)) b e hb hv, (fun b e hb _ => Nat.ne_of_gt (Nat.lt_of_lt_of_le tq hb)) b e hb hv⟩)
                  show JJ g w_15 121 [(7, .int 3), (0, .ref x), (1, .int 4), (2, .int a), (3, .int b), (4, .int c), (5, .int d), (6, .int e)] []
                  refine j_blk 68 [(7, .int 4), (0, .ref x), (1, .int 4), (2, .int a), (3, .int b), (4, .int c), (5, .int d), (6, .int e)] [] C k_c_CS_feed_121_2 rfl ?_
                  refine j_blk 71 [(7, .int 4), (0, .ref x), (1, .int 4), (2, .int a), (3, .int b), (4, .int c), (5, .int d), (6, .int e)] [.int 4, .int 4] C k_c_CS_feed_68_2 rfl ?_
                  refine j_icmp_ge (tgt := 127) C d_c_CS_feed_71 (by decide) (fun c60 => ?_) (fun c60 => absurd (by decide) c60)
                  refine j_blk 128 [(7, .int 4), (0, .ref x), (1, .int 4), (2, .int a), (3, .int b), (4, .int c), (5, .int d), (6, .int e)] [.ref x] C k_c_CS_feed_127_1 rfl ?_
                  refine j_get C d_c_CS_feed_128 fg_CS_51 mx_w_15 rfl ?_
                  exact j_iret C Rm E d_c_CS_feed_131 ⟨hres, fr_w_15⟩ (jbnd hk_w_15.1 rfl) (jbnd hk_w_15.2 rfl)
                · show JJ g w 51 [(0, .ref x), (1, .int 5), (2, .int a), (3, .int b), (4, .int c), (5, .int d), (6, .int e)] []
                  refine j_blk 55 [(0, .ref x), (1, .int 5), (2, .int a), (3, .int b), (4, .int c), (5, .int d), (6, .int e)] [.ref x, .int 120, .int 5] C k_c_CS_feed_51_3 rfl ?_
                  refine j_get C d_c_CS_feed_55 fg_CS_51 hx h1 ?_
                  refine j_blk 59 [(0, .ref x), (1, .int 5), (2, .int a), (3, .int b), (4, .int c), (5, .int d), (6, .int e)] [.int 120, .int 5] C k_c_CS_feed_58_1 rfl ?_
                  refine j_icmp_le (tgt := 65) C d_c_CS_feed_59 (by decide) (fun c61 => ?_) (fun c61 => absurd (by decide) c61)
                  refine j_blk 71 [(7, .int 0), (0, .ref x), (1, .int 5), (2, .int a), (3, .int b), (4, .int c), (5, .int d), (6, .int e)] [.int 5, .int 0] C k_c_CS_feed_65_4 rfl ?_
                  refine j_icmp_ge (tgt := 127) C d_c_CS_feed_71 (by decide) (fun c62 => absurd c62 (by decide)) (fun c62 => ?_)
                  refine j_blk 77 [(7, .int 0), (0, .ref x), (1, .int 5), (2, .int a), (3, .int b), (4, .int c), (5, .int d), (6, .int e)] [.int 0, .ref x] C k_c_CS_feed_74_2 rfl ?_
                  refine j_if_ne (tgt := 84) C d_c_CS_feed_77 (by decide) (fun c63 => absurd (by decide) c63) (fun c63 => ?_)
                  refine j_blk 118 [(7, .int 0), (0, .ref x), (1, .int 5), (2, .int a), (3, .int b), (4, .int c), (5, .int d), (6, .int e)] [.int a, .ref x] C k_c_CS_feed_80_2 rfl ?_
                  refine j_callV C Rm Y [.int a] [] (c_CS_append l D B H0 w x tp V (fun _ => 0) 0 a hx h0 h1 ht (by decide) (by decide)) cl_CS_55 (by rfl) (by rfl) hx d_c_CS_feed_118 rfl rfl (Nat.le_of_ble_eq_true rfl) ⟨by decide, by decide⟩ ⟨jroom hk.1 rfl, jroom hk.2 rfl⟩ (fun v64 w_16 pw_16 => ?_)
                  obtain ⟨rfl, hc_w_16, G_w_16, mx_w_16, mt_w_16⟩ := pw_16
                  have hk_w_16 := jkT hk hc_w_16
                  have fr_w_16 := jfrT fr0 G_w_16 (fun b e hb hv => ⟨(fun b e hb _ => Nat.ne_of_gt (Nat.lt_of_lt_of_le xq hb)) b e hb hv, (fun b e hb _ => Nat.ne_of_gt (Nat.lt_of_lt_of_le tq hb)) b e hb hv⟩)
                  show JJ g w_16 121 [(7, .int 0), (0, .ref x), (1, .int 5), (2, .int a), (3, .int b), (4, .int c), (5, .int d), (6, .int e)] []
                  refine j_blk 68 [(7, .int 1), (0, .ref x), (1, .int 5), (2, .int a), (3, .int b), (4, .int c), (5, .int d), (6, .int e)] [] C k_c_CS_feed_121_2 rfl ?_
                  refine j_blk 71 [(7, .int 1), (0, .ref x), (1, .int 5), (2, .int a), (3, .int b), (4, .int c), (5, .int d), (6, .int e)] [.int 5, .int 1] C k_c_CS_feed_68_2 rfl ?_
                  refine j_icmp_ge (tgt := 127) C d_c_CS_feed_71 (by decide) (fun c65 => absurd c65 (by decide)) (fun c65 => ?_)
                  refine j_blk 77 [(7, .int 1), (0, .ref x), (1, .int 5), (2, .int a), (3, .int b), (4, .int c), (5, .int d), (6, .int e)] [.int 1, .ref x] C k_c_CS_feed_74_2 rfl ?_
                  refine j_if_ne (tgt := 84) C d_c_CS_feed_77 (by decide) (fun c66 => ?_) (fun c66 => absurd c66 (by decide))
                  refine j_blk 87 [(7, .int 1), (0, .ref x), (1, .int 5), (2, .int a), (3, .int b), (4, .int c), (5, .int d), (6, .int e)] [.int 1, .int 1, .ref x] C k_c_CS_feed_84_2 rfl ?_
                  refine j_icmp_ne (tgt := 94) C d_c_CS_feed_87 (by decide) (fun c67 => absurd (by decide) c67) (fun c67 => ?_)
                  refine j_blk 118 [(7, .int 1), (0, .ref x), (1, .int 5), (2, .int a), (3, .int b), (4, .int c), (5, .int d), (6, .int e)] [.int b, .ref x] C k_c_CS_feed_90_2 rfl ?_
                  refine j_callV C Rm Y [.int b] [] (c_CS_append l D B H0 w_16 x tp (updV V 1 (.int 1)) (upd (fun _ => 0) 0 a) 1 b mx_w_16 h0 rfl mt_w_16 (by decide) (by decide)) cl_CS_55 (by rfl) (by rfl) mx_w_16 d_c_CS_feed_118 rfl rfl (Nat.le_of_ble_eq_true rfl) ⟨by decide, by decide⟩ ⟨jroom hk_w_16.1 rfl, jroom hk_w_16.2 rfl⟩ (fun v68 w_17 pw_17 => ?_)
                  obtain ⟨rfl, hc_w_17, G_w_17, mx_w_17, mt_w_17⟩ := pw_17
                  have hk_w_17 := jkT hk_w_16 hc_w_17
                  have fr_w_17 := jfrT fr_w_16 G_w_17 (fun b e hb hv => ⟨(fun b e hb _ => Nat.ne_of_gt (Nat.lt_of_lt_of_le xq hb)) b e hb hv, (fun b e hb _ => Nat.ne_of_gt (Nat.lt_of_lt_of_le tq hb)) b e hb hv⟩)
                  show JJ g w_17 121 [(7, .int 1), (0, .ref x), (1, .int 5), (2, .int a), (3, .int b), (4, .int c), (5, .int d), (6, .int e)] []
                  refine j_blk 68 [(7, .int 2), (0, .ref x), (1, .int 5), (2, .int a), (3, .int b), (4, .int c), (5, .int d), (6, .int e)] [] C k_c_CS_feed_121_2 rfl ?_
                  refine j_blk 71 [(7, .int 2), (0, .ref x), (1, .int 5), (2, .int a), (3, .int b), (4, .int c), (5, .int d), (6, .int e)] [.int 5, .int 2] C k_c_CS_feed_68_2 rfl ?_
                  refine j_icmp_ge (tgt := 127) C d_c_CS_feed_71 (by decide) (fun c69 => absurd c69 (by decide)) (fun c69 => ?_)
                  refine j_blk 77 [(7, .int 2), (0, .ref x), (1, .int 5), (2, .int a), (3, .int b), (4, .int c), (5, .int d), (6, .int e)] [.int 2, .ref x] C k_c_CS_feed_74_2 rfl ?_
                  refine j_if_ne (tgt := 84) C d_c_CS_feed_77 (by decide) (fun c70 => ?_) (fun c70 => absurd c70 (by decide))
                  refine j_blk 87 [(7, .int 2), (0, .ref x), (1, .int 5), (2, .int a), (3, .int b), (4, .int c), (5, .int d), (6, .int e)] [.int 1, .int 2, .ref x] C k_c_CS_feed_84_2 rfl ?_
                  refine j_icmp_ne (tgt := 94) C d_c_CS_feed_87 (by decide) (fun c71 => ?_) (fun c71 => absurd c71 (by decide))
                  refine j_blk 97 [(7, .int 2), (0, .ref x), (1, .int 5), (2, .int a), (3, .int b), (4, .int c), (5, .int d), (6, .int e)] [.int 2, .int 2, .ref x] C k_c_CS_feed_94_2 rfl ?_
                  refine j_icmp_ne (tgt := 105) C d_c_CS_feed_97 (by decide) (fun c72 => absurd (by decide) c72) (fun c72 => ?_)
                  refine j_blk 118 [(7, .int 2), (0, .ref x), (1, .int 5), (2, .int a), (3, .int b), (4, .int c), (5, .int d), (6, .int e)] [.int c, .ref x] C k_c_CS_feed_100_2 rfl ?_
                  refine j_callV C Rm Y [.int c] [] (c_CS_append l D B H0 w_17 x tp (updV (updV V 1 (.int 1)) 1 (.int 2)) (upd (upd (fun _ => 0) 0 a) 1 b) 2 c mx_w_17 h0 rfl mt_w_17 (by decide) (by decide)) cl_CS_55 (by rfl) (by rfl) mx_w_17 d_c_CS_feed_118 rfl rfl (Nat.le_of_ble_eq_true rfl) ⟨by decide, by decide⟩ ⟨jroom hk_w_17.1 rfl, jroom hk_w_17.2 rfl⟩ (fun v73 w_18 pw_18 => ?_)
                  obtain ⟨rfl, hc_w_18, G_w_18, mx_w_18, mt_w_18⟩ := pw_18
                  have hk_w_18 := jkT hk_w_17 hc_w_18
                  have fr_w_18 := jfrT fr_w_17 G_w_18 (fun b e hb hv => ⟨(fun b e hb _ => Nat.ne_of_gt (Nat.lt_of_lt_of_le xq hb)) b e hb hv, (fun b e hb _ => Nat.ne_of_gt (Nat.lt_of_lt_of_le tq hb)) b e hb hv⟩)
                  show JJ g w_18 121 [(7, .int 2), (0, .ref x), (1, .int 5), (2, .int a), (3, .int b), (4, .int c), (5, .int d), (6, .int e)] []
                  refine j_blk 68 [(7, .int 3), (0, .ref x), (1, .int 5), (2, .int a), (3, .int b), (4, .int c), (5, .int d), (6, .int e)] [] C k_c_CS_feed_121_2 rfl ?_
                  refine j_blk 71 [(7, .int 3), (0, .ref x), (1, .int 5), (2, .int a), (3, .int b), (4, .int c), (5, .int d), (6, .int e)] [.int 5, .int 3] C k_c_CS_feed_68_2 rfl ?_
                  refine j_icmp_ge (tgt := 127) C d_c_CS_feed_71 (by decide) (fun c74 => absurd c74 (by decide)) (fun c74 => ?_)
                  refine j_blk 77 [(7, .int 3), (0, .ref x), (1, .int 5), (2, .int a), (3, .int b), (4, .int c), (5, .int d), (6, .int e)] [.int 3, .ref x] C k_c_CS_feed_74_2 rfl ?_
                  refine j_if_ne (tgt := 84) C d_c_CS_feed_77 (by decide) (fun c75 => ?_) (fun c75 => absurd c75 (by decide))
                  refine j_blk 87 [(7, .int 3), (0, .ref x), (1, .int 5), (2, .int a), (3, .int b), (4, .int c), (5, .int d), (6, .int e)] [.int 1, .int 3, .ref x] C k_c_CS_feed_84_2 rfl ?_
                  refine j_icmp_ne (tgt := 94) C d_c_CS_feed_87 (by decide) (fun c76 => ?_) (fun c76 => absurd c76 (by decide))
                  refine j_blk 97 [(7, .int 3), (0, .ref x), (1, .int 5), (2, .int a), (3, .int b), (4, .int c), (5, .int d), (6, .int e)] [.int 2, .int 3, .ref x] C k_c_CS_feed_94_2 rfl ?_
                  refine j_icmp_ne (tgt := 105) C d_c_CS_feed_97 (by decide) (fun c77 => ?_) (fun c77 => absurd c77 (by decide))
                  refine j_blk 108 [(7, .int 3), (0, .ref x), (1, .int 5), (2, .int a), (3, .int b), (4, .int c), (5, .int d), (6, .int e)] [.int 3, .int 3, .ref x] C k_c_CS_feed_105_2 rfl ?_
                  refine j_icmp_ne (tgt := 116) C d_c_CS_feed_108 (by decide) (fun c78 => absurd (by decide) c78) (fun c78 => ?_)
                  refine j_blk 118 [(7, .int 3), (0, .ref x), (1, .int 5), (2, .int a), (3, .int b), (4, .int c), (5, .int d), (6, .int e)] [.int d, .ref x] C k_c_CS_feed_111_2 rfl ?_
                  refine j_callV C Rm Y [.int d] [] (c_CS_append l D B H0 w_18 x tp (updV (updV (updV V 1 (.int 1)) 1 (.int 2)) 1 (.int 3)) (upd (upd (upd (fun _ => 0) 0 a) 1 b) 2 c) 3 d mx_w_18 h0 rfl mt_w_18 (by decide) (by decide)) cl_CS_55 (by rfl) (by rfl) mx_w_18 d_c_CS_feed_118 rfl rfl (Nat.le_of_ble_eq_true rfl) ⟨by decide, by decide⟩ ⟨jroom hk_w_18.1 rfl, jroom hk_w_18.2 rfl⟩ (fun v79 w_19 pw_19 => ?_)
                  obtain ⟨rfl, hc_w_19, G_w_19, mx_w_19, mt_w_19⟩ := pw_19
                  have hk_w_19 := jkT hk_w_18 hc_w_19
                  have fr_w_19 := jfrT fr_w_18 G_w_19 (fun b e hb hv => ⟨(fun b e hb _ => Nat.ne_of_gt (Nat.lt_of_lt_of_le xq hb)) b e hb hv, (fun b e hb _ => Nat.ne_of_gt (Nat.lt_of_lt_of_le tq hb)) b e hb hv⟩)
                  show JJ g w_19 121 [(7, .int 3), (0, .ref x), (1, .int 5), (2, .int a), (3, .int b), (4, .int c), (5, .int d), (6, .int e)] []
                  refine j_blk 68 [(7, .int 4), (0, .ref x), (1, .int 5), (2, .int a), (3, .int b), (4, .int c), (5, .int d), (6, .int e)] [] C k_c_CS_feed_121_2 rfl ?_
                  refine j_blk 71 [(7, .int 4), (0, .ref x), (1, .int 5), (2, .int a), (3, .int b), (4, .int c), (5, .int d), (6, .int e)] [.int 5, .int 4] C k_c_CS_feed_68_2 rfl ?_
                  refine j_icmp_ge (tgt := 127) C d_c_CS_feed_71 (by decide) (fun c80 => absurd c80 (by decide)) (fun c80 => ?_)
                  refine j_blk 77 [(7, .int 4), (0, .ref x), (1, .int 5), (2, .int a), (3, .int b), (4, .int c), (5, .int d), (6, .int e)] [.int 4, .ref x] C k_c_CS_feed_74_2 rfl ?_
                  refine j_if_ne (tgt := 84) C d_c_CS_feed_77 (by decide) (fun c81 => ?_) (fun c81 => absurd c81 (by decide))
                  refine j_blk 87 [(7, .int 4), (0, .ref x), (1, .int 5), (2, .int a), (3, .int b), (4, .int c), (5, .int d), (6, .int e)] [.int 1, .int 4, .ref x] C k_c_CS_feed_84_2 rfl ?_
                  refine j_icmp_ne (tgt := 94) C d_c_CS_feed_87 (by decide) (fun c82 => ?_) (fun c82 => absurd c82 (by decide))
                  refine j_blk 97 [(7, .int 4), (0, .ref x), (1, .int 5), (2, .int a), (3, .int b), (4, .int c), (5, .int d), (6, .int e)] [.int 2, .int 4, .ref x] C k_c_CS_feed_94_2 rfl ?_
                  refine j_icmp_ne (tgt := 105) C d_c_CS_feed_97 (by decide) (fun c83 => ?_) (fun c83 => absurd c83 (by decide))
                  refine j_blk 108 [(7, .int 4), (0, .ref x), (1, .int 5), (2, .int a), (3, .int b), (4, .int c), (5, .int d), (6, .int e)] [.int 3, .int 4, .ref x] C k_c_CS_feed_105_2 rfl ?_
                  refine j_icmp_ne (tgt := 116) C d_c_CS_feed_108 (by decide) (fun c84 => ?_) (fun c84 => absurd c84 (by decide))
                  refine j_blk 118 [(7, .int 4), (0, .ref x), (1, .int 5), (2, .int a), (3, .int b), (4, .int c), (5, .int d), (6, .int e)] [.int e, .ref x] C k_c_CS_feed_116_1 rfl ?_
                  refine j_callV C Rm Y [.int e] [] (c_CS_append l D B H0 w_19 x tp (updV (updV (updV (updV V 1 (.int 1)) 1 (.int 2)) 1 (.int 3)) 1 (.int 4)) (upd (upd (upd (upd (fun _ => 0) 0 a) 1 b) 2 c) 3 d) 4 e mx_w_19 h0 rfl mt_w_19 (by decide) (by decide)) cl_CS_55 (by rfl) (by rfl) mx_w_19 d_c_CS_feed_118 rfl rfl (Nat.le_of_ble_eq_true rfl) ⟨by decide, by decide⟩ ⟨jroom hk_w_19.1 rfl, jroom hk_w_19.2 rfl⟩ (fun v85 w_20 pw_20 => ?_)
                  obtain ⟨rfl, hc_w_20, G_w_20, mx_w_20, mt_w_20⟩ := pw_20
                  have hk_w_20 := jkT hk_w_19 hc_w_20
                  have fr_w_20 := jfrT fr_w_19 G_w_20 (fun b e hb hv => ⟨(fun b e hb _ => Nat.ne_of_gt (Nat.lt_of_lt_of_le xq hb)) b e hb hv, (fun b e hb _ => Nat.ne_of_gt (Nat.lt_of_lt_of_le tq hb)) b e hb hv⟩)
                  show JJ g w_20 121 [(7, .int 4), (0, .ref x), (1, .int 5), (2, .int a), (3, .int b), (4, .int c), (5, .int d), (6, .int e)] []
                  refine j_blk 68 [(7, .int 5), (0, .ref x), (1, .int 5), (2, .int a), (3, .int b), (4, .int c), (5, .int d), (6, .int e)] [] C k_c_CS_feed_121_2 rfl ?_
                  refine j_blk 71 [(7, .int 5), (0, .ref x), (1, .int 5), (2, .int a), (3, .int b), (4, .int c), (5, .int d), (6, .int e)] [.int 5, .int 5] C k_c_CS_feed_68_2 rfl ?_
                  refine j_icmp_ge (tgt := 127) C d_c_CS_feed_71 (by decide) (fun c86 => ?_) (fun c86 => absurd (by decide) c86)
                  refine j_blk 128 [(7, .int 5), (0, .ref x), (1, .int 5), (2, .int a), (3, .int b), (4, .int c), (5, .int d), (6, .int e)] [.ref x] C k_c_CS_feed_127_1 rfl ?_
                  refine j_get C d_c_CS_feed_128 fg_CS_51 mx_w_20 rfl ?_
                  exact j_iret C Rm E d_c_CS_feed_131 ⟨hres, fr_w_20⟩ (jbnd hk_w_20.1 rfl) (jbnd hk_w_20.2 rfl)
              · have c12 := jbz.mp c12
                refine j_blk 50 [(0, .ref x), (1, .int n), (2, .int a), (3, .int b), (4, .int c), (5, .int d), (6, .int e)] [.int (-2)] C k_c_CS_feed_48_1 rfl ?_
                exact j_iret C Rm E d_c_CS_feed_50 ⟨jin_ (fun hq => absurd hq (by (try simp only [jlt, jle, jeq, kt_0, kt_1, kt_2, kt_3, kt_4, kt_5, kt_6, kt_7, kt_8, kt_9, kt_10, kt_11, kt_12, kt_13, kt_15, kt_16, kt_19, kt_20, kt_24, kt_25, kt_31, kt_32, kt_40, kt_50, kt_60, kt_63, kt_100, kt_120, kt_255, kt_300, kt_999999, kt_1000000, kt_m1, kt_m2, kt_m3, kt_m4, kt_m6, kt_m7, kt_m11, kt_m12, kt_m13, kt_m14, kt_m100] at c1); (try simp only [jlt, jle, jeq, kt_0, kt_1, kt_2, kt_3, kt_4, kt_5, kt_6, kt_7, kt_8, kt_9, kt_10, kt_11, kt_12, kt_13, kt_15, kt_16, kt_19, kt_20, kt_24, kt_25, kt_31, kt_32, kt_40, kt_50, kt_60, kt_63, kt_100, kt_120, kt_255, kt_300, kt_999999, kt_1000000, kt_m1, kt_m2, kt_m3, kt_m4, kt_m6, kt_m7, kt_m11, kt_m12, kt_m13, kt_m14, kt_m100] at c2); (try simp only [jlt, jle, jeq, kt_0, kt_1, kt_2, kt_3, kt_4, kt_5, kt_6, kt_7, kt_8, kt_9, kt_10, kt_11, kt_12, kt_13, kt_15, kt_16, kt_19, kt_20, kt_24, kt_25, kt_31, kt_32, kt_40, kt_50, kt_60, kt_63, kt_100, kt_120, kt_255, kt_300, kt_999999, kt_1000000, kt_m1, kt_m2, kt_m3, kt_m4, kt_m6, kt_m7, kt_m11, kt_m12, kt_m13, kt_m14, kt_m100] at c4); (try simp only [jlt, jle, jeq, kt_0, kt_1, kt_2, kt_3, kt_4, kt_5, kt_6, kt_7, kt_8, kt_9, kt_10, kt_11, kt_12, kt_13, kt_15, kt_16, kt_19, kt_20, kt_24, kt_25, kt_31, kt_32, kt_40, kt_50, kt_60, kt_63, kt_100, kt_120, kt_255, kt_300, kt_999999, kt_1000000, kt_m1, kt_m2, kt_m3, kt_m4, kt_m6, kt_m7, kt_m11, kt_m12, kt_m13, kt_m14, kt_m100] at c6); (try simp only [jlt, jle, jeq, kt_0, kt_1, kt_2, kt_3, kt_4, kt_5, kt_6, kt_7, kt_8, kt_9, kt_10, kt_11, kt_12, kt_13, kt_15, kt_16, kt_19, kt_20, kt_24, kt_25, kt_31, kt_32, kt_40, kt_50, kt_60, kt_63, kt_100, kt_120, kt_255, kt_300, kt_999999, kt_1000000, kt_m1, kt_m2, kt_m3, kt_m4, kt_m6, kt_m7, kt_m11, kt_m12, kt_m13, kt_m14, kt_m100] at c8); (try simp only [jlt, jle, jeq, kt_0, kt_1, kt_2, kt_3, kt_4, kt_5, kt_6, kt_7, kt_8, kt_9, kt_10, kt_11, kt_12, kt_13, kt_15, kt_16, kt_19, kt_20, kt_24, kt_25, kt_31, kt_32, kt_40, kt_50, kt_60, kt_63, kt_100, kt_120, kt_255, kt_300, kt_999999, kt_1000000, kt_m1, kt_m2, kt_m3, kt_m4, kt_m6, kt_m7, kt_m11, kt_m12, kt_m13, kt_m14, kt_m100] at c10); (try simp only [jlt, jle, jeq, kt_0, kt_1, kt_2, kt_3, kt_4, kt_5, kt_6, kt_7, kt_8, kt_9, kt_10, kt_11, kt_12, kt_13, kt_15, kt_16, kt_19, kt_20, kt_24, kt_25, kt_31, kt_32, kt_40, kt_50, kt_60, kt_63, kt_100, kt_120, kt_255, kt_300, kt_999999, kt_1000000, kt_m1, kt_m2, kt_m3, kt_m4, kt_m6, kt_m7, kt_m11, kt_m12, kt_m13, kt_m14, kt_m100] at c12); (try simp only [kt_0, kt_1, kt_2, kt_3, kt_4, kt_5, kt_6, kt_7, kt_8, kt_9, kt_10, kt_11, kt_12, kt_13, kt_15, kt_16, kt_19, kt_20, kt_24, kt_25, kt_31, kt_32, kt_40, kt_50, kt_60, kt_63, kt_100, kt_120, kt_255, kt_300, kt_999999, kt_1000000, kt_m1, kt_m2, kt_m3, kt_m4, kt_m6, kt_m7, kt_m11, kt_m12, kt_m13, kt_m14, kt_m100]); omega)), fr0⟩ (jbnd hk.1 rfl) (jbnd hk.2 rfl)

theorem k_c_Mo_feed_0_3 : sblk b_Mo_feed [(0, .iload_n 1, .null), (1, .iconst 1, .int 1), (2, .iconst 5, .int 5)] := sblk_of (by decide +kernel)
theorem d_c_Mo_feed_3 : decode b_Mo_feed 3 = .ok (.invokestatic 108, 3) := by decide +kernel
theorem d_c_Mo_feed_6 : decode b_Mo_feed 6 = .ok (.ifCond .eq 41, 3) := by decide +kernel
theorem k_c_Mo_feed_47_1 : sblk b_Mo_feed [(47, .bipush (-2), .int (-2))] := sblk_of (by decide +kernel)
theorem d_c_Mo_feed_49 : decode b_Mo_feed 49 = .ok (.ireturn, 1) := by decide +kernel
theorem k_c_Mo_feed_9_1 : sblk b_Mo_feed [(9, .iload_n 2, .null)] := sblk_of (by decide +kernel)
theorem d_c_Mo_feed_10 : decode b_Mo_feed 10 = .ok (.invokestatic 112, 3) := by decide +kernel
theorem d_c_Mo_feed_13 : decode b_Mo_feed 13 = .ok (.ifCond .eq 34, 3) := by decide +kernel
theorem k_c_Mo_feed_16_1 : sblk b_Mo_feed [(16, .iload_n 3, .null)] := sblk_of (by decide +kernel)
theorem d_c_Mo_feed_17 : decode b_Mo_feed 17 = .ok (.invokestatic 112, 3) := by decide +kernel
theorem d_c_Mo_feed_20 : decode b_Mo_feed 20 = .ok (.ifCond .eq 27, 3) := by decide +kernel
theorem k_c_Mo_feed_23_1 : sblk b_Mo_feed [(23, .iload 4, .null)] := sblk_of (by decide +kernel)
theorem d_c_Mo_feed_25 : decode b_Mo_feed 25 = .ok (.invokestatic 112, 3) := by decide +kernel
theorem d_c_Mo_feed_28 : decode b_Mo_feed 28 = .ok (.ifCond .eq 19, 3) := by decide +kernel
theorem k_c_Mo_feed_31_1 : sblk b_Mo_feed [(31, .iload 5, .null)] := sblk_of (by decide +kernel)
theorem d_c_Mo_feed_33 : decode b_Mo_feed 33 = .ok (.invokestatic 112, 3) := by decide +kernel
theorem d_c_Mo_feed_36 : decode b_Mo_feed 36 = .ok (.ifCond .eq 11, 3) := by decide +kernel
theorem k_c_Mo_feed_39_1 : sblk b_Mo_feed [(39, .iload 6, .null)] := sblk_of (by decide +kernel)
theorem d_c_Mo_feed_41 : decode b_Mo_feed 41 = .ok (.invokestatic 112, 3) := by decide +kernel
theorem d_c_Mo_feed_44 : decode b_Mo_feed 44 = .ok (.ifCond .ne 6, 3) := by decide +kernel
theorem k_c_Mo_feed_50_1 : sblk b_Mo_feed [(50, .aload_n 0, .null)] := sblk_of (by decide +kernel)
theorem d_c_Mo_feed_51 : decode b_Mo_feed 51 = .ok (.getfield 116, 3) := by decide +kernel
theorem k_c_Mo_feed_54_3 : sblk b_Mo_feed [(54, .iload_n 1, .null), (55, .iadd, .null), (56, .bipush 120, .int 120)] := sblk_of (by decide +kernel)
theorem d_c_Mo_feed_58 : decode b_Mo_feed 58 = .ok (.if_icmp .le 6, 3) := by decide +kernel
theorem k_c_Mo_feed_64_4 : sblk b_Mo_feed [(64, .iconst 0, .int 0), (65, .istore 7, .null), (67, .iload 7, .null), (69, .iload_n 1, .null)] := sblk_of (by decide +kernel)
theorem d_c_Mo_feed_70 : decode b_Mo_feed 70 = .ok (.if_icmp .ge 64, 3) := by decide +kernel
theorem k_c_Mo_feed_73_1 : sblk b_Mo_feed [(73, .aload_n 0, .null)] := sblk_of (by decide +kernel)
theorem d_c_Mo_feed_74 : decode b_Mo_feed 74 = .ok (.getfield 76, 3) := by decide +kernel
theorem k_c_Mo_feed_77_1 : sblk b_Mo_feed [(77, .aload_n 0, .null)] := sblk_of (by decide +kernel)
theorem d_c_Mo_feed_78 : decode b_Mo_feed 78 = .ok (.getfield 116, 3) := by decide +kernel
theorem k_c_Mo_feed_81_3 : sblk b_Mo_feed [(81, .iload 7, .null), (83, .iadd, .null), (84, .iload 7, .null)] := sblk_of (by decide +kernel)
theorem d_c_Mo_feed_86 : decode b_Mo_feed 86 = .ok (.ifCond .ne 7, 3) := by decide +kernel
theorem k_c_Mo_feed_89_2 : sblk b_Mo_feed [(89, .iload_n 2, .null), (90, .goto 37, .retAddr 127)] := sblk_of (by decide +kernel)
theorem d_c_Mo_feed_127 : decode b_Mo_feed 127 = .ok (.iastore, 1) := by decide +kernel
theorem k_c_Mo_feed_128_2 : sblk b_Mo_feed [(128, .iinc 7 1, .int 1), (131, .goto (-64), .retAddr 67)] := sblk_of (by decide +kernel)
theorem k_c_Mo_feed_67_2 : sblk b_Mo_feed [(67, .iload 7, .null), (69, .iload_n 1, .null)] := sblk_of (by decide +kernel)
theorem k_c_Mo_feed_134_2 : sblk b_Mo_feed [(134, .aload_n 0, .null), (135, .dup, .null)] := sblk_of (by decide +kernel)
theorem d_c_Mo_feed_136 : decode b_Mo_feed 136 = .ok (.getfield 116, 3) := by decide +kernel
theorem k_c_Mo_feed_139_2 : sblk b_Mo_feed [(139, .iload_n 1, .null), (140, .iadd, .null)] := sblk_of (by decide +kernel)
theorem d_c_Mo_feed_141 : decode b_Mo_feed 141 = .ok (.putfield 116, 3) := by decide +kernel
theorem k_c_Mo_feed_144_1 : sblk b_Mo_feed [(144, .aload_n 0, .null)] := sblk_of (by decide +kernel)
theorem d_c_Mo_feed_145 : decode b_Mo_feed 145 = .ok (.getfield 116, 3) := by decide +kernel
theorem d_c_Mo_feed_148 : decode b_Mo_feed 148 = .ok (.ireturn, 1) := by decide +kernel
theorem k_c_Mo_feed_93_2 : sblk b_Mo_feed [(93, .iload 7, .null), (95, .iconst 1, .int 1)] := sblk_of (by decide +kernel)
theorem d_c_Mo_feed_96 : decode b_Mo_feed 96 = .ok (.if_icmp .ne 7, 3) := by decide +kernel
theorem k_c_Mo_feed_99_2 : sblk b_Mo_feed [(99, .iload_n 3, .null), (100, .goto 27, .retAddr 127)] := sblk_of (by decide +kernel)
theorem k_c_Mo_feed_103_2 : sblk b_Mo_feed [(103, .iload 7, .null), (105, .iconst 2, .int 2)] := sblk_of (by decide +kernel)
theorem d_c_Mo_feed_106 : decode b_Mo_feed 106 = .ok (.if_icmp .ne 8, 3) := by decide +kernel
theorem k_c_Mo_feed_109_2 : sblk b_Mo_feed [(109, .iload 4, .null), (111, .goto 16, .retAddr 127)] := sblk_of (by decide +kernel)
theorem k_c_Mo_feed_114_2 : sblk b_Mo_feed [(114, .iload 7, .null), (116, .iconst 3, .int 3)] := sblk_of (by decide +kernel)
theorem d_c_Mo_feed_117 : decode b_Mo_feed 117 = .ok (.if_icmp .ne 8, 3) := by decide +kernel
theorem k_c_Mo_feed_120_2 : sblk b_Mo_feed [(120, .iload 5, .null), (122, .goto 5, .retAddr 127)] := sblk_of (by decide +kernel)
theorem k_c_Mo_feed_125_1 : sblk b_Mo_feed [(125, .iload 6, .null)] := sblk_of (by decide +kernel)
set_option maxHeartbeats 40000000 in
set_option maxRecDepth 100000 in
theorem c_Mo_feed (l : Launch) (D : va_G) (B : Nat) (H0 : Heap) (w : jW) (x tp : Nat) (V : Nat → Value) (n a b c d e : Int32) (hx : w.1 x = some (.inr (10, V))) (h0 : V 21 = .ref tp) (h1 : V 22 = .int 0) (ht : w.1 tp = some (aI D 120 (fun _ => 0))) (q : Nat) (xq : x < q) (tq : tp < q) : jMet l D B H0 y_Mo_feed b_Mo_feed 8 (some .int) 3 160 0 0 [.ref x, .int n, .int a, .int b, .int c, .int d, .int e] w (fun v w9 => v = some (.int (an_feed n a b c d e)) ∧ jfr (fun b => q ≤ b) w w9) := by
  refine j_met (by decide) (Nat.le_of_ble_eq_true rfl) (fun g C Rm Y E => ?_)
  have hk := jkz w
  have fr0 : jfr (fun b => q ≤ b) w w := jfr0
  show JJ g w 0 [(0, .ref x), (1, .int n), (2, .int a), (3, .int b), (4, .int c), (5, .int d), (6, .int e)] []
  refine j_blk 3 [(0, .ref x), (1, .int n), (2, .int a), (3, .int b), (4, .int c), (5, .int d), (6, .int e)] [.int 5, .int 1, .int n] C k_c_Mo_feed_0_3 rfl ?_
  refine j_callS (As := [.int n, .int 1, .int 5]) C Rm Y [] (c_Mo_in l D B H0 w n 1 5) cl_Mo_108 d_c_Mo_feed_3 rfl rfl (Nat.le_of_ble_eq_true rfl) ⟨by decide, by decide⟩ ⟨jroom hk.1 rfl, jroom hk.2 rfl⟩ (fun v1 w_1 pw_1 => ?_)
  obtain ⟨rfl, rfl⟩ := pw_1
  show JJ g w 6 [(0, .ref x), (1, .int n), (2, .int a), (3, .int b), (4, .int c), (5, .int d), (6, .int e)] [.int (if (1 : Int32).toInt ≤ n.toInt ∧ n.toInt ≤ (5 : Int32).toInt then 1 else 0)]
  refine j_if_eq (tgt := 47) C d_c_Mo_feed_6 (by decide) (fun c2 => ?_) (fun c2 => ?_)
  · have c2 := jbz.mp c2
    refine j_blk 49 [(0, .ref x), (1, .int n), (2, .int a), (3, .int b), (4, .int c), (5, .int d), (6, .int e)] [.int (-2)] C k_c_Mo_feed_47_1 rfl ?_
    exact j_iret C Rm E d_c_Mo_feed_49 ⟨jin_ (fun hq => absurd hq (by (try simp only [jlt, jle, jeq, kt_0, kt_1, kt_2, kt_3, kt_4, kt_5, kt_6, kt_7, kt_8, kt_9, kt_10, kt_11, kt_12, kt_13, kt_15, kt_16, kt_19, kt_20, kt_24, kt_25, kt_31, kt_32, kt_40, kt_50, kt_60, kt_63, kt_100, kt_120, kt_255, kt_300, kt_999999, kt_1000000, kt_m1, kt_m2, kt_m3, kt_m4, kt_m6, kt_m7, kt_m11, kt_m12, kt_m13, kt_m14, kt_m100] at c2); (try simp only [kt_0, kt_1, kt_2, kt_3, kt_4, kt_5, kt_6, kt_7, kt_8, kt_9, kt_10, kt_11, kt_12, kt_13, kt_15, kt_16, kt_19, kt_20, kt_24, kt_25, kt_31, kt_32, kt_40, kt_50, kt_60, kt_63, kt_100, kt_120, kt_255, kt_300, kt_999999, kt_1000000, kt_m1, kt_m2, kt_m3, kt_m4, kt_m6, kt_m7, kt_m11, kt_m12, kt_m13, kt_m14, kt_m100]); omega)), fr0⟩ (jbnd hk.1 rfl) (jbnd hk.2 rfl)
  · have c2 := jbo.mp c2
    refine j_blk 10 [(0, .ref x), (1, .int n), (2, .int a), (3, .int b), (4, .int c), (5, .int d), (6, .int e)] [.int a] C k_c_Mo_feed_9_1 rfl ?_
    refine j_callS (As := [.int a]) C Rm Y [] (c_Mo_isByte l D B H0 w a) cl_Mo_112 d_c_Mo_feed_10 rfl rfl (Nat.le_of_ble_eq_true rfl) ⟨by decide, by decide⟩ ⟨jroom hk.1 rfl, jroom hk.2 rfl⟩ (fun v3 w_2 pw_2 => ?_)
    obtain ⟨rfl, rfl⟩ := pw_2
    show JJ g w 13 [(0, .ref x), (1, .int n), (2, .int a), (3, .int b), (4, .int c), (5, .int d), (6, .int e)] [.int (if (0 : Int32).toInt ≤ a.toInt ∧ a.toInt ≤ (255 : Int32).toInt then 1 else 0)]
    refine j_if_eq (tgt := 47) C d_c_Mo_feed_13 (by decide) (fun c4 => ?_) (fun c4 => ?_)
    · have c4 := jbz.mp c4
      refine j_blk 49 [(0, .ref x), (1, .int n), (2, .int a), (3, .int b), (4, .int c), (5, .int d), (6, .int e)] [.int (-2)] C k_c_Mo_feed_47_1 rfl ?_
      exact j_iret C Rm E d_c_Mo_feed_49 ⟨jin_ (fun hq => absurd hq (by (try simp only [jlt, jle, jeq, kt_0, kt_1, kt_2, kt_3, kt_4, kt_5, kt_6, kt_7, kt_8, kt_9, kt_10, kt_11, kt_12, kt_13, kt_15, kt_16, kt_19, kt_20, kt_24, kt_25, kt_31, kt_32, kt_40, kt_50, kt_60, kt_63, kt_100, kt_120, kt_255, kt_300, kt_999999, kt_1000000, kt_m1, kt_m2, kt_m3, kt_m4, kt_m6, kt_m7, kt_m11, kt_m12, kt_m13, kt_m14, kt_m100] at c2); (try simp only [jlt, jle, jeq, kt_0, kt_1, kt_2, kt_3, kt_4, kt_5, kt_6, kt_7, kt_8, kt_9, kt_10, kt_11, kt_12, kt_13, kt_15, kt_16, kt_19, kt_20, kt_24, kt_25, kt_31, kt_32, kt_40, kt_50, kt_60, kt_63, kt_100, kt_120, kt_255, kt_300, kt_999999, kt_1000000, kt_m1, kt_m2, kt_m3, kt_m4, kt_m6, kt_m7, kt_m11, kt_m12, kt_m13, kt_m14, kt_m100] at c4); (try simp only [kt_0, kt_1, kt_2, kt_3, kt_4, kt_5, kt_6, kt_7, kt_8, kt_9, kt_10, kt_11, kt_12, kt_13, kt_15, kt_16, kt_19, kt_20, kt_24, kt_25, kt_31, kt_32, kt_40, kt_50, kt_60, kt_63, kt_100, kt_120, kt_255, kt_300, kt_999999, kt_1000000, kt_m1, kt_m2, kt_m3, kt_m4, kt_m6, kt_m7, kt_m11, kt_m12, kt_m13, kt_m14, kt_m100]); omega)), fr0⟩ (jbnd hk.1 rfl) (jbnd hk.2 rfl)
    · have c4 := jbo.mp c4
      refine j_blk 17 [(0, .ref x), (1, .int n), (2, .int a), (3, .int b), (4, .int c), (5, .int d), (6, .int e)] [.int b] C k_c_Mo_feed_16_1 rfl ?_
      refine j_callS (As := [.int b]) C Rm Y [] (c_Mo_isByte l D B H0 w b) cl_Mo_112 d_c_Mo_feed_17 rfl rfl (Nat.le_of_ble_eq_true rfl) ⟨by decide, by decide⟩ ⟨jroom hk.1 rfl, jroom hk.2 rfl⟩ (fun v5 w_3 pw_3 => ?_)
      obtain ⟨rfl, rfl⟩ := pw_3
      show JJ g w 20 [(0, .ref x), (1, .int n), (2, .int a), (3, .int b), (4, .int c), (5, .int d), (6, .int e)] [.int (if (0 : Int32).toInt ≤ b.toInt ∧ b.toInt ≤ (255 : Int32).toInt then 1 else 0)]
      refine j_if_eq (tgt := 47) C d_c_Mo_feed_20 (by decide) (fun c6 => ?_) (fun c6 => ?_)
      · have c6 := jbz.mp c6
        refine j_blk 49 [(0, .ref x), (1, .int n), (2, .int a), (3, .int b), (4, .int c), (5, .int d), (6, .int e)] [.int (-2)] C k_c_Mo_feed_47_1 rfl ?_
        exact j_iret C Rm E d_c_Mo_feed_49 ⟨jin_ (fun hq => absurd hq (by (try simp only [jlt, jle, jeq, kt_0, kt_1, kt_2, kt_3, kt_4, kt_5, kt_6, kt_7, kt_8, kt_9, kt_10, kt_11, kt_12, kt_13, kt_15, kt_16, kt_19, kt_20, kt_24, kt_25, kt_31, kt_32, kt_40, kt_50, kt_60, kt_63, kt_100, kt_120, kt_255, kt_300, kt_999999, kt_1000000, kt_m1, kt_m2, kt_m3, kt_m4, kt_m6, kt_m7, kt_m11, kt_m12, kt_m13, kt_m14, kt_m100] at c2); (try simp only [jlt, jle, jeq, kt_0, kt_1, kt_2, kt_3, kt_4, kt_5, kt_6, kt_7, kt_8, kt_9, kt_10, kt_11, kt_12, kt_13, kt_15, kt_16, kt_19, kt_20, kt_24, kt_25, kt_31, kt_32, kt_40, kt_50, kt_60, kt_63, kt_100, kt_120, kt_255, kt_300, kt_999999, kt_1000000, kt_m1, kt_m2, kt_m3, kt_m4, kt_m6, kt_m7, kt_m11, kt_m12, kt_m13, kt_m14, kt_m100] at c4); (try simp only [jlt, jle, jeq, kt_0, kt_1, kt_2, kt_3, kt_4, kt_5, kt_6, kt_7, kt_8, kt_9, kt_10, kt_11, kt_12, kt_13, kt_15, kt_16, kt_19, kt_20, kt_24, kt_25, kt_31, kt_32, kt_40, kt_50, kt_60, kt_63, kt_100, kt_120, kt_255, kt_300, kt_999999, kt_1000000, kt_m1, kt_m2, kt_m3, kt_m4, kt_m6, kt_m7, kt_m11, kt_m12, kt_m13, kt_m14, kt_m100] at c6); (try simp only [kt_0, kt_1, kt_2, kt_3, kt_4, kt_5, kt_6, kt_7, kt_8, kt_9, kt_10, kt_11, kt_12, kt_13, kt_15, kt_16, kt_19, kt_20, kt_24, kt_25, kt_31, kt_32, kt_40, kt_50, kt_60, kt_63, kt_100, kt_120, kt_255, kt_300, kt_999999, kt_1000000, kt_m1, kt_m2, kt_m3, kt_m4, kt_m6, kt_m7, kt_m11, kt_m12, kt_m13, kt_m14, kt_m100]); omega)), fr0⟩ (jbnd hk.1 rfl) (jbnd hk.2 rfl)
      · have c6 := jbo.mp c6
        refine j_blk 25 [(0, .ref x), (1, .int n), (2, .int a), (3, .int b), (4, .int c), (5, .int d), (6, .int e)] [.int c] C k_c_Mo_feed_23_1 rfl ?_
        refine j_callS (As := [.int c]) C Rm Y [] (c_Mo_isByte l D B H0 w c) cl_Mo_112 d_c_Mo_feed_25 rfl rfl (Nat.le_of_ble_eq_true rfl) ⟨by decide, by decide⟩ ⟨jroom hk.1 rfl, jroom hk.2 rfl⟩ (fun v7 w_4 pw_4 => ?_)
        obtain ⟨rfl, rfl⟩ := pw_4
        show JJ g w 28 [(0, .ref x), (1, .int n), (2, .int a), (3, .int b), (4, .int c), (5, .int d), (6, .int e)] [.int (if (0 : Int32).toInt ≤ c.toInt ∧ c.toInt ≤ (255 : Int32).toInt then 1 else 0)]
        refine j_if_eq (tgt := 47) C d_c_Mo_feed_28 (by decide) (fun c8 => ?_) (fun c8 => ?_)
        · have c8 := jbz.mp c8
          refine j_blk 49 [(0, .ref x), (1, .int n), (2, .int a), (3, .int b), (4, .int c), (5, .int d), (6, .int e)] [.int (-2)] C k_c_Mo_feed_47_1 rfl ?_
          exact j_iret C Rm E d_c_Mo_feed_49 ⟨jin_ (fun hq => absurd hq (by (try simp only [jlt, jle, jeq, kt_0, kt_1, kt_2, kt_3, kt_4, kt_5, kt_6, kt_7, kt_8, kt_9, kt_10, kt_11, kt_12, kt_13, kt_15, kt_16, kt_19, kt_20, kt_24, kt_25, kt_31, kt_32, kt_40, kt_50, kt_60, kt_63, kt_100, kt_120, kt_255, kt_300, kt_999999, kt_1000000, kt_m1, kt_m2, kt_m3, kt_m4, kt_m6, kt_m7, kt_m11, kt_m12, kt_m13, kt_m14, kt_m100] at c2); (try simp only [jlt, jle, jeq, kt_0, kt_1, kt_2, kt_3, kt_4, kt_5, kt_6, kt_7, kt_8, kt_9, kt_10, kt_11, kt_12, kt_13, kt_15, kt_16, kt_19, kt_20, kt_24, kt_25, kt_31, kt_32, kt_40, kt_50, kt_60, kt_63, kt_100, kt_120, kt_255, kt_300, kt_999999, kt_1000000, kt_m1, kt_m2, kt_m3, kt_m4, kt_m6, kt_m7, kt_m11, kt_m12, kt_m13, kt_m14, kt_m100] at c4); (try simp only [jlt, jle, jeq, kt_0, kt_1, kt_2, kt_3, kt_4, kt_5, kt_6, kt_7, kt_8, kt_9, kt_10, kt_11, kt_12, kt_13, kt_15, kt_16, kt_19, kt_20, kt_24, kt_25, kt_31, kt_32, kt_40, kt_50, kt_60, kt_63, kt_100, kt_120, kt_255, kt_300, kt_999999, kt_1000000, kt_m1, kt_m2, kt_m3, kt_m4, kt_m6, kt_m7, kt_m11, kt_m12, kt_m13, kt_m14, kt_m100] at c6); (try simp only [jlt, jle, jeq, kt_0, kt_1, kt_2, kt_3, kt_4, kt_5, kt_6, kt_7, kt_8, kt_9, kt_10, kt_11, kt_12, kt_13, kt_15, kt_16, kt_19, kt_20, kt_24, kt_25, kt_31, kt_32, kt_40, kt_50, kt_60, kt_63, kt_100, kt_120, kt_255, kt_300, kt_999999, kt_1000000, kt_m1, kt_m2, kt_m3, kt_m4, kt_m6, kt_m7, kt_m11, kt_m12, kt_m13, kt_m14, kt_m100] at c8); (try simp only [kt_0, kt_1, kt_2, kt_3, kt_4, kt_5, kt_6, kt_7, kt_8, kt_9, kt_10, kt_11, kt_12, kt_13, kt_15, kt_16, kt_19, kt_20, kt_24, kt_25, kt_31, kt_32, kt_40, kt_50, kt_60, kt_63, kt_100, kt_120, kt_255, kt_300, kt_999999, kt_1000000, kt_m1, kt_m2, kt_m3, kt_m4, kt_m6, kt_m7, kt_m11, kt_m12, kt_m13, kt_m14, kt_m100]); omega)), fr0⟩ (jbnd hk.1 rfl) (jbnd hk.2 rfl)
        · have c8 := jbo.mp c8
          refine j_blk 33 [(0, .ref x), (1, .int n), (2, .int a), (3, .int b), (4, .int c), (5, .int d), (6, .int e)] [.int d] C k_c_Mo_feed_31_1 rfl ?_
          refine j_callS (As := [.int d]) C Rm Y [] (c_Mo_isByte l D B H0 w d) cl_Mo_112 d_c_Mo_feed_33 rfl rfl (Nat.le_of_ble_eq_true rfl) ⟨by decide, by decide⟩ ⟨jroom hk.1 rfl, jroom hk.2 rfl⟩ (fun v9 w_5 pw_5 => ?_)
          obtain ⟨rfl, rfl⟩ := pw_5
          show JJ g w 36 [(0, .ref x), (1, .int n), (2, .int a), (3, .int b), (4, .int c), (5, .int d), (6, .int e)] [.int (if (0 : Int32).toInt ≤ d.toInt ∧ d.toInt ≤ (255 : Int32).toInt then 1 else 0)]
          refine j_if_eq (tgt := 47) C d_c_Mo_feed_36 (by decide) (fun c10 => ?_) (fun c10 => ?_)
          · have c10 := jbz.mp c10
            refine j_blk 49 [(0, .ref x), (1, .int n), (2, .int a), (3, .int b), (4, .int c), (5, .int d), (6, .int e)] [.int (-2)] C k_c_Mo_feed_47_1 rfl ?_
            exact j_iret C Rm E d_c_Mo_feed_49 ⟨jin_ (fun hq => absurd hq (by (try simp only [jlt, jle, jeq, kt_0, kt_1, kt_2, kt_3, kt_4, kt_5, kt_6, kt_7, kt_8, kt_9, kt_10, kt_11, kt_12, kt_13, kt_15, kt_16, kt_19, kt_20, kt_24, kt_25, kt_31, kt_32, kt_40, kt_50, kt_60, kt_63, kt_100, kt_120, kt_255, kt_300, kt_999999, kt_1000000, kt_m1, kt_m2, kt_m3, kt_m4, kt_m6, kt_m7, kt_m11, kt_m12, kt_m13, kt_m14, kt_m100] at c2); (try simp only [jlt, jle, jeq, kt_0, kt_1, kt_2, kt_3, kt_4, kt_5, kt_6, kt_7, kt_8, kt_9, kt_10, kt_11, kt_12, kt_13, kt_15, kt_16, kt_19, kt_20, kt_24, kt_25, kt_31, kt_32, kt_40, kt_50, kt_60, kt_63, kt_100, kt_120, kt_255, kt_300, kt_999999, kt_1000000, kt_m1, kt_m2, kt_m3, kt_m4, kt_m6, kt_m7, kt_m11, kt_m12, kt_m13, kt_m14, kt_m100] at c4); (try simp only [jlt, jle, jeq, kt_0, kt_1, kt_2, kt_3, kt_4, kt_5, kt_6, kt_7, kt_8, kt_9, kt_10, kt_11, kt_12, kt_13, kt_15, kt_16, kt_19, kt_20, kt_24, kt_25, kt_31, kt_32, kt_40, kt_50, kt_60, kt_63, kt_100, kt_120, kt_255, kt_300, kt_999999, kt_1000000, kt_m1, kt_m2, kt_m3, kt_m4, kt_m6, kt_m7, kt_m11, kt_m12, kt_m13, kt_m14, kt_m100] at c6); (try simp only [jlt, jle, jeq, kt_0, kt_1, kt_2, kt_3, kt_4, kt_5, kt_6, kt_7, kt_8, kt_9, kt_10, kt_11, kt_12, kt_13, kt_15, kt_16, kt_19, kt_20, kt_24, kt_25, kt_31, kt_32, kt_40, kt_50, kt_60, kt_63, kt_100, kt_120, kt_255, kt_300, kt_999999, kt_1000000, kt_m1, kt_m2, kt_m3, kt_m4, kt_m6, kt_m7, kt_m11, kt_m12, kt_m13, kt_m14, kt_m100] at c8); (try simp only [jlt, jle, jeq, kt_0, kt_1, kt_2, kt_3, kt_4, kt_5, kt_6, kt_7, kt_8, kt_9, kt_10, kt_11, kt_12, kt_13, kt_15, kt_16, kt_19, kt_20, kt_24, kt_25, kt_31, kt_32, kt_40, kt_50, kt_60, kt_63, kt_100, kt_120, kt_255, kt_300, kt_999999, kt_1000000, kt_m1, kt_m2, kt_m3, kt_m4, kt_m6, kt_m7, kt_m11, kt_m12, kt_m13, kt_m14, kt_m100] at c10); (try simp only [kt_0, kt_1, kt_2, kt_3, kt_4, kt_5, kt_6, kt_7, kt_8, kt_9, kt_10, kt_11, kt_12, kt_13, kt_15, kt_16, kt_19, kt_20, kt_24, kt_25, kt_31, kt_32, kt_40, kt_50, kt_60, kt_63, kt_100, kt_120, kt_255, kt_300, kt_999999, kt_1000000, kt_m1, kt_m2, kt_m3, kt_m4, kt_m6, kt_m7, kt_m11, kt_m12, kt_m13, kt_m14, kt_m100]); omega)), fr0⟩ (jbnd hk.1 rfl) (jbnd hk.2 rfl)
          · have c10 := jbo.mp c10
            refine j_blk 41 [(0, .ref x), (1, .int n), (2, .int a), (3, .int b), (4, .int c), (5, .int d), (6, .int e)] [.int e] C k_c_Mo_feed_39_1 rfl ?_
            refine j_callS (As := [.int e]) C Rm Y [] (c_Mo_isByte l D B H0 w e) cl_Mo_112 d_c_Mo_feed_41 rfl rfl (Nat.le_of_ble_eq_true rfl) ⟨by decide, by decide⟩ ⟨jroom hk.1 rfl, jroom hk.2 rfl⟩ (fun v11 w_6 pw_6 => ?_)
            obtain ⟨rfl, rfl⟩ := pw_6
            show JJ g w 44 [(0, .ref x), (1, .int n), (2, .int a), (3, .int b), (4, .int c), (5, .int d), (6, .int e)] [.int (if (0 : Int32).toInt ≤ e.toInt ∧ e.toInt ≤ (255 : Int32).toInt then 1 else 0)]
            refine j_if_ne (tgt := 50) C d_c_Mo_feed_44 (by decide) (fun c12 => ?_) (fun c12 => ?_)
            · have c12 := jbo.mp c12
              have hn : n = 1 ∨ n = 2 ∨ n = 3 ∨ n = 4 ∨ n = 5 := by
                have g1 : 1 ≤ n.toInt ∧ n.toInt ≤ 5 := (by (try simp only [jlt, jle, jeq, kt_0, kt_1, kt_2, kt_3, kt_4, kt_5, kt_6, kt_7, kt_8, kt_9, kt_10, kt_11, kt_12, kt_13, kt_15, kt_16, kt_19, kt_20, kt_24, kt_25, kt_31, kt_32, kt_40, kt_50, kt_60, kt_63, kt_100, kt_120, kt_255, kt_300, kt_999999, kt_1000000, kt_m1, kt_m2, kt_m3, kt_m4, kt_m6, kt_m7, kt_m11, kt_m12, kt_m13, kt_m14, kt_m100] at c2); (try simp only [jlt, jle, jeq, kt_0, kt_1, kt_2, kt_3, kt_4, kt_5, kt_6, kt_7, kt_8, kt_9, kt_10, kt_11, kt_12, kt_13, kt_15, kt_16, kt_19, kt_20, kt_24, kt_25, kt_31, kt_32, kt_40, kt_50, kt_60, kt_63, kt_100, kt_120, kt_255, kt_300, kt_999999, kt_1000000, kt_m1, kt_m2, kt_m3, kt_m4, kt_m6, kt_m7, kt_m11, kt_m12, kt_m13, kt_m14, kt_m100] at c4); (try simp only [jlt, jle, jeq, kt_0, kt_1, kt_2, kt_3, kt_4, kt_5, kt_6, kt_7, kt_8, kt_9, kt_10, kt_11, kt_12, kt_13, kt_15, kt_16, kt_19, kt_20, kt_24, kt_25, kt_31, kt_32, kt_40, kt_50, kt_60, kt_63, kt_100, kt_120, kt_255, kt_300, kt_999999, kt_1000000, kt_m1, kt_m2, kt_m3, kt_m4, kt_m6, kt_m7, kt_m11, kt_m12, kt_m13, kt_m14, kt_m100] at c6); (try simp only [jlt, jle, jeq, kt_0, kt_1, kt_2, kt_3, kt_4, kt_5, kt_6, kt_7, kt_8, kt_9, kt_10, kt_11, kt_12, kt_13, kt_15, kt_16, kt_19, kt_20, kt_24, kt_25, kt_31, kt_32, kt_40, kt_50, kt_60, kt_63, kt_100, kt_120, kt_255, kt_300, kt_999999, kt_1000000, kt_m1, kt_m2, kt_m3, kt_m4, kt_m6, kt_m7, kt_m11, kt_m12, kt_m13, kt_m14, kt_m100] at c8); (try simp only [jlt, jle, jeq, kt_0, kt_1, kt_2, kt_3, kt_4, kt_5, kt_6, kt_7, kt_8, kt_9, kt_10, kt_11, kt_12, kt_13, kt_15, kt_16, kt_19, kt_20, kt_24, kt_25, kt_31, kt_32, kt_40, kt_50, kt_60, kt_63, kt_100, kt_120, kt_255, kt_300, kt_999999, kt_1000000, kt_m1, kt_m2, kt_m3, kt_m4, kt_m6, kt_m7, kt_m11, kt_m12, kt_m13, kt_m14, kt_m100] at c10); (try simp only [jlt, jle, jeq, kt_0, kt_1, kt_2, kt_3, kt_4, kt_5, kt_6, kt_7, kt_8, kt_9, kt_10, kt_11, kt_12, kt_13, kt_15, kt_16, kt_19, kt_20, kt_24, kt_25, kt_31, kt_32, kt_40, kt_50, kt_60, kt_63, kt_100, kt_120, kt_255, kt_300, kt_999999, kt_1000000, kt_m1, kt_m2, kt_m3, kt_m4, kt_m6, kt_m7, kt_m11, kt_m12, kt_m13, kt_m14, kt_m100] at c12); (try simp only [kt_0, kt_1, kt_2, kt_3, kt_4, kt_5, kt_6, kt_7, kt_8, kt_9, kt_10, kt_11, kt_12, kt_13, kt_15, kt_16, kt_19, kt_20, kt_24, kt_25, kt_31, kt_32, kt_40, kt_50, kt_60, kt_63, kt_100, kt_120, kt_255, kt_300, kt_999999, kt_1000000, kt_m1, kt_m2, kt_m3, kt_m4, kt_m6, kt_m7, kt_m11, kt_m12, kt_m13, kt_m14, kt_m100]); omega)
                simp only [jeq, kt_0, kt_1, kt_2, kt_3, kt_4, kt_5, kt_6, kt_7, kt_8, kt_9, kt_10, kt_11, kt_12, kt_13, kt_15, kt_16, kt_19, kt_20, kt_24, kt_25, kt_31, kt_32, kt_40, kt_50, kt_60, kt_63, kt_100, kt_120, kt_255, kt_300, kt_999999, kt_1000000, kt_m1, kt_m2, kt_m3, kt_m4, kt_m6, kt_m7, kt_m11, kt_m12, kt_m13, kt_m14, kt_m100]; clear hk; omega
              have hal : (1 ≤ n.toInt ∧ n.toInt ≤ 5) ∧ (0 ≤ a.toInt ∧ a.toInt ≤ 255) ∧ (0 ≤ b.toInt ∧ b.toInt ≤ 255) ∧ (0 ≤ c.toInt ∧ c.toInt ≤ 255) ∧ (0 ≤ d.toInt ∧ d.toInt ≤ 255) ∧ (0 ≤ e.toInt ∧ e.toInt ≤ 255) := ⟨(by (try simp only [jlt, jle, jeq, kt_0, kt_1, kt_2, kt_3, kt_4, kt_5, kt_6, kt_7, kt_8, kt_9, kt_10, kt_11, kt_12, kt_13, kt_15, kt_16, kt_19, kt_20, kt_24, kt_25, kt_31, kt_32, kt_40, kt_50, kt_60, kt_63, kt_100, kt_120, kt_255, kt_300, kt_999999, kt_1000000, kt_m1, kt_m2, kt_m3, kt_m4, kt_m6, kt_m7, kt_m11, kt_m12, kt_m13, kt_m14, kt_m100] at c2); (try simp only [jlt, jle, jeq, kt_0, kt_1, kt_2, kt_3, kt_4, kt_5, kt_6, kt_7, kt_8, kt_9, kt_10, kt_11, kt_12, kt_13, kt_15, kt_16, kt_19, kt_20, kt_24, kt_25, kt_31, kt_32, kt_40, kt_50, kt_60, kt_63, kt_100, kt_120, kt_255, kt_300, kt_999999, kt_1000000, kt_m1, kt_m2, kt_m3, kt_m4, kt_m6, kt_m7, kt_m11, kt_m12, kt_m13, kt_m14, kt_m100] at c4); (try simp only [jlt, jle, jeq, kt_0, kt_1, kt_2, kt_3, kt_4, kt_5, kt_6, kt_7, kt_8, kt_9, kt_10, kt_11, kt_12, kt_13, kt_15, kt_16, kt_19, kt_20, kt_24, kt_25, kt_31, kt_32, kt_40, kt_50, kt_60, kt_63, kt_100, kt_120, kt_255, kt_300, kt_999999, kt_1000000, kt_m1, kt_m2, kt_m3, kt_m4, kt_m6, kt_m7, kt_m11, kt_m12, kt_m13, kt_m14, kt_m100] at c6); (try simp only [jlt, jle, jeq, kt_0, kt_1, kt_2, kt_3, kt_4, kt_5, kt_6, kt_7, kt_8, kt_9, kt_10, kt_11, kt_12, kt_13, kt_15, kt_16, kt_19, kt_20, kt_24, kt_25, kt_31, kt_32, kt_40, kt_50, kt_60, kt_63, kt_100, kt_120, kt_255, kt_300, kt_999999, kt_1000000, kt_m1, kt_m2, kt_m3, kt_m4, kt_m6, kt_m7, kt_m11, kt_m12, kt_m13, kt_m14, kt_m100] at c8); (try simp only [jlt, jle, jeq, kt_0, kt_1, kt_2, kt_3, kt_4, kt_5, kt_6, kt_7, kt_8, kt_9, kt_10, kt_11, kt_12, kt_13, kt_15, kt_16, kt_19, kt_20, kt_24, kt_25, kt_31, kt_32, kt_40, kt_50, kt_60, kt_63, kt_100, kt_120, kt_255, kt_300, kt_999999, kt_1000000, kt_m1, kt_m2, kt_m3, kt_m4, kt_m6, kt_m7, kt_m11, kt_m12, kt_m13, kt_m14, kt_m100] at c10); (try simp only [jlt, jle, jeq, kt_0, kt_1, kt_2, kt_3, kt_4, kt_5, kt_6, kt_7, kt_8, kt_9, kt_10, kt_11, kt_12, kt_13, kt_15, kt_16, kt_19, kt_20, kt_24, kt_25, kt_31, kt_32, kt_40, kt_50, kt_60, kt_63, kt_100, kt_120, kt_255, kt_300, kt_999999, kt_1000000, kt_m1, kt_m2, kt_m3, kt_m4, kt_m6, kt_m7, kt_m11, kt_m12, kt_m13, kt_m14, kt_m100] at c12); show 1 ≤ n.toInt ∧ n.toInt ≤ 5; (try simp only [kt_0, kt_1, kt_2, kt_3, kt_4, kt_5, kt_6, kt_7, kt_8, kt_9, kt_10, kt_11, kt_12, kt_13, kt_15, kt_16, kt_19, kt_20, kt_24, kt_25, kt_31, kt_32, kt_40, kt_50, kt_60, kt_63, kt_100, kt_120, kt_255, kt_300, kt_999999, kt_1000000, kt_m1, kt_m2, kt_m3, kt_m4, kt_m6, kt_m7, kt_m11, kt_m12, kt_m13, kt_m14, kt_m100]); omega), (by (try simp only [jlt, jle, jeq, kt_0, kt_1, kt_2, kt_3, kt_4, kt_5, kt_6, kt_7, kt_8, kt_9, kt_10, kt_11, kt_12, kt_13, kt_15, kt_16, kt_19, kt_20, kt_24, kt_25, kt_31, kt_32, kt_40, kt_50, kt_60, kt_63, kt_100, kt_120, kt_255, kt_300, kt_999999, kt_1000000, kt_m1, kt_m2, kt_m3, kt_m4, kt_m6, kt_m7, kt_m11, kt_m12, kt_m13, kt_m14, kt_m100] at c2); (try simp only [jlt, jle, jeq, kt_0, kt_1, kt_2, kt_3, kt_4, kt_5, kt_6, kt_7, kt_8, kt_9, kt_10, kt_11, kt_12, kt_13, kt_15, kt_16, kt_19, kt_20, kt_24, kt_25, kt_31, kt_32, kt_40, kt_50, kt_60, kt_63, kt_100, kt_120, kt_255, kt_300, kt_999999, kt_1000000, kt_m1, kt_m2, kt_m3, kt_m4, kt_m6, kt_m7, kt_m11, kt_m12, kt_m13, kt_m14, kt_m100] at c4); (try simp only [jlt, jle, jeq, kt_0, kt_1, kt_2, kt_3, kt_4, kt_5, kt_6, kt_7, kt_8, kt_9, kt_10, kt_11, kt_12, kt_13, kt_15, kt_16, kt_19, kt_20, kt_24, kt_25, kt_31, kt_32, kt_40, kt_50, kt_60, kt_63, kt_100, kt_120, kt_255, kt_300, kt_999999, kt_1000000, kt_m1, kt_m2, kt_m3, kt_m4, kt_m6, kt_m7, kt_m11, kt_m12, kt_m13, kt_m14, kt_m100] at c6); (try simp only [jlt, jle, jeq, kt_0, kt_1, kt_2, kt_3, kt_4, kt_5, kt_6, kt_7, kt_8, kt_9, kt_10, kt_11, kt_12, kt_13, kt_15, kt_16, kt_19, kt_20, kt_24, kt_25, kt_31, kt_32, kt_40, kt_50, kt_60, kt_63, kt_100, kt_120, kt_255, kt_300, kt_999999, kt_1000000, kt_m1, kt_m2, kt_m3, kt_m4, kt_m6, kt_m7, kt_m11, kt_m12, kt_m13, kt_m14, kt_m100] at c8); (try simp only [jlt, jle, jeq, kt_0, kt_1, kt_2, kt_3, kt_4, kt_5, kt_6, kt_7, kt_8, kt_9, kt_10, kt_11, kt_12, kt_13, kt_15, kt_16, kt_19, kt_20, kt_24, kt_25, kt_31, kt_32, kt_40, kt_50, kt_60, kt_63, kt_100, kt_120, kt_255, kt_300, kt_999999, kt_1000000, kt_m1, kt_m2, kt_m3, kt_m4, kt_m6, kt_m7, kt_m11, kt_m12, kt_m13, kt_m14, kt_m100] at c10); (try simp only [jlt, jle, jeq, kt_0, kt_1, kt_2, kt_3, kt_4, kt_5, kt_6, kt_7, kt_8, kt_9, kt_10, kt_11, kt_12, kt_13, kt_15, kt_16, kt_19, kt_20, kt_24, kt_25, kt_31, kt_32, kt_40, kt_50, kt_60, kt_63, kt_100, kt_120, kt_255, kt_300, kt_999999, kt_1000000, kt_m1, kt_m2, kt_m3, kt_m4, kt_m6, kt_m7, kt_m11, kt_m12, kt_m13, kt_m14, kt_m100] at c12); show 0 ≤ a.toInt ∧ a.toInt ≤ 255; (try simp only [kt_0, kt_1, kt_2, kt_3, kt_4, kt_5, kt_6, kt_7, kt_8, kt_9, kt_10, kt_11, kt_12, kt_13, kt_15, kt_16, kt_19, kt_20, kt_24, kt_25, kt_31, kt_32, kt_40, kt_50, kt_60, kt_63, kt_100, kt_120, kt_255, kt_300, kt_999999, kt_1000000, kt_m1, kt_m2, kt_m3, kt_m4, kt_m6, kt_m7, kt_m11, kt_m12, kt_m13, kt_m14, kt_m100]); omega), (by (try simp only [jlt, jle, jeq, kt_0, kt_1, kt_2, kt_3, kt_4, kt_5, kt_6, kt_7, kt_8, kt_9, kt_10, kt_11, kt_12, kt_13, kt_15, kt_16, kt_19, kt_20, kt_24, kt_25, kt_31, kt_32, kt_40, kt_50, kt_60, kt_63, kt_100, kt_120, kt_255, kt_300, kt_999999, kt_1000000, kt_m1, kt_m2, kt_m3, kt_m4, kt_m6, kt_m7, kt_m11, kt_m12, kt_m13, kt_m14, kt_m100] at c2); (try simp only [jlt, jle, jeq, kt_0, kt_1, kt_2, kt_3, kt_4, kt_5, kt_6, kt_7, kt_8, kt_9, kt_10, kt_11, kt_12, kt_13, kt_15, kt_16, kt_19, kt_20, kt_24, kt_25, kt_31, kt_32, kt_40, kt_50, kt_60, kt_63, kt_100, kt_120, kt_255, kt_300, kt_999999, kt_1000000, kt_m1, kt_m2, kt_m3, kt_m4, kt_m6, kt_m7, kt_m11, kt_m12, kt_m13, kt_m14, kt_m100] at c4); (try simp only [jlt, jle, jeq, kt_0, kt_1, kt_2, kt_3, kt_4, kt_5, kt_6, kt_7, kt_8, kt_9, kt_10, kt_11, kt_12, kt_13, kt_15, kt_16, kt_19, kt_20, kt_24, kt_25, kt_31, kt_32, kt_40, kt_50, kt_60, kt_63, kt_100, kt_120, kt_255, kt_300, kt_999999, kt_1000000, kt_m1, kt_m2, kt_m3, kt_m4, kt_m6, kt_m7, kt_m11, kt_m12, kt_m13, kt_m14, kt_m100] at c6); (try simp only [jlt, jle, jeq, kt_0, kt_1, kt_2, kt_3, kt_4, kt_5, kt_6, kt_7, kt_8, kt_9, kt_10, kt_11, kt_12, kt_13, kt_15, kt_16, kt_19, kt_20, kt_24, kt_25, kt_31, kt_32, kt_40, kt_50, kt_60, kt_63, kt_100, kt_120, kt_255, kt_300, kt_999999, kt_1000000, kt_m1, kt_m2, kt_m3, kt_m4, kt_m6, kt_m7, kt_m11, kt_m12, kt_m13, kt_m14, kt_m100] at c8); (try simp only [jlt, jle, jeq, kt_0, kt_1, kt_2, kt_3, kt_4, kt_5, kt_6, kt_7, kt_8, kt_9, kt_10, kt_11, kt_12, kt_13, kt_15, kt_16, kt_19, kt_20, kt_24, kt_25, kt_31, kt_32, kt_40, kt_50, kt_60, kt_63, kt_100, kt_120, kt_255, kt_300, kt_999999, kt_1000000, kt_m1, kt_m2, kt_m3, kt_m4, kt_m6, kt_m7, kt_m11, kt_m12, kt_m13, kt_m14, kt_m100] at c10); (try simp only [jlt, jle, jeq, kt_0, kt_1, kt_2, kt_3, kt_4, kt_5, kt_6, kt_7, kt_8, kt_9, kt_10, kt_11, kt_12, kt_13, kt_15, kt_16, kt_19, kt_20, kt_24, kt_25, kt_31, kt_32, kt_40, kt_50, kt_60, kt_63, kt_100, kt_120, kt_255, kt_300, kt_999999, kt_1000000, kt_m1, kt_m2, kt_m3, kt_m4, kt_m6, kt_m7, kt_m11, kt_m12, kt_m13, kt_m14, kt_m100] at c12); show 0 ≤ b.toInt ∧ b.toInt ≤ 255; (try simp only [kt_0, kt_1, kt_2, kt_3, kt_4, kt_5, kt_6, kt_7, kt_8, kt_9, kt_10, kt_11, kt_12, kt_13, kt_15, kt_16, kt_19, kt_20, kt_24, kt_25, kt_31, kt_32, kt_40, kt_50, kt_60, kt_63, kt_100, kt_120, kt_255, kt_300, kt_999999, kt_1000000, kt_m1, kt_m2, kt_m3, kt_m4, kt_m6, kt_m7, kt_m11, kt_m12, kt_m13, kt_m14, kt_m100]); omega), (by (try simp only [jlt, jle, jeq, kt_0, kt_1, kt_2, kt_3, kt_4, kt_5, kt_6, kt_7, kt_8, kt_9, kt_10, kt_11, kt_12, kt_13, kt_15, kt_16, kt_19, kt_20, kt_24, kt_25, kt_31, kt_32, kt_40, kt_50, kt_60, kt_63, kt_100, kt_120, kt_255, kt_300, kt_999999, kt_1000000, kt_m1, kt_m2, kt_m3, kt_m4, kt_m6, kt_m7, kt_m11, kt_m12, kt_m13, kt_m14, kt_m100] at c2); (try simp only [jlt, jle, jeq, kt_0, kt_1, kt_2, kt_3, kt_4, kt_5, kt_6, kt_7, kt_8, kt_9, kt_10, kt_11, kt_12, kt_13, kt_15, kt_16, kt_19, kt_20, kt_24, kt_25, kt_31, kt_32, kt_40, kt_50, kt_60, kt_63, kt_100, kt_120, kt_255, kt_300, kt_999999, kt_1000000, kt_m1, kt_m2, kt_m3, kt_m4, kt_m6, kt_m7, kt_m11, kt_m12, kt_m13, kt_m14, kt_m100] at c4); (try simp only [jlt, jle, jeq, kt_0, kt_1, kt_2, kt_3, kt_4, kt_5, kt_6, kt_7, kt_8, kt_9, kt_10, kt_11, kt_12, kt_13, kt_15, kt_16, kt_19, kt_20, kt_24, kt_25, kt_31, kt_32, kt_40, kt_50, kt_60, kt_63, kt_100, kt_120, kt_255, kt_300, kt_999999, kt_1000000, kt_m1, kt_m2, kt_m3, kt_m4, kt_m6, kt_m7, kt_m11, kt_m12, kt_m13, kt_m14, kt_m100] at c6); (try simp only [jlt, jle, jeq, kt_0, kt_1, kt_2, kt_3, kt_4, kt_5, kt_6, kt_7, kt_8, kt_9, kt_10, kt_11, kt_12, kt_13, kt_15, kt_16, kt_19, kt_20, kt_24, kt_25, kt_31, kt_32, kt_40, kt_50, kt_60, kt_63, kt_100, kt_120, kt_255, kt_300, kt_999999, kt_1000000, kt_m1, kt_m2, kt_m3, kt_m4, kt_m6, kt_m7, kt_m11, kt_m12, kt_m13, kt_m14, kt_m100] at c8); (try simp only [jlt, jle, jeq, kt_0, kt_1, kt_2, kt_3, kt_4, kt_5, kt_6, kt_7, kt_8, kt_9, kt_10, kt_11, kt_12, kt_13, kt_15, kt_16, kt_19, kt_20, kt_24, kt_25, kt_31, kt_32, kt_40, kt_50, kt_60, kt_63, kt_100, kt_120, kt_255, kt_300, kt_999999, kt_1000000, kt_m1, kt_m2, kt_m3, kt_m4, kt_m6, kt_m7, kt_m11, kt_m12, kt_m13, kt_m14, kt_m100] at c10); (try simp only [jlt, jle, jeq, kt_0, kt_1, kt_2, kt_3, kt_4, kt_5, kt_6, kt_7, kt_8, kt_9, kt_10, kt_11, kt_12, kt_13, kt_15, kt_16, kt_19, kt_20, kt_24, kt_25, kt_31, kt_32, kt_40, kt_50, kt_60, kt_63, kt_100, kt_120, kt_255, kt_300, kt_999999, kt_1000000, kt_m1, kt_m2, kt_m3, kt_m4, kt_m6, kt_m7, kt_m11, kt_m12, kt_m13, kt_m14, kt_m100] at c12); show 0 ≤ c.toInt ∧ c.toInt ≤ 255; (try simp only [kt_0, kt_1, kt_2, kt_3, kt_4, kt_5, kt_6, kt_7, kt_8, kt_9, kt_10, kt_11, kt_12, kt_13, kt_15, kt_16, kt_19, kt_20, kt_24, kt_25, kt_31, kt_32, kt_40, kt_50, kt_60, kt_63, kt_100, kt_120, kt_255, kt_300, kt_999999, kt_1000000, kt_m1, kt_m2, kt_m3, kt_m4, kt_m6, kt_m7, kt_m11, kt_m12, kt_m13, kt_m14, kt_m100]); omega), (by (try simp only [jlt, jle, jeq, kt_0, kt_1, kt_2, kt_3, kt_4, kt_5, kt_6, kt_7, kt_8, kt_9, kt_10, kt_11, kt_12, kt_13, kt_15, kt_16, kt_19, kt_20, kt_24, kt_25, kt_31, kt_32, kt_40, kt_50, kt_60, kt_63, kt_100, kt_120, kt_255, kt_300, kt_999999, kt_1000000, kt_m1, kt_m2, kt_m3, kt_m4, kt_m6, kt_m7, kt_m11, kt_m12, kt_m13, kt_m14, kt_m100] at c2); (try simp only [jlt, jle, jeq, kt_0, kt_1, kt_2, kt_3, kt_4, kt_5, kt_6, kt_7, kt_8, kt_9, kt_10, kt_11, kt_12, kt_13, kt_15, kt_16, kt_19, kt_20, kt_24, kt_25, kt_31, kt_32, kt_40, kt_50, kt_60, kt_63, kt_100, kt_120, kt_255, kt_300, kt_999999, kt_1000000, kt_m1, kt_m2, kt_m3, kt_m4, kt_m6, kt_m7, kt_m11, kt_m12, kt_m13, kt_m14, kt_m100] at c4); (try simp only [jlt, jle, jeq, kt_0, kt_1, kt_2, kt_3, kt_4, kt_5, kt_6, kt_7, kt_8, kt_9, kt_10, kt_11, kt_12, kt_13, kt_15, kt_16, kt_19, kt_20, kt_24, kt_25, kt_31, kt_32, kt_40, kt_50, kt_60, kt_63, kt_100, kt_120, kt_255, kt_300, kt_999999, kt_1000000, kt_m1, kt_m2, kt_m3, kt_m4, kt_m6, kt_m7, kt_m11, kt_m12, kt_m13, kt_m14, kt_m100] at c6); (try simp only [jlt, jle, jeq, kt_0, kt_1, kt_2, kt_3, kt_4, kt_5, kt_6, kt_7, kt_8, kt_9, kt_10, kt_11, kt_12, kt_13, kt_15, kt_16, kt_19, kt_20, kt_24, kt_25, kt_31, kt_32, kt_40, kt_50, kt_60, kt_63, kt_100, kt_120, kt_255, kt_300, kt_999999, kt_1000000, kt_m1, kt_m2, kt_m3, kt_m4, kt_m6, kt_m7, kt_m11, kt_m12, kt_m13, kt_m14, kt_m100] at c8); (try simp only [jlt, jle, jeq, kt_0, kt_1, kt_2, kt_3, kt_4, kt_5, kt_6, kt_7, kt_8, kt_9, kt_10, kt_11, kt_12, kt_13, kt_15, kt_16, kt_19, kt_20, kt_24, kt_25, kt_31, kt_32, kt_40, kt_50, kt_60, kt_63, kt_100, kt_120, kt_255, kt_300, kt_999999, kt_1000000, kt_m1, kt_m2, kt_m3, kt_m4, kt_m6, kt_m7, kt_m11, kt_m12, kt_m13, kt_m14, kt_m100] at c10); (try simp only [jlt, jle, jeq, kt_0, kt_1, kt_2, kt_3, kt_4, kt_5, kt_6, kt_7, kt_8, kt_9, kt_10, kt_11, kt_12, kt_13, kt_15, kt_16, kt_19, kt_20, kt_24, kt_25, kt_31, kt_32, kt_40, kt_50, kt_60, kt_63, kt_100, kt_120, kt_255, kt_300, kt_999999, kt_1000000, kt_m1, kt_m2, kt_m3, kt_m4, kt_m6, kt_m7, kt_m11, kt_m12, kt_m13, kt_m14, kt_m100] at c12); show 0 ≤ d.toInt ∧ d.toInt ≤ 255; (try simp only [kt_0, kt_1, kt_2, kt_3, kt_4, kt_5, kt_6, kt_7, kt_8, kt_9, kt_10, kt_11, kt_12, kt_13, kt_15, kt_16, kt_19, kt_20, kt_24, kt_25, kt_31, kt_32, kt_40, kt_50, kt_60, kt_63, kt_100, kt_120, kt_255, kt_300, kt_999999, kt_1000000, kt_m1, kt_m2, kt_m3, kt_m4, kt_m6, kt_m7, kt_m11, kt_m12, kt_m13, kt_m14, kt_m100]); omega), (by (try simp only [jlt, jle, jeq, kt_0, kt_1, kt_2, kt_3, kt_4, kt_5, kt_6, kt_7, kt_8, kt_9, kt_10, kt_11, kt_12, kt_13, kt_15, kt_16, kt_19, kt_20, kt_24, kt_25, kt_31, kt_32, kt_40, kt_50, kt_60, kt_63, kt_100, kt_120, kt_255, kt_300, kt_999999, kt_1000000, kt_m1, kt_m2, kt_m3, kt_m4, kt_m6, kt_m7, kt_m11, kt_m12, kt_m13, kt_m14, kt_m100] at c2); (try simp only [jlt, jle, jeq, kt_0, kt_1, kt_2, kt_3, kt_4, kt_5, kt_6, kt_7, kt_8, kt_9, kt_10, kt_11, kt_12, kt_13, kt_15, kt_16, kt_19, kt_20, kt_24, kt_25, kt_31, kt_32, kt_40, kt_50, kt_60, kt_63, kt_100, kt_120, kt_255, kt_300, kt_999999, kt_1000000, kt_m1, kt_m2, kt_m3, kt_m4, kt_m6, kt_m7, kt_m11, kt_m12, kt_m13, kt_m14, kt_m100] at c4); (try simp only [jlt, jle, jeq, kt_0, kt_1, kt_2, kt_3, kt_4, kt_5, kt_6, kt_7, kt_8, kt_9, kt_10, kt_11, kt_12, kt_13, kt_15, kt_16, kt_19, kt_20, kt_24, kt_25, kt_31, kt_32, kt_40, kt_50, kt_60, kt_63, kt_100, kt_120, kt_255, kt_300, kt_999999, kt_1000000, kt_m1, kt_m2, kt_m3, kt_m4, kt_m6, kt_m7, kt_m11, kt_m12, kt_m13, kt_m14, kt_m100] at c6); (try simp only [jlt, jle, jeq, kt_0, kt_1, kt_2, kt_3, kt_4, kt_5, kt_6, kt_7, kt_8, kt_9, kt_10, kt_11, kt_12, kt_13, kt_15, kt_16, kt_19, kt_20, kt_24, kt_25, kt_31, kt_32, kt_40, kt_50, kt_60, kt_63, kt_100, kt_120, kt_255, kt_300, kt_999999, kt_1000000, kt_m1, kt_m2, kt_m3, kt_m4, kt_m6, kt_m7, kt_m11, kt_m12, kt_m13, kt_m14, kt_m100] at c8); (try simp only [jlt, jle, jeq, kt_0, kt_1, kt_2, kt_3, kt_4, kt_5, kt_6, kt_7, kt_8, kt_9, kt_10, kt_11, kt_12, kt_13, kt_15, kt_16, kt_19, kt_20, kt_24, kt_25, kt_31, kt_32, kt_40, kt_50, kt_60, kt_63, kt_100, kt_120, kt_255, kt_300, kt_999999, kt_1000000, kt_m1, kt_m2, kt_m3, kt_m4, kt_m6, kt_m7, kt_m11, kt_m12, kt_m13, kt_m14, kt_m100] at c10); (try simp only [jlt, jle, jeq, kt_0, kt_1, kt_2, kt_3, kt_4, kt_5, kt_6, kt_7, kt_8, kt_9, kt_10, kt_11, kt_12, kt_13, kt_15, kt_16, kt_19, kt_20, kt_24, kt_25, kt_31, kt_32, kt_40, kt_50, kt_60, kt_63, kt_100, kt_120, kt_255, kt_300, kt_999999, kt_1000000, kt_m1, kt_m2, kt_m3, kt_m4, kt_m6, kt_m7, kt_m11, kt_m12, kt_m13, kt_m14, kt_m100] at c12); show 0 ≤ e.toInt ∧ e.toInt ≤ 255; (try simp only [kt_0, kt_1, kt_2, kt_3, kt_4, kt_5, kt_6, kt_7, kt_8, kt_9, kt_10, kt_11, kt_12, kt_13, kt_15, kt_16, kt_19, kt_20, kt_24, kt_25, kt_31, kt_32, kt_40, kt_50, kt_60, kt_63, kt_100, kt_120, kt_255, kt_300, kt_999999, kt_1000000, kt_m1, kt_m2, kt_m3, kt_m4, kt_m6, kt_m7, kt_m11, kt_m12, kt_m13, kt_m14, kt_m100]); omega)⟩
              have hres : some (Value.int n) = some (Value.int (an_feed n a b c d e)) := jip hal
              clear hal c2 c4 c6 c8 c10 c12
              rcases hn with rfl | rfl | rfl | rfl | rfl
              · show JJ g w 50 [(0, .ref x), (1, .int 1), (2, .int a), (3, .int b), (4, .int c), (5, .int d), (6, .int e)] []
                refine j_blk 51 [(0, .ref x), (1, .int 1), (2, .int a), (3, .int b), (4, .int c), (5, .int d), (6, .int e)] [.ref x] C k_c_Mo_feed_50_1 rfl ?_
                refine j_get C d_c_Mo_feed_51 fg_Mo_116 hx h1 ?_
                refine j_blk 58 [(0, .ref x), (1, .int 1), (2, .int a), (3, .int b), (4, .int c), (5, .int d), (6, .int e)] [.int 120, .int 1] C k_c_Mo_feed_54_3 rfl ?_
                refine j_icmp_le (tgt := 64) C d_c_Mo_feed_58 (by decide) (fun c13 => ?_) (fun c13 => absurd (by decide) c13)
                refine j_blk 70 [(7, .int 0), (0, .ref x), (1, .int 1), (2, .int a), (3, .int b), (4, .int c), (5, .int d), (6, .int e)] [.int 1, .int 0] C k_c_Mo_feed_64_4 rfl ?_
                refine j_icmp_ge (tgt := 134) C d_c_Mo_feed_70 (by decide) (fun c14 => absurd c14 (by decide)) (fun c14 => ?_)
                refine j_blk 74 [(7, .int 0), (0, .ref x), (1, .int 1), (2, .int a), (3, .int b), (4, .int c), (5, .int d), (6, .int e)] [.ref x] C k_c_Mo_feed_73_1 rfl ?_
                refine j_get C d_c_Mo_feed_74 fg_Mo_76 hx h0 ?_
                refine j_blk 78 [(7, .int 0), (0, .ref x), (1, .int 1), (2, .int a), (3, .int b), (4, .int c), (5, .int d), (6, .int e)] [.ref x, .ref tp] C k_c_Mo_feed_77_1 rfl ?_
                refine j_get C d_c_Mo_feed_78 fg_Mo_116 hx h1 ?_
                refine j_blk 86 [(7, .int 0), (0, .ref x), (1, .int 1), (2, .int a), (3, .int b), (4, .int c), (5, .int d), (6, .int e)] [.int 0, .int 0, .ref tp] C k_c_Mo_feed_81_3 rfl ?_
                refine j_if_ne (tgt := 93) C d_c_Mo_feed_86 (by decide) (fun c15 => absurd (by decide) c15) (fun c15 => ?_)
                refine j_blk 127 [(7, .int 0), (0, .ref x), (1, .int 1), (2, .int a), (3, .int b), (4, .int c), (5, .int d), (6, .int e)] [.int a, .int 0, .ref tp] C k_c_Mo_feed_89_2 rfl ?_
                refine j_iast C d_c_Mo_feed_127 ht (jin (by decide) (by decide)) ?_
                refine jnv (fun w_7 ew_7 => ?_)
                have m_tp_w_7 : w_7.1 tp = some (aI D 120 (upd (fun _ => 0) 0 a)) := jus ew_7
                have hk_w_7 := jk0 ew_7 hk
                have fr_w_7 := jfrW ew_7 fr0 (fun b e hb _ => Nat.ne_of_gt (Nat.lt_of_lt_of_le tq hb))
                refine j_blk 67 [(7, .int 1), (0, .ref x), (1, .int 1), (2, .int a), (3, .int b), (4, .int c), (5, .int d), (6, .int e)] [] C k_c_Mo_feed_128_2 rfl ?_
                refine j_blk 70 [(7, .int 1), (0, .ref x), (1, .int 1), (2, .int a), (3, .int b), (4, .int c), (5, .int d), (6, .int e)] [.int 1, .int 1] C k_c_Mo_feed_67_2 rfl ?_
                refine j_icmp_ge (tgt := 134) C d_c_Mo_feed_70 (by decide) (fun c16 => ?_) (fun c16 => absurd (by decide) c16)
                refine j_blk 136 [(7, .int 1), (0, .ref x), (1, .int 1), (2, .int a), (3, .int b), (4, .int c), (5, .int d), (6, .int e)] [.ref x, .ref x] C k_c_Mo_feed_134_2 rfl ?_
                have m_x_w_7 := jun ew_7 hx (jneOA hx ht)
                refine j_get C d_c_Mo_feed_136 fg_Mo_116 m_x_w_7 h1 ?_
                refine j_blk 141 [(7, .int 1), (0, .ref x), (1, .int 1), (2, .int a), (3, .int b), (4, .int c), (5, .int d), (6, .int e)] [.int 1, .ref x] C k_c_Mo_feed_139_2 rfl ?_
                refine j_put C d_c_Mo_feed_141 fp_Mo_116 m_x_w_7 rfl rfl ?_
                refine jnv (fun w_8 ew_8 => ?_)
                have m_x_w_8 : w_8.1 x = some (.inr (10, (updV V 22 (.int 1)))) := jus ew_8
                have hk_w_8 := jk0 ew_8 hk_w_7
                have fr_w_8 := jfrW ew_8 fr_w_7 (fun b e hb _ => Nat.ne_of_gt (Nat.lt_of_lt_of_le xq hb))
                refine j_blk 145 [(7, .int 1), (0, .ref x), (1, .int 1), (2, .int a), (3, .int b), (4, .int c), (5, .int d), (6, .int e)] [.ref x] C k_c_Mo_feed_144_1 rfl ?_
                refine j_get C d_c_Mo_feed_145 fg_Mo_116 m_x_w_8 rfl ?_
                exact j_iret C Rm E d_c_Mo_feed_148 ⟨hres, fr_w_8⟩ (jbnd hk_w_8.1 rfl) (jbnd hk_w_8.2 rfl)
              · show JJ g w 50 [(0, .ref x), (1, .int 2), (2, .int a), (3, .int b), (4, .int c), (5, .int d), (6, .int e)] []
                refine j_blk 51 [(0, .ref x), (1, .int 2), (2, .int a), (3, .int b), (4, .int c), (5, .int d), (6, .int e)] [.ref x] C k_c_Mo_feed_50_1 rfl ?_
                refine j_get C d_c_Mo_feed_51 fg_Mo_116 hx h1 ?_
                refine j_blk 58 [(0, .ref x), (1, .int 2), (2, .int a), (3, .int b), (4, .int c), (5, .int d), (6, .int e)] [.int 120, .int 2] C k_c_Mo_feed_54_3 rfl ?_
                refine j_icmp_le (tgt := 64) C d_c_Mo_feed_58 (by decide) (fun c17 => ?_) (fun c17 => absurd (by decide) c17)
                refine j_blk 70 [(7, .int 0), (0, .ref x), (1, .int 2), (2, .int a), (3, .int b), (4, .int c), (5, .int d), (6, .int e)] [.int 2, .int 0] C k_c_Mo_feed_64_4 rfl ?_
                refine j_icmp_ge (tgt := 134) C d_c_Mo_feed_70 (by decide) (fun c18 => absurd c18 (by decide)) (fun c18 => ?_)
                refine j_blk 74 [(7, .int 0), (0, .ref x), (1, .int 2), (2, .int a), (3, .int b), (4, .int c), (5, .int d), (6, .int e)] [.ref x] C k_c_Mo_feed_73_1 rfl ?_
                refine j_get C d_c_Mo_feed_74 fg_Mo_76 hx h0 ?_
                refine j_blk 78 [(7, .int 0), (0, .ref x), (1, .int 2), (2, .int a), (3, .int b), (4, .int c), (5, .int d), (6, .int e)] [.ref x, .ref tp] C k_c_Mo_feed_77_1 rfl ?_
                refine j_get C d_c_Mo_feed_78 fg_Mo_116 hx h1 ?_
                refine j_blk 86 [(7, .int 0), (0, .ref x), (1, .int 2), (2, .int a), (3, .int b), (4, .int c), (5, .int d), (6, .int e)] [.int 0, .int 0, .ref tp] C k_c_Mo_feed_81_3 rfl ?_
                refine j_if_ne (tgt := 93) C d_c_Mo_feed_86 (by decide) (fun c19 => absurd (by decide) c19) (fun c19 => ?_)
                refine j_blk 127 [(7, .int 0), (0, .ref x), (1, .int 2), (2, .int a), (3, .int b), (4, .int c), (5, .int d), (6, .int e)] [.int a, .int 0, .ref tp] C k_c_Mo_feed_89_2 rfl ?_
                refine j_iast C d_c_Mo_feed_127 ht (jin (by decide) (by decide)) ?_
                refine jnv (fun w_9 ew_9 => ?_)
                have m_tp_w_9 : w_9.1 tp = some (aI D 120 (upd (fun _ => 0) 0 a)) := jus ew_9
                have hk_w_9 := jk0 ew_9 hk
                have fr_w_9 := jfrW ew_9 fr0 (fun b e hb _ => Nat.ne_of_gt (Nat.lt_of_lt_of_le tq hb))
                refine j_blk 67 [(7, .int 1), (0, .ref x), (1, .int 2), (2, .int a), (3, .int b), (4, .int c), (5, .int d), (6, .int e)] [] C k_c_Mo_feed_128_2 rfl ?_
                refine j_blk 70 [(7, .int 1), (0, .ref x), (1, .int 2), (2, .int a), (3, .int b), (4, .int c), (5, .int d), (6, .int e)] [.int 2, .int 1] C k_c_Mo_feed_67_2 rfl ?_
                refine j_icmp_ge (tgt := 134) C d_c_Mo_feed_70 (by decide) (fun c20 => absurd c20 (by decide)) (fun c20 => ?_)
                refine j_blk 74 [(7, .int 1), (0, .ref x), (1, .int 2), (2, .int a), (3, .int b), (4, .int c), (5, .int d), (6, .int e)] [.ref x] C k_c_Mo_feed_73_1 rfl ?_
                have m_x_w_9 := jun ew_9 hx (jneOA hx ht)
                refine j_get C d_c_Mo_feed_74 fg_Mo_76 m_x_w_9 h0 ?_
                refine j_blk 78 [(7, .int 1), (0, .ref x), (1, .int 2), (2, .int a), (3, .int b), (4, .int c), (5, .int d), (6, .int e)] [.ref x, .ref tp] C k_c_Mo_feed_77_1 rfl ?_
                refine j_get C d_c_Mo_feed_78 fg_Mo_116 m_x_w_9 h1 ?_
                refine j_blk 86 [(7, .int 1), (0, .ref x), (1, .int 2), (2, .int a), (3, .int b), (4, .int c), (5, .int d), (6, .int e)] [.int 1, .int 1, .ref tp] C k_c_Mo_feed_81_3 rfl ?_
                refine j_if_ne (tgt := 93) C d_c_Mo_feed_86 (by decide) (fun c21 => ?_) (fun c21 => absurd c21 (by decide))
                refine j_blk 96 [(7, .int 1), (0, .ref x), (1, .int 2), (2, .int a), (3, .int b), (4, .int c), (5, .int d), (6, .int e)] [.int 1, .int 1, .int 1, .ref tp] C k_c_Mo_feed_93_2 rfl ?_
                refine j_icmp_ne (tgt := 103) C d_c_Mo_feed_96 (by decide) (fun c22 => absurd (by decide) c22) (fun c22 => ?_)
                refine j_blk 127 [(7, .int 1), (0, .ref x), (1, .int 2), (2, .int a), (3, .int b), (4, .int c), (5, .int d), (6, .int e)] [.int b, .int 1, .ref tp] C k_c_Mo_feed_99_2 rfl ?_
                refine j_iast C d_c_Mo_feed_127 m_tp_w_9 (jin (by decide) (by decide)) ?_
                refine jnv (fun w_10 ew_10 => ?_)
                have m_tp_w_10 : w_10.1 tp = some (aI D 120 (upd (upd (fun _ => 0) 0 a) 1 b)) := jus ew_10
                have hk_w_10 := jk0 ew_10 hk_w_9
                have fr_w_10 := jfrW ew_10 fr_w_9 (fun b e hb _ => Nat.ne_of_gt (Nat.lt_of_lt_of_le tq hb))
                refine j_blk 67 [(7, .int 2), (0, .ref x), (1, .int 2), (2, .int a), (3, .int b), (4, .int c), (5, .int d), (6, .int e)] [] C k_c_Mo_feed_128_2 rfl ?_
                refine j_blk 70 [(7, .int 2), (0, .ref x), (1, .int 2), (2, .int a), (3, .int b), (4, .int c), (5, .int d), (6, .int e)] [.int 2, .int 2] C k_c_Mo_feed_67_2 rfl ?_
                refine j_icmp_ge (tgt := 134) C d_c_Mo_feed_70 (by decide) (fun c23 => ?_) (fun c23 => absurd (by decide) c23)
                refine j_blk 136 [(7, .int 2), (0, .ref x), (1, .int 2), (2, .int a), (3, .int b), (4, .int c), (5, .int d), (6, .int e)] [.ref x, .ref x] C k_c_Mo_feed_134_2 rfl ?_
                have m_x_w_10 := jun ew_10 m_x_w_9 (jneOA m_x_w_9 m_tp_w_9)
                refine j_get C d_c_Mo_feed_136 fg_Mo_116 m_x_w_10 h1 ?_
                refine j_blk 141 [(7, .int 2), (0, .ref x), (1, .int 2), (2, .int a), (3, .int b), (4, .int c), (5, .int d), (6, .int e)] [.int 2, .ref x] C k_c_Mo_feed_139_2 rfl ?_
                refine j_put C d_c_Mo_feed_141 fp_Mo_116 m_x_w_10 rfl rfl ?_
                refine jnv (fun w_11 ew_11 => ?_)
                have m_x_w_11 : w_11.1 x = some (.inr (10, (updV V 22 (.int 2)))) := jus ew_11
                have hk_w_11 := jk0 ew_11 hk_w_10
                have fr_w_11 := jfrW ew_11 fr_w_10 (fun b e hb _ => Nat.ne_of_gt (Nat.lt_of_lt_of_le xq hb))
                refine j_blk 145 [(7, .int 2), (0, .ref x), (1, .int 2), (2, .int a), (3, .int b), (4, .int c), (5, .int d), (6, .int e)] [.ref x] C k_c_Mo_feed_144_1 rfl ?_
                refine j_get C d_c_Mo_feed_145 fg_Mo_116 m_x_w_11 rfl ?_
                exact j_iret C Rm E d_c_Mo_feed_148 ⟨hres, fr_w_11⟩ (jbnd hk_w_11.1 rfl) (jbnd hk_w_11.2 rfl)
              · show JJ g w 50 [(0, .ref x), (1, .int 3), (2, .int a), (3, .int b), (4, .int c), (5, .int d), (6, .int e)] []
                refine j_blk 51 [(0, .ref x), (1, .int 3), (2, .int a), (3, .int b), (4, .int c), (5, .int d), (6, .int e)] [.ref x] C k_c_Mo_feed_50_1 rfl ?_
                refine j_get C d_c_Mo_feed_51 fg_Mo_116 hx h1 ?_
                refine j_blk 58 [(0, .ref x), (1, .int 3), (2, .int a), (3, .int b), (4, .int c), (5, .int d), (6, .int e)] [.int 120, .int 3] C k_c_Mo_feed_54_3 rfl ?_
                refine j_icmp_le (tgt := 64) C d_c_Mo_feed_58 (by decide) (fun c24 => ?_) (fun c24 => absurd (by decide) c24)
                refine j_blk 70 [(7, .int 0), (0, .ref x), (1, .int 3), (2, .int a), (3, .int b), (4, .int c), (5, .int d), (6, .int e)] [.int 3, .int 0] C k_c_Mo_feed_64_4 rfl ?_
                refine j_icmp_ge (tgt := 134) C d_c_Mo_feed_70 (by decide) (fun c25 => absurd c25 (by decide)) (fun c25 => ?_)
                refine j_blk 74 [(7, .int 0), (0, .ref x), (1, .int 3), (2, .int a), (3, .int b), (4, .int c), (5, .int d), (6, .int e)] [.ref x] C k_c_Mo_feed_73_1 rfl ?_
                refine j_get C d_c_Mo_feed_74 fg_Mo_76 hx h0 ?_
                refine j_blk 78 [(7, .int 0), (0, .ref x), (1, .int 3), (2, .int a), (3, .int b), (4, .int c), (5, .int d), (6, .int e)] [.ref x, .ref tp] C k_c_Mo_feed_77_1 rfl ?_
                refine j_get C d_c_Mo_feed_78 fg_Mo_116 hx h1 ?_
                refine j_blk 86 [(7, .int 0), (0, .ref x), (1, .int 3), (2, .int a), (3, .int b), (4, .int c), (5, .int d), (6, .int e)] [.int 0, .int 0, .ref tp] C k_c_Mo_feed_81_3 rfl ?_
                refine j_if_ne (tgt := 93) C d_c_Mo_feed_86 (by decide) (fun c26 => absurd (by decide) c26) (fun c26 => ?_)
                refine j_blk 127 [(7, .int 0), (0, .ref x), (1, .int 3), (2, .int a), (3, .int b), (4, .int c), (5, .int d), (6, .int e)] [.int a, .int 0, .ref tp] C k_c_Mo_feed_89_2 rfl ?_
                refine j_iast C d_c_Mo_feed_127 ht (jin (by decide) (by decide)) ?_
                refine jnv (fun w_12 ew_12 => ?_)
                have m_tp_w_12 : w_12.1 tp = some (aI D 120 (upd (fun _ => 0) 0 a)) := jus ew_12
                have hk_w_12 := jk0 ew_12 hk
                have fr_w_12 := jfrW ew_12 fr0 (fun b e hb _ => Nat.ne_of_gt (Nat.lt_of_lt_of_le tq hb))
                refine j_blk 67 [(7, .int 1), (0, .ref x), (1, .int 3), (2, .int a), (3, .int b), (4, .int c), (5, .int d), (6, .int e)] [] C k_c_Mo_feed_128_2 rfl ?_
                refine j_blk 70 [(7, .int 1), (0, .ref x), (1, .int 3), (2, .int a), (3, .int b), (4, .int c), (5, .int d), (6, .int e)] [.int 3, .int 1] C k_c_Mo_feed_67_2 rfl ?_
                refine j_icmp_ge (tgt := 134) C d_c_Mo_feed_70 (by decide) (fun c27 => absurd c27 (by decide)) (fun c27 => ?_)
                refine j_blk 74 [(7, .int 1), (0, .ref x), (1, .int 3), (2, .int a), (3, .int b), (4, .int c), (5, .int d), (6, .int e)] [.ref x] C k_c_Mo_feed_73_1 rfl ?_
                have m_x_w_12 := jun ew_12 hx (jneOA hx ht)
                refine j_get C d_c_Mo_feed_74 fg_Mo_76 m_x_w_12 h0 ?_
                refine j_blk 78 [(7, .int 1), (0, .ref x), (1, .int 3), (2, .int a), (3, .int b), (4, .int c), (5, .int d), (6, .int e)] [.ref x, .ref tp] C k_c_Mo_feed_77_1 rfl ?_
                refine j_get C d_c_Mo_feed_78 fg_Mo_116 m_x_w_12 h1 ?_
                refine j_blk 86 [(7, .int 1), (0, .ref x), (1, .int 3), (2, .int a), (3, .int b), (4, .int c), (5, .int d), (6, .int e)] [.int 1, .int 1, .ref tp] C k_c_Mo_feed_81_3 rfl ?_
                refine j_if_ne (tgt := 93) C d_c_Mo_feed_86 (by decide) (fun c28 => ?_) (fun c28 => absurd c28 (by decide))
                refine j_blk 96 [(7, .int 1), (0, .ref x), (1, .int 3), (2, .int a), (3, .int b), (4, .int c), (5, .int d), (6, .int e)] [.int 1, .int 1, .int 1, .ref tp] C k_c_Mo_feed_93_2 rfl ?_
                refine j_icmp_ne (tgt := 103) C d_c_Mo_feed_96 (by decide) (fun c29 => absurd (by decide) c29) (fun c29 => ?_)
                refine j_blk 127 [(7, .int 1), (0, .ref x), (1, .int 3), (2, .int a), (3, .int b), (4, .int c), (5, .int d), (6, .int e)] [.int b, .int 1, .ref tp] C k_c_Mo_feed_99_2 rfl ?_
                refine j_iast C d_c_Mo_feed_127 m_tp_w_12 (jin (by decide) (by decide)) ?_
                refine jnv (fun w_13 ew_13 => ?_)
                have m_tp_w_13 : w_13.1 tp = some (aI D 120 (upd (upd (fun _ => 0) 0 a) 1 b)) := jus ew_13
                have hk_w_13 := jk0 ew_13 hk_w_12
                have fr_w_13 := jfrW ew_13 fr_w_12 (fun b e hb _ => Nat.ne_of_gt (Nat.lt_of_lt_of_le tq hb))
                refine j_blk 67 [(7, .int 2), (0, .ref x), (1, .int 3), (2, .int a), (3, .int b), (4, .int c), (5, .int d), (6, .int e)] [] C k_c_Mo_feed_128_2 rfl ?_
                refine j_blk 70 [(7, .int 2), (0, .ref x), (1, .int 3), (2, .int a), (3, .int b), (4, .int c), (5, .int d), (6, .int e)] [.int 3, .int 2] C k_c_Mo_feed_67_2 rfl ?_
                refine j_icmp_ge (tgt := 134) C d_c_Mo_feed_70 (by decide) (fun c30 => absurd c30 (by decide)) (fun c30 => ?_)
                refine j_blk 74 [(7, .int 2), (0, .ref x), (1, .int 3), (2, .int a), (3, .int b), (4, .int c), (5, .int d), (6, .int e)] [.ref x] C k_c_Mo_feed_73_1 rfl ?_
                have m_x_w_13 := jun ew_13 m_x_w_12 (jneOA m_x_w_12 m_tp_w_12)
                refine j_get C d_c_Mo_feed_74 fg_Mo_76 m_x_w_13 h0 ?_
                refine j_blk 78 [(7, .int 2), (0, .ref x), (1, .int 3), (2, .int a), (3, .int b), (4, .int c), (5, .int d), (6, .int e)] [.ref x, .ref tp] C k_c_Mo_feed_77_1 rfl ?_
                refine j_get C d_c_Mo_feed_78 fg_Mo_116 m_x_w_13 h1 ?_
                refine j_blk 86 [(7, .int 2), (0, .ref x), (1, .int 3), (2, .int a), (3, .int b), (4, .int c), (5, .int d), (6, .int e)] [.int 2, .int 2, .ref tp] C k_c_Mo_feed_81_3 rfl ?_
                refine j_if_ne (tgt := 93) C d_c_Mo_feed_86 (by decide) (fun c31 => ?_) (fun c31 => absurd c31 (by decide))
                refine j_blk 96 [(7, .int 2), (0, .ref x), (1, .int 3), (2, .int a), (3, .int b), (4, .int c), (5, .int d), (6, .int e)] [.int 1, .int 2, .int 2, .ref tp] C k_c_Mo_feed_93_2 rfl ?_
                refine j_icmp_ne (tgt := 103) C d_c_Mo_feed_96 (by decide) (fun c32 => ?_) (fun c32 => absurd c32 (by decide))
                refine j_blk 106 [(7, .int 2), (0, .ref x), (1, .int 3), (2, .int a), (3, .int b), (4, .int c), (5, .int d), (6, .int e)] [.int 2, .int 2, .int 2, .ref tp] C k_c_Mo_feed_103_2 rfl ?_
                refine j_icmp_ne (tgt := 114) C d_c_Mo_feed_106 (by decide) (fun c33 => absurd (by decide) c33) (fun c33 => ?_)
                refine j_blk 127 [(7, .int 2), (0, .ref x), (1, .int 3), (2, .int a), (3, .int b), (4, .int c), (5, .int d), (6, .int e)] [.int c, .int 2, .ref tp] C k_c_Mo_feed_109_2 rfl ?_
                refine j_iast C d_c_Mo_feed_127 m_tp_w_13 (jin (by decide) (by decide)) ?_
                refine jnv (fun w_14 ew_14 => ?_)
                have m_tp_w_14 : w_14.1 tp = some (aI D 120 (upd (upd (upd (fun _ => 0) 0 a) 1 b) 2 c)) := jus ew_14
                have hk_w_14 := jk0 ew_14 hk_w_13
                have fr_w_14 := jfrW ew_14 fr_w_13 (fun b e hb _ => Nat.ne_of_gt (Nat.lt_of_lt_of_le tq hb))
                refine j_blk 67 [(7, .int 3), (0, .ref x), (1, .int 3), (2, .int a), (3, .int b), (4, .int c), (5, .int d), (6, .int e)] [] C k_c_Mo_feed_128_2 rfl ?_
                refine j_blk 70 [(7, .int 3), (0, .ref x), (1, .int 3), (2, .int a), (3, .int b), (4, .int c), (5, .int d), (6, .int e)] [.int 3, .int 3] C k_c_Mo_feed_67_2 rfl ?_
                refine j_icmp_ge (tgt := 134) C d_c_Mo_feed_70 (by decide) (fun c34 => ?_) (fun c34 => absurd (by decide) c34)
                refine j_blk 136 [(7, .int 3), (0, .ref x), (1, .int 3), (2, .int a), (3, .int b), (4, .int c), (5, .int d), (6, .int e)] [.ref x, .ref x] C k_c_Mo_feed_134_2 rfl ?_
                have m_x_w_14 := jun ew_14 m_x_w_13 (jneOA m_x_w_13 m_tp_w_13)
                refine j_get C d_c_Mo_feed_136 fg_Mo_116 m_x_w_14 h1 ?_
                refine j_blk 141 [(7, .int 3), (0, .ref x), (1, .int 3), (2, .int a), (3, .int b), (4, .int c), (5, .int d), (6, .int e)] [.int 3, .ref x] C k_c_Mo_feed_139_2 rfl ?_
                refine j_put C d_c_Mo_feed_141 fp_Mo_116 m_x_w_14 rfl rfl ?_
                refine jnv (fun w_15 ew_15 => ?_)
                have m_x_w_15 : w_15.1 x = some (.inr (10, (updV V 22 (.int 3)))) := jus ew_15
                have hk_w_15 := jk0 ew_15 hk_w_14
                have fr_w_15 := jfrW ew_15 fr_w_14 (fun b e hb _ => Nat.ne_of_gt (Nat.lt_of_lt_of_le xq hb))
                refine j_blk 145 [(7, .int 3), (0, .ref x), (1, .int 3), (2, .int a), (3, .int b), (4, .int c), (5, .int d), (6, .int e)] [.ref x] C k_c_Mo_feed_144_1 rfl ?_
                refine j_get C d_c_Mo_feed_145 fg_Mo_116 m_x_w_15 rfl ?_
                exact j_iret C Rm E d_c_Mo_feed_148 ⟨hres, fr_w_15⟩ (jbnd hk_w_15.1 rfl) (jbnd hk_w_15.2 rfl)
              · show JJ g w 50 [(0, .ref x), (1, .int 4), (2, .int a), (3, .int b), (4, .int c), (5, .int d), (6, .int e)] []
                refine j_blk 51 [(0, .ref x), (1, .int 4), (2, .int a), (3, .int b), (4, .int c), (5, .int d), (6, .int e)] [.ref x] C k_c_Mo_feed_50_1 rfl ?_
                refine j_get C d_c_Mo_feed_51 fg_Mo_116 hx h1 ?_
                refine j_blk 58 [(0, .ref x), (1, .int 4), (2, .int a), (3, .int b), (4, .int c), (5, .int d), (6, .int e)] [.int 120, .int 4] C k_c_Mo_feed_54_3 rfl ?_
                refine j_icmp_le (tgt := 64) C d_c_Mo_feed_58 (by decide) (fun c35 => ?_) (fun c35 => absurd (by decide) c35)
                refine j_blk 70 [(7, .int 0), (0, .ref x), (1, .int 4), (2, .int a), (3, .int b), (4, .int c), (5, .int d), (6, .int e)] [.int 4, .int 0] C k_c_Mo_feed_64_4 rfl ?_
                refine j_icmp_ge (tgt := 134) C d_c_Mo_feed_70 (by decide) (fun c36 => absurd c36 (by decide)) (fun c36 => ?_)
                refine j_blk 74 [(7, .int 0), (0, .ref x), (1, .int 4), (2, .int a), (3, .int b), (4, .int c), (5, .int d), (6, .int e)] [.ref x] C k_c_Mo_feed_73_1 rfl ?_
                refine j_get C d_c_Mo_feed_74 fg_Mo_76 hx h0 ?_
                refine j_blk 78 [(7, .int 0), (0, .ref x), (1, .int 4), (2, .int a), (3, .int b), (4, .int c), (5, .int d), (6, .int e)] [.ref x, .ref tp] C k_c_Mo_feed_77_1 rfl ?_
                refine j_get C d_c_Mo_feed_78 fg_Mo_116 hx h1 ?_
                refine j_blk 86 [(7, .int 0), (0, .ref x), (1, .int 4), (2, .int a), (3, .int b), (4, .int c), (5, .int d), (6, .int e)] [.int 0, .int 0, .ref tp] C k_c_Mo_feed_81_3 rfl ?_
                refine j_if_ne (tgt := 93) C d_c_Mo_feed_86 (by decide) (fun c37 => absurd (by decide) c37) (fun c37 => ?_)
                refine j_blk 127 [(7, .int 0), (0, .ref x), (1, .int 4), (2, .int a), (3, .int b), (4, .int c), (5, .int d), (6, .int e)] [.int a, .int 0, .ref tp] C k_c_Mo_feed_89_2 rfl ?_
                refine j_iast C d_c_Mo_feed_127 ht (jin (by decide) (by decide)) ?_
                refine jnv (fun w_16 ew_16 => ?_)
                have m_tp_w_16 : w_16.1 tp = some (aI D 120 (upd (fun _ => 0) 0 a)) := jus ew_16
                have hk_w_16 := jk0 ew_16 hk
                have fr_w_16 := jfrW ew_16 fr0 (fun b e hb _ => Nat.ne_of_gt (Nat.lt_of_lt_of_le tq hb))
                refine j_blk 67 [(7, .int 1), (0, .ref x), (1, .int 4), (2, .int a), (3, .int b), (4, .int c), (5, .int d), (6, .int e)] [] C k_c_Mo_feed_128_2 rfl ?_
                refine j_blk 70 [(7, .int 1), (0, .ref x), (1, .int 4), (2, .int a), (3, .int b), (4, .int c), (5, .int d), (6, .int e)] [.int 4, .int 1] C k_c_Mo_feed_67_2 rfl ?_
                refine j_icmp_ge (tgt := 134) C d_c_Mo_feed_70 (by decide) (fun c38 => absurd c38 (by decide)) (fun c38 => ?_)
                refine j_blk 74 [(7, .int 1), (0, .ref x), (1, .int 4), (2, .int a), (3, .int b), (4, .int c), (5, .int d), (6, .int e)] [.ref x] C k_c_Mo_feed_73_1 rfl ?_
                have m_x_w_16 := jun ew_16 hx (jneOA hx ht)
                refine j_get C d_c_Mo_feed_74 fg_Mo_76 m_x_w_16 h0 ?_
                refine j_blk 78 [(7, .int 1), (0, .ref x), (1, .int 4), (2, .int a), (3, .int b), (4, .int c), (5, .int d), (6, .int e)] [.ref x, .ref tp] C k_c_Mo_feed_77_1 rfl ?_
                refine j_get C d_c_Mo_feed_78 fg_Mo_116 m_x_w_16 h1 ?_
                refine j_blk 86 [(7, .int 1), (0, .ref x), (1, .int 4), (2, .int a), (3, .int b), (4, .int c), (5, .int d), (6, .int e)] [.int 1, .int 1, .ref tp] C k_c_Mo_feed_81_3 rfl ?_
                refine j_if_ne (tgt := 93) C d_c_Mo_feed_86 (by decide) (fun c39 => ?_) (fun c39 => absurd c39 (by decide))
                refine j_blk 96 [(7, .int 1), (0, .ref x), (1, .int 4), (2, .int a), (3, .int b), (4, .int c), (5, .int d), (6, .int e)] [.int 1, .int 1, .int 1, .ref tp] C k_c_Mo_feed_93_2 rfl ?_
                refine j_icmp_ne (tgt := 103) C d_c_Mo_feed_96 (by decide) (fun c40 => absurd (by decide) c40) (fun c40 => ?_)
                refine j_blk 127 [(7, .int 1), (0, .ref x), (1, .int 4), (2, .int a), (3, .int b), (4, .int c), (5, .int d), (6, .int e)] [.int b, .int 1, .ref tp] C k_c_Mo_feed_99_2 rfl ?_
                refine j_iast C d_c_Mo_feed_127 m_tp_w_16 (jin (by decide) (by decide)) ?_
                refine jnv (fun w_17 ew_17 => ?_)
                have m_tp_w_17 : w_17.1 tp = some (aI D 120 (upd (upd (fun _ => 0) 0 a) 1 b)) := jus ew_17
                have hk_w_17 := jk0 ew_17 hk_w_16
                have fr_w_17 := jfrW ew_17 fr_w_16 (fun b e hb _ => Nat.ne_of_gt (Nat.lt_of_lt_of_le tq hb))
                refine j_blk 67 [(7, .int 2), (0, .ref x), (1, .int 4), (2, .int a), (3, .int b), (4, .int c), (5, .int d), (6, .int e)] [] C k_c_Mo_feed_128_2 rfl ?_
                refine j_blk 70 [(7, .int 2), (0, .ref x), (1, .int 4), (2, .int a), (3, .int b), (4, .int c), (5, .int d), (6, .int e)] [.int 4, .int 2] C k_c_Mo_feed_67_2 rfl ?_
                refine j_icmp_ge (tgt := 134) C d_c_Mo_feed_70 (by decide) (fun c41 => absurd c41 (by decide)) (fun c41 => ?_)
                refine j_blk 74 [(7, .int 2), (0, .ref x), (1, .int 4), (2, .int a), (3, .int b), (4, .int c), (5, .int d), (6, .int e)] [.ref x] C k_c_Mo_feed_73_1 rfl ?_
                have m_x_w_17 := jun ew_17 m_x_w_16 (jneOA m_x_w_16 m_tp_w_16)
                refine j_get C d_c_Mo_feed_74 fg_Mo_76 m_x_w_17 h0 ?_
                refine j_blk 78 [(7, .int 2), (0, .ref x), (1, .int 4), (2, .int a), (3, .int b), (4, .int c), (5, .int d), (6, .int e)] [.ref x, .ref tp] C k_c_Mo_feed_77_1 rfl ?_
                refine j_get C d_c_Mo_feed_78 fg_Mo_116 m_x_w_17 h1 ?_
                refine j_blk 86 [(7, .int 2), (0, .ref x), (1, .int 4), (2, .int a), (3, .int b), (4, .int c), (5, .int d), (6, .int e)] [.int 2, .int 2, .ref tp] C k_c_Mo_feed_81_3 rfl ?_
                refine j_if_ne (tgt := 93) C d_c_Mo_feed_86 (by decide) (fun c42 => ?_) (fun c42 => absurd c42 (by decide))
                refine j_blk 96 [(7, .int 2), (0, .ref x), (1, .int 4), (2, .int a), (3, .int b), (4, .int c), (5, .int d), (6, .int e)] [.int 1, .int 2, .int 2, .ref tp] C k_c_Mo_feed_93_2 rfl ?_
                refine j_icmp_ne (tgt := 103) C d_c_Mo_feed_96 (by decide) (fun c43 => ?_) (fun c43 => absurd c43 (by decide))
                refine j_blk 106 [(7, .int 2), (0, .ref x), (1, .int 4), (2, .int a), (3, .int b), (4, .int c), (5, .int d), (6, .int e)] [.int 2, .int 2, .int 2, .ref tp] C k_c_Mo_feed_103_2 rfl ?_
                refine j_icmp_ne (tgt := 114) C d_c_Mo_feed_106 (by decide) (fun c44 => absurd (by decide) c44) (fun c44 => ?_)
                refine j_blk 127 [(7, .int 2), (0, .ref x), (1, .int 4), (2, .int a), (3, .int b), (4, .int c), (5, .int d), (6, .int e)] [.int c, .int 2, .ref tp] C k_c_Mo_feed_109_2 rfl ?_
                refine j_iast C d_c_Mo_feed_127 m_tp_w_17 (jin (by decide) (by decide)) ?_
                refine jnv (fun w_18 ew_18 => ?_)
                have m_tp_w_18 : w_18.1 tp = some (aI D 120 (upd (upd (upd (fun _ => 0) 0 a) 1 b) 2 c)) := jus ew_18
                have hk_w_18 := jk0 ew_18 hk_w_17
                have fr_w_18 := jfrW ew_18 fr_w_17 (fun b e hb _ => Nat.ne_of_gt (Nat.lt_of_lt_of_le tq hb))
                refine j_blk 67 [(7, .int 3), (0, .ref x), (1, .int 4), (2, .int a), (3, .int b), (4, .int c), (5, .int d), (6, .int e)] [] C k_c_Mo_feed_128_2 rfl ?_
                refine j_blk 70 [(7, .int 3), (0, .ref x), (1, .int 4), (2, .int a), (3, .int b), (4, .int c), (5, .int d), (6, .int e)] [.int 4, .int 3] C k_c_Mo_feed_67_2 rfl ?_
                refine j_icmp_ge (tgt := 134) C d_c_Mo_feed_70 (by decide) (fun c45 => absurd c45 (by decide)) (fun c45 => ?_)
                refine j_blk 74 [(7, .int 3), (0, .ref x), (1, .int 4), (2, .int a), (3, .int b), (4, .int c), (5, .int d), (6, .int e)] [.ref x] C k_c_Mo_feed_73_1 rfl ?_
                have m_x_w_18 := jun ew_18 m_x_w_17 (jneOA m_x_w_17 m_tp_w_17)
                refine j_get C d_c_Mo_feed_74 fg_Mo_76 m_x_w_18 h0 ?_
                refine j_blk 78 [(7, .int 3), (0, .ref x), (1, .int 4), (2, .int a), (3, .int b), (4, .int c), (5, .int d), (6, .int e)] [.ref x, .ref tp] C k_c_Mo_feed_77_1 rfl ?_
                refine j_get C d_c_Mo_feed_78 fg_Mo_116 m_x_w_18 h1 ?_
                refine j_blk 86 [(7, .int 3), (0, .ref x), (1, .int 4), (2, .int a), (3, .int b), (4, .int c), (5, .int d), (6, .int e)] [.int 3, .int 3, .ref tp] C k_c_Mo_feed_81_3 rfl ?_
                refine j_if_ne (tgt := 93) C d_c_Mo_feed_86 (by decide) (fun c46 => ?_) (fun c46 => absurd c46 (by decide))
                refine j_blk 96 [(7, .int 3), (0, .ref x), (1, .int 4), (2, .int a), (3, .int b), (4, .int c), (5, .int d), (6, .int e)] [.int 1, .int 3, .int 3, .ref tp] C k_c_Mo_feed_93_2 rfl ?_
                refine j_icmp_ne (tgt := 103) C d_c_Mo_feed_96 (by decide) (fun c47 => ?_) (fun c47 => absurd c47 (by decide))
                refine j_blk 106 [(7, .int 3), (0, .ref x), (1, .int 4), (2, .int a), (3, .int b), (4, .int c), (5, .int d), (6, .int e)] [.int 2, .int 3, .int 3, .ref tp] C k_c_Mo_feed_103_2 rfl ?_
                refine j_icmp_ne (tgt := 114) C d_c_Mo_feed_106 (by decide) (fun c48 => ?_) (fun c48 => absurd c48 (by decide))
                refine j_blk 117 [(7, .int 3), (0, .ref x), (1, .int 4), (2, .int a), (3, .int b), (4, .int c), (5, .int d), (6, .int e)] [.int 3, .int 3, .int 3, .ref tp] C k_c_Mo_feed_114_2 rfl ?_
                refine j_icmp_ne (tgt := 125) C d_c_Mo_feed_117 (by decide) (fun c49 => absurd (by decide) c49) (fun c49 => ?_)
                refine j_blk 127 [(7, .int 3), (0, .ref x), (1, .int 4), (2, .int a), (3, .int b), (4, .int c), (5, .int d), (6, .int e)] [.int d, .int 3, .ref tp] C k_c_Mo_feed_120_2 rfl ?_
                refine j_iast C d_c_Mo_feed_127 m_tp_w_18 (jin (by decide) (by decide)) ?_
                refine jnv (fun w_19 ew_19 => ?_)
                have m_tp_w_19 : w_19.1 tp = some (aI D 120 (upd (upd (upd (upd (fun _ => 0) 0 a) 1 b) 2 c) 3 d)) := jus ew_19
                have hk_w_19 := jk0 ew_19 hk_w_18
                have fr_w_19 := jfrW ew_19 fr_w_18 (fun b e hb _ => Nat.ne_of_gt (Nat.lt_of_lt_of_le tq hb))
                refine j_blk 67 [(7, .int 4), (0, .ref x), (1, .int 4), (2, .int a), (3, .int b), (4, .int c), (5, .int d), (6, .int e)] [] C k_c_Mo_feed_128_2 rfl ?_
                refine j_blk 70 [(7, .int 4), (0, .ref x), (1, .int 4), (2, .int a), (3, .int b), (4, .int c), (5, .int d), (6, .int e)] [.int 4, .int 4] C k_c_Mo_feed_67_2 rfl ?_
                refine j_icmp_ge (tgt := 134) C d_c_Mo_feed_70 (by decide) (fun c50 => ?_) (fun c50 => absurd (by decide) c50)
                refine j_blk 136 [(7, .int 4), (0, .ref x), (1, .int 4), (2, .int a), (3, .int b), (4, .int c), (5, .int d), (6, .int e)] [.ref x, .ref x] C k_c_Mo_feed_134_2 rfl ?_
                have m_x_w_19 := jun ew_19 m_x_w_18 (jneOA m_x_w_18 m_tp_w_18)
                refine j_get C d_c_Mo_feed_136 fg_Mo_116 m_x_w_19 h1 ?_
                refine j_blk 141 [(7, .int 4), (0, .ref x), (1, .int 4), (2, .int a), (3, .int b), (4, .int c), (5, .int d), (6, .int e)] [.int 4, .ref x] C k_c_Mo_feed_139_2 rfl ?_
                refine j_put C d_c_Mo_feed_141 fp_Mo_116 m_x_w_19 rfl rfl ?_
                refine jnv (fun w_20 ew_20 => ?_)
                have m_x_w_20 : w_20.1 x = some (.inr (10, (updV V 22 (.int 4)))) := jus ew_20
                have hk_w_20 := jk0 ew_20 hk_w_19
                have fr_w_20 := jfrW ew_20 fr_w_19 (fun b e hb _ => Nat.ne_of_gt (Nat.lt_of_lt_of_le xq hb))
                refine j_blk 145 [(7, .int 4), (0, .ref x), (1, .int 4), (2, .int a), (3, .int b), (4, .int c), (5, .int d), (6, .int e)] [.ref x] C k_c_Mo_feed_144_1 rfl ?_
                refine j_get C d_c_Mo_feed_145 fg_Mo_116 m_x_w_20 rfl ?_
                exact j_iret C Rm E d_c_Mo_feed_148 ⟨hres, fr_w_20⟩ (jbnd hk_w_20.1 rfl) (jbnd hk_w_20.2 rfl)
              · show JJ g w 50 [(0, .ref x), (1, .int 5), (2, .int a), (3, .int b), (4, .int c), (5, .int d), (6, .int e)] []
                refine j_blk 51 [(0, .ref x), (1, .int 5), (2, .int a), (3, .int b), (4, .int c), (5, .int d), (6, .int e)] [.ref x] C k_c_Mo_feed_50_1 rfl ?_
                refine j_get C d_c_Mo_feed_51 fg_Mo_116 hx h1 ?_
                refine j_blk 58 [(0, .ref x), (1, .int 5), (2, .int a), (3, .int b), (4, .int c), (5, .int d), (6, .int e)] [.int 120, .int 5] C k_c_Mo_feed_54_3 rfl ?_
                refine j_icmp_le (tgt := 64) C d_c_Mo_feed_58 (by decide) (fun c51 => ?_) (fun c51 => absurd (by decide) c51)
                refine j_blk 70 [(7, .int 0), (0, .ref x), (1, .int 5), (2, .int a), (3, .int b), (4, .int c), (5, .int d), (6, .int e)] [.int 5, .int 0] C k_c_Mo_feed_64_4 rfl ?_
                refine j_icmp_ge (tgt := 134) C d_c_Mo_feed_70 (by decide) (fun c52 => absurd c52 (by decide)) (fun c52 => ?_)
                refine j_blk 74 [(7, .int 0), (0, .ref x), (1, .int 5), (2, .int a), (3, .int b), (4, .int c), (5, .int d), (6, .int e)] [.ref x] C k_c_Mo_feed_73_1 rfl ?_
                refine j_get C d_c_Mo_feed_74 fg_Mo_76 hx h0 ?_
                refine j_blk 78 [(7, .int 0), (0, .ref x), (1, .int 5), (2, .int a), (3, .int b), (4, .int c), (5, .int d), (6, .int e)] [.ref x, .ref tp] C k_c_Mo_feed_77_1 rfl ?_
                refine j_get C d_c_Mo_feed_78 fg_Mo_116 hx h1 ?_
                refine j_blk 86 [(7, .int 0), (0, .ref x), (1, .int 5), (2, .int a), (3, .int b), (4, .int c), (5, .int d), (6, .int e)] [.int 0, .int 0, .ref tp] C k_c_Mo_feed_81_3 rfl ?_
                refine j_if_ne (tgt := 93) C d_c_Mo_feed_86 (by decide) (fun c53 => absurd (by decide) c53) (fun c53 => ?_)
                refine j_blk 127 [(7, .int 0), (0, .ref x), (1, .int 5), (2, .int a), (3, .int b), (4, .int c), (5, .int d), (6, .int e)] [.int a, .int 0, .ref tp] C k_c_Mo_feed_89_2 rfl ?_
                refine j_iast C d_c_Mo_feed_127 ht (jin (by decide) (by decide)) ?_
                refine jnv (fun w_21 ew_21 => ?_)
                have m_tp_w_21 : w_21.1 tp = some (aI D 120 (upd (fun _ => 0) 0 a)) := jus ew_21
                have hk_w_21 := jk0 ew_21 hk
                have fr_w_21 := jfrW ew_21 fr0 (fun b e hb _ => Nat.ne_of_gt (Nat.lt_of_lt_of_le tq hb))
                refine j_blk 67 [(7, .int 1), (0, .ref x), (1, .int 5), (2, .int a), (3, .int b), (4, .int c), (5, .int d), (6, .int e)] [] C k_c_Mo_feed_128_2 rfl ?_
                refine j_blk 70 [(7, .int 1), (0, .ref x), (1, .int 5), (2, .int a), (3, .int b), (4, .int c), (5, .int d), (6, .int e)] [.int 5, .int 1] C k_c_Mo_feed_67_2 rfl ?_
                refine j_icmp_ge (tgt := 134) C d_c_Mo_feed_70 (by decide) (fun c54 => absurd c54 (by decide)) (fun c54 => ?_)
                refine j_blk 74 [(7, .int 1), (0, .ref x), (1, .int 5), (2, .int a), (3, .int b), (4, .int c), (5, .int d), (6, .int e)] [.ref x] C k_c_Mo_feed_73_1 rfl ?_
                have m_x_w_21 := jun ew_21 hx (jneOA hx ht)
                refine j_get C d_c_Mo_feed_74 fg_Mo_76 m_x_w_21 h0 ?_
                refine j_blk 78 [(7, .int 1), (0, .ref x), (1, .int 5), (2, .int a), (3, .int b), (4, .int c), (5, .int d), (6, .int e)] [.ref x, .ref tp] C k_c_Mo_feed_77_1 rfl ?_
                refine j_get C d_c_Mo_feed_78 fg_Mo_116 m_x_w_21 h1 ?_
                refine j_blk 86 [(7, .int 1), (0, .ref x), (1, .int 5), (2, .int a), (3, .int b), (4, .int c), (5, .int d), (6, .int e)] [.int 1, .int 1, .ref tp] C k_c_Mo_feed_81_3 rfl ?_
                refine j_if_ne (tgt := 93) C d_c_Mo_feed_86 (by decide) (fun c55 => ?_) (fun c55 => absurd c55 (by decide))
                refine j_blk 96 [(7, .int 1), (0, .ref x), (1, .int 5), (2, .int a), (3, .int b), (4, .int c), (5, .int d), (6, .int e)] [.int 1, .int 1, .int 1, .ref tp] C k_c_Mo_feed_93_2 rfl ?_
                refine j_icmp_ne (tgt := 103) C d_c_Mo_feed_96 (by decide) (fun c56 => absurd (by decide) c56) (fun c56 => ?_)
                refine j_blk 127 [(7, .int 1), (0, .ref x), (1, .int 5), (2, .int a), (3, .int b), (4, .int c), (5, .int d), (6, .int e)] [.int b, .int 1, .ref tp] C k_c_Mo_feed_99_2 rfl ?_
                refine j_iast C d_c_Mo_feed_127 m_tp_w_21 (jin (by decide) (by decide)) ?_
                refine jnv (fun w_22 ew_22 => ?_)
                have m_tp_w_22 : w_22.1 tp = some (aI D 120 (upd (upd (fun _ => 0) 0 a) 1 b)) := jus ew_22
                have hk_w_22 := jk0 ew_22 hk_w_21
                have fr_w_22 := jfrW ew_22 fr_w_21 (fun b e hb _ => Nat.ne_of_gt (Nat.lt_of_lt_of_le tq hb))
                refine j_blk 67 [(7, .int 2), (0, .ref x), (1, .int 5), (2, .int a), (3, .int b), (4, .int c), (5, .int d), (6, .int e)] [] C k_c_Mo_feed_128_2 rfl ?_
                refine j_blk 70 [(7, .int 2), (0, .ref x), (1, .int 5), (2, .int a), (3, .int b), (4, .int c), (5, .int d), (6, .int e)] [.int 5, .int 2] C k_c_Mo_feed_67_2 rfl ?_
                refine j_icmp_ge (tgt := 134) C d_c_Mo_feed_70 (by decide) (fun c57 => absurd c57 (by decide)) (fun c57 => ?_)
                refine j_blk 74 [(7, .int 2), (0, .ref x), (1, .int 5), (2, .int a), (3, .int b), (4, .int c), (5, .int d), (6, .int e)] [.ref x] C k_c_Mo_feed_73_1 rfl ?_
                have m_x_w_22 := jun ew_22 m_x_w_21 (jneOA m_x_w_21 m_tp_w_21)
                refine j_get C d_c_Mo_feed_74 fg_Mo_76 m_x_w_22 h0 ?_
                refine j_blk 78 [(7, .int 2), (0, .ref x), (1, .int 5), (2, .int a), (3, .int b), (4, .int c), (5, .int d), (6, .int e)] [.ref x, .ref tp] C k_c_Mo_feed_77_1 rfl ?_
                refine j_get C d_c_Mo_feed_78 fg_Mo_116 m_x_w_22 h1 ?_
                refine j_blk 86 [(7, .int 2), (0, .ref x), (1, .int 5), (2, .int a), (3, .int b), (4, .int c), (5, .int d), (6, .int e)] [.int 2, .int 2, .ref tp] C k_c_Mo_feed_81_3 rfl ?_
                refine j_if_ne (tgt := 93) C d_c_Mo_feed_86 (by decide) (fun c58 => ?_) (fun c58 => absurd c58 (by decide))
                refine j_blk 96 [(7, .int 2), (0, .ref x), (1, .int 5), (2, .int a), (3, .int b), (4, .int c), (5, .int d), (6, .int e)] [.int 1, .int 2, .int 2, .ref tp] C k_c_Mo_feed_93_2 rfl ?_
                refine j_icmp_ne (tgt := 103) C d_c_Mo_feed_96 (by decide) (fun c59 => ?_) (fun c59 => absurd c59 (by decide))
                refine j_blk 106 [(7, .int 2), (0, .ref x), (1, .int 5), (2, .int a), (3, .int b), (4, .int c), (5, .int d), (6, .int e)] [.int 2, .int 2, .int 2, .ref tp] C k_c_Mo_feed_103_2 rfl ?_
                refine j_icmp_ne (tgt := 114) C d_c_Mo_feed_106 (by decide) (fun c60 => absurd (by decide) c60) (fun c60 => ?_)
                refine j_blk 127 [(7, .int 2), (0, .ref x), (1, .int 5), (2, .int a), (3, .int b), (4, .int c), (5, .int d), (6, .int e)] [.int c, .int 2, .ref tp] C k_c_Mo_feed_109_2 rfl ?_
                refine j_iast C d_c_Mo_feed_127 m_tp_w_22 (jin (by decide) (by decide)) ?_
                refine jnv (fun w_23 ew_23 => ?_)
                have m_tp_w_23 : w_23.1 tp = some (aI D 120 (upd (upd (upd (fun _ => 0) 0 a) 1 b) 2 c)) := jus ew_23
                have hk_w_23 := jk0 ew_23 hk_w_22
                have fr_w_23 := jfrW ew_23 fr_w_22 (fun b e hb _ => Nat.ne_of_gt (Nat.lt_of_lt_of_le tq hb))
                refine j_blk 67 [(7, .int 3), (0, .ref x), (1, .int 5), (2, .int a), (3, .int b), (4, .int c), (5, .int d), (6, .int e)] [] C k_c_Mo_feed_128_2 rfl ?_
                refine j_blk 70 [(7, .int 3), (0, .ref x), (1, .int 5), (2, .int a), (3, .int b), (4, .int c), (5, .int d), (6, .int e)] [.int 5, .int 3] C k_c_Mo_feed_67_2 rfl ?_
                refine j_icmp_ge (tgt := 134) C d_c_Mo_feed_70 (by decide) (fun c61 => absurd c61 (by decide)) (fun c61 => ?_)
                refine j_blk 74 [(7, .int 3), (0, .ref x), (1, .int 5), (2, .int a), (3, .int b), (4, .int c), (5, .int d), (6, .int e)] [.ref x] C k_c_Mo_feed_73_1 rfl ?_
                have m_x_w_23 := jun ew_23 m_x_w_22 (jneOA m_x_w_22 m_tp_w_22)
                refine j_get C d_c_Mo_feed_74 fg_Mo_76 m_x_w_23 h0 ?_
                refine j_blk 78 [(7, .int 3), (0, .ref x), (1, .int 5), (2, .int a), (3, .int b), (4, .int c), (5, .int d), (6, .int e)] [.ref x, .ref tp] C k_c_Mo_feed_77_1 rfl ?_
                refine j_get C d_c_Mo_feed_78 fg_Mo_116 m_x_w_23 h1 ?_
                refine j_blk 86 [(7, .int 3), (0, .ref x), (1, .int 5), (2, .int a), (3, .int b), (4, .int c), (5, .int d), (6, .int e)] [.int 3, .int 3, .ref tp] C k_c_Mo_feed_81_3 rfl ?_
                refine j_if_ne (tgt := 93) C d_c_Mo_feed_86 (by decide) (fun c62 => ?_) (fun c62 => absurd c62 (by decide))
                refine j_blk 96 [(7, .int 3), (0, .ref x), (1, .int 5), (2, .int a), (3, .int b), (4, .int c), (5, .int d), (6, .int e)] [.int 1, .int 3, .int 3, .ref tp] C k_c_Mo_feed_93_2 rfl ?_
                refine j_icmp_ne (tgt := 103) C d_c_Mo_feed_96 (by decide) (fun c63 => ?_) (fun c63 => absurd c63 (by decide))
                refine j_blk 106 [(7, .int 3), (0, .ref x), (1, .int 5), (2, .int a), (3, .int b), (4, .int c), (5, .int d), (6, .int e)] [.int 2, .int 3, .int 3, .ref tp] C k_c_Mo_feed_103_2 rfl ?_
                refine j_icmp_ne (tgt := 114) C d_c_Mo_feed_106 (by decide) (fun c64 => ?_) (fun c64 => absurd c64 (by decide))
                refine j_blk 117 [(7, .int 3), (0, .ref x), (1, .int 5), (2, .int a), (3, .int b), (4, .int c), (5, .int d), (6, .int e)] [.int 3, .int 3, .int 3, .ref tp] C k_c_Mo_feed_114_2 rfl ?_
                refine j_icmp_ne (tgt := 125) C d_c_Mo_feed_117 (by decide) (fun c65 => absurd (by decide) c65) (fun c65 => ?_)
                refine j_blk 127 [(7, .int 3), (0, .ref x), (1, .int 5), (2, .int a), (3, .int b), (4, .int c), (5, .int d), (6, .int e)] [.int d, .int 3, .ref tp] C k_c_Mo_feed_120_2 rfl ?_
                refine j_iast C d_c_Mo_feed_127 m_tp_w_23 (jin (by decide) (by decide)) ?_
                refine jnv (fun w_24 ew_24 => ?_)
                have m_tp_w_24 : w_24.1 tp = some (aI D 120 (upd (upd (upd (upd (fun _ => 0) 0 a) 1 b) 2 c) 3 d)) := jus ew_24
                have hk_w_24 := jk0 ew_24 hk_w_23
                have fr_w_24 := jfrW ew_24 fr_w_23 (fun b e hb _ => Nat.ne_of_gt (Nat.lt_of_lt_of_le tq hb))
                refine j_blk 67 [(7, .int 4), (0, .ref x), (1, .int 5), (2, .int a), (3, .int b), (4, .int c), (5, .int d), (6, .int e)] [] C k_c_Mo_feed_128_2 rfl ?_
                refine j_blk 70 [(7, .int 4), (0, .ref x), (1, .int 5), (2, .int a), (3, .int b), (4, .int c), (5, .int d), (6, .int e)] [.int 5, .int 4] C k_c_Mo_feed_67_2 rfl ?_
                refine j_icmp_ge (tgt := 134) C d_c_Mo_feed_70 (by decide) (fun c66 => absurd c66 (by decide)) (fun c66 => ?_)
                refine j_blk 74 [(7, .int 4), (0, .ref x), (1, .int 5), (2, .int a), (3, .int b), (4, .int c), (5, .int d), (6, .int e)] [.ref x] C k_c_Mo_feed_73_1 rfl ?_
                have m_x_w_24 := jun ew_24 m_x_w_23 (jneOA m_x_w_23 m_tp_w_23)
                refine j_get C d_c_Mo_feed_74 fg_Mo_76 m_x_w_24 h0 ?_
                refine j_blk 78 [(7, .int 4), (0, .ref x), (1, .int 5), (2, .int a), (3, .int b), (4, .int c), (5, .int d), (6, .int e)] [.ref x, .ref tp] C k_c_Mo_feed_77_1 rfl ?_
                refine j_get C d_c_Mo_feed_78 fg_Mo_116 m_x_w_24 h1 ?_
                refine j_blk 86 [(7, .int 4), (0, .ref x), (1, .int 5), (2, .int a), (3, .int b), (4, .int c), (5, .int d), (6, .int e)] [.int 4, .int 4, .ref tp] C k_c_Mo_feed_81_3 rfl ?_
                refine j_if_ne (tgt := 93) C d_c_Mo_feed_86 (by decide) (fun c67 => ?_) (fun c67 => absurd c67 (by decide))
                refine j_blk 96 [(7, .int 4), (0, .ref x), (1, .int 5), (2, .int a), (3, .int b), (4, .int c), (5, .int d), (6, .int e)] [.int 1, .int 4, .int 4, .ref tp] C k_c_Mo_feed_93_2 rfl ?_
                refine j_icmp_ne (tgt := 103) C d_c_Mo_feed_96 (by decide) (fun c68 => ?_) (fun c68 => absurd c68 (by decide))
                refine j_blk 106 [(7, .int 4), (0, .ref x), (1, .int 5), (2, .int a), (3, .int b), (4, .int c), (5, .int d), (6, .int e)] [.int 2, .int 4, .int 4, .ref tp] C k_c_Mo_feed_103_2 rfl ?_
                refine j_icmp_ne (tgt := 114) C d_c_Mo_feed_106 (by decide) (fun c69 => ?_) (fun c69 => absurd c69 (by decide))
                refine j_blk 117 [(7, .int 4), (0, .ref x), (1, .int 5), (2, .int a), (3, .int b), (4, .int c), (5, .int d), (6, .int e)] [.int 3, .int 4, .int 4, .ref tp] C k_c_Mo_feed_114_2 rfl ?_
                refine j_icmp_ne (tgt := 125) C d_c_Mo_feed_117 (by decide) (fun c70 => ?_) (fun c70 => absurd c70 (by decide))
                refine j_blk 127 [(7, .int 4), (0, .ref x), (1, .int 5), (2, .int a), (3, .int b), (4, .int c), (5, .int d), (6, .int e)] [.int e, .int 4, .ref tp] C k_c_Mo_feed_125_1 rfl ?_
                refine j_iast C d_c_Mo_feed_127 m_tp_w_24 (jin (by decide) (by decide)) ?_
                refine jnv (fun w_25 ew_25 => ?_)
                have m_tp_w_25 : w_25.1 tp = some (aI D 120 (upd (upd (upd (upd (upd (fun _ => 0) 0 a) 1 b) 2 c) 3 d) 4 e)) := jus ew_25
                have hk_w_25 := jk0 ew_25 hk_w_24
                have fr_w_25 := jfrW ew_25 fr_w_24 (fun b e hb _ => Nat.ne_of_gt (Nat.lt_of_lt_of_le tq hb))
                refine j_blk 67 [(7, .int 5), (0, .ref x), (1, .int 5), (2, .int a), (3, .int b), (4, .int c), (5, .int d), (6, .int e)] [] C k_c_Mo_feed_128_2 rfl ?_
                refine j_blk 70 [(7, .int 5), (0, .ref x), (1, .int 5), (2, .int a), (3, .int b), (4, .int c), (5, .int d), (6, .int e)] [.int 5, .int 5] C k_c_Mo_feed_67_2 rfl ?_
                refine j_icmp_ge (tgt := 134) C d_c_Mo_feed_70 (by decide) (fun c71 => ?_) (fun c71 => absurd (by decide) c71)
                refine j_blk 136 [(7, .int 5), (0, .ref x), (1, .int 5), (2, .int a), (3, .int b), (4, .int c), (5, .int d), (6, .int e)] [.ref x, .ref x] C k_c_Mo_feed_134_2 rfl ?_
                have m_x_w_25 := jun ew_25 m_x_w_24 (jneOA m_x_w_24 m_tp_w_24)
                refine j_get C d_c_Mo_feed_136 fg_Mo_116 m_x_w_25 h1 ?_
                refine j_blk 141 [(7, .int 5), (0, .ref x), (1, .int 5), (2, .int a), (3, .int b), (4, .int c), (5, .int d), (6, .int e)] [.int 5, .ref x] C k_c_Mo_feed_139_2 rfl ?_
                refine j_put C d_c_Mo_feed_141 fp_Mo_116 m_x_w_25 rfl rfl ?_
                refine jnv (fun w_26 ew_26 => ?_)
                have m_x_w_26 : w_26.1 x = some (.inr (10, (updV V 22 (.int 5)))) := jus ew_26
                have hk_w_26 := jk0 ew_26 hk_w_25
                have fr_w_26 := jfrW ew_26 fr_w_25 (fun b e hb _ => Nat.ne_of_gt (Nat.lt_of_lt_of_le xq hb))
                refine j_blk 145 [(7, .int 5), (0, .ref x), (1, .int 5), (2, .int a), (3, .int b), (4, .int c), (5, .int d), (6, .int e)] [.ref x] C k_c_Mo_feed_144_1 rfl ?_
                refine j_get C d_c_Mo_feed_145 fg_Mo_116 m_x_w_26 rfl ?_
                exact j_iret C Rm E d_c_Mo_feed_148 ⟨hres, fr_w_26⟩ (jbnd hk_w_26.1 rfl) (jbnd hk_w_26.2 rfl)
            · have c12 := jbz.mp c12
              refine j_blk 49 [(0, .ref x), (1, .int n), (2, .int a), (3, .int b), (4, .int c), (5, .int d), (6, .int e)] [.int (-2)] C k_c_Mo_feed_47_1 rfl ?_
              exact j_iret C Rm E d_c_Mo_feed_49 ⟨jin_ (fun hq => absurd hq (by (try simp only [jlt, jle, jeq, kt_0, kt_1, kt_2, kt_3, kt_4, kt_5, kt_6, kt_7, kt_8, kt_9, kt_10, kt_11, kt_12, kt_13, kt_15, kt_16, kt_19, kt_20, kt_24, kt_25, kt_31, kt_32, kt_40, kt_50, kt_60, kt_63, kt_100, kt_120, kt_255, kt_300, kt_999999, kt_1000000, kt_m1, kt_m2, kt_m3, kt_m4, kt_m6, kt_m7, kt_m11, kt_m12, kt_m13, kt_m14, kt_m100] at c2); (try simp only [jlt, jle, jeq, kt_0, kt_1, kt_2, kt_3, kt_4, kt_5, kt_6, kt_7, kt_8, kt_9, kt_10, kt_11, kt_12, kt_13, kt_15, kt_16, kt_19, kt_20, kt_24, kt_25, kt_31, kt_32, kt_40, kt_50, kt_60, kt_63, kt_100, kt_120, kt_255, kt_300, kt_999999, kt_1000000, kt_m1, kt_m2, kt_m3, kt_m4, kt_m6, kt_m7, kt_m11, kt_m12, kt_m13, kt_m14, kt_m100] at c4); (try simp only [jlt, jle, jeq, kt_0, kt_1, kt_2, kt_3, kt_4, kt_5, kt_6, kt_7, kt_8, kt_9, kt_10, kt_11, kt_12, kt_13, kt_15, kt_16, kt_19, kt_20, kt_24, kt_25, kt_31, kt_32, kt_40, kt_50, kt_60, kt_63, kt_100, kt_120, kt_255, kt_300, kt_999999, kt_1000000, kt_m1, kt_m2, kt_m3, kt_m4, kt_m6, kt_m7, kt_m11, kt_m12, kt_m13, kt_m14, kt_m100] at c6); (try simp only [jlt, jle, jeq, kt_0, kt_1, kt_2, kt_3, kt_4, kt_5, kt_6, kt_7, kt_8, kt_9, kt_10, kt_11, kt_12, kt_13, kt_15, kt_16, kt_19, kt_20, kt_24, kt_25, kt_31, kt_32, kt_40, kt_50, kt_60, kt_63, kt_100, kt_120, kt_255, kt_300, kt_999999, kt_1000000, kt_m1, kt_m2, kt_m3, kt_m4, kt_m6, kt_m7, kt_m11, kt_m12, kt_m13, kt_m14, kt_m100] at c8); (try simp only [jlt, jle, jeq, kt_0, kt_1, kt_2, kt_3, kt_4, kt_5, kt_6, kt_7, kt_8, kt_9, kt_10, kt_11, kt_12, kt_13, kt_15, kt_16, kt_19, kt_20, kt_24, kt_25, kt_31, kt_32, kt_40, kt_50, kt_60, kt_63, kt_100, kt_120, kt_255, kt_300, kt_999999, kt_1000000, kt_m1, kt_m2, kt_m3, kt_m4, kt_m6, kt_m7, kt_m11, kt_m12, kt_m13, kt_m14, kt_m100] at c10); (try simp only [jlt, jle, jeq, kt_0, kt_1, kt_2, kt_3, kt_4, kt_5, kt_6, kt_7, kt_8, kt_9, kt_10, kt_11, kt_12, kt_13, kt_15, kt_16, kt_19, kt_20, kt_24, kt_25, kt_31, kt_32, kt_40, kt_50, kt_60, kt_63, kt_100, kt_120, kt_255, kt_300, kt_999999, kt_1000000, kt_m1, kt_m2, kt_m3, kt_m4, kt_m6, kt_m7, kt_m11, kt_m12, kt_m13, kt_m14, kt_m100] at c12); (try simp only [kt_0, kt_1, kt_2, kt_3, kt_4, kt_5, kt_6, kt_7, kt_8, kt_9, kt_10, kt_11, kt_12, kt_13, kt_15, kt_16, kt_19, kt_20, kt_24, kt_25, kt_31, kt_32, kt_40, kt_50, kt_60, kt_63, kt_100, kt_120, kt_255, kt_300, kt_999999, kt_1000000, kt_m1, kt_m2, kt_m3, kt_m4, kt_m6, kt_m7, kt_m11, kt_m12, kt_m13, kt_m14, kt_m100]); omega)), fr0⟩ (jbnd hk.1 rfl) (jbnd hk.2 rfl)
end
section
/-! calls that need no program, on fresh objects, 2 (own work, by program) -/
theorem k_c_CS_shiftOf_0_5 : sblk b_CS_shiftOf [(0, .iconst 5, .int 5), (1, .iload_n 0, .null), (2, .isub, .null), (3, .iconst 4, .int 4), (4, .imul, .null)] := sblk_of (by decide +kernel)
theorem d_c_CS_shiftOf_5 : decode b_CS_shiftOf 5 = .ok (.ireturn, 1) := by decide +kernel
set_option maxHeartbeats 40000000 in
set_option maxRecDepth 100000 in
theorem c_CS_shiftOf (l : Launch) (D : va_G) (B : Nat) (H0 : Heap) (w : jW) (n : Int32) : jMet l D B H0 y_CS_shiftOf b_CS_shiftOf 1 (some .int) 0 0 0 0 [.int n] w (fun v w9 => v = some (.int ((5 - n) * 4)) ∧ w = w9) := by
  refine j_met (by decide) (Nat.le_of_ble_eq_true rfl) (fun g C Rm Y E => ?_)
  have hk := jkz w
  show JJ g w 0 [(0, .int n)] []
  refine j_blk 5 [(0, .int n)] [.int ((5 - n) * 4)] C k_c_CS_shiftOf_0_5 rfl ?_
  exact j_iret C Rm E d_c_CS_shiftOf_5 ⟨rfl, rfl⟩ (jbnd hk.1 rfl) (jbnd hk.2 rfl)

theorem k_c_CS_digitAt_0_9 : sblk b_CS_digitAt [(0, .iload_n 0, .null), (1, .iconst 5, .int 5), (2, .iload_n 1, .null), (3, .isub, .null), (4, .iconst 4, .int 4), (5, .imul, .null), (6, .iushr, .null), (7, .bipush 15, .int 15), (9, .iand, .null)] := sblk_of (by decide +kernel)
theorem d_c_CS_digitAt_10 : decode b_CS_digitAt 10 = .ok (.ireturn, 1) := by decide +kernel
set_option maxHeartbeats 40000000 in
set_option maxRecDepth 100000 in
theorem c_CS_digitAt (l : Launch) (D : va_G) (B : Nat) (H0 : Heap) (w : jW) (s : Int32) (n : Int32) : jMet l D B H0 y_CS_digitAt b_CS_digitAt 2 (some .int) 0 0 0 0 [.int s, .int n] w (fun v w9 => v = some (.int ((s.toUInt32 >>> (((5 - n) * 4).toUInt32 &&& Int32.toUInt32 31)).toInt32 &&& 15)) ∧ w = w9) := by
  refine j_met (by decide) (Nat.le_of_ble_eq_true rfl) (fun g C Rm Y E => ?_)
  have hk := jkz w
  show JJ g w 0 [(0, .int s), (1, .int n)] []
  refine j_blk 10 [(0, .int s), (1, .int n)] [.int ((s.toUInt32 >>> (((5 - n) * 4).toUInt32 &&& Int32.toUInt32 31)).toInt32 &&& 15)] C k_c_CS_digitAt_0_9 rfl ?_
  exact j_iret C Rm E d_c_CS_digitAt_10 ⟨rfl, rfl⟩ (jbnd hk.1 rfl) (jbnd hk.2 rfl)

theorem k_c_CS_withDigit_0_3 : sblk b_CS_withDigit [(0, .iload_n 0, .null), (1, .bipush 15, .int 15), (3, .iload_n 1, .null)] := sblk_of (by decide +kernel)
theorem d_c_CS_withDigit_4 : decode b_CS_withDigit 4 = .ok (.invokestatic 269, 3) := by decide +kernel
theorem k_c_CS_withDigit_7_6 : sblk b_CS_withDigit [(7, .ishl, .null), (8, .iconst (-1), .int (-1)), (9, .ixor, .null), (10, .iand, .null), (11, .iload_n 2, .null), (12, .iload_n 1, .null)] := sblk_of (by decide +kernel)
theorem d_c_CS_withDigit_13 : decode b_CS_withDigit 13 = .ok (.invokestatic 269, 3) := by decide +kernel
theorem k_c_CS_withDigit_16_2 : sblk b_CS_withDigit [(16, .ishl, .null), (17, .ior, .null)] := sblk_of (by decide +kernel)
theorem d_c_CS_withDigit_18 : decode b_CS_withDigit 18 = .ok (.ireturn, 1) := by decide +kernel
set_option maxHeartbeats 40000000 in
set_option maxRecDepth 100000 in
theorem c_CS_withDigit (l : Launch) (D : va_G) (B : Nat) (H0 : Heap) (w : jW) (s : Int32) (n : Int32) (u : Int32) : jMet l D B H0 y_CS_withDigit b_CS_withDigit 3 (some .int) 1 40 0 0 [.int s, .int n, .int u] w (fun v w9 => v = some (.int ((s &&& ((15 <<< (((5 - n) * 4) &&& 31)) ^^^ (-1))) ||| (u <<< (((5 - n) * 4) &&& 31)))) ∧ w = w9) := by
  refine j_met (by decide) (Nat.le_of_ble_eq_true rfl) (fun g C Rm Y E => ?_)
  have hk := jkz w
  show JJ g w 0 [(0, .int s), (1, .int n), (2, .int u)] []
  refine j_blk 4 [(0, .int s), (1, .int n), (2, .int u)] [.int n, .int 15, .int s] C k_c_CS_withDigit_0_3 rfl ?_
  refine j_callS (As := [.int n]) C Rm Y [.int 15, .int s] (c_CS_shiftOf l D B H0 w n) cl_CS_269 d_c_CS_withDigit_4 rfl rfl (Nat.le_of_ble_eq_true rfl) ⟨by decide, by decide⟩ ⟨jroom hk.1 rfl, jroom hk.2 rfl⟩ (fun v1 w_1 pw_1 => ?_)
  obtain ⟨rfl, rfl⟩ := pw_1
  show JJ g w 7 [(0, .int s), (1, .int n), (2, .int u)] [.int ((5 - n) * 4), .int 15, .int s]
  refine j_blk 13 [(0, .int s), (1, .int n), (2, .int u)] [.int n, .int u, .int (s &&& ((15 <<< (((5 - n) * 4) &&& 31)) ^^^ (-1)))] C k_c_CS_withDigit_7_6 rfl ?_
  refine j_callS (As := [.int n]) C Rm Y [.int u, .int (s &&& ((15 <<< (((5 - n) * 4) &&& 31)) ^^^ (-1)))] (c_CS_shiftOf l D B H0 w n) cl_CS_269 d_c_CS_withDigit_13 rfl rfl (Nat.le_of_ble_eq_true rfl) ⟨by decide, by decide⟩ ⟨jroom hk.1 rfl, jroom hk.2 rfl⟩ (fun v2 w_2 pw_2 => ?_)
  obtain ⟨rfl, rfl⟩ := pw_2
  show JJ g w 16 [(0, .int s), (1, .int n), (2, .int u)] [.int ((5 - n) * 4), .int u, .int (s &&& ((15 <<< (((5 - n) * 4) &&& 31)) ^^^ (-1)))]
  refine j_blk 18 [(0, .int s), (1, .int n), (2, .int u)] [.int ((s &&& ((15 <<< (((5 - n) * 4) &&& 31)) ^^^ (-1))) ||| (u <<< (((5 - n) * 4) &&& 31)))] C k_c_CS_withDigit_16_2 rfl ?_
  exact j_iret C Rm E d_c_CS_withDigit_18 ⟨rfl, rfl⟩ (jbnd hk.1 rfl) (jbnd hk.2 rfl)

theorem k_c_CS_let_0_1 : sblk b_CS_let [(0, .iload_n 1, .null)] := sblk_of (by decide +kernel)
theorem d_c_CS_let_1 : decode b_CS_let 1 = .ok (.invokestatic 77, 3) := by decide +kernel
theorem d_c_CS_let_4 : decode b_CS_let 4 = .ok (.ifCond .eq 10, 3) := by decide +kernel
theorem k_c_CS_let_14_1 : sblk b_CS_let [(14, .bipush (-2), .int (-2))] := sblk_of (by decide +kernel)
theorem d_c_CS_let_16 : decode b_CS_let 16 = .ok (.ireturn, 1) := by decide +kernel
theorem k_c_CS_let_7_1 : sblk b_CS_let [(7, .iload_n 2, .null)] := sblk_of (by decide +kernel)
theorem d_c_CS_let_8 : decode b_CS_let 8 = .ok (.invokestatic 80, 3) := by decide +kernel
theorem d_c_CS_let_11 : decode b_CS_let 11 = .ok (.ifCond .ne 6, 3) := by decide +kernel
theorem k_c_CS_let_17_1 : sblk b_CS_let [(17, .aload_n 0, .null)] := sblk_of (by decide +kernel)
theorem d_c_CS_let_18 : decode b_CS_let 18 = .ok (.getfield 83, 3) := by decide +kernel
theorem k_c_CS_let_21_1 : sblk b_CS_let [(21, .iload_n 1, .null)] := sblk_of (by decide +kernel)
theorem d_c_CS_let_22 : decode b_CS_let 22 = .ok (.invokestatic 86, 3) := by decide +kernel
theorem k_c_CS_let_25_3 : sblk b_CS_let [(25, .istore_n 3, .null), (26, .aload_n 0, .null), (27, .aload_n 0, .null)] := sblk_of (by decide +kernel)
theorem d_c_CS_let_28 : decode b_CS_let 28 = .ok (.getfield 83, 3) := by decide +kernel
theorem k_c_CS_let_31_2 : sblk b_CS_let [(31, .iload_n 1, .null), (32, .iload_n 2, .null)] := sblk_of (by decide +kernel)
theorem d_c_CS_let_33 : decode b_CS_let 33 = .ok (.invokestatic 90, 3) := by decide +kernel
theorem d_c_CS_let_36 : decode b_CS_let 36 = .ok (.putfield 83, 3) := by decide +kernel
theorem k_c_CS_let_39_1 : sblk b_CS_let [(39, .iload_n 3, .null)] := sblk_of (by decide +kernel)
theorem d_c_CS_let_40 : decode b_CS_let 40 = .ok (.ireturn, 1) := by decide +kernel
set_option maxHeartbeats 40000000 in
set_option maxRecDepth 100000 in
theorem c_CS_let (l : Launch) (D : va_G) (B : Nat) (H0 : Heap) (w : jW) (x : Nat) (V : Nat → Value) (n : Int32) (u : Int32)  (hx : w.1 x = some (.inr (8, V))) (h4 : V 4 = .int 0)  (q : Nat) (xq : x < q) : jMet l D B H0 y_CS_let b_CS_let 4 (some .int) 3 160 0 0 [.ref x, .int n, .int u] w (fun v w9 => v = some (.int (an_let n u)) ∧ jfr (fun b => q ≤ b) w w9) := by
  refine j_met (by decide) (Nat.le_of_ble_eq_true rfl) (fun g C Rm Y E => ?_)
  have hk := jkz w
  have fr0 : jfr (fun b => q ≤ b) w w := jfr0
  show JJ g w 0 [(0, .ref x), (1, .int n), (2, .int u)] []
  refine j_blk 1 [(0, .ref x), (1, .int n), (2, .int u)] [.int n] C k_c_CS_let_0_1 rfl ?_
  refine j_callS (As := [.int n]) C Rm Y [] (c_CS_isName l D B H0 w n) cl_CS_77 d_c_CS_let_1 rfl rfl (Nat.le_of_ble_eq_true rfl) ⟨by decide, by decide⟩ ⟨jroom hk.1 rfl, jroom hk.2 rfl⟩ (fun v1 w_1 pw_1 => ?_)
  obtain ⟨rfl, rfl⟩ := pw_1
  show JJ g w 4 [(0, .ref x), (1, .int n), (2, .int u)] [.int (if 0 ≤ n.toInt ∧ n.toInt < 6 then 1 else 0)]
  refine j_if_eq (tgt := 14) C d_c_CS_let_4 (by decide) (fun c2 => ?_) (fun c2 => ?_)
  · have c2 := jbz.mp c2
    refine j_blk 16 [(0, .ref x), (1, .int n), (2, .int u)] [.int (-2)] C k_c_CS_let_14_1 rfl ?_
    exact j_iret C Rm E d_c_CS_let_16 ⟨jin_ (fun hq => absurd hq (by (try simp only [jlt, jle, jeq, kt_0, kt_1, kt_2, kt_3, kt_4, kt_5, kt_6, kt_7, kt_8, kt_9, kt_10, kt_11, kt_12, kt_13, kt_15, kt_16, kt_19, kt_20, kt_24, kt_25, kt_31, kt_32, kt_40, kt_50, kt_60, kt_63, kt_100, kt_120, kt_255, kt_300, kt_999999, kt_1000000, kt_m1, kt_m2, kt_m3, kt_m4, kt_m6, kt_m7, kt_m11, kt_m12, kt_m13, kt_m14, kt_m100] at c2); (try simp only [kt_0, kt_1, kt_2, kt_3, kt_4, kt_5, kt_6, kt_7, kt_8, kt_9, kt_10, kt_11, kt_12, kt_13, kt_15, kt_16, kt_19, kt_20, kt_24, kt_25, kt_31, kt_32, kt_40, kt_50, kt_60, kt_63, kt_100, kt_120, kt_255, kt_300, kt_999999, kt_1000000, kt_m1, kt_m2, kt_m3, kt_m4, kt_m6, kt_m7, kt_m11, kt_m12, kt_m13, kt_m14, kt_m100]); omega)), fr0⟩ (jbnd hk.1 rfl) (jbnd hk.2 rfl)
  · have c2 := jbo.mp c2
    refine j_blk 8 [(0, .ref x), (1, .int n), (2, .int u)] [.int u] C k_c_CS_let_7_1 rfl ?_
    refine j_callS (As := [.int u]) C Rm Y [] (c_CS_isValue l D B H0 w u) cl_CS_80 d_c_CS_let_8 rfl rfl (Nat.le_of_ble_eq_true rfl) ⟨by decide, by decide⟩ ⟨jroom hk.1 rfl, jroom hk.2 rfl⟩ (fun v3 w_2 pw_2 => ?_)
    obtain ⟨rfl, rfl⟩ := pw_2
    show JJ g w 11 [(0, .ref x), (1, .int n), (2, .int u)] [.int (if 0 ≤ u.toInt ∧ u.toInt < 10 then 1 else 0)]
    refine j_if_ne (tgt := 17) C d_c_CS_let_11 (by decide) (fun c4 => ?_) (fun c4 => ?_)
    · have c4 := jbo.mp c4
      refine j_blk 18 [(0, .ref x), (1, .int n), (2, .int u)] [.ref x] C k_c_CS_let_17_1 rfl ?_
      refine j_get C d_c_CS_let_18 fg_CS_83 hx h4 ?_
      refine j_blk 22 [(0, .ref x), (1, .int n), (2, .int u)] [.int n, .int 0] C k_c_CS_let_21_1 rfl ?_
      refine j_callS (As := [.int 0, .int n]) C Rm Y [] (c_CS_digitAt l D B H0 w 0 n) cl_CS_86 d_c_CS_let_22 rfl rfl (Nat.le_of_ble_eq_true rfl) ⟨by decide, by decide⟩ ⟨jroom hk.1 rfl, jroom hk.2 rfl⟩ (fun v5 w_3 pw_3 => ?_)
      obtain ⟨rfl, rfl⟩ := pw_3
      show JJ g w 25 [(0, .ref x), (1, .int n), (2, .int u)] [.int (((0 : Int32).toUInt32 >>> (((5 - n) * 4).toUInt32 &&& Int32.toUInt32 31)).toInt32 &&& 15)]
      refine j_blk 28 [(3, .int (((0 : Int32).toUInt32 >>> (((5 - n) * 4).toUInt32 &&& Int32.toUInt32 31)).toInt32 &&& 15)), (0, .ref x), (1, .int n), (2, .int u)] [.ref x, .ref x] C k_c_CS_let_25_3 rfl ?_
      refine j_get C d_c_CS_let_28 fg_CS_83 hx h4 ?_
      refine j_blk 33 [(3, .int (((0 : Int32).toUInt32 >>> (((5 - n) * 4).toUInt32 &&& Int32.toUInt32 31)).toInt32 &&& 15)), (0, .ref x), (1, .int n), (2, .int u)] [.int u, .int n, .int 0, .ref x] C k_c_CS_let_31_2 rfl ?_
      refine j_callS (As := [.int 0, .int n, .int u]) C Rm Y [.ref x] (c_CS_withDigit l D B H0 w 0 n u) cl_CS_90 d_c_CS_let_33 rfl rfl (Nat.le_of_ble_eq_true rfl) ⟨by decide, by decide⟩ ⟨jroom hk.1 rfl, jroom hk.2 rfl⟩ (fun v6 w_4 pw_4 => ?_)
      obtain ⟨rfl, rfl⟩ := pw_4
      show JJ g w 36 [(3, .int (((0 : Int32).toUInt32 >>> (((5 - n) * 4).toUInt32 &&& Int32.toUInt32 31)).toInt32 &&& 15)), (0, .ref x), (1, .int n), (2, .int u)] [.int (((0 : Int32) &&& ((15 <<< (((5 - n) * 4) &&& 31)) ^^^ (-1))) ||| (u <<< (((5 - n) * 4) &&& 31))), .ref x]
      refine j_put C d_c_CS_let_36 fp_CS_83 hx rfl rfl ?_
      refine jnv (fun w_5 ew_5 => ?_)
      have m_x_w_5 : w_5.1 x = some (.inr (8, (updV V 4 (.int (((0 : Int32) &&& ((15 <<< (((5 - n) * 4) &&& 31)) ^^^ (-1))) ||| (u <<< (((5 - n) * 4) &&& 31))))))) := jus ew_5
      have hk_w_5 := jk0 ew_5 hk
      have fr_w_5 := jfrW ew_5 fr0 (fun b e hb _ => Nat.ne_of_gt (Nat.lt_of_lt_of_le xq hb))
      refine j_blk 40 [(3, .int (((0 : Int32).toUInt32 >>> (((5 - n) * 4).toUInt32 &&& Int32.toUInt32 31)).toInt32 &&& 15)), (0, .ref x), (1, .int n), (2, .int u)] [.int (((0 : Int32).toUInt32 >>> (((5 - n) * 4).toUInt32 &&& Int32.toUInt32 31)).toInt32 &&& 15)] C k_c_CS_let_39_1 rfl ?_
      have g1 : 0 ≤ n.toInt ∧ n.toInt < 6 := (by (try simp only [jlt, jle, jeq, kt_0, kt_1, kt_2, kt_3, kt_4, kt_5, kt_6, kt_7, kt_8, kt_9, kt_10, kt_11, kt_12, kt_13, kt_15, kt_16, kt_19, kt_20, kt_24, kt_25, kt_31, kt_32, kt_40, kt_50, kt_60, kt_63, kt_100, kt_120, kt_255, kt_300, kt_999999, kt_1000000, kt_m1, kt_m2, kt_m3, kt_m4, kt_m6, kt_m7, kt_m11, kt_m12, kt_m13, kt_m14, kt_m100] at c2); (try simp only [jlt, jle, jeq, kt_0, kt_1, kt_2, kt_3, kt_4, kt_5, kt_6, kt_7, kt_8, kt_9, kt_10, kt_11, kt_12, kt_13, kt_15, kt_16, kt_19, kt_20, kt_24, kt_25, kt_31, kt_32, kt_40, kt_50, kt_60, kt_63, kt_100, kt_120, kt_255, kt_300, kt_999999, kt_1000000, kt_m1, kt_m2, kt_m3, kt_m4, kt_m6, kt_m7, kt_m11, kt_m12, kt_m13, kt_m14, kt_m100] at c4); (try simp only [kt_0, kt_1, kt_2, kt_3, kt_4, kt_5, kt_6, kt_7, kt_8, kt_9, kt_10, kt_11, kt_12, kt_13, kt_15, kt_16, kt_19, kt_20, kt_24, kt_25, kt_31, kt_32, kt_40, kt_50, kt_60, kt_63, kt_100, kt_120, kt_255, kt_300, kt_999999, kt_1000000, kt_m1, kt_m2, kt_m3, kt_m4, kt_m6, kt_m7, kt_m11, kt_m12, kt_m13, kt_m14, kt_m100]); omega)
      have g2 : 0 ≤ u.toInt ∧ u.toInt < 10 := (by (try simp only [jlt, jle, jeq, kt_0, kt_1, kt_2, kt_3, kt_4, kt_5, kt_6, kt_7, kt_8, kt_9, kt_10, kt_11, kt_12, kt_13, kt_15, kt_16, kt_19, kt_20, kt_24, kt_25, kt_31, kt_32, kt_40, kt_50, kt_60, kt_63, kt_100, kt_120, kt_255, kt_300, kt_999999, kt_1000000, kt_m1, kt_m2, kt_m3, kt_m4, kt_m6, kt_m7, kt_m11, kt_m12, kt_m13, kt_m14, kt_m100] at c2); (try simp only [jlt, jle, jeq, kt_0, kt_1, kt_2, kt_3, kt_4, kt_5, kt_6, kt_7, kt_8, kt_9, kt_10, kt_11, kt_12, kt_13, kt_15, kt_16, kt_19, kt_20, kt_24, kt_25, kt_31, kt_32, kt_40, kt_50, kt_60, kt_63, kt_100, kt_120, kt_255, kt_300, kt_999999, kt_1000000, kt_m1, kt_m2, kt_m3, kt_m4, kt_m6, kt_m7, kt_m11, kt_m12, kt_m13, kt_m14, kt_m100] at c4); (try simp only [kt_0, kt_1, kt_2, kt_3, kt_4, kt_5, kt_6, kt_7, kt_8, kt_9, kt_10, kt_11, kt_12, kt_13, kt_15, kt_16, kt_19, kt_20, kt_24, kt_25, kt_31, kt_32, kt_40, kt_50, kt_60, kt_63, kt_100, kt_120, kt_255, kt_300, kt_999999, kt_1000000, kt_m1, kt_m2, kt_m3, kt_m4, kt_m6, kt_m7, kt_m11, kt_m12, kt_m13, kt_m14, kt_m100]); omega)
      have hn : n = 0 ∨ n = 1 ∨ n = 2 ∨ n = 3 ∨ n = 4 ∨ n = 5 := by simp only [jeq, kt_0, kt_1, kt_2, kt_3, kt_4, kt_5, kt_6, kt_7, kt_8, kt_9, kt_10, kt_11, kt_12, kt_13, kt_15, kt_16, kt_19, kt_20, kt_24, kt_25, kt_31, kt_32, kt_40, kt_50, kt_60, kt_63, kt_100, kt_120, kt_255, kt_300, kt_999999, kt_1000000, kt_m1, kt_m2, kt_m3, kt_m4, kt_m6, kt_m7, kt_m11, kt_m12, kt_m13, kt_m14, kt_m100]; omega
      have gz : (((0 : Int32).toUInt32 >>> (((5 - n) * 4).toUInt32 &&& Int32.toUInt32 31)).toInt32 &&& 15) = (0 : Int32) := by clear c2 c4; rcases hn with rfl | rfl | rfl | rfl | rfl | rfl <;> rfl
      exact j_iret C Rm E d_c_CS_let_40 ⟨(congrArg (fun z => some (Value.int z)) gz).trans (jip ⟨g1, g2⟩), fr_w_5⟩ (jbnd hk_w_5.1 rfl) (jbnd hk_w_5.2 rfl)
    · have c4 := jbz.mp c4
      refine j_blk 16 [(0, .ref x), (1, .int n), (2, .int u)] [.int (-2)] C k_c_CS_let_14_1 rfl ?_
      exact j_iret C Rm E d_c_CS_let_16 ⟨jin_ (fun hq => absurd hq (by (try simp only [jlt, jle, jeq, kt_0, kt_1, kt_2, kt_3, kt_4, kt_5, kt_6, kt_7, kt_8, kt_9, kt_10, kt_11, kt_12, kt_13, kt_15, kt_16, kt_19, kt_20, kt_24, kt_25, kt_31, kt_32, kt_40, kt_50, kt_60, kt_63, kt_100, kt_120, kt_255, kt_300, kt_999999, kt_1000000, kt_m1, kt_m2, kt_m3, kt_m4, kt_m6, kt_m7, kt_m11, kt_m12, kt_m13, kt_m14, kt_m100] at c2); (try simp only [jlt, jle, jeq, kt_0, kt_1, kt_2, kt_3, kt_4, kt_5, kt_6, kt_7, kt_8, kt_9, kt_10, kt_11, kt_12, kt_13, kt_15, kt_16, kt_19, kt_20, kt_24, kt_25, kt_31, kt_32, kt_40, kt_50, kt_60, kt_63, kt_100, kt_120, kt_255, kt_300, kt_999999, kt_1000000, kt_m1, kt_m2, kt_m3, kt_m4, kt_m6, kt_m7, kt_m11, kt_m12, kt_m13, kt_m14, kt_m100] at c4); (try simp only [kt_0, kt_1, kt_2, kt_3, kt_4, kt_5, kt_6, kt_7, kt_8, kt_9, kt_10, kt_11, kt_12, kt_13, kt_15, kt_16, kt_19, kt_20, kt_24, kt_25, kt_31, kt_32, kt_40, kt_50, kt_60, kt_63, kt_100, kt_120, kt_255, kt_300, kt_999999, kt_1000000, kt_m1, kt_m2, kt_m3, kt_m4, kt_m6, kt_m7, kt_m11, kt_m12, kt_m13, kt_m14, kt_m100]); omega)), fr0⟩ (jbnd hk.1 rfl) (jbnd hk.2 rfl)

theorem k_c_Mo_let_0_0_1 : sblk b_Mo_let_0 [(0, .iload_n 1, .null)] := sblk_of (by decide +kernel)
theorem d_c_Mo_let_0_1 : decode b_Mo_let_0 1 = .ok (.invokestatic 254, 3) := by decide +kernel
theorem d_c_Mo_let_0_4 : decode b_Mo_let_0 4 = .ok (.ifCond .eq 13, 3) := by decide +kernel
theorem k_c_Mo_let_0_17_1 : sblk b_Mo_let_0 [(17, .bipush (-2), .int (-2))] := sblk_of (by decide +kernel)
theorem d_c_Mo_let_0_19 : decode b_Mo_let_0 19 = .ok (.ireturn, 1) := by decide +kernel
theorem k_c_Mo_let_0_7_3 : sblk b_Mo_let_0 [(7, .iload_n 2, .null), (8, .iconst 0, .int 0), (9, .bipush 9, .int 9)] := sblk_of (by decide +kernel)
theorem d_c_Mo_let_0_11 : decode b_Mo_let_0 11 = .ok (.invokestatic 108, 3) := by decide +kernel
theorem d_c_Mo_let_0_14 : decode b_Mo_let_0 14 = .ok (.ifCond .ne 6, 3) := by decide +kernel
theorem k_c_Mo_let_0_20_1 : sblk b_Mo_let_0 [(20, .aload_n 0, .null)] := sblk_of (by decide +kernel)
theorem d_c_Mo_let_0_21 : decode b_Mo_let_0 21 = .ok (.getfield 60, 3) := by decide +kernel
theorem k_c_Mo_let_0_24_1 : sblk b_Mo_let_0 [(24, .iload_n 1, .null)] := sblk_of (by decide +kernel)
theorem d_c_Mo_let_0_25 : decode b_Mo_let_0 25 = .ok (.iaload, 1) := by decide +kernel
theorem k_c_Mo_let_0_26_2 : sblk b_Mo_let_0 [(26, .istore_n 3, .null), (27, .aload_n 0, .null)] := sblk_of (by decide +kernel)
theorem d_c_Mo_let_0_28 : decode b_Mo_let_0 28 = .ok (.getfield 60, 3) := by decide +kernel
theorem k_c_Mo_let_0_31_2 : sblk b_Mo_let_0 [(31, .iload_n 1, .null), (32, .iload_n 2, .null)] := sblk_of (by decide +kernel)
theorem d_c_Mo_let_0_33 : decode b_Mo_let_0 33 = .ok (.iastore, 1) := by decide +kernel
theorem k_c_Mo_let_0_34_1 : sblk b_Mo_let_0 [(34, .iload_n 3, .null)] := sblk_of (by decide +kernel)
theorem d_c_Mo_let_0_35 : decode b_Mo_let_0 35 = .ok (.ireturn, 1) := by decide +kernel
set_option maxHeartbeats 40000000 in
set_option maxRecDepth 100000 in
theorem c_Mo_let_0 (l : Launch) (D : va_G) (B : Nat) (H0 : Heap) (w : jW) (x : Nat) (V : Nat → Value) (n : Int32) (u : Int32) (st : Nat) (hx : w.1 x = some (.inr (10, V))) (h17 : V 17 = .ref st) (hst : w.1 st = some (aI D 6 (fun _ => 0))) (q : Nat) (xq : x < q) (stq : st < q) : jMet l D B H0 y_Mo_let_0 b_Mo_let_0 4 (some .int) 3 160 0 0 [.ref x, .int n, .int u] w (fun v w9 => v = some (.int (an_let n u)) ∧ jfr (fun b => q ≤ b) w w9) := by
  refine j_met (by decide) (Nat.le_of_ble_eq_true rfl) (fun g C Rm Y E => ?_)
  have hk := jkz w
  have fr0 : jfr (fun b => q ≤ b) w w := jfr0
  show JJ g w 0 [(0, .ref x), (1, .int n), (2, .int u)] []
  refine j_blk 1 [(0, .ref x), (1, .int n), (2, .int u)] [.int n] C k_c_Mo_let_0_0_1 rfl ?_
  refine j_callS (As := [.int n]) C Rm Y [] (c_Mo_isName l D B H0 w n) cl_Mo_254 d_c_Mo_let_0_1 rfl rfl (Nat.le_of_ble_eq_true rfl) ⟨by decide, by decide⟩ ⟨jroom hk.1 rfl, jroom hk.2 rfl⟩ (fun v1 w_1 pw_1 => ?_)
  obtain ⟨rfl, rfl⟩ := pw_1
  show JJ g w 4 [(0, .ref x), (1, .int n), (2, .int u)] [.int (if (0 : Int32).toInt ≤ n.toInt ∧ n.toInt ≤ (5 : Int32).toInt then 1 else 0)]
  refine j_if_eq (tgt := 17) C d_c_Mo_let_0_4 (by decide) (fun c2 => ?_) (fun c2 => ?_)
  · have c2 := jbz.mp c2
    refine j_blk 19 [(0, .ref x), (1, .int n), (2, .int u)] [.int (-2)] C k_c_Mo_let_0_17_1 rfl ?_
    exact j_iret C Rm E d_c_Mo_let_0_19 ⟨jin_ (fun hq => absurd hq (by (try simp only [jlt, jle, jeq, kt_0, kt_1, kt_2, kt_3, kt_4, kt_5, kt_6, kt_7, kt_8, kt_9, kt_10, kt_11, kt_12, kt_13, kt_15, kt_16, kt_19, kt_20, kt_24, kt_25, kt_31, kt_32, kt_40, kt_50, kt_60, kt_63, kt_100, kt_120, kt_255, kt_300, kt_999999, kt_1000000, kt_m1, kt_m2, kt_m3, kt_m4, kt_m6, kt_m7, kt_m11, kt_m12, kt_m13, kt_m14, kt_m100] at c2); (try simp only [kt_0, kt_1, kt_2, kt_3, kt_4, kt_5, kt_6, kt_7, kt_8, kt_9, kt_10, kt_11, kt_12, kt_13, kt_15, kt_16, kt_19, kt_20, kt_24, kt_25, kt_31, kt_32, kt_40, kt_50, kt_60, kt_63, kt_100, kt_120, kt_255, kt_300, kt_999999, kt_1000000, kt_m1, kt_m2, kt_m3, kt_m4, kt_m6, kt_m7, kt_m11, kt_m12, kt_m13, kt_m14, kt_m100]); omega)), fr0⟩ (jbnd hk.1 rfl) (jbnd hk.2 rfl)
  · have c2 := jbo.mp c2
    refine j_blk 11 [(0, .ref x), (1, .int n), (2, .int u)] [.int 9, .int 0, .int u] C k_c_Mo_let_0_7_3 rfl ?_
    refine j_callS (As := [.int u, .int 0, .int 9]) C Rm Y [] (c_Mo_in l D B H0 w u 0 9) cl_Mo_108 d_c_Mo_let_0_11 rfl rfl (Nat.le_of_ble_eq_true rfl) ⟨by decide, by decide⟩ ⟨jroom hk.1 rfl, jroom hk.2 rfl⟩ (fun v3 w_2 pw_2 => ?_)
    obtain ⟨rfl, rfl⟩ := pw_2
    show JJ g w 14 [(0, .ref x), (1, .int n), (2, .int u)] [.int (if (0 : Int32).toInt ≤ u.toInt ∧ u.toInt ≤ (9 : Int32).toInt then 1 else 0)]
    refine j_if_ne (tgt := 20) C d_c_Mo_let_0_14 (by decide) (fun c4 => ?_) (fun c4 => ?_)
    · have c4 := jbo.mp c4
      refine j_blk 21 [(0, .ref x), (1, .int n), (2, .int u)] [.ref x] C k_c_Mo_let_0_20_1 rfl ?_
      refine j_get C d_c_Mo_let_0_21 fg_Mo_60 hx h17 ?_
      refine j_blk 25 [(0, .ref x), (1, .int n), (2, .int u)] [.int n, .ref st] C k_c_Mo_let_0_24_1 rfl ?_
      refine j_iald C d_c_Mo_let_0_25 hst (jin (by (try simp only [jlt, jle, jeq, kt_0, kt_1, kt_2, kt_3, kt_4, kt_5, kt_6, kt_7, kt_8, kt_9, kt_10, kt_11, kt_12, kt_13, kt_15, kt_16, kt_19, kt_20, kt_24, kt_25, kt_31, kt_32, kt_40, kt_50, kt_60, kt_63, kt_100, kt_120, kt_255, kt_300, kt_999999, kt_1000000, kt_m1, kt_m2, kt_m3, kt_m4, kt_m6, kt_m7, kt_m11, kt_m12, kt_m13, kt_m14, kt_m100] at c2); (try simp only [jlt, jle, jeq, kt_0, kt_1, kt_2, kt_3, kt_4, kt_5, kt_6, kt_7, kt_8, kt_9, kt_10, kt_11, kt_12, kt_13, kt_15, kt_16, kt_19, kt_20, kt_24, kt_25, kt_31, kt_32, kt_40, kt_50, kt_60, kt_63, kt_100, kt_120, kt_255, kt_300, kt_999999, kt_1000000, kt_m1, kt_m2, kt_m3, kt_m4, kt_m6, kt_m7, kt_m11, kt_m12, kt_m13, kt_m14, kt_m100] at c4); (try simp only [kt_0, kt_1, kt_2, kt_3, kt_4, kt_5, kt_6, kt_7, kt_8, kt_9, kt_10, kt_11, kt_12, kt_13, kt_15, kt_16, kt_19, kt_20, kt_24, kt_25, kt_31, kt_32, kt_40, kt_50, kt_60, kt_63, kt_100, kt_120, kt_255, kt_300, kt_999999, kt_1000000, kt_m1, kt_m2, kt_m3, kt_m4, kt_m6, kt_m7, kt_m11, kt_m12, kt_m13, kt_m14, kt_m100]); omega) (by (try simp only [jlt, jle, jeq, kt_0, kt_1, kt_2, kt_3, kt_4, kt_5, kt_6, kt_7, kt_8, kt_9, kt_10, kt_11, kt_12, kt_13, kt_15, kt_16, kt_19, kt_20, kt_24, kt_25, kt_31, kt_32, kt_40, kt_50, kt_60, kt_63, kt_100, kt_120, kt_255, kt_300, kt_999999, kt_1000000, kt_m1, kt_m2, kt_m3, kt_m4, kt_m6, kt_m7, kt_m11, kt_m12, kt_m13, kt_m14, kt_m100] at c2); (try simp only [jlt, jle, jeq, kt_0, kt_1, kt_2, kt_3, kt_4, kt_5, kt_6, kt_7, kt_8, kt_9, kt_10, kt_11, kt_12, kt_13, kt_15, kt_16, kt_19, kt_20, kt_24, kt_25, kt_31, kt_32, kt_40, kt_50, kt_60, kt_63, kt_100, kt_120, kt_255, kt_300, kt_999999, kt_1000000, kt_m1, kt_m2, kt_m3, kt_m4, kt_m6, kt_m7, kt_m11, kt_m12, kt_m13, kt_m14, kt_m100] at c4); (try simp only [kt_0, kt_1, kt_2, kt_3, kt_4, kt_5, kt_6, kt_7, kt_8, kt_9, kt_10, kt_11, kt_12, kt_13, kt_15, kt_16, kt_19, kt_20, kt_24, kt_25, kt_31, kt_32, kt_40, kt_50, kt_60, kt_63, kt_100, kt_120, kt_255, kt_300, kt_999999, kt_1000000, kt_m1, kt_m2, kt_m3, kt_m4, kt_m6, kt_m7, kt_m11, kt_m12, kt_m13, kt_m14, kt_m100]); omega)) ?_
      refine j_blk 28 [(3, .int 0), (0, .ref x), (1, .int n), (2, .int u)] [.ref x] C k_c_Mo_let_0_26_2 rfl ?_
      refine j_get C d_c_Mo_let_0_28 fg_Mo_60 hx h17 ?_
      refine j_blk 33 [(3, .int 0), (0, .ref x), (1, .int n), (2, .int u)] [.int u, .int n, .ref st] C k_c_Mo_let_0_31_2 rfl ?_
      refine j_iast C d_c_Mo_let_0_33 hst (jin (by (try simp only [jlt, jle, jeq, kt_0, kt_1, kt_2, kt_3, kt_4, kt_5, kt_6, kt_7, kt_8, kt_9, kt_10, kt_11, kt_12, kt_13, kt_15, kt_16, kt_19, kt_20, kt_24, kt_25, kt_31, kt_32, kt_40, kt_50, kt_60, kt_63, kt_100, kt_120, kt_255, kt_300, kt_999999, kt_1000000, kt_m1, kt_m2, kt_m3, kt_m4, kt_m6, kt_m7, kt_m11, kt_m12, kt_m13, kt_m14, kt_m100] at c2); (try simp only [jlt, jle, jeq, kt_0, kt_1, kt_2, kt_3, kt_4, kt_5, kt_6, kt_7, kt_8, kt_9, kt_10, kt_11, kt_12, kt_13, kt_15, kt_16, kt_19, kt_20, kt_24, kt_25, kt_31, kt_32, kt_40, kt_50, kt_60, kt_63, kt_100, kt_120, kt_255, kt_300, kt_999999, kt_1000000, kt_m1, kt_m2, kt_m3, kt_m4, kt_m6, kt_m7, kt_m11, kt_m12, kt_m13, kt_m14, kt_m100] at c4); (try simp only [kt_0, kt_1, kt_2, kt_3, kt_4, kt_5, kt_6, kt_7, kt_8, kt_9, kt_10, kt_11, kt_12, kt_13, kt_15, kt_16, kt_19, kt_20, kt_24, kt_25, kt_31, kt_32, kt_40, kt_50, kt_60, kt_63, kt_100, kt_120, kt_255, kt_300, kt_999999, kt_1000000, kt_m1, kt_m2, kt_m3, kt_m4, kt_m6, kt_m7, kt_m11, kt_m12, kt_m13, kt_m14, kt_m100]); omega) (by (try simp only [jlt, jle, jeq, kt_0, kt_1, kt_2, kt_3, kt_4, kt_5, kt_6, kt_7, kt_8, kt_9, kt_10, kt_11, kt_12, kt_13, kt_15, kt_16, kt_19, kt_20, kt_24, kt_25, kt_31, kt_32, kt_40, kt_50, kt_60, kt_63, kt_100, kt_120, kt_255, kt_300, kt_999999, kt_1000000, kt_m1, kt_m2, kt_m3, kt_m4, kt_m6, kt_m7, kt_m11, kt_m12, kt_m13, kt_m14, kt_m100] at c2); (try simp only [jlt, jle, jeq, kt_0, kt_1, kt_2, kt_3, kt_4, kt_5, kt_6, kt_7, kt_8, kt_9, kt_10, kt_11, kt_12, kt_13, kt_15, kt_16, kt_19, kt_20, kt_24, kt_25, kt_31, kt_32, kt_40, kt_50, kt_60, kt_63, kt_100, kt_120, kt_255, kt_300, kt_999999, kt_1000000, kt_m1, kt_m2, kt_m3, kt_m4, kt_m6, kt_m7, kt_m11, kt_m12, kt_m13, kt_m14, kt_m100] at c4); (try simp only [kt_0, kt_1, kt_2, kt_3, kt_4, kt_5, kt_6, kt_7, kt_8, kt_9, kt_10, kt_11, kt_12, kt_13, kt_15, kt_16, kt_19, kt_20, kt_24, kt_25, kt_31, kt_32, kt_40, kt_50, kt_60, kt_63, kt_100, kt_120, kt_255, kt_300, kt_999999, kt_1000000, kt_m1, kt_m2, kt_m3, kt_m4, kt_m6, kt_m7, kt_m11, kt_m12, kt_m13, kt_m14, kt_m100]); omega)) ?_
      refine jnv (fun w_3 ew_3 => ?_)
      have m_st_w_3 : w_3.1 st = some (aI D 6 (upd (fun _ => 0) (Int32.toNatClampNeg n) u)) := jus ew_3
      have hk_w_3 := jk0 ew_3 hk
      have fr_w_3 := jfrW ew_3 fr0 (fun b e hb _ => Nat.ne_of_gt (Nat.lt_of_lt_of_le stq hb))
      refine j_blk 35 [(3, .int 0), (0, .ref x), (1, .int n), (2, .int u)] [.int 0] C k_c_Mo_let_0_34_1 rfl ?_
      exact j_iret C Rm E d_c_Mo_let_0_35 ⟨jip ⟨(by (try simp only [jlt, jle, jeq, kt_0, kt_1, kt_2, kt_3, kt_4, kt_5, kt_6, kt_7, kt_8, kt_9, kt_10, kt_11, kt_12, kt_13, kt_15, kt_16, kt_19, kt_20, kt_24, kt_25, kt_31, kt_32, kt_40, kt_50, kt_60, kt_63, kt_100, kt_120, kt_255, kt_300, kt_999999, kt_1000000, kt_m1, kt_m2, kt_m3, kt_m4, kt_m6, kt_m7, kt_m11, kt_m12, kt_m13, kt_m14, kt_m100] at c2); (try simp only [jlt, jle, jeq, kt_0, kt_1, kt_2, kt_3, kt_4, kt_5, kt_6, kt_7, kt_8, kt_9, kt_10, kt_11, kt_12, kt_13, kt_15, kt_16, kt_19, kt_20, kt_24, kt_25, kt_31, kt_32, kt_40, kt_50, kt_60, kt_63, kt_100, kt_120, kt_255, kt_300, kt_999999, kt_1000000, kt_m1, kt_m2, kt_m3, kt_m4, kt_m6, kt_m7, kt_m11, kt_m12, kt_m13, kt_m14, kt_m100] at c4); show 0 ≤ n.toInt ∧ n.toInt < 6; (try simp only [kt_0, kt_1, kt_2, kt_3, kt_4, kt_5, kt_6, kt_7, kt_8, kt_9, kt_10, kt_11, kt_12, kt_13, kt_15, kt_16, kt_19, kt_20, kt_24, kt_25, kt_31, kt_32, kt_40, kt_50, kt_60, kt_63, kt_100, kt_120, kt_255, kt_300, kt_999999, kt_1000000, kt_m1, kt_m2, kt_m3, kt_m4, kt_m6, kt_m7, kt_m11, kt_m12, kt_m13, kt_m14, kt_m100]); omega), (by (try simp only [jlt, jle, jeq, kt_0, kt_1, kt_2, kt_3, kt_4, kt_5, kt_6, kt_7, kt_8, kt_9, kt_10, kt_11, kt_12, kt_13, kt_15, kt_16, kt_19, kt_20, kt_24, kt_25, kt_31, kt_32, kt_40, kt_50, kt_60, kt_63, kt_100, kt_120, kt_255, kt_300, kt_999999, kt_1000000, kt_m1, kt_m2, kt_m3, kt_m4, kt_m6, kt_m7, kt_m11, kt_m12, kt_m13, kt_m14, kt_m100] at c2); (try simp only [jlt, jle, jeq, kt_0, kt_1, kt_2, kt_3, kt_4, kt_5, kt_6, kt_7, kt_8, kt_9, kt_10, kt_11, kt_12, kt_13, kt_15, kt_16, kt_19, kt_20, kt_24, kt_25, kt_31, kt_32, kt_40, kt_50, kt_60, kt_63, kt_100, kt_120, kt_255, kt_300, kt_999999, kt_1000000, kt_m1, kt_m2, kt_m3, kt_m4, kt_m6, kt_m7, kt_m11, kt_m12, kt_m13, kt_m14, kt_m100] at c4); show 0 ≤ u.toInt ∧ u.toInt < 10; (try simp only [kt_0, kt_1, kt_2, kt_3, kt_4, kt_5, kt_6, kt_7, kt_8, kt_9, kt_10, kt_11, kt_12, kt_13, kt_15, kt_16, kt_19, kt_20, kt_24, kt_25, kt_31, kt_32, kt_40, kt_50, kt_60, kt_63, kt_100, kt_120, kt_255, kt_300, kt_999999, kt_1000000, kt_m1, kt_m2, kt_m3, kt_m4, kt_m6, kt_m7, kt_m11, kt_m12, kt_m13, kt_m14, kt_m100]); omega)⟩, fr_w_3⟩ (jbnd hk_w_3.1 rfl) (jbnd hk_w_3.2 rfl)
    · have c4 := jbz.mp c4
      refine j_blk 19 [(0, .ref x), (1, .int n), (2, .int u)] [.int (-2)] C k_c_Mo_let_0_17_1 rfl ?_
      exact j_iret C Rm E d_c_Mo_let_0_19 ⟨jin_ (fun hq => absurd hq (by (try simp only [jlt, jle, jeq, kt_0, kt_1, kt_2, kt_3, kt_4, kt_5, kt_6, kt_7, kt_8, kt_9, kt_10, kt_11, kt_12, kt_13, kt_15, kt_16, kt_19, kt_20, kt_24, kt_25, kt_31, kt_32, kt_40, kt_50, kt_60, kt_63, kt_100, kt_120, kt_255, kt_300, kt_999999, kt_1000000, kt_m1, kt_m2, kt_m3, kt_m4, kt_m6, kt_m7, kt_m11, kt_m12, kt_m13, kt_m14, kt_m100] at c2); (try simp only [jlt, jle, jeq, kt_0, kt_1, kt_2, kt_3, kt_4, kt_5, kt_6, kt_7, kt_8, kt_9, kt_10, kt_11, kt_12, kt_13, kt_15, kt_16, kt_19, kt_20, kt_24, kt_25, kt_31, kt_32, kt_40, kt_50, kt_60, kt_63, kt_100, kt_120, kt_255, kt_300, kt_999999, kt_1000000, kt_m1, kt_m2, kt_m3, kt_m4, kt_m6, kt_m7, kt_m11, kt_m12, kt_m13, kt_m14, kt_m100] at c4); (try simp only [kt_0, kt_1, kt_2, kt_3, kt_4, kt_5, kt_6, kt_7, kt_8, kt_9, kt_10, kt_11, kt_12, kt_13, kt_15, kt_16, kt_19, kt_20, kt_24, kt_25, kt_31, kt_32, kt_40, kt_50, kt_60, kt_63, kt_100, kt_120, kt_255, kt_300, kt_999999, kt_1000000, kt_m1, kt_m2, kt_m3, kt_m4, kt_m6, kt_m7, kt_m11, kt_m12, kt_m13, kt_m14, kt_m100]); omega)), fr0⟩ (jbnd hk.1 rfl) (jbnd hk.2 rfl)

theorem k_c_CS_image_0_2 : sblk b_CS_image [(0, .aload_n 0, .null), (1, .iconst 1, .int 1)] := sblk_of (by decide +kernel)
theorem d_c_CS_image_2 : decode b_CS_image 2 = .ok (.putfield 234, 3) := by decide +kernel
theorem k_c_CS_image_5_2 : sblk b_CS_image [(5, .aload_n 0, .null), (6, .aload_n 0, .null)] := sblk_of (by decide +kernel)
theorem d_c_CS_image_7 : decode b_CS_image 7 = .ok (.getfield 83, 3) := by decide +kernel
theorem d_c_CS_image_10 : decode b_CS_image 10 = .ok (.putfield 237, 3) := by decide +kernel
theorem k_c_CS_image_13_2 : sblk b_CS_image [(13, .aload_n 0, .null), (14, .aload_n 0, .null)] := sblk_of (by decide +kernel)
theorem d_c_CS_image_15 : decode b_CS_image 15 = .ok (.getfield 59, 3) := by decide +kernel
theorem d_c_CS_image_18 : decode b_CS_image 18 = .ok (.putfield 240, 3) := by decide +kernel
theorem k_c_CS_image_21_1 : sblk b_CS_image [(21, .aload_n 0, .null)] := sblk_of (by decide +kernel)
theorem d_c_CS_image_22 : decode b_CS_image 22 = .ok (.getfield 59, 3) := by decide +kernel
theorem d_c_CS_image_25 : decode b_CS_image 25 = .ok (.ireturn, 1) := by decide +kernel
set_option maxHeartbeats 40000000 in
set_option maxRecDepth 100000 in
theorem c_CS_image (l : Launch) (D : va_G) (B : Nat) (H0 : Heap) (w : jW) (x : Nat) (V : Nat → Value)   (hx : w.1 x = some (.inr (8, V))) (h3 : V 3 = .int 0) (h4 : V 4 = .int 0)  (q : Nat) (xq : x < q) : jMet l D B H0 y_CS_image b_CS_image 1 (some .int) 3 160 0 0 [.ref x] w (fun v w9 => v = some (.int (0)) ∧ jfr (fun b => q ≤ b) w w9) := by
  refine j_met (by decide) (Nat.le_of_ble_eq_true rfl) (fun g C Rm Y E => ?_)
  have hk := jkz w
  have fr0 : jfr (fun b => q ≤ b) w w := jfr0
  show JJ g w 0 [(0, .ref x)] []
  refine j_blk 2 [(0, .ref x)] [.int 1, .ref x] C k_c_CS_image_0_2 rfl ?_
  refine j_put C d_c_CS_image_2 fp_CS_234 hx rfl rfl ?_
  refine jnv (fun w_1 ew_1 => ?_)
  have m_x_w_1 : w_1.1 x = some (.inr (8, (updV V 5 (.int 1)))) := jus ew_1
  have hk_w_1 := jk0 ew_1 hk
  have fr_w_1 := jfrW ew_1 fr0 (fun b e hb _ => Nat.ne_of_gt (Nat.lt_of_lt_of_le xq hb))
  refine j_blk 7 [(0, .ref x)] [.ref x, .ref x] C k_c_CS_image_5_2 rfl ?_
  refine j_get C d_c_CS_image_7 fg_CS_83 m_x_w_1 h4 ?_
  refine j_put C d_c_CS_image_10 fp_CS_237 m_x_w_1 rfl rfl ?_
  refine jnv (fun w_2 ew_2 => ?_)
  have m_x_w_2 : w_2.1 x = some (.inr (8, (updV (updV V 5 (.int 1)) 6 (.int 0)))) := jus ew_2
  have hk_w_2 := jk0 ew_2 hk_w_1
  have fr_w_2 := jfrW ew_2 fr_w_1 (fun b e hb _ => Nat.ne_of_gt (Nat.lt_of_lt_of_le xq hb))
  refine j_blk 15 [(0, .ref x)] [.ref x, .ref x] C k_c_CS_image_13_2 rfl ?_
  refine j_get C d_c_CS_image_15 fg_CS_59 m_x_w_2 h3 ?_
  refine j_put C d_c_CS_image_18 fp_CS_240 m_x_w_2 rfl rfl ?_
  refine jnv (fun w_3 ew_3 => ?_)
  have m_x_w_3 : w_3.1 x = some (.inr (8, (updV (updV (updV V 5 (.int 1)) 6 (.int 0)) 7 (.int 0)))) := jus ew_3
  have hk_w_3 := jk0 ew_3 hk_w_2
  have fr_w_3 := jfrW ew_3 fr_w_2 (fun b e hb _ => Nat.ne_of_gt (Nat.lt_of_lt_of_le xq hb))
  refine j_blk 22 [(0, .ref x)] [.ref x] C k_c_CS_image_21_1 rfl ?_
  refine j_get C d_c_CS_image_22 fg_CS_59 m_x_w_3 h3 ?_
  exact j_iret C Rm E d_c_CS_image_25 ⟨rfl, fr_w_3⟩ (jbnd hk_w_3.1 rfl) (jbnd hk_w_3.2 rfl)

theorem k_c_CS_back_0_1 : sblk b_CS_back [(0, .aload_n 0, .null)] := sblk_of (by decide +kernel)
theorem d_c_CS_back_1 : decode b_CS_back 1 = .ok (.getfield 234, 3) := by decide +kernel
theorem d_c_CS_back_4 : decode b_CS_back 4 = .ok (.ifCond .ne 6, 3) := by decide +kernel
theorem k_c_CS_back_7_1 : sblk b_CS_back [(7, .bipush (-3), .int (-3))] := sblk_of (by decide +kernel)
theorem d_c_CS_back_9 : decode b_CS_back 9 = .ok (.ireturn, 1) := by decide +kernel
set_option maxHeartbeats 40000000 in
set_option maxRecDepth 100000 in
theorem c_CS_back (l : Launch) (D : va_G) (B : Nat) (H0 : Heap) (w : jW) (x : Nat) (V : Nat → Value)   (hx : w.1 x = some (.inr (8, V))) (h5 : V 5 = .int 0)  (q : Nat) (xq : x < q) : jMet l D B H0 y_CS_back b_CS_back 1 (some .int) 3 160 0 0 [.ref x] w (fun v w9 => v = some (.int (-3)) ∧ jfr (fun b => q ≤ b) w w9) := by
  refine j_met (by decide) (Nat.le_of_ble_eq_true rfl) (fun g C Rm Y E => ?_)
  have hk := jkz w
  have fr0 : jfr (fun b => q ≤ b) w w := jfr0
  show JJ g w 0 [(0, .ref x)] []
  refine j_blk 1 [(0, .ref x)] [.ref x] C k_c_CS_back_0_1 rfl ?_
  refine j_get C d_c_CS_back_1 fg_CS_234 hx h5 ?_
  refine j_if_ne (tgt := 10) C d_c_CS_back_4 (by decide) (fun c1 => absurd (by decide) c1) (fun c1 => ?_)
  refine j_blk 9 [(0, .ref x)] [.int (-3)] C k_c_CS_back_7_1 rfl ?_
  exact j_iret C Rm E d_c_CS_back_9 ⟨rfl, fr0⟩ (jbnd hk.1 rfl) (jbnd hk.2 rfl)

theorem k_c_Mo_image_0_2 : sblk b_Mo_image [(0, .aload_n 0, .null), (1, .aload_n 0, .null)] := sblk_of (by decide +kernel)
theorem d_c_Mo_image_2 : decode b_Mo_image 2 = .ok (.getfield 105, 3) := by decide +kernel
theorem d_c_Mo_image_5 : decode b_Mo_image 5 = .ok (.putfield 85, 3) := by decide +kernel
theorem k_c_Mo_image_8_1 : sblk b_Mo_image [(8, .aload_n 0, .null)] := sblk_of (by decide +kernel)
theorem d_c_Mo_image_9 : decode b_Mo_image 9 = .ok (.getfield 60, 3) := by decide +kernel
theorem k_c_Mo_image_12_2 : sblk b_Mo_image [(12, .iconst 0, .int 0), (13, .aload_n 0, .null)] := sblk_of (by decide +kernel)
theorem d_c_Mo_image_14 : decode b_Mo_image 14 = .ok (.getfield 89, 3) := by decide +kernel
theorem k_c_Mo_image_17_2 : sblk b_Mo_image [(17, .iconst 0, .int 0), (18, .bipush 6, .int 6)] := sblk_of (by decide +kernel)
theorem d_c_Mo_image_20 : decode b_Mo_image 20 = .ok (.invokestatic 428, 3) := by decide +kernel
theorem k_c_Mo_image_23_1 : sblk b_Mo_image [(23, .aload_n 0, .null)] := sblk_of (by decide +kernel)
theorem d_c_Mo_image_24 : decode b_Mo_image 24 = .ok (.getfield 105, 3) := by decide +kernel
theorem d_c_Mo_image_27 : decode b_Mo_image 27 = .ok (.ireturn, 1) := by decide +kernel
set_option maxHeartbeats 40000000 in
set_option maxRecDepth 100000 in
theorem c_Mo_image (l : Launch) (D : va_G) (B : Nat) (H0 : Heap) (w : jW) (x : Nat) (V : Nat → Value)  (st im : Nat) (sti : st ≠ im) (hx : w.1 x = some (.inr (10, V))) (h0 : V 0 = .int 0) (h17 : V 17 = .ref st) (h38 : V 38 = .ref im) (hst : w.1 st = some (aI D 6 (fun _ => 0))) (him : w.1 im = some (aI D 6 (fun _ => 0))) (q : Nat) (xq : x < q) (stq : st < q) (imq : im < q) : jMet l D B H0 y_Mo_image b_Mo_image 1 (some .int) 3 160 0 0 [.ref x] w (fun v w9 => v = some (.int (0)) ∧ jfr (fun b => q ≤ b) w w9) := by
  refine j_met (by decide) (Nat.le_of_ble_eq_true rfl) (fun g C Rm Y E => ?_)
  have hk := jkz w
  have fr0 : jfr (fun b => q ≤ b) w w := jfr0
  show JJ g w 0 [(0, .ref x)] []
  refine j_blk 2 [(0, .ref x)] [.ref x, .ref x] C k_c_Mo_image_0_2 rfl ?_
  refine j_get C d_c_Mo_image_2 fg_Mo_105 hx h0 ?_
  refine j_put C d_c_Mo_image_5 fp_Mo_85 hx rfl rfl ?_
  refine jnv (fun w_1 ew_1 => ?_)
  have m_x_w_1 : w_1.1 x = some (.inr (10, (updV V 37 (.int 0)))) := jus ew_1
  have hk_w_1 := jk0 ew_1 hk
  have fr_w_1 := jfrW ew_1 fr0 (fun b e hb _ => Nat.ne_of_gt (Nat.lt_of_lt_of_le xq hb))
  refine j_blk 9 [(0, .ref x)] [.ref x] C k_c_Mo_image_8_1 rfl ?_
  refine j_get C d_c_Mo_image_9 fg_Mo_60 m_x_w_1 h17 ?_
  refine j_blk 14 [(0, .ref x)] [.ref x, .int 0, .ref st] C k_c_Mo_image_12_2 rfl ?_
  refine j_get C d_c_Mo_image_14 fg_Mo_89 m_x_w_1 h38 ?_
  refine j_blk 20 [(0, .ref x)] [.int 6, .int 0, .ref im, .int 0, .ref st] C k_c_Mo_image_17_2 rfl ?_
  have m_st_w_1 := jun ew_1 hst (jneAO hst hx)
  have m_im_w_1 := jun ew_1 him (jneAO him hx)
  refine j_copyi C Rm cl_Mo_428 d_c_Mo_image_20 m_st_w_1 m_im_w_1 (by decide) (by decide) (by decide) (by decide) (by decide) (by decide) (Nat.le_of_ble_eq_true rfl) ?_
  refine jnv (fun w_2 ew_2 => ?_)
  have m_im_w_2 : w_2.1 im = some (aI D 6 (va_cpy (fun _ => 0) (fun _ => 0) (Int32.toNatClampNeg 0) (Int32.toNatClampNeg 0) (Int32.toNatClampNeg 6))) := jus ew_2
  have hk_w_2 := jk0 ew_2 hk_w_1
  have fr_w_2 := jfrW ew_2 fr_w_1 (fun b e hb _ => Nat.ne_of_gt (Nat.lt_of_lt_of_le imq hb))
  refine j_blk 24 [(0, .ref x)] [.ref x] C k_c_Mo_image_23_1 rfl ?_
  have m_x_w_2 := jun ew_2 m_x_w_1 (jneOA m_x_w_1 m_im_w_1)
  refine j_get C d_c_Mo_image_24 fg_Mo_105 m_x_w_2 h0 ?_
  exact j_iret C Rm E d_c_Mo_image_27 ⟨rfl, fr_w_2⟩ (jbnd hk_w_2.1 rfl) (jbnd hk_w_2.2 rfl)

theorem k_c_Mo_back_0_1 : sblk b_Mo_back [(0, .aload_n 0, .null)] := sblk_of (by decide +kernel)
theorem d_c_Mo_back_1 : decode b_Mo_back 1 = .ok (.getfield 85, 3) := by decide +kernel
theorem k_c_Mo_back_4_1 : sblk b_Mo_back [(4, .iconst (-1), .int (-1))] := sblk_of (by decide +kernel)
theorem d_c_Mo_back_5 : decode b_Mo_back 5 = .ok (.if_icmp .ne 6, 3) := by decide +kernel
theorem k_c_Mo_back_8_1 : sblk b_Mo_back [(8, .bipush (-3), .int (-3))] := sblk_of (by decide +kernel)
theorem d_c_Mo_back_10 : decode b_Mo_back 10 = .ok (.ireturn, 1) := by decide +kernel
set_option maxHeartbeats 40000000 in
set_option maxRecDepth 100000 in
theorem c_Mo_back (l : Launch) (D : va_G) (B : Nat) (H0 : Heap) (w : jW) (x : Nat) (V : Nat → Value)   (hx : w.1 x = some (.inr (10, V))) (h37 : V 37 = .int (-1))  (q : Nat) (xq : x < q) : jMet l D B H0 y_Mo_back b_Mo_back 1 (some .int) 3 160 0 0 [.ref x] w (fun v w9 => v = some (.int (-3)) ∧ jfr (fun b => q ≤ b) w w9) := by
  refine j_met (by decide) (Nat.le_of_ble_eq_true rfl) (fun g C Rm Y E => ?_)
  have hk := jkz w
  have fr0 : jfr (fun b => q ≤ b) w w := jfr0
  show JJ g w 0 [(0, .ref x)] []
  refine j_blk 1 [(0, .ref x)] [.ref x] C k_c_Mo_back_0_1 rfl ?_
  refine j_get C d_c_Mo_back_1 fg_Mo_85 hx h37 ?_
  refine j_blk 5 [(0, .ref x)] [.int (-1), .int (-1)] C k_c_Mo_back_4_1 rfl ?_
  refine j_icmp_ne (tgt := 11) C d_c_Mo_back_5 (by decide) (fun c1 => absurd (by decide) c1) (fun c1 => ?_)
  refine j_blk 10 [(0, .ref x)] [.int (-3)] C k_c_Mo_back_8_1 rfl ?_
  exact j_iret C Rm E d_c_Mo_back_10 ⟨rfl, fr0⟩ (jbnd hk.1 rfl) (jbnd hk.2 rfl)

theorem k_c_CS_unpacked0_0_6 : sblk b_CS_unpacked [(0, .iconst 0, .int 0), (1, .istore_n 1, .null), (2, .iconst 0, .int 0), (3, .istore_n 2, .null), (4, .iload_n 2, .null), (5, .bipush 6, .int 6)] := sblk_of (by decide +kernel)
theorem d_c_CS_unpacked0_7 : decode b_CS_unpacked 7 = .ok (.if_icmp .ge 20, 3) := by decide +kernel
theorem k_c_CS_unpacked0_10_5 : sblk b_CS_unpacked [(10, .iload_n 1, .null), (11, .bipush 10, .int 10), (13, .imul, .null), (14, .iload_n 0, .null), (15, .iload_n 2, .null)] := sblk_of (by decide +kernel)
theorem d_c_CS_unpacked0_16 : decode b_CS_unpacked 16 = .ok (.invokestatic 86, 3) := by decide +kernel
theorem k_c_CS_unpacked0_19_4 : sblk b_CS_unpacked [(19, .iadd, .null), (20, .istore_n 1, .null), (21, .iinc 2 1, .int 1), (24, .goto (-20), .retAddr 4)] := sblk_of (by decide +kernel)
theorem k_c_CS_unpacked0_4_2 : sblk b_CS_unpacked [(4, .iload_n 2, .null), (5, .bipush 6, .int 6)] := sblk_of (by decide +kernel)
theorem k_c_CS_unpacked0_27_1 : sblk b_CS_unpacked [(27, .iload_n 1, .null)] := sblk_of (by decide +kernel)
theorem d_c_CS_unpacked0_28 : decode b_CS_unpacked 28 = .ok (.ireturn, 1) := by decide +kernel
set_option maxHeartbeats 40000000 in
set_option maxRecDepth 100000 in
theorem c_CS_unpacked0 (l : Launch) (D : va_G) (B : Nat) (H0 : Heap) (w : jW) : jMet l D B H0 y_CS_unpacked b_CS_unpacked 3 (some .int) 1 40 0 0 [.int 0] w (fun v w9 => v = some (.int 0) ∧ w = w9) := by
  refine j_met (by decide) (Nat.le_of_ble_eq_true rfl) (fun g C Rm Y E => ?_)
  have hk := jkz w
  show JJ g w 0 [(0, .int 0)] []
  refine j_blk 7 [(2, .int 0), (1, .int 0), (0, .int 0)] [.int 6, .int 0] C k_c_CS_unpacked0_0_6 rfl ?_
  refine j_icmp_ge (tgt := 27) C d_c_CS_unpacked0_7 (by decide) (fun c1 => absurd c1 (by decide)) (fun c1 => ?_)
  refine j_blk 16 [(2, .int 0), (1, .int 0), (0, .int 0)] [.int 0, .int 0, .int 0] C k_c_CS_unpacked0_10_5 rfl ?_
  refine j_callS (As := [.int 0, .int 0]) C Rm Y [.int 0] (c_CS_digitAt l D B H0 w 0 0) cl_CS_86 d_c_CS_unpacked0_16 rfl rfl (Nat.le_of_ble_eq_true rfl) ⟨by decide, by decide⟩ ⟨jroom hk.1 rfl, jroom hk.2 rfl⟩ (fun v2 w_1 pw_1 => ?_)
  obtain ⟨rfl, rfl⟩ := pw_1
  show JJ g w 19 [(2, .int 0), (1, .int 0), (0, .int 0)] [.int (((0 : Int32).toUInt32 >>> (((5 - (0 : Int32)) * 4).toUInt32 &&& Int32.toUInt32 31)).toInt32 &&& 15), .int 0]
  refine j_blk 4 [(2, .int 1), (1, .int (0 + (((0 : Int32).toUInt32 >>> (((5 - (0 : Int32)) * 4).toUInt32 &&& Int32.toUInt32 31)).toInt32 &&& 15))), (0, .int 0)] [] C k_c_CS_unpacked0_19_4 rfl ?_
  refine j_blk 7 [(2, .int 1), (1, .int (0 + (((0 : Int32).toUInt32 >>> (((5 - (0 : Int32)) * 4).toUInt32 &&& Int32.toUInt32 31)).toInt32 &&& 15))), (0, .int 0)] [.int 6, .int 1] C k_c_CS_unpacked0_4_2 rfl ?_
  refine j_icmp_ge (tgt := 27) C d_c_CS_unpacked0_7 (by decide) (fun c3 => absurd c3 (by decide)) (fun c3 => ?_)
  refine j_blk 16 [(2, .int 1), (1, .int (0 + (((0 : Int32).toUInt32 >>> (((5 - (0 : Int32)) * 4).toUInt32 &&& Int32.toUInt32 31)).toInt32 &&& 15))), (0, .int 0)] [.int 1, .int 0, .int ((0 + (((0 : Int32).toUInt32 >>> (((5 - (0 : Int32)) * 4).toUInt32 &&& Int32.toUInt32 31)).toInt32 &&& 15)) * 10)] C k_c_CS_unpacked0_10_5 rfl ?_
  refine j_callS (As := [.int 0, .int 1]) C Rm Y [.int ((0 + (((0 : Int32).toUInt32 >>> (((5 - (0 : Int32)) * 4).toUInt32 &&& Int32.toUInt32 31)).toInt32 &&& 15)) * 10)] (c_CS_digitAt l D B H0 w 0 1) cl_CS_86 d_c_CS_unpacked0_16 rfl rfl (Nat.le_of_ble_eq_true rfl) ⟨by decide, by decide⟩ ⟨jroom hk.1 rfl, jroom hk.2 rfl⟩ (fun v4 w_2 pw_2 => ?_)
  obtain ⟨rfl, rfl⟩ := pw_2
  show JJ g w 19 [(2, .int 1), (1, .int (0 + (((0 : Int32).toUInt32 >>> (((5 - (0 : Int32)) * 4).toUInt32 &&& Int32.toUInt32 31)).toInt32 &&& 15))), (0, .int 0)] [.int (((0 : Int32).toUInt32 >>> (((5 - (1 : Int32)) * 4).toUInt32 &&& Int32.toUInt32 31)).toInt32 &&& 15), .int ((0 + (((0 : Int32).toUInt32 >>> (((5 - (0 : Int32)) * 4).toUInt32 &&& Int32.toUInt32 31)).toInt32 &&& 15)) * 10)]
  refine j_blk 4 [(2, .int 2), (1, .int (((0 + (((0 : Int32).toUInt32 >>> (((5 - (0 : Int32)) * 4).toUInt32 &&& Int32.toUInt32 31)).toInt32 &&& 15)) * 10) + (((0 : Int32).toUInt32 >>> (((5 - (1 : Int32)) * 4).toUInt32 &&& Int32.toUInt32 31)).toInt32 &&& 15))), (0, .int 0)] [] C k_c_CS_unpacked0_19_4 rfl ?_
  refine j_blk 7 [(2, .int 2), (1, .int (((0 + (((0 : Int32).toUInt32 >>> (((5 - (0 : Int32)) * 4).toUInt32 &&& Int32.toUInt32 31)).toInt32 &&& 15)) * 10) + (((0 : Int32).toUInt32 >>> (((5 - (1 : Int32)) * 4).toUInt32 &&& Int32.toUInt32 31)).toInt32 &&& 15))), (0, .int 0)] [.int 6, .int 2] C k_c_CS_unpacked0_4_2 rfl ?_
  refine j_icmp_ge (tgt := 27) C d_c_CS_unpacked0_7 (by decide) (fun c5 => absurd c5 (by decide)) (fun c5 => ?_)
  refine j_blk 16 [(2, .int 2), (1, .int (((0 + (((0 : Int32).toUInt32 >>> (((5 - (0 : Int32)) * 4).toUInt32 &&& Int32.toUInt32 31)).toInt32 &&& 15)) * 10) + (((0 : Int32).toUInt32 >>> (((5 - (1 : Int32)) * 4).toUInt32 &&& Int32.toUInt32 31)).toInt32 &&& 15))), (0, .int 0)] [.int 2, .int 0, .int ((((0 + (((0 : Int32).toUInt32 >>> (((5 - (0 : Int32)) * 4).toUInt32 &&& Int32.toUInt32 31)).toInt32 &&& 15)) * 10) + (((0 : Int32).toUInt32 >>> (((5 - (1 : Int32)) * 4).toUInt32 &&& Int32.toUInt32 31)).toInt32 &&& 15)) * 10)] C k_c_CS_unpacked0_10_5 rfl ?_
  refine j_callS (As := [.int 0, .int 2]) C Rm Y [.int ((((0 + (((0 : Int32).toUInt32 >>> (((5 - (0 : Int32)) * 4).toUInt32 &&& Int32.toUInt32 31)).toInt32 &&& 15)) * 10) + (((0 : Int32).toUInt32 >>> (((5 - (1 : Int32)) * 4).toUInt32 &&& Int32.toUInt32 31)).toInt32 &&& 15)) * 10)] (c_CS_digitAt l D B H0 w 0 2) cl_CS_86 d_c_CS_unpacked0_16 rfl rfl (Nat.le_of_ble_eq_true rfl) ⟨by decide, by decide⟩ ⟨jroom hk.1 rfl, jroom hk.2 rfl⟩ (fun v6 w_3 pw_3 => ?_)
  obtain ⟨rfl, rfl⟩ := pw_3
  show JJ g w 19 [(2, .int 2), (1, .int (((0 + (((0 : Int32).toUInt32 >>> (((5 - (0 : Int32)) * 4).toUInt32 &&& Int32.toUInt32 31)).toInt32 &&& 15)) * 10) + (((0 : Int32).toUInt32 >>> (((5 - (1 : Int32)) * 4).toUInt32 &&& Int32.toUInt32 31)).toInt32 &&& 15))), (0, .int 0)] [.int (((0 : Int32).toUInt32 >>> (((5 - (2 : Int32)) * 4).toUInt32 &&& Int32.toUInt32 31)).toInt32 &&& 15), .int ((((0 + (((0 : Int32).toUInt32 >>> (((5 - (0 : Int32)) * 4).toUInt32 &&& Int32.toUInt32 31)).toInt32 &&& 15)) * 10) + (((0 : Int32).toUInt32 >>> (((5 - (1 : Int32)) * 4).toUInt32 &&& Int32.toUInt32 31)).toInt32 &&& 15)) * 10)]
  refine j_blk 4 [(2, .int 3), (1, .int (((((0 + (((0 : Int32).toUInt32 >>> (((5 - (0 : Int32)) * 4).toUInt32 &&& Int32.toUInt32 31)).toInt32 &&& 15)) * 10) + (((0 : Int32).toUInt32 >>> (((5 - (1 : Int32)) * 4).toUInt32 &&& Int32.toUInt32 31)).toInt32 &&& 15)) * 10) + (((0 : Int32).toUInt32 >>> (((5 - (2 : Int32)) * 4).toUInt32 &&& Int32.toUInt32 31)).toInt32 &&& 15))), (0, .int 0)] [] C k_c_CS_unpacked0_19_4 rfl ?_
  refine j_blk 7 [(2, .int 3), (1, .int (((((0 + (((0 : Int32).toUInt32 >>> (((5 - (0 : Int32)) * 4).toUInt32 &&& Int32.toUInt32 31)).toInt32 &&& 15)) * 10) + (((0 : Int32).toUInt32 >>> (((5 - (1 : Int32)) * 4).toUInt32 &&& Int32.toUInt32 31)).toInt32 &&& 15)) * 10) + (((0 : Int32).toUInt32 >>> (((5 - (2 : Int32)) * 4).toUInt32 &&& Int32.toUInt32 31)).toInt32 &&& 15))), (0, .int 0)] [.int 6, .int 3] C k_c_CS_unpacked0_4_2 rfl ?_
  refine j_icmp_ge (tgt := 27) C d_c_CS_unpacked0_7 (by decide) (fun c7 => absurd c7 (by decide)) (fun c7 => ?_)
  refine j_blk 16 [(2, .int 3), (1, .int (((((0 + (((0 : Int32).toUInt32 >>> (((5 - (0 : Int32)) * 4).toUInt32 &&& Int32.toUInt32 31)).toInt32 &&& 15)) * 10) + (((0 : Int32).toUInt32 >>> (((5 - (1 : Int32)) * 4).toUInt32 &&& Int32.toUInt32 31)).toInt32 &&& 15)) * 10) + (((0 : Int32).toUInt32 >>> (((5 - (2 : Int32)) * 4).toUInt32 &&& Int32.toUInt32 31)).toInt32 &&& 15))), (0, .int 0)] [.int 3, .int 0, .int ((((((0 + (((0 : Int32).toUInt32 >>> (((5 - (0 : Int32)) * 4).toUInt32 &&& Int32.toUInt32 31)).toInt32 &&& 15)) * 10) + (((0 : Int32).toUInt32 >>> (((5 - (1 : Int32)) * 4).toUInt32 &&& Int32.toUInt32 31)).toInt32 &&& 15)) * 10) + (((0 : Int32).toUInt32 >>> (((5 - (2 : Int32)) * 4).toUInt32 &&& Int32.toUInt32 31)).toInt32 &&& 15)) * 10)] C k_c_CS_unpacked0_10_5 rfl ?_
  refine j_callS (As := [.int 0, .int 3]) C Rm Y [.int ((((((0 + (((0 : Int32).toUInt32 >>> (((5 - (0 : Int32)) * 4).toUInt32 &&& Int32.toUInt32 31)).toInt32 &&& 15)) * 10) + (((0 : Int32).toUInt32 >>> (((5 - (1 : Int32)) * 4).toUInt32 &&& Int32.toUInt32 31)).toInt32 &&& 15)) * 10) + (((0 : Int32).toUInt32 >>> (((5 - (2 : Int32)) * 4).toUInt32 &&& Int32.toUInt32 31)).toInt32 &&& 15)) * 10)] (c_CS_digitAt l D B H0 w 0 3) cl_CS_86 d_c_CS_unpacked0_16 rfl rfl (Nat.le_of_ble_eq_true rfl) ⟨by decide, by decide⟩ ⟨jroom hk.1 rfl, jroom hk.2 rfl⟩ (fun v8 w_4 pw_4 => ?_)
  obtain ⟨rfl, rfl⟩ := pw_4
  show JJ g w 19 [(2, .int 3), (1, .int (((((0 + (((0 : Int32).toUInt32 >>> (((5 - (0 : Int32)) * 4).toUInt32 &&& Int32.toUInt32 31)).toInt32 &&& 15)) * 10) + (((0 : Int32).toUInt32 >>> (((5 - (1 : Int32)) * 4).toUInt32 &&& Int32.toUInt32 31)).toInt32 &&& 15)) * 10) + (((0 : Int32).toUInt32 >>> (((5 - (2 : Int32)) * 4).toUInt32 &&& Int32.toUInt32 31)).toInt32 &&& 15))), (0, .int 0)] [.int (((0 : Int32).toUInt32 >>> (((5 - (3 : Int32)) * 4).toUInt32 &&& Int32.toUInt32 31)).toInt32 &&& 15), .int ((((((0 + (((0 : Int32).toUInt32 >>> (((5 - (0 : Int32)) * 4).toUInt32 &&& Int32.toUInt32 31)).toInt32 &&& 15)) * 10) + (((0 : Int32).toUInt32 >>> (((5 - (1 : Int32)) * 4).toUInt32 &&& Int32.toUInt32 31)).toInt32 &&& 15)) * 10) + (((0 : Int32).toUInt32 >>> (((5 - (2 : Int32)) * 4).toUInt32 &&& Int32.toUInt32 31)).toInt32 &&& 15)) * 10)]
  refine j_blk 4 [(2, .int 4), (1, .int (((((((0 + (((0 : Int32).toUInt32 >>> (((5 - (0 : Int32)) * 4).toUInt32 &&& Int32.toUInt32 31)).toInt32 &&& 15)) * 10) + (((0 : Int32).toUInt32 >>> (((5 - (1 : Int32)) * 4).toUInt32 &&& Int32.toUInt32 31)).toInt32 &&& 15)) * 10) + (((0 : Int32).toUInt32 >>> (((5 - (2 : Int32)) * 4).toUInt32 &&& Int32.toUInt32 31)).toInt32 &&& 15)) * 10) + (((0 : Int32).toUInt32 >>> (((5 - (3 : Int32)) * 4).toUInt32 &&& Int32.toUInt32 31)).toInt32 &&& 15))), (0, .int 0)] [] C k_c_CS_unpacked0_19_4 rfl ?_
  refine j_blk 7 [(2, .int 4), (1, .int (((((((0 + (((0 : Int32).toUInt32 >>> (((5 - (0 : Int32)) * 4).toUInt32 &&& Int32.toUInt32 31)).toInt32 &&& 15)) * 10) + (((0 : Int32).toUInt32 >>> (((5 - (1 : Int32)) * 4).toUInt32 &&& Int32.toUInt32 31)).toInt32 &&& 15)) * 10) + (((0 : Int32).toUInt32 >>> (((5 - (2 : Int32)) * 4).toUInt32 &&& Int32.toUInt32 31)).toInt32 &&& 15)) * 10) + (((0 : Int32).toUInt32 >>> (((5 - (3 : Int32)) * 4).toUInt32 &&& Int32.toUInt32 31)).toInt32 &&& 15))), (0, .int 0)] [.int 6, .int 4] C k_c_CS_unpacked0_4_2 rfl ?_
  refine j_icmp_ge (tgt := 27) C d_c_CS_unpacked0_7 (by decide) (fun c9 => absurd c9 (by decide)) (fun c9 => ?_)
  refine j_blk 16 [(2, .int 4), (1, .int (((((((0 + (((0 : Int32).toUInt32 >>> (((5 - (0 : Int32)) * 4).toUInt32 &&& Int32.toUInt32 31)).toInt32 &&& 15)) * 10) + (((0 : Int32).toUInt32 >>> (((5 - (1 : Int32)) * 4).toUInt32 &&& Int32.toUInt32 31)).toInt32 &&& 15)) * 10) + (((0 : Int32).toUInt32 >>> (((5 - (2 : Int32)) * 4).toUInt32 &&& Int32.toUInt32 31)).toInt32 &&& 15)) * 10) + (((0 : Int32).toUInt32 >>> (((5 - (3 : Int32)) * 4).toUInt32 &&& Int32.toUInt32 31)).toInt32 &&& 15))), (0, .int 0)] [.int 4, .int 0, .int ((((((((0 + (((0 : Int32).toUInt32 >>> (((5 - (0 : Int32)) * 4).toUInt32 &&& Int32.toUInt32 31)).toInt32 &&& 15)) * 10) + (((0 : Int32).toUInt32 >>> (((5 - (1 : Int32)) * 4).toUInt32 &&& Int32.toUInt32 31)).toInt32 &&& 15)) * 10) + (((0 : Int32).toUInt32 >>> (((5 - (2 : Int32)) * 4).toUInt32 &&& Int32.toUInt32 31)).toInt32 &&& 15)) * 10) + (((0 : Int32).toUInt32 >>> (((5 - (3 : Int32)) * 4).toUInt32 &&& Int32.toUInt32 31)).toInt32 &&& 15)) * 10)] C k_c_CS_unpacked0_10_5 rfl ?_
  refine j_callS (As := [.int 0, .int 4]) C Rm Y [.int ((((((((0 + (((0 : Int32).toUInt32 >>> (((5 - (0 : Int32)) * 4).toUInt32 &&& Int32.toUInt32 31)).toInt32 &&& 15)) * 10) + (((0 : Int32).toUInt32 >>> (((5 - (1 : Int32)) * 4).toUInt32 &&& Int32.toUInt32 31)).toInt32 &&& 15)) * 10) + (((0 : Int32).toUInt32 >>> (((5 - (2 : Int32)) * 4).toUInt32 &&& Int32.toUInt32 31)).toInt32 &&& 15)) * 10) + (((0 : Int32).toUInt32 >>> (((5 - (3 : Int32)) * 4).toUInt32 &&& Int32.toUInt32 31)).toInt32 &&& 15)) * 10)] (c_CS_digitAt l D B H0 w 0 4) cl_CS_86 d_c_CS_unpacked0_16 rfl rfl (Nat.le_of_ble_eq_true rfl) ⟨by decide, by decide⟩ ⟨jroom hk.1 rfl, jroom hk.2 rfl⟩ (fun v10 w_5 pw_5 => ?_)
  obtain ⟨rfl, rfl⟩ := pw_5
  show JJ g w 19 [(2, .int 4), (1, .int (((((((0 + (((0 : Int32).toUInt32 >>> (((5 - (0 : Int32)) * 4).toUInt32 &&& Int32.toUInt32 31)).toInt32 &&& 15)) * 10) + (((0 : Int32).toUInt32 >>> (((5 - (1 : Int32)) * 4).toUInt32 &&& Int32.toUInt32 31)).toInt32 &&& 15)) * 10) + (((0 : Int32).toUInt32 >>> (((5 - (2 : Int32)) * 4).toUInt32 &&& Int32.toUInt32 31)).toInt32 &&& 15)) * 10) + (((0 : Int32).toUInt32 >>> (((5 - (3 : Int32)) * 4).toUInt32 &&& Int32.toUInt32 31)).toInt32 &&& 15))), (0, .int 0)] [.int (((0 : Int32).toUInt32 >>> (((5 - (4 : Int32)) * 4).toUInt32 &&& Int32.toUInt32 31)).toInt32 &&& 15), .int ((((((((0 + (((0 : Int32).toUInt32 >>> (((5 - (0 : Int32)) * 4).toUInt32 &&& Int32.toUInt32 31)).toInt32 &&& 15)) * 10) + (((0 : Int32).toUInt32 >>> (((5 - (1 : Int32)) * 4).toUInt32 &&& Int32.toUInt32 31)).toInt32 &&& 15)) * 10) + (((0 : Int32).toUInt32 >>> (((5 - (2 : Int32)) * 4).toUInt32 &&& Int32.toUInt32 31)).toInt32 &&& 15)) * 10) + (((0 : Int32).toUInt32 >>> (((5 - (3 : Int32)) * 4).toUInt32 &&& Int32.toUInt32 31)).toInt32 &&& 15)) * 10)]
  refine j_blk 4 [(2, .int 5), (1, .int (((((((((0 + (((0 : Int32).toUInt32 >>> (((5 - (0 : Int32)) * 4).toUInt32 &&& Int32.toUInt32 31)).toInt32 &&& 15)) * 10) + (((0 : Int32).toUInt32 >>> (((5 - (1 : Int32)) * 4).toUInt32 &&& Int32.toUInt32 31)).toInt32 &&& 15)) * 10) + (((0 : Int32).toUInt32 >>> (((5 - (2 : Int32)) * 4).toUInt32 &&& Int32.toUInt32 31)).toInt32 &&& 15)) * 10) + (((0 : Int32).toUInt32 >>> (((5 - (3 : Int32)) * 4).toUInt32 &&& Int32.toUInt32 31)).toInt32 &&& 15)) * 10) + (((0 : Int32).toUInt32 >>> (((5 - (4 : Int32)) * 4).toUInt32 &&& Int32.toUInt32 31)).toInt32 &&& 15))), (0, .int 0)] [] C k_c_CS_unpacked0_19_4 rfl ?_
  refine j_blk 7 [(2, .int 5), (1, .int (((((((((0 + (((0 : Int32).toUInt32 >>> (((5 - (0 : Int32)) * 4).toUInt32 &&& Int32.toUInt32 31)).toInt32 &&& 15)) * 10) + (((0 : Int32).toUInt32 >>> (((5 - (1 : Int32)) * 4).toUInt32 &&& Int32.toUInt32 31)).toInt32 &&& 15)) * 10) + (((0 : Int32).toUInt32 >>> (((5 - (2 : Int32)) * 4).toUInt32 &&& Int32.toUInt32 31)).toInt32 &&& 15)) * 10) + (((0 : Int32).toUInt32 >>> (((5 - (3 : Int32)) * 4).toUInt32 &&& Int32.toUInt32 31)).toInt32 &&& 15)) * 10) + (((0 : Int32).toUInt32 >>> (((5 - (4 : Int32)) * 4).toUInt32 &&& Int32.toUInt32 31)).toInt32 &&& 15))), (0, .int 0)] [.int 6, .int 5] C k_c_CS_unpacked0_4_2 rfl ?_
  refine j_icmp_ge (tgt := 27) C d_c_CS_unpacked0_7 (by decide) (fun c11 => absurd c11 (by decide)) (fun c11 => ?_)
  refine j_blk 16 [(2, .int 5), (1, .int (((((((((0 + (((0 : Int32).toUInt32 >>> (((5 - (0 : Int32)) * 4).toUInt32 &&& Int32.toUInt32 31)).toInt32 &&& 15)) * 10) + (((0 : Int32).toUInt32 >>> (((5 - (1 : Int32)) * 4).toUInt32 &&& Int32.toUInt32 31)).toInt32 &&& 15)) * 10) + (((0 : Int32).toUInt32 >>> (((5 - (2 : Int32)) * 4).toUInt32 &&& Int32.toUInt32 31)).toInt32 &&& 15)) * 10) + (((0 : Int32).toUInt32 >>> (((5 - (3 : Int32)) * 4).toUInt32 &&& Int32.toUInt32 31)).toInt32 &&& 15)) * 10) + (((0 : Int32).toUInt32 >>> (((5 - (4 : Int32)) * 4).toUInt32 &&& Int32.toUInt32 31)).toInt32 &&& 15))), (0, .int 0)] [.int 5, .int 0, .int ((((((((((0 + (((0 : Int32).toUInt32 >>> (((5 - (0 : Int32)) * 4).toUInt32 &&& Int32.toUInt32 31)).toInt32 &&& 15)) * 10) + (((0 : Int32).toUInt32 >>> (((5 - (1 : Int32)) * 4).toUInt32 &&& Int32.toUInt32 31)).toInt32 &&& 15)) * 10) + (((0 : Int32).toUInt32 >>> (((5 - (2 : Int32)) * 4).toUInt32 &&& Int32.toUInt32 31)).toInt32 &&& 15)) * 10) + (((0 : Int32).toUInt32 >>> (((5 - (3 : Int32)) * 4).toUInt32 &&& Int32.toUInt32 31)).toInt32 &&& 15)) * 10) + (((0 : Int32).toUInt32 >>> (((5 - (4 : Int32)) * 4).toUInt32 &&& Int32.toUInt32 31)).toInt32 &&& 15)) * 10)] C k_c_CS_unpacked0_10_5 rfl ?_
  refine j_callS (As := [.int 0, .int 5]) C Rm Y [.int ((((((((((0 + (((0 : Int32).toUInt32 >>> (((5 - (0 : Int32)) * 4).toUInt32 &&& Int32.toUInt32 31)).toInt32 &&& 15)) * 10) + (((0 : Int32).toUInt32 >>> (((5 - (1 : Int32)) * 4).toUInt32 &&& Int32.toUInt32 31)).toInt32 &&& 15)) * 10) + (((0 : Int32).toUInt32 >>> (((5 - (2 : Int32)) * 4).toUInt32 &&& Int32.toUInt32 31)).toInt32 &&& 15)) * 10) + (((0 : Int32).toUInt32 >>> (((5 - (3 : Int32)) * 4).toUInt32 &&& Int32.toUInt32 31)).toInt32 &&& 15)) * 10) + (((0 : Int32).toUInt32 >>> (((5 - (4 : Int32)) * 4).toUInt32 &&& Int32.toUInt32 31)).toInt32 &&& 15)) * 10)] (c_CS_digitAt l D B H0 w 0 5) cl_CS_86 d_c_CS_unpacked0_16 rfl rfl (Nat.le_of_ble_eq_true rfl) ⟨by decide, by decide⟩ ⟨jroom hk.1 rfl, jroom hk.2 rfl⟩ (fun v12 w_6 pw_6 => ?_)
  obtain ⟨rfl, rfl⟩ := pw_6
  show JJ g w 19 [(2, .int 5), (1, .int (((((((((0 + (((0 : Int32).toUInt32 >>> (((5 - (0 : Int32)) * 4).toUInt32 &&& Int32.toUInt32 31)).toInt32 &&& 15)) * 10) + (((0 : Int32).toUInt32 >>> (((5 - (1 : Int32)) * 4).toUInt32 &&& Int32.toUInt32 31)).toInt32 &&& 15)) * 10) + (((0 : Int32).toUInt32 >>> (((5 - (2 : Int32)) * 4).toUInt32 &&& Int32.toUInt32 31)).toInt32 &&& 15)) * 10) + (((0 : Int32).toUInt32 >>> (((5 - (3 : Int32)) * 4).toUInt32 &&& Int32.toUInt32 31)).toInt32 &&& 15)) * 10) + (((0 : Int32).toUInt32 >>> (((5 - (4 : Int32)) * 4).toUInt32 &&& Int32.toUInt32 31)).toInt32 &&& 15))), (0, .int 0)] [.int (((0 : Int32).toUInt32 >>> (((5 - (5 : Int32)) * 4).toUInt32 &&& Int32.toUInt32 31)).toInt32 &&& 15), .int ((((((((((0 + (((0 : Int32).toUInt32 >>> (((5 - (0 : Int32)) * 4).toUInt32 &&& Int32.toUInt32 31)).toInt32 &&& 15)) * 10) + (((0 : Int32).toUInt32 >>> (((5 - (1 : Int32)) * 4).toUInt32 &&& Int32.toUInt32 31)).toInt32 &&& 15)) * 10) + (((0 : Int32).toUInt32 >>> (((5 - (2 : Int32)) * 4).toUInt32 &&& Int32.toUInt32 31)).toInt32 &&& 15)) * 10) + (((0 : Int32).toUInt32 >>> (((5 - (3 : Int32)) * 4).toUInt32 &&& Int32.toUInt32 31)).toInt32 &&& 15)) * 10) + (((0 : Int32).toUInt32 >>> (((5 - (4 : Int32)) * 4).toUInt32 &&& Int32.toUInt32 31)).toInt32 &&& 15)) * 10)]
  refine j_blk 4 [(2, .int 6), (1, .int (((((((((((0 + (((0 : Int32).toUInt32 >>> (((5 - (0 : Int32)) * 4).toUInt32 &&& Int32.toUInt32 31)).toInt32 &&& 15)) * 10) + (((0 : Int32).toUInt32 >>> (((5 - (1 : Int32)) * 4).toUInt32 &&& Int32.toUInt32 31)).toInt32 &&& 15)) * 10) + (((0 : Int32).toUInt32 >>> (((5 - (2 : Int32)) * 4).toUInt32 &&& Int32.toUInt32 31)).toInt32 &&& 15)) * 10) + (((0 : Int32).toUInt32 >>> (((5 - (3 : Int32)) * 4).toUInt32 &&& Int32.toUInt32 31)).toInt32 &&& 15)) * 10) + (((0 : Int32).toUInt32 >>> (((5 - (4 : Int32)) * 4).toUInt32 &&& Int32.toUInt32 31)).toInt32 &&& 15)) * 10) + (((0 : Int32).toUInt32 >>> (((5 - (5 : Int32)) * 4).toUInt32 &&& Int32.toUInt32 31)).toInt32 &&& 15))), (0, .int 0)] [] C k_c_CS_unpacked0_19_4 rfl ?_
  refine j_blk 7 [(2, .int 6), (1, .int (((((((((((0 + (((0 : Int32).toUInt32 >>> (((5 - (0 : Int32)) * 4).toUInt32 &&& Int32.toUInt32 31)).toInt32 &&& 15)) * 10) + (((0 : Int32).toUInt32 >>> (((5 - (1 : Int32)) * 4).toUInt32 &&& Int32.toUInt32 31)).toInt32 &&& 15)) * 10) + (((0 : Int32).toUInt32 >>> (((5 - (2 : Int32)) * 4).toUInt32 &&& Int32.toUInt32 31)).toInt32 &&& 15)) * 10) + (((0 : Int32).toUInt32 >>> (((5 - (3 : Int32)) * 4).toUInt32 &&& Int32.toUInt32 31)).toInt32 &&& 15)) * 10) + (((0 : Int32).toUInt32 >>> (((5 - (4 : Int32)) * 4).toUInt32 &&& Int32.toUInt32 31)).toInt32 &&& 15)) * 10) + (((0 : Int32).toUInt32 >>> (((5 - (5 : Int32)) * 4).toUInt32 &&& Int32.toUInt32 31)).toInt32 &&& 15))), (0, .int 0)] [.int 6, .int 6] C k_c_CS_unpacked0_4_2 rfl ?_
  refine j_icmp_ge (tgt := 27) C d_c_CS_unpacked0_7 (by decide) (fun c13 => ?_) (fun c13 => absurd (by decide) c13)
  refine j_blk 28 [(2, .int 6), (1, .int (((((((((((0 + (((0 : Int32).toUInt32 >>> (((5 - (0 : Int32)) * 4).toUInt32 &&& Int32.toUInt32 31)).toInt32 &&& 15)) * 10) + (((0 : Int32).toUInt32 >>> (((5 - (1 : Int32)) * 4).toUInt32 &&& Int32.toUInt32 31)).toInt32 &&& 15)) * 10) + (((0 : Int32).toUInt32 >>> (((5 - (2 : Int32)) * 4).toUInt32 &&& Int32.toUInt32 31)).toInt32 &&& 15)) * 10) + (((0 : Int32).toUInt32 >>> (((5 - (3 : Int32)) * 4).toUInt32 &&& Int32.toUInt32 31)).toInt32 &&& 15)) * 10) + (((0 : Int32).toUInt32 >>> (((5 - (4 : Int32)) * 4).toUInt32 &&& Int32.toUInt32 31)).toInt32 &&& 15)) * 10) + (((0 : Int32).toUInt32 >>> (((5 - (5 : Int32)) * 4).toUInt32 &&& Int32.toUInt32 31)).toInt32 &&& 15))), (0, .int 0)] [.int (((((((((((0 + (((0 : Int32).toUInt32 >>> (((5 - (0 : Int32)) * 4).toUInt32 &&& Int32.toUInt32 31)).toInt32 &&& 15)) * 10) + (((0 : Int32).toUInt32 >>> (((5 - (1 : Int32)) * 4).toUInt32 &&& Int32.toUInt32 31)).toInt32 &&& 15)) * 10) + (((0 : Int32).toUInt32 >>> (((5 - (2 : Int32)) * 4).toUInt32 &&& Int32.toUInt32 31)).toInt32 &&& 15)) * 10) + (((0 : Int32).toUInt32 >>> (((5 - (3 : Int32)) * 4).toUInt32 &&& Int32.toUInt32 31)).toInt32 &&& 15)) * 10) + (((0 : Int32).toUInt32 >>> (((5 - (4 : Int32)) * 4).toUInt32 &&& Int32.toUInt32 31)).toInt32 &&& 15)) * 10) + (((0 : Int32).toUInt32 >>> (((5 - (5 : Int32)) * 4).toUInt32 &&& Int32.toUInt32 31)).toInt32 &&& 15))] C k_c_CS_unpacked0_27_1 rfl ?_
  exact j_iret C Rm E d_c_CS_unpacked0_28 ⟨congrArg (fun z => some (Value.int z)) (by decide +kernel), rfl⟩ (jbnd hk.1 rfl) (jbnd hk.2 rfl)

theorem k_c_CS_count_0_1 : sblk b_CS_count [(0, .iload_n 1, .null)] := sblk_of (by decide +kernel)
theorem d_c_CS_count_1 : decode b_CS_count 1 = .ok (.tableswitch 45 0 2 #[27, 32, 37], 27) := by decide +kernel
theorem k_c_CS_count_28_1 : sblk b_CS_count [(28, .aload_n 0, .null)] := sblk_of (by decide +kernel)
theorem d_c_CS_count_29 : decode b_CS_count 29 = .ok (.getfield 59, 3) := by decide +kernel
theorem d_c_CS_count_32 : decode b_CS_count 32 = .ok (.ireturn, 1) := by decide +kernel
theorem k_c_CS_count_33_1 : sblk b_CS_count [(33, .aload_n 0, .null)] := sblk_of (by decide +kernel)
theorem d_c_CS_count_34 : decode b_CS_count 34 = .ok (.getfield 51, 3) := by decide +kernel
theorem d_c_CS_count_37 : decode b_CS_count 37 = .ok (.ireturn, 1) := by decide +kernel
theorem k_c_CS_count_38_1 : sblk b_CS_count [(38, .aload_n 0, .null)] := sblk_of (by decide +kernel)
theorem d_c_CS_count_39 : decode b_CS_count 39 = .ok (.getfield 83, 3) := by decide +kernel
theorem d_c_CS_count_42 : decode b_CS_count 42 = .ok (.invokestatic 176, 3) := by decide +kernel
theorem d_c_CS_count_45 : decode b_CS_count 45 = .ok (.ireturn, 1) := by decide +kernel
theorem k_c_CS_count_46_1 : sblk b_CS_count [(46, .bipush (-2), .int (-2))] := sblk_of (by decide +kernel)
theorem d_c_CS_count_48 : decode b_CS_count 48 = .ok (.ireturn, 1) := by decide +kernel
set_option maxHeartbeats 40000000 in
set_option maxRecDepth 100000 in
theorem c_CS_count (l : Launch) (D : va_G) (B : Nat) (H0 : Heap) (w : jW) (x : Nat) (V : Nat → Value) (k : Int32)  (hx : w.1 x = some (.inr (8, V))) (h1 : V 1 = .int 0) (h3 : V 3 = .int 0) (h4 : V 4 = .int 0)  (q : Nat) (xq : x < q) : jMet l D B H0 y_CS_count b_CS_count 2 (some .int) 3 160 0 0 [.ref x, .int k] w (fun v w9 => v = some (.int (an_count k)) ∧ jfr (fun b => q ≤ b) w w9) := by
  refine j_met (by decide) (Nat.le_of_ble_eq_true rfl) (fun g C Rm Y E => ?_)
  have hk := jkz w
  have fr0 : jfr (fun b => q ≤ b) w w := jfr0
  show JJ g w 0 [(0, .ref x), (1, .int k)] []
  refine j_blk 1 [(0, .ref x), (1, .int k)] [.int k] C k_c_CS_count_0_1 rfl ?_
  by_cases c1 : k = 0
  · rw [show Value.int k = Value.int 0 from congrArg _ c1]
    refine j_tabIn (tgt := 28) C d_c_CS_count_1 (by decide) (by decide) rfl (by decide) ?_
    refine j_blk 29 [(0, .ref x), (1, .int 0)] [.ref x] C k_c_CS_count_28_1 rfl ?_
    refine j_get C d_c_CS_count_29 fg_CS_59 hx h3 ?_
    exact j_iret C Rm E d_c_CS_count_32 ⟨jip (by (try simp only [jlt, jle, jeq, kt_0, kt_1, kt_2, kt_3, kt_4, kt_5, kt_6, kt_7, kt_8, kt_9, kt_10, kt_11, kt_12, kt_13, kt_15, kt_16, kt_19, kt_20, kt_24, kt_25, kt_31, kt_32, kt_40, kt_50, kt_60, kt_63, kt_100, kt_120, kt_255, kt_300, kt_999999, kt_1000000, kt_m1, kt_m2, kt_m3, kt_m4, kt_m6, kt_m7, kt_m11, kt_m12, kt_m13, kt_m14, kt_m100] at c1); show 0 ≤ k.toInt ∧ k.toInt ≤ 2; (try simp only [kt_0, kt_1, kt_2, kt_3, kt_4, kt_5, kt_6, kt_7, kt_8, kt_9, kt_10, kt_11, kt_12, kt_13, kt_15, kt_16, kt_19, kt_20, kt_24, kt_25, kt_31, kt_32, kt_40, kt_50, kt_60, kt_63, kt_100, kt_120, kt_255, kt_300, kt_999999, kt_1000000, kt_m1, kt_m2, kt_m3, kt_m4, kt_m6, kt_m7, kt_m11, kt_m12, kt_m13, kt_m14, kt_m100]); omega), fr0⟩ (jbnd hk.1 rfl) (jbnd hk.2 rfl)
  by_cases c2 : k = 1
  · rw [show Value.int k = Value.int 1 from congrArg _ c2]
    refine j_tabIn (tgt := 33) C d_c_CS_count_1 (by decide) (by decide) rfl (by decide) ?_
    refine j_blk 34 [(0, .ref x), (1, .int 1)] [.ref x] C k_c_CS_count_33_1 rfl ?_
    refine j_get C d_c_CS_count_34 fg_CS_51 hx h1 ?_
    exact j_iret C Rm E d_c_CS_count_37 ⟨jip (by (try simp only [jlt, jle, jeq, kt_0, kt_1, kt_2, kt_3, kt_4, kt_5, kt_6, kt_7, kt_8, kt_9, kt_10, kt_11, kt_12, kt_13, kt_15, kt_16, kt_19, kt_20, kt_24, kt_25, kt_31, kt_32, kt_40, kt_50, kt_60, kt_63, kt_100, kt_120, kt_255, kt_300, kt_999999, kt_1000000, kt_m1, kt_m2, kt_m3, kt_m4, kt_m6, kt_m7, kt_m11, kt_m12, kt_m13, kt_m14, kt_m100] at c2); show 0 ≤ k.toInt ∧ k.toInt ≤ 2; (try simp only [kt_0, kt_1, kt_2, kt_3, kt_4, kt_5, kt_6, kt_7, kt_8, kt_9, kt_10, kt_11, kt_12, kt_13, kt_15, kt_16, kt_19, kt_20, kt_24, kt_25, kt_31, kt_32, kt_40, kt_50, kt_60, kt_63, kt_100, kt_120, kt_255, kt_300, kt_999999, kt_1000000, kt_m1, kt_m2, kt_m3, kt_m4, kt_m6, kt_m7, kt_m11, kt_m12, kt_m13, kt_m14, kt_m100]); omega), fr0⟩ (jbnd hk.1 rfl) (jbnd hk.2 rfl)
  by_cases c3 : k = 2
  · rw [show Value.int k = Value.int 2 from congrArg _ c3]
    refine j_tabIn (tgt := 38) C d_c_CS_count_1 (by decide) (by decide) rfl (by decide) ?_
    refine j_blk 39 [(0, .ref x), (1, .int 2)] [.ref x] C k_c_CS_count_38_1 rfl ?_
    refine j_get C d_c_CS_count_39 fg_CS_83 hx h4 ?_
    refine j_callS (As := [.int 0]) C Rm Y [] (c_CS_unpacked0 l D B H0 w) cl_CS_176 d_c_CS_count_42 rfl rfl (Nat.le_of_ble_eq_true rfl) ⟨by decide, by decide⟩ ⟨jroom hk.1 rfl, jroom hk.2 rfl⟩ (fun v4 w_1 pw_1 => ?_)
    obtain ⟨rfl, rfl⟩ := pw_1
    show JJ g w 45 [(0, .ref x), (1, .int 2)] [.int 0]
    exact j_iret C Rm E d_c_CS_count_45 ⟨jip (by (try simp only [jlt, jle, jeq, kt_0, kt_1, kt_2, kt_3, kt_4, kt_5, kt_6, kt_7, kt_8, kt_9, kt_10, kt_11, kt_12, kt_13, kt_15, kt_16, kt_19, kt_20, kt_24, kt_25, kt_31, kt_32, kt_40, kt_50, kt_60, kt_63, kt_100, kt_120, kt_255, kt_300, kt_999999, kt_1000000, kt_m1, kt_m2, kt_m3, kt_m4, kt_m6, kt_m7, kt_m11, kt_m12, kt_m13, kt_m14, kt_m100] at c3); show 0 ≤ k.toInt ∧ k.toInt ≤ 2; (try simp only [kt_0, kt_1, kt_2, kt_3, kt_4, kt_5, kt_6, kt_7, kt_8, kt_9, kt_10, kt_11, kt_12, kt_13, kt_15, kt_16, kt_19, kt_20, kt_24, kt_25, kt_31, kt_32, kt_40, kt_50, kt_60, kt_63, kt_100, kt_120, kt_255, kt_300, kt_999999, kt_1000000, kt_m1, kt_m2, kt_m3, kt_m4, kt_m6, kt_m7, kt_m11, kt_m12, kt_m13, kt_m14, kt_m100]); omega), fr0⟩ (jbnd hk.1 rfl) (jbnd hk.2 rfl)
  refine j_tabOut (tgt := 46) C d_c_CS_count_1 (by have zc1 : ¬ Int32.toInt k = 0 := fun q => c1 (jeq.mpr q); have zc2 : ¬ Int32.toInt k = 1 := fun q => c2 (jeq.mpr q); have zc3 : ¬ Int32.toInt k = 2 := fun q => c3 (jeq.mpr q); omega) (by decide) ?_
  refine j_blk 48 [(0, .ref x), (1, .int k)] [.int (-2)] C k_c_CS_count_46_1 rfl ?_
  exact j_iret C Rm E d_c_CS_count_48 ⟨jin_ (fun hq => absurd hq (by (try simp only [jlt, jle, jeq, kt_0, kt_1, kt_2, kt_3, kt_4, kt_5, kt_6, kt_7, kt_8, kt_9, kt_10, kt_11, kt_12, kt_13, kt_15, kt_16, kt_19, kt_20, kt_24, kt_25, kt_31, kt_32, kt_40, kt_50, kt_60, kt_63, kt_100, kt_120, kt_255, kt_300, kt_999999, kt_1000000, kt_m1, kt_m2, kt_m3, kt_m4, kt_m6, kt_m7, kt_m11, kt_m12, kt_m13, kt_m14, kt_m100] at c1); (try simp only [jlt, jle, jeq, kt_0, kt_1, kt_2, kt_3, kt_4, kt_5, kt_6, kt_7, kt_8, kt_9, kt_10, kt_11, kt_12, kt_13, kt_15, kt_16, kt_19, kt_20, kt_24, kt_25, kt_31, kt_32, kt_40, kt_50, kt_60, kt_63, kt_100, kt_120, kt_255, kt_300, kt_999999, kt_1000000, kt_m1, kt_m2, kt_m3, kt_m4, kt_m6, kt_m7, kt_m11, kt_m12, kt_m13, kt_m14, kt_m100] at c2); (try simp only [jlt, jle, jeq, kt_0, kt_1, kt_2, kt_3, kt_4, kt_5, kt_6, kt_7, kt_8, kt_9, kt_10, kt_11, kt_12, kt_13, kt_15, kt_16, kt_19, kt_20, kt_24, kt_25, kt_31, kt_32, kt_40, kt_50, kt_60, kt_63, kt_100, kt_120, kt_255, kt_300, kt_999999, kt_1000000, kt_m1, kt_m2, kt_m3, kt_m4, kt_m6, kt_m7, kt_m11, kt_m12, kt_m13, kt_m14, kt_m100] at c3); (try simp only [kt_0, kt_1, kt_2, kt_3, kt_4, kt_5, kt_6, kt_7, kt_8, kt_9, kt_10, kt_11, kt_12, kt_13, kt_15, kt_16, kt_19, kt_20, kt_24, kt_25, kt_31, kt_32, kt_40, kt_50, kt_60, kt_63, kt_100, kt_120, kt_255, kt_300, kt_999999, kt_1000000, kt_m1, kt_m2, kt_m3, kt_m4, kt_m6, kt_m7, kt_m11, kt_m12, kt_m13, kt_m14, kt_m100]); omega)), fr0⟩ (jbnd hk.1 rfl) (jbnd hk.2 rfl)

theorem k_c_Mo_startState0_0_6 : sblk b_Mo_startState [(0, .iconst 0, .int 0), (1, .istore_n 1, .null), (2, .iconst 0, .int 0), (3, .istore_n 2, .null), (4, .iload_n 2, .null), (5, .bipush 6, .int 6)] := sblk_of (by decide +kernel)
theorem d_c_Mo_startState0_7 : decode b_Mo_startState 7 = .ok (.if_icmp .ge 21, 3) := by decide +kernel
theorem k_c_Mo_startState0_10_4 : sblk b_Mo_startState [(10, .bipush 10, .int 10), (12, .iload_n 1, .null), (13, .imul, .null), (14, .aload_n 0, .null)] := sblk_of (by decide +kernel)
theorem d_c_Mo_startState0_15 : decode b_Mo_startState 15 = .ok (.getfield 60, 3) := by decide +kernel
theorem k_c_Mo_startState0_18_1 : sblk b_Mo_startState [(18, .iload_n 2, .null)] := sblk_of (by decide +kernel)
theorem d_c_Mo_startState0_19 : decode b_Mo_startState 19 = .ok (.iaload, 1) := by decide +kernel
theorem k_c_Mo_startState0_20_4 : sblk b_Mo_startState [(20, .iadd, .null), (21, .istore_n 1, .null), (22, .iinc 2 1, .int 1), (25, .goto (-21), .retAddr 4)] := sblk_of (by decide +kernel)
theorem k_c_Mo_startState0_4_2 : sblk b_Mo_startState [(4, .iload_n 2, .null), (5, .bipush 6, .int 6)] := sblk_of (by decide +kernel)
theorem k_c_Mo_startState0_28_1 : sblk b_Mo_startState [(28, .iload_n 1, .null)] := sblk_of (by decide +kernel)
theorem d_c_Mo_startState0_29 : decode b_Mo_startState 29 = .ok (.ireturn, 1) := by decide +kernel
set_option maxHeartbeats 40000000 in
set_option maxRecDepth 100000 in
theorem c_Mo_startState0 (l : Launch) (D : va_G) (B : Nat) (H0 : Heap) (w : jW) (x st : Nat) (V : Nat → Value) (hx : w.1 x = some (.inr (10, V))) (h17 : V 17 = .ref st) (hst : w.1 st = some (aI D 6 (fun _ => 0))) : jMet l D B H0 y_Mo_startState b_Mo_startState 3 (some .int) 1 40 0 0 [.ref x] w (fun v w9 => v = some (.int 0) ∧ w = w9) := by
  refine j_met (by decide) (Nat.le_of_ble_eq_true rfl) (fun g C Rm Y E => ?_)
  have hk := jkz w
  show JJ g w 0 [(0, .ref x)] []
  refine j_blk 7 [(2, .int 0), (1, .int 0), (0, .ref x)] [.int 6, .int 0] C k_c_Mo_startState0_0_6 rfl ?_
  refine j_icmp_ge (tgt := 28) C d_c_Mo_startState0_7 (by decide) (fun c1 => absurd c1 (by decide)) (fun c1 => ?_)
  refine j_blk 15 [(2, .int 0), (1, .int 0), (0, .ref x)] [.ref x, .int 0] C k_c_Mo_startState0_10_4 rfl ?_
  refine j_get C d_c_Mo_startState0_15 fg_Mo_60 hx h17 ?_
  refine j_blk 19 [(2, .int 0), (1, .int 0), (0, .ref x)] [.int 0, .ref st, .int 0] C k_c_Mo_startState0_18_1 rfl ?_
  refine j_iald C d_c_Mo_startState0_19 hst (jin (by decide) (by decide)) ?_
  refine j_blk 4 [(2, .int 1), (1, .int 0), (0, .ref x)] [] C k_c_Mo_startState0_20_4 rfl ?_
  refine j_blk 7 [(2, .int 1), (1, .int 0), (0, .ref x)] [.int 6, .int 1] C k_c_Mo_startState0_4_2 rfl ?_
  refine j_icmp_ge (tgt := 28) C d_c_Mo_startState0_7 (by decide) (fun c2 => absurd c2 (by decide)) (fun c2 => ?_)
  refine j_blk 15 [(2, .int 1), (1, .int 0), (0, .ref x)] [.ref x, .int 0] C k_c_Mo_startState0_10_4 rfl ?_
  refine j_get C d_c_Mo_startState0_15 fg_Mo_60 hx h17 ?_
  refine j_blk 19 [(2, .int 1), (1, .int 0), (0, .ref x)] [.int 1, .ref st, .int 0] C k_c_Mo_startState0_18_1 rfl ?_
  refine j_iald C d_c_Mo_startState0_19 hst (jin (by decide) (by decide)) ?_
  refine j_blk 4 [(2, .int 2), (1, .int 0), (0, .ref x)] [] C k_c_Mo_startState0_20_4 rfl ?_
  refine j_blk 7 [(2, .int 2), (1, .int 0), (0, .ref x)] [.int 6, .int 2] C k_c_Mo_startState0_4_2 rfl ?_
  refine j_icmp_ge (tgt := 28) C d_c_Mo_startState0_7 (by decide) (fun c3 => absurd c3 (by decide)) (fun c3 => ?_)
  refine j_blk 15 [(2, .int 2), (1, .int 0), (0, .ref x)] [.ref x, .int 0] C k_c_Mo_startState0_10_4 rfl ?_
  refine j_get C d_c_Mo_startState0_15 fg_Mo_60 hx h17 ?_
  refine j_blk 19 [(2, .int 2), (1, .int 0), (0, .ref x)] [.int 2, .ref st, .int 0] C k_c_Mo_startState0_18_1 rfl ?_
  refine j_iald C d_c_Mo_startState0_19 hst (jin (by decide) (by decide)) ?_
  refine j_blk 4 [(2, .int 3), (1, .int 0), (0, .ref x)] [] C k_c_Mo_startState0_20_4 rfl ?_
  refine j_blk 7 [(2, .int 3), (1, .int 0), (0, .ref x)] [.int 6, .int 3] C k_c_Mo_startState0_4_2 rfl ?_
  refine j_icmp_ge (tgt := 28) C d_c_Mo_startState0_7 (by decide) (fun c4 => absurd c4 (by decide)) (fun c4 => ?_)
  refine j_blk 15 [(2, .int 3), (1, .int 0), (0, .ref x)] [.ref x, .int 0] C k_c_Mo_startState0_10_4 rfl ?_
  refine j_get C d_c_Mo_startState0_15 fg_Mo_60 hx h17 ?_
  refine j_blk 19 [(2, .int 3), (1, .int 0), (0, .ref x)] [.int 3, .ref st, .int 0] C k_c_Mo_startState0_18_1 rfl ?_
  refine j_iald C d_c_Mo_startState0_19 hst (jin (by decide) (by decide)) ?_
  refine j_blk 4 [(2, .int 4), (1, .int 0), (0, .ref x)] [] C k_c_Mo_startState0_20_4 rfl ?_
  refine j_blk 7 [(2, .int 4), (1, .int 0), (0, .ref x)] [.int 6, .int 4] C k_c_Mo_startState0_4_2 rfl ?_
  refine j_icmp_ge (tgt := 28) C d_c_Mo_startState0_7 (by decide) (fun c5 => absurd c5 (by decide)) (fun c5 => ?_)
  refine j_blk 15 [(2, .int 4), (1, .int 0), (0, .ref x)] [.ref x, .int 0] C k_c_Mo_startState0_10_4 rfl ?_
  refine j_get C d_c_Mo_startState0_15 fg_Mo_60 hx h17 ?_
  refine j_blk 19 [(2, .int 4), (1, .int 0), (0, .ref x)] [.int 4, .ref st, .int 0] C k_c_Mo_startState0_18_1 rfl ?_
  refine j_iald C d_c_Mo_startState0_19 hst (jin (by decide) (by decide)) ?_
  refine j_blk 4 [(2, .int 5), (1, .int 0), (0, .ref x)] [] C k_c_Mo_startState0_20_4 rfl ?_
  refine j_blk 7 [(2, .int 5), (1, .int 0), (0, .ref x)] [.int 6, .int 5] C k_c_Mo_startState0_4_2 rfl ?_
  refine j_icmp_ge (tgt := 28) C d_c_Mo_startState0_7 (by decide) (fun c6 => absurd c6 (by decide)) (fun c6 => ?_)
  refine j_blk 15 [(2, .int 5), (1, .int 0), (0, .ref x)] [.ref x, .int 0] C k_c_Mo_startState0_10_4 rfl ?_
  refine j_get C d_c_Mo_startState0_15 fg_Mo_60 hx h17 ?_
  refine j_blk 19 [(2, .int 5), (1, .int 0), (0, .ref x)] [.int 5, .ref st, .int 0] C k_c_Mo_startState0_18_1 rfl ?_
  refine j_iald C d_c_Mo_startState0_19 hst (jin (by decide) (by decide)) ?_
  refine j_blk 4 [(2, .int 6), (1, .int 0), (0, .ref x)] [] C k_c_Mo_startState0_20_4 rfl ?_
  refine j_blk 7 [(2, .int 6), (1, .int 0), (0, .ref x)] [.int 6, .int 6] C k_c_Mo_startState0_4_2 rfl ?_
  refine j_icmp_ge (tgt := 28) C d_c_Mo_startState0_7 (by decide) (fun c7 => ?_) (fun c7 => absurd (by decide) c7)
  refine j_blk 29 [(2, .int 6), (1, .int 0), (0, .ref x)] [.int 0] C k_c_Mo_startState0_28_1 rfl ?_
  exact j_iret C Rm E d_c_Mo_startState0_29 ⟨congrArg (fun z => some (Value.int z)) (by decide +kernel), rfl⟩ (jbnd hk.1 rfl) (jbnd hk.2 rfl)

theorem k_c_Mo_count_0_1 : sblk b_Mo_count [(0, .iload_n 1, .null)] := sblk_of (by decide +kernel)
theorem d_c_Mo_count_1 : decode b_Mo_count 1 = .ok (.ifCond .ne 10, 3) := by decide +kernel
theorem k_c_Mo_count_11_2 : sblk b_Mo_count [(11, .iload_n 1, .null), (12, .iconst 1, .int 1)] := sblk_of (by decide +kernel)
theorem d_c_Mo_count_13 : decode b_Mo_count 13 = .ok (.if_icmp .ne 10, 3) := by decide +kernel
theorem k_c_Mo_count_23_2 : sblk b_Mo_count [(23, .iload_n 1, .null), (24, .iconst 2, .int 2)] := sblk_of (by decide +kernel)
theorem d_c_Mo_count_25 : decode b_Mo_count 25 = .ok (.if_icmp .ne 10, 3) := by decide +kernel
theorem k_c_Mo_count_35_1 : sblk b_Mo_count [(35, .bipush (-2), .int (-2))] := sblk_of (by decide +kernel)
theorem d_c_Mo_count_37 : decode b_Mo_count 37 = .ok (.ireturn, 1) := by decide +kernel
theorem k_c_Mo_count_28_1 : sblk b_Mo_count [(28, .aload_n 0, .null)] := sblk_of (by decide +kernel)
theorem d_c_Mo_count_29 : decode b_Mo_count 29 = .ok (.invokevirtual 358, 3) := by decide +kernel
theorem k_c_Mo_count_32_1 : sblk b_Mo_count [(32, .goto 5, .retAddr 37)] := sblk_of (by decide +kernel)
theorem k_c_Mo_count_16_1 : sblk b_Mo_count [(16, .aload_n 0, .null)] := sblk_of (by decide +kernel)
theorem d_c_Mo_count_17 : decode b_Mo_count 17 = .ok (.getfield 116, 3) := by decide +kernel
theorem k_c_Mo_count_20_1 : sblk b_Mo_count [(20, .goto 17, .retAddr 37)] := sblk_of (by decide +kernel)
theorem k_c_Mo_count_4_1 : sblk b_Mo_count [(4, .aload_n 0, .null)] := sblk_of (by decide +kernel)
theorem d_c_Mo_count_5 : decode b_Mo_count 5 = .ok (.getfield 105, 3) := by decide +kernel
theorem k_c_Mo_count_8_1 : sblk b_Mo_count [(8, .goto 29, .retAddr 37)] := sblk_of (by decide +kernel)
set_option maxHeartbeats 40000000 in
set_option maxRecDepth 100000 in
theorem c_Mo_count (l : Launch) (D : va_G) (B : Nat) (H0 : Heap) (w : jW) (x : Nat) (V : Nat → Value) (k : Int32) (st : Nat) (hx : w.1 x = some (.inr (10, V))) (h0 : V 0 = .int 0) (h22 : V 22 = .int 0) (h17 : V 17 = .ref st) (hst : w.1 st = some (aI D 6 (fun _ => 0))) (q : Nat) (xq : x < q) (stq : st < q) : jMet l D B H0 y_Mo_count b_Mo_count 2 (some .int) 3 160 0 0 [.ref x, .int k] w (fun v w9 => v = some (.int (an_count k)) ∧ jfr (fun b => q ≤ b) w w9) := by
  refine j_met (by decide) (Nat.le_of_ble_eq_true rfl) (fun g C Rm Y E => ?_)
  have hk := jkz w
  have fr0 : jfr (fun b => q ≤ b) w w := jfr0
  show JJ g w 0 [(0, .ref x), (1, .int k)] []
  refine j_blk 1 [(0, .ref x), (1, .int k)] [.int k] C k_c_Mo_count_0_1 rfl ?_
  refine j_if_ne (tgt := 11) C d_c_Mo_count_1 (by decide) (fun c1 => ?_) (fun c1 => ?_)
  · refine j_blk 13 [(0, .ref x), (1, .int k)] [.int 1, .int k] C k_c_Mo_count_11_2 rfl ?_
    refine j_icmp_ne (tgt := 23) C d_c_Mo_count_13 (by decide) (fun c2 => ?_) (fun c2 => ?_)
    · refine j_blk 25 [(0, .ref x), (1, .int k)] [.int 2, .int k] C k_c_Mo_count_23_2 rfl ?_
      refine j_icmp_ne (tgt := 35) C d_c_Mo_count_25 (by decide) (fun c3 => ?_) (fun c3 => ?_)
      · refine j_blk 37 [(0, .ref x), (1, .int k)] [.int (-2)] C k_c_Mo_count_35_1 rfl ?_
        exact j_iret C Rm E d_c_Mo_count_37 ⟨jin_ (fun hq => absurd hq (by (try simp only [jlt, jle, jeq, kt_0, kt_1, kt_2, kt_3, kt_4, kt_5, kt_6, kt_7, kt_8, kt_9, kt_10, kt_11, kt_12, kt_13, kt_15, kt_16, kt_19, kt_20, kt_24, kt_25, kt_31, kt_32, kt_40, kt_50, kt_60, kt_63, kt_100, kt_120, kt_255, kt_300, kt_999999, kt_1000000, kt_m1, kt_m2, kt_m3, kt_m4, kt_m6, kt_m7, kt_m11, kt_m12, kt_m13, kt_m14, kt_m100] at c1); (try simp only [jlt, jle, jeq, kt_0, kt_1, kt_2, kt_3, kt_4, kt_5, kt_6, kt_7, kt_8, kt_9, kt_10, kt_11, kt_12, kt_13, kt_15, kt_16, kt_19, kt_20, kt_24, kt_25, kt_31, kt_32, kt_40, kt_50, kt_60, kt_63, kt_100, kt_120, kt_255, kt_300, kt_999999, kt_1000000, kt_m1, kt_m2, kt_m3, kt_m4, kt_m6, kt_m7, kt_m11, kt_m12, kt_m13, kt_m14, kt_m100] at c2); (try simp only [jlt, jle, jeq, kt_0, kt_1, kt_2, kt_3, kt_4, kt_5, kt_6, kt_7, kt_8, kt_9, kt_10, kt_11, kt_12, kt_13, kt_15, kt_16, kt_19, kt_20, kt_24, kt_25, kt_31, kt_32, kt_40, kt_50, kt_60, kt_63, kt_100, kt_120, kt_255, kt_300, kt_999999, kt_1000000, kt_m1, kt_m2, kt_m3, kt_m4, kt_m6, kt_m7, kt_m11, kt_m12, kt_m13, kt_m14, kt_m100] at c3); (try simp only [kt_0, kt_1, kt_2, kt_3, kt_4, kt_5, kt_6, kt_7, kt_8, kt_9, kt_10, kt_11, kt_12, kt_13, kt_15, kt_16, kt_19, kt_20, kt_24, kt_25, kt_31, kt_32, kt_40, kt_50, kt_60, kt_63, kt_100, kt_120, kt_255, kt_300, kt_999999, kt_1000000, kt_m1, kt_m2, kt_m3, kt_m4, kt_m6, kt_m7, kt_m11, kt_m12, kt_m13, kt_m14, kt_m100]); omega)), fr0⟩ (jbnd hk.1 rfl) (jbnd hk.2 rfl)
      · refine j_blk 29 [(0, .ref x), (1, .int k)] [.ref x] C k_c_Mo_count_28_1 rfl ?_
        refine j_callV C Rm Y [] [] (c_Mo_startState0 l D B H0 w _ _ _ hx h17 hst) cl_Mo_358 (by rfl) (by rfl) hx d_c_Mo_count_29 rfl rfl (Nat.le_of_ble_eq_true rfl) ⟨by decide, by decide⟩ ⟨jroom hk.1 rfl, jroom hk.2 rfl⟩ (fun v4 w_1 pw_1 => ?_)
        obtain ⟨rfl, rfl⟩ := pw_1
        show JJ g w 32 [(0, .ref x), (1, .int k)] [.int 0]
        refine j_blk 37 [(0, .ref x), (1, .int k)] [.int 0] C k_c_Mo_count_32_1 rfl ?_
        exact j_iret C Rm E d_c_Mo_count_37 ⟨jip (by (try simp only [jlt, jle, jeq, kt_0, kt_1, kt_2, kt_3, kt_4, kt_5, kt_6, kt_7, kt_8, kt_9, kt_10, kt_11, kt_12, kt_13, kt_15, kt_16, kt_19, kt_20, kt_24, kt_25, kt_31, kt_32, kt_40, kt_50, kt_60, kt_63, kt_100, kt_120, kt_255, kt_300, kt_999999, kt_1000000, kt_m1, kt_m2, kt_m3, kt_m4, kt_m6, kt_m7, kt_m11, kt_m12, kt_m13, kt_m14, kt_m100] at c3); show 0 ≤ k.toInt ∧ k.toInt ≤ 2; (try simp only [kt_0, kt_1, kt_2, kt_3, kt_4, kt_5, kt_6, kt_7, kt_8, kt_9, kt_10, kt_11, kt_12, kt_13, kt_15, kt_16, kt_19, kt_20, kt_24, kt_25, kt_31, kt_32, kt_40, kt_50, kt_60, kt_63, kt_100, kt_120, kt_255, kt_300, kt_999999, kt_1000000, kt_m1, kt_m2, kt_m3, kt_m4, kt_m6, kt_m7, kt_m11, kt_m12, kt_m13, kt_m14, kt_m100]); omega), fr0⟩ (jbnd hk.1 rfl) (jbnd hk.2 rfl)
    · refine j_blk 17 [(0, .ref x), (1, .int k)] [.ref x] C k_c_Mo_count_16_1 rfl ?_
      refine j_get C d_c_Mo_count_17 fg_Mo_116 hx h22 ?_
      refine j_blk 37 [(0, .ref x), (1, .int k)] [.int 0] C k_c_Mo_count_20_1 rfl ?_
      exact j_iret C Rm E d_c_Mo_count_37 ⟨jip (by (try simp only [jlt, jle, jeq, kt_0, kt_1, kt_2, kt_3, kt_4, kt_5, kt_6, kt_7, kt_8, kt_9, kt_10, kt_11, kt_12, kt_13, kt_15, kt_16, kt_19, kt_20, kt_24, kt_25, kt_31, kt_32, kt_40, kt_50, kt_60, kt_63, kt_100, kt_120, kt_255, kt_300, kt_999999, kt_1000000, kt_m1, kt_m2, kt_m3, kt_m4, kt_m6, kt_m7, kt_m11, kt_m12, kt_m13, kt_m14, kt_m100] at c2); show 0 ≤ k.toInt ∧ k.toInt ≤ 2; (try simp only [kt_0, kt_1, kt_2, kt_3, kt_4, kt_5, kt_6, kt_7, kt_8, kt_9, kt_10, kt_11, kt_12, kt_13, kt_15, kt_16, kt_19, kt_20, kt_24, kt_25, kt_31, kt_32, kt_40, kt_50, kt_60, kt_63, kt_100, kt_120, kt_255, kt_300, kt_999999, kt_1000000, kt_m1, kt_m2, kt_m3, kt_m4, kt_m6, kt_m7, kt_m11, kt_m12, kt_m13, kt_m14, kt_m100]); omega), fr0⟩ (jbnd hk.1 rfl) (jbnd hk.2 rfl)
  · refine j_blk 5 [(0, .ref x), (1, .int k)] [.ref x] C k_c_Mo_count_4_1 rfl ?_
    refine j_get C d_c_Mo_count_5 fg_Mo_105 hx h0 ?_
    refine j_blk 37 [(0, .ref x), (1, .int k)] [.int 0] C k_c_Mo_count_8_1 rfl ?_
    exact j_iret C Rm E d_c_Mo_count_37 ⟨jip (by (try simp only [jlt, jle, jeq, kt_0, kt_1, kt_2, kt_3, kt_4, kt_5, kt_6, kt_7, kt_8, kt_9, kt_10, kt_11, kt_12, kt_13, kt_15, kt_16, kt_19, kt_20, kt_24, kt_25, kt_31, kt_32, kt_40, kt_50, kt_60, kt_63, kt_100, kt_120, kt_255, kt_300, kt_999999, kt_1000000, kt_m1, kt_m2, kt_m3, kt_m4, kt_m6, kt_m7, kt_m11, kt_m12, kt_m13, kt_m14, kt_m100] at c1); show 0 ≤ k.toInt ∧ k.toInt ≤ 2; (try simp only [kt_0, kt_1, kt_2, kt_3, kt_4, kt_5, kt_6, kt_7, kt_8, kt_9, kt_10, kt_11, kt_12, kt_13, kt_15, kt_16, kt_19, kt_20, kt_24, kt_25, kt_31, kt_32, kt_40, kt_50, kt_60, kt_63, kt_100, kt_120, kt_255, kt_300, kt_999999, kt_1000000, kt_m1, kt_m2, kt_m3, kt_m4, kt_m6, kt_m7, kt_m11, kt_m12, kt_m13, kt_m14, kt_m100]); omega), fr0⟩ (jbnd hk.1 rfl) (jbnd hk.2 rfl)

theorem jl_lt40 {k : Nat} (h : ¬ (40 : Int32) ≤ nI k) (hk : k ≤ 40) : k < 40 := by rw [jle, kt_40, nI_toInt (show k < 2 ^ 31 by omega)] at h; omega
theorem jl_fu40 {k n : Nat} (h : 40 < k + (n + 1)) : 40 < k + 1 + n := by omega
theorem k_c_Sheet_become_0_2 : sblk b_Sheet_become [(0, .aload_n 0, .null), (1, .iload_n 1, .null)] := sblk_of (by decide +kernel)
theorem d_c_Sheet_become_2 : decode b_Sheet_become 2 = .ok (.putfield 15, 3) := by decide +kernel
theorem k_c_Sheet_become_5_2 : sblk b_Sheet_become [(5, .aload_n 0, .null), (6, .iload_n 2, .null)] := sblk_of (by decide +kernel)
theorem d_c_Sheet_become_7 : decode b_Sheet_become 7 = .ok (.putfield 19, 3) := by decide +kernel
theorem k_c_Sheet_become_10_2 : sblk b_Sheet_become [(10, .iconst 0, .int 0), (11, .istore_n 3, .null)] := sblk_of (by decide +kernel)
theorem k_c_Sheet_become_12_2 : sblk b_Sheet_become [(12, .iload_n 3, .null), (13, .bipush 40, .int 40)] := sblk_of (by decide +kernel)
theorem d_c_Sheet_become_15 : decode b_Sheet_become 15 = .ok (.if_icmp .ge 16, 3) := by decide +kernel
theorem d_c_Sheet_become_31 : decode b_Sheet_become 31 = .ok (.return_, 1) := by decide +kernel
theorem k_c_Sheet_become_18_1 : sblk b_Sheet_become [(18, .aload_n 0, .null)] := sblk_of (by decide +kernel)
theorem d_c_Sheet_become_19 : decode b_Sheet_become 19 = .ok (.getfield 9, 3) := by decide +kernel
theorem k_c_Sheet_become_22_2 : sblk b_Sheet_become [(22, .iload_n 3, .null), (23, .iconst 0, .int 0)] := sblk_of (by decide +kernel)
theorem d_c_Sheet_become_24 : decode b_Sheet_become 24 = .ok (.iastore, 1) := by decide +kernel
theorem k_c_Sheet_become_25_2 : sblk b_Sheet_become [(25, .iinc 3 1, .int 1), (28, .goto (-16), .retAddr 12)] := sblk_of (by decide +kernel)
set_option maxHeartbeats 40000000 in
set_option maxRecDepth 100000 in
theorem c_Sheet_become (l : Launch) (D : va_G) (B : Nat) (H0 : Heap) (w : jW) (s e : Nat) (V : Nat → Value) (k n : Int32) (f : Nat → Int32) (hs : w.1 s = some (.inr (5, V))) (h0 : V 0 = .ref e) (he : w.1 e = some (aI D 40 f)) : jMet l D B H0 y_Sheet_become b_Sheet_become 4 none 1 40 0 0 [.ref s, .int k, .int n] w (fun v w9 => v = none ∧ (w9.2.1 = w.2.1 + 0 ∧ w9.2.2 = w.2.2 + 0) ∧ jfr (fun b => b ≠ s ∧ b ≠ e) w w9) := by
  refine j_met (by decide) (Nat.le_of_ble_eq_true rfl) (fun g C Rm Y E => ?_)
  have hk := jkz w
  have fr0 : jfr (fun b => b ≠ s ∧ b ≠ e) w w := jfr0
  show JJ g w 0 [(0, .ref s), (1, .int k), (2, .int n)] []
  refine j_blk 2 [(0, .ref s), (1, .int k), (2, .int n)] [.int k, .ref s] C k_c_Sheet_become_0_2 rfl ?_
  refine j_put C d_c_Sheet_become_2 fp_Sheet_15 hs rfl rfl ?_
  refine jnv (fun w_1 ew_1 => ?_)
  have m_s_w_1 : w_1.1 s = some (.inr (5, (updV V 1 (.int k)))) := jus ew_1
  have hk_w_1 := jk0 ew_1 hk
  have fr_w_1 := jfrW ew_1 fr0 (fun b e hb _ => hb.1)
  refine j_blk 7 [(0, .ref s), (1, .int k), (2, .int n)] [.int n, .ref s] C k_c_Sheet_become_5_2 rfl ?_
  refine j_put C d_c_Sheet_become_7 fp_Sheet_19 m_s_w_1 rfl rfl ?_
  refine jnv (fun w_2 ew_2 => ?_)
  have m_s_w_2 : w_2.1 s = some (.inr (5, (updV (updV V 1 (.int k)) 2 (.int n)))) := jus ew_2
  have hk_w_2 := jk0 ew_2 hk_w_1
  have fr_w_2 := jfrW ew_2 fr_w_1 (fun b e hb _ => hb.1)
  refine j_blk 12 [(3, .int 0), (0, .ref s), (1, .int k), (2, .int n)] [] C k_c_Sheet_become_10_2 rfl ?_
  have m_e_w_1 := jun ew_1 he (jneAO he hs)
  have m_e_w_2 := jun ew_2 m_e_w_1 (jneAO m_e_w_1 m_s_w_1)
  have lp1 : ∀ (nn kk : Nat) (w1 : jW) (F : Nat → Int32), kk ≤ 40 → 40 < kk + nn → w1.1 e = some (aI D 40 F) → jfr (fun b => b ≠ e) w_2 w1 → (w1.2.1 = w_2.2.1 + 0 ∧ w1.2.2 = w_2.2.2 + 0) → JJ g w1 12 [(3, .int (nI kk)), (0, .ref s), (1, .int k), (2, .int n)] [] := by
    intro nn
    induction nn with
    | zero => intro kk w1 F h1 h2; exact absurd h2 (Nat.not_lt.mpr h1)
    | succ nn ih =>
      intro kk w1 F hk1 hk2 hF hfr hc1
      have hkl2 := jkT hk_w_2 hc1
      have frl3 := jfrT fr_w_2 hfr (fun b e hb hv => (fun b e hb _ => hb.2) b e hb hv)
      refine j_blk 15 [(3, .int (nI kk)), (0, .ref s), (1, .int k), (2, .int n)] [.int 40, .int (nI kk)] C k_c_Sheet_become_12_2 rfl ?_
      refine j_icmp_ge (tgt := 31) C d_c_Sheet_become_15 (by decide) (fun c4 => ?_) (fun c4 => ?_)
      · exact j_vret C Rm E d_c_Sheet_become_31 ⟨rfl, hkl2, frl3⟩ (jbnd hkl2.1 rfl) (jbnd hkl2.2 rfl)
      · refine j_blk 19 [(3, .int (nI kk)), (0, .ref s), (1, .int k), (2, .int n)] [.ref s] C k_c_Sheet_become_18_1 rfl ?_
        have m_s_w1 := (hfr _ _ m_s_w_2).1 (jneOA m_s_w_2 m_e_w_2)
        refine j_get C d_c_Sheet_become_19 fg_Sheet_9 m_s_w1 h0 ?_
        refine j_blk 24 [(3, .int (nI kk)), (0, .ref s), (1, .int k), (2, .int n)] [.int 0, .int (nI kk), .ref e] C k_c_Sheet_become_22_2 rfl ?_
        refine j_iast C d_c_Sheet_become_24 hF (vp_in_nI (jl_lt40 c4 hk1) (by decide)) ?_
        refine jnv (fun w_3 ew_3 => ?_)
        have m_e_w_3 : w_3.1 e = some (aI D 40 (upd F (Int32.toNatClampNeg (nI kk)) 0)) := jus ew_3
        have hk_w_3 := jk0 ew_3 hkl2
        have fr_w_3 := jfrW ew_3 frl3 (fun b e hb _ => hb.2)
        refine j_blk 12 [(3, .int ((nI kk) + 1)), (0, .ref s), (1, .int k), (2, .int n)] [] C k_c_Sheet_become_25_2 rfl ?_
        rw [nI_1]
        have g5 := jfrW ew_3 hfr (fun b e hb _ => hb)
        have g6 := jk0 ew_3 hc1
        exact ih (kk + 1) w_3 _ (jl_lt40 c4 hk1) (jl_fu40 hk2) m_e_w_3 g5 g6
  exact lp1 41 0 w_2 _ (by decide) (by decide) m_e_w_2 jfr0 ⟨rfl, rfl⟩

theorem k_c_CS_sheet_0_1 : sblk b_CS_sheet [(0, .iload_n 1, .null)] := sblk_of (by decide +kernel)
theorem d_c_CS_sheet_1 : decode b_CS_sheet 1 = .ok (.invokestatic 200, 3) := by decide +kernel
theorem d_c_CS_sheet_4 : decode b_CS_sheet 4 = .ok (.ifCond .eq 13, 3) := by decide +kernel
theorem k_c_CS_sheet_17_1 : sblk b_CS_sheet [(17, .bipush (-2), .int (-2))] := sblk_of (by decide +kernel)
theorem d_c_CS_sheet_19 : decode b_CS_sheet 19 = .ok (.ireturn, 1) := by decide +kernel
theorem k_c_CS_sheet_7_2 : sblk b_CS_sheet [(7, .iload_n 2, .null), (8, .iconst (-1), .int (-1))] := sblk_of (by decide +kernel)
theorem d_c_CS_sheet_9 : decode b_CS_sheet 9 = .ok (.if_icmp .lt 8, 3) := by decide +kernel
theorem k_c_CS_sheet_12_2 : sblk b_CS_sheet [(12, .iload_n 2, .null), (13, .iconst 1, .int 1)] := sblk_of (by decide +kernel)
theorem d_c_CS_sheet_14 : decode b_CS_sheet 14 = .ok (.if_icmp .le 6, 3) := by decide +kernel
theorem k_c_CS_sheet_20_2 : sblk b_CS_sheet [(20, .iload_n 2, .null), (21, .iconst (-1), .int (-1))] := sblk_of (by decide +kernel)
theorem d_c_CS_sheet_22 : decode b_CS_sheet 22 = .ok (.if_icmp .ne 16, 3) := by decide +kernel
theorem k_c_CS_sheet_38_2 : sblk b_CS_sheet [(38, .iload_n 3, .null), (39, .bipush 40, .int 40)] := sblk_of (by decide +kernel)
theorem d_c_CS_sheet_41 : decode b_CS_sheet 41 = .ok (.if_icmp .le 6, 3) := by decide +kernel
theorem k_c_CS_sheet_47_1 : sblk b_CS_sheet [(47, .iload_n 3, .null)] := sblk_of (by decide +kernel)
theorem d_c_CS_sheet_48 : decode b_CS_sheet 48 = .ok (.ifCond .ge 6, 3) := by decide +kernel
theorem k_c_CS_sheet_54_1 : sblk b_CS_sheet [(54, .aload_n 0, .null)] := sblk_of (by decide +kernel)
theorem d_c_CS_sheet_55 : decode b_CS_sheet 55 = .ok (.getfield 21, 3) := by decide +kernel
theorem k_c_CS_sheet_58_1 : sblk b_CS_sheet [(58, .iload_n 1, .null)] := sblk_of (by decide +kernel)
theorem d_c_CS_sheet_59 : decode b_CS_sheet 59 = .ok (.aaload, 1) := by decide +kernel
theorem k_c_CS_sheet_60_2 : sblk b_CS_sheet [(60, .iload_n 2, .null), (61, .iload_n 3, .null)] := sblk_of (by decide +kernel)
theorem d_c_CS_sheet_62 : decode b_CS_sheet 62 = .ok (.invokevirtual 223, 3) := by decide +kernel
theorem k_c_CS_sheet_65_1 : sblk b_CS_sheet [(65, .iconst 1, .int 1)] := sblk_of (by decide +kernel)
theorem d_c_CS_sheet_66 : decode b_CS_sheet 66 = .ok (.ireturn, 1) := by decide +kernel
theorem k_c_CS_sheet_51_1 : sblk b_CS_sheet [(51, .bipush (-14), .int (-14))] := sblk_of (by decide +kernel)
theorem d_c_CS_sheet_53 : decode b_CS_sheet 53 = .ok (.ireturn, 1) := by decide +kernel
theorem k_c_CS_sheet_44_1 : sblk b_CS_sheet [(44, .bipush (-2), .int (-2))] := sblk_of (by decide +kernel)
theorem d_c_CS_sheet_46 : decode b_CS_sheet 46 = .ok (.ireturn, 1) := by decide +kernel
theorem k_c_CS_sheet_25_1 : sblk b_CS_sheet [(25, .aload_n 0, .null)] := sblk_of (by decide +kernel)
theorem d_c_CS_sheet_26 : decode b_CS_sheet 26 = .ok (.getfield 21, 3) := by decide +kernel
theorem k_c_CS_sheet_29_1 : sblk b_CS_sheet [(29, .iload_n 1, .null)] := sblk_of (by decide +kernel)
theorem d_c_CS_sheet_30 : decode b_CS_sheet 30 = .ok (.aaload, 1) := by decide +kernel
theorem k_c_CS_sheet_31_2 : sblk b_CS_sheet [(31, .iconst (-1), .int (-1)), (32, .iconst 0, .int 0)] := sblk_of (by decide +kernel)
theorem d_c_CS_sheet_33 : decode b_CS_sheet 33 = .ok (.invokevirtual 223, 3) := by decide +kernel
theorem k_c_CS_sheet_36_1 : sblk b_CS_sheet [(36, .iconst 1, .int 1)] := sblk_of (by decide +kernel)
theorem d_c_CS_sheet_37 : decode b_CS_sheet 37 = .ok (.ireturn, 1) := by decide +kernel
set_option maxHeartbeats 40000000 in
set_option maxRecDepth 100000 in
theorem c_CS_sheet (l : Launch) (D : va_G) (B : Nat) (H0 : Heap) (w : jW) (x : Nat) (V : Nat → Value) (s : Int32) (k : Int32) (n : Int32) (sh : Nat) (F : Nat → Option Nat) (hx : w.1 x = some (.inr (8, V))) (h8 : V 8 = .ref sh) (hsh : w.1 sh = some (aR D 9 4 F)) (q : Nat) (xq : x < q) (fx : fxS D w F q) : jMet l D B H0 y_CS_sheet b_CS_sheet 4 (some .int) 3 160 0 0 [.ref x, .int s, .int k, .int n] w (fun v w9 => v = some (.int (an_sheet s k n)) ∧ jfr (fun b => q ≤ b) w w9) := by
  refine j_met (by decide) (Nat.le_of_ble_eq_true rfl) (fun g C Rm Y E => ?_)
  have hk := jkz w
  have fr0 : jfr (fun b => q ≤ b) w w := jfr0
  show JJ g w 0 [(0, .ref x), (1, .int s), (2, .int k), (3, .int n)] []
  refine j_blk 1 [(0, .ref x), (1, .int s), (2, .int k), (3, .int n)] [.int s] C k_c_CS_sheet_0_1 rfl ?_
  refine j_callS (As := [.int s]) C Rm Y [] (c_CS_isSheet l D B H0 w s) cl_CS_200 d_c_CS_sheet_1 rfl rfl (Nat.le_of_ble_eq_true rfl) ⟨by decide, by decide⟩ ⟨jroom hk.1 rfl, jroom hk.2 rfl⟩ (fun v1 w_1 pw_1 => ?_)
  obtain ⟨rfl, rfl⟩ := pw_1
  show JJ g w 4 [(0, .ref x), (1, .int s), (2, .int k), (3, .int n)] [.int (if 0 ≤ s.toInt ∧ s.toInt < 4 then 1 else 0)]
  refine j_if_eq (tgt := 17) C d_c_CS_sheet_4 (by decide) (fun c2 => ?_) (fun c2 => ?_)
  · have c2 := jbz.mp c2
    refine j_blk 19 [(0, .ref x), (1, .int s), (2, .int k), (3, .int n)] [.int (-2)] C k_c_CS_sheet_17_1 rfl ?_
    exact j_iret C Rm E d_c_CS_sheet_19 ⟨congrArg (fun z => some (Value.int z)) (by unfold an_sheet; (try simp only [jlt, jle, jeq, kt_0, kt_1, kt_2, kt_3, kt_4, kt_5, kt_6, kt_7, kt_8, kt_9, kt_10, kt_11, kt_12, kt_13, kt_15, kt_16, kt_19, kt_20, kt_24, kt_25, kt_31, kt_32, kt_40, kt_50, kt_60, kt_63, kt_100, kt_120, kt_255, kt_300, kt_999999, kt_1000000, kt_m1, kt_m2, kt_m3, kt_m4, kt_m6, kt_m7, kt_m11, kt_m12, kt_m13, kt_m14, kt_m100] at c2);  (repeat' split) <;> first | rfl | (exfalso; omega)), fr0⟩ (jbnd hk.1 rfl) (jbnd hk.2 rfl)
  · have c2 := jbo.mp c2
    refine j_blk 9 [(0, .ref x), (1, .int s), (2, .int k), (3, .int n)] [.int (-1), .int k] C k_c_CS_sheet_7_2 rfl ?_
    refine j_icmp_lt (tgt := 17) C d_c_CS_sheet_9 (by decide) (fun c3 => ?_) (fun c3 => ?_)
    · refine j_blk 19 [(0, .ref x), (1, .int s), (2, .int k), (3, .int n)] [.int (-2)] C k_c_CS_sheet_17_1 rfl ?_
      exact j_iret C Rm E d_c_CS_sheet_19 ⟨congrArg (fun z => some (Value.int z)) (by unfold an_sheet; (try simp only [jlt, jle, jeq, kt_0, kt_1, kt_2, kt_3, kt_4, kt_5, kt_6, kt_7, kt_8, kt_9, kt_10, kt_11, kt_12, kt_13, kt_15, kt_16, kt_19, kt_20, kt_24, kt_25, kt_31, kt_32, kt_40, kt_50, kt_60, kt_63, kt_100, kt_120, kt_255, kt_300, kt_999999, kt_1000000, kt_m1, kt_m2, kt_m3, kt_m4, kt_m6, kt_m7, kt_m11, kt_m12, kt_m13, kt_m14, kt_m100] at c2); (try simp only [jlt, jle, jeq, kt_0, kt_1, kt_2, kt_3, kt_4, kt_5, kt_6, kt_7, kt_8, kt_9, kt_10, kt_11, kt_12, kt_13, kt_15, kt_16, kt_19, kt_20, kt_24, kt_25, kt_31, kt_32, kt_40, kt_50, kt_60, kt_63, kt_100, kt_120, kt_255, kt_300, kt_999999, kt_1000000, kt_m1, kt_m2, kt_m3, kt_m4, kt_m6, kt_m7, kt_m11, kt_m12, kt_m13, kt_m14, kt_m100] at c3);  (repeat' split) <;> first | rfl | (exfalso; omega)), fr0⟩ (jbnd hk.1 rfl) (jbnd hk.2 rfl)
    · refine j_blk 14 [(0, .ref x), (1, .int s), (2, .int k), (3, .int n)] [.int 1, .int k] C k_c_CS_sheet_12_2 rfl ?_
      refine j_icmp_le (tgt := 20) C d_c_CS_sheet_14 (by decide) (fun c4 => ?_) (fun c4 => ?_)
      · refine j_blk 22 [(0, .ref x), (1, .int s), (2, .int k), (3, .int n)] [.int (-1), .int k] C k_c_CS_sheet_20_2 rfl ?_
        refine j_icmp_ne (tgt := 38) C d_c_CS_sheet_22 (by decide) (fun c5 => ?_) (fun c5 => ?_)
        · refine j_blk 41 [(0, .ref x), (1, .int s), (2, .int k), (3, .int n)] [.int 40, .int n] C k_c_CS_sheet_38_2 rfl ?_
          refine j_icmp_le (tgt := 47) C d_c_CS_sheet_41 (by decide) (fun c6 => ?_) (fun c6 => ?_)
          · refine j_blk 48 [(0, .ref x), (1, .int s), (2, .int k), (3, .int n)] [.int n] C k_c_CS_sheet_47_1 rfl ?_
            refine j_if_ge (tgt := 54) C d_c_CS_sheet_48 (by decide) (fun c7 => ?_) (fun c7 => ?_)
            · refine j_blk 55 [(0, .ref x), (1, .int s), (2, .int k), (3, .int n)] [.ref x] C k_c_CS_sheet_54_1 rfl ?_
              refine j_get C d_c_CS_sheet_55 fg_CS_21 hx h8 ?_
              refine j_blk 59 [(0, .ref x), (1, .int s), (2, .int k), (3, .int n)] [.int s, .ref sh] C k_c_CS_sheet_58_1 rfl ?_
              obtain ⟨s8, es8, Vs8, hFs8, ms8, zs8, sos8, sis8, mes8, ls8, les8⟩ := fx (Int32.toNatClampNeg s) (jcl (by (try simp only [jlt, jle, jeq, kt_0, kt_1, kt_2, kt_3, kt_4, kt_5, kt_6, kt_7, kt_8, kt_9, kt_10, kt_11, kt_12, kt_13, kt_15, kt_16, kt_19, kt_20, kt_24, kt_25, kt_31, kt_32, kt_40, kt_50, kt_60, kt_63, kt_100, kt_120, kt_255, kt_300, kt_999999, kt_1000000, kt_m1, kt_m2, kt_m3, kt_m4, kt_m6, kt_m7, kt_m11, kt_m12, kt_m13, kt_m14, kt_m100] at c2); (try simp only [jlt, jle, jeq, kt_0, kt_1, kt_2, kt_3, kt_4, kt_5, kt_6, kt_7, kt_8, kt_9, kt_10, kt_11, kt_12, kt_13, kt_15, kt_16, kt_19, kt_20, kt_24, kt_25, kt_31, kt_32, kt_40, kt_50, kt_60, kt_63, kt_100, kt_120, kt_255, kt_300, kt_999999, kt_1000000, kt_m1, kt_m2, kt_m3, kt_m4, kt_m6, kt_m7, kt_m11, kt_m12, kt_m13, kt_m14, kt_m100] at c3); (try simp only [jlt, jle, jeq, kt_0, kt_1, kt_2, kt_3, kt_4, kt_5, kt_6, kt_7, kt_8, kt_9, kt_10, kt_11, kt_12, kt_13, kt_15, kt_16, kt_19, kt_20, kt_24, kt_25, kt_31, kt_32, kt_40, kt_50, kt_60, kt_63, kt_100, kt_120, kt_255, kt_300, kt_999999, kt_1000000, kt_m1, kt_m2, kt_m3, kt_m4, kt_m6, kt_m7, kt_m11, kt_m12, kt_m13, kt_m14, kt_m100] at c4); (try simp only [jlt, jle, jeq, kt_0, kt_1, kt_2, kt_3, kt_4, kt_5, kt_6, kt_7, kt_8, kt_9, kt_10, kt_11, kt_12, kt_13, kt_15, kt_16, kt_19, kt_20, kt_24, kt_25, kt_31, kt_32, kt_40, kt_50, kt_60, kt_63, kt_100, kt_120, kt_255, kt_300, kt_999999, kt_1000000, kt_m1, kt_m2, kt_m3, kt_m4, kt_m6, kt_m7, kt_m11, kt_m12, kt_m13, kt_m14, kt_m100] at c5); (try simp only [jlt, jle, jeq, kt_0, kt_1, kt_2, kt_3, kt_4, kt_5, kt_6, kt_7, kt_8, kt_9, kt_10, kt_11, kt_12, kt_13, kt_15, kt_16, kt_19, kt_20, kt_24, kt_25, kt_31, kt_32, kt_40, kt_50, kt_60, kt_63, kt_100, kt_120, kt_255, kt_300, kt_999999, kt_1000000, kt_m1, kt_m2, kt_m3, kt_m4, kt_m6, kt_m7, kt_m11, kt_m12, kt_m13, kt_m14, kt_m100] at c6); (try simp only [jlt, jle, jeq, kt_0, kt_1, kt_2, kt_3, kt_4, kt_5, kt_6, kt_7, kt_8, kt_9, kt_10, kt_11, kt_12, kt_13, kt_15, kt_16, kt_19, kt_20, kt_24, kt_25, kt_31, kt_32, kt_40, kt_50, kt_60, kt_63, kt_100, kt_120, kt_255, kt_300, kt_999999, kt_1000000, kt_m1, kt_m2, kt_m3, kt_m4, kt_m6, kt_m7, kt_m11, kt_m12, kt_m13, kt_m14, kt_m100] at c7); (try simp only [kt_0, kt_1, kt_2, kt_3, kt_4, kt_5, kt_6, kt_7, kt_8, kt_9, kt_10, kt_11, kt_12, kt_13, kt_15, kt_16, kt_19, kt_20, kt_24, kt_25, kt_31, kt_32, kt_40, kt_50, kt_60, kt_63, kt_100, kt_120, kt_255, kt_300, kt_999999, kt_1000000, kt_m1, kt_m2, kt_m3, kt_m4, kt_m6, kt_m7, kt_m11, kt_m12, kt_m13, kt_m14, kt_m100]); omega) (by (try simp only [jlt, jle, jeq, kt_0, kt_1, kt_2, kt_3, kt_4, kt_5, kt_6, kt_7, kt_8, kt_9, kt_10, kt_11, kt_12, kt_13, kt_15, kt_16, kt_19, kt_20, kt_24, kt_25, kt_31, kt_32, kt_40, kt_50, kt_60, kt_63, kt_100, kt_120, kt_255, kt_300, kt_999999, kt_1000000, kt_m1, kt_m2, kt_m3, kt_m4, kt_m6, kt_m7, kt_m11, kt_m12, kt_m13, kt_m14, kt_m100] at c2); (try simp only [jlt, jle, jeq, kt_0, kt_1, kt_2, kt_3, kt_4, kt_5, kt_6, kt_7, kt_8, kt_9, kt_10, kt_11, kt_12, kt_13, kt_15, kt_16, kt_19, kt_20, kt_24, kt_25, kt_31, kt_32, kt_40, kt_50, kt_60, kt_63, kt_100, kt_120, kt_255, kt_300, kt_999999, kt_1000000, kt_m1, kt_m2, kt_m3, kt_m4, kt_m6, kt_m7, kt_m11, kt_m12, kt_m13, kt_m14, kt_m100] at c3); (try simp only [jlt, jle, jeq, kt_0, kt_1, kt_2, kt_3, kt_4, kt_5, kt_6, kt_7, kt_8, kt_9, kt_10, kt_11, kt_12, kt_13, kt_15, kt_16, kt_19, kt_20, kt_24, kt_25, kt_31, kt_32, kt_40, kt_50, kt_60, kt_63, kt_100, kt_120, kt_255, kt_300, kt_999999, kt_1000000, kt_m1, kt_m2, kt_m3, kt_m4, kt_m6, kt_m7, kt_m11, kt_m12, kt_m13, kt_m14, kt_m100] at c4); (try simp only [jlt, jle, jeq, kt_0, kt_1, kt_2, kt_3, kt_4, kt_5, kt_6, kt_7, kt_8, kt_9, kt_10, kt_11, kt_12, kt_13, kt_15, kt_16, kt_19, kt_20, kt_24, kt_25, kt_31, kt_32, kt_40, kt_50, kt_60, kt_63, kt_100, kt_120, kt_255, kt_300, kt_999999, kt_1000000, kt_m1, kt_m2, kt_m3, kt_m4, kt_m6, kt_m7, kt_m11, kt_m12, kt_m13, kt_m14, kt_m100] at c5); (try simp only [jlt, jle, jeq, kt_0, kt_1, kt_2, kt_3, kt_4, kt_5, kt_6, kt_7, kt_8, kt_9, kt_10, kt_11, kt_12, kt_13, kt_15, kt_16, kt_19, kt_20, kt_24, kt_25, kt_31, kt_32, kt_40, kt_50, kt_60, kt_63, kt_100, kt_120, kt_255, kt_300, kt_999999, kt_1000000, kt_m1, kt_m2, kt_m3, kt_m4, kt_m6, kt_m7, kt_m11, kt_m12, kt_m13, kt_m14, kt_m100] at c6); (try simp only [jlt, jle, jeq, kt_0, kt_1, kt_2, kt_3, kt_4, kt_5, kt_6, kt_7, kt_8, kt_9, kt_10, kt_11, kt_12, kt_13, kt_15, kt_16, kt_19, kt_20, kt_24, kt_25, kt_31, kt_32, kt_40, kt_50, kt_60, kt_63, kt_100, kt_120, kt_255, kt_300, kt_999999, kt_1000000, kt_m1, kt_m2, kt_m3, kt_m4, kt_m6, kt_m7, kt_m11, kt_m12, kt_m13, kt_m14, kt_m100] at c7); (try simp only [kt_0, kt_1, kt_2, kt_3, kt_4, kt_5, kt_6, kt_7, kt_8, kt_9, kt_10, kt_11, kt_12, kt_13, kt_15, kt_16, kt_19, kt_20, kt_24, kt_25, kt_31, kt_32, kt_40, kt_50, kt_60, kt_63, kt_100, kt_120, kt_255, kt_300, kt_999999, kt_1000000, kt_m1, kt_m2, kt_m3, kt_m4, kt_m6, kt_m7, kt_m11, kt_m12, kt_m13, kt_m14, kt_m100]); omega))
              refine j_aald (v := .ref s8) C d_c_CS_sheet_59 (by rfl) rfl hsh (jin (by (try simp only [jlt, jle, jeq, kt_0, kt_1, kt_2, kt_3, kt_4, kt_5, kt_6, kt_7, kt_8, kt_9, kt_10, kt_11, kt_12, kt_13, kt_15, kt_16, kt_19, kt_20, kt_24, kt_25, kt_31, kt_32, kt_40, kt_50, kt_60, kt_63, kt_100, kt_120, kt_255, kt_300, kt_999999, kt_1000000, kt_m1, kt_m2, kt_m3, kt_m4, kt_m6, kt_m7, kt_m11, kt_m12, kt_m13, kt_m14, kt_m100] at c2); (try simp only [jlt, jle, jeq, kt_0, kt_1, kt_2, kt_3, kt_4, kt_5, kt_6, kt_7, kt_8, kt_9, kt_10, kt_11, kt_12, kt_13, kt_15, kt_16, kt_19, kt_20, kt_24, kt_25, kt_31, kt_32, kt_40, kt_50, kt_60, kt_63, kt_100, kt_120, kt_255, kt_300, kt_999999, kt_1000000, kt_m1, kt_m2, kt_m3, kt_m4, kt_m6, kt_m7, kt_m11, kt_m12, kt_m13, kt_m14, kt_m100] at c3); (try simp only [jlt, jle, jeq, kt_0, kt_1, kt_2, kt_3, kt_4, kt_5, kt_6, kt_7, kt_8, kt_9, kt_10, kt_11, kt_12, kt_13, kt_15, kt_16, kt_19, kt_20, kt_24, kt_25, kt_31, kt_32, kt_40, kt_50, kt_60, kt_63, kt_100, kt_120, kt_255, kt_300, kt_999999, kt_1000000, kt_m1, kt_m2, kt_m3, kt_m4, kt_m6, kt_m7, kt_m11, kt_m12, kt_m13, kt_m14, kt_m100] at c4); (try simp only [jlt, jle, jeq, kt_0, kt_1, kt_2, kt_3, kt_4, kt_5, kt_6, kt_7, kt_8, kt_9, kt_10, kt_11, kt_12, kt_13, kt_15, kt_16, kt_19, kt_20, kt_24, kt_25, kt_31, kt_32, kt_40, kt_50, kt_60, kt_63, kt_100, kt_120, kt_255, kt_300, kt_999999, kt_1000000, kt_m1, kt_m2, kt_m3, kt_m4, kt_m6, kt_m7, kt_m11, kt_m12, kt_m13, kt_m14, kt_m100] at c5); (try simp only [jlt, jle, jeq, kt_0, kt_1, kt_2, kt_3, kt_4, kt_5, kt_6, kt_7, kt_8, kt_9, kt_10, kt_11, kt_12, kt_13, kt_15, kt_16, kt_19, kt_20, kt_24, kt_25, kt_31, kt_32, kt_40, kt_50, kt_60, kt_63, kt_100, kt_120, kt_255, kt_300, kt_999999, kt_1000000, kt_m1, kt_m2, kt_m3, kt_m4, kt_m6, kt_m7, kt_m11, kt_m12, kt_m13, kt_m14, kt_m100] at c6); (try simp only [jlt, jle, jeq, kt_0, kt_1, kt_2, kt_3, kt_4, kt_5, kt_6, kt_7, kt_8, kt_9, kt_10, kt_11, kt_12, kt_13, kt_15, kt_16, kt_19, kt_20, kt_24, kt_25, kt_31, kt_32, kt_40, kt_50, kt_60, kt_63, kt_100, kt_120, kt_255, kt_300, kt_999999, kt_1000000, kt_m1, kt_m2, kt_m3, kt_m4, kt_m6, kt_m7, kt_m11, kt_m12, kt_m13, kt_m14, kt_m100] at c7); (try simp only [kt_0, kt_1, kt_2, kt_3, kt_4, kt_5, kt_6, kt_7, kt_8, kt_9, kt_10, kt_11, kt_12, kt_13, kt_15, kt_16, kt_19, kt_20, kt_24, kt_25, kt_31, kt_32, kt_40, kt_50, kt_60, kt_63, kt_100, kt_120, kt_255, kt_300, kt_999999, kt_1000000, kt_m1, kt_m2, kt_m3, kt_m4, kt_m6, kt_m7, kt_m11, kt_m12, kt_m13, kt_m14, kt_m100]); omega) (by (try simp only [jlt, jle, jeq, kt_0, kt_1, kt_2, kt_3, kt_4, kt_5, kt_6, kt_7, kt_8, kt_9, kt_10, kt_11, kt_12, kt_13, kt_15, kt_16, kt_19, kt_20, kt_24, kt_25, kt_31, kt_32, kt_40, kt_50, kt_60, kt_63, kt_100, kt_120, kt_255, kt_300, kt_999999, kt_1000000, kt_m1, kt_m2, kt_m3, kt_m4, kt_m6, kt_m7, kt_m11, kt_m12, kt_m13, kt_m14, kt_m100] at c2); (try simp only [jlt, jle, jeq, kt_0, kt_1, kt_2, kt_3, kt_4, kt_5, kt_6, kt_7, kt_8, kt_9, kt_10, kt_11, kt_12, kt_13, kt_15, kt_16, kt_19, kt_20, kt_24, kt_25, kt_31, kt_32, kt_40, kt_50, kt_60, kt_63, kt_100, kt_120, kt_255, kt_300, kt_999999, kt_1000000, kt_m1, kt_m2, kt_m3, kt_m4, kt_m6, kt_m7, kt_m11, kt_m12, kt_m13, kt_m14, kt_m100] at c3); (try simp only [jlt, jle, jeq, kt_0, kt_1, kt_2, kt_3, kt_4, kt_5, kt_6, kt_7, kt_8, kt_9, kt_10, kt_11, kt_12, kt_13, kt_15, kt_16, kt_19, kt_20, kt_24, kt_25, kt_31, kt_32, kt_40, kt_50, kt_60, kt_63, kt_100, kt_120, kt_255, kt_300, kt_999999, kt_1000000, kt_m1, kt_m2, kt_m3, kt_m4, kt_m6, kt_m7, kt_m11, kt_m12, kt_m13, kt_m14, kt_m100] at c4); (try simp only [jlt, jle, jeq, kt_0, kt_1, kt_2, kt_3, kt_4, kt_5, kt_6, kt_7, kt_8, kt_9, kt_10, kt_11, kt_12, kt_13, kt_15, kt_16, kt_19, kt_20, kt_24, kt_25, kt_31, kt_32, kt_40, kt_50, kt_60, kt_63, kt_100, kt_120, kt_255, kt_300, kt_999999, kt_1000000, kt_m1, kt_m2, kt_m3, kt_m4, kt_m6, kt_m7, kt_m11, kt_m12, kt_m13, kt_m14, kt_m100] at c5); (try simp only [jlt, jle, jeq, kt_0, kt_1, kt_2, kt_3, kt_4, kt_5, kt_6, kt_7, kt_8, kt_9, kt_10, kt_11, kt_12, kt_13, kt_15, kt_16, kt_19, kt_20, kt_24, kt_25, kt_31, kt_32, kt_40, kt_50, kt_60, kt_63, kt_100, kt_120, kt_255, kt_300, kt_999999, kt_1000000, kt_m1, kt_m2, kt_m3, kt_m4, kt_m6, kt_m7, kt_m11, kt_m12, kt_m13, kt_m14, kt_m100] at c6); (try simp only [jlt, jle, jeq, kt_0, kt_1, kt_2, kt_3, kt_4, kt_5, kt_6, kt_7, kt_8, kt_9, kt_10, kt_11, kt_12, kt_13, kt_15, kt_16, kt_19, kt_20, kt_24, kt_25, kt_31, kt_32, kt_40, kt_50, kt_60, kt_63, kt_100, kt_120, kt_255, kt_300, kt_999999, kt_1000000, kt_m1, kt_m2, kt_m3, kt_m4, kt_m6, kt_m7, kt_m11, kt_m12, kt_m13, kt_m14, kt_m100] at c7); (try simp only [kt_0, kt_1, kt_2, kt_3, kt_4, kt_5, kt_6, kt_7, kt_8, kt_9, kt_10, kt_11, kt_12, kt_13, kt_15, kt_16, kt_19, kt_20, kt_24, kt_25, kt_31, kt_32, kt_40, kt_50, kt_60, kt_63, kt_100, kt_120, kt_255, kt_300, kt_999999, kt_1000000, kt_m1, kt_m2, kt_m3, kt_m4, kt_m6, kt_m7, kt_m11, kt_m12, kt_m13, kt_m14, kt_m100]); omega)) (congrArg va_rf hFs8) ?_
              refine j_blk 62 [(0, .ref x), (1, .int s), (2, .int k), (3, .int n)] [.int n, .int k, .ref s8] C k_c_CS_sheet_60_2 rfl ?_
              refine j_callV C Rm Y [.int k, .int n] [] (c_Sheet_become l D B H0 w s8 es8 Vs8 k n (fun _ => 0) ms8 zs8 mes8) cl_CS_223 (by rfl) (by rfl) ms8 d_c_CS_sheet_62 rfl rfl (Nat.le_of_ble_eq_true rfl) ⟨by decide, by decide⟩ ⟨jroom hk.1 rfl, jroom hk.2 rfl⟩ (fun v9 w_2 pw_2 => ?_)
              obtain ⟨rfl, hc_w_2, G_w_2⟩ := pw_2
              have hk_w_2 := jkT hk hc_w_2
              have fr_w_2 := jfrT fr0 G_w_2 (fun b e hb hv => ⟨(fun b e hb _ => Nat.ne_of_gt (Nat.lt_of_lt_of_le ls8 hb)) b e hb hv, (fun b e hb _ => Nat.ne_of_gt (Nat.lt_of_lt_of_le les8 hb)) b e hb hv⟩)
              show JJ g w_2 65 [(0, .ref x), (1, .int s), (2, .int k), (3, .int n)] []
              refine j_blk 66 [(0, .ref x), (1, .int s), (2, .int k), (3, .int n)] [.int 1] C k_c_CS_sheet_65_1 rfl ?_
              exact j_iret C Rm E d_c_CS_sheet_66 ⟨congrArg (fun z => some (Value.int z)) (by unfold an_sheet; (try simp only [jlt, jle, jeq, kt_0, kt_1, kt_2, kt_3, kt_4, kt_5, kt_6, kt_7, kt_8, kt_9, kt_10, kt_11, kt_12, kt_13, kt_15, kt_16, kt_19, kt_20, kt_24, kt_25, kt_31, kt_32, kt_40, kt_50, kt_60, kt_63, kt_100, kt_120, kt_255, kt_300, kt_999999, kt_1000000, kt_m1, kt_m2, kt_m3, kt_m4, kt_m6, kt_m7, kt_m11, kt_m12, kt_m13, kt_m14, kt_m100] at c2); (try simp only [jlt, jle, jeq, kt_0, kt_1, kt_2, kt_3, kt_4, kt_5, kt_6, kt_7, kt_8, kt_9, kt_10, kt_11, kt_12, kt_13, kt_15, kt_16, kt_19, kt_20, kt_24, kt_25, kt_31, kt_32, kt_40, kt_50, kt_60, kt_63, kt_100, kt_120, kt_255, kt_300, kt_999999, kt_1000000, kt_m1, kt_m2, kt_m3, kt_m4, kt_m6, kt_m7, kt_m11, kt_m12, kt_m13, kt_m14, kt_m100] at c3); (try simp only [jlt, jle, jeq, kt_0, kt_1, kt_2, kt_3, kt_4, kt_5, kt_6, kt_7, kt_8, kt_9, kt_10, kt_11, kt_12, kt_13, kt_15, kt_16, kt_19, kt_20, kt_24, kt_25, kt_31, kt_32, kt_40, kt_50, kt_60, kt_63, kt_100, kt_120, kt_255, kt_300, kt_999999, kt_1000000, kt_m1, kt_m2, kt_m3, kt_m4, kt_m6, kt_m7, kt_m11, kt_m12, kt_m13, kt_m14, kt_m100] at c4); (try simp only [jlt, jle, jeq, kt_0, kt_1, kt_2, kt_3, kt_4, kt_5, kt_6, kt_7, kt_8, kt_9, kt_10, kt_11, kt_12, kt_13, kt_15, kt_16, kt_19, kt_20, kt_24, kt_25, kt_31, kt_32, kt_40, kt_50, kt_60, kt_63, kt_100, kt_120, kt_255, kt_300, kt_999999, kt_1000000, kt_m1, kt_m2, kt_m3, kt_m4, kt_m6, kt_m7, kt_m11, kt_m12, kt_m13, kt_m14, kt_m100] at c5); (try simp only [jlt, jle, jeq, kt_0, kt_1, kt_2, kt_3, kt_4, kt_5, kt_6, kt_7, kt_8, kt_9, kt_10, kt_11, kt_12, kt_13, kt_15, kt_16, kt_19, kt_20, kt_24, kt_25, kt_31, kt_32, kt_40, kt_50, kt_60, kt_63, kt_100, kt_120, kt_255, kt_300, kt_999999, kt_1000000, kt_m1, kt_m2, kt_m3, kt_m4, kt_m6, kt_m7, kt_m11, kt_m12, kt_m13, kt_m14, kt_m100] at c6); (try simp only [jlt, jle, jeq, kt_0, kt_1, kt_2, kt_3, kt_4, kt_5, kt_6, kt_7, kt_8, kt_9, kt_10, kt_11, kt_12, kt_13, kt_15, kt_16, kt_19, kt_20, kt_24, kt_25, kt_31, kt_32, kt_40, kt_50, kt_60, kt_63, kt_100, kt_120, kt_255, kt_300, kt_999999, kt_1000000, kt_m1, kt_m2, kt_m3, kt_m4, kt_m6, kt_m7, kt_m11, kt_m12, kt_m13, kt_m14, kt_m100] at c7);  (repeat' split) <;> first | rfl | (exfalso; omega)), fr_w_2⟩ (jbnd hk_w_2.1 rfl) (jbnd hk_w_2.2 rfl)
            · refine j_blk 53 [(0, .ref x), (1, .int s), (2, .int k), (3, .int n)] [.int (-14)] C k_c_CS_sheet_51_1 rfl ?_
              exact j_iret C Rm E d_c_CS_sheet_53 ⟨congrArg (fun z => some (Value.int z)) (by unfold an_sheet; (try simp only [jlt, jle, jeq, kt_0, kt_1, kt_2, kt_3, kt_4, kt_5, kt_6, kt_7, kt_8, kt_9, kt_10, kt_11, kt_12, kt_13, kt_15, kt_16, kt_19, kt_20, kt_24, kt_25, kt_31, kt_32, kt_40, kt_50, kt_60, kt_63, kt_100, kt_120, kt_255, kt_300, kt_999999, kt_1000000, kt_m1, kt_m2, kt_m3, kt_m4, kt_m6, kt_m7, kt_m11, kt_m12, kt_m13, kt_m14, kt_m100] at c2); (try simp only [jlt, jle, jeq, kt_0, kt_1, kt_2, kt_3, kt_4, kt_5, kt_6, kt_7, kt_8, kt_9, kt_10, kt_11, kt_12, kt_13, kt_15, kt_16, kt_19, kt_20, kt_24, kt_25, kt_31, kt_32, kt_40, kt_50, kt_60, kt_63, kt_100, kt_120, kt_255, kt_300, kt_999999, kt_1000000, kt_m1, kt_m2, kt_m3, kt_m4, kt_m6, kt_m7, kt_m11, kt_m12, kt_m13, kt_m14, kt_m100] at c3); (try simp only [jlt, jle, jeq, kt_0, kt_1, kt_2, kt_3, kt_4, kt_5, kt_6, kt_7, kt_8, kt_9, kt_10, kt_11, kt_12, kt_13, kt_15, kt_16, kt_19, kt_20, kt_24, kt_25, kt_31, kt_32, kt_40, kt_50, kt_60, kt_63, kt_100, kt_120, kt_255, kt_300, kt_999999, kt_1000000, kt_m1, kt_m2, kt_m3, kt_m4, kt_m6, kt_m7, kt_m11, kt_m12, kt_m13, kt_m14, kt_m100] at c4); (try simp only [jlt, jle, jeq, kt_0, kt_1, kt_2, kt_3, kt_4, kt_5, kt_6, kt_7, kt_8, kt_9, kt_10, kt_11, kt_12, kt_13, kt_15, kt_16, kt_19, kt_20, kt_24, kt_25, kt_31, kt_32, kt_40, kt_50, kt_60, kt_63, kt_100, kt_120, kt_255, kt_300, kt_999999, kt_1000000, kt_m1, kt_m2, kt_m3, kt_m4, kt_m6, kt_m7, kt_m11, kt_m12, kt_m13, kt_m14, kt_m100] at c5); (try simp only [jlt, jle, jeq, kt_0, kt_1, kt_2, kt_3, kt_4, kt_5, kt_6, kt_7, kt_8, kt_9, kt_10, kt_11, kt_12, kt_13, kt_15, kt_16, kt_19, kt_20, kt_24, kt_25, kt_31, kt_32, kt_40, kt_50, kt_60, kt_63, kt_100, kt_120, kt_255, kt_300, kt_999999, kt_1000000, kt_m1, kt_m2, kt_m3, kt_m4, kt_m6, kt_m7, kt_m11, kt_m12, kt_m13, kt_m14, kt_m100] at c6); (try simp only [jlt, jle, jeq, kt_0, kt_1, kt_2, kt_3, kt_4, kt_5, kt_6, kt_7, kt_8, kt_9, kt_10, kt_11, kt_12, kt_13, kt_15, kt_16, kt_19, kt_20, kt_24, kt_25, kt_31, kt_32, kt_40, kt_50, kt_60, kt_63, kt_100, kt_120, kt_255, kt_300, kt_999999, kt_1000000, kt_m1, kt_m2, kt_m3, kt_m4, kt_m6, kt_m7, kt_m11, kt_m12, kt_m13, kt_m14, kt_m100] at c7);  (repeat' split) <;> first | rfl | (exfalso; omega)), fr0⟩ (jbnd hk.1 rfl) (jbnd hk.2 rfl)
          · refine j_blk 46 [(0, .ref x), (1, .int s), (2, .int k), (3, .int n)] [.int (-2)] C k_c_CS_sheet_44_1 rfl ?_
            exact j_iret C Rm E d_c_CS_sheet_46 ⟨congrArg (fun z => some (Value.int z)) (by unfold an_sheet; (try simp only [jlt, jle, jeq, kt_0, kt_1, kt_2, kt_3, kt_4, kt_5, kt_6, kt_7, kt_8, kt_9, kt_10, kt_11, kt_12, kt_13, kt_15, kt_16, kt_19, kt_20, kt_24, kt_25, kt_31, kt_32, kt_40, kt_50, kt_60, kt_63, kt_100, kt_120, kt_255, kt_300, kt_999999, kt_1000000, kt_m1, kt_m2, kt_m3, kt_m4, kt_m6, kt_m7, kt_m11, kt_m12, kt_m13, kt_m14, kt_m100] at c2); (try simp only [jlt, jle, jeq, kt_0, kt_1, kt_2, kt_3, kt_4, kt_5, kt_6, kt_7, kt_8, kt_9, kt_10, kt_11, kt_12, kt_13, kt_15, kt_16, kt_19, kt_20, kt_24, kt_25, kt_31, kt_32, kt_40, kt_50, kt_60, kt_63, kt_100, kt_120, kt_255, kt_300, kt_999999, kt_1000000, kt_m1, kt_m2, kt_m3, kt_m4, kt_m6, kt_m7, kt_m11, kt_m12, kt_m13, kt_m14, kt_m100] at c3); (try simp only [jlt, jle, jeq, kt_0, kt_1, kt_2, kt_3, kt_4, kt_5, kt_6, kt_7, kt_8, kt_9, kt_10, kt_11, kt_12, kt_13, kt_15, kt_16, kt_19, kt_20, kt_24, kt_25, kt_31, kt_32, kt_40, kt_50, kt_60, kt_63, kt_100, kt_120, kt_255, kt_300, kt_999999, kt_1000000, kt_m1, kt_m2, kt_m3, kt_m4, kt_m6, kt_m7, kt_m11, kt_m12, kt_m13, kt_m14, kt_m100] at c4); (try simp only [jlt, jle, jeq, kt_0, kt_1, kt_2, kt_3, kt_4, kt_5, kt_6, kt_7, kt_8, kt_9, kt_10, kt_11, kt_12, kt_13, kt_15, kt_16, kt_19, kt_20, kt_24, kt_25, kt_31, kt_32, kt_40, kt_50, kt_60, kt_63, kt_100, kt_120, kt_255, kt_300, kt_999999, kt_1000000, kt_m1, kt_m2, kt_m3, kt_m4, kt_m6, kt_m7, kt_m11, kt_m12, kt_m13, kt_m14, kt_m100] at c5); (try simp only [jlt, jle, jeq, kt_0, kt_1, kt_2, kt_3, kt_4, kt_5, kt_6, kt_7, kt_8, kt_9, kt_10, kt_11, kt_12, kt_13, kt_15, kt_16, kt_19, kt_20, kt_24, kt_25, kt_31, kt_32, kt_40, kt_50, kt_60, kt_63, kt_100, kt_120, kt_255, kt_300, kt_999999, kt_1000000, kt_m1, kt_m2, kt_m3, kt_m4, kt_m6, kt_m7, kt_m11, kt_m12, kt_m13, kt_m14, kt_m100] at c6);  (repeat' split) <;> first | rfl | (exfalso; omega)), fr0⟩ (jbnd hk.1 rfl) (jbnd hk.2 rfl)
        · refine j_blk 26 [(0, .ref x), (1, .int s), (2, .int k), (3, .int n)] [.ref x] C k_c_CS_sheet_25_1 rfl ?_
          refine j_get C d_c_CS_sheet_26 fg_CS_21 hx h8 ?_
          refine j_blk 30 [(0, .ref x), (1, .int s), (2, .int k), (3, .int n)] [.int s, .ref sh] C k_c_CS_sheet_29_1 rfl ?_
          obtain ⟨s10, es10, Vs10, hFs10, ms10, zs10, sos10, sis10, mes10, ls10, les10⟩ := fx (Int32.toNatClampNeg s) (jcl (by (try simp only [jlt, jle, jeq, kt_0, kt_1, kt_2, kt_3, kt_4, kt_5, kt_6, kt_7, kt_8, kt_9, kt_10, kt_11, kt_12, kt_13, kt_15, kt_16, kt_19, kt_20, kt_24, kt_25, kt_31, kt_32, kt_40, kt_50, kt_60, kt_63, kt_100, kt_120, kt_255, kt_300, kt_999999, kt_1000000, kt_m1, kt_m2, kt_m3, kt_m4, kt_m6, kt_m7, kt_m11, kt_m12, kt_m13, kt_m14, kt_m100] at c2); (try simp only [jlt, jle, jeq, kt_0, kt_1, kt_2, kt_3, kt_4, kt_5, kt_6, kt_7, kt_8, kt_9, kt_10, kt_11, kt_12, kt_13, kt_15, kt_16, kt_19, kt_20, kt_24, kt_25, kt_31, kt_32, kt_40, kt_50, kt_60, kt_63, kt_100, kt_120, kt_255, kt_300, kt_999999, kt_1000000, kt_m1, kt_m2, kt_m3, kt_m4, kt_m6, kt_m7, kt_m11, kt_m12, kt_m13, kt_m14, kt_m100] at c3); (try simp only [jlt, jle, jeq, kt_0, kt_1, kt_2, kt_3, kt_4, kt_5, kt_6, kt_7, kt_8, kt_9, kt_10, kt_11, kt_12, kt_13, kt_15, kt_16, kt_19, kt_20, kt_24, kt_25, kt_31, kt_32, kt_40, kt_50, kt_60, kt_63, kt_100, kt_120, kt_255, kt_300, kt_999999, kt_1000000, kt_m1, kt_m2, kt_m3, kt_m4, kt_m6, kt_m7, kt_m11, kt_m12, kt_m13, kt_m14, kt_m100] at c4); (try simp only [jlt, jle, jeq, kt_0, kt_1, kt_2, kt_3, kt_4, kt_5, kt_6, kt_7, kt_8, kt_9, kt_10, kt_11, kt_12, kt_13, kt_15, kt_16, kt_19, kt_20, kt_24, kt_25, kt_31, kt_32, kt_40, kt_50, kt_60, kt_63, kt_100, kt_120, kt_255, kt_300, kt_999999, kt_1000000, kt_m1, kt_m2, kt_m3, kt_m4, kt_m6, kt_m7, kt_m11, kt_m12, kt_m13, kt_m14, kt_m100] at c5); (try simp only [kt_0, kt_1, kt_2, kt_3, kt_4, kt_5, kt_6, kt_7, kt_8, kt_9, kt_10, kt_11, kt_12, kt_13, kt_15, kt_16, kt_19, kt_20, kt_24, kt_25, kt_31, kt_32, kt_40, kt_50, kt_60, kt_63, kt_100, kt_120, kt_255, kt_300, kt_999999, kt_1000000, kt_m1, kt_m2, kt_m3, kt_m4, kt_m6, kt_m7, kt_m11, kt_m12, kt_m13, kt_m14, kt_m100]); omega) (by (try simp only [jlt, jle, jeq, kt_0, kt_1, kt_2, kt_3, kt_4, kt_5, kt_6, kt_7, kt_8, kt_9, kt_10, kt_11, kt_12, kt_13, kt_15, kt_16, kt_19, kt_20, kt_24, kt_25, kt_31, kt_32, kt_40, kt_50, kt_60, kt_63, kt_100, kt_120, kt_255, kt_300, kt_999999, kt_1000000, kt_m1, kt_m2, kt_m3, kt_m4, kt_m6, kt_m7, kt_m11, kt_m12, kt_m13, kt_m14, kt_m100] at c2); (try simp only [jlt, jle, jeq, kt_0, kt_1, kt_2, kt_3, kt_4, kt_5, kt_6, kt_7, kt_8, kt_9, kt_10, kt_11, kt_12, kt_13, kt_15, kt_16, kt_19, kt_20, kt_24, kt_25, kt_31, kt_32, kt_40, kt_50, kt_60, kt_63, kt_100, kt_120, kt_255, kt_300, kt_999999, kt_1000000, kt_m1, kt_m2, kt_m3, kt_m4, kt_m6, kt_m7, kt_m11, kt_m12, kt_m13, kt_m14, kt_m100] at c3); (try simp only [jlt, jle, jeq, kt_0, kt_1, kt_2, kt_3, kt_4, kt_5, kt_6, kt_7, kt_8, kt_9, kt_10, kt_11, kt_12, kt_13, kt_15, kt_16, kt_19, kt_20, kt_24, kt_25, kt_31, kt_32, kt_40, kt_50, kt_60, kt_63, kt_100, kt_120, kt_255, kt_300, kt_999999, kt_1000000, kt_m1, kt_m2, kt_m3, kt_m4, kt_m6, kt_m7, kt_m11, kt_m12, kt_m13, kt_m14, kt_m100] at c4); (try simp only [jlt, jle, jeq, kt_0, kt_1, kt_2, kt_3, kt_4, kt_5, kt_6, kt_7, kt_8, kt_9, kt_10, kt_11, kt_12, kt_13, kt_15, kt_16, kt_19, kt_20, kt_24, kt_25, kt_31, kt_32, kt_40, kt_50, kt_60, kt_63, kt_100, kt_120, kt_255, kt_300, kt_999999, kt_1000000, kt_m1, kt_m2, kt_m3, kt_m4, kt_m6, kt_m7, kt_m11, kt_m12, kt_m13, kt_m14, kt_m100] at c5); (try simp only [kt_0, kt_1, kt_2, kt_3, kt_4, kt_5, kt_6, kt_7, kt_8, kt_9, kt_10, kt_11, kt_12, kt_13, kt_15, kt_16, kt_19, kt_20, kt_24, kt_25, kt_31, kt_32, kt_40, kt_50, kt_60, kt_63, kt_100, kt_120, kt_255, kt_300, kt_999999, kt_1000000, kt_m1, kt_m2, kt_m3, kt_m4, kt_m6, kt_m7, kt_m11, kt_m12, kt_m13, kt_m14, kt_m100]); omega))
          refine j_aald (v := .ref s10) C d_c_CS_sheet_30 (by rfl) rfl hsh (jin (by (try simp only [jlt, jle, jeq, kt_0, kt_1, kt_2, kt_3, kt_4, kt_5, kt_6, kt_7, kt_8, kt_9, kt_10, kt_11, kt_12, kt_13, kt_15, kt_16, kt_19, kt_20, kt_24, kt_25, kt_31, kt_32, kt_40, kt_50, kt_60, kt_63, kt_100, kt_120, kt_255, kt_300, kt_999999, kt_1000000, kt_m1, kt_m2, kt_m3, kt_m4, kt_m6, kt_m7, kt_m11, kt_m12, kt_m13, kt_m14, kt_m100] at c2); (try simp only [jlt, jle, jeq, kt_0, kt_1, kt_2, kt_3, kt_4, kt_5, kt_6, kt_7, kt_8, kt_9, kt_10, kt_11, kt_12, kt_13, kt_15, kt_16, kt_19, kt_20, kt_24, kt_25, kt_31, kt_32, kt_40, kt_50, kt_60, kt_63, kt_100, kt_120, kt_255, kt_300, kt_999999, kt_1000000, kt_m1, kt_m2, kt_m3, kt_m4, kt_m6, kt_m7, kt_m11, kt_m12, kt_m13, kt_m14, kt_m100] at c3); (try simp only [jlt, jle, jeq, kt_0, kt_1, kt_2, kt_3, kt_4, kt_5, kt_6, kt_7, kt_8, kt_9, kt_10, kt_11, kt_12, kt_13, kt_15, kt_16, kt_19, kt_20, kt_24, kt_25, kt_31, kt_32, kt_40, kt_50, kt_60, kt_63, kt_100, kt_120, kt_255, kt_300, kt_999999, kt_1000000, kt_m1, kt_m2, kt_m3, kt_m4, kt_m6, kt_m7, kt_m11, kt_m12, kt_m13, kt_m14, kt_m100] at c4); (try simp only [jlt, jle, jeq, kt_0, kt_1, kt_2, kt_3, kt_4, kt_5, kt_6, kt_7, kt_8, kt_9, kt_10, kt_11, kt_12, kt_13, kt_15, kt_16, kt_19, kt_20, kt_24, kt_25, kt_31, kt_32, kt_40, kt_50, kt_60, kt_63, kt_100, kt_120, kt_255, kt_300, kt_999999, kt_1000000, kt_m1, kt_m2, kt_m3, kt_m4, kt_m6, kt_m7, kt_m11, kt_m12, kt_m13, kt_m14, kt_m100] at c5); (try simp only [kt_0, kt_1, kt_2, kt_3, kt_4, kt_5, kt_6, kt_7, kt_8, kt_9, kt_10, kt_11, kt_12, kt_13, kt_15, kt_16, kt_19, kt_20, kt_24, kt_25, kt_31, kt_32, kt_40, kt_50, kt_60, kt_63, kt_100, kt_120, kt_255, kt_300, kt_999999, kt_1000000, kt_m1, kt_m2, kt_m3, kt_m4, kt_m6, kt_m7, kt_m11, kt_m12, kt_m13, kt_m14, kt_m100]); omega) (by (try simp only [jlt, jle, jeq, kt_0, kt_1, kt_2, kt_3, kt_4, kt_5, kt_6, kt_7, kt_8, kt_9, kt_10, kt_11, kt_12, kt_13, kt_15, kt_16, kt_19, kt_20, kt_24, kt_25, kt_31, kt_32, kt_40, kt_50, kt_60, kt_63, kt_100, kt_120, kt_255, kt_300, kt_999999, kt_1000000, kt_m1, kt_m2, kt_m3, kt_m4, kt_m6, kt_m7, kt_m11, kt_m12, kt_m13, kt_m14, kt_m100] at c2); (try simp only [jlt, jle, jeq, kt_0, kt_1, kt_2, kt_3, kt_4, kt_5, kt_6, kt_7, kt_8, kt_9, kt_10, kt_11, kt_12, kt_13, kt_15, kt_16, kt_19, kt_20, kt_24, kt_25, kt_31, kt_32, kt_40, kt_50, kt_60, kt_63, kt_100, kt_120, kt_255, kt_300, kt_999999, kt_1000000, kt_m1, kt_m2, kt_m3, kt_m4, kt_m6, kt_m7, kt_m11, kt_m12, kt_m13, kt_m14, kt_m100] at c3); (try simp only [jlt, jle, jeq, kt_0, kt_1, kt_2, kt_3, kt_4, kt_5, kt_6, kt_7, kt_8, kt_9, kt_10, kt_11, kt_12, kt_13, kt_15, kt_16, kt_19, kt_20, kt_24, kt_25, kt_31, kt_32, kt_40, kt_50, kt_60, kt_63, kt_100, kt_120, kt_255, kt_300, kt_999999, kt_1000000, kt_m1, kt_m2, kt_m3, kt_m4, kt_m6, kt_m7, kt_m11, kt_m12, kt_m13, kt_m14, kt_m100] at c4); (try simp only [jlt, jle, jeq, kt_0, kt_1, kt_2, kt_3, kt_4, kt_5, kt_6, kt_7, kt_8, kt_9, kt_10, kt_11, kt_12, kt_13, kt_15, kt_16, kt_19, kt_20, kt_24, kt_25, kt_31, kt_32, kt_40, kt_50, kt_60, kt_63, kt_100, kt_120, kt_255, kt_300, kt_999999, kt_1000000, kt_m1, kt_m2, kt_m3, kt_m4, kt_m6, kt_m7, kt_m11, kt_m12, kt_m13, kt_m14, kt_m100] at c5); (try simp only [kt_0, kt_1, kt_2, kt_3, kt_4, kt_5, kt_6, kt_7, kt_8, kt_9, kt_10, kt_11, kt_12, kt_13, kt_15, kt_16, kt_19, kt_20, kt_24, kt_25, kt_31, kt_32, kt_40, kt_50, kt_60, kt_63, kt_100, kt_120, kt_255, kt_300, kt_999999, kt_1000000, kt_m1, kt_m2, kt_m3, kt_m4, kt_m6, kt_m7, kt_m11, kt_m12, kt_m13, kt_m14, kt_m100]); omega)) (congrArg va_rf hFs10) ?_
          refine j_blk 33 [(0, .ref x), (1, .int s), (2, .int k), (3, .int n)] [.int 0, .int (-1), .ref s10] C k_c_CS_sheet_31_2 rfl ?_
          refine j_callV C Rm Y [.int (-1), .int 0] [] (c_Sheet_become l D B H0 w s10 es10 Vs10 (-1) 0 (fun _ => 0) ms10 zs10 mes10) cl_CS_223 (by rfl) (by rfl) ms10 d_c_CS_sheet_33 rfl rfl (Nat.le_of_ble_eq_true rfl) ⟨by decide, by decide⟩ ⟨jroom hk.1 rfl, jroom hk.2 rfl⟩ (fun v11 w_3 pw_3 => ?_)
          obtain ⟨rfl, hc_w_3, G_w_3⟩ := pw_3
          have hk_w_3 := jkT hk hc_w_3
          have fr_w_3 := jfrT fr0 G_w_3 (fun b e hb hv => ⟨(fun b e hb _ => Nat.ne_of_gt (Nat.lt_of_lt_of_le ls10 hb)) b e hb hv, (fun b e hb _ => Nat.ne_of_gt (Nat.lt_of_lt_of_le les10 hb)) b e hb hv⟩)
          show JJ g w_3 36 [(0, .ref x), (1, .int s), (2, .int k), (3, .int n)] []
          refine j_blk 37 [(0, .ref x), (1, .int s), (2, .int k), (3, .int n)] [.int 1] C k_c_CS_sheet_36_1 rfl ?_
          exact j_iret C Rm E d_c_CS_sheet_37 ⟨congrArg (fun z => some (Value.int z)) (by unfold an_sheet; (try simp only [jlt, jle, jeq, kt_0, kt_1, kt_2, kt_3, kt_4, kt_5, kt_6, kt_7, kt_8, kt_9, kt_10, kt_11, kt_12, kt_13, kt_15, kt_16, kt_19, kt_20, kt_24, kt_25, kt_31, kt_32, kt_40, kt_50, kt_60, kt_63, kt_100, kt_120, kt_255, kt_300, kt_999999, kt_1000000, kt_m1, kt_m2, kt_m3, kt_m4, kt_m6, kt_m7, kt_m11, kt_m12, kt_m13, kt_m14, kt_m100] at c2); (try simp only [jlt, jle, jeq, kt_0, kt_1, kt_2, kt_3, kt_4, kt_5, kt_6, kt_7, kt_8, kt_9, kt_10, kt_11, kt_12, kt_13, kt_15, kt_16, kt_19, kt_20, kt_24, kt_25, kt_31, kt_32, kt_40, kt_50, kt_60, kt_63, kt_100, kt_120, kt_255, kt_300, kt_999999, kt_1000000, kt_m1, kt_m2, kt_m3, kt_m4, kt_m6, kt_m7, kt_m11, kt_m12, kt_m13, kt_m14, kt_m100] at c3); (try simp only [jlt, jle, jeq, kt_0, kt_1, kt_2, kt_3, kt_4, kt_5, kt_6, kt_7, kt_8, kt_9, kt_10, kt_11, kt_12, kt_13, kt_15, kt_16, kt_19, kt_20, kt_24, kt_25, kt_31, kt_32, kt_40, kt_50, kt_60, kt_63, kt_100, kt_120, kt_255, kt_300, kt_999999, kt_1000000, kt_m1, kt_m2, kt_m3, kt_m4, kt_m6, kt_m7, kt_m11, kt_m12, kt_m13, kt_m14, kt_m100] at c4); (try simp only [jlt, jle, jeq, kt_0, kt_1, kt_2, kt_3, kt_4, kt_5, kt_6, kt_7, kt_8, kt_9, kt_10, kt_11, kt_12, kt_13, kt_15, kt_16, kt_19, kt_20, kt_24, kt_25, kt_31, kt_32, kt_40, kt_50, kt_60, kt_63, kt_100, kt_120, kt_255, kt_300, kt_999999, kt_1000000, kt_m1, kt_m2, kt_m3, kt_m4, kt_m6, kt_m7, kt_m11, kt_m12, kt_m13, kt_m14, kt_m100] at c5);  (repeat' split) <;> first | rfl | (exfalso; omega)), fr_w_3⟩ (jbnd hk_w_3.1 rfl) (jbnd hk_w_3.2 rfl)
      · refine j_blk 19 [(0, .ref x), (1, .int s), (2, .int k), (3, .int n)] [.int (-2)] C k_c_CS_sheet_17_1 rfl ?_
        exact j_iret C Rm E d_c_CS_sheet_19 ⟨congrArg (fun z => some (Value.int z)) (by unfold an_sheet; (try simp only [jlt, jle, jeq, kt_0, kt_1, kt_2, kt_3, kt_4, kt_5, kt_6, kt_7, kt_8, kt_9, kt_10, kt_11, kt_12, kt_13, kt_15, kt_16, kt_19, kt_20, kt_24, kt_25, kt_31, kt_32, kt_40, kt_50, kt_60, kt_63, kt_100, kt_120, kt_255, kt_300, kt_999999, kt_1000000, kt_m1, kt_m2, kt_m3, kt_m4, kt_m6, kt_m7, kt_m11, kt_m12, kt_m13, kt_m14, kt_m100] at c2); (try simp only [jlt, jle, jeq, kt_0, kt_1, kt_2, kt_3, kt_4, kt_5, kt_6, kt_7, kt_8, kt_9, kt_10, kt_11, kt_12, kt_13, kt_15, kt_16, kt_19, kt_20, kt_24, kt_25, kt_31, kt_32, kt_40, kt_50, kt_60, kt_63, kt_100, kt_120, kt_255, kt_300, kt_999999, kt_1000000, kt_m1, kt_m2, kt_m3, kt_m4, kt_m6, kt_m7, kt_m11, kt_m12, kt_m13, kt_m14, kt_m100] at c3); (try simp only [jlt, jle, jeq, kt_0, kt_1, kt_2, kt_3, kt_4, kt_5, kt_6, kt_7, kt_8, kt_9, kt_10, kt_11, kt_12, kt_13, kt_15, kt_16, kt_19, kt_20, kt_24, kt_25, kt_31, kt_32, kt_40, kt_50, kt_60, kt_63, kt_100, kt_120, kt_255, kt_300, kt_999999, kt_1000000, kt_m1, kt_m2, kt_m3, kt_m4, kt_m6, kt_m7, kt_m11, kt_m12, kt_m13, kt_m14, kt_m100] at c4);  (repeat' split) <;> first | rfl | (exfalso; omega)), fr0⟩ (jbnd hk.1 rfl) (jbnd hk.2 rfl)

theorem k_c_CS_cell_0_1 : sblk b_CS_cell [(0, .iload_n 1, .null)] := sblk_of (by decide +kernel)
theorem d_c_CS_cell_1 : decode b_CS_cell 1 = .ok (.invokestatic 200, 3) := by decide +kernel
theorem d_c_CS_cell_4 : decode b_CS_cell 4 = .ok (.ifCond .ne 6, 3) := by decide +kernel
theorem k_c_CS_cell_10_1 : sblk b_CS_cell [(10, .aload_n 0, .null)] := sblk_of (by decide +kernel)
theorem d_c_CS_cell_11 : decode b_CS_cell 11 = .ok (.getfield 21, 3) := by decide +kernel
theorem k_c_CS_cell_14_1 : sblk b_CS_cell [(14, .iload_n 1, .null)] := sblk_of (by decide +kernel)
theorem d_c_CS_cell_15 : decode b_CS_cell 15 = .ok (.aaload, 1) := by decide +kernel
theorem k_c_CS_cell_16_2 : sblk b_CS_cell [(16, .astore 4, .null), (18, .aload 4, .null)] := sblk_of (by decide +kernel)
theorem d_c_CS_cell_20 : decode b_CS_cell 20 = .ok (.getfield 203, 3) := by decide +kernel
theorem k_c_CS_cell_23_1 : sblk b_CS_cell [(23, .iconst (-1), .int (-1))] := sblk_of (by decide +kernel)
theorem d_c_CS_cell_24 : decode b_CS_cell 24 = .ok (.if_icmp .ne 6, 3) := by decide +kernel
theorem k_c_CS_cell_27_1 : sblk b_CS_cell [(27, .bipush (-11), .int (-11))] := sblk_of (by decide +kernel)
theorem d_c_CS_cell_29 : decode b_CS_cell 29 = .ok (.ireturn, 1) := by decide +kernel
theorem k_c_CS_cell_7_1 : sblk b_CS_cell [(7, .bipush (-2), .int (-2))] := sblk_of (by decide +kernel)
theorem d_c_CS_cell_9 : decode b_CS_cell 9 = .ok (.ireturn, 1) := by decide +kernel
set_option maxHeartbeats 40000000 in
set_option maxRecDepth 100000 in
theorem c_CS_cell (l : Launch) (D : va_G) (B : Nat) (H0 : Heap) (w : jW) (x : Nat) (V : Nat → Value) (s : Int32) (i : Int32) (u : Int32) (sh : Nat) (F : Nat → Option Nat) (hx : w.1 x = some (.inr (8, V))) (h8 : V 8 = .ref sh) (hsh : w.1 sh = some (aR D 9 4 F)) (q : Nat) (xq : x < q) (fx : fxS D w F q) : jMet l D B H0 y_CS_cell b_CS_cell 5 (some .int) 3 160 0 0 [.ref x, .int s, .int i, .int u] w (fun v w9 => v = some (.int (an_cell s)) ∧ jfr (fun b => q ≤ b) w w9) := by
  refine j_met (by decide) (Nat.le_of_ble_eq_true rfl) (fun g C Rm Y E => ?_)
  have hk := jkz w
  have fr0 : jfr (fun b => q ≤ b) w w := jfr0
  show JJ g w 0 [(0, .ref x), (1, .int s), (2, .int i), (3, .int u)] []
  refine j_blk 1 [(0, .ref x), (1, .int s), (2, .int i), (3, .int u)] [.int s] C k_c_CS_cell_0_1 rfl ?_
  refine j_callS (As := [.int s]) C Rm Y [] (c_CS_isSheet l D B H0 w s) cl_CS_200 d_c_CS_cell_1 rfl rfl (Nat.le_of_ble_eq_true rfl) ⟨by decide, by decide⟩ ⟨jroom hk.1 rfl, jroom hk.2 rfl⟩ (fun v1 w_1 pw_1 => ?_)
  obtain ⟨rfl, rfl⟩ := pw_1
  show JJ g w 4 [(0, .ref x), (1, .int s), (2, .int i), (3, .int u)] [.int (if 0 ≤ s.toInt ∧ s.toInt < 4 then 1 else 0)]
  refine j_if_ne (tgt := 10) C d_c_CS_cell_4 (by decide) (fun c2 => ?_) (fun c2 => ?_)
  · have c2 := jbo.mp c2
    refine j_blk 11 [(0, .ref x), (1, .int s), (2, .int i), (3, .int u)] [.ref x] C k_c_CS_cell_10_1 rfl ?_
    refine j_get C d_c_CS_cell_11 fg_CS_21 hx h8 ?_
    refine j_blk 15 [(0, .ref x), (1, .int s), (2, .int i), (3, .int u)] [.int s, .ref sh] C k_c_CS_cell_14_1 rfl ?_
    obtain ⟨s3, es3, Vs3, hFs3, ms3, zs3, sos3, sis3, mes3, ls3, les3⟩ := fx (Int32.toNatClampNeg s) (jcl (by (try simp only [jlt, jle, jeq, kt_0, kt_1, kt_2, kt_3, kt_4, kt_5, kt_6, kt_7, kt_8, kt_9, kt_10, kt_11, kt_12, kt_13, kt_15, kt_16, kt_19, kt_20, kt_24, kt_25, kt_31, kt_32, kt_40, kt_50, kt_60, kt_63, kt_100, kt_120, kt_255, kt_300, kt_999999, kt_1000000, kt_m1, kt_m2, kt_m3, kt_m4, kt_m6, kt_m7, kt_m11, kt_m12, kt_m13, kt_m14, kt_m100] at c2); (try simp only [kt_0, kt_1, kt_2, kt_3, kt_4, kt_5, kt_6, kt_7, kt_8, kt_9, kt_10, kt_11, kt_12, kt_13, kt_15, kt_16, kt_19, kt_20, kt_24, kt_25, kt_31, kt_32, kt_40, kt_50, kt_60, kt_63, kt_100, kt_120, kt_255, kt_300, kt_999999, kt_1000000, kt_m1, kt_m2, kt_m3, kt_m4, kt_m6, kt_m7, kt_m11, kt_m12, kt_m13, kt_m14, kt_m100]); omega) (by (try simp only [jlt, jle, jeq, kt_0, kt_1, kt_2, kt_3, kt_4, kt_5, kt_6, kt_7, kt_8, kt_9, kt_10, kt_11, kt_12, kt_13, kt_15, kt_16, kt_19, kt_20, kt_24, kt_25, kt_31, kt_32, kt_40, kt_50, kt_60, kt_63, kt_100, kt_120, kt_255, kt_300, kt_999999, kt_1000000, kt_m1, kt_m2, kt_m3, kt_m4, kt_m6, kt_m7, kt_m11, kt_m12, kt_m13, kt_m14, kt_m100] at c2); (try simp only [kt_0, kt_1, kt_2, kt_3, kt_4, kt_5, kt_6, kt_7, kt_8, kt_9, kt_10, kt_11, kt_12, kt_13, kt_15, kt_16, kt_19, kt_20, kt_24, kt_25, kt_31, kt_32, kt_40, kt_50, kt_60, kt_63, kt_100, kt_120, kt_255, kt_300, kt_999999, kt_1000000, kt_m1, kt_m2, kt_m3, kt_m4, kt_m6, kt_m7, kt_m11, kt_m12, kt_m13, kt_m14, kt_m100]); omega))
    refine j_aald (v := .ref s3) C d_c_CS_cell_15 (by rfl) rfl hsh (jin (by (try simp only [jlt, jle, jeq, kt_0, kt_1, kt_2, kt_3, kt_4, kt_5, kt_6, kt_7, kt_8, kt_9, kt_10, kt_11, kt_12, kt_13, kt_15, kt_16, kt_19, kt_20, kt_24, kt_25, kt_31, kt_32, kt_40, kt_50, kt_60, kt_63, kt_100, kt_120, kt_255, kt_300, kt_999999, kt_1000000, kt_m1, kt_m2, kt_m3, kt_m4, kt_m6, kt_m7, kt_m11, kt_m12, kt_m13, kt_m14, kt_m100] at c2); (try simp only [kt_0, kt_1, kt_2, kt_3, kt_4, kt_5, kt_6, kt_7, kt_8, kt_9, kt_10, kt_11, kt_12, kt_13, kt_15, kt_16, kt_19, kt_20, kt_24, kt_25, kt_31, kt_32, kt_40, kt_50, kt_60, kt_63, kt_100, kt_120, kt_255, kt_300, kt_999999, kt_1000000, kt_m1, kt_m2, kt_m3, kt_m4, kt_m6, kt_m7, kt_m11, kt_m12, kt_m13, kt_m14, kt_m100]); omega) (by (try simp only [jlt, jle, jeq, kt_0, kt_1, kt_2, kt_3, kt_4, kt_5, kt_6, kt_7, kt_8, kt_9, kt_10, kt_11, kt_12, kt_13, kt_15, kt_16, kt_19, kt_20, kt_24, kt_25, kt_31, kt_32, kt_40, kt_50, kt_60, kt_63, kt_100, kt_120, kt_255, kt_300, kt_999999, kt_1000000, kt_m1, kt_m2, kt_m3, kt_m4, kt_m6, kt_m7, kt_m11, kt_m12, kt_m13, kt_m14, kt_m100] at c2); (try simp only [kt_0, kt_1, kt_2, kt_3, kt_4, kt_5, kt_6, kt_7, kt_8, kt_9, kt_10, kt_11, kt_12, kt_13, kt_15, kt_16, kt_19, kt_20, kt_24, kt_25, kt_31, kt_32, kt_40, kt_50, kt_60, kt_63, kt_100, kt_120, kt_255, kt_300, kt_999999, kt_1000000, kt_m1, kt_m2, kt_m3, kt_m4, kt_m6, kt_m7, kt_m11, kt_m12, kt_m13, kt_m14, kt_m100]); omega)) (congrArg va_rf hFs3) ?_
    refine j_blk 20 [(4, .ref s3), (0, .ref x), (1, .int s), (2, .int i), (3, .int u)] [.ref s3] C k_c_CS_cell_16_2 rfl ?_
    refine j_get C d_c_CS_cell_20 fg_CS_203 ms3 sos3 ?_
    refine j_blk 24 [(4, .ref s3), (0, .ref x), (1, .int s), (2, .int i), (3, .int u)] [.int (-1), .int (-1)] C k_c_CS_cell_23_1 rfl ?_
    refine j_icmp_ne (tgt := 30) C d_c_CS_cell_24 (by decide) (fun c4 => absurd (by decide) c4) (fun c4 => ?_)
    refine j_blk 29 [(4, .ref s3), (0, .ref x), (1, .int s), (2, .int i), (3, .int u)] [.int (-11)] C k_c_CS_cell_27_1 rfl ?_
    exact j_iret C Rm E d_c_CS_cell_29 ⟨congrArg (fun z => some (Value.int z)) (by unfold an_cell; (try simp only [jlt, jle, jeq, kt_0, kt_1, kt_2, kt_3, kt_4, kt_5, kt_6, kt_7, kt_8, kt_9, kt_10, kt_11, kt_12, kt_13, kt_15, kt_16, kt_19, kt_20, kt_24, kt_25, kt_31, kt_32, kt_40, kt_50, kt_60, kt_63, kt_100, kt_120, kt_255, kt_300, kt_999999, kt_1000000, kt_m1, kt_m2, kt_m3, kt_m4, kt_m6, kt_m7, kt_m11, kt_m12, kt_m13, kt_m14, kt_m100] at c2); (try simp only [jlt, jle, jeq, kt_0, kt_1, kt_2, kt_3, kt_4, kt_5, kt_6, kt_7, kt_8, kt_9, kt_10, kt_11, kt_12, kt_13, kt_15, kt_16, kt_19, kt_20, kt_24, kt_25, kt_31, kt_32, kt_40, kt_50, kt_60, kt_63, kt_100, kt_120, kt_255, kt_300, kt_999999, kt_1000000, kt_m1, kt_m2, kt_m3, kt_m4, kt_m6, kt_m7, kt_m11, kt_m12, kt_m13, kt_m14, kt_m100] at c4);  (repeat' split) <;> first | rfl | (exfalso; omega)), fr0⟩ (jbnd hk.1 rfl) (jbnd hk.2 rfl)
  · have c2 := jbz.mp c2
    refine j_blk 9 [(0, .ref x), (1, .int s), (2, .int i), (3, .int u)] [.int (-2)] C k_c_CS_cell_7_1 rfl ?_
    exact j_iret C Rm E d_c_CS_cell_9 ⟨congrArg (fun z => some (Value.int z)) (by unfold an_cell; (try simp only [jlt, jle, jeq, kt_0, kt_1, kt_2, kt_3, kt_4, kt_5, kt_6, kt_7, kt_8, kt_9, kt_10, kt_11, kt_12, kt_13, kt_15, kt_16, kt_19, kt_20, kt_24, kt_25, kt_31, kt_32, kt_40, kt_50, kt_60, kt_63, kt_100, kt_120, kt_255, kt_300, kt_999999, kt_1000000, kt_m1, kt_m2, kt_m3, kt_m4, kt_m6, kt_m7, kt_m11, kt_m12, kt_m13, kt_m14, kt_m100] at c2);  (repeat' split) <;> first | rfl | (exfalso; omega)), fr0⟩ (jbnd hk.1 rfl) (jbnd hk.2 rfl)

theorem k_c_CS_copy_0_1 : sblk b_CS_copy [(0, .iload_n 1, .null)] := sblk_of (by decide +kernel)
theorem d_c_CS_copy_1 : decode b_CS_copy 1 = .ok (.invokestatic 200, 3) := by decide +kernel
theorem d_c_CS_copy_4 : decode b_CS_copy 4 = .ok (.ifCond .eq 10, 3) := by decide +kernel
theorem k_c_CS_copy_14_1 : sblk b_CS_copy [(14, .bipush (-2), .int (-2))] := sblk_of (by decide +kernel)
theorem d_c_CS_copy_16 : decode b_CS_copy 16 = .ok (.ireturn, 1) := by decide +kernel
theorem k_c_CS_copy_7_1 : sblk b_CS_copy [(7, .iload_n 3, .null)] := sblk_of (by decide +kernel)
theorem d_c_CS_copy_8 : decode b_CS_copy 8 = .ok (.invokestatic 200, 3) := by decide +kernel
theorem d_c_CS_copy_11 : decode b_CS_copy 11 = .ok (.ifCond .ne 6, 3) := by decide +kernel
theorem k_c_CS_copy_17_1 : sblk b_CS_copy [(17, .aload_n 0, .null)] := sblk_of (by decide +kernel)
theorem d_c_CS_copy_18 : decode b_CS_copy 18 = .ok (.getfield 21, 3) := by decide +kernel
theorem k_c_CS_copy_21_1 : sblk b_CS_copy [(21, .iload_n 1, .null)] := sblk_of (by decide +kernel)
theorem d_c_CS_copy_22 : decode b_CS_copy 22 = .ok (.aaload, 1) := by decide +kernel
theorem k_c_CS_copy_23_2 : sblk b_CS_copy [(23, .astore 6, .null), (25, .aload_n 0, .null)] := sblk_of (by decide +kernel)
theorem d_c_CS_copy_26 : decode b_CS_copy 26 = .ok (.getfield 21, 3) := by decide +kernel
theorem k_c_CS_copy_29_1 : sblk b_CS_copy [(29, .iload_n 3, .null)] := sblk_of (by decide +kernel)
theorem d_c_CS_copy_30 : decode b_CS_copy 30 = .ok (.aaload, 1) := by decide +kernel
theorem k_c_CS_copy_31_2 : sblk b_CS_copy [(31, .astore 7, .null), (33, .aload 6, .null)] := sblk_of (by decide +kernel)
theorem d_c_CS_copy_35 : decode b_CS_copy 35 = .ok (.getfield 203, 3) := by decide +kernel
theorem k_c_CS_copy_38_1 : sblk b_CS_copy [(38, .iconst (-1), .int (-1))] := sblk_of (by decide +kernel)
theorem d_c_CS_copy_39 : decode b_CS_copy 39 = .ok (.if_icmp .eq 12, 3) := by decide +kernel
theorem k_c_CS_copy_51_1 : sblk b_CS_copy [(51, .bipush (-11), .int (-11))] := sblk_of (by decide +kernel)
theorem d_c_CS_copy_53 : decode b_CS_copy 53 = .ok (.ireturn, 1) := by decide +kernel
set_option maxHeartbeats 40000000 in
set_option maxRecDepth 100000 in
theorem c_CS_copy (l : Launch) (D : va_G) (B : Nat) (H0 : Heap) (w : jW) (x : Nat) (V : Nat → Value) (s : Int32) (i : Int32) (o : Int32) (j : Int32) (n : Int32) (sh : Nat) (F : Nat → Option Nat) (hx : w.1 x = some (.inr (8, V))) (h8 : V 8 = .ref sh) (hsh : w.1 sh = some (aR D 9 4 F)) (q : Nat) (xq : x < q) (fx : fxS D w F q) : jMet l D B H0 y_CS_copy b_CS_copy 8 (some .int) 3 160 0 0 [.ref x, .int s, .int i, .int o, .int j, .int n] w (fun v w9 => v = some (.int (an_copy s o)) ∧ jfr (fun b => q ≤ b) w w9) := by
  refine j_met (by decide) (Nat.le_of_ble_eq_true rfl) (fun g C Rm Y E => ?_)
  have hk := jkz w
  have fr0 : jfr (fun b => q ≤ b) w w := jfr0
  show JJ g w 0 [(0, .ref x), (1, .int s), (2, .int i), (3, .int o), (4, .int j), (5, .int n)] []
  refine j_blk 1 [(0, .ref x), (1, .int s), (2, .int i), (3, .int o), (4, .int j), (5, .int n)] [.int s] C k_c_CS_copy_0_1 rfl ?_
  refine j_callS (As := [.int s]) C Rm Y [] (c_CS_isSheet l D B H0 w s) cl_CS_200 d_c_CS_copy_1 rfl rfl (Nat.le_of_ble_eq_true rfl) ⟨by decide, by decide⟩ ⟨jroom hk.1 rfl, jroom hk.2 rfl⟩ (fun v1 w_1 pw_1 => ?_)
  obtain ⟨rfl, rfl⟩ := pw_1
  show JJ g w 4 [(0, .ref x), (1, .int s), (2, .int i), (3, .int o), (4, .int j), (5, .int n)] [.int (if 0 ≤ s.toInt ∧ s.toInt < 4 then 1 else 0)]
  refine j_if_eq (tgt := 14) C d_c_CS_copy_4 (by decide) (fun c2 => ?_) (fun c2 => ?_)
  · have c2 := jbz.mp c2
    refine j_blk 16 [(0, .ref x), (1, .int s), (2, .int i), (3, .int o), (4, .int j), (5, .int n)] [.int (-2)] C k_c_CS_copy_14_1 rfl ?_
    exact j_iret C Rm E d_c_CS_copy_16 ⟨congrArg (fun z => some (Value.int z)) (by unfold an_copy; (try simp only [jlt, jle, jeq, kt_0, kt_1, kt_2, kt_3, kt_4, kt_5, kt_6, kt_7, kt_8, kt_9, kt_10, kt_11, kt_12, kt_13, kt_15, kt_16, kt_19, kt_20, kt_24, kt_25, kt_31, kt_32, kt_40, kt_50, kt_60, kt_63, kt_100, kt_120, kt_255, kt_300, kt_999999, kt_1000000, kt_m1, kt_m2, kt_m3, kt_m4, kt_m6, kt_m7, kt_m11, kt_m12, kt_m13, kt_m14, kt_m100] at c2);  (repeat' split) <;> first | rfl | (exfalso; omega)), fr0⟩ (jbnd hk.1 rfl) (jbnd hk.2 rfl)
  · have c2 := jbo.mp c2
    refine j_blk 8 [(0, .ref x), (1, .int s), (2, .int i), (3, .int o), (4, .int j), (5, .int n)] [.int o] C k_c_CS_copy_7_1 rfl ?_
    refine j_callS (As := [.int o]) C Rm Y [] (c_CS_isSheet l D B H0 w o) cl_CS_200 d_c_CS_copy_8 rfl rfl (Nat.le_of_ble_eq_true rfl) ⟨by decide, by decide⟩ ⟨jroom hk.1 rfl, jroom hk.2 rfl⟩ (fun v3 w_2 pw_2 => ?_)
    obtain ⟨rfl, rfl⟩ := pw_2
    show JJ g w 11 [(0, .ref x), (1, .int s), (2, .int i), (3, .int o), (4, .int j), (5, .int n)] [.int (if 0 ≤ o.toInt ∧ o.toInt < 4 then 1 else 0)]
    refine j_if_ne (tgt := 17) C d_c_CS_copy_11 (by decide) (fun c4 => ?_) (fun c4 => ?_)
    · have c4 := jbo.mp c4
      refine j_blk 18 [(0, .ref x), (1, .int s), (2, .int i), (3, .int o), (4, .int j), (5, .int n)] [.ref x] C k_c_CS_copy_17_1 rfl ?_
      refine j_get C d_c_CS_copy_18 fg_CS_21 hx h8 ?_
      refine j_blk 22 [(0, .ref x), (1, .int s), (2, .int i), (3, .int o), (4, .int j), (5, .int n)] [.int s, .ref sh] C k_c_CS_copy_21_1 rfl ?_
      obtain ⟨s5, es5, Vs5, hFs5, ms5, zs5, sos5, sis5, mes5, ls5, les5⟩ := fx (Int32.toNatClampNeg s) (jcl (by (try simp only [jlt, jle, jeq, kt_0, kt_1, kt_2, kt_3, kt_4, kt_5, kt_6, kt_7, kt_8, kt_9, kt_10, kt_11, kt_12, kt_13, kt_15, kt_16, kt_19, kt_20, kt_24, kt_25, kt_31, kt_32, kt_40, kt_50, kt_60, kt_63, kt_100, kt_120, kt_255, kt_300, kt_999999, kt_1000000, kt_m1, kt_m2, kt_m3, kt_m4, kt_m6, kt_m7, kt_m11, kt_m12, kt_m13, kt_m14, kt_m100] at c2); (try simp only [jlt, jle, jeq, kt_0, kt_1, kt_2, kt_3, kt_4, kt_5, kt_6, kt_7, kt_8, kt_9, kt_10, kt_11, kt_12, kt_13, kt_15, kt_16, kt_19, kt_20, kt_24, kt_25, kt_31, kt_32, kt_40, kt_50, kt_60, kt_63, kt_100, kt_120, kt_255, kt_300, kt_999999, kt_1000000, kt_m1, kt_m2, kt_m3, kt_m4, kt_m6, kt_m7, kt_m11, kt_m12, kt_m13, kt_m14, kt_m100] at c4); (try simp only [kt_0, kt_1, kt_2, kt_3, kt_4, kt_5, kt_6, kt_7, kt_8, kt_9, kt_10, kt_11, kt_12, kt_13, kt_15, kt_16, kt_19, kt_20, kt_24, kt_25, kt_31, kt_32, kt_40, kt_50, kt_60, kt_63, kt_100, kt_120, kt_255, kt_300, kt_999999, kt_1000000, kt_m1, kt_m2, kt_m3, kt_m4, kt_m6, kt_m7, kt_m11, kt_m12, kt_m13, kt_m14, kt_m100]); omega) (by (try simp only [jlt, jle, jeq, kt_0, kt_1, kt_2, kt_3, kt_4, kt_5, kt_6, kt_7, kt_8, kt_9, kt_10, kt_11, kt_12, kt_13, kt_15, kt_16, kt_19, kt_20, kt_24, kt_25, kt_31, kt_32, kt_40, kt_50, kt_60, kt_63, kt_100, kt_120, kt_255, kt_300, kt_999999, kt_1000000, kt_m1, kt_m2, kt_m3, kt_m4, kt_m6, kt_m7, kt_m11, kt_m12, kt_m13, kt_m14, kt_m100] at c2); (try simp only [jlt, jle, jeq, kt_0, kt_1, kt_2, kt_3, kt_4, kt_5, kt_6, kt_7, kt_8, kt_9, kt_10, kt_11, kt_12, kt_13, kt_15, kt_16, kt_19, kt_20, kt_24, kt_25, kt_31, kt_32, kt_40, kt_50, kt_60, kt_63, kt_100, kt_120, kt_255, kt_300, kt_999999, kt_1000000, kt_m1, kt_m2, kt_m3, kt_m4, kt_m6, kt_m7, kt_m11, kt_m12, kt_m13, kt_m14, kt_m100] at c4); (try simp only [kt_0, kt_1, kt_2, kt_3, kt_4, kt_5, kt_6, kt_7, kt_8, kt_9, kt_10, kt_11, kt_12, kt_13, kt_15, kt_16, kt_19, kt_20, kt_24, kt_25, kt_31, kt_32, kt_40, kt_50, kt_60, kt_63, kt_100, kt_120, kt_255, kt_300, kt_999999, kt_1000000, kt_m1, kt_m2, kt_m3, kt_m4, kt_m6, kt_m7, kt_m11, kt_m12, kt_m13, kt_m14, kt_m100]); omega))
      refine j_aald (v := .ref s5) C d_c_CS_copy_22 (by rfl) rfl hsh (jin (by (try simp only [jlt, jle, jeq, kt_0, kt_1, kt_2, kt_3, kt_4, kt_5, kt_6, kt_7, kt_8, kt_9, kt_10, kt_11, kt_12, kt_13, kt_15, kt_16, kt_19, kt_20, kt_24, kt_25, kt_31, kt_32, kt_40, kt_50, kt_60, kt_63, kt_100, kt_120, kt_255, kt_300, kt_999999, kt_1000000, kt_m1, kt_m2, kt_m3, kt_m4, kt_m6, kt_m7, kt_m11, kt_m12, kt_m13, kt_m14, kt_m100] at c2); (try simp only [jlt, jle, jeq, kt_0, kt_1, kt_2, kt_3, kt_4, kt_5, kt_6, kt_7, kt_8, kt_9, kt_10, kt_11, kt_12, kt_13, kt_15, kt_16, kt_19, kt_20, kt_24, kt_25, kt_31, kt_32, kt_40, kt_50, kt_60, kt_63, kt_100, kt_120, kt_255, kt_300, kt_999999, kt_1000000, kt_m1, kt_m2, kt_m3, kt_m4, kt_m6, kt_m7, kt_m11, kt_m12, kt_m13, kt_m14, kt_m100] at c4); (try simp only [kt_0, kt_1, kt_2, kt_3, kt_4, kt_5, kt_6, kt_7, kt_8, kt_9, kt_10, kt_11, kt_12, kt_13, kt_15, kt_16, kt_19, kt_20, kt_24, kt_25, kt_31, kt_32, kt_40, kt_50, kt_60, kt_63, kt_100, kt_120, kt_255, kt_300, kt_999999, kt_1000000, kt_m1, kt_m2, kt_m3, kt_m4, kt_m6, kt_m7, kt_m11, kt_m12, kt_m13, kt_m14, kt_m100]); omega) (by (try simp only [jlt, jle, jeq, kt_0, kt_1, kt_2, kt_3, kt_4, kt_5, kt_6, kt_7, kt_8, kt_9, kt_10, kt_11, kt_12, kt_13, kt_15, kt_16, kt_19, kt_20, kt_24, kt_25, kt_31, kt_32, kt_40, kt_50, kt_60, kt_63, kt_100, kt_120, kt_255, kt_300, kt_999999, kt_1000000, kt_m1, kt_m2, kt_m3, kt_m4, kt_m6, kt_m7, kt_m11, kt_m12, kt_m13, kt_m14, kt_m100] at c2); (try simp only [jlt, jle, jeq, kt_0, kt_1, kt_2, kt_3, kt_4, kt_5, kt_6, kt_7, kt_8, kt_9, kt_10, kt_11, kt_12, kt_13, kt_15, kt_16, kt_19, kt_20, kt_24, kt_25, kt_31, kt_32, kt_40, kt_50, kt_60, kt_63, kt_100, kt_120, kt_255, kt_300, kt_999999, kt_1000000, kt_m1, kt_m2, kt_m3, kt_m4, kt_m6, kt_m7, kt_m11, kt_m12, kt_m13, kt_m14, kt_m100] at c4); (try simp only [kt_0, kt_1, kt_2, kt_3, kt_4, kt_5, kt_6, kt_7, kt_8, kt_9, kt_10, kt_11, kt_12, kt_13, kt_15, kt_16, kt_19, kt_20, kt_24, kt_25, kt_31, kt_32, kt_40, kt_50, kt_60, kt_63, kt_100, kt_120, kt_255, kt_300, kt_999999, kt_1000000, kt_m1, kt_m2, kt_m3, kt_m4, kt_m6, kt_m7, kt_m11, kt_m12, kt_m13, kt_m14, kt_m100]); omega)) (congrArg va_rf hFs5) ?_
      refine j_blk 26 [(6, .ref s5), (0, .ref x), (1, .int s), (2, .int i), (3, .int o), (4, .int j), (5, .int n)] [.ref x] C k_c_CS_copy_23_2 rfl ?_
      refine j_get C d_c_CS_copy_26 fg_CS_21 hx h8 ?_
      refine j_blk 30 [(6, .ref s5), (0, .ref x), (1, .int s), (2, .int i), (3, .int o), (4, .int j), (5, .int n)] [.int o, .ref sh] C k_c_CS_copy_29_1 rfl ?_
      obtain ⟨s6, es6, Vs6, hFs6, ms6, zs6, sos6, sis6, mes6, ls6, les6⟩ := fx (Int32.toNatClampNeg o) (jcl (by (try simp only [jlt, jle, jeq, kt_0, kt_1, kt_2, kt_3, kt_4, kt_5, kt_6, kt_7, kt_8, kt_9, kt_10, kt_11, kt_12, kt_13, kt_15, kt_16, kt_19, kt_20, kt_24, kt_25, kt_31, kt_32, kt_40, kt_50, kt_60, kt_63, kt_100, kt_120, kt_255, kt_300, kt_999999, kt_1000000, kt_m1, kt_m2, kt_m3, kt_m4, kt_m6, kt_m7, kt_m11, kt_m12, kt_m13, kt_m14, kt_m100] at c2); (try simp only [jlt, jle, jeq, kt_0, kt_1, kt_2, kt_3, kt_4, kt_5, kt_6, kt_7, kt_8, kt_9, kt_10, kt_11, kt_12, kt_13, kt_15, kt_16, kt_19, kt_20, kt_24, kt_25, kt_31, kt_32, kt_40, kt_50, kt_60, kt_63, kt_100, kt_120, kt_255, kt_300, kt_999999, kt_1000000, kt_m1, kt_m2, kt_m3, kt_m4, kt_m6, kt_m7, kt_m11, kt_m12, kt_m13, kt_m14, kt_m100] at c4); (try simp only [kt_0, kt_1, kt_2, kt_3, kt_4, kt_5, kt_6, kt_7, kt_8, kt_9, kt_10, kt_11, kt_12, kt_13, kt_15, kt_16, kt_19, kt_20, kt_24, kt_25, kt_31, kt_32, kt_40, kt_50, kt_60, kt_63, kt_100, kt_120, kt_255, kt_300, kt_999999, kt_1000000, kt_m1, kt_m2, kt_m3, kt_m4, kt_m6, kt_m7, kt_m11, kt_m12, kt_m13, kt_m14, kt_m100]); omega) (by (try simp only [jlt, jle, jeq, kt_0, kt_1, kt_2, kt_3, kt_4, kt_5, kt_6, kt_7, kt_8, kt_9, kt_10, kt_11, kt_12, kt_13, kt_15, kt_16, kt_19, kt_20, kt_24, kt_25, kt_31, kt_32, kt_40, kt_50, kt_60, kt_63, kt_100, kt_120, kt_255, kt_300, kt_999999, kt_1000000, kt_m1, kt_m2, kt_m3, kt_m4, kt_m6, kt_m7, kt_m11, kt_m12, kt_m13, kt_m14, kt_m100] at c2); (try simp only [jlt, jle, jeq, kt_0, kt_1, kt_2, kt_3, kt_4, kt_5, kt_6, kt_7, kt_8, kt_9, kt_10, kt_11, kt_12, kt_13, kt_15, kt_16, kt_19, kt_20, kt_24, kt_25, kt_31, kt_32, kt_40, kt_50, kt_60, kt_63, kt_100, kt_120, kt_255, kt_300, kt_999999, kt_1000000, kt_m1, kt_m2, kt_m3, kt_m4, kt_m6, kt_m7, kt_m11, kt_m12, kt_m13, kt_m14, kt_m100] at c4); (try simp only [kt_0, kt_1, kt_2, kt_3, kt_4, kt_5, kt_6, kt_7, kt_8, kt_9, kt_10, kt_11, kt_12, kt_13, kt_15, kt_16, kt_19, kt_20, kt_24, kt_25, kt_31, kt_32, kt_40, kt_50, kt_60, kt_63, kt_100, kt_120, kt_255, kt_300, kt_999999, kt_1000000, kt_m1, kt_m2, kt_m3, kt_m4, kt_m6, kt_m7, kt_m11, kt_m12, kt_m13, kt_m14, kt_m100]); omega))
      refine j_aald (v := .ref s6) C d_c_CS_copy_30 (by rfl) rfl hsh (jin (by (try simp only [jlt, jle, jeq, kt_0, kt_1, kt_2, kt_3, kt_4, kt_5, kt_6, kt_7, kt_8, kt_9, kt_10, kt_11, kt_12, kt_13, kt_15, kt_16, kt_19, kt_20, kt_24, kt_25, kt_31, kt_32, kt_40, kt_50, kt_60, kt_63, kt_100, kt_120, kt_255, kt_300, kt_999999, kt_1000000, kt_m1, kt_m2, kt_m3, kt_m4, kt_m6, kt_m7, kt_m11, kt_m12, kt_m13, kt_m14, kt_m100] at c2); (try simp only [jlt, jle, jeq, kt_0, kt_1, kt_2, kt_3, kt_4, kt_5, kt_6, kt_7, kt_8, kt_9, kt_10, kt_11, kt_12, kt_13, kt_15, kt_16, kt_19, kt_20, kt_24, kt_25, kt_31, kt_32, kt_40, kt_50, kt_60, kt_63, kt_100, kt_120, kt_255, kt_300, kt_999999, kt_1000000, kt_m1, kt_m2, kt_m3, kt_m4, kt_m6, kt_m7, kt_m11, kt_m12, kt_m13, kt_m14, kt_m100] at c4); (try simp only [kt_0, kt_1, kt_2, kt_3, kt_4, kt_5, kt_6, kt_7, kt_8, kt_9, kt_10, kt_11, kt_12, kt_13, kt_15, kt_16, kt_19, kt_20, kt_24, kt_25, kt_31, kt_32, kt_40, kt_50, kt_60, kt_63, kt_100, kt_120, kt_255, kt_300, kt_999999, kt_1000000, kt_m1, kt_m2, kt_m3, kt_m4, kt_m6, kt_m7, kt_m11, kt_m12, kt_m13, kt_m14, kt_m100]); omega) (by (try simp only [jlt, jle, jeq, kt_0, kt_1, kt_2, kt_3, kt_4, kt_5, kt_6, kt_7, kt_8, kt_9, kt_10, kt_11, kt_12, kt_13, kt_15, kt_16, kt_19, kt_20, kt_24, kt_25, kt_31, kt_32, kt_40, kt_50, kt_60, kt_63, kt_100, kt_120, kt_255, kt_300, kt_999999, kt_1000000, kt_m1, kt_m2, kt_m3, kt_m4, kt_m6, kt_m7, kt_m11, kt_m12, kt_m13, kt_m14, kt_m100] at c2); (try simp only [jlt, jle, jeq, kt_0, kt_1, kt_2, kt_3, kt_4, kt_5, kt_6, kt_7, kt_8, kt_9, kt_10, kt_11, kt_12, kt_13, kt_15, kt_16, kt_19, kt_20, kt_24, kt_25, kt_31, kt_32, kt_40, kt_50, kt_60, kt_63, kt_100, kt_120, kt_255, kt_300, kt_999999, kt_1000000, kt_m1, kt_m2, kt_m3, kt_m4, kt_m6, kt_m7, kt_m11, kt_m12, kt_m13, kt_m14, kt_m100] at c4); (try simp only [kt_0, kt_1, kt_2, kt_3, kt_4, kt_5, kt_6, kt_7, kt_8, kt_9, kt_10, kt_11, kt_12, kt_13, kt_15, kt_16, kt_19, kt_20, kt_24, kt_25, kt_31, kt_32, kt_40, kt_50, kt_60, kt_63, kt_100, kt_120, kt_255, kt_300, kt_999999, kt_1000000, kt_m1, kt_m2, kt_m3, kt_m4, kt_m6, kt_m7, kt_m11, kt_m12, kt_m13, kt_m14, kt_m100]); omega)) (congrArg va_rf hFs6) ?_
      refine j_blk 35 [(7, .ref s6), (6, .ref s5), (0, .ref x), (1, .int s), (2, .int i), (3, .int o), (4, .int j), (5, .int n)] [.ref s5] C k_c_CS_copy_31_2 rfl ?_
      refine j_get C d_c_CS_copy_35 fg_CS_203 ms5 sos5 ?_
      refine j_blk 39 [(7, .ref s6), (6, .ref s5), (0, .ref x), (1, .int s), (2, .int i), (3, .int o), (4, .int j), (5, .int n)] [.int (-1), .int (-1)] C k_c_CS_copy_38_1 rfl ?_
      refine j_icmp_eq (tgt := 51) C d_c_CS_copy_39 (by decide) (fun c7 => ?_) (fun c7 => absurd (by decide) c7)
      refine j_blk 53 [(7, .ref s6), (6, .ref s5), (0, .ref x), (1, .int s), (2, .int i), (3, .int o), (4, .int j), (5, .int n)] [.int (-11)] C k_c_CS_copy_51_1 rfl ?_
      exact j_iret C Rm E d_c_CS_copy_53 ⟨congrArg (fun z => some (Value.int z)) (by unfold an_copy; (try simp only [jlt, jle, jeq, kt_0, kt_1, kt_2, kt_3, kt_4, kt_5, kt_6, kt_7, kt_8, kt_9, kt_10, kt_11, kt_12, kt_13, kt_15, kt_16, kt_19, kt_20, kt_24, kt_25, kt_31, kt_32, kt_40, kt_50, kt_60, kt_63, kt_100, kt_120, kt_255, kt_300, kt_999999, kt_1000000, kt_m1, kt_m2, kt_m3, kt_m4, kt_m6, kt_m7, kt_m11, kt_m12, kt_m13, kt_m14, kt_m100] at c2); (try simp only [jlt, jle, jeq, kt_0, kt_1, kt_2, kt_3, kt_4, kt_5, kt_6, kt_7, kt_8, kt_9, kt_10, kt_11, kt_12, kt_13, kt_15, kt_16, kt_19, kt_20, kt_24, kt_25, kt_31, kt_32, kt_40, kt_50, kt_60, kt_63, kt_100, kt_120, kt_255, kt_300, kt_999999, kt_1000000, kt_m1, kt_m2, kt_m3, kt_m4, kt_m6, kt_m7, kt_m11, kt_m12, kt_m13, kt_m14, kt_m100] at c4); (try simp only [jlt, jle, jeq, kt_0, kt_1, kt_2, kt_3, kt_4, kt_5, kt_6, kt_7, kt_8, kt_9, kt_10, kt_11, kt_12, kt_13, kt_15, kt_16, kt_19, kt_20, kt_24, kt_25, kt_31, kt_32, kt_40, kt_50, kt_60, kt_63, kt_100, kt_120, kt_255, kt_300, kt_999999, kt_1000000, kt_m1, kt_m2, kt_m3, kt_m4, kt_m6, kt_m7, kt_m11, kt_m12, kt_m13, kt_m14, kt_m100] at c7);  (repeat' split) <;> first | rfl | (exfalso; omega)), fr0⟩ (jbnd hk.1 rfl) (jbnd hk.2 rfl)
    · have c4 := jbz.mp c4
      refine j_blk 16 [(0, .ref x), (1, .int s), (2, .int i), (3, .int o), (4, .int j), (5, .int n)] [.int (-2)] C k_c_CS_copy_14_1 rfl ?_
      exact j_iret C Rm E d_c_CS_copy_16 ⟨congrArg (fun z => some (Value.int z)) (by unfold an_copy; (try simp only [jlt, jle, jeq, kt_0, kt_1, kt_2, kt_3, kt_4, kt_5, kt_6, kt_7, kt_8, kt_9, kt_10, kt_11, kt_12, kt_13, kt_15, kt_16, kt_19, kt_20, kt_24, kt_25, kt_31, kt_32, kt_40, kt_50, kt_60, kt_63, kt_100, kt_120, kt_255, kt_300, kt_999999, kt_1000000, kt_m1, kt_m2, kt_m3, kt_m4, kt_m6, kt_m7, kt_m11, kt_m12, kt_m13, kt_m14, kt_m100] at c2); (try simp only [jlt, jle, jeq, kt_0, kt_1, kt_2, kt_3, kt_4, kt_5, kt_6, kt_7, kt_8, kt_9, kt_10, kt_11, kt_12, kt_13, kt_15, kt_16, kt_19, kt_20, kt_24, kt_25, kt_31, kt_32, kt_40, kt_50, kt_60, kt_63, kt_100, kt_120, kt_255, kt_300, kt_999999, kt_1000000, kt_m1, kt_m2, kt_m3, kt_m4, kt_m6, kt_m7, kt_m11, kt_m12, kt_m13, kt_m14, kt_m100] at c4);  (repeat' split) <;> first | rfl | (exfalso; omega)), fr0⟩ (jbnd hk.1 rfl) (jbnd hk.2 rfl)
end
section
theorem zz_last : True := trivial
end
