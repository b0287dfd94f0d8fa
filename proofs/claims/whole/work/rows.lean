section
-- ===== PART A: goes FIRST, ahead of the names: the tables' words, and 'selects' of the private methods out of them =====
/-- a private method of a class that the tables say can be made, by its rows of tables_1 -/
def lw_okq (q : MethodName × Nat) : Prop := (q.1.cls ≠ "java/lang/invoke/MethodHandle" ∧ q.1.cls ≠ "java/lang/invoke/VarHandle") ∧ Cond.instantiable q.1.cls q.2 ∈ tables_1 ∧ Cond.privateMethod q.1 ∈ tables_1 ∧ Cond.instanceMethod q.1 ∈ tables_1
theorem lw_p0 : lw_okq (⟨"FogLots", "finding", "(I)I"⟩, 7) := ⟨⟨by decide +kernel, by decide +kernel⟩, List.mem_of_getElem? (i := 14) (by decide +kernel), List.mem_of_getElem? (i := 180) (by decide +kernel), List.mem_of_getElem? (i := 181) (by decide +kernel)⟩
theorem lw_p1 : lw_okq (⟨"FogLots$World", "prefers", "(III)Z"⟩, 16) := ⟨⟨by decide +kernel, by decide +kernel⟩, List.mem_of_getElem? (i := 22) (by decide +kernel), List.mem_of_getElem? (i := 245) (by decide +kernel), List.mem_of_getElem? (i := 246) (by decide +kernel)⟩
theorem lw_p2 : lw_okq (⟨"FogLots$World", "thinAndThicken", "()V"⟩, 16) := ⟨⟨by decide +kernel, by decide +kernel⟩, List.mem_of_getElem? (i := 22) (by decide +kernel), List.mem_of_getElem? (i := 275) (by decide +kernel), List.mem_of_getElem? (i := 276) (by decide +kernel)⟩
theorem lw_p3 : lw_okq (⟨"FogLots$World", "spreadFog", "()V"⟩, 16) := ⟨⟨by decide +kernel, by decide +kernel⟩, List.mem_of_getElem? (i := 22) (by decide +kernel), List.mem_of_getElem? (i := 285) (by decide +kernel), List.mem_of_getElem? (i := 286) (by decide +kernel)⟩
theorem lw_p4 : lw_okq (⟨"FogLots$World", "movePeople", "()V"⟩, 16) := ⟨⟨by decide +kernel, by decide +kernel⟩, List.mem_of_getElem? (i := 22) (by decide +kernel), List.mem_of_getElem? (i := 289) (by decide +kernel), List.mem_of_getElem? (i := 290) (by decide +kernel)⟩
theorem lw_p5 : lw_okq (⟨"FogLots$World", "isGone", "(I)Z"⟩, 16) := ⟨⟨by decide +kernel, by decide +kernel⟩, List.mem_of_getElem? (i := 22) (by decide +kernel), List.mem_of_getElem? (i := 293) (by decide +kernel), List.mem_of_getElem? (i := 294) (by decide +kernel)⟩
theorem lw_p6 : lw_okq (⟨"FogLots$World", "fall", "(I)V"⟩, 16) := ⟨⟨by decide +kernel, by decide +kernel⟩, List.mem_of_getElem? (i := 22) (by decide +kernel), List.mem_of_getElem? (i := 298) (by decide +kernel), List.mem_of_getElem? (i := 299) (by decide +kernel)⟩
theorem lw_p7 : lw_okq (⟨"FogLots$World", "payRents", "()V"⟩, 16) := ⟨⟨by decide +kernel, by decide +kernel⟩, List.mem_of_getElem? (i := 22) (by decide +kernel), List.mem_of_getElem? (i := 303) (by decide +kernel), List.mem_of_getElem? (i := 304) (by decide +kernel)⟩
theorem lw_p8 : lw_okq (⟨"FogLots$World", "spreadBelief", "()V"⟩, 16) := ⟨⟨by decide +kernel, by decide +kernel⟩, List.mem_of_getElem? (i := 22) (by decide +kernel), List.mem_of_getElem? (i := 308) (by decide +kernel), List.mem_of_getElem? (i := 309) (by decide +kernel)⟩
theorem lw_p9 : lw_okq (⟨"FogLots$World", "greatestBeliefBeside", "(I)I"⟩, 16) := ⟨⟨by decide +kernel, by decide +kernel⟩, List.mem_of_getElem? (i := 22) (by decide +kernel), List.mem_of_getElem? (i := 312) (by decide +kernel), List.mem_of_getElem? (i := 313) (by decide +kernel)⟩
theorem lw_p10 : lw_okq (⟨"FogLots", "faultOfTold", "(II)I"⟩, 7) := ⟨⟨by decide +kernel, by decide +kernel⟩, List.mem_of_getElem? (i := 14) (by decide +kernel), List.mem_of_getElem? (i := 396) (by decide +kernel), List.mem_of_getElem? (i := 397) (by decide +kernel)⟩
theorem lw_p11 : lw_okq (⟨"FogLots", "goesAsTold", "(ILFogLots$Sheet;)Z"⟩, 7) := ⟨⟨by decide +kernel, by decide +kernel⟩, List.mem_of_getElem? (i := 14) (by decide +kernel), List.mem_of_getElem? (i := 407) (by decide +kernel), List.mem_of_getElem? (i := 408) (by decide +kernel)⟩
theorem lw_p12 : lw_okq (⟨"FogLots$Tape", "nextToken", "()V"⟩, 7) := ⟨⟨by decide +kernel, by decide +kernel⟩, List.mem_of_getElem? (i := 101) (by decide +kernel), List.mem_of_getElem? (i := 460) (by decide +kernel), List.mem_of_getElem? (i := 461) (by decide +kernel)⟩
theorem lw_p13 : lw_okq (⟨"FogLots$Tape", "readWord", "()V"⟩, 7) := ⟨⟨by decide +kernel, by decide +kernel⟩, List.mem_of_getElem? (i := 101) (by decide +kernel), List.mem_of_getElem? (i := 467) (by decide +kernel), List.mem_of_getElem? (i := 468) (by decide +kernel)⟩
theorem lw_p14 : lw_okq (⟨"FogLots$Tape", "readNumber", "()V"⟩, 7) := ⟨⟨by decide +kernel, by decide +kernel⟩, List.mem_of_getElem? (i := 101) (by decide +kernel), List.mem_of_getElem? (i := 474) (by decide +kernel), List.mem_of_getElem? (i := 475) (by decide +kernel)⟩
theorem lw_p15 : lw_okq (⟨"FogLots$Tape", "tellItem", "(LFogLots$World;)V"⟩, 7) := ⟨⟨by decide +kernel, by decide +kernel⟩, List.mem_of_getElem? (i := 101) (by decide +kernel), List.mem_of_getElem? (i := 479) (by decide +kernel), List.mem_of_getElem? (i := 480) (by decide +kernel)⟩
def lw_privs_1 : List (MethodName × Nat) := [(⟨"FogLots", "finding", "(I)I"⟩, 7), (⟨"FogLots$World", "prefers", "(III)Z"⟩, 16), (⟨"FogLots$World", "thinAndThicken", "()V"⟩, 16), (⟨"FogLots$World", "spreadFog", "()V"⟩, 16), (⟨"FogLots$World", "movePeople", "()V"⟩, 16), (⟨"FogLots$World", "isGone", "(I)Z"⟩, 16), (⟨"FogLots$World", "fall", "(I)V"⟩, 16), (⟨"FogLots$World", "payRents", "()V"⟩, 16), (⟨"FogLots$World", "spreadBelief", "()V"⟩, 16), (⟨"FogLots$World", "greatestBeliefBeside", "(I)I"⟩, 16), (⟨"FogLots", "faultOfTold", "(II)I"⟩, 7), (⟨"FogLots", "goesAsTold", "(ILFogLots$Sheet;)Z"⟩, 7), (⟨"FogLots$Tape", "nextToken", "()V"⟩, 7), (⟨"FogLots$Tape", "readWord", "()V"⟩, 7), (⟨"FogLots$Tape", "readNumber", "()V"⟩, 7), (⟨"FogLots$Tape", "tellItem", "(LFogLots$World;)V"⟩, 7)]
theorem lw_r1 : ∀ q ∈ lw_privs_1, lw_okq q := List.forall_mem_cons.mpr ⟨lw_p0, List.forall_mem_cons.mpr ⟨lw_p1, List.forall_mem_cons.mpr ⟨lw_p2, List.forall_mem_cons.mpr ⟨lw_p3, List.forall_mem_cons.mpr ⟨lw_p4, List.forall_mem_cons.mpr ⟨lw_p5, List.forall_mem_cons.mpr ⟨lw_p6, List.forall_mem_cons.mpr ⟨lw_p7, List.forall_mem_cons.mpr ⟨lw_p8, List.forall_mem_cons.mpr ⟨lw_p9, List.forall_mem_cons.mpr ⟨lw_p10, List.forall_mem_cons.mpr ⟨lw_p11, List.forall_mem_cons.mpr ⟨lw_p12, List.forall_mem_cons.mpr ⟨lw_p13, List.forall_mem_cons.mpr ⟨lw_p14, List.forall_mem_cons.mpr ⟨lw_p15, fun _ h => absurd h List.not_mem_nil⟩⟩⟩⟩⟩⟩⟩⟩⟩⟩⟩⟩⟩⟩⟩⟩
theorem lw_p16 : lw_okq (⟨"FogLots$Tape", "kindOfWord", "()I"⟩, 7) := ⟨⟨by decide +kernel, by decide +kernel⟩, List.mem_of_getElem? (i := 101) (by decide +kernel), List.mem_of_getElem? (i := 483) (by decide +kernel), List.mem_of_getElem? (i := 484) (by decide +kernel)⟩
theorem lw_p17 : lw_okq (⟨"FogLots$Tape", "isWord", "(Ljava/lang/String;)Z"⟩, 7) := ⟨⟨by decide +kernel, by decide +kernel⟩, List.mem_of_getElem? (i := 101) (by decide +kernel), List.mem_of_getElem? (i := 488) (by decide +kernel), List.mem_of_getElem? (i := 489) (by decide +kernel)⟩
theorem lw_p18 : lw_okq (⟨"FogLots$Tape", "tellPerson", "(LFogLots$World;I)V"⟩, 7) := ⟨⟨by decide +kernel, by decide +kernel⟩, List.mem_of_getElem? (i := 101) (by decide +kernel), List.mem_of_getElem? (i := 546) (by decide +kernel), List.mem_of_getElem? (i := 547) (by decide +kernel)⟩
theorem lw_p19 : lw_okq (⟨"FogLots$Tape", "faultHere", "()V"⟩, 7) := ⟨⟨by decide +kernel, by decide +kernel⟩, List.mem_of_getElem? (i := 101) (by decide +kernel), List.mem_of_getElem? (i := 550) (by decide +kernel), List.mem_of_getElem? (i := 551) (by decide +kernel)⟩
theorem lw_p20 : lw_okq (⟨"FogLots$Tape", "took", "(Ljava/lang/String;)Z"⟩, 7) := ⟨⟨by decide +kernel, by decide +kernel⟩, List.mem_of_getElem? (i := 101) (by decide +kernel), List.mem_of_getElem? (i := 556) (by decide +kernel), List.mem_of_getElem? (i := 557) (by decide +kernel)⟩
theorem lw_p21 : lw_okq (⟨"FogLots$Tape", "takeNumber", "(I)I"⟩, 7) := ⟨⟨by decide +kernel, by decide +kernel⟩, List.mem_of_getElem? (i := 101) (by decide +kernel), List.mem_of_getElem? (i := 560) (by decide +kernel), List.mem_of_getElem? (i := 561) (by decide +kernel)⟩
theorem lw_p22 : lw_okq (⟨"FogLots$Tape", "tellLot", "(LFogLots$World;)V"⟩, 7) := ⟨⟨by decide +kernel, by decide +kernel⟩, List.mem_of_getElem? (i := 101) (by decide +kernel), List.mem_of_getElem? (i := 567) (by decide +kernel), List.mem_of_getElem? (i := 568) (by decide +kernel)⟩
theorem lw_p23 : lw_okq (⟨"FogLots$Tape", "tellSun", "(LFogLots$World;)V"⟩, 7) := ⟨⟨by decide +kernel, by decide +kernel⟩, List.mem_of_getElem? (i := 101) (by decide +kernel), List.mem_of_getElem? (i := 576) (by decide +kernel), List.mem_of_getElem? (i := 577) (by decide +kernel)⟩
theorem lw_p24 : lw_okq (⟨"FogLotsModel", "lays1", "(III)V"⟩, 22) := ⟨⟨by decide +kernel, by decide +kernel⟩, List.mem_of_getElem? (i := 653) (by decide +kernel), List.mem_of_getElem? (i := 659) (by decide +kernel), List.mem_of_getElem? (i := 660) (by decide +kernel)⟩
theorem lw_p25 : lw_okq (⟨"FogLotsModel", "no", "(I)I"⟩, 22) := ⟨⟨by decide +kernel, by decide +kernel⟩, List.mem_of_getElem? (i := 653) (by decide +kernel), List.mem_of_getElem? (i := 741) (by decide +kernel), List.mem_of_getElem? (i := 742) (by decide +kernel)⟩
theorem lw_p26 : lw_okq (⟨"FogLotsModel", "of1", "(II)I"⟩, 22) := ⟨⟨by decide +kernel, by decide +kernel⟩, List.mem_of_getElem? (i := 653) (by decide +kernel), List.mem_of_getElem? (i := 746) (by decide +kernel), List.mem_of_getElem? (i := 747) (by decide +kernel)⟩
theorem lw_p27 : lw_okq (⟨"FogLotsModel", "whoIsOn", "(I)I"⟩, 22) := ⟨⟨by decide +kernel, by decide +kernel⟩, List.mem_of_getElem? (i := 653) (by decide +kernel), List.mem_of_getElem? (i := 754) (by decide +kernel), List.mem_of_getElem? (i := 755) (by decide +kernel)⟩
theorem lw_p28 : lw_okq (⟨"FogLotsModel", "get", "(II)I"⟩, 22) := ⟨⟨by decide +kernel, by decide +kernel⟩, List.mem_of_getElem? (i := 653) (by decide +kernel), List.mem_of_getElem? (i := 758) (by decide +kernel), List.mem_of_getElem? (i := 759) (by decide +kernel)⟩
theorem lw_p29 : lw_okq (⟨"FogLotsModel", "standing", "(I)I"⟩, 22) := ⟨⟨by decide +kernel, by decide +kernel⟩, List.mem_of_getElem? (i := 653) (by decide +kernel), List.mem_of_getElem? (i := 762) (by decide +kernel), List.mem_of_getElem? (i := 763) (by decide +kernel)⟩
theorem lw_p30 : lw_okq (⟨"FogLotsModel", "stands", "(II)Z"⟩, 22) := ⟨⟨by decide +kernel, by decide +kernel⟩, List.mem_of_getElem? (i := 653) (by decide +kernel), List.mem_of_getElem? (i := 766) (by decide +kernel), List.mem_of_getElem? (i := 767) (by decide +kernel)⟩
theorem lw_p31 : lw_okq (⟨"FogLotsModel", "trustOf", "(II)I"⟩, 22) := ⟨⟨by decide +kernel, by decide +kernel⟩, List.mem_of_getElem? (i := 653) (by decide +kernel), List.mem_of_getElem? (i := 770) (by decide +kernel), List.mem_of_getElem? (i := 771) (by decide +kernel)⟩
def lw_privs_2 : List (MethodName × Nat) := [(⟨"FogLots$Tape", "kindOfWord", "()I"⟩, 7), (⟨"FogLots$Tape", "isWord", "(Ljava/lang/String;)Z"⟩, 7), (⟨"FogLots$Tape", "tellPerson", "(LFogLots$World;I)V"⟩, 7), (⟨"FogLots$Tape", "faultHere", "()V"⟩, 7), (⟨"FogLots$Tape", "took", "(Ljava/lang/String;)Z"⟩, 7), (⟨"FogLots$Tape", "takeNumber", "(I)I"⟩, 7), (⟨"FogLots$Tape", "tellLot", "(LFogLots$World;)V"⟩, 7), (⟨"FogLots$Tape", "tellSun", "(LFogLots$World;)V"⟩, 7), (⟨"FogLotsModel", "lays1", "(III)V"⟩, 22), (⟨"FogLotsModel", "no", "(I)I"⟩, 22), (⟨"FogLotsModel", "of1", "(II)I"⟩, 22), (⟨"FogLotsModel", "whoIsOn", "(I)I"⟩, 22), (⟨"FogLotsModel", "get", "(II)I"⟩, 22), (⟨"FogLotsModel", "standing", "(I)I"⟩, 22), (⟨"FogLotsModel", "stands", "(II)Z"⟩, 22), (⟨"FogLotsModel", "trustOf", "(II)I"⟩, 22)]
theorem lw_r2 : ∀ q ∈ lw_privs_2, lw_okq q := List.forall_mem_cons.mpr ⟨lw_p16, List.forall_mem_cons.mpr ⟨lw_p17, List.forall_mem_cons.mpr ⟨lw_p18, List.forall_mem_cons.mpr ⟨lw_p19, List.forall_mem_cons.mpr ⟨lw_p20, List.forall_mem_cons.mpr ⟨lw_p21, List.forall_mem_cons.mpr ⟨lw_p22, List.forall_mem_cons.mpr ⟨lw_p23, List.forall_mem_cons.mpr ⟨lw_p24, List.forall_mem_cons.mpr ⟨lw_p25, List.forall_mem_cons.mpr ⟨lw_p26, List.forall_mem_cons.mpr ⟨lw_p27, List.forall_mem_cons.mpr ⟨lw_p28, List.forall_mem_cons.mpr ⟨lw_p29, List.forall_mem_cons.mpr ⟨lw_p30, List.forall_mem_cons.mpr ⟨lw_p31, fun _ h => absurd h List.not_mem_nil⟩⟩⟩⟩⟩⟩⟩⟩⟩⟩⟩⟩⟩⟩⟩⟩
theorem lw_p32 : lw_okq (⟨"FogLotsModel", "adds", "(I)V"⟩, 22) := ⟨⟨by decide +kernel, by decide +kernel⟩, List.mem_of_getElem? (i := 653) (by decide +kernel), List.mem_of_getElem? (i := 789) (by decide +kernel), List.mem_of_getElem? (i := 790) (by decide +kernel)⟩
theorem lw_p33 : lw_okq (⟨"FogLotsModel", "puts", "(III)V"⟩, 22) := ⟨⟨by decide +kernel, by decide +kernel⟩, List.mem_of_getElem? (i := 653) (by decide +kernel), List.mem_of_getElem? (i := 793) (by decide +kernel), List.mem_of_getElem? (i := 794) (by decide +kernel)⟩
theorem lw_p34 : lw_okq (⟨"FogLotsModel", "isPerson", "(I)Z"⟩, 22) := ⟨⟨by decide +kernel, by decide +kernel⟩, List.mem_of_getElem? (i := 653) (by decide +kernel), List.mem_of_getElem? (i := 801) (by decide +kernel), List.mem_of_getElem? (i := 802) (by decide +kernel)⟩
theorem lw_p35 : lw_okq (⟨"FogLotsModel", "losesOf", "(I)I"⟩, 22) := ⟨⟨by decide +kernel, by decide +kernel⟩, List.mem_of_getElem? (i := 653) (by decide +kernel), List.mem_of_getElem? (i := 805) (by decide +kernel), List.mem_of_getElem? (i := 806) (by decide +kernel)⟩
theorem lw_p36 : lw_okq (⟨"FogLotsModel", "makesFor", "(I)I"⟩, 22) := ⟨⟨by decide +kernel, by decide +kernel⟩, List.mem_of_getElem? (i := 653) (by decide +kernel), List.mem_of_getElem? (i := 809) (by decide +kernel), List.mem_of_getElem? (i := 810) (by decide +kernel)⟩
theorem lw_p37 : lw_okq (⟨"FogLotsModel", "isBetter", "(III)Z"⟩, 22) := ⟨⟨by decide +kernel, by decide +kernel⟩, List.mem_of_getElem? (i := 653) (by decide +kernel), List.mem_of_getElem? (i := 813) (by decide +kernel), List.mem_of_getElem? (i := 814) (by decide +kernel)⟩
theorem lw_p38 : lw_okq (⟨"FogLotsModel", "ownedBy", "(I)I"⟩, 22) := ⟨⟨by decide +kernel, by decide +kernel⟩, List.mem_of_getElem? (i := 653) (by decide +kernel), List.mem_of_getElem? (i := 817) (by decide +kernel), List.mem_of_getElem? (i := 818) (by decide +kernel)⟩
theorem lw_p39 : lw_okq (⟨"FogLotsModel", "goes", "(I)V"⟩, 22) := ⟨⟨by decide +kernel, by decide +kernel⟩, List.mem_of_getElem? (i := 653) (by decide +kernel), List.mem_of_getElem? (i := 834) (by decide +kernel), List.mem_of_getElem? (i := 835) (by decide +kernel)⟩
theorem lw_p40 : lw_okq (⟨"FogLotsModel", "day", "()V"⟩, 22) := ⟨⟨by decide +kernel, by decide +kernel⟩, List.mem_of_getElem? (i := 653) (by decide +kernel), List.mem_of_getElem? (i := 838) (by decide +kernel), List.mem_of_getElem? (i := 839) (by decide +kernel)⟩
theorem lw_p41 : lw_okq (⟨"FogLotsModel", "drifts", "()V"⟩, 22) := ⟨⟨by decide +kernel, by decide +kernel⟩, List.mem_of_getElem? (i := 653) (by decide +kernel), List.mem_of_getElem? (i := 842) (by decide +kernel), List.mem_of_getElem? (i := 843) (by decide +kernel)⟩
theorem lw_p42 : lw_okq (⟨"FogLotsModel", "isAway", "(I)Z"⟩, 22) := ⟨⟨by decide +kernel, by decide +kernel⟩, List.mem_of_getElem? (i := 653) (by decide +kernel), List.mem_of_getElem? (i := 849) (by decide +kernel), List.mem_of_getElem? (i := 850) (by decide +kernel)⟩
theorem lw_p43 : lw_okq (⟨"FogLotsModel", "moves", "(I)V"⟩, 22) := ⟨⟨by decide +kernel, by decide +kernel⟩, List.mem_of_getElem? (i := 653) (by decide +kernel), List.mem_of_getElem? (i := 853) (by decide +kernel), List.mem_of_getElem? (i := 854) (by decide +kernel)⟩
theorem lw_p44 : lw_okq (⟨"FogLotsModel", "pays", "(I)V"⟩, 22) := ⟨⟨by decide +kernel, by decide +kernel⟩, List.mem_of_getElem? (i := 653) (by decide +kernel), List.mem_of_getElem? (i := 857) (by decide +kernel), List.mem_of_getElem? (i := 858) (by decide +kernel)⟩
theorem lw_p45 : lw_okq (⟨"FogLotsModel", "finds", "(I)V"⟩, 22) := ⟨⟨by decide +kernel, by decide +kernel⟩, List.mem_of_getElem? (i := 653) (by decide +kernel), List.mem_of_getElem? (i := 861) (by decide +kernel), List.mem_of_getElem? (i := 862) (by decide +kernel)⟩
theorem lw_p46 : lw_okq (⟨"FogLotsModel", "onLots", "()I"⟩, 22) := ⟨⟨by decide +kernel, by decide +kernel⟩, List.mem_of_getElem? (i := 653) (by decide +kernel), List.mem_of_getElem? (i := 865) (by decide +kernel), List.mem_of_getElem? (i := 866) (by decide +kernel)⟩
theorem lw_p47 : lw_okq (⟨"FogLotsModel", "fogs", "()I"⟩, 22) := ⟨⟨by decide +kernel, by decide +kernel⟩, List.mem_of_getElem? (i := 653) (by decide +kernel), List.mem_of_getElem? (i := 873) (by decide +kernel), List.mem_of_getElem? (i := 874) (by decide +kernel)⟩
def lw_privs_3 : List (MethodName × Nat) := [(⟨"FogLotsModel", "adds", "(I)V"⟩, 22), (⟨"FogLotsModel", "puts", "(III)V"⟩, 22), (⟨"FogLotsModel", "isPerson", "(I)Z"⟩, 22), (⟨"FogLotsModel", "losesOf", "(I)I"⟩, 22), (⟨"FogLotsModel", "makesFor", "(I)I"⟩, 22), (⟨"FogLotsModel", "isBetter", "(III)Z"⟩, 22), (⟨"FogLotsModel", "ownedBy", "(I)I"⟩, 22), (⟨"FogLotsModel", "goes", "(I)V"⟩, 22), (⟨"FogLotsModel", "day", "()V"⟩, 22), (⟨"FogLotsModel", "drifts", "()V"⟩, 22), (⟨"FogLotsModel", "isAway", "(I)Z"⟩, 22), (⟨"FogLotsModel", "moves", "(I)V"⟩, 22), (⟨"FogLotsModel", "pays", "(I)V"⟩, 22), (⟨"FogLotsModel", "finds", "(I)V"⟩, 22), (⟨"FogLotsModel", "onLots", "()I"⟩, 22), (⟨"FogLotsModel", "fogs", "()I"⟩, 22)]
theorem lw_r3 : ∀ q ∈ lw_privs_3, lw_okq q := List.forall_mem_cons.mpr ⟨lw_p32, List.forall_mem_cons.mpr ⟨lw_p33, List.forall_mem_cons.mpr ⟨lw_p34, List.forall_mem_cons.mpr ⟨lw_p35, List.forall_mem_cons.mpr ⟨lw_p36, List.forall_mem_cons.mpr ⟨lw_p37, List.forall_mem_cons.mpr ⟨lw_p38, List.forall_mem_cons.mpr ⟨lw_p39, List.forall_mem_cons.mpr ⟨lw_p40, List.forall_mem_cons.mpr ⟨lw_p41, List.forall_mem_cons.mpr ⟨lw_p42, List.forall_mem_cons.mpr ⟨lw_p43, List.forall_mem_cons.mpr ⟨lw_p44, List.forall_mem_cons.mpr ⟨lw_p45, List.forall_mem_cons.mpr ⟨lw_p46, List.forall_mem_cons.mpr ⟨lw_p47, fun _ h => absurd h List.not_mem_nil⟩⟩⟩⟩⟩⟩⟩⟩⟩⟩⟩⟩⟩⟩⟩⟩
theorem lw_p48 : lw_okq (⟨"FogLotsModel", "sumOf", "(I)I"⟩, 22) := ⟨⟨by decide +kernel, by decide +kernel⟩, List.mem_of_getElem? (i := 653) (by decide +kernel), List.mem_of_getElem? (i := 877) (by decide +kernel), List.mem_of_getElem? (i := 878) (by decide +kernel)⟩
theorem lw_p49 : lw_okq (⟨"FogLotsModel", "mostFog", "()I"⟩, 22) := ⟨⟨by decide +kernel, by decide +kernel⟩, List.mem_of_getElem? (i := 653) (by decide +kernel), List.mem_of_getElem? (i := 881) (by decide +kernel), List.mem_of_getElem? (i := 882) (by decide +kernel)⟩
theorem lw_p50 : lw_okq (⟨"FogLotsModel", "richest", "()I"⟩, 22) := ⟨⟨by decide +kernel, by decide +kernel⟩, List.mem_of_getElem? (i := 653) (by decide +kernel), List.mem_of_getElem? (i := 885) (by decide +kernel), List.mem_of_getElem? (i := 886) (by decide +kernel)⟩
theorem lw_p51 : lw_okq (⟨"FogLotsModel", "setsAside", "()V"⟩, 22) := ⟨⟨by decide +kernel, by decide +kernel⟩, List.mem_of_getElem? (i := 653) (by decide +kernel), List.mem_of_getElem? (i := 893) (by decide +kernel), List.mem_of_getElem? (i := 894) (by decide +kernel)⟩
theorem lw_p52 : lw_okq (⟨"FogLotsModel", "laysBack", "()V"⟩, 22) := ⟨⟨by decide +kernel, by decide +kernel⟩, List.mem_of_getElem? (i := 653) (by decide +kernel), List.mem_of_getElem? (i := 897) (by decide +kernel), List.mem_of_getElem? (i := 898) (by decide +kernel)⟩
theorem lw_p53 : lw_okq (⟨"FogLotsModel", "firstBy", "(III)I"⟩, 22) := ⟨⟨by decide +kernel, by decide +kernel⟩, List.mem_of_getElem? (i := 653) (by decide +kernel), List.mem_of_getElem? (i := 909) (by decide +kernel), List.mem_of_getElem? (i := 910) (by decide +kernel)⟩
theorem lw_p54 : lw_okq (⟨"FogLotsModel", "isSo", "(III)Z"⟩, 22) := ⟨⟨by decide +kernel, by decide +kernel⟩, List.mem_of_getElem? (i := 653) (by decide +kernel), List.mem_of_getElem? (i := 913) (by decide +kernel), List.mem_of_getElem? (i := 914) (by decide +kernel)⟩
theorem lw_p55 : lw_okq (⟨"FogLotsModel", "thenWith", "(IIIII)I"⟩, 22) := ⟨⟨by decide +kernel, by decide +kernel⟩, List.mem_of_getElem? (i := 653) (by decide +kernel), List.mem_of_getElem? (i := 932) (by decide +kernel), List.mem_of_getElem? (i := 933) (by decide +kernel)⟩
theorem lw_p56 : lw_okq (⟨"FogLotsModel", "fellBy", "(II)I"⟩, 22) := ⟨⟨by decide +kernel, by decide +kernel⟩, List.mem_of_getElem? (i := 653) (by decide +kernel), List.mem_of_getElem? (i := 952) (by decide +kernel), List.mem_of_getElem? (i := 953) (by decide +kernel)⟩
theorem lw_p57 : lw_okq (⟨"FogLotsModel", "standsWithout", "(III)Z"⟩, 22) := ⟨⟨by decide +kernel, by decide +kernel⟩, List.mem_of_getElem? (i := 653) (by decide +kernel), List.mem_of_getElem? (i := 960) (by decide +kernel), List.mem_of_getElem? (i := 961) (by decide +kernel)⟩
theorem lw_p58 : lw_okq (⟨"FogLotsModel", "wrongTold", "(II)I"⟩, 22) := ⟨⟨by decide +kernel, by decide +kernel⟩, List.mem_of_getElem? (i := 653) (by decide +kernel), List.mem_of_getElem? (i := 968) (by decide +kernel), List.mem_of_getElem? (i := 969) (by decide +kernel)⟩
theorem lw_p59 : lw_okq (⟨"FogLotsModel", "wrongSheet", "(I)I"⟩, 22) := ⟨⟨by decide +kernel, by decide +kernel⟩, List.mem_of_getElem? (i := 653) (by decide +kernel), List.mem_of_getElem? (i := 972) (by decide +kernel), List.mem_of_getElem? (i := 973) (by decide +kernel)⟩
theorem lw_p60 : lw_okq (⟨"FogLotsModel", "fitsAs", "(IIII)Z"⟩, 22) := ⟨⟨by decide +kernel, by decide +kernel⟩, List.mem_of_getElem? (i := 653) (by decide +kernel), List.mem_of_getElem? (i := 979) (by decide +kernel), List.mem_of_getElem? (i := 980) (by decide +kernel)⟩
theorem lw_p61 : lw_okq (⟨"FogLotsModel", "told", "(II)I"⟩, 22) := ⟨⟨by decide +kernel, by decide +kernel⟩, List.mem_of_getElem? (i := 653) (by decide +kernel), List.mem_of_getElem? (i := 983) (by decide +kernel), List.mem_of_getElem? (i := 984) (by decide +kernel)⟩
theorem lw_p62 : lw_okq (⟨"FogLotsModel", "draw", "()I"⟩, 22) := ⟨⟨by decide +kernel, by decide +kernel⟩, List.mem_of_getElem? (i := 653) (by decide +kernel), List.mem_of_getElem? (i := 999) (by decide +kernel), List.mem_of_getElem? (i := 1000) (by decide +kernel)⟩
theorem lw_p63 : lw_okq (⟨"FogLotsModel", "nextToken", "()V"⟩, 22) := ⟨⟨by decide +kernel, by decide +kernel⟩, List.mem_of_getElem? (i := 653) (by decide +kernel), List.mem_of_getElem? (i := 1025) (by decide +kernel), List.mem_of_getElem? (i := 1026) (by decide +kernel)⟩
def lw_privs_4 : List (MethodName × Nat) := [(⟨"FogLotsModel", "sumOf", "(I)I"⟩, 22), (⟨"FogLotsModel", "mostFog", "()I"⟩, 22), (⟨"FogLotsModel", "richest", "()I"⟩, 22), (⟨"FogLotsModel", "setsAside", "()V"⟩, 22), (⟨"FogLotsModel", "laysBack", "()V"⟩, 22), (⟨"FogLotsModel", "firstBy", "(III)I"⟩, 22), (⟨"FogLotsModel", "isSo", "(III)Z"⟩, 22), (⟨"FogLotsModel", "thenWith", "(IIIII)I"⟩, 22), (⟨"FogLotsModel", "fellBy", "(II)I"⟩, 22), (⟨"FogLotsModel", "standsWithout", "(III)Z"⟩, 22), (⟨"FogLotsModel", "wrongTold", "(II)I"⟩, 22), (⟨"FogLotsModel", "wrongSheet", "(I)I"⟩, 22), (⟨"FogLotsModel", "fitsAs", "(IIII)Z"⟩, 22), (⟨"FogLotsModel", "told", "(II)I"⟩, 22), (⟨"FogLotsModel", "draw", "()I"⟩, 22), (⟨"FogLotsModel", "nextToken", "()V"⟩, 22)]
theorem lw_r4 : ∀ q ∈ lw_privs_4, lw_okq q := List.forall_mem_cons.mpr ⟨lw_p48, List.forall_mem_cons.mpr ⟨lw_p49, List.forall_mem_cons.mpr ⟨lw_p50, List.forall_mem_cons.mpr ⟨lw_p51, List.forall_mem_cons.mpr ⟨lw_p52, List.forall_mem_cons.mpr ⟨lw_p53, List.forall_mem_cons.mpr ⟨lw_p54, List.forall_mem_cons.mpr ⟨lw_p55, List.forall_mem_cons.mpr ⟨lw_p56, List.forall_mem_cons.mpr ⟨lw_p57, List.forall_mem_cons.mpr ⟨lw_p58, List.forall_mem_cons.mpr ⟨lw_p59, List.forall_mem_cons.mpr ⟨lw_p60, List.forall_mem_cons.mpr ⟨lw_p61, List.forall_mem_cons.mpr ⟨lw_p62, List.forall_mem_cons.mpr ⟨lw_p63, fun _ h => absurd h List.not_mem_nil⟩⟩⟩⟩⟩⟩⟩⟩⟩⟩⟩⟩⟩⟩⟩⟩
theorem lw_p64 : lw_okq (⟨"FogLotsModel", "readsItem", "()Z"⟩, 22) := ⟨⟨by decide +kernel, by decide +kernel⟩, List.mem_of_getElem? (i := 653) (by decide +kernel), List.mem_of_getElem? (i := 1040) (by decide +kernel), List.mem_of_getElem? (i := 1041) (by decide +kernel)⟩
theorem lw_p65 : lw_okq (⟨"FogLotsModel", "wordOf", "([C)I"⟩, 22) := ⟨⟨by decide +kernel, by decide +kernel⟩, List.mem_of_getElem? (i := 653) (by decide +kernel), List.mem_of_getElem? (i := 1044) (by decide +kernel), List.mem_of_getElem? (i := 1045) (by decide +kernel)⟩
theorem lw_p66 : lw_okq (⟨"FogLotsModel", "readsPerson", "(I)Z"⟩, 22) := ⟨⟨by decide +kernel, by decide +kernel⟩, List.mem_of_getElem? (i := 653) (by decide +kernel), List.mem_of_getElem? (i := 1048) (by decide +kernel), List.mem_of_getElem? (i := 1049) (by decide +kernel)⟩
theorem lw_p67 : lw_okq (⟨"FogLotsModel", "takesNumber", "(II)I"⟩, 22) := ⟨⟨by decide +kernel, by decide +kernel⟩, List.mem_of_getElem? (i := 653) (by decide +kernel), List.mem_of_getElem? (i := 1052) (by decide +kernel), List.mem_of_getElem? (i := 1053) (by decide +kernel)⟩
theorem lw_p68 : lw_okq (⟨"FogLotsModel", "readsLot", "()Z"⟩, 22) := ⟨⟨by decide +kernel, by decide +kernel⟩, List.mem_of_getElem? (i := 653) (by decide +kernel), List.mem_of_getElem? (i := 1056) (by decide +kernel), List.mem_of_getElem? (i := 1057) (by decide +kernel)⟩
theorem lw_p69 : lw_okq (⟨"FogLotsModel", "readsSun", "(Z)Z"⟩, 22) := ⟨⟨by decide +kernel, by decide +kernel⟩, List.mem_of_getElem? (i := 653) (by decide +kernel), List.mem_of_getElem? (i := 1060) (by decide +kernel), List.mem_of_getElem? (i := 1061) (by decide +kernel)⟩
def lw_privs_5 : List (MethodName × Nat) := [(⟨"FogLotsModel", "readsItem", "()Z"⟩, 22), (⟨"FogLotsModel", "wordOf", "([C)I"⟩, 22), (⟨"FogLotsModel", "readsPerson", "(I)Z"⟩, 22), (⟨"FogLotsModel", "takesNumber", "(II)I"⟩, 22), (⟨"FogLotsModel", "readsLot", "()Z"⟩, 22), (⟨"FogLotsModel", "readsSun", "(Z)Z"⟩, 22)]
theorem lw_r5 : ∀ q ∈ lw_privs_5, lw_okq q := List.forall_mem_cons.mpr ⟨lw_p64, List.forall_mem_cons.mpr ⟨lw_p65, List.forall_mem_cons.mpr ⟨lw_p66, List.forall_mem_cons.mpr ⟨lw_p67, List.forall_mem_cons.mpr ⟨lw_p68, List.forall_mem_cons.mpr ⟨lw_p69, fun _ h => absurd h List.not_mem_nil⟩⟩⟩⟩⟩⟩
def lw_privs : List (MethodName × Nat) := lw_privs_1 ++ (lw_privs_2 ++ (lw_privs_3 ++ (lw_privs_4 ++ (lw_privs_5))))
def lw_tbl : List Cond := k2_sels lw_privs ++ tables_1
theorem lw_privs_ok : ∀ q ∈ lw_privs, lw_okq q := by
  show ∀ q ∈ lw_privs_1 ++ (lw_privs_2 ++ (lw_privs_3 ++ (lw_privs_4 ++ (lw_privs_5)))), lw_okq q
  exact List.forall_mem_append.mpr ⟨lw_r1, List.forall_mem_append.mpr ⟨lw_r2, List.forall_mem_append.mpr ⟨lw_r3, List.forall_mem_append.mpr ⟨lw_r4, lw_r5⟩⟩⟩⟩
-- ===== end of PART A; then your names; then what follows =====
end
section
theorem goodIn_r {big : List Cond} (ws : List Cond) (ps : List Nat) (hp : ws = ps.filterMap (fun i => big[i]?)) (h : ws.all goodWord = true) : GoodIn big ws := by
  intro w hw
  have h1 := List.all_eq_true.mp h w hw
  rw [hp] at hw
  obtain ⟨i, -, hi⟩ := List.mem_filterMap.mp hw
  have hm : w ∈ big := by first | exact List.mem_of_getElem? hi | exact List.getElem?_mem hi
  exact ⟨hm, good_of_word h1⟩
theorem goodIn_app {big a b : List Cond} (ha : GoodIn big a) (hb : GoodIn big b) : GoodIn big (a ++ b) := fun w h => (List.mem_append.mp h).elim (ha w) (hb w)
theorem goodIn_ca {big a b : List Cond} {c : Cond} (ha : GoodIn big (c :: a)) (hb : GoodIn big b) : GoodIn big (c :: (a ++ b)) := fun w h => (List.mem_cons.mp h).elim (fun e => ha w (List.mem_cons.mpr (Or.inl e))) (fun h => (List.mem_append.mp h).elim (fun h => ha w (List.mem_cons.mpr (Or.inr h))) (hb w))
theorem goodIn_sub {big ws : List Cond} (hm : ∀ w ∈ ws, w ∈ big) (h : ws.all goodWord = true) : GoodIn big ws := fun w hw => ⟨hm w hw, good_of_word (List.all_eq_true.mp h w hw)⟩

def RX0 : String := "FogLots$Sheet"
def TX0 : u_T := fun k => match k with
  | 0 => ("FogLots$Sheet", "bits", "I", false)
  | 1 => ("FogLots$Sheet", "length", "I", false)
  | _ => ("FogLots$Sheet", "numbers", "[I", true)
def tyX0 : Nat → FieldType := fun k => match k with
  | 0 => .int
  | 1 => .int
  | _ => .array .int
abbrev wsX00 : List Cond := u_ws RX0 TX0 3
theorem nmX0 : ∀ a, a < 3 → ∀ b, b < 3 → a ≠ b → (TX0 a).2.1 ≠ (TX0 b).2.1 := by decide +kernel
theorem tyX0_ok : ∀ k, k < 3 → parseFieldDescriptor (TX0 k).2.2.1 = some (tyX0 k) := by decide +kernel
abbrev cX0_init : ByteArray := prog_2_method_1_code
def yX0_init : MethodName := ⟨RX0, "<init>", "()V"⟩
abbrev cX0_isMissing : ByteArray := prog_2_method_2_code
def yX0_isMissing : MethodName := ⟨RX0, "isMissing", "()Z"⟩
abbrev cX0_begin : ByteArray := prog_2_method_3_code
def yX0_begin : MethodName := ⟨RX0, "begin", "(II)V"⟩
abbrev cX0_put : ByteArray := prog_2_method_4_code
def yX0_put : MethodName := ⟨RX0, "put", "(II)V"⟩
abbrev cX0_has : ByteArray := prog_2_method_5_code
def yX0_has : MethodName := ⟨RX0, "has", "(II)Z"⟩
def RX1 : String := "FogLots$Tape"
def TX1 : u_T := fun k => match k with
  | 0 => ("FogLots$Tape", "bytes", "[I", true)
  | 1 => ("FogLots$Tape", "length", "I", false)
  | 2 => ("FogLots$Tape", "fault", "I", false)
  | 3 => ("FogLots$Tape", "token", "I", false)
  | 4 => ("FogLots$Tape", "start", "I", false)
  | 5 => ("FogLots$Tape", "end", "I", false)
  | _ => ("FogLots$Tape", "value", "I", false)
def tyX1 : Nat → FieldType := fun k => match k with
  | 0 => .array .int
  | 1 => .int
  | 2 => .int
  | 3 => .int
  | 4 => .int
  | 5 => .int
  | _ => .int
abbrev wsX10 : List Cond := u_ws RX1 TX1 7
theorem nmX1 : ∀ a, a < 7 → ∀ b, b < 7 → a ≠ b → (TX1 a).2.1 ≠ (TX1 b).2.1 := by decide +kernel
theorem tyX1_ok : ∀ k, k < 7 → parseFieldDescriptor (TX1 k).2.2.1 = some (tyX1 k) := by decide +kernel
abbrev cX1_init : ByteArray := prog_3_method_1_code
def yX1_init : MethodName := ⟨RX1, "<init>", "()V"⟩
abbrev cX1_append : ByteArray := prog_3_method_2_code
def yX1_append : MethodName := ⟨RX1, "append", "(I)V"⟩
abbrev cX1_tellTo : ByteArray := prog_3_method_3_code
def yX1_tellTo : MethodName := ⟨RX1, "tellTo", "(LFogLots$World;)I"⟩
abbrev cX1_tellItem : ByteArray := prog_3_method_4_code
def yX1_tellItem : MethodName := ⟨RX1, "tellItem", "(LFogLots$World;)V"⟩
abbrev cX1_tellPerson : ByteArray := prog_3_method_5_code
def yX1_tellPerson : MethodName := ⟨RX1, "tellPerson", "(LFogLots$World;I)V"⟩
abbrev cX1_tellLot : ByteArray := prog_3_method_6_code
def yX1_tellLot : MethodName := ⟨RX1, "tellLot", "(LFogLots$World;)V"⟩
abbrev cX1_tellSun : ByteArray := prog_3_method_7_code
def yX1_tellSun : MethodName := ⟨RX1, "tellSun", "(LFogLots$World;)V"⟩
abbrev cX1_faultHere : ByteArray := prog_3_method_8_code
def yX1_faultHere : MethodName := ⟨RX1, "faultHere", "()V"⟩
abbrev cX1_took : ByteArray := prog_3_method_9_code
def yX1_took : MethodName := ⟨RX1, "took", "(Ljava/lang/String;)Z"⟩
abbrev cX1_takeNumber : ByteArray := prog_3_method_10_code
def yX1_takeNumber : MethodName := ⟨RX1, "takeNumber", "(I)I"⟩
abbrev cX1_kindOfWord : ByteArray := prog_3_method_11_code
def yX1_kindOfWord : MethodName := ⟨RX1, "kindOfWord", "()I"⟩
abbrev cX1_isWord : ByteArray := prog_3_method_12_code
def yX1_isWord : MethodName := ⟨RX1, "isWord", "(Ljava/lang/String;)Z"⟩
abbrev cX1_nextToken : ByteArray := prog_3_method_13_code
def yX1_nextToken : MethodName := ⟨RX1, "nextToken", "()V"⟩
abbrev cX1_readWord : ByteArray := prog_3_method_14_code
def yX1_readWord : MethodName := ⟨RX1, "readWord", "()V"⟩
abbrev cX1_readNumber : ByteArray := prog_3_method_15_code
def yX1_readNumber : MethodName := ⟨RX1, "readNumber", "()V"⟩
abbrev cX1_isLetter : ByteArray := prog_3_method_16_code
def yX1_isLetter : MethodName := ⟨RX1, "isLetter", "(I)Z"⟩
abbrev cX1_isDigit : ByteArray := prog_3_method_17_code
def yX1_isDigit : MethodName := ⟨RX1, "isDigit", "(I)Z"⟩
def RX2 : String := "FogLots$World"
def TX2 : u_T := fun k => match k with
  | 0 => ("FogLots$World", "fog", "[I", true)
  | 1 => ("FogLots$World", "rent", "[I", true)
  | 2 => ("FogLots$World", "owner", "[I", true)
  | 3 => ("FogLots$World", "suns", "[I", true)
  | 4 => ("FogLots$World", "mist", "I", false)
  | 5 => ("FogLots$World", "people", "I", false)
  | 6 => ("FogLots$World", "kind", "[I", true)
  | 7 => ("FogLots$World", "place", "[I", true)
  | 8 => ("FogLots$World", "belief", "[I", true)
  | 9 => ("FogLots$World", "purse", "[I", true)
  | 10 => ("FogLots$World", "fell", "[I", true)
  | 11 => ("FogLots$World", "gone", "I", false)
  | 12 => ("FogLots$World", "day", "I", false)
  | 13 => ("FogLots$World", "z", "I", false)
  | 14 => ("FogLots$World", "spots", "[I", true)
  | _ => ("FogLots$World", "atOnce", "[I", true)
def tyX2 : Nat → FieldType := fun k => match k with
  | 0 => .array .int
  | 1 => .array .int
  | 2 => .array .int
  | 3 => .array .int
  | 4 => .int
  | 5 => .int
  | 6 => .array .int
  | 7 => .array .int
  | 8 => .array .int
  | 9 => .array .int
  | 10 => .array .int
  | 11 => .int
  | 12 => .int
  | 13 => .int
  | 14 => .array .int
  | _ => .array .int
abbrev wsX20 : List Cond := u_ws RX2 TX2 16
theorem nmX2 : ∀ a, a < 16 → ∀ b, b < 16 → a ≠ b → (TX2 a).2.1 ≠ (TX2 b).2.1 := by decide +kernel
theorem tyX2_ok : ∀ k, k < 16 → parseFieldDescriptor (TX2 k).2.2.1 = some (tyX2 k) := by decide +kernel
abbrev cX2_init : ByteArray := prog_4_method_1_code
def yX2_init : MethodName := ⟨RX2, "<init>", "()V"⟩
abbrev cX2_become : ByteArray := prog_4_method_2_code
def yX2_become : MethodName := ⟨RX2, "become", "(LFogLots$World;)V"⟩
abbrev cX2_isPerson : ByteArray := prog_4_method_3_code
def yX2_isPerson : MethodName := ⟨RX2, "isPerson", "(I)Z"⟩
abbrev cX2_add : ByteArray := prog_4_method_4_code
def yX2_add : MethodName := ⟨RX2, "add", "(I)I"⟩
abbrev cX2_sendAway : ByteArray := prog_4_method_5_code
def yX2_sendAway : MethodName := ⟨RX2, "sendAway", "(I)V"⟩
abbrev cX2_isGone : ByteArray := prog_4_method_6_code
def yX2_isGone : MethodName := ⟨RX2, "isGone", "(I)Z"⟩
abbrev cX2_valueOf : ByteArray := prog_4_method_7_code
def yX2_valueOf : MethodName := ⟨RX2, "valueOf", "(II)I"⟩
abbrev cX2_thoseOn : ByteArray := prog_4_method_8_code
def yX2_thoseOn : MethodName := ⟨RX2, "thoseOn", "(I)I"⟩
abbrev cX2_thoseOnLots : ByteArray := prog_4_method_9_code
def yX2_thoseOnLots : MethodName := ⟨RX2, "thoseOnLots", "()I"⟩
abbrev cX2_thoseStanding : ByteArray := prog_4_method_10_code
def yX2_thoseStanding : MethodName := ⟨RX2, "thoseStanding", "(I)I"⟩
abbrev cX2_lotsOwnedBy : ByteArray := prog_4_method_11_code
def yX2_lotsOwnedBy : MethodName := ⟨RX2, "lotsOwnedBy", "(I)I"⟩
abbrev cX2_spotsHeld : ByteArray := prog_4_method_12_code
def yX2_spotsHeld : MethodName := ⟨RX2, "spotsHeld", "()I"⟩
abbrev cX2_draw : ByteArray := prog_4_method_13_code
def yX2_draw : MethodName := ⟨RX2, "draw", "()I"⟩
abbrev cX2_trustOf : ByteArray := prog_4_method_14_code
def yX2_trustOf : MethodName := ⟨RX2, "trustOf", "(II)I"⟩
abbrev cX2_stands : ByteArray := prog_4_method_15_code
def yX2_stands : MethodName := ⟨RX2, "stands", "(II)Z"⟩
abbrev cX2_lotMadeFor : ByteArray := prog_4_method_16_code
def yX2_lotMadeFor : MethodName := ⟨RX2, "lotMadeFor", "(I)I"⟩
abbrev cX2_prefers : ByteArray := prog_4_method_17_code
def yX2_prefers : MethodName := ⟨RX2, "prefers", "(III)Z"⟩
abbrev cX2_passDays : ByteArray := prog_4_method_18_code
def yX2_passDays : MethodName := ⟨RX2, "passDays", "(I)V"⟩
abbrev cX2_thinAndThicken : ByteArray := prog_4_method_19_code
def yX2_thinAndThicken : MethodName := ⟨RX2, "thinAndThicken", "()V"⟩
abbrev cX2_spreadFog : ByteArray := prog_4_method_20_code
def yX2_spreadFog : MethodName := ⟨RX2, "spreadFog", "()V"⟩
abbrev cX2_movePeople : ByteArray := prog_4_method_21_code
def yX2_movePeople : MethodName := ⟨RX2, "movePeople", "()V"⟩
abbrev cX2_fall : ByteArray := prog_4_method_22_code
def yX2_fall : MethodName := ⟨RX2, "fall", "(I)V"⟩
abbrev cX2_payRents : ByteArray := prog_4_method_23_code
def yX2_payRents : MethodName := ⟨RX2, "payRents", "()V"⟩
abbrev cX2_spreadBelief : ByteArray := prog_4_method_24_code
def yX2_spreadBelief : MethodName := ⟨RX2, "spreadBelief", "()V"⟩
abbrev cX2_greatestBeliefBeside : ByteArray := prog_4_method_25_code
def yX2_greatestBeliefBeside : MethodName := ⟨RX2, "greatestBeliefBeside", "(I)I"⟩
def RX3 : String := "FogLots"
def TX3 : u_T := fun k => match k with
  | 0 => ("FogLots", "world", "LFogLots$World;", true)
  | 1 => ("FogLots", "trial", "LFogLots$World;", true)
  | 2 => ("FogLots", "keptWorld", "LFogLots$World;", true)
  | 3 => ("FogLots", "isKept", "Z", false)
  | 4 => ("FogLots", "tape", "LFogLots$Tape;", true)
  | 5 => ("FogLots", "sheets", "[LFogLots$Sheet;", true)
  | _ => ("FogLots", "found", "[I", true)
def tyX3 : Nat → FieldType := fun k => match k with
  | 0 => .object "FogLots$World"
  | 1 => .object "FogLots$World"
  | 2 => .object "FogLots$World"
  | 3 => .boolean
  | 4 => .object "FogLots$Tape"
  | 5 => .array (.object "FogLots$Sheet")
  | _ => .array .int
abbrev wsX30 : List Cond := u_ws RX3 TX3 7
theorem nmX3 : ∀ a, a < 7 → ∀ b, b < 7 → a ≠ b → (TX3 a).2.1 ≠ (TX3 b).2.1 := by decide +kernel
theorem tyX3_ok : ∀ k, k < 7 → parseFieldDescriptor (TX3 k).2.2.1 = some (tyX3 k) := by decide +kernel
abbrev cX3_init : ByteArray := prog_1_method_1_code
def yX3_init : MethodName := ⟨RX3, "<init>", "()V"⟩
abbrev cX3_lot : ByteArray := prog_1_method_2_code
def yX3_lot : MethodName := ⟨RX3, "lot", "(III)I"⟩
abbrev cX3_lotOf : ByteArray := prog_1_method_3_code
def yX3_lotOf : MethodName := ⟨RX3, "lotOf", "(II)I"⟩
abbrev cX3_sun : ByteArray := prog_1_method_4_code
def yX3_sun : MethodName := ⟨RX3, "sun", "(II)I"⟩
abbrev cX3_mist : ByteArray := prog_1_method_5_code
def yX3_mist : MethodName := ⟨RX3, "mist", "(I)I"⟩
abbrev cX3_person : ByteArray := prog_1_method_6_code
def yX3_person : MethodName := ⟨RX3, "person", "(I)I"⟩
abbrev cX3_of : ByteArray := prog_1_method_7_code
def yX3_of : MethodName := ⟨RX3, "of", "(II)I"⟩
abbrev cX3_change : ByteArray := prog_1_method_8_code
def yX3_change : MethodName := ⟨RX3, "change", "(III)I"⟩
abbrev cX3_trust : ByteArray := prog_1_method_9_code
def yX3_trust : MethodName := ⟨RX3, "trust", "(II)I"⟩
abbrev cX3_go : ByteArray := prog_1_method_10_code
def yX3_go : MethodName := ⟨RX3, "go", "(I)I"⟩
abbrev cX3_now : ByteArray := prog_1_method_11_code
def yX3_now : MethodName := ⟨RX3, "now", "(I)I"⟩
abbrev cX3_ahead : ByteArray := prog_1_method_12_code
def yX3_ahead : MethodName := ⟨RX3, "ahead", "(III)I"⟩
abbrev cX3_fog : ByteArray := prog_1_method_13_code
def yX3_fog : MethodName := ⟨RX3, "fog", "(II)I"⟩
abbrev cX3_falls : ByteArray := prog_1_method_14_code
def yX3_falls : MethodName := ⟨RX3, "falls", "(I)I"⟩
abbrev cX3_bare : ByteArray := prog_1_method_15_code
def yX3_bare : MethodName := ⟨RX3, "bare", "()I"⟩
abbrev cX3_meet : ByteArray := prog_1_method_16_code
def yX3_meet : MethodName := ⟨RX3, "meet", "(II)I"⟩
abbrev cX3_beliefFor : ByteArray := prog_1_method_17_code
def yX3_beliefFor : MethodName := ⟨RX3, "beliefFor", "(II)I"⟩
abbrev cX3_settle : ByteArray := prog_1_method_18_code
def yX3_settle : MethodName := ⟨RX3, "settle", "(II)I"⟩
abbrev cX3_kindFor : ByteArray := prog_1_method_19_code
def yX3_kindFor : MethodName := ⟨RX3, "kindFor", "(II)I"⟩
abbrev cX3_rentFor : ByteArray := prog_1_method_20_code
def yX3_rentFor : MethodName := ⟨RX3, "rentFor", "(II)I"⟩
abbrev cX3_sunFor : ByteArray := prog_1_method_21_code
def yX3_sunFor : MethodName := ⟨RX3, "sunFor", "(I)I"⟩
abbrev cX3_away : ByteArray := prog_1_method_22_code
def yX3_away : MethodName := ⟨RX3, "away", "(II)I"⟩
abbrev cX3_fits : ByteArray := prog_1_method_23_code
def yX3_fits : MethodName := ⟨RX3, "fits", "(II)I"⟩
abbrev cX3_believed : ByteArray := prog_1_method_24_code
def yX3_believed : MethodName := ⟨RX3, "believed", "(II)I"⟩
abbrev cX3_kinds : ByteArray := prog_1_method_25_code
def yX3_kinds : MethodName := ⟨RX3, "kinds", "(II)I"⟩
abbrev cX3_fine : ByteArray := prog_1_method_26_code
def yX3_fine : MethodName := ⟨RX3, "fine", "(I)I"⟩
abbrev cX3_odds : ByteArray := prog_1_method_27_code
def yX3_odds : MethodName := ⟨RX3, "odds", "(III)J"⟩
abbrev cX3_seed : ByteArray := prog_1_method_28_code
def yX3_seed : MethodName := ⟨RX3, "seed", "(I)I"⟩
abbrev cX3_feed : ByteArray := prog_1_method_29_code
def yX3_feed : MethodName := ⟨RX3, "feed", "(II)I"⟩
abbrev cX3_wipe : ByteArray := prog_1_method_30_code
def yX3_wipe : MethodName := ⟨RX3, "wipe", "()I"⟩
abbrev cX3_text : ByteArray := prog_1_method_31_code
def yX3_text : MethodName := ⟨RX3, "text", "()I"⟩
abbrev cX3_hold : ByteArray := prog_1_method_32_code
def yX3_hold : MethodName := ⟨RX3, "hold", "(II)I"⟩
abbrev cX3_as : ByteArray := prog_1_method_33_code
def yX3_as : MethodName := ⟨RX3, "as", "(II)I"⟩
abbrev cX3_sheet : ByteArray := prog_1_method_34_code
def yX3_sheet : MethodName := ⟨RX3, "sheet", "(III)I"⟩
abbrev cX3_write : ByteArray := prog_1_method_35_code
def yX3_write : MethodName := ⟨RX3, "write", "(III)I"⟩
abbrev cX3_copy : ByteArray := prog_1_method_36_code
def yX3_copy : MethodName := ⟨RX3, "copy", "(IIIII)I"⟩
abbrev cX3_load : ByteArray := prog_1_method_37_code
def yX3_load : MethodName := ⟨RX3, "load", "(I)I"⟩
abbrev cX3_judge : ByteArray := prog_1_method_38_code
def yX3_judge : MethodName := ⟨RX3, "judge", "(I)I"⟩
abbrev cX3_image : ByteArray := prog_1_method_39_code
def yX3_image : MethodName := ⟨RX3, "image", "()I"⟩
abbrev cX3_undo : ByteArray := prog_1_method_40_code
def yX3_undo : MethodName := ⟨RX3, "undo", "()I"⟩
abbrev cX3_tear : ByteArray := prog_1_method_41_code
def yX3_tear : MethodName := ⟨RX3, "tear", "()I"⟩
abbrev cX3_count : ByteArray := prog_1_method_42_code
def yX3_count : MethodName := ⟨RX3, "count", "(I)I"⟩
abbrev cX3_status : ByteArray := prog_1_method_43_code
def yX3_status : MethodName := ⟨RX3, "status", "(I)I"⟩
abbrev cX3_finding : ByteArray := prog_1_method_44_code
def yX3_finding : MethodName := ⟨RX3, "finding", "(I)I"⟩
abbrev cX3_faultOfTold : ByteArray := prog_1_method_45_code
def yX3_faultOfTold : MethodName := ⟨RX3, "faultOfTold", "(II)I"⟩
abbrev cX3_goesAsTold : ByteArray := prog_1_method_46_code
def yX3_goesAsTold : MethodName := ⟨RX3, "goesAsTold", "(ILFogLots$Sheet;)Z"⟩
abbrev cX3_within : ByteArray := prog_1_method_47_code
def yX3_within : MethodName := ⟨RX3, "within", "(III)Z"⟩
abbrev cX3_isLot : ByteArray := prog_1_method_48_code
def yX3_isLot : MethodName := ⟨RX3, "isLot", "(I)Z"⟩
abbrev cX3_isKind : ByteArray := prog_1_method_49_code
def yX3_isKind : MethodName := ⟨RX3, "isKind", "(I)Z"⟩
abbrev cX3_isSheet : ByteArray := prog_1_method_50_code
def yX3_isSheet : MethodName := ⟨RX3, "isSheet", "(I)Z"⟩
abbrev cX3_exchange : ByteArray := prog_1_method_51_code
def yX3_exchange : MethodName := ⟨RX3, "exchange", "([III)I"⟩
abbrev cX3_sumOf : ByteArray := prog_1_method_52_code
def yX3_sumOf : MethodName := ⟨RX3, "sumOf", "([II)I"⟩
abbrev cX3_firstGreatest : ByteArray := prog_1_method_53_code
def yX3_firstGreatest : MethodName := ⟨RX3, "firstGreatest", "([II)I"⟩
abbrev cX3_greatestCommon : ByteArray := prog_1_method_54_code
def yX3_greatestCommon : MethodName := ⟨RX3, "greatestCommon", "(II)I"⟩
abbrev cX3_losesOf : ByteArray := prog_1_method_55_code
def yX3_losesOf : MethodName := ⟨RX3, "losesOf", "(I)I"⟩
abbrev cX3_kindAbove : ByteArray := prog_1_method_56_code
def yX3_kindAbove : MethodName := ⟨RX3, "kindAbove", "(I)I"⟩
abbrev cX3_isUnder : ByteArray := prog_1_method_57_code
def yX3_isUnder : MethodName := ⟨RX3, "isUnder", "(II)Z"⟩
def RX4 : String := "FogLotsModel"
def TX4 : u_T := fun k => match k with
  | 0 => ("FogLotsModel", "s", "[I", true)
  | 1 => ("FogLotsModel", "kept", "[I", true)
  | 2 => ("FogLotsModel", "aside", "[I", true)
  | 3 => ("FogLotsModel", "isKept", "Z", false)
  | 4 => ("FogLotsModel", "found", "[I", true)
  | 5 => ("FogLotsModel", "gone", "I", false)
  | 6 => ("FogLotsModel", "flows", "[I", true)
  | 7 => ("FogLotsModel", "beliefs", "[I", true)
  | 8 => ("FogLotsModel", "tape", "[I", true)
  | 9 => ("FogLotsModel", "taped", "I", false)
  | 10 => ("FogLotsModel", "token", "I", false)
  | 11 => ("FogLotsModel", "begun", "I", false)
  | 12 => ("FogLotsModel", "ended", "I", false)
  | 13 => ("FogLotsModel", "value", "J", false)
  | 14 => ("FogLotsModel", "letters", "[C", true)
  | 15 => ("FogLotsModel", "more", "[C", true)
  | 16 => ("FogLotsModel", "others", "[C", true)
  | 17 => ("FogLotsModel", "about", "[C", true)
  | 18 => ("FogLotsModel", "widths", "[I", true)
  | 19 => ("FogLotsModel", "sizes", "[I", true)
  | 20 => ("FogLotsModel", "cells", "[I", true)
  | _ => ("FogLotsModel", "carried", "[I", true)
def tyX4 : Nat → FieldType := fun k => match k with
  | 0 => .array .int
  | 1 => .array .int
  | 2 => .array .int
  | 3 => .boolean
  | 4 => .array .int
  | 5 => .int
  | 6 => .array .int
  | 7 => .array .int
  | 8 => .array .int
  | 9 => .int
  | 10 => .int
  | 11 => .int
  | 12 => .int
  | 13 => .long
  | 14 => .array .char
  | 15 => .array .char
  | 16 => .array .char
  | 17 => .array .char
  | 18 => .array .int
  | 19 => .array .int
  | 20 => .array .int
  | _ => .array .int
abbrev wsX40 : List Cond := u_ws RX4 TX4 22
theorem nmX4 : ∀ a, a < 22 → ∀ b, b < 22 → a ≠ b → (TX4 a).2.1 ≠ (TX4 b).2.1 := by decide +kernel
theorem tyX4_ok : ∀ k, k < 22 → parseFieldDescriptor (TX4 k).2.2.1 = some (tyX4 k) := by decide +kernel
abbrev cX4_init : ByteArray := prog_6_method_1_code
def yX4_init : MethodName := ⟨RX4, "<init>", "()V"⟩
abbrev cX4_no : ByteArray := prog_6_method_2_code
def yX4_no : MethodName := ⟨RX4, "no", "(I)I"⟩
abbrev cX4_in1 : ByteArray := prog_6_method_3_code
def yX4_in1 : MethodName := ⟨RX4, "in1", "(III)Z"⟩
abbrev cX4_less : ByteArray := prog_6_method_4_code
def yX4_less : MethodName := ⟨RX4, "less", "(II)I"⟩
abbrev cX4_bits : ByteArray := prog_6_method_5_code
def yX4_bits : MethodName := ⟨RX4, "bits", "(I)I"⟩
abbrev cX4_isLot : ByteArray := prog_6_method_6_code
def yX4_isLot : MethodName := ⟨RX4, "isLot", "(I)Z"⟩
abbrev cX4_isPerson : ByteArray := prog_6_method_7_code
def yX4_isPerson : MethodName := ⟨RX4, "isPerson", "(I)Z"⟩
abbrev cX4_of1 : ByteArray := prog_6_method_8_code
def yX4_of1 : MethodName := ⟨RX4, "of1", "(II)I"⟩
abbrev cX4_lays1 : ByteArray := prog_6_method_9_code
def yX4_lays1 : MethodName := ⟨RX4, "lays1", "(III)V"⟩
abbrev cX4_get : ByteArray := prog_6_method_10_code
def yX4_get : MethodName := ⟨RX4, "get", "(II)I"⟩
abbrev cX4_puts : ByteArray := prog_6_method_11_code
def yX4_puts : MethodName := ⟨RX4, "puts", "(III)V"⟩
abbrev cX4_setsAside : ByteArray := prog_6_method_12_code
def yX4_setsAside : MethodName := ⟨RX4, "setsAside", "()V"⟩
abbrev cX4_laysBack : ByteArray := prog_6_method_13_code
def yX4_laysBack : MethodName := ⟨RX4, "laysBack", "()V"⟩
abbrev cX4_whoIsOn : ByteArray := prog_6_method_14_code
def yX4_whoIsOn : MethodName := ⟨RX4, "whoIsOn", "(I)I"⟩
abbrev cX4_onLots : ByteArray := prog_6_method_15_code
def yX4_onLots : MethodName := ⟨RX4, "onLots", "()I"⟩
abbrev cX4_sumOf : ByteArray := prog_6_method_16_code
def yX4_sumOf : MethodName := ⟨RX4, "sumOf", "(I)I"⟩
abbrev cX4_trustOf : ByteArray := prog_6_method_17_code
def yX4_trustOf : MethodName := ⟨RX4, "trustOf", "(II)I"⟩
abbrev cX4_stands : ByteArray := prog_6_method_18_code
def yX4_stands : MethodName := ⟨RX4, "stands", "(II)Z"⟩
abbrev cX4_losesOf : ByteArray := prog_6_method_19_code
def yX4_losesOf : MethodName := ⟨RX4, "losesOf", "(I)I"⟩
abbrev cX4_isBetter : ByteArray := prog_6_method_20_code
def yX4_isBetter : MethodName := ⟨RX4, "isBetter", "(III)Z"⟩
abbrev cX4_makesFor : ByteArray := prog_6_method_21_code
def yX4_makesFor : MethodName := ⟨RX4, "makesFor", "(I)I"⟩
abbrev cX4_drifts : ByteArray := prog_6_method_22_code
def yX4_drifts : MethodName := ⟨RX4, "drifts", "()V"⟩
abbrev cX4_moves : ByteArray := prog_6_method_23_code
def yX4_moves : MethodName := ⟨RX4, "moves", "(I)V"⟩
abbrev cX4_pays : ByteArray := prog_6_method_24_code
def yX4_pays : MethodName := ⟨RX4, "pays", "(I)V"⟩
abbrev cX4_finds : ByteArray := prog_6_method_25_code
def yX4_finds : MethodName := ⟨RX4, "finds", "(I)V"⟩
abbrev cX4_isAway : ByteArray := prog_6_method_26_code
def yX4_isAway : MethodName := ⟨RX4, "isAway", "(I)Z"⟩
abbrev cX4_day : ByteArray := prog_6_method_27_code
def yX4_day : MethodName := ⟨RX4, "day", "()V"⟩
abbrev cX4_goes : ByteArray := prog_6_method_28_code
def yX4_goes : MethodName := ⟨RX4, "goes", "(I)V"⟩
abbrev cX4_lot : ByteArray := prog_6_method_29_code
def yX4_lot : MethodName := ⟨RX4, "lot", "(III)I"⟩
abbrev cX4_standing : ByteArray := prog_6_method_30_code
def yX4_standing : MethodName := ⟨RX4, "standing", "(I)I"⟩
abbrev cX4_lotOf : ByteArray := prog_6_method_31_code
def yX4_lotOf : MethodName := ⟨RX4, "lotOf", "(II)I"⟩
abbrev cX4_sun : ByteArray := prog_6_method_32_code
def yX4_sun : MethodName := ⟨RX4, "sun", "(II)I"⟩
abbrev cX4_mist : ByteArray := prog_6_method_33_code
def yX4_mist : MethodName := ⟨RX4, "mist", "(I)I"⟩
abbrev cX4_adds : ByteArray := prog_6_method_34_code
def yX4_adds : MethodName := ⟨RX4, "adds", "(I)V"⟩
abbrev cX4_person : ByteArray := prog_6_method_35_code
def yX4_person : MethodName := ⟨RX4, "person", "(I)I"⟩
abbrev cX4_ownedBy : ByteArray := prog_6_method_36_code
def yX4_ownedBy : MethodName := ⟨RX4, "ownedBy", "(I)I"⟩
abbrev cX4_of : ByteArray := prog_6_method_37_code
def yX4_of : MethodName := ⟨RX4, "of", "(II)I"⟩
abbrev cX4_change : ByteArray := prog_6_method_38_code
def yX4_change : MethodName := ⟨RX4, "change", "(III)I"⟩
abbrev cX4_trust : ByteArray := prog_6_method_39_code
def yX4_trust : MethodName := ⟨RX4, "trust", "(II)I"⟩
abbrev cX4_go : ByteArray := prog_6_method_40_code
def yX4_go : MethodName := ⟨RX4, "go", "(I)I"⟩
abbrev cX4_fogs : ByteArray := prog_6_method_41_code
def yX4_fogs : MethodName := ⟨RX4, "fogs", "()I"⟩
abbrev cX4_mostFog : ByteArray := prog_6_method_42_code
def yX4_mostFog : MethodName := ⟨RX4, "mostFog", "()I"⟩
abbrev cX4_richest : ByteArray := prog_6_method_43_code
def yX4_richest : MethodName := ⟨RX4, "richest", "()I"⟩
abbrev cX4_now : ByteArray := prog_6_method_44_code
def yX4_now : MethodName := ⟨RX4, "now", "(I)I"⟩
abbrev cX4_ahead : ByteArray := prog_6_method_45_code
def yX4_ahead : MethodName := ⟨RX4, "ahead", "(III)I"⟩
abbrev cX4_fog : ByteArray := prog_6_method_46_code
def yX4_fog : MethodName := ⟨RX4, "fog", "(II)I"⟩
abbrev cX4_isSo : ByteArray := prog_6_method_47_code
def yX4_isSo : MethodName := ⟨RX4, "isSo", "(III)Z"⟩
abbrev cX4_firstBy : ByteArray := prog_6_method_48_code
def yX4_firstBy : MethodName := ⟨RX4, "firstBy", "(III)I"⟩
abbrev cX4_falls : ByteArray := prog_6_method_49_code
def yX4_falls : MethodName := ⟨RX4, "falls", "(I)I"⟩
abbrev cX4_bare : ByteArray := prog_6_method_50_code
def yX4_bare : MethodName := ⟨RX4, "bare", "()I"⟩
abbrev cX4_meet : ByteArray := prog_6_method_51_code
def yX4_meet : MethodName := ⟨RX4, "meet", "(II)I"⟩
abbrev cX4_isSoon : ByteArray := prog_6_method_52_code
def yX4_isSoon : MethodName := ⟨RX4, "isSoon", "(I)Z"⟩
abbrev cX4_thenWith : ByteArray := prog_6_method_53_code
def yX4_thenWith : MethodName := ⟨RX4, "thenWith", "(IIIII)I"⟩
abbrev cX4_beliefFor : ByteArray := prog_6_method_54_code
def yX4_beliefFor : MethodName := ⟨RX4, "beliefFor", "(II)I"⟩
abbrev cX4_settle : ByteArray := prog_6_method_55_code
def yX4_settle : MethodName := ⟨RX4, "settle", "(II)I"⟩
abbrev cX4_kindFor : ByteArray := prog_6_method_56_code
def yX4_kindFor : MethodName := ⟨RX4, "kindFor", "(II)I"⟩
abbrev cX4_rentFor : ByteArray := prog_6_method_57_code
def yX4_rentFor : MethodName := ⟨RX4, "rentFor", "(II)I"⟩
abbrev cX4_fellBy : ByteArray := prog_6_method_58_code
def yX4_fellBy : MethodName := ⟨RX4, "fellBy", "(II)I"⟩
abbrev cX4_sunFor : ByteArray := prog_6_method_59_code
def yX4_sunFor : MethodName := ⟨RX4, "sunFor", "(I)I"⟩
abbrev cX4_standsWithout : ByteArray := prog_6_method_60_code
def yX4_standsWithout : MethodName := ⟨RX4, "standsWithout", "(III)Z"⟩
abbrev cX4_away : ByteArray := prog_6_method_61_code
def yX4_away : MethodName := ⟨RX4, "away", "(II)I"⟩
abbrev cX4_isSheet : ByteArray := prog_6_method_62_code
def yX4_isSheet : MethodName := ⟨RX4, "isSheet", "(I)Z"⟩
abbrev cX4_wrongSheet : ByteArray := prog_6_method_63_code
def yX4_wrongSheet : MethodName := ⟨RX4, "wrongSheet", "(I)I"⟩
abbrev cX4_wrongTold : ByteArray := prog_6_method_64_code
def yX4_wrongTold : MethodName := ⟨RX4, "wrongTold", "(II)I"⟩
abbrev cX4_told : ByteArray := prog_6_method_65_code
def yX4_told : MethodName := ⟨RX4, "told", "(II)I"⟩
abbrev cX4_fitsAs : ByteArray := prog_6_method_66_code
def yX4_fitsAs : MethodName := ⟨RX4, "fitsAs", "(IIII)Z"⟩
abbrev cX4_fits : ByteArray := prog_6_method_67_code
def yX4_fits : MethodName := ⟨RX4, "fits", "(II)I"⟩
abbrev cX4_believed : ByteArray := prog_6_method_68_code
def yX4_believed : MethodName := ⟨RX4, "believed", "(II)I"⟩
abbrev cX4_kinds : ByteArray := prog_6_method_69_code
def yX4_kinds : MethodName := ⟨RX4, "kinds", "(II)I"⟩
abbrev cX4_draw : ByteArray := prog_6_method_70_code
def yX4_draw : MethodName := ⟨RX4, "draw", "()I"⟩
abbrev cX4_fine : ByteArray := prog_6_method_71_code
def yX4_fine : MethodName := ⟨RX4, "fine", "(I)I"⟩
abbrev cX4_odds : ByteArray := prog_6_method_72_code
def yX4_odds : MethodName := ⟨RX4, "odds", "(III)J"⟩
abbrev cX4_seed : ByteArray := prog_6_method_73_code
def yX4_seed : MethodName := ⟨RX4, "seed", "(I)I"⟩
abbrev cX4_feed : ByteArray := prog_6_method_74_code
def yX4_feed : MethodName := ⟨RX4, "feed", "(II)I"⟩
abbrev cX4_wipe : ByteArray := prog_6_method_75_code
def yX4_wipe : MethodName := ⟨RX4, "wipe", "()I"⟩
abbrev cX4_isLetter : ByteArray := prog_6_method_76_code
def yX4_isLetter : MethodName := ⟨RX4, "isLetter", "(I)Z"⟩
abbrev cX4_isDigit : ByteArray := prog_6_method_77_code
def yX4_isDigit : MethodName := ⟨RX4, "isDigit", "(I)Z"⟩
abbrev cX4_nextToken : ByteArray := prog_6_method_78_code
def yX4_nextToken : MethodName := ⟨RX4, "nextToken", "()V"⟩
abbrev cX4_wordOf : ByteArray := prog_6_method_79_code
def yX4_wordOf : MethodName := ⟨RX4, "wordOf", "([C)I"⟩
abbrev cX4_takesNumber : ByteArray := prog_6_method_80_code
def yX4_takesNumber : MethodName := ⟨RX4, "takesNumber", "(II)I"⟩
abbrev cX4_readsPerson : ByteArray := prog_6_method_81_code
def yX4_readsPerson : MethodName := ⟨RX4, "readsPerson", "(I)Z"⟩
abbrev cX4_readsLot : ByteArray := prog_6_method_82_code
def yX4_readsLot : MethodName := ⟨RX4, "readsLot", "()Z"⟩
abbrev cX4_readsSun : ByteArray := prog_6_method_83_code
def yX4_readsSun : MethodName := ⟨RX4, "readsSun", "(Z)Z"⟩
abbrev cX4_readsItem : ByteArray := prog_6_method_84_code
def yX4_readsItem : MethodName := ⟨RX4, "readsItem", "()Z"⟩
abbrev cX4_text : ByteArray := prog_6_method_85_code
def yX4_text : MethodName := ⟨RX4, "text", "()I"⟩
abbrev cX4_isSpot : ByteArray := prog_6_method_86_code
def yX4_isSpot : MethodName := ⟨RX4, "isSpot", "(I)Z"⟩
abbrev cX4_hold : ByteArray := prog_6_method_87_code
def yX4_hold : MethodName := ⟨RX4, "hold", "(II)I"⟩
abbrev cX4_above : ByteArray := prog_6_method_88_code
def yX4_above : MethodName := ⟨RX4, "above", "(I)I"⟩
abbrev cX4_as : ByteArray := prog_6_method_89_code
def yX4_as : MethodName := ⟨RX4, "as", "(II)I"⟩
abbrev cX4_sheet : ByteArray := prog_6_method_90_code
def yX4_sheet : MethodName := ⟨RX4, "sheet", "(III)I"⟩
abbrev cX4_write : ByteArray := prog_6_method_91_code
def yX4_write : MethodName := ⟨RX4, "write", "(III)I"⟩
abbrev cX4_copy : ByteArray := prog_6_method_92_code
def yX4_copy : MethodName := ⟨RX4, "copy", "(IIIII)I"⟩
abbrev cX4_load : ByteArray := prog_6_method_93_code
def yX4_load : MethodName := ⟨RX4, "load", "(I)I"⟩
abbrev cX4_judge : ByteArray := prog_6_method_94_code
def yX4_judge : MethodName := ⟨RX4, "judge", "(I)I"⟩
abbrev cX4_image : ByteArray := prog_6_method_95_code
def yX4_image : MethodName := ⟨RX4, "image", "()I"⟩
abbrev cX4_undo : ByteArray := prog_6_method_96_code
def yX4_undo : MethodName := ⟨RX4, "undo", "()I"⟩
abbrev cX4_tear : ByteArray := prog_6_method_97_code
def yX4_tear : MethodName := ⟨RX4, "tear", "()I"⟩
abbrev cX4_count : ByteArray := prog_6_method_98_code
def yX4_count : MethodName := ⟨RX4, "count", "(I)I"⟩
abbrev cX4_status : ByteArray := prog_6_method_99_code
def yX4_status : MethodName := ⟨RX4, "status", "(I)I"⟩
def RJ6 : String := "java/lang/Integer"
def TJ6 : u_T := fun k => match k with
  | _ => ("", "", "", false)
def tyJ6 : Nat → FieldType := fun k => match k with
  | _ => .int
abbrev wsJ60 : List Cond := u_ws RJ6 TJ6 0
theorem nmJ6 : ∀ a, a < 0 → ∀ b, b < 0 → a ≠ b → (TJ6 a).2.1 ≠ (TJ6 b).2.1 := by decide +kernel
theorem tyJ6_ok : ∀ k, k < 0 → parseFieldDescriptor (TJ6 k).2.2.1 = some (tyJ6 k) := by decide +kernel
abbrev cJ6_bitCount_0f7a4 : ByteArray := prog_7_method_49_code
def yJ6_bitCount_0f7a4 : MethodName := ⟨RJ6, "bitCount", "(I)I"⟩
def RJ9 : String := "java/lang/Math"
def TJ9 : u_T := fun k => match k with
  | _ => ("", "", "", false)
def tyJ9 : Nat → FieldType := fun k => match k with
  | _ => .int
abbrev wsJ90 : List Cond := u_ws RJ9 TJ9 0
theorem nmJ9 : ∀ a, a < 0 → ∀ b, b < 0 → a ≠ b → (TJ9 a).2.1 ≠ (TJ9 b).2.1 := by decide +kernel
theorem tyJ9_ok : ∀ k, k < 0 → parseFieldDescriptor (TJ9 k).2.2.1 = some (tyJ9 k) := by decide +kernel
abbrev cJ9_max_7cf53 : ByteArray := prog_8_method_65_code
def yJ9_max_7cf53 : MethodName := ⟨RJ9, "max", "(II)I"⟩
abbrev cJ9_min_7cf53 : ByteArray := prog_8_method_69_code
def yJ9_min_7cf53 : MethodName := ⟨RJ9, "min", "(II)I"⟩
def RJ0 : String := "java/lang/String"
def TJ0 : u_T := fun k => match k with
  | _ => ("", "", "", false)
def tyJ0 : Nat → FieldType := fun k => match k with
  | _ => .int
abbrev wsJ00 : List Cond := u_ws RJ0 TJ0 0
theorem nmJ0 : ∀ a, a < 0 → ∀ b, b < 0 → a ≠ b → (TJ0 a).2.1 ≠ (TJ0 b).2.1 := by decide +kernel
theorem tyJ0_ok : ∀ k, k < 0 → parseFieldDescriptor (TJ0 k).2.2.1 = some (tyJ0 k) := by decide +kernel
abbrev cJ0_length_8abf5 : ByteArray := prog_9_method_54_code
def yJ0_length_8abf5 : MethodName := ⟨RJ0, "length", "()I"⟩
abbrev cJ0_charAt_5068e : ByteArray := prog_9_method_56_code
def yJ0_charAt_5068e : MethodName := ⟨RJ0, "charAt", "(I)C"⟩
abbrev cJ0_coder_7d493 : ByteArray := prog_9_method_152_code
def yJ0_coder_7d493 : MethodName := ⟨RJ0, "coder", "()B"⟩
abbrev cJ0_isLatin1_aae02 : ByteArray := prog_9_method_154_code
def yJ0_isLatin1_aae02 : MethodName := ⟨RJ0, "isLatin1", "()Z"⟩
abbrev cJ0_checkIndex_df160 : ByteArray := prog_9_method_155_code
def yJ0_checkIndex_df160 : MethodName := ⟨RJ0, "checkIndex", "(II)V"⟩
def RJ1 : String := "java/lang/StringLatin1"
def TJ1 : u_T := fun k => match k with
  | _ => ("", "", "", false)
def tyJ1 : Nat → FieldType := fun k => match k with
  | _ => .int
abbrev wsJ10 : List Cond := u_ws RJ1 TJ1 0
theorem nmJ1 : ∀ a, a < 0 → ∀ b, b < 0 → a ≠ b → (TJ1 a).2.1 ≠ (TJ1 b).2.1 := by decide +kernel
theorem tyJ1_ok : ∀ k, k < 0 → parseFieldDescriptor (TJ1 k).2.2.1 = some (tyJ1 k) := by decide +kernel
abbrev cJ1_charAt_3b067 : ByteArray := prog_10_method_2_code
def yJ1_charAt_3b067 : MethodName := ⟨RJ1, "charAt", "([BI)C"⟩
def RJ2 : String := "java/lang/StringUTF16"
def TJ2 : u_T := fun k => match k with
  | _ => ("", "", "", false)
def tyJ2 : Nat → FieldType := fun k => match k with
  | _ => .int
abbrev wsJ20 : List Cond := u_ws RJ2 TJ2 0
theorem nmJ2 : ∀ a, a < 0 → ∀ b, b < 0 → a ≠ b → (TJ2 a).2.1 ≠ (TJ2 b).2.1 := by decide +kernel
theorem tyJ2_ok : ∀ k, k < 0 → parseFieldDescriptor (TJ2 k).2.2.1 = some (tyJ2 k) := by decide +kernel
abbrev cJ2_getChar_3b067 : ByteArray := prog_11_method_5_code
def yJ2_getChar_3b067 : MethodName := ⟨RJ2, "getChar", "([BI)C"⟩
abbrev cJ2_length_9d52b : ByteArray := prog_11_method_6_code
def yJ2_length_9d52b : MethodName := ⟨RJ2, "length", "([B)I"⟩
abbrev cJ2_charAt_3b067 : ByteArray := prog_11_method_83_code
def yJ2_charAt_3b067 : MethodName := ⟨RJ2, "charAt", "([BI)C"⟩
abbrev cJ2_checkIndex_2214a : ByteArray := prog_11_method_91_code
def yJ2_checkIndex_2214a : MethodName := ⟨RJ2, "checkIndex", "(I[B)V"⟩
def RJ10 : String := "java/lang/System"
def TJ10 : u_T := fun k => match k with
  | _ => ("", "", "", false)
def tyJ10 : Nat → FieldType := fun k => match k with
  | _ => .int
abbrev wsJ100 : List Cond := u_ws RJ10 TJ10 0
theorem nmJ10 : ∀ a, a < 0 → ∀ b, b < 0 → a ≠ b → (TJ10 a).2.1 ≠ (TJ10 b).2.1 := by decide +kernel
theorem tyJ10_ok : ∀ k, k < 0 → parseFieldDescriptor (TJ10 k).2.2.1 = some (tyJ10 k) := by decide +kernel
def RJ3 : String := "jdk/internal/util/Preconditions"
def TJ3 : u_T := fun k => match k with
  | _ => ("", "", "", false)
def tyJ3 : Nat → FieldType := fun k => match k with
  | _ => .int
abbrev wsJ30 : List Cond := u_ws RJ3 TJ3 0
theorem nmJ3 : ∀ a, a < 0 → ∀ b, b < 0 → a ≠ b → (TJ3 a).2.1 ≠ (TJ3 b).2.1 := by decide +kernel
theorem tyJ3_ok : ∀ k, k < 0 → parseFieldDescriptor (TJ3 k).2.2.1 = some (tyJ3 k) := by decide +kernel
abbrev cJ3_checkIndex_8e157 : ByteArray := prog_13_method_11_code
def yJ3_checkIndex_8e157 : MethodName := ⟨RJ3, "checkIndex", "(IILjava/util/function/BiFunction;)I"⟩
def RL : String := "FogLotsLaw"
abbrev cL_law : ByteArray := code
def yL_law : MethodName := ⟨RL, "law", "([I)Z"⟩
set_option maxRecDepth 20000 in
abbrev vwCl : List vw_C := [(RX0, TX0, 3), (RX1, TX1, 7), (RX2, TX2, 16), (RX3, TX3, 7), (RX4, TX4, 22)]
end
section
theorem dX0_init_0 : decode cX0_init 0 = .ok (.aload_n 0, 1) := by decide +kernel
theorem dX0_init_1 : decode cX0_init 1 = .ok (.invokespecial 3, 3) := by decide +kernel
theorem dX0_init_4 : decode cX0_init 4 = .ok (.aload_n 0, 1) := by decide +kernel
theorem dX0_init_5 : decode cX0_init 5 = .ok (.iconst 0, 1) := by decide +kernel
theorem dX0_init_6 : decode cX0_init 6 = .ok (.putfield 9, 3) := by decide +kernel
theorem dX0_init_9 : decode cX0_init 9 = .ok (.aload_n 0, 1) := by decide +kernel
theorem dX0_init_10 : decode cX0_init 10 = .ok (.iconst 0, 1) := by decide +kernel
theorem dX0_init_11 : decode cX0_init 11 = .ok (.putfield 15, 3) := by decide +kernel
theorem dX0_init_14 : decode cX0_init 14 = .ok (.aload_n 0, 1) := by decide +kernel
theorem dX0_init_15 : decode cX0_init 15 = .ok (.bipush 40, 2) := by decide +kernel
theorem dX0_init_17 : decode cX0_init 17 = .ok (.newarray .int, 2) := by decide +kernel
theorem dX0_init_19 : decode cX0_init 19 = .ok (.putfield 18, 3) := by decide +kernel
theorem dX0_init_22 : decode cX0_init 22 = .ok (.return_, 1) := by decide +kernel
theorem dX0_isMissing_0 : decode cX0_isMissing 0 = .ok (.aload_n 0, 1) := by decide +kernel
theorem dX0_isMissing_1 : decode cX0_isMissing 1 = .ok (.getfield 9, 3) := by decide +kernel
theorem dX0_isMissing_4 : decode cX0_isMissing 4 = .ok (.ifCond .ne 7, 3) := by decide +kernel
theorem dX0_isMissing_7 : decode cX0_isMissing 7 = .ok (.iconst 1, 1) := by decide +kernel
theorem dX0_isMissing_8 : decode cX0_isMissing 8 = .ok (.goto 4, 3) := by decide +kernel
theorem dX0_isMissing_11 : decode cX0_isMissing 11 = .ok (.iconst 0, 1) := by decide +kernel
theorem dX0_isMissing_12 : decode cX0_isMissing 12 = .ok (.ireturn, 1) := by decide +kernel
theorem dX0_begin_0 : decode cX0_begin 0 = .ok (.aload_n 0, 1) := by decide +kernel
theorem dX0_begin_1 : decode cX0_begin 1 = .ok (.iload_n 1, 1) := by decide +kernel
theorem dX0_begin_2 : decode cX0_begin 2 = .ok (.putfield 9, 3) := by decide +kernel
theorem dX0_begin_5 : decode cX0_begin 5 = .ok (.aload_n 0, 1) := by decide +kernel
theorem dX0_begin_6 : decode cX0_begin 6 = .ok (.iload_n 1, 1) := by decide +kernel
theorem dX0_begin_7 : decode cX0_begin 7 = .ok (.ifCond .ne 7, 3) := by decide +kernel
theorem dX0_begin_10 : decode cX0_begin 10 = .ok (.iconst 0, 1) := by decide +kernel
theorem dX0_begin_11 : decode cX0_begin 11 = .ok (.goto 4, 3) := by decide +kernel
theorem dX0_begin_14 : decode cX0_begin 14 = .ok (.iload_n 2, 1) := by decide +kernel
theorem dX0_begin_15 : decode cX0_begin 15 = .ok (.putfield 15, 3) := by decide +kernel
theorem dX0_begin_18 : decode cX0_begin 18 = .ok (.iconst 0, 1) := by decide +kernel
theorem dX0_begin_19 : decode cX0_begin 19 = .ok (.istore_n 3, 1) := by decide +kernel
theorem dX0_begin_20 : decode cX0_begin 20 = .ok (.iload_n 3, 1) := by decide +kernel
theorem dX0_begin_21 : decode cX0_begin 21 = .ok (.bipush 40, 2) := by decide +kernel
theorem dX0_begin_23 : decode cX0_begin 23 = .ok (.if_icmp .ge 16, 3) := by decide +kernel
theorem dX0_begin_26 : decode cX0_begin 26 = .ok (.aload_n 0, 1) := by decide +kernel
theorem dX0_begin_27 : decode cX0_begin 27 = .ok (.getfield 18, 3) := by decide +kernel
theorem dX0_begin_30 : decode cX0_begin 30 = .ok (.iload_n 3, 1) := by decide +kernel
theorem dX0_begin_31 : decode cX0_begin 31 = .ok (.iconst 0, 1) := by decide +kernel
theorem dX0_begin_32 : decode cX0_begin 32 = .ok (.iastore, 1) := by decide +kernel
theorem dX0_begin_33 : decode cX0_begin 33 = .ok (.iinc 3 1, 3) := by decide +kernel
theorem dX0_begin_36 : decode cX0_begin 36 = .ok (.goto (-16), 3) := by decide +kernel
theorem dX0_begin_39 : decode cX0_begin 39 = .ok (.return_, 1) := by decide +kernel
theorem dX0_put_0 : decode cX0_put 0 = .ok (.aload_n 0, 1) := by decide +kernel
theorem dX0_put_1 : decode cX0_put 1 = .ok (.getfield 9, 3) := by decide +kernel
theorem dX0_put_4 : decode cX0_put 4 = .ok (.bipush 8, 2) := by decide +kernel
theorem dX0_put_6 : decode cX0_put 6 = .ok (.if_icmp .ne 14, 3) := by decide +kernel
theorem dX0_put_9 : decode cX0_put 9 = .ok (.aload_n 0, 1) := by decide +kernel
theorem dX0_put_10 : decode cX0_put 10 = .ok (.getfield 18, 3) := by decide +kernel
theorem dX0_put_13 : decode cX0_put 13 = .ok (.iload_n 1, 1) := by decide +kernel
theorem dX0_put_14 : decode cX0_put 14 = .ok (.iload_n 2, 1) := by decide +kernel
theorem dX0_put_15 : decode cX0_put 15 = .ok (.i2b, 1) := by decide +kernel
theorem dX0_put_16 : decode cX0_put 16 = .ok (.iastore, 1) := by decide +kernel
theorem dX0_put_17 : decode cX0_put 17 = .ok (.goto 30, 3) := by decide +kernel
theorem dX0_put_20 : decode cX0_put 20 = .ok (.aload_n 0, 1) := by decide +kernel
theorem dX0_put_21 : decode cX0_put 21 = .ok (.getfield 9, 3) := by decide +kernel
theorem dX0_put_24 : decode cX0_put 24 = .ok (.bipush 16, 2) := by decide +kernel
theorem dX0_put_26 : decode cX0_put 26 = .ok (.if_icmp .ne 14, 3) := by decide +kernel
theorem dX0_put_29 : decode cX0_put 29 = .ok (.aload_n 0, 1) := by decide +kernel
theorem dX0_put_30 : decode cX0_put 30 = .ok (.getfield 18, 3) := by decide +kernel
theorem dX0_put_33 : decode cX0_put 33 = .ok (.iload_n 1, 1) := by decide +kernel
theorem dX0_put_34 : decode cX0_put 34 = .ok (.iload_n 2, 1) := by decide +kernel
theorem dX0_put_35 : decode cX0_put 35 = .ok (.i2s, 1) := by decide +kernel
theorem dX0_put_36 : decode cX0_put 36 = .ok (.iastore, 1) := by decide +kernel
theorem dX0_put_37 : decode cX0_put 37 = .ok (.goto 10, 3) := by decide +kernel
theorem dX0_put_40 : decode cX0_put 40 = .ok (.aload_n 0, 1) := by decide +kernel
theorem dX0_put_41 : decode cX0_put 41 = .ok (.getfield 18, 3) := by decide +kernel
theorem dX0_put_44 : decode cX0_put 44 = .ok (.iload_n 1, 1) := by decide +kernel
theorem dX0_put_45 : decode cX0_put 45 = .ok (.iload_n 2, 1) := by decide +kernel
theorem dX0_put_46 : decode cX0_put 46 = .ok (.iastore, 1) := by decide +kernel
theorem dX0_put_47 : decode cX0_put 47 = .ok (.return_, 1) := by decide +kernel
theorem dX0_has_0 : decode cX0_has 0 = .ok (.iload_n 1, 1) := by decide +kernel
theorem dX0_has_1 : decode cX0_has 1 = .ok (.ifCond .lt 29, 3) := by decide +kernel
theorem dX0_has_4 : decode cX0_has 4 = .ok (.iload_n 2, 1) := by decide +kernel
theorem dX0_has_5 : decode cX0_has 5 = .ok (.ifCond .lt 25, 3) := by decide +kernel
theorem dX0_has_8 : decode cX0_has 8 = .ok (.iload_n 1, 1) := by decide +kernel
theorem dX0_has_9 : decode cX0_has 9 = .ok (.aload_n 0, 1) := by decide +kernel
theorem dX0_has_10 : decode cX0_has 10 = .ok (.getfield 15, 3) := by decide +kernel
theorem dX0_has_13 : decode cX0_has 13 = .ok (.if_icmp .gt 17, 3) := by decide +kernel
theorem dX0_has_16 : decode cX0_has 16 = .ok (.iload_n 2, 1) := by decide +kernel
theorem dX0_has_17 : decode cX0_has 17 = .ok (.aload_n 0, 1) := by decide +kernel
theorem dX0_has_18 : decode cX0_has 18 = .ok (.getfield 15, 3) := by decide +kernel
theorem dX0_has_21 : decode cX0_has 21 = .ok (.iload_n 1, 1) := by decide +kernel
theorem dX0_has_22 : decode cX0_has 22 = .ok (.isub, 1) := by decide +kernel
theorem dX0_has_23 : decode cX0_has 23 = .ok (.if_icmp .gt 7, 3) := by decide +kernel
theorem dX0_has_26 : decode cX0_has 26 = .ok (.iconst 1, 1) := by decide +kernel
theorem dX0_has_27 : decode cX0_has 27 = .ok (.goto 4, 3) := by decide +kernel
theorem dX0_has_30 : decode cX0_has 30 = .ok (.iconst 0, 1) := by decide +kernel
theorem dX0_has_31 : decode cX0_has 31 = .ok (.ireturn, 1) := by decide +kernel
theorem dX1_init_0 : decode cX1_init 0 = .ok (.aload_n 0, 1) := by decide +kernel
theorem dX1_init_1 : decode cX1_init 1 = .ok (.invokespecial 3, 3) := by decide +kernel
theorem dX1_init_4 : decode cX1_init 4 = .ok (.aload_n 0, 1) := by decide +kernel
theorem dX1_init_5 : decode cX1_init 5 = .ok (.bipush 120, 2) := by decide +kernel
theorem dX1_init_7 : decode cX1_init 7 = .ok (.newarray .int, 2) := by decide +kernel
theorem dX1_init_9 : decode cX1_init 9 = .ok (.putfield 9, 3) := by decide +kernel
theorem dX1_init_12 : decode cX1_init 12 = .ok (.aload_n 0, 1) := by decide +kernel
theorem dX1_init_13 : decode cX1_init 13 = .ok (.iconst 0, 1) := by decide +kernel
theorem dX1_init_14 : decode cX1_init 14 = .ok (.putfield 15, 3) := by decide +kernel
theorem dX1_init_17 : decode cX1_init 17 = .ok (.aload_n 0, 1) := by decide +kernel
theorem dX1_init_18 : decode cX1_init 18 = .ok (.iconst (-1), 1) := by decide +kernel
theorem dX1_init_19 : decode cX1_init 19 = .ok (.putfield 19, 3) := by decide +kernel
theorem dX1_init_22 : decode cX1_init 22 = .ok (.aload_n 0, 1) := by decide +kernel
theorem dX1_init_23 : decode cX1_init 23 = .ok (.iconst 3, 1) := by decide +kernel
theorem dX1_init_24 : decode cX1_init 24 = .ok (.putfield 22, 3) := by decide +kernel
theorem dX1_init_27 : decode cX1_init 27 = .ok (.aload_n 0, 1) := by decide +kernel
theorem dX1_init_28 : decode cX1_init 28 = .ok (.iconst 0, 1) := by decide +kernel
theorem dX1_init_29 : decode cX1_init 29 = .ok (.putfield 25, 3) := by decide +kernel
theorem dX1_init_32 : decode cX1_init 32 = .ok (.aload_n 0, 1) := by decide +kernel
theorem dX1_init_33 : decode cX1_init 33 = .ok (.iconst 0, 1) := by decide +kernel
theorem dX1_init_34 : decode cX1_init 34 = .ok (.putfield 28, 3) := by decide +kernel
theorem dX1_init_37 : decode cX1_init 37 = .ok (.aload_n 0, 1) := by decide +kernel
theorem dX1_init_38 : decode cX1_init 38 = .ok (.iconst 0, 1) := by decide +kernel
theorem dX1_init_39 : decode cX1_init 39 = .ok (.putfield 31, 3) := by decide +kernel
theorem dX1_init_42 : decode cX1_init 42 = .ok (.return_, 1) := by decide +kernel
theorem dX1_append_0 : decode cX1_append 0 = .ok (.aload_n 0, 1) := by decide +kernel
theorem dX1_append_1 : decode cX1_append 1 = .ok (.getfield 9, 3) := by decide +kernel
theorem dX1_append_4 : decode cX1_append 4 = .ok (.aload_n 0, 1) := by decide +kernel
theorem dX1_append_5 : decode cX1_append 5 = .ok (.getfield 15, 3) := by decide +kernel
theorem dX1_append_8 : decode cX1_append 8 = .ok (.iload_n 1, 1) := by decide +kernel
theorem dX1_append_9 : decode cX1_append 9 = .ok (.sipush 255, 3) := by decide +kernel
theorem dX1_append_12 : decode cX1_append 12 = .ok (.iand, 1) := by decide +kernel
theorem dX1_append_13 : decode cX1_append 13 = .ok (.iastore, 1) := by decide +kernel
theorem dX1_append_14 : decode cX1_append 14 = .ok (.aload_n 0, 1) := by decide +kernel
theorem dX1_append_15 : decode cX1_append 15 = .ok (.dup, 1) := by decide +kernel
theorem dX1_append_16 : decode cX1_append 16 = .ok (.getfield 15, 3) := by decide +kernel
theorem dX1_append_19 : decode cX1_append 19 = .ok (.iconst 1, 1) := by decide +kernel
theorem dX1_append_20 : decode cX1_append 20 = .ok (.iadd, 1) := by decide +kernel
theorem dX1_append_21 : decode cX1_append 21 = .ok (.putfield 15, 3) := by decide +kernel
theorem dX1_append_24 : decode cX1_append 24 = .ok (.return_, 1) := by decide +kernel
theorem dX1_tellTo_0 : decode cX1_tellTo 0 = .ok (.aload_n 0, 1) := by decide +kernel
theorem dX1_tellTo_1 : decode cX1_tellTo 1 = .ok (.iconst (-1), 1) := by decide +kernel
theorem dX1_tellTo_2 : decode cX1_tellTo 2 = .ok (.putfield 19, 3) := by decide +kernel
theorem dX1_tellTo_5 : decode cX1_tellTo 5 = .ok (.aload_n 0, 1) := by decide +kernel
theorem dX1_tellTo_6 : decode cX1_tellTo 6 = .ok (.iconst 0, 1) := by decide +kernel
theorem dX1_tellTo_7 : decode cX1_tellTo 7 = .ok (.putfield 28, 3) := by decide +kernel
theorem dX1_tellTo_10 : decode cX1_tellTo 10 = .ok (.aload_n 0, 1) := by decide +kernel
theorem dX1_tellTo_11 : decode cX1_tellTo 11 = .ok (.invokevirtual 34, 3) := by decide +kernel
theorem dX1_tellTo_14 : decode cX1_tellTo 14 = .ok (.iconst 0, 1) := by decide +kernel
theorem dX1_tellTo_15 : decode cX1_tellTo 15 = .ok (.istore_n 2, 1) := by decide +kernel
theorem dX1_tellTo_16 : decode cX1_tellTo 16 = .ok (.iconst 1, 1) := by decide +kernel
theorem dX1_tellTo_17 : decode cX1_tellTo 17 = .ok (.istore_n 3, 1) := by decide +kernel
theorem dX1_tellTo_18 : decode cX1_tellTo 18 = .ok (.iload_n 3, 1) := by decide +kernel
theorem dX1_tellTo_19 : decode cX1_tellTo 19 = .ok (.ifCond .eq 64, 3) := by decide +kernel
theorem dX1_tellTo_22 : decode cX1_tellTo 22 = .ok (.iload_n 2, 1) := by decide +kernel
theorem dX1_tellTo_23 : decode cX1_tellTo 23 = .ok (.bipush 120, 2) := by decide +kernel
theorem dX1_tellTo_25 : decode cX1_tellTo 25 = .ok (.if_icmp .ge 58, 3) := by decide +kernel
theorem dX1_tellTo_28 : decode cX1_tellTo 28 = .ok (.aload_n 0, 1) := by decide +kernel
theorem dX1_tellTo_29 : decode cX1_tellTo 29 = .ok (.aload_n 1, 1) := by decide +kernel
theorem dX1_tellTo_30 : decode cX1_tellTo 30 = .ok (.invokevirtual 37, 3) := by decide +kernel
theorem dX1_tellTo_33 : decode cX1_tellTo 33 = .ok (.iinc 2 1, 3) := by decide +kernel
theorem dX1_tellTo_36 : decode cX1_tellTo 36 = .ok (.aload_n 0, 1) := by decide +kernel
theorem dX1_tellTo_37 : decode cX1_tellTo 37 = .ok (.getfield 19, 3) := by decide +kernel
theorem dX1_tellTo_40 : decode cX1_tellTo 40 = .ok (.ifCond .ge 15, 3) := by decide +kernel
theorem dX1_tellTo_43 : decode cX1_tellTo 43 = .ok (.aload_n 0, 1) := by decide +kernel
theorem dX1_tellTo_44 : decode cX1_tellTo 44 = .ok (.getfield 22, 3) := by decide +kernel
theorem dX1_tellTo_47 : decode cX1_tellTo 47 = .ok (.iconst 2, 1) := by decide +kernel
theorem dX1_tellTo_48 : decode cX1_tellTo 48 = .ok (.if_icmp .ne 7, 3) := by decide +kernel
theorem dX1_tellTo_51 : decode cX1_tellTo 51 = .ok (.iconst 1, 1) := by decide +kernel
theorem dX1_tellTo_52 : decode cX1_tellTo 52 = .ok (.goto 4, 3) := by decide +kernel
theorem dX1_tellTo_55 : decode cX1_tellTo 55 = .ok (.iconst 0, 1) := by decide +kernel
theorem dX1_tellTo_56 : decode cX1_tellTo 56 = .ok (.istore_n 3, 1) := by decide +kernel
theorem dX1_tellTo_57 : decode cX1_tellTo 57 = .ok (.iload_n 3, 1) := by decide +kernel
theorem dX1_tellTo_58 : decode cX1_tellTo 58 = .ok (.ifCond .eq 10, 3) := by decide +kernel
theorem dX1_tellTo_61 : decode cX1_tellTo 61 = .ok (.aload_n 0, 1) := by decide +kernel
theorem dX1_tellTo_62 : decode cX1_tellTo 62 = .ok (.invokevirtual 34, 3) := by decide +kernel
theorem dX1_tellTo_65 : decode cX1_tellTo 65 = .ok (.goto (-47), 3) := by decide +kernel
theorem dX1_tellTo_68 : decode cX1_tellTo 68 = .ok (.aload_n 0, 1) := by decide +kernel
theorem dX1_tellTo_69 : decode cX1_tellTo 69 = .ok (.getfield 22, 3) := by decide +kernel
theorem dX1_tellTo_72 : decode cX1_tellTo 72 = .ok (.iconst 3, 1) := by decide +kernel
theorem dX1_tellTo_73 : decode cX1_tellTo 73 = .ok (.if_icmp .eq (-55), 3) := by decide +kernel
theorem dX1_tellTo_76 : decode cX1_tellTo 76 = .ok (.aload_n 0, 1) := by decide +kernel
theorem dX1_tellTo_77 : decode cX1_tellTo 77 = .ok (.invokevirtual 41, 3) := by decide +kernel
theorem dX1_tellTo_80 : decode cX1_tellTo 80 = .ok (.goto (-62), 3) := by decide +kernel
theorem dX1_tellTo_83 : decode cX1_tellTo 83 = .ok (.iload_n 2, 1) := by decide +kernel
theorem dX1_tellTo_84 : decode cX1_tellTo 84 = .ok (.ireturn, 1) := by decide +kernel
theorem dX1_tellItem_0 : decode cX1_tellItem 0 = .ok (.aload_n 0, 1) := by decide +kernel
theorem dX1_tellItem_1 : decode cX1_tellItem 1 = .ok (.invokevirtual 44, 3) := by decide +kernel
theorem dX1_tellItem_4 : decode cX1_tellItem 4 = .ok (.istore_n 2, 1) := by decide +kernel
theorem dX1_tellItem_5 : decode cX1_tellItem 5 = .ok (.iload_n 2, 1) := by decide +kernel
theorem dX1_tellItem_6 : decode cX1_tellItem 6 = .ok (.ifCond .lt 12, 3) := by decide +kernel
theorem dX1_tellItem_9 : decode cX1_tellItem 9 = .ok (.aload_n 0, 1) := by decide +kernel
theorem dX1_tellItem_10 : decode cX1_tellItem 10 = .ok (.aload_n 1, 1) := by decide +kernel
theorem dX1_tellItem_11 : decode cX1_tellItem 11 = .ok (.iload_n 2, 1) := by decide +kernel
theorem dX1_tellItem_12 : decode cX1_tellItem 12 = .ok (.invokevirtual 48, 3) := by decide +kernel
theorem dX1_tellItem_15 : decode cX1_tellItem 15 = .ok (.goto 63, 3) := by decide +kernel
theorem dX1_tellItem_18 : decode cX1_tellItem 18 = .ok (.aload_n 0, 1) := by decide +kernel
theorem dX1_tellItem_19 : decode cX1_tellItem 19 = .ok (.ldc 52, 2) := by decide +kernel
theorem dX1_tellItem_21 : decode cX1_tellItem 21 = .ok (.invokevirtual 54, 3) := by decide +kernel
theorem dX1_tellItem_24 : decode cX1_tellItem 24 = .ok (.ifCond .eq 11, 3) := by decide +kernel
theorem dX1_tellItem_27 : decode cX1_tellItem 27 = .ok (.aload_n 0, 1) := by decide +kernel
theorem dX1_tellItem_28 : decode cX1_tellItem 28 = .ok (.aload_n 1, 1) := by decide +kernel
theorem dX1_tellItem_29 : decode cX1_tellItem 29 = .ok (.invokevirtual 58, 3) := by decide +kernel
theorem dX1_tellItem_32 : decode cX1_tellItem 32 = .ok (.goto 46, 3) := by decide +kernel
theorem dX1_tellItem_35 : decode cX1_tellItem 35 = .ok (.aload_n 0, 1) := by decide +kernel
theorem dX1_tellItem_36 : decode cX1_tellItem 36 = .ok (.ldc 61, 2) := by decide +kernel
theorem dX1_tellItem_38 : decode cX1_tellItem 38 = .ok (.invokevirtual 54, 3) := by decide +kernel
theorem dX1_tellItem_41 : decode cX1_tellItem 41 = .ok (.ifCond .eq 11, 3) := by decide +kernel
theorem dX1_tellItem_44 : decode cX1_tellItem 44 = .ok (.aload_n 0, 1) := by decide +kernel
theorem dX1_tellItem_45 : decode cX1_tellItem 45 = .ok (.aload_n 1, 1) := by decide +kernel
theorem dX1_tellItem_46 : decode cX1_tellItem 46 = .ok (.invokevirtual 63, 3) := by decide +kernel
theorem dX1_tellItem_49 : decode cX1_tellItem 49 = .ok (.goto 29, 3) := by decide +kernel
theorem dX1_tellItem_52 : decode cX1_tellItem 52 = .ok (.aload_n 0, 1) := by decide +kernel
theorem dX1_tellItem_53 : decode cX1_tellItem 53 = .ok (.ldc 66, 2) := by decide +kernel
theorem dX1_tellItem_55 : decode cX1_tellItem 55 = .ok (.invokevirtual 54, 3) := by decide +kernel
theorem dX1_tellItem_58 : decode cX1_tellItem 58 = .ok (.ifCond .eq 16, 3) := by decide +kernel
theorem dX1_tellItem_61 : decode cX1_tellItem 61 = .ok (.aload_n 1, 1) := by decide +kernel
theorem dX1_tellItem_62 : decode cX1_tellItem 62 = .ok (.aload_n 0, 1) := by decide +kernel
theorem dX1_tellItem_63 : decode cX1_tellItem 63 = .ok (.bipush 40, 2) := by decide +kernel
theorem dX1_tellItem_65 : decode cX1_tellItem 65 = .ok (.invokevirtual 68, 3) := by decide +kernel
theorem dX1_tellItem_68 : decode cX1_tellItem 68 = .ok (.putfield 72, 3) := by decide +kernel
theorem dX1_tellItem_71 : decode cX1_tellItem 71 = .ok (.goto 7, 3) := by decide +kernel
theorem dX1_tellItem_74 : decode cX1_tellItem 74 = .ok (.aload_n 0, 1) := by decide +kernel
theorem dX1_tellItem_75 : decode cX1_tellItem 75 = .ok (.invokevirtual 41, 3) := by decide +kernel
theorem dX1_tellItem_78 : decode cX1_tellItem 78 = .ok (.return_, 1) := by decide +kernel
theorem dX1_tellPerson_0 : decode cX1_tellPerson 0 = .ok (.aload_n 1, 1) := by decide +kernel
theorem dX1_tellPerson_1 : decode cX1_tellPerson 1 = .ok (.getfield 76, 3) := by decide +kernel
theorem dX1_tellPerson_4 : decode cX1_tellPerson 4 = .ok (.bipush 8, 2) := by decide +kernel
theorem dX1_tellPerson_6 : decode cX1_tellPerson 6 = .ok (.if_icmp .lt 8, 3) := by decide +kernel
theorem dX1_tellPerson_9 : decode cX1_tellPerson 9 = .ok (.aload_n 0, 1) := by decide +kernel
theorem dX1_tellPerson_10 : decode cX1_tellPerson 10 = .ok (.invokevirtual 41, 3) := by decide +kernel
theorem dX1_tellPerson_13 : decode cX1_tellPerson 13 = .ok (.return_, 1) := by decide +kernel
theorem dX1_tellPerson_14 : decode cX1_tellPerson 14 = .ok (.aload_n 0, 1) := by decide +kernel
theorem dX1_tellPerson_15 : decode cX1_tellPerson 15 = .ok (.invokevirtual 34, 3) := by decide +kernel
theorem dX1_tellPerson_18 : decode cX1_tellPerson 18 = .ok (.aload_n 1, 1) := by decide +kernel
theorem dX1_tellPerson_19 : decode cX1_tellPerson 19 = .ok (.iload_n 2, 1) := by decide +kernel
theorem dX1_tellPerson_20 : decode cX1_tellPerson 20 = .ok (.invokevirtual 79, 3) := by decide +kernel
theorem dX1_tellPerson_23 : decode cX1_tellPerson 23 = .ok (.istore_n 3, 1) := by decide +kernel
theorem dX1_tellPerson_24 : decode cX1_tellPerson 24 = .ok (.aload_n 0, 1) := by decide +kernel
theorem dX1_tellPerson_25 : decode cX1_tellPerson 25 = .ok (.ldc 82, 2) := by decide +kernel
theorem dX1_tellPerson_27 : decode cX1_tellPerson 27 = .ok (.invokevirtual 54, 3) := by decide +kernel
theorem dX1_tellPerson_30 : decode cX1_tellPerson 30 = .ok (.ifCond .eq 15, 3) := by decide +kernel
theorem dX1_tellPerson_33 : decode cX1_tellPerson 33 = .ok (.aload_n 1, 1) := by decide +kernel
theorem dX1_tellPerson_34 : decode cX1_tellPerson 34 = .ok (.getfield 84, 3) := by decide +kernel
theorem dX1_tellPerson_37 : decode cX1_tellPerson 37 = .ok (.iload_n 3, 1) := by decide +kernel
theorem dX1_tellPerson_38 : decode cX1_tellPerson 38 = .ok (.aload_n 0, 1) := by decide +kernel
theorem dX1_tellPerson_39 : decode cX1_tellPerson 39 = .ok (.bipush 9, 2) := by decide +kernel
theorem dX1_tellPerson_41 : decode cX1_tellPerson 41 = .ok (.invokevirtual 68, 3) := by decide +kernel
theorem dX1_tellPerson_44 : decode cX1_tellPerson 44 = .ok (.iastore, 1) := by decide +kernel
theorem dX1_tellPerson_45 : decode cX1_tellPerson 45 = .ok (.aload_n 0, 1) := by decide +kernel
theorem dX1_tellPerson_46 : decode cX1_tellPerson 46 = .ok (.ldc 87, 2) := by decide +kernel
theorem dX1_tellPerson_48 : decode cX1_tellPerson 48 = .ok (.invokevirtual 54, 3) := by decide +kernel
theorem dX1_tellPerson_51 : decode cX1_tellPerson 51 = .ok (.ifCond .eq 15, 3) := by decide +kernel
theorem dX1_tellPerson_54 : decode cX1_tellPerson 54 = .ok (.aload_n 1, 1) := by decide +kernel
theorem dX1_tellPerson_55 : decode cX1_tellPerson 55 = .ok (.getfield 89, 3) := by decide +kernel
theorem dX1_tellPerson_58 : decode cX1_tellPerson 58 = .ok (.iload_n 3, 1) := by decide +kernel
theorem dX1_tellPerson_59 : decode cX1_tellPerson 59 = .ok (.aload_n 0, 1) := by decide +kernel
theorem dX1_tellPerson_60 : decode cX1_tellPerson 60 = .ok (.bipush 99, 2) := by decide +kernel
theorem dX1_tellPerson_62 : decode cX1_tellPerson 62 = .ok (.invokevirtual 68, 3) := by decide +kernel
theorem dX1_tellPerson_65 : decode cX1_tellPerson 65 = .ok (.iastore, 1) := by decide +kernel
theorem dX1_tellPerson_66 : decode cX1_tellPerson 66 = .ok (.aload_n 0, 1) := by decide +kernel
theorem dX1_tellPerson_67 : decode cX1_tellPerson 67 = .ok (.ldc 92, 2) := by decide +kernel
theorem dX1_tellPerson_69 : decode cX1_tellPerson 69 = .ok (.invokevirtual 54, 3) := by decide +kernel
theorem dX1_tellPerson_72 : decode cX1_tellPerson 72 = .ok (.ifCond .eq 16, 3) := by decide +kernel
theorem dX1_tellPerson_75 : decode cX1_tellPerson 75 = .ok (.aload_n 1, 1) := by decide +kernel
theorem dX1_tellPerson_76 : decode cX1_tellPerson 76 = .ok (.getfield 94, 3) := by decide +kernel
theorem dX1_tellPerson_79 : decode cX1_tellPerson 79 = .ok (.iload_n 3, 1) := by decide +kernel
theorem dX1_tellPerson_80 : decode cX1_tellPerson 80 = .ok (.aload_n 0, 1) := by decide +kernel
theorem dX1_tellPerson_81 : decode cX1_tellPerson 81 = .ok (.sipush 9999, 3) := by decide +kernel
theorem dX1_tellPerson_84 : decode cX1_tellPerson 84 = .ok (.invokevirtual 68, 3) := by decide +kernel
theorem dX1_tellPerson_87 : decode cX1_tellPerson 87 = .ok (.iastore, 1) := by decide +kernel
theorem dX1_tellPerson_88 : decode cX1_tellPerson 88 = .ok (.return_, 1) := by decide +kernel
theorem dX1_tellLot_0 : decode cX1_tellLot 0 = .ok (.aload_n 0, 1) := by decide +kernel
theorem dX1_tellLot_1 : decode cX1_tellLot 1 = .ok (.bipush 9, 2) := by decide +kernel
theorem dX1_tellLot_3 : decode cX1_tellLot 3 = .ok (.invokevirtual 68, 3) := by decide +kernel
theorem dX1_tellLot_6 : decode cX1_tellLot 6 = .ok (.istore_n 2, 1) := by decide +kernel
theorem dX1_tellLot_7 : decode cX1_tellLot 7 = .ok (.iload_n 2, 1) := by decide +kernel
theorem dX1_tellLot_8 : decode cX1_tellLot 8 = .ok (.invokestatic 96, 3) := by decide +kernel
theorem dX1_tellLot_11 : decode cX1_tellLot 11 = .ok (.ifCond .ne 4, 3) := by decide +kernel
theorem dX1_tellLot_14 : decode cX1_tellLot 14 = .ok (.return_, 1) := by decide +kernel
theorem dX1_tellLot_15 : decode cX1_tellLot 15 = .ok (.aload_n 0, 1) := by decide +kernel
theorem dX1_tellLot_16 : decode cX1_tellLot 16 = .ok (.ldc 100, 2) := by decide +kernel
theorem dX1_tellLot_18 : decode cX1_tellLot 18 = .ok (.invokevirtual 54, 3) := by decide +kernel
theorem dX1_tellLot_21 : decode cX1_tellLot 21 = .ok (.ifCond .eq 15, 3) := by decide +kernel
theorem dX1_tellLot_24 : decode cX1_tellLot 24 = .ok (.aload_n 1, 1) := by decide +kernel
theorem dX1_tellLot_25 : decode cX1_tellLot 25 = .ok (.getfield 102, 3) := by decide +kernel
theorem dX1_tellLot_28 : decode cX1_tellLot 28 = .ok (.iload_n 2, 1) := by decide +kernel
theorem dX1_tellLot_29 : decode cX1_tellLot 29 = .ok (.aload_n 0, 1) := by decide +kernel
theorem dX1_tellLot_30 : decode cX1_tellLot 30 = .ok (.bipush 99, 2) := by decide +kernel
theorem dX1_tellLot_32 : decode cX1_tellLot 32 = .ok (.invokevirtual 68, 3) := by decide +kernel
theorem dX1_tellLot_35 : decode cX1_tellLot 35 = .ok (.iastore, 1) := by decide +kernel
theorem dX1_tellLot_36 : decode cX1_tellLot 36 = .ok (.aload_n 0, 1) := by decide +kernel
theorem dX1_tellLot_37 : decode cX1_tellLot 37 = .ok (.ldc 104, 2) := by decide +kernel
theorem dX1_tellLot_39 : decode cX1_tellLot 39 = .ok (.invokevirtual 54, 3) := by decide +kernel
theorem dX1_tellLot_42 : decode cX1_tellLot 42 = .ok (.ifCond .eq 15, 3) := by decide +kernel
theorem dX1_tellLot_45 : decode cX1_tellLot 45 = .ok (.aload_n 1, 1) := by decide +kernel
theorem dX1_tellLot_46 : decode cX1_tellLot 46 = .ok (.getfield 106, 3) := by decide +kernel
theorem dX1_tellLot_49 : decode cX1_tellLot 49 = .ok (.iload_n 2, 1) := by decide +kernel
theorem dX1_tellLot_50 : decode cX1_tellLot 50 = .ok (.aload_n 0, 1) := by decide +kernel
theorem dX1_tellLot_51 : decode cX1_tellLot 51 = .ok (.bipush 20, 2) := by decide +kernel
theorem dX1_tellLot_53 : decode cX1_tellLot 53 = .ok (.invokevirtual 68, 3) := by decide +kernel
theorem dX1_tellLot_56 : decode cX1_tellLot 56 = .ok (.iastore, 1) := by decide +kernel
theorem dX1_tellLot_57 : decode cX1_tellLot 57 = .ok (.aload_n 0, 1) := by decide +kernel
theorem dX1_tellLot_58 : decode cX1_tellLot 58 = .ok (.ldc 108, 2) := by decide +kernel
theorem dX1_tellLot_60 : decode cX1_tellLot 60 = .ok (.invokevirtual 54, 3) := by decide +kernel
theorem dX1_tellLot_63 : decode cX1_tellLot 63 = .ok (.ifCond .eq 19, 3) := by decide +kernel
theorem dX1_tellLot_66 : decode cX1_tellLot 66 = .ok (.aload_n 1, 1) := by decide +kernel
theorem dX1_tellLot_67 : decode cX1_tellLot 67 = .ok (.getfield 110, 3) := by decide +kernel
theorem dX1_tellLot_70 : decode cX1_tellLot 70 = .ok (.iload_n 2, 1) := by decide +kernel
theorem dX1_tellLot_71 : decode cX1_tellLot 71 = .ok (.aload_n 0, 1) := by decide +kernel
theorem dX1_tellLot_72 : decode cX1_tellLot 72 = .ok (.aload_n 1, 1) := by decide +kernel
theorem dX1_tellLot_73 : decode cX1_tellLot 73 = .ok (.getfield 76, 3) := by decide +kernel
theorem dX1_tellLot_76 : decode cX1_tellLot 76 = .ok (.iconst 1, 1) := by decide +kernel
theorem dX1_tellLot_77 : decode cX1_tellLot 77 = .ok (.isub, 1) := by decide +kernel
theorem dX1_tellLot_78 : decode cX1_tellLot 78 = .ok (.invokevirtual 68, 3) := by decide +kernel
theorem dX1_tellLot_81 : decode cX1_tellLot 81 = .ok (.iastore, 1) := by decide +kernel
theorem dX1_tellLot_82 : decode cX1_tellLot 82 = .ok (.return_, 1) := by decide +kernel
theorem dX1_tellSun_0 : decode cX1_tellSun 0 = .ok (.aload_n 0, 1) := by decide +kernel
theorem dX1_tellSun_1 : decode cX1_tellSun 1 = .ok (.iconst 5, 1) := by decide +kernel
theorem dX1_tellSun_2 : decode cX1_tellSun 2 = .ok (.invokevirtual 68, 3) := by decide +kernel
theorem dX1_tellSun_5 : decode cX1_tellSun 5 = .ok (.istore_n 2, 1) := by decide +kernel
theorem dX1_tellSun_6 : decode cX1_tellSun 6 = .ok (.aload_n 0, 1) := by decide +kernel
theorem dX1_tellSun_7 : decode cX1_tellSun 7 = .ok (.bipush 40, 2) := by decide +kernel
theorem dX1_tellSun_9 : decode cX1_tellSun 9 = .ok (.invokevirtual 68, 3) := by decide +kernel
theorem dX1_tellSun_12 : decode cX1_tellSun 12 = .ok (.istore_n 3, 1) := by decide +kernel
theorem dX1_tellSun_13 : decode cX1_tellSun 13 = .ok (.aload_n 0, 1) := by decide +kernel
theorem dX1_tellSun_14 : decode cX1_tellSun 14 = .ok (.getfield 19, 3) := by decide +kernel
theorem dX1_tellSun_17 : decode cX1_tellSun 17 = .ok (.ifCond .ge 10, 3) := by decide +kernel
theorem dX1_tellSun_20 : decode cX1_tellSun 20 = .ok (.aload_n 1, 1) := by decide +kernel
theorem dX1_tellSun_21 : decode cX1_tellSun 21 = .ok (.getfield 112, 3) := by decide +kernel
theorem dX1_tellSun_24 : decode cX1_tellSun 24 = .ok (.iload_n 2, 1) := by decide +kernel
theorem dX1_tellSun_25 : decode cX1_tellSun 25 = .ok (.iload_n 3, 1) := by decide +kernel
theorem dX1_tellSun_26 : decode cX1_tellSun 26 = .ok (.iastore, 1) := by decide +kernel
theorem dX1_tellSun_27 : decode cX1_tellSun 27 = .ok (.return_, 1) := by decide +kernel
theorem dX1_faultHere_0 : decode cX1_faultHere 0 = .ok (.aload_n 0, 1) := by decide +kernel
theorem dX1_faultHere_1 : decode cX1_faultHere 1 = .ok (.getfield 19, 3) := by decide +kernel
theorem dX1_faultHere_4 : decode cX1_faultHere 4 = .ok (.ifCond .ge 11, 3) := by decide +kernel
theorem dX1_faultHere_7 : decode cX1_faultHere 7 = .ok (.aload_n 0, 1) := by decide +kernel
theorem dX1_faultHere_8 : decode cX1_faultHere 8 = .ok (.aload_n 0, 1) := by decide +kernel
theorem dX1_faultHere_9 : decode cX1_faultHere 9 = .ok (.getfield 25, 3) := by decide +kernel
theorem dX1_faultHere_12 : decode cX1_faultHere 12 = .ok (.putfield 19, 3) := by decide +kernel
theorem dX1_faultHere_15 : decode cX1_faultHere 15 = .ok (.return_, 1) := by decide +kernel
theorem dX1_took_0 : decode cX1_took 0 = .ok (.aload_n 0, 1) := by decide +kernel
theorem dX1_took_1 : decode cX1_took 1 = .ok (.getfield 19, 3) := by decide +kernel
theorem dX1_took_4 : decode cX1_took 4 = .ok (.ifCond .ge 15, 3) := by decide +kernel
theorem dX1_took_7 : decode cX1_took 7 = .ok (.aload_n 0, 1) := by decide +kernel
theorem dX1_took_8 : decode cX1_took 8 = .ok (.aload_n 1, 1) := by decide +kernel
theorem dX1_took_9 : decode cX1_took 9 = .ok (.invokevirtual 115, 3) := by decide +kernel
theorem dX1_took_12 : decode cX1_took 12 = .ok (.ifCond .eq 7, 3) := by decide +kernel
theorem dX1_took_15 : decode cX1_took 15 = .ok (.iconst 1, 1) := by decide +kernel
theorem dX1_took_16 : decode cX1_took 16 = .ok (.goto 4, 3) := by decide +kernel
theorem dX1_took_19 : decode cX1_took 19 = .ok (.iconst 0, 1) := by decide +kernel
theorem dX1_took_20 : decode cX1_took 20 = .ok (.istore_n 2, 1) := by decide +kernel
theorem dX1_took_21 : decode cX1_took 21 = .ok (.iload_n 2, 1) := by decide +kernel
theorem dX1_took_22 : decode cX1_took 22 = .ok (.ifCond .eq 7, 3) := by decide +kernel
theorem dX1_took_25 : decode cX1_took 25 = .ok (.aload_n 0, 1) := by decide +kernel
theorem dX1_took_26 : decode cX1_took 26 = .ok (.invokevirtual 34, 3) := by decide +kernel
theorem dX1_took_29 : decode cX1_took 29 = .ok (.iload_n 2, 1) := by decide +kernel
theorem dX1_took_30 : decode cX1_took 30 = .ok (.ireturn, 1) := by decide +kernel
theorem dX1_takeNumber_0 : decode cX1_takeNumber 0 = .ok (.aload_n 0, 1) := by decide +kernel
theorem dX1_takeNumber_1 : decode cX1_takeNumber 1 = .ok (.getfield 19, 3) := by decide +kernel
theorem dX1_takeNumber_4 : decode cX1_takeNumber 4 = .ok (.ifCond .ge 19, 3) := by decide +kernel
theorem dX1_takeNumber_7 : decode cX1_takeNumber 7 = .ok (.aload_n 0, 1) := by decide +kernel
theorem dX1_takeNumber_8 : decode cX1_takeNumber 8 = .ok (.getfield 22, 3) := by decide +kernel
theorem dX1_takeNumber_11 : decode cX1_takeNumber 11 = .ok (.iconst 1, 1) := by decide +kernel
theorem dX1_takeNumber_12 : decode cX1_takeNumber 12 = .ok (.if_icmp .ne 11, 3) := by decide +kernel
theorem dX1_takeNumber_15 : decode cX1_takeNumber 15 = .ok (.aload_n 0, 1) := by decide +kernel
theorem dX1_takeNumber_16 : decode cX1_takeNumber 16 = .ok (.getfield 31, 3) := by decide +kernel
theorem dX1_takeNumber_19 : decode cX1_takeNumber 19 = .ok (.iload_n 1, 1) := by decide +kernel
theorem dX1_takeNumber_20 : decode cX1_takeNumber 20 = .ok (.if_icmp .le 9, 3) := by decide +kernel
theorem dX1_takeNumber_23 : decode cX1_takeNumber 23 = .ok (.aload_n 0, 1) := by decide +kernel
theorem dX1_takeNumber_24 : decode cX1_takeNumber 24 = .ok (.invokevirtual 41, 3) := by decide +kernel
theorem dX1_takeNumber_27 : decode cX1_takeNumber 27 = .ok (.iconst (-1), 1) := by decide +kernel
theorem dX1_takeNumber_28 : decode cX1_takeNumber 28 = .ok (.ireturn, 1) := by decide +kernel
theorem dX1_takeNumber_29 : decode cX1_takeNumber 29 = .ok (.aload_n 0, 1) := by decide +kernel
theorem dX1_takeNumber_30 : decode cX1_takeNumber 30 = .ok (.getfield 31, 3) := by decide +kernel
theorem dX1_takeNumber_33 : decode cX1_takeNumber 33 = .ok (.istore_n 2, 1) := by decide +kernel
theorem dX1_takeNumber_34 : decode cX1_takeNumber 34 = .ok (.aload_n 0, 1) := by decide +kernel
theorem dX1_takeNumber_35 : decode cX1_takeNumber 35 = .ok (.invokevirtual 34, 3) := by decide +kernel
theorem dX1_takeNumber_38 : decode cX1_takeNumber 38 = .ok (.iload_n 2, 1) := by decide +kernel
theorem dX1_takeNumber_39 : decode cX1_takeNumber 39 = .ok (.ireturn, 1) := by decide +kernel
theorem dX1_kindOfWord_0 : decode cX1_kindOfWord 0 = .ok (.aload_n 0, 1) := by decide +kernel
theorem dX1_kindOfWord_1 : decode cX1_kindOfWord 1 = .ok (.ldc 118, 2) := by decide +kernel
theorem dX1_kindOfWord_3 : decode cX1_kindOfWord 3 = .ok (.invokevirtual 115, 3) := by decide +kernel
theorem dX1_kindOfWord_6 : decode cX1_kindOfWord 6 = .ok (.ifCond .eq 5, 3) := by decide +kernel
theorem dX1_kindOfWord_9 : decode cX1_kindOfWord 9 = .ok (.iconst 0, 1) := by decide +kernel
theorem dX1_kindOfWord_10 : decode cX1_kindOfWord 10 = .ok (.ireturn, 1) := by decide +kernel
theorem dX1_kindOfWord_11 : decode cX1_kindOfWord 11 = .ok (.aload_n 0, 1) := by decide +kernel
theorem dX1_kindOfWord_12 : decode cX1_kindOfWord 12 = .ok (.ldc 120, 2) := by decide +kernel
theorem dX1_kindOfWord_14 : decode cX1_kindOfWord 14 = .ok (.invokevirtual 115, 3) := by decide +kernel
theorem dX1_kindOfWord_17 : decode cX1_kindOfWord 17 = .ok (.ifCond .eq 5, 3) := by decide +kernel
theorem dX1_kindOfWord_20 : decode cX1_kindOfWord 20 = .ok (.iconst 1, 1) := by decide +kernel
theorem dX1_kindOfWord_21 : decode cX1_kindOfWord 21 = .ok (.ireturn, 1) := by decide +kernel
theorem dX1_kindOfWord_22 : decode cX1_kindOfWord 22 = .ok (.aload_n 0, 1) := by decide +kernel
theorem dX1_kindOfWord_23 : decode cX1_kindOfWord 23 = .ok (.ldc 122, 2) := by decide +kernel
theorem dX1_kindOfWord_25 : decode cX1_kindOfWord 25 = .ok (.invokevirtual 115, 3) := by decide +kernel
theorem dX1_kindOfWord_28 : decode cX1_kindOfWord 28 = .ok (.ifCond .eq 5, 3) := by decide +kernel
theorem dX1_kindOfWord_31 : decode cX1_kindOfWord 31 = .ok (.iconst 2, 1) := by decide +kernel
theorem dX1_kindOfWord_32 : decode cX1_kindOfWord 32 = .ok (.ireturn, 1) := by decide +kernel
theorem dX1_kindOfWord_33 : decode cX1_kindOfWord 33 = .ok (.aload_n 0, 1) := by decide +kernel
theorem dX1_kindOfWord_34 : decode cX1_kindOfWord 34 = .ok (.ldc 124, 2) := by decide +kernel
theorem dX1_kindOfWord_36 : decode cX1_kindOfWord 36 = .ok (.invokevirtual 115, 3) := by decide +kernel
theorem dX1_kindOfWord_39 : decode cX1_kindOfWord 39 = .ok (.ifCond .eq 5, 3) := by decide +kernel
theorem dX1_kindOfWord_42 : decode cX1_kindOfWord 42 = .ok (.iconst 3, 1) := by decide +kernel
theorem dX1_kindOfWord_43 : decode cX1_kindOfWord 43 = .ok (.ireturn, 1) := by decide +kernel
theorem dX1_kindOfWord_44 : decode cX1_kindOfWord 44 = .ok (.aload_n 0, 1) := by decide +kernel
theorem dX1_kindOfWord_45 : decode cX1_kindOfWord 45 = .ok (.ldc 126, 2) := by decide +kernel
theorem dX1_kindOfWord_47 : decode cX1_kindOfWord 47 = .ok (.invokevirtual 115, 3) := by decide +kernel
theorem dX1_kindOfWord_50 : decode cX1_kindOfWord 50 = .ok (.ifCond .eq 5, 3) := by decide +kernel
theorem dX1_kindOfWord_53 : decode cX1_kindOfWord 53 = .ok (.iconst 4, 1) := by decide +kernel
theorem dX1_kindOfWord_54 : decode cX1_kindOfWord 54 = .ok (.ireturn, 1) := by decide +kernel
theorem dX1_kindOfWord_55 : decode cX1_kindOfWord 55 = .ok (.aload_n 0, 1) := by decide +kernel
theorem dX1_kindOfWord_56 : decode cX1_kindOfWord 56 = .ok (.ldc 128, 2) := by decide +kernel
theorem dX1_kindOfWord_58 : decode cX1_kindOfWord 58 = .ok (.invokevirtual 115, 3) := by decide +kernel
theorem dX1_kindOfWord_61 : decode cX1_kindOfWord 61 = .ok (.ifCond .eq 5, 3) := by decide +kernel
theorem dX1_kindOfWord_64 : decode cX1_kindOfWord 64 = .ok (.iconst 5, 1) := by decide +kernel
theorem dX1_kindOfWord_65 : decode cX1_kindOfWord 65 = .ok (.ireturn, 1) := by decide +kernel
theorem dX1_kindOfWord_66 : decode cX1_kindOfWord 66 = .ok (.aload_n 0, 1) := by decide +kernel
theorem dX1_kindOfWord_67 : decode cX1_kindOfWord 67 = .ok (.ldc 130, 2) := by decide +kernel
theorem dX1_kindOfWord_69 : decode cX1_kindOfWord 69 = .ok (.invokevirtual 115, 3) := by decide +kernel
theorem dX1_kindOfWord_72 : decode cX1_kindOfWord 72 = .ok (.ifCond .eq 8, 3) := by decide +kernel
theorem dX1_kindOfWord_75 : decode cX1_kindOfWord 75 = .ok (.bipush 6, 2) := by decide +kernel
theorem dX1_kindOfWord_77 : decode cX1_kindOfWord 77 = .ok (.goto 4, 3) := by decide +kernel
theorem dX1_kindOfWord_80 : decode cX1_kindOfWord 80 = .ok (.iconst (-1), 1) := by decide +kernel
theorem dX1_kindOfWord_81 : decode cX1_kindOfWord 81 = .ok (.ireturn, 1) := by decide +kernel
theorem dX1_isWord_0 : decode cX1_isWord 0 = .ok (.aload_n 0, 1) := by decide +kernel
theorem dX1_isWord_1 : decode cX1_isWord 1 = .ok (.getfield 22, 3) := by decide +kernel
theorem dX1_isWord_4 : decode cX1_isWord 4 = .ok (.ifCond .ne 19, 3) := by decide +kernel
theorem dX1_isWord_7 : decode cX1_isWord 7 = .ok (.aload_n 0, 1) := by decide +kernel
theorem dX1_isWord_8 : decode cX1_isWord 8 = .ok (.getfield 28, 3) := by decide +kernel
theorem dX1_isWord_11 : decode cX1_isWord 11 = .ok (.aload_n 0, 1) := by decide +kernel
theorem dX1_isWord_12 : decode cX1_isWord 12 = .ok (.getfield 25, 3) := by decide +kernel
theorem dX1_isWord_15 : decode cX1_isWord 15 = .ok (.isub, 1) := by decide +kernel
theorem dX1_isWord_16 : decode cX1_isWord 16 = .ok (.aload_n 1, 1) := by decide +kernel
theorem dX1_isWord_17 : decode cX1_isWord 17 = .ok (.invokevirtual 132, 3) := by decide +kernel
theorem dX1_isWord_20 : decode cX1_isWord 20 = .ok (.if_icmp .eq 5, 3) := by decide +kernel
theorem dX1_isWord_23 : decode cX1_isWord 23 = .ok (.iconst 0, 1) := by decide +kernel
theorem dX1_isWord_24 : decode cX1_isWord 24 = .ok (.ireturn, 1) := by decide +kernel
theorem dX1_isWord_25 : decode cX1_isWord 25 = .ok (.iconst 0, 1) := by decide +kernel
theorem dX1_isWord_26 : decode cX1_isWord 26 = .ok (.istore_n 2, 1) := by decide +kernel
theorem dX1_isWord_27 : decode cX1_isWord 27 = .ok (.iload_n 2, 1) := by decide +kernel
theorem dX1_isWord_28 : decode cX1_isWord 28 = .ok (.aload_n 1, 1) := by decide +kernel
theorem dX1_isWord_29 : decode cX1_isWord 29 = .ok (.invokevirtual 132, 3) := by decide +kernel
theorem dX1_isWord_32 : decode cX1_isWord 32 = .ok (.if_icmp .ge 30, 3) := by decide +kernel
theorem dX1_isWord_35 : decode cX1_isWord 35 = .ok (.aload_n 0, 1) := by decide +kernel
theorem dX1_isWord_36 : decode cX1_isWord 36 = .ok (.getfield 9, 3) := by decide +kernel
theorem dX1_isWord_39 : decode cX1_isWord 39 = .ok (.aload_n 0, 1) := by decide +kernel
theorem dX1_isWord_40 : decode cX1_isWord 40 = .ok (.getfield 25, 3) := by decide +kernel
theorem dX1_isWord_43 : decode cX1_isWord 43 = .ok (.iload_n 2, 1) := by decide +kernel
theorem dX1_isWord_44 : decode cX1_isWord 44 = .ok (.iadd, 1) := by decide +kernel
theorem dX1_isWord_45 : decode cX1_isWord 45 = .ok (.iaload, 1) := by decide +kernel
theorem dX1_isWord_46 : decode cX1_isWord 46 = .ok (.aload_n 1, 1) := by decide +kernel
theorem dX1_isWord_47 : decode cX1_isWord 47 = .ok (.iload_n 2, 1) := by decide +kernel
theorem dX1_isWord_48 : decode cX1_isWord 48 = .ok (.invokevirtual 136, 3) := by decide +kernel
theorem dX1_isWord_51 : decode cX1_isWord 51 = .ok (.if_icmp .eq 5, 3) := by decide +kernel
theorem dX1_isWord_54 : decode cX1_isWord 54 = .ok (.iconst 0, 1) := by decide +kernel
theorem dX1_isWord_55 : decode cX1_isWord 55 = .ok (.ireturn, 1) := by decide +kernel
theorem dX1_isWord_56 : decode cX1_isWord 56 = .ok (.iinc 2 1, 3) := by decide +kernel
theorem dX1_isWord_59 : decode cX1_isWord 59 = .ok (.goto (-32), 3) := by decide +kernel
theorem dX1_isWord_62 : decode cX1_isWord 62 = .ok (.iconst 1, 1) := by decide +kernel
theorem dX1_isWord_63 : decode cX1_isWord 63 = .ok (.ireturn, 1) := by decide +kernel
theorem dX1_nextToken_0 : decode cX1_nextToken 0 = .ok (.aload_n 0, 1) := by decide +kernel
theorem dX1_nextToken_1 : decode cX1_nextToken 1 = .ok (.aload_n 0, 1) := by decide +kernel
theorem dX1_nextToken_2 : decode cX1_nextToken 2 = .ok (.getfield 28, 3) := by decide +kernel
theorem dX1_nextToken_5 : decode cX1_nextToken 5 = .ok (.putfield 25, 3) := by decide +kernel
theorem dX1_nextToken_8 : decode cX1_nextToken 8 = .ok (.aload_n 0, 1) := by decide +kernel
theorem dX1_nextToken_9 : decode cX1_nextToken 9 = .ok (.getfield 25, 3) := by decide +kernel
theorem dX1_nextToken_12 : decode cX1_nextToken 12 = .ok (.aload_n 0, 1) := by decide +kernel
theorem dX1_nextToken_13 : decode cX1_nextToken 13 = .ok (.getfield 15, 3) := by decide +kernel
theorem dX1_nextToken_16 : decode cX1_nextToken 16 = .ok (.if_icmp .ge 30, 3) := by decide +kernel
theorem dX1_nextToken_19 : decode cX1_nextToken 19 = .ok (.aload_n 0, 1) := by decide +kernel
theorem dX1_nextToken_20 : decode cX1_nextToken 20 = .ok (.getfield 9, 3) := by decide +kernel
theorem dX1_nextToken_23 : decode cX1_nextToken 23 = .ok (.aload_n 0, 1) := by decide +kernel
theorem dX1_nextToken_24 : decode cX1_nextToken 24 = .ok (.getfield 25, 3) := by decide +kernel
theorem dX1_nextToken_27 : decode cX1_nextToken 27 = .ok (.iaload, 1) := by decide +kernel
theorem dX1_nextToken_28 : decode cX1_nextToken 28 = .ok (.bipush 32, 2) := by decide +kernel
theorem dX1_nextToken_30 : decode cX1_nextToken 30 = .ok (.if_icmp .ne 16, 3) := by decide +kernel
theorem dX1_nextToken_33 : decode cX1_nextToken 33 = .ok (.aload_n 0, 1) := by decide +kernel
theorem dX1_nextToken_34 : decode cX1_nextToken 34 = .ok (.dup, 1) := by decide +kernel
theorem dX1_nextToken_35 : decode cX1_nextToken 35 = .ok (.getfield 25, 3) := by decide +kernel
theorem dX1_nextToken_38 : decode cX1_nextToken 38 = .ok (.iconst 1, 1) := by decide +kernel
theorem dX1_nextToken_39 : decode cX1_nextToken 39 = .ok (.iadd, 1) := by decide +kernel
theorem dX1_nextToken_40 : decode cX1_nextToken 40 = .ok (.putfield 25, 3) := by decide +kernel
theorem dX1_nextToken_43 : decode cX1_nextToken 43 = .ok (.goto (-35), 3) := by decide +kernel
theorem dX1_nextToken_46 : decode cX1_nextToken 46 = .ok (.aload_n 0, 1) := by decide +kernel
theorem dX1_nextToken_47 : decode cX1_nextToken 47 = .ok (.aload_n 0, 1) := by decide +kernel
theorem dX1_nextToken_48 : decode cX1_nextToken 48 = .ok (.getfield 25, 3) := by decide +kernel
theorem dX1_nextToken_51 : decode cX1_nextToken 51 = .ok (.putfield 28, 3) := by decide +kernel
theorem dX1_nextToken_54 : decode cX1_nextToken 54 = .ok (.aload_n 0, 1) := by decide +kernel
theorem dX1_nextToken_55 : decode cX1_nextToken 55 = .ok (.getfield 25, 3) := by decide +kernel
theorem dX1_nextToken_58 : decode cX1_nextToken 58 = .ok (.aload_n 0, 1) := by decide +kernel
theorem dX1_nextToken_59 : decode cX1_nextToken 59 = .ok (.getfield 15, 3) := by decide +kernel
theorem dX1_nextToken_62 : decode cX1_nextToken 62 = .ok (.if_icmp .lt 11, 3) := by decide +kernel
theorem dX1_nextToken_65 : decode cX1_nextToken 65 = .ok (.aload_n 0, 1) := by decide +kernel
theorem dX1_nextToken_66 : decode cX1_nextToken 66 = .ok (.iconst 3, 1) := by decide +kernel
theorem dX1_nextToken_67 : decode cX1_nextToken 67 = .ok (.putfield 22, 3) := by decide +kernel
theorem dX1_nextToken_70 : decode cX1_nextToken 70 = .ok (.goto 80, 3) := by decide +kernel
theorem dX1_nextToken_73 : decode cX1_nextToken 73 = .ok (.aload_n 0, 1) := by decide +kernel
theorem dX1_nextToken_74 : decode cX1_nextToken 74 = .ok (.getfield 9, 3) := by decide +kernel
theorem dX1_nextToken_77 : decode cX1_nextToken 77 = .ok (.aload_n 0, 1) := by decide +kernel
theorem dX1_nextToken_78 : decode cX1_nextToken 78 = .ok (.getfield 25, 3) := by decide +kernel
theorem dX1_nextToken_81 : decode cX1_nextToken 81 = .ok (.iaload, 1) := by decide +kernel
theorem dX1_nextToken_82 : decode cX1_nextToken 82 = .ok (.invokestatic 140, 3) := by decide +kernel
theorem dX1_nextToken_85 : decode cX1_nextToken 85 = .ok (.ifCond .eq 10, 3) := by decide +kernel
theorem dX1_nextToken_88 : decode cX1_nextToken 88 = .ok (.aload_n 0, 1) := by decide +kernel
theorem dX1_nextToken_89 : decode cX1_nextToken 89 = .ok (.invokevirtual 143, 3) := by decide +kernel
theorem dX1_nextToken_92 : decode cX1_nextToken 92 = .ok (.goto 58, 3) := by decide +kernel
theorem dX1_nextToken_95 : decode cX1_nextToken 95 = .ok (.aload_n 0, 1) := by decide +kernel
theorem dX1_nextToken_96 : decode cX1_nextToken 96 = .ok (.getfield 9, 3) := by decide +kernel
theorem dX1_nextToken_99 : decode cX1_nextToken 99 = .ok (.aload_n 0, 1) := by decide +kernel
theorem dX1_nextToken_100 : decode cX1_nextToken 100 = .ok (.getfield 25, 3) := by decide +kernel
theorem dX1_nextToken_103 : decode cX1_nextToken 103 = .ok (.iaload, 1) := by decide +kernel
theorem dX1_nextToken_104 : decode cX1_nextToken 104 = .ok (.invokestatic 146, 3) := by decide +kernel
theorem dX1_nextToken_107 : decode cX1_nextToken 107 = .ok (.ifCond .eq 10, 3) := by decide +kernel
theorem dX1_nextToken_110 : decode cX1_nextToken 110 = .ok (.aload_n 0, 1) := by decide +kernel
theorem dX1_nextToken_111 : decode cX1_nextToken 111 = .ok (.invokevirtual 149, 3) := by decide +kernel
theorem dX1_nextToken_114 : decode cX1_nextToken 114 = .ok (.goto 36, 3) := by decide +kernel
theorem dX1_nextToken_117 : decode cX1_nextToken 117 = .ok (.aload_n 0, 1) := by decide +kernel
theorem dX1_nextToken_118 : decode cX1_nextToken 118 = .ok (.aload_n 0, 1) := by decide +kernel
theorem dX1_nextToken_119 : decode cX1_nextToken 119 = .ok (.getfield 9, 3) := by decide +kernel
theorem dX1_nextToken_122 : decode cX1_nextToken 122 = .ok (.aload_n 0, 1) := by decide +kernel
theorem dX1_nextToken_123 : decode cX1_nextToken 123 = .ok (.getfield 25, 3) := by decide +kernel
theorem dX1_nextToken_126 : decode cX1_nextToken 126 = .ok (.iaload, 1) := by decide +kernel
theorem dX1_nextToken_127 : decode cX1_nextToken 127 = .ok (.bipush 59, 2) := by decide +kernel
theorem dX1_nextToken_129 : decode cX1_nextToken 129 = .ok (.if_icmp .ne 7, 3) := by decide +kernel
theorem dX1_nextToken_132 : decode cX1_nextToken 132 = .ok (.iconst 2, 1) := by decide +kernel
theorem dX1_nextToken_133 : decode cX1_nextToken 133 = .ok (.goto 4, 3) := by decide +kernel
theorem dX1_nextToken_136 : decode cX1_nextToken 136 = .ok (.iconst 4, 1) := by decide +kernel
theorem dX1_nextToken_137 : decode cX1_nextToken 137 = .ok (.putfield 22, 3) := by decide +kernel
theorem dX1_nextToken_140 : decode cX1_nextToken 140 = .ok (.aload_n 0, 1) := by decide +kernel
theorem dX1_nextToken_141 : decode cX1_nextToken 141 = .ok (.aload_n 0, 1) := by decide +kernel
theorem dX1_nextToken_142 : decode cX1_nextToken 142 = .ok (.getfield 25, 3) := by decide +kernel
theorem dX1_nextToken_145 : decode cX1_nextToken 145 = .ok (.iconst 1, 1) := by decide +kernel
theorem dX1_nextToken_146 : decode cX1_nextToken 146 = .ok (.iadd, 1) := by decide +kernel
theorem dX1_nextToken_147 : decode cX1_nextToken 147 = .ok (.putfield 28, 3) := by decide +kernel
theorem dX1_nextToken_150 : decode cX1_nextToken 150 = .ok (.return_, 1) := by decide +kernel
theorem dX1_readWord_0 : decode cX1_readWord 0 = .ok (.aload_n 0, 1) := by decide +kernel
theorem dX1_readWord_1 : decode cX1_readWord 1 = .ok (.iconst 0, 1) := by decide +kernel
theorem dX1_readWord_2 : decode cX1_readWord 2 = .ok (.putfield 22, 3) := by decide +kernel
theorem dX1_readWord_5 : decode cX1_readWord 5 = .ok (.aload_n 0, 1) := by decide +kernel
theorem dX1_readWord_6 : decode cX1_readWord 6 = .ok (.getfield 28, 3) := by decide +kernel
theorem dX1_readWord_9 : decode cX1_readWord 9 = .ok (.aload_n 0, 1) := by decide +kernel
theorem dX1_readWord_10 : decode cX1_readWord 10 = .ok (.getfield 15, 3) := by decide +kernel
theorem dX1_readWord_13 : decode cX1_readWord 13 = .ok (.if_icmp .ge 31, 3) := by decide +kernel
theorem dX1_readWord_16 : decode cX1_readWord 16 = .ok (.aload_n 0, 1) := by decide +kernel
theorem dX1_readWord_17 : decode cX1_readWord 17 = .ok (.getfield 9, 3) := by decide +kernel
theorem dX1_readWord_20 : decode cX1_readWord 20 = .ok (.aload_n 0, 1) := by decide +kernel
theorem dX1_readWord_21 : decode cX1_readWord 21 = .ok (.getfield 28, 3) := by decide +kernel
theorem dX1_readWord_24 : decode cX1_readWord 24 = .ok (.iaload, 1) := by decide +kernel
theorem dX1_readWord_25 : decode cX1_readWord 25 = .ok (.invokestatic 140, 3) := by decide +kernel
theorem dX1_readWord_28 : decode cX1_readWord 28 = .ok (.ifCond .eq 16, 3) := by decide +kernel
theorem dX1_readWord_31 : decode cX1_readWord 31 = .ok (.aload_n 0, 1) := by decide +kernel
theorem dX1_readWord_32 : decode cX1_readWord 32 = .ok (.dup, 1) := by decide +kernel
theorem dX1_readWord_33 : decode cX1_readWord 33 = .ok (.getfield 28, 3) := by decide +kernel
theorem dX1_readWord_36 : decode cX1_readWord 36 = .ok (.iconst 1, 1) := by decide +kernel
theorem dX1_readWord_37 : decode cX1_readWord 37 = .ok (.iadd, 1) := by decide +kernel
theorem dX1_readWord_38 : decode cX1_readWord 38 = .ok (.putfield 28, 3) := by decide +kernel
theorem dX1_readWord_41 : decode cX1_readWord 41 = .ok (.goto (-36), 3) := by decide +kernel
theorem dX1_readWord_44 : decode cX1_readWord 44 = .ok (.return_, 1) := by decide +kernel
theorem dX1_readNumber_0 : decode cX1_readNumber 0 = .ok (.aload_n 0, 1) := by decide +kernel
theorem dX1_readNumber_1 : decode cX1_readNumber 1 = .ok (.iconst 1, 1) := by decide +kernel
theorem dX1_readNumber_2 : decode cX1_readNumber 2 = .ok (.putfield 22, 3) := by decide +kernel
theorem dX1_readNumber_5 : decode cX1_readNumber 5 = .ok (.aload_n 0, 1) := by decide +kernel
theorem dX1_readNumber_6 : decode cX1_readNumber 6 = .ok (.iconst 0, 1) := by decide +kernel
theorem dX1_readNumber_7 : decode cX1_readNumber 7 = .ok (.putfield 31, 3) := by decide +kernel
theorem dX1_readNumber_10 : decode cX1_readNumber 10 = .ok (.aload_n 0, 1) := by decide +kernel
theorem dX1_readNumber_11 : decode cX1_readNumber 11 = .ok (.getfield 28, 3) := by decide +kernel
theorem dX1_readNumber_14 : decode cX1_readNumber 14 = .ok (.aload_n 0, 1) := by decide +kernel
theorem dX1_readNumber_15 : decode cX1_readNumber 15 = .ok (.getfield 15, 3) := by decide +kernel
theorem dX1_readNumber_18 : decode cX1_readNumber 18 = .ok (.if_icmp .ge 61, 3) := by decide +kernel
theorem dX1_readNumber_21 : decode cX1_readNumber 21 = .ok (.aload_n 0, 1) := by decide +kernel
theorem dX1_readNumber_22 : decode cX1_readNumber 22 = .ok (.getfield 9, 3) := by decide +kernel
theorem dX1_readNumber_25 : decode cX1_readNumber 25 = .ok (.aload_n 0, 1) := by decide +kernel
theorem dX1_readNumber_26 : decode cX1_readNumber 26 = .ok (.getfield 28, 3) := by decide +kernel
theorem dX1_readNumber_29 : decode cX1_readNumber 29 = .ok (.iaload, 1) := by decide +kernel
theorem dX1_readNumber_30 : decode cX1_readNumber 30 = .ok (.invokestatic 146, 3) := by decide +kernel
theorem dX1_readNumber_33 : decode cX1_readNumber 33 = .ok (.ifCond .eq 46, 3) := by decide +kernel
theorem dX1_readNumber_36 : decode cX1_readNumber 36 = .ok (.aload_n 0, 1) := by decide +kernel
theorem dX1_readNumber_37 : decode cX1_readNumber 37 = .ok (.sipush 10000, 3) := by decide +kernel
theorem dX1_readNumber_40 : decode cX1_readNumber 40 = .ok (.aload_n 0, 1) := by decide +kernel
theorem dX1_readNumber_41 : decode cX1_readNumber 41 = .ok (.getfield 31, 3) := by decide +kernel
theorem dX1_readNumber_44 : decode cX1_readNumber 44 = .ok (.bipush 10, 2) := by decide +kernel
theorem dX1_readNumber_46 : decode cX1_readNumber 46 = .ok (.imul, 1) := by decide +kernel
theorem dX1_readNumber_47 : decode cX1_readNumber 47 = .ok (.aload_n 0, 1) := by decide +kernel
theorem dX1_readNumber_48 : decode cX1_readNumber 48 = .ok (.getfield 9, 3) := by decide +kernel
theorem dX1_readNumber_51 : decode cX1_readNumber 51 = .ok (.aload_n 0, 1) := by decide +kernel
theorem dX1_readNumber_52 : decode cX1_readNumber 52 = .ok (.getfield 28, 3) := by decide +kernel
theorem dX1_readNumber_55 : decode cX1_readNumber 55 = .ok (.iaload, 1) := by decide +kernel
theorem dX1_readNumber_56 : decode cX1_readNumber 56 = .ok (.iadd, 1) := by decide +kernel
theorem dX1_readNumber_57 : decode cX1_readNumber 57 = .ok (.bipush 48, 2) := by decide +kernel
theorem dX1_readNumber_59 : decode cX1_readNumber 59 = .ok (.isub, 1) := by decide +kernel
theorem dX1_readNumber_60 : decode cX1_readNumber 60 = .ok (.invokestatic 152, 3) := by decide +kernel
theorem dX1_readNumber_63 : decode cX1_readNumber 63 = .ok (.putfield 31, 3) := by decide +kernel
theorem dX1_readNumber_66 : decode cX1_readNumber 66 = .ok (.aload_n 0, 1) := by decide +kernel
theorem dX1_readNumber_67 : decode cX1_readNumber 67 = .ok (.dup, 1) := by decide +kernel
theorem dX1_readNumber_68 : decode cX1_readNumber 68 = .ok (.getfield 28, 3) := by decide +kernel
theorem dX1_readNumber_71 : decode cX1_readNumber 71 = .ok (.iconst 1, 1) := by decide +kernel
theorem dX1_readNumber_72 : decode cX1_readNumber 72 = .ok (.iadd, 1) := by decide +kernel
theorem dX1_readNumber_73 : decode cX1_readNumber 73 = .ok (.putfield 28, 3) := by decide +kernel
theorem dX1_readNumber_76 : decode cX1_readNumber 76 = .ok (.goto (-66), 3) := by decide +kernel
theorem dX1_readNumber_79 : decode cX1_readNumber 79 = .ok (.return_, 1) := by decide +kernel
theorem dX1_isLetter_0 : decode cX1_isLetter 0 = .ok (.iload_n 0, 1) := by decide +kernel
theorem dX1_isLetter_1 : decode cX1_isLetter 1 = .ok (.bipush 97, 2) := by decide +kernel
theorem dX1_isLetter_3 : decode cX1_isLetter 3 = .ok (.if_icmp .lt 13, 3) := by decide +kernel
theorem dX1_isLetter_6 : decode cX1_isLetter 6 = .ok (.iload_n 0, 1) := by decide +kernel
theorem dX1_isLetter_7 : decode cX1_isLetter 7 = .ok (.bipush 122, 2) := by decide +kernel
theorem dX1_isLetter_9 : decode cX1_isLetter 9 = .ok (.if_icmp .gt 7, 3) := by decide +kernel
theorem dX1_isLetter_12 : decode cX1_isLetter 12 = .ok (.iconst 1, 1) := by decide +kernel
theorem dX1_isLetter_13 : decode cX1_isLetter 13 = .ok (.goto 4, 3) := by decide +kernel
theorem dX1_isLetter_16 : decode cX1_isLetter 16 = .ok (.iconst 0, 1) := by decide +kernel
theorem dX1_isLetter_17 : decode cX1_isLetter 17 = .ok (.ireturn, 1) := by decide +kernel
theorem dX1_isDigit_0 : decode cX1_isDigit 0 = .ok (.iload_n 0, 1) := by decide +kernel
theorem dX1_isDigit_1 : decode cX1_isDigit 1 = .ok (.bipush 48, 2) := by decide +kernel
theorem dX1_isDigit_3 : decode cX1_isDigit 3 = .ok (.if_icmp .lt 13, 3) := by decide +kernel
theorem dX1_isDigit_6 : decode cX1_isDigit 6 = .ok (.iload_n 0, 1) := by decide +kernel
theorem dX1_isDigit_7 : decode cX1_isDigit 7 = .ok (.bipush 57, 2) := by decide +kernel
theorem dX1_isDigit_9 : decode cX1_isDigit 9 = .ok (.if_icmp .gt 7, 3) := by decide +kernel
theorem dX1_isDigit_12 : decode cX1_isDigit 12 = .ok (.iconst 1, 1) := by decide +kernel
theorem dX1_isDigit_13 : decode cX1_isDigit 13 = .ok (.goto 4, 3) := by decide +kernel
theorem dX1_isDigit_16 : decode cX1_isDigit 16 = .ok (.iconst 0, 1) := by decide +kernel
theorem dX1_isDigit_17 : decode cX1_isDigit 17 = .ok (.ireturn, 1) := by decide +kernel
theorem dX2_init_0 : decode cX2_init 0 = .ok (.aload_n 0, 1) := by decide +kernel
theorem dX2_init_1 : decode cX2_init 1 = .ok (.invokespecial 3, 3) := by decide +kernel
theorem dX2_init_4 : decode cX2_init 4 = .ok (.aload_n 0, 1) := by decide +kernel
theorem dX2_init_5 : decode cX2_init 5 = .ok (.bipush 10, 2) := by decide +kernel
theorem dX2_init_7 : decode cX2_init 7 = .ok (.newarray .int, 2) := by decide +kernel
theorem dX2_init_9 : decode cX2_init 9 = .ok (.putfield 9, 3) := by decide +kernel
theorem dX2_init_12 : decode cX2_init 12 = .ok (.aload_n 0, 1) := by decide +kernel
theorem dX2_init_13 : decode cX2_init 13 = .ok (.bipush 10, 2) := by decide +kernel
theorem dX2_init_15 : decode cX2_init 15 = .ok (.newarray .int, 2) := by decide +kernel
theorem dX2_init_17 : decode cX2_init 17 = .ok (.putfield 15, 3) := by decide +kernel
theorem dX2_init_20 : decode cX2_init 20 = .ok (.aload_n 0, 1) := by decide +kernel
theorem dX2_init_21 : decode cX2_init 21 = .ok (.bipush 10, 2) := by decide +kernel
theorem dX2_init_23 : decode cX2_init 23 = .ok (.newarray .int, 2) := by decide +kernel
theorem dX2_init_25 : decode cX2_init 25 = .ok (.putfield 18, 3) := by decide +kernel
theorem dX2_init_28 : decode cX2_init 28 = .ok (.aload_n 0, 1) := by decide +kernel
theorem dX2_init_29 : decode cX2_init 29 = .ok (.bipush 6, 2) := by decide +kernel
theorem dX2_init_31 : decode cX2_init 31 = .ok (.newarray .int, 2) := by decide +kernel
theorem dX2_init_33 : decode cX2_init 33 = .ok (.putfield 21, 3) := by decide +kernel
theorem dX2_init_36 : decode cX2_init 36 = .ok (.aload_n 0, 1) := by decide +kernel
theorem dX2_init_37 : decode cX2_init 37 = .ok (.iconst 5, 1) := by decide +kernel
theorem dX2_init_38 : decode cX2_init 38 = .ok (.putfield 24, 3) := by decide +kernel
theorem dX2_init_41 : decode cX2_init 41 = .ok (.aload_n 0, 1) := by decide +kernel
theorem dX2_init_42 : decode cX2_init 42 = .ok (.iconst 0, 1) := by decide +kernel
theorem dX2_init_43 : decode cX2_init 43 = .ok (.putfield 28, 3) := by decide +kernel
theorem dX2_init_46 : decode cX2_init 46 = .ok (.aload_n 0, 1) := by decide +kernel
theorem dX2_init_47 : decode cX2_init 47 = .ok (.bipush 8, 2) := by decide +kernel
theorem dX2_init_49 : decode cX2_init 49 = .ok (.newarray .int, 2) := by decide +kernel
theorem dX2_init_51 : decode cX2_init 51 = .ok (.putfield 31, 3) := by decide +kernel
theorem dX2_init_54 : decode cX2_init 54 = .ok (.aload_n 0, 1) := by decide +kernel
theorem dX2_init_55 : decode cX2_init 55 = .ok (.bipush 8, 2) := by decide +kernel
theorem dX2_init_57 : decode cX2_init 57 = .ok (.newarray .int, 2) := by decide +kernel
theorem dX2_init_59 : decode cX2_init 59 = .ok (.putfield 34, 3) := by decide +kernel
theorem dX2_init_62 : decode cX2_init 62 = .ok (.aload_n 0, 1) := by decide +kernel
theorem dX2_init_63 : decode cX2_init 63 = .ok (.bipush 8, 2) := by decide +kernel
theorem dX2_init_65 : decode cX2_init 65 = .ok (.newarray .int, 2) := by decide +kernel
theorem dX2_init_67 : decode cX2_init 67 = .ok (.putfield 37, 3) := by decide +kernel
theorem dX2_init_70 : decode cX2_init 70 = .ok (.aload_n 0, 1) := by decide +kernel
theorem dX2_init_71 : decode cX2_init 71 = .ok (.bipush 8, 2) := by decide +kernel
theorem dX2_init_73 : decode cX2_init 73 = .ok (.newarray .int, 2) := by decide +kernel
theorem dX2_init_75 : decode cX2_init 75 = .ok (.putfield 40, 3) := by decide +kernel
theorem dX2_init_78 : decode cX2_init 78 = .ok (.aload_n 0, 1) := by decide +kernel
theorem dX2_init_79 : decode cX2_init 79 = .ok (.bipush 8, 2) := by decide +kernel
theorem dX2_init_81 : decode cX2_init 81 = .ok (.newarray .int, 2) := by decide +kernel
theorem dX2_init_83 : decode cX2_init 83 = .ok (.putfield 43, 3) := by decide +kernel
theorem dX2_init_86 : decode cX2_init 86 = .ok (.aload_n 0, 1) := by decide +kernel
theorem dX2_init_87 : decode cX2_init 87 = .ok (.iconst 0, 1) := by decide +kernel
theorem dX2_init_88 : decode cX2_init 88 = .ok (.putfield 46, 3) := by decide +kernel
theorem dX2_init_91 : decode cX2_init 91 = .ok (.aload_n 0, 1) := by decide +kernel
theorem dX2_init_92 : decode cX2_init 92 = .ok (.iconst 0, 1) := by decide +kernel
theorem dX2_init_93 : decode cX2_init 93 = .ok (.putfield 49, 3) := by decide +kernel
theorem dX2_init_96 : decode cX2_init 96 = .ok (.aload_n 0, 1) := by decide +kernel
theorem dX2_init_97 : decode cX2_init 97 = .ok (.iconst 1, 1) := by decide +kernel
theorem dX2_init_98 : decode cX2_init 98 = .ok (.putfield 52, 3) := by decide +kernel
theorem dX2_init_101 : decode cX2_init 101 = .ok (.aload_n 0, 1) := by decide +kernel
theorem dX2_init_102 : decode cX2_init 102 = .ok (.bipush 10, 2) := by decide +kernel
theorem dX2_init_104 : decode cX2_init 104 = .ok (.newarray .int, 2) := by decide +kernel
theorem dX2_init_106 : decode cX2_init 106 = .ok (.putfield 55, 3) := by decide +kernel
theorem dX2_init_109 : decode cX2_init 109 = .ok (.aload_n 0, 1) := by decide +kernel
theorem dX2_init_110 : decode cX2_init 110 = .ok (.bipush 10, 2) := by decide +kernel
theorem dX2_init_112 : decode cX2_init 112 = .ok (.newarray .int, 2) := by decide +kernel
theorem dX2_init_114 : decode cX2_init 114 = .ok (.putfield 58, 3) := by decide +kernel
theorem dX2_init_117 : decode cX2_init 117 = .ok (.iconst 0, 1) := by decide +kernel
theorem dX2_init_118 : decode cX2_init 118 = .ok (.istore_n 1, 1) := by decide +kernel
theorem dX2_init_119 : decode cX2_init 119 = .ok (.iload_n 1, 1) := by decide +kernel
theorem dX2_init_120 : decode cX2_init 120 = .ok (.bipush 10, 2) := by decide +kernel
theorem dX2_init_122 : decode cX2_init 122 = .ok (.if_icmp .ge 24, 3) := by decide +kernel
theorem dX2_init_125 : decode cX2_init 125 = .ok (.aload_n 0, 1) := by decide +kernel
theorem dX2_init_126 : decode cX2_init 126 = .ok (.getfield 9, 3) := by decide +kernel
theorem dX2_init_129 : decode cX2_init 129 = .ok (.iload_n 1, 1) := by decide +kernel
theorem dX2_init_130 : decode cX2_init 130 = .ok (.bipush 50, 2) := by decide +kernel
theorem dX2_init_132 : decode cX2_init 132 = .ok (.iastore, 1) := by decide +kernel
theorem dX2_init_133 : decode cX2_init 133 = .ok (.aload_n 0, 1) := by decide +kernel
theorem dX2_init_134 : decode cX2_init 134 = .ok (.getfield 18, 3) := by decide +kernel
theorem dX2_init_137 : decode cX2_init 137 = .ok (.iload_n 1, 1) := by decide +kernel
theorem dX2_init_138 : decode cX2_init 138 = .ok (.iconst (-1), 1) := by decide +kernel
theorem dX2_init_139 : decode cX2_init 139 = .ok (.iastore, 1) := by decide +kernel
theorem dX2_init_140 : decode cX2_init 140 = .ok (.iinc 1 1, 3) := by decide +kernel
theorem dX2_init_143 : decode cX2_init 143 = .ok (.goto (-24), 3) := by decide +kernel
theorem dX2_init_146 : decode cX2_init 146 = .ok (.iconst 0, 1) := by decide +kernel
theorem dX2_init_147 : decode cX2_init 147 = .ok (.istore_n 1, 1) := by decide +kernel
theorem dX2_init_148 : decode cX2_init 148 = .ok (.iload_n 1, 1) := by decide +kernel
theorem dX2_init_149 : decode cX2_init 149 = .ok (.bipush 6, 2) := by decide +kernel
theorem dX2_init_151 : decode cX2_init 151 = .ok (.if_icmp .ge 16, 3) := by decide +kernel
theorem dX2_init_154 : decode cX2_init 154 = .ok (.aload_n 0, 1) := by decide +kernel
theorem dX2_init_155 : decode cX2_init 155 = .ok (.getfield 21, 3) := by decide +kernel
theorem dX2_init_158 : decode cX2_init 158 = .ok (.iload_n 1, 1) := by decide +kernel
theorem dX2_init_159 : decode cX2_init 159 = .ok (.iconst 5, 1) := by decide +kernel
theorem dX2_init_160 : decode cX2_init 160 = .ok (.iastore, 1) := by decide +kernel
theorem dX2_init_161 : decode cX2_init 161 = .ok (.iinc 1 1, 3) := by decide +kernel
theorem dX2_init_164 : decode cX2_init 164 = .ok (.goto (-16), 3) := by decide +kernel
theorem dX2_init_167 : decode cX2_init 167 = .ok (.iconst 0, 1) := by decide +kernel
theorem dX2_init_168 : decode cX2_init 168 = .ok (.istore_n 1, 1) := by decide +kernel
theorem dX2_init_169 : decode cX2_init 169 = .ok (.iload_n 1, 1) := by decide +kernel
theorem dX2_init_170 : decode cX2_init 170 = .ok (.bipush 10, 2) := by decide +kernel
theorem dX2_init_172 : decode cX2_init 172 = .ok (.if_icmp .ge 16, 3) := by decide +kernel
theorem dX2_init_175 : decode cX2_init 175 = .ok (.aload_n 0, 1) := by decide +kernel
theorem dX2_init_176 : decode cX2_init 176 = .ok (.getfield 55, 3) := by decide +kernel
theorem dX2_init_179 : decode cX2_init 179 = .ok (.iload_n 1, 1) := by decide +kernel
theorem dX2_init_180 : decode cX2_init 180 = .ok (.iconst (-1), 1) := by decide +kernel
theorem dX2_init_181 : decode cX2_init 181 = .ok (.iastore, 1) := by decide +kernel
theorem dX2_init_182 : decode cX2_init 182 = .ok (.iinc 1 1, 3) := by decide +kernel
theorem dX2_init_185 : decode cX2_init 185 = .ok (.goto (-16), 3) := by decide +kernel
theorem dX2_init_188 : decode cX2_init 188 = .ok (.return_, 1) := by decide +kernel
theorem dX2_become_0 : decode cX2_become 0 = .ok (.aload_n 1, 1) := by decide +kernel
theorem dX2_become_1 : decode cX2_become 1 = .ok (.getfield 9, 3) := by decide +kernel
theorem dX2_become_4 : decode cX2_become 4 = .ok (.iconst 0, 1) := by decide +kernel
theorem dX2_become_5 : decode cX2_become 5 = .ok (.aload_n 0, 1) := by decide +kernel
theorem dX2_become_6 : decode cX2_become 6 = .ok (.getfield 9, 3) := by decide +kernel
theorem dX2_become_9 : decode cX2_become 9 = .ok (.iconst 0, 1) := by decide +kernel
theorem dX2_become_10 : decode cX2_become 10 = .ok (.bipush 10, 2) := by decide +kernel
theorem dX2_become_12 : decode cX2_become 12 = .ok (.invokestatic 61, 3) := by decide +kernel
theorem dX2_become_15 : decode cX2_become 15 = .ok (.aload_n 1, 1) := by decide +kernel
theorem dX2_become_16 : decode cX2_become 16 = .ok (.getfield 15, 3) := by decide +kernel
theorem dX2_become_19 : decode cX2_become 19 = .ok (.iconst 0, 1) := by decide +kernel
theorem dX2_become_20 : decode cX2_become 20 = .ok (.aload_n 0, 1) := by decide +kernel
theorem dX2_become_21 : decode cX2_become 21 = .ok (.getfield 15, 3) := by decide +kernel
theorem dX2_become_24 : decode cX2_become 24 = .ok (.iconst 0, 1) := by decide +kernel
theorem dX2_become_25 : decode cX2_become 25 = .ok (.bipush 10, 2) := by decide +kernel
theorem dX2_become_27 : decode cX2_become 27 = .ok (.invokestatic 61, 3) := by decide +kernel
theorem dX2_become_30 : decode cX2_become 30 = .ok (.aload_n 1, 1) := by decide +kernel
theorem dX2_become_31 : decode cX2_become 31 = .ok (.getfield 18, 3) := by decide +kernel
theorem dX2_become_34 : decode cX2_become 34 = .ok (.iconst 0, 1) := by decide +kernel
theorem dX2_become_35 : decode cX2_become 35 = .ok (.aload_n 0, 1) := by decide +kernel
theorem dX2_become_36 : decode cX2_become 36 = .ok (.getfield 18, 3) := by decide +kernel
theorem dX2_become_39 : decode cX2_become 39 = .ok (.iconst 0, 1) := by decide +kernel
theorem dX2_become_40 : decode cX2_become 40 = .ok (.bipush 10, 2) := by decide +kernel
theorem dX2_become_42 : decode cX2_become 42 = .ok (.invokestatic 61, 3) := by decide +kernel
theorem dX2_become_45 : decode cX2_become 45 = .ok (.aload_n 1, 1) := by decide +kernel
theorem dX2_become_46 : decode cX2_become 46 = .ok (.getfield 21, 3) := by decide +kernel
theorem dX2_become_49 : decode cX2_become 49 = .ok (.iconst 0, 1) := by decide +kernel
theorem dX2_become_50 : decode cX2_become 50 = .ok (.aload_n 0, 1) := by decide +kernel
theorem dX2_become_51 : decode cX2_become 51 = .ok (.getfield 21, 3) := by decide +kernel
theorem dX2_become_54 : decode cX2_become 54 = .ok (.iconst 0, 1) := by decide +kernel
theorem dX2_become_55 : decode cX2_become 55 = .ok (.bipush 6, 2) := by decide +kernel
theorem dX2_become_57 : decode cX2_become 57 = .ok (.invokestatic 61, 3) := by decide +kernel
theorem dX2_become_60 : decode cX2_become 60 = .ok (.aload_n 0, 1) := by decide +kernel
theorem dX2_become_61 : decode cX2_become 61 = .ok (.aload_n 1, 1) := by decide +kernel
theorem dX2_become_62 : decode cX2_become 62 = .ok (.getfield 24, 3) := by decide +kernel
theorem dX2_become_65 : decode cX2_become 65 = .ok (.putfield 24, 3) := by decide +kernel
theorem dX2_become_68 : decode cX2_become 68 = .ok (.aload_n 0, 1) := by decide +kernel
theorem dX2_become_69 : decode cX2_become 69 = .ok (.aload_n 1, 1) := by decide +kernel
theorem dX2_become_70 : decode cX2_become 70 = .ok (.getfield 28, 3) := by decide +kernel
theorem dX2_become_73 : decode cX2_become 73 = .ok (.putfield 28, 3) := by decide +kernel
theorem dX2_become_76 : decode cX2_become 76 = .ok (.aload_n 1, 1) := by decide +kernel
theorem dX2_become_77 : decode cX2_become 77 = .ok (.getfield 31, 3) := by decide +kernel
theorem dX2_become_80 : decode cX2_become 80 = .ok (.iconst 0, 1) := by decide +kernel
theorem dX2_become_81 : decode cX2_become 81 = .ok (.aload_n 0, 1) := by decide +kernel
theorem dX2_become_82 : decode cX2_become 82 = .ok (.getfield 31, 3) := by decide +kernel
theorem dX2_become_85 : decode cX2_become 85 = .ok (.iconst 0, 1) := by decide +kernel
theorem dX2_become_86 : decode cX2_become 86 = .ok (.bipush 8, 2) := by decide +kernel
theorem dX2_become_88 : decode cX2_become 88 = .ok (.invokestatic 61, 3) := by decide +kernel
theorem dX2_become_91 : decode cX2_become 91 = .ok (.aload_n 1, 1) := by decide +kernel
theorem dX2_become_92 : decode cX2_become 92 = .ok (.getfield 34, 3) := by decide +kernel
theorem dX2_become_95 : decode cX2_become 95 = .ok (.iconst 0, 1) := by decide +kernel
theorem dX2_become_96 : decode cX2_become 96 = .ok (.aload_n 0, 1) := by decide +kernel
theorem dX2_become_97 : decode cX2_become 97 = .ok (.getfield 34, 3) := by decide +kernel
theorem dX2_become_100 : decode cX2_become 100 = .ok (.iconst 0, 1) := by decide +kernel
theorem dX2_become_101 : decode cX2_become 101 = .ok (.bipush 8, 2) := by decide +kernel
theorem dX2_become_103 : decode cX2_become 103 = .ok (.invokestatic 61, 3) := by decide +kernel
theorem dX2_become_106 : decode cX2_become 106 = .ok (.aload_n 1, 1) := by decide +kernel
theorem dX2_become_107 : decode cX2_become 107 = .ok (.getfield 37, 3) := by decide +kernel
theorem dX2_become_110 : decode cX2_become 110 = .ok (.iconst 0, 1) := by decide +kernel
theorem dX2_become_111 : decode cX2_become 111 = .ok (.aload_n 0, 1) := by decide +kernel
theorem dX2_become_112 : decode cX2_become 112 = .ok (.getfield 37, 3) := by decide +kernel
theorem dX2_become_115 : decode cX2_become 115 = .ok (.iconst 0, 1) := by decide +kernel
theorem dX2_become_116 : decode cX2_become 116 = .ok (.bipush 8, 2) := by decide +kernel
theorem dX2_become_118 : decode cX2_become 118 = .ok (.invokestatic 61, 3) := by decide +kernel
theorem dX2_become_121 : decode cX2_become 121 = .ok (.aload_n 1, 1) := by decide +kernel
theorem dX2_become_122 : decode cX2_become 122 = .ok (.getfield 40, 3) := by decide +kernel
theorem dX2_become_125 : decode cX2_become 125 = .ok (.iconst 0, 1) := by decide +kernel
theorem dX2_become_126 : decode cX2_become 126 = .ok (.aload_n 0, 1) := by decide +kernel
theorem dX2_become_127 : decode cX2_become 127 = .ok (.getfield 40, 3) := by decide +kernel
theorem dX2_become_130 : decode cX2_become 130 = .ok (.iconst 0, 1) := by decide +kernel
theorem dX2_become_131 : decode cX2_become 131 = .ok (.bipush 8, 2) := by decide +kernel
theorem dX2_become_133 : decode cX2_become 133 = .ok (.invokestatic 61, 3) := by decide +kernel
theorem dX2_become_136 : decode cX2_become 136 = .ok (.aload_n 1, 1) := by decide +kernel
theorem dX2_become_137 : decode cX2_become 137 = .ok (.getfield 43, 3) := by decide +kernel
theorem dX2_become_140 : decode cX2_become 140 = .ok (.iconst 0, 1) := by decide +kernel
theorem dX2_become_141 : decode cX2_become 141 = .ok (.aload_n 0, 1) := by decide +kernel
theorem dX2_become_142 : decode cX2_become 142 = .ok (.getfield 43, 3) := by decide +kernel
theorem dX2_become_145 : decode cX2_become 145 = .ok (.iconst 0, 1) := by decide +kernel
theorem dX2_become_146 : decode cX2_become 146 = .ok (.bipush 8, 2) := by decide +kernel
theorem dX2_become_148 : decode cX2_become 148 = .ok (.invokestatic 61, 3) := by decide +kernel
theorem dX2_become_151 : decode cX2_become 151 = .ok (.aload_n 0, 1) := by decide +kernel
theorem dX2_become_152 : decode cX2_become 152 = .ok (.aload_n 1, 1) := by decide +kernel
theorem dX2_become_153 : decode cX2_become 153 = .ok (.getfield 46, 3) := by decide +kernel
theorem dX2_become_156 : decode cX2_become 156 = .ok (.putfield 46, 3) := by decide +kernel
theorem dX2_become_159 : decode cX2_become 159 = .ok (.aload_n 0, 1) := by decide +kernel
theorem dX2_become_160 : decode cX2_become 160 = .ok (.aload_n 1, 1) := by decide +kernel
theorem dX2_become_161 : decode cX2_become 161 = .ok (.getfield 49, 3) := by decide +kernel
theorem dX2_become_164 : decode cX2_become 164 = .ok (.putfield 49, 3) := by decide +kernel
theorem dX2_become_167 : decode cX2_become 167 = .ok (.aload_n 0, 1) := by decide +kernel
theorem dX2_become_168 : decode cX2_become 168 = .ok (.aload_n 1, 1) := by decide +kernel
theorem dX2_become_169 : decode cX2_become 169 = .ok (.getfield 52, 3) := by decide +kernel
theorem dX2_become_172 : decode cX2_become 172 = .ok (.putfield 52, 3) := by decide +kernel
theorem dX2_become_175 : decode cX2_become 175 = .ok (.aload_n 1, 1) := by decide +kernel
theorem dX2_become_176 : decode cX2_become 176 = .ok (.getfield 55, 3) := by decide +kernel
theorem dX2_become_179 : decode cX2_become 179 = .ok (.iconst 0, 1) := by decide +kernel
theorem dX2_become_180 : decode cX2_become 180 = .ok (.aload_n 0, 1) := by decide +kernel
theorem dX2_become_181 : decode cX2_become 181 = .ok (.getfield 55, 3) := by decide +kernel
theorem dX2_become_184 : decode cX2_become 184 = .ok (.iconst 0, 1) := by decide +kernel
theorem dX2_become_185 : decode cX2_become 185 = .ok (.bipush 10, 2) := by decide +kernel
theorem dX2_become_187 : decode cX2_become 187 = .ok (.invokestatic 61, 3) := by decide +kernel
theorem dX2_become_190 : decode cX2_become 190 = .ok (.return_, 1) := by decide +kernel
theorem dX2_isPerson_0 : decode cX2_isPerson 0 = .ok (.iload_n 1, 1) := by decide +kernel
theorem dX2_isPerson_1 : decode cX2_isPerson 1 = .ok (.ifCond .lt 15, 3) := by decide +kernel
theorem dX2_isPerson_4 : decode cX2_isPerson 4 = .ok (.iload_n 1, 1) := by decide +kernel
theorem dX2_isPerson_5 : decode cX2_isPerson 5 = .ok (.aload_n 0, 1) := by decide +kernel
theorem dX2_isPerson_6 : decode cX2_isPerson 6 = .ok (.getfield 28, 3) := by decide +kernel
theorem dX2_isPerson_9 : decode cX2_isPerson 9 = .ok (.if_icmp .ge 7, 3) := by decide +kernel
theorem dX2_isPerson_12 : decode cX2_isPerson 12 = .ok (.iconst 1, 1) := by decide +kernel
theorem dX2_isPerson_13 : decode cX2_isPerson 13 = .ok (.goto 4, 3) := by decide +kernel
theorem dX2_isPerson_16 : decode cX2_isPerson 16 = .ok (.iconst 0, 1) := by decide +kernel
theorem dX2_isPerson_17 : decode cX2_isPerson 17 = .ok (.ireturn, 1) := by decide +kernel
theorem dX2_add_0 : decode cX2_add 0 = .ok (.aload_n 0, 1) := by decide +kernel
theorem dX2_add_1 : decode cX2_add 1 = .ok (.getfield 28, 3) := by decide +kernel
theorem dX2_add_4 : decode cX2_add 4 = .ok (.istore_n 2, 1) := by decide +kernel
theorem dX2_add_5 : decode cX2_add 5 = .ok (.aload_n 0, 1) := by decide +kernel
theorem dX2_add_6 : decode cX2_add 6 = .ok (.getfield 31, 3) := by decide +kernel
theorem dX2_add_9 : decode cX2_add 9 = .ok (.iload_n 2, 1) := by decide +kernel
theorem dX2_add_10 : decode cX2_add 10 = .ok (.iload_n 1, 1) := by decide +kernel
theorem dX2_add_11 : decode cX2_add 11 = .ok (.iastore, 1) := by decide +kernel
theorem dX2_add_12 : decode cX2_add 12 = .ok (.aload_n 0, 1) := by decide +kernel
theorem dX2_add_13 : decode cX2_add 13 = .ok (.getfield 34, 3) := by decide +kernel
theorem dX2_add_16 : decode cX2_add 16 = .ok (.iload_n 2, 1) := by decide +kernel
theorem dX2_add_17 : decode cX2_add 17 = .ok (.iconst (-1), 1) := by decide +kernel
theorem dX2_add_18 : decode cX2_add 18 = .ok (.iastore, 1) := by decide +kernel
theorem dX2_add_19 : decode cX2_add 19 = .ok (.aload_n 0, 1) := by decide +kernel
theorem dX2_add_20 : decode cX2_add 20 = .ok (.getfield 37, 3) := by decide +kernel
theorem dX2_add_23 : decode cX2_add 23 = .ok (.iload_n 2, 1) := by decide +kernel
theorem dX2_add_24 : decode cX2_add 24 = .ok (.bipush 50, 2) := by decide +kernel
theorem dX2_add_26 : decode cX2_add 26 = .ok (.iastore, 1) := by decide +kernel
theorem dX2_add_27 : decode cX2_add 27 = .ok (.aload_n 0, 1) := by decide +kernel
theorem dX2_add_28 : decode cX2_add 28 = .ok (.getfield 40, 3) := by decide +kernel
theorem dX2_add_31 : decode cX2_add 31 = .ok (.iload_n 2, 1) := by decide +kernel
theorem dX2_add_32 : decode cX2_add 32 = .ok (.bipush 50, 2) := by decide +kernel
theorem dX2_add_34 : decode cX2_add 34 = .ok (.iastore, 1) := by decide +kernel
theorem dX2_add_35 : decode cX2_add 35 = .ok (.aload_n 0, 1) := by decide +kernel
theorem dX2_add_36 : decode cX2_add 36 = .ok (.getfield 43, 3) := by decide +kernel
theorem dX2_add_39 : decode cX2_add 39 = .ok (.iload_n 2, 1) := by decide +kernel
theorem dX2_add_40 : decode cX2_add 40 = .ok (.iconst 0, 1) := by decide +kernel
theorem dX2_add_41 : decode cX2_add 41 = .ok (.iastore, 1) := by decide +kernel
theorem dX2_add_42 : decode cX2_add 42 = .ok (.aload_n 0, 1) := by decide +kernel
theorem dX2_add_43 : decode cX2_add 43 = .ok (.dup, 1) := by decide +kernel
theorem dX2_add_44 : decode cX2_add 44 = .ok (.getfield 28, 3) := by decide +kernel
theorem dX2_add_47 : decode cX2_add 47 = .ok (.iconst 1, 1) := by decide +kernel
theorem dX2_add_48 : decode cX2_add 48 = .ok (.iadd, 1) := by decide +kernel
theorem dX2_add_49 : decode cX2_add 49 = .ok (.putfield 28, 3) := by decide +kernel
theorem dX2_add_52 : decode cX2_add 52 = .ok (.iload_n 2, 1) := by decide +kernel
theorem dX2_add_53 : decode cX2_add 53 = .ok (.ireturn, 1) := by decide +kernel
theorem dX2_sendAway_0 : decode cX2_sendAway 0 = .ok (.aload_n 0, 1) := by decide +kernel
theorem dX2_sendAway_1 : decode cX2_sendAway 1 = .ok (.iload_n 1, 1) := by decide +kernel
theorem dX2_sendAway_2 : decode cX2_sendAway 2 = .ok (.putfield 46, 3) := by decide +kernel
theorem dX2_sendAway_5 : decode cX2_sendAway 5 = .ok (.iconst 0, 1) := by decide +kernel
theorem dX2_sendAway_6 : decode cX2_sendAway 6 = .ok (.istore_n 2, 1) := by decide +kernel
theorem dX2_sendAway_7 : decode cX2_sendAway 7 = .ok (.iload_n 2, 1) := by decide +kernel
theorem dX2_sendAway_8 : decode cX2_sendAway 8 = .ok (.aload_n 0, 1) := by decide +kernel
theorem dX2_sendAway_9 : decode cX2_sendAway 9 = .ok (.getfield 28, 3) := by decide +kernel
theorem dX2_sendAway_12 : decode cX2_sendAway 12 = .ok (.if_icmp .ge 24, 3) := by decide +kernel
theorem dX2_sendAway_15 : decode cX2_sendAway 15 = .ok (.aload_n 0, 1) := by decide +kernel
theorem dX2_sendAway_16 : decode cX2_sendAway 16 = .ok (.iload_n 2, 1) := by decide +kernel
theorem dX2_sendAway_17 : decode cX2_sendAway 17 = .ok (.invokevirtual 67, 3) := by decide +kernel
theorem dX2_sendAway_20 : decode cX2_sendAway 20 = .ok (.ifCond .eq 10, 3) := by decide +kernel
theorem dX2_sendAway_23 : decode cX2_sendAway 23 = .ok (.aload_n 0, 1) := by decide +kernel
theorem dX2_sendAway_24 : decode cX2_sendAway 24 = .ok (.getfield 34, 3) := by decide +kernel
theorem dX2_sendAway_27 : decode cX2_sendAway 27 = .ok (.iload_n 2, 1) := by decide +kernel
theorem dX2_sendAway_28 : decode cX2_sendAway 28 = .ok (.iconst (-1), 1) := by decide +kernel
theorem dX2_sendAway_29 : decode cX2_sendAway 29 = .ok (.iastore, 1) := by decide +kernel
theorem dX2_sendAway_30 : decode cX2_sendAway 30 = .ok (.iinc 2 1, 3) := by decide +kernel
theorem dX2_sendAway_33 : decode cX2_sendAway 33 = .ok (.goto (-26), 3) := by decide +kernel
theorem dX2_sendAway_36 : decode cX2_sendAway 36 = .ok (.return_, 1) := by decide +kernel
theorem dX2_isGone_0 : decode cX2_isGone 0 = .ok (.aload_n 0, 1) := by decide +kernel
theorem dX2_isGone_1 : decode cX2_isGone 1 = .ok (.getfield 46, 3) := by decide +kernel
theorem dX2_isGone_4 : decode cX2_isGone 4 = .ok (.iload_n 1, 1) := by decide +kernel
theorem dX2_isGone_5 : decode cX2_isGone 5 = .ok (.ishr, 1) := by decide +kernel
theorem dX2_isGone_6 : decode cX2_isGone 6 = .ok (.iconst 1, 1) := by decide +kernel
theorem dX2_isGone_7 : decode cX2_isGone 7 = .ok (.iand, 1) := by decide +kernel
theorem dX2_isGone_8 : decode cX2_isGone 8 = .ok (.ifCond .eq 7, 3) := by decide +kernel
theorem dX2_isGone_11 : decode cX2_isGone 11 = .ok (.iconst 1, 1) := by decide +kernel
theorem dX2_isGone_12 : decode cX2_isGone 12 = .ok (.goto 4, 3) := by decide +kernel
theorem dX2_isGone_15 : decode cX2_isGone 15 = .ok (.iconst 0, 1) := by decide +kernel
theorem dX2_isGone_16 : decode cX2_isGone 16 = .ok (.ireturn, 1) := by decide +kernel
theorem dX2_valueOf_0 : decode cX2_valueOf 0 = .ok (.iload_n 2, 1) := by decide +kernel
theorem dX2_valueOf_1 : decode cX2_valueOf 1 = .ok (.tableswitch 48 1 3 #[27, 34, 41], 27) := by decide +kernel
theorem dX2_valueOf_28 : decode cX2_valueOf 28 = .ok (.aload_n 0, 1) := by decide +kernel
theorem dX2_valueOf_29 : decode cX2_valueOf 29 = .ok (.getfield 34, 3) := by decide +kernel
theorem dX2_valueOf_32 : decode cX2_valueOf 32 = .ok (.iload_n 1, 1) := by decide +kernel
theorem dX2_valueOf_33 : decode cX2_valueOf 33 = .ok (.iaload, 1) := by decide +kernel
theorem dX2_valueOf_34 : decode cX2_valueOf 34 = .ok (.ireturn, 1) := by decide +kernel
theorem dX2_valueOf_35 : decode cX2_valueOf 35 = .ok (.aload_n 0, 1) := by decide +kernel
theorem dX2_valueOf_36 : decode cX2_valueOf 36 = .ok (.getfield 37, 3) := by decide +kernel
theorem dX2_valueOf_39 : decode cX2_valueOf 39 = .ok (.iload_n 1, 1) := by decide +kernel
theorem dX2_valueOf_40 : decode cX2_valueOf 40 = .ok (.iaload, 1) := by decide +kernel
theorem dX2_valueOf_41 : decode cX2_valueOf 41 = .ok (.ireturn, 1) := by decide +kernel
theorem dX2_valueOf_42 : decode cX2_valueOf 42 = .ok (.aload_n 0, 1) := by decide +kernel
theorem dX2_valueOf_43 : decode cX2_valueOf 43 = .ok (.getfield 40, 3) := by decide +kernel
theorem dX2_valueOf_46 : decode cX2_valueOf 46 = .ok (.iload_n 1, 1) := by decide +kernel
theorem dX2_valueOf_47 : decode cX2_valueOf 47 = .ok (.iaload, 1) := by decide +kernel
theorem dX2_valueOf_48 : decode cX2_valueOf 48 = .ok (.ireturn, 1) := by decide +kernel
theorem dX2_valueOf_49 : decode cX2_valueOf 49 = .ok (.aload_n 0, 1) := by decide +kernel
theorem dX2_valueOf_50 : decode cX2_valueOf 50 = .ok (.getfield 43, 3) := by decide +kernel
theorem dX2_valueOf_53 : decode cX2_valueOf 53 = .ok (.iload_n 1, 1) := by decide +kernel
theorem dX2_valueOf_54 : decode cX2_valueOf 54 = .ok (.iaload, 1) := by decide +kernel
theorem dX2_valueOf_55 : decode cX2_valueOf 55 = .ok (.ireturn, 1) := by decide +kernel
theorem dX2_thoseOn_0 : decode cX2_thoseOn 0 = .ok (.iconst 0, 1) := by decide +kernel
theorem dX2_thoseOn_1 : decode cX2_thoseOn 1 = .ok (.istore_n 2, 1) := by decide +kernel
theorem dX2_thoseOn_2 : decode cX2_thoseOn 2 = .ok (.iconst 0, 1) := by decide +kernel
theorem dX2_thoseOn_3 : decode cX2_thoseOn 3 = .ok (.istore_n 3, 1) := by decide +kernel
theorem dX2_thoseOn_4 : decode cX2_thoseOn 4 = .ok (.iload_n 3, 1) := by decide +kernel
theorem dX2_thoseOn_5 : decode cX2_thoseOn 5 = .ok (.aload_n 0, 1) := by decide +kernel
theorem dX2_thoseOn_6 : decode cX2_thoseOn 6 = .ok (.getfield 28, 3) := by decide +kernel
theorem dX2_thoseOn_9 : decode cX2_thoseOn 9 = .ok (.if_icmp .ge 25, 3) := by decide +kernel
theorem dX2_thoseOn_12 : decode cX2_thoseOn 12 = .ok (.aload_n 0, 1) := by decide +kernel
theorem dX2_thoseOn_13 : decode cX2_thoseOn 13 = .ok (.getfield 34, 3) := by decide +kernel
theorem dX2_thoseOn_16 : decode cX2_thoseOn 16 = .ok (.iload_n 3, 1) := by decide +kernel
theorem dX2_thoseOn_17 : decode cX2_thoseOn 17 = .ok (.iaload, 1) := by decide +kernel
theorem dX2_thoseOn_18 : decode cX2_thoseOn 18 = .ok (.iload_n 1, 1) := by decide +kernel
theorem dX2_thoseOn_19 : decode cX2_thoseOn 19 = .ok (.if_icmp .ne 9, 3) := by decide +kernel
theorem dX2_thoseOn_22 : decode cX2_thoseOn 22 = .ok (.iload_n 2, 1) := by decide +kernel
theorem dX2_thoseOn_23 : decode cX2_thoseOn 23 = .ok (.iconst 1, 1) := by decide +kernel
theorem dX2_thoseOn_24 : decode cX2_thoseOn 24 = .ok (.iload_n 3, 1) := by decide +kernel
theorem dX2_thoseOn_25 : decode cX2_thoseOn 25 = .ok (.ishl, 1) := by decide +kernel
theorem dX2_thoseOn_26 : decode cX2_thoseOn 26 = .ok (.ior, 1) := by decide +kernel
theorem dX2_thoseOn_27 : decode cX2_thoseOn 27 = .ok (.istore_n 2, 1) := by decide +kernel
theorem dX2_thoseOn_28 : decode cX2_thoseOn 28 = .ok (.iinc 3 1, 3) := by decide +kernel
theorem dX2_thoseOn_31 : decode cX2_thoseOn 31 = .ok (.goto (-27), 3) := by decide +kernel
theorem dX2_thoseOn_34 : decode cX2_thoseOn 34 = .ok (.iload_n 2, 1) := by decide +kernel
theorem dX2_thoseOn_35 : decode cX2_thoseOn 35 = .ok (.ireturn, 1) := by decide +kernel
theorem dX2_thoseOnLots_0 : decode cX2_thoseOnLots 0 = .ok (.iconst 0, 1) := by decide +kernel
theorem dX2_thoseOnLots_1 : decode cX2_thoseOnLots 1 = .ok (.istore_n 1, 1) := by decide +kernel
theorem dX2_thoseOnLots_2 : decode cX2_thoseOnLots 2 = .ok (.iconst 0, 1) := by decide +kernel
theorem dX2_thoseOnLots_3 : decode cX2_thoseOnLots 3 = .ok (.istore_n 2, 1) := by decide +kernel
theorem dX2_thoseOnLots_4 : decode cX2_thoseOnLots 4 = .ok (.iload_n 2, 1) := by decide +kernel
theorem dX2_thoseOnLots_5 : decode cX2_thoseOnLots 5 = .ok (.aload_n 0, 1) := by decide +kernel
theorem dX2_thoseOnLots_6 : decode cX2_thoseOnLots 6 = .ok (.getfield 28, 3) := by decide +kernel
theorem dX2_thoseOnLots_9 : decode cX2_thoseOnLots 9 = .ok (.if_icmp .ge 25, 3) := by decide +kernel
theorem dX2_thoseOnLots_12 : decode cX2_thoseOnLots 12 = .ok (.aload_n 0, 1) := by decide +kernel
theorem dX2_thoseOnLots_13 : decode cX2_thoseOnLots 13 = .ok (.getfield 34, 3) := by decide +kernel
theorem dX2_thoseOnLots_16 : decode cX2_thoseOnLots 16 = .ok (.iload_n 2, 1) := by decide +kernel
theorem dX2_thoseOnLots_17 : decode cX2_thoseOnLots 17 = .ok (.iaload, 1) := by decide +kernel
theorem dX2_thoseOnLots_18 : decode cX2_thoseOnLots 18 = .ok (.iconst (-1), 1) := by decide +kernel
theorem dX2_thoseOnLots_19 : decode cX2_thoseOnLots 19 = .ok (.if_icmp .eq 9, 3) := by decide +kernel
theorem dX2_thoseOnLots_22 : decode cX2_thoseOnLots 22 = .ok (.iload_n 1, 1) := by decide +kernel
theorem dX2_thoseOnLots_23 : decode cX2_thoseOnLots 23 = .ok (.iconst 1, 1) := by decide +kernel
theorem dX2_thoseOnLots_24 : decode cX2_thoseOnLots 24 = .ok (.iload_n 2, 1) := by decide +kernel
theorem dX2_thoseOnLots_25 : decode cX2_thoseOnLots 25 = .ok (.ishl, 1) := by decide +kernel
theorem dX2_thoseOnLots_26 : decode cX2_thoseOnLots 26 = .ok (.ior, 1) := by decide +kernel
theorem dX2_thoseOnLots_27 : decode cX2_thoseOnLots 27 = .ok (.istore_n 1, 1) := by decide +kernel
theorem dX2_thoseOnLots_28 : decode cX2_thoseOnLots 28 = .ok (.iinc 2 1, 3) := by decide +kernel
theorem dX2_thoseOnLots_31 : decode cX2_thoseOnLots 31 = .ok (.goto (-27), 3) := by decide +kernel
theorem dX2_thoseOnLots_34 : decode cX2_thoseOnLots 34 = .ok (.iload_n 1, 1) := by decide +kernel
theorem dX2_thoseOnLots_35 : decode cX2_thoseOnLots 35 = .ok (.ireturn, 1) := by decide +kernel
theorem dX2_thoseStanding_0 : decode cX2_thoseStanding 0 = .ok (.iconst 0, 1) := by decide +kernel
theorem dX2_thoseStanding_1 : decode cX2_thoseStanding 1 = .ok (.istore_n 2, 1) := by decide +kernel
theorem dX2_thoseStanding_2 : decode cX2_thoseStanding 2 = .ok (.iconst 0, 1) := by decide +kernel
theorem dX2_thoseStanding_3 : decode cX2_thoseStanding 3 = .ok (.istore_n 3, 1) := by decide +kernel
theorem dX2_thoseStanding_4 : decode cX2_thoseStanding 4 = .ok (.iload_n 3, 1) := by decide +kernel
theorem dX2_thoseStanding_5 : decode cX2_thoseStanding 5 = .ok (.aload_n 0, 1) := by decide +kernel
theorem dX2_thoseStanding_6 : decode cX2_thoseStanding 6 = .ok (.getfield 28, 3) := by decide +kernel
theorem dX2_thoseStanding_9 : decode cX2_thoseStanding 9 = .ok (.if_icmp .ge 24, 3) := by decide +kernel
theorem dX2_thoseStanding_12 : decode cX2_thoseStanding 12 = .ok (.aload_n 0, 1) := by decide +kernel
theorem dX2_thoseStanding_13 : decode cX2_thoseStanding 13 = .ok (.iload_n 3, 1) := by decide +kernel
theorem dX2_thoseStanding_14 : decode cX2_thoseStanding 14 = .ok (.iload_n 1, 1) := by decide +kernel
theorem dX2_thoseStanding_15 : decode cX2_thoseStanding 15 = .ok (.invokevirtual 71, 3) := by decide +kernel
theorem dX2_thoseStanding_18 : decode cX2_thoseStanding 18 = .ok (.ifCond .eq 9, 3) := by decide +kernel
theorem dX2_thoseStanding_21 : decode cX2_thoseStanding 21 = .ok (.iload_n 2, 1) := by decide +kernel
theorem dX2_thoseStanding_22 : decode cX2_thoseStanding 22 = .ok (.iconst 1, 1) := by decide +kernel
theorem dX2_thoseStanding_23 : decode cX2_thoseStanding 23 = .ok (.iload_n 3, 1) := by decide +kernel
theorem dX2_thoseStanding_24 : decode cX2_thoseStanding 24 = .ok (.ishl, 1) := by decide +kernel
theorem dX2_thoseStanding_25 : decode cX2_thoseStanding 25 = .ok (.ior, 1) := by decide +kernel
theorem dX2_thoseStanding_26 : decode cX2_thoseStanding 26 = .ok (.istore_n 2, 1) := by decide +kernel
theorem dX2_thoseStanding_27 : decode cX2_thoseStanding 27 = .ok (.iinc 3 1, 3) := by decide +kernel
theorem dX2_thoseStanding_30 : decode cX2_thoseStanding 30 = .ok (.goto (-26), 3) := by decide +kernel
theorem dX2_thoseStanding_33 : decode cX2_thoseStanding 33 = .ok (.iload_n 2, 1) := by decide +kernel
theorem dX2_thoseStanding_34 : decode cX2_thoseStanding 34 = .ok (.ireturn, 1) := by decide +kernel
theorem dX2_lotsOwnedBy_0 : decode cX2_lotsOwnedBy 0 = .ok (.iconst 0, 1) := by decide +kernel
theorem dX2_lotsOwnedBy_1 : decode cX2_lotsOwnedBy 1 = .ok (.istore_n 2, 1) := by decide +kernel
theorem dX2_lotsOwnedBy_2 : decode cX2_lotsOwnedBy 2 = .ok (.iconst 0, 1) := by decide +kernel
theorem dX2_lotsOwnedBy_3 : decode cX2_lotsOwnedBy 3 = .ok (.istore_n 3, 1) := by decide +kernel
theorem dX2_lotsOwnedBy_4 : decode cX2_lotsOwnedBy 4 = .ok (.iload_n 3, 1) := by decide +kernel
theorem dX2_lotsOwnedBy_5 : decode cX2_lotsOwnedBy 5 = .ok (.bipush 10, 2) := by decide +kernel
theorem dX2_lotsOwnedBy_7 : decode cX2_lotsOwnedBy 7 = .ok (.if_icmp .ge 25, 3) := by decide +kernel
theorem dX2_lotsOwnedBy_10 : decode cX2_lotsOwnedBy 10 = .ok (.aload_n 0, 1) := by decide +kernel
theorem dX2_lotsOwnedBy_11 : decode cX2_lotsOwnedBy 11 = .ok (.getfield 18, 3) := by decide +kernel
theorem dX2_lotsOwnedBy_14 : decode cX2_lotsOwnedBy 14 = .ok (.iload_n 3, 1) := by decide +kernel
theorem dX2_lotsOwnedBy_15 : decode cX2_lotsOwnedBy 15 = .ok (.iaload, 1) := by decide +kernel
theorem dX2_lotsOwnedBy_16 : decode cX2_lotsOwnedBy 16 = .ok (.iload_n 1, 1) := by decide +kernel
theorem dX2_lotsOwnedBy_17 : decode cX2_lotsOwnedBy 17 = .ok (.if_icmp .ne 9, 3) := by decide +kernel
theorem dX2_lotsOwnedBy_20 : decode cX2_lotsOwnedBy 20 = .ok (.iload_n 2, 1) := by decide +kernel
theorem dX2_lotsOwnedBy_21 : decode cX2_lotsOwnedBy 21 = .ok (.iconst 1, 1) := by decide +kernel
theorem dX2_lotsOwnedBy_22 : decode cX2_lotsOwnedBy 22 = .ok (.iload_n 3, 1) := by decide +kernel
theorem dX2_lotsOwnedBy_23 : decode cX2_lotsOwnedBy 23 = .ok (.ishl, 1) := by decide +kernel
theorem dX2_lotsOwnedBy_24 : decode cX2_lotsOwnedBy 24 = .ok (.ior, 1) := by decide +kernel
theorem dX2_lotsOwnedBy_25 : decode cX2_lotsOwnedBy 25 = .ok (.istore_n 2, 1) := by decide +kernel
theorem dX2_lotsOwnedBy_26 : decode cX2_lotsOwnedBy 26 = .ok (.iinc 3 1, 3) := by decide +kernel
theorem dX2_lotsOwnedBy_29 : decode cX2_lotsOwnedBy 29 = .ok (.goto (-25), 3) := by decide +kernel
theorem dX2_lotsOwnedBy_32 : decode cX2_lotsOwnedBy 32 = .ok (.iload_n 2, 1) := by decide +kernel
theorem dX2_lotsOwnedBy_33 : decode cX2_lotsOwnedBy 33 = .ok (.ireturn, 1) := by decide +kernel
theorem dX2_spotsHeld_0 : decode cX2_spotsHeld 0 = .ok (.iconst 0, 1) := by decide +kernel
theorem dX2_spotsHeld_1 : decode cX2_spotsHeld 1 = .ok (.istore_n 1, 1) := by decide +kernel
theorem dX2_spotsHeld_2 : decode cX2_spotsHeld 2 = .ok (.iconst 0, 1) := by decide +kernel
theorem dX2_spotsHeld_3 : decode cX2_spotsHeld 3 = .ok (.istore_n 2, 1) := by decide +kernel
theorem dX2_spotsHeld_4 : decode cX2_spotsHeld 4 = .ok (.iload_n 2, 1) := by decide +kernel
theorem dX2_spotsHeld_5 : decode cX2_spotsHeld 5 = .ok (.bipush 10, 2) := by decide +kernel
theorem dX2_spotsHeld_7 : decode cX2_spotsHeld 7 = .ok (.if_icmp .ge 22, 3) := by decide +kernel
theorem dX2_spotsHeld_10 : decode cX2_spotsHeld 10 = .ok (.aload_n 0, 1) := by decide +kernel
theorem dX2_spotsHeld_11 : decode cX2_spotsHeld 11 = .ok (.getfield 55, 3) := by decide +kernel
theorem dX2_spotsHeld_14 : decode cX2_spotsHeld 14 = .ok (.iload_n 2, 1) := by decide +kernel
theorem dX2_spotsHeld_15 : decode cX2_spotsHeld 15 = .ok (.iaload, 1) := by decide +kernel
theorem dX2_spotsHeld_16 : decode cX2_spotsHeld 16 = .ok (.iconst (-1), 1) := by decide +kernel
theorem dX2_spotsHeld_17 : decode cX2_spotsHeld 17 = .ok (.if_icmp .eq 6, 3) := by decide +kernel
theorem dX2_spotsHeld_20 : decode cX2_spotsHeld 20 = .ok (.iinc 1 1, 3) := by decide +kernel
theorem dX2_spotsHeld_23 : decode cX2_spotsHeld 23 = .ok (.iinc 2 1, 3) := by decide +kernel
theorem dX2_spotsHeld_26 : decode cX2_spotsHeld 26 = .ok (.goto (-22), 3) := by decide +kernel
theorem dX2_spotsHeld_29 : decode cX2_spotsHeld 29 = .ok (.iload_n 1, 1) := by decide +kernel
theorem dX2_spotsHeld_30 : decode cX2_spotsHeld 30 = .ok (.ireturn, 1) := by decide +kernel
theorem dX2_draw_0 : decode cX2_draw 0 = .ok (.aload_n 0, 1) := by decide +kernel
theorem dX2_draw_1 : decode cX2_draw 1 = .ok (.aload_n 0, 1) := by decide +kernel
theorem dX2_draw_2 : decode cX2_draw 2 = .ok (.getfield 52, 3) := by decide +kernel
theorem dX2_draw_5 : decode cX2_draw 5 = .ok (.ldc 75, 2) := by decide +kernel
theorem dX2_draw_7 : decode cX2_draw 7 = .ok (.imul, 1) := by decide +kernel
theorem dX2_draw_8 : decode cX2_draw 8 = .ok (.sipush 12345, 3) := by decide +kernel
theorem dX2_draw_11 : decode cX2_draw 11 = .ok (.iadd, 1) := by decide +kernel
theorem dX2_draw_12 : decode cX2_draw 12 = .ok (.putfield 52, 3) := by decide +kernel
theorem dX2_draw_15 : decode cX2_draw 15 = .ok (.aload_n 0, 1) := by decide +kernel
theorem dX2_draw_16 : decode cX2_draw 16 = .ok (.getfield 52, 3) := by decide +kernel
theorem dX2_draw_19 : decode cX2_draw 19 = .ok (.bipush 8, 2) := by decide +kernel
theorem dX2_draw_21 : decode cX2_draw 21 = .ok (.iushr, 1) := by decide +kernel
theorem dX2_draw_22 : decode cX2_draw 22 = .ok (.ireturn, 1) := by decide +kernel
theorem dX2_trustOf_0 : decode cX2_trustOf 0 = .ok (.aload_n 0, 1) := by decide +kernel
theorem dX2_trustOf_1 : decode cX2_trustOf 1 = .ok (.getfield 37, 3) := by decide +kernel
theorem dX2_trustOf_4 : decode cX2_trustOf 4 = .ok (.iload_n 1, 1) := by decide +kernel
theorem dX2_trustOf_5 : decode cX2_trustOf 5 = .ok (.iaload, 1) := by decide +kernel
theorem dX2_trustOf_6 : decode cX2_trustOf 6 = .ok (.iconst 2, 1) := by decide +kernel
theorem dX2_trustOf_7 : decode cX2_trustOf 7 = .ok (.idiv, 1) := by decide +kernel
theorem dX2_trustOf_8 : decode cX2_trustOf 8 = .ok (.istore_n 3, 1) := by decide +kernel
theorem dX2_trustOf_9 : decode cX2_trustOf 9 = .ok (.iload_n 3, 1) := by decide +kernel
theorem dX2_trustOf_10 : decode cX2_trustOf 10 = .ok (.bipush 10, 2) := by decide +kernel
theorem dX2_trustOf_12 : decode cX2_trustOf 12 = .ok (.if_icmp .le 10, 3) := by decide +kernel
theorem dX2_trustOf_15 : decode cX2_trustOf 15 = .ok (.iload_n 3, 1) := by decide +kernel
theorem dX2_trustOf_16 : decode cX2_trustOf 16 = .ok (.bipush 10, 2) := by decide +kernel
theorem dX2_trustOf_18 : decode cX2_trustOf 18 = .ok (.isub, 1) := by decide +kernel
theorem dX2_trustOf_19 : decode cX2_trustOf 19 = .ok (.goto 4, 3) := by decide +kernel
theorem dX2_trustOf_22 : decode cX2_trustOf 22 = .ok (.iconst 0, 1) := by decide +kernel
theorem dX2_trustOf_23 : decode cX2_trustOf 23 = .ok (.istore 4, 2) := by decide +kernel
theorem dX2_trustOf_25 : decode cX2_trustOf 25 = .ok (.aload_n 0, 1) := by decide +kernel
theorem dX2_trustOf_26 : decode cX2_trustOf 26 = .ok (.getfield 31, 3) := by decide +kernel
theorem dX2_trustOf_29 : decode cX2_trustOf 29 = .ok (.iload_n 1, 1) := by decide +kernel
theorem dX2_trustOf_30 : decode cX2_trustOf 30 = .ok (.iaload, 1) := by decide +kernel
theorem dX2_trustOf_31 : decode cX2_trustOf 31 = .ok (.tableswitch 129 1 6 #[37, 42, 45, 66, 69, 71], 37) := by decide +kernel
theorem dX2_trustOf_68 : decode cX2_trustOf 68 = .ok (.iload_n 3, 1) := by decide +kernel
theorem dX2_trustOf_69 : decode cX2_trustOf 69 = .ok (.bipush 20, 2) := by decide +kernel
theorem dX2_trustOf_71 : decode cX2_trustOf 71 = .ok (.iadd, 1) := by decide +kernel
theorem dX2_trustOf_72 : decode cX2_trustOf 72 = .ok (.ireturn, 1) := by decide +kernel
theorem dX2_trustOf_73 : decode cX2_trustOf 73 = .ok (.iload 4, 2) := by decide +kernel
theorem dX2_trustOf_75 : decode cX2_trustOf 75 = .ok (.ireturn, 1) := by decide +kernel
theorem dX2_trustOf_76 : decode cX2_trustOf 76 = .ok (.aload_n 0, 1) := by decide +kernel
theorem dX2_trustOf_77 : decode cX2_trustOf 77 = .ok (.getfield 18, 3) := by decide +kernel
theorem dX2_trustOf_80 : decode cX2_trustOf 80 = .ok (.iload_n 2, 1) := by decide +kernel
theorem dX2_trustOf_81 : decode cX2_trustOf 81 = .ok (.iaload, 1) := by decide +kernel
theorem dX2_trustOf_82 : decode cX2_trustOf 82 = .ok (.iload_n 1, 1) := by decide +kernel
theorem dX2_trustOf_83 : decode cX2_trustOf 83 = .ok (.if_icmp .ne 11, 3) := by decide +kernel
theorem dX2_trustOf_86 : decode cX2_trustOf 86 = .ok (.iload 4, 2) := by decide +kernel
theorem dX2_trustOf_88 : decode cX2_trustOf 88 = .ok (.bipush 30, 2) := by decide +kernel
theorem dX2_trustOf_90 : decode cX2_trustOf 90 = .ok (.iadd, 1) := by decide +kernel
theorem dX2_trustOf_91 : decode cX2_trustOf 91 = .ok (.goto 5, 3) := by decide +kernel
theorem dX2_trustOf_94 : decode cX2_trustOf 94 = .ok (.iload 4, 2) := by decide +kernel
theorem dX2_trustOf_96 : decode cX2_trustOf 96 = .ok (.ireturn, 1) := by decide +kernel
theorem dX2_trustOf_97 : decode cX2_trustOf 97 = .ok (.bipush 60, 2) := by decide +kernel
theorem dX2_trustOf_99 : decode cX2_trustOf 99 = .ok (.ireturn, 1) := by decide +kernel
theorem dX2_trustOf_100 : decode cX2_trustOf 100 = .ok (.iconst 0, 1) := by decide +kernel
theorem dX2_trustOf_101 : decode cX2_trustOf 101 = .ok (.ireturn, 1) := by decide +kernel
theorem dX2_trustOf_102 : decode cX2_trustOf 102 = .ok (.iconst 0, 1) := by decide +kernel
theorem dX2_trustOf_103 : decode cX2_trustOf 103 = .ok (.istore 5, 2) := by decide +kernel
theorem dX2_trustOf_105 : decode cX2_trustOf 105 = .ok (.iconst 0, 1) := by decide +kernel
theorem dX2_trustOf_106 : decode cX2_trustOf 106 = .ok (.istore 6, 2) := by decide +kernel
theorem dX2_trustOf_108 : decode cX2_trustOf 108 = .ok (.iload 6, 2) := by decide +kernel
theorem dX2_trustOf_110 : decode cX2_trustOf 110 = .ok (.aload_n 0, 1) := by decide +kernel
theorem dX2_trustOf_111 : decode cX2_trustOf 111 = .ok (.getfield 28, 3) := by decide +kernel
theorem dX2_trustOf_114 : decode cX2_trustOf 114 = .ok (.if_icmp .ge 36, 3) := by decide +kernel
theorem dX2_trustOf_117 : decode cX2_trustOf 117 = .ok (.iload 5, 2) := by decide +kernel
theorem dX2_trustOf_119 : decode cX2_trustOf 119 = .ok (.iload 6, 2) := by decide +kernel
theorem dX2_trustOf_121 : decode cX2_trustOf 121 = .ok (.iload_n 1, 1) := by decide +kernel
theorem dX2_trustOf_122 : decode cX2_trustOf 122 = .ok (.if_icmp .eq 18, 3) := by decide +kernel
theorem dX2_trustOf_125 : decode cX2_trustOf 125 = .ok (.aload_n 0, 1) := by decide +kernel
theorem dX2_trustOf_126 : decode cX2_trustOf 126 = .ok (.getfield 34, 3) := by decide +kernel
theorem dX2_trustOf_129 : decode cX2_trustOf 129 = .ok (.iload 6, 2) := by decide +kernel
theorem dX2_trustOf_131 : decode cX2_trustOf 131 = .ok (.iaload, 1) := by decide +kernel
theorem dX2_trustOf_132 : decode cX2_trustOf 132 = .ok (.iload_n 2, 1) := by decide +kernel
theorem dX2_trustOf_133 : decode cX2_trustOf 133 = .ok (.if_icmp .ne 7, 3) := by decide +kernel
theorem dX2_trustOf_136 : decode cX2_trustOf 136 = .ok (.iconst 1, 1) := by decide +kernel
theorem dX2_trustOf_137 : decode cX2_trustOf 137 = .ok (.goto 4, 3) := by decide +kernel
theorem dX2_trustOf_140 : decode cX2_trustOf 140 = .ok (.iconst 0, 1) := by decide +kernel
theorem dX2_trustOf_141 : decode cX2_trustOf 141 = .ok (.iadd, 1) := by decide +kernel
theorem dX2_trustOf_142 : decode cX2_trustOf 142 = .ok (.istore 5, 2) := by decide +kernel
theorem dX2_trustOf_144 : decode cX2_trustOf 144 = .ok (.iinc 6 1, 3) := by decide +kernel
theorem dX2_trustOf_147 : decode cX2_trustOf 147 = .ok (.goto (-39), 3) := by decide +kernel
theorem dX2_trustOf_150 : decode cX2_trustOf 150 = .ok (.iload_n 3, 1) := by decide +kernel
theorem dX2_trustOf_151 : decode cX2_trustOf 151 = .ok (.bipush 20, 2) := by decide +kernel
theorem dX2_trustOf_153 : decode cX2_trustOf 153 = .ok (.iadd, 1) := by decide +kernel
theorem dX2_trustOf_154 : decode cX2_trustOf 154 = .ok (.iconst 2, 1) := by decide +kernel
theorem dX2_trustOf_155 : decode cX2_trustOf 155 = .ok (.iload 5, 2) := by decide +kernel
theorem dX2_trustOf_157 : decode cX2_trustOf 157 = .ok (.imul, 1) := by decide +kernel
theorem dX2_trustOf_158 : decode cX2_trustOf 158 = .ok (.iadd, 1) := by decide +kernel
theorem dX2_trustOf_159 : decode cX2_trustOf 159 = .ok (.ireturn, 1) := by decide +kernel
theorem dX2_trustOf_160 : decode cX2_trustOf 160 = .ok (.iload_n 3, 1) := by decide +kernel
theorem dX2_trustOf_161 : decode cX2_trustOf 161 = .ok (.ireturn, 1) := by decide +kernel
theorem dX2_stands_0 : decode cX2_stands 0 = .ok (.aload_n 0, 1) := by decide +kernel
theorem dX2_stands_1 : decode cX2_stands 1 = .ok (.getfield 9, 3) := by decide +kernel
theorem dX2_stands_4 : decode cX2_stands 4 = .ok (.iload_n 2, 1) := by decide +kernel
theorem dX2_stands_5 : decode cX2_stands 5 = .ok (.iaload, 1) := by decide +kernel
theorem dX2_stands_6 : decode cX2_stands 6 = .ok (.aload_n 0, 1) := by decide +kernel
theorem dX2_stands_7 : decode cX2_stands 7 = .ok (.iload_n 1, 1) := by decide +kernel
theorem dX2_stands_8 : decode cX2_stands 8 = .ok (.iload_n 2, 1) := by decide +kernel
theorem dX2_stands_9 : decode cX2_stands 9 = .ok (.invokevirtual 76, 3) := by decide +kernel
theorem dX2_stands_12 : decode cX2_stands 12 = .ok (.iadd, 1) := by decide +kernel
theorem dX2_stands_13 : decode cX2_stands 13 = .ok (.bipush 60, 2) := by decide +kernel
theorem dX2_stands_15 : decode cX2_stands 15 = .ok (.if_icmp .lt 7, 3) := by decide +kernel
theorem dX2_stands_18 : decode cX2_stands 18 = .ok (.iconst 1, 1) := by decide +kernel
theorem dX2_stands_19 : decode cX2_stands 19 = .ok (.goto 4, 3) := by decide +kernel
theorem dX2_stands_22 : decode cX2_stands 22 = .ok (.iconst 0, 1) := by decide +kernel
theorem dX2_stands_23 : decode cX2_stands 23 = .ok (.ireturn, 1) := by decide +kernel
theorem dX2_lotMadeFor_0 : decode cX2_lotMadeFor 0 = .ok (.iconst (-1), 1) := by decide +kernel
theorem dX2_lotMadeFor_1 : decode cX2_lotMadeFor 1 = .ok (.istore_n 2, 1) := by decide +kernel
theorem dX2_lotMadeFor_2 : decode cX2_lotMadeFor 2 = .ok (.iconst 0, 1) := by decide +kernel
theorem dX2_lotMadeFor_3 : decode cX2_lotMadeFor 3 = .ok (.istore_n 3, 1) := by decide +kernel
theorem dX2_lotMadeFor_4 : decode cX2_lotMadeFor 4 = .ok (.iload_n 3, 1) := by decide +kernel
theorem dX2_lotMadeFor_5 : decode cX2_lotMadeFor 5 = .ok (.bipush 10, 2) := by decide +kernel
theorem dX2_lotMadeFor_7 : decode cX2_lotMadeFor 7 = .ok (.if_icmp .ge 39, 3) := by decide +kernel
theorem dX2_lotMadeFor_10 : decode cX2_lotMadeFor 10 = .ok (.aload_n 0, 1) := by decide +kernel
theorem dX2_lotMadeFor_11 : decode cX2_lotMadeFor 11 = .ok (.iload_n 1, 1) := by decide +kernel
theorem dX2_lotMadeFor_12 : decode cX2_lotMadeFor 12 = .ok (.iload_n 3, 1) := by decide +kernel
theorem dX2_lotMadeFor_13 : decode cX2_lotMadeFor 13 = .ok (.invokevirtual 71, 3) := by decide +kernel
theorem dX2_lotMadeFor_16 : decode cX2_lotMadeFor 16 = .ok (.ifCond .eq 24, 3) := by decide +kernel
theorem dX2_lotMadeFor_19 : decode cX2_lotMadeFor 19 = .ok (.iload_n 2, 1) := by decide +kernel
theorem dX2_lotMadeFor_20 : decode cX2_lotMadeFor 20 = .ok (.ifCond .lt 18, 3) := by decide +kernel
theorem dX2_lotMadeFor_23 : decode cX2_lotMadeFor 23 = .ok (.aload_n 0, 1) := by decide +kernel
theorem dX2_lotMadeFor_24 : decode cX2_lotMadeFor 24 = .ok (.aload_n 0, 1) := by decide +kernel
theorem dX2_lotMadeFor_25 : decode cX2_lotMadeFor 25 = .ok (.getfield 31, 3) := by decide +kernel
theorem dX2_lotMadeFor_28 : decode cX2_lotMadeFor 28 = .ok (.iload_n 1, 1) := by decide +kernel
theorem dX2_lotMadeFor_29 : decode cX2_lotMadeFor 29 = .ok (.iaload, 1) := by decide +kernel
theorem dX2_lotMadeFor_30 : decode cX2_lotMadeFor 30 = .ok (.iload_n 3, 1) := by decide +kernel
theorem dX2_lotMadeFor_31 : decode cX2_lotMadeFor 31 = .ok (.iload_n 2, 1) := by decide +kernel
theorem dX2_lotMadeFor_32 : decode cX2_lotMadeFor 32 = .ok (.invokevirtual 80, 3) := by decide +kernel
theorem dX2_lotMadeFor_35 : decode cX2_lotMadeFor 35 = .ok (.ifCond .eq 5, 3) := by decide +kernel
theorem dX2_lotMadeFor_38 : decode cX2_lotMadeFor 38 = .ok (.iload_n 3, 1) := by decide +kernel
theorem dX2_lotMadeFor_39 : decode cX2_lotMadeFor 39 = .ok (.istore_n 2, 1) := by decide +kernel
theorem dX2_lotMadeFor_40 : decode cX2_lotMadeFor 40 = .ok (.iinc 3 1, 3) := by decide +kernel
theorem dX2_lotMadeFor_43 : decode cX2_lotMadeFor 43 = .ok (.goto (-39), 3) := by decide +kernel
theorem dX2_lotMadeFor_46 : decode cX2_lotMadeFor 46 = .ok (.iload_n 2, 1) := by decide +kernel
theorem dX2_lotMadeFor_47 : decode cX2_lotMadeFor 47 = .ok (.ireturn, 1) := by decide +kernel
theorem dX2_prefers_0 : decode cX2_prefers 0 = .ok (.iload_n 1, 1) := by decide +kernel
theorem dX2_prefers_1 : decode cX2_prefers 1 = .ok (.tableswitch 58 2 6 #[37, 37, 37, 58, 35], 35) := by decide +kernel
theorem dX2_prefers_36 : decode cX2_prefers 36 = .ok (.iconst 0, 1) := by decide +kernel
theorem dX2_prefers_37 : decode cX2_prefers 37 = .ok (.ireturn, 1) := by decide +kernel
theorem dX2_prefers_38 : decode cX2_prefers 38 = .ok (.aload_n 0, 1) := by decide +kernel
theorem dX2_prefers_39 : decode cX2_prefers 39 = .ok (.getfield 15, 3) := by decide +kernel
theorem dX2_prefers_42 : decode cX2_prefers 42 = .ok (.iload_n 2, 1) := by decide +kernel
theorem dX2_prefers_43 : decode cX2_prefers 43 = .ok (.iaload, 1) := by decide +kernel
theorem dX2_prefers_44 : decode cX2_prefers 44 = .ok (.aload_n 0, 1) := by decide +kernel
theorem dX2_prefers_45 : decode cX2_prefers 45 = .ok (.getfield 15, 3) := by decide +kernel
theorem dX2_prefers_48 : decode cX2_prefers 48 = .ok (.iload_n 3, 1) := by decide +kernel
theorem dX2_prefers_49 : decode cX2_prefers 49 = .ok (.iaload, 1) := by decide +kernel
theorem dX2_prefers_50 : decode cX2_prefers 50 = .ok (.if_icmp .ge 7, 3) := by decide +kernel
theorem dX2_prefers_53 : decode cX2_prefers 53 = .ok (.iconst 1, 1) := by decide +kernel
theorem dX2_prefers_54 : decode cX2_prefers 54 = .ok (.goto 4, 3) := by decide +kernel
theorem dX2_prefers_57 : decode cX2_prefers 57 = .ok (.iconst 0, 1) := by decide +kernel
theorem dX2_prefers_58 : decode cX2_prefers 58 = .ok (.ireturn, 1) := by decide +kernel
theorem dX2_prefers_59 : decode cX2_prefers 59 = .ok (.aload_n 0, 1) := by decide +kernel
theorem dX2_prefers_60 : decode cX2_prefers 60 = .ok (.getfield 9, 3) := by decide +kernel
theorem dX2_prefers_63 : decode cX2_prefers 63 = .ok (.iload_n 2, 1) := by decide +kernel
theorem dX2_prefers_64 : decode cX2_prefers 64 = .ok (.iaload, 1) := by decide +kernel
theorem dX2_prefers_65 : decode cX2_prefers 65 = .ok (.aload_n 0, 1) := by decide +kernel
theorem dX2_prefers_66 : decode cX2_prefers 66 = .ok (.getfield 9, 3) := by decide +kernel
theorem dX2_prefers_69 : decode cX2_prefers 69 = .ok (.iload_n 3, 1) := by decide +kernel
theorem dX2_prefers_70 : decode cX2_prefers 70 = .ok (.iaload, 1) := by decide +kernel
theorem dX2_prefers_71 : decode cX2_prefers 71 = .ok (.if_icmp .le 7, 3) := by decide +kernel
theorem dX2_prefers_74 : decode cX2_prefers 74 = .ok (.iconst 1, 1) := by decide +kernel
theorem dX2_prefers_75 : decode cX2_prefers 75 = .ok (.goto 4, 3) := by decide +kernel
theorem dX2_prefers_78 : decode cX2_prefers 78 = .ok (.iconst 0, 1) := by decide +kernel
theorem dX2_prefers_79 : decode cX2_prefers 79 = .ok (.ireturn, 1) := by decide +kernel
theorem dX2_passDays_0 : decode cX2_passDays 0 = .ok (.iconst 0, 1) := by decide +kernel
theorem dX2_passDays_1 : decode cX2_passDays 1 = .ok (.istore_n 2, 1) := by decide +kernel
theorem dX2_passDays_2 : decode cX2_passDays 2 = .ok (.iload_n 2, 1) := by decide +kernel
theorem dX2_passDays_3 : decode cX2_passDays 3 = .ok (.iload_n 1, 1) := by decide +kernel
theorem dX2_passDays_4 : decode cX2_passDays 4 = .ok (.if_icmp .ge 53, 3) := by decide +kernel
theorem dX2_passDays_7 : decode cX2_passDays 7 = .ok (.aload_n 0, 1) := by decide +kernel
theorem dX2_passDays_8 : decode cX2_passDays 8 = .ok (.invokevirtual 84, 3) := by decide +kernel
theorem dX2_passDays_11 : decode cX2_passDays 11 = .ok (.aload_n 0, 1) := by decide +kernel
theorem dX2_passDays_12 : decode cX2_passDays 12 = .ok (.invokevirtual 87, 3) := by decide +kernel
theorem dX2_passDays_15 : decode cX2_passDays 15 = .ok (.aload_n 0, 1) := by decide +kernel
theorem dX2_passDays_16 : decode cX2_passDays 16 = .ok (.invokevirtual 90, 3) := by decide +kernel
theorem dX2_passDays_19 : decode cX2_passDays 19 = .ok (.aload_n 0, 1) := by decide +kernel
theorem dX2_passDays_20 : decode cX2_passDays 20 = .ok (.invokevirtual 93, 3) := by decide +kernel
theorem dX2_passDays_23 : decode cX2_passDays 23 = .ok (.aload_n 0, 1) := by decide +kernel
theorem dX2_passDays_24 : decode cX2_passDays 24 = .ok (.invokevirtual 96, 3) := by decide +kernel
theorem dX2_passDays_27 : decode cX2_passDays 27 = .ok (.aload_n 0, 1) := by decide +kernel
theorem dX2_passDays_28 : decode cX2_passDays 28 = .ok (.aload_n 0, 1) := by decide +kernel
theorem dX2_passDays_29 : decode cX2_passDays 29 = .ok (.getfield 49, 3) := by decide +kernel
theorem dX2_passDays_32 : decode cX2_passDays 32 = .ok (.ldc 99, 2) := by decide +kernel
theorem dX2_passDays_34 : decode cX2_passDays 34 = .ok (.if_icmp .ge 12, 3) := by decide +kernel
theorem dX2_passDays_37 : decode cX2_passDays 37 = .ok (.aload_n 0, 1) := by decide +kernel
theorem dX2_passDays_38 : decode cX2_passDays 38 = .ok (.getfield 49, 3) := by decide +kernel
theorem dX2_passDays_41 : decode cX2_passDays 41 = .ok (.iconst 1, 1) := by decide +kernel
theorem dX2_passDays_42 : decode cX2_passDays 42 = .ok (.iadd, 1) := by decide +kernel
theorem dX2_passDays_43 : decode cX2_passDays 43 = .ok (.goto 5, 3) := by decide +kernel
theorem dX2_passDays_46 : decode cX2_passDays 46 = .ok (.ldc 99, 2) := by decide +kernel
theorem dX2_passDays_48 : decode cX2_passDays 48 = .ok (.putfield 49, 3) := by decide +kernel
theorem dX2_passDays_51 : decode cX2_passDays 51 = .ok (.iinc 2 1, 3) := by decide +kernel
theorem dX2_passDays_54 : decode cX2_passDays 54 = .ok (.goto (-52), 3) := by decide +kernel
theorem dX2_passDays_57 : decode cX2_passDays 57 = .ok (.return_, 1) := by decide +kernel
theorem dX2_thinAndThicken_0 : decode cX2_thinAndThicken 0 = .ok (.aload_n 0, 1) := by decide +kernel
theorem dX2_thinAndThicken_1 : decode cX2_thinAndThicken 1 = .ok (.getfield 24, 3) := by decide +kernel
theorem dX2_thinAndThicken_4 : decode cX2_thinAndThicken 4 = .ok (.aload_n 0, 1) := by decide +kernel
theorem dX2_thinAndThicken_5 : decode cX2_thinAndThicken 5 = .ok (.getfield 21, 3) := by decide +kernel
theorem dX2_thinAndThicken_8 : decode cX2_thinAndThicken 8 = .ok (.aload_n 0, 1) := by decide +kernel
theorem dX2_thinAndThicken_9 : decode cX2_thinAndThicken 9 = .ok (.getfield 49, 3) := by decide +kernel
theorem dX2_thinAndThicken_12 : decode cX2_thinAndThicken 12 = .ok (.bipush 6, 2) := by decide +kernel
theorem dX2_thinAndThicken_14 : decode cX2_thinAndThicken 14 = .ok (.irem, 1) := by decide +kernel
theorem dX2_thinAndThicken_15 : decode cX2_thinAndThicken 15 = .ok (.iaload, 1) := by decide +kernel
theorem dX2_thinAndThicken_16 : decode cX2_thinAndThicken 16 = .ok (.isub, 1) := by decide +kernel
theorem dX2_thinAndThicken_17 : decode cX2_thinAndThicken 17 = .ok (.istore_n 1, 1) := by decide +kernel
theorem dX2_thinAndThicken_18 : decode cX2_thinAndThicken 18 = .ok (.iconst 0, 1) := by decide +kernel
theorem dX2_thinAndThicken_19 : decode cX2_thinAndThicken 19 = .ok (.istore_n 2, 1) := by decide +kernel
theorem dX2_thinAndThicken_20 : decode cX2_thinAndThicken 20 = .ok (.iload_n 2, 1) := by decide +kernel
theorem dX2_thinAndThicken_21 : decode cX2_thinAndThicken 21 = .ok (.bipush 10, 2) := by decide +kernel
theorem dX2_thinAndThicken_23 : decode cX2_thinAndThicken 23 = .ok (.if_icmp .ge 32, 3) := by decide +kernel
theorem dX2_thinAndThicken_26 : decode cX2_thinAndThicken 26 = .ok (.aload_n 0, 1) := by decide +kernel
theorem dX2_thinAndThicken_27 : decode cX2_thinAndThicken 27 = .ok (.getfield 9, 3) := by decide +kernel
theorem dX2_thinAndThicken_30 : decode cX2_thinAndThicken 30 = .ok (.iload_n 2, 1) := by decide +kernel
theorem dX2_thinAndThicken_31 : decode cX2_thinAndThicken 31 = .ok (.iconst 0, 1) := by decide +kernel
theorem dX2_thinAndThicken_32 : decode cX2_thinAndThicken 32 = .ok (.bipush 99, 2) := by decide +kernel
theorem dX2_thinAndThicken_34 : decode cX2_thinAndThicken 34 = .ok (.aload_n 0, 1) := by decide +kernel
theorem dX2_thinAndThicken_35 : decode cX2_thinAndThicken 35 = .ok (.getfield 9, 3) := by decide +kernel
theorem dX2_thinAndThicken_38 : decode cX2_thinAndThicken 38 = .ok (.iload_n 2, 1) := by decide +kernel
theorem dX2_thinAndThicken_39 : decode cX2_thinAndThicken 39 = .ok (.iaload, 1) := by decide +kernel
theorem dX2_thinAndThicken_40 : decode cX2_thinAndThicken 40 = .ok (.iload_n 1, 1) := by decide +kernel
theorem dX2_thinAndThicken_41 : decode cX2_thinAndThicken 41 = .ok (.iadd, 1) := by decide +kernel
theorem dX2_thinAndThicken_42 : decode cX2_thinAndThicken 42 = .ok (.invokestatic 100, 3) := by decide +kernel
theorem dX2_thinAndThicken_45 : decode cX2_thinAndThicken 45 = .ok (.invokestatic 105, 3) := by decide +kernel
theorem dX2_thinAndThicken_48 : decode cX2_thinAndThicken 48 = .ok (.iastore, 1) := by decide +kernel
theorem dX2_thinAndThicken_49 : decode cX2_thinAndThicken 49 = .ok (.iinc 2 1, 3) := by decide +kernel
theorem dX2_thinAndThicken_52 : decode cX2_thinAndThicken 52 = .ok (.goto (-32), 3) := by decide +kernel
theorem dX2_thinAndThicken_55 : decode cX2_thinAndThicken 55 = .ok (.return_, 1) := by decide +kernel
theorem dX2_spreadFog_0 : decode cX2_spreadFog 0 = .ok (.iconst 0, 1) := by decide +kernel
theorem dX2_spreadFog_1 : decode cX2_spreadFog 1 = .ok (.istore_n 1, 1) := by decide +kernel
theorem dX2_spreadFog_2 : decode cX2_spreadFog 2 = .ok (.iload_n 1, 1) := by decide +kernel
theorem dX2_spreadFog_3 : decode cX2_spreadFog 3 = .ok (.bipush 9, 2) := by decide +kernel
theorem dX2_spreadFog_5 : decode cX2_spreadFog 5 = .ok (.if_icmp .ge 32, 3) := by decide +kernel
theorem dX2_spreadFog_8 : decode cX2_spreadFog 8 = .ok (.aload_n 0, 1) := by decide +kernel
theorem dX2_spreadFog_9 : decode cX2_spreadFog 9 = .ok (.getfield 58, 3) := by decide +kernel
theorem dX2_spreadFog_12 : decode cX2_spreadFog 12 = .ok (.iload_n 1, 1) := by decide +kernel
theorem dX2_spreadFog_13 : decode cX2_spreadFog 13 = .ok (.aload_n 0, 1) := by decide +kernel
theorem dX2_spreadFog_14 : decode cX2_spreadFog 14 = .ok (.getfield 9, 3) := by decide +kernel
theorem dX2_spreadFog_17 : decode cX2_spreadFog 17 = .ok (.iload_n 1, 1) := by decide +kernel
theorem dX2_spreadFog_18 : decode cX2_spreadFog 18 = .ok (.iaload, 1) := by decide +kernel
theorem dX2_spreadFog_19 : decode cX2_spreadFog 19 = .ok (.aload_n 0, 1) := by decide +kernel
theorem dX2_spreadFog_20 : decode cX2_spreadFog 20 = .ok (.getfield 9, 3) := by decide +kernel
theorem dX2_spreadFog_23 : decode cX2_spreadFog 23 = .ok (.iload_n 1, 1) := by decide +kernel
theorem dX2_spreadFog_24 : decode cX2_spreadFog 24 = .ok (.iconst 1, 1) := by decide +kernel
theorem dX2_spreadFog_25 : decode cX2_spreadFog 25 = .ok (.iadd, 1) := by decide +kernel
theorem dX2_spreadFog_26 : decode cX2_spreadFog 26 = .ok (.iaload, 1) := by decide +kernel
theorem dX2_spreadFog_27 : decode cX2_spreadFog 27 = .ok (.isub, 1) := by decide +kernel
theorem dX2_spreadFog_28 : decode cX2_spreadFog 28 = .ok (.iconst 4, 1) := by decide +kernel
theorem dX2_spreadFog_29 : decode cX2_spreadFog 29 = .ok (.idiv, 1) := by decide +kernel
theorem dX2_spreadFog_30 : decode cX2_spreadFog 30 = .ok (.iastore, 1) := by decide +kernel
theorem dX2_spreadFog_31 : decode cX2_spreadFog 31 = .ok (.iinc 1 1, 3) := by decide +kernel
theorem dX2_spreadFog_34 : decode cX2_spreadFog 34 = .ok (.goto (-32), 3) := by decide +kernel
theorem dX2_spreadFog_37 : decode cX2_spreadFog 37 = .ok (.iconst 0, 1) := by decide +kernel
theorem dX2_spreadFog_38 : decode cX2_spreadFog 38 = .ok (.istore_n 1, 1) := by decide +kernel
theorem dX2_spreadFog_39 : decode cX2_spreadFog 39 = .ok (.iload_n 1, 1) := by decide +kernel
theorem dX2_spreadFog_40 : decode cX2_spreadFog 40 = .ok (.bipush 9, 2) := by decide +kernel
theorem dX2_spreadFog_42 : decode cX2_spreadFog 42 = .ok (.if_icmp .ge 41, 3) := by decide +kernel
theorem dX2_spreadFog_45 : decode cX2_spreadFog 45 = .ok (.aload_n 0, 1) := by decide +kernel
theorem dX2_spreadFog_46 : decode cX2_spreadFog 46 = .ok (.getfield 9, 3) := by decide +kernel
theorem dX2_spreadFog_49 : decode cX2_spreadFog 49 = .ok (.iload_n 1, 1) := by decide +kernel
theorem dX2_spreadFog_50 : decode cX2_spreadFog 50 = .ok (.dup2, 1) := by decide +kernel
theorem dX2_spreadFog_51 : decode cX2_spreadFog 51 = .ok (.iaload, 1) := by decide +kernel
theorem dX2_spreadFog_52 : decode cX2_spreadFog 52 = .ok (.aload_n 0, 1) := by decide +kernel
theorem dX2_spreadFog_53 : decode cX2_spreadFog 53 = .ok (.getfield 58, 3) := by decide +kernel
theorem dX2_spreadFog_56 : decode cX2_spreadFog 56 = .ok (.iload_n 1, 1) := by decide +kernel
theorem dX2_spreadFog_57 : decode cX2_spreadFog 57 = .ok (.iaload, 1) := by decide +kernel
theorem dX2_spreadFog_58 : decode cX2_spreadFog 58 = .ok (.isub, 1) := by decide +kernel
theorem dX2_spreadFog_59 : decode cX2_spreadFog 59 = .ok (.iastore, 1) := by decide +kernel
theorem dX2_spreadFog_60 : decode cX2_spreadFog 60 = .ok (.aload_n 0, 1) := by decide +kernel
theorem dX2_spreadFog_61 : decode cX2_spreadFog 61 = .ok (.getfield 9, 3) := by decide +kernel
theorem dX2_spreadFog_64 : decode cX2_spreadFog 64 = .ok (.iload_n 1, 1) := by decide +kernel
theorem dX2_spreadFog_65 : decode cX2_spreadFog 65 = .ok (.iconst 1, 1) := by decide +kernel
theorem dX2_spreadFog_66 : decode cX2_spreadFog 66 = .ok (.iadd, 1) := by decide +kernel
theorem dX2_spreadFog_67 : decode cX2_spreadFog 67 = .ok (.dup2, 1) := by decide +kernel
theorem dX2_spreadFog_68 : decode cX2_spreadFog 68 = .ok (.iaload, 1) := by decide +kernel
theorem dX2_spreadFog_69 : decode cX2_spreadFog 69 = .ok (.aload_n 0, 1) := by decide +kernel
theorem dX2_spreadFog_70 : decode cX2_spreadFog 70 = .ok (.getfield 58, 3) := by decide +kernel
theorem dX2_spreadFog_73 : decode cX2_spreadFog 73 = .ok (.iload_n 1, 1) := by decide +kernel
theorem dX2_spreadFog_74 : decode cX2_spreadFog 74 = .ok (.iaload, 1) := by decide +kernel
theorem dX2_spreadFog_75 : decode cX2_spreadFog 75 = .ok (.iadd, 1) := by decide +kernel
theorem dX2_spreadFog_76 : decode cX2_spreadFog 76 = .ok (.iastore, 1) := by decide +kernel
theorem dX2_spreadFog_77 : decode cX2_spreadFog 77 = .ok (.iinc 1 1, 3) := by decide +kernel
theorem dX2_spreadFog_80 : decode cX2_spreadFog 80 = .ok (.goto (-41), 3) := by decide +kernel
theorem dX2_spreadFog_83 : decode cX2_spreadFog 83 = .ok (.return_, 1) := by decide +kernel
theorem dX2_movePeople_0 : decode cX2_movePeople 0 = .ok (.iconst 0, 1) := by decide +kernel
theorem dX2_movePeople_1 : decode cX2_movePeople 1 = .ok (.istore_n 1, 1) := by decide +kernel
theorem dX2_movePeople_2 : decode cX2_movePeople 2 = .ok (.iload_n 1, 1) := by decide +kernel
theorem dX2_movePeople_3 : decode cX2_movePeople 3 = .ok (.aload_n 0, 1) := by decide +kernel
theorem dX2_movePeople_4 : decode cX2_movePeople 4 = .ok (.getfield 28, 3) := by decide +kernel
theorem dX2_movePeople_7 : decode cX2_movePeople 7 = .ok (.if_icmp .ge 63, 3) := by decide +kernel
theorem dX2_movePeople_10 : decode cX2_movePeople 10 = .ok (.aload_n 0, 1) := by decide +kernel
theorem dX2_movePeople_11 : decode cX2_movePeople 11 = .ok (.iload_n 1, 1) := by decide +kernel
theorem dX2_movePeople_12 : decode cX2_movePeople 12 = .ok (.invokevirtual 67, 3) := by decide +kernel
theorem dX2_movePeople_15 : decode cX2_movePeople 15 = .ok (.ifCond .eq 6, 3) := by decide +kernel
theorem dX2_movePeople_18 : decode cX2_movePeople 18 = .ok (.goto 46, 3) := by decide +kernel
theorem dX2_movePeople_21 : decode cX2_movePeople 21 = .ok (.aload_n 0, 1) := by decide +kernel
theorem dX2_movePeople_22 : decode cX2_movePeople 22 = .ok (.getfield 34, 3) := by decide +kernel
theorem dX2_movePeople_25 : decode cX2_movePeople 25 = .ok (.iload_n 1, 1) := by decide +kernel
theorem dX2_movePeople_26 : decode cX2_movePeople 26 = .ok (.iaload, 1) := by decide +kernel
theorem dX2_movePeople_27 : decode cX2_movePeople 27 = .ok (.iconst (-1), 1) := by decide +kernel
theorem dX2_movePeople_28 : decode cX2_movePeople 28 = .ok (.if_icmp .ne 17, 3) := by decide +kernel
theorem dX2_movePeople_31 : decode cX2_movePeople 31 = .ok (.aload_n 0, 1) := by decide +kernel
theorem dX2_movePeople_32 : decode cX2_movePeople 32 = .ok (.getfield 34, 3) := by decide +kernel
theorem dX2_movePeople_35 : decode cX2_movePeople 35 = .ok (.iload_n 1, 1) := by decide +kernel
theorem dX2_movePeople_36 : decode cX2_movePeople 36 = .ok (.aload_n 0, 1) := by decide +kernel
theorem dX2_movePeople_37 : decode cX2_movePeople 37 = .ok (.iload_n 1, 1) := by decide +kernel
theorem dX2_movePeople_38 : decode cX2_movePeople 38 = .ok (.invokevirtual 108, 3) := by decide +kernel
theorem dX2_movePeople_41 : decode cX2_movePeople 41 = .ok (.iastore, 1) := by decide +kernel
theorem dX2_movePeople_42 : decode cX2_movePeople 42 = .ok (.goto 22, 3) := by decide +kernel
theorem dX2_movePeople_45 : decode cX2_movePeople 45 = .ok (.aload_n 0, 1) := by decide +kernel
theorem dX2_movePeople_46 : decode cX2_movePeople 46 = .ok (.iload_n 1, 1) := by decide +kernel
theorem dX2_movePeople_47 : decode cX2_movePeople 47 = .ok (.aload_n 0, 1) := by decide +kernel
theorem dX2_movePeople_48 : decode cX2_movePeople 48 = .ok (.getfield 34, 3) := by decide +kernel
theorem dX2_movePeople_51 : decode cX2_movePeople 51 = .ok (.iload_n 1, 1) := by decide +kernel
theorem dX2_movePeople_52 : decode cX2_movePeople 52 = .ok (.iaload, 1) := by decide +kernel
theorem dX2_movePeople_53 : decode cX2_movePeople 53 = .ok (.invokevirtual 71, 3) := by decide +kernel
theorem dX2_movePeople_56 : decode cX2_movePeople 56 = .ok (.ifCond .ne 8, 3) := by decide +kernel
theorem dX2_movePeople_59 : decode cX2_movePeople 59 = .ok (.aload_n 0, 1) := by decide +kernel
theorem dX2_movePeople_60 : decode cX2_movePeople 60 = .ok (.iload_n 1, 1) := by decide +kernel
theorem dX2_movePeople_61 : decode cX2_movePeople 61 = .ok (.invokevirtual 112, 3) := by decide +kernel
theorem dX2_movePeople_64 : decode cX2_movePeople 64 = .ok (.iinc 1 1, 3) := by decide +kernel
theorem dX2_movePeople_67 : decode cX2_movePeople 67 = .ok (.goto (-65), 3) := by decide +kernel
theorem dX2_movePeople_70 : decode cX2_movePeople 70 = .ok (.return_, 1) := by decide +kernel
theorem dX2_fall_0 : decode cX2_fall 0 = .ok (.aload_n 0, 1) := by decide +kernel
theorem dX2_fall_1 : decode cX2_fall 1 = .ok (.getfield 43, 3) := by decide +kernel
theorem dX2_fall_4 : decode cX2_fall 4 = .ok (.iload_n 1, 1) := by decide +kernel
theorem dX2_fall_5 : decode cX2_fall 5 = .ok (.sipush 9999, 3) := by decide +kernel
theorem dX2_fall_8 : decode cX2_fall 8 = .ok (.aload_n 0, 1) := by decide +kernel
theorem dX2_fall_9 : decode cX2_fall 9 = .ok (.getfield 43, 3) := by decide +kernel
theorem dX2_fall_12 : decode cX2_fall 12 = .ok (.iload_n 1, 1) := by decide +kernel
theorem dX2_fall_13 : decode cX2_fall 13 = .ok (.iaload, 1) := by decide +kernel
theorem dX2_fall_14 : decode cX2_fall 14 = .ok (.iconst 1, 1) := by decide +kernel
theorem dX2_fall_15 : decode cX2_fall 15 = .ok (.iadd, 1) := by decide +kernel
theorem dX2_fall_16 : decode cX2_fall 16 = .ok (.invokestatic 100, 3) := by decide +kernel
theorem dX2_fall_19 : decode cX2_fall 19 = .ok (.iastore, 1) := by decide +kernel
theorem dX2_fall_20 : decode cX2_fall 20 = .ok (.aload_n 0, 1) := by decide +kernel
theorem dX2_fall_21 : decode cX2_fall 21 = .ok (.getfield 37, 3) := by decide +kernel
theorem dX2_fall_24 : decode cX2_fall 24 = .ok (.iload_n 1, 1) := by decide +kernel
theorem dX2_fall_25 : decode cX2_fall 25 = .ok (.iconst 0, 1) := by decide +kernel
theorem dX2_fall_26 : decode cX2_fall 26 = .ok (.aload_n 0, 1) := by decide +kernel
theorem dX2_fall_27 : decode cX2_fall 27 = .ok (.getfield 37, 3) := by decide +kernel
theorem dX2_fall_30 : decode cX2_fall 30 = .ok (.iload_n 1, 1) := by decide +kernel
theorem dX2_fall_31 : decode cX2_fall 31 = .ok (.iaload, 1) := by decide +kernel
theorem dX2_fall_32 : decode cX2_fall 32 = .ok (.aload_n 0, 1) := by decide +kernel
theorem dX2_fall_33 : decode cX2_fall 33 = .ok (.getfield 31, 3) := by decide +kernel
theorem dX2_fall_36 : decode cX2_fall 36 = .ok (.iload_n 1, 1) := by decide +kernel
theorem dX2_fall_37 : decode cX2_fall 37 = .ok (.iaload, 1) := by decide +kernel
theorem dX2_fall_38 : decode cX2_fall 38 = .ok (.invokestatic 116, 3) := by decide +kernel
theorem dX2_fall_41 : decode cX2_fall 41 = .ok (.isub, 1) := by decide +kernel
theorem dX2_fall_42 : decode cX2_fall 42 = .ok (.invokestatic 105, 3) := by decide +kernel
theorem dX2_fall_45 : decode cX2_fall 45 = .ok (.iastore, 1) := by decide +kernel
theorem dX2_fall_46 : decode cX2_fall 46 = .ok (.aload_n 0, 1) := by decide +kernel
theorem dX2_fall_47 : decode cX2_fall 47 = .ok (.getfield 34, 3) := by decide +kernel
theorem dX2_fall_50 : decode cX2_fall 50 = .ok (.iload_n 1, 1) := by decide +kernel
theorem dX2_fall_51 : decode cX2_fall 51 = .ok (.iconst (-1), 1) := by decide +kernel
theorem dX2_fall_52 : decode cX2_fall 52 = .ok (.iastore, 1) := by decide +kernel
theorem dX2_fall_53 : decode cX2_fall 53 = .ok (.return_, 1) := by decide +kernel
theorem dX2_payRents_0 : decode cX2_payRents 0 = .ok (.iconst 0, 1) := by decide +kernel
theorem dX2_payRents_1 : decode cX2_payRents 1 = .ok (.istore_n 1, 1) := by decide +kernel
theorem dX2_payRents_2 : decode cX2_payRents 2 = .ok (.iload_n 1, 1) := by decide +kernel
theorem dX2_payRents_3 : decode cX2_payRents 3 = .ok (.aload_n 0, 1) := by decide +kernel
theorem dX2_payRents_4 : decode cX2_payRents 4 = .ok (.getfield 28, 3) := by decide +kernel
theorem dX2_payRents_7 : decode cX2_payRents 7 = .ok (.if_icmp .ge 101, 3) := by decide +kernel
theorem dX2_payRents_10 : decode cX2_payRents 10 = .ok (.aload_n 0, 1) := by decide +kernel
theorem dX2_payRents_11 : decode cX2_payRents 11 = .ok (.getfield 34, 3) := by decide +kernel
theorem dX2_payRents_14 : decode cX2_payRents 14 = .ok (.iload_n 1, 1) := by decide +kernel
theorem dX2_payRents_15 : decode cX2_payRents 15 = .ok (.iaload, 1) := by decide +kernel
theorem dX2_payRents_16 : decode cX2_payRents 16 = .ok (.iconst (-1), 1) := by decide +kernel
theorem dX2_payRents_17 : decode cX2_payRents 17 = .ok (.if_icmp .ne 6, 3) := by decide +kernel
theorem dX2_payRents_20 : decode cX2_payRents 20 = .ok (.goto 82, 3) := by decide +kernel
theorem dX2_payRents_23 : decode cX2_payRents 23 = .ok (.aload_n 0, 1) := by decide +kernel
theorem dX2_payRents_24 : decode cX2_payRents 24 = .ok (.getfield 18, 3) := by decide +kernel
theorem dX2_payRents_27 : decode cX2_payRents 27 = .ok (.aload_n 0, 1) := by decide +kernel
theorem dX2_payRents_28 : decode cX2_payRents 28 = .ok (.getfield 34, 3) := by decide +kernel
theorem dX2_payRents_31 : decode cX2_payRents 31 = .ok (.iload_n 1, 1) := by decide +kernel
theorem dX2_payRents_32 : decode cX2_payRents 32 = .ok (.iaload, 1) := by decide +kernel
theorem dX2_payRents_33 : decode cX2_payRents 33 = .ok (.iaload, 1) := by decide +kernel
theorem dX2_payRents_34 : decode cX2_payRents 34 = .ok (.istore_n 2, 1) := by decide +kernel
theorem dX2_payRents_35 : decode cX2_payRents 35 = .ok (.iload_n 2, 1) := by decide +kernel
theorem dX2_payRents_36 : decode cX2_payRents 36 = .ok (.iload_n 1, 1) := by decide +kernel
theorem dX2_payRents_37 : decode cX2_payRents 37 = .ok (.if_icmp .eq 65, 3) := by decide +kernel
theorem dX2_payRents_40 : decode cX2_payRents 40 = .ok (.aload_n 0, 1) := by decide +kernel
theorem dX2_payRents_41 : decode cX2_payRents 41 = .ok (.iload_n 2, 1) := by decide +kernel
theorem dX2_payRents_42 : decode cX2_payRents 42 = .ok (.invokevirtual 119, 3) := by decide +kernel
theorem dX2_payRents_45 : decode cX2_payRents 45 = .ok (.ifCond .ne 6, 3) := by decide +kernel
theorem dX2_payRents_48 : decode cX2_payRents 48 = .ok (.goto 54, 3) := by decide +kernel
theorem dX2_payRents_51 : decode cX2_payRents 51 = .ok (.aload_n 0, 1) := by decide +kernel
theorem dX2_payRents_52 : decode cX2_payRents 52 = .ok (.getfield 40, 3) := by decide +kernel
theorem dX2_payRents_55 : decode cX2_payRents 55 = .ok (.iload_n 1, 1) := by decide +kernel
theorem dX2_payRents_56 : decode cX2_payRents 56 = .ok (.iaload, 1) := by decide +kernel
theorem dX2_payRents_57 : decode cX2_payRents 57 = .ok (.aload_n 0, 1) := by decide +kernel
theorem dX2_payRents_58 : decode cX2_payRents 58 = .ok (.getfield 15, 3) := by decide +kernel
theorem dX2_payRents_61 : decode cX2_payRents 61 = .ok (.aload_n 0, 1) := by decide +kernel
theorem dX2_payRents_62 : decode cX2_payRents 62 = .ok (.getfield 34, 3) := by decide +kernel
theorem dX2_payRents_65 : decode cX2_payRents 65 = .ok (.iload_n 1, 1) := by decide +kernel
theorem dX2_payRents_66 : decode cX2_payRents 66 = .ok (.iaload, 1) := by decide +kernel
theorem dX2_payRents_67 : decode cX2_payRents 67 = .ok (.iaload, 1) := by decide +kernel
theorem dX2_payRents_68 : decode cX2_payRents 68 = .ok (.invokestatic 100, 3) := by decide +kernel
theorem dX2_payRents_71 : decode cX2_payRents 71 = .ok (.istore_n 3, 1) := by decide +kernel
theorem dX2_payRents_72 : decode cX2_payRents 72 = .ok (.aload_n 0, 1) := by decide +kernel
theorem dX2_payRents_73 : decode cX2_payRents 73 = .ok (.getfield 40, 3) := by decide +kernel
theorem dX2_payRents_76 : decode cX2_payRents 76 = .ok (.iload_n 1, 1) := by decide +kernel
theorem dX2_payRents_77 : decode cX2_payRents 77 = .ok (.dup2, 1) := by decide +kernel
theorem dX2_payRents_78 : decode cX2_payRents 78 = .ok (.iaload, 1) := by decide +kernel
theorem dX2_payRents_79 : decode cX2_payRents 79 = .ok (.iload_n 3, 1) := by decide +kernel
theorem dX2_payRents_80 : decode cX2_payRents 80 = .ok (.isub, 1) := by decide +kernel
theorem dX2_payRents_81 : decode cX2_payRents 81 = .ok (.iastore, 1) := by decide +kernel
theorem dX2_payRents_82 : decode cX2_payRents 82 = .ok (.aload_n 0, 1) := by decide +kernel
theorem dX2_payRents_83 : decode cX2_payRents 83 = .ok (.getfield 40, 3) := by decide +kernel
theorem dX2_payRents_86 : decode cX2_payRents 86 = .ok (.iload_n 2, 1) := by decide +kernel
theorem dX2_payRents_87 : decode cX2_payRents 87 = .ok (.sipush 9999, 3) := by decide +kernel
theorem dX2_payRents_90 : decode cX2_payRents 90 = .ok (.aload_n 0, 1) := by decide +kernel
theorem dX2_payRents_91 : decode cX2_payRents 91 = .ok (.getfield 40, 3) := by decide +kernel
theorem dX2_payRents_94 : decode cX2_payRents 94 = .ok (.iload_n 2, 1) := by decide +kernel
theorem dX2_payRents_95 : decode cX2_payRents 95 = .ok (.iaload, 1) := by decide +kernel
theorem dX2_payRents_96 : decode cX2_payRents 96 = .ok (.iload_n 3, 1) := by decide +kernel
theorem dX2_payRents_97 : decode cX2_payRents 97 = .ok (.iadd, 1) := by decide +kernel
theorem dX2_payRents_98 : decode cX2_payRents 98 = .ok (.invokestatic 100, 3) := by decide +kernel
theorem dX2_payRents_101 : decode cX2_payRents 101 = .ok (.iastore, 1) := by decide +kernel
theorem dX2_payRents_102 : decode cX2_payRents 102 = .ok (.iinc 1 1, 3) := by decide +kernel
theorem dX2_payRents_105 : decode cX2_payRents 105 = .ok (.goto (-103), 3) := by decide +kernel
theorem dX2_payRents_108 : decode cX2_payRents 108 = .ok (.return_, 1) := by decide +kernel
theorem dX2_spreadBelief_0 : decode cX2_spreadBelief 0 = .ok (.iconst 0, 1) := by decide +kernel
theorem dX2_spreadBelief_1 : decode cX2_spreadBelief 1 = .ok (.istore_n 1, 1) := by decide +kernel
theorem dX2_spreadBelief_2 : decode cX2_spreadBelief 2 = .ok (.iload_n 1, 1) := by decide +kernel
theorem dX2_spreadBelief_3 : decode cX2_spreadBelief 3 = .ok (.aload_n 0, 1) := by decide +kernel
theorem dX2_spreadBelief_4 : decode cX2_spreadBelief 4 = .ok (.getfield 28, 3) := by decide +kernel
theorem dX2_spreadBelief_7 : decode cX2_spreadBelief 7 = .ok (.if_icmp .ge 39, 3) := by decide +kernel
theorem dX2_spreadBelief_10 : decode cX2_spreadBelief 10 = .ok (.aload_n 0, 1) := by decide +kernel
theorem dX2_spreadBelief_11 : decode cX2_spreadBelief 11 = .ok (.iload_n 1, 1) := by decide +kernel
theorem dX2_spreadBelief_12 : decode cX2_spreadBelief 12 = .ok (.invokevirtual 122, 3) := by decide +kernel
theorem dX2_spreadBelief_15 : decode cX2_spreadBelief 15 = .ok (.aload_n 0, 1) := by decide +kernel
theorem dX2_spreadBelief_16 : decode cX2_spreadBelief 16 = .ok (.getfield 37, 3) := by decide +kernel
theorem dX2_spreadBelief_19 : decode cX2_spreadBelief 19 = .ok (.iload_n 1, 1) := by decide +kernel
theorem dX2_spreadBelief_20 : decode cX2_spreadBelief 20 = .ok (.iaload, 1) := by decide +kernel
theorem dX2_spreadBelief_21 : decode cX2_spreadBelief 21 = .ok (.isub, 1) := by decide +kernel
theorem dX2_spreadBelief_22 : decode cX2_spreadBelief 22 = .ok (.istore_n 2, 1) := by decide +kernel
theorem dX2_spreadBelief_23 : decode cX2_spreadBelief 23 = .ok (.aload_n 0, 1) := by decide +kernel
theorem dX2_spreadBelief_24 : decode cX2_spreadBelief 24 = .ok (.getfield 58, 3) := by decide +kernel
theorem dX2_spreadBelief_27 : decode cX2_spreadBelief 27 = .ok (.iload_n 1, 1) := by decide +kernel
theorem dX2_spreadBelief_28 : decode cX2_spreadBelief 28 = .ok (.iload_n 2, 1) := by decide +kernel
theorem dX2_spreadBelief_29 : decode cX2_spreadBelief 29 = .ok (.ifCond .le 9, 3) := by decide +kernel
theorem dX2_spreadBelief_32 : decode cX2_spreadBelief 32 = .ok (.iload_n 2, 1) := by decide +kernel
theorem dX2_spreadBelief_33 : decode cX2_spreadBelief 33 = .ok (.iconst 4, 1) := by decide +kernel
theorem dX2_spreadBelief_34 : decode cX2_spreadBelief 34 = .ok (.idiv, 1) := by decide +kernel
theorem dX2_spreadBelief_35 : decode cX2_spreadBelief 35 = .ok (.goto 4, 3) := by decide +kernel
theorem dX2_spreadBelief_38 : decode cX2_spreadBelief 38 = .ok (.iconst 0, 1) := by decide +kernel
theorem dX2_spreadBelief_39 : decode cX2_spreadBelief 39 = .ok (.iastore, 1) := by decide +kernel
theorem dX2_spreadBelief_40 : decode cX2_spreadBelief 40 = .ok (.iinc 1 1, 3) := by decide +kernel
theorem dX2_spreadBelief_43 : decode cX2_spreadBelief 43 = .ok (.goto (-41), 3) := by decide +kernel
theorem dX2_spreadBelief_46 : decode cX2_spreadBelief 46 = .ok (.iconst 0, 1) := by decide +kernel
theorem dX2_spreadBelief_47 : decode cX2_spreadBelief 47 = .ok (.istore_n 1, 1) := by decide +kernel
theorem dX2_spreadBelief_48 : decode cX2_spreadBelief 48 = .ok (.iload_n 1, 1) := by decide +kernel
theorem dX2_spreadBelief_49 : decode cX2_spreadBelief 49 = .ok (.aload_n 0, 1) := by decide +kernel
theorem dX2_spreadBelief_50 : decode cX2_spreadBelief 50 = .ok (.getfield 28, 3) := by decide +kernel
theorem dX2_spreadBelief_53 : decode cX2_spreadBelief 53 = .ok (.if_icmp .ge 24, 3) := by decide +kernel
theorem dX2_spreadBelief_56 : decode cX2_spreadBelief 56 = .ok (.aload_n 0, 1) := by decide +kernel
theorem dX2_spreadBelief_57 : decode cX2_spreadBelief 57 = .ok (.getfield 37, 3) := by decide +kernel
theorem dX2_spreadBelief_60 : decode cX2_spreadBelief 60 = .ok (.iload_n 1, 1) := by decide +kernel
theorem dX2_spreadBelief_61 : decode cX2_spreadBelief 61 = .ok (.dup2, 1) := by decide +kernel
theorem dX2_spreadBelief_62 : decode cX2_spreadBelief 62 = .ok (.iaload, 1) := by decide +kernel
theorem dX2_spreadBelief_63 : decode cX2_spreadBelief 63 = .ok (.aload_n 0, 1) := by decide +kernel
theorem dX2_spreadBelief_64 : decode cX2_spreadBelief 64 = .ok (.getfield 58, 3) := by decide +kernel
theorem dX2_spreadBelief_67 : decode cX2_spreadBelief 67 = .ok (.iload_n 1, 1) := by decide +kernel
theorem dX2_spreadBelief_68 : decode cX2_spreadBelief 68 = .ok (.iaload, 1) := by decide +kernel
theorem dX2_spreadBelief_69 : decode cX2_spreadBelief 69 = .ok (.iadd, 1) := by decide +kernel
theorem dX2_spreadBelief_70 : decode cX2_spreadBelief 70 = .ok (.iastore, 1) := by decide +kernel
theorem dX2_spreadBelief_71 : decode cX2_spreadBelief 71 = .ok (.iinc 1 1, 3) := by decide +kernel
theorem dX2_spreadBelief_74 : decode cX2_spreadBelief 74 = .ok (.goto (-26), 3) := by decide +kernel
theorem dX2_spreadBelief_77 : decode cX2_spreadBelief 77 = .ok (.return_, 1) := by decide +kernel
theorem dX2_greatestBeliefBeside_0 : decode cX2_greatestBeliefBeside 0 = .ok (.iconst 0, 1) := by decide +kernel
theorem dX2_greatestBeliefBeside_1 : decode cX2_greatestBeliefBeside 1 = .ok (.istore_n 2, 1) := by decide +kernel
theorem dX2_greatestBeliefBeside_2 : decode cX2_greatestBeliefBeside 2 = .ok (.aload_n 0, 1) := by decide +kernel
theorem dX2_greatestBeliefBeside_3 : decode cX2_greatestBeliefBeside 3 = .ok (.getfield 34, 3) := by decide +kernel
theorem dX2_greatestBeliefBeside_6 : decode cX2_greatestBeliefBeside 6 = .ok (.iload_n 1, 1) := by decide +kernel
theorem dX2_greatestBeliefBeside_7 : decode cX2_greatestBeliefBeside 7 = .ok (.iaload, 1) := by decide +kernel
theorem dX2_greatestBeliefBeside_8 : decode cX2_greatestBeliefBeside 8 = .ok (.iconst (-1), 1) := by decide +kernel
theorem dX2_greatestBeliefBeside_9 : decode cX2_greatestBeliefBeside 9 = .ok (.if_icmp .ne 5, 3) := by decide +kernel
theorem dX2_greatestBeliefBeside_12 : decode cX2_greatestBeliefBeside 12 = .ok (.iload_n 2, 1) := by decide +kernel
theorem dX2_greatestBeliefBeside_13 : decode cX2_greatestBeliefBeside 13 = .ok (.ireturn, 1) := by decide +kernel
theorem dX2_greatestBeliefBeside_14 : decode cX2_greatestBeliefBeside 14 = .ok (.iconst 0, 1) := by decide +kernel
theorem dX2_greatestBeliefBeside_15 : decode cX2_greatestBeliefBeside 15 = .ok (.istore_n 3, 1) := by decide +kernel
theorem dX2_greatestBeliefBeside_16 : decode cX2_greatestBeliefBeside 16 = .ok (.iload_n 3, 1) := by decide +kernel
theorem dX2_greatestBeliefBeside_17 : decode cX2_greatestBeliefBeside 17 = .ok (.aload_n 0, 1) := by decide +kernel
theorem dX2_greatestBeliefBeside_18 : decode cX2_greatestBeliefBeside 18 = .ok (.getfield 28, 3) := by decide +kernel
theorem dX2_greatestBeliefBeside_21 : decode cX2_greatestBeliefBeside 21 = .ok (.if_icmp .ge 40, 3) := by decide +kernel
theorem dX2_greatestBeliefBeside_24 : decode cX2_greatestBeliefBeside 24 = .ok (.iload_n 3, 1) := by decide +kernel
theorem dX2_greatestBeliefBeside_25 : decode cX2_greatestBeliefBeside 25 = .ok (.iload_n 1, 1) := by decide +kernel
theorem dX2_greatestBeliefBeside_26 : decode cX2_greatestBeliefBeside 26 = .ok (.if_icmp .eq 29, 3) := by decide +kernel
theorem dX2_greatestBeliefBeside_29 : decode cX2_greatestBeliefBeside 29 = .ok (.aload_n 0, 1) := by decide +kernel
theorem dX2_greatestBeliefBeside_30 : decode cX2_greatestBeliefBeside 30 = .ok (.getfield 34, 3) := by decide +kernel
theorem dX2_greatestBeliefBeside_33 : decode cX2_greatestBeliefBeside 33 = .ok (.iload_n 3, 1) := by decide +kernel
theorem dX2_greatestBeliefBeside_34 : decode cX2_greatestBeliefBeside 34 = .ok (.iaload, 1) := by decide +kernel
theorem dX2_greatestBeliefBeside_35 : decode cX2_greatestBeliefBeside 35 = .ok (.aload_n 0, 1) := by decide +kernel
theorem dX2_greatestBeliefBeside_36 : decode cX2_greatestBeliefBeside 36 = .ok (.getfield 34, 3) := by decide +kernel
theorem dX2_greatestBeliefBeside_39 : decode cX2_greatestBeliefBeside 39 = .ok (.iload_n 1, 1) := by decide +kernel
theorem dX2_greatestBeliefBeside_40 : decode cX2_greatestBeliefBeside 40 = .ok (.iaload, 1) := by decide +kernel
theorem dX2_greatestBeliefBeside_41 : decode cX2_greatestBeliefBeside 41 = .ok (.if_icmp .ne 14, 3) := by decide +kernel
theorem dX2_greatestBeliefBeside_44 : decode cX2_greatestBeliefBeside 44 = .ok (.iload_n 2, 1) := by decide +kernel
theorem dX2_greatestBeliefBeside_45 : decode cX2_greatestBeliefBeside 45 = .ok (.aload_n 0, 1) := by decide +kernel
theorem dX2_greatestBeliefBeside_46 : decode cX2_greatestBeliefBeside 46 = .ok (.getfield 37, 3) := by decide +kernel
theorem dX2_greatestBeliefBeside_49 : decode cX2_greatestBeliefBeside 49 = .ok (.iload_n 3, 1) := by decide +kernel
theorem dX2_greatestBeliefBeside_50 : decode cX2_greatestBeliefBeside 50 = .ok (.iaload, 1) := by decide +kernel
theorem dX2_greatestBeliefBeside_51 : decode cX2_greatestBeliefBeside 51 = .ok (.invokestatic 105, 3) := by decide +kernel
theorem dX2_greatestBeliefBeside_54 : decode cX2_greatestBeliefBeside 54 = .ok (.istore_n 2, 1) := by decide +kernel
theorem dX2_greatestBeliefBeside_55 : decode cX2_greatestBeliefBeside 55 = .ok (.iinc 3 1, 3) := by decide +kernel
theorem dX2_greatestBeliefBeside_58 : decode cX2_greatestBeliefBeside 58 = .ok (.goto (-42), 3) := by decide +kernel
theorem dX2_greatestBeliefBeside_61 : decode cX2_greatestBeliefBeside 61 = .ok (.iload_n 2, 1) := by decide +kernel
theorem dX2_greatestBeliefBeside_62 : decode cX2_greatestBeliefBeside 62 = .ok (.ireturn, 1) := by decide +kernel
theorem dX3_init_0 : decode cX3_init 0 = .ok (.aload_n 0, 1) := by decide +kernel
theorem dX3_init_1 : decode cX3_init 1 = .ok (.invokespecial 1, 3) := by decide +kernel
theorem dX3_init_4 : decode cX3_init 4 = .ok (.aload_n 0, 1) := by decide +kernel
theorem dX3_init_5 : decode cX3_init 5 = .ok (.new 7, 3) := by decide +kernel
theorem dX3_init_8 : decode cX3_init 8 = .ok (.dup, 1) := by decide +kernel
theorem dX3_init_9 : decode cX3_init 9 = .ok (.invokespecial 9, 3) := by decide +kernel
theorem dX3_init_12 : decode cX3_init 12 = .ok (.putfield 10, 3) := by decide +kernel
theorem dX3_init_15 : decode cX3_init 15 = .ok (.aload_n 0, 1) := by decide +kernel
theorem dX3_init_16 : decode cX3_init 16 = .ok (.new 7, 3) := by decide +kernel
theorem dX3_init_19 : decode cX3_init 19 = .ok (.dup, 1) := by decide +kernel
theorem dX3_init_20 : decode cX3_init 20 = .ok (.invokespecial 9, 3) := by decide +kernel
theorem dX3_init_23 : decode cX3_init 23 = .ok (.putfield 16, 3) := by decide +kernel
theorem dX3_init_26 : decode cX3_init 26 = .ok (.aload_n 0, 1) := by decide +kernel
theorem dX3_init_27 : decode cX3_init 27 = .ok (.new 7, 3) := by decide +kernel
theorem dX3_init_30 : decode cX3_init 30 = .ok (.dup, 1) := by decide +kernel
theorem dX3_init_31 : decode cX3_init 31 = .ok (.invokespecial 9, 3) := by decide +kernel
theorem dX3_init_34 : decode cX3_init 34 = .ok (.putfield 19, 3) := by decide +kernel
theorem dX3_init_37 : decode cX3_init 37 = .ok (.aload_n 0, 1) := by decide +kernel
theorem dX3_init_38 : decode cX3_init 38 = .ok (.iconst 0, 1) := by decide +kernel
theorem dX3_init_39 : decode cX3_init 39 = .ok (.putfield 22, 3) := by decide +kernel
theorem dX3_init_42 : decode cX3_init 42 = .ok (.aload_n 0, 1) := by decide +kernel
theorem dX3_init_43 : decode cX3_init 43 = .ok (.new 26, 3) := by decide +kernel
theorem dX3_init_46 : decode cX3_init 46 = .ok (.dup, 1) := by decide +kernel
theorem dX3_init_47 : decode cX3_init 47 = .ok (.invokespecial 28, 3) := by decide +kernel
theorem dX3_init_50 : decode cX3_init 50 = .ok (.putfield 29, 3) := by decide +kernel
theorem dX3_init_53 : decode cX3_init 53 = .ok (.aload_n 0, 1) := by decide +kernel
theorem dX3_init_54 : decode cX3_init 54 = .ok (.iconst 4, 1) := by decide +kernel
theorem dX3_init_55 : decode cX3_init 55 = .ok (.anewarray 33, 3) := by decide +kernel
theorem dX3_init_58 : decode cX3_init 58 = .ok (.putfield 35, 3) := by decide +kernel
theorem dX3_init_61 : decode cX3_init 61 = .ok (.iconst 0, 1) := by decide +kernel
theorem dX3_init_62 : decode cX3_init 62 = .ok (.istore_n 1, 1) := by decide +kernel
theorem dX3_init_63 : decode cX3_init 63 = .ok (.iload_n 1, 1) := by decide +kernel
theorem dX3_init_64 : decode cX3_init 64 = .ok (.iconst 4, 1) := by decide +kernel
theorem dX3_init_65 : decode cX3_init 65 = .ok (.if_icmp .ge 22, 3) := by decide +kernel
theorem dX3_init_68 : decode cX3_init 68 = .ok (.aload_n 0, 1) := by decide +kernel
theorem dX3_init_69 : decode cX3_init 69 = .ok (.getfield 35, 3) := by decide +kernel
theorem dX3_init_72 : decode cX3_init 72 = .ok (.iload_n 1, 1) := by decide +kernel
theorem dX3_init_73 : decode cX3_init 73 = .ok (.new 33, 3) := by decide +kernel
theorem dX3_init_76 : decode cX3_init 76 = .ok (.dup, 1) := by decide +kernel
theorem dX3_init_77 : decode cX3_init 77 = .ok (.invokespecial 39, 3) := by decide +kernel
theorem dX3_init_80 : decode cX3_init 80 = .ok (.aastore, 1) := by decide +kernel
theorem dX3_init_81 : decode cX3_init 81 = .ok (.iinc 1 1, 3) := by decide +kernel
theorem dX3_init_84 : decode cX3_init 84 = .ok (.goto (-21), 3) := by decide +kernel
theorem dX3_init_87 : decode cX3_init 87 = .ok (.aload_n 0, 1) := by decide +kernel
theorem dX3_init_88 : decode cX3_init 88 = .ok (.bipush 7, 2) := by decide +kernel
theorem dX3_init_90 : decode cX3_init 90 = .ok (.newarray .int, 2) := by decide +kernel
theorem dX3_init_92 : decode cX3_init 92 = .ok (.putfield 40, 3) := by decide +kernel
theorem dX3_init_95 : decode cX3_init 95 = .ok (.return_, 1) := by decide +kernel
theorem dX3_lot_0 : decode cX3_lot 0 = .ok (.iload_n 1, 1) := by decide +kernel
theorem dX3_lot_1 : decode cX3_lot 1 = .ok (.invokestatic 44, 3) := by decide +kernel
theorem dX3_lot_4 : decode cX3_lot 4 = .ok (.ifCond .ne 9, 3) := by decide +kernel
theorem dX3_lot_7 : decode cX3_lot 7 = .ok (.aload_n 0, 1) := by decide +kernel
theorem dX3_lot_8 : decode cX3_lot 8 = .ok (.iconst 0, 1) := by decide +kernel
theorem dX3_lot_9 : decode cX3_lot 9 = .ok (.invokevirtual 48, 3) := by decide +kernel
theorem dX3_lot_12 : decode cX3_lot 12 = .ok (.ireturn, 1) := by decide +kernel
theorem dX3_lot_13 : decode cX3_lot 13 = .ok (.iload_n 2, 1) := by decide +kernel
theorem dX3_lot_14 : decode cX3_lot 14 = .ok (.ifCond .ne 26, 3) := by decide +kernel
theorem dX3_lot_17 : decode cX3_lot 17 = .ok (.iload_n 3, 1) := by decide +kernel
theorem dX3_lot_18 : decode cX3_lot 18 = .ok (.iconst 0, 1) := by decide +kernel
theorem dX3_lot_19 : decode cX3_lot 19 = .ok (.bipush 99, 2) := by decide +kernel
theorem dX3_lot_21 : decode cX3_lot 21 = .ok (.invokestatic 52, 3) := by decide +kernel
theorem dX3_lot_24 : decode cX3_lot 24 = .ok (.ifCond .eq 16, 3) := by decide +kernel
theorem dX3_lot_27 : decode cX3_lot 27 = .ok (.aload_n 0, 1) := by decide +kernel
theorem dX3_lot_28 : decode cX3_lot 28 = .ok (.getfield 10, 3) := by decide +kernel
theorem dX3_lot_31 : decode cX3_lot 31 = .ok (.getfield 56, 3) := by decide +kernel
theorem dX3_lot_34 : decode cX3_lot 34 = .ok (.iload_n 1, 1) := by decide +kernel
theorem dX3_lot_35 : decode cX3_lot 35 = .ok (.iload_n 3, 1) := by decide +kernel
theorem dX3_lot_36 : decode cX3_lot 36 = .ok (.invokestatic 59, 3) := by decide +kernel
theorem dX3_lot_39 : decode cX3_lot 39 = .ok (.ireturn, 1) := by decide +kernel
theorem dX3_lot_40 : decode cX3_lot 40 = .ok (.iload_n 2, 1) := by decide +kernel
theorem dX3_lot_41 : decode cX3_lot 41 = .ok (.iconst 1, 1) := by decide +kernel
theorem dX3_lot_42 : decode cX3_lot 42 = .ok (.if_icmp .ne 26, 3) := by decide +kernel
theorem dX3_lot_45 : decode cX3_lot 45 = .ok (.iload_n 3, 1) := by decide +kernel
theorem dX3_lot_46 : decode cX3_lot 46 = .ok (.iconst 0, 1) := by decide +kernel
theorem dX3_lot_47 : decode cX3_lot 47 = .ok (.bipush 20, 2) := by decide +kernel
theorem dX3_lot_49 : decode cX3_lot 49 = .ok (.invokestatic 52, 3) := by decide +kernel
theorem dX3_lot_52 : decode cX3_lot 52 = .ok (.ifCond .eq 16, 3) := by decide +kernel
theorem dX3_lot_55 : decode cX3_lot 55 = .ok (.aload_n 0, 1) := by decide +kernel
theorem dX3_lot_56 : decode cX3_lot 56 = .ok (.getfield 10, 3) := by decide +kernel
theorem dX3_lot_59 : decode cX3_lot 59 = .ok (.getfield 63, 3) := by decide +kernel
theorem dX3_lot_62 : decode cX3_lot 62 = .ok (.iload_n 1, 1) := by decide +kernel
theorem dX3_lot_63 : decode cX3_lot 63 = .ok (.iload_n 3, 1) := by decide +kernel
theorem dX3_lot_64 : decode cX3_lot 64 = .ok (.invokestatic 59, 3) := by decide +kernel
theorem dX3_lot_67 : decode cX3_lot 67 = .ok (.ireturn, 1) := by decide +kernel
theorem dX3_lot_68 : decode cX3_lot 68 = .ok (.iload_n 2, 1) := by decide +kernel
theorem dX3_lot_69 : decode cX3_lot 69 = .ok (.iconst 2, 1) := by decide +kernel
theorem dX3_lot_70 : decode cX3_lot 70 = .ok (.if_icmp .ne 32, 3) := by decide +kernel
theorem dX3_lot_73 : decode cX3_lot 73 = .ok (.iload_n 3, 1) := by decide +kernel
theorem dX3_lot_74 : decode cX3_lot 74 = .ok (.iconst (-1), 1) := by decide +kernel
theorem dX3_lot_75 : decode cX3_lot 75 = .ok (.if_icmp .eq 14, 3) := by decide +kernel
theorem dX3_lot_78 : decode cX3_lot 78 = .ok (.aload_n 0, 1) := by decide +kernel
theorem dX3_lot_79 : decode cX3_lot 79 = .ok (.getfield 10, 3) := by decide +kernel
theorem dX3_lot_82 : decode cX3_lot 82 = .ok (.iload_n 3, 1) := by decide +kernel
theorem dX3_lot_83 : decode cX3_lot 83 = .ok (.invokevirtual 66, 3) := by decide +kernel
theorem dX3_lot_86 : decode cX3_lot 86 = .ok (.ifCond .eq 16, 3) := by decide +kernel
theorem dX3_lot_89 : decode cX3_lot 89 = .ok (.aload_n 0, 1) := by decide +kernel
theorem dX3_lot_90 : decode cX3_lot 90 = .ok (.getfield 10, 3) := by decide +kernel
theorem dX3_lot_93 : decode cX3_lot 93 = .ok (.getfield 69, 3) := by decide +kernel
theorem dX3_lot_96 : decode cX3_lot 96 = .ok (.iload_n 1, 1) := by decide +kernel
theorem dX3_lot_97 : decode cX3_lot 97 = .ok (.iload_n 3, 1) := by decide +kernel
theorem dX3_lot_98 : decode cX3_lot 98 = .ok (.invokestatic 59, 3) := by decide +kernel
theorem dX3_lot_101 : decode cX3_lot 101 = .ok (.ireturn, 1) := by decide +kernel
theorem dX3_lot_102 : decode cX3_lot 102 = .ok (.aload_n 0, 1) := by decide +kernel
theorem dX3_lot_103 : decode cX3_lot 103 = .ok (.iconst 0, 1) := by decide +kernel
theorem dX3_lot_104 : decode cX3_lot 104 = .ok (.invokevirtual 48, 3) := by decide +kernel
theorem dX3_lot_107 : decode cX3_lot 107 = .ok (.ireturn, 1) := by decide +kernel
theorem dX3_lotOf_0 : decode cX3_lotOf 0 = .ok (.iload_n 1, 1) := by decide +kernel
theorem dX3_lotOf_1 : decode cX3_lotOf 1 = .ok (.invokestatic 44, 3) := by decide +kernel
theorem dX3_lotOf_4 : decode cX3_lotOf 4 = .ok (.ifCond .ne 9, 3) := by decide +kernel
theorem dX3_lotOf_7 : decode cX3_lotOf 7 = .ok (.aload_n 0, 1) := by decide +kernel
theorem dX3_lotOf_8 : decode cX3_lotOf 8 = .ok (.iconst 0, 1) := by decide +kernel
theorem dX3_lotOf_9 : decode cX3_lotOf 9 = .ok (.invokevirtual 48, 3) := by decide +kernel
theorem dX3_lotOf_12 : decode cX3_lotOf 12 = .ok (.ireturn, 1) := by decide +kernel
theorem dX3_lotOf_13 : decode cX3_lotOf 13 = .ok (.iload_n 2, 1) := by decide +kernel
theorem dX3_lotOf_14 : decode cX3_lotOf 14 = .ok (.tableswitch 82 0 4 #[34, 44, 54, 64, 73], 34) := by decide +kernel
theorem dX3_lotOf_48 : decode cX3_lotOf 48 = .ok (.aload_n 0, 1) := by decide +kernel
theorem dX3_lotOf_49 : decode cX3_lotOf 49 = .ok (.getfield 10, 3) := by decide +kernel
theorem dX3_lotOf_52 : decode cX3_lotOf 52 = .ok (.getfield 56, 3) := by decide +kernel
theorem dX3_lotOf_55 : decode cX3_lotOf 55 = .ok (.iload_n 1, 1) := by decide +kernel
theorem dX3_lotOf_56 : decode cX3_lotOf 56 = .ok (.iaload, 1) := by decide +kernel
theorem dX3_lotOf_57 : decode cX3_lotOf 57 = .ok (.ireturn, 1) := by decide +kernel
theorem dX3_lotOf_58 : decode cX3_lotOf 58 = .ok (.aload_n 0, 1) := by decide +kernel
theorem dX3_lotOf_59 : decode cX3_lotOf 59 = .ok (.getfield 10, 3) := by decide +kernel
theorem dX3_lotOf_62 : decode cX3_lotOf 62 = .ok (.getfield 63, 3) := by decide +kernel
theorem dX3_lotOf_65 : decode cX3_lotOf 65 = .ok (.iload_n 1, 1) := by decide +kernel
theorem dX3_lotOf_66 : decode cX3_lotOf 66 = .ok (.iaload, 1) := by decide +kernel
theorem dX3_lotOf_67 : decode cX3_lotOf 67 = .ok (.ireturn, 1) := by decide +kernel
theorem dX3_lotOf_68 : decode cX3_lotOf 68 = .ok (.aload_n 0, 1) := by decide +kernel
theorem dX3_lotOf_69 : decode cX3_lotOf 69 = .ok (.getfield 10, 3) := by decide +kernel
theorem dX3_lotOf_72 : decode cX3_lotOf 72 = .ok (.getfield 69, 3) := by decide +kernel
theorem dX3_lotOf_75 : decode cX3_lotOf 75 = .ok (.iload_n 1, 1) := by decide +kernel
theorem dX3_lotOf_76 : decode cX3_lotOf 76 = .ok (.iaload, 1) := by decide +kernel
theorem dX3_lotOf_77 : decode cX3_lotOf 77 = .ok (.ireturn, 1) := by decide +kernel
theorem dX3_lotOf_78 : decode cX3_lotOf 78 = .ok (.aload_n 0, 1) := by decide +kernel
theorem dX3_lotOf_79 : decode cX3_lotOf 79 = .ok (.getfield 10, 3) := by decide +kernel
theorem dX3_lotOf_82 : decode cX3_lotOf 82 = .ok (.iload_n 1, 1) := by decide +kernel
theorem dX3_lotOf_83 : decode cX3_lotOf 83 = .ok (.invokevirtual 72, 3) := by decide +kernel
theorem dX3_lotOf_86 : decode cX3_lotOf 86 = .ok (.ireturn, 1) := by decide +kernel
theorem dX3_lotOf_87 : decode cX3_lotOf 87 = .ok (.aload_n 0, 1) := by decide +kernel
theorem dX3_lotOf_88 : decode cX3_lotOf 88 = .ok (.getfield 10, 3) := by decide +kernel
theorem dX3_lotOf_91 : decode cX3_lotOf 91 = .ok (.iload_n 1, 1) := by decide +kernel
theorem dX3_lotOf_92 : decode cX3_lotOf 92 = .ok (.invokevirtual 75, 3) := by decide +kernel
theorem dX3_lotOf_95 : decode cX3_lotOf 95 = .ok (.ireturn, 1) := by decide +kernel
theorem dX3_lotOf_96 : decode cX3_lotOf 96 = .ok (.aload_n 0, 1) := by decide +kernel
theorem dX3_lotOf_97 : decode cX3_lotOf 97 = .ok (.iconst 0, 1) := by decide +kernel
theorem dX3_lotOf_98 : decode cX3_lotOf 98 = .ok (.invokevirtual 48, 3) := by decide +kernel
theorem dX3_lotOf_101 : decode cX3_lotOf 101 = .ok (.ireturn, 1) := by decide +kernel
theorem dX3_sun_0 : decode cX3_sun 0 = .ok (.iload_n 1, 1) := by decide +kernel
theorem dX3_sun_1 : decode cX3_sun 1 = .ok (.iconst 0, 1) := by decide +kernel
theorem dX3_sun_2 : decode cX3_sun 2 = .ok (.iconst 5, 1) := by decide +kernel
theorem dX3_sun_3 : decode cX3_sun 3 = .ok (.invokestatic 52, 3) := by decide +kernel
theorem dX3_sun_6 : decode cX3_sun 6 = .ok (.ifCond .eq 13, 3) := by decide +kernel
theorem dX3_sun_9 : decode cX3_sun 9 = .ok (.iload_n 2, 1) := by decide +kernel
theorem dX3_sun_10 : decode cX3_sun 10 = .ok (.iconst 0, 1) := by decide +kernel
theorem dX3_sun_11 : decode cX3_sun 11 = .ok (.bipush 40, 2) := by decide +kernel
theorem dX3_sun_13 : decode cX3_sun 13 = .ok (.invokestatic 52, 3) := by decide +kernel
theorem dX3_sun_16 : decode cX3_sun 16 = .ok (.ifCond .ne 9, 3) := by decide +kernel
theorem dX3_sun_19 : decode cX3_sun 19 = .ok (.aload_n 0, 1) := by decide +kernel
theorem dX3_sun_20 : decode cX3_sun 20 = .ok (.iconst 0, 1) := by decide +kernel
theorem dX3_sun_21 : decode cX3_sun 21 = .ok (.invokevirtual 48, 3) := by decide +kernel
theorem dX3_sun_24 : decode cX3_sun 24 = .ok (.ireturn, 1) := by decide +kernel
theorem dX3_sun_25 : decode cX3_sun 25 = .ok (.aload_n 0, 1) := by decide +kernel
theorem dX3_sun_26 : decode cX3_sun 26 = .ok (.getfield 10, 3) := by decide +kernel
theorem dX3_sun_29 : decode cX3_sun 29 = .ok (.getfield 78, 3) := by decide +kernel
theorem dX3_sun_32 : decode cX3_sun 32 = .ok (.iload_n 1, 1) := by decide +kernel
theorem dX3_sun_33 : decode cX3_sun 33 = .ok (.iload_n 2, 1) := by decide +kernel
theorem dX3_sun_34 : decode cX3_sun 34 = .ok (.invokestatic 59, 3) := by decide +kernel
theorem dX3_sun_37 : decode cX3_sun 37 = .ok (.ireturn, 1) := by decide +kernel
theorem dX3_mist_0 : decode cX3_mist 0 = .ok (.iload_n 1, 1) := by decide +kernel
theorem dX3_mist_1 : decode cX3_mist 1 = .ok (.iconst 0, 1) := by decide +kernel
theorem dX3_mist_2 : decode cX3_mist 2 = .ok (.bipush 40, 2) := by decide +kernel
theorem dX3_mist_4 : decode cX3_mist 4 = .ok (.invokestatic 52, 3) := by decide +kernel
theorem dX3_mist_7 : decode cX3_mist 7 = .ok (.ifCond .ne 9, 3) := by decide +kernel
theorem dX3_mist_10 : decode cX3_mist 10 = .ok (.aload_n 0, 1) := by decide +kernel
theorem dX3_mist_11 : decode cX3_mist 11 = .ok (.iconst 0, 1) := by decide +kernel
theorem dX3_mist_12 : decode cX3_mist 12 = .ok (.invokevirtual 48, 3) := by decide +kernel
theorem dX3_mist_15 : decode cX3_mist 15 = .ok (.ireturn, 1) := by decide +kernel
theorem dX3_mist_16 : decode cX3_mist 16 = .ok (.aload_n 0, 1) := by decide +kernel
theorem dX3_mist_17 : decode cX3_mist 17 = .ok (.getfield 10, 3) := by decide +kernel
theorem dX3_mist_20 : decode cX3_mist 20 = .ok (.getfield 81, 3) := by decide +kernel
theorem dX3_mist_23 : decode cX3_mist 23 = .ok (.istore_n 2, 1) := by decide +kernel
theorem dX3_mist_24 : decode cX3_mist 24 = .ok (.aload_n 0, 1) := by decide +kernel
theorem dX3_mist_25 : decode cX3_mist 25 = .ok (.getfield 10, 3) := by decide +kernel
theorem dX3_mist_28 : decode cX3_mist 28 = .ok (.iload_n 1, 1) := by decide +kernel
theorem dX3_mist_29 : decode cX3_mist 29 = .ok (.putfield 81, 3) := by decide +kernel
theorem dX3_mist_32 : decode cX3_mist 32 = .ok (.iload_n 2, 1) := by decide +kernel
theorem dX3_mist_33 : decode cX3_mist 33 = .ok (.ireturn, 1) := by decide +kernel
theorem dX3_person_0 : decode cX3_person 0 = .ok (.iload_n 1, 1) := by decide +kernel
theorem dX3_person_1 : decode cX3_person 1 = .ok (.invokestatic 85, 3) := by decide +kernel
theorem dX3_person_4 : decode cX3_person 4 = .ok (.ifCond .ne 9, 3) := by decide +kernel
theorem dX3_person_7 : decode cX3_person 7 = .ok (.aload_n 0, 1) := by decide +kernel
theorem dX3_person_8 : decode cX3_person 8 = .ok (.iconst 0, 1) := by decide +kernel
theorem dX3_person_9 : decode cX3_person 9 = .ok (.invokevirtual 48, 3) := by decide +kernel
theorem dX3_person_12 : decode cX3_person 12 = .ok (.ireturn, 1) := by decide +kernel
theorem dX3_person_13 : decode cX3_person 13 = .ok (.aload_n 0, 1) := by decide +kernel
theorem dX3_person_14 : decode cX3_person 14 = .ok (.getfield 10, 3) := by decide +kernel
theorem dX3_person_17 : decode cX3_person 17 = .ok (.getfield 88, 3) := by decide +kernel
theorem dX3_person_20 : decode cX3_person 20 = .ok (.bipush 8, 2) := by decide +kernel
theorem dX3_person_22 : decode cX3_person 22 = .ok (.if_icmp .lt 9, 3) := by decide +kernel
theorem dX3_person_25 : decode cX3_person 25 = .ok (.aload_n 0, 1) := by decide +kernel
theorem dX3_person_26 : decode cX3_person 26 = .ok (.iconst 1, 1) := by decide +kernel
theorem dX3_person_27 : decode cX3_person 27 = .ok (.invokevirtual 48, 3) := by decide +kernel
theorem dX3_person_30 : decode cX3_person 30 = .ok (.ireturn, 1) := by decide +kernel
theorem dX3_person_31 : decode cX3_person 31 = .ok (.aload_n 0, 1) := by decide +kernel
theorem dX3_person_32 : decode cX3_person 32 = .ok (.getfield 10, 3) := by decide +kernel
theorem dX3_person_35 : decode cX3_person 35 = .ok (.iload_n 1, 1) := by decide +kernel
theorem dX3_person_36 : decode cX3_person 36 = .ok (.invokevirtual 91, 3) := by decide +kernel
theorem dX3_person_39 : decode cX3_person 39 = .ok (.ireturn, 1) := by decide +kernel
theorem dX3_of_0 : decode cX3_of 0 = .ok (.aload_n 0, 1) := by decide +kernel
theorem dX3_of_1 : decode cX3_of 1 = .ok (.getfield 10, 3) := by decide +kernel
theorem dX3_of_4 : decode cX3_of 4 = .ok (.iload_n 1, 1) := by decide +kernel
theorem dX3_of_5 : decode cX3_of 5 = .ok (.invokevirtual 66, 3) := by decide +kernel
theorem dX3_of_8 : decode cX3_of 8 = .ok (.ifCond .ne 9, 3) := by decide +kernel
theorem dX3_of_11 : decode cX3_of 11 = .ok (.aload_n 0, 1) := by decide +kernel
theorem dX3_of_12 : decode cX3_of 12 = .ok (.iconst 0, 1) := by decide +kernel
theorem dX3_of_13 : decode cX3_of 13 = .ok (.invokevirtual 48, 3) := by decide +kernel
theorem dX3_of_16 : decode cX3_of 16 = .ok (.ireturn, 1) := by decide +kernel
theorem dX3_of_17 : decode cX3_of 17 = .ok (.iload_n 2, 1) := by decide +kernel
theorem dX3_of_18 : decode cX3_of 18 = .ok (.tableswitch 87 0 7 #[46, 87, 87, 87, 87, 56, 69, 78], 46) := by decide +kernel
theorem dX3_of_64 : decode cX3_of 64 = .ok (.aload_n 0, 1) := by decide +kernel
theorem dX3_of_65 : decode cX3_of 65 = .ok (.getfield 10, 3) := by decide +kernel
theorem dX3_of_68 : decode cX3_of 68 = .ok (.getfield 94, 3) := by decide +kernel
theorem dX3_of_71 : decode cX3_of 71 = .ok (.iload_n 1, 1) := by decide +kernel
theorem dX3_of_72 : decode cX3_of 72 = .ok (.iaload, 1) := by decide +kernel
theorem dX3_of_73 : decode cX3_of 73 = .ok (.ireturn, 1) := by decide +kernel
theorem dX3_of_74 : decode cX3_of 74 = .ok (.aload_n 0, 1) := by decide +kernel
theorem dX3_of_75 : decode cX3_of 75 = .ok (.getfield 10, 3) := by decide +kernel
theorem dX3_of_78 : decode cX3_of 78 = .ok (.getfield 94, 3) := by decide +kernel
theorem dX3_of_81 : decode cX3_of 81 = .ok (.iload_n 1, 1) := by decide +kernel
theorem dX3_of_82 : decode cX3_of 82 = .ok (.iaload, 1) := by decide +kernel
theorem dX3_of_83 : decode cX3_of 83 = .ok (.invokestatic 97, 3) := by decide +kernel
theorem dX3_of_86 : decode cX3_of 86 = .ok (.ireturn, 1) := by decide +kernel
theorem dX3_of_87 : decode cX3_of 87 = .ok (.aload_n 0, 1) := by decide +kernel
theorem dX3_of_88 : decode cX3_of 88 = .ok (.getfield 10, 3) := by decide +kernel
theorem dX3_of_91 : decode cX3_of 91 = .ok (.iload_n 1, 1) := by decide +kernel
theorem dX3_of_92 : decode cX3_of 92 = .ok (.invokevirtual 100, 3) := by decide +kernel
theorem dX3_of_95 : decode cX3_of 95 = .ok (.ireturn, 1) := by decide +kernel
theorem dX3_of_96 : decode cX3_of 96 = .ok (.aload_n 0, 1) := by decide +kernel
theorem dX3_of_97 : decode cX3_of 97 = .ok (.getfield 10, 3) := by decide +kernel
theorem dX3_of_100 : decode cX3_of 100 = .ok (.iload_n 1, 1) := by decide +kernel
theorem dX3_of_101 : decode cX3_of 101 = .ok (.invokevirtual 103, 3) := by decide +kernel
theorem dX3_of_104 : decode cX3_of 104 = .ok (.ireturn, 1) := by decide +kernel
theorem dX3_of_105 : decode cX3_of 105 = .ok (.iload_n 2, 1) := by decide +kernel
theorem dX3_of_106 : decode cX3_of 106 = .ok (.iconst 1, 1) := by decide +kernel
theorem dX3_of_107 : decode cX3_of 107 = .ok (.iconst 4, 1) := by decide +kernel
theorem dX3_of_108 : decode cX3_of 108 = .ok (.invokestatic 52, 3) := by decide +kernel
theorem dX3_of_111 : decode cX3_of 111 = .ok (.ifCond .eq 15, 3) := by decide +kernel
theorem dX3_of_114 : decode cX3_of 114 = .ok (.aload_n 0, 1) := by decide +kernel
theorem dX3_of_115 : decode cX3_of 115 = .ok (.getfield 10, 3) := by decide +kernel
theorem dX3_of_118 : decode cX3_of 118 = .ok (.iload_n 1, 1) := by decide +kernel
theorem dX3_of_119 : decode cX3_of 119 = .ok (.iload_n 2, 1) := by decide +kernel
theorem dX3_of_120 : decode cX3_of 120 = .ok (.invokevirtual 106, 3) := by decide +kernel
theorem dX3_of_123 : decode cX3_of 123 = .ok (.goto 8, 3) := by decide +kernel
theorem dX3_of_126 : decode cX3_of 126 = .ok (.aload_n 0, 1) := by decide +kernel
theorem dX3_of_127 : decode cX3_of 127 = .ok (.iconst 0, 1) := by decide +kernel
theorem dX3_of_128 : decode cX3_of 128 = .ok (.invokevirtual 48, 3) := by decide +kernel
theorem dX3_of_131 : decode cX3_of 131 = .ok (.ireturn, 1) := by decide +kernel
theorem dX3_change_0 : decode cX3_change 0 = .ok (.aload_n 0, 1) := by decide +kernel
theorem dX3_change_1 : decode cX3_change 1 = .ok (.getfield 10, 3) := by decide +kernel
theorem dX3_change_4 : decode cX3_change 4 = .ok (.iload_n 1, 1) := by decide +kernel
theorem dX3_change_5 : decode cX3_change 5 = .ok (.invokevirtual 66, 3) := by decide +kernel
theorem dX3_change_8 : decode cX3_change 8 = .ok (.ifCond .ne 9, 3) := by decide +kernel
theorem dX3_change_11 : decode cX3_change 11 = .ok (.aload_n 0, 1) := by decide +kernel
theorem dX3_change_12 : decode cX3_change 12 = .ok (.iconst 0, 1) := by decide +kernel
theorem dX3_change_13 : decode cX3_change 13 = .ok (.invokevirtual 48, 3) := by decide +kernel
theorem dX3_change_16 : decode cX3_change 16 = .ok (.ireturn, 1) := by decide +kernel
theorem dX3_change_17 : decode cX3_change 17 = .ok (.iload_n 2, 1) := by decide +kernel
theorem dX3_change_18 : decode cX3_change 18 = .ok (.ifCond .ne 23, 3) := by decide +kernel
theorem dX3_change_21 : decode cX3_change 21 = .ok (.iload_n 3, 1) := by decide +kernel
theorem dX3_change_22 : decode cX3_change 22 = .ok (.invokestatic 85, 3) := by decide +kernel
theorem dX3_change_25 : decode cX3_change 25 = .ok (.ifCond .eq 16, 3) := by decide +kernel
theorem dX3_change_28 : decode cX3_change 28 = .ok (.aload_n 0, 1) := by decide +kernel
theorem dX3_change_29 : decode cX3_change 29 = .ok (.getfield 10, 3) := by decide +kernel
theorem dX3_change_32 : decode cX3_change 32 = .ok (.getfield 94, 3) := by decide +kernel
theorem dX3_change_35 : decode cX3_change 35 = .ok (.iload_n 1, 1) := by decide +kernel
theorem dX3_change_36 : decode cX3_change 36 = .ok (.iload_n 3, 1) := by decide +kernel
theorem dX3_change_37 : decode cX3_change 37 = .ok (.invokestatic 59, 3) := by decide +kernel
theorem dX3_change_40 : decode cX3_change 40 = .ok (.ireturn, 1) := by decide +kernel
theorem dX3_change_41 : decode cX3_change 41 = .ok (.iload_n 2, 1) := by decide +kernel
theorem dX3_change_42 : decode cX3_change 42 = .ok (.iconst 1, 1) := by decide +kernel
theorem dX3_change_43 : decode cX3_change 43 = .ok (.if_icmp .ne 28, 3) := by decide +kernel
theorem dX3_change_46 : decode cX3_change 46 = .ok (.iload_n 3, 1) := by decide +kernel
theorem dX3_change_47 : decode cX3_change 47 = .ok (.iconst (-1), 1) := by decide +kernel
theorem dX3_change_48 : decode cX3_change 48 = .ok (.if_icmp .eq 10, 3) := by decide +kernel
theorem dX3_change_51 : decode cX3_change 51 = .ok (.iload_n 3, 1) := by decide +kernel
theorem dX3_change_52 : decode cX3_change 52 = .ok (.invokestatic 44, 3) := by decide +kernel
theorem dX3_change_55 : decode cX3_change 55 = .ok (.ifCond .eq 16, 3) := by decide +kernel
theorem dX3_change_58 : decode cX3_change 58 = .ok (.aload_n 0, 1) := by decide +kernel
theorem dX3_change_59 : decode cX3_change 59 = .ok (.getfield 10, 3) := by decide +kernel
theorem dX3_change_62 : decode cX3_change 62 = .ok (.getfield 110, 3) := by decide +kernel
theorem dX3_change_65 : decode cX3_change 65 = .ok (.iload_n 1, 1) := by decide +kernel
theorem dX3_change_66 : decode cX3_change 66 = .ok (.iload_n 3, 1) := by decide +kernel
theorem dX3_change_67 : decode cX3_change 67 = .ok (.invokestatic 59, 3) := by decide +kernel
theorem dX3_change_70 : decode cX3_change 70 = .ok (.ireturn, 1) := by decide +kernel
theorem dX3_change_71 : decode cX3_change 71 = .ok (.iload_n 2, 1) := by decide +kernel
theorem dX3_change_72 : decode cX3_change 72 = .ok (.iconst 2, 1) := by decide +kernel
theorem dX3_change_73 : decode cX3_change 73 = .ok (.if_icmp .ne 26, 3) := by decide +kernel
theorem dX3_change_76 : decode cX3_change 76 = .ok (.iload_n 3, 1) := by decide +kernel
theorem dX3_change_77 : decode cX3_change 77 = .ok (.iconst 0, 1) := by decide +kernel
theorem dX3_change_78 : decode cX3_change 78 = .ok (.bipush 99, 2) := by decide +kernel
theorem dX3_change_80 : decode cX3_change 80 = .ok (.invokestatic 52, 3) := by decide +kernel
theorem dX3_change_83 : decode cX3_change 83 = .ok (.ifCond .eq 16, 3) := by decide +kernel
theorem dX3_change_86 : decode cX3_change 86 = .ok (.aload_n 0, 1) := by decide +kernel
theorem dX3_change_87 : decode cX3_change 87 = .ok (.getfield 10, 3) := by decide +kernel
theorem dX3_change_90 : decode cX3_change 90 = .ok (.getfield 113, 3) := by decide +kernel
theorem dX3_change_93 : decode cX3_change 93 = .ok (.iload_n 1, 1) := by decide +kernel
theorem dX3_change_94 : decode cX3_change 94 = .ok (.iload_n 3, 1) := by decide +kernel
theorem dX3_change_95 : decode cX3_change 95 = .ok (.invokestatic 59, 3) := by decide +kernel
theorem dX3_change_98 : decode cX3_change 98 = .ok (.ireturn, 1) := by decide +kernel
theorem dX3_change_99 : decode cX3_change 99 = .ok (.iload_n 2, 1) := by decide +kernel
theorem dX3_change_100 : decode cX3_change 100 = .ok (.iconst 3, 1) := by decide +kernel
theorem dX3_change_101 : decode cX3_change 101 = .ok (.if_icmp .ne 27, 3) := by decide +kernel
theorem dX3_change_104 : decode cX3_change 104 = .ok (.iload_n 3, 1) := by decide +kernel
theorem dX3_change_105 : decode cX3_change 105 = .ok (.iconst 0, 1) := by decide +kernel
theorem dX3_change_106 : decode cX3_change 106 = .ok (.sipush 9999, 3) := by decide +kernel
theorem dX3_change_109 : decode cX3_change 109 = .ok (.invokestatic 52, 3) := by decide +kernel
theorem dX3_change_112 : decode cX3_change 112 = .ok (.ifCond .eq 16, 3) := by decide +kernel
theorem dX3_change_115 : decode cX3_change 115 = .ok (.aload_n 0, 1) := by decide +kernel
theorem dX3_change_116 : decode cX3_change 116 = .ok (.getfield 10, 3) := by decide +kernel
theorem dX3_change_119 : decode cX3_change 119 = .ok (.getfield 116, 3) := by decide +kernel
theorem dX3_change_122 : decode cX3_change 122 = .ok (.iload_n 1, 1) := by decide +kernel
theorem dX3_change_123 : decode cX3_change 123 = .ok (.iload_n 3, 1) := by decide +kernel
theorem dX3_change_124 : decode cX3_change 124 = .ok (.invokestatic 59, 3) := by decide +kernel
theorem dX3_change_127 : decode cX3_change 127 = .ok (.ireturn, 1) := by decide +kernel
theorem dX3_change_128 : decode cX3_change 128 = .ok (.iload_n 2, 1) := by decide +kernel
theorem dX3_change_129 : decode cX3_change 129 = .ok (.iconst 4, 1) := by decide +kernel
theorem dX3_change_130 : decode cX3_change 130 = .ok (.if_icmp .ne 27, 3) := by decide +kernel
theorem dX3_change_133 : decode cX3_change 133 = .ok (.iload_n 3, 1) := by decide +kernel
theorem dX3_change_134 : decode cX3_change 134 = .ok (.iconst 0, 1) := by decide +kernel
theorem dX3_change_135 : decode cX3_change 135 = .ok (.sipush 9999, 3) := by decide +kernel
theorem dX3_change_138 : decode cX3_change 138 = .ok (.invokestatic 52, 3) := by decide +kernel
theorem dX3_change_141 : decode cX3_change 141 = .ok (.ifCond .eq 16, 3) := by decide +kernel
theorem dX3_change_144 : decode cX3_change 144 = .ok (.aload_n 0, 1) := by decide +kernel
theorem dX3_change_145 : decode cX3_change 145 = .ok (.getfield 10, 3) := by decide +kernel
theorem dX3_change_148 : decode cX3_change 148 = .ok (.getfield 119, 3) := by decide +kernel
theorem dX3_change_151 : decode cX3_change 151 = .ok (.iload_n 1, 1) := by decide +kernel
theorem dX3_change_152 : decode cX3_change 152 = .ok (.iload_n 3, 1) := by decide +kernel
theorem dX3_change_153 : decode cX3_change 153 = .ok (.invokestatic 59, 3) := by decide +kernel
theorem dX3_change_156 : decode cX3_change 156 = .ok (.ireturn, 1) := by decide +kernel
theorem dX3_change_157 : decode cX3_change 157 = .ok (.aload_n 0, 1) := by decide +kernel
theorem dX3_change_158 : decode cX3_change 158 = .ok (.iconst 0, 1) := by decide +kernel
theorem dX3_change_159 : decode cX3_change 159 = .ok (.invokevirtual 48, 3) := by decide +kernel
theorem dX3_change_162 : decode cX3_change 162 = .ok (.ireturn, 1) := by decide +kernel
theorem dX3_trust_0 : decode cX3_trust 0 = .ok (.aload_n 0, 1) := by decide +kernel
theorem dX3_trust_1 : decode cX3_trust 1 = .ok (.getfield 10, 3) := by decide +kernel
theorem dX3_trust_4 : decode cX3_trust 4 = .ok (.iload_n 1, 1) := by decide +kernel
theorem dX3_trust_5 : decode cX3_trust 5 = .ok (.invokevirtual 66, 3) := by decide +kernel
theorem dX3_trust_8 : decode cX3_trust 8 = .ok (.ifCond .eq 10, 3) := by decide +kernel
theorem dX3_trust_11 : decode cX3_trust 11 = .ok (.iload_n 2, 1) := by decide +kernel
theorem dX3_trust_12 : decode cX3_trust 12 = .ok (.invokestatic 44, 3) := by decide +kernel
theorem dX3_trust_15 : decode cX3_trust 15 = .ok (.ifCond .ne 9, 3) := by decide +kernel
theorem dX3_trust_18 : decode cX3_trust 18 = .ok (.aload_n 0, 1) := by decide +kernel
theorem dX3_trust_19 : decode cX3_trust 19 = .ok (.iconst 0, 1) := by decide +kernel
theorem dX3_trust_20 : decode cX3_trust 20 = .ok (.invokevirtual 48, 3) := by decide +kernel
theorem dX3_trust_23 : decode cX3_trust 23 = .ok (.ireturn, 1) := by decide +kernel
theorem dX3_trust_24 : decode cX3_trust 24 = .ok (.aload_n 0, 1) := by decide +kernel
theorem dX3_trust_25 : decode cX3_trust 25 = .ok (.getfield 10, 3) := by decide +kernel
theorem dX3_trust_28 : decode cX3_trust 28 = .ok (.iload_n 1, 1) := by decide +kernel
theorem dX3_trust_29 : decode cX3_trust 29 = .ok (.iload_n 2, 1) := by decide +kernel
theorem dX3_trust_30 : decode cX3_trust 30 = .ok (.invokevirtual 122, 3) := by decide +kernel
theorem dX3_trust_33 : decode cX3_trust 33 = .ok (.ireturn, 1) := by decide +kernel
theorem dX3_go_0 : decode cX3_go 0 = .ok (.iload_n 1, 1) := by decide +kernel
theorem dX3_go_1 : decode cX3_go 1 = .ok (.iconst 1, 1) := by decide +kernel
theorem dX3_go_2 : decode cX3_go 2 = .ok (.bipush 60, 2) := by decide +kernel
theorem dX3_go_4 : decode cX3_go 4 = .ok (.invokestatic 52, 3) := by decide +kernel
theorem dX3_go_7 : decode cX3_go 7 = .ok (.ifCond .ne 9, 3) := by decide +kernel
theorem dX3_go_10 : decode cX3_go 10 = .ok (.aload_n 0, 1) := by decide +kernel
theorem dX3_go_11 : decode cX3_go 11 = .ok (.iconst 0, 1) := by decide +kernel
theorem dX3_go_12 : decode cX3_go 12 = .ok (.invokevirtual 48, 3) := by decide +kernel
theorem dX3_go_15 : decode cX3_go 15 = .ok (.ireturn, 1) := by decide +kernel
theorem dX3_go_16 : decode cX3_go 16 = .ok (.aload_n 0, 1) := by decide +kernel
theorem dX3_go_17 : decode cX3_go 17 = .ok (.getfield 10, 3) := by decide +kernel
theorem dX3_go_20 : decode cX3_go 20 = .ok (.getfield 125, 3) := by decide +kernel
theorem dX3_go_23 : decode cX3_go 23 = .ok (.iload_n 1, 1) := by decide +kernel
theorem dX3_go_24 : decode cX3_go 24 = .ok (.iadd, 1) := by decide +kernel
theorem dX3_go_25 : decode cX3_go 25 = .ok (.ldc 128, 2) := by decide +kernel
theorem dX3_go_27 : decode cX3_go 27 = .ok (.if_icmp .le 9, 3) := by decide +kernel
theorem dX3_go_30 : decode cX3_go 30 = .ok (.aload_n 0, 1) := by decide +kernel
theorem dX3_go_31 : decode cX3_go 31 = .ok (.iconst 4, 1) := by decide +kernel
theorem dX3_go_32 : decode cX3_go 32 = .ok (.invokevirtual 48, 3) := by decide +kernel
theorem dX3_go_35 : decode cX3_go 35 = .ok (.ireturn, 1) := by decide +kernel
theorem dX3_go_36 : decode cX3_go 36 = .ok (.aload_n 0, 1) := by decide +kernel
theorem dX3_go_37 : decode cX3_go 37 = .ok (.getfield 10, 3) := by decide +kernel
theorem dX3_go_40 : decode cX3_go 40 = .ok (.iload_n 1, 1) := by decide +kernel
theorem dX3_go_41 : decode cX3_go 41 = .ok (.invokevirtual 129, 3) := by decide +kernel
theorem dX3_go_44 : decode cX3_go 44 = .ok (.aload_n 0, 1) := by decide +kernel
theorem dX3_go_45 : decode cX3_go 45 = .ok (.getfield 10, 3) := by decide +kernel
theorem dX3_go_48 : decode cX3_go 48 = .ok (.invokevirtual 133, 3) := by decide +kernel
theorem dX3_go_51 : decode cX3_go 51 = .ok (.ireturn, 1) := by decide +kernel
theorem dX3_now_0 : decode cX3_now 0 = .ok (.iload_n 1, 1) := by decide +kernel
theorem dX3_now_1 : decode cX3_now 1 = .ok (.tableswitch 152 0 7 #[47, 55, 68, 76, 94, 112, 125, 143], 47) := by decide +kernel
theorem dX3_now_48 : decode cX3_now 48 = .ok (.aload_n 0, 1) := by decide +kernel
theorem dX3_now_49 : decode cX3_now 49 = .ok (.getfield 10, 3) := by decide +kernel
theorem dX3_now_52 : decode cX3_now 52 = .ok (.getfield 125, 3) := by decide +kernel
theorem dX3_now_55 : decode cX3_now 55 = .ok (.ireturn, 1) := by decide +kernel
theorem dX3_now_56 : decode cX3_now 56 = .ok (.aload_n 0, 1) := by decide +kernel
theorem dX3_now_57 : decode cX3_now 57 = .ok (.getfield 10, 3) := by decide +kernel
theorem dX3_now_60 : decode cX3_now 60 = .ok (.getfield 56, 3) := by decide +kernel
theorem dX3_now_63 : decode cX3_now 63 = .ok (.bipush 10, 2) := by decide +kernel
theorem dX3_now_65 : decode cX3_now 65 = .ok (.invokestatic 137, 3) := by decide +kernel
theorem dX3_now_68 : decode cX3_now 68 = .ok (.ireturn, 1) := by decide +kernel
theorem dX3_now_69 : decode cX3_now 69 = .ok (.aload_n 0, 1) := by decide +kernel
theorem dX3_now_70 : decode cX3_now 70 = .ok (.getfield 10, 3) := by decide +kernel
theorem dX3_now_73 : decode cX3_now 73 = .ok (.invokevirtual 133, 3) := by decide +kernel
theorem dX3_now_76 : decode cX3_now 76 = .ok (.ireturn, 1) := by decide +kernel
theorem dX3_now_77 : decode cX3_now 77 = .ok (.aload_n 0, 1) := by decide +kernel
theorem dX3_now_78 : decode cX3_now 78 = .ok (.getfield 10, 3) := by decide +kernel
theorem dX3_now_81 : decode cX3_now 81 = .ok (.getfield 116, 3) := by decide +kernel
theorem dX3_now_84 : decode cX3_now 84 = .ok (.aload_n 0, 1) := by decide +kernel
theorem dX3_now_85 : decode cX3_now 85 = .ok (.getfield 10, 3) := by decide +kernel
theorem dX3_now_88 : decode cX3_now 88 = .ok (.getfield 88, 3) := by decide +kernel
theorem dX3_now_91 : decode cX3_now 91 = .ok (.invokestatic 137, 3) := by decide +kernel
theorem dX3_now_94 : decode cX3_now 94 = .ok (.ireturn, 1) := by decide +kernel
theorem dX3_now_95 : decode cX3_now 95 = .ok (.aload_n 0, 1) := by decide +kernel
theorem dX3_now_96 : decode cX3_now 96 = .ok (.getfield 10, 3) := by decide +kernel
theorem dX3_now_99 : decode cX3_now 99 = .ok (.getfield 119, 3) := by decide +kernel
theorem dX3_now_102 : decode cX3_now 102 = .ok (.aload_n 0, 1) := by decide +kernel
theorem dX3_now_103 : decode cX3_now 103 = .ok (.getfield 10, 3) := by decide +kernel
theorem dX3_now_106 : decode cX3_now 106 = .ok (.getfield 88, 3) := by decide +kernel
theorem dX3_now_109 : decode cX3_now 109 = .ok (.invokestatic 137, 3) := by decide +kernel
theorem dX3_now_112 : decode cX3_now 112 = .ok (.ireturn, 1) := by decide +kernel
theorem dX3_now_113 : decode cX3_now 113 = .ok (.aload_n 0, 1) := by decide +kernel
theorem dX3_now_114 : decode cX3_now 114 = .ok (.getfield 10, 3) := by decide +kernel
theorem dX3_now_117 : decode cX3_now 117 = .ok (.getfield 56, 3) := by decide +kernel
theorem dX3_now_120 : decode cX3_now 120 = .ok (.bipush 10, 2) := by decide +kernel
theorem dX3_now_122 : decode cX3_now 122 = .ok (.invokestatic 141, 3) := by decide +kernel
theorem dX3_now_125 : decode cX3_now 125 = .ok (.ireturn, 1) := by decide +kernel
theorem dX3_now_126 : decode cX3_now 126 = .ok (.aload_n 0, 1) := by decide +kernel
theorem dX3_now_127 : decode cX3_now 127 = .ok (.getfield 10, 3) := by decide +kernel
theorem dX3_now_130 : decode cX3_now 130 = .ok (.getfield 116, 3) := by decide +kernel
theorem dX3_now_133 : decode cX3_now 133 = .ok (.aload_n 0, 1) := by decide +kernel
theorem dX3_now_134 : decode cX3_now 134 = .ok (.getfield 10, 3) := by decide +kernel
theorem dX3_now_137 : decode cX3_now 137 = .ok (.getfield 88, 3) := by decide +kernel
theorem dX3_now_140 : decode cX3_now 140 = .ok (.invokestatic 141, 3) := by decide +kernel
theorem dX3_now_143 : decode cX3_now 143 = .ok (.ireturn, 1) := by decide +kernel
theorem dX3_now_144 : decode cX3_now 144 = .ok (.aload_n 0, 1) := by decide +kernel
theorem dX3_now_145 : decode cX3_now 145 = .ok (.getfield 10, 3) := by decide +kernel
theorem dX3_now_148 : decode cX3_now 148 = .ok (.iconst (-1), 1) := by decide +kernel
theorem dX3_now_149 : decode cX3_now 149 = .ok (.invokevirtual 103, 3) := by decide +kernel
theorem dX3_now_152 : decode cX3_now 152 = .ok (.ireturn, 1) := by decide +kernel
theorem dX3_now_153 : decode cX3_now 153 = .ok (.aload_n 0, 1) := by decide +kernel
theorem dX3_now_154 : decode cX3_now 154 = .ok (.iconst 0, 1) := by decide +kernel
theorem dX3_now_155 : decode cX3_now 155 = .ok (.invokevirtual 48, 3) := by decide +kernel
theorem dX3_now_158 : decode cX3_now 158 = .ok (.ireturn, 1) := by decide +kernel
theorem dX3_ahead_0 : decode cX3_ahead 0 = .ok (.aload_n 0, 1) := by decide +kernel
theorem dX3_ahead_1 : decode cX3_ahead 1 = .ok (.getfield 10, 3) := by decide +kernel
theorem dX3_ahead_4 : decode cX3_ahead 4 = .ok (.iload_n 1, 1) := by decide +kernel
theorem dX3_ahead_5 : decode cX3_ahead 5 = .ok (.invokevirtual 66, 3) := by decide +kernel
theorem dX3_ahead_8 : decode cX3_ahead 8 = .ok (.ifCond .eq 22, 3) := by decide +kernel
theorem dX3_ahead_11 : decode cX3_ahead 11 = .ok (.iload_n 2, 1) := by decide +kernel
theorem dX3_ahead_12 : decode cX3_ahead 12 = .ok (.iconst 1, 1) := by decide +kernel
theorem dX3_ahead_13 : decode cX3_ahead 13 = .ok (.iconst 4, 1) := by decide +kernel
theorem dX3_ahead_14 : decode cX3_ahead 14 = .ok (.invokestatic 52, 3) := by decide +kernel
theorem dX3_ahead_17 : decode cX3_ahead 17 = .ok (.ifCond .eq 13, 3) := by decide +kernel
theorem dX3_ahead_20 : decode cX3_ahead 20 = .ok (.iload_n 3, 1) := by decide +kernel
theorem dX3_ahead_21 : decode cX3_ahead 21 = .ok (.iconst 0, 1) := by decide +kernel
theorem dX3_ahead_22 : decode cX3_ahead 22 = .ok (.bipush 100, 2) := by decide +kernel
theorem dX3_ahead_24 : decode cX3_ahead 24 = .ok (.invokestatic 52, 3) := by decide +kernel
theorem dX3_ahead_27 : decode cX3_ahead 27 = .ok (.ifCond .ne 9, 3) := by decide +kernel
theorem dX3_ahead_30 : decode cX3_ahead 30 = .ok (.aload_n 0, 1) := by decide +kernel
theorem dX3_ahead_31 : decode cX3_ahead 31 = .ok (.iconst 0, 1) := by decide +kernel
theorem dX3_ahead_32 : decode cX3_ahead 32 = .ok (.invokevirtual 48, 3) := by decide +kernel
theorem dX3_ahead_35 : decode cX3_ahead 35 = .ok (.ireturn, 1) := by decide +kernel
theorem dX3_ahead_36 : decode cX3_ahead 36 = .ok (.aload_n 0, 1) := by decide +kernel
theorem dX3_ahead_37 : decode cX3_ahead 37 = .ok (.getfield 16, 3) := by decide +kernel
theorem dX3_ahead_40 : decode cX3_ahead 40 = .ok (.aload_n 0, 1) := by decide +kernel
theorem dX3_ahead_41 : decode cX3_ahead 41 = .ok (.getfield 10, 3) := by decide +kernel
theorem dX3_ahead_44 : decode cX3_ahead 44 = .ok (.invokevirtual 144, 3) := by decide +kernel
theorem dX3_ahead_47 : decode cX3_ahead 47 = .ok (.aload_n 0, 1) := by decide +kernel
theorem dX3_ahead_48 : decode cX3_ahead 48 = .ok (.getfield 16, 3) := by decide +kernel
theorem dX3_ahead_51 : decode cX3_ahead 51 = .ok (.iload_n 3, 1) := by decide +kernel
theorem dX3_ahead_52 : decode cX3_ahead 52 = .ok (.invokevirtual 129, 3) := by decide +kernel
theorem dX3_ahead_55 : decode cX3_ahead 55 = .ok (.aload_n 0, 1) := by decide +kernel
theorem dX3_ahead_56 : decode cX3_ahead 56 = .ok (.getfield 16, 3) := by decide +kernel
theorem dX3_ahead_59 : decode cX3_ahead 59 = .ok (.iload_n 1, 1) := by decide +kernel
theorem dX3_ahead_60 : decode cX3_ahead 60 = .ok (.iload_n 2, 1) := by decide +kernel
theorem dX3_ahead_61 : decode cX3_ahead 61 = .ok (.invokevirtual 106, 3) := by decide +kernel
theorem dX3_ahead_64 : decode cX3_ahead 64 = .ok (.ireturn, 1) := by decide +kernel
theorem dX3_fog_0 : decode cX3_fog 0 = .ok (.iload_n 1, 1) := by decide +kernel
theorem dX3_fog_1 : decode cX3_fog 1 = .ok (.invokestatic 44, 3) := by decide +kernel
theorem dX3_fog_4 : decode cX3_fog 4 = .ok (.ifCond .eq 13, 3) := by decide +kernel
theorem dX3_fog_7 : decode cX3_fog 7 = .ok (.iload_n 2, 1) := by decide +kernel
theorem dX3_fog_8 : decode cX3_fog 8 = .ok (.iconst 0, 1) := by decide +kernel
theorem dX3_fog_9 : decode cX3_fog 9 = .ok (.bipush 100, 2) := by decide +kernel
theorem dX3_fog_11 : decode cX3_fog 11 = .ok (.invokestatic 52, 3) := by decide +kernel
theorem dX3_fog_14 : decode cX3_fog 14 = .ok (.ifCond .ne 9, 3) := by decide +kernel
theorem dX3_fog_17 : decode cX3_fog 17 = .ok (.aload_n 0, 1) := by decide +kernel
theorem dX3_fog_18 : decode cX3_fog 18 = .ok (.iconst 0, 1) := by decide +kernel
theorem dX3_fog_19 : decode cX3_fog 19 = .ok (.invokevirtual 48, 3) := by decide +kernel
theorem dX3_fog_22 : decode cX3_fog 22 = .ok (.ireturn, 1) := by decide +kernel
theorem dX3_fog_23 : decode cX3_fog 23 = .ok (.aload_n 0, 1) := by decide +kernel
theorem dX3_fog_24 : decode cX3_fog 24 = .ok (.getfield 16, 3) := by decide +kernel
theorem dX3_fog_27 : decode cX3_fog 27 = .ok (.aload_n 0, 1) := by decide +kernel
theorem dX3_fog_28 : decode cX3_fog 28 = .ok (.getfield 10, 3) := by decide +kernel
theorem dX3_fog_31 : decode cX3_fog 31 = .ok (.invokevirtual 144, 3) := by decide +kernel
theorem dX3_fog_34 : decode cX3_fog 34 = .ok (.aload_n 0, 1) := by decide +kernel
theorem dX3_fog_35 : decode cX3_fog 35 = .ok (.getfield 16, 3) := by decide +kernel
theorem dX3_fog_38 : decode cX3_fog 38 = .ok (.iload_n 2, 1) := by decide +kernel
theorem dX3_fog_39 : decode cX3_fog 39 = .ok (.invokevirtual 129, 3) := by decide +kernel
theorem dX3_fog_42 : decode cX3_fog 42 = .ok (.aload_n 0, 1) := by decide +kernel
theorem dX3_fog_43 : decode cX3_fog 43 = .ok (.getfield 16, 3) := by decide +kernel
theorem dX3_fog_46 : decode cX3_fog 46 = .ok (.getfield 56, 3) := by decide +kernel
theorem dX3_fog_49 : decode cX3_fog 49 = .ok (.iload_n 1, 1) := by decide +kernel
theorem dX3_fog_50 : decode cX3_fog 50 = .ok (.iaload, 1) := by decide +kernel
theorem dX3_fog_51 : decode cX3_fog 51 = .ok (.ireturn, 1) := by decide +kernel
theorem dX3_falls_0 : decode cX3_falls 0 = .ok (.aload_n 0, 1) := by decide +kernel
theorem dX3_falls_1 : decode cX3_falls 1 = .ok (.getfield 10, 3) := by decide +kernel
theorem dX3_falls_4 : decode cX3_falls 4 = .ok (.iload_n 1, 1) := by decide +kernel
theorem dX3_falls_5 : decode cX3_falls 5 = .ok (.invokevirtual 66, 3) := by decide +kernel
theorem dX3_falls_8 : decode cX3_falls 8 = .ok (.ifCond .ne 9, 3) := by decide +kernel
theorem dX3_falls_11 : decode cX3_falls 11 = .ok (.aload_n 0, 1) := by decide +kernel
theorem dX3_falls_12 : decode cX3_falls 12 = .ok (.iconst 0, 1) := by decide +kernel
theorem dX3_falls_13 : decode cX3_falls 13 = .ok (.invokevirtual 48, 3) := by decide +kernel
theorem dX3_falls_16 : decode cX3_falls 16 = .ok (.ireturn, 1) := by decide +kernel
theorem dX3_falls_17 : decode cX3_falls 17 = .ok (.aload_n 0, 1) := by decide +kernel
theorem dX3_falls_18 : decode cX3_falls 18 = .ok (.getfield 16, 3) := by decide +kernel
theorem dX3_falls_21 : decode cX3_falls 21 = .ok (.aload_n 0, 1) := by decide +kernel
theorem dX3_falls_22 : decode cX3_falls 22 = .ok (.getfield 10, 3) := by decide +kernel
theorem dX3_falls_25 : decode cX3_falls 25 = .ok (.invokevirtual 144, 3) := by decide +kernel
theorem dX3_falls_28 : decode cX3_falls 28 = .ok (.iconst 1, 1) := by decide +kernel
theorem dX3_falls_29 : decode cX3_falls 29 = .ok (.istore_n 2, 1) := by decide +kernel
theorem dX3_falls_30 : decode cX3_falls 30 = .ok (.iload_n 2, 1) := by decide +kernel
theorem dX3_falls_31 : decode cX3_falls 31 = .ok (.bipush 100, 2) := by decide +kernel
theorem dX3_falls_33 : decode cX3_falls 33 = .ok (.if_icmp .gt 40, 3) := by decide +kernel
theorem dX3_falls_36 : decode cX3_falls 36 = .ok (.aload_n 0, 1) := by decide +kernel
theorem dX3_falls_37 : decode cX3_falls 37 = .ok (.getfield 16, 3) := by decide +kernel
theorem dX3_falls_40 : decode cX3_falls 40 = .ok (.iconst 1, 1) := by decide +kernel
theorem dX3_falls_41 : decode cX3_falls 41 = .ok (.invokevirtual 129, 3) := by decide +kernel
theorem dX3_falls_44 : decode cX3_falls 44 = .ok (.aload_n 0, 1) := by decide +kernel
theorem dX3_falls_45 : decode cX3_falls 45 = .ok (.getfield 16, 3) := by decide +kernel
theorem dX3_falls_48 : decode cX3_falls 48 = .ok (.getfield 119, 3) := by decide +kernel
theorem dX3_falls_51 : decode cX3_falls 51 = .ok (.iload_n 1, 1) := by decide +kernel
theorem dX3_falls_52 : decode cX3_falls 52 = .ok (.iaload, 1) := by decide +kernel
theorem dX3_falls_53 : decode cX3_falls 53 = .ok (.aload_n 0, 1) := by decide +kernel
theorem dX3_falls_54 : decode cX3_falls 54 = .ok (.getfield 10, 3) := by decide +kernel
theorem dX3_falls_57 : decode cX3_falls 57 = .ok (.getfield 119, 3) := by decide +kernel
theorem dX3_falls_60 : decode cX3_falls 60 = .ok (.iload_n 1, 1) := by decide +kernel
theorem dX3_falls_61 : decode cX3_falls 61 = .ok (.iaload, 1) := by decide +kernel
theorem dX3_falls_62 : decode cX3_falls 62 = .ok (.if_icmp .le 5, 3) := by decide +kernel
theorem dX3_falls_65 : decode cX3_falls 65 = .ok (.iload_n 2, 1) := by decide +kernel
theorem dX3_falls_66 : decode cX3_falls 66 = .ok (.ireturn, 1) := by decide +kernel
theorem dX3_falls_67 : decode cX3_falls 67 = .ok (.iinc 2 1, 3) := by decide +kernel
theorem dX3_falls_70 : decode cX3_falls 70 = .ok (.goto (-40), 3) := by decide +kernel
theorem dX3_falls_73 : decode cX3_falls 73 = .ok (.aload_n 0, 1) := by decide +kernel
theorem dX3_falls_74 : decode cX3_falls 74 = .ok (.iconst 3, 1) := by decide +kernel
theorem dX3_falls_75 : decode cX3_falls 75 = .ok (.invokevirtual 48, 3) := by decide +kernel
theorem dX3_falls_78 : decode cX3_falls 78 = .ok (.ireturn, 1) := by decide +kernel
theorem dX3_bare_0 : decode cX3_bare 0 = .ok (.aload_n 0, 1) := by decide +kernel
theorem dX3_bare_1 : decode cX3_bare 1 = .ok (.getfield 16, 3) := by decide +kernel
theorem dX3_bare_4 : decode cX3_bare 4 = .ok (.aload_n 0, 1) := by decide +kernel
theorem dX3_bare_5 : decode cX3_bare 5 = .ok (.getfield 10, 3) := by decide +kernel
theorem dX3_bare_8 : decode cX3_bare 8 = .ok (.invokevirtual 144, 3) := by decide +kernel
theorem dX3_bare_11 : decode cX3_bare 11 = .ok (.iconst 0, 1) := by decide +kernel
theorem dX3_bare_12 : decode cX3_bare 12 = .ok (.istore_n 1, 1) := by decide +kernel
theorem dX3_bare_13 : decode cX3_bare 13 = .ok (.iload_n 1, 1) := by decide +kernel
theorem dX3_bare_14 : decode cX3_bare 14 = .ok (.bipush 100, 2) := by decide +kernel
theorem dX3_bare_16 : decode cX3_bare 16 = .ok (.if_icmp .gt 29, 3) := by decide +kernel
theorem dX3_bare_19 : decode cX3_bare 19 = .ok (.aload_n 0, 1) := by decide +kernel
theorem dX3_bare_20 : decode cX3_bare 20 = .ok (.getfield 16, 3) := by decide +kernel
theorem dX3_bare_23 : decode cX3_bare 23 = .ok (.invokevirtual 133, 3) := by decide +kernel
theorem dX3_bare_26 : decode cX3_bare 26 = .ok (.ifCond .ne 5, 3) := by decide +kernel
theorem dX3_bare_29 : decode cX3_bare 29 = .ok (.iload_n 1, 1) := by decide +kernel
theorem dX3_bare_30 : decode cX3_bare 30 = .ok (.ireturn, 1) := by decide +kernel
theorem dX3_bare_31 : decode cX3_bare 31 = .ok (.aload_n 0, 1) := by decide +kernel
theorem dX3_bare_32 : decode cX3_bare 32 = .ok (.getfield 16, 3) := by decide +kernel
theorem dX3_bare_35 : decode cX3_bare 35 = .ok (.iconst 1, 1) := by decide +kernel
theorem dX3_bare_36 : decode cX3_bare 36 = .ok (.invokevirtual 129, 3) := by decide +kernel
theorem dX3_bare_39 : decode cX3_bare 39 = .ok (.iinc 1 1, 3) := by decide +kernel
theorem dX3_bare_42 : decode cX3_bare 42 = .ok (.goto (-29), 3) := by decide +kernel
theorem dX3_bare_45 : decode cX3_bare 45 = .ok (.aload_n 0, 1) := by decide +kernel
theorem dX3_bare_46 : decode cX3_bare 46 = .ok (.iconst 3, 1) := by decide +kernel
theorem dX3_bare_47 : decode cX3_bare 47 = .ok (.invokevirtual 48, 3) := by decide +kernel
theorem dX3_bare_50 : decode cX3_bare 50 = .ok (.ireturn, 1) := by decide +kernel
theorem dX3_meet_0 : decode cX3_meet 0 = .ok (.aload_n 0, 1) := by decide +kernel
theorem dX3_meet_1 : decode cX3_meet 1 = .ok (.getfield 10, 3) := by decide +kernel
theorem dX3_meet_4 : decode cX3_meet 4 = .ok (.iload_n 1, 1) := by decide +kernel
theorem dX3_meet_5 : decode cX3_meet 5 = .ok (.invokevirtual 66, 3) := by decide +kernel
theorem dX3_meet_8 : decode cX3_meet 8 = .ok (.ifCond .eq 19, 3) := by decide +kernel
theorem dX3_meet_11 : decode cX3_meet 11 = .ok (.aload_n 0, 1) := by decide +kernel
theorem dX3_meet_12 : decode cX3_meet 12 = .ok (.getfield 10, 3) := by decide +kernel
theorem dX3_meet_15 : decode cX3_meet 15 = .ok (.iload_n 2, 1) := by decide +kernel
theorem dX3_meet_16 : decode cX3_meet 16 = .ok (.invokevirtual 66, 3) := by decide +kernel
theorem dX3_meet_19 : decode cX3_meet 19 = .ok (.ifCond .eq 8, 3) := by decide +kernel
theorem dX3_meet_22 : decode cX3_meet 22 = .ok (.iload_n 1, 1) := by decide +kernel
theorem dX3_meet_23 : decode cX3_meet 23 = .ok (.iload_n 2, 1) := by decide +kernel
theorem dX3_meet_24 : decode cX3_meet 24 = .ok (.if_icmp .ne 9, 3) := by decide +kernel
theorem dX3_meet_27 : decode cX3_meet 27 = .ok (.aload_n 0, 1) := by decide +kernel
theorem dX3_meet_28 : decode cX3_meet 28 = .ok (.iconst 0, 1) := by decide +kernel
theorem dX3_meet_29 : decode cX3_meet 29 = .ok (.invokevirtual 48, 3) := by decide +kernel
theorem dX3_meet_32 : decode cX3_meet 32 = .ok (.ireturn, 1) := by decide +kernel
theorem dX3_meet_33 : decode cX3_meet 33 = .ok (.aload_n 0, 1) := by decide +kernel
theorem dX3_meet_34 : decode cX3_meet 34 = .ok (.getfield 16, 3) := by decide +kernel
theorem dX3_meet_37 : decode cX3_meet 37 = .ok (.aload_n 0, 1) := by decide +kernel
theorem dX3_meet_38 : decode cX3_meet 38 = .ok (.getfield 10, 3) := by decide +kernel
theorem dX3_meet_41 : decode cX3_meet 41 = .ok (.invokevirtual 144, 3) := by decide +kernel
theorem dX3_meet_44 : decode cX3_meet 44 = .ok (.iconst 0, 1) := by decide +kernel
theorem dX3_meet_45 : decode cX3_meet 45 = .ok (.istore_n 3, 1) := by decide +kernel
theorem dX3_meet_46 : decode cX3_meet 46 = .ok (.iload_n 3, 1) := by decide +kernel
theorem dX3_meet_47 : decode cX3_meet 47 = .ok (.bipush 100, 2) := by decide +kernel
theorem dX3_meet_49 : decode cX3_meet 49 = .ok (.if_icmp .gt 53, 3) := by decide +kernel
theorem dX3_meet_52 : decode cX3_meet 52 = .ok (.aload_n 0, 1) := by decide +kernel
theorem dX3_meet_53 : decode cX3_meet 53 = .ok (.getfield 16, 3) := by decide +kernel
theorem dX3_meet_56 : decode cX3_meet 56 = .ok (.getfield 110, 3) := by decide +kernel
theorem dX3_meet_59 : decode cX3_meet 59 = .ok (.iload_n 1, 1) := by decide +kernel
theorem dX3_meet_60 : decode cX3_meet 60 = .ok (.iaload, 1) := by decide +kernel
theorem dX3_meet_61 : decode cX3_meet 61 = .ok (.iconst (-1), 1) := by decide +kernel
theorem dX3_meet_62 : decode cX3_meet 62 = .ok (.if_icmp .eq 26, 3) := by decide +kernel
theorem dX3_meet_65 : decode cX3_meet 65 = .ok (.aload_n 0, 1) := by decide +kernel
theorem dX3_meet_66 : decode cX3_meet 66 = .ok (.getfield 16, 3) := by decide +kernel
theorem dX3_meet_69 : decode cX3_meet 69 = .ok (.getfield 110, 3) := by decide +kernel
theorem dX3_meet_72 : decode cX3_meet 72 = .ok (.iload_n 1, 1) := by decide +kernel
theorem dX3_meet_73 : decode cX3_meet 73 = .ok (.iaload, 1) := by decide +kernel
theorem dX3_meet_74 : decode cX3_meet 74 = .ok (.aload_n 0, 1) := by decide +kernel
theorem dX3_meet_75 : decode cX3_meet 75 = .ok (.getfield 16, 3) := by decide +kernel
theorem dX3_meet_78 : decode cX3_meet 78 = .ok (.getfield 110, 3) := by decide +kernel
theorem dX3_meet_81 : decode cX3_meet 81 = .ok (.iload_n 2, 1) := by decide +kernel
theorem dX3_meet_82 : decode cX3_meet 82 = .ok (.iaload, 1) := by decide +kernel
theorem dX3_meet_83 : decode cX3_meet 83 = .ok (.if_icmp .ne 5, 3) := by decide +kernel
theorem dX3_meet_86 : decode cX3_meet 86 = .ok (.iload_n 3, 1) := by decide +kernel
theorem dX3_meet_87 : decode cX3_meet 87 = .ok (.ireturn, 1) := by decide +kernel
theorem dX3_meet_88 : decode cX3_meet 88 = .ok (.aload_n 0, 1) := by decide +kernel
theorem dX3_meet_89 : decode cX3_meet 89 = .ok (.getfield 16, 3) := by decide +kernel
theorem dX3_meet_92 : decode cX3_meet 92 = .ok (.iconst 1, 1) := by decide +kernel
theorem dX3_meet_93 : decode cX3_meet 93 = .ok (.invokevirtual 129, 3) := by decide +kernel
theorem dX3_meet_96 : decode cX3_meet 96 = .ok (.iinc 3 1, 3) := by decide +kernel
theorem dX3_meet_99 : decode cX3_meet 99 = .ok (.goto (-53), 3) := by decide +kernel
theorem dX3_meet_102 : decode cX3_meet 102 = .ok (.aload_n 0, 1) := by decide +kernel
theorem dX3_meet_103 : decode cX3_meet 103 = .ok (.iconst 3, 1) := by decide +kernel
theorem dX3_meet_104 : decode cX3_meet 104 = .ok (.invokevirtual 48, 3) := by decide +kernel
theorem dX3_meet_107 : decode cX3_meet 107 = .ok (.ireturn, 1) := by decide +kernel
theorem dX3_beliefFor_0 : decode cX3_beliefFor 0 = .ok (.aload_n 0, 1) := by decide +kernel
theorem dX3_beliefFor_1 : decode cX3_beliefFor 1 = .ok (.getfield 10, 3) := by decide +kernel
theorem dX3_beliefFor_4 : decode cX3_beliefFor 4 = .ok (.iload_n 1, 1) := by decide +kernel
theorem dX3_beliefFor_5 : decode cX3_beliefFor 5 = .ok (.invokevirtual 66, 3) := by decide +kernel
theorem dX3_beliefFor_8 : decode cX3_beliefFor 8 = .ok (.ifCond .eq 13, 3) := by decide +kernel
theorem dX3_beliefFor_11 : decode cX3_beliefFor 11 = .ok (.iload_n 2, 1) := by decide +kernel
theorem dX3_beliefFor_12 : decode cX3_beliefFor 12 = .ok (.iconst 0, 1) := by decide +kernel
theorem dX3_beliefFor_13 : decode cX3_beliefFor 13 = .ok (.bipush 40, 2) := by decide +kernel
theorem dX3_beliefFor_15 : decode cX3_beliefFor 15 = .ok (.invokestatic 52, 3) := by decide +kernel
theorem dX3_beliefFor_18 : decode cX3_beliefFor 18 = .ok (.ifCond .ne 9, 3) := by decide +kernel
theorem dX3_beliefFor_21 : decode cX3_beliefFor 21 = .ok (.aload_n 0, 1) := by decide +kernel
theorem dX3_beliefFor_22 : decode cX3_beliefFor 22 = .ok (.iconst 0, 1) := by decide +kernel
theorem dX3_beliefFor_23 : decode cX3_beliefFor 23 = .ok (.invokevirtual 48, 3) := by decide +kernel
theorem dX3_beliefFor_26 : decode cX3_beliefFor 26 = .ok (.ireturn, 1) := by decide +kernel
theorem dX3_beliefFor_27 : decode cX3_beliefFor 27 = .ok (.iconst 0, 1) := by decide +kernel
theorem dX3_beliefFor_28 : decode cX3_beliefFor 28 = .ok (.istore_n 3, 1) := by decide +kernel
theorem dX3_beliefFor_29 : decode cX3_beliefFor 29 = .ok (.iload_n 3, 1) := by decide +kernel
theorem dX3_beliefFor_30 : decode cX3_beliefFor 30 = .ok (.bipush 99, 2) := by decide +kernel
theorem dX3_beliefFor_32 : decode cX3_beliefFor 32 = .ok (.if_icmp .gt 97, 3) := by decide +kernel
theorem dX3_beliefFor_35 : decode cX3_beliefFor 35 = .ok (.aload_n 0, 1) := by decide +kernel
theorem dX3_beliefFor_36 : decode cX3_beliefFor 36 = .ok (.getfield 16, 3) := by decide +kernel
theorem dX3_beliefFor_39 : decode cX3_beliefFor 39 = .ok (.aload_n 0, 1) := by decide +kernel
theorem dX3_beliefFor_40 : decode cX3_beliefFor 40 = .ok (.getfield 10, 3) := by decide +kernel
theorem dX3_beliefFor_43 : decode cX3_beliefFor 43 = .ok (.invokevirtual 144, 3) := by decide +kernel
theorem dX3_beliefFor_46 : decode cX3_beliefFor 46 = .ok (.aload_n 0, 1) := by decide +kernel
theorem dX3_beliefFor_47 : decode cX3_beliefFor 47 = .ok (.getfield 16, 3) := by decide +kernel
theorem dX3_beliefFor_50 : decode cX3_beliefFor 50 = .ok (.getfield 113, 3) := by decide +kernel
theorem dX3_beliefFor_53 : decode cX3_beliefFor 53 = .ok (.iload_n 1, 1) := by decide +kernel
theorem dX3_beliefFor_54 : decode cX3_beliefFor 54 = .ok (.iload_n 3, 1) := by decide +kernel
theorem dX3_beliefFor_55 : decode cX3_beliefFor 55 = .ok (.iastore, 1) := by decide +kernel
theorem dX3_beliefFor_56 : decode cX3_beliefFor 56 = .ok (.iconst 0, 1) := by decide +kernel
theorem dX3_beliefFor_57 : decode cX3_beliefFor 57 = .ok (.istore 4, 2) := by decide +kernel
theorem dX3_beliefFor_59 : decode cX3_beliefFor 59 = .ok (.iload 4, 2) := by decide +kernel
theorem dX3_beliefFor_61 : decode cX3_beliefFor 61 = .ok (.iload_n 2, 1) := by decide +kernel
theorem dX3_beliefFor_62 : decode cX3_beliefFor 62 = .ok (.if_icmp .ge 38, 3) := by decide +kernel
theorem dX3_beliefFor_65 : decode cX3_beliefFor 65 = .ok (.aload_n 0, 1) := by decide +kernel
theorem dX3_beliefFor_66 : decode cX3_beliefFor 66 = .ok (.getfield 16, 3) := by decide +kernel
theorem dX3_beliefFor_69 : decode cX3_beliefFor 69 = .ok (.getfield 119, 3) := by decide +kernel
theorem dX3_beliefFor_72 : decode cX3_beliefFor 72 = .ok (.iload_n 1, 1) := by decide +kernel
theorem dX3_beliefFor_73 : decode cX3_beliefFor 73 = .ok (.iaload, 1) := by decide +kernel
theorem dX3_beliefFor_74 : decode cX3_beliefFor 74 = .ok (.aload_n 0, 1) := by decide +kernel
theorem dX3_beliefFor_75 : decode cX3_beliefFor 75 = .ok (.getfield 10, 3) := by decide +kernel
theorem dX3_beliefFor_78 : decode cX3_beliefFor 78 = .ok (.getfield 119, 3) := by decide +kernel
theorem dX3_beliefFor_81 : decode cX3_beliefFor 81 = .ok (.iload_n 1, 1) := by decide +kernel
theorem dX3_beliefFor_82 : decode cX3_beliefFor 82 = .ok (.iaload, 1) := by decide +kernel
theorem dX3_beliefFor_83 : decode cX3_beliefFor 83 = .ok (.if_icmp .ne 17, 3) := by decide +kernel
theorem dX3_beliefFor_86 : decode cX3_beliefFor 86 = .ok (.aload_n 0, 1) := by decide +kernel
theorem dX3_beliefFor_87 : decode cX3_beliefFor 87 = .ok (.getfield 16, 3) := by decide +kernel
theorem dX3_beliefFor_90 : decode cX3_beliefFor 90 = .ok (.iconst 1, 1) := by decide +kernel
theorem dX3_beliefFor_91 : decode cX3_beliefFor 91 = .ok (.invokevirtual 129, 3) := by decide +kernel
theorem dX3_beliefFor_94 : decode cX3_beliefFor 94 = .ok (.iinc 4 1, 3) := by decide +kernel
theorem dX3_beliefFor_97 : decode cX3_beliefFor 97 = .ok (.goto (-38), 3) := by decide +kernel
theorem dX3_beliefFor_100 : decode cX3_beliefFor 100 = .ok (.aload_n 0, 1) := by decide +kernel
theorem dX3_beliefFor_101 : decode cX3_beliefFor 101 = .ok (.getfield 16, 3) := by decide +kernel
theorem dX3_beliefFor_104 : decode cX3_beliefFor 104 = .ok (.getfield 119, 3) := by decide +kernel
theorem dX3_beliefFor_107 : decode cX3_beliefFor 107 = .ok (.iload_n 1, 1) := by decide +kernel
theorem dX3_beliefFor_108 : decode cX3_beliefFor 108 = .ok (.iaload, 1) := by decide +kernel
theorem dX3_beliefFor_109 : decode cX3_beliefFor 109 = .ok (.aload_n 0, 1) := by decide +kernel
theorem dX3_beliefFor_110 : decode cX3_beliefFor 110 = .ok (.getfield 10, 3) := by decide +kernel
theorem dX3_beliefFor_113 : decode cX3_beliefFor 113 = .ok (.getfield 119, 3) := by decide +kernel
theorem dX3_beliefFor_116 : decode cX3_beliefFor 116 = .ok (.iload_n 1, 1) := by decide +kernel
theorem dX3_beliefFor_117 : decode cX3_beliefFor 117 = .ok (.iaload, 1) := by decide +kernel
theorem dX3_beliefFor_118 : decode cX3_beliefFor 118 = .ok (.if_icmp .ne 5, 3) := by decide +kernel
theorem dX3_beliefFor_121 : decode cX3_beliefFor 121 = .ok (.iload_n 3, 1) := by decide +kernel
theorem dX3_beliefFor_122 : decode cX3_beliefFor 122 = .ok (.ireturn, 1) := by decide +kernel
theorem dX3_beliefFor_123 : decode cX3_beliefFor 123 = .ok (.iinc 3 1, 3) := by decide +kernel
theorem dX3_beliefFor_126 : decode cX3_beliefFor 126 = .ok (.goto (-97), 3) := by decide +kernel
theorem dX3_beliefFor_129 : decode cX3_beliefFor 129 = .ok (.aload_n 0, 1) := by decide +kernel
theorem dX3_beliefFor_130 : decode cX3_beliefFor 130 = .ok (.iconst 3, 1) := by decide +kernel
theorem dX3_beliefFor_131 : decode cX3_beliefFor 131 = .ok (.invokevirtual 48, 3) := by decide +kernel
theorem dX3_beliefFor_134 : decode cX3_beliefFor 134 = .ok (.ireturn, 1) := by decide +kernel
theorem dX3_settle_0 : decode cX3_settle 0 = .ok (.aload_n 0, 1) := by decide +kernel
theorem dX3_settle_1 : decode cX3_settle 1 = .ok (.getfield 10, 3) := by decide +kernel
theorem dX3_settle_4 : decode cX3_settle 4 = .ok (.iload_n 1, 1) := by decide +kernel
theorem dX3_settle_5 : decode cX3_settle 5 = .ok (.invokevirtual 66, 3) := by decide +kernel
theorem dX3_settle_8 : decode cX3_settle 8 = .ok (.ifCond .eq 13, 3) := by decide +kernel
theorem dX3_settle_11 : decode cX3_settle 11 = .ok (.iload_n 2, 1) := by decide +kernel
theorem dX3_settle_12 : decode cX3_settle 12 = .ok (.iconst 0, 1) := by decide +kernel
theorem dX3_settle_13 : decode cX3_settle 13 = .ok (.bipush 40, 2) := by decide +kernel
theorem dX3_settle_15 : decode cX3_settle 15 = .ok (.invokestatic 52, 3) := by decide +kernel
theorem dX3_settle_18 : decode cX3_settle 18 = .ok (.ifCond .ne 9, 3) := by decide +kernel
theorem dX3_settle_21 : decode cX3_settle 21 = .ok (.aload_n 0, 1) := by decide +kernel
theorem dX3_settle_22 : decode cX3_settle 22 = .ok (.iconst 0, 1) := by decide +kernel
theorem dX3_settle_23 : decode cX3_settle 23 = .ok (.invokevirtual 48, 3) := by decide +kernel
theorem dX3_settle_26 : decode cX3_settle 26 = .ok (.ireturn, 1) := by decide +kernel
theorem dX3_settle_27 : decode cX3_settle 27 = .ok (.iconst 0, 1) := by decide +kernel
theorem dX3_settle_28 : decode cX3_settle 28 = .ok (.istore_n 3, 1) := by decide +kernel
theorem dX3_settle_29 : decode cX3_settle 29 = .ok (.sipush 10000, 3) := by decide +kernel
theorem dX3_settle_32 : decode cX3_settle 32 = .ok (.istore 4, 2) := by decide +kernel
theorem dX3_settle_34 : decode cX3_settle 34 = .ok (.iconst 0, 1) := by decide +kernel
theorem dX3_settle_35 : decode cX3_settle 35 = .ok (.istore 5, 2) := by decide +kernel
theorem dX3_settle_37 : decode cX3_settle 37 = .ok (.iload 5, 2) := by decide +kernel
theorem dX3_settle_39 : decode cX3_settle 39 = .ok (.bipush 10, 2) := by decide +kernel
theorem dX3_settle_41 : decode cX3_settle 41 = .ok (.if_icmp .ge 67, 3) := by decide +kernel
theorem dX3_settle_44 : decode cX3_settle 44 = .ok (.aload_n 0, 1) := by decide +kernel
theorem dX3_settle_45 : decode cX3_settle 45 = .ok (.getfield 16, 3) := by decide +kernel
theorem dX3_settle_48 : decode cX3_settle 48 = .ok (.aload_n 0, 1) := by decide +kernel
theorem dX3_settle_49 : decode cX3_settle 49 = .ok (.getfield 10, 3) := by decide +kernel
theorem dX3_settle_52 : decode cX3_settle 52 = .ok (.invokevirtual 144, 3) := by decide +kernel
theorem dX3_settle_55 : decode cX3_settle 55 = .ok (.aload_n 0, 1) := by decide +kernel
theorem dX3_settle_56 : decode cX3_settle 56 = .ok (.getfield 16, 3) := by decide +kernel
theorem dX3_settle_59 : decode cX3_settle 59 = .ok (.getfield 110, 3) := by decide +kernel
theorem dX3_settle_62 : decode cX3_settle 62 = .ok (.iload_n 1, 1) := by decide +kernel
theorem dX3_settle_63 : decode cX3_settle 63 = .ok (.iload 5, 2) := by decide +kernel
theorem dX3_settle_65 : decode cX3_settle 65 = .ok (.iastore, 1) := by decide +kernel
theorem dX3_settle_66 : decode cX3_settle 66 = .ok (.aload_n 0, 1) := by decide +kernel
theorem dX3_settle_67 : decode cX3_settle 67 = .ok (.getfield 16, 3) := by decide +kernel
theorem dX3_settle_70 : decode cX3_settle 70 = .ok (.iload_n 2, 1) := by decide +kernel
theorem dX3_settle_71 : decode cX3_settle 71 = .ok (.invokevirtual 129, 3) := by decide +kernel
theorem dX3_settle_74 : decode cX3_settle 74 = .ok (.aload_n 0, 1) := by decide +kernel
theorem dX3_settle_75 : decode cX3_settle 75 = .ok (.getfield 16, 3) := by decide +kernel
theorem dX3_settle_78 : decode cX3_settle 78 = .ok (.getfield 119, 3) := by decide +kernel
theorem dX3_settle_81 : decode cX3_settle 81 = .ok (.iload_n 1, 1) := by decide +kernel
theorem dX3_settle_82 : decode cX3_settle 82 = .ok (.iaload, 1) := by decide +kernel
theorem dX3_settle_83 : decode cX3_settle 83 = .ok (.iload 4, 2) := by decide +kernel
theorem dX3_settle_85 : decode cX3_settle 85 = .ok (.if_icmp .ge 17, 3) := by decide +kernel
theorem dX3_settle_88 : decode cX3_settle 88 = .ok (.aload_n 0, 1) := by decide +kernel
theorem dX3_settle_89 : decode cX3_settle 89 = .ok (.getfield 16, 3) := by decide +kernel
theorem dX3_settle_92 : decode cX3_settle 92 = .ok (.getfield 119, 3) := by decide +kernel
theorem dX3_settle_95 : decode cX3_settle 95 = .ok (.iload_n 1, 1) := by decide +kernel
theorem dX3_settle_96 : decode cX3_settle 96 = .ok (.iaload, 1) := by decide +kernel
theorem dX3_settle_97 : decode cX3_settle 97 = .ok (.istore 4, 2) := by decide +kernel
theorem dX3_settle_99 : decode cX3_settle 99 = .ok (.iload 5, 2) := by decide +kernel
theorem dX3_settle_101 : decode cX3_settle 101 = .ok (.istore_n 3, 1) := by decide +kernel
theorem dX3_settle_102 : decode cX3_settle 102 = .ok (.iinc 5 1, 3) := by decide +kernel
theorem dX3_settle_105 : decode cX3_settle 105 = .ok (.goto (-68), 3) := by decide +kernel
theorem dX3_settle_108 : decode cX3_settle 108 = .ok (.iload_n 3, 1) := by decide +kernel
theorem dX3_settle_109 : decode cX3_settle 109 = .ok (.ireturn, 1) := by decide +kernel
theorem dX3_kindFor_0 : decode cX3_kindFor 0 = .ok (.aload_n 0, 1) := by decide +kernel
theorem dX3_kindFor_1 : decode cX3_kindFor 1 = .ok (.getfield 10, 3) := by decide +kernel
theorem dX3_kindFor_4 : decode cX3_kindFor 4 = .ok (.iload_n 1, 1) := by decide +kernel
theorem dX3_kindFor_5 : decode cX3_kindFor 5 = .ok (.invokevirtual 66, 3) := by decide +kernel
theorem dX3_kindFor_8 : decode cX3_kindFor 8 = .ok (.ifCond .eq 13, 3) := by decide +kernel
theorem dX3_kindFor_11 : decode cX3_kindFor 11 = .ok (.iload_n 2, 1) := by decide +kernel
theorem dX3_kindFor_12 : decode cX3_kindFor 12 = .ok (.iconst 0, 1) := by decide +kernel
theorem dX3_kindFor_13 : decode cX3_kindFor 13 = .ok (.bipush 40, 2) := by decide +kernel
theorem dX3_kindFor_15 : decode cX3_kindFor 15 = .ok (.invokestatic 52, 3) := by decide +kernel
theorem dX3_kindFor_18 : decode cX3_kindFor 18 = .ok (.ifCond .ne 9, 3) := by decide +kernel
theorem dX3_kindFor_21 : decode cX3_kindFor 21 = .ok (.aload_n 0, 1) := by decide +kernel
theorem dX3_kindFor_22 : decode cX3_kindFor 22 = .ok (.iconst 0, 1) := by decide +kernel
theorem dX3_kindFor_23 : decode cX3_kindFor 23 = .ok (.invokevirtual 48, 3) := by decide +kernel
theorem dX3_kindFor_26 : decode cX3_kindFor 26 = .ok (.ireturn, 1) := by decide +kernel
theorem dX3_kindFor_27 : decode cX3_kindFor 27 = .ok (.iconst 0, 1) := by decide +kernel
theorem dX3_kindFor_28 : decode cX3_kindFor 28 = .ok (.istore_n 3, 1) := by decide +kernel
theorem dX3_kindFor_29 : decode cX3_kindFor 29 = .ok (.iconst (-1), 1) := by decide +kernel
theorem dX3_kindFor_30 : decode cX3_kindFor 30 = .ok (.istore 4, 2) := by decide +kernel
theorem dX3_kindFor_32 : decode cX3_kindFor 32 = .ok (.iconst 0, 1) := by decide +kernel
theorem dX3_kindFor_33 : decode cX3_kindFor 33 = .ok (.istore 5, 2) := by decide +kernel
theorem dX3_kindFor_35 : decode cX3_kindFor 35 = .ok (.iload 5, 2) := by decide +kernel
theorem dX3_kindFor_37 : decode cX3_kindFor 37 = .ok (.bipush 7, 2) := by decide +kernel
theorem dX3_kindFor_39 : decode cX3_kindFor 39 = .ok (.if_icmp .ge 67, 3) := by decide +kernel
theorem dX3_kindFor_42 : decode cX3_kindFor 42 = .ok (.aload_n 0, 1) := by decide +kernel
theorem dX3_kindFor_43 : decode cX3_kindFor 43 = .ok (.getfield 16, 3) := by decide +kernel
theorem dX3_kindFor_46 : decode cX3_kindFor 46 = .ok (.aload_n 0, 1) := by decide +kernel
theorem dX3_kindFor_47 : decode cX3_kindFor 47 = .ok (.getfield 10, 3) := by decide +kernel
theorem dX3_kindFor_50 : decode cX3_kindFor 50 = .ok (.invokevirtual 144, 3) := by decide +kernel
theorem dX3_kindFor_53 : decode cX3_kindFor 53 = .ok (.aload_n 0, 1) := by decide +kernel
theorem dX3_kindFor_54 : decode cX3_kindFor 54 = .ok (.getfield 16, 3) := by decide +kernel
theorem dX3_kindFor_57 : decode cX3_kindFor 57 = .ok (.getfield 94, 3) := by decide +kernel
theorem dX3_kindFor_60 : decode cX3_kindFor 60 = .ok (.iload_n 1, 1) := by decide +kernel
theorem dX3_kindFor_61 : decode cX3_kindFor 61 = .ok (.iload 5, 2) := by decide +kernel
theorem dX3_kindFor_63 : decode cX3_kindFor 63 = .ok (.iastore, 1) := by decide +kernel
theorem dX3_kindFor_64 : decode cX3_kindFor 64 = .ok (.aload_n 0, 1) := by decide +kernel
theorem dX3_kindFor_65 : decode cX3_kindFor 65 = .ok (.getfield 16, 3) := by decide +kernel
theorem dX3_kindFor_68 : decode cX3_kindFor 68 = .ok (.iload_n 2, 1) := by decide +kernel
theorem dX3_kindFor_69 : decode cX3_kindFor 69 = .ok (.invokevirtual 129, 3) := by decide +kernel
theorem dX3_kindFor_72 : decode cX3_kindFor 72 = .ok (.aload_n 0, 1) := by decide +kernel
theorem dX3_kindFor_73 : decode cX3_kindFor 73 = .ok (.getfield 16, 3) := by decide +kernel
theorem dX3_kindFor_76 : decode cX3_kindFor 76 = .ok (.getfield 116, 3) := by decide +kernel
theorem dX3_kindFor_79 : decode cX3_kindFor 79 = .ok (.iload_n 1, 1) := by decide +kernel
theorem dX3_kindFor_80 : decode cX3_kindFor 80 = .ok (.iaload, 1) := by decide +kernel
theorem dX3_kindFor_81 : decode cX3_kindFor 81 = .ok (.iload 4, 2) := by decide +kernel
theorem dX3_kindFor_83 : decode cX3_kindFor 83 = .ok (.if_icmp .le 17, 3) := by decide +kernel
theorem dX3_kindFor_86 : decode cX3_kindFor 86 = .ok (.aload_n 0, 1) := by decide +kernel
theorem dX3_kindFor_87 : decode cX3_kindFor 87 = .ok (.getfield 16, 3) := by decide +kernel
theorem dX3_kindFor_90 : decode cX3_kindFor 90 = .ok (.getfield 116, 3) := by decide +kernel
theorem dX3_kindFor_93 : decode cX3_kindFor 93 = .ok (.iload_n 1, 1) := by decide +kernel
theorem dX3_kindFor_94 : decode cX3_kindFor 94 = .ok (.iaload, 1) := by decide +kernel
theorem dX3_kindFor_95 : decode cX3_kindFor 95 = .ok (.istore 4, 2) := by decide +kernel
theorem dX3_kindFor_97 : decode cX3_kindFor 97 = .ok (.iload 5, 2) := by decide +kernel
theorem dX3_kindFor_99 : decode cX3_kindFor 99 = .ok (.istore_n 3, 1) := by decide +kernel
theorem dX3_kindFor_100 : decode cX3_kindFor 100 = .ok (.iinc 5 1, 3) := by decide +kernel
theorem dX3_kindFor_103 : decode cX3_kindFor 103 = .ok (.goto (-68), 3) := by decide +kernel
theorem dX3_kindFor_106 : decode cX3_kindFor 106 = .ok (.iload_n 3, 1) := by decide +kernel
theorem dX3_kindFor_107 : decode cX3_kindFor 107 = .ok (.ireturn, 1) := by decide +kernel
theorem dX3_rentFor_0 : decode cX3_rentFor 0 = .ok (.iload_n 1, 1) := by decide +kernel
theorem dX3_rentFor_1 : decode cX3_rentFor 1 = .ok (.invokestatic 44, 3) := by decide +kernel
theorem dX3_rentFor_4 : decode cX3_rentFor 4 = .ok (.ifCond .eq 13, 3) := by decide +kernel
theorem dX3_rentFor_7 : decode cX3_rentFor 7 = .ok (.iload_n 2, 1) := by decide +kernel
theorem dX3_rentFor_8 : decode cX3_rentFor 8 = .ok (.iconst 0, 1) := by decide +kernel
theorem dX3_rentFor_9 : decode cX3_rentFor 9 = .ok (.bipush 40, 2) := by decide +kernel
theorem dX3_rentFor_11 : decode cX3_rentFor 11 = .ok (.invokestatic 52, 3) := by decide +kernel
theorem dX3_rentFor_14 : decode cX3_rentFor 14 = .ok (.ifCond .ne 9, 3) := by decide +kernel
theorem dX3_rentFor_17 : decode cX3_rentFor 17 = .ok (.aload_n 0, 1) := by decide +kernel
theorem dX3_rentFor_18 : decode cX3_rentFor 18 = .ok (.iconst 0, 1) := by decide +kernel
theorem dX3_rentFor_19 : decode cX3_rentFor 19 = .ok (.invokevirtual 48, 3) := by decide +kernel
theorem dX3_rentFor_22 : decode cX3_rentFor 22 = .ok (.ireturn, 1) := by decide +kernel
theorem dX3_rentFor_23 : decode cX3_rentFor 23 = .ok (.aload_n 0, 1) := by decide +kernel
theorem dX3_rentFor_24 : decode cX3_rentFor 24 = .ok (.getfield 10, 3) := by decide +kernel
theorem dX3_rentFor_27 : decode cX3_rentFor 27 = .ok (.getfield 69, 3) := by decide +kernel
theorem dX3_rentFor_30 : decode cX3_rentFor 30 = .ok (.iload_n 1, 1) := by decide +kernel
theorem dX3_rentFor_31 : decode cX3_rentFor 31 = .ok (.iaload, 1) := by decide +kernel
theorem dX3_rentFor_32 : decode cX3_rentFor 32 = .ok (.istore_n 3, 1) := by decide +kernel
theorem dX3_rentFor_33 : decode cX3_rentFor 33 = .ok (.aload_n 0, 1) := by decide +kernel
theorem dX3_rentFor_34 : decode cX3_rentFor 34 = .ok (.getfield 10, 3) := by decide +kernel
theorem dX3_rentFor_37 : decode cX3_rentFor 37 = .ok (.iload_n 3, 1) := by decide +kernel
theorem dX3_rentFor_38 : decode cX3_rentFor 38 = .ok (.invokevirtual 66, 3) := by decide +kernel
theorem dX3_rentFor_41 : decode cX3_rentFor 41 = .ok (.ifCond .ne 9, 3) := by decide +kernel
theorem dX3_rentFor_44 : decode cX3_rentFor 44 = .ok (.aload_n 0, 1) := by decide +kernel
theorem dX3_rentFor_45 : decode cX3_rentFor 45 = .ok (.iconst 3, 1) := by decide +kernel
theorem dX3_rentFor_46 : decode cX3_rentFor 46 = .ok (.invokevirtual 48, 3) := by decide +kernel
theorem dX3_rentFor_49 : decode cX3_rentFor 49 = .ok (.ireturn, 1) := by decide +kernel
theorem dX3_rentFor_50 : decode cX3_rentFor 50 = .ok (.iconst 0, 1) := by decide +kernel
theorem dX3_rentFor_51 : decode cX3_rentFor 51 = .ok (.istore 4, 2) := by decide +kernel
theorem dX3_rentFor_53 : decode cX3_rentFor 53 = .ok (.iconst (-1), 1) := by decide +kernel
theorem dX3_rentFor_54 : decode cX3_rentFor 54 = .ok (.istore 5, 2) := by decide +kernel
theorem dX3_rentFor_56 : decode cX3_rentFor 56 = .ok (.iconst 0, 1) := by decide +kernel
theorem dX3_rentFor_57 : decode cX3_rentFor 57 = .ok (.istore 6, 2) := by decide +kernel
theorem dX3_rentFor_59 : decode cX3_rentFor 59 = .ok (.iload 6, 2) := by decide +kernel
theorem dX3_rentFor_61 : decode cX3_rentFor 61 = .ok (.bipush 20, 2) := by decide +kernel
theorem dX3_rentFor_63 : decode cX3_rentFor 63 = .ok (.if_icmp .gt 68, 3) := by decide +kernel
theorem dX3_rentFor_66 : decode cX3_rentFor 66 = .ok (.aload_n 0, 1) := by decide +kernel
theorem dX3_rentFor_67 : decode cX3_rentFor 67 = .ok (.getfield 16, 3) := by decide +kernel
theorem dX3_rentFor_70 : decode cX3_rentFor 70 = .ok (.aload_n 0, 1) := by decide +kernel
theorem dX3_rentFor_71 : decode cX3_rentFor 71 = .ok (.getfield 10, 3) := by decide +kernel
theorem dX3_rentFor_74 : decode cX3_rentFor 74 = .ok (.invokevirtual 144, 3) := by decide +kernel
theorem dX3_rentFor_77 : decode cX3_rentFor 77 = .ok (.aload_n 0, 1) := by decide +kernel
theorem dX3_rentFor_78 : decode cX3_rentFor 78 = .ok (.getfield 16, 3) := by decide +kernel
theorem dX3_rentFor_81 : decode cX3_rentFor 81 = .ok (.getfield 63, 3) := by decide +kernel
theorem dX3_rentFor_84 : decode cX3_rentFor 84 = .ok (.iload_n 1, 1) := by decide +kernel
theorem dX3_rentFor_85 : decode cX3_rentFor 85 = .ok (.iload 6, 2) := by decide +kernel
theorem dX3_rentFor_87 : decode cX3_rentFor 87 = .ok (.iastore, 1) := by decide +kernel
theorem dX3_rentFor_88 : decode cX3_rentFor 88 = .ok (.aload_n 0, 1) := by decide +kernel
theorem dX3_rentFor_89 : decode cX3_rentFor 89 = .ok (.getfield 16, 3) := by decide +kernel
theorem dX3_rentFor_92 : decode cX3_rentFor 92 = .ok (.iload_n 2, 1) := by decide +kernel
theorem dX3_rentFor_93 : decode cX3_rentFor 93 = .ok (.invokevirtual 129, 3) := by decide +kernel
theorem dX3_rentFor_96 : decode cX3_rentFor 96 = .ok (.aload_n 0, 1) := by decide +kernel
theorem dX3_rentFor_97 : decode cX3_rentFor 97 = .ok (.getfield 16, 3) := by decide +kernel
theorem dX3_rentFor_100 : decode cX3_rentFor 100 = .ok (.getfield 116, 3) := by decide +kernel
theorem dX3_rentFor_103 : decode cX3_rentFor 103 = .ok (.iload_n 3, 1) := by decide +kernel
theorem dX3_rentFor_104 : decode cX3_rentFor 104 = .ok (.iaload, 1) := by decide +kernel
theorem dX3_rentFor_105 : decode cX3_rentFor 105 = .ok (.iload 5, 2) := by decide +kernel
theorem dX3_rentFor_107 : decode cX3_rentFor 107 = .ok (.if_icmp .le 18, 3) := by decide +kernel
theorem dX3_rentFor_110 : decode cX3_rentFor 110 = .ok (.aload_n 0, 1) := by decide +kernel
theorem dX3_rentFor_111 : decode cX3_rentFor 111 = .ok (.getfield 16, 3) := by decide +kernel
theorem dX3_rentFor_114 : decode cX3_rentFor 114 = .ok (.getfield 116, 3) := by decide +kernel
theorem dX3_rentFor_117 : decode cX3_rentFor 117 = .ok (.iload_n 3, 1) := by decide +kernel
theorem dX3_rentFor_118 : decode cX3_rentFor 118 = .ok (.iaload, 1) := by decide +kernel
theorem dX3_rentFor_119 : decode cX3_rentFor 119 = .ok (.istore 5, 2) := by decide +kernel
theorem dX3_rentFor_121 : decode cX3_rentFor 121 = .ok (.iload 6, 2) := by decide +kernel
theorem dX3_rentFor_123 : decode cX3_rentFor 123 = .ok (.istore 4, 2) := by decide +kernel
theorem dX3_rentFor_125 : decode cX3_rentFor 125 = .ok (.iinc 6 1, 3) := by decide +kernel
theorem dX3_rentFor_128 : decode cX3_rentFor 128 = .ok (.goto (-69), 3) := by decide +kernel
theorem dX3_rentFor_131 : decode cX3_rentFor 131 = .ok (.iload 4, 2) := by decide +kernel
theorem dX3_rentFor_133 : decode cX3_rentFor 133 = .ok (.ireturn, 1) := by decide +kernel
theorem dX3_sunFor_0 : decode cX3_sunFor 0 = .ok (.iload_n 1, 1) := by decide +kernel
theorem dX3_sunFor_1 : decode cX3_sunFor 1 = .ok (.iconst 0, 1) := by decide +kernel
theorem dX3_sunFor_2 : decode cX3_sunFor 2 = .ok (.bipush 40, 2) := by decide +kernel
theorem dX3_sunFor_4 : decode cX3_sunFor 4 = .ok (.invokestatic 52, 3) := by decide +kernel
theorem dX3_sunFor_7 : decode cX3_sunFor 7 = .ok (.ifCond .ne 9, 3) := by decide +kernel
theorem dX3_sunFor_10 : decode cX3_sunFor 10 = .ok (.aload_n 0, 1) := by decide +kernel
theorem dX3_sunFor_11 : decode cX3_sunFor 11 = .ok (.iconst 0, 1) := by decide +kernel
theorem dX3_sunFor_12 : decode cX3_sunFor 12 = .ok (.invokevirtual 48, 3) := by decide +kernel
theorem dX3_sunFor_15 : decode cX3_sunFor 15 = .ok (.ireturn, 1) := by decide +kernel
theorem dX3_sunFor_16 : decode cX3_sunFor 16 = .ok (.aload_n 0, 1) := by decide +kernel
theorem dX3_sunFor_17 : decode cX3_sunFor 17 = .ok (.getfield 10, 3) := by decide +kernel
theorem dX3_sunFor_20 : decode cX3_sunFor 20 = .ok (.getfield 119, 3) := by decide +kernel
theorem dX3_sunFor_23 : decode cX3_sunFor 23 = .ok (.aload_n 0, 1) := by decide +kernel
theorem dX3_sunFor_24 : decode cX3_sunFor 24 = .ok (.getfield 10, 3) := by decide +kernel
theorem dX3_sunFor_27 : decode cX3_sunFor 27 = .ok (.getfield 88, 3) := by decide +kernel
theorem dX3_sunFor_30 : decode cX3_sunFor 30 = .ok (.invokestatic 137, 3) := by decide +kernel
theorem dX3_sunFor_33 : decode cX3_sunFor 33 = .ok (.istore_n 2, 1) := by decide +kernel
theorem dX3_sunFor_34 : decode cX3_sunFor 34 = .ok (.bipush 40, 2) := by decide +kernel
theorem dX3_sunFor_36 : decode cX3_sunFor 36 = .ok (.istore_n 3, 1) := by decide +kernel
theorem dX3_sunFor_37 : decode cX3_sunFor 37 = .ok (.iload_n 3, 1) := by decide +kernel
theorem dX3_sunFor_38 : decode cX3_sunFor 38 = .ok (.ifCond .lt 114, 3) := by decide +kernel
theorem dX3_sunFor_41 : decode cX3_sunFor 41 = .ok (.aload_n 0, 1) := by decide +kernel
theorem dX3_sunFor_42 : decode cX3_sunFor 42 = .ok (.getfield 16, 3) := by decide +kernel
theorem dX3_sunFor_45 : decode cX3_sunFor 45 = .ok (.aload_n 0, 1) := by decide +kernel
theorem dX3_sunFor_46 : decode cX3_sunFor 46 = .ok (.getfield 10, 3) := by decide +kernel
theorem dX3_sunFor_49 : decode cX3_sunFor 49 = .ok (.invokevirtual 144, 3) := by decide +kernel
theorem dX3_sunFor_52 : decode cX3_sunFor 52 = .ok (.iconst 0, 1) := by decide +kernel
theorem dX3_sunFor_53 : decode cX3_sunFor 53 = .ok (.istore 4, 2) := by decide +kernel
theorem dX3_sunFor_55 : decode cX3_sunFor 55 = .ok (.iload 4, 2) := by decide +kernel
theorem dX3_sunFor_57 : decode cX3_sunFor 57 = .ok (.bipush 6, 2) := by decide +kernel
theorem dX3_sunFor_59 : decode cX3_sunFor 59 = .ok (.if_icmp .ge 20, 3) := by decide +kernel
theorem dX3_sunFor_62 : decode cX3_sunFor 62 = .ok (.aload_n 0, 1) := by decide +kernel
theorem dX3_sunFor_63 : decode cX3_sunFor 63 = .ok (.getfield 16, 3) := by decide +kernel
theorem dX3_sunFor_66 : decode cX3_sunFor 66 = .ok (.getfield 78, 3) := by decide +kernel
theorem dX3_sunFor_69 : decode cX3_sunFor 69 = .ok (.iload 4, 2) := by decide +kernel
theorem dX3_sunFor_71 : decode cX3_sunFor 71 = .ok (.iload_n 3, 1) := by decide +kernel
theorem dX3_sunFor_72 : decode cX3_sunFor 72 = .ok (.iastore, 1) := by decide +kernel
theorem dX3_sunFor_73 : decode cX3_sunFor 73 = .ok (.iinc 4 1, 3) := by decide +kernel
theorem dX3_sunFor_76 : decode cX3_sunFor 76 = .ok (.goto (-21), 3) := by decide +kernel
theorem dX3_sunFor_79 : decode cX3_sunFor 79 = .ok (.iconst 0, 1) := by decide +kernel
theorem dX3_sunFor_80 : decode cX3_sunFor 80 = .ok (.istore 4, 2) := by decide +kernel
theorem dX3_sunFor_82 : decode cX3_sunFor 82 = .ok (.iload 4, 2) := by decide +kernel
theorem dX3_sunFor_84 : decode cX3_sunFor 84 = .ok (.iload_n 1, 1) := by decide +kernel
theorem dX3_sunFor_85 : decode cX3_sunFor 85 = .ok (.if_icmp .ge 38, 3) := by decide +kernel
theorem dX3_sunFor_88 : decode cX3_sunFor 88 = .ok (.aload_n 0, 1) := by decide +kernel
theorem dX3_sunFor_89 : decode cX3_sunFor 89 = .ok (.getfield 16, 3) := by decide +kernel
theorem dX3_sunFor_92 : decode cX3_sunFor 92 = .ok (.getfield 119, 3) := by decide +kernel
theorem dX3_sunFor_95 : decode cX3_sunFor 95 = .ok (.aload_n 0, 1) := by decide +kernel
theorem dX3_sunFor_96 : decode cX3_sunFor 96 = .ok (.getfield 16, 3) := by decide +kernel
theorem dX3_sunFor_99 : decode cX3_sunFor 99 = .ok (.getfield 88, 3) := by decide +kernel
theorem dX3_sunFor_102 : decode cX3_sunFor 102 = .ok (.invokestatic 137, 3) := by decide +kernel
theorem dX3_sunFor_105 : decode cX3_sunFor 105 = .ok (.iload_n 2, 1) := by decide +kernel
theorem dX3_sunFor_106 : decode cX3_sunFor 106 = .ok (.if_icmp .ne 17, 3) := by decide +kernel
theorem dX3_sunFor_109 : decode cX3_sunFor 109 = .ok (.aload_n 0, 1) := by decide +kernel
theorem dX3_sunFor_110 : decode cX3_sunFor 110 = .ok (.getfield 16, 3) := by decide +kernel
theorem dX3_sunFor_113 : decode cX3_sunFor 113 = .ok (.iconst 1, 1) := by decide +kernel
theorem dX3_sunFor_114 : decode cX3_sunFor 114 = .ok (.invokevirtual 129, 3) := by decide +kernel
theorem dX3_sunFor_117 : decode cX3_sunFor 117 = .ok (.iinc 4 1, 3) := by decide +kernel
theorem dX3_sunFor_120 : decode cX3_sunFor 120 = .ok (.goto (-38), 3) := by decide +kernel
theorem dX3_sunFor_123 : decode cX3_sunFor 123 = .ok (.aload_n 0, 1) := by decide +kernel
theorem dX3_sunFor_124 : decode cX3_sunFor 124 = .ok (.getfield 16, 3) := by decide +kernel
theorem dX3_sunFor_127 : decode cX3_sunFor 127 = .ok (.getfield 119, 3) := by decide +kernel
theorem dX3_sunFor_130 : decode cX3_sunFor 130 = .ok (.aload_n 0, 1) := by decide +kernel
theorem dX3_sunFor_131 : decode cX3_sunFor 131 = .ok (.getfield 16, 3) := by decide +kernel
theorem dX3_sunFor_134 : decode cX3_sunFor 134 = .ok (.getfield 88, 3) := by decide +kernel
theorem dX3_sunFor_137 : decode cX3_sunFor 137 = .ok (.invokestatic 137, 3) := by decide +kernel
theorem dX3_sunFor_140 : decode cX3_sunFor 140 = .ok (.iload_n 2, 1) := by decide +kernel
theorem dX3_sunFor_141 : decode cX3_sunFor 141 = .ok (.if_icmp .ne 5, 3) := by decide +kernel
theorem dX3_sunFor_144 : decode cX3_sunFor 144 = .ok (.iload_n 3, 1) := by decide +kernel
theorem dX3_sunFor_145 : decode cX3_sunFor 145 = .ok (.ireturn, 1) := by decide +kernel
theorem dX3_sunFor_146 : decode cX3_sunFor 146 = .ok (.iinc 3 (-1), 3) := by decide +kernel
theorem dX3_sunFor_149 : decode cX3_sunFor 149 = .ok (.goto (-112), 3) := by decide +kernel
theorem dX3_sunFor_152 : decode cX3_sunFor 152 = .ok (.aload_n 0, 1) := by decide +kernel
theorem dX3_sunFor_153 : decode cX3_sunFor 153 = .ok (.iconst 3, 1) := by decide +kernel
theorem dX3_sunFor_154 : decode cX3_sunFor 154 = .ok (.invokevirtual 48, 3) := by decide +kernel
theorem dX3_sunFor_157 : decode cX3_sunFor 157 = .ok (.ireturn, 1) := by decide +kernel
theorem dX3_away_0 : decode cX3_away 0 = .ok (.aload_n 0, 1) := by decide +kernel
theorem dX3_away_1 : decode cX3_away 1 = .ok (.getfield 10, 3) := by decide +kernel
theorem dX3_away_4 : decode cX3_away 4 = .ok (.iload_n 1, 1) := by decide +kernel
theorem dX3_away_5 : decode cX3_away 5 = .ok (.invokevirtual 66, 3) := by decide +kernel
theorem dX3_away_8 : decode cX3_away 8 = .ok (.ifCond .eq 13, 3) := by decide +kernel
theorem dX3_away_11 : decode cX3_away 11 = .ok (.iload_n 2, 1) := by decide +kernel
theorem dX3_away_12 : decode cX3_away 12 = .ok (.iconst 0, 1) := by decide +kernel
theorem dX3_away_13 : decode cX3_away 13 = .ok (.bipush 12, 2) := by decide +kernel
theorem dX3_away_15 : decode cX3_away 15 = .ok (.invokestatic 52, 3) := by decide +kernel
theorem dX3_away_18 : decode cX3_away 18 = .ok (.ifCond .ne 9, 3) := by decide +kernel
theorem dX3_away_21 : decode cX3_away 21 = .ok (.aload_n 0, 1) := by decide +kernel
theorem dX3_away_22 : decode cX3_away 22 = .ok (.iconst 0, 1) := by decide +kernel
theorem dX3_away_23 : decode cX3_away 23 = .ok (.invokevirtual 48, 3) := by decide +kernel
theorem dX3_away_26 : decode cX3_away 26 = .ok (.ireturn, 1) := by decide +kernel
theorem dX3_away_27 : decode cX3_away 27 = .ok (.iconst 1, 1) := by decide +kernel
theorem dX3_away_28 : decode cX3_away 28 = .ok (.aload_n 0, 1) := by decide +kernel
theorem dX3_away_29 : decode cX3_away 29 = .ok (.getfield 10, 3) := by decide +kernel
theorem dX3_away_32 : decode cX3_away 32 = .ok (.getfield 88, 3) := by decide +kernel
theorem dX3_away_35 : decode cX3_away 35 = .ok (.ishl, 1) := by decide +kernel
theorem dX3_away_36 : decode cX3_away 36 = .ok (.iconst 1, 1) := by decide +kernel
theorem dX3_away_37 : decode cX3_away 37 = .ok (.isub, 1) := by decide +kernel
theorem dX3_away_38 : decode cX3_away 38 = .ok (.iconst 1, 1) := by decide +kernel
theorem dX3_away_39 : decode cX3_away 39 = .ok (.iload_n 1, 1) := by decide +kernel
theorem dX3_away_40 : decode cX3_away 40 = .ok (.ishl, 1) := by decide +kernel
theorem dX3_away_41 : decode cX3_away 41 = .ok (.iconst (-1), 1) := by decide +kernel
theorem dX3_away_42 : decode cX3_away 42 = .ok (.ixor, 1) := by decide +kernel
theorem dX3_away_43 : decode cX3_away 43 = .ok (.iand, 1) := by decide +kernel
theorem dX3_away_44 : decode cX3_away 44 = .ok (.istore_n 3, 1) := by decide +kernel
theorem dX3_away_45 : decode cX3_away 45 = .ok (.iconst (-1), 1) := by decide +kernel
theorem dX3_away_46 : decode cX3_away 46 = .ok (.istore 4, 2) := by decide +kernel
theorem dX3_away_48 : decode cX3_away 48 = .ok (.iconst 0, 1) := by decide +kernel
theorem dX3_away_49 : decode cX3_away 49 = .ok (.istore 5, 2) := by decide +kernel
theorem dX3_away_51 : decode cX3_away 51 = .ok (.iload 5, 2) := by decide +kernel
theorem dX3_away_53 : decode cX3_away 53 = .ok (.iload_n 3, 1) := by decide +kernel
theorem dX3_away_54 : decode cX3_away 54 = .ok (.if_icmp .gt 96, 3) := by decide +kernel
theorem dX3_away_57 : decode cX3_away 57 = .ok (.iload 4, 2) := by decide +kernel
theorem dX3_away_59 : decode cX3_away 59 = .ok (.ifCond .lt 16, 3) := by decide +kernel
theorem dX3_away_62 : decode cX3_away 62 = .ok (.iload 5, 2) := by decide +kernel
theorem dX3_away_64 : decode cX3_away 64 = .ok (.invokestatic 148, 3) := by decide +kernel
theorem dX3_away_67 : decode cX3_away 67 = .ok (.iload 4, 2) := by decide +kernel
theorem dX3_away_69 : decode cX3_away 69 = .ok (.invokestatic 148, 3) := by decide +kernel
theorem dX3_away_72 : decode cX3_away 72 = .ok (.if_icmp .ge 7, 3) := by decide +kernel
theorem dX3_away_75 : decode cX3_away 75 = .ok (.iconst 1, 1) := by decide +kernel
theorem dX3_away_76 : decode cX3_away 76 = .ok (.goto 4, 3) := by decide +kernel
theorem dX3_away_79 : decode cX3_away 79 = .ok (.iconst 0, 1) := by decide +kernel
theorem dX3_away_80 : decode cX3_away 80 = .ok (.istore 6, 2) := by decide +kernel
theorem dX3_away_82 : decode cX3_away 82 = .ok (.iload 5, 2) := by decide +kernel
theorem dX3_away_84 : decode cX3_away 84 = .ok (.iload_n 3, 1) := by decide +kernel
theorem dX3_away_85 : decode cX3_away 85 = .ok (.iconst (-1), 1) := by decide +kernel
theorem dX3_away_86 : decode cX3_away 86 = .ok (.ixor, 1) := by decide +kernel
theorem dX3_away_87 : decode cX3_away 87 = .ok (.iand, 1) := by decide +kernel
theorem dX3_away_88 : decode cX3_away 88 = .ok (.ifCond .ne 56, 3) := by decide +kernel
theorem dX3_away_91 : decode cX3_away 91 = .ok (.iload 6, 2) := by decide +kernel
theorem dX3_away_93 : decode cX3_away 93 = .ok (.ifCond .ne 6, 3) := by decide +kernel
theorem dX3_away_96 : decode cX3_away 96 = .ok (.goto 48, 3) := by decide +kernel
theorem dX3_away_99 : decode cX3_away 99 = .ok (.aload_n 0, 1) := by decide +kernel
theorem dX3_away_100 : decode cX3_away 100 = .ok (.getfield 16, 3) := by decide +kernel
theorem dX3_away_103 : decode cX3_away 103 = .ok (.aload_n 0, 1) := by decide +kernel
theorem dX3_away_104 : decode cX3_away 104 = .ok (.getfield 10, 3) := by decide +kernel
theorem dX3_away_107 : decode cX3_away 107 = .ok (.invokevirtual 144, 3) := by decide +kernel
theorem dX3_away_110 : decode cX3_away 110 = .ok (.aload_n 0, 1) := by decide +kernel
theorem dX3_away_111 : decode cX3_away 111 = .ok (.getfield 16, 3) := by decide +kernel
theorem dX3_away_114 : decode cX3_away 114 = .ok (.iload 5, 2) := by decide +kernel
theorem dX3_away_116 : decode cX3_away 116 = .ok (.invokevirtual 153, 3) := by decide +kernel
theorem dX3_away_119 : decode cX3_away 119 = .ok (.aload_n 0, 1) := by decide +kernel
theorem dX3_away_120 : decode cX3_away 120 = .ok (.getfield 16, 3) := by decide +kernel
theorem dX3_away_123 : decode cX3_away 123 = .ok (.iload_n 2, 1) := by decide +kernel
theorem dX3_away_124 : decode cX3_away 124 = .ok (.invokevirtual 129, 3) := by decide +kernel
theorem dX3_away_127 : decode cX3_away 127 = .ok (.aload_n 0, 1) := by decide +kernel
theorem dX3_away_128 : decode cX3_away 128 = .ok (.getfield 16, 3) := by decide +kernel
theorem dX3_away_131 : decode cX3_away 131 = .ok (.getfield 110, 3) := by decide +kernel
theorem dX3_away_134 : decode cX3_away 134 = .ok (.iload_n 1, 1) := by decide +kernel
theorem dX3_away_135 : decode cX3_away 135 = .ok (.iaload, 1) := by decide +kernel
theorem dX3_away_136 : decode cX3_away 136 = .ok (.iconst (-1), 1) := by decide +kernel
theorem dX3_away_137 : decode cX3_away 137 = .ok (.if_icmp .eq 7, 3) := by decide +kernel
theorem dX3_away_140 : decode cX3_away 140 = .ok (.iload 5, 2) := by decide +kernel
theorem dX3_away_142 : decode cX3_away 142 = .ok (.istore 4, 2) := by decide +kernel
theorem dX3_away_144 : decode cX3_away 144 = .ok (.iinc 5 1, 3) := by decide +kernel
theorem dX3_away_147 : decode cX3_away 147 = .ok (.goto (-96), 3) := by decide +kernel
theorem dX3_away_150 : decode cX3_away 150 = .ok (.iload 4, 2) := by decide +kernel
theorem dX3_away_152 : decode cX3_away 152 = .ok (.ifCond .ge 11, 3) := by decide +kernel
theorem dX3_away_155 : decode cX3_away 155 = .ok (.aload_n 0, 1) := by decide +kernel
theorem dX3_away_156 : decode cX3_away 156 = .ok (.iconst 3, 1) := by decide +kernel
theorem dX3_away_157 : decode cX3_away 157 = .ok (.invokevirtual 48, 3) := by decide +kernel
theorem dX3_away_160 : decode cX3_away 160 = .ok (.goto 5, 3) := by decide +kernel
theorem dX3_away_163 : decode cX3_away 163 = .ok (.iload 4, 2) := by decide +kernel
theorem dX3_away_165 : decode cX3_away 165 = .ok (.ireturn, 1) := by decide +kernel
theorem dX3_fits_0 : decode cX3_fits 0 = .ok (.aload_n 0, 1) := by decide +kernel
theorem dX3_fits_1 : decode cX3_fits 1 = .ok (.iload_n 1, 1) := by decide +kernel
theorem dX3_fits_2 : decode cX3_fits 2 = .ok (.iload_n 2, 1) := by decide +kernel
theorem dX3_fits_3 : decode cX3_fits 3 = .ok (.invokevirtual 156, 3) := by decide +kernel
theorem dX3_fits_6 : decode cX3_fits 6 = .ok (.istore_n 3, 1) := by decide +kernel
theorem dX3_fits_7 : decode cX3_fits 7 = .ok (.iload_n 3, 1) := by decide +kernel
theorem dX3_fits_8 : decode cX3_fits 8 = .ok (.ifCond .lt 9, 3) := by decide +kernel
theorem dX3_fits_11 : decode cX3_fits 11 = .ok (.aload_n 0, 1) := by decide +kernel
theorem dX3_fits_12 : decode cX3_fits 12 = .ok (.iload_n 3, 1) := by decide +kernel
theorem dX3_fits_13 : decode cX3_fits 13 = .ok (.invokevirtual 48, 3) := by decide +kernel
theorem dX3_fits_16 : decode cX3_fits 16 = .ok (.ireturn, 1) := by decide +kernel
theorem dX3_fits_17 : decode cX3_fits 17 = .ok (.iconst 0, 1) := by decide +kernel
theorem dX3_fits_18 : decode cX3_fits 18 = .ok (.istore 4, 2) := by decide +kernel
theorem dX3_fits_20 : decode cX3_fits 20 = .ok (.iconst 0, 1) := by decide +kernel
theorem dX3_fits_21 : decode cX3_fits 21 = .ok (.istore 5, 2) := by decide +kernel
theorem dX3_fits_23 : decode cX3_fits 23 = .ok (.iload 5, 2) := by decide +kernel
theorem dX3_fits_25 : decode cX3_fits 25 = .ok (.bipush 99, 2) := by decide +kernel
theorem dX3_fits_27 : decode cX3_fits 27 = .ok (.if_icmp .gt 48, 3) := by decide +kernel
theorem dX3_fits_30 : decode cX3_fits 30 = .ok (.aload_n 0, 1) := by decide +kernel
theorem dX3_fits_31 : decode cX3_fits 31 = .ok (.getfield 16, 3) := by decide +kernel
theorem dX3_fits_34 : decode cX3_fits 34 = .ok (.aload_n 0, 1) := by decide +kernel
theorem dX3_fits_35 : decode cX3_fits 35 = .ok (.getfield 10, 3) := by decide +kernel
theorem dX3_fits_38 : decode cX3_fits 38 = .ok (.invokevirtual 144, 3) := by decide +kernel
theorem dX3_fits_41 : decode cX3_fits 41 = .ok (.aload_n 0, 1) := by decide +kernel
theorem dX3_fits_42 : decode cX3_fits 42 = .ok (.getfield 16, 3) := by decide +kernel
theorem dX3_fits_45 : decode cX3_fits 45 = .ok (.getfield 113, 3) := by decide +kernel
theorem dX3_fits_48 : decode cX3_fits 48 = .ok (.iload_n 2, 1) := by decide +kernel
theorem dX3_fits_49 : decode cX3_fits 49 = .ok (.iload 5, 2) := by decide +kernel
theorem dX3_fits_51 : decode cX3_fits 51 = .ok (.iastore, 1) := by decide +kernel
theorem dX3_fits_52 : decode cX3_fits 52 = .ok (.aload_n 0, 1) := by decide +kernel
theorem dX3_fits_53 : decode cX3_fits 53 = .ok (.iload_n 2, 1) := by decide +kernel
theorem dX3_fits_54 : decode cX3_fits 54 = .ok (.aload_n 0, 1) := by decide +kernel
theorem dX3_fits_55 : decode cX3_fits 55 = .ok (.getfield 35, 3) := by decide +kernel
theorem dX3_fits_58 : decode cX3_fits 58 = .ok (.iload_n 1, 1) := by decide +kernel
theorem dX3_fits_59 : decode cX3_fits 59 = .ok (.aaload, 1) := by decide +kernel
theorem dX3_fits_60 : decode cX3_fits 60 = .ok (.invokevirtual 159, 3) := by decide +kernel
theorem dX3_fits_63 : decode cX3_fits 63 = .ok (.ifCond .eq 6, 3) := by decide +kernel
theorem dX3_fits_66 : decode cX3_fits 66 = .ok (.iinc 4 1, 3) := by decide +kernel
theorem dX3_fits_69 : decode cX3_fits 69 = .ok (.iinc 5 1, 3) := by decide +kernel
theorem dX3_fits_72 : decode cX3_fits 72 = .ok (.goto (-49), 3) := by decide +kernel
theorem dX3_fits_75 : decode cX3_fits 75 = .ok (.iload 4, 2) := by decide +kernel
theorem dX3_fits_77 : decode cX3_fits 77 = .ok (.ireturn, 1) := by decide +kernel
theorem dX3_believed_0 : decode cX3_believed 0 = .ok (.aload_n 0, 1) := by decide +kernel
theorem dX3_believed_1 : decode cX3_believed 1 = .ok (.iload_n 1, 1) := by decide +kernel
theorem dX3_believed_2 : decode cX3_believed 2 = .ok (.iload_n 2, 1) := by decide +kernel
theorem dX3_believed_3 : decode cX3_believed 3 = .ok (.invokevirtual 156, 3) := by decide +kernel
theorem dX3_believed_6 : decode cX3_believed 6 = .ok (.istore_n 3, 1) := by decide +kernel
theorem dX3_believed_7 : decode cX3_believed 7 = .ok (.iload_n 3, 1) := by decide +kernel
theorem dX3_believed_8 : decode cX3_believed 8 = .ok (.ifCond .lt 9, 3) := by decide +kernel
theorem dX3_believed_11 : decode cX3_believed 11 = .ok (.aload_n 0, 1) := by decide +kernel
theorem dX3_believed_12 : decode cX3_believed 12 = .ok (.iload_n 3, 1) := by decide +kernel
theorem dX3_believed_13 : decode cX3_believed 13 = .ok (.invokevirtual 48, 3) := by decide +kernel
theorem dX3_believed_16 : decode cX3_believed 16 = .ok (.ireturn, 1) := by decide +kernel
theorem dX3_believed_17 : decode cX3_believed 17 = .ok (.iconst 0, 1) := by decide +kernel
theorem dX3_believed_18 : decode cX3_believed 18 = .ok (.istore 4, 2) := by decide +kernel
theorem dX3_believed_20 : decode cX3_believed 20 = .ok (.iload 4, 2) := by decide +kernel
theorem dX3_believed_22 : decode cX3_believed 22 = .ok (.bipush 99, 2) := by decide +kernel
theorem dX3_believed_24 : decode cX3_believed 24 = .ok (.if_icmp .gt 48, 3) := by decide +kernel
theorem dX3_believed_27 : decode cX3_believed 27 = .ok (.aload_n 0, 1) := by decide +kernel
theorem dX3_believed_28 : decode cX3_believed 28 = .ok (.getfield 16, 3) := by decide +kernel
theorem dX3_believed_31 : decode cX3_believed 31 = .ok (.aload_n 0, 1) := by decide +kernel
theorem dX3_believed_32 : decode cX3_believed 32 = .ok (.getfield 10, 3) := by decide +kernel
theorem dX3_believed_35 : decode cX3_believed 35 = .ok (.invokevirtual 144, 3) := by decide +kernel
theorem dX3_believed_38 : decode cX3_believed 38 = .ok (.aload_n 0, 1) := by decide +kernel
theorem dX3_believed_39 : decode cX3_believed 39 = .ok (.getfield 16, 3) := by decide +kernel
theorem dX3_believed_42 : decode cX3_believed 42 = .ok (.getfield 113, 3) := by decide +kernel
theorem dX3_believed_45 : decode cX3_believed 45 = .ok (.iload_n 2, 1) := by decide +kernel
theorem dX3_believed_46 : decode cX3_believed 46 = .ok (.iload 4, 2) := by decide +kernel
theorem dX3_believed_48 : decode cX3_believed 48 = .ok (.iastore, 1) := by decide +kernel
theorem dX3_believed_49 : decode cX3_believed 49 = .ok (.aload_n 0, 1) := by decide +kernel
theorem dX3_believed_50 : decode cX3_believed 50 = .ok (.iload_n 2, 1) := by decide +kernel
theorem dX3_believed_51 : decode cX3_believed 51 = .ok (.aload_n 0, 1) := by decide +kernel
theorem dX3_believed_52 : decode cX3_believed 52 = .ok (.getfield 35, 3) := by decide +kernel
theorem dX3_believed_55 : decode cX3_believed 55 = .ok (.iload_n 1, 1) := by decide +kernel
theorem dX3_believed_56 : decode cX3_believed 56 = .ok (.aaload, 1) := by decide +kernel
theorem dX3_believed_57 : decode cX3_believed 57 = .ok (.invokevirtual 159, 3) := by decide +kernel
theorem dX3_believed_60 : decode cX3_believed 60 = .ok (.ifCond .eq 6, 3) := by decide +kernel
theorem dX3_believed_63 : decode cX3_believed 63 = .ok (.iload 4, 2) := by decide +kernel
theorem dX3_believed_65 : decode cX3_believed 65 = .ok (.ireturn, 1) := by decide +kernel
theorem dX3_believed_66 : decode cX3_believed 66 = .ok (.iinc 4 1, 3) := by decide +kernel
theorem dX3_believed_69 : decode cX3_believed 69 = .ok (.goto (-49), 3) := by decide +kernel
theorem dX3_believed_72 : decode cX3_believed 72 = .ok (.aload_n 0, 1) := by decide +kernel
theorem dX3_believed_73 : decode cX3_believed 73 = .ok (.iconst 3, 1) := by decide +kernel
theorem dX3_believed_74 : decode cX3_believed 74 = .ok (.invokevirtual 48, 3) := by decide +kernel
theorem dX3_believed_77 : decode cX3_believed 77 = .ok (.ireturn, 1) := by decide +kernel
theorem dX3_kinds_0 : decode cX3_kinds 0 = .ok (.aload_n 0, 1) := by decide +kernel
theorem dX3_kinds_1 : decode cX3_kinds 1 = .ok (.iload_n 1, 1) := by decide +kernel
theorem dX3_kinds_2 : decode cX3_kinds 2 = .ok (.iload_n 2, 1) := by decide +kernel
theorem dX3_kinds_3 : decode cX3_kinds 3 = .ok (.invokevirtual 156, 3) := by decide +kernel
theorem dX3_kinds_6 : decode cX3_kinds 6 = .ok (.istore_n 3, 1) := by decide +kernel
theorem dX3_kinds_7 : decode cX3_kinds 7 = .ok (.iload_n 3, 1) := by decide +kernel
theorem dX3_kinds_8 : decode cX3_kinds 8 = .ok (.ifCond .lt 9, 3) := by decide +kernel
theorem dX3_kinds_11 : decode cX3_kinds 11 = .ok (.aload_n 0, 1) := by decide +kernel
theorem dX3_kinds_12 : decode cX3_kinds 12 = .ok (.iload_n 3, 1) := by decide +kernel
theorem dX3_kinds_13 : decode cX3_kinds 13 = .ok (.invokevirtual 48, 3) := by decide +kernel
theorem dX3_kinds_16 : decode cX3_kinds 16 = .ok (.ireturn, 1) := by decide +kernel
theorem dX3_kinds_17 : decode cX3_kinds 17 = .ok (.iconst 0, 1) := by decide +kernel
theorem dX3_kinds_18 : decode cX3_kinds 18 = .ok (.istore 4, 2) := by decide +kernel
theorem dX3_kinds_20 : decode cX3_kinds 20 = .ok (.iconst 0, 1) := by decide +kernel
theorem dX3_kinds_21 : decode cX3_kinds 21 = .ok (.istore 5, 2) := by decide +kernel
theorem dX3_kinds_23 : decode cX3_kinds 23 = .ok (.iload 5, 2) := by decide +kernel
theorem dX3_kinds_25 : decode cX3_kinds 25 = .ok (.bipush 7, 2) := by decide +kernel
theorem dX3_kinds_27 : decode cX3_kinds 27 = .ok (.if_icmp .ge 54, 3) := by decide +kernel
theorem dX3_kinds_30 : decode cX3_kinds 30 = .ok (.aload_n 0, 1) := by decide +kernel
theorem dX3_kinds_31 : decode cX3_kinds 31 = .ok (.getfield 16, 3) := by decide +kernel
theorem dX3_kinds_34 : decode cX3_kinds 34 = .ok (.aload_n 0, 1) := by decide +kernel
theorem dX3_kinds_35 : decode cX3_kinds 35 = .ok (.getfield 10, 3) := by decide +kernel
theorem dX3_kinds_38 : decode cX3_kinds 38 = .ok (.invokevirtual 144, 3) := by decide +kernel
theorem dX3_kinds_41 : decode cX3_kinds 41 = .ok (.aload_n 0, 1) := by decide +kernel
theorem dX3_kinds_42 : decode cX3_kinds 42 = .ok (.getfield 16, 3) := by decide +kernel
theorem dX3_kinds_45 : decode cX3_kinds 45 = .ok (.getfield 94, 3) := by decide +kernel
theorem dX3_kinds_48 : decode cX3_kinds 48 = .ok (.iload_n 2, 1) := by decide +kernel
theorem dX3_kinds_49 : decode cX3_kinds 49 = .ok (.iload 5, 2) := by decide +kernel
theorem dX3_kinds_51 : decode cX3_kinds 51 = .ok (.iastore, 1) := by decide +kernel
theorem dX3_kinds_52 : decode cX3_kinds 52 = .ok (.aload_n 0, 1) := by decide +kernel
theorem dX3_kinds_53 : decode cX3_kinds 53 = .ok (.iload_n 2, 1) := by decide +kernel
theorem dX3_kinds_54 : decode cX3_kinds 54 = .ok (.aload_n 0, 1) := by decide +kernel
theorem dX3_kinds_55 : decode cX3_kinds 55 = .ok (.getfield 35, 3) := by decide +kernel
theorem dX3_kinds_58 : decode cX3_kinds 58 = .ok (.iload_n 1, 1) := by decide +kernel
theorem dX3_kinds_59 : decode cX3_kinds 59 = .ok (.aaload, 1) := by decide +kernel
theorem dX3_kinds_60 : decode cX3_kinds 60 = .ok (.invokevirtual 159, 3) := by decide +kernel
theorem dX3_kinds_63 : decode cX3_kinds 63 = .ok (.ifCond .eq 12, 3) := by decide +kernel
theorem dX3_kinds_66 : decode cX3_kinds 66 = .ok (.iload 4, 2) := by decide +kernel
theorem dX3_kinds_68 : decode cX3_kinds 68 = .ok (.iconst 1, 1) := by decide +kernel
theorem dX3_kinds_69 : decode cX3_kinds 69 = .ok (.iload 5, 2) := by decide +kernel
theorem dX3_kinds_71 : decode cX3_kinds 71 = .ok (.ishl, 1) := by decide +kernel
theorem dX3_kinds_72 : decode cX3_kinds 72 = .ok (.ior, 1) := by decide +kernel
theorem dX3_kinds_73 : decode cX3_kinds 73 = .ok (.istore 4, 2) := by decide +kernel
theorem dX3_kinds_75 : decode cX3_kinds 75 = .ok (.iinc 5 1, 3) := by decide +kernel
theorem dX3_kinds_78 : decode cX3_kinds 78 = .ok (.goto (-55), 3) := by decide +kernel
theorem dX3_kinds_81 : decode cX3_kinds 81 = .ok (.iload 4, 2) := by decide +kernel
theorem dX3_kinds_83 : decode cX3_kinds 83 = .ok (.ireturn, 1) := by decide +kernel
theorem dX3_fine_0 : decode cX3_fine 0 = .ok (.iload_n 1, 1) := by decide +kernel
theorem dX3_fine_1 : decode cX3_fine 1 = .ok (.iconst 1, 1) := by decide +kernel
theorem dX3_fine_2 : decode cX3_fine 2 = .ok (.bipush 20, 2) := by decide +kernel
theorem dX3_fine_4 : decode cX3_fine 4 = .ok (.invokestatic 52, 3) := by decide +kernel
theorem dX3_fine_7 : decode cX3_fine 7 = .ok (.ifCond .ne 9, 3) := by decide +kernel
theorem dX3_fine_10 : decode cX3_fine 10 = .ok (.aload_n 0, 1) := by decide +kernel
theorem dX3_fine_11 : decode cX3_fine 11 = .ok (.iconst 0, 1) := by decide +kernel
theorem dX3_fine_12 : decode cX3_fine 12 = .ok (.invokevirtual 48, 3) := by decide +kernel
theorem dX3_fine_15 : decode cX3_fine 15 = .ok (.ireturn, 1) := by decide +kernel
theorem dX3_fine_16 : decode cX3_fine 16 = .ok (.aload_n 0, 1) := by decide +kernel
theorem dX3_fine_17 : decode cX3_fine 17 = .ok (.getfield 10, 3) := by decide +kernel
theorem dX3_fine_20 : decode cX3_fine 20 = .ok (.getfield 125, 3) := by decide +kernel
theorem dX3_fine_23 : decode cX3_fine 23 = .ok (.iload_n 1, 1) := by decide +kernel
theorem dX3_fine_24 : decode cX3_fine 24 = .ok (.iadd, 1) := by decide +kernel
theorem dX3_fine_25 : decode cX3_fine 25 = .ok (.ldc 128, 2) := by decide +kernel
theorem dX3_fine_27 : decode cX3_fine 27 = .ok (.if_icmp .le 9, 3) := by decide +kernel
theorem dX3_fine_30 : decode cX3_fine 30 = .ok (.aload_n 0, 1) := by decide +kernel
theorem dX3_fine_31 : decode cX3_fine 31 = .ok (.iconst 4, 1) := by decide +kernel
theorem dX3_fine_32 : decode cX3_fine 32 = .ok (.invokevirtual 48, 3) := by decide +kernel
theorem dX3_fine_35 : decode cX3_fine 35 = .ok (.ireturn, 1) := by decide +kernel
theorem dX3_fine_36 : decode cX3_fine 36 = .ok (.iconst 0, 1) := by decide +kernel
theorem dX3_fine_37 : decode cX3_fine 37 = .ok (.istore_n 2, 1) := by decide +kernel
theorem dX3_fine_38 : decode cX3_fine 38 = .ok (.iload_n 2, 1) := by decide +kernel
theorem dX3_fine_39 : decode cX3_fine 39 = .ok (.iload_n 1, 1) := by decide +kernel
theorem dX3_fine_40 : decode cX3_fine 40 = .ok (.if_icmp .ge 64, 3) := by decide +kernel
theorem dX3_fine_43 : decode cX3_fine 43 = .ok (.aload_n 0, 1) := by decide +kernel
theorem dX3_fine_44 : decode cX3_fine 44 = .ok (.getfield 10, 3) := by decide +kernel
theorem dX3_fine_47 : decode cX3_fine 47 = .ok (.getfield 78, 3) := by decide +kernel
theorem dX3_fine_50 : decode cX3_fine 50 = .ok (.aload_n 0, 1) := by decide +kernel
theorem dX3_fine_51 : decode cX3_fine 51 = .ok (.getfield 10, 3) := by decide +kernel
theorem dX3_fine_54 : decode cX3_fine 54 = .ok (.getfield 125, 3) := by decide +kernel
theorem dX3_fine_57 : decode cX3_fine 57 = .ok (.bipush 6, 2) := by decide +kernel
theorem dX3_fine_59 : decode cX3_fine 59 = .ok (.irem, 1) := by decide +kernel
theorem dX3_fine_60 : decode cX3_fine 60 = .ok (.aload_n 0, 1) := by decide +kernel
theorem dX3_fine_61 : decode cX3_fine 61 = .ok (.getfield 10, 3) := by decide +kernel
theorem dX3_fine_64 : decode cX3_fine 64 = .ok (.invokevirtual 163, 3) := by decide +kernel
theorem dX3_fine_67 : decode cX3_fine 67 = .ok (.bipush 41, 2) := by decide +kernel
theorem dX3_fine_69 : decode cX3_fine 69 = .ok (.irem, 1) := by decide +kernel
theorem dX3_fine_70 : decode cX3_fine 70 = .ok (.iastore, 1) := by decide +kernel
theorem dX3_fine_71 : decode cX3_fine 71 = .ok (.aload_n 0, 1) := by decide +kernel
theorem dX3_fine_72 : decode cX3_fine 72 = .ok (.getfield 10, 3) := by decide +kernel
theorem dX3_fine_75 : decode cX3_fine 75 = .ok (.getfield 69, 3) := by decide +kernel
theorem dX3_fine_78 : decode cX3_fine 78 = .ok (.aload_n 0, 1) := by decide +kernel
theorem dX3_fine_79 : decode cX3_fine 79 = .ok (.getfield 10, 3) := by decide +kernel
theorem dX3_fine_82 : decode cX3_fine 82 = .ok (.invokevirtual 163, 3) := by decide +kernel
theorem dX3_fine_85 : decode cX3_fine 85 = .ok (.bipush 10, 2) := by decide +kernel
theorem dX3_fine_87 : decode cX3_fine 87 = .ok (.irem, 1) := by decide +kernel
theorem dX3_fine_88 : decode cX3_fine 88 = .ok (.iconst (-1), 1) := by decide +kernel
theorem dX3_fine_89 : decode cX3_fine 89 = .ok (.iastore, 1) := by decide +kernel
theorem dX3_fine_90 : decode cX3_fine 90 = .ok (.aload_n 0, 1) := by decide +kernel
theorem dX3_fine_91 : decode cX3_fine 91 = .ok (.getfield 10, 3) := by decide +kernel
theorem dX3_fine_94 : decode cX3_fine 94 = .ok (.iconst 1, 1) := by decide +kernel
theorem dX3_fine_95 : decode cX3_fine 95 = .ok (.invokevirtual 129, 3) := by decide +kernel
theorem dX3_fine_98 : decode cX3_fine 98 = .ok (.iinc 2 1, 3) := by decide +kernel
theorem dX3_fine_101 : decode cX3_fine 101 = .ok (.goto (-63), 3) := by decide +kernel
theorem dX3_fine_104 : decode cX3_fine 104 = .ok (.aload_n 0, 1) := by decide +kernel
theorem dX3_fine_105 : decode cX3_fine 105 = .ok (.getfield 10, 3) := by decide +kernel
theorem dX3_fine_108 : decode cX3_fine 108 = .ok (.invokevirtual 133, 3) := by decide +kernel
theorem dX3_fine_111 : decode cX3_fine 111 = .ok (.ireturn, 1) := by decide +kernel
theorem dX3_odds_0 : decode cX3_odds 0 = .ok (.aload_n 0, 1) := by decide +kernel
theorem dX3_odds_1 : decode cX3_odds 1 = .ok (.getfield 10, 3) := by decide +kernel
theorem dX3_odds_4 : decode cX3_odds 4 = .ok (.iload_n 1, 1) := by decide +kernel
theorem dX3_odds_5 : decode cX3_odds 5 = .ok (.invokevirtual 66, 3) := by decide +kernel
theorem dX3_odds_8 : decode cX3_odds 8 = .ok (.ifCond .eq 22, 3) := by decide +kernel
theorem dX3_odds_11 : decode cX3_odds 11 = .ok (.iload_n 2, 1) := by decide +kernel
theorem dX3_odds_12 : decode cX3_odds 12 = .ok (.iconst 0, 1) := by decide +kernel
theorem dX3_odds_13 : decode cX3_odds 13 = .ok (.bipush 18, 2) := by decide +kernel
theorem dX3_odds_15 : decode cX3_odds 15 = .ok (.invokestatic 52, 3) := by decide +kernel
theorem dX3_odds_18 : decode cX3_odds 18 = .ok (.ifCond .eq 12, 3) := by decide +kernel
theorem dX3_odds_21 : decode cX3_odds 21 = .ok (.iload_n 3, 1) := by decide +kernel
theorem dX3_odds_22 : decode cX3_odds 22 = .ok (.iconst 0, 1) := by decide +kernel
theorem dX3_odds_23 : decode cX3_odds 23 = .ok (.iconst 1, 1) := by decide +kernel
theorem dX3_odds_24 : decode cX3_odds 24 = .ok (.invokestatic 52, 3) := by decide +kernel
theorem dX3_odds_27 : decode cX3_odds 27 = .ok (.ifCond .ne 10, 3) := by decide +kernel
theorem dX3_odds_30 : decode cX3_odds 30 = .ok (.aload_n 0, 1) := by decide +kernel
theorem dX3_odds_31 : decode cX3_odds 31 = .ok (.iconst 0, 1) := by decide +kernel
theorem dX3_odds_32 : decode cX3_odds 32 = .ok (.invokevirtual 48, 3) := by decide +kernel
theorem dX3_odds_35 : decode cX3_odds 35 = .ok (.i2l, 1) := by decide +kernel
theorem dX3_odds_36 : decode cX3_odds 36 = .ok (.lreturn, 1) := by decide +kernel
theorem dX3_odds_37 : decode cX3_odds 37 = .ok (.iconst 0, 1) := by decide +kernel
theorem dX3_odds_38 : decode cX3_odds 38 = .ok (.istore 4, 2) := by decide +kernel
theorem dX3_odds_40 : decode cX3_odds 40 = .ok (.iconst 0, 1) := by decide +kernel
theorem dX3_odds_41 : decode cX3_odds 41 = .ok (.istore 5, 2) := by decide +kernel
theorem dX3_odds_43 : decode cX3_odds 43 = .ok (.iload 5, 2) := by decide +kernel
theorem dX3_odds_45 : decode cX3_odds 45 = .ok (.bipush 10, 2) := by decide +kernel
theorem dX3_odds_47 : decode cX3_odds 47 = .ok (.if_icmp .ge 25, 3) := by decide +kernel
theorem dX3_odds_50 : decode cX3_odds 50 = .ok (.aload_n 0, 1) := by decide +kernel
theorem dX3_odds_51 : decode cX3_odds 51 = .ok (.getfield 10, 3) := by decide +kernel
theorem dX3_odds_54 : decode cX3_odds 54 = .ok (.iload_n 1, 1) := by decide +kernel
theorem dX3_odds_55 : decode cX3_odds 55 = .ok (.iload 5, 2) := by decide +kernel
theorem dX3_odds_57 : decode cX3_odds 57 = .ok (.invokevirtual 166, 3) := by decide +kernel
theorem dX3_odds_60 : decode cX3_odds 60 = .ok (.ifCond .eq 6, 3) := by decide +kernel
theorem dX3_odds_63 : decode cX3_odds 63 = .ok (.iinc 4 1, 3) := by decide +kernel
theorem dX3_odds_66 : decode cX3_odds 66 = .ok (.iinc 5 1, 3) := by decide +kernel
theorem dX3_odds_69 : decode cX3_odds 69 = .ok (.goto (-26), 3) := by decide +kernel
theorem dX3_odds_72 : decode cX3_odds 72 = .ok (.iload 4, 2) := by decide +kernel
theorem dX3_odds_74 : decode cX3_odds 74 = .ok (.bipush 10, 2) := by decide +kernel
theorem dX3_odds_76 : decode cX3_odds 76 = .ok (.invokestatic 170, 3) := by decide +kernel
theorem dX3_odds_79 : decode cX3_odds 79 = .ok (.istore 5, 2) := by decide +kernel
theorem dX3_odds_81 : decode cX3_odds 81 = .ok (.iload_n 3, 1) := by decide +kernel
theorem dX3_odds_82 : decode cX3_odds 82 = .ok (.ifCond .ne 11, 3) := by decide +kernel
theorem dX3_odds_85 : decode cX3_odds 85 = .ok (.iload 4, 2) := by decide +kernel
theorem dX3_odds_87 : decode cX3_odds 87 = .ok (.iload 5, 2) := by decide +kernel
theorem dX3_odds_89 : decode cX3_odds 89 = .ok (.idiv, 1) := by decide +kernel
theorem dX3_odds_90 : decode cX3_odds 90 = .ok (.goto 8, 3) := by decide +kernel
theorem dX3_odds_93 : decode cX3_odds 93 = .ok (.bipush 10, 2) := by decide +kernel
theorem dX3_odds_95 : decode cX3_odds 95 = .ok (.iload 5, 2) := by decide +kernel
theorem dX3_odds_97 : decode cX3_odds 97 = .ok (.idiv, 1) := by decide +kernel
theorem dX3_odds_98 : decode cX3_odds 98 = .ok (.istore 6, 2) := by decide +kernel
theorem dX3_odds_100 : decode cX3_odds 100 = .ok (.lconst 1, 1) := by decide +kernel
theorem dX3_odds_101 : decode cX3_odds 101 = .ok (.lstore 7, 2) := by decide +kernel
theorem dX3_odds_103 : decode cX3_odds 103 = .ok (.iconst 0, 1) := by decide +kernel
theorem dX3_odds_104 : decode cX3_odds 104 = .ok (.istore 9, 2) := by decide +kernel
theorem dX3_odds_106 : decode cX3_odds 106 = .ok (.iload 9, 2) := by decide +kernel
theorem dX3_odds_108 : decode cX3_odds 108 = .ok (.iload_n 2, 1) := by decide +kernel
theorem dX3_odds_109 : decode cX3_odds 109 = .ok (.if_icmp .ge 17, 3) := by decide +kernel
theorem dX3_odds_112 : decode cX3_odds 112 = .ok (.lload 7, 2) := by decide +kernel
theorem dX3_odds_114 : decode cX3_odds 114 = .ok (.iload 6, 2) := by decide +kernel
theorem dX3_odds_116 : decode cX3_odds 116 = .ok (.i2l, 1) := by decide +kernel
theorem dX3_odds_117 : decode cX3_odds 117 = .ok (.lmul, 1) := by decide +kernel
theorem dX3_odds_118 : decode cX3_odds 118 = .ok (.lstore 7, 2) := by decide +kernel
theorem dX3_odds_120 : decode cX3_odds 120 = .ok (.iinc 9 1, 3) := by decide +kernel
theorem dX3_odds_123 : decode cX3_odds 123 = .ok (.goto (-17), 3) := by decide +kernel
theorem dX3_odds_126 : decode cX3_odds 126 = .ok (.lload 7, 2) := by decide +kernel
theorem dX3_odds_128 : decode cX3_odds 128 = .ok (.lreturn, 1) := by decide +kernel
theorem dX3_seed_0 : decode cX3_seed 0 = .ok (.aload_n 0, 1) := by decide +kernel
theorem dX3_seed_1 : decode cX3_seed 1 = .ok (.getfield 10, 3) := by decide +kernel
theorem dX3_seed_4 : decode cX3_seed 4 = .ok (.getfield 173, 3) := by decide +kernel
theorem dX3_seed_7 : decode cX3_seed 7 = .ok (.istore_n 2, 1) := by decide +kernel
theorem dX3_seed_8 : decode cX3_seed 8 = .ok (.aload_n 0, 1) := by decide +kernel
theorem dX3_seed_9 : decode cX3_seed 9 = .ok (.getfield 10, 3) := by decide +kernel
theorem dX3_seed_12 : decode cX3_seed 12 = .ok (.iload_n 1, 1) := by decide +kernel
theorem dX3_seed_13 : decode cX3_seed 13 = .ok (.putfield 173, 3) := by decide +kernel
theorem dX3_seed_16 : decode cX3_seed 16 = .ok (.iload_n 2, 1) := by decide +kernel
theorem dX3_seed_17 : decode cX3_seed 17 = .ok (.ireturn, 1) := by decide +kernel
theorem dX3_feed_0 : decode cX3_feed 0 = .ok (.iload_n 2, 1) := by decide +kernel
theorem dX3_feed_1 : decode cX3_feed 1 = .ok (.iconst 1, 1) := by decide +kernel
theorem dX3_feed_2 : decode cX3_feed 2 = .ok (.iconst 4, 1) := by decide +kernel
theorem dX3_feed_3 : decode cX3_feed 3 = .ok (.invokestatic 52, 3) := by decide +kernel
theorem dX3_feed_6 : decode cX3_feed 6 = .ok (.ifCond .ne 9, 3) := by decide +kernel
theorem dX3_feed_9 : decode cX3_feed 9 = .ok (.aload_n 0, 1) := by decide +kernel
theorem dX3_feed_10 : decode cX3_feed 10 = .ok (.iconst 0, 1) := by decide +kernel
theorem dX3_feed_11 : decode cX3_feed 11 = .ok (.invokevirtual 48, 3) := by decide +kernel
theorem dX3_feed_14 : decode cX3_feed 14 = .ok (.ireturn, 1) := by decide +kernel
theorem dX3_feed_15 : decode cX3_feed 15 = .ok (.aload_n 0, 1) := by decide +kernel
theorem dX3_feed_16 : decode cX3_feed 16 = .ok (.getfield 29, 3) := by decide +kernel
theorem dX3_feed_19 : decode cX3_feed 19 = .ok (.getfield 176, 3) := by decide +kernel
theorem dX3_feed_22 : decode cX3_feed 22 = .ok (.iload_n 2, 1) := by decide +kernel
theorem dX3_feed_23 : decode cX3_feed 23 = .ok (.iadd, 1) := by decide +kernel
theorem dX3_feed_24 : decode cX3_feed 24 = .ok (.bipush 120, 2) := by decide +kernel
theorem dX3_feed_26 : decode cX3_feed 26 = .ok (.if_icmp .le 9, 3) := by decide +kernel
theorem dX3_feed_29 : decode cX3_feed 29 = .ok (.aload_n 0, 1) := by decide +kernel
theorem dX3_feed_30 : decode cX3_feed 30 = .ok (.iconst 1, 1) := by decide +kernel
theorem dX3_feed_31 : decode cX3_feed 31 = .ok (.invokevirtual 48, 3) := by decide +kernel
theorem dX3_feed_34 : decode cX3_feed 34 = .ok (.ireturn, 1) := by decide +kernel
theorem dX3_feed_35 : decode cX3_feed 35 = .ok (.iload_n 2, 1) := by decide +kernel
theorem dX3_feed_36 : decode cX3_feed 36 = .ok (.iconst 1, 1) := by decide +kernel
theorem dX3_feed_37 : decode cX3_feed 37 = .ok (.isub, 1) := by decide +kernel
theorem dX3_feed_38 : decode cX3_feed 38 = .ok (.istore_n 3, 1) := by decide +kernel
theorem dX3_feed_39 : decode cX3_feed 39 = .ok (.iload_n 3, 1) := by decide +kernel
theorem dX3_feed_40 : decode cX3_feed 40 = .ok (.ifCond .lt 22, 3) := by decide +kernel
theorem dX3_feed_43 : decode cX3_feed 43 = .ok (.aload_n 0, 1) := by decide +kernel
theorem dX3_feed_44 : decode cX3_feed 44 = .ok (.getfield 29, 3) := by decide +kernel
theorem dX3_feed_47 : decode cX3_feed 47 = .ok (.iload_n 1, 1) := by decide +kernel
theorem dX3_feed_48 : decode cX3_feed 48 = .ok (.bipush 8, 2) := by decide +kernel
theorem dX3_feed_50 : decode cX3_feed 50 = .ok (.iload_n 3, 1) := by decide +kernel
theorem dX3_feed_51 : decode cX3_feed 51 = .ok (.imul, 1) := by decide +kernel
theorem dX3_feed_52 : decode cX3_feed 52 = .ok (.iushr, 1) := by decide +kernel
theorem dX3_feed_53 : decode cX3_feed 53 = .ok (.invokevirtual 179, 3) := by decide +kernel
theorem dX3_feed_56 : decode cX3_feed 56 = .ok (.iinc 3 (-1), 3) := by decide +kernel
theorem dX3_feed_59 : decode cX3_feed 59 = .ok (.goto (-20), 3) := by decide +kernel
theorem dX3_feed_62 : decode cX3_feed 62 = .ok (.aload_n 0, 1) := by decide +kernel
theorem dX3_feed_63 : decode cX3_feed 63 = .ok (.getfield 29, 3) := by decide +kernel
theorem dX3_feed_66 : decode cX3_feed 66 = .ok (.getfield 176, 3) := by decide +kernel
theorem dX3_feed_69 : decode cX3_feed 69 = .ok (.ireturn, 1) := by decide +kernel
theorem dX3_wipe_0 : decode cX3_wipe 0 = .ok (.aload_n 0, 1) := by decide +kernel
theorem dX3_wipe_1 : decode cX3_wipe 1 = .ok (.getfield 29, 3) := by decide +kernel
theorem dX3_wipe_4 : decode cX3_wipe 4 = .ok (.getfield 176, 3) := by decide +kernel
theorem dX3_wipe_7 : decode cX3_wipe 7 = .ok (.istore_n 1, 1) := by decide +kernel
theorem dX3_wipe_8 : decode cX3_wipe 8 = .ok (.aload_n 0, 1) := by decide +kernel
theorem dX3_wipe_9 : decode cX3_wipe 9 = .ok (.getfield 29, 3) := by decide +kernel
theorem dX3_wipe_12 : decode cX3_wipe 12 = .ok (.iconst 0, 1) := by decide +kernel
theorem dX3_wipe_13 : decode cX3_wipe 13 = .ok (.putfield 176, 3) := by decide +kernel
theorem dX3_wipe_16 : decode cX3_wipe 16 = .ok (.iload_n 1, 1) := by decide +kernel
theorem dX3_wipe_17 : decode cX3_wipe 17 = .ok (.ireturn, 1) := by decide +kernel
theorem dX3_text_0 : decode cX3_text 0 = .ok (.aload_n 0, 1) := by decide +kernel
theorem dX3_text_1 : decode cX3_text 1 = .ok (.getfield 16, 3) := by decide +kernel
theorem dX3_text_4 : decode cX3_text 4 = .ok (.aload_n 0, 1) := by decide +kernel
theorem dX3_text_5 : decode cX3_text 5 = .ok (.getfield 10, 3) := by decide +kernel
theorem dX3_text_8 : decode cX3_text 8 = .ok (.invokevirtual 144, 3) := by decide +kernel
theorem dX3_text_11 : decode cX3_text 11 = .ok (.aload_n 0, 1) := by decide +kernel
theorem dX3_text_12 : decode cX3_text 12 = .ok (.getfield 29, 3) := by decide +kernel
theorem dX3_text_15 : decode cX3_text 15 = .ok (.aload_n 0, 1) := by decide +kernel
theorem dX3_text_16 : decode cX3_text 16 = .ok (.getfield 16, 3) := by decide +kernel
theorem dX3_text_19 : decode cX3_text 19 = .ok (.invokevirtual 182, 3) := by decide +kernel
theorem dX3_text_22 : decode cX3_text 22 = .ok (.istore_n 1, 1) := by decide +kernel
theorem dX3_text_23 : decode cX3_text 23 = .ok (.aload_n 0, 1) := by decide +kernel
theorem dX3_text_24 : decode cX3_text 24 = .ok (.getfield 29, 3) := by decide +kernel
theorem dX3_text_27 : decode cX3_text 27 = .ok (.iconst 0, 1) := by decide +kernel
theorem dX3_text_28 : decode cX3_text 28 = .ok (.putfield 176, 3) := by decide +kernel
theorem dX3_text_31 : decode cX3_text 31 = .ok (.aload_n 0, 1) := by decide +kernel
theorem dX3_text_32 : decode cX3_text 32 = .ok (.getfield 29, 3) := by decide +kernel
theorem dX3_text_35 : decode cX3_text 35 = .ok (.getfield 186, 3) := by decide +kernel
theorem dX3_text_38 : decode cX3_text 38 = .ok (.ifCond .lt 13, 3) := by decide +kernel
theorem dX3_text_41 : decode cX3_text 41 = .ok (.iconst (-1), 1) := by decide +kernel
theorem dX3_text_42 : decode cX3_text 42 = .ok (.aload_n 0, 1) := by decide +kernel
theorem dX3_text_43 : decode cX3_text 43 = .ok (.getfield 29, 3) := by decide +kernel
theorem dX3_text_46 : decode cX3_text 46 = .ok (.getfield 186, 3) := by decide +kernel
theorem dX3_text_49 : decode cX3_text 49 = .ok (.isub, 1) := by decide +kernel
theorem dX3_text_50 : decode cX3_text 50 = .ok (.ireturn, 1) := by decide +kernel
theorem dX3_text_51 : decode cX3_text 51 = .ok (.aload_n 0, 1) := by decide +kernel
theorem dX3_text_52 : decode cX3_text 52 = .ok (.getfield 10, 3) := by decide +kernel
theorem dX3_text_55 : decode cX3_text 55 = .ok (.aload_n 0, 1) := by decide +kernel
theorem dX3_text_56 : decode cX3_text 56 = .ok (.getfield 16, 3) := by decide +kernel
theorem dX3_text_59 : decode cX3_text 59 = .ok (.invokevirtual 144, 3) := by decide +kernel
theorem dX3_text_62 : decode cX3_text 62 = .ok (.iload_n 1, 1) := by decide +kernel
theorem dX3_text_63 : decode cX3_text 63 = .ok (.ireturn, 1) := by decide +kernel
theorem dX3_hold_0 : decode cX3_hold 0 = .ok (.iload_n 1, 1) := by decide +kernel
theorem dX3_hold_1 : decode cX3_hold 1 = .ok (.iconst 0, 1) := by decide +kernel
theorem dX3_hold_2 : decode cX3_hold 2 = .ok (.bipush 9, 2) := by decide +kernel
theorem dX3_hold_4 : decode cX3_hold 4 = .ok (.invokestatic 52, 3) := by decide +kernel
theorem dX3_hold_7 : decode cX3_hold 7 = .ok (.ifCond .eq 19, 3) := by decide +kernel
theorem dX3_hold_10 : decode cX3_hold 10 = .ok (.iload_n 2, 1) := by decide +kernel
theorem dX3_hold_11 : decode cX3_hold 11 = .ok (.iconst (-1), 1) := by decide +kernel
theorem dX3_hold_12 : decode cX3_hold 12 = .ok (.if_icmp .eq 20, 3) := by decide +kernel
theorem dX3_hold_15 : decode cX3_hold 15 = .ok (.aload_n 0, 1) := by decide +kernel
theorem dX3_hold_16 : decode cX3_hold 16 = .ok (.getfield 10, 3) := by decide +kernel
theorem dX3_hold_19 : decode cX3_hold 19 = .ok (.iload_n 2, 1) := by decide +kernel
theorem dX3_hold_20 : decode cX3_hold 20 = .ok (.invokevirtual 66, 3) := by decide +kernel
theorem dX3_hold_23 : decode cX3_hold 23 = .ok (.ifCond .ne 9, 3) := by decide +kernel
theorem dX3_hold_26 : decode cX3_hold 26 = .ok (.aload_n 0, 1) := by decide +kernel
theorem dX3_hold_27 : decode cX3_hold 27 = .ok (.iconst 0, 1) := by decide +kernel
theorem dX3_hold_28 : decode cX3_hold 28 = .ok (.invokevirtual 48, 3) := by decide +kernel
theorem dX3_hold_31 : decode cX3_hold 31 = .ok (.ireturn, 1) := by decide +kernel
theorem dX3_hold_32 : decode cX3_hold 32 = .ok (.aload_n 0, 1) := by decide +kernel
theorem dX3_hold_33 : decode cX3_hold 33 = .ok (.getfield 10, 3) := by decide +kernel
theorem dX3_hold_36 : decode cX3_hold 36 = .ok (.getfield 189, 3) := by decide +kernel
theorem dX3_hold_39 : decode cX3_hold 39 = .ok (.iload_n 1, 1) := by decide +kernel
theorem dX3_hold_40 : decode cX3_hold 40 = .ok (.iload_n 2, 1) := by decide +kernel
theorem dX3_hold_41 : decode cX3_hold 41 = .ok (.iastore, 1) := by decide +kernel
theorem dX3_hold_42 : decode cX3_hold 42 = .ok (.iconst 1, 1) := by decide +kernel
theorem dX3_hold_43 : decode cX3_hold 43 = .ok (.ireturn, 1) := by decide +kernel
theorem dX3_as_0 : decode cX3_as 0 = .ok (.iload_n 1, 1) := by decide +kernel
theorem dX3_as_1 : decode cX3_as 1 = .ok (.iconst 0, 1) := by decide +kernel
theorem dX3_as_2 : decode cX3_as 2 = .ok (.bipush 9, 2) := by decide +kernel
theorem dX3_as_4 : decode cX3_as 4 = .ok (.invokestatic 52, 3) := by decide +kernel
theorem dX3_as_7 : decode cX3_as 7 = .ok (.ifCond .eq 10, 3) := by decide +kernel
theorem dX3_as_10 : decode cX3_as 10 = .ok (.iload_n 2, 1) := by decide +kernel
theorem dX3_as_11 : decode cX3_as 11 = .ok (.invokestatic 85, 3) := by decide +kernel
theorem dX3_as_14 : decode cX3_as 14 = .ok (.ifCond .ne 9, 3) := by decide +kernel
theorem dX3_as_17 : decode cX3_as 17 = .ok (.aload_n 0, 1) := by decide +kernel
theorem dX3_as_18 : decode cX3_as 18 = .ok (.iconst 0, 1) := by decide +kernel
theorem dX3_as_19 : decode cX3_as 19 = .ok (.invokevirtual 48, 3) := by decide +kernel
theorem dX3_as_22 : decode cX3_as 22 = .ok (.ireturn, 1) := by decide +kernel
theorem dX3_as_23 : decode cX3_as 23 = .ok (.aload_n 0, 1) := by decide +kernel
theorem dX3_as_24 : decode cX3_as 24 = .ok (.getfield 10, 3) := by decide +kernel
theorem dX3_as_27 : decode cX3_as 27 = .ok (.getfield 189, 3) := by decide +kernel
theorem dX3_as_30 : decode cX3_as 30 = .ok (.iload_n 1, 1) := by decide +kernel
theorem dX3_as_31 : decode cX3_as 31 = .ok (.iaload, 1) := by decide +kernel
theorem dX3_as_32 : decode cX3_as 32 = .ok (.istore_n 3, 1) := by decide +kernel
theorem dX3_as_33 : decode cX3_as 33 = .ok (.aload_n 0, 1) := by decide +kernel
theorem dX3_as_34 : decode cX3_as 34 = .ok (.getfield 10, 3) := by decide +kernel
theorem dX3_as_37 : decode cX3_as 37 = .ok (.iload_n 3, 1) := by decide +kernel
theorem dX3_as_38 : decode cX3_as 38 = .ok (.invokevirtual 66, 3) := by decide +kernel
theorem dX3_as_41 : decode cX3_as 41 = .ok (.ifCond .ne 9, 3) := by decide +kernel
theorem dX3_as_44 : decode cX3_as 44 = .ok (.aload_n 0, 1) := by decide +kernel
theorem dX3_as_45 : decode cX3_as 45 = .ok (.iconst 5, 1) := by decide +kernel
theorem dX3_as_46 : decode cX3_as 46 = .ok (.invokevirtual 48, 3) := by decide +kernel
theorem dX3_as_49 : decode cX3_as 49 = .ok (.ireturn, 1) := by decide +kernel
theorem dX3_as_50 : decode cX3_as 50 = .ok (.aload_n 0, 1) := by decide +kernel
theorem dX3_as_51 : decode cX3_as 51 = .ok (.getfield 10, 3) := by decide +kernel
theorem dX3_as_54 : decode cX3_as 54 = .ok (.getfield 94, 3) := by decide +kernel
theorem dX3_as_57 : decode cX3_as 57 = .ok (.iload_n 3, 1) := by decide +kernel
theorem dX3_as_58 : decode cX3_as 58 = .ok (.iaload, 1) := by decide +kernel
theorem dX3_as_59 : decode cX3_as 59 = .ok (.iload_n 2, 1) := by decide +kernel
theorem dX3_as_60 : decode cX3_as 60 = .ok (.invokestatic 192, 3) := by decide +kernel
theorem dX3_as_63 : decode cX3_as 63 = .ok (.ifCond .ne 9, 3) := by decide +kernel
theorem dX3_as_66 : decode cX3_as 66 = .ok (.aload_n 0, 1) := by decide +kernel
theorem dX3_as_67 : decode cX3_as 67 = .ok (.iconst 2, 1) := by decide +kernel
theorem dX3_as_68 : decode cX3_as 68 = .ok (.invokevirtual 48, 3) := by decide +kernel
theorem dX3_as_71 : decode cX3_as 71 = .ok (.ireturn, 1) := by decide +kernel
theorem dX3_as_72 : decode cX3_as 72 = .ok (.iload_n 3, 1) := by decide +kernel
theorem dX3_as_73 : decode cX3_as 73 = .ok (.ireturn, 1) := by decide +kernel
theorem dX3_sheet_0 : decode cX3_sheet 0 = .ok (.iload_n 2, 1) := by decide +kernel
theorem dX3_sheet_1 : decode cX3_sheet 1 = .ok (.ifCond .eq 21, 3) := by decide +kernel
theorem dX3_sheet_4 : decode cX3_sheet 4 = .ok (.iload_n 2, 1) := by decide +kernel
theorem dX3_sheet_5 : decode cX3_sheet 5 = .ok (.bipush 8, 2) := by decide +kernel
theorem dX3_sheet_7 : decode cX3_sheet 7 = .ok (.if_icmp .eq 15, 3) := by decide +kernel
theorem dX3_sheet_10 : decode cX3_sheet 10 = .ok (.iload_n 2, 1) := by decide +kernel
theorem dX3_sheet_11 : decode cX3_sheet 11 = .ok (.bipush 16, 2) := by decide +kernel
theorem dX3_sheet_13 : decode cX3_sheet 13 = .ok (.if_icmp .eq 9, 3) := by decide +kernel
theorem dX3_sheet_16 : decode cX3_sheet 16 = .ok (.iload_n 2, 1) := by decide +kernel
theorem dX3_sheet_17 : decode cX3_sheet 17 = .ok (.bipush 32, 2) := by decide +kernel
theorem dX3_sheet_19 : decode cX3_sheet 19 = .ok (.if_icmp .ne 7, 3) := by decide +kernel
theorem dX3_sheet_22 : decode cX3_sheet 22 = .ok (.iconst 1, 1) := by decide +kernel
theorem dX3_sheet_23 : decode cX3_sheet 23 = .ok (.goto 4, 3) := by decide +kernel
theorem dX3_sheet_26 : decode cX3_sheet 26 = .ok (.iconst 0, 1) := by decide +kernel
theorem dX3_sheet_27 : decode cX3_sheet 27 = .ok (.istore 4, 2) := by decide +kernel
theorem dX3_sheet_29 : decode cX3_sheet 29 = .ok (.iload_n 1, 1) := by decide +kernel
theorem dX3_sheet_30 : decode cX3_sheet 30 = .ok (.invokestatic 195, 3) := by decide +kernel
theorem dX3_sheet_33 : decode cX3_sheet 33 = .ok (.ifCond .eq 8, 3) := by decide +kernel
theorem dX3_sheet_36 : decode cX3_sheet 36 = .ok (.iload 4, 2) := by decide +kernel
theorem dX3_sheet_38 : decode cX3_sheet 38 = .ok (.ifCond .ne 9, 3) := by decide +kernel
theorem dX3_sheet_41 : decode cX3_sheet 41 = .ok (.aload_n 0, 1) := by decide +kernel
theorem dX3_sheet_42 : decode cX3_sheet 42 = .ok (.iconst 0, 1) := by decide +kernel
theorem dX3_sheet_43 : decode cX3_sheet 43 = .ok (.invokevirtual 48, 3) := by decide +kernel
theorem dX3_sheet_46 : decode cX3_sheet 46 = .ok (.ireturn, 1) := by decide +kernel
theorem dX3_sheet_47 : decode cX3_sheet 47 = .ok (.iload_n 3, 1) := by decide +kernel
theorem dX3_sheet_48 : decode cX3_sheet 48 = .ok (.ifCond .ge 10, 3) := by decide +kernel
theorem dX3_sheet_51 : decode cX3_sheet 51 = .ok (.aload_n 0, 1) := by decide +kernel
theorem dX3_sheet_52 : decode cX3_sheet 52 = .ok (.bipush 6, 2) := by decide +kernel
theorem dX3_sheet_54 : decode cX3_sheet 54 = .ok (.invokevirtual 48, 3) := by decide +kernel
theorem dX3_sheet_57 : decode cX3_sheet 57 = .ok (.ireturn, 1) := by decide +kernel
theorem dX3_sheet_58 : decode cX3_sheet 58 = .ok (.iload_n 3, 1) := by decide +kernel
theorem dX3_sheet_59 : decode cX3_sheet 59 = .ok (.bipush 40, 2) := by decide +kernel
theorem dX3_sheet_61 : decode cX3_sheet 61 = .ok (.if_icmp .le 9, 3) := by decide +kernel
theorem dX3_sheet_64 : decode cX3_sheet 64 = .ok (.aload_n 0, 1) := by decide +kernel
theorem dX3_sheet_65 : decode cX3_sheet 65 = .ok (.iconst 0, 1) := by decide +kernel
theorem dX3_sheet_66 : decode cX3_sheet 66 = .ok (.invokevirtual 48, 3) := by decide +kernel
theorem dX3_sheet_69 : decode cX3_sheet 69 = .ok (.ireturn, 1) := by decide +kernel
theorem dX3_sheet_70 : decode cX3_sheet 70 = .ok (.aload_n 0, 1) := by decide +kernel
theorem dX3_sheet_71 : decode cX3_sheet 71 = .ok (.getfield 35, 3) := by decide +kernel
theorem dX3_sheet_74 : decode cX3_sheet 74 = .ok (.iload_n 1, 1) := by decide +kernel
theorem dX3_sheet_75 : decode cX3_sheet 75 = .ok (.aaload, 1) := by decide +kernel
theorem dX3_sheet_76 : decode cX3_sheet 76 = .ok (.iload_n 2, 1) := by decide +kernel
theorem dX3_sheet_77 : decode cX3_sheet 77 = .ok (.iload_n 3, 1) := by decide +kernel
theorem dX3_sheet_78 : decode cX3_sheet 78 = .ok (.invokevirtual 198, 3) := by decide +kernel
theorem dX3_sheet_81 : decode cX3_sheet 81 = .ok (.aload_n 0, 1) := by decide +kernel
theorem dX3_sheet_82 : decode cX3_sheet 82 = .ok (.getfield 35, 3) := by decide +kernel
theorem dX3_sheet_85 : decode cX3_sheet 85 = .ok (.iload_n 1, 1) := by decide +kernel
theorem dX3_sheet_86 : decode cX3_sheet 86 = .ok (.aaload, 1) := by decide +kernel
theorem dX3_sheet_87 : decode cX3_sheet 87 = .ok (.getfield 202, 3) := by decide +kernel
theorem dX3_sheet_90 : decode cX3_sheet 90 = .ok (.ireturn, 1) := by decide +kernel
theorem dX3_write_0 : decode cX3_write 0 = .ok (.iload_n 1, 1) := by decide +kernel
theorem dX3_write_1 : decode cX3_write 1 = .ok (.invokestatic 195, 3) := by decide +kernel
theorem dX3_write_4 : decode cX3_write 4 = .ok (.ifCond .ne 9, 3) := by decide +kernel
theorem dX3_write_7 : decode cX3_write 7 = .ok (.aload_n 0, 1) := by decide +kernel
theorem dX3_write_8 : decode cX3_write 8 = .ok (.iconst 0, 1) := by decide +kernel
theorem dX3_write_9 : decode cX3_write 9 = .ok (.invokevirtual 48, 3) := by decide +kernel
theorem dX3_write_12 : decode cX3_write 12 = .ok (.ireturn, 1) := by decide +kernel
theorem dX3_write_13 : decode cX3_write 13 = .ok (.aload_n 0, 1) := by decide +kernel
theorem dX3_write_14 : decode cX3_write 14 = .ok (.getfield 35, 3) := by decide +kernel
theorem dX3_write_17 : decode cX3_write 17 = .ok (.iload_n 1, 1) := by decide +kernel
theorem dX3_write_18 : decode cX3_write 18 = .ok (.aaload, 1) := by decide +kernel
theorem dX3_write_19 : decode cX3_write 19 = .ok (.invokevirtual 203, 3) := by decide +kernel
theorem dX3_write_22 : decode cX3_write 22 = .ok (.ifCond .eq 9, 3) := by decide +kernel
theorem dX3_write_25 : decode cX3_write 25 = .ok (.aload_n 0, 1) := by decide +kernel
theorem dX3_write_26 : decode cX3_write 26 = .ok (.iconst 5, 1) := by decide +kernel
theorem dX3_write_27 : decode cX3_write 27 = .ok (.invokevirtual 48, 3) := by decide +kernel
theorem dX3_write_30 : decode cX3_write 30 = .ok (.ireturn, 1) := by decide +kernel
theorem dX3_write_31 : decode cX3_write 31 = .ok (.iload_n 2, 1) := by decide +kernel
theorem dX3_write_32 : decode cX3_write 32 = .ok (.iconst 0, 1) := by decide +kernel
theorem dX3_write_33 : decode cX3_write 33 = .ok (.aload_n 0, 1) := by decide +kernel
theorem dX3_write_34 : decode cX3_write 34 = .ok (.getfield 35, 3) := by decide +kernel
theorem dX3_write_37 : decode cX3_write 37 = .ok (.iload_n 1, 1) := by decide +kernel
theorem dX3_write_38 : decode cX3_write 38 = .ok (.aaload, 1) := by decide +kernel
theorem dX3_write_39 : decode cX3_write 39 = .ok (.getfield 202, 3) := by decide +kernel
theorem dX3_write_42 : decode cX3_write 42 = .ok (.iconst 1, 1) := by decide +kernel
theorem dX3_write_43 : decode cX3_write 43 = .ok (.isub, 1) := by decide +kernel
theorem dX3_write_44 : decode cX3_write 44 = .ok (.invokestatic 52, 3) := by decide +kernel
theorem dX3_write_47 : decode cX3_write 47 = .ok (.ifCond .ne 9, 3) := by decide +kernel
theorem dX3_write_50 : decode cX3_write 50 = .ok (.aload_n 0, 1) := by decide +kernel
theorem dX3_write_51 : decode cX3_write 51 = .ok (.iconst 0, 1) := by decide +kernel
theorem dX3_write_52 : decode cX3_write 52 = .ok (.invokevirtual 48, 3) := by decide +kernel
theorem dX3_write_55 : decode cX3_write 55 = .ok (.ireturn, 1) := by decide +kernel
theorem dX3_write_56 : decode cX3_write 56 = .ok (.aload_n 0, 1) := by decide +kernel
theorem dX3_write_57 : decode cX3_write 57 = .ok (.getfield 35, 3) := by decide +kernel
theorem dX3_write_60 : decode cX3_write 60 = .ok (.iload_n 1, 1) := by decide +kernel
theorem dX3_write_61 : decode cX3_write 61 = .ok (.aaload, 1) := by decide +kernel
theorem dX3_write_62 : decode cX3_write 62 = .ok (.iload_n 2, 1) := by decide +kernel
theorem dX3_write_63 : decode cX3_write 63 = .ok (.iload_n 3, 1) := by decide +kernel
theorem dX3_write_64 : decode cX3_write 64 = .ok (.invokevirtual 207, 3) := by decide +kernel
theorem dX3_write_67 : decode cX3_write 67 = .ok (.iconst 1, 1) := by decide +kernel
theorem dX3_write_68 : decode cX3_write 68 = .ok (.ireturn, 1) := by decide +kernel
theorem dX3_copy_0 : decode cX3_copy 0 = .ok (.iload_n 1, 1) := by decide +kernel
theorem dX3_copy_1 : decode cX3_copy 1 = .ok (.invokestatic 195, 3) := by decide +kernel
theorem dX3_copy_4 : decode cX3_copy 4 = .ok (.ifCond .eq 10, 3) := by decide +kernel
theorem dX3_copy_7 : decode cX3_copy 7 = .ok (.iload_n 3, 1) := by decide +kernel
theorem dX3_copy_8 : decode cX3_copy 8 = .ok (.invokestatic 195, 3) := by decide +kernel
theorem dX3_copy_11 : decode cX3_copy 11 = .ok (.ifCond .ne 9, 3) := by decide +kernel
theorem dX3_copy_14 : decode cX3_copy 14 = .ok (.aload_n 0, 1) := by decide +kernel
theorem dX3_copy_15 : decode cX3_copy 15 = .ok (.iconst 0, 1) := by decide +kernel
theorem dX3_copy_16 : decode cX3_copy 16 = .ok (.invokevirtual 48, 3) := by decide +kernel
theorem dX3_copy_19 : decode cX3_copy 19 = .ok (.ireturn, 1) := by decide +kernel
theorem dX3_copy_20 : decode cX3_copy 20 = .ok (.aload_n 0, 1) := by decide +kernel
theorem dX3_copy_21 : decode cX3_copy 21 = .ok (.getfield 35, 3) := by decide +kernel
theorem dX3_copy_24 : decode cX3_copy 24 = .ok (.iload_n 1, 1) := by decide +kernel
theorem dX3_copy_25 : decode cX3_copy 25 = .ok (.aaload, 1) := by decide +kernel
theorem dX3_copy_26 : decode cX3_copy 26 = .ok (.invokevirtual 203, 3) := by decide +kernel
theorem dX3_copy_29 : decode cX3_copy 29 = .ok (.ifCond .ne 15, 3) := by decide +kernel
theorem dX3_copy_32 : decode cX3_copy 32 = .ok (.aload_n 0, 1) := by decide +kernel
theorem dX3_copy_33 : decode cX3_copy 33 = .ok (.getfield 35, 3) := by decide +kernel
theorem dX3_copy_36 : decode cX3_copy 36 = .ok (.iload_n 3, 1) := by decide +kernel
theorem dX3_copy_37 : decode cX3_copy 37 = .ok (.aaload, 1) := by decide +kernel
theorem dX3_copy_38 : decode cX3_copy 38 = .ok (.invokevirtual 203, 3) := by decide +kernel
theorem dX3_copy_41 : decode cX3_copy 41 = .ok (.ifCond .eq 9, 3) := by decide +kernel
theorem dX3_copy_44 : decode cX3_copy 44 = .ok (.aload_n 0, 1) := by decide +kernel
theorem dX3_copy_45 : decode cX3_copy 45 = .ok (.iconst 5, 1) := by decide +kernel
theorem dX3_copy_46 : decode cX3_copy 46 = .ok (.invokevirtual 48, 3) := by decide +kernel
theorem dX3_copy_49 : decode cX3_copy 49 = .ok (.ireturn, 1) := by decide +kernel
theorem dX3_copy_50 : decode cX3_copy 50 = .ok (.aload_n 0, 1) := by decide +kernel
theorem dX3_copy_51 : decode cX3_copy 51 = .ok (.getfield 35, 3) := by decide +kernel
theorem dX3_copy_54 : decode cX3_copy 54 = .ok (.iload_n 1, 1) := by decide +kernel
theorem dX3_copy_55 : decode cX3_copy 55 = .ok (.aaload, 1) := by decide +kernel
theorem dX3_copy_56 : decode cX3_copy 56 = .ok (.getfield 210, 3) := by decide +kernel
theorem dX3_copy_59 : decode cX3_copy 59 = .ok (.aload_n 0, 1) := by decide +kernel
theorem dX3_copy_60 : decode cX3_copy 60 = .ok (.getfield 35, 3) := by decide +kernel
theorem dX3_copy_63 : decode cX3_copy 63 = .ok (.iload_n 3, 1) := by decide +kernel
theorem dX3_copy_64 : decode cX3_copy 64 = .ok (.aaload, 1) := by decide +kernel
theorem dX3_copy_65 : decode cX3_copy 65 = .ok (.getfield 210, 3) := by decide +kernel
theorem dX3_copy_68 : decode cX3_copy 68 = .ok (.if_icmp .eq 9, 3) := by decide +kernel
theorem dX3_copy_71 : decode cX3_copy 71 = .ok (.aload_n 0, 1) := by decide +kernel
theorem dX3_copy_72 : decode cX3_copy 72 = .ok (.iconst 2, 1) := by decide +kernel
theorem dX3_copy_73 : decode cX3_copy 73 = .ok (.invokevirtual 48, 3) := by decide +kernel
theorem dX3_copy_76 : decode cX3_copy 76 = .ok (.ireturn, 1) := by decide +kernel
theorem dX3_copy_77 : decode cX3_copy 77 = .ok (.aload_n 0, 1) := by decide +kernel
theorem dX3_copy_78 : decode cX3_copy 78 = .ok (.getfield 35, 3) := by decide +kernel
theorem dX3_copy_81 : decode cX3_copy 81 = .ok (.iload_n 1, 1) := by decide +kernel
theorem dX3_copy_82 : decode cX3_copy 82 = .ok (.aaload, 1) := by decide +kernel
theorem dX3_copy_83 : decode cX3_copy 83 = .ok (.iload_n 2, 1) := by decide +kernel
theorem dX3_copy_84 : decode cX3_copy 84 = .ok (.iload 5, 2) := by decide +kernel
theorem dX3_copy_86 : decode cX3_copy 86 = .ok (.invokevirtual 213, 3) := by decide +kernel
theorem dX3_copy_89 : decode cX3_copy 89 = .ok (.ifCond .eq 19, 3) := by decide +kernel
theorem dX3_copy_92 : decode cX3_copy 92 = .ok (.aload_n 0, 1) := by decide +kernel
theorem dX3_copy_93 : decode cX3_copy 93 = .ok (.getfield 35, 3) := by decide +kernel
theorem dX3_copy_96 : decode cX3_copy 96 = .ok (.iload_n 3, 1) := by decide +kernel
theorem dX3_copy_97 : decode cX3_copy 97 = .ok (.aaload, 1) := by decide +kernel
theorem dX3_copy_98 : decode cX3_copy 98 = .ok (.iload 4, 2) := by decide +kernel
theorem dX3_copy_100 : decode cX3_copy 100 = .ok (.iload 5, 2) := by decide +kernel
theorem dX3_copy_102 : decode cX3_copy 102 = .ok (.invokevirtual 213, 3) := by decide +kernel
theorem dX3_copy_105 : decode cX3_copy 105 = .ok (.ifCond .ne 9, 3) := by decide +kernel
theorem dX3_copy_108 : decode cX3_copy 108 = .ok (.aload_n 0, 1) := by decide +kernel
theorem dX3_copy_109 : decode cX3_copy 109 = .ok (.iconst 0, 1) := by decide +kernel
theorem dX3_copy_110 : decode cX3_copy 110 = .ok (.invokevirtual 48, 3) := by decide +kernel
theorem dX3_copy_113 : decode cX3_copy 113 = .ok (.ireturn, 1) := by decide +kernel
theorem dX3_copy_114 : decode cX3_copy 114 = .ok (.aload_n 0, 1) := by decide +kernel
theorem dX3_copy_115 : decode cX3_copy 115 = .ok (.getfield 35, 3) := by decide +kernel
theorem dX3_copy_118 : decode cX3_copy 118 = .ok (.iload_n 1, 1) := by decide +kernel
theorem dX3_copy_119 : decode cX3_copy 119 = .ok (.aaload, 1) := by decide +kernel
theorem dX3_copy_120 : decode cX3_copy 120 = .ok (.getfield 216, 3) := by decide +kernel
theorem dX3_copy_123 : decode cX3_copy 123 = .ok (.iload_n 2, 1) := by decide +kernel
theorem dX3_copy_124 : decode cX3_copy 124 = .ok (.aload_n 0, 1) := by decide +kernel
theorem dX3_copy_125 : decode cX3_copy 125 = .ok (.getfield 35, 3) := by decide +kernel
theorem dX3_copy_128 : decode cX3_copy 128 = .ok (.iload_n 3, 1) := by decide +kernel
theorem dX3_copy_129 : decode cX3_copy 129 = .ok (.aaload, 1) := by decide +kernel
theorem dX3_copy_130 : decode cX3_copy 130 = .ok (.getfield 216, 3) := by decide +kernel
theorem dX3_copy_133 : decode cX3_copy 133 = .ok (.iload 4, 2) := by decide +kernel
theorem dX3_copy_135 : decode cX3_copy 135 = .ok (.iload 5, 2) := by decide +kernel
theorem dX3_copy_137 : decode cX3_copy 137 = .ok (.invokestatic 219, 3) := by decide +kernel
theorem dX3_copy_140 : decode cX3_copy 140 = .ok (.iload 5, 2) := by decide +kernel
theorem dX3_copy_142 : decode cX3_copy 142 = .ok (.ireturn, 1) := by decide +kernel
theorem dX3_load_0 : decode cX3_load 0 = .ok (.iload_n 1, 1) := by decide +kernel
theorem dX3_load_1 : decode cX3_load 1 = .ok (.invokestatic 195, 3) := by decide +kernel
theorem dX3_load_4 : decode cX3_load 4 = .ok (.ifCond .ne 9, 3) := by decide +kernel
theorem dX3_load_7 : decode cX3_load 7 = .ok (.aload_n 0, 1) := by decide +kernel
theorem dX3_load_8 : decode cX3_load 8 = .ok (.iconst 0, 1) := by decide +kernel
theorem dX3_load_9 : decode cX3_load 9 = .ok (.invokevirtual 48, 3) := by decide +kernel
theorem dX3_load_12 : decode cX3_load 12 = .ok (.ireturn, 1) := by decide +kernel
theorem dX3_load_13 : decode cX3_load 13 = .ok (.aload_n 0, 1) := by decide +kernel
theorem dX3_load_14 : decode cX3_load 14 = .ok (.getfield 35, 3) := by decide +kernel
theorem dX3_load_17 : decode cX3_load 17 = .ok (.iload_n 1, 1) := by decide +kernel
theorem dX3_load_18 : decode cX3_load 18 = .ok (.aaload, 1) := by decide +kernel
theorem dX3_load_19 : decode cX3_load 19 = .ok (.astore_n 2, 1) := by decide +kernel
theorem dX3_load_20 : decode cX3_load 20 = .ok (.aload_n 2, 1) := by decide +kernel
theorem dX3_load_21 : decode cX3_load 21 = .ok (.invokevirtual 203, 3) := by decide +kernel
theorem dX3_load_24 : decode cX3_load 24 = .ok (.ifCond .eq 9, 3) := by decide +kernel
theorem dX3_load_27 : decode cX3_load 27 = .ok (.aload_n 0, 1) := by decide +kernel
theorem dX3_load_28 : decode cX3_load 28 = .ok (.iconst 5, 1) := by decide +kernel
theorem dX3_load_29 : decode cX3_load 29 = .ok (.invokevirtual 48, 3) := by decide +kernel
theorem dX3_load_32 : decode cX3_load 32 = .ok (.ireturn, 1) := by decide +kernel
theorem dX3_load_33 : decode cX3_load 33 = .ok (.iconst 0, 1) := by decide +kernel
theorem dX3_load_34 : decode cX3_load 34 = .ok (.istore_n 3, 1) := by decide +kernel
theorem dX3_load_35 : decode cX3_load 35 = .ok (.iload_n 3, 1) := by decide +kernel
theorem dX3_load_36 : decode cX3_load 36 = .ok (.bipush 10, 2) := by decide +kernel
theorem dX3_load_38 : decode cX3_load 38 = .ok (.if_icmp .ge 47, 3) := by decide +kernel
theorem dX3_load_41 : decode cX3_load 41 = .ok (.iload_n 3, 1) := by decide +kernel
theorem dX3_load_42 : decode cX3_load 42 = .ok (.aload_n 2, 1) := by decide +kernel
theorem dX3_load_43 : decode cX3_load 43 = .ok (.getfield 202, 3) := by decide +kernel
theorem dX3_load_46 : decode cX3_load 46 = .ok (.if_icmp .ge 39, 3) := by decide +kernel
theorem dX3_load_49 : decode cX3_load 49 = .ok (.aload_n 2, 1) := by decide +kernel
theorem dX3_load_50 : decode cX3_load 50 = .ok (.getfield 216, 3) := by decide +kernel
theorem dX3_load_53 : decode cX3_load 53 = .ok (.iload_n 3, 1) := by decide +kernel
theorem dX3_load_54 : decode cX3_load 54 = .ok (.iaload, 1) := by decide +kernel
theorem dX3_load_55 : decode cX3_load 55 = .ok (.iconst 0, 1) := by decide +kernel
theorem dX3_load_56 : decode cX3_load 56 = .ok (.bipush 99, 2) := by decide +kernel
theorem dX3_load_58 : decode cX3_load 58 = .ok (.invokestatic 52, 3) := by decide +kernel
theorem dX3_load_61 : decode cX3_load 61 = .ok (.ifCond .eq 24, 3) := by decide +kernel
theorem dX3_load_64 : decode cX3_load 64 = .ok (.aload_n 0, 1) := by decide +kernel
theorem dX3_load_65 : decode cX3_load 65 = .ok (.getfield 10, 3) := by decide +kernel
theorem dX3_load_68 : decode cX3_load 68 = .ok (.getfield 56, 3) := by decide +kernel
theorem dX3_load_71 : decode cX3_load 71 = .ok (.iload_n 3, 1) := by decide +kernel
theorem dX3_load_72 : decode cX3_load 72 = .ok (.aload_n 2, 1) := by decide +kernel
theorem dX3_load_73 : decode cX3_load 73 = .ok (.getfield 216, 3) := by decide +kernel
theorem dX3_load_76 : decode cX3_load 76 = .ok (.iload_n 3, 1) := by decide +kernel
theorem dX3_load_77 : decode cX3_load 77 = .ok (.iaload, 1) := by decide +kernel
theorem dX3_load_78 : decode cX3_load 78 = .ok (.iastore, 1) := by decide +kernel
theorem dX3_load_79 : decode cX3_load 79 = .ok (.iinc 3 1, 3) := by decide +kernel
theorem dX3_load_82 : decode cX3_load 82 = .ok (.goto (-47), 3) := by decide +kernel
theorem dX3_load_85 : decode cX3_load 85 = .ok (.iload_n 3, 1) := by decide +kernel
theorem dX3_load_86 : decode cX3_load 86 = .ok (.ireturn, 1) := by decide +kernel
theorem dX3_judge_0 : decode cX3_judge 0 = .ok (.iload_n 1, 1) := by decide +kernel
theorem dX3_judge_1 : decode cX3_judge 1 = .ok (.invokestatic 195, 3) := by decide +kernel
theorem dX3_judge_4 : decode cX3_judge 4 = .ok (.ifCond .ne 9, 3) := by decide +kernel
theorem dX3_judge_7 : decode cX3_judge 7 = .ok (.aload_n 0, 1) := by decide +kernel
theorem dX3_judge_8 : decode cX3_judge 8 = .ok (.iconst 0, 1) := by decide +kernel
theorem dX3_judge_9 : decode cX3_judge 9 = .ok (.invokevirtual 48, 3) := by decide +kernel
theorem dX3_judge_12 : decode cX3_judge 12 = .ok (.ireturn, 1) := by decide +kernel
theorem dX3_judge_13 : decode cX3_judge 13 = .ok (.aload_n 0, 1) := by decide +kernel
theorem dX3_judge_14 : decode cX3_judge 14 = .ok (.getfield 35, 3) := by decide +kernel
theorem dX3_judge_17 : decode cX3_judge 17 = .ok (.iload_n 1, 1) := by decide +kernel
theorem dX3_judge_18 : decode cX3_judge 18 = .ok (.aaload, 1) := by decide +kernel
theorem dX3_judge_19 : decode cX3_judge 19 = .ok (.astore_n 2, 1) := by decide +kernel
theorem dX3_judge_20 : decode cX3_judge 20 = .ok (.aload_n 2, 1) := by decide +kernel
theorem dX3_judge_21 : decode cX3_judge 21 = .ok (.invokevirtual 203, 3) := by decide +kernel
theorem dX3_judge_24 : decode cX3_judge 24 = .ok (.ifCond .eq 9, 3) := by decide +kernel
theorem dX3_judge_27 : decode cX3_judge 27 = .ok (.aload_n 0, 1) := by decide +kernel
theorem dX3_judge_28 : decode cX3_judge 28 = .ok (.iconst 5, 1) := by decide +kernel
theorem dX3_judge_29 : decode cX3_judge 29 = .ok (.invokevirtual 48, 3) := by decide +kernel
theorem dX3_judge_32 : decode cX3_judge 32 = .ok (.ireturn, 1) := by decide +kernel
theorem dX3_judge_33 : decode cX3_judge 33 = .ok (.iconst 0, 1) := by decide +kernel
theorem dX3_judge_34 : decode cX3_judge 34 = .ok (.istore_n 3, 1) := by decide +kernel
theorem dX3_judge_35 : decode cX3_judge 35 = .ok (.iload_n 3, 1) := by decide +kernel
theorem dX3_judge_36 : decode cX3_judge 36 = .ok (.aload_n 2, 1) := by decide +kernel
theorem dX3_judge_37 : decode cX3_judge 37 = .ok (.getfield 202, 3) := by decide +kernel
theorem dX3_judge_40 : decode cX3_judge 40 = .ok (.if_icmp .ge 42, 3) := by decide +kernel
theorem dX3_judge_43 : decode cX3_judge 43 = .ok (.aload_n 0, 1) := by decide +kernel
theorem dX3_judge_44 : decode cX3_judge 44 = .ok (.getfield 10, 3) := by decide +kernel
theorem dX3_judge_47 : decode cX3_judge 47 = .ok (.iload_n 3, 1) := by decide +kernel
theorem dX3_judge_48 : decode cX3_judge 48 = .ok (.invokevirtual 66, 3) := by decide +kernel
theorem dX3_judge_51 : decode cX3_judge 51 = .ok (.ifCond .eq 21, 3) := by decide +kernel
theorem dX3_judge_54 : decode cX3_judge 54 = .ok (.aload_n 0, 1) := by decide +kernel
theorem dX3_judge_55 : decode cX3_judge 55 = .ok (.getfield 10, 3) := by decide +kernel
theorem dX3_judge_58 : decode cX3_judge 58 = .ok (.getfield 110, 3) := by decide +kernel
theorem dX3_judge_61 : decode cX3_judge 61 = .ok (.iload_n 3, 1) := by decide +kernel
theorem dX3_judge_62 : decode cX3_judge 62 = .ok (.iaload, 1) := by decide +kernel
theorem dX3_judge_63 : decode cX3_judge 63 = .ok (.aload_n 2, 1) := by decide +kernel
theorem dX3_judge_64 : decode cX3_judge 64 = .ok (.getfield 216, 3) := by decide +kernel
theorem dX3_judge_67 : decode cX3_judge 67 = .ok (.iload_n 3, 1) := by decide +kernel
theorem dX3_judge_68 : decode cX3_judge 68 = .ok (.iaload, 1) := by decide +kernel
theorem dX3_judge_69 : decode cX3_judge 69 = .ok (.if_icmp .eq 7, 3) := by decide +kernel
theorem dX3_judge_72 : decode cX3_judge 72 = .ok (.iconst 1, 1) := by decide +kernel
theorem dX3_judge_73 : decode cX3_judge 73 = .ok (.iload_n 3, 1) := by decide +kernel
theorem dX3_judge_74 : decode cX3_judge 74 = .ok (.iadd, 1) := by decide +kernel
theorem dX3_judge_75 : decode cX3_judge 75 = .ok (.ireturn, 1) := by decide +kernel
theorem dX3_judge_76 : decode cX3_judge 76 = .ok (.iinc 3 1, 3) := by decide +kernel
theorem dX3_judge_79 : decode cX3_judge 79 = .ok (.goto (-44), 3) := by decide +kernel
theorem dX3_judge_82 : decode cX3_judge 82 = .ok (.iconst 0, 1) := by decide +kernel
theorem dX3_judge_83 : decode cX3_judge 83 = .ok (.ireturn, 1) := by decide +kernel
theorem dX3_image_0 : decode cX3_image 0 = .ok (.aload_n 0, 1) := by decide +kernel
theorem dX3_image_1 : decode cX3_image 1 = .ok (.getfield 19, 3) := by decide +kernel
theorem dX3_image_4 : decode cX3_image 4 = .ok (.aload_n 0, 1) := by decide +kernel
theorem dX3_image_5 : decode cX3_image 5 = .ok (.getfield 10, 3) := by decide +kernel
theorem dX3_image_8 : decode cX3_image 8 = .ok (.invokevirtual 144, 3) := by decide +kernel
theorem dX3_image_11 : decode cX3_image 11 = .ok (.aload_n 0, 1) := by decide +kernel
theorem dX3_image_12 : decode cX3_image 12 = .ok (.iconst 1, 1) := by decide +kernel
theorem dX3_image_13 : decode cX3_image 13 = .ok (.putfield 22, 3) := by decide +kernel
theorem dX3_image_16 : decode cX3_image 16 = .ok (.iconst 1, 1) := by decide +kernel
theorem dX3_image_17 : decode cX3_image 17 = .ok (.ireturn, 1) := by decide +kernel
theorem dX3_undo_0 : decode cX3_undo 0 = .ok (.aload_n 0, 1) := by decide +kernel
theorem dX3_undo_1 : decode cX3_undo 1 = .ok (.getfield 22, 3) := by decide +kernel
theorem dX3_undo_4 : decode cX3_undo 4 = .ok (.ifCond .ne 9, 3) := by decide +kernel
theorem dX3_undo_7 : decode cX3_undo 7 = .ok (.aload_n 0, 1) := by decide +kernel
theorem dX3_undo_8 : decode cX3_undo 8 = .ok (.iconst 3, 1) := by decide +kernel
theorem dX3_undo_9 : decode cX3_undo 9 = .ok (.invokevirtual 48, 3) := by decide +kernel
theorem dX3_undo_12 : decode cX3_undo 12 = .ok (.ireturn, 1) := by decide +kernel
theorem dX3_undo_13 : decode cX3_undo 13 = .ok (.aload_n 0, 1) := by decide +kernel
theorem dX3_undo_14 : decode cX3_undo 14 = .ok (.getfield 10, 3) := by decide +kernel
theorem dX3_undo_17 : decode cX3_undo 17 = .ok (.aload_n 0, 1) := by decide +kernel
theorem dX3_undo_18 : decode cX3_undo 18 = .ok (.getfield 19, 3) := by decide +kernel
theorem dX3_undo_21 : decode cX3_undo 21 = .ok (.invokevirtual 144, 3) := by decide +kernel
theorem dX3_undo_24 : decode cX3_undo 24 = .ok (.aload_n 0, 1) := by decide +kernel
theorem dX3_undo_25 : decode cX3_undo 25 = .ok (.getfield 10, 3) := by decide +kernel
theorem dX3_undo_28 : decode cX3_undo 28 = .ok (.getfield 125, 3) := by decide +kernel
theorem dX3_undo_31 : decode cX3_undo 31 = .ok (.ireturn, 1) := by decide +kernel
theorem dX3_tear_0 : decode cX3_tear 0 = .ok (.aload_n 0, 1) := by decide +kernel
theorem dX3_tear_1 : decode cX3_tear 1 = .ok (.getfield 22, 3) := by decide +kernel
theorem dX3_tear_4 : decode cX3_tear 4 = .ok (.ifCond .eq 7, 3) := by decide +kernel
theorem dX3_tear_7 : decode cX3_tear 7 = .ok (.iconst 1, 1) := by decide +kernel
theorem dX3_tear_8 : decode cX3_tear 8 = .ok (.goto 4, 3) := by decide +kernel
theorem dX3_tear_11 : decode cX3_tear 11 = .ok (.iconst 0, 1) := by decide +kernel
theorem dX3_tear_12 : decode cX3_tear 12 = .ok (.istore_n 1, 1) := by decide +kernel
theorem dX3_tear_13 : decode cX3_tear 13 = .ok (.aload_n 0, 1) := by decide +kernel
theorem dX3_tear_14 : decode cX3_tear 14 = .ok (.iconst 0, 1) := by decide +kernel
theorem dX3_tear_15 : decode cX3_tear 15 = .ok (.putfield 22, 3) := by decide +kernel
theorem dX3_tear_18 : decode cX3_tear 18 = .ok (.iload_n 1, 1) := by decide +kernel
theorem dX3_tear_19 : decode cX3_tear 19 = .ok (.ireturn, 1) := by decide +kernel
theorem dX3_count_0 : decode cX3_count 0 = .ok (.iload_n 1, 1) := by decide +kernel
theorem dX3_count_1 : decode cX3_count 1 = .ok (.tableswitch 134 0 7 #[47, 55, 63, 74, 92, 110, 118, 126], 47) := by decide +kernel
theorem dX3_count_48 : decode cX3_count 48 = .ok (.aload_n 0, 1) := by decide +kernel
theorem dX3_count_49 : decode cX3_count 49 = .ok (.getfield 10, 3) := by decide +kernel
theorem dX3_count_52 : decode cX3_count 52 = .ok (.getfield 125, 3) := by decide +kernel
theorem dX3_count_55 : decode cX3_count 55 = .ok (.ireturn, 1) := by decide +kernel
theorem dX3_count_56 : decode cX3_count 56 = .ok (.aload_n 0, 1) := by decide +kernel
theorem dX3_count_57 : decode cX3_count 57 = .ok (.getfield 10, 3) := by decide +kernel
theorem dX3_count_60 : decode cX3_count 60 = .ok (.getfield 88, 3) := by decide +kernel
theorem dX3_count_63 : decode cX3_count 63 = .ok (.ireturn, 1) := by decide +kernel
theorem dX3_count_64 : decode cX3_count 64 = .ok (.aload_n 0, 1) := by decide +kernel
theorem dX3_count_65 : decode cX3_count 65 = .ok (.getfield 10, 3) := by decide +kernel
theorem dX3_count_68 : decode cX3_count 68 = .ok (.invokevirtual 133, 3) := by decide +kernel
theorem dX3_count_71 : decode cX3_count 71 = .ok (.invokestatic 148, 3) := by decide +kernel
theorem dX3_count_74 : decode cX3_count 74 = .ok (.ireturn, 1) := by decide +kernel
theorem dX3_count_75 : decode cX3_count 75 = .ok (.aload_n 0, 1) := by decide +kernel
theorem dX3_count_76 : decode cX3_count 76 = .ok (.getfield 10, 3) := by decide +kernel
theorem dX3_count_79 : decode cX3_count 79 = .ok (.getfield 119, 3) := by decide +kernel
theorem dX3_count_82 : decode cX3_count 82 = .ok (.aload_n 0, 1) := by decide +kernel
theorem dX3_count_83 : decode cX3_count 83 = .ok (.getfield 10, 3) := by decide +kernel
theorem dX3_count_86 : decode cX3_count 86 = .ok (.getfield 88, 3) := by decide +kernel
theorem dX3_count_89 : decode cX3_count 89 = .ok (.invokestatic 137, 3) := by decide +kernel
theorem dX3_count_92 : decode cX3_count 92 = .ok (.ireturn, 1) := by decide +kernel
theorem dX3_count_93 : decode cX3_count 93 = .ok (.aload_n 0, 1) := by decide +kernel
theorem dX3_count_94 : decode cX3_count 94 = .ok (.getfield 10, 3) := by decide +kernel
theorem dX3_count_97 : decode cX3_count 97 = .ok (.getfield 116, 3) := by decide +kernel
theorem dX3_count_100 : decode cX3_count 100 = .ok (.aload_n 0, 1) := by decide +kernel
theorem dX3_count_101 : decode cX3_count 101 = .ok (.getfield 10, 3) := by decide +kernel
theorem dX3_count_104 : decode cX3_count 104 = .ok (.getfield 88, 3) := by decide +kernel
theorem dX3_count_107 : decode cX3_count 107 = .ok (.invokestatic 137, 3) := by decide +kernel
theorem dX3_count_110 : decode cX3_count 110 = .ok (.ireturn, 1) := by decide +kernel
theorem dX3_count_111 : decode cX3_count 111 = .ok (.aload_n 0, 1) := by decide +kernel
theorem dX3_count_112 : decode cX3_count 112 = .ok (.getfield 29, 3) := by decide +kernel
theorem dX3_count_115 : decode cX3_count 115 = .ok (.getfield 176, 3) := by decide +kernel
theorem dX3_count_118 : decode cX3_count 118 = .ok (.ireturn, 1) := by decide +kernel
theorem dX3_count_119 : decode cX3_count 119 = .ok (.aload_n 0, 1) := by decide +kernel
theorem dX3_count_120 : decode cX3_count 120 = .ok (.getfield 10, 3) := by decide +kernel
theorem dX3_count_123 : decode cX3_count 123 = .ok (.getfield 173, 3) := by decide +kernel
theorem dX3_count_126 : decode cX3_count 126 = .ok (.ireturn, 1) := by decide +kernel
theorem dX3_count_127 : decode cX3_count 127 = .ok (.aload_n 0, 1) := by decide +kernel
theorem dX3_count_128 : decode cX3_count 128 = .ok (.getfield 10, 3) := by decide +kernel
theorem dX3_count_131 : decode cX3_count 131 = .ok (.invokevirtual 225, 3) := by decide +kernel
theorem dX3_count_134 : decode cX3_count 134 = .ok (.ireturn, 1) := by decide +kernel
theorem dX3_count_135 : decode cX3_count 135 = .ok (.aload_n 0, 1) := by decide +kernel
theorem dX3_count_136 : decode cX3_count 136 = .ok (.iconst 0, 1) := by decide +kernel
theorem dX3_count_137 : decode cX3_count 137 = .ok (.invokevirtual 48, 3) := by decide +kernel
theorem dX3_count_140 : decode cX3_count 140 = .ok (.ireturn, 1) := by decide +kernel
theorem dX3_status_0 : decode cX3_status 0 = .ok (.iload_n 1, 1) := by decide +kernel
theorem dX3_status_1 : decode cX3_status 1 = .ok (.iconst (-1), 1) := by decide +kernel
theorem dX3_status_2 : decode cX3_status 2 = .ok (.if_icmp .ne 13, 3) := by decide +kernel
theorem dX3_status_5 : decode cX3_status 5 = .ok (.aload_n 0, 1) := by decide +kernel
theorem dX3_status_6 : decode cX3_status 6 = .ok (.getfield 40, 3) := by decide +kernel
theorem dX3_status_9 : decode cX3_status 9 = .ok (.bipush 7, 2) := by decide +kernel
theorem dX3_status_11 : decode cX3_status 11 = .ok (.invokestatic 137, 3) := by decide +kernel
theorem dX3_status_14 : decode cX3_status 14 = .ok (.ireturn, 1) := by decide +kernel
theorem dX3_status_15 : decode cX3_status 15 = .ok (.iload_n 1, 1) := by decide +kernel
theorem dX3_status_16 : decode cX3_status 16 = .ok (.iconst 0, 1) := by decide +kernel
theorem dX3_status_17 : decode cX3_status 17 = .ok (.bipush 6, 2) := by decide +kernel
theorem dX3_status_19 : decode cX3_status 19 = .ok (.invokestatic 52, 3) := by decide +kernel
theorem dX3_status_22 : decode cX3_status 22 = .ok (.ifCond .ne 9, 3) := by decide +kernel
theorem dX3_status_25 : decode cX3_status 25 = .ok (.aload_n 0, 1) := by decide +kernel
theorem dX3_status_26 : decode cX3_status 26 = .ok (.iconst 0, 1) := by decide +kernel
theorem dX3_status_27 : decode cX3_status 27 = .ok (.invokevirtual 48, 3) := by decide +kernel
theorem dX3_status_30 : decode cX3_status 30 = .ok (.ireturn, 1) := by decide +kernel
theorem dX3_status_31 : decode cX3_status 31 = .ok (.aload_n 0, 1) := by decide +kernel
theorem dX3_status_32 : decode cX3_status 32 = .ok (.getfield 40, 3) := by decide +kernel
theorem dX3_status_35 : decode cX3_status 35 = .ok (.iload_n 1, 1) := by decide +kernel
theorem dX3_status_36 : decode cX3_status 36 = .ok (.iaload, 1) := by decide +kernel
theorem dX3_status_37 : decode cX3_status 37 = .ok (.ireturn, 1) := by decide +kernel
theorem dX3_finding_0 : decode cX3_finding 0 = .ok (.aload_n 0, 1) := by decide +kernel
theorem dX3_finding_1 : decode cX3_finding 1 = .ok (.getfield 40, 3) := by decide +kernel
theorem dX3_finding_4 : decode cX3_finding 4 = .ok (.iload_n 1, 1) := by decide +kernel
theorem dX3_finding_5 : decode cX3_finding 5 = .ok (.dup2, 1) := by decide +kernel
theorem dX3_finding_6 : decode cX3_finding 6 = .ok (.iaload, 1) := by decide +kernel
theorem dX3_finding_7 : decode cX3_finding 7 = .ok (.iconst 1, 1) := by decide +kernel
theorem dX3_finding_8 : decode cX3_finding 8 = .ok (.iadd, 1) := by decide +kernel
theorem dX3_finding_9 : decode cX3_finding 9 = .ok (.iastore, 1) := by decide +kernel
theorem dX3_finding_10 : decode cX3_finding 10 = .ok (.ldc 228, 2) := by decide +kernel
theorem dX3_finding_12 : decode cX3_finding 12 = .ok (.iload_n 1, 1) := by decide +kernel
theorem dX3_finding_13 : decode cX3_finding 13 = .ok (.isub, 1) := by decide +kernel
theorem dX3_finding_14 : decode cX3_finding 14 = .ok (.ireturn, 1) := by decide +kernel
theorem dX3_faultOfTold_0 : decode cX3_faultOfTold 0 = .ok (.iload_n 1, 1) := by decide +kernel
theorem dX3_faultOfTold_1 : decode cX3_faultOfTold 1 = .ok (.invokestatic 195, 3) := by decide +kernel
theorem dX3_faultOfTold_4 : decode cX3_faultOfTold 4 = .ok (.ifCond .ne 5, 3) := by decide +kernel
theorem dX3_faultOfTold_7 : decode cX3_faultOfTold 7 = .ok (.iconst 0, 1) := by decide +kernel
theorem dX3_faultOfTold_8 : decode cX3_faultOfTold 8 = .ok (.ireturn, 1) := by decide +kernel
theorem dX3_faultOfTold_9 : decode cX3_faultOfTold 9 = .ok (.aload_n 0, 1) := by decide +kernel
theorem dX3_faultOfTold_10 : decode cX3_faultOfTold 10 = .ok (.getfield 35, 3) := by decide +kernel
theorem dX3_faultOfTold_13 : decode cX3_faultOfTold 13 = .ok (.iload_n 1, 1) := by decide +kernel
theorem dX3_faultOfTold_14 : decode cX3_faultOfTold 14 = .ok (.aaload, 1) := by decide +kernel
theorem dX3_faultOfTold_15 : decode cX3_faultOfTold 15 = .ok (.invokevirtual 203, 3) := by decide +kernel
theorem dX3_faultOfTold_18 : decode cX3_faultOfTold 18 = .ok (.ifCond .eq 5, 3) := by decide +kernel
theorem dX3_faultOfTold_21 : decode cX3_faultOfTold 21 = .ok (.iconst 5, 1) := by decide +kernel
theorem dX3_faultOfTold_22 : decode cX3_faultOfTold 22 = .ok (.ireturn, 1) := by decide +kernel
theorem dX3_faultOfTold_23 : decode cX3_faultOfTold 23 = .ok (.aload_n 0, 1) := by decide +kernel
theorem dX3_faultOfTold_24 : decode cX3_faultOfTold 24 = .ok (.getfield 10, 3) := by decide +kernel
theorem dX3_faultOfTold_27 : decode cX3_faultOfTold 27 = .ok (.iload_n 2, 1) := by decide +kernel
theorem dX3_faultOfTold_28 : decode cX3_faultOfTold 28 = .ok (.invokevirtual 66, 3) := by decide +kernel
theorem dX3_faultOfTold_31 : decode cX3_faultOfTold 31 = .ok (.ifCond .eq 7, 3) := by decide +kernel
theorem dX3_faultOfTold_34 : decode cX3_faultOfTold 34 = .ok (.iconst (-1), 1) := by decide +kernel
theorem dX3_faultOfTold_35 : decode cX3_faultOfTold 35 = .ok (.goto 4, 3) := by decide +kernel
theorem dX3_faultOfTold_38 : decode cX3_faultOfTold 38 = .ok (.iconst 0, 1) := by decide +kernel
theorem dX3_faultOfTold_39 : decode cX3_faultOfTold 39 = .ok (.ireturn, 1) := by decide +kernel
theorem dX3_goesAsTold_0 : decode cX3_goesAsTold 0 = .ok (.iconst 0, 1) := by decide +kernel
theorem dX3_goesAsTold_1 : decode cX3_goesAsTold 1 = .ok (.istore_n 3, 1) := by decide +kernel
theorem dX3_goesAsTold_2 : decode cX3_goesAsTold 2 = .ok (.iload_n 3, 1) := by decide +kernel
theorem dX3_goesAsTold_3 : decode cX3_goesAsTold 3 = .ok (.aload_n 2, 1) := by decide +kernel
theorem dX3_goesAsTold_4 : decode cX3_goesAsTold 4 = .ok (.getfield 202, 3) := by decide +kernel
theorem dX3_goesAsTold_7 : decode cX3_goesAsTold 7 = .ok (.if_icmp .ge 52, 3) := by decide +kernel
theorem dX3_goesAsTold_10 : decode cX3_goesAsTold 10 = .ok (.iload_n 3, 1) := by decide +kernel
theorem dX3_goesAsTold_11 : decode cX3_goesAsTold 11 = .ok (.ifCond .le 11, 3) := by decide +kernel
theorem dX3_goesAsTold_14 : decode cX3_goesAsTold 14 = .ok (.aload_n 0, 1) := by decide +kernel
theorem dX3_goesAsTold_15 : decode cX3_goesAsTold 15 = .ok (.getfield 16, 3) := by decide +kernel
theorem dX3_goesAsTold_18 : decode cX3_goesAsTold 18 = .ok (.iconst 1, 1) := by decide +kernel
theorem dX3_goesAsTold_19 : decode cX3_goesAsTold 19 = .ok (.invokevirtual 129, 3) := by decide +kernel
theorem dX3_goesAsTold_22 : decode cX3_goesAsTold 22 = .ok (.aload_n 2, 1) := by decide +kernel
theorem dX3_goesAsTold_23 : decode cX3_goesAsTold 23 = .ok (.getfield 216, 3) := by decide +kernel
theorem dX3_goesAsTold_26 : decode cX3_goesAsTold 26 = .ok (.iload_n 3, 1) := by decide +kernel
theorem dX3_goesAsTold_27 : decode cX3_goesAsTold 27 = .ok (.iaload, 1) := by decide +kernel
theorem dX3_goesAsTold_28 : decode cX3_goesAsTold 28 = .ok (.istore 4, 2) := by decide +kernel
theorem dX3_goesAsTold_30 : decode cX3_goesAsTold 30 = .ok (.iload 4, 2) := by decide +kernel
theorem dX3_goesAsTold_32 : decode cX3_goesAsTold 32 = .ok (.bipush (-2), 2) := by decide +kernel
theorem dX3_goesAsTold_34 : decode cX3_goesAsTold 34 = .ok (.if_icmp .eq 19, 3) := by decide +kernel
theorem dX3_goesAsTold_37 : decode cX3_goesAsTold 37 = .ok (.iload 4, 2) := by decide +kernel
theorem dX3_goesAsTold_39 : decode cX3_goesAsTold 39 = .ok (.aload_n 0, 1) := by decide +kernel
theorem dX3_goesAsTold_40 : decode cX3_goesAsTold 40 = .ok (.getfield 16, 3) := by decide +kernel
theorem dX3_goesAsTold_43 : decode cX3_goesAsTold 43 = .ok (.getfield 110, 3) := by decide +kernel
theorem dX3_goesAsTold_46 : decode cX3_goesAsTold 46 = .ok (.iload_n 1, 1) := by decide +kernel
theorem dX3_goesAsTold_47 : decode cX3_goesAsTold 47 = .ok (.iaload, 1) := by decide +kernel
theorem dX3_goesAsTold_48 : decode cX3_goesAsTold 48 = .ok (.if_icmp .eq 5, 3) := by decide +kernel
theorem dX3_goesAsTold_51 : decode cX3_goesAsTold 51 = .ok (.iconst 0, 1) := by decide +kernel
theorem dX3_goesAsTold_52 : decode cX3_goesAsTold 52 = .ok (.ireturn, 1) := by decide +kernel
theorem dX3_goesAsTold_53 : decode cX3_goesAsTold 53 = .ok (.iinc 3 1, 3) := by decide +kernel
theorem dX3_goesAsTold_56 : decode cX3_goesAsTold 56 = .ok (.goto (-54), 3) := by decide +kernel
theorem dX3_goesAsTold_59 : decode cX3_goesAsTold 59 = .ok (.iconst 1, 1) := by decide +kernel
theorem dX3_goesAsTold_60 : decode cX3_goesAsTold 60 = .ok (.ireturn, 1) := by decide +kernel
theorem dX3_within_0 : decode cX3_within 0 = .ok (.iload_n 0, 1) := by decide +kernel
theorem dX3_within_1 : decode cX3_within 1 = .ok (.iload_n 1, 1) := by decide +kernel
theorem dX3_within_2 : decode cX3_within 2 = .ok (.if_icmp .lt 12, 3) := by decide +kernel
theorem dX3_within_5 : decode cX3_within 5 = .ok (.iload_n 0, 1) := by decide +kernel
theorem dX3_within_6 : decode cX3_within 6 = .ok (.iload_n 2, 1) := by decide +kernel
theorem dX3_within_7 : decode cX3_within 7 = .ok (.if_icmp .gt 7, 3) := by decide +kernel
theorem dX3_within_10 : decode cX3_within 10 = .ok (.iconst 1, 1) := by decide +kernel
theorem dX3_within_11 : decode cX3_within 11 = .ok (.goto 4, 3) := by decide +kernel
theorem dX3_within_14 : decode cX3_within 14 = .ok (.iconst 0, 1) := by decide +kernel
theorem dX3_within_15 : decode cX3_within 15 = .ok (.ireturn, 1) := by decide +kernel
theorem dX3_isLot_0 : decode cX3_isLot 0 = .ok (.iload_n 0, 1) := by decide +kernel
theorem dX3_isLot_1 : decode cX3_isLot 1 = .ok (.ifCond .lt 13, 3) := by decide +kernel
theorem dX3_isLot_4 : decode cX3_isLot 4 = .ok (.iload_n 0, 1) := by decide +kernel
theorem dX3_isLot_5 : decode cX3_isLot 5 = .ok (.bipush 10, 2) := by decide +kernel
theorem dX3_isLot_7 : decode cX3_isLot 7 = .ok (.if_icmp .ge 7, 3) := by decide +kernel
theorem dX3_isLot_10 : decode cX3_isLot 10 = .ok (.iconst 1, 1) := by decide +kernel
theorem dX3_isLot_11 : decode cX3_isLot 11 = .ok (.goto 4, 3) := by decide +kernel
theorem dX3_isLot_14 : decode cX3_isLot 14 = .ok (.iconst 0, 1) := by decide +kernel
theorem dX3_isLot_15 : decode cX3_isLot 15 = .ok (.ireturn, 1) := by decide +kernel
theorem dX3_isKind_0 : decode cX3_isKind 0 = .ok (.iload_n 0, 1) := by decide +kernel
theorem dX3_isKind_1 : decode cX3_isKind 1 = .ok (.ifCond .lt 13, 3) := by decide +kernel
theorem dX3_isKind_4 : decode cX3_isKind 4 = .ok (.iload_n 0, 1) := by decide +kernel
theorem dX3_isKind_5 : decode cX3_isKind 5 = .ok (.bipush 7, 2) := by decide +kernel
theorem dX3_isKind_7 : decode cX3_isKind 7 = .ok (.if_icmp .ge 7, 3) := by decide +kernel
theorem dX3_isKind_10 : decode cX3_isKind 10 = .ok (.iconst 1, 1) := by decide +kernel
theorem dX3_isKind_11 : decode cX3_isKind 11 = .ok (.goto 4, 3) := by decide +kernel
theorem dX3_isKind_14 : decode cX3_isKind 14 = .ok (.iconst 0, 1) := by decide +kernel
theorem dX3_isKind_15 : decode cX3_isKind 15 = .ok (.ireturn, 1) := by decide +kernel
theorem dX3_isSheet_0 : decode cX3_isSheet 0 = .ok (.iload_n 0, 1) := by decide +kernel
theorem dX3_isSheet_1 : decode cX3_isSheet 1 = .ok (.ifCond .lt 12, 3) := by decide +kernel
theorem dX3_isSheet_4 : decode cX3_isSheet 4 = .ok (.iload_n 0, 1) := by decide +kernel
theorem dX3_isSheet_5 : decode cX3_isSheet 5 = .ok (.iconst 4, 1) := by decide +kernel
theorem dX3_isSheet_6 : decode cX3_isSheet 6 = .ok (.if_icmp .ge 7, 3) := by decide +kernel
theorem dX3_isSheet_9 : decode cX3_isSheet 9 = .ok (.iconst 1, 1) := by decide +kernel
theorem dX3_isSheet_10 : decode cX3_isSheet 10 = .ok (.goto 4, 3) := by decide +kernel
theorem dX3_isSheet_13 : decode cX3_isSheet 13 = .ok (.iconst 0, 1) := by decide +kernel
theorem dX3_isSheet_14 : decode cX3_isSheet 14 = .ok (.ireturn, 1) := by decide +kernel
theorem dX3_exchange_0 : decode cX3_exchange 0 = .ok (.aload_n 0, 1) := by decide +kernel
theorem dX3_exchange_1 : decode cX3_exchange 1 = .ok (.iload_n 1, 1) := by decide +kernel
theorem dX3_exchange_2 : decode cX3_exchange 2 = .ok (.iaload, 1) := by decide +kernel
theorem dX3_exchange_3 : decode cX3_exchange 3 = .ok (.istore_n 3, 1) := by decide +kernel
theorem dX3_exchange_4 : decode cX3_exchange 4 = .ok (.aload_n 0, 1) := by decide +kernel
theorem dX3_exchange_5 : decode cX3_exchange 5 = .ok (.iload_n 1, 1) := by decide +kernel
theorem dX3_exchange_6 : decode cX3_exchange 6 = .ok (.iload_n 2, 1) := by decide +kernel
theorem dX3_exchange_7 : decode cX3_exchange 7 = .ok (.iastore, 1) := by decide +kernel
theorem dX3_exchange_8 : decode cX3_exchange 8 = .ok (.iload_n 3, 1) := by decide +kernel
theorem dX3_exchange_9 : decode cX3_exchange 9 = .ok (.ireturn, 1) := by decide +kernel
theorem dX3_sumOf_0 : decode cX3_sumOf 0 = .ok (.iconst 0, 1) := by decide +kernel
theorem dX3_sumOf_1 : decode cX3_sumOf 1 = .ok (.istore_n 2, 1) := by decide +kernel
theorem dX3_sumOf_2 : decode cX3_sumOf 2 = .ok (.iconst 0, 1) := by decide +kernel
theorem dX3_sumOf_3 : decode cX3_sumOf 3 = .ok (.istore_n 3, 1) := by decide +kernel
theorem dX3_sumOf_4 : decode cX3_sumOf 4 = .ok (.iload_n 3, 1) := by decide +kernel
theorem dX3_sumOf_5 : decode cX3_sumOf 5 = .ok (.iload_n 1, 1) := by decide +kernel
theorem dX3_sumOf_6 : decode cX3_sumOf 6 = .ok (.if_icmp .ge 15, 3) := by decide +kernel
theorem dX3_sumOf_9 : decode cX3_sumOf 9 = .ok (.iload_n 2, 1) := by decide +kernel
theorem dX3_sumOf_10 : decode cX3_sumOf 10 = .ok (.aload_n 0, 1) := by decide +kernel
theorem dX3_sumOf_11 : decode cX3_sumOf 11 = .ok (.iload_n 3, 1) := by decide +kernel
theorem dX3_sumOf_12 : decode cX3_sumOf 12 = .ok (.iaload, 1) := by decide +kernel
theorem dX3_sumOf_13 : decode cX3_sumOf 13 = .ok (.iadd, 1) := by decide +kernel
theorem dX3_sumOf_14 : decode cX3_sumOf 14 = .ok (.istore_n 2, 1) := by decide +kernel
theorem dX3_sumOf_15 : decode cX3_sumOf 15 = .ok (.iinc 3 1, 3) := by decide +kernel
theorem dX3_sumOf_18 : decode cX3_sumOf 18 = .ok (.goto (-14), 3) := by decide +kernel
theorem dX3_sumOf_21 : decode cX3_sumOf 21 = .ok (.iload_n 2, 1) := by decide +kernel
theorem dX3_sumOf_22 : decode cX3_sumOf 22 = .ok (.ireturn, 1) := by decide +kernel
theorem dX3_firstGreatest_0 : decode cX3_firstGreatest 0 = .ok (.iconst (-1), 1) := by decide +kernel
theorem dX3_firstGreatest_1 : decode cX3_firstGreatest 1 = .ok (.istore_n 2, 1) := by decide +kernel
theorem dX3_firstGreatest_2 : decode cX3_firstGreatest 2 = .ok (.iconst 0, 1) := by decide +kernel
theorem dX3_firstGreatest_3 : decode cX3_firstGreatest 3 = .ok (.istore_n 3, 1) := by decide +kernel
theorem dX3_firstGreatest_4 : decode cX3_firstGreatest 4 = .ok (.iload_n 3, 1) := by decide +kernel
theorem dX3_firstGreatest_5 : decode cX3_firstGreatest 5 = .ok (.iload_n 1, 1) := by decide +kernel
theorem dX3_firstGreatest_6 : decode cX3_firstGreatest 6 = .ok (.if_icmp .ge 24, 3) := by decide +kernel
theorem dX3_firstGreatest_9 : decode cX3_firstGreatest 9 = .ok (.iload_n 2, 1) := by decide +kernel
theorem dX3_firstGreatest_10 : decode cX3_firstGreatest 10 = .ok (.ifCond .lt 12, 3) := by decide +kernel
theorem dX3_firstGreatest_13 : decode cX3_firstGreatest 13 = .ok (.aload_n 0, 1) := by decide +kernel
theorem dX3_firstGreatest_14 : decode cX3_firstGreatest 14 = .ok (.iload_n 3, 1) := by decide +kernel
theorem dX3_firstGreatest_15 : decode cX3_firstGreatest 15 = .ok (.iaload, 1) := by decide +kernel
theorem dX3_firstGreatest_16 : decode cX3_firstGreatest 16 = .ok (.aload_n 0, 1) := by decide +kernel
theorem dX3_firstGreatest_17 : decode cX3_firstGreatest 17 = .ok (.iload_n 2, 1) := by decide +kernel
theorem dX3_firstGreatest_18 : decode cX3_firstGreatest 18 = .ok (.iaload, 1) := by decide +kernel
theorem dX3_firstGreatest_19 : decode cX3_firstGreatest 19 = .ok (.if_icmp .le 5, 3) := by decide +kernel
theorem dX3_firstGreatest_22 : decode cX3_firstGreatest 22 = .ok (.iload_n 3, 1) := by decide +kernel
theorem dX3_firstGreatest_23 : decode cX3_firstGreatest 23 = .ok (.istore_n 2, 1) := by decide +kernel
theorem dX3_firstGreatest_24 : decode cX3_firstGreatest 24 = .ok (.iinc 3 1, 3) := by decide +kernel
theorem dX3_firstGreatest_27 : decode cX3_firstGreatest 27 = .ok (.goto (-23), 3) := by decide +kernel
theorem dX3_firstGreatest_30 : decode cX3_firstGreatest 30 = .ok (.iload_n 2, 1) := by decide +kernel
theorem dX3_firstGreatest_31 : decode cX3_firstGreatest 31 = .ok (.ireturn, 1) := by decide +kernel
theorem dX3_greatestCommon_0 : decode cX3_greatestCommon 0 = .ok (.iconst 1, 1) := by decide +kernel
theorem dX3_greatestCommon_1 : decode cX3_greatestCommon 1 = .ok (.istore_n 2, 1) := by decide +kernel
theorem dX3_greatestCommon_2 : decode cX3_greatestCommon 2 = .ok (.iconst 2, 1) := by decide +kernel
theorem dX3_greatestCommon_3 : decode cX3_greatestCommon 3 = .ok (.istore_n 3, 1) := by decide +kernel
theorem dX3_greatestCommon_4 : decode cX3_greatestCommon 4 = .ok (.iload_n 3, 1) := by decide +kernel
theorem dX3_greatestCommon_5 : decode cX3_greatestCommon 5 = .ok (.iload_n 1, 1) := by decide +kernel
theorem dX3_greatestCommon_6 : decode cX3_greatestCommon 6 = .ok (.if_icmp .gt 23, 3) := by decide +kernel
theorem dX3_greatestCommon_9 : decode cX3_greatestCommon 9 = .ok (.iload_n 0, 1) := by decide +kernel
theorem dX3_greatestCommon_10 : decode cX3_greatestCommon 10 = .ok (.iload_n 3, 1) := by decide +kernel
theorem dX3_greatestCommon_11 : decode cX3_greatestCommon 11 = .ok (.irem, 1) := by decide +kernel
theorem dX3_greatestCommon_12 : decode cX3_greatestCommon 12 = .ok (.ifCond .ne 11, 3) := by decide +kernel
theorem dX3_greatestCommon_15 : decode cX3_greatestCommon 15 = .ok (.iload_n 1, 1) := by decide +kernel
theorem dX3_greatestCommon_16 : decode cX3_greatestCommon 16 = .ok (.iload_n 3, 1) := by decide +kernel
theorem dX3_greatestCommon_17 : decode cX3_greatestCommon 17 = .ok (.irem, 1) := by decide +kernel
theorem dX3_greatestCommon_18 : decode cX3_greatestCommon 18 = .ok (.ifCond .ne 5, 3) := by decide +kernel
theorem dX3_greatestCommon_21 : decode cX3_greatestCommon 21 = .ok (.iload_n 3, 1) := by decide +kernel
theorem dX3_greatestCommon_22 : decode cX3_greatestCommon 22 = .ok (.istore_n 2, 1) := by decide +kernel
theorem dX3_greatestCommon_23 : decode cX3_greatestCommon 23 = .ok (.iinc 3 1, 3) := by decide +kernel
theorem dX3_greatestCommon_26 : decode cX3_greatestCommon 26 = .ok (.goto (-22), 3) := by decide +kernel
theorem dX3_greatestCommon_29 : decode cX3_greatestCommon 29 = .ok (.iload_n 2, 1) := by decide +kernel
theorem dX3_greatestCommon_30 : decode cX3_greatestCommon 30 = .ok (.ireturn, 1) := by decide +kernel
theorem dX3_losesOf_0 : decode cX3_losesOf 0 = .ok (.iload_n 0, 1) := by decide +kernel
theorem dX3_losesOf_1 : decode cX3_losesOf 1 = .ok (.tableswitch 48 1 6 #[39, 48, 41, 43, 45, 39], 39) := by decide +kernel
theorem dX3_losesOf_40 : decode cX3_losesOf 40 = .ok (.iconst 2, 1) := by decide +kernel
theorem dX3_losesOf_41 : decode cX3_losesOf 41 = .ok (.ireturn, 1) := by decide +kernel
theorem dX3_losesOf_42 : decode cX3_losesOf 42 = .ok (.iconst 5, 1) := by decide +kernel
theorem dX3_losesOf_43 : decode cX3_losesOf 43 = .ok (.ireturn, 1) := by decide +kernel
theorem dX3_losesOf_44 : decode cX3_losesOf 44 = .ok (.iconst 0, 1) := by decide +kernel
theorem dX3_losesOf_45 : decode cX3_losesOf 45 = .ok (.ireturn, 1) := by decide +kernel
theorem dX3_losesOf_46 : decode cX3_losesOf 46 = .ok (.bipush 20, 2) := by decide +kernel
theorem dX3_losesOf_48 : decode cX3_losesOf 48 = .ok (.ireturn, 1) := by decide +kernel
theorem dX3_losesOf_49 : decode cX3_losesOf 49 = .ok (.bipush 10, 2) := by decide +kernel
theorem dX3_losesOf_51 : decode cX3_losesOf 51 = .ok (.ireturn, 1) := by decide +kernel
theorem dX3_kindAbove_0 : decode cX3_kindAbove 0 = .ok (.iload_n 0, 1) := by decide +kernel
theorem dX3_kindAbove_1 : decode cX3_kindAbove 1 = .ok (.tableswitch 47 1 6 #[39, 39, 41, 43, 39, 45], 39) := by decide +kernel
theorem dX3_kindAbove_40 : decode cX3_kindAbove 40 = .ok (.iconst 0, 1) := by decide +kernel
theorem dX3_kindAbove_41 : decode cX3_kindAbove 41 = .ok (.ireturn, 1) := by decide +kernel
theorem dX3_kindAbove_42 : decode cX3_kindAbove 42 = .ok (.iconst 2, 1) := by decide +kernel
theorem dX3_kindAbove_43 : decode cX3_kindAbove 43 = .ok (.ireturn, 1) := by decide +kernel
theorem dX3_kindAbove_44 : decode cX3_kindAbove 44 = .ok (.iconst 3, 1) := by decide +kernel
theorem dX3_kindAbove_45 : decode cX3_kindAbove 45 = .ok (.ireturn, 1) := by decide +kernel
theorem dX3_kindAbove_46 : decode cX3_kindAbove 46 = .ok (.iconst 1, 1) := by decide +kernel
theorem dX3_kindAbove_47 : decode cX3_kindAbove 47 = .ok (.ireturn, 1) := by decide +kernel
theorem dX3_kindAbove_48 : decode cX3_kindAbove 48 = .ok (.iconst (-1), 1) := by decide +kernel
theorem dX3_kindAbove_49 : decode cX3_kindAbove 49 = .ok (.ireturn, 1) := by decide +kernel
theorem dX3_isUnder_0 : decode cX3_isUnder 0 = .ok (.iload_n 0, 1) := by decide +kernel
theorem dX3_isUnder_1 : decode cX3_isUnder 1 = .ok (.istore_n 2, 1) := by decide +kernel
theorem dX3_isUnder_2 : decode cX3_isUnder 2 = .ok (.iconst 0, 1) := by decide +kernel
theorem dX3_isUnder_3 : decode cX3_isUnder 3 = .ok (.istore_n 3, 1) := by decide +kernel
theorem dX3_isUnder_4 : decode cX3_isUnder 4 = .ok (.iload_n 3, 1) := by decide +kernel
theorem dX3_isUnder_5 : decode cX3_isUnder 5 = .ok (.bipush 7, 2) := by decide +kernel
theorem dX3_isUnder_7 : decode cX3_isUnder 7 = .ok (.if_icmp .ge 23, 3) := by decide +kernel
theorem dX3_isUnder_10 : decode cX3_isUnder 10 = .ok (.iload_n 2, 1) := by decide +kernel
theorem dX3_isUnder_11 : decode cX3_isUnder 11 = .ok (.iload_n 1, 1) := by decide +kernel
theorem dX3_isUnder_12 : decode cX3_isUnder 12 = .ok (.if_icmp .eq 18, 3) := by decide +kernel
theorem dX3_isUnder_15 : decode cX3_isUnder 15 = .ok (.iload_n 2, 1) := by decide +kernel
theorem dX3_isUnder_16 : decode cX3_isUnder 16 = .ok (.ifCond .lt 14, 3) := by decide +kernel
theorem dX3_isUnder_19 : decode cX3_isUnder 19 = .ok (.iload_n 2, 1) := by decide +kernel
theorem dX3_isUnder_20 : decode cX3_isUnder 20 = .ok (.invokestatic 229, 3) := by decide +kernel
theorem dX3_isUnder_23 : decode cX3_isUnder 23 = .ok (.istore_n 2, 1) := by decide +kernel
theorem dX3_isUnder_24 : decode cX3_isUnder 24 = .ok (.iinc 3 1, 3) := by decide +kernel
theorem dX3_isUnder_27 : decode cX3_isUnder 27 = .ok (.goto (-23), 3) := by decide +kernel
theorem dX3_isUnder_30 : decode cX3_isUnder 30 = .ok (.iload_n 2, 1) := by decide +kernel
theorem dX3_isUnder_31 : decode cX3_isUnder 31 = .ok (.iload_n 1, 1) := by decide +kernel
theorem dX3_isUnder_32 : decode cX3_isUnder 32 = .ok (.if_icmp .ne 7, 3) := by decide +kernel
theorem dX3_isUnder_35 : decode cX3_isUnder 35 = .ok (.iconst 1, 1) := by decide +kernel
theorem dX3_isUnder_36 : decode cX3_isUnder 36 = .ok (.goto 4, 3) := by decide +kernel
theorem dX3_isUnder_39 : decode cX3_isUnder 39 = .ok (.iconst 0, 1) := by decide +kernel
theorem dX3_isUnder_40 : decode cX3_isUnder 40 = .ok (.ireturn, 1) := by decide +kernel
end
section
theorem dX4_no_0 : decode cX4_no 0 = .ok (.aload_n 0, 1) := by decide +kernel
theorem dX4_no_1 : decode cX4_no 1 = .ok (.getfield 19, 3) := by decide +kernel
theorem dX4_no_4 : decode cX4_no 4 = .ok (.iload_n 1, 1) := by decide +kernel
theorem dX4_no_5 : decode cX4_no 5 = .ok (.dup2, 1) := by decide +kernel
theorem dX4_no_6 : decode cX4_no 6 = .ok (.iaload, 1) := by decide +kernel
theorem dX4_no_7 : decode cX4_no 7 = .ok (.iconst 1, 1) := by decide +kernel
theorem dX4_no_8 : decode cX4_no 8 = .ok (.iadd, 1) := by decide +kernel
theorem dX4_no_9 : decode cX4_no 9 = .ok (.iastore, 1) := by decide +kernel
theorem dX4_no_10 : decode cX4_no 10 = .ok (.ldc 60, 2) := by decide +kernel
theorem dX4_no_12 : decode cX4_no 12 = .ok (.iload_n 1, 1) := by decide +kernel
theorem dX4_no_13 : decode cX4_no 13 = .ok (.isub, 1) := by decide +kernel
theorem dX4_no_14 : decode cX4_no 14 = .ok (.ireturn, 1) := by decide +kernel
theorem dX4_in1_0 : decode cX4_in1 0 = .ok (.iload_n 0, 1) := by decide +kernel
theorem dX4_in1_1 : decode cX4_in1 1 = .ok (.iload_n 1, 1) := by decide +kernel
theorem dX4_in1_2 : decode cX4_in1 2 = .ok (.if_icmp .lt 12, 3) := by decide +kernel
theorem dX4_in1_5 : decode cX4_in1 5 = .ok (.iload_n 0, 1) := by decide +kernel
theorem dX4_in1_6 : decode cX4_in1 6 = .ok (.iload_n 2, 1) := by decide +kernel
theorem dX4_in1_7 : decode cX4_in1 7 = .ok (.if_icmp .gt 7, 3) := by decide +kernel
theorem dX4_in1_10 : decode cX4_in1 10 = .ok (.iconst 1, 1) := by decide +kernel
theorem dX4_in1_11 : decode cX4_in1 11 = .ok (.goto 4, 3) := by decide +kernel
theorem dX4_in1_14 : decode cX4_in1 14 = .ok (.iconst 0, 1) := by decide +kernel
theorem dX4_in1_15 : decode cX4_in1 15 = .ok (.ireturn, 1) := by decide +kernel
theorem dX4_less_0 : decode cX4_less 0 = .ok (.iload_n 0, 1) := by decide +kernel
theorem dX4_less_1 : decode cX4_less 1 = .ok (.iload_n 1, 1) := by decide +kernel
theorem dX4_less_2 : decode cX4_less 2 = .ok (.if_icmp .ge 7, 3) := by decide +kernel
theorem dX4_less_5 : decode cX4_less 5 = .ok (.iload_n 0, 1) := by decide +kernel
theorem dX4_less_6 : decode cX4_less 6 = .ok (.goto 4, 3) := by decide +kernel
theorem dX4_less_9 : decode cX4_less 9 = .ok (.iload_n 1, 1) := by decide +kernel
theorem dX4_less_10 : decode cX4_less 10 = .ok (.ireturn, 1) := by decide +kernel
theorem dX4_bits_0 : decode cX4_bits 0 = .ok (.iconst 0, 1) := by decide +kernel
theorem dX4_bits_1 : decode cX4_bits 1 = .ok (.istore_n 1, 1) := by decide +kernel
theorem dX4_bits_2 : decode cX4_bits 2 = .ok (.iload_n 0, 1) := by decide +kernel
theorem dX4_bits_3 : decode cX4_bits 3 = .ok (.istore_n 2, 1) := by decide +kernel
theorem dX4_bits_4 : decode cX4_bits 4 = .ok (.iload_n 2, 1) := by decide +kernel
theorem dX4_bits_5 : decode cX4_bits 5 = .ok (.ifCond .eq 15, 3) := by decide +kernel
theorem dX4_bits_8 : decode cX4_bits 8 = .ok (.iinc 1 1, 3) := by decide +kernel
theorem dX4_bits_11 : decode cX4_bits 11 = .ok (.iload_n 2, 1) := by decide +kernel
theorem dX4_bits_12 : decode cX4_bits 12 = .ok (.iload_n 2, 1) := by decide +kernel
theorem dX4_bits_13 : decode cX4_bits 13 = .ok (.iconst 1, 1) := by decide +kernel
theorem dX4_bits_14 : decode cX4_bits 14 = .ok (.isub, 1) := by decide +kernel
theorem dX4_bits_15 : decode cX4_bits 15 = .ok (.iand, 1) := by decide +kernel
theorem dX4_bits_16 : decode cX4_bits 16 = .ok (.istore_n 2, 1) := by decide +kernel
theorem dX4_bits_17 : decode cX4_bits 17 = .ok (.goto (-13), 3) := by decide +kernel
theorem dX4_bits_20 : decode cX4_bits 20 = .ok (.iload_n 1, 1) := by decide +kernel
theorem dX4_bits_21 : decode cX4_bits 21 = .ok (.ireturn, 1) := by decide +kernel
theorem dX4_isLot_0 : decode cX4_isLot 0 = .ok (.iload_n 0, 1) := by decide +kernel
theorem dX4_isLot_1 : decode cX4_isLot 1 = .ok (.iconst 0, 1) := by decide +kernel
theorem dX4_isLot_2 : decode cX4_isLot 2 = .ok (.bipush 9, 2) := by decide +kernel
theorem dX4_isLot_4 : decode cX4_isLot 4 = .ok (.invokestatic 61, 3) := by decide +kernel
theorem dX4_isLot_7 : decode cX4_isLot 7 = .ok (.ireturn, 1) := by decide +kernel
theorem dX4_isPerson_0 : decode cX4_isPerson 0 = .ok (.iload_n 1, 1) := by decide +kernel
theorem dX4_isPerson_1 : decode cX4_isPerson 1 = .ok (.iconst 0, 1) := by decide +kernel
theorem dX4_isPerson_2 : decode cX4_isPerson 2 = .ok (.aload_n 0, 1) := by decide +kernel
theorem dX4_isPerson_3 : decode cX4_isPerson 3 = .ok (.getfield 9, 3) := by decide +kernel
theorem dX4_isPerson_6 : decode cX4_isPerson 6 = .ok (.iconst 1, 1) := by decide +kernel
theorem dX4_isPerson_7 : decode cX4_isPerson 7 = .ok (.iaload, 1) := by decide +kernel
theorem dX4_isPerson_8 : decode cX4_isPerson 8 = .ok (.iconst 1, 1) := by decide +kernel
theorem dX4_isPerson_9 : decode cX4_isPerson 9 = .ok (.isub, 1) := by decide +kernel
theorem dX4_isPerson_10 : decode cX4_isPerson 10 = .ok (.invokestatic 61, 3) := by decide +kernel
theorem dX4_isPerson_13 : decode cX4_isPerson 13 = .ok (.ireturn, 1) := by decide +kernel
theorem dX4_of1_0 : decode cX4_of1 0 = .ok (.aload_n 0, 1) := by decide +kernel
theorem dX4_of1_1 : decode cX4_of1 1 = .ok (.getfield 9, 3) := by decide +kernel
theorem dX4_of1_4 : decode cX4_of1 4 = .ok (.bipush 10, 2) := by decide +kernel
theorem dX4_of1_6 : decode cX4_of1 6 = .ok (.iconst 3, 1) := by decide +kernel
theorem dX4_of1_7 : decode cX4_of1 7 = .ok (.iload_n 1, 1) := by decide +kernel
theorem dX4_of1_8 : decode cX4_of1 8 = .ok (.imul, 1) := by decide +kernel
theorem dX4_of1_9 : decode cX4_of1 9 = .ok (.iadd, 1) := by decide +kernel
theorem dX4_of1_10 : decode cX4_of1 10 = .ok (.iload_n 2, 1) := by decide +kernel
theorem dX4_of1_11 : decode cX4_of1 11 = .ok (.iadd, 1) := by decide +kernel
theorem dX4_of1_12 : decode cX4_of1 12 = .ok (.iaload, 1) := by decide +kernel
theorem dX4_of1_13 : decode cX4_of1 13 = .ok (.ireturn, 1) := by decide +kernel
theorem dX4_lays1_0 : decode cX4_lays1 0 = .ok (.aload_n 0, 1) := by decide +kernel
theorem dX4_lays1_1 : decode cX4_lays1 1 = .ok (.getfield 9, 3) := by decide +kernel
theorem dX4_lays1_4 : decode cX4_lays1 4 = .ok (.bipush 10, 2) := by decide +kernel
theorem dX4_lays1_6 : decode cX4_lays1 6 = .ok (.iconst 3, 1) := by decide +kernel
theorem dX4_lays1_7 : decode cX4_lays1 7 = .ok (.iload_n 1, 1) := by decide +kernel
theorem dX4_lays1_8 : decode cX4_lays1 8 = .ok (.imul, 1) := by decide +kernel
theorem dX4_lays1_9 : decode cX4_lays1 9 = .ok (.iadd, 1) := by decide +kernel
theorem dX4_lays1_10 : decode cX4_lays1 10 = .ok (.iload_n 2, 1) := by decide +kernel
theorem dX4_lays1_11 : decode cX4_lays1 11 = .ok (.iadd, 1) := by decide +kernel
theorem dX4_lays1_12 : decode cX4_lays1 12 = .ok (.iload_n 3, 1) := by decide +kernel
theorem dX4_lays1_13 : decode cX4_lays1 13 = .ok (.iastore, 1) := by decide +kernel
theorem dX4_lays1_14 : decode cX4_lays1 14 = .ok (.return_, 1) := by decide +kernel
theorem dX4_get_0 : decode cX4_get 0 = .ok (.aload_n 0, 1) := by decide +kernel
theorem dX4_get_1 : decode cX4_get 1 = .ok (.getfield 9, 3) := by decide +kernel
theorem dX4_get_4 : decode cX4_get 4 = .ok (.bipush 40, 2) := by decide +kernel
theorem dX4_get_6 : decode cX4_get 6 = .ok (.iconst 5, 1) := by decide +kernel
theorem dX4_get_7 : decode cX4_get 7 = .ok (.iload_n 1, 1) := by decide +kernel
theorem dX4_get_8 : decode cX4_get 8 = .ok (.imul, 1) := by decide +kernel
theorem dX4_get_9 : decode cX4_get 9 = .ok (.iadd, 1) := by decide +kernel
theorem dX4_get_10 : decode cX4_get 10 = .ok (.iload_n 2, 1) := by decide +kernel
theorem dX4_get_11 : decode cX4_get 11 = .ok (.iadd, 1) := by decide +kernel
theorem dX4_get_12 : decode cX4_get 12 = .ok (.iaload, 1) := by decide +kernel
theorem dX4_get_13 : decode cX4_get 13 = .ok (.ireturn, 1) := by decide +kernel
theorem dX4_puts_0 : decode cX4_puts 0 = .ok (.aload_n 0, 1) := by decide +kernel
theorem dX4_puts_1 : decode cX4_puts 1 = .ok (.getfield 9, 3) := by decide +kernel
theorem dX4_puts_4 : decode cX4_puts 4 = .ok (.bipush 40, 2) := by decide +kernel
theorem dX4_puts_6 : decode cX4_puts 6 = .ok (.iconst 5, 1) := by decide +kernel
theorem dX4_puts_7 : decode cX4_puts 7 = .ok (.iload_n 1, 1) := by decide +kernel
theorem dX4_puts_8 : decode cX4_puts 8 = .ok (.imul, 1) := by decide +kernel
theorem dX4_puts_9 : decode cX4_puts 9 = .ok (.iadd, 1) := by decide +kernel
theorem dX4_puts_10 : decode cX4_puts 10 = .ok (.iload_n 2, 1) := by decide +kernel
theorem dX4_puts_11 : decode cX4_puts 11 = .ok (.iadd, 1) := by decide +kernel
theorem dX4_puts_12 : decode cX4_puts 12 = .ok (.iload_n 3, 1) := by decide +kernel
theorem dX4_puts_13 : decode cX4_puts 13 = .ok (.iastore, 1) := by decide +kernel
theorem dX4_puts_14 : decode cX4_puts 14 = .ok (.return_, 1) := by decide +kernel
theorem dX4_setsAside_0 : decode cX4_setsAside 0 = .ok (.iconst 0, 1) := by decide +kernel
theorem dX4_setsAside_1 : decode cX4_setsAside 1 = .ok (.istore_n 1, 1) := by decide +kernel
theorem dX4_setsAside_2 : decode cX4_setsAside 2 = .ok (.iload_n 1, 1) := by decide +kernel
theorem dX4_setsAside_3 : decode cX4_setsAside 3 = .ok (.bipush 90, 2) := by decide +kernel
theorem dX4_setsAside_5 : decode cX4_setsAside 5 = .ok (.if_icmp .ge 21, 3) := by decide +kernel
theorem dX4_setsAside_8 : decode cX4_setsAside 8 = .ok (.aload_n 0, 1) := by decide +kernel
theorem dX4_setsAside_9 : decode cX4_setsAside 9 = .ok (.getfield 16, 3) := by decide +kernel
theorem dX4_setsAside_12 : decode cX4_setsAside 12 = .ok (.iload_n 1, 1) := by decide +kernel
theorem dX4_setsAside_13 : decode cX4_setsAside 13 = .ok (.aload_n 0, 1) := by decide +kernel
theorem dX4_setsAside_14 : decode cX4_setsAside 14 = .ok (.getfield 9, 3) := by decide +kernel
theorem dX4_setsAside_17 : decode cX4_setsAside 17 = .ok (.iload_n 1, 1) := by decide +kernel
theorem dX4_setsAside_18 : decode cX4_setsAside 18 = .ok (.iaload, 1) := by decide +kernel
theorem dX4_setsAside_19 : decode cX4_setsAside 19 = .ok (.iastore, 1) := by decide +kernel
theorem dX4_setsAside_20 : decode cX4_setsAside 20 = .ok (.iinc 1 1, 3) := by decide +kernel
theorem dX4_setsAside_23 : decode cX4_setsAside 23 = .ok (.goto (-21), 3) := by decide +kernel
theorem dX4_setsAside_26 : decode cX4_setsAside 26 = .ok (.return_, 1) := by decide +kernel
theorem dX4_laysBack_0 : decode cX4_laysBack 0 = .ok (.iconst 0, 1) := by decide +kernel
theorem dX4_laysBack_1 : decode cX4_laysBack 1 = .ok (.istore_n 1, 1) := by decide +kernel
theorem dX4_laysBack_2 : decode cX4_laysBack 2 = .ok (.iload_n 1, 1) := by decide +kernel
theorem dX4_laysBack_3 : decode cX4_laysBack 3 = .ok (.bipush 90, 2) := by decide +kernel
theorem dX4_laysBack_5 : decode cX4_laysBack 5 = .ok (.if_icmp .ge 21, 3) := by decide +kernel
theorem dX4_laysBack_8 : decode cX4_laysBack 8 = .ok (.aload_n 0, 1) := by decide +kernel
theorem dX4_laysBack_9 : decode cX4_laysBack 9 = .ok (.getfield 9, 3) := by decide +kernel
theorem dX4_laysBack_12 : decode cX4_laysBack 12 = .ok (.iload_n 1, 1) := by decide +kernel
theorem dX4_laysBack_13 : decode cX4_laysBack 13 = .ok (.aload_n 0, 1) := by decide +kernel
theorem dX4_laysBack_14 : decode cX4_laysBack 14 = .ok (.getfield 16, 3) := by decide +kernel
theorem dX4_laysBack_17 : decode cX4_laysBack 17 = .ok (.iload_n 1, 1) := by decide +kernel
theorem dX4_laysBack_18 : decode cX4_laysBack 18 = .ok (.iaload, 1) := by decide +kernel
theorem dX4_laysBack_19 : decode cX4_laysBack 19 = .ok (.iastore, 1) := by decide +kernel
theorem dX4_laysBack_20 : decode cX4_laysBack 20 = .ok (.iinc 1 1, 3) := by decide +kernel
theorem dX4_laysBack_23 : decode cX4_laysBack 23 = .ok (.goto (-21), 3) := by decide +kernel
theorem dX4_laysBack_26 : decode cX4_laysBack 26 = .ok (.return_, 1) := by decide +kernel
theorem dX4_whoIsOn_0 : decode cX4_whoIsOn 0 = .ok (.iconst 0, 1) := by decide +kernel
theorem dX4_whoIsOn_1 : decode cX4_whoIsOn 1 = .ok (.istore_n 2, 1) := by decide +kernel
theorem dX4_whoIsOn_2 : decode cX4_whoIsOn 2 = .ok (.iconst 0, 1) := by decide +kernel
theorem dX4_whoIsOn_3 : decode cX4_whoIsOn 3 = .ok (.istore_n 3, 1) := by decide +kernel
theorem dX4_whoIsOn_4 : decode cX4_whoIsOn 4 = .ok (.iload_n 3, 1) := by decide +kernel
theorem dX4_whoIsOn_5 : decode cX4_whoIsOn 5 = .ok (.aload_n 0, 1) := by decide +kernel
theorem dX4_whoIsOn_6 : decode cX4_whoIsOn 6 = .ok (.getfield 9, 3) := by decide +kernel
theorem dX4_whoIsOn_9 : decode cX4_whoIsOn 9 = .ok (.iconst 1, 1) := by decide +kernel
theorem dX4_whoIsOn_10 : decode cX4_whoIsOn 10 = .ok (.iaload, 1) := by decide +kernel
theorem dX4_whoIsOn_11 : decode cX4_whoIsOn 11 = .ok (.if_icmp .ge 29, 3) := by decide +kernel
theorem dX4_whoIsOn_14 : decode cX4_whoIsOn 14 = .ok (.iload_n 2, 1) := by decide +kernel
theorem dX4_whoIsOn_15 : decode cX4_whoIsOn 15 = .ok (.aload_n 0, 1) := by decide +kernel
theorem dX4_whoIsOn_16 : decode cX4_whoIsOn 16 = .ok (.iload_n 3, 1) := by decide +kernel
theorem dX4_whoIsOn_17 : decode cX4_whoIsOn 17 = .ok (.iconst 1, 1) := by decide +kernel
theorem dX4_whoIsOn_18 : decode cX4_whoIsOn 18 = .ok (.invokevirtual 65, 3) := by decide +kernel
theorem dX4_whoIsOn_21 : decode cX4_whoIsOn 21 = .ok (.iload_n 1, 1) := by decide +kernel
theorem dX4_whoIsOn_22 : decode cX4_whoIsOn 22 = .ok (.if_icmp .ne 9, 3) := by decide +kernel
theorem dX4_whoIsOn_25 : decode cX4_whoIsOn 25 = .ok (.iconst 1, 1) := by decide +kernel
theorem dX4_whoIsOn_26 : decode cX4_whoIsOn 26 = .ok (.iload_n 3, 1) := by decide +kernel
theorem dX4_whoIsOn_27 : decode cX4_whoIsOn 27 = .ok (.ishl, 1) := by decide +kernel
theorem dX4_whoIsOn_28 : decode cX4_whoIsOn 28 = .ok (.goto 4, 3) := by decide +kernel
theorem dX4_whoIsOn_31 : decode cX4_whoIsOn 31 = .ok (.iconst 0, 1) := by decide +kernel
theorem dX4_whoIsOn_32 : decode cX4_whoIsOn 32 = .ok (.ior, 1) := by decide +kernel
theorem dX4_whoIsOn_33 : decode cX4_whoIsOn 33 = .ok (.istore_n 2, 1) := by decide +kernel
theorem dX4_whoIsOn_34 : decode cX4_whoIsOn 34 = .ok (.iinc 3 1, 3) := by decide +kernel
theorem dX4_whoIsOn_37 : decode cX4_whoIsOn 37 = .ok (.goto (-33), 3) := by decide +kernel
theorem dX4_whoIsOn_40 : decode cX4_whoIsOn 40 = .ok (.iload_n 2, 1) := by decide +kernel
theorem dX4_whoIsOn_41 : decode cX4_whoIsOn 41 = .ok (.ireturn, 1) := by decide +kernel
theorem dX4_onLots_0 : decode cX4_onLots 0 = .ok (.iconst 1, 1) := by decide +kernel
theorem dX4_onLots_1 : decode cX4_onLots 1 = .ok (.aload_n 0, 1) := by decide +kernel
theorem dX4_onLots_2 : decode cX4_onLots 2 = .ok (.getfield 9, 3) := by decide +kernel
theorem dX4_onLots_5 : decode cX4_onLots 5 = .ok (.iconst 1, 1) := by decide +kernel
theorem dX4_onLots_6 : decode cX4_onLots 6 = .ok (.iaload, 1) := by decide +kernel
theorem dX4_onLots_7 : decode cX4_onLots 7 = .ok (.ishl, 1) := by decide +kernel
theorem dX4_onLots_8 : decode cX4_onLots 8 = .ok (.iconst 1, 1) := by decide +kernel
theorem dX4_onLots_9 : decode cX4_onLots 9 = .ok (.isub, 1) := by decide +kernel
theorem dX4_onLots_10 : decode cX4_onLots 10 = .ok (.aload_n 0, 1) := by decide +kernel
theorem dX4_onLots_11 : decode cX4_onLots 11 = .ok (.iconst (-1), 1) := by decide +kernel
theorem dX4_onLots_12 : decode cX4_onLots 12 = .ok (.invokevirtual 69, 3) := by decide +kernel
theorem dX4_onLots_15 : decode cX4_onLots 15 = .ok (.iconst (-1), 1) := by decide +kernel
theorem dX4_onLots_16 : decode cX4_onLots 16 = .ok (.ixor, 1) := by decide +kernel
theorem dX4_onLots_17 : decode cX4_onLots 17 = .ok (.iand, 1) := by decide +kernel
theorem dX4_onLots_18 : decode cX4_onLots 18 = .ok (.ireturn, 1) := by decide +kernel
theorem dX4_sumOf_0 : decode cX4_sumOf 0 = .ok (.iconst 0, 1) := by decide +kernel
theorem dX4_sumOf_1 : decode cX4_sumOf 1 = .ok (.istore_n 2, 1) := by decide +kernel
theorem dX4_sumOf_2 : decode cX4_sumOf 2 = .ok (.iconst 0, 1) := by decide +kernel
theorem dX4_sumOf_3 : decode cX4_sumOf 3 = .ok (.istore_n 3, 1) := by decide +kernel
theorem dX4_sumOf_4 : decode cX4_sumOf 4 = .ok (.iload_n 3, 1) := by decide +kernel
theorem dX4_sumOf_5 : decode cX4_sumOf 5 = .ok (.aload_n 0, 1) := by decide +kernel
theorem dX4_sumOf_6 : decode cX4_sumOf 6 = .ok (.getfield 9, 3) := by decide +kernel
theorem dX4_sumOf_9 : decode cX4_sumOf 9 = .ok (.iconst 1, 1) := by decide +kernel
theorem dX4_sumOf_10 : decode cX4_sumOf 10 = .ok (.iaload, 1) := by decide +kernel
theorem dX4_sumOf_11 : decode cX4_sumOf 11 = .ok (.if_icmp .ge 18, 3) := by decide +kernel
theorem dX4_sumOf_14 : decode cX4_sumOf 14 = .ok (.iload_n 2, 1) := by decide +kernel
theorem dX4_sumOf_15 : decode cX4_sumOf 15 = .ok (.aload_n 0, 1) := by decide +kernel
theorem dX4_sumOf_16 : decode cX4_sumOf 16 = .ok (.iload_n 3, 1) := by decide +kernel
theorem dX4_sumOf_17 : decode cX4_sumOf 17 = .ok (.iload_n 1, 1) := by decide +kernel
theorem dX4_sumOf_18 : decode cX4_sumOf 18 = .ok (.invokevirtual 65, 3) := by decide +kernel
theorem dX4_sumOf_21 : decode cX4_sumOf 21 = .ok (.iadd, 1) := by decide +kernel
theorem dX4_sumOf_22 : decode cX4_sumOf 22 = .ok (.istore_n 2, 1) := by decide +kernel
theorem dX4_sumOf_23 : decode cX4_sumOf 23 = .ok (.iinc 3 1, 3) := by decide +kernel
theorem dX4_sumOf_26 : decode cX4_sumOf 26 = .ok (.goto (-22), 3) := by decide +kernel
theorem dX4_sumOf_29 : decode cX4_sumOf 29 = .ok (.iload_n 2, 1) := by decide +kernel
theorem dX4_sumOf_30 : decode cX4_sumOf 30 = .ok (.ireturn, 1) := by decide +kernel
theorem dX4_trustOf_0 : decode cX4_trustOf 0 = .ok (.aload_n 0, 1) := by decide +kernel
theorem dX4_trustOf_1 : decode cX4_trustOf 1 = .ok (.iload_n 1, 1) := by decide +kernel
theorem dX4_trustOf_2 : decode cX4_trustOf 2 = .ok (.iconst 2, 1) := by decide +kernel
theorem dX4_trustOf_3 : decode cX4_trustOf 3 = .ok (.invokevirtual 65, 3) := by decide +kernel
theorem dX4_trustOf_6 : decode cX4_trustOf 6 = .ok (.iconst 2, 1) := by decide +kernel
theorem dX4_trustOf_7 : decode cX4_trustOf 7 = .ok (.idiv, 1) := by decide +kernel
theorem dX4_trustOf_8 : decode cX4_trustOf 8 = .ok (.istore_n 3, 1) := by decide +kernel
theorem dX4_trustOf_9 : decode cX4_trustOf 9 = .ok (.iload_n 3, 1) := by decide +kernel
theorem dX4_trustOf_10 : decode cX4_trustOf 10 = .ok (.bipush 10, 2) := by decide +kernel
theorem dX4_trustOf_12 : decode cX4_trustOf 12 = .ok (.if_icmp .ge 7, 3) := by decide +kernel
theorem dX4_trustOf_15 : decode cX4_trustOf 15 = .ok (.iconst 0, 1) := by decide +kernel
theorem dX4_trustOf_16 : decode cX4_trustOf 16 = .ok (.goto 7, 3) := by decide +kernel
theorem dX4_trustOf_19 : decode cX4_trustOf 19 = .ok (.iload_n 3, 1) := by decide +kernel
theorem dX4_trustOf_20 : decode cX4_trustOf 20 = .ok (.bipush 10, 2) := by decide +kernel
theorem dX4_trustOf_22 : decode cX4_trustOf 22 = .ok (.isub, 1) := by decide +kernel
theorem dX4_trustOf_23 : decode cX4_trustOf 23 = .ok (.istore 4, 2) := by decide +kernel
theorem dX4_trustOf_25 : decode cX4_trustOf 25 = .ok (.aload_n 0, 1) := by decide +kernel
theorem dX4_trustOf_26 : decode cX4_trustOf 26 = .ok (.iload_n 1, 1) := by decide +kernel
theorem dX4_trustOf_27 : decode cX4_trustOf 27 = .ok (.iconst 0, 1) := by decide +kernel
theorem dX4_trustOf_28 : decode cX4_trustOf 28 = .ok (.invokevirtual 65, 3) := by decide +kernel
theorem dX4_trustOf_31 : decode cX4_trustOf 31 = .ok (.tableswitch 92 1 6 #[37, 42, 45, 65, 68, 70], 37) := by decide +kernel
theorem dX4_trustOf_68 : decode cX4_trustOf 68 = .ok (.iload_n 3, 1) := by decide +kernel
theorem dX4_trustOf_69 : decode cX4_trustOf 69 = .ok (.bipush 20, 2) := by decide +kernel
theorem dX4_trustOf_71 : decode cX4_trustOf 71 = .ok (.iadd, 1) := by decide +kernel
theorem dX4_trustOf_72 : decode cX4_trustOf 72 = .ok (.ireturn, 1) := by decide +kernel
theorem dX4_trustOf_73 : decode cX4_trustOf 73 = .ok (.iload 4, 2) := by decide +kernel
theorem dX4_trustOf_75 : decode cX4_trustOf 75 = .ok (.ireturn, 1) := by decide +kernel
theorem dX4_trustOf_76 : decode cX4_trustOf 76 = .ok (.iload 4, 2) := by decide +kernel
theorem dX4_trustOf_78 : decode cX4_trustOf 78 = .ok (.aload_n 0, 1) := by decide +kernel
theorem dX4_trustOf_79 : decode cX4_trustOf 79 = .ok (.iload_n 2, 1) := by decide +kernel
theorem dX4_trustOf_80 : decode cX4_trustOf 80 = .ok (.iconst 2, 1) := by decide +kernel
theorem dX4_trustOf_81 : decode cX4_trustOf 81 = .ok (.invokevirtual 73, 3) := by decide +kernel
theorem dX4_trustOf_84 : decode cX4_trustOf 84 = .ok (.iload_n 1, 1) := by decide +kernel
theorem dX4_trustOf_85 : decode cX4_trustOf 85 = .ok (.if_icmp .ne 8, 3) := by decide +kernel
theorem dX4_trustOf_88 : decode cX4_trustOf 88 = .ok (.bipush 30, 2) := by decide +kernel
theorem dX4_trustOf_90 : decode cX4_trustOf 90 = .ok (.goto 4, 3) := by decide +kernel
theorem dX4_trustOf_93 : decode cX4_trustOf 93 = .ok (.iconst 0, 1) := by decide +kernel
theorem dX4_trustOf_94 : decode cX4_trustOf 94 = .ok (.iadd, 1) := by decide +kernel
theorem dX4_trustOf_95 : decode cX4_trustOf 95 = .ok (.ireturn, 1) := by decide +kernel
theorem dX4_trustOf_96 : decode cX4_trustOf 96 = .ok (.bipush 60, 2) := by decide +kernel
theorem dX4_trustOf_98 : decode cX4_trustOf 98 = .ok (.ireturn, 1) := by decide +kernel
theorem dX4_trustOf_99 : decode cX4_trustOf 99 = .ok (.iconst 0, 1) := by decide +kernel
theorem dX4_trustOf_100 : decode cX4_trustOf 100 = .ok (.ireturn, 1) := by decide +kernel
theorem dX4_trustOf_101 : decode cX4_trustOf 101 = .ok (.iload_n 3, 1) := by decide +kernel
theorem dX4_trustOf_102 : decode cX4_trustOf 102 = .ok (.bipush 20, 2) := by decide +kernel
theorem dX4_trustOf_104 : decode cX4_trustOf 104 = .ok (.iadd, 1) := by decide +kernel
theorem dX4_trustOf_105 : decode cX4_trustOf 105 = .ok (.iconst 2, 1) := by decide +kernel
theorem dX4_trustOf_106 : decode cX4_trustOf 106 = .ok (.aload_n 0, 1) := by decide +kernel
theorem dX4_trustOf_107 : decode cX4_trustOf 107 = .ok (.iload_n 2, 1) := by decide +kernel
theorem dX4_trustOf_108 : decode cX4_trustOf 108 = .ok (.invokevirtual 69, 3) := by decide +kernel
theorem dX4_trustOf_111 : decode cX4_trustOf 111 = .ok (.iconst 1, 1) := by decide +kernel
theorem dX4_trustOf_112 : decode cX4_trustOf 112 = .ok (.iload_n 1, 1) := by decide +kernel
theorem dX4_trustOf_113 : decode cX4_trustOf 113 = .ok (.ishl, 1) := by decide +kernel
theorem dX4_trustOf_114 : decode cX4_trustOf 114 = .ok (.iconst (-1), 1) := by decide +kernel
theorem dX4_trustOf_115 : decode cX4_trustOf 115 = .ok (.ixor, 1) := by decide +kernel
theorem dX4_trustOf_116 : decode cX4_trustOf 116 = .ok (.iand, 1) := by decide +kernel
theorem dX4_trustOf_117 : decode cX4_trustOf 117 = .ok (.invokestatic 76, 3) := by decide +kernel
theorem dX4_trustOf_120 : decode cX4_trustOf 120 = .ok (.imul, 1) := by decide +kernel
theorem dX4_trustOf_121 : decode cX4_trustOf 121 = .ok (.iadd, 1) := by decide +kernel
theorem dX4_trustOf_122 : decode cX4_trustOf 122 = .ok (.ireturn, 1) := by decide +kernel
theorem dX4_trustOf_123 : decode cX4_trustOf 123 = .ok (.iload_n 3, 1) := by decide +kernel
theorem dX4_trustOf_124 : decode cX4_trustOf 124 = .ok (.ireturn, 1) := by decide +kernel
theorem dX4_stands_0 : decode cX4_stands 0 = .ok (.aload_n 0, 1) := by decide +kernel
theorem dX4_stands_1 : decode cX4_stands 1 = .ok (.iload_n 2, 1) := by decide +kernel
theorem dX4_stands_2 : decode cX4_stands 2 = .ok (.iconst 0, 1) := by decide +kernel
theorem dX4_stands_3 : decode cX4_stands 3 = .ok (.invokevirtual 73, 3) := by decide +kernel
theorem dX4_stands_6 : decode cX4_stands 6 = .ok (.aload_n 0, 1) := by decide +kernel
theorem dX4_stands_7 : decode cX4_stands 7 = .ok (.iload_n 1, 1) := by decide +kernel
theorem dX4_stands_8 : decode cX4_stands 8 = .ok (.iload_n 2, 1) := by decide +kernel
theorem dX4_stands_9 : decode cX4_stands 9 = .ok (.invokevirtual 79, 3) := by decide +kernel
theorem dX4_stands_12 : decode cX4_stands 12 = .ok (.iadd, 1) := by decide +kernel
theorem dX4_stands_13 : decode cX4_stands 13 = .ok (.bipush 60, 2) := by decide +kernel
theorem dX4_stands_15 : decode cX4_stands 15 = .ok (.if_icmp .lt 7, 3) := by decide +kernel
theorem dX4_stands_18 : decode cX4_stands 18 = .ok (.iconst 1, 1) := by decide +kernel
theorem dX4_stands_19 : decode cX4_stands 19 = .ok (.goto 4, 3) := by decide +kernel
theorem dX4_stands_22 : decode cX4_stands 22 = .ok (.iconst 0, 1) := by decide +kernel
theorem dX4_stands_23 : decode cX4_stands 23 = .ok (.ireturn, 1) := by decide +kernel
theorem dX4_losesOf_0 : decode cX4_losesOf 0 = .ok (.aload_n 0, 1) := by decide +kernel
theorem dX4_losesOf_1 : decode cX4_losesOf 1 = .ok (.iload_n 1, 1) := by decide +kernel
theorem dX4_losesOf_2 : decode cX4_losesOf 2 = .ok (.iconst 0, 1) := by decide +kernel
theorem dX4_losesOf_3 : decode cX4_losesOf 3 = .ok (.invokevirtual 65, 3) := by decide +kernel
theorem dX4_losesOf_6 : decode cX4_losesOf 6 = .ok (.tableswitch 47 1 6 #[38, 47, 40, 42, 44, 38], 38) := by decide +kernel
theorem dX4_losesOf_44 : decode cX4_losesOf 44 = .ok (.iconst 2, 1) := by decide +kernel
theorem dX4_losesOf_45 : decode cX4_losesOf 45 = .ok (.ireturn, 1) := by decide +kernel
theorem dX4_losesOf_46 : decode cX4_losesOf 46 = .ok (.iconst 5, 1) := by decide +kernel
theorem dX4_losesOf_47 : decode cX4_losesOf 47 = .ok (.ireturn, 1) := by decide +kernel
theorem dX4_losesOf_48 : decode cX4_losesOf 48 = .ok (.iconst 0, 1) := by decide +kernel
theorem dX4_losesOf_49 : decode cX4_losesOf 49 = .ok (.ireturn, 1) := by decide +kernel
theorem dX4_losesOf_50 : decode cX4_losesOf 50 = .ok (.bipush 20, 2) := by decide +kernel
theorem dX4_losesOf_52 : decode cX4_losesOf 52 = .ok (.ireturn, 1) := by decide +kernel
theorem dX4_losesOf_53 : decode cX4_losesOf 53 = .ok (.bipush 10, 2) := by decide +kernel
theorem dX4_losesOf_55 : decode cX4_losesOf 55 = .ok (.ireturn, 1) := by decide +kernel
theorem dX4_isBetter_0 : decode cX4_isBetter 0 = .ok (.aload_n 0, 1) := by decide +kernel
theorem dX4_isBetter_1 : decode cX4_isBetter 1 = .ok (.iload_n 1, 1) := by decide +kernel
theorem dX4_isBetter_2 : decode cX4_isBetter 2 = .ok (.iconst 0, 1) := by decide +kernel
theorem dX4_isBetter_3 : decode cX4_isBetter 3 = .ok (.invokevirtual 65, 3) := by decide +kernel
theorem dX4_isBetter_6 : decode cX4_isBetter 6 = .ok (.istore 4, 2) := by decide +kernel
theorem dX4_isBetter_8 : decode cX4_isBetter 8 = .ok (.iload 4, 2) := by decide +kernel
theorem dX4_isBetter_10 : decode cX4_isBetter 10 = .ok (.iconst 1, 1) := by decide +kernel
theorem dX4_isBetter_11 : decode cX4_isBetter 11 = .ok (.if_icmp .le 13, 3) := by decide +kernel
theorem dX4_isBetter_14 : decode cX4_isBetter 14 = .ok (.iload 4, 2) := by decide +kernel
theorem dX4_isBetter_16 : decode cX4_isBetter 16 = .ok (.iconst 5, 1) := by decide +kernel
theorem dX4_isBetter_17 : decode cX4_isBetter 17 = .ok (.if_icmp .ge 7, 3) := by decide +kernel
theorem dX4_isBetter_20 : decode cX4_isBetter 20 = .ok (.iconst 1, 1) := by decide +kernel
theorem dX4_isBetter_21 : decode cX4_isBetter 21 = .ok (.goto 4, 3) := by decide +kernel
theorem dX4_isBetter_24 : decode cX4_isBetter 24 = .ok (.iconst 0, 1) := by decide +kernel
theorem dX4_isBetter_25 : decode cX4_isBetter 25 = .ok (.istore 5, 2) := by decide +kernel
theorem dX4_isBetter_27 : decode cX4_isBetter 27 = .ok (.iload_n 3, 1) := by decide +kernel
theorem dX4_isBetter_28 : decode cX4_isBetter 28 = .ok (.ifCond .lt 50, 3) := by decide +kernel
theorem dX4_isBetter_31 : decode cX4_isBetter 31 = .ok (.iload 5, 2) := by decide +kernel
theorem dX4_isBetter_33 : decode cX4_isBetter 33 = .ok (.ifCond .eq 18, 3) := by decide +kernel
theorem dX4_isBetter_36 : decode cX4_isBetter 36 = .ok (.aload_n 0, 1) := by decide +kernel
theorem dX4_isBetter_37 : decode cX4_isBetter 37 = .ok (.iload_n 2, 1) := by decide +kernel
theorem dX4_isBetter_38 : decode cX4_isBetter 38 = .ok (.iconst 1, 1) := by decide +kernel
theorem dX4_isBetter_39 : decode cX4_isBetter 39 = .ok (.invokevirtual 73, 3) := by decide +kernel
theorem dX4_isBetter_42 : decode cX4_isBetter 42 = .ok (.aload_n 0, 1) := by decide +kernel
theorem dX4_isBetter_43 : decode cX4_isBetter 43 = .ok (.iload_n 3, 1) := by decide +kernel
theorem dX4_isBetter_44 : decode cX4_isBetter 44 = .ok (.iconst 1, 1) := by decide +kernel
theorem dX4_isBetter_45 : decode cX4_isBetter 45 = .ok (.invokevirtual 73, 3) := by decide +kernel
theorem dX4_isBetter_48 : decode cX4_isBetter 48 = .ok (.if_icmp .lt 30, 3) := by decide +kernel
theorem dX4_isBetter_51 : decode cX4_isBetter 51 = .ok (.iload 5, 2) := by decide +kernel
theorem dX4_isBetter_53 : decode cX4_isBetter 53 = .ok (.ifCond .ne 29, 3) := by decide +kernel
theorem dX4_isBetter_56 : decode cX4_isBetter 56 = .ok (.iload 4, 2) := by decide +kernel
theorem dX4_isBetter_58 : decode cX4_isBetter 58 = .ok (.bipush 6, 2) := by decide +kernel
theorem dX4_isBetter_60 : decode cX4_isBetter 60 = .ok (.if_icmp .eq 22, 3) := by decide +kernel
theorem dX4_isBetter_63 : decode cX4_isBetter 63 = .ok (.aload_n 0, 1) := by decide +kernel
theorem dX4_isBetter_64 : decode cX4_isBetter 64 = .ok (.iload_n 2, 1) := by decide +kernel
theorem dX4_isBetter_65 : decode cX4_isBetter 65 = .ok (.iconst 0, 1) := by decide +kernel
theorem dX4_isBetter_66 : decode cX4_isBetter 66 = .ok (.invokevirtual 73, 3) := by decide +kernel
theorem dX4_isBetter_69 : decode cX4_isBetter 69 = .ok (.aload_n 0, 1) := by decide +kernel
theorem dX4_isBetter_70 : decode cX4_isBetter 70 = .ok (.iload_n 3, 1) := by decide +kernel
theorem dX4_isBetter_71 : decode cX4_isBetter 71 = .ok (.iconst 0, 1) := by decide +kernel
theorem dX4_isBetter_72 : decode cX4_isBetter 72 = .ok (.invokevirtual 73, 3) := by decide +kernel
theorem dX4_isBetter_75 : decode cX4_isBetter 75 = .ok (.if_icmp .le 7, 3) := by decide +kernel
theorem dX4_isBetter_78 : decode cX4_isBetter 78 = .ok (.iconst 1, 1) := by decide +kernel
theorem dX4_isBetter_79 : decode cX4_isBetter 79 = .ok (.goto 4, 3) := by decide +kernel
theorem dX4_isBetter_82 : decode cX4_isBetter 82 = .ok (.iconst 0, 1) := by decide +kernel
theorem dX4_isBetter_83 : decode cX4_isBetter 83 = .ok (.ireturn, 1) := by decide +kernel
theorem dX4_makesFor_0 : decode cX4_makesFor 0 = .ok (.iconst (-1), 1) := by decide +kernel
theorem dX4_makesFor_1 : decode cX4_makesFor 1 = .ok (.istore_n 2, 1) := by decide +kernel
theorem dX4_makesFor_2 : decode cX4_makesFor 2 = .ok (.iconst 0, 1) := by decide +kernel
theorem dX4_makesFor_3 : decode cX4_makesFor 3 = .ok (.istore_n 3, 1) := by decide +kernel
theorem dX4_makesFor_4 : decode cX4_makesFor 4 = .ok (.iload_n 3, 1) := by decide +kernel
theorem dX4_makesFor_5 : decode cX4_makesFor 5 = .ok (.bipush 10, 2) := by decide +kernel
theorem dX4_makesFor_7 : decode cX4_makesFor 7 = .ok (.if_icmp .ge 34, 3) := by decide +kernel
theorem dX4_makesFor_10 : decode cX4_makesFor 10 = .ok (.aload_n 0, 1) := by decide +kernel
theorem dX4_makesFor_11 : decode cX4_makesFor 11 = .ok (.iload_n 1, 1) := by decide +kernel
theorem dX4_makesFor_12 : decode cX4_makesFor 12 = .ok (.iload_n 3, 1) := by decide +kernel
theorem dX4_makesFor_13 : decode cX4_makesFor 13 = .ok (.invokevirtual 82, 3) := by decide +kernel
theorem dX4_makesFor_16 : decode cX4_makesFor 16 = .ok (.ifCond .eq 17, 3) := by decide +kernel
theorem dX4_makesFor_19 : decode cX4_makesFor 19 = .ok (.aload_n 0, 1) := by decide +kernel
theorem dX4_makesFor_20 : decode cX4_makesFor 20 = .ok (.iload_n 1, 1) := by decide +kernel
theorem dX4_makesFor_21 : decode cX4_makesFor 21 = .ok (.iload_n 3, 1) := by decide +kernel
theorem dX4_makesFor_22 : decode cX4_makesFor 22 = .ok (.iload_n 2, 1) := by decide +kernel
theorem dX4_makesFor_23 : decode cX4_makesFor 23 = .ok (.invokevirtual 86, 3) := by decide +kernel
theorem dX4_makesFor_26 : decode cX4_makesFor 26 = .ok (.ifCond .eq 7, 3) := by decide +kernel
theorem dX4_makesFor_29 : decode cX4_makesFor 29 = .ok (.iload_n 3, 1) := by decide +kernel
theorem dX4_makesFor_30 : decode cX4_makesFor 30 = .ok (.goto 4, 3) := by decide +kernel
theorem dX4_makesFor_33 : decode cX4_makesFor 33 = .ok (.iload_n 2, 1) := by decide +kernel
theorem dX4_makesFor_34 : decode cX4_makesFor 34 = .ok (.istore_n 2, 1) := by decide +kernel
theorem dX4_makesFor_35 : decode cX4_makesFor 35 = .ok (.iinc 3 1, 3) := by decide +kernel
theorem dX4_makesFor_38 : decode cX4_makesFor 38 = .ok (.goto (-34), 3) := by decide +kernel
theorem dX4_makesFor_41 : decode cX4_makesFor 41 = .ok (.iload_n 2, 1) := by decide +kernel
theorem dX4_makesFor_42 : decode cX4_makesFor 42 = .ok (.ireturn, 1) := by decide +kernel
theorem dX4_drifts_0 : decode cX4_drifts 0 = .ok (.iconst 0, 1) := by decide +kernel
theorem dX4_drifts_1 : decode cX4_drifts 1 = .ok (.istore_n 1, 1) := by decide +kernel
theorem dX4_drifts_2 : decode cX4_drifts 2 = .ok (.iload_n 1, 1) := by decide +kernel
theorem dX4_drifts_3 : decode cX4_drifts 3 = .ok (.bipush 10, 2) := by decide +kernel
theorem dX4_drifts_5 : decode cX4_drifts 5 = .ok (.if_icmp .ge 60, 3) := by decide +kernel
theorem dX4_drifts_8 : decode cX4_drifts 8 = .ok (.aload_n 0, 1) := by decide +kernel
theorem dX4_drifts_9 : decode cX4_drifts 9 = .ok (.iload_n 1, 1) := by decide +kernel
theorem dX4_drifts_10 : decode cX4_drifts 10 = .ok (.iconst 0, 1) := by decide +kernel
theorem dX4_drifts_11 : decode cX4_drifts 11 = .ok (.invokevirtual 73, 3) := by decide +kernel
theorem dX4_drifts_14 : decode cX4_drifts 14 = .ok (.aload_n 0, 1) := by decide +kernel
theorem dX4_drifts_15 : decode cX4_drifts 15 = .ok (.getfield 9, 3) := by decide +kernel
theorem dX4_drifts_18 : decode cX4_drifts 18 = .ok (.iconst 4, 1) := by decide +kernel
theorem dX4_drifts_19 : decode cX4_drifts 19 = .ok (.aload_n 0, 1) := by decide +kernel
theorem dX4_drifts_20 : decode cX4_drifts 20 = .ok (.getfield 9, 3) := by decide +kernel
theorem dX4_drifts_23 : decode cX4_drifts 23 = .ok (.iconst 0, 1) := by decide +kernel
theorem dX4_drifts_24 : decode cX4_drifts 24 = .ok (.iaload, 1) := by decide +kernel
theorem dX4_drifts_25 : decode cX4_drifts 25 = .ok (.bipush 6, 2) := by decide +kernel
theorem dX4_drifts_27 : decode cX4_drifts 27 = .ok (.irem, 1) := by decide +kernel
theorem dX4_drifts_28 : decode cX4_drifts 28 = .ok (.iadd, 1) := by decide +kernel
theorem dX4_drifts_29 : decode cX4_drifts 29 = .ok (.iaload, 1) := by decide +kernel
theorem dX4_drifts_30 : decode cX4_drifts 30 = .ok (.isub, 1) := by decide +kernel
theorem dX4_drifts_31 : decode cX4_drifts 31 = .ok (.aload_n 0, 1) := by decide +kernel
theorem dX4_drifts_32 : decode cX4_drifts 32 = .ok (.getfield 9, 3) := by decide +kernel
theorem dX4_drifts_35 : decode cX4_drifts 35 = .ok (.iconst 3, 1) := by decide +kernel
theorem dX4_drifts_36 : decode cX4_drifts 36 = .ok (.iaload, 1) := by decide +kernel
theorem dX4_drifts_37 : decode cX4_drifts 37 = .ok (.iadd, 1) := by decide +kernel
theorem dX4_drifts_38 : decode cX4_drifts 38 = .ok (.istore_n 2, 1) := by decide +kernel
theorem dX4_drifts_39 : decode cX4_drifts 39 = .ok (.aload_n 0, 1) := by decide +kernel
theorem dX4_drifts_40 : decode cX4_drifts 40 = .ok (.iload_n 1, 1) := by decide +kernel
theorem dX4_drifts_41 : decode cX4_drifts 41 = .ok (.iconst 0, 1) := by decide +kernel
theorem dX4_drifts_42 : decode cX4_drifts 42 = .ok (.iload_n 2, 1) := by decide +kernel
theorem dX4_drifts_43 : decode cX4_drifts 43 = .ok (.ifCond .ge 7, 3) := by decide +kernel
theorem dX4_drifts_46 : decode cX4_drifts 46 = .ok (.iconst 0, 1) := by decide +kernel
theorem dX4_drifts_47 : decode cX4_drifts 47 = .ok (.goto 9, 3) := by decide +kernel
theorem dX4_drifts_50 : decode cX4_drifts 50 = .ok (.bipush 99, 2) := by decide +kernel
theorem dX4_drifts_52 : decode cX4_drifts 52 = .ok (.iload_n 2, 1) := by decide +kernel
theorem dX4_drifts_53 : decode cX4_drifts 53 = .ok (.invokestatic 89, 3) := by decide +kernel
theorem dX4_drifts_56 : decode cX4_drifts 56 = .ok (.invokevirtual 56, 3) := by decide +kernel
theorem dX4_drifts_59 : decode cX4_drifts 59 = .ok (.iinc 1 1, 3) := by decide +kernel
theorem dX4_drifts_62 : decode cX4_drifts 62 = .ok (.goto (-60), 3) := by decide +kernel
theorem dX4_drifts_65 : decode cX4_drifts 65 = .ok (.iconst 0, 1) := by decide +kernel
theorem dX4_drifts_66 : decode cX4_drifts 66 = .ok (.istore_n 1, 1) := by decide +kernel
theorem dX4_drifts_67 : decode cX4_drifts 67 = .ok (.iload_n 1, 1) := by decide +kernel
theorem dX4_drifts_68 : decode cX4_drifts 68 = .ok (.bipush 9, 2) := by decide +kernel
theorem dX4_drifts_70 : decode cX4_drifts 70 = .ok (.if_icmp .ge 32, 3) := by decide +kernel
theorem dX4_drifts_73 : decode cX4_drifts 73 = .ok (.aload_n 0, 1) := by decide +kernel
theorem dX4_drifts_74 : decode cX4_drifts 74 = .ok (.getfield 22, 3) := by decide +kernel
theorem dX4_drifts_77 : decode cX4_drifts 77 = .ok (.iload_n 1, 1) := by decide +kernel
theorem dX4_drifts_78 : decode cX4_drifts 78 = .ok (.aload_n 0, 1) := by decide +kernel
theorem dX4_drifts_79 : decode cX4_drifts 79 = .ok (.iload_n 1, 1) := by decide +kernel
theorem dX4_drifts_80 : decode cX4_drifts 80 = .ok (.iconst 0, 1) := by decide +kernel
theorem dX4_drifts_81 : decode cX4_drifts 81 = .ok (.invokevirtual 73, 3) := by decide +kernel
theorem dX4_drifts_84 : decode cX4_drifts 84 = .ok (.aload_n 0, 1) := by decide +kernel
theorem dX4_drifts_85 : decode cX4_drifts 85 = .ok (.iload_n 1, 1) := by decide +kernel
theorem dX4_drifts_86 : decode cX4_drifts 86 = .ok (.iconst 1, 1) := by decide +kernel
theorem dX4_drifts_87 : decode cX4_drifts 87 = .ok (.iadd, 1) := by decide +kernel
theorem dX4_drifts_88 : decode cX4_drifts 88 = .ok (.iconst 0, 1) := by decide +kernel
theorem dX4_drifts_89 : decode cX4_drifts 89 = .ok (.invokevirtual 73, 3) := by decide +kernel
theorem dX4_drifts_92 : decode cX4_drifts 92 = .ok (.isub, 1) := by decide +kernel
theorem dX4_drifts_93 : decode cX4_drifts 93 = .ok (.iconst 4, 1) := by decide +kernel
theorem dX4_drifts_94 : decode cX4_drifts 94 = .ok (.idiv, 1) := by decide +kernel
theorem dX4_drifts_95 : decode cX4_drifts 95 = .ok (.iastore, 1) := by decide +kernel
theorem dX4_drifts_96 : decode cX4_drifts 96 = .ok (.iinc 1 1, 3) := by decide +kernel
theorem dX4_drifts_99 : decode cX4_drifts 99 = .ok (.goto (-32), 3) := by decide +kernel
theorem dX4_drifts_102 : decode cX4_drifts 102 = .ok (.iconst 0, 1) := by decide +kernel
theorem dX4_drifts_103 : decode cX4_drifts 103 = .ok (.istore_n 1, 1) := by decide +kernel
theorem dX4_drifts_104 : decode cX4_drifts 104 = .ok (.iload_n 1, 1) := by decide +kernel
theorem dX4_drifts_105 : decode cX4_drifts 105 = .ok (.bipush 9, 2) := by decide +kernel
theorem dX4_drifts_107 : decode cX4_drifts 107 = .ok (.if_icmp .ge 51, 3) := by decide +kernel
theorem dX4_drifts_110 : decode cX4_drifts 110 = .ok (.aload_n 0, 1) := by decide +kernel
theorem dX4_drifts_111 : decode cX4_drifts 111 = .ok (.iload_n 1, 1) := by decide +kernel
theorem dX4_drifts_112 : decode cX4_drifts 112 = .ok (.iconst 0, 1) := by decide +kernel
theorem dX4_drifts_113 : decode cX4_drifts 113 = .ok (.aload_n 0, 1) := by decide +kernel
theorem dX4_drifts_114 : decode cX4_drifts 114 = .ok (.iload_n 1, 1) := by decide +kernel
theorem dX4_drifts_115 : decode cX4_drifts 115 = .ok (.iconst 0, 1) := by decide +kernel
theorem dX4_drifts_116 : decode cX4_drifts 116 = .ok (.invokevirtual 73, 3) := by decide +kernel
theorem dX4_drifts_119 : decode cX4_drifts 119 = .ok (.aload_n 0, 1) := by decide +kernel
theorem dX4_drifts_120 : decode cX4_drifts 120 = .ok (.getfield 22, 3) := by decide +kernel
theorem dX4_drifts_123 : decode cX4_drifts 123 = .ok (.iload_n 1, 1) := by decide +kernel
theorem dX4_drifts_124 : decode cX4_drifts 124 = .ok (.iaload, 1) := by decide +kernel
theorem dX4_drifts_125 : decode cX4_drifts 125 = .ok (.isub, 1) := by decide +kernel
theorem dX4_drifts_126 : decode cX4_drifts 126 = .ok (.invokevirtual 56, 3) := by decide +kernel
theorem dX4_drifts_129 : decode cX4_drifts 129 = .ok (.aload_n 0, 1) := by decide +kernel
theorem dX4_drifts_130 : decode cX4_drifts 130 = .ok (.iload_n 1, 1) := by decide +kernel
theorem dX4_drifts_131 : decode cX4_drifts 131 = .ok (.iconst 1, 1) := by decide +kernel
theorem dX4_drifts_132 : decode cX4_drifts 132 = .ok (.iadd, 1) := by decide +kernel
theorem dX4_drifts_133 : decode cX4_drifts 133 = .ok (.iconst 0, 1) := by decide +kernel
theorem dX4_drifts_134 : decode cX4_drifts 134 = .ok (.aload_n 0, 1) := by decide +kernel
theorem dX4_drifts_135 : decode cX4_drifts 135 = .ok (.iload_n 1, 1) := by decide +kernel
theorem dX4_drifts_136 : decode cX4_drifts 136 = .ok (.iconst 1, 1) := by decide +kernel
theorem dX4_drifts_137 : decode cX4_drifts 137 = .ok (.iadd, 1) := by decide +kernel
theorem dX4_drifts_138 : decode cX4_drifts 138 = .ok (.iconst 0, 1) := by decide +kernel
theorem dX4_drifts_139 : decode cX4_drifts 139 = .ok (.invokevirtual 73, 3) := by decide +kernel
theorem dX4_drifts_142 : decode cX4_drifts 142 = .ok (.aload_n 0, 1) := by decide +kernel
theorem dX4_drifts_143 : decode cX4_drifts 143 = .ok (.getfield 22, 3) := by decide +kernel
theorem dX4_drifts_146 : decode cX4_drifts 146 = .ok (.iload_n 1, 1) := by decide +kernel
theorem dX4_drifts_147 : decode cX4_drifts 147 = .ok (.iaload, 1) := by decide +kernel
theorem dX4_drifts_148 : decode cX4_drifts 148 = .ok (.iadd, 1) := by decide +kernel
theorem dX4_drifts_149 : decode cX4_drifts 149 = .ok (.invokevirtual 56, 3) := by decide +kernel
theorem dX4_drifts_152 : decode cX4_drifts 152 = .ok (.iinc 1 1, 3) := by decide +kernel
theorem dX4_drifts_155 : decode cX4_drifts 155 = .ok (.goto (-51), 3) := by decide +kernel
theorem dX4_drifts_158 : decode cX4_drifts 158 = .ok (.return_, 1) := by decide +kernel
theorem dX4_moves_0 : decode cX4_moves 0 = .ok (.aload_n 0, 1) := by decide +kernel
theorem dX4_moves_1 : decode cX4_moves 1 = .ok (.iload_n 1, 1) := by decide +kernel
theorem dX4_moves_2 : decode cX4_moves 2 = .ok (.iconst 1, 1) := by decide +kernel
theorem dX4_moves_3 : decode cX4_moves 3 = .ok (.invokevirtual 65, 3) := by decide +kernel
theorem dX4_moves_6 : decode cX4_moves 6 = .ok (.istore_n 2, 1) := by decide +kernel
theorem dX4_moves_7 : decode cX4_moves 7 = .ok (.iload_n 2, 1) := by decide +kernel
theorem dX4_moves_8 : decode cX4_moves 8 = .ok (.ifCond .ge 17, 3) := by decide +kernel
theorem dX4_moves_11 : decode cX4_moves 11 = .ok (.aload_n 0, 1) := by decide +kernel
theorem dX4_moves_12 : decode cX4_moves 12 = .ok (.iload_n 1, 1) := by decide +kernel
theorem dX4_moves_13 : decode cX4_moves 13 = .ok (.iconst 1, 1) := by decide +kernel
theorem dX4_moves_14 : decode cX4_moves 14 = .ok (.aload_n 0, 1) := by decide +kernel
theorem dX4_moves_15 : decode cX4_moves 15 = .ok (.iload_n 1, 1) := by decide +kernel
theorem dX4_moves_16 : decode cX4_moves 16 = .ok (.invokevirtual 92, 3) := by decide +kernel
theorem dX4_moves_19 : decode cX4_moves 19 = .ok (.invokevirtual 95, 3) := by decide +kernel
theorem dX4_moves_22 : decode cX4_moves 22 = .ok (.goto 67, 3) := by decide +kernel
theorem dX4_moves_25 : decode cX4_moves 25 = .ok (.aload_n 0, 1) := by decide +kernel
theorem dX4_moves_26 : decode cX4_moves 26 = .ok (.iload_n 1, 1) := by decide +kernel
theorem dX4_moves_27 : decode cX4_moves 27 = .ok (.iload_n 2, 1) := by decide +kernel
theorem dX4_moves_28 : decode cX4_moves 28 = .ok (.invokevirtual 82, 3) := by decide +kernel
theorem dX4_moves_31 : decode cX4_moves 31 = .ok (.ifCond .ne 58, 3) := by decide +kernel
theorem dX4_moves_34 : decode cX4_moves 34 = .ok (.aload_n 0, 1) := by decide +kernel
theorem dX4_moves_35 : decode cX4_moves 35 = .ok (.iload_n 1, 1) := by decide +kernel
theorem dX4_moves_36 : decode cX4_moves 36 = .ok (.iconst 2, 1) := by decide +kernel
theorem dX4_moves_37 : decode cX4_moves 37 = .ok (.invokevirtual 65, 3) := by decide +kernel
theorem dX4_moves_40 : decode cX4_moves 40 = .ok (.aload_n 0, 1) := by decide +kernel
theorem dX4_moves_41 : decode cX4_moves 41 = .ok (.iload_n 1, 1) := by decide +kernel
theorem dX4_moves_42 : decode cX4_moves 42 = .ok (.invokevirtual 98, 3) := by decide +kernel
theorem dX4_moves_45 : decode cX4_moves 45 = .ok (.isub, 1) := by decide +kernel
theorem dX4_moves_46 : decode cX4_moves 46 = .ok (.istore_n 3, 1) := by decide +kernel
theorem dX4_moves_47 : decode cX4_moves 47 = .ok (.aload_n 0, 1) := by decide +kernel
theorem dX4_moves_48 : decode cX4_moves 48 = .ok (.iload_n 1, 1) := by decide +kernel
theorem dX4_moves_49 : decode cX4_moves 49 = .ok (.iconst 4, 1) := by decide +kernel
theorem dX4_moves_50 : decode cX4_moves 50 = .ok (.sipush 9999, 3) := by decide +kernel
theorem dX4_moves_53 : decode cX4_moves 53 = .ok (.aload_n 0, 1) := by decide +kernel
theorem dX4_moves_54 : decode cX4_moves 54 = .ok (.iload_n 1, 1) := by decide +kernel
theorem dX4_moves_55 : decode cX4_moves 55 = .ok (.iconst 4, 1) := by decide +kernel
theorem dX4_moves_56 : decode cX4_moves 56 = .ok (.invokevirtual 65, 3) := by decide +kernel
theorem dX4_moves_59 : decode cX4_moves 59 = .ok (.iconst 1, 1) := by decide +kernel
theorem dX4_moves_60 : decode cX4_moves 60 = .ok (.iadd, 1) := by decide +kernel
theorem dX4_moves_61 : decode cX4_moves 61 = .ok (.invokestatic 89, 3) := by decide +kernel
theorem dX4_moves_64 : decode cX4_moves 64 = .ok (.invokevirtual 95, 3) := by decide +kernel
theorem dX4_moves_67 : decode cX4_moves 67 = .ok (.aload_n 0, 1) := by decide +kernel
theorem dX4_moves_68 : decode cX4_moves 68 = .ok (.iload_n 1, 1) := by decide +kernel
theorem dX4_moves_69 : decode cX4_moves 69 = .ok (.iconst 2, 1) := by decide +kernel
theorem dX4_moves_70 : decode cX4_moves 70 = .ok (.iload_n 3, 1) := by decide +kernel
theorem dX4_moves_71 : decode cX4_moves 71 = .ok (.ifCond .ge 7, 3) := by decide +kernel
theorem dX4_moves_74 : decode cX4_moves 74 = .ok (.iconst 0, 1) := by decide +kernel
theorem dX4_moves_75 : decode cX4_moves 75 = .ok (.goto 4, 3) := by decide +kernel
theorem dX4_moves_78 : decode cX4_moves 78 = .ok (.iload_n 3, 1) := by decide +kernel
theorem dX4_moves_79 : decode cX4_moves 79 = .ok (.invokevirtual 95, 3) := by decide +kernel
theorem dX4_moves_82 : decode cX4_moves 82 = .ok (.aload_n 0, 1) := by decide +kernel
theorem dX4_moves_83 : decode cX4_moves 83 = .ok (.iload_n 1, 1) := by decide +kernel
theorem dX4_moves_84 : decode cX4_moves 84 = .ok (.iconst 1, 1) := by decide +kernel
theorem dX4_moves_85 : decode cX4_moves 85 = .ok (.iconst (-1), 1) := by decide +kernel
theorem dX4_moves_86 : decode cX4_moves 86 = .ok (.invokevirtual 95, 3) := by decide +kernel
theorem dX4_moves_89 : decode cX4_moves 89 = .ok (.return_, 1) := by decide +kernel
theorem dX4_pays_0 : decode cX4_pays 0 = .ok (.aload_n 0, 1) := by decide +kernel
theorem dX4_pays_1 : decode cX4_pays 1 = .ok (.iload_n 1, 1) := by decide +kernel
theorem dX4_pays_2 : decode cX4_pays 2 = .ok (.iconst 1, 1) := by decide +kernel
theorem dX4_pays_3 : decode cX4_pays 3 = .ok (.invokevirtual 65, 3) := by decide +kernel
theorem dX4_pays_6 : decode cX4_pays 6 = .ok (.istore_n 2, 1) := by decide +kernel
theorem dX4_pays_7 : decode cX4_pays 7 = .ok (.iload_n 2, 1) := by decide +kernel
theorem dX4_pays_8 : decode cX4_pays 8 = .ok (.ifCond .ge 7, 3) := by decide +kernel
theorem dX4_pays_11 : decode cX4_pays 11 = .ok (.iconst (-1), 1) := by decide +kernel
theorem dX4_pays_12 : decode cX4_pays 12 = .ok (.goto 9, 3) := by decide +kernel
theorem dX4_pays_15 : decode cX4_pays 15 = .ok (.aload_n 0, 1) := by decide +kernel
theorem dX4_pays_16 : decode cX4_pays 16 = .ok (.iload_n 2, 1) := by decide +kernel
theorem dX4_pays_17 : decode cX4_pays 17 = .ok (.iconst 2, 1) := by decide +kernel
theorem dX4_pays_18 : decode cX4_pays 18 = .ok (.invokevirtual 73, 3) := by decide +kernel
theorem dX4_pays_21 : decode cX4_pays 21 = .ok (.istore_n 3, 1) := by decide +kernel
theorem dX4_pays_22 : decode cX4_pays 22 = .ok (.iload_n 3, 1) := by decide +kernel
theorem dX4_pays_23 : decode cX4_pays 23 = .ok (.ifCond .lt 61, 3) := by decide +kernel
theorem dX4_pays_26 : decode cX4_pays 26 = .ok (.iload_n 3, 1) := by decide +kernel
theorem dX4_pays_27 : decode cX4_pays 27 = .ok (.iload_n 1, 1) := by decide +kernel
theorem dX4_pays_28 : decode cX4_pays 28 = .ok (.if_icmp .eq 56, 3) := by decide +kernel
theorem dX4_pays_31 : decode cX4_pays 31 = .ok (.aload_n 0, 1) := by decide +kernel
theorem dX4_pays_32 : decode cX4_pays 32 = .ok (.iload_n 2, 1) := by decide +kernel
theorem dX4_pays_33 : decode cX4_pays 33 = .ok (.iconst 1, 1) := by decide +kernel
theorem dX4_pays_34 : decode cX4_pays 34 = .ok (.invokevirtual 73, 3) := by decide +kernel
theorem dX4_pays_37 : decode cX4_pays 37 = .ok (.aload_n 0, 1) := by decide +kernel
theorem dX4_pays_38 : decode cX4_pays 38 = .ok (.iload_n 1, 1) := by decide +kernel
theorem dX4_pays_39 : decode cX4_pays 39 = .ok (.iconst 3, 1) := by decide +kernel
theorem dX4_pays_40 : decode cX4_pays 40 = .ok (.invokevirtual 65, 3) := by decide +kernel
theorem dX4_pays_43 : decode cX4_pays 43 = .ok (.invokestatic 89, 3) := by decide +kernel
theorem dX4_pays_46 : decode cX4_pays 46 = .ok (.istore 4, 2) := by decide +kernel
theorem dX4_pays_48 : decode cX4_pays 48 = .ok (.aload_n 0, 1) := by decide +kernel
theorem dX4_pays_49 : decode cX4_pays 49 = .ok (.iload_n 1, 1) := by decide +kernel
theorem dX4_pays_50 : decode cX4_pays 50 = .ok (.iconst 3, 1) := by decide +kernel
theorem dX4_pays_51 : decode cX4_pays 51 = .ok (.aload_n 0, 1) := by decide +kernel
theorem dX4_pays_52 : decode cX4_pays 52 = .ok (.iload_n 1, 1) := by decide +kernel
theorem dX4_pays_53 : decode cX4_pays 53 = .ok (.iconst 3, 1) := by decide +kernel
theorem dX4_pays_54 : decode cX4_pays 54 = .ok (.invokevirtual 65, 3) := by decide +kernel
theorem dX4_pays_57 : decode cX4_pays 57 = .ok (.iload 4, 2) := by decide +kernel
theorem dX4_pays_59 : decode cX4_pays 59 = .ok (.isub, 1) := by decide +kernel
theorem dX4_pays_60 : decode cX4_pays 60 = .ok (.invokevirtual 95, 3) := by decide +kernel
theorem dX4_pays_63 : decode cX4_pays 63 = .ok (.aload_n 0, 1) := by decide +kernel
theorem dX4_pays_64 : decode cX4_pays 64 = .ok (.iload_n 3, 1) := by decide +kernel
theorem dX4_pays_65 : decode cX4_pays 65 = .ok (.iconst 3, 1) := by decide +kernel
theorem dX4_pays_66 : decode cX4_pays 66 = .ok (.sipush 9999, 3) := by decide +kernel
theorem dX4_pays_69 : decode cX4_pays 69 = .ok (.aload_n 0, 1) := by decide +kernel
theorem dX4_pays_70 : decode cX4_pays 70 = .ok (.iload_n 3, 1) := by decide +kernel
theorem dX4_pays_71 : decode cX4_pays 71 = .ok (.iconst 3, 1) := by decide +kernel
theorem dX4_pays_72 : decode cX4_pays 72 = .ok (.invokevirtual 65, 3) := by decide +kernel
theorem dX4_pays_75 : decode cX4_pays 75 = .ok (.iload 4, 2) := by decide +kernel
theorem dX4_pays_77 : decode cX4_pays 77 = .ok (.iadd, 1) := by decide +kernel
theorem dX4_pays_78 : decode cX4_pays 78 = .ok (.invokestatic 89, 3) := by decide +kernel
theorem dX4_pays_81 : decode cX4_pays 81 = .ok (.invokevirtual 95, 3) := by decide +kernel
theorem dX4_pays_84 : decode cX4_pays 84 = .ok (.return_, 1) := by decide +kernel
theorem dX4_finds_0 : decode cX4_finds 0 = .ok (.aload_n 0, 1) := by decide +kernel
theorem dX4_finds_1 : decode cX4_finds 1 = .ok (.iload_n 1, 1) := by decide +kernel
theorem dX4_finds_2 : decode cX4_finds 2 = .ok (.iconst 1, 1) := by decide +kernel
theorem dX4_finds_3 : decode cX4_finds 3 = .ok (.invokevirtual 65, 3) := by decide +kernel
theorem dX4_finds_6 : decode cX4_finds 6 = .ok (.istore_n 2, 1) := by decide +kernel
theorem dX4_finds_7 : decode cX4_finds 7 = .ok (.aload_n 0, 1) := by decide +kernel
theorem dX4_finds_8 : decode cX4_finds 8 = .ok (.iload_n 1, 1) := by decide +kernel
theorem dX4_finds_9 : decode cX4_finds 9 = .ok (.iconst 2, 1) := by decide +kernel
theorem dX4_finds_10 : decode cX4_finds 10 = .ok (.invokevirtual 65, 3) := by decide +kernel
theorem dX4_finds_13 : decode cX4_finds 13 = .ok (.istore_n 3, 1) := by decide +kernel
theorem dX4_finds_14 : decode cX4_finds 14 = .ok (.iconst 0, 1) := by decide +kernel
theorem dX4_finds_15 : decode cX4_finds 15 = .ok (.istore 4, 2) := by decide +kernel
theorem dX4_finds_17 : decode cX4_finds 17 = .ok (.iload 4, 2) := by decide +kernel
theorem dX4_finds_19 : decode cX4_finds 19 = .ok (.aload_n 0, 1) := by decide +kernel
theorem dX4_finds_20 : decode cX4_finds 20 = .ok (.getfield 9, 3) := by decide +kernel
theorem dX4_finds_23 : decode cX4_finds 23 = .ok (.iconst 1, 1) := by decide +kernel
theorem dX4_finds_24 : decode cX4_finds 24 = .ok (.iaload, 1) := by decide +kernel
theorem dX4_finds_25 : decode cX4_finds 25 = .ok (.if_icmp .ge 47, 3) := by decide +kernel
theorem dX4_finds_28 : decode cX4_finds 28 = .ok (.iload_n 2, 1) := by decide +kernel
theorem dX4_finds_29 : decode cX4_finds 29 = .ok (.ifCond .lt 43, 3) := by decide +kernel
theorem dX4_finds_32 : decode cX4_finds 32 = .ok (.aload_n 0, 1) := by decide +kernel
theorem dX4_finds_33 : decode cX4_finds 33 = .ok (.iload 4, 2) := by decide +kernel
theorem dX4_finds_35 : decode cX4_finds 35 = .ok (.iconst 1, 1) := by decide +kernel
theorem dX4_finds_36 : decode cX4_finds 36 = .ok (.invokevirtual 65, 3) := by decide +kernel
theorem dX4_finds_39 : decode cX4_finds 39 = .ok (.iload_n 2, 1) := by decide +kernel
theorem dX4_finds_40 : decode cX4_finds 40 = .ok (.if_icmp .ne 24, 3) := by decide +kernel
theorem dX4_finds_43 : decode cX4_finds 43 = .ok (.aload_n 0, 1) := by decide +kernel
theorem dX4_finds_44 : decode cX4_finds 44 = .ok (.iload 4, 2) := by decide +kernel
theorem dX4_finds_46 : decode cX4_finds 46 = .ok (.iconst 2, 1) := by decide +kernel
theorem dX4_finds_47 : decode cX4_finds 47 = .ok (.invokevirtual 65, 3) := by decide +kernel
theorem dX4_finds_50 : decode cX4_finds 50 = .ok (.iload_n 3, 1) := by decide +kernel
theorem dX4_finds_51 : decode cX4_finds 51 = .ok (.if_icmp .le 13, 3) := by decide +kernel
theorem dX4_finds_54 : decode cX4_finds 54 = .ok (.aload_n 0, 1) := by decide +kernel
theorem dX4_finds_55 : decode cX4_finds 55 = .ok (.iload 4, 2) := by decide +kernel
theorem dX4_finds_57 : decode cX4_finds 57 = .ok (.iconst 2, 1) := by decide +kernel
theorem dX4_finds_58 : decode cX4_finds 58 = .ok (.invokevirtual 65, 3) := by decide +kernel
theorem dX4_finds_61 : decode cX4_finds 61 = .ok (.goto 4, 3) := by decide +kernel
theorem dX4_finds_64 : decode cX4_finds 64 = .ok (.iload_n 3, 1) := by decide +kernel
theorem dX4_finds_65 : decode cX4_finds 65 = .ok (.istore_n 3, 1) := by decide +kernel
theorem dX4_finds_66 : decode cX4_finds 66 = .ok (.iinc 4 1, 3) := by decide +kernel
theorem dX4_finds_69 : decode cX4_finds 69 = .ok (.goto (-52), 3) := by decide +kernel
theorem dX4_finds_72 : decode cX4_finds 72 = .ok (.aload_n 0, 1) := by decide +kernel
theorem dX4_finds_73 : decode cX4_finds 73 = .ok (.getfield 25, 3) := by decide +kernel
theorem dX4_finds_76 : decode cX4_finds 76 = .ok (.iload_n 1, 1) := by decide +kernel
theorem dX4_finds_77 : decode cX4_finds 77 = .ok (.aload_n 0, 1) := by decide +kernel
theorem dX4_finds_78 : decode cX4_finds 78 = .ok (.iload_n 1, 1) := by decide +kernel
theorem dX4_finds_79 : decode cX4_finds 79 = .ok (.iconst 2, 1) := by decide +kernel
theorem dX4_finds_80 : decode cX4_finds 80 = .ok (.invokevirtual 65, 3) := by decide +kernel
theorem dX4_finds_83 : decode cX4_finds 83 = .ok (.iload_n 3, 1) := by decide +kernel
theorem dX4_finds_84 : decode cX4_finds 84 = .ok (.aload_n 0, 1) := by decide +kernel
theorem dX4_finds_85 : decode cX4_finds 85 = .ok (.iload_n 1, 1) := by decide +kernel
theorem dX4_finds_86 : decode cX4_finds 86 = .ok (.iconst 2, 1) := by decide +kernel
theorem dX4_finds_87 : decode cX4_finds 87 = .ok (.invokevirtual 65, 3) := by decide +kernel
theorem dX4_finds_90 : decode cX4_finds 90 = .ok (.isub, 1) := by decide +kernel
theorem dX4_finds_91 : decode cX4_finds 91 = .ok (.iconst 4, 1) := by decide +kernel
theorem dX4_finds_92 : decode cX4_finds 92 = .ok (.idiv, 1) := by decide +kernel
theorem dX4_finds_93 : decode cX4_finds 93 = .ok (.iadd, 1) := by decide +kernel
theorem dX4_finds_94 : decode cX4_finds 94 = .ok (.iastore, 1) := by decide +kernel
theorem dX4_finds_95 : decode cX4_finds 95 = .ok (.return_, 1) := by decide +kernel
theorem dX4_isAway_0 : decode cX4_isAway 0 = .ok (.aload_n 0, 1) := by decide +kernel
theorem dX4_isAway_1 : decode cX4_isAway 1 = .ok (.getfield 101, 3) := by decide +kernel
theorem dX4_isAway_4 : decode cX4_isAway 4 = .ok (.iload_n 1, 1) := by decide +kernel
theorem dX4_isAway_5 : decode cX4_isAway 5 = .ok (.ishr, 1) := by decide +kernel
theorem dX4_isAway_6 : decode cX4_isAway 6 = .ok (.iconst 1, 1) := by decide +kernel
theorem dX4_isAway_7 : decode cX4_isAway 7 = .ok (.iand, 1) := by decide +kernel
theorem dX4_isAway_8 : decode cX4_isAway 8 = .ok (.iconst 1, 1) := by decide +kernel
theorem dX4_isAway_9 : decode cX4_isAway 9 = .ok (.if_icmp .ne 7, 3) := by decide +kernel
theorem dX4_isAway_12 : decode cX4_isAway 12 = .ok (.iconst 1, 1) := by decide +kernel
theorem dX4_isAway_13 : decode cX4_isAway 13 = .ok (.goto 4, 3) := by decide +kernel
theorem dX4_isAway_16 : decode cX4_isAway 16 = .ok (.iconst 0, 1) := by decide +kernel
theorem dX4_isAway_17 : decode cX4_isAway 17 = .ok (.ireturn, 1) := by decide +kernel
theorem dX4_day_0 : decode cX4_day 0 = .ok (.aload_n 0, 1) := by decide +kernel
theorem dX4_day_1 : decode cX4_day 1 = .ok (.invokevirtual 105, 3) := by decide +kernel
theorem dX4_day_4 : decode cX4_day 4 = .ok (.iconst 0, 1) := by decide +kernel
theorem dX4_day_5 : decode cX4_day 5 = .ok (.istore_n 1, 1) := by decide +kernel
theorem dX4_day_6 : decode cX4_day 6 = .ok (.iload_n 1, 1) := by decide +kernel
theorem dX4_day_7 : decode cX4_day 7 = .ok (.aload_n 0, 1) := by decide +kernel
theorem dX4_day_8 : decode cX4_day 8 = .ok (.getfield 9, 3) := by decide +kernel
theorem dX4_day_11 : decode cX4_day 11 = .ok (.iconst 1, 1) := by decide +kernel
theorem dX4_day_12 : decode cX4_day 12 = .ok (.iaload, 1) := by decide +kernel
theorem dX4_day_13 : decode cX4_day 13 = .ok (.if_icmp .ge 22, 3) := by decide +kernel
theorem dX4_day_16 : decode cX4_day 16 = .ok (.aload_n 0, 1) := by decide +kernel
theorem dX4_day_17 : decode cX4_day 17 = .ok (.iload_n 1, 1) := by decide +kernel
theorem dX4_day_18 : decode cX4_day 18 = .ok (.invokevirtual 108, 3) := by decide +kernel
theorem dX4_day_21 : decode cX4_day 21 = .ok (.ifCond .ne 8, 3) := by decide +kernel
theorem dX4_day_24 : decode cX4_day 24 = .ok (.aload_n 0, 1) := by decide +kernel
theorem dX4_day_25 : decode cX4_day 25 = .ok (.iload_n 1, 1) := by decide +kernel
theorem dX4_day_26 : decode cX4_day 26 = .ok (.invokevirtual 112, 3) := by decide +kernel
theorem dX4_day_29 : decode cX4_day 29 = .ok (.iinc 1 1, 3) := by decide +kernel
theorem dX4_day_32 : decode cX4_day 32 = .ok (.goto (-26), 3) := by decide +kernel
theorem dX4_day_35 : decode cX4_day 35 = .ok (.iconst 0, 1) := by decide +kernel
theorem dX4_day_36 : decode cX4_day 36 = .ok (.istore_n 1, 1) := by decide +kernel
theorem dX4_day_37 : decode cX4_day 37 = .ok (.iload_n 1, 1) := by decide +kernel
theorem dX4_day_38 : decode cX4_day 38 = .ok (.aload_n 0, 1) := by decide +kernel
theorem dX4_day_39 : decode cX4_day 39 = .ok (.getfield 9, 3) := by decide +kernel
theorem dX4_day_42 : decode cX4_day 42 = .ok (.iconst 1, 1) := by decide +kernel
theorem dX4_day_43 : decode cX4_day 43 = .ok (.iaload, 1) := by decide +kernel
theorem dX4_day_44 : decode cX4_day 44 = .ok (.if_icmp .ge 14, 3) := by decide +kernel
theorem dX4_day_47 : decode cX4_day 47 = .ok (.aload_n 0, 1) := by decide +kernel
theorem dX4_day_48 : decode cX4_day 48 = .ok (.iload_n 1, 1) := by decide +kernel
theorem dX4_day_49 : decode cX4_day 49 = .ok (.invokevirtual 116, 3) := by decide +kernel
theorem dX4_day_52 : decode cX4_day 52 = .ok (.iinc 1 1, 3) := by decide +kernel
theorem dX4_day_55 : decode cX4_day 55 = .ok (.goto (-18), 3) := by decide +kernel
theorem dX4_day_58 : decode cX4_day 58 = .ok (.iconst 0, 1) := by decide +kernel
theorem dX4_day_59 : decode cX4_day 59 = .ok (.istore_n 1, 1) := by decide +kernel
theorem dX4_day_60 : decode cX4_day 60 = .ok (.iload_n 1, 1) := by decide +kernel
theorem dX4_day_61 : decode cX4_day 61 = .ok (.aload_n 0, 1) := by decide +kernel
theorem dX4_day_62 : decode cX4_day 62 = .ok (.getfield 9, 3) := by decide +kernel
theorem dX4_day_65 : decode cX4_day 65 = .ok (.iconst 1, 1) := by decide +kernel
theorem dX4_day_66 : decode cX4_day 66 = .ok (.iaload, 1) := by decide +kernel
theorem dX4_day_67 : decode cX4_day 67 = .ok (.if_icmp .ge 14, 3) := by decide +kernel
theorem dX4_day_70 : decode cX4_day 70 = .ok (.aload_n 0, 1) := by decide +kernel
theorem dX4_day_71 : decode cX4_day 71 = .ok (.iload_n 1, 1) := by decide +kernel
theorem dX4_day_72 : decode cX4_day 72 = .ok (.invokevirtual 119, 3) := by decide +kernel
theorem dX4_day_75 : decode cX4_day 75 = .ok (.iinc 1 1, 3) := by decide +kernel
theorem dX4_day_78 : decode cX4_day 78 = .ok (.goto (-18), 3) := by decide +kernel
theorem dX4_day_81 : decode cX4_day 81 = .ok (.iconst 0, 1) := by decide +kernel
theorem dX4_day_82 : decode cX4_day 82 = .ok (.istore_n 1, 1) := by decide +kernel
theorem dX4_day_83 : decode cX4_day 83 = .ok (.iload_n 1, 1) := by decide +kernel
theorem dX4_day_84 : decode cX4_day 84 = .ok (.aload_n 0, 1) := by decide +kernel
theorem dX4_day_85 : decode cX4_day 85 = .ok (.getfield 9, 3) := by decide +kernel
theorem dX4_day_88 : decode cX4_day 88 = .ok (.iconst 1, 1) := by decide +kernel
theorem dX4_day_89 : decode cX4_day 89 = .ok (.iaload, 1) := by decide +kernel
theorem dX4_day_90 : decode cX4_day 90 = .ok (.if_icmp .ge 21, 3) := by decide +kernel
theorem dX4_day_93 : decode cX4_day 93 = .ok (.aload_n 0, 1) := by decide +kernel
theorem dX4_day_94 : decode cX4_day 94 = .ok (.iload_n 1, 1) := by decide +kernel
theorem dX4_day_95 : decode cX4_day 95 = .ok (.iconst 2, 1) := by decide +kernel
theorem dX4_day_96 : decode cX4_day 96 = .ok (.aload_n 0, 1) := by decide +kernel
theorem dX4_day_97 : decode cX4_day 97 = .ok (.getfield 25, 3) := by decide +kernel
theorem dX4_day_100 : decode cX4_day 100 = .ok (.iload_n 1, 1) := by decide +kernel
theorem dX4_day_101 : decode cX4_day 101 = .ok (.iaload, 1) := by decide +kernel
theorem dX4_day_102 : decode cX4_day 102 = .ok (.invokevirtual 95, 3) := by decide +kernel
theorem dX4_day_105 : decode cX4_day 105 = .ok (.iinc 1 1, 3) := by decide +kernel
theorem dX4_day_108 : decode cX4_day 108 = .ok (.goto (-25), 3) := by decide +kernel
theorem dX4_day_111 : decode cX4_day 111 = .ok (.aload_n 0, 1) := by decide +kernel
theorem dX4_day_112 : decode cX4_day 112 = .ok (.getfield 9, 3) := by decide +kernel
theorem dX4_day_115 : decode cX4_day 115 = .ok (.iconst 0, 1) := by decide +kernel
theorem dX4_day_116 : decode cX4_day 116 = .ok (.ldc 122, 2) := by decide +kernel
theorem dX4_day_118 : decode cX4_day 118 = .ok (.aload_n 0, 1) := by decide +kernel
theorem dX4_day_119 : decode cX4_day 119 = .ok (.getfield 9, 3) := by decide +kernel
theorem dX4_day_122 : decode cX4_day 122 = .ok (.iconst 0, 1) := by decide +kernel
theorem dX4_day_123 : decode cX4_day 123 = .ok (.iaload, 1) := by decide +kernel
theorem dX4_day_124 : decode cX4_day 124 = .ok (.iconst 1, 1) := by decide +kernel
theorem dX4_day_125 : decode cX4_day 125 = .ok (.iadd, 1) := by decide +kernel
theorem dX4_day_126 : decode cX4_day 126 = .ok (.invokestatic 89, 3) := by decide +kernel
theorem dX4_day_129 : decode cX4_day 129 = .ok (.iastore, 1) := by decide +kernel
theorem dX4_day_130 : decode cX4_day 130 = .ok (.return_, 1) := by decide +kernel
theorem dX4_goes_0 : decode cX4_goes 0 = .ok (.iconst 0, 1) := by decide +kernel
theorem dX4_goes_1 : decode cX4_goes 1 = .ok (.istore_n 2, 1) := by decide +kernel
theorem dX4_goes_2 : decode cX4_goes 2 = .ok (.iload_n 2, 1) := by decide +kernel
theorem dX4_goes_3 : decode cX4_goes 3 = .ok (.iload_n 1, 1) := by decide +kernel
theorem dX4_goes_4 : decode cX4_goes 4 = .ok (.if_icmp .ge 13, 3) := by decide +kernel
theorem dX4_goes_7 : decode cX4_goes 7 = .ok (.aload_n 0, 1) := by decide +kernel
theorem dX4_goes_8 : decode cX4_goes 8 = .ok (.invokevirtual 123, 3) := by decide +kernel
theorem dX4_goes_11 : decode cX4_goes 11 = .ok (.iinc 2 1, 3) := by decide +kernel
theorem dX4_goes_14 : decode cX4_goes 14 = .ok (.goto (-12), 3) := by decide +kernel
theorem dX4_goes_17 : decode cX4_goes 17 = .ok (.return_, 1) := by decide +kernel
theorem dX4_lot_0 : decode cX4_lot 0 = .ok (.iload_n 1, 1) := by decide +kernel
theorem dX4_lot_1 : decode cX4_lot 1 = .ok (.invokestatic 126, 3) := by decide +kernel
theorem dX4_lot_4 : decode cX4_lot 4 = .ok (.ifCond .eq 56, 3) := by decide +kernel
theorem dX4_lot_7 : decode cX4_lot 7 = .ok (.iload_n 2, 1) := by decide +kernel
theorem dX4_lot_8 : decode cX4_lot 8 = .ok (.iconst 0, 1) := by decide +kernel
theorem dX4_lot_9 : decode cX4_lot 9 = .ok (.iconst 2, 1) := by decide +kernel
theorem dX4_lot_10 : decode cX4_lot 10 = .ok (.invokestatic 61, 3) := by decide +kernel
theorem dX4_lot_13 : decode cX4_lot 13 = .ok (.ifCond .eq 47, 3) := by decide +kernel
theorem dX4_lot_16 : decode cX4_lot 16 = .ok (.iload_n 3, 1) := by decide +kernel
theorem dX4_lot_17 : decode cX4_lot 17 = .ok (.iload_n 2, 1) := by decide +kernel
theorem dX4_lot_18 : decode cX4_lot 18 = .ok (.iconst 2, 1) := by decide +kernel
theorem dX4_lot_19 : decode cX4_lot 19 = .ok (.if_icmp .ne 7, 3) := by decide +kernel
theorem dX4_lot_22 : decode cX4_lot 22 = .ok (.iconst (-1), 1) := by decide +kernel
theorem dX4_lot_23 : decode cX4_lot 23 = .ok (.goto 4, 3) := by decide +kernel
theorem dX4_lot_26 : decode cX4_lot 26 = .ok (.iconst 0, 1) := by decide +kernel
theorem dX4_lot_27 : decode cX4_lot 27 = .ok (.iload_n 2, 1) := by decide +kernel
theorem dX4_lot_28 : decode cX4_lot 28 = .ok (.ifCond .ne 8, 3) := by decide +kernel
theorem dX4_lot_31 : decode cX4_lot 31 = .ok (.bipush 99, 2) := by decide +kernel
theorem dX4_lot_33 : decode cX4_lot 33 = .ok (.goto 21, 3) := by decide +kernel
theorem dX4_lot_36 : decode cX4_lot 36 = .ok (.iload_n 2, 1) := by decide +kernel
theorem dX4_lot_37 : decode cX4_lot 37 = .ok (.iconst 1, 1) := by decide +kernel
theorem dX4_lot_38 : decode cX4_lot 38 = .ok (.if_icmp .ne 8, 3) := by decide +kernel
theorem dX4_lot_41 : decode cX4_lot 41 = .ok (.bipush 20, 2) := by decide +kernel
theorem dX4_lot_43 : decode cX4_lot 43 = .ok (.goto 11, 3) := by decide +kernel
theorem dX4_lot_46 : decode cX4_lot 46 = .ok (.aload_n 0, 1) := by decide +kernel
theorem dX4_lot_47 : decode cX4_lot 47 = .ok (.getfield 9, 3) := by decide +kernel
theorem dX4_lot_50 : decode cX4_lot 50 = .ok (.iconst 1, 1) := by decide +kernel
theorem dX4_lot_51 : decode cX4_lot 51 = .ok (.iaload, 1) := by decide +kernel
theorem dX4_lot_52 : decode cX4_lot 52 = .ok (.iconst 1, 1) := by decide +kernel
theorem dX4_lot_53 : decode cX4_lot 53 = .ok (.isub, 1) := by decide +kernel
theorem dX4_lot_54 : decode cX4_lot 54 = .ok (.invokestatic 61, 3) := by decide +kernel
theorem dX4_lot_57 : decode cX4_lot 57 = .ok (.ifCond .ne 9, 3) := by decide +kernel
theorem dX4_lot_60 : decode cX4_lot 60 = .ok (.aload_n 0, 1) := by decide +kernel
theorem dX4_lot_61 : decode cX4_lot 61 = .ok (.iconst 0, 1) := by decide +kernel
theorem dX4_lot_62 : decode cX4_lot 62 = .ok (.invokevirtual 129, 3) := by decide +kernel
theorem dX4_lot_65 : decode cX4_lot 65 = .ok (.ireturn, 1) := by decide +kernel
theorem dX4_lot_66 : decode cX4_lot 66 = .ok (.aload_n 0, 1) := by decide +kernel
theorem dX4_lot_67 : decode cX4_lot 67 = .ok (.iload_n 1, 1) := by decide +kernel
theorem dX4_lot_68 : decode cX4_lot 68 = .ok (.iload_n 2, 1) := by decide +kernel
theorem dX4_lot_69 : decode cX4_lot 69 = .ok (.invokevirtual 73, 3) := by decide +kernel
theorem dX4_lot_72 : decode cX4_lot 72 = .ok (.istore 4, 2) := by decide +kernel
theorem dX4_lot_74 : decode cX4_lot 74 = .ok (.aload_n 0, 1) := by decide +kernel
theorem dX4_lot_75 : decode cX4_lot 75 = .ok (.iload_n 1, 1) := by decide +kernel
theorem dX4_lot_76 : decode cX4_lot 76 = .ok (.iload_n 2, 1) := by decide +kernel
theorem dX4_lot_77 : decode cX4_lot 77 = .ok (.iload_n 3, 1) := by decide +kernel
theorem dX4_lot_78 : decode cX4_lot 78 = .ok (.invokevirtual 56, 3) := by decide +kernel
theorem dX4_lot_81 : decode cX4_lot 81 = .ok (.iload 4, 2) := by decide +kernel
theorem dX4_lot_83 : decode cX4_lot 83 = .ok (.ireturn, 1) := by decide +kernel
theorem dX4_standing_0 : decode cX4_standing 0 = .ok (.iconst 0, 1) := by decide +kernel
theorem dX4_standing_1 : decode cX4_standing 1 = .ok (.istore_n 2, 1) := by decide +kernel
theorem dX4_standing_2 : decode cX4_standing 2 = .ok (.iconst 0, 1) := by decide +kernel
theorem dX4_standing_3 : decode cX4_standing 3 = .ok (.istore_n 3, 1) := by decide +kernel
theorem dX4_standing_4 : decode cX4_standing 4 = .ok (.iload_n 3, 1) := by decide +kernel
theorem dX4_standing_5 : decode cX4_standing 5 = .ok (.aload_n 0, 1) := by decide +kernel
theorem dX4_standing_6 : decode cX4_standing 6 = .ok (.getfield 9, 3) := by decide +kernel
theorem dX4_standing_9 : decode cX4_standing 9 = .ok (.iconst 1, 1) := by decide +kernel
theorem dX4_standing_10 : decode cX4_standing 10 = .ok (.iaload, 1) := by decide +kernel
theorem dX4_standing_11 : decode cX4_standing 11 = .ok (.if_icmp .ge 28, 3) := by decide +kernel
theorem dX4_standing_14 : decode cX4_standing 14 = .ok (.iload_n 2, 1) := by decide +kernel
theorem dX4_standing_15 : decode cX4_standing 15 = .ok (.aload_n 0, 1) := by decide +kernel
theorem dX4_standing_16 : decode cX4_standing 16 = .ok (.iload_n 3, 1) := by decide +kernel
theorem dX4_standing_17 : decode cX4_standing 17 = .ok (.iload_n 1, 1) := by decide +kernel
theorem dX4_standing_18 : decode cX4_standing 18 = .ok (.invokevirtual 82, 3) := by decide +kernel
theorem dX4_standing_21 : decode cX4_standing 21 = .ok (.ifCond .eq 9, 3) := by decide +kernel
theorem dX4_standing_24 : decode cX4_standing 24 = .ok (.iconst 1, 1) := by decide +kernel
theorem dX4_standing_25 : decode cX4_standing 25 = .ok (.iload_n 3, 1) := by decide +kernel
theorem dX4_standing_26 : decode cX4_standing 26 = .ok (.ishl, 1) := by decide +kernel
theorem dX4_standing_27 : decode cX4_standing 27 = .ok (.goto 4, 3) := by decide +kernel
theorem dX4_standing_30 : decode cX4_standing 30 = .ok (.iconst 0, 1) := by decide +kernel
theorem dX4_standing_31 : decode cX4_standing 31 = .ok (.ior, 1) := by decide +kernel
theorem dX4_standing_32 : decode cX4_standing 32 = .ok (.istore_n 2, 1) := by decide +kernel
theorem dX4_standing_33 : decode cX4_standing 33 = .ok (.iinc 3 1, 3) := by decide +kernel
theorem dX4_standing_36 : decode cX4_standing 36 = .ok (.goto (-32), 3) := by decide +kernel
theorem dX4_standing_39 : decode cX4_standing 39 = .ok (.iload_n 2, 1) := by decide +kernel
theorem dX4_standing_40 : decode cX4_standing 40 = .ok (.ireturn, 1) := by decide +kernel
theorem dX4_lotOf_0 : decode cX4_lotOf 0 = .ok (.iload_n 1, 1) := by decide +kernel
theorem dX4_lotOf_1 : decode cX4_lotOf 1 = .ok (.invokestatic 126, 3) := by decide +kernel
theorem dX4_lotOf_4 : decode cX4_lotOf 4 = .ok (.ifCond .eq 12, 3) := by decide +kernel
theorem dX4_lotOf_7 : decode cX4_lotOf 7 = .ok (.iload_n 2, 1) := by decide +kernel
theorem dX4_lotOf_8 : decode cX4_lotOf 8 = .ok (.iconst 0, 1) := by decide +kernel
theorem dX4_lotOf_9 : decode cX4_lotOf 9 = .ok (.iconst 4, 1) := by decide +kernel
theorem dX4_lotOf_10 : decode cX4_lotOf 10 = .ok (.invokestatic 61, 3) := by decide +kernel
theorem dX4_lotOf_13 : decode cX4_lotOf 13 = .ok (.ifCond .ne 9, 3) := by decide +kernel
theorem dX4_lotOf_16 : decode cX4_lotOf 16 = .ok (.aload_n 0, 1) := by decide +kernel
theorem dX4_lotOf_17 : decode cX4_lotOf 17 = .ok (.iconst 0, 1) := by decide +kernel
theorem dX4_lotOf_18 : decode cX4_lotOf 18 = .ok (.invokevirtual 129, 3) := by decide +kernel
theorem dX4_lotOf_21 : decode cX4_lotOf 21 = .ok (.ireturn, 1) := by decide +kernel
theorem dX4_lotOf_22 : decode cX4_lotOf 22 = .ok (.iload_n 2, 1) := by decide +kernel
theorem dX4_lotOf_23 : decode cX4_lotOf 23 = .ok (.iconst 3, 1) := by decide +kernel
theorem dX4_lotOf_24 : decode cX4_lotOf 24 = .ok (.if_icmp .ge 12, 3) := by decide +kernel
theorem dX4_lotOf_27 : decode cX4_lotOf 27 = .ok (.aload_n 0, 1) := by decide +kernel
theorem dX4_lotOf_28 : decode cX4_lotOf 28 = .ok (.iload_n 1, 1) := by decide +kernel
theorem dX4_lotOf_29 : decode cX4_lotOf 29 = .ok (.iload_n 2, 1) := by decide +kernel
theorem dX4_lotOf_30 : decode cX4_lotOf 30 = .ok (.invokevirtual 73, 3) := by decide +kernel
theorem dX4_lotOf_33 : decode cX4_lotOf 33 = .ok (.goto 21, 3) := by decide +kernel
theorem dX4_lotOf_36 : decode cX4_lotOf 36 = .ok (.iload_n 2, 1) := by decide +kernel
theorem dX4_lotOf_37 : decode cX4_lotOf 37 = .ok (.iconst 3, 1) := by decide +kernel
theorem dX4_lotOf_38 : decode cX4_lotOf 38 = .ok (.if_icmp .ne 11, 3) := by decide +kernel
theorem dX4_lotOf_41 : decode cX4_lotOf 41 = .ok (.aload_n 0, 1) := by decide +kernel
theorem dX4_lotOf_42 : decode cX4_lotOf 42 = .ok (.iload_n 1, 1) := by decide +kernel
theorem dX4_lotOf_43 : decode cX4_lotOf 43 = .ok (.invokevirtual 69, 3) := by decide +kernel
theorem dX4_lotOf_46 : decode cX4_lotOf 46 = .ok (.goto 8, 3) := by decide +kernel
theorem dX4_lotOf_49 : decode cX4_lotOf 49 = .ok (.aload_n 0, 1) := by decide +kernel
theorem dX4_lotOf_50 : decode cX4_lotOf 50 = .ok (.iload_n 1, 1) := by decide +kernel
theorem dX4_lotOf_51 : decode cX4_lotOf 51 = .ok (.invokevirtual 132, 3) := by decide +kernel
theorem dX4_lotOf_54 : decode cX4_lotOf 54 = .ok (.ireturn, 1) := by decide +kernel
theorem dX4_sun_0 : decode cX4_sun 0 = .ok (.iload_n 1, 1) := by decide +kernel
theorem dX4_sun_1 : decode cX4_sun 1 = .ok (.iconst 0, 1) := by decide +kernel
theorem dX4_sun_2 : decode cX4_sun 2 = .ok (.iconst 5, 1) := by decide +kernel
theorem dX4_sun_3 : decode cX4_sun 3 = .ok (.invokestatic 61, 3) := by decide +kernel
theorem dX4_sun_6 : decode cX4_sun 6 = .ok (.ifCond .eq 13, 3) := by decide +kernel
theorem dX4_sun_9 : decode cX4_sun 9 = .ok (.iload_n 2, 1) := by decide +kernel
theorem dX4_sun_10 : decode cX4_sun 10 = .ok (.iconst 0, 1) := by decide +kernel
theorem dX4_sun_11 : decode cX4_sun 11 = .ok (.bipush 40, 2) := by decide +kernel
theorem dX4_sun_13 : decode cX4_sun 13 = .ok (.invokestatic 61, 3) := by decide +kernel
theorem dX4_sun_16 : decode cX4_sun 16 = .ok (.ifCond .ne 9, 3) := by decide +kernel
theorem dX4_sun_19 : decode cX4_sun 19 = .ok (.aload_n 0, 1) := by decide +kernel
theorem dX4_sun_20 : decode cX4_sun 20 = .ok (.iconst 0, 1) := by decide +kernel
theorem dX4_sun_21 : decode cX4_sun 21 = .ok (.invokevirtual 129, 3) := by decide +kernel
theorem dX4_sun_24 : decode cX4_sun 24 = .ok (.ireturn, 1) := by decide +kernel
theorem dX4_sun_25 : decode cX4_sun 25 = .ok (.aload_n 0, 1) := by decide +kernel
theorem dX4_sun_26 : decode cX4_sun 26 = .ok (.getfield 9, 3) := by decide +kernel
theorem dX4_sun_29 : decode cX4_sun 29 = .ok (.iconst 4, 1) := by decide +kernel
theorem dX4_sun_30 : decode cX4_sun 30 = .ok (.iload_n 1, 1) := by decide +kernel
theorem dX4_sun_31 : decode cX4_sun 31 = .ok (.iadd, 1) := by decide +kernel
theorem dX4_sun_32 : decode cX4_sun 32 = .ok (.iaload, 1) := by decide +kernel
theorem dX4_sun_33 : decode cX4_sun 33 = .ok (.istore_n 3, 1) := by decide +kernel
theorem dX4_sun_34 : decode cX4_sun 34 = .ok (.aload_n 0, 1) := by decide +kernel
theorem dX4_sun_35 : decode cX4_sun 35 = .ok (.getfield 9, 3) := by decide +kernel
theorem dX4_sun_38 : decode cX4_sun 38 = .ok (.iconst 4, 1) := by decide +kernel
theorem dX4_sun_39 : decode cX4_sun 39 = .ok (.iload_n 1, 1) := by decide +kernel
theorem dX4_sun_40 : decode cX4_sun 40 = .ok (.iadd, 1) := by decide +kernel
theorem dX4_sun_41 : decode cX4_sun 41 = .ok (.iload_n 2, 1) := by decide +kernel
theorem dX4_sun_42 : decode cX4_sun 42 = .ok (.iastore, 1) := by decide +kernel
theorem dX4_sun_43 : decode cX4_sun 43 = .ok (.iload_n 3, 1) := by decide +kernel
theorem dX4_sun_44 : decode cX4_sun 44 = .ok (.ireturn, 1) := by decide +kernel
theorem dX4_mist_0 : decode cX4_mist 0 = .ok (.iload_n 1, 1) := by decide +kernel
theorem dX4_mist_1 : decode cX4_mist 1 = .ok (.iconst 0, 1) := by decide +kernel
theorem dX4_mist_2 : decode cX4_mist 2 = .ok (.bipush 40, 2) := by decide +kernel
theorem dX4_mist_4 : decode cX4_mist 4 = .ok (.invokestatic 61, 3) := by decide +kernel
theorem dX4_mist_7 : decode cX4_mist 7 = .ok (.ifCond .ne 9, 3) := by decide +kernel
theorem dX4_mist_10 : decode cX4_mist 10 = .ok (.aload_n 0, 1) := by decide +kernel
theorem dX4_mist_11 : decode cX4_mist 11 = .ok (.iconst 0, 1) := by decide +kernel
theorem dX4_mist_12 : decode cX4_mist 12 = .ok (.invokevirtual 129, 3) := by decide +kernel
theorem dX4_mist_15 : decode cX4_mist 15 = .ok (.ireturn, 1) := by decide +kernel
theorem dX4_mist_16 : decode cX4_mist 16 = .ok (.aload_n 0, 1) := by decide +kernel
theorem dX4_mist_17 : decode cX4_mist 17 = .ok (.getfield 9, 3) := by decide +kernel
theorem dX4_mist_20 : decode cX4_mist 20 = .ok (.iconst 3, 1) := by decide +kernel
theorem dX4_mist_21 : decode cX4_mist 21 = .ok (.iaload, 1) := by decide +kernel
theorem dX4_mist_22 : decode cX4_mist 22 = .ok (.istore_n 2, 1) := by decide +kernel
theorem dX4_mist_23 : decode cX4_mist 23 = .ok (.aload_n 0, 1) := by decide +kernel
theorem dX4_mist_24 : decode cX4_mist 24 = .ok (.getfield 9, 3) := by decide +kernel
theorem dX4_mist_27 : decode cX4_mist 27 = .ok (.iconst 3, 1) := by decide +kernel
theorem dX4_mist_28 : decode cX4_mist 28 = .ok (.iload_n 1, 1) := by decide +kernel
theorem dX4_mist_29 : decode cX4_mist 29 = .ok (.iastore, 1) := by decide +kernel
theorem dX4_mist_30 : decode cX4_mist 30 = .ok (.iload_n 2, 1) := by decide +kernel
theorem dX4_mist_31 : decode cX4_mist 31 = .ok (.ireturn, 1) := by decide +kernel
theorem dX4_adds_0 : decode cX4_adds 0 = .ok (.aload_n 0, 1) := by decide +kernel
theorem dX4_adds_1 : decode cX4_adds 1 = .ok (.getfield 9, 3) := by decide +kernel
theorem dX4_adds_4 : decode cX4_adds 4 = .ok (.iconst 1, 1) := by decide +kernel
theorem dX4_adds_5 : decode cX4_adds 5 = .ok (.iaload, 1) := by decide +kernel
theorem dX4_adds_6 : decode cX4_adds 6 = .ok (.istore_n 2, 1) := by decide +kernel
theorem dX4_adds_7 : decode cX4_adds 7 = .ok (.aload_n 0, 1) := by decide +kernel
theorem dX4_adds_8 : decode cX4_adds 8 = .ok (.iload_n 2, 1) := by decide +kernel
theorem dX4_adds_9 : decode cX4_adds 9 = .ok (.iconst 0, 1) := by decide +kernel
theorem dX4_adds_10 : decode cX4_adds 10 = .ok (.iload_n 1, 1) := by decide +kernel
theorem dX4_adds_11 : decode cX4_adds 11 = .ok (.invokevirtual 95, 3) := by decide +kernel
theorem dX4_adds_14 : decode cX4_adds 14 = .ok (.aload_n 0, 1) := by decide +kernel
theorem dX4_adds_15 : decode cX4_adds 15 = .ok (.iload_n 2, 1) := by decide +kernel
theorem dX4_adds_16 : decode cX4_adds 16 = .ok (.iconst 1, 1) := by decide +kernel
theorem dX4_adds_17 : decode cX4_adds 17 = .ok (.iconst (-1), 1) := by decide +kernel
theorem dX4_adds_18 : decode cX4_adds 18 = .ok (.invokevirtual 95, 3) := by decide +kernel
theorem dX4_adds_21 : decode cX4_adds 21 = .ok (.aload_n 0, 1) := by decide +kernel
theorem dX4_adds_22 : decode cX4_adds 22 = .ok (.iload_n 2, 1) := by decide +kernel
theorem dX4_adds_23 : decode cX4_adds 23 = .ok (.iconst 2, 1) := by decide +kernel
theorem dX4_adds_24 : decode cX4_adds 24 = .ok (.bipush 50, 2) := by decide +kernel
theorem dX4_adds_26 : decode cX4_adds 26 = .ok (.invokevirtual 95, 3) := by decide +kernel
theorem dX4_adds_29 : decode cX4_adds 29 = .ok (.aload_n 0, 1) := by decide +kernel
theorem dX4_adds_30 : decode cX4_adds 30 = .ok (.iload_n 2, 1) := by decide +kernel
theorem dX4_adds_31 : decode cX4_adds 31 = .ok (.iconst 3, 1) := by decide +kernel
theorem dX4_adds_32 : decode cX4_adds 32 = .ok (.bipush 50, 2) := by decide +kernel
theorem dX4_adds_34 : decode cX4_adds 34 = .ok (.invokevirtual 95, 3) := by decide +kernel
theorem dX4_adds_37 : decode cX4_adds 37 = .ok (.aload_n 0, 1) := by decide +kernel
theorem dX4_adds_38 : decode cX4_adds 38 = .ok (.iload_n 2, 1) := by decide +kernel
theorem dX4_adds_39 : decode cX4_adds 39 = .ok (.iconst 4, 1) := by decide +kernel
theorem dX4_adds_40 : decode cX4_adds 40 = .ok (.iconst 0, 1) := by decide +kernel
theorem dX4_adds_41 : decode cX4_adds 41 = .ok (.invokevirtual 95, 3) := by decide +kernel
theorem dX4_adds_44 : decode cX4_adds 44 = .ok (.aload_n 0, 1) := by decide +kernel
theorem dX4_adds_45 : decode cX4_adds 45 = .ok (.getfield 9, 3) := by decide +kernel
theorem dX4_adds_48 : decode cX4_adds 48 = .ok (.iconst 1, 1) := by decide +kernel
theorem dX4_adds_49 : decode cX4_adds 49 = .ok (.dup2, 1) := by decide +kernel
theorem dX4_adds_50 : decode cX4_adds 50 = .ok (.iaload, 1) := by decide +kernel
theorem dX4_adds_51 : decode cX4_adds 51 = .ok (.iconst 1, 1) := by decide +kernel
theorem dX4_adds_52 : decode cX4_adds 52 = .ok (.iadd, 1) := by decide +kernel
theorem dX4_adds_53 : decode cX4_adds 53 = .ok (.iastore, 1) := by decide +kernel
theorem dX4_adds_54 : decode cX4_adds 54 = .ok (.return_, 1) := by decide +kernel
theorem dX4_person_0 : decode cX4_person 0 = .ok (.iload_n 1, 1) := by decide +kernel
theorem dX4_person_1 : decode cX4_person 1 = .ok (.iconst 0, 1) := by decide +kernel
theorem dX4_person_2 : decode cX4_person 2 = .ok (.bipush 6, 2) := by decide +kernel
theorem dX4_person_4 : decode cX4_person 4 = .ok (.invokestatic 61, 3) := by decide +kernel
theorem dX4_person_7 : decode cX4_person 7 = .ok (.ifCond .ne 9, 3) := by decide +kernel
theorem dX4_person_10 : decode cX4_person 10 = .ok (.aload_n 0, 1) := by decide +kernel
theorem dX4_person_11 : decode cX4_person 11 = .ok (.iconst 0, 1) := by decide +kernel
theorem dX4_person_12 : decode cX4_person 12 = .ok (.invokevirtual 129, 3) := by decide +kernel
theorem dX4_person_15 : decode cX4_person 15 = .ok (.ireturn, 1) := by decide +kernel
theorem dX4_person_16 : decode cX4_person 16 = .ok (.aload_n 0, 1) := by decide +kernel
theorem dX4_person_17 : decode cX4_person 17 = .ok (.getfield 9, 3) := by decide +kernel
theorem dX4_person_20 : decode cX4_person 20 = .ok (.iconst 1, 1) := by decide +kernel
theorem dX4_person_21 : decode cX4_person 21 = .ok (.iaload, 1) := by decide +kernel
theorem dX4_person_22 : decode cX4_person 22 = .ok (.bipush 8, 2) := by decide +kernel
theorem dX4_person_24 : decode cX4_person 24 = .ok (.if_icmp .ne 9, 3) := by decide +kernel
theorem dX4_person_27 : decode cX4_person 27 = .ok (.aload_n 0, 1) := by decide +kernel
theorem dX4_person_28 : decode cX4_person 28 = .ok (.iconst 1, 1) := by decide +kernel
theorem dX4_person_29 : decode cX4_person 29 = .ok (.invokevirtual 129, 3) := by decide +kernel
theorem dX4_person_32 : decode cX4_person 32 = .ok (.ireturn, 1) := by decide +kernel
theorem dX4_person_33 : decode cX4_person 33 = .ok (.aload_n 0, 1) := by decide +kernel
theorem dX4_person_34 : decode cX4_person 34 = .ok (.iload_n 1, 1) := by decide +kernel
theorem dX4_person_35 : decode cX4_person 35 = .ok (.invokevirtual 135, 3) := by decide +kernel
theorem dX4_person_38 : decode cX4_person 38 = .ok (.aload_n 0, 1) := by decide +kernel
theorem dX4_person_39 : decode cX4_person 39 = .ok (.getfield 9, 3) := by decide +kernel
theorem dX4_person_42 : decode cX4_person 42 = .ok (.iconst 1, 1) := by decide +kernel
theorem dX4_person_43 : decode cX4_person 43 = .ok (.iaload, 1) := by decide +kernel
theorem dX4_person_44 : decode cX4_person 44 = .ok (.iconst 1, 1) := by decide +kernel
theorem dX4_person_45 : decode cX4_person 45 = .ok (.isub, 1) := by decide +kernel
theorem dX4_person_46 : decode cX4_person 46 = .ok (.ireturn, 1) := by decide +kernel
theorem dX4_ownedBy_0 : decode cX4_ownedBy 0 = .ok (.iconst 0, 1) := by decide +kernel
theorem dX4_ownedBy_1 : decode cX4_ownedBy 1 = .ok (.istore_n 2, 1) := by decide +kernel
theorem dX4_ownedBy_2 : decode cX4_ownedBy 2 = .ok (.iconst 0, 1) := by decide +kernel
theorem dX4_ownedBy_3 : decode cX4_ownedBy 3 = .ok (.istore_n 3, 1) := by decide +kernel
theorem dX4_ownedBy_4 : decode cX4_ownedBy 4 = .ok (.iload_n 3, 1) := by decide +kernel
theorem dX4_ownedBy_5 : decode cX4_ownedBy 5 = .ok (.bipush 10, 2) := by decide +kernel
theorem dX4_ownedBy_7 : decode cX4_ownedBy 7 = .ok (.if_icmp .ge 29, 3) := by decide +kernel
theorem dX4_ownedBy_10 : decode cX4_ownedBy 10 = .ok (.iload_n 2, 1) := by decide +kernel
theorem dX4_ownedBy_11 : decode cX4_ownedBy 11 = .ok (.aload_n 0, 1) := by decide +kernel
theorem dX4_ownedBy_12 : decode cX4_ownedBy 12 = .ok (.iload_n 3, 1) := by decide +kernel
theorem dX4_ownedBy_13 : decode cX4_ownedBy 13 = .ok (.iconst 2, 1) := by decide +kernel
theorem dX4_ownedBy_14 : decode cX4_ownedBy 14 = .ok (.invokevirtual 73, 3) := by decide +kernel
theorem dX4_ownedBy_17 : decode cX4_ownedBy 17 = .ok (.iload_n 1, 1) := by decide +kernel
theorem dX4_ownedBy_18 : decode cX4_ownedBy 18 = .ok (.if_icmp .ne 9, 3) := by decide +kernel
theorem dX4_ownedBy_21 : decode cX4_ownedBy 21 = .ok (.iconst 1, 1) := by decide +kernel
theorem dX4_ownedBy_22 : decode cX4_ownedBy 22 = .ok (.iload_n 3, 1) := by decide +kernel
theorem dX4_ownedBy_23 : decode cX4_ownedBy 23 = .ok (.ishl, 1) := by decide +kernel
theorem dX4_ownedBy_24 : decode cX4_ownedBy 24 = .ok (.goto 4, 3) := by decide +kernel
theorem dX4_ownedBy_27 : decode cX4_ownedBy 27 = .ok (.iconst 0, 1) := by decide +kernel
theorem dX4_ownedBy_28 : decode cX4_ownedBy 28 = .ok (.ior, 1) := by decide +kernel
theorem dX4_ownedBy_29 : decode cX4_ownedBy 29 = .ok (.istore_n 2, 1) := by decide +kernel
theorem dX4_ownedBy_30 : decode cX4_ownedBy 30 = .ok (.iinc 3 1, 3) := by decide +kernel
theorem dX4_ownedBy_33 : decode cX4_ownedBy 33 = .ok (.goto (-29), 3) := by decide +kernel
theorem dX4_ownedBy_36 : decode cX4_ownedBy 36 = .ok (.iload_n 2, 1) := by decide +kernel
theorem dX4_ownedBy_37 : decode cX4_ownedBy 37 = .ok (.ireturn, 1) := by decide +kernel
theorem dX4_of_0 : decode cX4_of 0 = .ok (.aload_n 0, 1) := by decide +kernel
theorem dX4_of_1 : decode cX4_of 1 = .ok (.iload_n 1, 1) := by decide +kernel
theorem dX4_of_2 : decode cX4_of 2 = .ok (.invokevirtual 138, 3) := by decide +kernel
theorem dX4_of_5 : decode cX4_of 5 = .ok (.ifCond .eq 13, 3) := by decide +kernel
theorem dX4_of_8 : decode cX4_of 8 = .ok (.iload_n 2, 1) := by decide +kernel
theorem dX4_of_9 : decode cX4_of 9 = .ok (.iconst 0, 1) := by decide +kernel
theorem dX4_of_10 : decode cX4_of 10 = .ok (.bipush 7, 2) := by decide +kernel
theorem dX4_of_12 : decode cX4_of 12 = .ok (.invokestatic 61, 3) := by decide +kernel
theorem dX4_of_15 : decode cX4_of 15 = .ok (.ifCond .ne 9, 3) := by decide +kernel
theorem dX4_of_18 : decode cX4_of 18 = .ok (.aload_n 0, 1) := by decide +kernel
theorem dX4_of_19 : decode cX4_of 19 = .ok (.iconst 0, 1) := by decide +kernel
theorem dX4_of_20 : decode cX4_of 20 = .ok (.invokevirtual 129, 3) := by decide +kernel
theorem dX4_of_23 : decode cX4_of 23 = .ok (.ireturn, 1) := by decide +kernel
theorem dX4_of_24 : decode cX4_of 24 = .ok (.iload_n 2, 1) := by decide +kernel
theorem dX4_of_25 : decode cX4_of 25 = .ok (.iconst 5, 1) := by decide +kernel
theorem dX4_of_26 : decode cX4_of 26 = .ok (.if_icmp .ge 12, 3) := by decide +kernel
theorem dX4_of_29 : decode cX4_of 29 = .ok (.aload_n 0, 1) := by decide +kernel
theorem dX4_of_30 : decode cX4_of 30 = .ok (.iload_n 1, 1) := by decide +kernel
theorem dX4_of_31 : decode cX4_of 31 = .ok (.iload_n 2, 1) := by decide +kernel
theorem dX4_of_32 : decode cX4_of 32 = .ok (.invokevirtual 65, 3) := by decide +kernel
theorem dX4_of_35 : decode cX4_of 35 = .ok (.goto 35, 3) := by decide +kernel
theorem dX4_of_38 : decode cX4_of 38 = .ok (.iload_n 2, 1) := by decide +kernel
theorem dX4_of_39 : decode cX4_of 39 = .ok (.iconst 5, 1) := by decide +kernel
theorem dX4_of_40 : decode cX4_of 40 = .ok (.if_icmp .ne 11, 3) := by decide +kernel
theorem dX4_of_43 : decode cX4_of 43 = .ok (.aload_n 0, 1) := by decide +kernel
theorem dX4_of_44 : decode cX4_of 44 = .ok (.iload_n 1, 1) := by decide +kernel
theorem dX4_of_45 : decode cX4_of 45 = .ok (.invokevirtual 98, 3) := by decide +kernel
theorem dX4_of_48 : decode cX4_of 48 = .ok (.goto 22, 3) := by decide +kernel
theorem dX4_of_51 : decode cX4_of 51 = .ok (.iload_n 2, 1) := by decide +kernel
theorem dX4_of_52 : decode cX4_of 52 = .ok (.bipush 6, 2) := by decide +kernel
theorem dX4_of_54 : decode cX4_of 54 = .ok (.if_icmp .ne 11, 3) := by decide +kernel
theorem dX4_of_57 : decode cX4_of 57 = .ok (.aload_n 0, 1) := by decide +kernel
theorem dX4_of_58 : decode cX4_of 58 = .ok (.iload_n 1, 1) := by decide +kernel
theorem dX4_of_59 : decode cX4_of 59 = .ok (.invokevirtual 92, 3) := by decide +kernel
theorem dX4_of_62 : decode cX4_of 62 = .ok (.goto 8, 3) := by decide +kernel
theorem dX4_of_65 : decode cX4_of 65 = .ok (.aload_n 0, 1) := by decide +kernel
theorem dX4_of_66 : decode cX4_of 66 = .ok (.iload_n 1, 1) := by decide +kernel
theorem dX4_of_67 : decode cX4_of 67 = .ok (.invokevirtual 141, 3) := by decide +kernel
theorem dX4_of_70 : decode cX4_of 70 = .ok (.ireturn, 1) := by decide +kernel
theorem dX4_change_0 : decode cX4_change 0 = .ok (.aload_n 0, 1) := by decide +kernel
theorem dX4_change_1 : decode cX4_change 1 = .ok (.iload_n 1, 1) := by decide +kernel
theorem dX4_change_2 : decode cX4_change 2 = .ok (.invokevirtual 138, 3) := by decide +kernel
theorem dX4_change_5 : decode cX4_change 5 = .ok (.ifCond .eq 61, 3) := by decide +kernel
theorem dX4_change_8 : decode cX4_change 8 = .ok (.iload_n 2, 1) := by decide +kernel
theorem dX4_change_9 : decode cX4_change 9 = .ok (.iconst 0, 1) := by decide +kernel
theorem dX4_change_10 : decode cX4_change 10 = .ok (.iconst 4, 1) := by decide +kernel
theorem dX4_change_11 : decode cX4_change 11 = .ok (.invokestatic 61, 3) := by decide +kernel
theorem dX4_change_14 : decode cX4_change 14 = .ok (.ifCond .eq 52, 3) := by decide +kernel
theorem dX4_change_17 : decode cX4_change 17 = .ok (.iload_n 3, 1) := by decide +kernel
theorem dX4_change_18 : decode cX4_change 18 = .ok (.iload_n 2, 1) := by decide +kernel
theorem dX4_change_19 : decode cX4_change 19 = .ok (.iconst 1, 1) := by decide +kernel
theorem dX4_change_20 : decode cX4_change 20 = .ok (.if_icmp .ne 7, 3) := by decide +kernel
theorem dX4_change_23 : decode cX4_change 23 = .ok (.iconst (-1), 1) := by decide +kernel
theorem dX4_change_24 : decode cX4_change 24 = .ok (.goto 4, 3) := by decide +kernel
theorem dX4_change_27 : decode cX4_change 27 = .ok (.iconst 0, 1) := by decide +kernel
theorem dX4_change_28 : decode cX4_change 28 = .ok (.iload_n 2, 1) := by decide +kernel
theorem dX4_change_29 : decode cX4_change 29 = .ok (.ifCond .ne 8, 3) := by decide +kernel
theorem dX4_change_32 : decode cX4_change 32 = .ok (.bipush 6, 2) := by decide +kernel
theorem dX4_change_34 : decode cX4_change 34 = .ok (.goto 26, 3) := by decide +kernel
theorem dX4_change_37 : decode cX4_change 37 = .ok (.iload_n 2, 1) := by decide +kernel
theorem dX4_change_38 : decode cX4_change 38 = .ok (.iconst 1, 1) := by decide +kernel
theorem dX4_change_39 : decode cX4_change 39 = .ok (.if_icmp .ne 8, 3) := by decide +kernel
theorem dX4_change_42 : decode cX4_change 42 = .ok (.bipush 9, 2) := by decide +kernel
theorem dX4_change_44 : decode cX4_change 44 = .ok (.goto 16, 3) := by decide +kernel
theorem dX4_change_47 : decode cX4_change 47 = .ok (.iload_n 2, 1) := by decide +kernel
theorem dX4_change_48 : decode cX4_change 48 = .ok (.iconst 2, 1) := by decide +kernel
theorem dX4_change_49 : decode cX4_change 49 = .ok (.if_icmp .ne 8, 3) := by decide +kernel
theorem dX4_change_52 : decode cX4_change 52 = .ok (.bipush 99, 2) := by decide +kernel
theorem dX4_change_54 : decode cX4_change 54 = .ok (.goto 6, 3) := by decide +kernel
theorem dX4_change_57 : decode cX4_change 57 = .ok (.sipush 9999, 3) := by decide +kernel
theorem dX4_change_60 : decode cX4_change 60 = .ok (.invokestatic 61, 3) := by decide +kernel
theorem dX4_change_63 : decode cX4_change 63 = .ok (.ifCond .ne 9, 3) := by decide +kernel
theorem dX4_change_66 : decode cX4_change 66 = .ok (.aload_n 0, 1) := by decide +kernel
theorem dX4_change_67 : decode cX4_change 67 = .ok (.iconst 0, 1) := by decide +kernel
theorem dX4_change_68 : decode cX4_change 68 = .ok (.invokevirtual 129, 3) := by decide +kernel
theorem dX4_change_71 : decode cX4_change 71 = .ok (.ireturn, 1) := by decide +kernel
theorem dX4_change_72 : decode cX4_change 72 = .ok (.aload_n 0, 1) := by decide +kernel
theorem dX4_change_73 : decode cX4_change 73 = .ok (.iload_n 1, 1) := by decide +kernel
theorem dX4_change_74 : decode cX4_change 74 = .ok (.iload_n 2, 1) := by decide +kernel
theorem dX4_change_75 : decode cX4_change 75 = .ok (.invokevirtual 65, 3) := by decide +kernel
theorem dX4_change_78 : decode cX4_change 78 = .ok (.istore 4, 2) := by decide +kernel
theorem dX4_change_80 : decode cX4_change 80 = .ok (.aload_n 0, 1) := by decide +kernel
theorem dX4_change_81 : decode cX4_change 81 = .ok (.iload_n 1, 1) := by decide +kernel
theorem dX4_change_82 : decode cX4_change 82 = .ok (.iload_n 2, 1) := by decide +kernel
theorem dX4_change_83 : decode cX4_change 83 = .ok (.iload_n 3, 1) := by decide +kernel
theorem dX4_change_84 : decode cX4_change 84 = .ok (.invokevirtual 95, 3) := by decide +kernel
theorem dX4_change_87 : decode cX4_change 87 = .ok (.iload 4, 2) := by decide +kernel
theorem dX4_change_89 : decode cX4_change 89 = .ok (.ireturn, 1) := by decide +kernel
theorem dX4_trust_0 : decode cX4_trust 0 = .ok (.aload_n 0, 1) := by decide +kernel
theorem dX4_trust_1 : decode cX4_trust 1 = .ok (.iload_n 1, 1) := by decide +kernel
theorem dX4_trust_2 : decode cX4_trust 2 = .ok (.invokevirtual 138, 3) := by decide +kernel
theorem dX4_trust_5 : decode cX4_trust 5 = .ok (.ifCond .eq 19, 3) := by decide +kernel
theorem dX4_trust_8 : decode cX4_trust 8 = .ok (.iload_n 2, 1) := by decide +kernel
theorem dX4_trust_9 : decode cX4_trust 9 = .ok (.invokestatic 126, 3) := by decide +kernel
theorem dX4_trust_12 : decode cX4_trust 12 = .ok (.ifCond .eq 12, 3) := by decide +kernel
theorem dX4_trust_15 : decode cX4_trust 15 = .ok (.aload_n 0, 1) := by decide +kernel
theorem dX4_trust_16 : decode cX4_trust 16 = .ok (.iload_n 1, 1) := by decide +kernel
theorem dX4_trust_17 : decode cX4_trust 17 = .ok (.iload_n 2, 1) := by decide +kernel
theorem dX4_trust_18 : decode cX4_trust 18 = .ok (.invokevirtual 79, 3) := by decide +kernel
theorem dX4_trust_21 : decode cX4_trust 21 = .ok (.goto 8, 3) := by decide +kernel
theorem dX4_trust_24 : decode cX4_trust 24 = .ok (.aload_n 0, 1) := by decide +kernel
theorem dX4_trust_25 : decode cX4_trust 25 = .ok (.iconst 0, 1) := by decide +kernel
theorem dX4_trust_26 : decode cX4_trust 26 = .ok (.invokevirtual 129, 3) := by decide +kernel
theorem dX4_trust_29 : decode cX4_trust 29 = .ok (.ireturn, 1) := by decide +kernel
theorem dX4_go_0 : decode cX4_go 0 = .ok (.iload_n 1, 1) := by decide +kernel
theorem dX4_go_1 : decode cX4_go 1 = .ok (.iconst 1, 1) := by decide +kernel
theorem dX4_go_2 : decode cX4_go 2 = .ok (.bipush 60, 2) := by decide +kernel
theorem dX4_go_4 : decode cX4_go 4 = .ok (.invokestatic 61, 3) := by decide +kernel
theorem dX4_go_7 : decode cX4_go 7 = .ok (.ifCond .ne 9, 3) := by decide +kernel
theorem dX4_go_10 : decode cX4_go 10 = .ok (.aload_n 0, 1) := by decide +kernel
theorem dX4_go_11 : decode cX4_go 11 = .ok (.iconst 0, 1) := by decide +kernel
theorem dX4_go_12 : decode cX4_go 12 = .ok (.invokevirtual 129, 3) := by decide +kernel
theorem dX4_go_15 : decode cX4_go 15 = .ok (.ireturn, 1) := by decide +kernel
theorem dX4_go_16 : decode cX4_go 16 = .ok (.aload_n 0, 1) := by decide +kernel
theorem dX4_go_17 : decode cX4_go 17 = .ok (.getfield 9, 3) := by decide +kernel
theorem dX4_go_20 : decode cX4_go 20 = .ok (.iconst 0, 1) := by decide +kernel
theorem dX4_go_21 : decode cX4_go 21 = .ok (.iaload, 1) := by decide +kernel
theorem dX4_go_22 : decode cX4_go 22 = .ok (.iload_n 1, 1) := by decide +kernel
theorem dX4_go_23 : decode cX4_go 23 = .ok (.iadd, 1) := by decide +kernel
theorem dX4_go_24 : decode cX4_go 24 = .ok (.ldc 122, 2) := by decide +kernel
theorem dX4_go_26 : decode cX4_go 26 = .ok (.if_icmp .le 9, 3) := by decide +kernel
theorem dX4_go_29 : decode cX4_go 29 = .ok (.aload_n 0, 1) := by decide +kernel
theorem dX4_go_30 : decode cX4_go 30 = .ok (.iconst 4, 1) := by decide +kernel
theorem dX4_go_31 : decode cX4_go 31 = .ok (.invokevirtual 129, 3) := by decide +kernel
theorem dX4_go_34 : decode cX4_go 34 = .ok (.ireturn, 1) := by decide +kernel
theorem dX4_go_35 : decode cX4_go 35 = .ok (.aload_n 0, 1) := by decide +kernel
theorem dX4_go_36 : decode cX4_go 36 = .ok (.iload_n 1, 1) := by decide +kernel
theorem dX4_go_37 : decode cX4_go 37 = .ok (.invokevirtual 144, 3) := by decide +kernel
theorem dX4_go_40 : decode cX4_go 40 = .ok (.aload_n 0, 1) := by decide +kernel
theorem dX4_go_41 : decode cX4_go 41 = .ok (.invokevirtual 147, 3) := by decide +kernel
theorem dX4_go_44 : decode cX4_go 44 = .ok (.ireturn, 1) := by decide +kernel
theorem dX4_fogs_0 : decode cX4_fogs 0 = .ok (.iconst 0, 1) := by decide +kernel
theorem dX4_fogs_1 : decode cX4_fogs 1 = .ok (.istore_n 1, 1) := by decide +kernel
theorem dX4_fogs_2 : decode cX4_fogs 2 = .ok (.iconst 0, 1) := by decide +kernel
theorem dX4_fogs_3 : decode cX4_fogs 3 = .ok (.istore_n 2, 1) := by decide +kernel
theorem dX4_fogs_4 : decode cX4_fogs 4 = .ok (.iload_n 2, 1) := by decide +kernel
theorem dX4_fogs_5 : decode cX4_fogs 5 = .ok (.bipush 10, 2) := by decide +kernel
theorem dX4_fogs_7 : decode cX4_fogs 7 = .ok (.if_icmp .ge 18, 3) := by decide +kernel
theorem dX4_fogs_10 : decode cX4_fogs 10 = .ok (.iload_n 1, 1) := by decide +kernel
theorem dX4_fogs_11 : decode cX4_fogs 11 = .ok (.aload_n 0, 1) := by decide +kernel
theorem dX4_fogs_12 : decode cX4_fogs 12 = .ok (.iload_n 2, 1) := by decide +kernel
theorem dX4_fogs_13 : decode cX4_fogs 13 = .ok (.iconst 0, 1) := by decide +kernel
theorem dX4_fogs_14 : decode cX4_fogs 14 = .ok (.invokevirtual 73, 3) := by decide +kernel
theorem dX4_fogs_17 : decode cX4_fogs 17 = .ok (.iadd, 1) := by decide +kernel
theorem dX4_fogs_18 : decode cX4_fogs 18 = .ok (.istore_n 1, 1) := by decide +kernel
theorem dX4_fogs_19 : decode cX4_fogs 19 = .ok (.iinc 2 1, 3) := by decide +kernel
theorem dX4_fogs_22 : decode cX4_fogs 22 = .ok (.goto (-18), 3) := by decide +kernel
theorem dX4_fogs_25 : decode cX4_fogs 25 = .ok (.iload_n 1, 1) := by decide +kernel
theorem dX4_fogs_26 : decode cX4_fogs 26 = .ok (.ireturn, 1) := by decide +kernel
theorem dX4_mostFog_0 : decode cX4_mostFog 0 = .ok (.iconst 0, 1) := by decide +kernel
theorem dX4_mostFog_1 : decode cX4_mostFog 1 = .ok (.istore_n 1, 1) := by decide +kernel
theorem dX4_mostFog_2 : decode cX4_mostFog 2 = .ok (.iconst 1, 1) := by decide +kernel
theorem dX4_mostFog_3 : decode cX4_mostFog 3 = .ok (.istore_n 2, 1) := by decide +kernel
theorem dX4_mostFog_4 : decode cX4_mostFog 4 = .ok (.iload_n 2, 1) := by decide +kernel
theorem dX4_mostFog_5 : decode cX4_mostFog 5 = .ok (.bipush 10, 2) := by decide +kernel
theorem dX4_mostFog_7 : decode cX4_mostFog 7 = .ok (.if_icmp .ge 30, 3) := by decide +kernel
theorem dX4_mostFog_10 : decode cX4_mostFog 10 = .ok (.aload_n 0, 1) := by decide +kernel
theorem dX4_mostFog_11 : decode cX4_mostFog 11 = .ok (.iload_n 2, 1) := by decide +kernel
theorem dX4_mostFog_12 : decode cX4_mostFog 12 = .ok (.iconst 0, 1) := by decide +kernel
theorem dX4_mostFog_13 : decode cX4_mostFog 13 = .ok (.invokevirtual 73, 3) := by decide +kernel
theorem dX4_mostFog_16 : decode cX4_mostFog 16 = .ok (.aload_n 0, 1) := by decide +kernel
theorem dX4_mostFog_17 : decode cX4_mostFog 17 = .ok (.iload_n 1, 1) := by decide +kernel
theorem dX4_mostFog_18 : decode cX4_mostFog 18 = .ok (.iconst 0, 1) := by decide +kernel
theorem dX4_mostFog_19 : decode cX4_mostFog 19 = .ok (.invokevirtual 73, 3) := by decide +kernel
theorem dX4_mostFog_22 : decode cX4_mostFog 22 = .ok (.if_icmp .le 7, 3) := by decide +kernel
theorem dX4_mostFog_25 : decode cX4_mostFog 25 = .ok (.iload_n 2, 1) := by decide +kernel
theorem dX4_mostFog_26 : decode cX4_mostFog 26 = .ok (.goto 4, 3) := by decide +kernel
theorem dX4_mostFog_29 : decode cX4_mostFog 29 = .ok (.iload_n 1, 1) := by decide +kernel
theorem dX4_mostFog_30 : decode cX4_mostFog 30 = .ok (.istore_n 1, 1) := by decide +kernel
theorem dX4_mostFog_31 : decode cX4_mostFog 31 = .ok (.iinc 2 1, 3) := by decide +kernel
theorem dX4_mostFog_34 : decode cX4_mostFog 34 = .ok (.goto (-30), 3) := by decide +kernel
theorem dX4_mostFog_37 : decode cX4_mostFog 37 = .ok (.iload_n 1, 1) := by decide +kernel
theorem dX4_mostFog_38 : decode cX4_mostFog 38 = .ok (.ireturn, 1) := by decide +kernel
theorem dX4_richest_0 : decode cX4_richest 0 = .ok (.iconst (-1), 1) := by decide +kernel
theorem dX4_richest_1 : decode cX4_richest 1 = .ok (.istore_n 1, 1) := by decide +kernel
theorem dX4_richest_2 : decode cX4_richest 2 = .ok (.iconst 0, 1) := by decide +kernel
theorem dX4_richest_3 : decode cX4_richest 3 = .ok (.istore_n 2, 1) := by decide +kernel
theorem dX4_richest_4 : decode cX4_richest 4 = .ok (.iload_n 2, 1) := by decide +kernel
theorem dX4_richest_5 : decode cX4_richest 5 = .ok (.aload_n 0, 1) := by decide +kernel
theorem dX4_richest_6 : decode cX4_richest 6 = .ok (.getfield 9, 3) := by decide +kernel
theorem dX4_richest_9 : decode cX4_richest 9 = .ok (.iconst 1, 1) := by decide +kernel
theorem dX4_richest_10 : decode cX4_richest 10 = .ok (.iaload, 1) := by decide +kernel
theorem dX4_richest_11 : decode cX4_richest 11 = .ok (.if_icmp .ge 34, 3) := by decide +kernel
theorem dX4_richest_14 : decode cX4_richest 14 = .ok (.iload_n 1, 1) := by decide +kernel
theorem dX4_richest_15 : decode cX4_richest 15 = .ok (.ifCond .lt 18, 3) := by decide +kernel
theorem dX4_richest_18 : decode cX4_richest 18 = .ok (.aload_n 0, 1) := by decide +kernel
theorem dX4_richest_19 : decode cX4_richest 19 = .ok (.iload_n 2, 1) := by decide +kernel
theorem dX4_richest_20 : decode cX4_richest 20 = .ok (.iconst 3, 1) := by decide +kernel
theorem dX4_richest_21 : decode cX4_richest 21 = .ok (.invokevirtual 65, 3) := by decide +kernel
theorem dX4_richest_24 : decode cX4_richest 24 = .ok (.aload_n 0, 1) := by decide +kernel
theorem dX4_richest_25 : decode cX4_richest 25 = .ok (.iload_n 1, 1) := by decide +kernel
theorem dX4_richest_26 : decode cX4_richest 26 = .ok (.iconst 3, 1) := by decide +kernel
theorem dX4_richest_27 : decode cX4_richest 27 = .ok (.invokevirtual 65, 3) := by decide +kernel
theorem dX4_richest_30 : decode cX4_richest 30 = .ok (.if_icmp .le 7, 3) := by decide +kernel
theorem dX4_richest_33 : decode cX4_richest 33 = .ok (.iload_n 2, 1) := by decide +kernel
theorem dX4_richest_34 : decode cX4_richest 34 = .ok (.goto 4, 3) := by decide +kernel
theorem dX4_richest_37 : decode cX4_richest 37 = .ok (.iload_n 1, 1) := by decide +kernel
theorem dX4_richest_38 : decode cX4_richest 38 = .ok (.istore_n 1, 1) := by decide +kernel
theorem dX4_richest_39 : decode cX4_richest 39 = .ok (.iinc 2 1, 3) := by decide +kernel
theorem dX4_richest_42 : decode cX4_richest 42 = .ok (.goto (-38), 3) := by decide +kernel
theorem dX4_richest_45 : decode cX4_richest 45 = .ok (.iload_n 1, 1) := by decide +kernel
theorem dX4_richest_46 : decode cX4_richest 46 = .ok (.ireturn, 1) := by decide +kernel
theorem dX4_now_0 : decode cX4_now 0 = .ok (.iload_n 1, 1) := by decide +kernel
theorem dX4_now_1 : decode cX4_now 1 = .ok (.tableswitch 92 0 7 #[47, 54, 59, 64, 70, 76, 81, 86], 47) := by decide +kernel
theorem dX4_now_48 : decode cX4_now 48 = .ok (.aload_n 0, 1) := by decide +kernel
theorem dX4_now_49 : decode cX4_now 49 = .ok (.getfield 9, 3) := by decide +kernel
theorem dX4_now_52 : decode cX4_now 52 = .ok (.iconst 0, 1) := by decide +kernel
theorem dX4_now_53 : decode cX4_now 53 = .ok (.iaload, 1) := by decide +kernel
theorem dX4_now_54 : decode cX4_now 54 = .ok (.ireturn, 1) := by decide +kernel
theorem dX4_now_55 : decode cX4_now 55 = .ok (.aload_n 0, 1) := by decide +kernel
theorem dX4_now_56 : decode cX4_now 56 = .ok (.invokevirtual 151, 3) := by decide +kernel
theorem dX4_now_59 : decode cX4_now 59 = .ok (.ireturn, 1) := by decide +kernel
theorem dX4_now_60 : decode cX4_now 60 = .ok (.aload_n 0, 1) := by decide +kernel
theorem dX4_now_61 : decode cX4_now 61 = .ok (.invokevirtual 147, 3) := by decide +kernel
theorem dX4_now_64 : decode cX4_now 64 = .ok (.ireturn, 1) := by decide +kernel
theorem dX4_now_65 : decode cX4_now 65 = .ok (.aload_n 0, 1) := by decide +kernel
theorem dX4_now_66 : decode cX4_now 66 = .ok (.iconst 3, 1) := by decide +kernel
theorem dX4_now_67 : decode cX4_now 67 = .ok (.invokevirtual 154, 3) := by decide +kernel
theorem dX4_now_70 : decode cX4_now 70 = .ok (.ireturn, 1) := by decide +kernel
theorem dX4_now_71 : decode cX4_now 71 = .ok (.aload_n 0, 1) := by decide +kernel
theorem dX4_now_72 : decode cX4_now 72 = .ok (.iconst 4, 1) := by decide +kernel
theorem dX4_now_73 : decode cX4_now 73 = .ok (.invokevirtual 154, 3) := by decide +kernel
theorem dX4_now_76 : decode cX4_now 76 = .ok (.ireturn, 1) := by decide +kernel
theorem dX4_now_77 : decode cX4_now 77 = .ok (.aload_n 0, 1) := by decide +kernel
theorem dX4_now_78 : decode cX4_now 78 = .ok (.invokevirtual 157, 3) := by decide +kernel
theorem dX4_now_81 : decode cX4_now 81 = .ok (.ireturn, 1) := by decide +kernel
theorem dX4_now_82 : decode cX4_now 82 = .ok (.aload_n 0, 1) := by decide +kernel
theorem dX4_now_83 : decode cX4_now 83 = .ok (.invokevirtual 160, 3) := by decide +kernel
theorem dX4_now_86 : decode cX4_now 86 = .ok (.ireturn, 1) := by decide +kernel
theorem dX4_now_87 : decode cX4_now 87 = .ok (.aload_n 0, 1) := by decide +kernel
theorem dX4_now_88 : decode cX4_now 88 = .ok (.iconst (-1), 1) := by decide +kernel
theorem dX4_now_89 : decode cX4_now 89 = .ok (.invokevirtual 141, 3) := by decide +kernel
theorem dX4_now_92 : decode cX4_now 92 = .ok (.ireturn, 1) := by decide +kernel
theorem dX4_now_93 : decode cX4_now 93 = .ok (.aload_n 0, 1) := by decide +kernel
theorem dX4_now_94 : decode cX4_now 94 = .ok (.iconst 0, 1) := by decide +kernel
theorem dX4_now_95 : decode cX4_now 95 = .ok (.invokevirtual 129, 3) := by decide +kernel
theorem dX4_now_98 : decode cX4_now 98 = .ok (.ireturn, 1) := by decide +kernel
theorem dX4_ahead_0 : decode cX4_ahead 0 = .ok (.aload_n 0, 1) := by decide +kernel
theorem dX4_ahead_1 : decode cX4_ahead 1 = .ok (.iload_n 1, 1) := by decide +kernel
theorem dX4_ahead_2 : decode cX4_ahead 2 = .ok (.invokevirtual 138, 3) := by decide +kernel
theorem dX4_ahead_5 : decode cX4_ahead 5 = .ok (.ifCond .eq 22, 3) := by decide +kernel
theorem dX4_ahead_8 : decode cX4_ahead 8 = .ok (.iload_n 2, 1) := by decide +kernel
theorem dX4_ahead_9 : decode cX4_ahead 9 = .ok (.iconst 1, 1) := by decide +kernel
theorem dX4_ahead_10 : decode cX4_ahead 10 = .ok (.iconst 4, 1) := by decide +kernel
theorem dX4_ahead_11 : decode cX4_ahead 11 = .ok (.invokestatic 61, 3) := by decide +kernel
theorem dX4_ahead_14 : decode cX4_ahead 14 = .ok (.ifCond .eq 13, 3) := by decide +kernel
theorem dX4_ahead_17 : decode cX4_ahead 17 = .ok (.iload_n 3, 1) := by decide +kernel
theorem dX4_ahead_18 : decode cX4_ahead 18 = .ok (.iconst 0, 1) := by decide +kernel
theorem dX4_ahead_19 : decode cX4_ahead 19 = .ok (.bipush 100, 2) := by decide +kernel
theorem dX4_ahead_21 : decode cX4_ahead 21 = .ok (.invokestatic 61, 3) := by decide +kernel
theorem dX4_ahead_24 : decode cX4_ahead 24 = .ok (.ifCond .ne 9, 3) := by decide +kernel
theorem dX4_ahead_27 : decode cX4_ahead 27 = .ok (.aload_n 0, 1) := by decide +kernel
theorem dX4_ahead_28 : decode cX4_ahead 28 = .ok (.iconst 0, 1) := by decide +kernel
theorem dX4_ahead_29 : decode cX4_ahead 29 = .ok (.invokevirtual 129, 3) := by decide +kernel
theorem dX4_ahead_32 : decode cX4_ahead 32 = .ok (.ireturn, 1) := by decide +kernel
theorem dX4_ahead_33 : decode cX4_ahead 33 = .ok (.aload_n 0, 1) := by decide +kernel
theorem dX4_ahead_34 : decode cX4_ahead 34 = .ok (.invokevirtual 163, 3) := by decide +kernel
theorem dX4_ahead_37 : decode cX4_ahead 37 = .ok (.aload_n 0, 1) := by decide +kernel
theorem dX4_ahead_38 : decode cX4_ahead 38 = .ok (.iload_n 3, 1) := by decide +kernel
theorem dX4_ahead_39 : decode cX4_ahead 39 = .ok (.invokevirtual 144, 3) := by decide +kernel
theorem dX4_ahead_42 : decode cX4_ahead 42 = .ok (.aload_n 0, 1) := by decide +kernel
theorem dX4_ahead_43 : decode cX4_ahead 43 = .ok (.iload_n 1, 1) := by decide +kernel
theorem dX4_ahead_44 : decode cX4_ahead 44 = .ok (.iload_n 2, 1) := by decide +kernel
theorem dX4_ahead_45 : decode cX4_ahead 45 = .ok (.invokevirtual 65, 3) := by decide +kernel
theorem dX4_ahead_48 : decode cX4_ahead 48 = .ok (.istore 4, 2) := by decide +kernel
theorem dX4_ahead_50 : decode cX4_ahead 50 = .ok (.aload_n 0, 1) := by decide +kernel
theorem dX4_ahead_51 : decode cX4_ahead 51 = .ok (.invokevirtual 166, 3) := by decide +kernel
theorem dX4_ahead_54 : decode cX4_ahead 54 = .ok (.iload 4, 2) := by decide +kernel
theorem dX4_ahead_56 : decode cX4_ahead 56 = .ok (.ireturn, 1) := by decide +kernel
theorem dX4_fog_0 : decode cX4_fog 0 = .ok (.iload_n 1, 1) := by decide +kernel
theorem dX4_fog_1 : decode cX4_fog 1 = .ok (.invokestatic 126, 3) := by decide +kernel
theorem dX4_fog_4 : decode cX4_fog 4 = .ok (.ifCond .eq 13, 3) := by decide +kernel
theorem dX4_fog_7 : decode cX4_fog 7 = .ok (.iload_n 2, 1) := by decide +kernel
theorem dX4_fog_8 : decode cX4_fog 8 = .ok (.iconst 0, 1) := by decide +kernel
theorem dX4_fog_9 : decode cX4_fog 9 = .ok (.bipush 100, 2) := by decide +kernel
theorem dX4_fog_11 : decode cX4_fog 11 = .ok (.invokestatic 61, 3) := by decide +kernel
theorem dX4_fog_14 : decode cX4_fog 14 = .ok (.ifCond .ne 9, 3) := by decide +kernel
theorem dX4_fog_17 : decode cX4_fog 17 = .ok (.aload_n 0, 1) := by decide +kernel
theorem dX4_fog_18 : decode cX4_fog 18 = .ok (.iconst 0, 1) := by decide +kernel
theorem dX4_fog_19 : decode cX4_fog 19 = .ok (.invokevirtual 129, 3) := by decide +kernel
theorem dX4_fog_22 : decode cX4_fog 22 = .ok (.ireturn, 1) := by decide +kernel
theorem dX4_fog_23 : decode cX4_fog 23 = .ok (.aload_n 0, 1) := by decide +kernel
theorem dX4_fog_24 : decode cX4_fog 24 = .ok (.invokevirtual 163, 3) := by decide +kernel
theorem dX4_fog_27 : decode cX4_fog 27 = .ok (.aload_n 0, 1) := by decide +kernel
theorem dX4_fog_28 : decode cX4_fog 28 = .ok (.iload_n 2, 1) := by decide +kernel
theorem dX4_fog_29 : decode cX4_fog 29 = .ok (.invokevirtual 144, 3) := by decide +kernel
theorem dX4_fog_32 : decode cX4_fog 32 = .ok (.aload_n 0, 1) := by decide +kernel
theorem dX4_fog_33 : decode cX4_fog 33 = .ok (.iload_n 1, 1) := by decide +kernel
theorem dX4_fog_34 : decode cX4_fog 34 = .ok (.iconst 0, 1) := by decide +kernel
theorem dX4_fog_35 : decode cX4_fog 35 = .ok (.invokevirtual 73, 3) := by decide +kernel
theorem dX4_fog_38 : decode cX4_fog 38 = .ok (.istore_n 3, 1) := by decide +kernel
theorem dX4_fog_39 : decode cX4_fog 39 = .ok (.aload_n 0, 1) := by decide +kernel
theorem dX4_fog_40 : decode cX4_fog 40 = .ok (.invokevirtual 166, 3) := by decide +kernel
theorem dX4_fog_43 : decode cX4_fog 43 = .ok (.iload_n 3, 1) := by decide +kernel
theorem dX4_fog_44 : decode cX4_fog 44 = .ok (.ireturn, 1) := by decide +kernel
theorem dX4_isSo_0 : decode cX4_isSo 0 = .ok (.iload_n 3, 1) := by decide +kernel
theorem dX4_isSo_1 : decode cX4_isSo 1 = .ok (.ifCond .ne 21, 3) := by decide +kernel
theorem dX4_isSo_4 : decode cX4_isSo 4 = .ok (.aload_n 0, 1) := by decide +kernel
theorem dX4_isSo_5 : decode cX4_isSo 5 = .ok (.iload_n 1, 1) := by decide +kernel
theorem dX4_isSo_6 : decode cX4_isSo 6 = .ok (.iconst 4, 1) := by decide +kernel
theorem dX4_isSo_7 : decode cX4_isSo 7 = .ok (.invokevirtual 65, 3) := by decide +kernel
theorem dX4_isSo_10 : decode cX4_isSo 10 = .ok (.iload_n 2, 1) := by decide +kernel
theorem dX4_isSo_11 : decode cX4_isSo 11 = .ok (.if_icmp .le 7, 3) := by decide +kernel
theorem dX4_isSo_14 : decode cX4_isSo 14 = .ok (.iconst 1, 1) := by decide +kernel
theorem dX4_isSo_15 : decode cX4_isSo 15 = .ok (.goto 56, 3) := by decide +kernel
theorem dX4_isSo_18 : decode cX4_isSo 18 = .ok (.iconst 0, 1) := by decide +kernel
theorem dX4_isSo_19 : decode cX4_isSo 19 = .ok (.goto 52, 3) := by decide +kernel
theorem dX4_isSo_22 : decode cX4_isSo 22 = .ok (.iload_n 3, 1) := by decide +kernel
theorem dX4_isSo_23 : decode cX4_isSo 23 = .ok (.iconst 1, 1) := by decide +kernel
theorem dX4_isSo_24 : decode cX4_isSo 24 = .ok (.if_icmp .ne 18, 3) := by decide +kernel
theorem dX4_isSo_27 : decode cX4_isSo 27 = .ok (.aload_n 0, 1) := by decide +kernel
theorem dX4_isSo_28 : decode cX4_isSo 28 = .ok (.invokevirtual 147, 3) := by decide +kernel
theorem dX4_isSo_31 : decode cX4_isSo 31 = .ok (.ifCond .ne 7, 3) := by decide +kernel
theorem dX4_isSo_34 : decode cX4_isSo 34 = .ok (.iconst 1, 1) := by decide +kernel
theorem dX4_isSo_35 : decode cX4_isSo 35 = .ok (.goto 36, 3) := by decide +kernel
theorem dX4_isSo_38 : decode cX4_isSo 38 = .ok (.iconst 0, 1) := by decide +kernel
theorem dX4_isSo_39 : decode cX4_isSo 39 = .ok (.goto 32, 3) := by decide +kernel
theorem dX4_isSo_42 : decode cX4_isSo 42 = .ok (.aload_n 0, 1) := by decide +kernel
theorem dX4_isSo_43 : decode cX4_isSo 43 = .ok (.iload_n 1, 1) := by decide +kernel
theorem dX4_isSo_44 : decode cX4_isSo 44 = .ok (.iconst 1, 1) := by decide +kernel
theorem dX4_isSo_45 : decode cX4_isSo 45 = .ok (.invokevirtual 65, 3) := by decide +kernel
theorem dX4_isSo_48 : decode cX4_isSo 48 = .ok (.ifCond .lt 22, 3) := by decide +kernel
theorem dX4_isSo_51 : decode cX4_isSo 51 = .ok (.aload_n 0, 1) := by decide +kernel
theorem dX4_isSo_52 : decode cX4_isSo 52 = .ok (.iload_n 1, 1) := by decide +kernel
theorem dX4_isSo_53 : decode cX4_isSo 53 = .ok (.iconst 1, 1) := by decide +kernel
theorem dX4_isSo_54 : decode cX4_isSo 54 = .ok (.invokevirtual 65, 3) := by decide +kernel
theorem dX4_isSo_57 : decode cX4_isSo 57 = .ok (.aload_n 0, 1) := by decide +kernel
theorem dX4_isSo_58 : decode cX4_isSo 58 = .ok (.iload_n 2, 1) := by decide +kernel
theorem dX4_isSo_59 : decode cX4_isSo 59 = .ok (.iconst 1, 1) := by decide +kernel
theorem dX4_isSo_60 : decode cX4_isSo 60 = .ok (.invokevirtual 65, 3) := by decide +kernel
theorem dX4_isSo_63 : decode cX4_isSo 63 = .ok (.if_icmp .ne 7, 3) := by decide +kernel
theorem dX4_isSo_66 : decode cX4_isSo 66 = .ok (.iconst 1, 1) := by decide +kernel
theorem dX4_isSo_67 : decode cX4_isSo 67 = .ok (.goto 4, 3) := by decide +kernel
theorem dX4_isSo_70 : decode cX4_isSo 70 = .ok (.iconst 0, 1) := by decide +kernel
theorem dX4_isSo_71 : decode cX4_isSo 71 = .ok (.ireturn, 1) := by decide +kernel
theorem dX4_firstBy_0 : decode cX4_firstBy 0 = .ok (.aload_n 0, 1) := by decide +kernel
theorem dX4_firstBy_1 : decode cX4_firstBy 1 = .ok (.invokevirtual 163, 3) := by decide +kernel
theorem dX4_firstBy_4 : decode cX4_firstBy 4 = .ok (.iconst 0, 1) := by decide +kernel
theorem dX4_firstBy_5 : decode cX4_firstBy 5 = .ok (.istore 4, 2) := by decide +kernel
theorem dX4_firstBy_7 : decode cX4_firstBy 7 = .ok (.iload 4, 2) := by decide +kernel
theorem dX4_firstBy_9 : decode cX4_firstBy 9 = .ok (.bipush 100, 2) := by decide +kernel
theorem dX4_firstBy_11 : decode cX4_firstBy 11 = .ok (.if_icmp .gt 23, 3) := by decide +kernel
theorem dX4_firstBy_14 : decode cX4_firstBy 14 = .ok (.aload_n 0, 1) := by decide +kernel
theorem dX4_firstBy_15 : decode cX4_firstBy 15 = .ok (.iload_n 1, 1) := by decide +kernel
theorem dX4_firstBy_16 : decode cX4_firstBy 16 = .ok (.iload_n 2, 1) := by decide +kernel
theorem dX4_firstBy_17 : decode cX4_firstBy 17 = .ok (.iload_n 3, 1) := by decide +kernel
theorem dX4_firstBy_18 : decode cX4_firstBy 18 = .ok (.invokevirtual 169, 3) := by decide +kernel
theorem dX4_firstBy_21 : decode cX4_firstBy 21 = .ok (.ifCond .ne 13, 3) := by decide +kernel
theorem dX4_firstBy_24 : decode cX4_firstBy 24 = .ok (.aload_n 0, 1) := by decide +kernel
theorem dX4_firstBy_25 : decode cX4_firstBy 25 = .ok (.invokevirtual 123, 3) := by decide +kernel
theorem dX4_firstBy_28 : decode cX4_firstBy 28 = .ok (.iinc 4 1, 3) := by decide +kernel
theorem dX4_firstBy_31 : decode cX4_firstBy 31 = .ok (.goto (-24), 3) := by decide +kernel
theorem dX4_firstBy_34 : decode cX4_firstBy 34 = .ok (.aload_n 0, 1) := by decide +kernel
theorem dX4_firstBy_35 : decode cX4_firstBy 35 = .ok (.invokevirtual 166, 3) := by decide +kernel
theorem dX4_firstBy_38 : decode cX4_firstBy 38 = .ok (.iload 4, 2) := by decide +kernel
theorem dX4_firstBy_40 : decode cX4_firstBy 40 = .ok (.bipush 100, 2) := by decide +kernel
theorem dX4_firstBy_42 : decode cX4_firstBy 42 = .ok (.if_icmp .le 11, 3) := by decide +kernel
theorem dX4_firstBy_45 : decode cX4_firstBy 45 = .ok (.aload_n 0, 1) := by decide +kernel
theorem dX4_firstBy_46 : decode cX4_firstBy 46 = .ok (.iconst 3, 1) := by decide +kernel
theorem dX4_firstBy_47 : decode cX4_firstBy 47 = .ok (.invokevirtual 129, 3) := by decide +kernel
theorem dX4_firstBy_50 : decode cX4_firstBy 50 = .ok (.goto 5, 3) := by decide +kernel
theorem dX4_firstBy_53 : decode cX4_firstBy 53 = .ok (.iload 4, 2) := by decide +kernel
theorem dX4_firstBy_55 : decode cX4_firstBy 55 = .ok (.ireturn, 1) := by decide +kernel
theorem dX4_falls_0 : decode cX4_falls 0 = .ok (.aload_n 0, 1) := by decide +kernel
theorem dX4_falls_1 : decode cX4_falls 1 = .ok (.iload_n 1, 1) := by decide +kernel
theorem dX4_falls_2 : decode cX4_falls 2 = .ok (.invokevirtual 138, 3) := by decide +kernel
theorem dX4_falls_5 : decode cX4_falls 5 = .ok (.ifCond .eq 18, 3) := by decide +kernel
theorem dX4_falls_8 : decode cX4_falls 8 = .ok (.aload_n 0, 1) := by decide +kernel
theorem dX4_falls_9 : decode cX4_falls 9 = .ok (.iload_n 1, 1) := by decide +kernel
theorem dX4_falls_10 : decode cX4_falls 10 = .ok (.aload_n 0, 1) := by decide +kernel
theorem dX4_falls_11 : decode cX4_falls 11 = .ok (.iload_n 1, 1) := by decide +kernel
theorem dX4_falls_12 : decode cX4_falls 12 = .ok (.iconst 4, 1) := by decide +kernel
theorem dX4_falls_13 : decode cX4_falls 13 = .ok (.invokevirtual 65, 3) := by decide +kernel
theorem dX4_falls_16 : decode cX4_falls 16 = .ok (.iconst 0, 1) := by decide +kernel
theorem dX4_falls_17 : decode cX4_falls 17 = .ok (.invokevirtual 172, 3) := by decide +kernel
theorem dX4_falls_20 : decode cX4_falls 20 = .ok (.goto 8, 3) := by decide +kernel
theorem dX4_falls_23 : decode cX4_falls 23 = .ok (.aload_n 0, 1) := by decide +kernel
theorem dX4_falls_24 : decode cX4_falls 24 = .ok (.iconst 0, 1) := by decide +kernel
theorem dX4_falls_25 : decode cX4_falls 25 = .ok (.invokevirtual 129, 3) := by decide +kernel
theorem dX4_falls_28 : decode cX4_falls 28 = .ok (.ireturn, 1) := by decide +kernel
theorem dX4_bare_0 : decode cX4_bare 0 = .ok (.aload_n 0, 1) := by decide +kernel
theorem dX4_bare_1 : decode cX4_bare 1 = .ok (.iconst 0, 1) := by decide +kernel
theorem dX4_bare_2 : decode cX4_bare 2 = .ok (.iconst 0, 1) := by decide +kernel
theorem dX4_bare_3 : decode cX4_bare 3 = .ok (.iconst 1, 1) := by decide +kernel
theorem dX4_bare_4 : decode cX4_bare 4 = .ok (.invokevirtual 172, 3) := by decide +kernel
theorem dX4_bare_7 : decode cX4_bare 7 = .ok (.ireturn, 1) := by decide +kernel
theorem dX4_meet_0 : decode cX4_meet 0 = .ok (.aload_n 0, 1) := by decide +kernel
theorem dX4_meet_1 : decode cX4_meet 1 = .ok (.iload_n 1, 1) := by decide +kernel
theorem dX4_meet_2 : decode cX4_meet 2 = .ok (.invokevirtual 138, 3) := by decide +kernel
theorem dX4_meet_5 : decode cX4_meet 5 = .ok (.ifCond .eq 26, 3) := by decide +kernel
theorem dX4_meet_8 : decode cX4_meet 8 = .ok (.aload_n 0, 1) := by decide +kernel
theorem dX4_meet_9 : decode cX4_meet 9 = .ok (.iload_n 2, 1) := by decide +kernel
theorem dX4_meet_10 : decode cX4_meet 10 = .ok (.invokevirtual 138, 3) := by decide +kernel
theorem dX4_meet_13 : decode cX4_meet 13 = .ok (.ifCond .eq 18, 3) := by decide +kernel
theorem dX4_meet_16 : decode cX4_meet 16 = .ok (.iload_n 1, 1) := by decide +kernel
theorem dX4_meet_17 : decode cX4_meet 17 = .ok (.iload_n 2, 1) := by decide +kernel
theorem dX4_meet_18 : decode cX4_meet 18 = .ok (.if_icmp .eq 13, 3) := by decide +kernel
theorem dX4_meet_21 : decode cX4_meet 21 = .ok (.aload_n 0, 1) := by decide +kernel
theorem dX4_meet_22 : decode cX4_meet 22 = .ok (.iload_n 1, 1) := by decide +kernel
theorem dX4_meet_23 : decode cX4_meet 23 = .ok (.iload_n 2, 1) := by decide +kernel
theorem dX4_meet_24 : decode cX4_meet 24 = .ok (.iconst 2, 1) := by decide +kernel
theorem dX4_meet_25 : decode cX4_meet 25 = .ok (.invokevirtual 172, 3) := by decide +kernel
theorem dX4_meet_28 : decode cX4_meet 28 = .ok (.goto 8, 3) := by decide +kernel
theorem dX4_meet_31 : decode cX4_meet 31 = .ok (.aload_n 0, 1) := by decide +kernel
theorem dX4_meet_32 : decode cX4_meet 32 = .ok (.iconst 0, 1) := by decide +kernel
theorem dX4_meet_33 : decode cX4_meet 33 = .ok (.invokevirtual 129, 3) := by decide +kernel
theorem dX4_meet_36 : decode cX4_meet 36 = .ok (.ireturn, 1) := by decide +kernel
theorem dX4_isSoon_0 : decode cX4_isSoon 0 = .ok (.iload_n 0, 1) := by decide +kernel
theorem dX4_isSoon_1 : decode cX4_isSoon 1 = .ok (.iconst 0, 1) := by decide +kernel
theorem dX4_isSoon_2 : decode cX4_isSoon 2 = .ok (.bipush 40, 2) := by decide +kernel
theorem dX4_isSoon_4 : decode cX4_isSoon 4 = .ok (.invokestatic 61, 3) := by decide +kernel
theorem dX4_isSoon_7 : decode cX4_isSoon 7 = .ok (.ireturn, 1) := by decide +kernel
theorem dX4_thenWith_0 : decode cX4_thenWith 0 = .ok (.aload_n 0, 1) := by decide +kernel
theorem dX4_thenWith_1 : decode cX4_thenWith 1 = .ok (.invokevirtual 163, 3) := by decide +kernel
theorem dX4_thenWith_4 : decode cX4_thenWith 4 = .ok (.aload_n 0, 1) := by decide +kernel
theorem dX4_thenWith_5 : decode cX4_thenWith 5 = .ok (.iload_n 1, 1) := by decide +kernel
theorem dX4_thenWith_6 : decode cX4_thenWith 6 = .ok (.iload_n 2, 1) := by decide +kernel
theorem dX4_thenWith_7 : decode cX4_thenWith 7 = .ok (.iload_n 3, 1) := by decide +kernel
theorem dX4_thenWith_8 : decode cX4_thenWith 8 = .ok (.invokevirtual 95, 3) := by decide +kernel
theorem dX4_thenWith_11 : decode cX4_thenWith 11 = .ok (.aload_n 0, 1) := by decide +kernel
theorem dX4_thenWith_12 : decode cX4_thenWith 12 = .ok (.iload 4, 2) := by decide +kernel
theorem dX4_thenWith_14 : decode cX4_thenWith 14 = .ok (.invokevirtual 144, 3) := by decide +kernel
theorem dX4_thenWith_17 : decode cX4_thenWith 17 = .ok (.aload_n 0, 1) := by decide +kernel
theorem dX4_thenWith_18 : decode cX4_thenWith 18 = .ok (.iload_n 1, 1) := by decide +kernel
theorem dX4_thenWith_19 : decode cX4_thenWith 19 = .ok (.iload 5, 2) := by decide +kernel
theorem dX4_thenWith_21 : decode cX4_thenWith 21 = .ok (.invokevirtual 65, 3) := by decide +kernel
theorem dX4_thenWith_24 : decode cX4_thenWith 24 = .ok (.istore 6, 2) := by decide +kernel
theorem dX4_thenWith_26 : decode cX4_thenWith 26 = .ok (.aload_n 0, 1) := by decide +kernel
theorem dX4_thenWith_27 : decode cX4_thenWith 27 = .ok (.invokevirtual 166, 3) := by decide +kernel
theorem dX4_thenWith_30 : decode cX4_thenWith 30 = .ok (.iload 6, 2) := by decide +kernel
theorem dX4_thenWith_32 : decode cX4_thenWith 32 = .ok (.ireturn, 1) := by decide +kernel
theorem dX4_beliefFor_0 : decode cX4_beliefFor 0 = .ok (.aload_n 0, 1) := by decide +kernel
theorem dX4_beliefFor_1 : decode cX4_beliefFor 1 = .ok (.iload_n 1, 1) := by decide +kernel
theorem dX4_beliefFor_2 : decode cX4_beliefFor 2 = .ok (.invokevirtual 138, 3) := by decide +kernel
theorem dX4_beliefFor_5 : decode cX4_beliefFor 5 = .ok (.ifCond .eq 10, 3) := by decide +kernel
theorem dX4_beliefFor_8 : decode cX4_beliefFor 8 = .ok (.iload_n 2, 1) := by decide +kernel
theorem dX4_beliefFor_9 : decode cX4_beliefFor 9 = .ok (.invokestatic 176, 3) := by decide +kernel
theorem dX4_beliefFor_12 : decode cX4_beliefFor 12 = .ok (.ifCond .ne 9, 3) := by decide +kernel
theorem dX4_beliefFor_15 : decode cX4_beliefFor 15 = .ok (.aload_n 0, 1) := by decide +kernel
theorem dX4_beliefFor_16 : decode cX4_beliefFor 16 = .ok (.iconst 0, 1) := by decide +kernel
theorem dX4_beliefFor_17 : decode cX4_beliefFor 17 = .ok (.invokevirtual 129, 3) := by decide +kernel
theorem dX4_beliefFor_20 : decode cX4_beliefFor 20 = .ok (.ireturn, 1) := by decide +kernel
theorem dX4_beliefFor_21 : decode cX4_beliefFor 21 = .ok (.iconst 0, 1) := by decide +kernel
theorem dX4_beliefFor_22 : decode cX4_beliefFor 22 = .ok (.istore_n 3, 1) := by decide +kernel
theorem dX4_beliefFor_23 : decode cX4_beliefFor 23 = .ok (.iload_n 3, 1) := by decide +kernel
theorem dX4_beliefFor_24 : decode cX4_beliefFor 24 = .ok (.bipush 100, 2) := by decide +kernel
theorem dX4_beliefFor_26 : decode cX4_beliefFor 26 = .ok (.if_icmp .ge 27, 3) := by decide +kernel
theorem dX4_beliefFor_29 : decode cX4_beliefFor 29 = .ok (.aload_n 0, 1) := by decide +kernel
theorem dX4_beliefFor_30 : decode cX4_beliefFor 30 = .ok (.iload_n 1, 1) := by decide +kernel
theorem dX4_beliefFor_31 : decode cX4_beliefFor 31 = .ok (.iconst 2, 1) := by decide +kernel
theorem dX4_beliefFor_32 : decode cX4_beliefFor 32 = .ok (.iload_n 3, 1) := by decide +kernel
theorem dX4_beliefFor_33 : decode cX4_beliefFor 33 = .ok (.iload_n 2, 1) := by decide +kernel
theorem dX4_beliefFor_34 : decode cX4_beliefFor 34 = .ok (.iconst 4, 1) := by decide +kernel
theorem dX4_beliefFor_35 : decode cX4_beliefFor 35 = .ok (.invokevirtual 179, 3) := by decide +kernel
theorem dX4_beliefFor_38 : decode cX4_beliefFor 38 = .ok (.aload_n 0, 1) := by decide +kernel
theorem dX4_beliefFor_39 : decode cX4_beliefFor 39 = .ok (.iload_n 1, 1) := by decide +kernel
theorem dX4_beliefFor_40 : decode cX4_beliefFor 40 = .ok (.iconst 4, 1) := by decide +kernel
theorem dX4_beliefFor_41 : decode cX4_beliefFor 41 = .ok (.invokevirtual 65, 3) := by decide +kernel
theorem dX4_beliefFor_44 : decode cX4_beliefFor 44 = .ok (.if_icmp .eq 9, 3) := by decide +kernel
theorem dX4_beliefFor_47 : decode cX4_beliefFor 47 = .ok (.iinc 3 1, 3) := by decide +kernel
theorem dX4_beliefFor_50 : decode cX4_beliefFor 50 = .ok (.goto (-27), 3) := by decide +kernel
theorem dX4_beliefFor_53 : decode cX4_beliefFor 53 = .ok (.iload_n 3, 1) := by decide +kernel
theorem dX4_beliefFor_54 : decode cX4_beliefFor 54 = .ok (.bipush 100, 2) := by decide +kernel
theorem dX4_beliefFor_56 : decode cX4_beliefFor 56 = .ok (.if_icmp .ne 11, 3) := by decide +kernel
theorem dX4_beliefFor_59 : decode cX4_beliefFor 59 = .ok (.aload_n 0, 1) := by decide +kernel
theorem dX4_beliefFor_60 : decode cX4_beliefFor 60 = .ok (.iconst 3, 1) := by decide +kernel
theorem dX4_beliefFor_61 : decode cX4_beliefFor 61 = .ok (.invokevirtual 129, 3) := by decide +kernel
theorem dX4_beliefFor_64 : decode cX4_beliefFor 64 = .ok (.goto 4, 3) := by decide +kernel
theorem dX4_beliefFor_67 : decode cX4_beliefFor 67 = .ok (.iload_n 3, 1) := by decide +kernel
theorem dX4_beliefFor_68 : decode cX4_beliefFor 68 = .ok (.ireturn, 1) := by decide +kernel
theorem dX4_settle_0 : decode cX4_settle 0 = .ok (.aload_n 0, 1) := by decide +kernel
theorem dX4_settle_1 : decode cX4_settle 1 = .ok (.iload_n 1, 1) := by decide +kernel
theorem dX4_settle_2 : decode cX4_settle 2 = .ok (.invokevirtual 138, 3) := by decide +kernel
theorem dX4_settle_5 : decode cX4_settle 5 = .ok (.ifCond .eq 10, 3) := by decide +kernel
theorem dX4_settle_8 : decode cX4_settle 8 = .ok (.iload_n 2, 1) := by decide +kernel
theorem dX4_settle_9 : decode cX4_settle 9 = .ok (.invokestatic 176, 3) := by decide +kernel
theorem dX4_settle_12 : decode cX4_settle 12 = .ok (.ifCond .ne 9, 3) := by decide +kernel
theorem dX4_settle_15 : decode cX4_settle 15 = .ok (.aload_n 0, 1) := by decide +kernel
theorem dX4_settle_16 : decode cX4_settle 16 = .ok (.iconst 0, 1) := by decide +kernel
theorem dX4_settle_17 : decode cX4_settle 17 = .ok (.invokevirtual 129, 3) := by decide +kernel
theorem dX4_settle_20 : decode cX4_settle 20 = .ok (.ireturn, 1) := by decide +kernel
theorem dX4_settle_21 : decode cX4_settle 21 = .ok (.iconst 0, 1) := by decide +kernel
theorem dX4_settle_22 : decode cX4_settle 22 = .ok (.istore_n 3, 1) := by decide +kernel
theorem dX4_settle_23 : decode cX4_settle 23 = .ok (.aload_n 0, 1) := by decide +kernel
theorem dX4_settle_24 : decode cX4_settle 24 = .ok (.iload_n 1, 1) := by decide +kernel
theorem dX4_settle_25 : decode cX4_settle 25 = .ok (.iconst 1, 1) := by decide +kernel
theorem dX4_settle_26 : decode cX4_settle 26 = .ok (.iconst 0, 1) := by decide +kernel
theorem dX4_settle_27 : decode cX4_settle 27 = .ok (.iload_n 2, 1) := by decide +kernel
theorem dX4_settle_28 : decode cX4_settle 28 = .ok (.iconst 4, 1) := by decide +kernel
theorem dX4_settle_29 : decode cX4_settle 29 = .ok (.invokevirtual 179, 3) := by decide +kernel
theorem dX4_settle_32 : decode cX4_settle 32 = .ok (.istore 4, 2) := by decide +kernel
theorem dX4_settle_34 : decode cX4_settle 34 = .ok (.iconst 1, 1) := by decide +kernel
theorem dX4_settle_35 : decode cX4_settle 35 = .ok (.istore 5, 2) := by decide +kernel
theorem dX4_settle_37 : decode cX4_settle 37 = .ok (.iload 5, 2) := by decide +kernel
theorem dX4_settle_39 : decode cX4_settle 39 = .ok (.bipush 10, 2) := by decide +kernel
theorem dX4_settle_41 : decode cX4_settle 41 = .ok (.if_icmp .ge 44, 3) := by decide +kernel
theorem dX4_settle_44 : decode cX4_settle 44 = .ok (.aload_n 0, 1) := by decide +kernel
theorem dX4_settle_45 : decode cX4_settle 45 = .ok (.iload_n 1, 1) := by decide +kernel
theorem dX4_settle_46 : decode cX4_settle 46 = .ok (.iconst 1, 1) := by decide +kernel
theorem dX4_settle_47 : decode cX4_settle 47 = .ok (.iload 5, 2) := by decide +kernel
theorem dX4_settle_49 : decode cX4_settle 49 = .ok (.iload_n 2, 1) := by decide +kernel
theorem dX4_settle_50 : decode cX4_settle 50 = .ok (.iconst 4, 1) := by decide +kernel
theorem dX4_settle_51 : decode cX4_settle 51 = .ok (.invokevirtual 179, 3) := by decide +kernel
theorem dX4_settle_54 : decode cX4_settle 54 = .ok (.istore 6, 2) := by decide +kernel
theorem dX4_settle_56 : decode cX4_settle 56 = .ok (.iload 6, 2) := by decide +kernel
theorem dX4_settle_58 : decode cX4_settle 58 = .ok (.iload 4, 2) := by decide +kernel
theorem dX4_settle_60 : decode cX4_settle 60 = .ok (.if_icmp .ge 8, 3) := by decide +kernel
theorem dX4_settle_63 : decode cX4_settle 63 = .ok (.iload 5, 2) := by decide +kernel
theorem dX4_settle_65 : decode cX4_settle 65 = .ok (.goto 4, 3) := by decide +kernel
theorem dX4_settle_68 : decode cX4_settle 68 = .ok (.iload_n 3, 1) := by decide +kernel
theorem dX4_settle_69 : decode cX4_settle 69 = .ok (.istore_n 3, 1) := by decide +kernel
theorem dX4_settle_70 : decode cX4_settle 70 = .ok (.iload 6, 2) := by decide +kernel
theorem dX4_settle_72 : decode cX4_settle 72 = .ok (.iload 4, 2) := by decide +kernel
theorem dX4_settle_74 : decode cX4_settle 74 = .ok (.invokestatic 89, 3) := by decide +kernel
theorem dX4_settle_77 : decode cX4_settle 77 = .ok (.istore 4, 2) := by decide +kernel
theorem dX4_settle_79 : decode cX4_settle 79 = .ok (.iinc 5 1, 3) := by decide +kernel
theorem dX4_settle_82 : decode cX4_settle 82 = .ok (.goto (-45), 3) := by decide +kernel
theorem dX4_settle_85 : decode cX4_settle 85 = .ok (.iload_n 3, 1) := by decide +kernel
theorem dX4_settle_86 : decode cX4_settle 86 = .ok (.ireturn, 1) := by decide +kernel
theorem dX4_kindFor_0 : decode cX4_kindFor 0 = .ok (.aload_n 0, 1) := by decide +kernel
theorem dX4_kindFor_1 : decode cX4_kindFor 1 = .ok (.iload_n 1, 1) := by decide +kernel
theorem dX4_kindFor_2 : decode cX4_kindFor 2 = .ok (.invokevirtual 138, 3) := by decide +kernel
theorem dX4_kindFor_5 : decode cX4_kindFor 5 = .ok (.ifCond .eq 10, 3) := by decide +kernel
theorem dX4_kindFor_8 : decode cX4_kindFor 8 = .ok (.iload_n 2, 1) := by decide +kernel
theorem dX4_kindFor_9 : decode cX4_kindFor 9 = .ok (.invokestatic 176, 3) := by decide +kernel
theorem dX4_kindFor_12 : decode cX4_kindFor 12 = .ok (.ifCond .ne 9, 3) := by decide +kernel
theorem dX4_kindFor_15 : decode cX4_kindFor 15 = .ok (.aload_n 0, 1) := by decide +kernel
theorem dX4_kindFor_16 : decode cX4_kindFor 16 = .ok (.iconst 0, 1) := by decide +kernel
theorem dX4_kindFor_17 : decode cX4_kindFor 17 = .ok (.invokevirtual 129, 3) := by decide +kernel
theorem dX4_kindFor_20 : decode cX4_kindFor 20 = .ok (.ireturn, 1) := by decide +kernel
theorem dX4_kindFor_21 : decode cX4_kindFor 21 = .ok (.iconst 0, 1) := by decide +kernel
theorem dX4_kindFor_22 : decode cX4_kindFor 22 = .ok (.istore_n 3, 1) := by decide +kernel
theorem dX4_kindFor_23 : decode cX4_kindFor 23 = .ok (.aload_n 0, 1) := by decide +kernel
theorem dX4_kindFor_24 : decode cX4_kindFor 24 = .ok (.iload_n 1, 1) := by decide +kernel
theorem dX4_kindFor_25 : decode cX4_kindFor 25 = .ok (.iconst 0, 1) := by decide +kernel
theorem dX4_kindFor_26 : decode cX4_kindFor 26 = .ok (.iconst 0, 1) := by decide +kernel
theorem dX4_kindFor_27 : decode cX4_kindFor 27 = .ok (.iload_n 2, 1) := by decide +kernel
theorem dX4_kindFor_28 : decode cX4_kindFor 28 = .ok (.iconst 3, 1) := by decide +kernel
theorem dX4_kindFor_29 : decode cX4_kindFor 29 = .ok (.invokevirtual 179, 3) := by decide +kernel
theorem dX4_kindFor_32 : decode cX4_kindFor 32 = .ok (.istore 4, 2) := by decide +kernel
theorem dX4_kindFor_34 : decode cX4_kindFor 34 = .ok (.iconst 1, 1) := by decide +kernel
theorem dX4_kindFor_35 : decode cX4_kindFor 35 = .ok (.istore 5, 2) := by decide +kernel
theorem dX4_kindFor_37 : decode cX4_kindFor 37 = .ok (.iload 5, 2) := by decide +kernel
theorem dX4_kindFor_39 : decode cX4_kindFor 39 = .ok (.bipush 6, 2) := by decide +kernel
theorem dX4_kindFor_41 : decode cX4_kindFor 41 = .ok (.if_icmp .gt 51, 3) := by decide +kernel
theorem dX4_kindFor_44 : decode cX4_kindFor 44 = .ok (.aload_n 0, 1) := by decide +kernel
theorem dX4_kindFor_45 : decode cX4_kindFor 45 = .ok (.iload_n 1, 1) := by decide +kernel
theorem dX4_kindFor_46 : decode cX4_kindFor 46 = .ok (.iconst 0, 1) := by decide +kernel
theorem dX4_kindFor_47 : decode cX4_kindFor 47 = .ok (.iload 5, 2) := by decide +kernel
theorem dX4_kindFor_49 : decode cX4_kindFor 49 = .ok (.iload_n 2, 1) := by decide +kernel
theorem dX4_kindFor_50 : decode cX4_kindFor 50 = .ok (.iconst 3, 1) := by decide +kernel
theorem dX4_kindFor_51 : decode cX4_kindFor 51 = .ok (.invokevirtual 179, 3) := by decide +kernel
theorem dX4_kindFor_54 : decode cX4_kindFor 54 = .ok (.istore 6, 2) := by decide +kernel
theorem dX4_kindFor_56 : decode cX4_kindFor 56 = .ok (.iload 6, 2) := by decide +kernel
theorem dX4_kindFor_58 : decode cX4_kindFor 58 = .ok (.iload 4, 2) := by decide +kernel
theorem dX4_kindFor_60 : decode cX4_kindFor 60 = .ok (.if_icmp .le 8, 3) := by decide +kernel
theorem dX4_kindFor_63 : decode cX4_kindFor 63 = .ok (.iload 5, 2) := by decide +kernel
theorem dX4_kindFor_65 : decode cX4_kindFor 65 = .ok (.goto 4, 3) := by decide +kernel
theorem dX4_kindFor_68 : decode cX4_kindFor 68 = .ok (.iload_n 3, 1) := by decide +kernel
theorem dX4_kindFor_69 : decode cX4_kindFor 69 = .ok (.istore_n 3, 1) := by decide +kernel
theorem dX4_kindFor_70 : decode cX4_kindFor 70 = .ok (.iload 6, 2) := by decide +kernel
theorem dX4_kindFor_72 : decode cX4_kindFor 72 = .ok (.iload 4, 2) := by decide +kernel
theorem dX4_kindFor_74 : decode cX4_kindFor 74 = .ok (.if_icmp .le 8, 3) := by decide +kernel
theorem dX4_kindFor_77 : decode cX4_kindFor 77 = .ok (.iload 6, 2) := by decide +kernel
theorem dX4_kindFor_79 : decode cX4_kindFor 79 = .ok (.goto 5, 3) := by decide +kernel
theorem dX4_kindFor_82 : decode cX4_kindFor 82 = .ok (.iload 4, 2) := by decide +kernel
theorem dX4_kindFor_84 : decode cX4_kindFor 84 = .ok (.istore 4, 2) := by decide +kernel
theorem dX4_kindFor_86 : decode cX4_kindFor 86 = .ok (.iinc 5 1, 3) := by decide +kernel
theorem dX4_kindFor_89 : decode cX4_kindFor 89 = .ok (.goto (-52), 3) := by decide +kernel
theorem dX4_kindFor_92 : decode cX4_kindFor 92 = .ok (.iload_n 3, 1) := by decide +kernel
theorem dX4_kindFor_93 : decode cX4_kindFor 93 = .ok (.ireturn, 1) := by decide +kernel
theorem dX4_rentFor_0 : decode cX4_rentFor 0 = .ok (.iload_n 1, 1) := by decide +kernel
theorem dX4_rentFor_1 : decode cX4_rentFor 1 = .ok (.invokestatic 126, 3) := by decide +kernel
theorem dX4_rentFor_4 : decode cX4_rentFor 4 = .ok (.ifCond .eq 10, 3) := by decide +kernel
theorem dX4_rentFor_7 : decode cX4_rentFor 7 = .ok (.iload_n 2, 1) := by decide +kernel
theorem dX4_rentFor_8 : decode cX4_rentFor 8 = .ok (.invokestatic 176, 3) := by decide +kernel
theorem dX4_rentFor_11 : decode cX4_rentFor 11 = .ok (.ifCond .ne 9, 3) := by decide +kernel
theorem dX4_rentFor_14 : decode cX4_rentFor 14 = .ok (.aload_n 0, 1) := by decide +kernel
theorem dX4_rentFor_15 : decode cX4_rentFor 15 = .ok (.iconst 0, 1) := by decide +kernel
theorem dX4_rentFor_16 : decode cX4_rentFor 16 = .ok (.invokevirtual 129, 3) := by decide +kernel
theorem dX4_rentFor_19 : decode cX4_rentFor 19 = .ok (.ireturn, 1) := by decide +kernel
theorem dX4_rentFor_20 : decode cX4_rentFor 20 = .ok (.aload_n 0, 1) := by decide +kernel
theorem dX4_rentFor_21 : decode cX4_rentFor 21 = .ok (.iload_n 1, 1) := by decide +kernel
theorem dX4_rentFor_22 : decode cX4_rentFor 22 = .ok (.iconst 2, 1) := by decide +kernel
theorem dX4_rentFor_23 : decode cX4_rentFor 23 = .ok (.invokevirtual 73, 3) := by decide +kernel
theorem dX4_rentFor_26 : decode cX4_rentFor 26 = .ok (.istore_n 3, 1) := by decide +kernel
theorem dX4_rentFor_27 : decode cX4_rentFor 27 = .ok (.iload_n 3, 1) := by decide +kernel
theorem dX4_rentFor_28 : decode cX4_rentFor 28 = .ok (.ifCond .ge 9, 3) := by decide +kernel
theorem dX4_rentFor_31 : decode cX4_rentFor 31 = .ok (.aload_n 0, 1) := by decide +kernel
theorem dX4_rentFor_32 : decode cX4_rentFor 32 = .ok (.iconst 3, 1) := by decide +kernel
theorem dX4_rentFor_33 : decode cX4_rentFor 33 = .ok (.invokevirtual 129, 3) := by decide +kernel
theorem dX4_rentFor_36 : decode cX4_rentFor 36 = .ok (.ireturn, 1) := by decide +kernel
theorem dX4_rentFor_37 : decode cX4_rentFor 37 = .ok (.iconst 0, 1) := by decide +kernel
theorem dX4_rentFor_38 : decode cX4_rentFor 38 = .ok (.istore 4, 2) := by decide +kernel
theorem dX4_rentFor_40 : decode cX4_rentFor 40 = .ok (.iconst (-1), 1) := by decide +kernel
theorem dX4_rentFor_41 : decode cX4_rentFor 41 = .ok (.istore 5, 2) := by decide +kernel
theorem dX4_rentFor_43 : decode cX4_rentFor 43 = .ok (.iconst 0, 1) := by decide +kernel
theorem dX4_rentFor_44 : decode cX4_rentFor 44 = .ok (.istore 6, 2) := by decide +kernel
theorem dX4_rentFor_46 : decode cX4_rentFor 46 = .ok (.iload 6, 2) := by decide +kernel
theorem dX4_rentFor_48 : decode cX4_rentFor 48 = .ok (.bipush 20, 2) := by decide +kernel
theorem dX4_rentFor_50 : decode cX4_rentFor 50 = .ok (.if_icmp .gt 70, 3) := by decide +kernel
theorem dX4_rentFor_53 : decode cX4_rentFor 53 = .ok (.aload_n 0, 1) := by decide +kernel
theorem dX4_rentFor_54 : decode cX4_rentFor 54 = .ok (.invokevirtual 163, 3) := by decide +kernel
theorem dX4_rentFor_57 : decode cX4_rentFor 57 = .ok (.aload_n 0, 1) := by decide +kernel
theorem dX4_rentFor_58 : decode cX4_rentFor 58 = .ok (.iload_n 1, 1) := by decide +kernel
theorem dX4_rentFor_59 : decode cX4_rentFor 59 = .ok (.iconst 1, 1) := by decide +kernel
theorem dX4_rentFor_60 : decode cX4_rentFor 60 = .ok (.iload 6, 2) := by decide +kernel
theorem dX4_rentFor_62 : decode cX4_rentFor 62 = .ok (.invokevirtual 56, 3) := by decide +kernel
theorem dX4_rentFor_65 : decode cX4_rentFor 65 = .ok (.aload_n 0, 1) := by decide +kernel
theorem dX4_rentFor_66 : decode cX4_rentFor 66 = .ok (.iload_n 2, 1) := by decide +kernel
theorem dX4_rentFor_67 : decode cX4_rentFor 67 = .ok (.invokevirtual 144, 3) := by decide +kernel
theorem dX4_rentFor_70 : decode cX4_rentFor 70 = .ok (.aload_n 0, 1) := by decide +kernel
theorem dX4_rentFor_71 : decode cX4_rentFor 71 = .ok (.iload_n 3, 1) := by decide +kernel
theorem dX4_rentFor_72 : decode cX4_rentFor 72 = .ok (.iconst 3, 1) := by decide +kernel
theorem dX4_rentFor_73 : decode cX4_rentFor 73 = .ok (.invokevirtual 65, 3) := by decide +kernel
theorem dX4_rentFor_76 : decode cX4_rentFor 76 = .ok (.istore 7, 2) := by decide +kernel
theorem dX4_rentFor_78 : decode cX4_rentFor 78 = .ok (.aload_n 0, 1) := by decide +kernel
theorem dX4_rentFor_79 : decode cX4_rentFor 79 = .ok (.invokevirtual 166, 3) := by decide +kernel
theorem dX4_rentFor_82 : decode cX4_rentFor 82 = .ok (.iload 7, 2) := by decide +kernel
theorem dX4_rentFor_84 : decode cX4_rentFor 84 = .ok (.iload 5, 2) := by decide +kernel
theorem dX4_rentFor_86 : decode cX4_rentFor 86 = .ok (.if_icmp .le 8, 3) := by decide +kernel
theorem dX4_rentFor_89 : decode cX4_rentFor 89 = .ok (.iload 6, 2) := by decide +kernel
theorem dX4_rentFor_91 : decode cX4_rentFor 91 = .ok (.goto 5, 3) := by decide +kernel
theorem dX4_rentFor_94 : decode cX4_rentFor 94 = .ok (.iload 4, 2) := by decide +kernel
theorem dX4_rentFor_96 : decode cX4_rentFor 96 = .ok (.istore 4, 2) := by decide +kernel
theorem dX4_rentFor_98 : decode cX4_rentFor 98 = .ok (.iload 7, 2) := by decide +kernel
theorem dX4_rentFor_100 : decode cX4_rentFor 100 = .ok (.iload 5, 2) := by decide +kernel
theorem dX4_rentFor_102 : decode cX4_rentFor 102 = .ok (.if_icmp .le 8, 3) := by decide +kernel
theorem dX4_rentFor_105 : decode cX4_rentFor 105 = .ok (.iload 7, 2) := by decide +kernel
theorem dX4_rentFor_107 : decode cX4_rentFor 107 = .ok (.goto 5, 3) := by decide +kernel
theorem dX4_rentFor_110 : decode cX4_rentFor 110 = .ok (.iload 5, 2) := by decide +kernel
theorem dX4_rentFor_112 : decode cX4_rentFor 112 = .ok (.istore 5, 2) := by decide +kernel
theorem dX4_rentFor_114 : decode cX4_rentFor 114 = .ok (.iinc 6 1, 3) := by decide +kernel
theorem dX4_rentFor_117 : decode cX4_rentFor 117 = .ok (.goto (-71), 3) := by decide +kernel
theorem dX4_rentFor_120 : decode cX4_rentFor 120 = .ok (.iload 4, 2) := by decide +kernel
theorem dX4_rentFor_122 : decode cX4_rentFor 122 = .ok (.ireturn, 1) := by decide +kernel
theorem dX4_fellBy_0 : decode cX4_fellBy 0 = .ok (.aload_n 0, 1) := by decide +kernel
theorem dX4_fellBy_1 : decode cX4_fellBy 1 = .ok (.invokevirtual 163, 3) := by decide +kernel
theorem dX4_fellBy_4 : decode cX4_fellBy 4 = .ok (.iconst 0, 1) := by decide +kernel
theorem dX4_fellBy_5 : decode cX4_fellBy 5 = .ok (.istore_n 3, 1) := by decide +kernel
theorem dX4_fellBy_6 : decode cX4_fellBy 6 = .ok (.iload_n 3, 1) := by decide +kernel
theorem dX4_fellBy_7 : decode cX4_fellBy 7 = .ok (.bipush 6, 2) := by decide +kernel
theorem dX4_fellBy_9 : decode cX4_fellBy 9 = .ok (.if_icmp .ge 18, 3) := by decide +kernel
theorem dX4_fellBy_12 : decode cX4_fellBy 12 = .ok (.aload_n 0, 1) := by decide +kernel
theorem dX4_fellBy_13 : decode cX4_fellBy 13 = .ok (.getfield 9, 3) := by decide +kernel
theorem dX4_fellBy_16 : decode cX4_fellBy 16 = .ok (.iconst 4, 1) := by decide +kernel
theorem dX4_fellBy_17 : decode cX4_fellBy 17 = .ok (.iload_n 3, 1) := by decide +kernel
theorem dX4_fellBy_18 : decode cX4_fellBy 18 = .ok (.iadd, 1) := by decide +kernel
theorem dX4_fellBy_19 : decode cX4_fellBy 19 = .ok (.iload_n 1, 1) := by decide +kernel
theorem dX4_fellBy_20 : decode cX4_fellBy 20 = .ok (.iastore, 1) := by decide +kernel
theorem dX4_fellBy_21 : decode cX4_fellBy 21 = .ok (.iinc 3 1, 3) := by decide +kernel
theorem dX4_fellBy_24 : decode cX4_fellBy 24 = .ok (.goto (-18), 3) := by decide +kernel
theorem dX4_fellBy_27 : decode cX4_fellBy 27 = .ok (.aload_n 0, 1) := by decide +kernel
theorem dX4_fellBy_28 : decode cX4_fellBy 28 = .ok (.iload_n 2, 1) := by decide +kernel
theorem dX4_fellBy_29 : decode cX4_fellBy 29 = .ok (.invokevirtual 144, 3) := by decide +kernel
theorem dX4_fellBy_32 : decode cX4_fellBy 32 = .ok (.aload_n 0, 1) := by decide +kernel
theorem dX4_fellBy_33 : decode cX4_fellBy 33 = .ok (.iconst 4, 1) := by decide +kernel
theorem dX4_fellBy_34 : decode cX4_fellBy 34 = .ok (.invokevirtual 154, 3) := by decide +kernel
theorem dX4_fellBy_37 : decode cX4_fellBy 37 = .ok (.istore_n 3, 1) := by decide +kernel
theorem dX4_fellBy_38 : decode cX4_fellBy 38 = .ok (.aload_n 0, 1) := by decide +kernel
theorem dX4_fellBy_39 : decode cX4_fellBy 39 = .ok (.invokevirtual 166, 3) := by decide +kernel
theorem dX4_fellBy_42 : decode cX4_fellBy 42 = .ok (.iload_n 3, 1) := by decide +kernel
theorem dX4_fellBy_43 : decode cX4_fellBy 43 = .ok (.ireturn, 1) := by decide +kernel
theorem dX4_sunFor_0 : decode cX4_sunFor 0 = .ok (.iload_n 1, 1) := by decide +kernel
theorem dX4_sunFor_1 : decode cX4_sunFor 1 = .ok (.invokestatic 176, 3) := by decide +kernel
theorem dX4_sunFor_4 : decode cX4_sunFor 4 = .ok (.ifCond .ne 9, 3) := by decide +kernel
theorem dX4_sunFor_7 : decode cX4_sunFor 7 = .ok (.aload_n 0, 1) := by decide +kernel
theorem dX4_sunFor_8 : decode cX4_sunFor 8 = .ok (.iconst 0, 1) := by decide +kernel
theorem dX4_sunFor_9 : decode cX4_sunFor 9 = .ok (.invokevirtual 129, 3) := by decide +kernel
theorem dX4_sunFor_12 : decode cX4_sunFor 12 = .ok (.ireturn, 1) := by decide +kernel
theorem dX4_sunFor_13 : decode cX4_sunFor 13 = .ok (.bipush 40, 2) := by decide +kernel
theorem dX4_sunFor_15 : decode cX4_sunFor 15 = .ok (.istore_n 2, 1) := by decide +kernel
theorem dX4_sunFor_16 : decode cX4_sunFor 16 = .ok (.iload_n 2, 1) := by decide +kernel
theorem dX4_sunFor_17 : decode cX4_sunFor 17 = .ok (.ifCond .lt 23, 3) := by decide +kernel
theorem dX4_sunFor_20 : decode cX4_sunFor 20 = .ok (.aload_n 0, 1) := by decide +kernel
theorem dX4_sunFor_21 : decode cX4_sunFor 21 = .ok (.iload_n 2, 1) := by decide +kernel
theorem dX4_sunFor_22 : decode cX4_sunFor 22 = .ok (.iload_n 1, 1) := by decide +kernel
theorem dX4_sunFor_23 : decode cX4_sunFor 23 = .ok (.invokevirtual 183, 3) := by decide +kernel
theorem dX4_sunFor_26 : decode cX4_sunFor 26 = .ok (.aload_n 0, 1) := by decide +kernel
theorem dX4_sunFor_27 : decode cX4_sunFor 27 = .ok (.iconst 4, 1) := by decide +kernel
theorem dX4_sunFor_28 : decode cX4_sunFor 28 = .ok (.invokevirtual 154, 3) := by decide +kernel
theorem dX4_sunFor_31 : decode cX4_sunFor 31 = .ok (.if_icmp .eq 9, 3) := by decide +kernel
theorem dX4_sunFor_34 : decode cX4_sunFor 34 = .ok (.iinc 2 (-1), 3) := by decide +kernel
theorem dX4_sunFor_37 : decode cX4_sunFor 37 = .ok (.goto (-21), 3) := by decide +kernel
theorem dX4_sunFor_40 : decode cX4_sunFor 40 = .ok (.iload_n 2, 1) := by decide +kernel
theorem dX4_sunFor_41 : decode cX4_sunFor 41 = .ok (.ifCond .ge 11, 3) := by decide +kernel
theorem dX4_sunFor_44 : decode cX4_sunFor 44 = .ok (.aload_n 0, 1) := by decide +kernel
theorem dX4_sunFor_45 : decode cX4_sunFor 45 = .ok (.iconst 3, 1) := by decide +kernel
theorem dX4_sunFor_46 : decode cX4_sunFor 46 = .ok (.invokevirtual 129, 3) := by decide +kernel
theorem dX4_sunFor_49 : decode cX4_sunFor 49 = .ok (.goto 4, 3) := by decide +kernel
theorem dX4_sunFor_52 : decode cX4_sunFor 52 = .ok (.iload_n 2, 1) := by decide +kernel
theorem dX4_sunFor_53 : decode cX4_sunFor 53 = .ok (.ireturn, 1) := by decide +kernel
theorem dX4_standsWithout_0 : decode cX4_standsWithout 0 = .ok (.aload_n 0, 1) := by decide +kernel
theorem dX4_standsWithout_1 : decode cX4_standsWithout 1 = .ok (.invokevirtual 163, 3) := by decide +kernel
theorem dX4_standsWithout_4 : decode cX4_standsWithout 4 = .ok (.aload_n 0, 1) := by decide +kernel
theorem dX4_standsWithout_5 : decode cX4_standsWithout 5 = .ok (.iload_n 2, 1) := by decide +kernel
theorem dX4_standsWithout_6 : decode cX4_standsWithout 6 = .ok (.putfield 101, 3) := by decide +kernel
theorem dX4_standsWithout_9 : decode cX4_standsWithout 9 = .ok (.iconst 0, 1) := by decide +kernel
theorem dX4_standsWithout_10 : decode cX4_standsWithout 10 = .ok (.istore 4, 2) := by decide +kernel
theorem dX4_standsWithout_12 : decode cX4_standsWithout 12 = .ok (.iload 4, 2) := by decide +kernel
theorem dX4_standsWithout_14 : decode cX4_standsWithout 14 = .ok (.aload_n 0, 1) := by decide +kernel
theorem dX4_standsWithout_15 : decode cX4_standsWithout 15 = .ok (.getfield 9, 3) := by decide +kernel
theorem dX4_standsWithout_18 : decode cX4_standsWithout 18 = .ok (.iconst 1, 1) := by decide +kernel
theorem dX4_standsWithout_19 : decode cX4_standsWithout 19 = .ok (.iaload, 1) := by decide +kernel
theorem dX4_standsWithout_20 : decode cX4_standsWithout 20 = .ok (.if_icmp .ge 36, 3) := by decide +kernel
theorem dX4_standsWithout_23 : decode cX4_standsWithout 23 = .ok (.aload_n 0, 1) := by decide +kernel
theorem dX4_standsWithout_24 : decode cX4_standsWithout 24 = .ok (.iload 4, 2) := by decide +kernel
theorem dX4_standsWithout_26 : decode cX4_standsWithout 26 = .ok (.iconst 1, 1) := by decide +kernel
theorem dX4_standsWithout_27 : decode cX4_standsWithout 27 = .ok (.aload_n 0, 1) := by decide +kernel
theorem dX4_standsWithout_28 : decode cX4_standsWithout 28 = .ok (.iload 4, 2) := by decide +kernel
theorem dX4_standsWithout_30 : decode cX4_standsWithout 30 = .ok (.invokevirtual 108, 3) := by decide +kernel
theorem dX4_standsWithout_33 : decode cX4_standsWithout 33 = .ok (.ifCond .eq 7, 3) := by decide +kernel
theorem dX4_standsWithout_36 : decode cX4_standsWithout 36 = .ok (.iconst (-1), 1) := by decide +kernel
theorem dX4_standsWithout_37 : decode cX4_standsWithout 37 = .ok (.goto 10, 3) := by decide +kernel
theorem dX4_standsWithout_40 : decode cX4_standsWithout 40 = .ok (.aload_n 0, 1) := by decide +kernel
theorem dX4_standsWithout_41 : decode cX4_standsWithout 41 = .ok (.iload 4, 2) := by decide +kernel
theorem dX4_standsWithout_43 : decode cX4_standsWithout 43 = .ok (.iconst 1, 1) := by decide +kernel
theorem dX4_standsWithout_44 : decode cX4_standsWithout 44 = .ok (.invokevirtual 65, 3) := by decide +kernel
theorem dX4_standsWithout_47 : decode cX4_standsWithout 47 = .ok (.invokevirtual 95, 3) := by decide +kernel
theorem dX4_standsWithout_50 : decode cX4_standsWithout 50 = .ok (.iinc 4 1, 3) := by decide +kernel
theorem dX4_standsWithout_53 : decode cX4_standsWithout 53 = .ok (.goto (-41), 3) := by decide +kernel
theorem dX4_standsWithout_56 : decode cX4_standsWithout 56 = .ok (.aload_n 0, 1) := by decide +kernel
theorem dX4_standsWithout_57 : decode cX4_standsWithout 57 = .ok (.iload_n 3, 1) := by decide +kernel
theorem dX4_standsWithout_58 : decode cX4_standsWithout 58 = .ok (.invokevirtual 144, 3) := by decide +kernel
theorem dX4_standsWithout_61 : decode cX4_standsWithout 61 = .ok (.aload_n 0, 1) := by decide +kernel
theorem dX4_standsWithout_62 : decode cX4_standsWithout 62 = .ok (.iconst 0, 1) := by decide +kernel
theorem dX4_standsWithout_63 : decode cX4_standsWithout 63 = .ok (.putfield 101, 3) := by decide +kernel
theorem dX4_standsWithout_66 : decode cX4_standsWithout 66 = .ok (.aload_n 0, 1) := by decide +kernel
theorem dX4_standsWithout_67 : decode cX4_standsWithout 67 = .ok (.iload_n 1, 1) := by decide +kernel
theorem dX4_standsWithout_68 : decode cX4_standsWithout 68 = .ok (.iconst 1, 1) := by decide +kernel
theorem dX4_standsWithout_69 : decode cX4_standsWithout 69 = .ok (.invokevirtual 65, 3) := by decide +kernel
theorem dX4_standsWithout_72 : decode cX4_standsWithout 72 = .ok (.ifCond .lt 7, 3) := by decide +kernel
theorem dX4_standsWithout_75 : decode cX4_standsWithout 75 = .ok (.iconst 1, 1) := by decide +kernel
theorem dX4_standsWithout_76 : decode cX4_standsWithout 76 = .ok (.goto 4, 3) := by decide +kernel
theorem dX4_standsWithout_79 : decode cX4_standsWithout 79 = .ok (.iconst 0, 1) := by decide +kernel
theorem dX4_standsWithout_80 : decode cX4_standsWithout 80 = .ok (.istore 4, 2) := by decide +kernel
theorem dX4_standsWithout_82 : decode cX4_standsWithout 82 = .ok (.aload_n 0, 1) := by decide +kernel
theorem dX4_standsWithout_83 : decode cX4_standsWithout 83 = .ok (.invokevirtual 166, 3) := by decide +kernel
theorem dX4_standsWithout_86 : decode cX4_standsWithout 86 = .ok (.iload 4, 2) := by decide +kernel
theorem dX4_standsWithout_88 : decode cX4_standsWithout 88 = .ok (.ireturn, 1) := by decide +kernel
theorem dX4_away_0 : decode cX4_away 0 = .ok (.aload_n 0, 1) := by decide +kernel
theorem dX4_away_1 : decode cX4_away 1 = .ok (.iload_n 1, 1) := by decide +kernel
theorem dX4_away_2 : decode cX4_away 2 = .ok (.invokevirtual 138, 3) := by decide +kernel
theorem dX4_away_5 : decode cX4_away 5 = .ok (.ifCond .eq 13, 3) := by decide +kernel
theorem dX4_away_8 : decode cX4_away 8 = .ok (.iload_n 2, 1) := by decide +kernel
theorem dX4_away_9 : decode cX4_away 9 = .ok (.iconst 0, 1) := by decide +kernel
theorem dX4_away_10 : decode cX4_away 10 = .ok (.bipush 12, 2) := by decide +kernel
theorem dX4_away_12 : decode cX4_away 12 = .ok (.invokestatic 61, 3) := by decide +kernel
theorem dX4_away_15 : decode cX4_away 15 = .ok (.ifCond .ne 9, 3) := by decide +kernel
theorem dX4_away_18 : decode cX4_away 18 = .ok (.aload_n 0, 1) := by decide +kernel
theorem dX4_away_19 : decode cX4_away 19 = .ok (.iconst 0, 1) := by decide +kernel
theorem dX4_away_20 : decode cX4_away 20 = .ok (.invokevirtual 129, 3) := by decide +kernel
theorem dX4_away_23 : decode cX4_away 23 = .ok (.ireturn, 1) := by decide +kernel
theorem dX4_away_24 : decode cX4_away 24 = .ok (.iconst (-1), 1) := by decide +kernel
theorem dX4_away_25 : decode cX4_away 25 = .ok (.istore_n 3, 1) := by decide +kernel
theorem dX4_away_26 : decode cX4_away 26 = .ok (.iconst 0, 1) := by decide +kernel
theorem dX4_away_27 : decode cX4_away 27 = .ok (.istore 4, 2) := by decide +kernel
theorem dX4_away_29 : decode cX4_away 29 = .ok (.iload 4, 2) := by decide +kernel
theorem dX4_away_31 : decode cX4_away 31 = .ok (.iconst 1, 1) := by decide +kernel
theorem dX4_away_32 : decode cX4_away 32 = .ok (.aload_n 0, 1) := by decide +kernel
theorem dX4_away_33 : decode cX4_away 33 = .ok (.getfield 9, 3) := by decide +kernel
theorem dX4_away_36 : decode cX4_away 36 = .ok (.iconst 1, 1) := by decide +kernel
theorem dX4_away_37 : decode cX4_away 37 = .ok (.iaload, 1) := by decide +kernel
theorem dX4_away_38 : decode cX4_away 38 = .ok (.ishl, 1) := by decide +kernel
theorem dX4_away_39 : decode cX4_away 39 = .ok (.if_icmp .ge 64, 3) := by decide +kernel
theorem dX4_away_42 : decode cX4_away 42 = .ok (.iload 4, 2) := by decide +kernel
theorem dX4_away_44 : decode cX4_away 44 = .ok (.iload_n 1, 1) := by decide +kernel
theorem dX4_away_45 : decode cX4_away 45 = .ok (.ishr, 1) := by decide +kernel
theorem dX4_away_46 : decode cX4_away 46 = .ok (.iconst 1, 1) := by decide +kernel
theorem dX4_away_47 : decode cX4_away 47 = .ok (.iand, 1) := by decide +kernel
theorem dX4_away_48 : decode cX4_away 48 = .ok (.ifCond .ne 23, 3) := by decide +kernel
theorem dX4_away_51 : decode cX4_away 51 = .ok (.iload_n 3, 1) := by decide +kernel
theorem dX4_away_52 : decode cX4_away 52 = .ok (.ifCond .lt 15, 3) := by decide +kernel
theorem dX4_away_55 : decode cX4_away 55 = .ok (.iload 4, 2) := by decide +kernel
theorem dX4_away_57 : decode cX4_away 57 = .ok (.invokestatic 76, 3) := by decide +kernel
theorem dX4_away_60 : decode cX4_away 60 = .ok (.iload_n 3, 1) := by decide +kernel
theorem dX4_away_61 : decode cX4_away 61 = .ok (.invokestatic 76, 3) := by decide +kernel
theorem dX4_away_64 : decode cX4_away 64 = .ok (.if_icmp .ge 7, 3) := by decide +kernel
theorem dX4_away_67 : decode cX4_away 67 = .ok (.iconst 1, 1) := by decide +kernel
theorem dX4_away_68 : decode cX4_away 68 = .ok (.goto 4, 3) := by decide +kernel
theorem dX4_away_71 : decode cX4_away 71 = .ok (.iconst 0, 1) := by decide +kernel
theorem dX4_away_72 : decode cX4_away 72 = .ok (.istore 5, 2) := by decide +kernel
theorem dX4_away_74 : decode cX4_away 74 = .ok (.iload 5, 2) := by decide +kernel
theorem dX4_away_76 : decode cX4_away 76 = .ok (.ifCond .eq 19, 3) := by decide +kernel
theorem dX4_away_79 : decode cX4_away 79 = .ok (.aload_n 0, 1) := by decide +kernel
theorem dX4_away_80 : decode cX4_away 80 = .ok (.iload_n 1, 1) := by decide +kernel
theorem dX4_away_81 : decode cX4_away 81 = .ok (.iload 4, 2) := by decide +kernel
theorem dX4_away_83 : decode cX4_away 83 = .ok (.iload_n 2, 1) := by decide +kernel
theorem dX4_away_84 : decode cX4_away 84 = .ok (.invokevirtual 186, 3) := by decide +kernel
theorem dX4_away_87 : decode cX4_away 87 = .ok (.ifCond .eq 8, 3) := by decide +kernel
theorem dX4_away_90 : decode cX4_away 90 = .ok (.iload 4, 2) := by decide +kernel
theorem dX4_away_92 : decode cX4_away 92 = .ok (.goto 4, 3) := by decide +kernel
theorem dX4_away_95 : decode cX4_away 95 = .ok (.iload_n 3, 1) := by decide +kernel
theorem dX4_away_96 : decode cX4_away 96 = .ok (.istore_n 3, 1) := by decide +kernel
theorem dX4_away_97 : decode cX4_away 97 = .ok (.iinc 4 1, 3) := by decide +kernel
theorem dX4_away_100 : decode cX4_away 100 = .ok (.goto (-71), 3) := by decide +kernel
theorem dX4_away_103 : decode cX4_away 103 = .ok (.iload_n 3, 1) := by decide +kernel
theorem dX4_away_104 : decode cX4_away 104 = .ok (.ifCond .ge 11, 3) := by decide +kernel
theorem dX4_away_107 : decode cX4_away 107 = .ok (.aload_n 0, 1) := by decide +kernel
theorem dX4_away_108 : decode cX4_away 108 = .ok (.iconst 3, 1) := by decide +kernel
theorem dX4_away_109 : decode cX4_away 109 = .ok (.invokevirtual 129, 3) := by decide +kernel
theorem dX4_away_112 : decode cX4_away 112 = .ok (.goto 4, 3) := by decide +kernel
theorem dX4_away_115 : decode cX4_away 115 = .ok (.iload_n 3, 1) := by decide +kernel
theorem dX4_away_116 : decode cX4_away 116 = .ok (.ireturn, 1) := by decide +kernel
theorem dX4_isSheet_0 : decode cX4_isSheet 0 = .ok (.iload_n 0, 1) := by decide +kernel
theorem dX4_isSheet_1 : decode cX4_isSheet 1 = .ok (.iconst 0, 1) := by decide +kernel
theorem dX4_isSheet_2 : decode cX4_isSheet 2 = .ok (.iconst 3, 1) := by decide +kernel
theorem dX4_isSheet_3 : decode cX4_isSheet 3 = .ok (.invokestatic 61, 3) := by decide +kernel
theorem dX4_isSheet_6 : decode cX4_isSheet 6 = .ok (.ireturn, 1) := by decide +kernel
theorem dX4_wrongSheet_0 : decode cX4_wrongSheet 0 = .ok (.iload_n 1, 1) := by decide +kernel
theorem dX4_wrongSheet_1 : decode cX4_wrongSheet 1 = .ok (.invokestatic 189, 3) := by decide +kernel
theorem dX4_wrongSheet_4 : decode cX4_wrongSheet 4 = .ok (.ifCond .ne 7, 3) := by decide +kernel
theorem dX4_wrongSheet_7 : decode cX4_wrongSheet 7 = .ok (.iconst 0, 1) := by decide +kernel
theorem dX4_wrongSheet_8 : decode cX4_wrongSheet 8 = .ok (.goto 17, 3) := by decide +kernel
theorem dX4_wrongSheet_11 : decode cX4_wrongSheet 11 = .ok (.aload_n 0, 1) := by decide +kernel
theorem dX4_wrongSheet_12 : decode cX4_wrongSheet 12 = .ok (.getfield 44, 3) := by decide +kernel
theorem dX4_wrongSheet_15 : decode cX4_wrongSheet 15 = .ok (.iload_n 1, 1) := by decide +kernel
theorem dX4_wrongSheet_16 : decode cX4_wrongSheet 16 = .ok (.iaload, 1) := by decide +kernel
theorem dX4_wrongSheet_17 : decode cX4_wrongSheet 17 = .ok (.ifCond .ne 7, 3) := by decide +kernel
theorem dX4_wrongSheet_20 : decode cX4_wrongSheet 20 = .ok (.iconst 5, 1) := by decide +kernel
theorem dX4_wrongSheet_21 : decode cX4_wrongSheet 21 = .ok (.goto 4, 3) := by decide +kernel
theorem dX4_wrongSheet_24 : decode cX4_wrongSheet 24 = .ok (.iconst (-1), 1) := by decide +kernel
theorem dX4_wrongSheet_25 : decode cX4_wrongSheet 25 = .ok (.ireturn, 1) := by decide +kernel
theorem dX4_wrongTold_0 : decode cX4_wrongTold 0 = .ok (.aload_n 0, 1) := by decide +kernel
theorem dX4_wrongTold_1 : decode cX4_wrongTold 1 = .ok (.iload_n 1, 1) := by decide +kernel
theorem dX4_wrongTold_2 : decode cX4_wrongTold 2 = .ok (.invokevirtual 192, 3) := by decide +kernel
theorem dX4_wrongTold_5 : decode cX4_wrongTold 5 = .ok (.istore_n 3, 1) := by decide +kernel
theorem dX4_wrongTold_6 : decode cX4_wrongTold 6 = .ok (.iload_n 3, 1) := by decide +kernel
theorem dX4_wrongTold_7 : decode cX4_wrongTold 7 = .ok (.ifCond .lt 7, 3) := by decide +kernel
theorem dX4_wrongTold_10 : decode cX4_wrongTold 10 = .ok (.iload_n 3, 1) := by decide +kernel
theorem dX4_wrongTold_11 : decode cX4_wrongTold 11 = .ok (.goto 16, 3) := by decide +kernel
theorem dX4_wrongTold_14 : decode cX4_wrongTold 14 = .ok (.aload_n 0, 1) := by decide +kernel
theorem dX4_wrongTold_15 : decode cX4_wrongTold 15 = .ok (.iload_n 2, 1) := by decide +kernel
theorem dX4_wrongTold_16 : decode cX4_wrongTold 16 = .ok (.invokevirtual 138, 3) := by decide +kernel
theorem dX4_wrongTold_19 : decode cX4_wrongTold 19 = .ok (.ifCond .eq 7, 3) := by decide +kernel
theorem dX4_wrongTold_22 : decode cX4_wrongTold 22 = .ok (.iconst (-1), 1) := by decide +kernel
theorem dX4_wrongTold_23 : decode cX4_wrongTold 23 = .ok (.goto 4, 3) := by decide +kernel
theorem dX4_wrongTold_26 : decode cX4_wrongTold 26 = .ok (.iconst 0, 1) := by decide +kernel
theorem dX4_wrongTold_27 : decode cX4_wrongTold 27 = .ok (.ireturn, 1) := by decide +kernel
theorem dX4_told_0 : decode cX4_told 0 = .ok (.aload_n 0, 1) := by decide +kernel
theorem dX4_told_1 : decode cX4_told 1 = .ok (.getfield 50, 3) := by decide +kernel
theorem dX4_told_4 : decode cX4_told 4 = .ok (.bipush 40, 2) := by decide +kernel
theorem dX4_told_6 : decode cX4_told 6 = .ok (.iload_n 1, 1) := by decide +kernel
theorem dX4_told_7 : decode cX4_told 7 = .ok (.imul, 1) := by decide +kernel
theorem dX4_told_8 : decode cX4_told 8 = .ok (.iload_n 2, 1) := by decide +kernel
theorem dX4_told_9 : decode cX4_told 9 = .ok (.iadd, 1) := by decide +kernel
theorem dX4_told_10 : decode cX4_told 10 = .ok (.iaload, 1) := by decide +kernel
theorem dX4_told_11 : decode cX4_told 11 = .ok (.ireturn, 1) := by decide +kernel
theorem dX4_fitsAs_0 : decode cX4_fitsAs 0 = .ok (.aload_n 0, 1) := by decide +kernel
theorem dX4_fitsAs_1 : decode cX4_fitsAs 1 = .ok (.invokevirtual 163, 3) := by decide +kernel
theorem dX4_fitsAs_4 : decode cX4_fitsAs 4 = .ok (.aload_n 0, 1) := by decide +kernel
theorem dX4_fitsAs_5 : decode cX4_fitsAs 5 = .ok (.iload_n 2, 1) := by decide +kernel
theorem dX4_fitsAs_6 : decode cX4_fitsAs 6 = .ok (.iload_n 3, 1) := by decide +kernel
theorem dX4_fitsAs_7 : decode cX4_fitsAs 7 = .ok (.iload 4, 2) := by decide +kernel
theorem dX4_fitsAs_9 : decode cX4_fitsAs 9 = .ok (.invokevirtual 95, 3) := by decide +kernel
theorem dX4_fitsAs_12 : decode cX4_fitsAs 12 = .ok (.iconst 1, 1) := by decide +kernel
theorem dX4_fitsAs_13 : decode cX4_fitsAs 13 = .ok (.istore 5, 2) := by decide +kernel
theorem dX4_fitsAs_15 : decode cX4_fitsAs 15 = .ok (.iconst 0, 1) := by decide +kernel
theorem dX4_fitsAs_16 : decode cX4_fitsAs 16 = .ok (.istore 6, 2) := by decide +kernel
theorem dX4_fitsAs_18 : decode cX4_fitsAs 18 = .ok (.iload 6, 2) := by decide +kernel
theorem dX4_fitsAs_20 : decode cX4_fitsAs 20 = .ok (.aload_n 0, 1) := by decide +kernel
theorem dX4_fitsAs_21 : decode cX4_fitsAs 21 = .ok (.getfield 47, 3) := by decide +kernel
theorem dX4_fitsAs_24 : decode cX4_fitsAs 24 = .ok (.iload_n 1, 1) := by decide +kernel
theorem dX4_fitsAs_25 : decode cX4_fitsAs 25 = .ok (.iaload, 1) := by decide +kernel
theorem dX4_fitsAs_26 : decode cX4_fitsAs 26 = .ok (.if_icmp .ge 53, 3) := by decide +kernel
theorem dX4_fitsAs_29 : decode cX4_fitsAs 29 = .ok (.iload 5, 2) := by decide +kernel
theorem dX4_fitsAs_31 : decode cX4_fitsAs 31 = .ok (.ifCond .eq 48, 3) := by decide +kernel
theorem dX4_fitsAs_34 : decode cX4_fitsAs 34 = .ok (.aload_n 0, 1) := by decide +kernel
theorem dX4_fitsAs_35 : decode cX4_fitsAs 35 = .ok (.iload_n 1, 1) := by decide +kernel
theorem dX4_fitsAs_36 : decode cX4_fitsAs 36 = .ok (.iload 6, 2) := by decide +kernel
theorem dX4_fitsAs_38 : decode cX4_fitsAs 38 = .ok (.invokevirtual 195, 3) := by decide +kernel
theorem dX4_fitsAs_41 : decode cX4_fitsAs 41 = .ok (.bipush (-2), 2) := by decide +kernel
theorem dX4_fitsAs_43 : decode cX4_fitsAs 43 = .ok (.if_icmp .eq 19, 3) := by decide +kernel
theorem dX4_fitsAs_46 : decode cX4_fitsAs 46 = .ok (.aload_n 0, 1) := by decide +kernel
theorem dX4_fitsAs_47 : decode cX4_fitsAs 47 = .ok (.iload_n 1, 1) := by decide +kernel
theorem dX4_fitsAs_48 : decode cX4_fitsAs 48 = .ok (.iload 6, 2) := by decide +kernel
theorem dX4_fitsAs_50 : decode cX4_fitsAs 50 = .ok (.invokevirtual 195, 3) := by decide +kernel
theorem dX4_fitsAs_53 : decode cX4_fitsAs 53 = .ok (.aload_n 0, 1) := by decide +kernel
theorem dX4_fitsAs_54 : decode cX4_fitsAs 54 = .ok (.iload_n 2, 1) := by decide +kernel
theorem dX4_fitsAs_55 : decode cX4_fitsAs 55 = .ok (.iconst 1, 1) := by decide +kernel
theorem dX4_fitsAs_56 : decode cX4_fitsAs 56 = .ok (.invokevirtual 65, 3) := by decide +kernel
theorem dX4_fitsAs_59 : decode cX4_fitsAs 59 = .ok (.if_icmp .ne 7, 3) := by decide +kernel
theorem dX4_fitsAs_62 : decode cX4_fitsAs 62 = .ok (.iconst 1, 1) := by decide +kernel
theorem dX4_fitsAs_63 : decode cX4_fitsAs 63 = .ok (.goto 4, 3) := by decide +kernel
theorem dX4_fitsAs_66 : decode cX4_fitsAs 66 = .ok (.iconst 0, 1) := by decide +kernel
theorem dX4_fitsAs_67 : decode cX4_fitsAs 67 = .ok (.istore 5, 2) := by decide +kernel
theorem dX4_fitsAs_69 : decode cX4_fitsAs 69 = .ok (.aload_n 0, 1) := by decide +kernel
theorem dX4_fitsAs_70 : decode cX4_fitsAs 70 = .ok (.invokevirtual 123, 3) := by decide +kernel
theorem dX4_fitsAs_73 : decode cX4_fitsAs 73 = .ok (.iinc 6 1, 3) := by decide +kernel
theorem dX4_fitsAs_76 : decode cX4_fitsAs 76 = .ok (.goto (-58), 3) := by decide +kernel
theorem dX4_fitsAs_79 : decode cX4_fitsAs 79 = .ok (.aload_n 0, 1) := by decide +kernel
theorem dX4_fitsAs_80 : decode cX4_fitsAs 80 = .ok (.invokevirtual 166, 3) := by decide +kernel
theorem dX4_fitsAs_83 : decode cX4_fitsAs 83 = .ok (.iload 5, 2) := by decide +kernel
theorem dX4_fitsAs_85 : decode cX4_fitsAs 85 = .ok (.ireturn, 1) := by decide +kernel
theorem dX4_fits_0 : decode cX4_fits 0 = .ok (.aload_n 0, 1) := by decide +kernel
theorem dX4_fits_1 : decode cX4_fits 1 = .ok (.iload_n 1, 1) := by decide +kernel
theorem dX4_fits_2 : decode cX4_fits 2 = .ok (.iload_n 2, 1) := by decide +kernel
theorem dX4_fits_3 : decode cX4_fits 3 = .ok (.invokevirtual 198, 3) := by decide +kernel
theorem dX4_fits_6 : decode cX4_fits 6 = .ok (.istore_n 3, 1) := by decide +kernel
theorem dX4_fits_7 : decode cX4_fits 7 = .ok (.iload_n 3, 1) := by decide +kernel
theorem dX4_fits_8 : decode cX4_fits 8 = .ok (.ifCond .lt 9, 3) := by decide +kernel
theorem dX4_fits_11 : decode cX4_fits 11 = .ok (.aload_n 0, 1) := by decide +kernel
theorem dX4_fits_12 : decode cX4_fits 12 = .ok (.iload_n 3, 1) := by decide +kernel
theorem dX4_fits_13 : decode cX4_fits 13 = .ok (.invokevirtual 129, 3) := by decide +kernel
theorem dX4_fits_16 : decode cX4_fits 16 = .ok (.ireturn, 1) := by decide +kernel
theorem dX4_fits_17 : decode cX4_fits 17 = .ok (.iconst 0, 1) := by decide +kernel
theorem dX4_fits_18 : decode cX4_fits 18 = .ok (.istore 4, 2) := by decide +kernel
theorem dX4_fits_20 : decode cX4_fits 20 = .ok (.iconst 0, 1) := by decide +kernel
theorem dX4_fits_21 : decode cX4_fits 21 = .ok (.istore 5, 2) := by decide +kernel
theorem dX4_fits_23 : decode cX4_fits 23 = .ok (.iload 5, 2) := by decide +kernel
theorem dX4_fits_25 : decode cX4_fits 25 = .ok (.bipush 100, 2) := by decide +kernel
theorem dX4_fits_27 : decode cX4_fits 27 = .ok (.if_icmp .ge 31, 3) := by decide +kernel
theorem dX4_fits_30 : decode cX4_fits 30 = .ok (.iload 4, 2) := by decide +kernel
theorem dX4_fits_32 : decode cX4_fits 32 = .ok (.aload_n 0, 1) := by decide +kernel
theorem dX4_fits_33 : decode cX4_fits 33 = .ok (.iload_n 1, 1) := by decide +kernel
theorem dX4_fits_34 : decode cX4_fits 34 = .ok (.iload_n 2, 1) := by decide +kernel
theorem dX4_fits_35 : decode cX4_fits 35 = .ok (.iconst 2, 1) := by decide +kernel
theorem dX4_fits_36 : decode cX4_fits 36 = .ok (.iload 5, 2) := by decide +kernel
theorem dX4_fits_38 : decode cX4_fits 38 = .ok (.invokevirtual 201, 3) := by decide +kernel
theorem dX4_fits_41 : decode cX4_fits 41 = .ok (.ifCond .eq 7, 3) := by decide +kernel
theorem dX4_fits_44 : decode cX4_fits 44 = .ok (.iconst 1, 1) := by decide +kernel
theorem dX4_fits_45 : decode cX4_fits 45 = .ok (.goto 4, 3) := by decide +kernel
theorem dX4_fits_48 : decode cX4_fits 48 = .ok (.iconst 0, 1) := by decide +kernel
theorem dX4_fits_49 : decode cX4_fits 49 = .ok (.iadd, 1) := by decide +kernel
theorem dX4_fits_50 : decode cX4_fits 50 = .ok (.istore 4, 2) := by decide +kernel
theorem dX4_fits_52 : decode cX4_fits 52 = .ok (.iinc 5 1, 3) := by decide +kernel
theorem dX4_fits_55 : decode cX4_fits 55 = .ok (.goto (-32), 3) := by decide +kernel
theorem dX4_fits_58 : decode cX4_fits 58 = .ok (.iload 4, 2) := by decide +kernel
theorem dX4_fits_60 : decode cX4_fits 60 = .ok (.ireturn, 1) := by decide +kernel
theorem dX4_believed_0 : decode cX4_believed 0 = .ok (.aload_n 0, 1) := by decide +kernel
theorem dX4_believed_1 : decode cX4_believed 1 = .ok (.iload_n 1, 1) := by decide +kernel
theorem dX4_believed_2 : decode cX4_believed 2 = .ok (.iload_n 2, 1) := by decide +kernel
theorem dX4_believed_3 : decode cX4_believed 3 = .ok (.invokevirtual 198, 3) := by decide +kernel
theorem dX4_believed_6 : decode cX4_believed 6 = .ok (.istore_n 3, 1) := by decide +kernel
theorem dX4_believed_7 : decode cX4_believed 7 = .ok (.iload_n 3, 1) := by decide +kernel
theorem dX4_believed_8 : decode cX4_believed 8 = .ok (.ifCond .lt 9, 3) := by decide +kernel
theorem dX4_believed_11 : decode cX4_believed 11 = .ok (.aload_n 0, 1) := by decide +kernel
theorem dX4_believed_12 : decode cX4_believed 12 = .ok (.iload_n 3, 1) := by decide +kernel
theorem dX4_believed_13 : decode cX4_believed 13 = .ok (.invokevirtual 129, 3) := by decide +kernel
theorem dX4_believed_16 : decode cX4_believed 16 = .ok (.ireturn, 1) := by decide +kernel
theorem dX4_believed_17 : decode cX4_believed 17 = .ok (.iconst 0, 1) := by decide +kernel
theorem dX4_believed_18 : decode cX4_believed 18 = .ok (.istore 4, 2) := by decide +kernel
theorem dX4_believed_20 : decode cX4_believed 20 = .ok (.iload 4, 2) := by decide +kernel
theorem dX4_believed_22 : decode cX4_believed 22 = .ok (.bipush 100, 2) := by decide +kernel
theorem dX4_believed_24 : decode cX4_believed 24 = .ok (.if_icmp .ge 21, 3) := by decide +kernel
theorem dX4_believed_27 : decode cX4_believed 27 = .ok (.aload_n 0, 1) := by decide +kernel
theorem dX4_believed_28 : decode cX4_believed 28 = .ok (.iload_n 1, 1) := by decide +kernel
theorem dX4_believed_29 : decode cX4_believed 29 = .ok (.iload_n 2, 1) := by decide +kernel
theorem dX4_believed_30 : decode cX4_believed 30 = .ok (.iconst 2, 1) := by decide +kernel
theorem dX4_believed_31 : decode cX4_believed 31 = .ok (.iload 4, 2) := by decide +kernel
theorem dX4_believed_33 : decode cX4_believed 33 = .ok (.invokevirtual 201, 3) := by decide +kernel
theorem dX4_believed_36 : decode cX4_believed 36 = .ok (.ifCond .ne 9, 3) := by decide +kernel
theorem dX4_believed_39 : decode cX4_believed 39 = .ok (.iinc 4 1, 3) := by decide +kernel
theorem dX4_believed_42 : decode cX4_believed 42 = .ok (.goto (-22), 3) := by decide +kernel
theorem dX4_believed_45 : decode cX4_believed 45 = .ok (.iload 4, 2) := by decide +kernel
theorem dX4_believed_47 : decode cX4_believed 47 = .ok (.bipush 100, 2) := by decide +kernel
theorem dX4_believed_49 : decode cX4_believed 49 = .ok (.if_icmp .ne 11, 3) := by decide +kernel
theorem dX4_believed_52 : decode cX4_believed 52 = .ok (.aload_n 0, 1) := by decide +kernel
theorem dX4_believed_53 : decode cX4_believed 53 = .ok (.iconst 3, 1) := by decide +kernel
theorem dX4_believed_54 : decode cX4_believed 54 = .ok (.invokevirtual 129, 3) := by decide +kernel
theorem dX4_believed_57 : decode cX4_believed 57 = .ok (.goto 5, 3) := by decide +kernel
theorem dX4_believed_60 : decode cX4_believed 60 = .ok (.iload 4, 2) := by decide +kernel
theorem dX4_believed_62 : decode cX4_believed 62 = .ok (.ireturn, 1) := by decide +kernel
theorem dX4_kinds_0 : decode cX4_kinds 0 = .ok (.aload_n 0, 1) := by decide +kernel
theorem dX4_kinds_1 : decode cX4_kinds 1 = .ok (.iload_n 1, 1) := by decide +kernel
theorem dX4_kinds_2 : decode cX4_kinds 2 = .ok (.iload_n 2, 1) := by decide +kernel
theorem dX4_kinds_3 : decode cX4_kinds 3 = .ok (.invokevirtual 198, 3) := by decide +kernel
theorem dX4_kinds_6 : decode cX4_kinds 6 = .ok (.istore_n 3, 1) := by decide +kernel
theorem dX4_kinds_7 : decode cX4_kinds 7 = .ok (.iload_n 3, 1) := by decide +kernel
theorem dX4_kinds_8 : decode cX4_kinds 8 = .ok (.ifCond .lt 9, 3) := by decide +kernel
theorem dX4_kinds_11 : decode cX4_kinds 11 = .ok (.aload_n 0, 1) := by decide +kernel
theorem dX4_kinds_12 : decode cX4_kinds 12 = .ok (.iload_n 3, 1) := by decide +kernel
theorem dX4_kinds_13 : decode cX4_kinds 13 = .ok (.invokevirtual 129, 3) := by decide +kernel
theorem dX4_kinds_16 : decode cX4_kinds 16 = .ok (.ireturn, 1) := by decide +kernel
theorem dX4_kinds_17 : decode cX4_kinds 17 = .ok (.iconst 0, 1) := by decide +kernel
theorem dX4_kinds_18 : decode cX4_kinds 18 = .ok (.istore 4, 2) := by decide +kernel
theorem dX4_kinds_20 : decode cX4_kinds 20 = .ok (.iconst 0, 1) := by decide +kernel
theorem dX4_kinds_21 : decode cX4_kinds 21 = .ok (.istore 5, 2) := by decide +kernel
theorem dX4_kinds_23 : decode cX4_kinds 23 = .ok (.iload 5, 2) := by decide +kernel
theorem dX4_kinds_25 : decode cX4_kinds 25 = .ok (.bipush 6, 2) := by decide +kernel
theorem dX4_kinds_27 : decode cX4_kinds 27 = .ok (.if_icmp .gt 34, 3) := by decide +kernel
theorem dX4_kinds_30 : decode cX4_kinds 30 = .ok (.iload 4, 2) := by decide +kernel
theorem dX4_kinds_32 : decode cX4_kinds 32 = .ok (.aload_n 0, 1) := by decide +kernel
theorem dX4_kinds_33 : decode cX4_kinds 33 = .ok (.iload_n 1, 1) := by decide +kernel
theorem dX4_kinds_34 : decode cX4_kinds 34 = .ok (.iload_n 2, 1) := by decide +kernel
theorem dX4_kinds_35 : decode cX4_kinds 35 = .ok (.iconst 0, 1) := by decide +kernel
theorem dX4_kinds_36 : decode cX4_kinds 36 = .ok (.iload 5, 2) := by decide +kernel
theorem dX4_kinds_38 : decode cX4_kinds 38 = .ok (.invokevirtual 201, 3) := by decide +kernel
theorem dX4_kinds_41 : decode cX4_kinds 41 = .ok (.ifCond .eq 10, 3) := by decide +kernel
theorem dX4_kinds_44 : decode cX4_kinds 44 = .ok (.iconst 1, 1) := by decide +kernel
theorem dX4_kinds_45 : decode cX4_kinds 45 = .ok (.iload 5, 2) := by decide +kernel
theorem dX4_kinds_47 : decode cX4_kinds 47 = .ok (.ishl, 1) := by decide +kernel
theorem dX4_kinds_48 : decode cX4_kinds 48 = .ok (.goto 4, 3) := by decide +kernel
theorem dX4_kinds_51 : decode cX4_kinds 51 = .ok (.iconst 0, 1) := by decide +kernel
theorem dX4_kinds_52 : decode cX4_kinds 52 = .ok (.ior, 1) := by decide +kernel
theorem dX4_kinds_53 : decode cX4_kinds 53 = .ok (.istore 4, 2) := by decide +kernel
theorem dX4_kinds_55 : decode cX4_kinds 55 = .ok (.iinc 5 1, 3) := by decide +kernel
theorem dX4_kinds_58 : decode cX4_kinds 58 = .ok (.goto (-35), 3) := by decide +kernel
theorem dX4_kinds_61 : decode cX4_kinds 61 = .ok (.iload 4, 2) := by decide +kernel
theorem dX4_kinds_63 : decode cX4_kinds 63 = .ok (.ireturn, 1) := by decide +kernel
theorem dX4_draw_0 : decode cX4_draw 0 = .ok (.aload_n 0, 1) := by decide +kernel
theorem dX4_draw_1 : decode cX4_draw 1 = .ok (.getfield 9, 3) := by decide +kernel
theorem dX4_draw_4 : decode cX4_draw 4 = .ok (.iconst 2, 1) := by decide +kernel
theorem dX4_draw_5 : decode cX4_draw 5 = .ok (.aload_n 0, 1) := by decide +kernel
theorem dX4_draw_6 : decode cX4_draw 6 = .ok (.getfield 9, 3) := by decide +kernel
theorem dX4_draw_9 : decode cX4_draw 9 = .ok (.iconst 2, 1) := by decide +kernel
theorem dX4_draw_10 : decode cX4_draw 10 = .ok (.iaload, 1) := by decide +kernel
theorem dX4_draw_11 : decode cX4_draw 11 = .ok (.ldc 205, 2) := by decide +kernel
theorem dX4_draw_13 : decode cX4_draw 13 = .ok (.imul, 1) := by decide +kernel
theorem dX4_draw_14 : decode cX4_draw 14 = .ok (.sipush 12345, 3) := by decide +kernel
theorem dX4_draw_17 : decode cX4_draw 17 = .ok (.iadd, 1) := by decide +kernel
theorem dX4_draw_18 : decode cX4_draw 18 = .ok (.iastore, 1) := by decide +kernel
theorem dX4_draw_19 : decode cX4_draw 19 = .ok (.aload_n 0, 1) := by decide +kernel
theorem dX4_draw_20 : decode cX4_draw 20 = .ok (.getfield 9, 3) := by decide +kernel
theorem dX4_draw_23 : decode cX4_draw 23 = .ok (.iconst 2, 1) := by decide +kernel
theorem dX4_draw_24 : decode cX4_draw 24 = .ok (.iaload, 1) := by decide +kernel
theorem dX4_draw_25 : decode cX4_draw 25 = .ok (.bipush 8, 2) := by decide +kernel
theorem dX4_draw_27 : decode cX4_draw 27 = .ok (.iushr, 1) := by decide +kernel
theorem dX4_draw_28 : decode cX4_draw 28 = .ok (.ireturn, 1) := by decide +kernel
theorem dX4_fine_0 : decode cX4_fine 0 = .ok (.iload_n 1, 1) := by decide +kernel
theorem dX4_fine_1 : decode cX4_fine 1 = .ok (.iconst 1, 1) := by decide +kernel
theorem dX4_fine_2 : decode cX4_fine 2 = .ok (.bipush 20, 2) := by decide +kernel
theorem dX4_fine_4 : decode cX4_fine 4 = .ok (.invokestatic 61, 3) := by decide +kernel
theorem dX4_fine_7 : decode cX4_fine 7 = .ok (.ifCond .ne 9, 3) := by decide +kernel
theorem dX4_fine_10 : decode cX4_fine 10 = .ok (.aload_n 0, 1) := by decide +kernel
theorem dX4_fine_11 : decode cX4_fine 11 = .ok (.iconst 0, 1) := by decide +kernel
theorem dX4_fine_12 : decode cX4_fine 12 = .ok (.invokevirtual 129, 3) := by decide +kernel
theorem dX4_fine_15 : decode cX4_fine 15 = .ok (.ireturn, 1) := by decide +kernel
theorem dX4_fine_16 : decode cX4_fine 16 = .ok (.aload_n 0, 1) := by decide +kernel
theorem dX4_fine_17 : decode cX4_fine 17 = .ok (.getfield 9, 3) := by decide +kernel
theorem dX4_fine_20 : decode cX4_fine 20 = .ok (.iconst 0, 1) := by decide +kernel
theorem dX4_fine_21 : decode cX4_fine 21 = .ok (.iaload, 1) := by decide +kernel
theorem dX4_fine_22 : decode cX4_fine 22 = .ok (.iload_n 1, 1) := by decide +kernel
theorem dX4_fine_23 : decode cX4_fine 23 = .ok (.iadd, 1) := by decide +kernel
theorem dX4_fine_24 : decode cX4_fine 24 = .ok (.ldc 122, 2) := by decide +kernel
theorem dX4_fine_26 : decode cX4_fine 26 = .ok (.if_icmp .le 9, 3) := by decide +kernel
theorem dX4_fine_29 : decode cX4_fine 29 = .ok (.aload_n 0, 1) := by decide +kernel
theorem dX4_fine_30 : decode cX4_fine 30 = .ok (.iconst 4, 1) := by decide +kernel
theorem dX4_fine_31 : decode cX4_fine 31 = .ok (.invokevirtual 129, 3) := by decide +kernel
theorem dX4_fine_34 : decode cX4_fine 34 = .ok (.ireturn, 1) := by decide +kernel
theorem dX4_fine_35 : decode cX4_fine 35 = .ok (.iconst 0, 1) := by decide +kernel
theorem dX4_fine_36 : decode cX4_fine 36 = .ok (.istore_n 2, 1) := by decide +kernel
theorem dX4_fine_37 : decode cX4_fine 37 = .ok (.iload_n 2, 1) := by decide +kernel
theorem dX4_fine_38 : decode cX4_fine 38 = .ok (.iload_n 1, 1) := by decide +kernel
theorem dX4_fine_39 : decode cX4_fine 39 = .ok (.if_icmp .ge 49, 3) := by decide +kernel
theorem dX4_fine_42 : decode cX4_fine 42 = .ok (.aload_n 0, 1) := by decide +kernel
theorem dX4_fine_43 : decode cX4_fine 43 = .ok (.getfield 9, 3) := by decide +kernel
theorem dX4_fine_46 : decode cX4_fine 46 = .ok (.iconst 4, 1) := by decide +kernel
theorem dX4_fine_47 : decode cX4_fine 47 = .ok (.aload_n 0, 1) := by decide +kernel
theorem dX4_fine_48 : decode cX4_fine 48 = .ok (.getfield 9, 3) := by decide +kernel
theorem dX4_fine_51 : decode cX4_fine 51 = .ok (.iconst 0, 1) := by decide +kernel
theorem dX4_fine_52 : decode cX4_fine 52 = .ok (.iaload, 1) := by decide +kernel
theorem dX4_fine_53 : decode cX4_fine 53 = .ok (.bipush 6, 2) := by decide +kernel
theorem dX4_fine_55 : decode cX4_fine 55 = .ok (.irem, 1) := by decide +kernel
theorem dX4_fine_56 : decode cX4_fine 56 = .ok (.iadd, 1) := by decide +kernel
theorem dX4_fine_57 : decode cX4_fine 57 = .ok (.aload_n 0, 1) := by decide +kernel
theorem dX4_fine_58 : decode cX4_fine 58 = .ok (.invokevirtual 206, 3) := by decide +kernel
theorem dX4_fine_61 : decode cX4_fine 61 = .ok (.bipush 41, 2) := by decide +kernel
theorem dX4_fine_63 : decode cX4_fine 63 = .ok (.irem, 1) := by decide +kernel
theorem dX4_fine_64 : decode cX4_fine 64 = .ok (.iastore, 1) := by decide +kernel
theorem dX4_fine_65 : decode cX4_fine 65 = .ok (.aload_n 0, 1) := by decide +kernel
theorem dX4_fine_66 : decode cX4_fine 66 = .ok (.aload_n 0, 1) := by decide +kernel
theorem dX4_fine_67 : decode cX4_fine 67 = .ok (.invokevirtual 206, 3) := by decide +kernel
theorem dX4_fine_70 : decode cX4_fine 70 = .ok (.bipush 10, 2) := by decide +kernel
theorem dX4_fine_72 : decode cX4_fine 72 = .ok (.irem, 1) := by decide +kernel
theorem dX4_fine_73 : decode cX4_fine 73 = .ok (.iconst 2, 1) := by decide +kernel
theorem dX4_fine_74 : decode cX4_fine 74 = .ok (.iconst (-1), 1) := by decide +kernel
theorem dX4_fine_75 : decode cX4_fine 75 = .ok (.invokevirtual 56, 3) := by decide +kernel
theorem dX4_fine_78 : decode cX4_fine 78 = .ok (.aload_n 0, 1) := by decide +kernel
theorem dX4_fine_79 : decode cX4_fine 79 = .ok (.invokevirtual 123, 3) := by decide +kernel
theorem dX4_fine_82 : decode cX4_fine 82 = .ok (.iinc 2 1, 3) := by decide +kernel
theorem dX4_fine_85 : decode cX4_fine 85 = .ok (.goto (-48), 3) := by decide +kernel
theorem dX4_fine_88 : decode cX4_fine 88 = .ok (.aload_n 0, 1) := by decide +kernel
theorem dX4_fine_89 : decode cX4_fine 89 = .ok (.invokevirtual 147, 3) := by decide +kernel
theorem dX4_fine_92 : decode cX4_fine 92 = .ok (.ireturn, 1) := by decide +kernel
theorem dX4_odds_0 : decode cX4_odds 0 = .ok (.aload_n 0, 1) := by decide +kernel
theorem dX4_odds_1 : decode cX4_odds 1 = .ok (.iload_n 1, 1) := by decide +kernel
theorem dX4_odds_2 : decode cX4_odds 2 = .ok (.invokevirtual 138, 3) := by decide +kernel
theorem dX4_odds_5 : decode cX4_odds 5 = .ok (.ifCond .eq 22, 3) := by decide +kernel
theorem dX4_odds_8 : decode cX4_odds 8 = .ok (.iload_n 2, 1) := by decide +kernel
theorem dX4_odds_9 : decode cX4_odds 9 = .ok (.iconst 0, 1) := by decide +kernel
theorem dX4_odds_10 : decode cX4_odds 10 = .ok (.bipush 18, 2) := by decide +kernel
theorem dX4_odds_12 : decode cX4_odds 12 = .ok (.invokestatic 61, 3) := by decide +kernel
theorem dX4_odds_15 : decode cX4_odds 15 = .ok (.ifCond .eq 12, 3) := by decide +kernel
theorem dX4_odds_18 : decode cX4_odds 18 = .ok (.iload_n 3, 1) := by decide +kernel
theorem dX4_odds_19 : decode cX4_odds 19 = .ok (.iconst 0, 1) := by decide +kernel
theorem dX4_odds_20 : decode cX4_odds 20 = .ok (.iconst 1, 1) := by decide +kernel
theorem dX4_odds_21 : decode cX4_odds 21 = .ok (.invokestatic 61, 3) := by decide +kernel
theorem dX4_odds_24 : decode cX4_odds 24 = .ok (.ifCond .ne 10, 3) := by decide +kernel
theorem dX4_odds_27 : decode cX4_odds 27 = .ok (.aload_n 0, 1) := by decide +kernel
theorem dX4_odds_28 : decode cX4_odds 28 = .ok (.iconst 0, 1) := by decide +kernel
theorem dX4_odds_29 : decode cX4_odds 29 = .ok (.invokevirtual 129, 3) := by decide +kernel
theorem dX4_odds_32 : decode cX4_odds 32 = .ok (.i2l, 1) := by decide +kernel
theorem dX4_odds_33 : decode cX4_odds 33 = .ok (.lreturn, 1) := by decide +kernel
theorem dX4_odds_34 : decode cX4_odds 34 = .ok (.iconst 0, 1) := by decide +kernel
theorem dX4_odds_35 : decode cX4_odds 35 = .ok (.istore 4, 2) := by decide +kernel
theorem dX4_odds_37 : decode cX4_odds 37 = .ok (.iconst 0, 1) := by decide +kernel
theorem dX4_odds_38 : decode cX4_odds 38 = .ok (.istore 5, 2) := by decide +kernel
theorem dX4_odds_40 : decode cX4_odds 40 = .ok (.iload 5, 2) := by decide +kernel
theorem dX4_odds_42 : decode cX4_odds 42 = .ok (.bipush 10, 2) := by decide +kernel
theorem dX4_odds_44 : decode cX4_odds 44 = .ok (.if_icmp .ge 29, 3) := by decide +kernel
theorem dX4_odds_47 : decode cX4_odds 47 = .ok (.iload 4, 2) := by decide +kernel
theorem dX4_odds_49 : decode cX4_odds 49 = .ok (.aload_n 0, 1) := by decide +kernel
theorem dX4_odds_50 : decode cX4_odds 50 = .ok (.iload_n 1, 1) := by decide +kernel
theorem dX4_odds_51 : decode cX4_odds 51 = .ok (.iload 5, 2) := by decide +kernel
theorem dX4_odds_53 : decode cX4_odds 53 = .ok (.invokevirtual 82, 3) := by decide +kernel
theorem dX4_odds_56 : decode cX4_odds 56 = .ok (.ifCond .eq 7, 3) := by decide +kernel
theorem dX4_odds_59 : decode cX4_odds 59 = .ok (.iconst 1, 1) := by decide +kernel
theorem dX4_odds_60 : decode cX4_odds 60 = .ok (.goto 4, 3) := by decide +kernel
theorem dX4_odds_63 : decode cX4_odds 63 = .ok (.iconst 0, 1) := by decide +kernel
theorem dX4_odds_64 : decode cX4_odds 64 = .ok (.iadd, 1) := by decide +kernel
theorem dX4_odds_65 : decode cX4_odds 65 = .ok (.istore 4, 2) := by decide +kernel
theorem dX4_odds_67 : decode cX4_odds 67 = .ok (.iinc 5 1, 3) := by decide +kernel
theorem dX4_odds_70 : decode cX4_odds 70 = .ok (.goto (-30), 3) := by decide +kernel
theorem dX4_odds_73 : decode cX4_odds 73 = .ok (.lconst 1, 1) := by decide +kernel
theorem dX4_odds_74 : decode cX4_odds 74 = .ok (.lstore 5, 2) := by decide +kernel
theorem dX4_odds_76 : decode cX4_odds 76 = .ok (.lconst 1, 1) := by decide +kernel
theorem dX4_odds_77 : decode cX4_odds 77 = .ok (.lstore 7, 2) := by decide +kernel
theorem dX4_odds_79 : decode cX4_odds 79 = .ok (.iconst 0, 1) := by decide +kernel
theorem dX4_odds_80 : decode cX4_odds 80 = .ok (.istore 9, 2) := by decide +kernel
theorem dX4_odds_82 : decode cX4_odds 82 = .ok (.iload 9, 2) := by decide +kernel
theorem dX4_odds_84 : decode cX4_odds 84 = .ok (.iload_n 2, 1) := by decide +kernel
theorem dX4_odds_85 : decode cX4_odds 85 = .ok (.if_icmp .ge 25, 3) := by decide +kernel
theorem dX4_odds_88 : decode cX4_odds 88 = .ok (.lload 5, 2) := by decide +kernel
theorem dX4_odds_90 : decode cX4_odds 90 = .ok (.iload 4, 2) := by decide +kernel
theorem dX4_odds_92 : decode cX4_odds 92 = .ok (.i2l, 1) := by decide +kernel
theorem dX4_odds_93 : decode cX4_odds 93 = .ok (.lmul, 1) := by decide +kernel
theorem dX4_odds_94 : decode cX4_odds 94 = .ok (.lstore 5, 2) := by decide +kernel
theorem dX4_odds_96 : decode cX4_odds 96 = .ok (.lload 7, 2) := by decide +kernel
theorem dX4_odds_98 : decode cX4_odds 98 = .ok (.ldc2_w 209, 3) := by decide +kernel
theorem dX4_odds_101 : decode cX4_odds 101 = .ok (.lmul, 1) := by decide +kernel
theorem dX4_odds_102 : decode cX4_odds 102 = .ok (.lstore 7, 2) := by decide +kernel
theorem dX4_odds_104 : decode cX4_odds 104 = .ok (.iinc 9 1, 3) := by decide +kernel
theorem dX4_odds_107 : decode cX4_odds 107 = .ok (.goto (-25), 3) := by decide +kernel
theorem dX4_odds_110 : decode cX4_odds 110 = .ok (.lload 5, 2) := by decide +kernel
theorem dX4_odds_112 : decode cX4_odds 112 = .ok (.lstore 9, 2) := by decide +kernel
theorem dX4_odds_114 : decode cX4_odds 114 = .ok (.lload 7, 2) := by decide +kernel
theorem dX4_odds_116 : decode cX4_odds 116 = .ok (.lstore 11, 2) := by decide +kernel
theorem dX4_odds_118 : decode cX4_odds 118 = .ok (.lload 11, 2) := by decide +kernel
theorem dX4_odds_120 : decode cX4_odds 120 = .ok (.lconst 0, 1) := by decide +kernel
theorem dX4_odds_121 : decode cX4_odds 121 = .ok (.lcmp, 1) := by decide +kernel
theorem dX4_odds_122 : decode cX4_odds 122 = .ok (.ifCond .eq 21, 3) := by decide +kernel
theorem dX4_odds_125 : decode cX4_odds 125 = .ok (.lload 9, 2) := by decide +kernel
theorem dX4_odds_127 : decode cX4_odds 127 = .ok (.lload 11, 2) := by decide +kernel
theorem dX4_odds_129 : decode cX4_odds 129 = .ok (.lrem, 1) := by decide +kernel
theorem dX4_odds_130 : decode cX4_odds 130 = .ok (.lstore 13, 2) := by decide +kernel
theorem dX4_odds_132 : decode cX4_odds 132 = .ok (.lload 11, 2) := by decide +kernel
theorem dX4_odds_134 : decode cX4_odds 134 = .ok (.lstore 9, 2) := by decide +kernel
theorem dX4_odds_136 : decode cX4_odds 136 = .ok (.lload 13, 2) := by decide +kernel
theorem dX4_odds_138 : decode cX4_odds 138 = .ok (.lstore 11, 2) := by decide +kernel
theorem dX4_odds_140 : decode cX4_odds 140 = .ok (.goto (-22), 3) := by decide +kernel
theorem dX4_odds_143 : decode cX4_odds 143 = .ok (.iload_n 3, 1) := by decide +kernel
theorem dX4_odds_144 : decode cX4_odds 144 = .ok (.ifCond .ne 11, 3) := by decide +kernel
theorem dX4_odds_147 : decode cX4_odds 147 = .ok (.lload 5, 2) := by decide +kernel
theorem dX4_odds_149 : decode cX4_odds 149 = .ok (.lload 9, 2) := by decide +kernel
theorem dX4_odds_151 : decode cX4_odds 151 = .ok (.ldiv, 1) := by decide +kernel
theorem dX4_odds_152 : decode cX4_odds 152 = .ok (.goto 8, 3) := by decide +kernel
theorem dX4_odds_155 : decode cX4_odds 155 = .ok (.lload 7, 2) := by decide +kernel
theorem dX4_odds_157 : decode cX4_odds 157 = .ok (.lload 9, 2) := by decide +kernel
theorem dX4_odds_159 : decode cX4_odds 159 = .ok (.ldiv, 1) := by decide +kernel
theorem dX4_odds_160 : decode cX4_odds 160 = .ok (.lreturn, 1) := by decide +kernel
theorem dX4_seed_0 : decode cX4_seed 0 = .ok (.aload_n 0, 1) := by decide +kernel
theorem dX4_seed_1 : decode cX4_seed 1 = .ok (.getfield 9, 3) := by decide +kernel
theorem dX4_seed_4 : decode cX4_seed 4 = .ok (.iconst 2, 1) := by decide +kernel
theorem dX4_seed_5 : decode cX4_seed 5 = .ok (.iaload, 1) := by decide +kernel
theorem dX4_seed_6 : decode cX4_seed 6 = .ok (.istore_n 2, 1) := by decide +kernel
theorem dX4_seed_7 : decode cX4_seed 7 = .ok (.aload_n 0, 1) := by decide +kernel
theorem dX4_seed_8 : decode cX4_seed 8 = .ok (.getfield 9, 3) := by decide +kernel
theorem dX4_seed_11 : decode cX4_seed 11 = .ok (.iconst 2, 1) := by decide +kernel
theorem dX4_seed_12 : decode cX4_seed 12 = .ok (.iload_n 1, 1) := by decide +kernel
theorem dX4_seed_13 : decode cX4_seed 13 = .ok (.iastore, 1) := by decide +kernel
theorem dX4_seed_14 : decode cX4_seed 14 = .ok (.iload_n 2, 1) := by decide +kernel
theorem dX4_seed_15 : decode cX4_seed 15 = .ok (.ireturn, 1) := by decide +kernel
theorem dX4_feed_0 : decode cX4_feed 0 = .ok (.iload_n 2, 1) := by decide +kernel
theorem dX4_feed_1 : decode cX4_feed 1 = .ok (.iconst 1, 1) := by decide +kernel
theorem dX4_feed_2 : decode cX4_feed 2 = .ok (.iconst 4, 1) := by decide +kernel
theorem dX4_feed_3 : decode cX4_feed 3 = .ok (.invokestatic 61, 3) := by decide +kernel
theorem dX4_feed_6 : decode cX4_feed 6 = .ok (.ifCond .ne 9, 3) := by decide +kernel
theorem dX4_feed_9 : decode cX4_feed 9 = .ok (.aload_n 0, 1) := by decide +kernel
theorem dX4_feed_10 : decode cX4_feed 10 = .ok (.iconst 0, 1) := by decide +kernel
theorem dX4_feed_11 : decode cX4_feed 11 = .ok (.invokevirtual 129, 3) := by decide +kernel
theorem dX4_feed_14 : decode cX4_feed 14 = .ok (.ireturn, 1) := by decide +kernel
theorem dX4_feed_15 : decode cX4_feed 15 = .ok (.aload_n 0, 1) := by decide +kernel
theorem dX4_feed_16 : decode cX4_feed 16 = .ok (.getfield 211, 3) := by decide +kernel
theorem dX4_feed_19 : decode cX4_feed 19 = .ok (.iload_n 2, 1) := by decide +kernel
theorem dX4_feed_20 : decode cX4_feed 20 = .ok (.iadd, 1) := by decide +kernel
theorem dX4_feed_21 : decode cX4_feed 21 = .ok (.bipush 120, 2) := by decide +kernel
theorem dX4_feed_23 : decode cX4_feed 23 = .ok (.if_icmp .le 9, 3) := by decide +kernel
theorem dX4_feed_26 : decode cX4_feed 26 = .ok (.aload_n 0, 1) := by decide +kernel
theorem dX4_feed_27 : decode cX4_feed 27 = .ok (.iconst 1, 1) := by decide +kernel
theorem dX4_feed_28 : decode cX4_feed 28 = .ok (.invokevirtual 129, 3) := by decide +kernel
theorem dX4_feed_31 : decode cX4_feed 31 = .ok (.ireturn, 1) := by decide +kernel
theorem dX4_feed_32 : decode cX4_feed 32 = .ok (.iload_n 2, 1) := by decide +kernel
theorem dX4_feed_33 : decode cX4_feed 33 = .ok (.iconst 1, 1) := by decide +kernel
theorem dX4_feed_34 : decode cX4_feed 34 = .ok (.isub, 1) := by decide +kernel
theorem dX4_feed_35 : decode cX4_feed 35 = .ok (.istore_n 3, 1) := by decide +kernel
theorem dX4_feed_36 : decode cX4_feed 36 = .ok (.iload_n 3, 1) := by decide +kernel
theorem dX4_feed_37 : decode cX4_feed 37 = .ok (.ifCond .lt 38, 3) := by decide +kernel
theorem dX4_feed_40 : decode cX4_feed 40 = .ok (.aload_n 0, 1) := by decide +kernel
theorem dX4_feed_41 : decode cX4_feed 41 = .ok (.getfield 28, 3) := by decide +kernel
theorem dX4_feed_44 : decode cX4_feed 44 = .ok (.aload_n 0, 1) := by decide +kernel
theorem dX4_feed_45 : decode cX4_feed 45 = .ok (.getfield 211, 3) := by decide +kernel
theorem dX4_feed_48 : decode cX4_feed 48 = .ok (.iload_n 1, 1) := by decide +kernel
theorem dX4_feed_49 : decode cX4_feed 49 = .ok (.bipush 8, 2) := by decide +kernel
theorem dX4_feed_51 : decode cX4_feed 51 = .ok (.iload_n 3, 1) := by decide +kernel
theorem dX4_feed_52 : decode cX4_feed 52 = .ok (.imul, 1) := by decide +kernel
theorem dX4_feed_53 : decode cX4_feed 53 = .ok (.ishr, 1) := by decide +kernel
theorem dX4_feed_54 : decode cX4_feed 54 = .ok (.sipush 255, 3) := by decide +kernel
theorem dX4_feed_57 : decode cX4_feed 57 = .ok (.iand, 1) := by decide +kernel
theorem dX4_feed_58 : decode cX4_feed 58 = .ok (.iastore, 1) := by decide +kernel
theorem dX4_feed_59 : decode cX4_feed 59 = .ok (.aload_n 0, 1) := by decide +kernel
theorem dX4_feed_60 : decode cX4_feed 60 = .ok (.dup, 1) := by decide +kernel
theorem dX4_feed_61 : decode cX4_feed 61 = .ok (.getfield 211, 3) := by decide +kernel
theorem dX4_feed_64 : decode cX4_feed 64 = .ok (.iconst 1, 1) := by decide +kernel
theorem dX4_feed_65 : decode cX4_feed 65 = .ok (.iadd, 1) := by decide +kernel
theorem dX4_feed_66 : decode cX4_feed 66 = .ok (.putfield 211, 3) := by decide +kernel
theorem dX4_feed_69 : decode cX4_feed 69 = .ok (.iinc 3 (-1), 3) := by decide +kernel
theorem dX4_feed_72 : decode cX4_feed 72 = .ok (.goto (-36), 3) := by decide +kernel
theorem dX4_feed_75 : decode cX4_feed 75 = .ok (.aload_n 0, 1) := by decide +kernel
theorem dX4_feed_76 : decode cX4_feed 76 = .ok (.getfield 211, 3) := by decide +kernel
theorem dX4_feed_79 : decode cX4_feed 79 = .ok (.ireturn, 1) := by decide +kernel
theorem dX4_wipe_0 : decode cX4_wipe 0 = .ok (.aload_n 0, 1) := by decide +kernel
theorem dX4_wipe_1 : decode cX4_wipe 1 = .ok (.getfield 211, 3) := by decide +kernel
theorem dX4_wipe_4 : decode cX4_wipe 4 = .ok (.istore_n 1, 1) := by decide +kernel
theorem dX4_wipe_5 : decode cX4_wipe 5 = .ok (.aload_n 0, 1) := by decide +kernel
theorem dX4_wipe_6 : decode cX4_wipe 6 = .ok (.iconst 0, 1) := by decide +kernel
theorem dX4_wipe_7 : decode cX4_wipe 7 = .ok (.putfield 211, 3) := by decide +kernel
theorem dX4_wipe_10 : decode cX4_wipe 10 = .ok (.iload_n 1, 1) := by decide +kernel
theorem dX4_wipe_11 : decode cX4_wipe 11 = .ok (.ireturn, 1) := by decide +kernel
theorem dX4_isLetter_0 : decode cX4_isLetter 0 = .ok (.iload_n 0, 1) := by decide +kernel
theorem dX4_isLetter_1 : decode cX4_isLetter 1 = .ok (.bipush 97, 2) := by decide +kernel
theorem dX4_isLetter_3 : decode cX4_isLetter 3 = .ok (.bipush 122, 2) := by decide +kernel
theorem dX4_isLetter_5 : decode cX4_isLetter 5 = .ok (.invokestatic 61, 3) := by decide +kernel
theorem dX4_isLetter_8 : decode cX4_isLetter 8 = .ok (.ireturn, 1) := by decide +kernel
theorem dX4_isDigit_0 : decode cX4_isDigit 0 = .ok (.iload_n 0, 1) := by decide +kernel
theorem dX4_isDigit_1 : decode cX4_isDigit 1 = .ok (.bipush 48, 2) := by decide +kernel
theorem dX4_isDigit_3 : decode cX4_isDigit 3 = .ok (.bipush 57, 2) := by decide +kernel
theorem dX4_isDigit_5 : decode cX4_isDigit 5 = .ok (.invokestatic 61, 3) := by decide +kernel
theorem dX4_isDigit_8 : decode cX4_isDigit 8 = .ok (.ireturn, 1) := by decide +kernel
theorem dX4_nextToken_0 : decode cX4_nextToken 0 = .ok (.aload_n 0, 1) := by decide +kernel
theorem dX4_nextToken_1 : decode cX4_nextToken 1 = .ok (.aload_n 0, 1) := by decide +kernel
theorem dX4_nextToken_2 : decode cX4_nextToken 2 = .ok (.getfield 214, 3) := by decide +kernel
theorem dX4_nextToken_5 : decode cX4_nextToken 5 = .ok (.putfield 217, 3) := by decide +kernel
theorem dX4_nextToken_8 : decode cX4_nextToken 8 = .ok (.aload_n 0, 1) := by decide +kernel
theorem dX4_nextToken_9 : decode cX4_nextToken 9 = .ok (.getfield 217, 3) := by decide +kernel
theorem dX4_nextToken_12 : decode cX4_nextToken 12 = .ok (.aload_n 0, 1) := by decide +kernel
theorem dX4_nextToken_13 : decode cX4_nextToken 13 = .ok (.getfield 211, 3) := by decide +kernel
theorem dX4_nextToken_16 : decode cX4_nextToken 16 = .ok (.if_icmp .ge 30, 3) := by decide +kernel
theorem dX4_nextToken_19 : decode cX4_nextToken 19 = .ok (.aload_n 0, 1) := by decide +kernel
theorem dX4_nextToken_20 : decode cX4_nextToken 20 = .ok (.getfield 28, 3) := by decide +kernel
theorem dX4_nextToken_23 : decode cX4_nextToken 23 = .ok (.aload_n 0, 1) := by decide +kernel
theorem dX4_nextToken_24 : decode cX4_nextToken 24 = .ok (.getfield 217, 3) := by decide +kernel
theorem dX4_nextToken_27 : decode cX4_nextToken 27 = .ok (.iaload, 1) := by decide +kernel
theorem dX4_nextToken_28 : decode cX4_nextToken 28 = .ok (.bipush 32, 2) := by decide +kernel
theorem dX4_nextToken_30 : decode cX4_nextToken 30 = .ok (.if_icmp .ne 16, 3) := by decide +kernel
theorem dX4_nextToken_33 : decode cX4_nextToken 33 = .ok (.aload_n 0, 1) := by decide +kernel
theorem dX4_nextToken_34 : decode cX4_nextToken 34 = .ok (.dup, 1) := by decide +kernel
theorem dX4_nextToken_35 : decode cX4_nextToken 35 = .ok (.getfield 217, 3) := by decide +kernel
theorem dX4_nextToken_38 : decode cX4_nextToken 38 = .ok (.iconst 1, 1) := by decide +kernel
theorem dX4_nextToken_39 : decode cX4_nextToken 39 = .ok (.iadd, 1) := by decide +kernel
theorem dX4_nextToken_40 : decode cX4_nextToken 40 = .ok (.putfield 217, 3) := by decide +kernel
theorem dX4_nextToken_43 : decode cX4_nextToken 43 = .ok (.goto (-35), 3) := by decide +kernel
theorem dX4_nextToken_46 : decode cX4_nextToken 46 = .ok (.aload_n 0, 1) := by decide +kernel
theorem dX4_nextToken_47 : decode cX4_nextToken 47 = .ok (.aload_n 0, 1) := by decide +kernel
theorem dX4_nextToken_48 : decode cX4_nextToken 48 = .ok (.getfield 217, 3) := by decide +kernel
theorem dX4_nextToken_51 : decode cX4_nextToken 51 = .ok (.putfield 214, 3) := by decide +kernel
theorem dX4_nextToken_54 : decode cX4_nextToken 54 = .ok (.aload_n 0, 1) := by decide +kernel
theorem dX4_nextToken_55 : decode cX4_nextToken 55 = .ok (.lconst 0, 1) := by decide +kernel
theorem dX4_nextToken_56 : decode cX4_nextToken 56 = .ok (.putfield 220, 3) := by decide +kernel
theorem dX4_nextToken_59 : decode cX4_nextToken 59 = .ok (.aload_n 0, 1) := by decide +kernel
theorem dX4_nextToken_60 : decode cX4_nextToken 60 = .ok (.getfield 217, 3) := by decide +kernel
theorem dX4_nextToken_63 : decode cX4_nextToken 63 = .ok (.aload_n 0, 1) := by decide +kernel
theorem dX4_nextToken_64 : decode cX4_nextToken 64 = .ok (.getfield 211, 3) := by decide +kernel
theorem dX4_nextToken_67 : decode cX4_nextToken 67 = .ok (.if_icmp .ne 11, 3) := by decide +kernel
theorem dX4_nextToken_70 : decode cX4_nextToken 70 = .ok (.aload_n 0, 1) := by decide +kernel
theorem dX4_nextToken_71 : decode cX4_nextToken 71 = .ok (.iconst 0, 1) := by decide +kernel
theorem dX4_nextToken_72 : decode cX4_nextToken 72 = .ok (.putfield 224, 3) := by decide +kernel
theorem dX4_nextToken_75 : decode cX4_nextToken 75 = .ok (.goto 262, 3) := by decide +kernel
theorem dX4_nextToken_78 : decode cX4_nextToken 78 = .ok (.aload_n 0, 1) := by decide +kernel
theorem dX4_nextToken_79 : decode cX4_nextToken 79 = .ok (.getfield 28, 3) := by decide +kernel
theorem dX4_nextToken_82 : decode cX4_nextToken 82 = .ok (.aload_n 0, 1) := by decide +kernel
theorem dX4_nextToken_83 : decode cX4_nextToken 83 = .ok (.getfield 217, 3) := by decide +kernel
theorem dX4_nextToken_86 : decode cX4_nextToken 86 = .ok (.iaload, 1) := by decide +kernel
theorem dX4_nextToken_87 : decode cX4_nextToken 87 = .ok (.invokestatic 227, 3) := by decide +kernel
theorem dX4_nextToken_90 : decode cX4_nextToken 90 = .ok (.ifCond .eq 92, 3) := by decide +kernel
theorem dX4_nextToken_93 : decode cX4_nextToken 93 = .ok (.aload_n 0, 1) := by decide +kernel
theorem dX4_nextToken_94 : decode cX4_nextToken 94 = .ok (.iconst 1, 1) := by decide +kernel
theorem dX4_nextToken_95 : decode cX4_nextToken 95 = .ok (.putfield 224, 3) := by decide +kernel
theorem dX4_nextToken_98 : decode cX4_nextToken 98 = .ok (.aload_n 0, 1) := by decide +kernel
theorem dX4_nextToken_99 : decode cX4_nextToken 99 = .ok (.getfield 214, 3) := by decide +kernel
theorem dX4_nextToken_102 : decode cX4_nextToken 102 = .ok (.aload_n 0, 1) := by decide +kernel
theorem dX4_nextToken_103 : decode cX4_nextToken 103 = .ok (.getfield 211, 3) := by decide +kernel
theorem dX4_nextToken_106 : decode cX4_nextToken 106 = .ok (.if_icmp .ge 231, 3) := by decide +kernel
theorem dX4_nextToken_109 : decode cX4_nextToken 109 = .ok (.aload_n 0, 1) := by decide +kernel
theorem dX4_nextToken_110 : decode cX4_nextToken 110 = .ok (.getfield 28, 3) := by decide +kernel
theorem dX4_nextToken_113 : decode cX4_nextToken 113 = .ok (.aload_n 0, 1) := by decide +kernel
theorem dX4_nextToken_114 : decode cX4_nextToken 114 = .ok (.getfield 214, 3) := by decide +kernel
theorem dX4_nextToken_117 : decode cX4_nextToken 117 = .ok (.iaload, 1) := by decide +kernel
theorem dX4_nextToken_118 : decode cX4_nextToken 118 = .ok (.invokestatic 227, 3) := by decide +kernel
theorem dX4_nextToken_121 : decode cX4_nextToken 121 = .ok (.ifCond .eq 216, 3) := by decide +kernel
theorem dX4_nextToken_124 : decode cX4_nextToken 124 = .ok (.aload_n 0, 1) := by decide +kernel
theorem dX4_nextToken_125 : decode cX4_nextToken 125 = .ok (.aload_n 0, 1) := by decide +kernel
theorem dX4_nextToken_126 : decode cX4_nextToken 126 = .ok (.getfield 220, 3) := by decide +kernel
theorem dX4_nextToken_129 : decode cX4_nextToken 129 = .ok (.ldc2_w 230, 3) := by decide +kernel
theorem dX4_nextToken_132 : decode cX4_nextToken 132 = .ok (.lcmp, 1) := by decide +kernel
theorem dX4_nextToken_133 : decode cX4_nextToken 133 = .ok (.ifCond .le 10, 3) := by decide +kernel
theorem dX4_nextToken_136 : decode cX4_nextToken 136 = .ok (.aload_n 0, 1) := by decide +kernel
theorem dX4_nextToken_137 : decode cX4_nextToken 137 = .ok (.getfield 220, 3) := by decide +kernel
theorem dX4_nextToken_140 : decode cX4_nextToken 140 = .ok (.goto 26, 3) := by decide +kernel
theorem dX4_nextToken_143 : decode cX4_nextToken 143 = .ok (.aload_n 0, 1) := by decide +kernel
theorem dX4_nextToken_144 : decode cX4_nextToken 144 = .ok (.getfield 220, 3) := by decide +kernel
theorem dX4_nextToken_147 : decode cX4_nextToken 147 = .ok (.ldc2_w 232, 3) := by decide +kernel
theorem dX4_nextToken_150 : decode cX4_nextToken 150 = .ok (.lmul, 1) := by decide +kernel
theorem dX4_nextToken_151 : decode cX4_nextToken 151 = .ok (.aload_n 0, 1) := by decide +kernel
theorem dX4_nextToken_152 : decode cX4_nextToken 152 = .ok (.getfield 28, 3) := by decide +kernel
theorem dX4_nextToken_155 : decode cX4_nextToken 155 = .ok (.aload_n 0, 1) := by decide +kernel
theorem dX4_nextToken_156 : decode cX4_nextToken 156 = .ok (.getfield 214, 3) := by decide +kernel
theorem dX4_nextToken_159 : decode cX4_nextToken 159 = .ok (.iaload, 1) := by decide +kernel
theorem dX4_nextToken_160 : decode cX4_nextToken 160 = .ok (.i2l, 1) := by decide +kernel
theorem dX4_nextToken_161 : decode cX4_nextToken 161 = .ok (.ladd, 1) := by decide +kernel
theorem dX4_nextToken_162 : decode cX4_nextToken 162 = .ok (.ldc2_w 234, 3) := by decide +kernel
theorem dX4_nextToken_165 : decode cX4_nextToken 165 = .ok (.lsub, 1) := by decide +kernel
theorem dX4_nextToken_166 : decode cX4_nextToken 166 = .ok (.putfield 220, 3) := by decide +kernel
theorem dX4_nextToken_169 : decode cX4_nextToken 169 = .ok (.aload_n 0, 1) := by decide +kernel
theorem dX4_nextToken_170 : decode cX4_nextToken 170 = .ok (.dup, 1) := by decide +kernel
theorem dX4_nextToken_171 : decode cX4_nextToken 171 = .ok (.getfield 214, 3) := by decide +kernel
theorem dX4_nextToken_174 : decode cX4_nextToken 174 = .ok (.iconst 1, 1) := by decide +kernel
theorem dX4_nextToken_175 : decode cX4_nextToken 175 = .ok (.iadd, 1) := by decide +kernel
theorem dX4_nextToken_176 : decode cX4_nextToken 176 = .ok (.putfield 214, 3) := by decide +kernel
theorem dX4_nextToken_179 : decode cX4_nextToken 179 = .ok (.goto (-81), 3) := by decide +kernel
theorem dX4_nextToken_182 : decode cX4_nextToken 182 = .ok (.aload_n 0, 1) := by decide +kernel
theorem dX4_nextToken_183 : decode cX4_nextToken 183 = .ok (.getfield 28, 3) := by decide +kernel
theorem dX4_nextToken_186 : decode cX4_nextToken 186 = .ok (.aload_n 0, 1) := by decide +kernel
theorem dX4_nextToken_187 : decode cX4_nextToken 187 = .ok (.getfield 217, 3) := by decide +kernel
theorem dX4_nextToken_190 : decode cX4_nextToken 190 = .ok (.iaload, 1) := by decide +kernel
theorem dX4_nextToken_191 : decode cX4_nextToken 191 = .ok (.invokestatic 236, 3) := by decide +kernel
theorem dX4_nextToken_194 : decode cX4_nextToken 194 = .ok (.ifCond .eq 110, 3) := by decide +kernel
theorem dX4_nextToken_197 : decode cX4_nextToken 197 = .ok (.aload_n 0, 1) := by decide +kernel
theorem dX4_nextToken_198 : decode cX4_nextToken 198 = .ok (.getfield 214, 3) := by decide +kernel
theorem dX4_nextToken_201 : decode cX4_nextToken 201 = .ok (.aload_n 0, 1) := by decide +kernel
theorem dX4_nextToken_202 : decode cX4_nextToken 202 = .ok (.getfield 211, 3) := by decide +kernel
theorem dX4_nextToken_205 : decode cX4_nextToken 205 = .ok (.if_icmp .ge 76, 3) := by decide +kernel
theorem dX4_nextToken_208 : decode cX4_nextToken 208 = .ok (.aload_n 0, 1) := by decide +kernel
theorem dX4_nextToken_209 : decode cX4_nextToken 209 = .ok (.getfield 28, 3) := by decide +kernel
theorem dX4_nextToken_212 : decode cX4_nextToken 212 = .ok (.aload_n 0, 1) := by decide +kernel
theorem dX4_nextToken_213 : decode cX4_nextToken 213 = .ok (.getfield 214, 3) := by decide +kernel
theorem dX4_nextToken_216 : decode cX4_nextToken 216 = .ok (.iaload, 1) := by decide +kernel
theorem dX4_nextToken_217 : decode cX4_nextToken 217 = .ok (.invokestatic 236, 3) := by decide +kernel
theorem dX4_nextToken_220 : decode cX4_nextToken 220 = .ok (.ifCond .eq 61, 3) := by decide +kernel
theorem dX4_nextToken_223 : decode cX4_nextToken 223 = .ok (.aload_n 0, 1) := by decide +kernel
theorem dX4_nextToken_224 : decode cX4_nextToken 224 = .ok (.aload_n 0, 1) := by decide +kernel
theorem dX4_nextToken_225 : decode cX4_nextToken 225 = .ok (.getfield 220, 3) := by decide +kernel
theorem dX4_nextToken_228 : decode cX4_nextToken 228 = .ok (.ldc2_w 239, 3) := by decide +kernel
theorem dX4_nextToken_231 : decode cX4_nextToken 231 = .ok (.lcmp, 1) := by decide +kernel
theorem dX4_nextToken_232 : decode cX4_nextToken 232 = .ok (.ifCond .le 10, 3) := by decide +kernel
theorem dX4_nextToken_235 : decode cX4_nextToken 235 = .ok (.aload_n 0, 1) := by decide +kernel
theorem dX4_nextToken_236 : decode cX4_nextToken 236 = .ok (.getfield 220, 3) := by decide +kernel
theorem dX4_nextToken_239 : decode cX4_nextToken 239 = .ok (.goto 26, 3) := by decide +kernel
theorem dX4_nextToken_242 : decode cX4_nextToken 242 = .ok (.aload_n 0, 1) := by decide +kernel
theorem dX4_nextToken_243 : decode cX4_nextToken 243 = .ok (.getfield 220, 3) := by decide +kernel
theorem dX4_nextToken_246 : decode cX4_nextToken 246 = .ok (.ldc2_w 209, 3) := by decide +kernel
theorem dX4_nextToken_249 : decode cX4_nextToken 249 = .ok (.lmul, 1) := by decide +kernel
theorem dX4_nextToken_250 : decode cX4_nextToken 250 = .ok (.aload_n 0, 1) := by decide +kernel
theorem dX4_nextToken_251 : decode cX4_nextToken 251 = .ok (.getfield 28, 3) := by decide +kernel
theorem dX4_nextToken_254 : decode cX4_nextToken 254 = .ok (.aload_n 0, 1) := by decide +kernel
theorem dX4_nextToken_255 : decode cX4_nextToken 255 = .ok (.getfield 214, 3) := by decide +kernel
theorem dX4_nextToken_258 : decode cX4_nextToken 258 = .ok (.iaload, 1) := by decide +kernel
theorem dX4_nextToken_259 : decode cX4_nextToken 259 = .ok (.i2l, 1) := by decide +kernel
theorem dX4_nextToken_260 : decode cX4_nextToken 260 = .ok (.ladd, 1) := by decide +kernel
theorem dX4_nextToken_261 : decode cX4_nextToken 261 = .ok (.ldc2_w 241, 3) := by decide +kernel
theorem dX4_nextToken_264 : decode cX4_nextToken 264 = .ok (.lsub, 1) := by decide +kernel
theorem dX4_nextToken_265 : decode cX4_nextToken 265 = .ok (.putfield 220, 3) := by decide +kernel
theorem dX4_nextToken_268 : decode cX4_nextToken 268 = .ok (.aload_n 0, 1) := by decide +kernel
theorem dX4_nextToken_269 : decode cX4_nextToken 269 = .ok (.dup, 1) := by decide +kernel
theorem dX4_nextToken_270 : decode cX4_nextToken 270 = .ok (.getfield 214, 3) := by decide +kernel
theorem dX4_nextToken_273 : decode cX4_nextToken 273 = .ok (.iconst 1, 1) := by decide +kernel
theorem dX4_nextToken_274 : decode cX4_nextToken 274 = .ok (.iadd, 1) := by decide +kernel
theorem dX4_nextToken_275 : decode cX4_nextToken 275 = .ok (.putfield 214, 3) := by decide +kernel
theorem dX4_nextToken_278 : decode cX4_nextToken 278 = .ok (.goto (-81), 3) := by decide +kernel
theorem dX4_nextToken_281 : decode cX4_nextToken 281 = .ok (.aload_n 0, 1) := by decide +kernel
theorem dX4_nextToken_282 : decode cX4_nextToken 282 = .ok (.aload_n 0, 1) := by decide +kernel
theorem dX4_nextToken_283 : decode cX4_nextToken 283 = .ok (.getfield 220, 3) := by decide +kernel
theorem dX4_nextToken_286 : decode cX4_nextToken 286 = .ok (.ldc2_w 239, 3) := by decide +kernel
theorem dX4_nextToken_289 : decode cX4_nextToken 289 = .ok (.lcmp, 1) := by decide +kernel
theorem dX4_nextToken_290 : decode cX4_nextToken 290 = .ok (.ifCond .le 7, 3) := by decide +kernel
theorem dX4_nextToken_293 : decode cX4_nextToken 293 = .ok (.iconst 4, 1) := by decide +kernel
theorem dX4_nextToken_294 : decode cX4_nextToken 294 = .ok (.goto 4, 3) := by decide +kernel
theorem dX4_nextToken_297 : decode cX4_nextToken 297 = .ok (.iconst 2, 1) := by decide +kernel
theorem dX4_nextToken_298 : decode cX4_nextToken 298 = .ok (.putfield 224, 3) := by decide +kernel
theorem dX4_nextToken_301 : decode cX4_nextToken 301 = .ok (.goto 36, 3) := by decide +kernel
theorem dX4_nextToken_304 : decode cX4_nextToken 304 = .ok (.aload_n 0, 1) := by decide +kernel
theorem dX4_nextToken_305 : decode cX4_nextToken 305 = .ok (.aload_n 0, 1) := by decide +kernel
theorem dX4_nextToken_306 : decode cX4_nextToken 306 = .ok (.getfield 28, 3) := by decide +kernel
theorem dX4_nextToken_309 : decode cX4_nextToken 309 = .ok (.aload_n 0, 1) := by decide +kernel
theorem dX4_nextToken_310 : decode cX4_nextToken 310 = .ok (.getfield 217, 3) := by decide +kernel
theorem dX4_nextToken_313 : decode cX4_nextToken 313 = .ok (.iaload, 1) := by decide +kernel
theorem dX4_nextToken_314 : decode cX4_nextToken 314 = .ok (.bipush 59, 2) := by decide +kernel
theorem dX4_nextToken_316 : decode cX4_nextToken 316 = .ok (.if_icmp .ne 7, 3) := by decide +kernel
theorem dX4_nextToken_319 : decode cX4_nextToken 319 = .ok (.iconst 3, 1) := by decide +kernel
theorem dX4_nextToken_320 : decode cX4_nextToken 320 = .ok (.goto 4, 3) := by decide +kernel
theorem dX4_nextToken_323 : decode cX4_nextToken 323 = .ok (.iconst 4, 1) := by decide +kernel
theorem dX4_nextToken_324 : decode cX4_nextToken 324 = .ok (.putfield 224, 3) := by decide +kernel
theorem dX4_nextToken_327 : decode cX4_nextToken 327 = .ok (.aload_n 0, 1) := by decide +kernel
theorem dX4_nextToken_328 : decode cX4_nextToken 328 = .ok (.dup, 1) := by decide +kernel
theorem dX4_nextToken_329 : decode cX4_nextToken 329 = .ok (.getfield 214, 3) := by decide +kernel
theorem dX4_nextToken_332 : decode cX4_nextToken 332 = .ok (.iconst 1, 1) := by decide +kernel
theorem dX4_nextToken_333 : decode cX4_nextToken 333 = .ok (.iadd, 1) := by decide +kernel
theorem dX4_nextToken_334 : decode cX4_nextToken 334 = .ok (.putfield 214, 3) := by decide +kernel
theorem dX4_nextToken_337 : decode cX4_nextToken 337 = .ok (.return_, 1) := by decide +kernel
theorem dX4_wordOf_0 : decode cX4_wordOf 0 = .ok (.iconst (-1), 1) := by decide +kernel
theorem dX4_wordOf_1 : decode cX4_wordOf 1 = .ok (.istore_n 2, 1) := by decide +kernel
theorem dX4_wordOf_2 : decode cX4_wordOf 2 = .ok (.iconst 0, 1) := by decide +kernel
theorem dX4_wordOf_3 : decode cX4_wordOf 3 = .ok (.istore_n 3, 1) := by decide +kernel
theorem dX4_wordOf_4 : decode cX4_wordOf 4 = .ok (.iload_n 3, 1) := by decide +kernel
theorem dX4_wordOf_5 : decode cX4_wordOf 5 = .ok (.aload_n 1, 1) := by decide +kernel
theorem dX4_wordOf_6 : decode cX4_wordOf 6 = .ok (.arraylength, 1) := by decide +kernel
theorem dX4_wordOf_7 : decode cX4_wordOf 7 = .ok (.bipush 8, 2) := by decide +kernel
theorem dX4_wordOf_9 : decode cX4_wordOf 9 = .ok (.idiv, 1) := by decide +kernel
theorem dX4_wordOf_10 : decode cX4_wordOf 10 = .ok (.if_icmp .ge 94, 3) := by decide +kernel
theorem dX4_wordOf_13 : decode cX4_wordOf 13 = .ok (.aload_n 0, 1) := by decide +kernel
theorem dX4_wordOf_14 : decode cX4_wordOf 14 = .ok (.getfield 224, 3) := by decide +kernel
theorem dX4_wordOf_17 : decode cX4_wordOf 17 = .ok (.iconst 1, 1) := by decide +kernel
theorem dX4_wordOf_18 : decode cX4_wordOf 18 = .ok (.if_icmp .ne 86, 3) := by decide +kernel
theorem dX4_wordOf_21 : decode cX4_wordOf 21 = .ok (.lconst 0, 1) := by decide +kernel
theorem dX4_wordOf_22 : decode cX4_wordOf 22 = .ok (.lstore 4, 2) := by decide +kernel
theorem dX4_wordOf_24 : decode cX4_wordOf 24 = .ok (.iconst 0, 1) := by decide +kernel
theorem dX4_wordOf_25 : decode cX4_wordOf 25 = .ok (.istore 6, 2) := by decide +kernel
theorem dX4_wordOf_27 : decode cX4_wordOf 27 = .ok (.iload 6, 2) := by decide +kernel
theorem dX4_wordOf_29 : decode cX4_wordOf 29 = .ok (.bipush 8, 2) := by decide +kernel
theorem dX4_wordOf_31 : decode cX4_wordOf 31 = .ok (.if_icmp .ge 51, 3) := by decide +kernel
theorem dX4_wordOf_34 : decode cX4_wordOf 34 = .ok (.aload_n 1, 1) := by decide +kernel
theorem dX4_wordOf_35 : decode cX4_wordOf 35 = .ok (.bipush 8, 2) := by decide +kernel
theorem dX4_wordOf_37 : decode cX4_wordOf 37 = .ok (.iload_n 3, 1) := by decide +kernel
theorem dX4_wordOf_38 : decode cX4_wordOf 38 = .ok (.imul, 1) := by decide +kernel
theorem dX4_wordOf_39 : decode cX4_wordOf 39 = .ok (.iload 6, 2) := by decide +kernel
theorem dX4_wordOf_41 : decode cX4_wordOf 41 = .ok (.iadd, 1) := by decide +kernel
theorem dX4_wordOf_42 : decode cX4_wordOf 42 = .ok (.caload, 1) := by decide +kernel
theorem dX4_wordOf_43 : decode cX4_wordOf 43 = .ok (.bipush 32, 2) := by decide +kernel
theorem dX4_wordOf_45 : decode cX4_wordOf 45 = .ok (.if_icmp .ne 8, 3) := by decide +kernel
theorem dX4_wordOf_48 : decode cX4_wordOf 48 = .ok (.lload 4, 2) := by decide +kernel
theorem dX4_wordOf_50 : decode cX4_wordOf 50 = .ok (.goto 24, 3) := by decide +kernel
theorem dX4_wordOf_53 : decode cX4_wordOf 53 = .ok (.lload 4, 2) := by decide +kernel
theorem dX4_wordOf_55 : decode cX4_wordOf 55 = .ok (.ldc2_w 232, 3) := by decide +kernel
theorem dX4_wordOf_58 : decode cX4_wordOf 58 = .ok (.lmul, 1) := by decide +kernel
theorem dX4_wordOf_59 : decode cX4_wordOf 59 = .ok (.aload_n 1, 1) := by decide +kernel
theorem dX4_wordOf_60 : decode cX4_wordOf 60 = .ok (.bipush 8, 2) := by decide +kernel
theorem dX4_wordOf_62 : decode cX4_wordOf 62 = .ok (.iload_n 3, 1) := by decide +kernel
theorem dX4_wordOf_63 : decode cX4_wordOf 63 = .ok (.imul, 1) := by decide +kernel
theorem dX4_wordOf_64 : decode cX4_wordOf 64 = .ok (.iload 6, 2) := by decide +kernel
theorem dX4_wordOf_66 : decode cX4_wordOf 66 = .ok (.iadd, 1) := by decide +kernel
theorem dX4_wordOf_67 : decode cX4_wordOf 67 = .ok (.caload, 1) := by decide +kernel
theorem dX4_wordOf_68 : decode cX4_wordOf 68 = .ok (.i2l, 1) := by decide +kernel
theorem dX4_wordOf_69 : decode cX4_wordOf 69 = .ok (.ladd, 1) := by decide +kernel
theorem dX4_wordOf_70 : decode cX4_wordOf 70 = .ok (.ldc2_w 234, 3) := by decide +kernel
theorem dX4_wordOf_73 : decode cX4_wordOf 73 = .ok (.lsub, 1) := by decide +kernel
theorem dX4_wordOf_74 : decode cX4_wordOf 74 = .ok (.lstore 4, 2) := by decide +kernel
theorem dX4_wordOf_76 : decode cX4_wordOf 76 = .ok (.iinc 6 1, 3) := by decide +kernel
theorem dX4_wordOf_79 : decode cX4_wordOf 79 = .ok (.goto (-52), 3) := by decide +kernel
theorem dX4_wordOf_82 : decode cX4_wordOf 82 = .ok (.lload 4, 2) := by decide +kernel
theorem dX4_wordOf_84 : decode cX4_wordOf 84 = .ok (.aload_n 0, 1) := by decide +kernel
theorem dX4_wordOf_85 : decode cX4_wordOf 85 = .ok (.getfield 220, 3) := by decide +kernel
theorem dX4_wordOf_88 : decode cX4_wordOf 88 = .ok (.lcmp, 1) := by decide +kernel
theorem dX4_wordOf_89 : decode cX4_wordOf 89 = .ok (.ifCond .ne 7, 3) := by decide +kernel
theorem dX4_wordOf_92 : decode cX4_wordOf 92 = .ok (.iload_n 3, 1) := by decide +kernel
theorem dX4_wordOf_93 : decode cX4_wordOf 93 = .ok (.goto 4, 3) := by decide +kernel
theorem dX4_wordOf_96 : decode cX4_wordOf 96 = .ok (.iload_n 2, 1) := by decide +kernel
theorem dX4_wordOf_97 : decode cX4_wordOf 97 = .ok (.istore_n 2, 1) := by decide +kernel
theorem dX4_wordOf_98 : decode cX4_wordOf 98 = .ok (.iinc 3 1, 3) := by decide +kernel
theorem dX4_wordOf_101 : decode cX4_wordOf 101 = .ok (.goto (-97), 3) := by decide +kernel
theorem dX4_wordOf_104 : decode cX4_wordOf 104 = .ok (.iload_n 2, 1) := by decide +kernel
theorem dX4_wordOf_105 : decode cX4_wordOf 105 = .ok (.ireturn, 1) := by decide +kernel
theorem dX4_takesNumber_0 : decode cX4_takesNumber 0 = .ok (.aload_n 0, 1) := by decide +kernel
theorem dX4_takesNumber_1 : decode cX4_takesNumber 1 = .ok (.getfield 224, 3) := by decide +kernel
theorem dX4_takesNumber_4 : decode cX4_takesNumber 4 = .ok (.iconst 2, 1) := by decide +kernel
theorem dX4_takesNumber_5 : decode cX4_takesNumber 5 = .ok (.if_icmp .ne 24, 3) := by decide +kernel
theorem dX4_takesNumber_8 : decode cX4_takesNumber 8 = .ok (.aload_n 0, 1) := by decide +kernel
theorem dX4_takesNumber_9 : decode cX4_takesNumber 9 = .ok (.getfield 220, 3) := by decide +kernel
theorem dX4_takesNumber_12 : decode cX4_takesNumber 12 = .ok (.l2i, 1) := by decide +kernel
theorem dX4_takesNumber_13 : decode cX4_takesNumber 13 = .ok (.iload_n 1, 1) := by decide +kernel
theorem dX4_takesNumber_14 : decode cX4_takesNumber 14 = .ok (.iload_n 2, 1) := by decide +kernel
theorem dX4_takesNumber_15 : decode cX4_takesNumber 15 = .ok (.invokestatic 61, 3) := by decide +kernel
theorem dX4_takesNumber_18 : decode cX4_takesNumber 18 = .ok (.ifCond .eq 11, 3) := by decide +kernel
theorem dX4_takesNumber_21 : decode cX4_takesNumber 21 = .ok (.aload_n 0, 1) := by decide +kernel
theorem dX4_takesNumber_22 : decode cX4_takesNumber 22 = .ok (.getfield 220, 3) := by decide +kernel
theorem dX4_takesNumber_25 : decode cX4_takesNumber 25 = .ok (.l2i, 1) := by decide +kernel
theorem dX4_takesNumber_26 : decode cX4_takesNumber 26 = .ok (.goto 4, 3) := by decide +kernel
theorem dX4_takesNumber_29 : decode cX4_takesNumber 29 = .ok (.iconst (-1), 1) := by decide +kernel
theorem dX4_takesNumber_30 : decode cX4_takesNumber 30 = .ok (.istore_n 3, 1) := by decide +kernel
theorem dX4_takesNumber_31 : decode cX4_takesNumber 31 = .ok (.iload_n 3, 1) := by decide +kernel
theorem dX4_takesNumber_32 : decode cX4_takesNumber 32 = .ok (.ifCond .lt 7, 3) := by decide +kernel
theorem dX4_takesNumber_35 : decode cX4_takesNumber 35 = .ok (.aload_n 0, 1) := by decide +kernel
theorem dX4_takesNumber_36 : decode cX4_takesNumber 36 = .ok (.invokevirtual 243, 3) := by decide +kernel
theorem dX4_takesNumber_39 : decode cX4_takesNumber 39 = .ok (.iload_n 3, 1) := by decide +kernel
theorem dX4_takesNumber_40 : decode cX4_takesNumber 40 = .ok (.ireturn, 1) := by decide +kernel
theorem dX4_readsPerson_0 : decode cX4_readsPerson 0 = .ok (.aload_n 0, 1) := by decide +kernel
theorem dX4_readsPerson_1 : decode cX4_readsPerson 1 = .ok (.getfield 9, 3) := by decide +kernel
theorem dX4_readsPerson_4 : decode cX4_readsPerson 4 = .ok (.iconst 1, 1) := by decide +kernel
theorem dX4_readsPerson_5 : decode cX4_readsPerson 5 = .ok (.iaload, 1) := by decide +kernel
theorem dX4_readsPerson_6 : decode cX4_readsPerson 6 = .ok (.bipush 8, 2) := by decide +kernel
theorem dX4_readsPerson_8 : decode cX4_readsPerson 8 = .ok (.if_icmp .ne 5, 3) := by decide +kernel
theorem dX4_readsPerson_11 : decode cX4_readsPerson 11 = .ok (.iconst 0, 1) := by decide +kernel
theorem dX4_readsPerson_12 : decode cX4_readsPerson 12 = .ok (.ireturn, 1) := by decide +kernel
theorem dX4_readsPerson_13 : decode cX4_readsPerson 13 = .ok (.aload_n 0, 1) := by decide +kernel
theorem dX4_readsPerson_14 : decode cX4_readsPerson 14 = .ok (.getfield 9, 3) := by decide +kernel
theorem dX4_readsPerson_17 : decode cX4_readsPerson 17 = .ok (.iconst 1, 1) := by decide +kernel
theorem dX4_readsPerson_18 : decode cX4_readsPerson 18 = .ok (.iaload, 1) := by decide +kernel
theorem dX4_readsPerson_19 : decode cX4_readsPerson 19 = .ok (.istore_n 2, 1) := by decide +kernel
theorem dX4_readsPerson_20 : decode cX4_readsPerson 20 = .ok (.aload_n 0, 1) := by decide +kernel
theorem dX4_readsPerson_21 : decode cX4_readsPerson 21 = .ok (.iload_n 1, 1) := by decide +kernel
theorem dX4_readsPerson_22 : decode cX4_readsPerson 22 = .ok (.invokevirtual 135, 3) := by decide +kernel
theorem dX4_readsPerson_25 : decode cX4_readsPerson 25 = .ok (.aload_n 0, 1) := by decide +kernel
theorem dX4_readsPerson_26 : decode cX4_readsPerson 26 = .ok (.invokevirtual 243, 3) := by decide +kernel
theorem dX4_readsPerson_29 : decode cX4_readsPerson 29 = .ok (.iconst 0, 1) := by decide +kernel
theorem dX4_readsPerson_30 : decode cX4_readsPerson 30 = .ok (.istore_n 3, 1) := by decide +kernel
theorem dX4_readsPerson_31 : decode cX4_readsPerson 31 = .ok (.iload_n 3, 1) := by decide +kernel
theorem dX4_readsPerson_32 : decode cX4_readsPerson 32 = .ok (.iconst 3, 1) := by decide +kernel
theorem dX4_readsPerson_33 : decode cX4_readsPerson 33 = .ok (.if_icmp .ge 71, 3) := by decide +kernel
theorem dX4_readsPerson_36 : decode cX4_readsPerson 36 = .ok (.aload_n 0, 1) := by decide +kernel
theorem dX4_readsPerson_37 : decode cX4_readsPerson 37 = .ok (.aload_n 0, 1) := by decide +kernel
theorem dX4_readsPerson_38 : decode cX4_readsPerson 38 = .ok (.getfield 35, 3) := by decide +kernel
theorem dX4_readsPerson_41 : decode cX4_readsPerson 41 = .ok (.invokevirtual 246, 3) := by decide +kernel
theorem dX4_readsPerson_44 : decode cX4_readsPerson 44 = .ok (.iload_n 3, 1) := by decide +kernel
theorem dX4_readsPerson_45 : decode cX4_readsPerson 45 = .ok (.if_icmp .ne 53, 3) := by decide +kernel
theorem dX4_readsPerson_48 : decode cX4_readsPerson 48 = .ok (.aload_n 0, 1) := by decide +kernel
theorem dX4_readsPerson_49 : decode cX4_readsPerson 49 = .ok (.invokevirtual 243, 3) := by decide +kernel
theorem dX4_readsPerson_52 : decode cX4_readsPerson 52 = .ok (.aload_n 0, 1) := by decide +kernel
theorem dX4_readsPerson_53 : decode cX4_readsPerson 53 = .ok (.iconst 0, 1) := by decide +kernel
theorem dX4_readsPerson_54 : decode cX4_readsPerson 54 = .ok (.iload_n 3, 1) := by decide +kernel
theorem dX4_readsPerson_55 : decode cX4_readsPerson 55 = .ok (.ifCond .ne 8, 3) := by decide +kernel
theorem dX4_readsPerson_58 : decode cX4_readsPerson 58 = .ok (.bipush 9, 2) := by decide +kernel
theorem dX4_readsPerson_60 : decode cX4_readsPerson 60 = .ok (.goto 16, 3) := by decide +kernel
theorem dX4_readsPerson_63 : decode cX4_readsPerson 63 = .ok (.iload_n 3, 1) := by decide +kernel
theorem dX4_readsPerson_64 : decode cX4_readsPerson 64 = .ok (.iconst 1, 1) := by decide +kernel
theorem dX4_readsPerson_65 : decode cX4_readsPerson 65 = .ok (.if_icmp .ne 8, 3) := by decide +kernel
theorem dX4_readsPerson_68 : decode cX4_readsPerson 68 = .ok (.bipush 99, 2) := by decide +kernel
theorem dX4_readsPerson_70 : decode cX4_readsPerson 70 = .ok (.goto 6, 3) := by decide +kernel
theorem dX4_readsPerson_73 : decode cX4_readsPerson 73 = .ok (.sipush 9999, 3) := by decide +kernel
theorem dX4_readsPerson_76 : decode cX4_readsPerson 76 = .ok (.invokevirtual 250, 3) := by decide +kernel
theorem dX4_readsPerson_79 : decode cX4_readsPerson 79 = .ok (.istore 4, 2) := by decide +kernel
theorem dX4_readsPerson_81 : decode cX4_readsPerson 81 = .ok (.iload 4, 2) := by decide +kernel
theorem dX4_readsPerson_83 : decode cX4_readsPerson 83 = .ok (.ifCond .ge 5, 3) := by decide +kernel
theorem dX4_readsPerson_86 : decode cX4_readsPerson 86 = .ok (.iconst 0, 1) := by decide +kernel
theorem dX4_readsPerson_87 : decode cX4_readsPerson 87 = .ok (.ireturn, 1) := by decide +kernel
theorem dX4_readsPerson_88 : decode cX4_readsPerson 88 = .ok (.aload_n 0, 1) := by decide +kernel
theorem dX4_readsPerson_89 : decode cX4_readsPerson 89 = .ok (.iload_n 2, 1) := by decide +kernel
theorem dX4_readsPerson_90 : decode cX4_readsPerson 90 = .ok (.iconst 1, 1) := by decide +kernel
theorem dX4_readsPerson_91 : decode cX4_readsPerson 91 = .ok (.iload_n 3, 1) := by decide +kernel
theorem dX4_readsPerson_92 : decode cX4_readsPerson 92 = .ok (.iadd, 1) := by decide +kernel
theorem dX4_readsPerson_93 : decode cX4_readsPerson 93 = .ok (.iload 4, 2) := by decide +kernel
theorem dX4_readsPerson_95 : decode cX4_readsPerson 95 = .ok (.invokevirtual 95, 3) := by decide +kernel
theorem dX4_readsPerson_98 : decode cX4_readsPerson 98 = .ok (.iinc 3 1, 3) := by decide +kernel
theorem dX4_readsPerson_101 : decode cX4_readsPerson 101 = .ok (.goto (-70), 3) := by decide +kernel
theorem dX4_readsPerson_104 : decode cX4_readsPerson 104 = .ok (.iconst 1, 1) := by decide +kernel
theorem dX4_readsPerson_105 : decode cX4_readsPerson 105 = .ok (.ireturn, 1) := by decide +kernel
theorem dX4_readsLot_0 : decode cX4_readsLot 0 = .ok (.aload_n 0, 1) := by decide +kernel
theorem dX4_readsLot_1 : decode cX4_readsLot 1 = .ok (.iconst 0, 1) := by decide +kernel
theorem dX4_readsLot_2 : decode cX4_readsLot 2 = .ok (.bipush 9, 2) := by decide +kernel
theorem dX4_readsLot_4 : decode cX4_readsLot 4 = .ok (.invokevirtual 250, 3) := by decide +kernel
theorem dX4_readsLot_7 : decode cX4_readsLot 7 = .ok (.istore_n 1, 1) := by decide +kernel
theorem dX4_readsLot_8 : decode cX4_readsLot 8 = .ok (.iload_n 1, 1) := by decide +kernel
theorem dX4_readsLot_9 : decode cX4_readsLot 9 = .ok (.ifCond .ge 5, 3) := by decide +kernel
theorem dX4_readsLot_12 : decode cX4_readsLot 12 = .ok (.iconst 0, 1) := by decide +kernel
theorem dX4_readsLot_13 : decode cX4_readsLot 13 = .ok (.ireturn, 1) := by decide +kernel
theorem dX4_readsLot_14 : decode cX4_readsLot 14 = .ok (.iconst 0, 1) := by decide +kernel
theorem dX4_readsLot_15 : decode cX4_readsLot 15 = .ok (.istore_n 2, 1) := by decide +kernel
theorem dX4_readsLot_16 : decode cX4_readsLot 16 = .ok (.iload_n 2, 1) := by decide +kernel
theorem dX4_readsLot_17 : decode cX4_readsLot 17 = .ok (.iconst 3, 1) := by decide +kernel
theorem dX4_readsLot_18 : decode cX4_readsLot 18 = .ok (.if_icmp .ge 71, 3) := by decide +kernel
theorem dX4_readsLot_21 : decode cX4_readsLot 21 = .ok (.aload_n 0, 1) := by decide +kernel
theorem dX4_readsLot_22 : decode cX4_readsLot 22 = .ok (.aload_n 0, 1) := by decide +kernel
theorem dX4_readsLot_23 : decode cX4_readsLot 23 = .ok (.getfield 41, 3) := by decide +kernel
theorem dX4_readsLot_26 : decode cX4_readsLot 26 = .ok (.invokevirtual 246, 3) := by decide +kernel
theorem dX4_readsLot_29 : decode cX4_readsLot 29 = .ok (.iload_n 2, 1) := by decide +kernel
theorem dX4_readsLot_30 : decode cX4_readsLot 30 = .ok (.if_icmp .ne 53, 3) := by decide +kernel
theorem dX4_readsLot_33 : decode cX4_readsLot 33 = .ok (.aload_n 0, 1) := by decide +kernel
theorem dX4_readsLot_34 : decode cX4_readsLot 34 = .ok (.invokevirtual 243, 3) := by decide +kernel
theorem dX4_readsLot_37 : decode cX4_readsLot 37 = .ok (.aload_n 0, 1) := by decide +kernel
theorem dX4_readsLot_38 : decode cX4_readsLot 38 = .ok (.iconst 0, 1) := by decide +kernel
theorem dX4_readsLot_39 : decode cX4_readsLot 39 = .ok (.iload_n 2, 1) := by decide +kernel
theorem dX4_readsLot_40 : decode cX4_readsLot 40 = .ok (.ifCond .ne 8, 3) := by decide +kernel
theorem dX4_readsLot_43 : decode cX4_readsLot 43 = .ok (.bipush 99, 2) := by decide +kernel
theorem dX4_readsLot_45 : decode cX4_readsLot 45 = .ok (.goto 21, 3) := by decide +kernel
theorem dX4_readsLot_48 : decode cX4_readsLot 48 = .ok (.iload_n 2, 1) := by decide +kernel
theorem dX4_readsLot_49 : decode cX4_readsLot 49 = .ok (.iconst 1, 1) := by decide +kernel
theorem dX4_readsLot_50 : decode cX4_readsLot 50 = .ok (.if_icmp .ne 8, 3) := by decide +kernel
theorem dX4_readsLot_53 : decode cX4_readsLot 53 = .ok (.bipush 20, 2) := by decide +kernel
theorem dX4_readsLot_55 : decode cX4_readsLot 55 = .ok (.goto 11, 3) := by decide +kernel
theorem dX4_readsLot_58 : decode cX4_readsLot 58 = .ok (.aload_n 0, 1) := by decide +kernel
theorem dX4_readsLot_59 : decode cX4_readsLot 59 = .ok (.getfield 9, 3) := by decide +kernel
theorem dX4_readsLot_62 : decode cX4_readsLot 62 = .ok (.iconst 1, 1) := by decide +kernel
theorem dX4_readsLot_63 : decode cX4_readsLot 63 = .ok (.iaload, 1) := by decide +kernel
theorem dX4_readsLot_64 : decode cX4_readsLot 64 = .ok (.iconst 1, 1) := by decide +kernel
theorem dX4_readsLot_65 : decode cX4_readsLot 65 = .ok (.isub, 1) := by decide +kernel
theorem dX4_readsLot_66 : decode cX4_readsLot 66 = .ok (.invokevirtual 250, 3) := by decide +kernel
theorem dX4_readsLot_69 : decode cX4_readsLot 69 = .ok (.istore_n 3, 1) := by decide +kernel
theorem dX4_readsLot_70 : decode cX4_readsLot 70 = .ok (.iload_n 3, 1) := by decide +kernel
theorem dX4_readsLot_71 : decode cX4_readsLot 71 = .ok (.ifCond .ge 5, 3) := by decide +kernel
theorem dX4_readsLot_74 : decode cX4_readsLot 74 = .ok (.iconst 0, 1) := by decide +kernel
theorem dX4_readsLot_75 : decode cX4_readsLot 75 = .ok (.ireturn, 1) := by decide +kernel
theorem dX4_readsLot_76 : decode cX4_readsLot 76 = .ok (.aload_n 0, 1) := by decide +kernel
theorem dX4_readsLot_77 : decode cX4_readsLot 77 = .ok (.iload_n 1, 1) := by decide +kernel
theorem dX4_readsLot_78 : decode cX4_readsLot 78 = .ok (.iload_n 2, 1) := by decide +kernel
theorem dX4_readsLot_79 : decode cX4_readsLot 79 = .ok (.iload_n 3, 1) := by decide +kernel
theorem dX4_readsLot_80 : decode cX4_readsLot 80 = .ok (.invokevirtual 56, 3) := by decide +kernel
theorem dX4_readsLot_83 : decode cX4_readsLot 83 = .ok (.iinc 2 1, 3) := by decide +kernel
theorem dX4_readsLot_86 : decode cX4_readsLot 86 = .ok (.goto (-70), 3) := by decide +kernel
theorem dX4_readsLot_89 : decode cX4_readsLot 89 = .ok (.iconst 1, 1) := by decide +kernel
theorem dX4_readsLot_90 : decode cX4_readsLot 90 = .ok (.ireturn, 1) := by decide +kernel
theorem dX4_readsSun_0 : decode cX4_readsSun 0 = .ok (.iload_n 1, 1) := by decide +kernel
theorem dX4_readsSun_1 : decode cX4_readsSun 1 = .ok (.ifCond .eq 7, 3) := by decide +kernel
theorem dX4_readsSun_4 : decode cX4_readsSun 4 = .ok (.iconst 0, 1) := by decide +kernel
theorem dX4_readsSun_5 : decode cX4_readsSun 5 = .ok (.goto 9, 3) := by decide +kernel
theorem dX4_readsSun_8 : decode cX4_readsSun 8 = .ok (.aload_n 0, 1) := by decide +kernel
theorem dX4_readsSun_9 : decode cX4_readsSun 9 = .ok (.iconst 0, 1) := by decide +kernel
theorem dX4_readsSun_10 : decode cX4_readsSun 10 = .ok (.iconst 5, 1) := by decide +kernel
theorem dX4_readsSun_11 : decode cX4_readsSun 11 = .ok (.invokevirtual 250, 3) := by decide +kernel
theorem dX4_readsSun_14 : decode cX4_readsSun 14 = .ok (.istore_n 2, 1) := by decide +kernel
theorem dX4_readsSun_15 : decode cX4_readsSun 15 = .ok (.iload_n 2, 1) := by decide +kernel
theorem dX4_readsSun_16 : decode cX4_readsSun 16 = .ok (.ifCond .ge 7, 3) := by decide +kernel
theorem dX4_readsSun_19 : decode cX4_readsSun 19 = .ok (.iconst (-1), 1) := by decide +kernel
theorem dX4_readsSun_20 : decode cX4_readsSun 20 = .ok (.goto 10, 3) := by decide +kernel
theorem dX4_readsSun_23 : decode cX4_readsSun 23 = .ok (.aload_n 0, 1) := by decide +kernel
theorem dX4_readsSun_24 : decode cX4_readsSun 24 = .ok (.iconst 0, 1) := by decide +kernel
theorem dX4_readsSun_25 : decode cX4_readsSun 25 = .ok (.bipush 40, 2) := by decide +kernel
theorem dX4_readsSun_27 : decode cX4_readsSun 27 = .ok (.invokevirtual 250, 3) := by decide +kernel
theorem dX4_readsSun_30 : decode cX4_readsSun 30 = .ok (.istore_n 3, 1) := by decide +kernel
theorem dX4_readsSun_31 : decode cX4_readsSun 31 = .ok (.iload_n 3, 1) := by decide +kernel
theorem dX4_readsSun_32 : decode cX4_readsSun 32 = .ok (.ifCond .lt 20, 3) := by decide +kernel
theorem dX4_readsSun_35 : decode cX4_readsSun 35 = .ok (.aload_n 0, 1) := by decide +kernel
theorem dX4_readsSun_36 : decode cX4_readsSun 36 = .ok (.getfield 9, 3) := by decide +kernel
theorem dX4_readsSun_39 : decode cX4_readsSun 39 = .ok (.iload_n 1, 1) := by decide +kernel
theorem dX4_readsSun_40 : decode cX4_readsSun 40 = .ok (.ifCond .eq 7, 3) := by decide +kernel
theorem dX4_readsSun_43 : decode cX4_readsSun 43 = .ok (.iconst 3, 1) := by decide +kernel
theorem dX4_readsSun_44 : decode cX4_readsSun 44 = .ok (.goto 6, 3) := by decide +kernel
theorem dX4_readsSun_47 : decode cX4_readsSun 47 = .ok (.iconst 4, 1) := by decide +kernel
theorem dX4_readsSun_48 : decode cX4_readsSun 48 = .ok (.iload_n 2, 1) := by decide +kernel
theorem dX4_readsSun_49 : decode cX4_readsSun 49 = .ok (.iadd, 1) := by decide +kernel
theorem dX4_readsSun_50 : decode cX4_readsSun 50 = .ok (.iload_n 3, 1) := by decide +kernel
theorem dX4_readsSun_51 : decode cX4_readsSun 51 = .ok (.iastore, 1) := by decide +kernel
theorem dX4_readsSun_52 : decode cX4_readsSun 52 = .ok (.iload_n 3, 1) := by decide +kernel
theorem dX4_readsSun_53 : decode cX4_readsSun 53 = .ok (.ifCond .lt 7, 3) := by decide +kernel
theorem dX4_readsSun_56 : decode cX4_readsSun 56 = .ok (.iconst 1, 1) := by decide +kernel
theorem dX4_readsSun_57 : decode cX4_readsSun 57 = .ok (.goto 4, 3) := by decide +kernel
theorem dX4_readsSun_60 : decode cX4_readsSun 60 = .ok (.iconst 0, 1) := by decide +kernel
theorem dX4_readsSun_61 : decode cX4_readsSun 61 = .ok (.ireturn, 1) := by decide +kernel
theorem dX4_readsItem_0 : decode cX4_readsItem 0 = .ok (.aload_n 0, 1) := by decide +kernel
theorem dX4_readsItem_1 : decode cX4_readsItem 1 = .ok (.aload_n 0, 1) := by decide +kernel
theorem dX4_readsItem_2 : decode cX4_readsItem 2 = .ok (.getfield 31, 3) := by decide +kernel
theorem dX4_readsItem_5 : decode cX4_readsItem 5 = .ok (.invokevirtual 246, 3) := by decide +kernel
theorem dX4_readsItem_8 : decode cX4_readsItem 8 = .ok (.istore_n 1, 1) := by decide +kernel
theorem dX4_readsItem_9 : decode cX4_readsItem 9 = .ok (.iload_n 1, 1) := by decide +kernel
theorem dX4_readsItem_10 : decode cX4_readsItem 10 = .ok (.ifCond .lt 9, 3) := by decide +kernel
theorem dX4_readsItem_13 : decode cX4_readsItem 13 = .ok (.aload_n 0, 1) := by decide +kernel
theorem dX4_readsItem_14 : decode cX4_readsItem 14 = .ok (.iload_n 1, 1) := by decide +kernel
theorem dX4_readsItem_15 : decode cX4_readsItem 15 = .ok (.invokevirtual 253, 3) := by decide +kernel
theorem dX4_readsItem_18 : decode cX4_readsItem 18 = .ok (.ireturn, 1) := by decide +kernel
theorem dX4_readsItem_19 : decode cX4_readsItem 19 = .ok (.aload_n 0, 1) := by decide +kernel
theorem dX4_readsItem_20 : decode cX4_readsItem 20 = .ok (.aload_n 0, 1) := by decide +kernel
theorem dX4_readsItem_21 : decode cX4_readsItem 21 = .ok (.getfield 38, 3) := by decide +kernel
theorem dX4_readsItem_24 : decode cX4_readsItem 24 = .ok (.invokevirtual 246, 3) := by decide +kernel
theorem dX4_readsItem_27 : decode cX4_readsItem 27 = .ok (.istore_n 2, 1) := by decide +kernel
theorem dX4_readsItem_28 : decode cX4_readsItem 28 = .ok (.iload_n 2, 1) := by decide +kernel
theorem dX4_readsItem_29 : decode cX4_readsItem 29 = .ok (.ifCond .ge 5, 3) := by decide +kernel
theorem dX4_readsItem_32 : decode cX4_readsItem 32 = .ok (.iconst 0, 1) := by decide +kernel
theorem dX4_readsItem_33 : decode cX4_readsItem 33 = .ok (.ireturn, 1) := by decide +kernel
theorem dX4_readsItem_34 : decode cX4_readsItem 34 = .ok (.aload_n 0, 1) := by decide +kernel
theorem dX4_readsItem_35 : decode cX4_readsItem 35 = .ok (.invokevirtual 243, 3) := by decide +kernel
theorem dX4_readsItem_38 : decode cX4_readsItem 38 = .ok (.iload_n 2, 1) := by decide +kernel
theorem dX4_readsItem_39 : decode cX4_readsItem 39 = .ok (.ifCond .ne 10, 3) := by decide +kernel
theorem dX4_readsItem_42 : decode cX4_readsItem 42 = .ok (.aload_n 0, 1) := by decide +kernel
theorem dX4_readsItem_43 : decode cX4_readsItem 43 = .ok (.invokevirtual 256, 3) := by decide +kernel
theorem dX4_readsItem_46 : decode cX4_readsItem 46 = .ok (.goto 17, 3) := by decide +kernel
theorem dX4_readsItem_49 : decode cX4_readsItem 49 = .ok (.aload_n 0, 1) := by decide +kernel
theorem dX4_readsItem_50 : decode cX4_readsItem 50 = .ok (.iload_n 2, 1) := by decide +kernel
theorem dX4_readsItem_51 : decode cX4_readsItem 51 = .ok (.iconst 2, 1) := by decide +kernel
theorem dX4_readsItem_52 : decode cX4_readsItem 52 = .ok (.if_icmp .ne 7, 3) := by decide +kernel
theorem dX4_readsItem_55 : decode cX4_readsItem 55 = .ok (.iconst 1, 1) := by decide +kernel
theorem dX4_readsItem_56 : decode cX4_readsItem 56 = .ok (.goto 4, 3) := by decide +kernel
theorem dX4_readsItem_59 : decode cX4_readsItem 59 = .ok (.iconst 0, 1) := by decide +kernel
theorem dX4_readsItem_60 : decode cX4_readsItem 60 = .ok (.invokevirtual 260, 3) := by decide +kernel
theorem dX4_readsItem_63 : decode cX4_readsItem 63 = .ok (.ireturn, 1) := by decide +kernel
theorem dX4_text_0 : decode cX4_text 0 = .ok (.aload_n 0, 1) := by decide +kernel
theorem dX4_text_1 : decode cX4_text 1 = .ok (.invokevirtual 163, 3) := by decide +kernel
theorem dX4_text_4 : decode cX4_text 4 = .ok (.aload_n 0, 1) := by decide +kernel
theorem dX4_text_5 : decode cX4_text 5 = .ok (.iconst 0, 1) := by decide +kernel
theorem dX4_text_6 : decode cX4_text 6 = .ok (.putfield 214, 3) := by decide +kernel
theorem dX4_text_9 : decode cX4_text 9 = .ok (.aload_n 0, 1) := by decide +kernel
theorem dX4_text_10 : decode cX4_text 10 = .ok (.invokevirtual 243, 3) := by decide +kernel
theorem dX4_text_13 : decode cX4_text 13 = .ok (.iconst 1, 1) := by decide +kernel
theorem dX4_text_14 : decode cX4_text 14 = .ok (.istore_n 1, 1) := by decide +kernel
theorem dX4_text_15 : decode cX4_text 15 = .ok (.aload_n 0, 1) := by decide +kernel
theorem dX4_text_16 : decode cX4_text 16 = .ok (.invokevirtual 264, 3) := by decide +kernel
theorem dX4_text_19 : decode cX4_text 19 = .ok (.istore_n 2, 1) := by decide +kernel
theorem dX4_text_20 : decode cX4_text 20 = .ok (.iload_n 2, 1) := by decide +kernel
theorem dX4_text_21 : decode cX4_text 21 = .ok (.ifCond .eq 26, 3) := by decide +kernel
theorem dX4_text_24 : decode cX4_text 24 = .ok (.aload_n 0, 1) := by decide +kernel
theorem dX4_text_25 : decode cX4_text 25 = .ok (.getfield 224, 3) := by decide +kernel
theorem dX4_text_28 : decode cX4_text 28 = .ok (.iconst 3, 1) := by decide +kernel
theorem dX4_text_29 : decode cX4_text 29 = .ok (.if_icmp .ne 18, 3) := by decide +kernel
theorem dX4_text_32 : decode cX4_text 32 = .ok (.aload_n 0, 1) := by decide +kernel
theorem dX4_text_33 : decode cX4_text 33 = .ok (.invokevirtual 243, 3) := by decide +kernel
theorem dX4_text_36 : decode cX4_text 36 = .ok (.aload_n 0, 1) := by decide +kernel
theorem dX4_text_37 : decode cX4_text 37 = .ok (.invokevirtual 264, 3) := by decide +kernel
theorem dX4_text_40 : decode cX4_text 40 = .ok (.istore_n 2, 1) := by decide +kernel
theorem dX4_text_41 : decode cX4_text 41 = .ok (.iinc 1 1, 3) := by decide +kernel
theorem dX4_text_44 : decode cX4_text 44 = .ok (.goto (-24), 3) := by decide +kernel
theorem dX4_text_47 : decode cX4_text 47 = .ok (.iload_n 2, 1) := by decide +kernel
theorem dX4_text_48 : decode cX4_text 48 = .ok (.ifCond .eq 14, 3) := by decide +kernel
theorem dX4_text_51 : decode cX4_text 51 = .ok (.aload_n 0, 1) := by decide +kernel
theorem dX4_text_52 : decode cX4_text 52 = .ok (.getfield 224, 3) := by decide +kernel
theorem dX4_text_55 : decode cX4_text 55 = .ok (.ifCond .ne 7, 3) := by decide +kernel
theorem dX4_text_58 : decode cX4_text 58 = .ok (.iconst 1, 1) := by decide +kernel
theorem dX4_text_59 : decode cX4_text 59 = .ok (.goto 4, 3) := by decide +kernel
theorem dX4_text_62 : decode cX4_text 62 = .ok (.iconst 0, 1) := by decide +kernel
theorem dX4_text_63 : decode cX4_text 63 = .ok (.istore_n 2, 1) := by decide +kernel
theorem dX4_text_64 : decode cX4_text 64 = .ok (.aload_n 0, 1) := by decide +kernel
theorem dX4_text_65 : decode cX4_text 65 = .ok (.iconst 0, 1) := by decide +kernel
theorem dX4_text_66 : decode cX4_text 66 = .ok (.putfield 211, 3) := by decide +kernel
theorem dX4_text_69 : decode cX4_text 69 = .ok (.iload_n 2, 1) := by decide +kernel
theorem dX4_text_70 : decode cX4_text 70 = .ok (.ifCond .ne 14, 3) := by decide +kernel
theorem dX4_text_73 : decode cX4_text 73 = .ok (.aload_n 0, 1) := by decide +kernel
theorem dX4_text_74 : decode cX4_text 74 = .ok (.invokevirtual 166, 3) := by decide +kernel
theorem dX4_text_77 : decode cX4_text 77 = .ok (.iconst (-1), 1) := by decide +kernel
theorem dX4_text_78 : decode cX4_text 78 = .ok (.aload_n 0, 1) := by decide +kernel
theorem dX4_text_79 : decode cX4_text 79 = .ok (.getfield 217, 3) := by decide +kernel
theorem dX4_text_82 : decode cX4_text 82 = .ok (.isub, 1) := by decide +kernel
theorem dX4_text_83 : decode cX4_text 83 = .ok (.ireturn, 1) := by decide +kernel
theorem dX4_text_84 : decode cX4_text 84 = .ok (.iload_n 1, 1) := by decide +kernel
theorem dX4_text_85 : decode cX4_text 85 = .ok (.ireturn, 1) := by decide +kernel
theorem dX4_isSpot_0 : decode cX4_isSpot 0 = .ok (.iload_n 0, 1) := by decide +kernel
theorem dX4_isSpot_1 : decode cX4_isSpot 1 = .ok (.iconst 0, 1) := by decide +kernel
theorem dX4_isSpot_2 : decode cX4_isSpot 2 = .ok (.bipush 9, 2) := by decide +kernel
theorem dX4_isSpot_4 : decode cX4_isSpot 4 = .ok (.invokestatic 61, 3) := by decide +kernel
theorem dX4_isSpot_7 : decode cX4_isSpot 7 = .ok (.ireturn, 1) := by decide +kernel
theorem dX4_hold_0 : decode cX4_hold 0 = .ok (.iload_n 1, 1) := by decide +kernel
theorem dX4_hold_1 : decode cX4_hold 1 = .ok (.invokestatic 267, 3) := by decide +kernel
theorem dX4_hold_4 : decode cX4_hold 4 = .ok (.ifCond .eq 16, 3) := by decide +kernel
theorem dX4_hold_7 : decode cX4_hold 7 = .ok (.iload_n 2, 1) := by decide +kernel
theorem dX4_hold_8 : decode cX4_hold 8 = .ok (.iconst (-1), 1) := by decide +kernel
theorem dX4_hold_9 : decode cX4_hold 9 = .ok (.if_icmp .eq 17, 3) := by decide +kernel
theorem dX4_hold_12 : decode cX4_hold 12 = .ok (.aload_n 0, 1) := by decide +kernel
theorem dX4_hold_13 : decode cX4_hold 13 = .ok (.iload_n 2, 1) := by decide +kernel
theorem dX4_hold_14 : decode cX4_hold 14 = .ok (.invokevirtual 138, 3) := by decide +kernel
theorem dX4_hold_17 : decode cX4_hold 17 = .ok (.ifCond .ne 9, 3) := by decide +kernel
theorem dX4_hold_20 : decode cX4_hold 20 = .ok (.aload_n 0, 1) := by decide +kernel
theorem dX4_hold_21 : decode cX4_hold 21 = .ok (.iconst 0, 1) := by decide +kernel
theorem dX4_hold_22 : decode cX4_hold 22 = .ok (.invokevirtual 129, 3) := by decide +kernel
theorem dX4_hold_25 : decode cX4_hold 25 = .ok (.ireturn, 1) := by decide +kernel
theorem dX4_hold_26 : decode cX4_hold 26 = .ok (.aload_n 0, 1) := by decide +kernel
theorem dX4_hold_27 : decode cX4_hold 27 = .ok (.getfield 9, 3) := by decide +kernel
theorem dX4_hold_30 : decode cX4_hold 30 = .ok (.bipush 80, 2) := by decide +kernel
theorem dX4_hold_32 : decode cX4_hold 32 = .ok (.iload_n 1, 1) := by decide +kernel
theorem dX4_hold_33 : decode cX4_hold 33 = .ok (.iadd, 1) := by decide +kernel
theorem dX4_hold_34 : decode cX4_hold 34 = .ok (.iload_n 2, 1) := by decide +kernel
theorem dX4_hold_35 : decode cX4_hold 35 = .ok (.iastore, 1) := by decide +kernel
theorem dX4_hold_36 : decode cX4_hold 36 = .ok (.iconst 1, 1) := by decide +kernel
theorem dX4_hold_37 : decode cX4_hold 37 = .ok (.ireturn, 1) := by decide +kernel
theorem dX4_above_0 : decode cX4_above 0 = .ok (.iload_n 0, 1) := by decide +kernel
theorem dX4_above_1 : decode cX4_above 1 = .ok (.iconst 3, 1) := by decide +kernel
theorem dX4_above_2 : decode cX4_above 2 = .ok (.if_icmp .ne 7, 3) := by decide +kernel
theorem dX4_above_5 : decode cX4_above 5 = .ok (.iconst 2, 1) := by decide +kernel
theorem dX4_above_6 : decode cX4_above 6 = .ok (.goto 23, 3) := by decide +kernel
theorem dX4_above_9 : decode cX4_above 9 = .ok (.iload_n 0, 1) := by decide +kernel
theorem dX4_above_10 : decode cX4_above 10 = .ok (.iconst 4, 1) := by decide +kernel
theorem dX4_above_11 : decode cX4_above 11 = .ok (.if_icmp .ne 7, 3) := by decide +kernel
theorem dX4_above_14 : decode cX4_above 14 = .ok (.iconst 3, 1) := by decide +kernel
theorem dX4_above_15 : decode cX4_above 15 = .ok (.goto 14, 3) := by decide +kernel
theorem dX4_above_18 : decode cX4_above 18 = .ok (.iload_n 0, 1) := by decide +kernel
theorem dX4_above_19 : decode cX4_above 19 = .ok (.bipush 6, 2) := by decide +kernel
theorem dX4_above_21 : decode cX4_above 21 = .ok (.if_icmp .ne 7, 3) := by decide +kernel
theorem dX4_above_24 : decode cX4_above 24 = .ok (.iconst 1, 1) := by decide +kernel
theorem dX4_above_25 : decode cX4_above 25 = .ok (.goto 4, 3) := by decide +kernel
theorem dX4_above_28 : decode cX4_above 28 = .ok (.iconst 0, 1) := by decide +kernel
theorem dX4_above_29 : decode cX4_above 29 = .ok (.ireturn, 1) := by decide +kernel
theorem dX4_as_0 : decode cX4_as 0 = .ok (.iload_n 1, 1) := by decide +kernel
theorem dX4_as_1 : decode cX4_as 1 = .ok (.invokestatic 267, 3) := by decide +kernel
theorem dX4_as_4 : decode cX4_as 4 = .ok (.ifCond .eq 13, 3) := by decide +kernel
theorem dX4_as_7 : decode cX4_as 7 = .ok (.iload_n 2, 1) := by decide +kernel
theorem dX4_as_8 : decode cX4_as 8 = .ok (.iconst 0, 1) := by decide +kernel
theorem dX4_as_9 : decode cX4_as 9 = .ok (.bipush 6, 2) := by decide +kernel
theorem dX4_as_11 : decode cX4_as 11 = .ok (.invokestatic 61, 3) := by decide +kernel
theorem dX4_as_14 : decode cX4_as 14 = .ok (.ifCond .ne 9, 3) := by decide +kernel
theorem dX4_as_17 : decode cX4_as 17 = .ok (.aload_n 0, 1) := by decide +kernel
theorem dX4_as_18 : decode cX4_as 18 = .ok (.iconst 0, 1) := by decide +kernel
theorem dX4_as_19 : decode cX4_as 19 = .ok (.invokevirtual 129, 3) := by decide +kernel
theorem dX4_as_22 : decode cX4_as 22 = .ok (.ireturn, 1) := by decide +kernel
theorem dX4_as_23 : decode cX4_as 23 = .ok (.aload_n 0, 1) := by decide +kernel
theorem dX4_as_24 : decode cX4_as 24 = .ok (.getfield 9, 3) := by decide +kernel
theorem dX4_as_27 : decode cX4_as 27 = .ok (.bipush 80, 2) := by decide +kernel
theorem dX4_as_29 : decode cX4_as 29 = .ok (.iload_n 1, 1) := by decide +kernel
theorem dX4_as_30 : decode cX4_as 30 = .ok (.iadd, 1) := by decide +kernel
theorem dX4_as_31 : decode cX4_as 31 = .ok (.iaload, 1) := by decide +kernel
theorem dX4_as_32 : decode cX4_as 32 = .ok (.istore_n 3, 1) := by decide +kernel
theorem dX4_as_33 : decode cX4_as 33 = .ok (.iload_n 3, 1) := by decide +kernel
theorem dX4_as_34 : decode cX4_as 34 = .ok (.ifCond .ge 9, 3) := by decide +kernel
theorem dX4_as_37 : decode cX4_as 37 = .ok (.aload_n 0, 1) := by decide +kernel
theorem dX4_as_38 : decode cX4_as 38 = .ok (.iconst 5, 1) := by decide +kernel
theorem dX4_as_39 : decode cX4_as 39 = .ok (.invokevirtual 129, 3) := by decide +kernel
theorem dX4_as_42 : decode cX4_as 42 = .ok (.ireturn, 1) := by decide +kernel
theorem dX4_as_43 : decode cX4_as 43 = .ok (.aload_n 0, 1) := by decide +kernel
theorem dX4_as_44 : decode cX4_as 44 = .ok (.iload_n 3, 1) := by decide +kernel
theorem dX4_as_45 : decode cX4_as 45 = .ok (.iconst 0, 1) := by decide +kernel
theorem dX4_as_46 : decode cX4_as 46 = .ok (.invokevirtual 65, 3) := by decide +kernel
theorem dX4_as_49 : decode cX4_as 49 = .ok (.istore 4, 2) := by decide +kernel
theorem dX4_as_51 : decode cX4_as 51 = .ok (.iload 4, 2) := by decide +kernel
theorem dX4_as_53 : decode cX4_as 53 = .ok (.iload_n 2, 1) := by decide +kernel
theorem dX4_as_54 : decode cX4_as 54 = .ok (.if_icmp .eq 18, 3) := by decide +kernel
theorem dX4_as_57 : decode cX4_as 57 = .ok (.iload 4, 2) := by decide +kernel
theorem dX4_as_59 : decode cX4_as 59 = .ok (.ifCond .eq 13, 3) := by decide +kernel
theorem dX4_as_62 : decode cX4_as 62 = .ok (.iload 4, 2) := by decide +kernel
theorem dX4_as_64 : decode cX4_as 64 = .ok (.invokestatic 270, 3) := by decide +kernel
theorem dX4_as_67 : decode cX4_as 67 = .ok (.istore 4, 2) := by decide +kernel
theorem dX4_as_69 : decode cX4_as 69 = .ok (.goto (-18), 3) := by decide +kernel
theorem dX4_as_72 : decode cX4_as 72 = .ok (.iload 4, 2) := by decide +kernel
theorem dX4_as_74 : decode cX4_as 74 = .ok (.iload_n 2, 1) := by decide +kernel
theorem dX4_as_75 : decode cX4_as 75 = .ok (.if_icmp .ne 7, 3) := by decide +kernel
theorem dX4_as_78 : decode cX4_as 78 = .ok (.iload_n 3, 1) := by decide +kernel
theorem dX4_as_79 : decode cX4_as 79 = .ok (.goto 8, 3) := by decide +kernel
theorem dX4_as_82 : decode cX4_as 82 = .ok (.aload_n 0, 1) := by decide +kernel
theorem dX4_as_83 : decode cX4_as 83 = .ok (.iconst 2, 1) := by decide +kernel
theorem dX4_as_84 : decode cX4_as 84 = .ok (.invokevirtual 129, 3) := by decide +kernel
theorem dX4_as_87 : decode cX4_as 87 = .ok (.ireturn, 1) := by decide +kernel
theorem dX4_sheet_0 : decode cX4_sheet 0 = .ok (.iload_n 1, 1) := by decide +kernel
theorem dX4_sheet_1 : decode cX4_sheet 1 = .ok (.invokestatic 189, 3) := by decide +kernel
theorem dX4_sheet_4 : decode cX4_sheet 4 = .ok (.ifCond .eq 25, 3) := by decide +kernel
theorem dX4_sheet_7 : decode cX4_sheet 7 = .ok (.iload_n 2, 1) := by decide +kernel
theorem dX4_sheet_8 : decode cX4_sheet 8 = .ok (.ifCond .eq 27, 3) := by decide +kernel
theorem dX4_sheet_11 : decode cX4_sheet 11 = .ok (.iload_n 2, 1) := by decide +kernel
theorem dX4_sheet_12 : decode cX4_sheet 12 = .ok (.bipush 8, 2) := by decide +kernel
theorem dX4_sheet_14 : decode cX4_sheet 14 = .ok (.if_icmp .eq 21, 3) := by decide +kernel
theorem dX4_sheet_17 : decode cX4_sheet 17 = .ok (.iload_n 2, 1) := by decide +kernel
theorem dX4_sheet_18 : decode cX4_sheet 18 = .ok (.bipush 16, 2) := by decide +kernel
theorem dX4_sheet_20 : decode cX4_sheet 20 = .ok (.if_icmp .eq 15, 3) := by decide +kernel
theorem dX4_sheet_23 : decode cX4_sheet 23 = .ok (.iload_n 2, 1) := by decide +kernel
theorem dX4_sheet_24 : decode cX4_sheet 24 = .ok (.bipush 32, 2) := by decide +kernel
theorem dX4_sheet_26 : decode cX4_sheet 26 = .ok (.if_icmp .eq 9, 3) := by decide +kernel
theorem dX4_sheet_29 : decode cX4_sheet 29 = .ok (.aload_n 0, 1) := by decide +kernel
theorem dX4_sheet_30 : decode cX4_sheet 30 = .ok (.iconst 0, 1) := by decide +kernel
theorem dX4_sheet_31 : decode cX4_sheet 31 = .ok (.invokevirtual 129, 3) := by decide +kernel
theorem dX4_sheet_34 : decode cX4_sheet 34 = .ok (.ireturn, 1) := by decide +kernel
theorem dX4_sheet_35 : decode cX4_sheet 35 = .ok (.iload_n 3, 1) := by decide +kernel
theorem dX4_sheet_36 : decode cX4_sheet 36 = .ok (.ifCond .ge 10, 3) := by decide +kernel
theorem dX4_sheet_39 : decode cX4_sheet 39 = .ok (.aload_n 0, 1) := by decide +kernel
theorem dX4_sheet_40 : decode cX4_sheet 40 = .ok (.bipush 6, 2) := by decide +kernel
theorem dX4_sheet_42 : decode cX4_sheet 42 = .ok (.invokevirtual 129, 3) := by decide +kernel
theorem dX4_sheet_45 : decode cX4_sheet 45 = .ok (.ireturn, 1) := by decide +kernel
theorem dX4_sheet_46 : decode cX4_sheet 46 = .ok (.iload_n 3, 1) := by decide +kernel
theorem dX4_sheet_47 : decode cX4_sheet 47 = .ok (.bipush 40, 2) := by decide +kernel
theorem dX4_sheet_49 : decode cX4_sheet 49 = .ok (.if_icmp .le 9, 3) := by decide +kernel
theorem dX4_sheet_52 : decode cX4_sheet 52 = .ok (.aload_n 0, 1) := by decide +kernel
theorem dX4_sheet_53 : decode cX4_sheet 53 = .ok (.iconst 0, 1) := by decide +kernel
theorem dX4_sheet_54 : decode cX4_sheet 54 = .ok (.invokevirtual 129, 3) := by decide +kernel
theorem dX4_sheet_57 : decode cX4_sheet 57 = .ok (.ireturn, 1) := by decide +kernel
theorem dX4_sheet_58 : decode cX4_sheet 58 = .ok (.aload_n 0, 1) := by decide +kernel
theorem dX4_sheet_59 : decode cX4_sheet 59 = .ok (.getfield 44, 3) := by decide +kernel
theorem dX4_sheet_62 : decode cX4_sheet 62 = .ok (.iload_n 1, 1) := by decide +kernel
theorem dX4_sheet_63 : decode cX4_sheet 63 = .ok (.iload_n 2, 1) := by decide +kernel
theorem dX4_sheet_64 : decode cX4_sheet 64 = .ok (.iastore, 1) := by decide +kernel
theorem dX4_sheet_65 : decode cX4_sheet 65 = .ok (.aload_n 0, 1) := by decide +kernel
theorem dX4_sheet_66 : decode cX4_sheet 66 = .ok (.getfield 47, 3) := by decide +kernel
theorem dX4_sheet_69 : decode cX4_sheet 69 = .ok (.iload_n 1, 1) := by decide +kernel
theorem dX4_sheet_70 : decode cX4_sheet 70 = .ok (.iload_n 2, 1) := by decide +kernel
theorem dX4_sheet_71 : decode cX4_sheet 71 = .ok (.ifCond .ne 7, 3) := by decide +kernel
theorem dX4_sheet_74 : decode cX4_sheet 74 = .ok (.iconst 0, 1) := by decide +kernel
theorem dX4_sheet_75 : decode cX4_sheet 75 = .ok (.goto 4, 3) := by decide +kernel
theorem dX4_sheet_78 : decode cX4_sheet 78 = .ok (.iload_n 3, 1) := by decide +kernel
theorem dX4_sheet_79 : decode cX4_sheet 79 = .ok (.iastore, 1) := by decide +kernel
theorem dX4_sheet_80 : decode cX4_sheet 80 = .ok (.iconst 0, 1) := by decide +kernel
theorem dX4_sheet_81 : decode cX4_sheet 81 = .ok (.istore 4, 2) := by decide +kernel
theorem dX4_sheet_83 : decode cX4_sheet 83 = .ok (.iload 4, 2) := by decide +kernel
theorem dX4_sheet_85 : decode cX4_sheet 85 = .ok (.bipush 40, 2) := by decide +kernel
theorem dX4_sheet_87 : decode cX4_sheet 87 = .ok (.if_icmp .ge 22, 3) := by decide +kernel
theorem dX4_sheet_90 : decode cX4_sheet 90 = .ok (.aload_n 0, 1) := by decide +kernel
theorem dX4_sheet_91 : decode cX4_sheet 91 = .ok (.getfield 50, 3) := by decide +kernel
theorem dX4_sheet_94 : decode cX4_sheet 94 = .ok (.bipush 40, 2) := by decide +kernel
theorem dX4_sheet_96 : decode cX4_sheet 96 = .ok (.iload_n 1, 1) := by decide +kernel
theorem dX4_sheet_97 : decode cX4_sheet 97 = .ok (.imul, 1) := by decide +kernel
theorem dX4_sheet_98 : decode cX4_sheet 98 = .ok (.iload 4, 2) := by decide +kernel
theorem dX4_sheet_100 : decode cX4_sheet 100 = .ok (.iadd, 1) := by decide +kernel
theorem dX4_sheet_101 : decode cX4_sheet 101 = .ok (.iconst 0, 1) := by decide +kernel
theorem dX4_sheet_102 : decode cX4_sheet 102 = .ok (.iastore, 1) := by decide +kernel
theorem dX4_sheet_103 : decode cX4_sheet 103 = .ok (.iinc 4 1, 3) := by decide +kernel
theorem dX4_sheet_106 : decode cX4_sheet 106 = .ok (.goto (-23), 3) := by decide +kernel
theorem dX4_sheet_109 : decode cX4_sheet 109 = .ok (.aload_n 0, 1) := by decide +kernel
theorem dX4_sheet_110 : decode cX4_sheet 110 = .ok (.getfield 47, 3) := by decide +kernel
theorem dX4_sheet_113 : decode cX4_sheet 113 = .ok (.iload_n 1, 1) := by decide +kernel
theorem dX4_sheet_114 : decode cX4_sheet 114 = .ok (.iaload, 1) := by decide +kernel
theorem dX4_sheet_115 : decode cX4_sheet 115 = .ok (.ireturn, 1) := by decide +kernel
theorem dX4_write_0 : decode cX4_write 0 = .ok (.aload_n 0, 1) := by decide +kernel
theorem dX4_write_1 : decode cX4_write 1 = .ok (.iload_n 1, 1) := by decide +kernel
theorem dX4_write_2 : decode cX4_write 2 = .ok (.invokevirtual 192, 3) := by decide +kernel
theorem dX4_write_5 : decode cX4_write 5 = .ok (.istore 4, 2) := by decide +kernel
theorem dX4_write_7 : decode cX4_write 7 = .ok (.iload 4, 2) := by decide +kernel
theorem dX4_write_9 : decode cX4_write 9 = .ok (.ifCond .ge 22, 3) := by decide +kernel
theorem dX4_write_12 : decode cX4_write 12 = .ok (.iload_n 2, 1) := by decide +kernel
theorem dX4_write_13 : decode cX4_write 13 = .ok (.iconst 0, 1) := by decide +kernel
theorem dX4_write_14 : decode cX4_write 14 = .ok (.aload_n 0, 1) := by decide +kernel
theorem dX4_write_15 : decode cX4_write 15 = .ok (.getfield 47, 3) := by decide +kernel
theorem dX4_write_18 : decode cX4_write 18 = .ok (.iload_n 1, 1) := by decide +kernel
theorem dX4_write_19 : decode cX4_write 19 = .ok (.iaload, 1) := by decide +kernel
theorem dX4_write_20 : decode cX4_write 20 = .ok (.iconst 1, 1) := by decide +kernel
theorem dX4_write_21 : decode cX4_write 21 = .ok (.isub, 1) := by decide +kernel
theorem dX4_write_22 : decode cX4_write 22 = .ok (.invokestatic 61, 3) := by decide +kernel
theorem dX4_write_25 : decode cX4_write 25 = .ok (.ifCond .ne 6, 3) := by decide +kernel
theorem dX4_write_28 : decode cX4_write 28 = .ok (.iconst 0, 1) := by decide +kernel
theorem dX4_write_29 : decode cX4_write 29 = .ok (.istore 4, 2) := by decide +kernel
theorem dX4_write_31 : decode cX4_write 31 = .ok (.iload 4, 2) := by decide +kernel
theorem dX4_write_33 : decode cX4_write 33 = .ok (.ifCond .lt 10, 3) := by decide +kernel
theorem dX4_write_36 : decode cX4_write 36 = .ok (.aload_n 0, 1) := by decide +kernel
theorem dX4_write_37 : decode cX4_write 37 = .ok (.iload 4, 2) := by decide +kernel
theorem dX4_write_39 : decode cX4_write 39 = .ok (.invokevirtual 129, 3) := by decide +kernel
theorem dX4_write_42 : decode cX4_write 42 = .ok (.ireturn, 1) := by decide +kernel
theorem dX4_write_43 : decode cX4_write 43 = .ok (.aload_n 0, 1) := by decide +kernel
theorem dX4_write_44 : decode cX4_write 44 = .ok (.getfield 50, 3) := by decide +kernel
theorem dX4_write_47 : decode cX4_write 47 = .ok (.bipush 40, 2) := by decide +kernel
theorem dX4_write_49 : decode cX4_write 49 = .ok (.iload_n 1, 1) := by decide +kernel
theorem dX4_write_50 : decode cX4_write 50 = .ok (.imul, 1) := by decide +kernel
theorem dX4_write_51 : decode cX4_write 51 = .ok (.iload_n 2, 1) := by decide +kernel
theorem dX4_write_52 : decode cX4_write 52 = .ok (.iadd, 1) := by decide +kernel
theorem dX4_write_53 : decode cX4_write 53 = .ok (.aload_n 0, 1) := by decide +kernel
theorem dX4_write_54 : decode cX4_write 54 = .ok (.getfield 44, 3) := by decide +kernel
theorem dX4_write_57 : decode cX4_write 57 = .ok (.iload_n 1, 1) := by decide +kernel
theorem dX4_write_58 : decode cX4_write 58 = .ok (.iaload, 1) := by decide +kernel
theorem dX4_write_59 : decode cX4_write 59 = .ok (.bipush 8, 2) := by decide +kernel
theorem dX4_write_61 : decode cX4_write 61 = .ok (.if_icmp .ne 8, 3) := by decide +kernel
theorem dX4_write_64 : decode cX4_write 64 = .ok (.iload_n 3, 1) := by decide +kernel
theorem dX4_write_65 : decode cX4_write 65 = .ok (.i2b, 1) := by decide +kernel
theorem dX4_write_66 : decode cX4_write 66 = .ok (.goto 20, 3) := by decide +kernel
theorem dX4_write_69 : decode cX4_write 69 = .ok (.aload_n 0, 1) := by decide +kernel
theorem dX4_write_70 : decode cX4_write 70 = .ok (.getfield 44, 3) := by decide +kernel
theorem dX4_write_73 : decode cX4_write 73 = .ok (.iload_n 1, 1) := by decide +kernel
theorem dX4_write_74 : decode cX4_write 74 = .ok (.iaload, 1) := by decide +kernel
theorem dX4_write_75 : decode cX4_write 75 = .ok (.bipush 16, 2) := by decide +kernel
theorem dX4_write_77 : decode cX4_write 77 = .ok (.if_icmp .ne 8, 3) := by decide +kernel
theorem dX4_write_80 : decode cX4_write 80 = .ok (.iload_n 3, 1) := by decide +kernel
theorem dX4_write_81 : decode cX4_write 81 = .ok (.i2s, 1) := by decide +kernel
theorem dX4_write_82 : decode cX4_write 82 = .ok (.goto 4, 3) := by decide +kernel
theorem dX4_write_85 : decode cX4_write 85 = .ok (.iload_n 3, 1) := by decide +kernel
theorem dX4_write_86 : decode cX4_write 86 = .ok (.iastore, 1) := by decide +kernel
theorem dX4_write_87 : decode cX4_write 87 = .ok (.iconst 1, 1) := by decide +kernel
theorem dX4_write_88 : decode cX4_write 88 = .ok (.ireturn, 1) := by decide +kernel
theorem dX4_copy_0 : decode cX4_copy 0 = .ok (.iload_n 1, 1) := by decide +kernel
theorem dX4_copy_1 : decode cX4_copy 1 = .ok (.invokestatic 189, 3) := by decide +kernel
theorem dX4_copy_4 : decode cX4_copy 4 = .ok (.ifCond .eq 10, 3) := by decide +kernel
theorem dX4_copy_7 : decode cX4_copy 7 = .ok (.iload_n 3, 1) := by decide +kernel
theorem dX4_copy_8 : decode cX4_copy 8 = .ok (.invokestatic 189, 3) := by decide +kernel
theorem dX4_copy_11 : decode cX4_copy 11 = .ok (.ifCond .ne 9, 3) := by decide +kernel
theorem dX4_copy_14 : decode cX4_copy 14 = .ok (.aload_n 0, 1) := by decide +kernel
theorem dX4_copy_15 : decode cX4_copy 15 = .ok (.iconst 0, 1) := by decide +kernel
theorem dX4_copy_16 : decode cX4_copy 16 = .ok (.invokevirtual 129, 3) := by decide +kernel
theorem dX4_copy_19 : decode cX4_copy 19 = .ok (.ireturn, 1) := by decide +kernel
theorem dX4_copy_20 : decode cX4_copy 20 = .ok (.aload_n 0, 1) := by decide +kernel
theorem dX4_copy_21 : decode cX4_copy 21 = .ok (.getfield 44, 3) := by decide +kernel
theorem dX4_copy_24 : decode cX4_copy 24 = .ok (.iload_n 1, 1) := by decide +kernel
theorem dX4_copy_25 : decode cX4_copy 25 = .ok (.iaload, 1) := by decide +kernel
theorem dX4_copy_26 : decode cX4_copy 26 = .ok (.ifCond .eq 12, 3) := by decide +kernel
theorem dX4_copy_29 : decode cX4_copy 29 = .ok (.aload_n 0, 1) := by decide +kernel
theorem dX4_copy_30 : decode cX4_copy 30 = .ok (.getfield 44, 3) := by decide +kernel
theorem dX4_copy_33 : decode cX4_copy 33 = .ok (.iload_n 3, 1) := by decide +kernel
theorem dX4_copy_34 : decode cX4_copy 34 = .ok (.iaload, 1) := by decide +kernel
theorem dX4_copy_35 : decode cX4_copy 35 = .ok (.ifCond .ne 9, 3) := by decide +kernel
theorem dX4_copy_38 : decode cX4_copy 38 = .ok (.aload_n 0, 1) := by decide +kernel
theorem dX4_copy_39 : decode cX4_copy 39 = .ok (.iconst 5, 1) := by decide +kernel
theorem dX4_copy_40 : decode cX4_copy 40 = .ok (.invokevirtual 129, 3) := by decide +kernel
theorem dX4_copy_43 : decode cX4_copy 43 = .ok (.ireturn, 1) := by decide +kernel
theorem dX4_copy_44 : decode cX4_copy 44 = .ok (.aload_n 0, 1) := by decide +kernel
theorem dX4_copy_45 : decode cX4_copy 45 = .ok (.getfield 44, 3) := by decide +kernel
theorem dX4_copy_48 : decode cX4_copy 48 = .ok (.iload_n 1, 1) := by decide +kernel
theorem dX4_copy_49 : decode cX4_copy 49 = .ok (.iaload, 1) := by decide +kernel
theorem dX4_copy_50 : decode cX4_copy 50 = .ok (.aload_n 0, 1) := by decide +kernel
theorem dX4_copy_51 : decode cX4_copy 51 = .ok (.getfield 44, 3) := by decide +kernel
theorem dX4_copy_54 : decode cX4_copy 54 = .ok (.iload_n 3, 1) := by decide +kernel
theorem dX4_copy_55 : decode cX4_copy 55 = .ok (.iaload, 1) := by decide +kernel
theorem dX4_copy_56 : decode cX4_copy 56 = .ok (.if_icmp .eq 9, 3) := by decide +kernel
theorem dX4_copy_59 : decode cX4_copy 59 = .ok (.aload_n 0, 1) := by decide +kernel
theorem dX4_copy_60 : decode cX4_copy 60 = .ok (.iconst 2, 1) := by decide +kernel
theorem dX4_copy_61 : decode cX4_copy 61 = .ok (.invokevirtual 129, 3) := by decide +kernel
theorem dX4_copy_64 : decode cX4_copy 64 = .ok (.ireturn, 1) := by decide +kernel
theorem dX4_copy_65 : decode cX4_copy 65 = .ok (.iload 5, 2) := by decide +kernel
theorem dX4_copy_67 : decode cX4_copy 67 = .ok (.ifCond .lt 39, 3) := by decide +kernel
theorem dX4_copy_70 : decode cX4_copy 70 = .ok (.iload_n 2, 1) := by decide +kernel
theorem dX4_copy_71 : decode cX4_copy 71 = .ok (.ifCond .lt 35, 3) := by decide +kernel
theorem dX4_copy_74 : decode cX4_copy 74 = .ok (.iload 4, 2) := by decide +kernel
theorem dX4_copy_76 : decode cX4_copy 76 = .ok (.ifCond .lt 30, 3) := by decide +kernel
theorem dX4_copy_79 : decode cX4_copy 79 = .ok (.iload_n 2, 1) := by decide +kernel
theorem dX4_copy_80 : decode cX4_copy 80 = .ok (.aload_n 0, 1) := by decide +kernel
theorem dX4_copy_81 : decode cX4_copy 81 = .ok (.getfield 47, 3) := by decide +kernel
theorem dX4_copy_84 : decode cX4_copy 84 = .ok (.iload_n 1, 1) := by decide +kernel
theorem dX4_copy_85 : decode cX4_copy 85 = .ok (.iaload, 1) := by decide +kernel
theorem dX4_copy_86 : decode cX4_copy 86 = .ok (.iload 5, 2) := by decide +kernel
theorem dX4_copy_88 : decode cX4_copy 88 = .ok (.isub, 1) := by decide +kernel
theorem dX4_copy_89 : decode cX4_copy 89 = .ok (.if_icmp .gt 17, 3) := by decide +kernel
theorem dX4_copy_92 : decode cX4_copy 92 = .ok (.iload 4, 2) := by decide +kernel
theorem dX4_copy_94 : decode cX4_copy 94 = .ok (.aload_n 0, 1) := by decide +kernel
theorem dX4_copy_95 : decode cX4_copy 95 = .ok (.getfield 47, 3) := by decide +kernel
theorem dX4_copy_98 : decode cX4_copy 98 = .ok (.iload_n 3, 1) := by decide +kernel
theorem dX4_copy_99 : decode cX4_copy 99 = .ok (.iaload, 1) := by decide +kernel
theorem dX4_copy_100 : decode cX4_copy 100 = .ok (.iload 5, 2) := by decide +kernel
theorem dX4_copy_102 : decode cX4_copy 102 = .ok (.isub, 1) := by decide +kernel
theorem dX4_copy_103 : decode cX4_copy 103 = .ok (.if_icmp .le 9, 3) := by decide +kernel
theorem dX4_copy_106 : decode cX4_copy 106 = .ok (.aload_n 0, 1) := by decide +kernel
theorem dX4_copy_107 : decode cX4_copy 107 = .ok (.iconst 0, 1) := by decide +kernel
theorem dX4_copy_108 : decode cX4_copy 108 = .ok (.invokevirtual 129, 3) := by decide +kernel
theorem dX4_copy_111 : decode cX4_copy 111 = .ok (.ireturn, 1) := by decide +kernel
theorem dX4_copy_112 : decode cX4_copy 112 = .ok (.iconst 0, 1) := by decide +kernel
theorem dX4_copy_113 : decode cX4_copy 113 = .ok (.istore 6, 2) := by decide +kernel
theorem dX4_copy_115 : decode cX4_copy 115 = .ok (.iload 6, 2) := by decide +kernel
theorem dX4_copy_117 : decode cX4_copy 117 = .ok (.iload 5, 2) := by decide +kernel
theorem dX4_copy_119 : decode cX4_copy 119 = .ok (.if_icmp .ge 30, 3) := by decide +kernel
theorem dX4_copy_122 : decode cX4_copy 122 = .ok (.aload_n 0, 1) := by decide +kernel
theorem dX4_copy_123 : decode cX4_copy 123 = .ok (.getfield 53, 3) := by decide +kernel
theorem dX4_copy_126 : decode cX4_copy 126 = .ok (.iload 6, 2) := by decide +kernel
theorem dX4_copy_128 : decode cX4_copy 128 = .ok (.aload_n 0, 1) := by decide +kernel
theorem dX4_copy_129 : decode cX4_copy 129 = .ok (.getfield 50, 3) := by decide +kernel
theorem dX4_copy_132 : decode cX4_copy 132 = .ok (.bipush 40, 2) := by decide +kernel
theorem dX4_copy_134 : decode cX4_copy 134 = .ok (.iload_n 1, 1) := by decide +kernel
theorem dX4_copy_135 : decode cX4_copy 135 = .ok (.imul, 1) := by decide +kernel
theorem dX4_copy_136 : decode cX4_copy 136 = .ok (.iload_n 2, 1) := by decide +kernel
theorem dX4_copy_137 : decode cX4_copy 137 = .ok (.iadd, 1) := by decide +kernel
theorem dX4_copy_138 : decode cX4_copy 138 = .ok (.iload 6, 2) := by decide +kernel
theorem dX4_copy_140 : decode cX4_copy 140 = .ok (.iadd, 1) := by decide +kernel
theorem dX4_copy_141 : decode cX4_copy 141 = .ok (.iaload, 1) := by decide +kernel
theorem dX4_copy_142 : decode cX4_copy 142 = .ok (.iastore, 1) := by decide +kernel
theorem dX4_copy_143 : decode cX4_copy 143 = .ok (.iinc 6 1, 3) := by decide +kernel
theorem dX4_copy_146 : decode cX4_copy 146 = .ok (.goto (-31), 3) := by decide +kernel
theorem dX4_copy_149 : decode cX4_copy 149 = .ok (.iconst 0, 1) := by decide +kernel
theorem dX4_copy_150 : decode cX4_copy 150 = .ok (.istore 6, 2) := by decide +kernel
theorem dX4_copy_152 : decode cX4_copy 152 = .ok (.iload 6, 2) := by decide +kernel
theorem dX4_copy_154 : decode cX4_copy 154 = .ok (.iload 5, 2) := by decide +kernel
theorem dX4_copy_156 : decode cX4_copy 156 = .ok (.if_icmp .ge 31, 3) := by decide +kernel
theorem dX4_copy_159 : decode cX4_copy 159 = .ok (.aload_n 0, 1) := by decide +kernel
theorem dX4_copy_160 : decode cX4_copy 160 = .ok (.getfield 50, 3) := by decide +kernel
theorem dX4_copy_163 : decode cX4_copy 163 = .ok (.bipush 40, 2) := by decide +kernel
theorem dX4_copy_165 : decode cX4_copy 165 = .ok (.iload_n 3, 1) := by decide +kernel
theorem dX4_copy_166 : decode cX4_copy 166 = .ok (.imul, 1) := by decide +kernel
theorem dX4_copy_167 : decode cX4_copy 167 = .ok (.iload 4, 2) := by decide +kernel
theorem dX4_copy_169 : decode cX4_copy 169 = .ok (.iadd, 1) := by decide +kernel
theorem dX4_copy_170 : decode cX4_copy 170 = .ok (.iload 6, 2) := by decide +kernel
theorem dX4_copy_172 : decode cX4_copy 172 = .ok (.iadd, 1) := by decide +kernel
theorem dX4_copy_173 : decode cX4_copy 173 = .ok (.aload_n 0, 1) := by decide +kernel
theorem dX4_copy_174 : decode cX4_copy 174 = .ok (.getfield 53, 3) := by decide +kernel
theorem dX4_copy_177 : decode cX4_copy 177 = .ok (.iload 6, 2) := by decide +kernel
theorem dX4_copy_179 : decode cX4_copy 179 = .ok (.iaload, 1) := by decide +kernel
theorem dX4_copy_180 : decode cX4_copy 180 = .ok (.iastore, 1) := by decide +kernel
theorem dX4_copy_181 : decode cX4_copy 181 = .ok (.iinc 6 1, 3) := by decide +kernel
theorem dX4_copy_184 : decode cX4_copy 184 = .ok (.goto (-32), 3) := by decide +kernel
theorem dX4_copy_187 : decode cX4_copy 187 = .ok (.iload 5, 2) := by decide +kernel
theorem dX4_copy_189 : decode cX4_copy 189 = .ok (.ireturn, 1) := by decide +kernel
theorem dX4_load_0 : decode cX4_load 0 = .ok (.aload_n 0, 1) := by decide +kernel
theorem dX4_load_1 : decode cX4_load 1 = .ok (.iload_n 1, 1) := by decide +kernel
theorem dX4_load_2 : decode cX4_load 2 = .ok (.invokevirtual 192, 3) := by decide +kernel
theorem dX4_load_5 : decode cX4_load 5 = .ok (.istore_n 2, 1) := by decide +kernel
theorem dX4_load_6 : decode cX4_load 6 = .ok (.iload_n 2, 1) := by decide +kernel
theorem dX4_load_7 : decode cX4_load 7 = .ok (.ifCond .lt 9, 3) := by decide +kernel
theorem dX4_load_10 : decode cX4_load 10 = .ok (.aload_n 0, 1) := by decide +kernel
theorem dX4_load_11 : decode cX4_load 11 = .ok (.iload_n 2, 1) := by decide +kernel
theorem dX4_load_12 : decode cX4_load 12 = .ok (.invokevirtual 129, 3) := by decide +kernel
theorem dX4_load_15 : decode cX4_load 15 = .ok (.ireturn, 1) := by decide +kernel
theorem dX4_load_16 : decode cX4_load 16 = .ok (.iconst 0, 1) := by decide +kernel
theorem dX4_load_17 : decode cX4_load 17 = .ok (.istore_n 3, 1) := by decide +kernel
theorem dX4_load_18 : decode cX4_load 18 = .ok (.iload_n 3, 1) := by decide +kernel
theorem dX4_load_19 : decode cX4_load 19 = .ok (.aload_n 0, 1) := by decide +kernel
theorem dX4_load_20 : decode cX4_load 20 = .ok (.getfield 47, 3) := by decide +kernel
theorem dX4_load_23 : decode cX4_load 23 = .ok (.iload_n 1, 1) := by decide +kernel
theorem dX4_load_24 : decode cX4_load 24 = .ok (.iaload, 1) := by decide +kernel
theorem dX4_load_25 : decode cX4_load 25 = .ok (.if_icmp .ge 42, 3) := by decide +kernel
theorem dX4_load_28 : decode cX4_load 28 = .ok (.iload_n 3, 1) := by decide +kernel
theorem dX4_load_29 : decode cX4_load 29 = .ok (.bipush 10, 2) := by decide +kernel
theorem dX4_load_31 : decode cX4_load 31 = .ok (.if_icmp .ge 36, 3) := by decide +kernel
theorem dX4_load_34 : decode cX4_load 34 = .ok (.aload_n 0, 1) := by decide +kernel
theorem dX4_load_35 : decode cX4_load 35 = .ok (.iload_n 1, 1) := by decide +kernel
theorem dX4_load_36 : decode cX4_load 36 = .ok (.iload_n 3, 1) := by decide +kernel
theorem dX4_load_37 : decode cX4_load 37 = .ok (.invokevirtual 195, 3) := by decide +kernel
theorem dX4_load_40 : decode cX4_load 40 = .ok (.iconst 0, 1) := by decide +kernel
theorem dX4_load_41 : decode cX4_load 41 = .ok (.bipush 99, 2) := by decide +kernel
theorem dX4_load_43 : decode cX4_load 43 = .ok (.invokestatic 61, 3) := by decide +kernel
theorem dX4_load_46 : decode cX4_load 46 = .ok (.ifCond .eq 21, 3) := by decide +kernel
theorem dX4_load_49 : decode cX4_load 49 = .ok (.aload_n 0, 1) := by decide +kernel
theorem dX4_load_50 : decode cX4_load 50 = .ok (.iload_n 3, 1) := by decide +kernel
theorem dX4_load_51 : decode cX4_load 51 = .ok (.iconst 0, 1) := by decide +kernel
theorem dX4_load_52 : decode cX4_load 52 = .ok (.aload_n 0, 1) := by decide +kernel
theorem dX4_load_53 : decode cX4_load 53 = .ok (.iload_n 1, 1) := by decide +kernel
theorem dX4_load_54 : decode cX4_load 54 = .ok (.iload_n 3, 1) := by decide +kernel
theorem dX4_load_55 : decode cX4_load 55 = .ok (.invokevirtual 195, 3) := by decide +kernel
theorem dX4_load_58 : decode cX4_load 58 = .ok (.invokevirtual 56, 3) := by decide +kernel
theorem dX4_load_61 : decode cX4_load 61 = .ok (.iinc 3 1, 3) := by decide +kernel
theorem dX4_load_64 : decode cX4_load 64 = .ok (.goto (-46), 3) := by decide +kernel
theorem dX4_load_67 : decode cX4_load 67 = .ok (.iload_n 3, 1) := by decide +kernel
theorem dX4_load_68 : decode cX4_load 68 = .ok (.ireturn, 1) := by decide +kernel
theorem dX4_judge_0 : decode cX4_judge 0 = .ok (.aload_n 0, 1) := by decide +kernel
theorem dX4_judge_1 : decode cX4_judge 1 = .ok (.iload_n 1, 1) := by decide +kernel
theorem dX4_judge_2 : decode cX4_judge 2 = .ok (.invokevirtual 192, 3) := by decide +kernel
theorem dX4_judge_5 : decode cX4_judge 5 = .ok (.istore_n 2, 1) := by decide +kernel
theorem dX4_judge_6 : decode cX4_judge 6 = .ok (.iload_n 2, 1) := by decide +kernel
theorem dX4_judge_7 : decode cX4_judge 7 = .ok (.ifCond .lt 9, 3) := by decide +kernel
theorem dX4_judge_10 : decode cX4_judge 10 = .ok (.aload_n 0, 1) := by decide +kernel
theorem dX4_judge_11 : decode cX4_judge 11 = .ok (.iload_n 2, 1) := by decide +kernel
theorem dX4_judge_12 : decode cX4_judge 12 = .ok (.invokevirtual 129, 3) := by decide +kernel
theorem dX4_judge_15 : decode cX4_judge 15 = .ok (.ireturn, 1) := by decide +kernel
theorem dX4_judge_16 : decode cX4_judge 16 = .ok (.iconst 0, 1) := by decide +kernel
theorem dX4_judge_17 : decode cX4_judge 17 = .ok (.istore_n 3, 1) := by decide +kernel
theorem dX4_judge_18 : decode cX4_judge 18 = .ok (.iload_n 3, 1) := by decide +kernel
theorem dX4_judge_19 : decode cX4_judge 19 = .ok (.aload_n 0, 1) := by decide +kernel
theorem dX4_judge_20 : decode cX4_judge 20 = .ok (.getfield 47, 3) := by decide +kernel
theorem dX4_judge_23 : decode cX4_judge 23 = .ok (.iload_n 1, 1) := by decide +kernel
theorem dX4_judge_24 : decode cX4_judge 24 = .ok (.iaload, 1) := by decide +kernel
theorem dX4_judge_25 : decode cX4_judge 25 = .ok (.if_icmp .ge 36, 3) := by decide +kernel
theorem dX4_judge_28 : decode cX4_judge 28 = .ok (.aload_n 0, 1) := by decide +kernel
theorem dX4_judge_29 : decode cX4_judge 29 = .ok (.iload_n 3, 1) := by decide +kernel
theorem dX4_judge_30 : decode cX4_judge 30 = .ok (.invokevirtual 138, 3) := by decide +kernel
theorem dX4_judge_33 : decode cX4_judge 33 = .ok (.ifCond .eq 18, 3) := by decide +kernel
theorem dX4_judge_36 : decode cX4_judge 36 = .ok (.aload_n 0, 1) := by decide +kernel
theorem dX4_judge_37 : decode cX4_judge 37 = .ok (.iload_n 3, 1) := by decide +kernel
theorem dX4_judge_38 : decode cX4_judge 38 = .ok (.iconst 1, 1) := by decide +kernel
theorem dX4_judge_39 : decode cX4_judge 39 = .ok (.invokevirtual 65, 3) := by decide +kernel
theorem dX4_judge_42 : decode cX4_judge 42 = .ok (.aload_n 0, 1) := by decide +kernel
theorem dX4_judge_43 : decode cX4_judge 43 = .ok (.iload_n 1, 1) := by decide +kernel
theorem dX4_judge_44 : decode cX4_judge 44 = .ok (.iload_n 3, 1) := by decide +kernel
theorem dX4_judge_45 : decode cX4_judge 45 = .ok (.invokevirtual 195, 3) := by decide +kernel
theorem dX4_judge_48 : decode cX4_judge 48 = .ok (.if_icmp .eq 7, 3) := by decide +kernel
theorem dX4_judge_51 : decode cX4_judge 51 = .ok (.iconst 1, 1) := by decide +kernel
theorem dX4_judge_52 : decode cX4_judge 52 = .ok (.iload_n 3, 1) := by decide +kernel
theorem dX4_judge_53 : decode cX4_judge 53 = .ok (.iadd, 1) := by decide +kernel
theorem dX4_judge_54 : decode cX4_judge 54 = .ok (.ireturn, 1) := by decide +kernel
theorem dX4_judge_55 : decode cX4_judge 55 = .ok (.iinc 3 1, 3) := by decide +kernel
theorem dX4_judge_58 : decode cX4_judge 58 = .ok (.goto (-40), 3) := by decide +kernel
theorem dX4_judge_61 : decode cX4_judge 61 = .ok (.iconst 0, 1) := by decide +kernel
theorem dX4_judge_62 : decode cX4_judge 62 = .ok (.ireturn, 1) := by decide +kernel
theorem dX4_image_0 : decode cX4_image 0 = .ok (.iconst 0, 1) := by decide +kernel
theorem dX4_image_1 : decode cX4_image 1 = .ok (.istore_n 1, 1) := by decide +kernel
theorem dX4_image_2 : decode cX4_image 2 = .ok (.iload_n 1, 1) := by decide +kernel
theorem dX4_image_3 : decode cX4_image 3 = .ok (.bipush 90, 2) := by decide +kernel
theorem dX4_image_5 : decode cX4_image 5 = .ok (.if_icmp .ge 21, 3) := by decide +kernel
theorem dX4_image_8 : decode cX4_image 8 = .ok (.aload_n 0, 1) := by decide +kernel
theorem dX4_image_9 : decode cX4_image 9 = .ok (.getfield 13, 3) := by decide +kernel
theorem dX4_image_12 : decode cX4_image 12 = .ok (.iload_n 1, 1) := by decide +kernel
theorem dX4_image_13 : decode cX4_image 13 = .ok (.aload_n 0, 1) := by decide +kernel
theorem dX4_image_14 : decode cX4_image 14 = .ok (.getfield 9, 3) := by decide +kernel
theorem dX4_image_17 : decode cX4_image 17 = .ok (.iload_n 1, 1) := by decide +kernel
theorem dX4_image_18 : decode cX4_image 18 = .ok (.iaload, 1) := by decide +kernel
theorem dX4_image_19 : decode cX4_image 19 = .ok (.iastore, 1) := by decide +kernel
theorem dX4_image_20 : decode cX4_image 20 = .ok (.iinc 1 1, 3) := by decide +kernel
theorem dX4_image_23 : decode cX4_image 23 = .ok (.goto (-21), 3) := by decide +kernel
theorem dX4_image_26 : decode cX4_image 26 = .ok (.aload_n 0, 1) := by decide +kernel
theorem dX4_image_27 : decode cX4_image 27 = .ok (.iconst 1, 1) := by decide +kernel
theorem dX4_image_28 : decode cX4_image 28 = .ok (.putfield 273, 3) := by decide +kernel
theorem dX4_image_31 : decode cX4_image 31 = .ok (.iconst 1, 1) := by decide +kernel
theorem dX4_image_32 : decode cX4_image 32 = .ok (.ireturn, 1) := by decide +kernel
theorem dX4_undo_0 : decode cX4_undo 0 = .ok (.aload_n 0, 1) := by decide +kernel
theorem dX4_undo_1 : decode cX4_undo 1 = .ok (.getfield 273, 3) := by decide +kernel
theorem dX4_undo_4 : decode cX4_undo 4 = .ok (.ifCond .ne 9, 3) := by decide +kernel
theorem dX4_undo_7 : decode cX4_undo 7 = .ok (.aload_n 0, 1) := by decide +kernel
theorem dX4_undo_8 : decode cX4_undo 8 = .ok (.iconst 3, 1) := by decide +kernel
theorem dX4_undo_9 : decode cX4_undo 9 = .ok (.invokevirtual 129, 3) := by decide +kernel
theorem dX4_undo_12 : decode cX4_undo 12 = .ok (.ireturn, 1) := by decide +kernel
theorem dX4_undo_13 : decode cX4_undo 13 = .ok (.iconst 0, 1) := by decide +kernel
theorem dX4_undo_14 : decode cX4_undo 14 = .ok (.istore_n 1, 1) := by decide +kernel
theorem dX4_undo_15 : decode cX4_undo 15 = .ok (.iload_n 1, 1) := by decide +kernel
theorem dX4_undo_16 : decode cX4_undo 16 = .ok (.bipush 90, 2) := by decide +kernel
theorem dX4_undo_18 : decode cX4_undo 18 = .ok (.if_icmp .ge 21, 3) := by decide +kernel
theorem dX4_undo_21 : decode cX4_undo 21 = .ok (.aload_n 0, 1) := by decide +kernel
theorem dX4_undo_22 : decode cX4_undo 22 = .ok (.getfield 9, 3) := by decide +kernel
theorem dX4_undo_25 : decode cX4_undo 25 = .ok (.iload_n 1, 1) := by decide +kernel
theorem dX4_undo_26 : decode cX4_undo 26 = .ok (.aload_n 0, 1) := by decide +kernel
theorem dX4_undo_27 : decode cX4_undo 27 = .ok (.getfield 13, 3) := by decide +kernel
theorem dX4_undo_30 : decode cX4_undo 30 = .ok (.iload_n 1, 1) := by decide +kernel
theorem dX4_undo_31 : decode cX4_undo 31 = .ok (.iaload, 1) := by decide +kernel
theorem dX4_undo_32 : decode cX4_undo 32 = .ok (.iastore, 1) := by decide +kernel
theorem dX4_undo_33 : decode cX4_undo 33 = .ok (.iinc 1 1, 3) := by decide +kernel
theorem dX4_undo_36 : decode cX4_undo 36 = .ok (.goto (-21), 3) := by decide +kernel
theorem dX4_undo_39 : decode cX4_undo 39 = .ok (.aload_n 0, 1) := by decide +kernel
theorem dX4_undo_40 : decode cX4_undo 40 = .ok (.getfield 9, 3) := by decide +kernel
theorem dX4_undo_43 : decode cX4_undo 43 = .ok (.iconst 0, 1) := by decide +kernel
theorem dX4_undo_44 : decode cX4_undo 44 = .ok (.iaload, 1) := by decide +kernel
theorem dX4_undo_45 : decode cX4_undo 45 = .ok (.ireturn, 1) := by decide +kernel
theorem dX4_tear_0 : decode cX4_tear 0 = .ok (.aload_n 0, 1) := by decide +kernel
theorem dX4_tear_1 : decode cX4_tear 1 = .ok (.getfield 273, 3) := by decide +kernel
theorem dX4_tear_4 : decode cX4_tear 4 = .ok (.ifCond .eq 7, 3) := by decide +kernel
theorem dX4_tear_7 : decode cX4_tear 7 = .ok (.iconst 1, 1) := by decide +kernel
theorem dX4_tear_8 : decode cX4_tear 8 = .ok (.goto 4, 3) := by decide +kernel
theorem dX4_tear_11 : decode cX4_tear 11 = .ok (.iconst 0, 1) := by decide +kernel
theorem dX4_tear_12 : decode cX4_tear 12 = .ok (.istore_n 1, 1) := by decide +kernel
theorem dX4_tear_13 : decode cX4_tear 13 = .ok (.aload_n 0, 1) := by decide +kernel
theorem dX4_tear_14 : decode cX4_tear 14 = .ok (.iconst 0, 1) := by decide +kernel
theorem dX4_tear_15 : decode cX4_tear 15 = .ok (.putfield 273, 3) := by decide +kernel
theorem dX4_tear_18 : decode cX4_tear 18 = .ok (.iload_n 1, 1) := by decide +kernel
theorem dX4_tear_19 : decode cX4_tear 19 = .ok (.ireturn, 1) := by decide +kernel
theorem dX4_count_0 : decode cX4_count 0 = .ok (.iconst 0, 1) := by decide +kernel
theorem dX4_count_1 : decode cX4_count 1 = .ok (.istore_n 2, 1) := by decide +kernel
theorem dX4_count_2 : decode cX4_count 2 = .ok (.iload_n 1, 1) := by decide +kernel
theorem dX4_count_3 : decode cX4_count 3 = .ok (.tableswitch 127 0 7 #[45, 52, 59, 67, 73, 79, 84, 91], 45) := by decide +kernel
theorem dX4_count_48 : decode cX4_count 48 = .ok (.aload_n 0, 1) := by decide +kernel
theorem dX4_count_49 : decode cX4_count 49 = .ok (.getfield 9, 3) := by decide +kernel
theorem dX4_count_52 : decode cX4_count 52 = .ok (.iconst 0, 1) := by decide +kernel
theorem dX4_count_53 : decode cX4_count 53 = .ok (.iaload, 1) := by decide +kernel
theorem dX4_count_54 : decode cX4_count 54 = .ok (.ireturn, 1) := by decide +kernel
theorem dX4_count_55 : decode cX4_count 55 = .ok (.aload_n 0, 1) := by decide +kernel
theorem dX4_count_56 : decode cX4_count 56 = .ok (.getfield 9, 3) := by decide +kernel
theorem dX4_count_59 : decode cX4_count 59 = .ok (.iconst 1, 1) := by decide +kernel
theorem dX4_count_60 : decode cX4_count 60 = .ok (.iaload, 1) := by decide +kernel
theorem dX4_count_61 : decode cX4_count 61 = .ok (.ireturn, 1) := by decide +kernel
theorem dX4_count_62 : decode cX4_count 62 = .ok (.aload_n 0, 1) := by decide +kernel
theorem dX4_count_63 : decode cX4_count 63 = .ok (.invokevirtual 147, 3) := by decide +kernel
theorem dX4_count_66 : decode cX4_count 66 = .ok (.invokestatic 76, 3) := by decide +kernel
theorem dX4_count_69 : decode cX4_count 69 = .ok (.ireturn, 1) := by decide +kernel
theorem dX4_count_70 : decode cX4_count 70 = .ok (.aload_n 0, 1) := by decide +kernel
theorem dX4_count_71 : decode cX4_count 71 = .ok (.iconst 4, 1) := by decide +kernel
theorem dX4_count_72 : decode cX4_count 72 = .ok (.invokevirtual 154, 3) := by decide +kernel
theorem dX4_count_75 : decode cX4_count 75 = .ok (.ireturn, 1) := by decide +kernel
theorem dX4_count_76 : decode cX4_count 76 = .ok (.aload_n 0, 1) := by decide +kernel
theorem dX4_count_77 : decode cX4_count 77 = .ok (.iconst 3, 1) := by decide +kernel
theorem dX4_count_78 : decode cX4_count 78 = .ok (.invokevirtual 154, 3) := by decide +kernel
theorem dX4_count_81 : decode cX4_count 81 = .ok (.ireturn, 1) := by decide +kernel
theorem dX4_count_82 : decode cX4_count 82 = .ok (.aload_n 0, 1) := by decide +kernel
theorem dX4_count_83 : decode cX4_count 83 = .ok (.getfield 211, 3) := by decide +kernel
theorem dX4_count_86 : decode cX4_count 86 = .ok (.ireturn, 1) := by decide +kernel
theorem dX4_count_87 : decode cX4_count 87 = .ok (.aload_n 0, 1) := by decide +kernel
theorem dX4_count_88 : decode cX4_count 88 = .ok (.getfield 9, 3) := by decide +kernel
theorem dX4_count_91 : decode cX4_count 91 = .ok (.iconst 2, 1) := by decide +kernel
theorem dX4_count_92 : decode cX4_count 92 = .ok (.iaload, 1) := by decide +kernel
theorem dX4_count_93 : decode cX4_count 93 = .ok (.ireturn, 1) := by decide +kernel
theorem dX4_count_94 : decode cX4_count 94 = .ok (.iconst 0, 1) := by decide +kernel
theorem dX4_count_95 : decode cX4_count 95 = .ok (.istore_n 3, 1) := by decide +kernel
theorem dX4_count_96 : decode cX4_count 96 = .ok (.iload_n 3, 1) := by decide +kernel
theorem dX4_count_97 : decode cX4_count 97 = .ok (.bipush 10, 2) := by decide +kernel
theorem dX4_count_99 : decode cX4_count 99 = .ok (.if_icmp .ge 29, 3) := by decide +kernel
theorem dX4_count_102 : decode cX4_count 102 = .ok (.iload_n 2, 1) := by decide +kernel
theorem dX4_count_103 : decode cX4_count 103 = .ok (.aload_n 0, 1) := by decide +kernel
theorem dX4_count_104 : decode cX4_count 104 = .ok (.getfield 9, 3) := by decide +kernel
theorem dX4_count_107 : decode cX4_count 107 = .ok (.bipush 80, 2) := by decide +kernel
theorem dX4_count_109 : decode cX4_count 109 = .ok (.iload_n 3, 1) := by decide +kernel
theorem dX4_count_110 : decode cX4_count 110 = .ok (.iadd, 1) := by decide +kernel
theorem dX4_count_111 : decode cX4_count 111 = .ok (.iaload, 1) := by decide +kernel
theorem dX4_count_112 : decode cX4_count 112 = .ok (.ifCond .lt 7, 3) := by decide +kernel
theorem dX4_count_115 : decode cX4_count 115 = .ok (.iconst 1, 1) := by decide +kernel
theorem dX4_count_116 : decode cX4_count 116 = .ok (.goto 4, 3) := by decide +kernel
theorem dX4_count_119 : decode cX4_count 119 = .ok (.iconst 0, 1) := by decide +kernel
theorem dX4_count_120 : decode cX4_count 120 = .ok (.iadd, 1) := by decide +kernel
theorem dX4_count_121 : decode cX4_count 121 = .ok (.istore_n 2, 1) := by decide +kernel
theorem dX4_count_122 : decode cX4_count 122 = .ok (.iinc 3 1, 3) := by decide +kernel
theorem dX4_count_125 : decode cX4_count 125 = .ok (.goto (-29), 3) := by decide +kernel
theorem dX4_count_128 : decode cX4_count 128 = .ok (.iload_n 2, 1) := by decide +kernel
theorem dX4_count_129 : decode cX4_count 129 = .ok (.ireturn, 1) := by decide +kernel
theorem dX4_count_130 : decode cX4_count 130 = .ok (.aload_n 0, 1) := by decide +kernel
theorem dX4_count_131 : decode cX4_count 131 = .ok (.iconst 0, 1) := by decide +kernel
theorem dX4_count_132 : decode cX4_count 132 = .ok (.invokevirtual 129, 3) := by decide +kernel
theorem dX4_count_135 : decode cX4_count 135 = .ok (.ireturn, 1) := by decide +kernel
theorem dX4_status_0 : decode cX4_status 0 = .ok (.iload_n 1, 1) := by decide +kernel
theorem dX4_status_1 : decode cX4_status 1 = .ok (.iconst (-1), 1) := by decide +kernel
theorem dX4_status_2 : decode cX4_status 2 = .ok (.bipush 6, 2) := by decide +kernel
theorem dX4_status_4 : decode cX4_status 4 = .ok (.invokestatic 61, 3) := by decide +kernel
theorem dX4_status_7 : decode cX4_status 7 = .ok (.ifCond .ne 9, 3) := by decide +kernel
theorem dX4_status_10 : decode cX4_status 10 = .ok (.aload_n 0, 1) := by decide +kernel
theorem dX4_status_11 : decode cX4_status 11 = .ok (.iconst 0, 1) := by decide +kernel
theorem dX4_status_12 : decode cX4_status 12 = .ok (.invokevirtual 129, 3) := by decide +kernel
theorem dX4_status_15 : decode cX4_status 15 = .ok (.ireturn, 1) := by decide +kernel
theorem dX4_status_16 : decode cX4_status 16 = .ok (.iconst 0, 1) := by decide +kernel
theorem dX4_status_17 : decode cX4_status 17 = .ok (.istore_n 2, 1) := by decide +kernel
theorem dX4_status_18 : decode cX4_status 18 = .ok (.iconst 0, 1) := by decide +kernel
theorem dX4_status_19 : decode cX4_status 19 = .ok (.istore_n 3, 1) := by decide +kernel
theorem dX4_status_20 : decode cX4_status 20 = .ok (.iload_n 3, 1) := by decide +kernel
theorem dX4_status_21 : decode cX4_status 21 = .ok (.bipush 7, 2) := by decide +kernel
theorem dX4_status_23 : decode cX4_status 23 = .ok (.if_icmp .ge 32, 3) := by decide +kernel
theorem dX4_status_26 : decode cX4_status 26 = .ok (.iload_n 2, 1) := by decide +kernel
theorem dX4_status_27 : decode cX4_status 27 = .ok (.iload_n 1, 1) := by decide +kernel
theorem dX4_status_28 : decode cX4_status 28 = .ok (.iconst (-1), 1) := by decide +kernel
theorem dX4_status_29 : decode cX4_status 29 = .ok (.if_icmp .eq 8, 3) := by decide +kernel
theorem dX4_status_32 : decode cX4_status 32 = .ok (.iload_n 1, 1) := by decide +kernel
theorem dX4_status_33 : decode cX4_status 33 = .ok (.iload_n 3, 1) := by decide +kernel
theorem dX4_status_34 : decode cX4_status 34 = .ok (.if_icmp .ne 12, 3) := by decide +kernel
theorem dX4_status_37 : decode cX4_status 37 = .ok (.aload_n 0, 1) := by decide +kernel
theorem dX4_status_38 : decode cX4_status 38 = .ok (.getfield 19, 3) := by decide +kernel
theorem dX4_status_41 : decode cX4_status 41 = .ok (.iload_n 3, 1) := by decide +kernel
theorem dX4_status_42 : decode cX4_status 42 = .ok (.iaload, 1) := by decide +kernel
theorem dX4_status_43 : decode cX4_status 43 = .ok (.goto 4, 3) := by decide +kernel
theorem dX4_status_46 : decode cX4_status 46 = .ok (.iconst 0, 1) := by decide +kernel
theorem dX4_status_47 : decode cX4_status 47 = .ok (.iadd, 1) := by decide +kernel
theorem dX4_status_48 : decode cX4_status 48 = .ok (.istore_n 2, 1) := by decide +kernel
theorem dX4_status_49 : decode cX4_status 49 = .ok (.iinc 3 1, 3) := by decide +kernel
theorem dX4_status_52 : decode cX4_status 52 = .ok (.goto (-32), 3) := by decide +kernel
theorem dX4_status_55 : decode cX4_status 55 = .ok (.iload_n 2, 1) := by decide +kernel
theorem dX4_status_56 : decode cX4_status 56 = .ok (.ireturn, 1) := by decide +kernel
theorem dJ6_bitCount_0f7a4_0 : decode cJ6_bitCount_0f7a4 0 = .ok (.iload_n 0, 1) := by decide +kernel
theorem dJ6_bitCount_0f7a4_1 : decode cJ6_bitCount_0f7a4 1 = .ok (.iload_n 0, 1) := by decide +kernel
theorem dJ6_bitCount_0f7a4_2 : decode cJ6_bitCount_0f7a4 2 = .ok (.iconst 1, 1) := by decide +kernel
theorem dJ6_bitCount_0f7a4_3 : decode cJ6_bitCount_0f7a4 3 = .ok (.iushr, 1) := by decide +kernel
theorem dJ6_bitCount_0f7a4_4 : decode cJ6_bitCount_0f7a4 4 = .ok (.ldc_w 265, 3) := by decide +kernel
theorem dJ6_bitCount_0f7a4_7 : decode cJ6_bitCount_0f7a4 7 = .ok (.iand, 1) := by decide +kernel
theorem dJ6_bitCount_0f7a4_8 : decode cJ6_bitCount_0f7a4 8 = .ok (.isub, 1) := by decide +kernel
theorem dJ6_bitCount_0f7a4_9 : decode cJ6_bitCount_0f7a4 9 = .ok (.istore_n 0, 1) := by decide +kernel
theorem dJ6_bitCount_0f7a4_10 : decode cJ6_bitCount_0f7a4 10 = .ok (.iload_n 0, 1) := by decide +kernel
theorem dJ6_bitCount_0f7a4_11 : decode cJ6_bitCount_0f7a4 11 = .ok (.ldc_w 266, 3) := by decide +kernel
theorem dJ6_bitCount_0f7a4_14 : decode cJ6_bitCount_0f7a4 14 = .ok (.iand, 1) := by decide +kernel
theorem dJ6_bitCount_0f7a4_15 : decode cJ6_bitCount_0f7a4 15 = .ok (.iload_n 0, 1) := by decide +kernel
theorem dJ6_bitCount_0f7a4_16 : decode cJ6_bitCount_0f7a4 16 = .ok (.iconst 2, 1) := by decide +kernel
theorem dJ6_bitCount_0f7a4_17 : decode cJ6_bitCount_0f7a4 17 = .ok (.iushr, 1) := by decide +kernel
theorem dJ6_bitCount_0f7a4_18 : decode cJ6_bitCount_0f7a4 18 = .ok (.ldc_w 266, 3) := by decide +kernel
theorem dJ6_bitCount_0f7a4_21 : decode cJ6_bitCount_0f7a4 21 = .ok (.iand, 1) := by decide +kernel
theorem dJ6_bitCount_0f7a4_22 : decode cJ6_bitCount_0f7a4 22 = .ok (.iadd, 1) := by decide +kernel
theorem dJ6_bitCount_0f7a4_23 : decode cJ6_bitCount_0f7a4 23 = .ok (.istore_n 0, 1) := by decide +kernel
theorem dJ6_bitCount_0f7a4_24 : decode cJ6_bitCount_0f7a4 24 = .ok (.iload_n 0, 1) := by decide +kernel
theorem dJ6_bitCount_0f7a4_25 : decode cJ6_bitCount_0f7a4 25 = .ok (.iload_n 0, 1) := by decide +kernel
theorem dJ6_bitCount_0f7a4_26 : decode cJ6_bitCount_0f7a4 26 = .ok (.iconst 4, 1) := by decide +kernel
theorem dJ6_bitCount_0f7a4_27 : decode cJ6_bitCount_0f7a4 27 = .ok (.iushr, 1) := by decide +kernel
theorem dJ6_bitCount_0f7a4_28 : decode cJ6_bitCount_0f7a4 28 = .ok (.iadd, 1) := by decide +kernel
theorem dJ6_bitCount_0f7a4_29 : decode cJ6_bitCount_0f7a4 29 = .ok (.ldc_w 267, 3) := by decide +kernel
theorem dJ6_bitCount_0f7a4_32 : decode cJ6_bitCount_0f7a4 32 = .ok (.iand, 1) := by decide +kernel
theorem dJ6_bitCount_0f7a4_33 : decode cJ6_bitCount_0f7a4 33 = .ok (.istore_n 0, 1) := by decide +kernel
theorem dJ6_bitCount_0f7a4_34 : decode cJ6_bitCount_0f7a4 34 = .ok (.iload_n 0, 1) := by decide +kernel
theorem dJ6_bitCount_0f7a4_35 : decode cJ6_bitCount_0f7a4 35 = .ok (.iload_n 0, 1) := by decide +kernel
theorem dJ6_bitCount_0f7a4_36 : decode cJ6_bitCount_0f7a4 36 = .ok (.bipush 8, 2) := by decide +kernel
theorem dJ6_bitCount_0f7a4_38 : decode cJ6_bitCount_0f7a4 38 = .ok (.iushr, 1) := by decide +kernel
theorem dJ6_bitCount_0f7a4_39 : decode cJ6_bitCount_0f7a4 39 = .ok (.iadd, 1) := by decide +kernel
theorem dJ6_bitCount_0f7a4_40 : decode cJ6_bitCount_0f7a4 40 = .ok (.istore_n 0, 1) := by decide +kernel
theorem dJ6_bitCount_0f7a4_41 : decode cJ6_bitCount_0f7a4 41 = .ok (.iload_n 0, 1) := by decide +kernel
theorem dJ6_bitCount_0f7a4_42 : decode cJ6_bitCount_0f7a4 42 = .ok (.iload_n 0, 1) := by decide +kernel
theorem dJ6_bitCount_0f7a4_43 : decode cJ6_bitCount_0f7a4 43 = .ok (.bipush 16, 2) := by decide +kernel
theorem dJ6_bitCount_0f7a4_45 : decode cJ6_bitCount_0f7a4 45 = .ok (.iushr, 1) := by decide +kernel
theorem dJ6_bitCount_0f7a4_46 : decode cJ6_bitCount_0f7a4 46 = .ok (.iadd, 1) := by decide +kernel
theorem dJ6_bitCount_0f7a4_47 : decode cJ6_bitCount_0f7a4 47 = .ok (.istore_n 0, 1) := by decide +kernel
theorem dJ6_bitCount_0f7a4_48 : decode cJ6_bitCount_0f7a4 48 = .ok (.iload_n 0, 1) := by decide +kernel
theorem dJ6_bitCount_0f7a4_49 : decode cJ6_bitCount_0f7a4 49 = .ok (.bipush 63, 2) := by decide +kernel
theorem dJ6_bitCount_0f7a4_51 : decode cJ6_bitCount_0f7a4 51 = .ok (.iand, 1) := by decide +kernel
theorem dJ6_bitCount_0f7a4_52 : decode cJ6_bitCount_0f7a4 52 = .ok (.ireturn, 1) := by decide +kernel
theorem dJ9_max_7cf53_0 : decode cJ9_max_7cf53 0 = .ok (.iload_n 0, 1) := by decide +kernel
theorem dJ9_max_7cf53_1 : decode cJ9_max_7cf53 1 = .ok (.iload_n 1, 1) := by decide +kernel
theorem dJ9_max_7cf53_2 : decode cJ9_max_7cf53 2 = .ok (.if_icmp .lt 7, 3) := by decide +kernel
theorem dJ9_max_7cf53_5 : decode cJ9_max_7cf53 5 = .ok (.iload_n 0, 1) := by decide +kernel
theorem dJ9_max_7cf53_6 : decode cJ9_max_7cf53 6 = .ok (.goto 4, 3) := by decide +kernel
theorem dJ9_max_7cf53_9 : decode cJ9_max_7cf53 9 = .ok (.iload_n 1, 1) := by decide +kernel
theorem dJ9_max_7cf53_10 : decode cJ9_max_7cf53 10 = .ok (.ireturn, 1) := by decide +kernel
theorem dJ9_min_7cf53_0 : decode cJ9_min_7cf53 0 = .ok (.iload_n 0, 1) := by decide +kernel
theorem dJ9_min_7cf53_1 : decode cJ9_min_7cf53 1 = .ok (.iload_n 1, 1) := by decide +kernel
theorem dJ9_min_7cf53_2 : decode cJ9_min_7cf53 2 = .ok (.if_icmp .gt 7, 3) := by decide +kernel
theorem dJ9_min_7cf53_5 : decode cJ9_min_7cf53 5 = .ok (.iload_n 0, 1) := by decide +kernel
theorem dJ9_min_7cf53_6 : decode cJ9_min_7cf53 6 = .ok (.goto 4, 3) := by decide +kernel
theorem dJ9_min_7cf53_9 : decode cJ9_min_7cf53 9 = .ok (.iload_n 1, 1) := by decide +kernel
theorem dJ9_min_7cf53_10 : decode cJ9_min_7cf53 10 = .ok (.ireturn, 1) := by decide +kernel
theorem dJ0_length_8abf5_0 : decode cJ0_length_8abf5 0 = .ok (.aload_n 0, 1) := by decide +kernel
theorem dJ0_length_8abf5_1 : decode cJ0_length_8abf5 1 = .ok (.getfield 9, 3) := by decide +kernel
theorem dJ0_length_8abf5_4 : decode cJ0_length_8abf5 4 = .ok (.arraylength, 1) := by decide +kernel
theorem dJ0_length_8abf5_5 : decode cJ0_length_8abf5 5 = .ok (.aload_n 0, 1) := by decide +kernel
theorem dJ0_length_8abf5_6 : decode cJ0_length_8abf5 6 = .ok (.invokevirtual 335, 3) := by decide +kernel
theorem dJ0_length_8abf5_9 : decode cJ0_length_8abf5 9 = .ok (.ishr, 1) := by decide +kernel
theorem dJ0_length_8abf5_10 : decode cJ0_length_8abf5 10 = .ok (.ireturn, 1) := by decide +kernel
theorem dJ0_charAt_5068e_0 : decode cJ0_charAt_5068e 0 = .ok (.aload_n 0, 1) := by decide +kernel
theorem dJ0_charAt_5068e_1 : decode cJ0_charAt_5068e 1 = .ok (.invokevirtual 492, 3) := by decide +kernel
theorem dJ0_charAt_5068e_4 : decode cJ0_charAt_5068e 4 = .ok (.ifCond .eq 12, 3) := by decide +kernel
theorem dJ0_charAt_5068e_7 : decode cJ0_charAt_5068e 7 = .ok (.aload_n 0, 1) := by decide +kernel
theorem dJ0_charAt_5068e_8 : decode cJ0_charAt_5068e 8 = .ok (.getfield 9, 3) := by decide +kernel
theorem dJ0_charAt_5068e_11 : decode cJ0_charAt_5068e 11 = .ok (.iload_n 1, 1) := by decide +kernel
theorem dJ0_charAt_5068e_12 : decode cJ0_charAt_5068e 12 = .ok (.invokestatic 495, 3) := by decide +kernel
theorem dJ0_charAt_5068e_15 : decode cJ0_charAt_5068e 15 = .ok (.ireturn, 1) := by decide +kernel
theorem dJ0_charAt_5068e_16 : decode cJ0_charAt_5068e 16 = .ok (.aload_n 0, 1) := by decide +kernel
theorem dJ0_charAt_5068e_17 : decode cJ0_charAt_5068e 17 = .ok (.getfield 9, 3) := by decide +kernel
theorem dJ0_charAt_5068e_20 : decode cJ0_charAt_5068e 20 = .ok (.iload_n 1, 1) := by decide +kernel
theorem dJ0_charAt_5068e_21 : decode cJ0_charAt_5068e 21 = .ok (.invokestatic 498, 3) := by decide +kernel
theorem dJ0_charAt_5068e_24 : decode cJ0_charAt_5068e 24 = .ok (.ireturn, 1) := by decide +kernel
theorem dJ0_coder_7d493_0 : decode cJ0_coder_7d493 0 = .ok (.getstatic 38, 3) := by decide +kernel
theorem dJ0_coder_7d493_3 : decode cJ0_coder_7d493 3 = .ok (.ifCond .eq 10, 3) := by decide +kernel
theorem dJ0_coder_7d493_6 : decode cJ0_coder_7d493 6 = .ok (.aload_n 0, 1) := by decide +kernel
theorem dJ0_coder_7d493_7 : decode cJ0_coder_7d493 7 = .ok (.getfield 15, 3) := by decide +kernel
theorem dJ0_coder_7d493_10 : decode cJ0_coder_7d493 10 = .ok (.goto 4, 3) := by decide +kernel
theorem dJ0_coder_7d493_13 : decode cJ0_coder_7d493 13 = .ok (.iconst 1, 1) := by decide +kernel
theorem dJ0_coder_7d493_14 : decode cJ0_coder_7d493 14 = .ok (.ireturn, 1) := by decide +kernel
theorem dJ0_isLatin1_aae02_0 : decode cJ0_isLatin1_aae02 0 = .ok (.getstatic 38, 3) := by decide +kernel
theorem dJ0_isLatin1_aae02_3 : decode cJ0_isLatin1_aae02 3 = .ok (.ifCond .eq 14, 3) := by decide +kernel
theorem dJ0_isLatin1_aae02_6 : decode cJ0_isLatin1_aae02 6 = .ok (.aload_n 0, 1) := by decide +kernel
theorem dJ0_isLatin1_aae02_7 : decode cJ0_isLatin1_aae02 7 = .ok (.getfield 15, 3) := by decide +kernel
theorem dJ0_isLatin1_aae02_10 : decode cJ0_isLatin1_aae02 10 = .ok (.ifCond .ne 7, 3) := by decide +kernel
theorem dJ0_isLatin1_aae02_13 : decode cJ0_isLatin1_aae02 13 = .ok (.iconst 1, 1) := by decide +kernel
theorem dJ0_isLatin1_aae02_14 : decode cJ0_isLatin1_aae02 14 = .ok (.goto 4, 3) := by decide +kernel
theorem dJ0_isLatin1_aae02_17 : decode cJ0_isLatin1_aae02 17 = .ok (.iconst 0, 1) := by decide +kernel
theorem dJ0_isLatin1_aae02_18 : decode cJ0_isLatin1_aae02 18 = .ok (.ireturn, 1) := by decide +kernel
theorem dJ0_checkIndex_df160_0 : decode cJ0_checkIndex_df160 0 = .ok (.iload_n 0, 1) := by decide +kernel
theorem dJ0_checkIndex_df160_1 : decode cJ0_checkIndex_df160 1 = .ok (.iload_n 1, 1) := by decide +kernel
theorem dJ0_checkIndex_df160_2 : decode cJ0_checkIndex_df160 2 = .ok (.getstatic 1053, 3) := by decide +kernel
theorem dJ0_checkIndex_df160_5 : decode cJ0_checkIndex_df160 5 = .ok (.invokestatic 1059, 3) := by decide +kernel
theorem dJ0_checkIndex_df160_8 : decode cJ0_checkIndex_df160 8 = .ok (.pop, 1) := by decide +kernel
theorem dJ0_checkIndex_df160_9 : decode cJ0_checkIndex_df160 9 = .ok (.return_, 1) := by decide +kernel
theorem dJ1_charAt_3b067_0 : decode cJ1_charAt_3b067 0 = .ok (.iload_n 1, 1) := by decide +kernel
theorem dJ1_charAt_3b067_1 : decode cJ1_charAt_3b067 1 = .ok (.aload_n 0, 1) := by decide +kernel
theorem dJ1_charAt_3b067_2 : decode cJ1_charAt_3b067 2 = .ok (.arraylength, 1) := by decide +kernel
theorem dJ1_charAt_3b067_3 : decode cJ1_charAt_3b067 3 = .ok (.invokestatic 9, 3) := by decide +kernel
theorem dJ1_charAt_3b067_6 : decode cJ1_charAt_3b067 6 = .ok (.aload_n 0, 1) := by decide +kernel
theorem dJ1_charAt_3b067_7 : decode cJ1_charAt_3b067 7 = .ok (.iload_n 1, 1) := by decide +kernel
theorem dJ1_charAt_3b067_8 : decode cJ1_charAt_3b067 8 = .ok (.baload, 1) := by decide +kernel
theorem dJ1_charAt_3b067_9 : decode cJ1_charAt_3b067 9 = .ok (.sipush 255, 3) := by decide +kernel
theorem dJ1_charAt_3b067_12 : decode cJ1_charAt_3b067 12 = .ok (.iand, 1) := by decide +kernel
theorem dJ1_charAt_3b067_13 : decode cJ1_charAt_3b067 13 = .ok (.i2c, 1) := by decide +kernel
theorem dJ1_charAt_3b067_14 : decode cJ1_charAt_3b067 14 = .ok (.ireturn, 1) := by decide +kernel
theorem dJ2_getChar_3b067_0 : decode cJ2_getChar_3b067 0 = .ok (.getstatic 44, 3) := by decide +kernel
theorem dJ2_getChar_3b067_3 : decode cJ2_getChar_3b067 3 = .ok (.ifCond .ne 25, 3) := by decide +kernel
theorem dJ2_getChar_3b067_6 : decode cJ2_getChar_3b067 6 = .ok (.iload_n 1, 1) := by decide +kernel
theorem dJ2_getChar_3b067_7 : decode cJ2_getChar_3b067 7 = .ok (.ifCond .lt 11, 3) := by decide +kernel
theorem dJ2_getChar_3b067_10 : decode cJ2_getChar_3b067 10 = .ok (.iload_n 1, 1) := by decide +kernel
theorem dJ2_getChar_3b067_11 : decode cJ2_getChar_3b067 11 = .ok (.aload_n 0, 1) := by decide +kernel
theorem dJ2_getChar_3b067_12 : decode cJ2_getChar_3b067 12 = .ok (.invokestatic 48, 3) := by decide +kernel
theorem dJ2_getChar_3b067_15 : decode cJ2_getChar_3b067 15 = .ok (.if_icmp .lt 13, 3) := by decide +kernel
theorem dJ2_getChar_3b067_18 : decode cJ2_getChar_3b067 18 = .ok (.new 52, 3) := by decide +kernel
theorem dJ2_getChar_3b067_21 : decode cJ2_getChar_3b067 21 = .ok (.dup, 1) := by decide +kernel
theorem dJ2_getChar_3b067_22 : decode cJ2_getChar_3b067 22 = .ok (.ldc 54, 2) := by decide +kernel
theorem dJ2_getChar_3b067_24 : decode cJ2_getChar_3b067 24 = .ok (.invokespecial 56, 3) := by decide +kernel
theorem dJ2_getChar_3b067_27 : decode cJ2_getChar_3b067 27 = .ok (.athrow, 1) := by decide +kernel
theorem dJ2_getChar_3b067_28 : decode cJ2_getChar_3b067 28 = .ok (.iload_n 1, 1) := by decide +kernel
theorem dJ2_getChar_3b067_29 : decode cJ2_getChar_3b067 29 = .ok (.iconst 1, 1) := by decide +kernel
theorem dJ2_getChar_3b067_30 : decode cJ2_getChar_3b067 30 = .ok (.ishl, 1) := by decide +kernel
theorem dJ2_getChar_3b067_31 : decode cJ2_getChar_3b067 31 = .ok (.istore_n 1, 1) := by decide +kernel
theorem dJ2_getChar_3b067_32 : decode cJ2_getChar_3b067 32 = .ok (.aload_n 0, 1) := by decide +kernel
theorem dJ2_getChar_3b067_33 : decode cJ2_getChar_3b067 33 = .ok (.iload_n 1, 1) := by decide +kernel
theorem dJ2_getChar_3b067_34 : decode cJ2_getChar_3b067 34 = .ok (.iinc 1 1, 3) := by decide +kernel
theorem dJ2_getChar_3b067_37 : decode cJ2_getChar_3b067 37 = .ok (.baload, 1) := by decide +kernel
theorem dJ2_getChar_3b067_38 : decode cJ2_getChar_3b067 38 = .ok (.sipush 255, 3) := by decide +kernel
theorem dJ2_getChar_3b067_41 : decode cJ2_getChar_3b067 41 = .ok (.iand, 1) := by decide +kernel
theorem dJ2_getChar_3b067_42 : decode cJ2_getChar_3b067 42 = .ok (.getstatic 59, 3) := by decide +kernel
theorem dJ2_getChar_3b067_45 : decode cJ2_getChar_3b067 45 = .ok (.ishl, 1) := by decide +kernel
theorem dJ2_getChar_3b067_46 : decode cJ2_getChar_3b067 46 = .ok (.aload_n 0, 1) := by decide +kernel
theorem dJ2_getChar_3b067_47 : decode cJ2_getChar_3b067 47 = .ok (.iload_n 1, 1) := by decide +kernel
theorem dJ2_getChar_3b067_48 : decode cJ2_getChar_3b067 48 = .ok (.baload, 1) := by decide +kernel
theorem dJ2_getChar_3b067_49 : decode cJ2_getChar_3b067 49 = .ok (.sipush 255, 3) := by decide +kernel
theorem dJ2_getChar_3b067_52 : decode cJ2_getChar_3b067 52 = .ok (.iand, 1) := by decide +kernel
theorem dJ2_getChar_3b067_53 : decode cJ2_getChar_3b067 53 = .ok (.getstatic 63, 3) := by decide +kernel
theorem dJ2_getChar_3b067_56 : decode cJ2_getChar_3b067 56 = .ok (.ishl, 1) := by decide +kernel
theorem dJ2_getChar_3b067_57 : decode cJ2_getChar_3b067 57 = .ok (.ior, 1) := by decide +kernel
theorem dJ2_getChar_3b067_58 : decode cJ2_getChar_3b067 58 = .ok (.i2c, 1) := by decide +kernel
theorem dJ2_getChar_3b067_59 : decode cJ2_getChar_3b067 59 = .ok (.ireturn, 1) := by decide +kernel
theorem dJ2_length_9d52b_0 : decode cJ2_length_9d52b 0 = .ok (.aload_n 0, 1) := by decide +kernel
theorem dJ2_length_9d52b_1 : decode cJ2_length_9d52b 1 = .ok (.arraylength, 1) := by decide +kernel
theorem dJ2_length_9d52b_2 : decode cJ2_length_9d52b 2 = .ok (.iconst 1, 1) := by decide +kernel
theorem dJ2_length_9d52b_3 : decode cJ2_length_9d52b 3 = .ok (.ishr, 1) := by decide +kernel
theorem dJ2_length_9d52b_4 : decode cJ2_length_9d52b 4 = .ok (.ireturn, 1) := by decide +kernel
theorem dJ2_charAt_3b067_0 : decode cJ2_charAt_3b067 0 = .ok (.iload_n 1, 1) := by decide +kernel
theorem dJ2_charAt_3b067_1 : decode cJ2_charAt_3b067 1 = .ok (.aload_n 0, 1) := by decide +kernel
theorem dJ2_charAt_3b067_2 : decode cJ2_charAt_3b067 2 = .ok (.invokestatic 67, 3) := by decide +kernel
theorem dJ2_charAt_3b067_5 : decode cJ2_charAt_3b067 5 = .ok (.aload_n 0, 1) := by decide +kernel
theorem dJ2_charAt_3b067_6 : decode cJ2_charAt_3b067 6 = .ok (.iload_n 1, 1) := by decide +kernel
theorem dJ2_charAt_3b067_7 : decode cJ2_charAt_3b067 7 = .ok (.invokestatic 71, 3) := by decide +kernel
theorem dJ2_charAt_3b067_10 : decode cJ2_charAt_3b067 10 = .ok (.ireturn, 1) := by decide +kernel
theorem dJ2_checkIndex_2214a_0 : decode cJ2_checkIndex_2214a 0 = .ok (.iload_n 0, 1) := by decide +kernel
theorem dJ2_checkIndex_2214a_1 : decode cJ2_checkIndex_2214a 1 = .ok (.aload_n 1, 1) := by decide +kernel
theorem dJ2_checkIndex_2214a_2 : decode cJ2_checkIndex_2214a 2 = .ok (.invokestatic 48, 3) := by decide +kernel
theorem dJ2_checkIndex_2214a_5 : decode cJ2_checkIndex_2214a 5 = .ok (.invokestatic 414, 3) := by decide +kernel
theorem dJ2_checkIndex_2214a_8 : decode cJ2_checkIndex_2214a 8 = .ok (.return_, 1) := by decide +kernel
theorem dJ3_checkIndex_8e157_0 : decode cJ3_checkIndex_8e157 0 = .ok (.iload_n 0, 1) := by decide +kernel
theorem dJ3_checkIndex_8e157_1 : decode cJ3_checkIndex_8e157 1 = .ok (.ifCond .lt 8, 3) := by decide +kernel
theorem dJ3_checkIndex_8e157_4 : decode cJ3_checkIndex_8e157 4 = .ok (.iload_n 0, 1) := by decide +kernel
theorem dJ3_checkIndex_8e157_5 : decode cJ3_checkIndex_8e157 5 = .ok (.iload_n 1, 1) := by decide +kernel
theorem dJ3_checkIndex_8e157_6 : decode cJ3_checkIndex_8e157 6 = .ok (.if_icmp .lt 10, 3) := by decide +kernel
theorem dJ3_checkIndex_8e157_9 : decode cJ3_checkIndex_8e157 9 = .ok (.aload_n 2, 1) := by decide +kernel
theorem dJ3_checkIndex_8e157_10 : decode cJ3_checkIndex_8e157 10 = .ok (.iload_n 0, 1) := by decide +kernel
theorem dJ3_checkIndex_8e157_11 : decode cJ3_checkIndex_8e157 11 = .ok (.iload_n 1, 1) := by decide +kernel
theorem dJ3_checkIndex_8e157_12 : decode cJ3_checkIndex_8e157 12 = .ok (.invokestatic 95, 3) := by decide +kernel
theorem dJ3_checkIndex_8e157_15 : decode cJ3_checkIndex_8e157 15 = .ok (.athrow, 1) := by decide +kernel
theorem dJ3_checkIndex_8e157_16 : decode cJ3_checkIndex_8e157 16 = .ok (.iload_n 0, 1) := by decide +kernel
theorem dJ3_checkIndex_8e157_17 : decode cJ3_checkIndex_8e157 17 = .ok (.ireturn, 1) := by decide +kernel
end
section
def fg_TW : List Cond := lw_tbl.filter goodWord
theorem fg_tm {w : Cond} (h : w ∈ lw_tbl) (hg : goodWord w = true) : w ∈ fg_TW := List.mem_filter.mpr ⟨h, hg⟩
theorem fg_t1 {w : Cond} (i : Nat) (h : tables_1_1[i]? = some w) (hg : goodWord w = true) : w ∈ fg_TW := fg_tm (List.mem_append_right _ (show w ∈ tables_1_1 ++ (tables_1_2 ++ (tables_1_3 ++ (tables_1_4 ++ tables_1_5))) from (List.mem_append_left _ (List.mem_of_getElem? h)))) hg
theorem fg_t2 {w : Cond} (i : Nat) (h : tables_1_2[i]? = some w) (hg : goodWord w = true) : w ∈ fg_TW := fg_tm (List.mem_append_right _ (show w ∈ tables_1_1 ++ (tables_1_2 ++ (tables_1_3 ++ (tables_1_4 ++ tables_1_5))) from (List.mem_append_right _ (List.mem_append_left _ (List.mem_of_getElem? h))))) hg
theorem fg_t3 {w : Cond} (i : Nat) (h : tables_1_3[i]? = some w) (hg : goodWord w = true) : w ∈ fg_TW := fg_tm (List.mem_append_right _ (show w ∈ tables_1_1 ++ (tables_1_2 ++ (tables_1_3 ++ (tables_1_4 ++ tables_1_5))) from (List.mem_append_right _ (List.mem_append_right _ (List.mem_append_left _ (List.mem_of_getElem? h)))))) hg
theorem fg_t4 {w : Cond} (i : Nat) (h : tables_1_4[i]? = some w) (hg : goodWord w = true) : w ∈ fg_TW := fg_tm (List.mem_append_right _ (show w ∈ tables_1_1 ++ (tables_1_2 ++ (tables_1_3 ++ (tables_1_4 ++ tables_1_5))) from (List.mem_append_right _ (List.mem_append_right _ (List.mem_append_right _ (List.mem_append_left _ (List.mem_of_getElem? h))))))) hg
theorem fg_t5 {w : Cond} (i : Nat) (h : tables_1_5[i]? = some w) (hg : goodWord w = true) : w ∈ fg_TW := fg_tm (List.mem_append_right _ (show w ∈ tables_1_1 ++ (tables_1_2 ++ (tables_1_3 ++ (tables_1_4 ++ tables_1_5))) from (List.mem_append_right _ (List.mem_append_right _ (List.mem_append_right _ (List.mem_append_right _ (List.mem_of_getElem? h))))))) hg
theorem fg_tp {w : Cond} (i : Nat) (h : (k2_sels lw_privs)[i]? = some w) (hg : goodWord w = true) : w ∈ fg_TW := fg_tm (List.mem_append_left _ (List.mem_of_getElem? h)) hg
theorem fg_tg : ∀ w ∈ fg_TW, (w.onTables && w.keeps) = true ∨ ∃ ty, w = .arrayClass ty := fun w h => good_of_word (List.mem_filter.mp h).2
theorem fg_gC {y : MethodName} {cc : ByteArray} {n : Nat} {ret : Option FieldType} (h : Cond.code y cc n ret ∈ fg_TW) : GoodIn fg_TW (.code y cc n ret :: fg_TW) := fun w hw => (List.mem_cons.mp hw).elim (fun e => by rw [e]; exact ⟨h, fg_tg _ h⟩) (fun hw => ⟨hw, fg_tg _ hw⟩)
theorem fg_gV {own C : String} {idx : Nat} {y : MethodName} {cc : ByteArray} {n : Nat} {ret : Option FieldType} (h1 : Cond.methodLink own idx y ∈ fg_TW) (h2 : Cond.instanceMethod y ∈ fg_TW) (h3 : Cond.selects C y y ∈ fg_TW) (h4 : Cond.initialized C ∈ fg_TW) (h : Cond.code y cc n ret ∈ fg_TW) : GoodIn fg_TW (wsV own idx C y (.code y cc n ret :: fg_TW)) := by
  intro w hw
  unfold wsV at hw
  rcases List.mem_append.mp hw with hw | hw
  · simp only [List.mem_cons, List.not_mem_nil, or_false] at hw
    rcases hw with rfl | rfl | rfl | rfl
    · exact ⟨h1, fg_tg _ h1⟩
    · exact ⟨h2, fg_tg _ h2⟩
    · exact ⟨h3, fg_tg _ h3⟩
    · exact ⟨h4, fg_tg _ h4⟩
  · exact fg_gC h w hw
theorem fg_gS {own : String} {idx : Nat} {y : MethodName} {cc : ByteArray} {n : Nat} {ret : Option FieldType} (h1 : Cond.methodLink own idx y ∈ fg_TW) (h2 : Cond.static y ∈ fg_TW) (h4 : Cond.initialized own ∈ fg_TW) (h : Cond.code y cc n ret ∈ fg_TW) : GoodIn fg_TW (wsS own idx y (.code y cc n ret :: fg_TW)) := by
  intro w hw
  unfold wsS at hw
  rcases List.mem_append.mp hw with hw | hw
  · simp only [List.mem_cons, List.not_mem_nil, or_false] at hw
    rcases hw with rfl | rfl | rfl
    · exact ⟨h1, fg_tg _ h1⟩
    · exact ⟨h2, fg_tg _ h2⟩
    · exact ⟨h4, fg_tg _ h4⟩
  · exact fg_gC h w hw
theorem vi_RL : (.initialized RL : Cond) ∈ fg_TW := fg_t1 0 rfl rfl
theorem vi_RX3 : (.initialized RX3 : Cond) ∈ fg_TW := fg_t1 1 rfl rfl
theorem vi_RX2 : (.initialized RX2 : Cond) ∈ fg_TW := fg_t1 2 rfl rfl
theorem vi_RX1 : (.initialized RX1 : Cond) ∈ fg_TW := fg_t1 3 rfl rfl
theorem vi_RX0 : (.initialized RX0 : Cond) ∈ fg_TW := fg_t1 4 rfl rfl
theorem vi_RX4 : (.initialized RX4 : Cond) ∈ fg_TW := fg_t1 5 rfl rfl
theorem vi_RJ9 : (.initialized RJ9 : Cond) ∈ fg_TW := fg_t1 6 rfl rfl
theorem vi_RJ10 : (.initialized RJ10 : Cond) ∈ fg_TW := fg_t1 7 rfl rfl
theorem vi_RJ6 : (.initialized RJ6 : Cond) ∈ fg_TW := fg_t1 8 rfl rfl
theorem vi_RJ0 : (.initialized RJ0 : Cond) ∈ fg_TW := fg_t1 9 rfl rfl
theorem vi_RJ1 : (.initialized RJ1 : Cond) ∈ fg_TW := fg_t1 10 rfl rfl
theorem vi_RJ3 : (.initialized RJ3 : Cond) ∈ fg_TW := fg_t1 11 rfl rfl
theorem vi_RJ2 : (.initialized RJ2 : Cond) ∈ fg_TW := fg_t1 12 rfl rfl
theorem vi_Math : (.initialized "java/lang/Math" : Cond) ∈ fg_TW := fg_t1 6 rfl rfl
theorem vi_System : (.initialized "java/lang/System" : Cond) ∈ fg_TW := fg_t1 7 rfl rfl
theorem vf_RX2_9 : (.fieldLink RX2 9 "FogLots$World" "fog" "[I" : Cond) ∈ fg_TW := fg_t1 27 rfl rfl
theorem vf_RX3_56 : (.fieldLink RX3 56 "FogLots$World" "fog" "[I" : Cond) ∈ fg_TW := fg_t1 28 rfl rfl
theorem vf_RX1_102 : (.fieldLink RX1 102 "FogLots$World" "fog" "[I" : Cond) ∈ fg_TW := fg_t1 29 rfl rfl
theorem vf_RX2_15 : (.fieldLink RX2 15 "FogLots$World" "rent" "[I" : Cond) ∈ fg_TW := fg_t1 30 rfl rfl
theorem vf_RX3_63 : (.fieldLink RX3 63 "FogLots$World" "rent" "[I" : Cond) ∈ fg_TW := fg_t1 31 rfl rfl
theorem vf_RX1_106 : (.fieldLink RX1 106 "FogLots$World" "rent" "[I" : Cond) ∈ fg_TW := fg_t1 32 rfl rfl
theorem vf_RX2_18 : (.fieldLink RX2 18 "FogLots$World" "owner" "[I" : Cond) ∈ fg_TW := fg_t1 33 rfl rfl
theorem vf_RX3_69 : (.fieldLink RX3 69 "FogLots$World" "owner" "[I" : Cond) ∈ fg_TW := fg_t1 34 rfl rfl
theorem vf_RX1_110 : (.fieldLink RX1 110 "FogLots$World" "owner" "[I" : Cond) ∈ fg_TW := fg_t1 35 rfl rfl
theorem vf_RX2_21 : (.fieldLink RX2 21 "FogLots$World" "suns" "[I" : Cond) ∈ fg_TW := fg_t1 36 rfl rfl
theorem vf_RX3_78 : (.fieldLink RX3 78 "FogLots$World" "suns" "[I" : Cond) ∈ fg_TW := fg_t1 37 rfl rfl
theorem vf_RX1_112 : (.fieldLink RX1 112 "FogLots$World" "suns" "[I" : Cond) ∈ fg_TW := fg_t1 38 rfl rfl
theorem vf_RX2_24 : (.fieldLink RX2 24 "FogLots$World" "mist" "I" : Cond) ∈ fg_TW := fg_t1 39 rfl rfl
theorem vf_RX1_72 : (.fieldLink RX1 72 "FogLots$World" "mist" "I" : Cond) ∈ fg_TW := fg_t1 40 rfl rfl
theorem vf_RX3_81 : (.fieldLink RX3 81 "FogLots$World" "mist" "I" : Cond) ∈ fg_TW := fg_t1 41 rfl rfl
theorem vf_RX2_28 : (.fieldLink RX2 28 "FogLots$World" "people" "I" : Cond) ∈ fg_TW := fg_t1 42 rfl rfl
theorem vf_RX1_76 : (.fieldLink RX1 76 "FogLots$World" "people" "I" : Cond) ∈ fg_TW := fg_t1 43 rfl rfl
theorem vf_RX3_88 : (.fieldLink RX3 88 "FogLots$World" "people" "I" : Cond) ∈ fg_TW := fg_t1 44 rfl rfl
theorem vf_RX2_31 : (.fieldLink RX2 31 "FogLots$World" "kind" "[I" : Cond) ∈ fg_TW := fg_t1 45 rfl rfl
theorem vf_RX3_94 : (.fieldLink RX3 94 "FogLots$World" "kind" "[I" : Cond) ∈ fg_TW := fg_t1 46 rfl rfl
theorem vf_RX2_34 : (.fieldLink RX2 34 "FogLots$World" "place" "[I" : Cond) ∈ fg_TW := fg_t1 47 rfl rfl
theorem vf_RX1_84 : (.fieldLink RX1 84 "FogLots$World" "place" "[I" : Cond) ∈ fg_TW := fg_t1 48 rfl rfl
theorem vf_RX3_110 : (.fieldLink RX3 110 "FogLots$World" "place" "[I" : Cond) ∈ fg_TW := fg_t1 49 rfl rfl
theorem vf_RX2_37 : (.fieldLink RX2 37 "FogLots$World" "belief" "[I" : Cond) ∈ fg_TW := fg_t1 50 rfl rfl
theorem vf_RX1_89 : (.fieldLink RX1 89 "FogLots$World" "belief" "[I" : Cond) ∈ fg_TW := fg_t1 51 rfl rfl
theorem vf_RX3_113 : (.fieldLink RX3 113 "FogLots$World" "belief" "[I" : Cond) ∈ fg_TW := fg_t1 52 rfl rfl
theorem vf_RX2_40 : (.fieldLink RX2 40 "FogLots$World" "purse" "[I" : Cond) ∈ fg_TW := fg_t1 53 rfl rfl
theorem vf_RX1_94 : (.fieldLink RX1 94 "FogLots$World" "purse" "[I" : Cond) ∈ fg_TW := fg_t1 54 rfl rfl
theorem vf_RX3_116 : (.fieldLink RX3 116 "FogLots$World" "purse" "[I" : Cond) ∈ fg_TW := fg_t1 55 rfl rfl
theorem vf_RX2_43 : (.fieldLink RX2 43 "FogLots$World" "fell" "[I" : Cond) ∈ fg_TW := fg_t1 56 rfl rfl
theorem vf_RX3_119 : (.fieldLink RX3 119 "FogLots$World" "fell" "[I" : Cond) ∈ fg_TW := fg_t1 57 rfl rfl
theorem vf_RX2_46 : (.fieldLink RX2 46 "FogLots$World" "gone" "I" : Cond) ∈ fg_TW := fg_t1 58 rfl rfl
theorem vf_RX2_49 : (.fieldLink RX2 49 "FogLots$World" "day" "I" : Cond) ∈ fg_TW := fg_t1 59 rfl rfl
theorem vf_RX3_125 : (.fieldLink RX3 125 "FogLots$World" "day" "I" : Cond) ∈ fg_TW := fg_t1 60 rfl rfl
theorem vf_RX2_52 : (.fieldLink RX2 52 "FogLots$World" "z" "I" : Cond) ∈ fg_TW := fg_t1 61 rfl rfl
theorem vf_RX3_173 : (.fieldLink RX3 173 "FogLots$World" "z" "I" : Cond) ∈ fg_TW := fg_t1 62 rfl rfl
theorem vf_RX2_55 : (.fieldLink RX2 55 "FogLots$World" "spots" "[I" : Cond) ∈ fg_TW := fg_t1 63 rfl rfl
theorem vf_RX3_189 : (.fieldLink RX3 189 "FogLots$World" "spots" "[I" : Cond) ∈ fg_TW := fg_t1 64 rfl rfl
theorem vf_RX2_58 : (.fieldLink RX2 58 "FogLots$World" "atOnce" "[I" : Cond) ∈ fg_TW := fg_t1 65 rfl rfl
theorem vf_RX1_9 : (.fieldLink RX1 9 "FogLots$Tape" "bytes" "[I" : Cond) ∈ fg_TW := fg_t1 106 rfl rfl
theorem vf_RX1_15 : (.fieldLink RX1 15 "FogLots$Tape" "length" "I" : Cond) ∈ fg_TW := fg_t1 107 rfl rfl
theorem vf_RX3_176 : (.fieldLink RX3 176 "FogLots$Tape" "length" "I" : Cond) ∈ fg_TW := fg_t1 108 rfl rfl
theorem vf_RX1_19 : (.fieldLink RX1 19 "FogLots$Tape" "fault" "I" : Cond) ∈ fg_TW := fg_t1 109 rfl rfl
theorem vf_RX3_186 : (.fieldLink RX3 186 "FogLots$Tape" "fault" "I" : Cond) ∈ fg_TW := fg_t1 110 rfl rfl
theorem vf_RX1_22 : (.fieldLink RX1 22 "FogLots$Tape" "token" "I" : Cond) ∈ fg_TW := fg_t1 111 rfl rfl
theorem vf_RX1_25 : (.fieldLink RX1 25 "FogLots$Tape" "start" "I" : Cond) ∈ fg_TW := fg_t1 112 rfl rfl
theorem vf_RX1_28 : (.fieldLink RX1 28 "FogLots$Tape" "end" "I" : Cond) ∈ fg_TW := fg_t1 113 rfl rfl
theorem vf_RX1_31 : (.fieldLink RX1 31 "FogLots$Tape" "value" "I" : Cond) ∈ fg_TW := fg_t1 114 rfl rfl
theorem vf_RX0_9 : (.fieldLink RX0 9 "FogLots$Sheet" "bits" "I" : Cond) ∈ fg_TW := fg_t1 137 rfl rfl
theorem vf_RX3_210 : (.fieldLink RX3 210 "FogLots$Sheet" "bits" "I" : Cond) ∈ fg_TW := fg_t1 138 rfl rfl
theorem vf_RX0_15 : (.fieldLink RX0 15 "FogLots$Sheet" "length" "I" : Cond) ∈ fg_TW := fg_t1 139 rfl rfl
theorem vf_RX3_202 : (.fieldLink RX3 202 "FogLots$Sheet" "length" "I" : Cond) ∈ fg_TW := fg_t1 140 rfl rfl
theorem vf_RX0_18 : (.fieldLink RX0 18 "FogLots$Sheet" "numbers" "[I" : Cond) ∈ fg_TW := fg_t1 141 rfl rfl
theorem vf_RX3_216 : (.fieldLink RX3 216 "FogLots$Sheet" "numbers" "[I" : Cond) ∈ fg_TW := fg_t1 142 rfl rfl
theorem vf_RX3_10 : (.fieldLink RX3 10 "FogLots" "world" "LFogLots$World;" : Cond) ∈ fg_TW := fg_t1 150 rfl rfl
theorem vf_RX3_16 : (.fieldLink RX3 16 "FogLots" "trial" "LFogLots$World;" : Cond) ∈ fg_TW := fg_t1 151 rfl rfl
theorem vf_RX3_19 : (.fieldLink RX3 19 "FogLots" "keptWorld" "LFogLots$World;" : Cond) ∈ fg_TW := fg_t1 152 rfl rfl
theorem vf_RX3_22 : (.fieldLink RX3 22 "FogLots" "isKept" "Z" : Cond) ∈ fg_TW := fg_t1 153 rfl rfl
theorem vf_RX3_29 : (.fieldLink RX3 29 "FogLots" "tape" "LFogLots$Tape;" : Cond) ∈ fg_TW := fg_t1 154 rfl rfl
theorem vf_RX3_35 : (.fieldLink RX3 35 "FogLots" "sheets" "[LFogLots$Sheet;" : Cond) ∈ fg_TW := fg_t1 155 rfl rfl
theorem vf_RX3_40 : (.fieldLink RX3 40 "FogLots" "found" "[I" : Cond) ∈ fg_TW := fg_t1 156 rfl rfl
theorem vf_RJ0_38 : (.fieldLink RJ0 38 "java/lang/String" "COMPACT_STRINGS" "Z" : Cond) ∈ fg_TW := fg_t3 19 rfl rfl
theorem vf_RJ0_1053 : (.fieldLink RJ0 1053 "jdk/internal/util/Preconditions" "SIOOBE_FORMATTER" "Ljava/util/function/BiFunction;" : Cond) ∈ fg_TW := fg_t3 35 rfl rfl
theorem vf_RJ2_44 : (.fieldLink RJ2 44 "java/lang/StringUTF16" "$assertionsDisabled" "Z" : Cond) ∈ fg_TW := fg_t3 53 rfl rfl
theorem vf_RJ2_59 : (.fieldLink RJ2 59 "java/lang/StringUTF16" "HI_BYTE_SHIFT" "I" : Cond) ∈ fg_TW := fg_t3 55 rfl rfl
theorem vf_RJ2_63 : (.fieldLink RJ2 63 "java/lang/StringUTF16" "LO_BYTE_SHIFT" "I" : Cond) ∈ fg_TW := fg_t3 57 rfl rfl
theorem vf_RX4_9 : (.fieldLink RX4 9 "FogLotsModel" "s" "[I" : Cond) ∈ fg_TW := fg_t3 182 rfl rfl
theorem vf_RX4_13 : (.fieldLink RX4 13 "FogLotsModel" "kept" "[I" : Cond) ∈ fg_TW := fg_t3 183 rfl rfl
theorem vf_RX4_16 : (.fieldLink RX4 16 "FogLotsModel" "aside" "[I" : Cond) ∈ fg_TW := fg_t3 184 rfl rfl
theorem vf_RX4_273 : (.fieldLink RX4 273 "FogLotsModel" "isKept" "Z" : Cond) ∈ fg_TW := fg_t3 185 rfl rfl
theorem vf_RX4_19 : (.fieldLink RX4 19 "FogLotsModel" "found" "[I" : Cond) ∈ fg_TW := fg_t3 186 rfl rfl
theorem vf_RX4_101 : (.fieldLink RX4 101 "FogLotsModel" "gone" "I" : Cond) ∈ fg_TW := fg_t3 187 rfl rfl
theorem vf_RX4_22 : (.fieldLink RX4 22 "FogLotsModel" "flows" "[I" : Cond) ∈ fg_TW := fg_t3 188 rfl rfl
theorem vf_RX4_25 : (.fieldLink RX4 25 "FogLotsModel" "beliefs" "[I" : Cond) ∈ fg_TW := fg_t3 189 rfl rfl
theorem vf_RX4_28 : (.fieldLink RX4 28 "FogLotsModel" "tape" "[I" : Cond) ∈ fg_TW := fg_t3 190 rfl rfl
theorem vf_RX4_211 : (.fieldLink RX4 211 "FogLotsModel" "taped" "I" : Cond) ∈ fg_TW := fg_t3 191 rfl rfl
theorem vf_RX4_224 : (.fieldLink RX4 224 "FogLotsModel" "token" "I" : Cond) ∈ fg_TW := fg_t3 192 rfl rfl
theorem vf_RX4_217 : (.fieldLink RX4 217 "FogLotsModel" "begun" "I" : Cond) ∈ fg_TW := fg_t3 193 rfl rfl
theorem vf_RX4_214 : (.fieldLink RX4 214 "FogLotsModel" "ended" "I" : Cond) ∈ fg_TW := fg_t3 194 rfl rfl
theorem vf_RX4_220 : (.fieldLink RX4 220 "FogLotsModel" "value" "J" : Cond) ∈ fg_TW := fg_t3 195 rfl rfl
theorem vf_RX4_31 : (.fieldLink RX4 31 "FogLotsModel" "letters" "[C" : Cond) ∈ fg_TW := fg_t3 196 rfl rfl
theorem vf_RX4_35 : (.fieldLink RX4 35 "FogLotsModel" "more" "[C" : Cond) ∈ fg_TW := fg_t3 197 rfl rfl
theorem vf_RX4_38 : (.fieldLink RX4 38 "FogLotsModel" "others" "[C" : Cond) ∈ fg_TW := fg_t3 198 rfl rfl
theorem vf_RX4_41 : (.fieldLink RX4 41 "FogLotsModel" "about" "[C" : Cond) ∈ fg_TW := fg_t3 199 rfl rfl
theorem vf_RX4_44 : (.fieldLink RX4 44 "FogLotsModel" "widths" "[I" : Cond) ∈ fg_TW := fg_t3 200 rfl rfl
theorem vf_RX4_47 : (.fieldLink RX4 47 "FogLotsModel" "sizes" "[I" : Cond) ∈ fg_TW := fg_t3 201 rfl rfl
theorem vf_RX4_50 : (.fieldLink RX4 50 "FogLotsModel" "cells" "[I" : Cond) ∈ fg_TW := fg_t3 202 rfl rfl
theorem vf_RX4_53 : (.fieldLink RX4 53 "FogLotsModel" "carried" "[I" : Cond) ∈ fg_TW := fg_t3 203 rfl rfl
theorem vf_RJ0_9 : (.fieldLink RJ0 9 "java/lang/String" "value" "[B" : Cond) ∈ fg_TW := fg_t5 157 rfl rfl
theorem vf_RJ0_15 : (.fieldLink RJ0 15 "java/lang/String" "coder" "B" : Cond) ∈ fg_TW := fg_t5 158 rfl rfl
theorem vm_RL_9 : (.methodLink RL 9 yX3_init : Cond) ∈ fg_TW := fg_t1 15 rfl rfl
theorem vm_RX3_1 : (.methodLink RX3 1 objectInit : Cond) ∈ fg_TW := fg_t1 18 rfl rfl
theorem vm_RX3_9 : (.methodLink RX3 9 yX2_init : Cond) ∈ fg_TW := fg_t1 23 rfl rfl
theorem vm_RX2_3 : (.methodLink RX2 3 objectInit : Cond) ∈ fg_TW := fg_t1 26 rfl rfl
theorem vm_RX1_3 : (.methodLink RX1 3 objectInit : Cond) ∈ fg_TW := fg_t1 105 rfl rfl
theorem vm_RX0_3 : (.methodLink RX0 3 objectInit : Cond) ∈ fg_TW := fg_t1 136 rfl rfl
theorem vm_RL_13 : (.methodLink RL 13 yX3_lot : Cond) ∈ fg_TW := fg_t1 172 rfl rfl
theorem vm_RX3_44 : (.methodLink RX3 44 yX3_isLot : Cond) ∈ fg_TW := fg_t1 176 rfl rfl
theorem vm_RX3_48 : (.methodLink RX3 48 yX3_finding : Cond) ∈ fg_TW := fg_t1 179 rfl rfl
theorem vm_RX3_52 : (.methodLink RX3 52 yX3_within : Cond) ∈ fg_TW := fg_t1 184 rfl rfl
theorem vm_RX3_59 : (.methodLink RX3 59 yX3_exchange : Cond) ∈ fg_TW := fg_t1 187 rfl rfl
theorem vm_RX3_66 : (.methodLink RX3 66 yX2_isPerson : Cond) ∈ fg_TW := fg_t1 190 rfl rfl
theorem vm_RL_18 : (.methodLink RL 18 yX3_lotOf : Cond) ∈ fg_TW := fg_t1 194 rfl rfl
theorem vm_RX3_72 : (.methodLink RX3 72 yX2_thoseOn : Cond) ∈ fg_TW := fg_t1 198 rfl rfl
theorem vm_RX3_75 : (.methodLink RX3 75 yX2_thoseStanding : Cond) ∈ fg_TW := fg_t1 202 rfl rfl
theorem vm_RX2_71 : (.methodLink RX2 71 yX2_stands : Cond) ∈ fg_TW := fg_t1 206 rfl rfl
theorem vm_RX2_76 : (.methodLink RX2 76 yX2_trustOf : Cond) ∈ fg_TW := fg_t1 210 rfl rfl
theorem vm_RL_23 : (.methodLink RL 23 yX3_sun : Cond) ∈ fg_TW := fg_t1 214 rfl rfl
theorem vm_RL_27 : (.methodLink RL 27 yX3_mist : Cond) ∈ fg_TW := fg_t1 218 rfl rfl
theorem vm_RL_32 : (.methodLink RL 32 yX3_person : Cond) ∈ fg_TW := fg_t1 222 rfl rfl
theorem vm_RX3_85 : (.methodLink RX3 85 yX3_isKind : Cond) ∈ fg_TW := fg_t1 226 rfl rfl
theorem vm_RX3_91 : (.methodLink RX3 91 yX2_add : Cond) ∈ fg_TW := fg_t1 229 rfl rfl
theorem vm_RL_36 : (.methodLink RL 36 yX3_of : Cond) ∈ fg_TW := fg_t1 233 rfl rfl
theorem vm_RX3_97 : (.methodLink RX3 97 yX3_losesOf : Cond) ∈ fg_TW := fg_t1 237 rfl rfl
theorem vm_RX3_100 : (.methodLink RX3 100 yX2_lotMadeFor : Cond) ∈ fg_TW := fg_t2 0 rfl rfl
theorem vm_RX2_80 : (.methodLink RX2 80 yX2_prefers : Cond) ∈ fg_TW := fg_t2 4 rfl rfl
theorem vm_RX3_103 : (.methodLink RX3 103 yX2_lotsOwnedBy : Cond) ∈ fg_TW := fg_t2 8 rfl rfl
theorem vm_RX3_106 : (.methodLink RX3 106 yX2_valueOf : Cond) ∈ fg_TW := fg_t2 12 rfl rfl
theorem vm_RL_40 : (.methodLink RL 40 yX3_change : Cond) ∈ fg_TW := fg_t2 16 rfl rfl
theorem vm_RL_44 : (.methodLink RL 44 yX3_trust : Cond) ∈ fg_TW := fg_t2 20 rfl rfl
theorem vm_RX3_122 : (.methodLink RX3 122 yX2_trustOf : Cond) ∈ fg_TW := fg_t2 24 rfl rfl
theorem vm_RL_48 : (.methodLink RL 48 yX3_go : Cond) ∈ fg_TW := fg_t2 25 rfl rfl
theorem vm_RX3_129 : (.methodLink RX3 129 yX2_passDays : Cond) ∈ fg_TW := fg_t2 30 rfl rfl
theorem vm_RX2_84 : (.methodLink RX2 84 yX2_thinAndThicken : Cond) ∈ fg_TW := fg_t2 34 rfl rfl
theorem vm_RX2_100 : (.methodLink RX2 100 yJ9_min_7cf53 : Cond) ∈ fg_TW := fg_t2 38 rfl rfl
theorem vm_RX2_105 : (.methodLink RX2 105 yJ9_max_7cf53 : Cond) ∈ fg_TW := fg_t2 41 rfl rfl
theorem vm_RX2_87 : (.methodLink RX2 87 yX2_spreadFog : Cond) ∈ fg_TW := fg_t2 44 rfl rfl
theorem vm_RX2_90 : (.methodLink RX2 90 yX2_movePeople : Cond) ∈ fg_TW := fg_t2 48 rfl rfl
theorem vm_RX2_67 : (.methodLink RX2 67 yX2_isGone : Cond) ∈ fg_TW := fg_t2 52 rfl rfl
theorem vm_RX2_108 : (.methodLink RX2 108 yX2_lotMadeFor : Cond) ∈ fg_TW := fg_t2 56 rfl rfl
theorem vm_RX2_112 : (.methodLink RX2 112 yX2_fall : Cond) ∈ fg_TW := fg_t2 57 rfl rfl
theorem vm_RX2_93 : (.methodLink RX2 93 yX2_payRents : Cond) ∈ fg_TW := fg_t2 62 rfl rfl
theorem vm_RX2_119 : (.methodLink RX2 119 yX2_isPerson : Cond) ∈ fg_TW := fg_t2 66 rfl rfl
theorem vm_RX2_96 : (.methodLink RX2 96 yX2_spreadBelief : Cond) ∈ fg_TW := fg_t2 67 rfl rfl
theorem vm_RX2_122 : (.methodLink RX2 122 yX2_greatestBeliefBeside : Cond) ∈ fg_TW := fg_t2 71 rfl rfl
theorem vm_RX3_133 : (.methodLink RX3 133 yX2_thoseOnLots : Cond) ∈ fg_TW := fg_t2 76 rfl rfl
theorem vm_RL_52 : (.methodLink RL 52 yX3_now : Cond) ∈ fg_TW := fg_t2 80 rfl rfl
theorem vm_RX3_137 : (.methodLink RX3 137 yX3_sumOf : Cond) ∈ fg_TW := fg_t2 84 rfl rfl
theorem vm_RX3_141 : (.methodLink RX3 141 yX3_firstGreatest : Cond) ∈ fg_TW := fg_t2 87 rfl rfl
theorem vm_RL_56 : (.methodLink RL 56 yX3_ahead : Cond) ∈ fg_TW := fg_t2 90 rfl rfl
theorem vm_RX3_144 : (.methodLink RX3 144 yX2_become : Cond) ∈ fg_TW := fg_t2 94 rfl rfl
theorem vm_RL_60 : (.methodLink RL 60 yX3_fog : Cond) ∈ fg_TW := fg_t2 101 rfl rfl
theorem vm_RL_64 : (.methodLink RL 64 yX3_falls : Cond) ∈ fg_TW := fg_t2 105 rfl rfl
theorem vm_RL_68 : (.methodLink RL 68 yX3_bare : Cond) ∈ fg_TW := fg_t2 109 rfl rfl
theorem vm_RL_73 : (.methodLink RL 73 yX3_meet : Cond) ∈ fg_TW := fg_t2 113 rfl rfl
theorem vm_RL_77 : (.methodLink RL 77 yX3_beliefFor : Cond) ∈ fg_TW := fg_t2 117 rfl rfl
theorem vm_RL_81 : (.methodLink RL 81 yX3_settle : Cond) ∈ fg_TW := fg_t2 121 rfl rfl
theorem vm_RL_85 : (.methodLink RL 85 yX3_kindFor : Cond) ∈ fg_TW := fg_t2 125 rfl rfl
theorem vm_RL_89 : (.methodLink RL 89 yX3_rentFor : Cond) ∈ fg_TW := fg_t2 129 rfl rfl
theorem vm_RL_93 : (.methodLink RL 93 yX3_sunFor : Cond) ∈ fg_TW := fg_t2 133 rfl rfl
theorem vm_RL_97 : (.methodLink RL 97 yX3_away : Cond) ∈ fg_TW := fg_t2 137 rfl rfl
theorem vm_RX3_148 : (.methodLink RX3 148 yJ6_bitCount_0f7a4 : Cond) ∈ fg_TW := fg_t2 141 rfl rfl
theorem vm_RX3_153 : (.methodLink RX3 153 yX2_sendAway : Cond) ∈ fg_TW := fg_t2 147 rfl rfl
theorem vm_RL_101 : (.methodLink RL 101 yX3_fits : Cond) ∈ fg_TW := fg_t2 151 rfl rfl
theorem vm_RX3_156 : (.methodLink RX3 156 yX3_faultOfTold : Cond) ∈ fg_TW := fg_t2 155 rfl rfl
theorem vm_RX3_195 : (.methodLink RX3 195 yX3_isSheet : Cond) ∈ fg_TW := fg_t2 159 rfl rfl
theorem vm_RX3_203 : (.methodLink RX3 203 yX0_isMissing : Cond) ∈ fg_TW := fg_t2 162 rfl rfl
theorem vm_RX3_159 : (.methodLink RX3 159 yX3_goesAsTold : Cond) ∈ fg_TW := fg_t2 166 rfl rfl
theorem vm_RL_105 : (.methodLink RL 105 yX3_believed : Cond) ∈ fg_TW := fg_t2 170 rfl rfl
theorem vm_RL_109 : (.methodLink RL 109 yX3_kinds : Cond) ∈ fg_TW := fg_t2 174 rfl rfl
theorem vm_RL_113 : (.methodLink RL 113 yX3_fine : Cond) ∈ fg_TW := fg_t2 178 rfl rfl
theorem vm_RX3_163 : (.methodLink RX3 163 yX2_draw : Cond) ∈ fg_TW := fg_t2 182 rfl rfl
theorem vm_RL_117 : (.methodLink RL 117 yX3_odds : Cond) ∈ fg_TW := fg_t2 187 rfl rfl
theorem vm_RX3_166 : (.methodLink RX3 166 yX2_stands : Cond) ∈ fg_TW := fg_t2 191 rfl rfl
theorem vm_RX3_170 : (.methodLink RX3 170 yX3_greatestCommon : Cond) ∈ fg_TW := fg_t2 192 rfl rfl
theorem vm_RL_122 : (.methodLink RL 122 yX3_seed : Cond) ∈ fg_TW := fg_t2 195 rfl rfl
theorem vm_RL_126 : (.methodLink RL 126 yX3_feed : Cond) ∈ fg_TW := fg_t2 199 rfl rfl
theorem vm_RX3_179 : (.methodLink RX3 179 yX1_append : Cond) ∈ fg_TW := fg_t2 203 rfl rfl
theorem vm_RL_130 : (.methodLink RL 130 yX3_wipe : Cond) ∈ fg_TW := fg_t2 207 rfl rfl
theorem vm_RL_134 : (.methodLink RL 134 yX3_text : Cond) ∈ fg_TW := fg_t2 211 rfl rfl
theorem vm_RX3_182 : (.methodLink RX3 182 yX1_tellTo : Cond) ∈ fg_TW := fg_t2 215 rfl rfl
theorem vm_RX1_34 : (.methodLink RX1 34 yX1_nextToken : Cond) ∈ fg_TW := fg_t2 219 rfl rfl
theorem vm_RX1_140 : (.methodLink RX1 140 yX1_isLetter : Cond) ∈ fg_TW := fg_t2 223 rfl rfl
theorem vm_RX1_143 : (.methodLink RX1 143 yX1_readWord : Cond) ∈ fg_TW := fg_t2 226 rfl rfl
theorem vm_RX1_146 : (.methodLink RX1 146 yX1_isDigit : Cond) ∈ fg_TW := fg_t2 230 rfl rfl
theorem vm_RX1_149 : (.methodLink RX1 149 yX1_readNumber : Cond) ∈ fg_TW := fg_t2 233 rfl rfl
theorem vm_RX1_152 : (.methodLink RX1 152 yJ9_min_7cf53 : Cond) ∈ fg_TW := fg_t2 237 rfl rfl
theorem vm_RX1_37 : (.methodLink RX1 37 yX1_tellItem : Cond) ∈ fg_TW := fg_t2 238 rfl rfl
theorem vm_RX1_44 : (.methodLink RX1 44 yX1_kindOfWord : Cond) ∈ fg_TW := fg_t3 2 rfl rfl
theorem vm_RX1_115 : (.methodLink RX1 115 yX1_isWord : Cond) ∈ fg_TW := fg_t3 7 rfl rfl
theorem vm_RX1_132 : (.methodLink RX1 132 yJ0_length_8abf5 : Cond) ∈ fg_TW := fg_t3 11 rfl rfl
theorem vm_RJ0_335 : (.methodLink RJ0 335 yJ0_coder_7d493 : Cond) ∈ fg_TW := fg_t3 15 rfl rfl
theorem vm_RX1_136 : (.methodLink RX1 136 yJ0_charAt_5068e : Cond) ∈ fg_TW := fg_t3 21 rfl rfl
theorem vm_RJ0_492 : (.methodLink RJ0 492 yJ0_isLatin1_aae02 : Cond) ∈ fg_TW := fg_t3 25 rfl rfl
theorem vm_RJ0_495 : (.methodLink RJ0 495 yJ1_charAt_3b067 : Cond) ∈ fg_TW := fg_t3 29 rfl rfl
theorem vm_RJ1_9 : (.methodLink RJ1 9 yJ0_checkIndex_df160 : Cond) ∈ fg_TW := fg_t3 32 rfl rfl
theorem vm_RJ0_1059 : (.methodLink RJ0 1059 yJ3_checkIndex_8e157 : Cond) ∈ fg_TW := fg_t3 37 rfl rfl
theorem vm_RJ0_498 : (.methodLink RJ0 498 yJ2_charAt_3b067 : Cond) ∈ fg_TW := fg_t3 40 rfl rfl
theorem vm_RJ2_67 : (.methodLink RJ2 67 yJ2_checkIndex_2214a : Cond) ∈ fg_TW := fg_t3 43 rfl rfl
theorem vm_RJ2_48 : (.methodLink RJ2 48 yJ2_length_9d52b : Cond) ∈ fg_TW := fg_t3 46 rfl rfl
theorem vm_RJ2_414 : (.methodLink RJ2 414 yJ0_checkIndex_df160 : Cond) ∈ fg_TW := fg_t3 49 rfl rfl
theorem vm_RJ2_71 : (.methodLink RJ2 71 yJ2_getChar_3b067 : Cond) ∈ fg_TW := fg_t3 50 rfl rfl
theorem vm_RX1_48 : (.methodLink RX1 48 yX1_tellPerson : Cond) ∈ fg_TW := fg_t3 65 rfl rfl
theorem vm_RX1_41 : (.methodLink RX1 41 yX1_faultHere : Cond) ∈ fg_TW := fg_t3 69 rfl rfl
theorem vm_RX1_79 : (.methodLink RX1 79 yX2_add : Cond) ∈ fg_TW := fg_t3 73 rfl rfl
theorem vm_RX1_54 : (.methodLink RX1 54 yX1_took : Cond) ∈ fg_TW := fg_t3 75 rfl rfl
theorem vm_RX1_68 : (.methodLink RX1 68 yX1_takeNumber : Cond) ∈ fg_TW := fg_t3 79 rfl rfl
theorem vm_RX1_58 : (.methodLink RX1 58 yX1_tellLot : Cond) ∈ fg_TW := fg_t3 86 rfl rfl
theorem vm_RX1_63 : (.methodLink RX1 63 yX1_tellSun : Cond) ∈ fg_TW := fg_t3 95 rfl rfl
theorem vm_RL_138 : (.methodLink RL 138 yX3_hold : Cond) ∈ fg_TW := fg_t3 101 rfl rfl
theorem vm_RL_142 : (.methodLink RL 142 yX3_as : Cond) ∈ fg_TW := fg_t3 105 rfl rfl
theorem vm_RX3_192 : (.methodLink RX3 192 yX3_isUnder : Cond) ∈ fg_TW := fg_t3 109 rfl rfl
theorem vm_RX3_229 : (.methodLink RX3 229 yX3_kindAbove : Cond) ∈ fg_TW := fg_t3 112 rfl rfl
theorem vm_RL_146 : (.methodLink RL 146 yX3_sheet : Cond) ∈ fg_TW := fg_t3 115 rfl rfl
theorem vm_RX3_198 : (.methodLink RX3 198 yX0_begin : Cond) ∈ fg_TW := fg_t3 119 rfl rfl
theorem vm_RL_150 : (.methodLink RL 150 yX3_write : Cond) ∈ fg_TW := fg_t3 123 rfl rfl
theorem vm_RX3_207 : (.methodLink RX3 207 yX0_put : Cond) ∈ fg_TW := fg_t3 127 rfl rfl
theorem vm_RL_154 : (.methodLink RL 154 yX3_copy : Cond) ∈ fg_TW := fg_t3 131 rfl rfl
theorem vm_RX3_213 : (.methodLink RX3 213 yX0_has : Cond) ∈ fg_TW := fg_t3 135 rfl rfl
theorem vm_RL_159 : (.methodLink RL 159 yX3_load : Cond) ∈ fg_TW := fg_t3 140 rfl rfl
theorem vm_RL_163 : (.methodLink RL 163 yX3_judge : Cond) ∈ fg_TW := fg_t3 144 rfl rfl
theorem vm_RL_167 : (.methodLink RL 167 yX3_image : Cond) ∈ fg_TW := fg_t3 148 rfl rfl
theorem vm_RL_171 : (.methodLink RL 171 yX3_undo : Cond) ∈ fg_TW := fg_t3 152 rfl rfl
theorem vm_RL_175 : (.methodLink RL 175 yX3_tear : Cond) ∈ fg_TW := fg_t3 156 rfl rfl
theorem vm_RL_179 : (.methodLink RL 179 yX3_count : Cond) ∈ fg_TW := fg_t3 160 rfl rfl
theorem vm_RX3_225 : (.methodLink RX3 225 yX2_spotsHeld : Cond) ∈ fg_TW := fg_t3 164 rfl rfl
theorem vm_RL_183 : (.methodLink RL 183 yX3_status : Cond) ∈ fg_TW := fg_t3 168 rfl rfl
theorem vm_RL_12 : (.methodLink RL 12 yX4_init : Cond) ∈ fg_TW := fg_t3 174 rfl rfl
theorem vm_RX4_1 : (.methodLink RX4 1 objectInit : Cond) ∈ fg_TW := fg_t3 177 rfl rfl
theorem vm_RX4_56 : (.methodLink RX4 56 yX4_lays1 : Cond) ∈ fg_TW := fg_t3 178 rfl rfl
theorem vm_RL_17 : (.methodLink RL 17 yX4_lot : Cond) ∈ fg_TW := fg_t4 10 rfl rfl
theorem vm_RX4_126 : (.methodLink RX4 126 yX4_isLot : Cond) ∈ fg_TW := fg_t4 14 rfl rfl
theorem vm_RX4_61 : (.methodLink RX4 61 yX4_in1 : Cond) ∈ fg_TW := fg_t4 17 rfl rfl
theorem vm_RX4_129 : (.methodLink RX4 129 yX4_no : Cond) ∈ fg_TW := fg_t4 20 rfl rfl
theorem vm_RX4_73 : (.methodLink RX4 73 yX4_of1 : Cond) ∈ fg_TW := fg_t4 25 rfl rfl
theorem vm_RL_22 : (.methodLink RL 22 yX4_lotOf : Cond) ∈ fg_TW := fg_t4 29 rfl rfl
theorem vm_RX4_69 : (.methodLink RX4 69 yX4_whoIsOn : Cond) ∈ fg_TW := fg_t4 33 rfl rfl
theorem vm_RX4_65 : (.methodLink RX4 65 yX4_get : Cond) ∈ fg_TW := fg_t4 37 rfl rfl
theorem vm_RX4_132 : (.methodLink RX4 132 yX4_standing : Cond) ∈ fg_TW := fg_t4 41 rfl rfl
theorem vm_RX4_82 : (.methodLink RX4 82 yX4_stands : Cond) ∈ fg_TW := fg_t4 45 rfl rfl
theorem vm_RX4_79 : (.methodLink RX4 79 yX4_trustOf : Cond) ∈ fg_TW := fg_t4 49 rfl rfl
theorem vm_RX4_76 : (.methodLink RX4 76 yX4_bits : Cond) ∈ fg_TW := fg_t4 53 rfl rfl
theorem vm_RL_26 : (.methodLink RL 26 yX4_sun : Cond) ∈ fg_TW := fg_t4 56 rfl rfl
theorem vm_RL_31 : (.methodLink RL 31 yX4_mist : Cond) ∈ fg_TW := fg_t4 60 rfl rfl
theorem vm_RL_35 : (.methodLink RL 35 yX4_person : Cond) ∈ fg_TW := fg_t4 64 rfl rfl
theorem vm_RX4_135 : (.methodLink RX4 135 yX4_adds : Cond) ∈ fg_TW := fg_t4 68 rfl rfl
theorem vm_RX4_95 : (.methodLink RX4 95 yX4_puts : Cond) ∈ fg_TW := fg_t4 72 rfl rfl
theorem vm_RL_39 : (.methodLink RL 39 yX4_of : Cond) ∈ fg_TW := fg_t4 76 rfl rfl
theorem vm_RX4_138 : (.methodLink RX4 138 yX4_isPerson : Cond) ∈ fg_TW := fg_t4 80 rfl rfl
theorem vm_RX4_98 : (.methodLink RX4 98 yX4_losesOf : Cond) ∈ fg_TW := fg_t4 84 rfl rfl
theorem vm_RX4_92 : (.methodLink RX4 92 yX4_makesFor : Cond) ∈ fg_TW := fg_t4 88 rfl rfl
theorem vm_RX4_86 : (.methodLink RX4 86 yX4_isBetter : Cond) ∈ fg_TW := fg_t4 92 rfl rfl
theorem vm_RX4_141 : (.methodLink RX4 141 yX4_ownedBy : Cond) ∈ fg_TW := fg_t4 96 rfl rfl
theorem vm_RL_43 : (.methodLink RL 43 yX4_change : Cond) ∈ fg_TW := fg_t4 100 rfl rfl
theorem vm_RL_47 : (.methodLink RL 47 yX4_trust : Cond) ∈ fg_TW := fg_t4 104 rfl rfl
theorem vm_RL_51 : (.methodLink RL 51 yX4_go : Cond) ∈ fg_TW := fg_t4 108 rfl rfl
theorem vm_RX4_144 : (.methodLink RX4 144 yX4_goes : Cond) ∈ fg_TW := fg_t4 113 rfl rfl
theorem vm_RX4_123 : (.methodLink RX4 123 yX4_day : Cond) ∈ fg_TW := fg_t4 117 rfl rfl
theorem vm_RX4_105 : (.methodLink RX4 105 yX4_drifts : Cond) ∈ fg_TW := fg_t4 121 rfl rfl
theorem vm_RX4_89 : (.methodLink RX4 89 yX4_less : Cond) ∈ fg_TW := fg_t4 125 rfl rfl
theorem vm_RX4_108 : (.methodLink RX4 108 yX4_isAway : Cond) ∈ fg_TW := fg_t4 128 rfl rfl
theorem vm_RX4_112 : (.methodLink RX4 112 yX4_moves : Cond) ∈ fg_TW := fg_t4 132 rfl rfl
theorem vm_RX4_116 : (.methodLink RX4 116 yX4_pays : Cond) ∈ fg_TW := fg_t4 136 rfl rfl
theorem vm_RX4_119 : (.methodLink RX4 119 yX4_finds : Cond) ∈ fg_TW := fg_t4 140 rfl rfl
theorem vm_RX4_147 : (.methodLink RX4 147 yX4_onLots : Cond) ∈ fg_TW := fg_t4 144 rfl rfl
theorem vm_RL_55 : (.methodLink RL 55 yX4_now : Cond) ∈ fg_TW := fg_t4 148 rfl rfl
theorem vm_RX4_151 : (.methodLink RX4 151 yX4_fogs : Cond) ∈ fg_TW := fg_t4 152 rfl rfl
theorem vm_RX4_154 : (.methodLink RX4 154 yX4_sumOf : Cond) ∈ fg_TW := fg_t4 156 rfl rfl
theorem vm_RX4_157 : (.methodLink RX4 157 yX4_mostFog : Cond) ∈ fg_TW := fg_t4 160 rfl rfl
theorem vm_RX4_160 : (.methodLink RX4 160 yX4_richest : Cond) ∈ fg_TW := fg_t4 164 rfl rfl
theorem vm_RL_59 : (.methodLink RL 59 yX4_ahead : Cond) ∈ fg_TW := fg_t4 168 rfl rfl
theorem vm_RX4_163 : (.methodLink RX4 163 yX4_setsAside : Cond) ∈ fg_TW := fg_t4 172 rfl rfl
theorem vm_RX4_166 : (.methodLink RX4 166 yX4_laysBack : Cond) ∈ fg_TW := fg_t4 176 rfl rfl
theorem vm_RL_63 : (.methodLink RL 63 yX4_fog : Cond) ∈ fg_TW := fg_t4 180 rfl rfl
theorem vm_RL_67 : (.methodLink RL 67 yX4_falls : Cond) ∈ fg_TW := fg_t4 184 rfl rfl
theorem vm_RX4_172 : (.methodLink RX4 172 yX4_firstBy : Cond) ∈ fg_TW := fg_t4 188 rfl rfl
theorem vm_RX4_169 : (.methodLink RX4 169 yX4_isSo : Cond) ∈ fg_TW := fg_t4 192 rfl rfl
theorem vm_RL_72 : (.methodLink RL 72 yX4_bare : Cond) ∈ fg_TW := fg_t4 196 rfl rfl
theorem vm_RL_76 : (.methodLink RL 76 yX4_meet : Cond) ∈ fg_TW := fg_t4 200 rfl rfl
theorem vm_RL_80 : (.methodLink RL 80 yX4_beliefFor : Cond) ∈ fg_TW := fg_t4 204 rfl rfl
theorem vm_RX4_176 : (.methodLink RX4 176 yX4_isSoon : Cond) ∈ fg_TW := fg_t4 208 rfl rfl
theorem vm_RX4_179 : (.methodLink RX4 179 yX4_thenWith : Cond) ∈ fg_TW := fg_t4 211 rfl rfl
theorem vm_RL_84 : (.methodLink RL 84 yX4_settle : Cond) ∈ fg_TW := fg_t4 215 rfl rfl
theorem vm_RL_88 : (.methodLink RL 88 yX4_kindFor : Cond) ∈ fg_TW := fg_t4 219 rfl rfl
theorem vm_RL_92 : (.methodLink RL 92 yX4_rentFor : Cond) ∈ fg_TW := fg_t4 223 rfl rfl
theorem vm_RL_96 : (.methodLink RL 96 yX4_sunFor : Cond) ∈ fg_TW := fg_t4 227 rfl rfl
theorem vm_RX4_183 : (.methodLink RX4 183 yX4_fellBy : Cond) ∈ fg_TW := fg_t4 231 rfl rfl
theorem vm_RL_100 : (.methodLink RL 100 yX4_away : Cond) ∈ fg_TW := fg_t4 235 rfl rfl
theorem vm_RX4_186 : (.methodLink RX4 186 yX4_standsWithout : Cond) ∈ fg_TW := fg_t4 239 rfl rfl
theorem vm_RL_104 : (.methodLink RL 104 yX4_fits : Cond) ∈ fg_TW := fg_t5 3 rfl rfl
theorem vm_RX4_198 : (.methodLink RX4 198 yX4_wrongTold : Cond) ∈ fg_TW := fg_t5 7 rfl rfl
theorem vm_RX4_192 : (.methodLink RX4 192 yX4_wrongSheet : Cond) ∈ fg_TW := fg_t5 11 rfl rfl
theorem vm_RX4_189 : (.methodLink RX4 189 yX4_isSheet : Cond) ∈ fg_TW := fg_t5 15 rfl rfl
theorem vm_RX4_201 : (.methodLink RX4 201 yX4_fitsAs : Cond) ∈ fg_TW := fg_t5 18 rfl rfl
theorem vm_RX4_195 : (.methodLink RX4 195 yX4_told : Cond) ∈ fg_TW := fg_t5 22 rfl rfl
theorem vm_RL_108 : (.methodLink RL 108 yX4_believed : Cond) ∈ fg_TW := fg_t5 26 rfl rfl
theorem vm_RL_112 : (.methodLink RL 112 yX4_kinds : Cond) ∈ fg_TW := fg_t5 30 rfl rfl
theorem vm_RL_116 : (.methodLink RL 116 yX4_fine : Cond) ∈ fg_TW := fg_t5 34 rfl rfl
theorem vm_RX4_206 : (.methodLink RX4 206 yX4_draw : Cond) ∈ fg_TW := fg_t5 38 rfl rfl
theorem vm_RL_121 : (.methodLink RL 121 yX4_odds : Cond) ∈ fg_TW := fg_t5 43 rfl rfl
theorem vm_RL_125 : (.methodLink RL 125 yX4_seed : Cond) ∈ fg_TW := fg_t5 48 rfl rfl
theorem vm_RL_129 : (.methodLink RL 129 yX4_feed : Cond) ∈ fg_TW := fg_t5 52 rfl rfl
theorem vm_RL_133 : (.methodLink RL 133 yX4_wipe : Cond) ∈ fg_TW := fg_t5 56 rfl rfl
theorem vm_RL_137 : (.methodLink RL 137 yX4_text : Cond) ∈ fg_TW := fg_t5 60 rfl rfl
theorem vm_RX4_243 : (.methodLink RX4 243 yX4_nextToken : Cond) ∈ fg_TW := fg_t5 64 rfl rfl
theorem vm_RX4_227 : (.methodLink RX4 227 yX4_isLetter : Cond) ∈ fg_TW := fg_t5 68 rfl rfl
theorem vm_RX4_236 : (.methodLink RX4 236 yX4_isDigit : Cond) ∈ fg_TW := fg_t5 74 rfl rfl
theorem vm_RX4_264 : (.methodLink RX4 264 yX4_readsItem : Cond) ∈ fg_TW := fg_t5 79 rfl rfl
theorem vm_RX4_246 : (.methodLink RX4 246 yX4_wordOf : Cond) ∈ fg_TW := fg_t5 83 rfl rfl
theorem vm_RX4_253 : (.methodLink RX4 253 yX4_readsPerson : Cond) ∈ fg_TW := fg_t5 87 rfl rfl
theorem vm_RX4_250 : (.methodLink RX4 250 yX4_takesNumber : Cond) ∈ fg_TW := fg_t5 91 rfl rfl
theorem vm_RX4_256 : (.methodLink RX4 256 yX4_readsLot : Cond) ∈ fg_TW := fg_t5 95 rfl rfl
theorem vm_RX4_260 : (.methodLink RX4 260 yX4_readsSun : Cond) ∈ fg_TW := fg_t5 99 rfl rfl
theorem vm_RL_141 : (.methodLink RL 141 yX4_hold : Cond) ∈ fg_TW := fg_t5 103 rfl rfl
theorem vm_RX4_267 : (.methodLink RX4 267 yX4_isSpot : Cond) ∈ fg_TW := fg_t5 107 rfl rfl
theorem vm_RL_145 : (.methodLink RL 145 yX4_as : Cond) ∈ fg_TW := fg_t5 110 rfl rfl
theorem vm_RX4_270 : (.methodLink RX4 270 yX4_above : Cond) ∈ fg_TW := fg_t5 114 rfl rfl
theorem vm_RL_149 : (.methodLink RL 149 yX4_sheet : Cond) ∈ fg_TW := fg_t5 117 rfl rfl
theorem vm_RL_153 : (.methodLink RL 153 yX4_write : Cond) ∈ fg_TW := fg_t5 121 rfl rfl
theorem vm_RL_158 : (.methodLink RL 158 yX4_copy : Cond) ∈ fg_TW := fg_t5 125 rfl rfl
theorem vm_RL_162 : (.methodLink RL 162 yX4_load : Cond) ∈ fg_TW := fg_t5 129 rfl rfl
theorem vm_RL_166 : (.methodLink RL 166 yX4_judge : Cond) ∈ fg_TW := fg_t5 133 rfl rfl
theorem vm_RL_170 : (.methodLink RL 170 yX4_image : Cond) ∈ fg_TW := fg_t5 137 rfl rfl
theorem vm_RL_174 : (.methodLink RL 174 yX4_undo : Cond) ∈ fg_TW := fg_t5 141 rfl rfl
theorem vm_RL_178 : (.methodLink RL 178 yX4_tear : Cond) ∈ fg_TW := fg_t5 145 rfl rfl
theorem vm_RL_182 : (.methodLink RL 182 yX4_count : Cond) ∈ fg_TW := fg_t5 149 rfl rfl
theorem vm_RL_186 : (.methodLink RL 186 yX4_status : Cond) ∈ fg_TW := fg_t5 153 rfl rfl
theorem vc_RX3_228 : (.constant RX3 228 (-1000001) : Cond) ∈ fg_TW := fg_t1 183 rfl rfl
theorem vc_RX3_128 : (.constant RX3 128 (99999) : Cond) ∈ fg_TW := fg_t2 29 rfl rfl
theorem vc_RX2_99 : (.constant RX2 99 (99999) : Cond) ∈ fg_TW := fg_t2 75 rfl rfl
theorem vc_RJ6_265 : (.constant RJ6 265 (1431655765) : Cond) ∈ fg_TW := fg_t2 144 rfl rfl
theorem vc_RJ6_266 : (.constant RJ6 266 (858993459) : Cond) ∈ fg_TW := fg_t2 145 rfl rfl
theorem vc_RJ6_267 : (.constant RJ6 267 (252645135) : Cond) ∈ fg_TW := fg_t2 146 rfl rfl
theorem vc_RX2_75 : (.constant RX2 75 (1103515245) : Cond) ∈ fg_TW := fg_t2 186 rfl rfl
theorem vc_RX4_60 : (.constant RX4 60 (-1000001) : Cond) ∈ fg_TW := fg_t4 24 rfl rfl
theorem vc_RX4_122 : (.constant RX4 122 (99999) : Cond) ∈ fg_TW := fg_t4 112 rfl rfl
theorem vc_RX4_205 : (.constant RX4 205 (1103515245) : Cond) ∈ fg_TW := fg_t5 42 rfl rfl
theorem vl_RX4_209 : (.constantLong RX4 209 (10) : Cond) ∈ fg_TW := fg_t5 47 rfl rfl
theorem vl_RX4_230 : (.constantLong RX4 230 (9999999999999) : Cond) ∈ fg_TW := fg_t5 71 rfl rfl
theorem vl_RX4_232 : (.constantLong RX4 232 (27) : Cond) ∈ fg_TW := fg_t5 72 rfl rfl
theorem vl_RX4_234 : (.constantLong RX4 234 (96) : Cond) ∈ fg_TW := fg_t5 73 rfl rfl
theorem vl_RX4_239 : (.constantLong RX4 239 (9999) : Cond) ∈ fg_TW := fg_t5 77 rfl rfl
theorem vl_RX4_241 : (.constantLong RX4 241 (48) : Cond) ∈ fg_TW := fg_t5 78 rfl rfl
theorem vk_X3_init : (.code yX3_init cX3_init 2 none : Cond) ∈ fg_TW := fg_t1 17 rfl rfl
theorem vk_X2_init : (.code yX2_init cX2_init 2 none : Cond) ∈ fg_TW := fg_t1 25 rfl rfl
theorem vk_X1_init : (.code yX1_init cX1_init 1 none : Cond) ∈ fg_TW := fg_t1 104 rfl rfl
theorem vk_X0_init : (.code yX0_init cX0_init 1 none : Cond) ∈ fg_TW := fg_t1 135 rfl rfl
theorem vk_X3_lot : (.code yX3_lot cX3_lot 4 (some .int) : Cond) ∈ fg_TW := fg_t1 175 rfl rfl
theorem vk_X3_isLot : (.code yX3_isLot cX3_isLot 1 (some .boolean) : Cond) ∈ fg_TW := fg_t1 178 rfl rfl
theorem vk_X3_finding : (.code yX3_finding cX3_finding 2 (some .int) : Cond) ∈ fg_TW := fg_t1 182 rfl rfl
theorem vk_X3_within : (.code yX3_within cX3_within 3 (some .boolean) : Cond) ∈ fg_TW := fg_t1 186 rfl rfl
theorem vk_X3_exchange : (.code yX3_exchange cX3_exchange 4 (some .int) : Cond) ∈ fg_TW := fg_t1 189 rfl rfl
theorem vk_X2_isPerson : (.code yX2_isPerson cX2_isPerson 2 (some .boolean) : Cond) ∈ fg_TW := fg_t1 193 rfl rfl
theorem vk_X3_lotOf : (.code yX3_lotOf cX3_lotOf 3 (some .int) : Cond) ∈ fg_TW := fg_t1 197 rfl rfl
theorem vk_X2_thoseOn : (.code yX2_thoseOn cX2_thoseOn 4 (some .int) : Cond) ∈ fg_TW := fg_t1 201 rfl rfl
theorem vk_X2_thoseStanding : (.code yX2_thoseStanding cX2_thoseStanding 4 (some .int) : Cond) ∈ fg_TW := fg_t1 205 rfl rfl
theorem vk_X2_stands : (.code yX2_stands cX2_stands 3 (some .boolean) : Cond) ∈ fg_TW := fg_t1 209 rfl rfl
theorem vk_X2_trustOf : (.code yX2_trustOf cX2_trustOf 7 (some .int) : Cond) ∈ fg_TW := fg_t1 213 rfl rfl
theorem vk_X3_sun : (.code yX3_sun cX3_sun 3 (some .int) : Cond) ∈ fg_TW := fg_t1 217 rfl rfl
theorem vk_X3_mist : (.code yX3_mist cX3_mist 3 (some .int) : Cond) ∈ fg_TW := fg_t1 221 rfl rfl
theorem vk_X3_person : (.code yX3_person cX3_person 2 (some .int) : Cond) ∈ fg_TW := fg_t1 225 rfl rfl
theorem vk_X3_isKind : (.code yX3_isKind cX3_isKind 1 (some .boolean) : Cond) ∈ fg_TW := fg_t1 228 rfl rfl
theorem vk_X2_add : (.code yX2_add cX2_add 3 (some .int) : Cond) ∈ fg_TW := fg_t1 232 rfl rfl
theorem vk_X3_of : (.code yX3_of cX3_of 3 (some .int) : Cond) ∈ fg_TW := fg_t1 236 rfl rfl
theorem vk_X3_losesOf : (.code yX3_losesOf cX3_losesOf 1 (some .int) : Cond) ∈ fg_TW := fg_t1 239 rfl rfl
theorem vk_X2_lotMadeFor : (.code yX2_lotMadeFor cX2_lotMadeFor 4 (some .int) : Cond) ∈ fg_TW := fg_t2 3 rfl rfl
theorem vk_X2_prefers : (.code yX2_prefers cX2_prefers 4 (some .boolean) : Cond) ∈ fg_TW := fg_t2 7 rfl rfl
theorem vk_X2_lotsOwnedBy : (.code yX2_lotsOwnedBy cX2_lotsOwnedBy 4 (some .int) : Cond) ∈ fg_TW := fg_t2 11 rfl rfl
theorem vk_X2_valueOf : (.code yX2_valueOf cX2_valueOf 3 (some .int) : Cond) ∈ fg_TW := fg_t2 15 rfl rfl
theorem vk_X3_change : (.code yX3_change cX3_change 4 (some .int) : Cond) ∈ fg_TW := fg_t2 19 rfl rfl
theorem vk_X3_trust : (.code yX3_trust cX3_trust 3 (some .int) : Cond) ∈ fg_TW := fg_t2 23 rfl rfl
theorem vk_X3_go : (.code yX3_go cX3_go 2 (some .int) : Cond) ∈ fg_TW := fg_t2 28 rfl rfl
theorem vk_X2_passDays : (.code yX2_passDays cX2_passDays 3 none : Cond) ∈ fg_TW := fg_t2 33 rfl rfl
theorem vk_X2_thinAndThicken : (.code yX2_thinAndThicken cX2_thinAndThicken 3 none : Cond) ∈ fg_TW := fg_t2 37 rfl rfl
theorem vk_J9_min_7cf53 : (.code yJ9_min_7cf53 cJ9_min_7cf53 2 (some .int) : Cond) ∈ fg_TW := fg_t2 40 rfl rfl
theorem vk_J9_max_7cf53 : (.code yJ9_max_7cf53 cJ9_max_7cf53 2 (some .int) : Cond) ∈ fg_TW := fg_t2 43 rfl rfl
theorem vk_X2_spreadFog : (.code yX2_spreadFog cX2_spreadFog 2 none : Cond) ∈ fg_TW := fg_t2 47 rfl rfl
theorem vk_X2_movePeople : (.code yX2_movePeople cX2_movePeople 2 none : Cond) ∈ fg_TW := fg_t2 51 rfl rfl
theorem vk_X2_isGone : (.code yX2_isGone cX2_isGone 2 (some .boolean) : Cond) ∈ fg_TW := fg_t2 55 rfl rfl
theorem vk_X2_fall : (.code yX2_fall cX2_fall 2 none : Cond) ∈ fg_TW := fg_t2 60 rfl rfl
theorem vk_X2_payRents : (.code yX2_payRents cX2_payRents 4 none : Cond) ∈ fg_TW := fg_t2 65 rfl rfl
theorem vk_X2_spreadBelief : (.code yX2_spreadBelief cX2_spreadBelief 3 none : Cond) ∈ fg_TW := fg_t2 70 rfl rfl
theorem vk_X2_greatestBeliefBeside : (.code yX2_greatestBeliefBeside cX2_greatestBeliefBeside 4 (some .int) : Cond) ∈ fg_TW := fg_t2 74 rfl rfl
theorem vk_X2_thoseOnLots : (.code yX2_thoseOnLots cX2_thoseOnLots 3 (some .int) : Cond) ∈ fg_TW := fg_t2 79 rfl rfl
theorem vk_X3_now : (.code yX3_now cX3_now 2 (some .int) : Cond) ∈ fg_TW := fg_t2 83 rfl rfl
theorem vk_X3_sumOf : (.code yX3_sumOf cX3_sumOf 4 (some .int) : Cond) ∈ fg_TW := fg_t2 86 rfl rfl
theorem vk_X3_firstGreatest : (.code yX3_firstGreatest cX3_firstGreatest 4 (some .int) : Cond) ∈ fg_TW := fg_t2 89 rfl rfl
theorem vk_X3_ahead : (.code yX3_ahead cX3_ahead 4 (some .int) : Cond) ∈ fg_TW := fg_t2 93 rfl rfl
theorem vk_X2_become : (.code yX2_become cX2_become 2 none : Cond) ∈ fg_TW := fg_t2 97 rfl rfl
theorem vk_X3_fog : (.code yX3_fog cX3_fog 3 (some .int) : Cond) ∈ fg_TW := fg_t2 104 rfl rfl
theorem vk_X3_falls : (.code yX3_falls cX3_falls 3 (some .int) : Cond) ∈ fg_TW := fg_t2 108 rfl rfl
theorem vk_X3_bare : (.code yX3_bare cX3_bare 2 (some .int) : Cond) ∈ fg_TW := fg_t2 112 rfl rfl
theorem vk_X3_meet : (.code yX3_meet cX3_meet 4 (some .int) : Cond) ∈ fg_TW := fg_t2 116 rfl rfl
theorem vk_X3_beliefFor : (.code yX3_beliefFor cX3_beliefFor 5 (some .int) : Cond) ∈ fg_TW := fg_t2 120 rfl rfl
theorem vk_X3_settle : (.code yX3_settle cX3_settle 6 (some .int) : Cond) ∈ fg_TW := fg_t2 124 rfl rfl
theorem vk_X3_kindFor : (.code yX3_kindFor cX3_kindFor 6 (some .int) : Cond) ∈ fg_TW := fg_t2 128 rfl rfl
theorem vk_X3_rentFor : (.code yX3_rentFor cX3_rentFor 7 (some .int) : Cond) ∈ fg_TW := fg_t2 132 rfl rfl
theorem vk_X3_sunFor : (.code yX3_sunFor cX3_sunFor 5 (some .int) : Cond) ∈ fg_TW := fg_t2 136 rfl rfl
theorem vk_X3_away : (.code yX3_away cX3_away 7 (some .int) : Cond) ∈ fg_TW := fg_t2 140 rfl rfl
theorem vk_J6_bitCount_0f7a4 : (.code yJ6_bitCount_0f7a4 cJ6_bitCount_0f7a4 1 (some .int) : Cond) ∈ fg_TW := fg_t2 143 rfl rfl
theorem vk_X2_sendAway : (.code yX2_sendAway cX2_sendAway 3 none : Cond) ∈ fg_TW := fg_t2 150 rfl rfl
theorem vk_X3_fits : (.code yX3_fits cX3_fits 6 (some .int) : Cond) ∈ fg_TW := fg_t2 154 rfl rfl
theorem vk_X3_faultOfTold : (.code yX3_faultOfTold cX3_faultOfTold 3 (some .int) : Cond) ∈ fg_TW := fg_t2 158 rfl rfl
theorem vk_X3_isSheet : (.code yX3_isSheet cX3_isSheet 1 (some .boolean) : Cond) ∈ fg_TW := fg_t2 161 rfl rfl
theorem vk_X0_isMissing : (.code yX0_isMissing cX0_isMissing 1 (some .boolean) : Cond) ∈ fg_TW := fg_t2 165 rfl rfl
theorem vk_X3_goesAsTold : (.code yX3_goesAsTold cX3_goesAsTold 5 (some .boolean) : Cond) ∈ fg_TW := fg_t2 169 rfl rfl
theorem vk_X3_believed : (.code yX3_believed cX3_believed 5 (some .int) : Cond) ∈ fg_TW := fg_t2 173 rfl rfl
theorem vk_X3_kinds : (.code yX3_kinds cX3_kinds 6 (some .int) : Cond) ∈ fg_TW := fg_t2 177 rfl rfl
theorem vk_X3_fine : (.code yX3_fine cX3_fine 3 (some .int) : Cond) ∈ fg_TW := fg_t2 181 rfl rfl
theorem vk_X2_draw : (.code yX2_draw cX2_draw 1 (some .int) : Cond) ∈ fg_TW := fg_t2 185 rfl rfl
theorem vk_X3_odds : (.code yX3_odds cX3_odds 10 (some .long) : Cond) ∈ fg_TW := fg_t2 190 rfl rfl
theorem vk_X3_greatestCommon : (.code yX3_greatestCommon cX3_greatestCommon 4 (some .int) : Cond) ∈ fg_TW := fg_t2 194 rfl rfl
theorem vk_X3_seed : (.code yX3_seed cX3_seed 3 (some .int) : Cond) ∈ fg_TW := fg_t2 198 rfl rfl
theorem vk_X3_feed : (.code yX3_feed cX3_feed 4 (some .int) : Cond) ∈ fg_TW := fg_t2 202 rfl rfl
theorem vk_X1_append : (.code yX1_append cX1_append 2 none : Cond) ∈ fg_TW := fg_t2 206 rfl rfl
theorem vk_X3_wipe : (.code yX3_wipe cX3_wipe 2 (some .int) : Cond) ∈ fg_TW := fg_t2 210 rfl rfl
theorem vk_X3_text : (.code yX3_text cX3_text 2 (some .int) : Cond) ∈ fg_TW := fg_t2 214 rfl rfl
theorem vk_X1_tellTo : (.code yX1_tellTo cX1_tellTo 4 (some .int) : Cond) ∈ fg_TW := fg_t2 218 rfl rfl
theorem vk_X1_nextToken : (.code yX1_nextToken cX1_nextToken 1 none : Cond) ∈ fg_TW := fg_t2 222 rfl rfl
theorem vk_X1_isLetter : (.code yX1_isLetter cX1_isLetter 1 (some .boolean) : Cond) ∈ fg_TW := fg_t2 225 rfl rfl
theorem vk_X1_readWord : (.code yX1_readWord cX1_readWord 1 none : Cond) ∈ fg_TW := fg_t2 229 rfl rfl
theorem vk_X1_isDigit : (.code yX1_isDigit cX1_isDigit 1 (some .boolean) : Cond) ∈ fg_TW := fg_t2 232 rfl rfl
theorem vk_X1_readNumber : (.code yX1_readNumber cX1_readNumber 1 none : Cond) ∈ fg_TW := fg_t2 236 rfl rfl
theorem vk_X1_tellItem : (.code yX1_tellItem cX1_tellItem 3 none : Cond) ∈ fg_TW := fg_t3 1 rfl rfl
theorem vk_X1_kindOfWord : (.code yX1_kindOfWord cX1_kindOfWord 1 (some .int) : Cond) ∈ fg_TW := fg_t3 5 rfl rfl
theorem vk_X1_isWord : (.code yX1_isWord cX1_isWord 3 (some .boolean) : Cond) ∈ fg_TW := fg_t3 10 rfl rfl
theorem vk_J0_length_8abf5 : (.code yJ0_length_8abf5 cJ0_length_8abf5 1 (some .int) : Cond) ∈ fg_TW := fg_t3 14 rfl rfl
theorem vk_J0_coder_7d493 : (.code yJ0_coder_7d493 cJ0_coder_7d493 1 (some .byte) : Cond) ∈ fg_TW := fg_t3 18 rfl rfl
theorem vk_J0_charAt_5068e : (.code yJ0_charAt_5068e cJ0_charAt_5068e 2 (some .char) : Cond) ∈ fg_TW := fg_t3 24 rfl rfl
theorem vk_J0_isLatin1_aae02 : (.code yJ0_isLatin1_aae02 cJ0_isLatin1_aae02 1 (some .boolean) : Cond) ∈ fg_TW := fg_t3 28 rfl rfl
theorem vk_J1_charAt_3b067 : (.code yJ1_charAt_3b067 cJ1_charAt_3b067 2 (some .char) : Cond) ∈ fg_TW := fg_t3 31 rfl rfl
theorem vk_J0_checkIndex_df160 : (.code yJ0_checkIndex_df160 cJ0_checkIndex_df160 2 none : Cond) ∈ fg_TW := fg_t3 34 rfl rfl
theorem vk_J3_checkIndex_8e157 : (.code yJ3_checkIndex_8e157 cJ3_checkIndex_8e157 3 (some .int) : Cond) ∈ fg_TW := fg_t3 39 rfl rfl
theorem vk_J2_charAt_3b067 : (.code yJ2_charAt_3b067 cJ2_charAt_3b067 2 (some .char) : Cond) ∈ fg_TW := fg_t3 42 rfl rfl
theorem vk_J2_checkIndex_2214a : (.code yJ2_checkIndex_2214a cJ2_checkIndex_2214a 2 none : Cond) ∈ fg_TW := fg_t3 45 rfl rfl
theorem vk_J2_length_9d52b : (.code yJ2_length_9d52b cJ2_length_9d52b 1 (some .int) : Cond) ∈ fg_TW := fg_t3 48 rfl rfl
theorem vk_J2_getChar_3b067 : (.code yJ2_getChar_3b067 cJ2_getChar_3b067 2 (some .char) : Cond) ∈ fg_TW := fg_t3 52 rfl rfl
theorem vk_X1_tellPerson : (.code yX1_tellPerson cX1_tellPerson 4 none : Cond) ∈ fg_TW := fg_t3 68 rfl rfl
theorem vk_X1_faultHere : (.code yX1_faultHere cX1_faultHere 1 none : Cond) ∈ fg_TW := fg_t3 72 rfl rfl
theorem vk_X1_took : (.code yX1_took cX1_took 3 (some .boolean) : Cond) ∈ fg_TW := fg_t3 78 rfl rfl
theorem vk_X1_takeNumber : (.code yX1_takeNumber cX1_takeNumber 3 (some .int) : Cond) ∈ fg_TW := fg_t3 82 rfl rfl
theorem vk_X1_tellLot : (.code yX1_tellLot cX1_tellLot 3 none : Cond) ∈ fg_TW := fg_t3 89 rfl rfl
theorem vk_X1_tellSun : (.code yX1_tellSun cX1_tellSun 4 none : Cond) ∈ fg_TW := fg_t3 98 rfl rfl
theorem vk_X3_hold : (.code yX3_hold cX3_hold 3 (some .int) : Cond) ∈ fg_TW := fg_t3 104 rfl rfl
theorem vk_X3_as : (.code yX3_as cX3_as 4 (some .int) : Cond) ∈ fg_TW := fg_t3 108 rfl rfl
theorem vk_X3_isUnder : (.code yX3_isUnder cX3_isUnder 4 (some .boolean) : Cond) ∈ fg_TW := fg_t3 111 rfl rfl
theorem vk_X3_kindAbove : (.code yX3_kindAbove cX3_kindAbove 1 (some .int) : Cond) ∈ fg_TW := fg_t3 114 rfl rfl
theorem vk_X3_sheet : (.code yX3_sheet cX3_sheet 5 (some .int) : Cond) ∈ fg_TW := fg_t3 118 rfl rfl
theorem vk_X0_begin : (.code yX0_begin cX0_begin 4 none : Cond) ∈ fg_TW := fg_t3 122 rfl rfl
theorem vk_X3_write : (.code yX3_write cX3_write 4 (some .int) : Cond) ∈ fg_TW := fg_t3 126 rfl rfl
theorem vk_X0_put : (.code yX0_put cX0_put 3 none : Cond) ∈ fg_TW := fg_t3 130 rfl rfl
theorem vk_X3_copy : (.code yX3_copy cX3_copy 6 (some .int) : Cond) ∈ fg_TW := fg_t3 134 rfl rfl
theorem vk_X0_has : (.code yX0_has cX0_has 3 (some .boolean) : Cond) ∈ fg_TW := fg_t3 138 rfl rfl
theorem vk_X3_load : (.code yX3_load cX3_load 4 (some .int) : Cond) ∈ fg_TW := fg_t3 143 rfl rfl
theorem vk_X3_judge : (.code yX3_judge cX3_judge 4 (some .int) : Cond) ∈ fg_TW := fg_t3 147 rfl rfl
theorem vk_X3_image : (.code yX3_image cX3_image 1 (some .int) : Cond) ∈ fg_TW := fg_t3 151 rfl rfl
theorem vk_X3_undo : (.code yX3_undo cX3_undo 1 (some .int) : Cond) ∈ fg_TW := fg_t3 155 rfl rfl
theorem vk_X3_tear : (.code yX3_tear cX3_tear 2 (some .int) : Cond) ∈ fg_TW := fg_t3 159 rfl rfl
theorem vk_X3_count : (.code yX3_count cX3_count 2 (some .int) : Cond) ∈ fg_TW := fg_t3 163 rfl rfl
theorem vk_X2_spotsHeld : (.code yX2_spotsHeld cX2_spotsHeld 3 (some .int) : Cond) ∈ fg_TW := fg_t3 167 rfl rfl
theorem vk_X3_status : (.code yX3_status cX3_status 2 (some .int) : Cond) ∈ fg_TW := fg_t3 171 rfl rfl
theorem vk_X4_init : (.code yX4_init cX4_init 2 none : Cond) ∈ fg_TW := fg_t3 176 rfl rfl
theorem vk_X4_lays1 : (.code yX4_lays1 cX4_lays1 4 none : Cond) ∈ fg_TW := fg_t3 181 rfl rfl
theorem vk_X4_lot : (.code yX4_lot cX4_lot 5 (some .int) : Cond) ∈ fg_TW := fg_t4 13 rfl rfl
theorem vk_X4_isLot : (.code yX4_isLot cX4_isLot 1 (some .boolean) : Cond) ∈ fg_TW := fg_t4 16 rfl rfl
theorem vk_X4_in1 : (.code yX4_in1 cX4_in1 3 (some .boolean) : Cond) ∈ fg_TW := fg_t4 19 rfl rfl
theorem vk_X4_no : (.code yX4_no cX4_no 2 (some .int) : Cond) ∈ fg_TW := fg_t4 23 rfl rfl
theorem vk_X4_of1 : (.code yX4_of1 cX4_of1 3 (some .int) : Cond) ∈ fg_TW := fg_t4 28 rfl rfl
theorem vk_X4_lotOf : (.code yX4_lotOf cX4_lotOf 3 (some .int) : Cond) ∈ fg_TW := fg_t4 32 rfl rfl
theorem vk_X4_whoIsOn : (.code yX4_whoIsOn cX4_whoIsOn 4 (some .int) : Cond) ∈ fg_TW := fg_t4 36 rfl rfl
theorem vk_X4_get : (.code yX4_get cX4_get 3 (some .int) : Cond) ∈ fg_TW := fg_t4 40 rfl rfl
theorem vk_X4_standing : (.code yX4_standing cX4_standing 4 (some .int) : Cond) ∈ fg_TW := fg_t4 44 rfl rfl
theorem vk_X4_stands : (.code yX4_stands cX4_stands 3 (some .boolean) : Cond) ∈ fg_TW := fg_t4 48 rfl rfl
theorem vk_X4_trustOf : (.code yX4_trustOf cX4_trustOf 5 (some .int) : Cond) ∈ fg_TW := fg_t4 52 rfl rfl
theorem vk_X4_bits : (.code yX4_bits cX4_bits 3 (some .int) : Cond) ∈ fg_TW := fg_t4 55 rfl rfl
theorem vk_X4_sun : (.code yX4_sun cX4_sun 4 (some .int) : Cond) ∈ fg_TW := fg_t4 59 rfl rfl
theorem vk_X4_mist : (.code yX4_mist cX4_mist 3 (some .int) : Cond) ∈ fg_TW := fg_t4 63 rfl rfl
theorem vk_X4_person : (.code yX4_person cX4_person 2 (some .int) : Cond) ∈ fg_TW := fg_t4 67 rfl rfl
theorem vk_X4_adds : (.code yX4_adds cX4_adds 3 none : Cond) ∈ fg_TW := fg_t4 71 rfl rfl
theorem vk_X4_puts : (.code yX4_puts cX4_puts 4 none : Cond) ∈ fg_TW := fg_t4 75 rfl rfl
theorem vk_X4_of : (.code yX4_of cX4_of 3 (some .int) : Cond) ∈ fg_TW := fg_t4 79 rfl rfl
theorem vk_X4_isPerson : (.code yX4_isPerson cX4_isPerson 2 (some .boolean) : Cond) ∈ fg_TW := fg_t4 83 rfl rfl
theorem vk_X4_losesOf : (.code yX4_losesOf cX4_losesOf 2 (some .int) : Cond) ∈ fg_TW := fg_t4 87 rfl rfl
theorem vk_X4_makesFor : (.code yX4_makesFor cX4_makesFor 4 (some .int) : Cond) ∈ fg_TW := fg_t4 91 rfl rfl
theorem vk_X4_isBetter : (.code yX4_isBetter cX4_isBetter 6 (some .boolean) : Cond) ∈ fg_TW := fg_t4 95 rfl rfl
theorem vk_X4_ownedBy : (.code yX4_ownedBy cX4_ownedBy 4 (some .int) : Cond) ∈ fg_TW := fg_t4 99 rfl rfl
theorem vk_X4_change : (.code yX4_change cX4_change 5 (some .int) : Cond) ∈ fg_TW := fg_t4 103 rfl rfl
theorem vk_X4_trust : (.code yX4_trust cX4_trust 3 (some .int) : Cond) ∈ fg_TW := fg_t4 107 rfl rfl
theorem vk_X4_go : (.code yX4_go cX4_go 2 (some .int) : Cond) ∈ fg_TW := fg_t4 111 rfl rfl
theorem vk_X4_goes : (.code yX4_goes cX4_goes 3 none : Cond) ∈ fg_TW := fg_t4 116 rfl rfl
theorem vk_X4_day : (.code yX4_day cX4_day 2 none : Cond) ∈ fg_TW := fg_t4 120 rfl rfl
theorem vk_X4_drifts : (.code yX4_drifts cX4_drifts 3 none : Cond) ∈ fg_TW := fg_t4 124 rfl rfl
theorem vk_X4_less : (.code yX4_less cX4_less 2 (some .int) : Cond) ∈ fg_TW := fg_t4 127 rfl rfl
theorem vk_X4_isAway : (.code yX4_isAway cX4_isAway 2 (some .boolean) : Cond) ∈ fg_TW := fg_t4 131 rfl rfl
theorem vk_X4_moves : (.code yX4_moves cX4_moves 4 none : Cond) ∈ fg_TW := fg_t4 135 rfl rfl
theorem vk_X4_pays : (.code yX4_pays cX4_pays 5 none : Cond) ∈ fg_TW := fg_t4 139 rfl rfl
theorem vk_X4_finds : (.code yX4_finds cX4_finds 5 none : Cond) ∈ fg_TW := fg_t4 143 rfl rfl
theorem vk_X4_onLots : (.code yX4_onLots cX4_onLots 1 (some .int) : Cond) ∈ fg_TW := fg_t4 147 rfl rfl
theorem vk_X4_now : (.code yX4_now cX4_now 2 (some .int) : Cond) ∈ fg_TW := fg_t4 151 rfl rfl
theorem vk_X4_fogs : (.code yX4_fogs cX4_fogs 3 (some .int) : Cond) ∈ fg_TW := fg_t4 155 rfl rfl
theorem vk_X4_sumOf : (.code yX4_sumOf cX4_sumOf 4 (some .int) : Cond) ∈ fg_TW := fg_t4 159 rfl rfl
theorem vk_X4_mostFog : (.code yX4_mostFog cX4_mostFog 3 (some .int) : Cond) ∈ fg_TW := fg_t4 163 rfl rfl
theorem vk_X4_richest : (.code yX4_richest cX4_richest 3 (some .int) : Cond) ∈ fg_TW := fg_t4 167 rfl rfl
theorem vk_X4_ahead : (.code yX4_ahead cX4_ahead 5 (some .int) : Cond) ∈ fg_TW := fg_t4 171 rfl rfl
theorem vk_X4_setsAside : (.code yX4_setsAside cX4_setsAside 2 none : Cond) ∈ fg_TW := fg_t4 175 rfl rfl
theorem vk_X4_laysBack : (.code yX4_laysBack cX4_laysBack 2 none : Cond) ∈ fg_TW := fg_t4 179 rfl rfl
theorem vk_X4_fog : (.code yX4_fog cX4_fog 4 (some .int) : Cond) ∈ fg_TW := fg_t4 183 rfl rfl
theorem vk_X4_falls : (.code yX4_falls cX4_falls 2 (some .int) : Cond) ∈ fg_TW := fg_t4 187 rfl rfl
theorem vk_X4_firstBy : (.code yX4_firstBy cX4_firstBy 5 (some .int) : Cond) ∈ fg_TW := fg_t4 191 rfl rfl
theorem vk_X4_isSo : (.code yX4_isSo cX4_isSo 4 (some .boolean) : Cond) ∈ fg_TW := fg_t4 195 rfl rfl
theorem vk_X4_bare : (.code yX4_bare cX4_bare 1 (some .int) : Cond) ∈ fg_TW := fg_t4 199 rfl rfl
theorem vk_X4_meet : (.code yX4_meet cX4_meet 3 (some .int) : Cond) ∈ fg_TW := fg_t4 203 rfl rfl
theorem vk_X4_beliefFor : (.code yX4_beliefFor cX4_beliefFor 4 (some .int) : Cond) ∈ fg_TW := fg_t4 207 rfl rfl
theorem vk_X4_isSoon : (.code yX4_isSoon cX4_isSoon 1 (some .boolean) : Cond) ∈ fg_TW := fg_t4 210 rfl rfl
theorem vk_X4_thenWith : (.code yX4_thenWith cX4_thenWith 7 (some .int) : Cond) ∈ fg_TW := fg_t4 214 rfl rfl
theorem vk_X4_settle : (.code yX4_settle cX4_settle 7 (some .int) : Cond) ∈ fg_TW := fg_t4 218 rfl rfl
theorem vk_X4_kindFor : (.code yX4_kindFor cX4_kindFor 7 (some .int) : Cond) ∈ fg_TW := fg_t4 222 rfl rfl
theorem vk_X4_rentFor : (.code yX4_rentFor cX4_rentFor 8 (some .int) : Cond) ∈ fg_TW := fg_t4 226 rfl rfl
theorem vk_X4_sunFor : (.code yX4_sunFor cX4_sunFor 3 (some .int) : Cond) ∈ fg_TW := fg_t4 230 rfl rfl
theorem vk_X4_fellBy : (.code yX4_fellBy cX4_fellBy 4 (some .int) : Cond) ∈ fg_TW := fg_t4 234 rfl rfl
theorem vk_X4_away : (.code yX4_away cX4_away 6 (some .int) : Cond) ∈ fg_TW := fg_t4 238 rfl rfl
theorem vk_X4_standsWithout : (.code yX4_standsWithout cX4_standsWithout 5 (some .boolean) : Cond) ∈ fg_TW := fg_t5 2 rfl rfl
theorem vk_X4_fits : (.code yX4_fits cX4_fits 6 (some .int) : Cond) ∈ fg_TW := fg_t5 6 rfl rfl
theorem vk_X4_wrongTold : (.code yX4_wrongTold cX4_wrongTold 4 (some .int) : Cond) ∈ fg_TW := fg_t5 10 rfl rfl
theorem vk_X4_wrongSheet : (.code yX4_wrongSheet cX4_wrongSheet 2 (some .int) : Cond) ∈ fg_TW := fg_t5 14 rfl rfl
theorem vk_X4_isSheet : (.code yX4_isSheet cX4_isSheet 1 (some .boolean) : Cond) ∈ fg_TW := fg_t5 17 rfl rfl
theorem vk_X4_fitsAs : (.code yX4_fitsAs cX4_fitsAs 7 (some .boolean) : Cond) ∈ fg_TW := fg_t5 21 rfl rfl
theorem vk_X4_told : (.code yX4_told cX4_told 3 (some .int) : Cond) ∈ fg_TW := fg_t5 25 rfl rfl
theorem vk_X4_believed : (.code yX4_believed cX4_believed 5 (some .int) : Cond) ∈ fg_TW := fg_t5 29 rfl rfl
theorem vk_X4_kinds : (.code yX4_kinds cX4_kinds 6 (some .int) : Cond) ∈ fg_TW := fg_t5 33 rfl rfl
theorem vk_X4_fine : (.code yX4_fine cX4_fine 3 (some .int) : Cond) ∈ fg_TW := fg_t5 37 rfl rfl
theorem vk_X4_draw : (.code yX4_draw cX4_draw 1 (some .int) : Cond) ∈ fg_TW := fg_t5 41 rfl rfl
theorem vk_X4_odds : (.code yX4_odds cX4_odds 15 (some .long) : Cond) ∈ fg_TW := fg_t5 46 rfl rfl
theorem vk_X4_seed : (.code yX4_seed cX4_seed 3 (some .int) : Cond) ∈ fg_TW := fg_t5 51 rfl rfl
theorem vk_X4_feed : (.code yX4_feed cX4_feed 4 (some .int) : Cond) ∈ fg_TW := fg_t5 55 rfl rfl
theorem vk_X4_wipe : (.code yX4_wipe cX4_wipe 2 (some .int) : Cond) ∈ fg_TW := fg_t5 59 rfl rfl
theorem vk_X4_text : (.code yX4_text cX4_text 3 (some .int) : Cond) ∈ fg_TW := fg_t5 63 rfl rfl
theorem vk_X4_nextToken : (.code yX4_nextToken cX4_nextToken 1 none : Cond) ∈ fg_TW := fg_t5 67 rfl rfl
theorem vk_X4_isLetter : (.code yX4_isLetter cX4_isLetter 1 (some .boolean) : Cond) ∈ fg_TW := fg_t5 70 rfl rfl
theorem vk_X4_isDigit : (.code yX4_isDigit cX4_isDigit 1 (some .boolean) : Cond) ∈ fg_TW := fg_t5 76 rfl rfl
theorem vk_X4_readsItem : (.code yX4_readsItem cX4_readsItem 3 (some .boolean) : Cond) ∈ fg_TW := fg_t5 82 rfl rfl
theorem vk_X4_wordOf : (.code yX4_wordOf cX4_wordOf 7 (some .int) : Cond) ∈ fg_TW := fg_t5 86 rfl rfl
theorem vk_X4_readsPerson : (.code yX4_readsPerson cX4_readsPerson 5 (some .boolean) : Cond) ∈ fg_TW := fg_t5 90 rfl rfl
theorem vk_X4_takesNumber : (.code yX4_takesNumber cX4_takesNumber 4 (some .int) : Cond) ∈ fg_TW := fg_t5 94 rfl rfl
theorem vk_X4_readsLot : (.code yX4_readsLot cX4_readsLot 4 (some .boolean) : Cond) ∈ fg_TW := fg_t5 98 rfl rfl
theorem vk_X4_readsSun : (.code yX4_readsSun cX4_readsSun 4 (some .boolean) : Cond) ∈ fg_TW := fg_t5 102 rfl rfl
theorem vk_X4_hold : (.code yX4_hold cX4_hold 3 (some .int) : Cond) ∈ fg_TW := fg_t5 106 rfl rfl
theorem vk_X4_isSpot : (.code yX4_isSpot cX4_isSpot 1 (some .boolean) : Cond) ∈ fg_TW := fg_t5 109 rfl rfl
theorem vk_X4_as : (.code yX4_as cX4_as 5 (some .int) : Cond) ∈ fg_TW := fg_t5 113 rfl rfl
theorem vk_X4_above : (.code yX4_above cX4_above 1 (some .int) : Cond) ∈ fg_TW := fg_t5 116 rfl rfl
theorem vk_X4_sheet : (.code yX4_sheet cX4_sheet 5 (some .int) : Cond) ∈ fg_TW := fg_t5 120 rfl rfl
theorem vk_X4_write : (.code yX4_write cX4_write 5 (some .int) : Cond) ∈ fg_TW := fg_t5 124 rfl rfl
theorem vk_X4_copy : (.code yX4_copy cX4_copy 7 (some .int) : Cond) ∈ fg_TW := fg_t5 128 rfl rfl
theorem vk_X4_load : (.code yX4_load cX4_load 4 (some .int) : Cond) ∈ fg_TW := fg_t5 132 rfl rfl
theorem vk_X4_judge : (.code yX4_judge cX4_judge 4 (some .int) : Cond) ∈ fg_TW := fg_t5 136 rfl rfl
theorem vk_X4_image : (.code yX4_image cX4_image 2 (some .int) : Cond) ∈ fg_TW := fg_t5 140 rfl rfl
theorem vk_X4_undo : (.code yX4_undo cX4_undo 2 (some .int) : Cond) ∈ fg_TW := fg_t5 144 rfl rfl
theorem vk_X4_tear : (.code yX4_tear cX4_tear 2 (some .int) : Cond) ∈ fg_TW := fg_t5 148 rfl rfl
theorem vk_X4_count : (.code yX4_count cX4_count 4 (some .int) : Cond) ∈ fg_TW := fg_t5 152 rfl rfl
theorem vk_X4_status : (.code yX4_status cX4_status 4 (some .int) : Cond) ∈ fg_TW := fg_t5 156 rfl rfl
theorem vh_X3_init : (.instanceMethod yX3_init : Cond) ∈ fg_TW := fg_t1 16 rfl rfl
theorem vh_X2_init : (.instanceMethod yX2_init : Cond) ∈ fg_TW := fg_t1 24 rfl rfl
theorem vh_X1_init : (.instanceMethod yX1_init : Cond) ∈ fg_TW := fg_t1 103 rfl rfl
theorem vh_X0_init : (.instanceMethod yX0_init : Cond) ∈ fg_TW := fg_t1 134 rfl rfl
theorem vh_X3_lot : (.instanceMethod yX3_lot : Cond) ∈ fg_TW := fg_t1 173 rfl rfl
theorem vh_X3_finding : (.instanceMethod yX3_finding : Cond) ∈ fg_TW := fg_t1 181 rfl rfl
theorem vh_X2_isPerson : (.instanceMethod yX2_isPerson : Cond) ∈ fg_TW := fg_t1 191 rfl rfl
theorem vh_X3_lotOf : (.instanceMethod yX3_lotOf : Cond) ∈ fg_TW := fg_t1 195 rfl rfl
theorem vh_X2_thoseOn : (.instanceMethod yX2_thoseOn : Cond) ∈ fg_TW := fg_t1 199 rfl rfl
theorem vh_X2_thoseStanding : (.instanceMethod yX2_thoseStanding : Cond) ∈ fg_TW := fg_t1 203 rfl rfl
theorem vh_X2_stands : (.instanceMethod yX2_stands : Cond) ∈ fg_TW := fg_t1 207 rfl rfl
theorem vh_X2_trustOf : (.instanceMethod yX2_trustOf : Cond) ∈ fg_TW := fg_t1 211 rfl rfl
theorem vh_X3_sun : (.instanceMethod yX3_sun : Cond) ∈ fg_TW := fg_t1 215 rfl rfl
theorem vh_X3_mist : (.instanceMethod yX3_mist : Cond) ∈ fg_TW := fg_t1 219 rfl rfl
theorem vh_X3_person : (.instanceMethod yX3_person : Cond) ∈ fg_TW := fg_t1 223 rfl rfl
theorem vh_X2_add : (.instanceMethod yX2_add : Cond) ∈ fg_TW := fg_t1 230 rfl rfl
theorem vh_X3_of : (.instanceMethod yX3_of : Cond) ∈ fg_TW := fg_t1 234 rfl rfl
theorem vh_X2_lotMadeFor : (.instanceMethod yX2_lotMadeFor : Cond) ∈ fg_TW := fg_t2 1 rfl rfl
theorem vh_X2_prefers : (.instanceMethod yX2_prefers : Cond) ∈ fg_TW := fg_t2 6 rfl rfl
theorem vh_X2_lotsOwnedBy : (.instanceMethod yX2_lotsOwnedBy : Cond) ∈ fg_TW := fg_t2 9 rfl rfl
theorem vh_X2_valueOf : (.instanceMethod yX2_valueOf : Cond) ∈ fg_TW := fg_t2 13 rfl rfl
theorem vh_X3_change : (.instanceMethod yX3_change : Cond) ∈ fg_TW := fg_t2 17 rfl rfl
theorem vh_X3_trust : (.instanceMethod yX3_trust : Cond) ∈ fg_TW := fg_t2 21 rfl rfl
theorem vh_X3_go : (.instanceMethod yX3_go : Cond) ∈ fg_TW := fg_t2 26 rfl rfl
theorem vh_X2_passDays : (.instanceMethod yX2_passDays : Cond) ∈ fg_TW := fg_t2 31 rfl rfl
theorem vh_X2_thinAndThicken : (.instanceMethod yX2_thinAndThicken : Cond) ∈ fg_TW := fg_t2 36 rfl rfl
theorem vh_X2_spreadFog : (.instanceMethod yX2_spreadFog : Cond) ∈ fg_TW := fg_t2 46 rfl rfl
theorem vh_X2_movePeople : (.instanceMethod yX2_movePeople : Cond) ∈ fg_TW := fg_t2 50 rfl rfl
theorem vh_X2_isGone : (.instanceMethod yX2_isGone : Cond) ∈ fg_TW := fg_t2 54 rfl rfl
theorem vh_X2_fall : (.instanceMethod yX2_fall : Cond) ∈ fg_TW := fg_t2 59 rfl rfl
theorem vh_X2_payRents : (.instanceMethod yX2_payRents : Cond) ∈ fg_TW := fg_t2 64 rfl rfl
theorem vh_X2_spreadBelief : (.instanceMethod yX2_spreadBelief : Cond) ∈ fg_TW := fg_t2 69 rfl rfl
theorem vh_X2_greatestBeliefBeside : (.instanceMethod yX2_greatestBeliefBeside : Cond) ∈ fg_TW := fg_t2 73 rfl rfl
theorem vh_X2_thoseOnLots : (.instanceMethod yX2_thoseOnLots : Cond) ∈ fg_TW := fg_t2 77 rfl rfl
theorem vh_X3_now : (.instanceMethod yX3_now : Cond) ∈ fg_TW := fg_t2 81 rfl rfl
theorem vh_X3_ahead : (.instanceMethod yX3_ahead : Cond) ∈ fg_TW := fg_t2 91 rfl rfl
theorem vh_X2_become : (.instanceMethod yX2_become : Cond) ∈ fg_TW := fg_t2 95 rfl rfl
theorem vh_X3_fog : (.instanceMethod yX3_fog : Cond) ∈ fg_TW := fg_t2 102 rfl rfl
theorem vh_X3_falls : (.instanceMethod yX3_falls : Cond) ∈ fg_TW := fg_t2 106 rfl rfl
theorem vh_X3_bare : (.instanceMethod yX3_bare : Cond) ∈ fg_TW := fg_t2 110 rfl rfl
theorem vh_X3_meet : (.instanceMethod yX3_meet : Cond) ∈ fg_TW := fg_t2 114 rfl rfl
theorem vh_X3_beliefFor : (.instanceMethod yX3_beliefFor : Cond) ∈ fg_TW := fg_t2 118 rfl rfl
theorem vh_X3_settle : (.instanceMethod yX3_settle : Cond) ∈ fg_TW := fg_t2 122 rfl rfl
theorem vh_X3_kindFor : (.instanceMethod yX3_kindFor : Cond) ∈ fg_TW := fg_t2 126 rfl rfl
theorem vh_X3_rentFor : (.instanceMethod yX3_rentFor : Cond) ∈ fg_TW := fg_t2 130 rfl rfl
theorem vh_X3_sunFor : (.instanceMethod yX3_sunFor : Cond) ∈ fg_TW := fg_t2 134 rfl rfl
theorem vh_X3_away : (.instanceMethod yX3_away : Cond) ∈ fg_TW := fg_t2 138 rfl rfl
theorem vh_X2_sendAway : (.instanceMethod yX2_sendAway : Cond) ∈ fg_TW := fg_t2 148 rfl rfl
theorem vh_X3_fits : (.instanceMethod yX3_fits : Cond) ∈ fg_TW := fg_t2 152 rfl rfl
theorem vh_X3_faultOfTold : (.instanceMethod yX3_faultOfTold : Cond) ∈ fg_TW := fg_t2 157 rfl rfl
theorem vh_X0_isMissing : (.instanceMethod yX0_isMissing : Cond) ∈ fg_TW := fg_t2 163 rfl rfl
theorem vh_X3_goesAsTold : (.instanceMethod yX3_goesAsTold : Cond) ∈ fg_TW := fg_t2 168 rfl rfl
theorem vh_X3_believed : (.instanceMethod yX3_believed : Cond) ∈ fg_TW := fg_t2 171 rfl rfl
theorem vh_X3_kinds : (.instanceMethod yX3_kinds : Cond) ∈ fg_TW := fg_t2 175 rfl rfl
theorem vh_X3_fine : (.instanceMethod yX3_fine : Cond) ∈ fg_TW := fg_t2 179 rfl rfl
theorem vh_X2_draw : (.instanceMethod yX2_draw : Cond) ∈ fg_TW := fg_t2 183 rfl rfl
theorem vh_X3_odds : (.instanceMethod yX3_odds : Cond) ∈ fg_TW := fg_t2 188 rfl rfl
theorem vh_X3_seed : (.instanceMethod yX3_seed : Cond) ∈ fg_TW := fg_t2 196 rfl rfl
theorem vh_X3_feed : (.instanceMethod yX3_feed : Cond) ∈ fg_TW := fg_t2 200 rfl rfl
theorem vh_X1_append : (.instanceMethod yX1_append : Cond) ∈ fg_TW := fg_t2 204 rfl rfl
theorem vh_X3_wipe : (.instanceMethod yX3_wipe : Cond) ∈ fg_TW := fg_t2 208 rfl rfl
theorem vh_X3_text : (.instanceMethod yX3_text : Cond) ∈ fg_TW := fg_t2 212 rfl rfl
theorem vh_X1_tellTo : (.instanceMethod yX1_tellTo : Cond) ∈ fg_TW := fg_t2 216 rfl rfl
theorem vh_X1_nextToken : (.instanceMethod yX1_nextToken : Cond) ∈ fg_TW := fg_t2 221 rfl rfl
theorem vh_X1_readWord : (.instanceMethod yX1_readWord : Cond) ∈ fg_TW := fg_t2 228 rfl rfl
theorem vh_X1_readNumber : (.instanceMethod yX1_readNumber : Cond) ∈ fg_TW := fg_t2 235 rfl rfl
theorem vh_X1_tellItem : (.instanceMethod yX1_tellItem : Cond) ∈ fg_TW := fg_t3 0 rfl rfl
theorem vh_X1_kindOfWord : (.instanceMethod yX1_kindOfWord : Cond) ∈ fg_TW := fg_t3 4 rfl rfl
theorem vh_X1_isWord : (.instanceMethod yX1_isWord : Cond) ∈ fg_TW := fg_t3 9 rfl rfl
theorem vh_J0_length_8abf5 : (.instanceMethod yJ0_length_8abf5 : Cond) ∈ fg_TW := fg_t3 12 rfl rfl
theorem vh_J0_coder_7d493 : (.instanceMethod yJ0_coder_7d493 : Cond) ∈ fg_TW := fg_t3 16 rfl rfl
theorem vh_J0_charAt_5068e : (.instanceMethod yJ0_charAt_5068e : Cond) ∈ fg_TW := fg_t3 22 rfl rfl
theorem vh_J0_isLatin1_aae02 : (.instanceMethod yJ0_isLatin1_aae02 : Cond) ∈ fg_TW := fg_t3 26 rfl rfl
theorem vh_X1_tellPerson : (.instanceMethod yX1_tellPerson : Cond) ∈ fg_TW := fg_t3 67 rfl rfl
theorem vh_X1_faultHere : (.instanceMethod yX1_faultHere : Cond) ∈ fg_TW := fg_t3 71 rfl rfl
theorem vh_X1_took : (.instanceMethod yX1_took : Cond) ∈ fg_TW := fg_t3 77 rfl rfl
theorem vh_X1_takeNumber : (.instanceMethod yX1_takeNumber : Cond) ∈ fg_TW := fg_t3 81 rfl rfl
theorem vh_X1_tellLot : (.instanceMethod yX1_tellLot : Cond) ∈ fg_TW := fg_t3 88 rfl rfl
theorem vh_X1_tellSun : (.instanceMethod yX1_tellSun : Cond) ∈ fg_TW := fg_t3 97 rfl rfl
theorem vh_X3_hold : (.instanceMethod yX3_hold : Cond) ∈ fg_TW := fg_t3 102 rfl rfl
theorem vh_X3_as : (.instanceMethod yX3_as : Cond) ∈ fg_TW := fg_t3 106 rfl rfl
theorem vh_X3_sheet : (.instanceMethod yX3_sheet : Cond) ∈ fg_TW := fg_t3 116 rfl rfl
theorem vh_X0_begin : (.instanceMethod yX0_begin : Cond) ∈ fg_TW := fg_t3 120 rfl rfl
theorem vh_X3_write : (.instanceMethod yX3_write : Cond) ∈ fg_TW := fg_t3 124 rfl rfl
theorem vh_X0_put : (.instanceMethod yX0_put : Cond) ∈ fg_TW := fg_t3 128 rfl rfl
theorem vh_X3_copy : (.instanceMethod yX3_copy : Cond) ∈ fg_TW := fg_t3 132 rfl rfl
theorem vh_X0_has : (.instanceMethod yX0_has : Cond) ∈ fg_TW := fg_t3 136 rfl rfl
theorem vh_X3_load : (.instanceMethod yX3_load : Cond) ∈ fg_TW := fg_t3 141 rfl rfl
theorem vh_X3_judge : (.instanceMethod yX3_judge : Cond) ∈ fg_TW := fg_t3 145 rfl rfl
theorem vh_X3_image : (.instanceMethod yX3_image : Cond) ∈ fg_TW := fg_t3 149 rfl rfl
theorem vh_X3_undo : (.instanceMethod yX3_undo : Cond) ∈ fg_TW := fg_t3 153 rfl rfl
theorem vh_X3_tear : (.instanceMethod yX3_tear : Cond) ∈ fg_TW := fg_t3 157 rfl rfl
theorem vh_X3_count : (.instanceMethod yX3_count : Cond) ∈ fg_TW := fg_t3 161 rfl rfl
theorem vh_X2_spotsHeld : (.instanceMethod yX2_spotsHeld : Cond) ∈ fg_TW := fg_t3 165 rfl rfl
theorem vh_X3_status : (.instanceMethod yX3_status : Cond) ∈ fg_TW := fg_t3 169 rfl rfl
theorem vh_X4_init : (.instanceMethod yX4_init : Cond) ∈ fg_TW := fg_t3 175 rfl rfl
theorem vh_X4_lays1 : (.instanceMethod yX4_lays1 : Cond) ∈ fg_TW := fg_t3 180 rfl rfl
theorem vh_X4_lot : (.instanceMethod yX4_lot : Cond) ∈ fg_TW := fg_t4 11 rfl rfl
theorem vh_X4_no : (.instanceMethod yX4_no : Cond) ∈ fg_TW := fg_t4 22 rfl rfl
theorem vh_X4_of1 : (.instanceMethod yX4_of1 : Cond) ∈ fg_TW := fg_t4 27 rfl rfl
theorem vh_X4_lotOf : (.instanceMethod yX4_lotOf : Cond) ∈ fg_TW := fg_t4 30 rfl rfl
theorem vh_X4_whoIsOn : (.instanceMethod yX4_whoIsOn : Cond) ∈ fg_TW := fg_t4 35 rfl rfl
theorem vh_X4_get : (.instanceMethod yX4_get : Cond) ∈ fg_TW := fg_t4 39 rfl rfl
theorem vh_X4_standing : (.instanceMethod yX4_standing : Cond) ∈ fg_TW := fg_t4 43 rfl rfl
theorem vh_X4_stands : (.instanceMethod yX4_stands : Cond) ∈ fg_TW := fg_t4 47 rfl rfl
theorem vh_X4_trustOf : (.instanceMethod yX4_trustOf : Cond) ∈ fg_TW := fg_t4 51 rfl rfl
theorem vh_X4_sun : (.instanceMethod yX4_sun : Cond) ∈ fg_TW := fg_t4 57 rfl rfl
theorem vh_X4_mist : (.instanceMethod yX4_mist : Cond) ∈ fg_TW := fg_t4 61 rfl rfl
theorem vh_X4_person : (.instanceMethod yX4_person : Cond) ∈ fg_TW := fg_t4 65 rfl rfl
theorem vh_X4_adds : (.instanceMethod yX4_adds : Cond) ∈ fg_TW := fg_t4 70 rfl rfl
theorem vh_X4_puts : (.instanceMethod yX4_puts : Cond) ∈ fg_TW := fg_t4 74 rfl rfl
theorem vh_X4_of : (.instanceMethod yX4_of : Cond) ∈ fg_TW := fg_t4 77 rfl rfl
theorem vh_X4_isPerson : (.instanceMethod yX4_isPerson : Cond) ∈ fg_TW := fg_t4 82 rfl rfl
theorem vh_X4_losesOf : (.instanceMethod yX4_losesOf : Cond) ∈ fg_TW := fg_t4 86 rfl rfl
theorem vh_X4_makesFor : (.instanceMethod yX4_makesFor : Cond) ∈ fg_TW := fg_t4 90 rfl rfl
theorem vh_X4_isBetter : (.instanceMethod yX4_isBetter : Cond) ∈ fg_TW := fg_t4 94 rfl rfl
theorem vh_X4_ownedBy : (.instanceMethod yX4_ownedBy : Cond) ∈ fg_TW := fg_t4 98 rfl rfl
theorem vh_X4_change : (.instanceMethod yX4_change : Cond) ∈ fg_TW := fg_t4 101 rfl rfl
theorem vh_X4_trust : (.instanceMethod yX4_trust : Cond) ∈ fg_TW := fg_t4 105 rfl rfl
theorem vh_X4_go : (.instanceMethod yX4_go : Cond) ∈ fg_TW := fg_t4 109 rfl rfl
theorem vh_X4_goes : (.instanceMethod yX4_goes : Cond) ∈ fg_TW := fg_t4 115 rfl rfl
theorem vh_X4_day : (.instanceMethod yX4_day : Cond) ∈ fg_TW := fg_t4 119 rfl rfl
theorem vh_X4_drifts : (.instanceMethod yX4_drifts : Cond) ∈ fg_TW := fg_t4 123 rfl rfl
theorem vh_X4_isAway : (.instanceMethod yX4_isAway : Cond) ∈ fg_TW := fg_t4 130 rfl rfl
theorem vh_X4_moves : (.instanceMethod yX4_moves : Cond) ∈ fg_TW := fg_t4 134 rfl rfl
theorem vh_X4_pays : (.instanceMethod yX4_pays : Cond) ∈ fg_TW := fg_t4 138 rfl rfl
theorem vh_X4_finds : (.instanceMethod yX4_finds : Cond) ∈ fg_TW := fg_t4 142 rfl rfl
theorem vh_X4_onLots : (.instanceMethod yX4_onLots : Cond) ∈ fg_TW := fg_t4 146 rfl rfl
theorem vh_X4_now : (.instanceMethod yX4_now : Cond) ∈ fg_TW := fg_t4 149 rfl rfl
theorem vh_X4_fogs : (.instanceMethod yX4_fogs : Cond) ∈ fg_TW := fg_t4 154 rfl rfl
theorem vh_X4_sumOf : (.instanceMethod yX4_sumOf : Cond) ∈ fg_TW := fg_t4 158 rfl rfl
theorem vh_X4_mostFog : (.instanceMethod yX4_mostFog : Cond) ∈ fg_TW := fg_t4 162 rfl rfl
theorem vh_X4_richest : (.instanceMethod yX4_richest : Cond) ∈ fg_TW := fg_t4 166 rfl rfl
theorem vh_X4_ahead : (.instanceMethod yX4_ahead : Cond) ∈ fg_TW := fg_t4 169 rfl rfl
theorem vh_X4_setsAside : (.instanceMethod yX4_setsAside : Cond) ∈ fg_TW := fg_t4 174 rfl rfl
theorem vh_X4_laysBack : (.instanceMethod yX4_laysBack : Cond) ∈ fg_TW := fg_t4 178 rfl rfl
theorem vh_X4_fog : (.instanceMethod yX4_fog : Cond) ∈ fg_TW := fg_t4 181 rfl rfl
theorem vh_X4_falls : (.instanceMethod yX4_falls : Cond) ∈ fg_TW := fg_t4 185 rfl rfl
theorem vh_X4_firstBy : (.instanceMethod yX4_firstBy : Cond) ∈ fg_TW := fg_t4 190 rfl rfl
theorem vh_X4_isSo : (.instanceMethod yX4_isSo : Cond) ∈ fg_TW := fg_t4 194 rfl rfl
theorem vh_X4_bare : (.instanceMethod yX4_bare : Cond) ∈ fg_TW := fg_t4 197 rfl rfl
theorem vh_X4_meet : (.instanceMethod yX4_meet : Cond) ∈ fg_TW := fg_t4 201 rfl rfl
theorem vh_X4_beliefFor : (.instanceMethod yX4_beliefFor : Cond) ∈ fg_TW := fg_t4 205 rfl rfl
theorem vh_X4_thenWith : (.instanceMethod yX4_thenWith : Cond) ∈ fg_TW := fg_t4 213 rfl rfl
theorem vh_X4_settle : (.instanceMethod yX4_settle : Cond) ∈ fg_TW := fg_t4 216 rfl rfl
theorem vh_X4_kindFor : (.instanceMethod yX4_kindFor : Cond) ∈ fg_TW := fg_t4 220 rfl rfl
theorem vh_X4_rentFor : (.instanceMethod yX4_rentFor : Cond) ∈ fg_TW := fg_t4 224 rfl rfl
theorem vh_X4_sunFor : (.instanceMethod yX4_sunFor : Cond) ∈ fg_TW := fg_t4 228 rfl rfl
theorem vh_X4_fellBy : (.instanceMethod yX4_fellBy : Cond) ∈ fg_TW := fg_t4 233 rfl rfl
theorem vh_X4_away : (.instanceMethod yX4_away : Cond) ∈ fg_TW := fg_t4 236 rfl rfl
theorem vh_X4_standsWithout : (.instanceMethod yX4_standsWithout : Cond) ∈ fg_TW := fg_t5 1 rfl rfl
theorem vh_X4_fits : (.instanceMethod yX4_fits : Cond) ∈ fg_TW := fg_t5 4 rfl rfl
theorem vh_X4_wrongTold : (.instanceMethod yX4_wrongTold : Cond) ∈ fg_TW := fg_t5 9 rfl rfl
theorem vh_X4_wrongSheet : (.instanceMethod yX4_wrongSheet : Cond) ∈ fg_TW := fg_t5 13 rfl rfl
theorem vh_X4_fitsAs : (.instanceMethod yX4_fitsAs : Cond) ∈ fg_TW := fg_t5 20 rfl rfl
theorem vh_X4_told : (.instanceMethod yX4_told : Cond) ∈ fg_TW := fg_t5 24 rfl rfl
theorem vh_X4_believed : (.instanceMethod yX4_believed : Cond) ∈ fg_TW := fg_t5 27 rfl rfl
theorem vh_X4_kinds : (.instanceMethod yX4_kinds : Cond) ∈ fg_TW := fg_t5 31 rfl rfl
theorem vh_X4_fine : (.instanceMethod yX4_fine : Cond) ∈ fg_TW := fg_t5 35 rfl rfl
theorem vh_X4_draw : (.instanceMethod yX4_draw : Cond) ∈ fg_TW := fg_t5 40 rfl rfl
theorem vh_X4_odds : (.instanceMethod yX4_odds : Cond) ∈ fg_TW := fg_t5 44 rfl rfl
theorem vh_X4_seed : (.instanceMethod yX4_seed : Cond) ∈ fg_TW := fg_t5 49 rfl rfl
theorem vh_X4_feed : (.instanceMethod yX4_feed : Cond) ∈ fg_TW := fg_t5 53 rfl rfl
theorem vh_X4_wipe : (.instanceMethod yX4_wipe : Cond) ∈ fg_TW := fg_t5 57 rfl rfl
theorem vh_X4_text : (.instanceMethod yX4_text : Cond) ∈ fg_TW := fg_t5 61 rfl rfl
theorem vh_X4_nextToken : (.instanceMethod yX4_nextToken : Cond) ∈ fg_TW := fg_t5 66 rfl rfl
theorem vh_X4_readsItem : (.instanceMethod yX4_readsItem : Cond) ∈ fg_TW := fg_t5 81 rfl rfl
theorem vh_X4_wordOf : (.instanceMethod yX4_wordOf : Cond) ∈ fg_TW := fg_t5 85 rfl rfl
theorem vh_X4_readsPerson : (.instanceMethod yX4_readsPerson : Cond) ∈ fg_TW := fg_t5 89 rfl rfl
theorem vh_X4_takesNumber : (.instanceMethod yX4_takesNumber : Cond) ∈ fg_TW := fg_t5 93 rfl rfl
theorem vh_X4_readsLot : (.instanceMethod yX4_readsLot : Cond) ∈ fg_TW := fg_t5 97 rfl rfl
theorem vh_X4_readsSun : (.instanceMethod yX4_readsSun : Cond) ∈ fg_TW := fg_t5 101 rfl rfl
theorem vh_X4_hold : (.instanceMethod yX4_hold : Cond) ∈ fg_TW := fg_t5 104 rfl rfl
theorem vh_X4_as : (.instanceMethod yX4_as : Cond) ∈ fg_TW := fg_t5 111 rfl rfl
theorem vh_X4_sheet : (.instanceMethod yX4_sheet : Cond) ∈ fg_TW := fg_t5 118 rfl rfl
theorem vh_X4_write : (.instanceMethod yX4_write : Cond) ∈ fg_TW := fg_t5 122 rfl rfl
theorem vh_X4_copy : (.instanceMethod yX4_copy : Cond) ∈ fg_TW := fg_t5 126 rfl rfl
theorem vh_X4_load : (.instanceMethod yX4_load : Cond) ∈ fg_TW := fg_t5 130 rfl rfl
theorem vh_X4_judge : (.instanceMethod yX4_judge : Cond) ∈ fg_TW := fg_t5 134 rfl rfl
theorem vh_X4_image : (.instanceMethod yX4_image : Cond) ∈ fg_TW := fg_t5 138 rfl rfl
theorem vh_X4_undo : (.instanceMethod yX4_undo : Cond) ∈ fg_TW := fg_t5 142 rfl rfl
theorem vh_X4_tear : (.instanceMethod yX4_tear : Cond) ∈ fg_TW := fg_t5 146 rfl rfl
theorem vh_X4_count : (.instanceMethod yX4_count : Cond) ∈ fg_TW := fg_t5 150 rfl rfl
theorem vh_X4_status : (.instanceMethod yX4_status : Cond) ∈ fg_TW := fg_t5 154 rfl rfl
theorem vs_X3_isLot : (.static yX3_isLot : Cond) ∈ fg_TW := fg_t1 177 rfl rfl
theorem vs_X3_within : (.static yX3_within : Cond) ∈ fg_TW := fg_t1 185 rfl rfl
theorem vs_X3_exchange : (.static yX3_exchange : Cond) ∈ fg_TW := fg_t1 188 rfl rfl
theorem vs_X3_isKind : (.static yX3_isKind : Cond) ∈ fg_TW := fg_t1 227 rfl rfl
theorem vs_X3_losesOf : (.static yX3_losesOf : Cond) ∈ fg_TW := fg_t1 238 rfl rfl
theorem vs_J9_min_7cf53 : (.static yJ9_min_7cf53 : Cond) ∈ fg_TW := fg_t2 39 rfl rfl
theorem vs_J9_max_7cf53 : (.static yJ9_max_7cf53 : Cond) ∈ fg_TW := fg_t2 42 rfl rfl
theorem vs_X3_sumOf : (.static yX3_sumOf : Cond) ∈ fg_TW := fg_t2 85 rfl rfl
theorem vs_X3_firstGreatest : (.static yX3_firstGreatest : Cond) ∈ fg_TW := fg_t2 88 rfl rfl
theorem vs_J6_bitCount_0f7a4 : (.static yJ6_bitCount_0f7a4 : Cond) ∈ fg_TW := fg_t2 142 rfl rfl
theorem vs_X3_isSheet : (.static yX3_isSheet : Cond) ∈ fg_TW := fg_t2 160 rfl rfl
theorem vs_X3_greatestCommon : (.static yX3_greatestCommon : Cond) ∈ fg_TW := fg_t2 193 rfl rfl
theorem vs_X1_isLetter : (.static yX1_isLetter : Cond) ∈ fg_TW := fg_t2 224 rfl rfl
theorem vs_X1_isDigit : (.static yX1_isDigit : Cond) ∈ fg_TW := fg_t2 231 rfl rfl
theorem vs_J1_charAt_3b067 : (.static yJ1_charAt_3b067 : Cond) ∈ fg_TW := fg_t3 30 rfl rfl
theorem vs_J0_checkIndex_df160 : (.static yJ0_checkIndex_df160 : Cond) ∈ fg_TW := fg_t3 33 rfl rfl
theorem vs_J3_checkIndex_8e157 : (.static yJ3_checkIndex_8e157 : Cond) ∈ fg_TW := fg_t3 38 rfl rfl
theorem vs_J2_charAt_3b067 : (.static yJ2_charAt_3b067 : Cond) ∈ fg_TW := fg_t3 41 rfl rfl
theorem vs_J2_checkIndex_2214a : (.static yJ2_checkIndex_2214a : Cond) ∈ fg_TW := fg_t3 44 rfl rfl
theorem vs_J2_length_9d52b : (.static yJ2_length_9d52b : Cond) ∈ fg_TW := fg_t3 47 rfl rfl
theorem vs_J2_getChar_3b067 : (.static yJ2_getChar_3b067 : Cond) ∈ fg_TW := fg_t3 51 rfl rfl
theorem vs_X3_isUnder : (.static yX3_isUnder : Cond) ∈ fg_TW := fg_t3 110 rfl rfl
theorem vs_X3_kindAbove : (.static yX3_kindAbove : Cond) ∈ fg_TW := fg_t3 113 rfl rfl
theorem vs_X4_isLot : (.static yX4_isLot : Cond) ∈ fg_TW := fg_t4 15 rfl rfl
theorem vs_X4_in1 : (.static yX4_in1 : Cond) ∈ fg_TW := fg_t4 18 rfl rfl
theorem vs_X4_bits : (.static yX4_bits : Cond) ∈ fg_TW := fg_t4 54 rfl rfl
theorem vs_X4_less : (.static yX4_less : Cond) ∈ fg_TW := fg_t4 126 rfl rfl
theorem vs_X4_isSoon : (.static yX4_isSoon : Cond) ∈ fg_TW := fg_t4 209 rfl rfl
theorem vs_X4_isSheet : (.static yX4_isSheet : Cond) ∈ fg_TW := fg_t5 16 rfl rfl
theorem vs_X4_isLetter : (.static yX4_isLetter : Cond) ∈ fg_TW := fg_t5 69 rfl rfl
theorem vs_X4_isDigit : (.static yX4_isDigit : Cond) ∈ fg_TW := fg_t5 75 rfl rfl
theorem vs_X4_isSpot : (.static yX4_isSpot : Cond) ∈ fg_TW := fg_t5 108 rfl rfl
theorem vs_X4_above : (.static yX4_above : Cond) ∈ fg_TW := fg_t5 115 rfl rfl
theorem ve_X3_lot : (.selects RX3 yX3_lot yX3_lot : Cond) ∈ fg_TW := fg_t1 174 rfl rfl
theorem ve_X2_isPerson : (.selects RX2 yX2_isPerson yX2_isPerson : Cond) ∈ fg_TW := fg_t1 192 rfl rfl
theorem ve_X3_lotOf : (.selects RX3 yX3_lotOf yX3_lotOf : Cond) ∈ fg_TW := fg_t1 196 rfl rfl
theorem ve_X2_thoseOn : (.selects RX2 yX2_thoseOn yX2_thoseOn : Cond) ∈ fg_TW := fg_t1 200 rfl rfl
theorem ve_X2_thoseStanding : (.selects RX2 yX2_thoseStanding yX2_thoseStanding : Cond) ∈ fg_TW := fg_t1 204 rfl rfl
theorem ve_X2_stands : (.selects RX2 yX2_stands yX2_stands : Cond) ∈ fg_TW := fg_t1 208 rfl rfl
theorem ve_X2_trustOf : (.selects RX2 yX2_trustOf yX2_trustOf : Cond) ∈ fg_TW := fg_t1 212 rfl rfl
theorem ve_X3_sun : (.selects RX3 yX3_sun yX3_sun : Cond) ∈ fg_TW := fg_t1 216 rfl rfl
theorem ve_X3_mist : (.selects RX3 yX3_mist yX3_mist : Cond) ∈ fg_TW := fg_t1 220 rfl rfl
theorem ve_X3_person : (.selects RX3 yX3_person yX3_person : Cond) ∈ fg_TW := fg_t1 224 rfl rfl
theorem ve_X2_add : (.selects RX2 yX2_add yX2_add : Cond) ∈ fg_TW := fg_t1 231 rfl rfl
theorem ve_X3_of : (.selects RX3 yX3_of yX3_of : Cond) ∈ fg_TW := fg_t1 235 rfl rfl
theorem ve_X2_lotMadeFor : (.selects RX2 yX2_lotMadeFor yX2_lotMadeFor : Cond) ∈ fg_TW := fg_t2 2 rfl rfl
theorem ve_X2_lotsOwnedBy : (.selects RX2 yX2_lotsOwnedBy yX2_lotsOwnedBy : Cond) ∈ fg_TW := fg_t2 10 rfl rfl
theorem ve_X2_valueOf : (.selects RX2 yX2_valueOf yX2_valueOf : Cond) ∈ fg_TW := fg_t2 14 rfl rfl
theorem ve_X3_change : (.selects RX3 yX3_change yX3_change : Cond) ∈ fg_TW := fg_t2 18 rfl rfl
theorem ve_X3_trust : (.selects RX3 yX3_trust yX3_trust : Cond) ∈ fg_TW := fg_t2 22 rfl rfl
theorem ve_X3_go : (.selects RX3 yX3_go yX3_go : Cond) ∈ fg_TW := fg_t2 27 rfl rfl
theorem ve_X2_passDays : (.selects RX2 yX2_passDays yX2_passDays : Cond) ∈ fg_TW := fg_t2 32 rfl rfl
theorem ve_X2_thoseOnLots : (.selects RX2 yX2_thoseOnLots yX2_thoseOnLots : Cond) ∈ fg_TW := fg_t2 78 rfl rfl
theorem ve_X3_now : (.selects RX3 yX3_now yX3_now : Cond) ∈ fg_TW := fg_t2 82 rfl rfl
theorem ve_X3_ahead : (.selects RX3 yX3_ahead yX3_ahead : Cond) ∈ fg_TW := fg_t2 92 rfl rfl
theorem ve_X2_become : (.selects RX2 yX2_become yX2_become : Cond) ∈ fg_TW := fg_t2 96 rfl rfl
theorem ve_X3_fog : (.selects RX3 yX3_fog yX3_fog : Cond) ∈ fg_TW := fg_t2 103 rfl rfl
theorem ve_X3_falls : (.selects RX3 yX3_falls yX3_falls : Cond) ∈ fg_TW := fg_t2 107 rfl rfl
theorem ve_X3_bare : (.selects RX3 yX3_bare yX3_bare : Cond) ∈ fg_TW := fg_t2 111 rfl rfl
theorem ve_X3_meet : (.selects RX3 yX3_meet yX3_meet : Cond) ∈ fg_TW := fg_t2 115 rfl rfl
theorem ve_X3_beliefFor : (.selects RX3 yX3_beliefFor yX3_beliefFor : Cond) ∈ fg_TW := fg_t2 119 rfl rfl
theorem ve_X3_settle : (.selects RX3 yX3_settle yX3_settle : Cond) ∈ fg_TW := fg_t2 123 rfl rfl
theorem ve_X3_kindFor : (.selects RX3 yX3_kindFor yX3_kindFor : Cond) ∈ fg_TW := fg_t2 127 rfl rfl
theorem ve_X3_rentFor : (.selects RX3 yX3_rentFor yX3_rentFor : Cond) ∈ fg_TW := fg_t2 131 rfl rfl
theorem ve_X3_sunFor : (.selects RX3 yX3_sunFor yX3_sunFor : Cond) ∈ fg_TW := fg_t2 135 rfl rfl
theorem ve_X3_away : (.selects RX3 yX3_away yX3_away : Cond) ∈ fg_TW := fg_t2 139 rfl rfl
theorem ve_X2_sendAway : (.selects RX2 yX2_sendAway yX2_sendAway : Cond) ∈ fg_TW := fg_t2 149 rfl rfl
theorem ve_X3_fits : (.selects RX3 yX3_fits yX3_fits : Cond) ∈ fg_TW := fg_t2 153 rfl rfl
theorem ve_X0_isMissing : (.selects RX0 yX0_isMissing yX0_isMissing : Cond) ∈ fg_TW := fg_t2 164 rfl rfl
theorem ve_X3_believed : (.selects RX3 yX3_believed yX3_believed : Cond) ∈ fg_TW := fg_t2 172 rfl rfl
theorem ve_X3_kinds : (.selects RX3 yX3_kinds yX3_kinds : Cond) ∈ fg_TW := fg_t2 176 rfl rfl
theorem ve_X3_fine : (.selects RX3 yX3_fine yX3_fine : Cond) ∈ fg_TW := fg_t2 180 rfl rfl
theorem ve_X2_draw : (.selects RX2 yX2_draw yX2_draw : Cond) ∈ fg_TW := fg_t2 184 rfl rfl
theorem ve_X3_odds : (.selects RX3 yX3_odds yX3_odds : Cond) ∈ fg_TW := fg_t2 189 rfl rfl
theorem ve_X3_seed : (.selects RX3 yX3_seed yX3_seed : Cond) ∈ fg_TW := fg_t2 197 rfl rfl
theorem ve_X3_feed : (.selects RX3 yX3_feed yX3_feed : Cond) ∈ fg_TW := fg_t2 201 rfl rfl
theorem ve_X1_append : (.selects RX1 yX1_append yX1_append : Cond) ∈ fg_TW := fg_t2 205 rfl rfl
theorem ve_X3_wipe : (.selects RX3 yX3_wipe yX3_wipe : Cond) ∈ fg_TW := fg_t2 209 rfl rfl
theorem ve_X3_text : (.selects RX3 yX3_text yX3_text : Cond) ∈ fg_TW := fg_t2 213 rfl rfl
theorem ve_X1_tellTo : (.selects RX1 yX1_tellTo yX1_tellTo : Cond) ∈ fg_TW := fg_t2 217 rfl rfl
theorem ve_J0_length_8abf5 : (.selects RJ0 yJ0_length_8abf5 yJ0_length_8abf5 : Cond) ∈ fg_TW := fg_t3 13 rfl rfl
theorem ve_J0_coder_7d493 : (.selects RJ0 yJ0_coder_7d493 yJ0_coder_7d493 : Cond) ∈ fg_TW := fg_t3 17 rfl rfl
theorem ve_J0_charAt_5068e : (.selects RJ0 yJ0_charAt_5068e yJ0_charAt_5068e : Cond) ∈ fg_TW := fg_t3 23 rfl rfl
theorem ve_J0_isLatin1_aae02 : (.selects RJ0 yJ0_isLatin1_aae02 yJ0_isLatin1_aae02 : Cond) ∈ fg_TW := fg_t3 27 rfl rfl
theorem ve_X3_hold : (.selects RX3 yX3_hold yX3_hold : Cond) ∈ fg_TW := fg_t3 103 rfl rfl
theorem ve_X3_as : (.selects RX3 yX3_as yX3_as : Cond) ∈ fg_TW := fg_t3 107 rfl rfl
theorem ve_X3_sheet : (.selects RX3 yX3_sheet yX3_sheet : Cond) ∈ fg_TW := fg_t3 117 rfl rfl
theorem ve_X0_begin : (.selects RX0 yX0_begin yX0_begin : Cond) ∈ fg_TW := fg_t3 121 rfl rfl
theorem ve_X3_write : (.selects RX3 yX3_write yX3_write : Cond) ∈ fg_TW := fg_t3 125 rfl rfl
theorem ve_X0_put : (.selects RX0 yX0_put yX0_put : Cond) ∈ fg_TW := fg_t3 129 rfl rfl
theorem ve_X3_copy : (.selects RX3 yX3_copy yX3_copy : Cond) ∈ fg_TW := fg_t3 133 rfl rfl
theorem ve_X0_has : (.selects RX0 yX0_has yX0_has : Cond) ∈ fg_TW := fg_t3 137 rfl rfl
theorem ve_X3_load : (.selects RX3 yX3_load yX3_load : Cond) ∈ fg_TW := fg_t3 142 rfl rfl
theorem ve_X3_judge : (.selects RX3 yX3_judge yX3_judge : Cond) ∈ fg_TW := fg_t3 146 rfl rfl
theorem ve_X3_image : (.selects RX3 yX3_image yX3_image : Cond) ∈ fg_TW := fg_t3 150 rfl rfl
theorem ve_X3_undo : (.selects RX3 yX3_undo yX3_undo : Cond) ∈ fg_TW := fg_t3 154 rfl rfl
theorem ve_X3_tear : (.selects RX3 yX3_tear yX3_tear : Cond) ∈ fg_TW := fg_t3 158 rfl rfl
theorem ve_X3_count : (.selects RX3 yX3_count yX3_count : Cond) ∈ fg_TW := fg_t3 162 rfl rfl
theorem ve_X2_spotsHeld : (.selects RX2 yX2_spotsHeld yX2_spotsHeld : Cond) ∈ fg_TW := fg_t3 166 rfl rfl
theorem ve_X3_status : (.selects RX3 yX3_status yX3_status : Cond) ∈ fg_TW := fg_t3 170 rfl rfl
theorem ve_X4_lot : (.selects RX4 yX4_lot yX4_lot : Cond) ∈ fg_TW := fg_t4 12 rfl rfl
theorem ve_X4_lotOf : (.selects RX4 yX4_lotOf yX4_lotOf : Cond) ∈ fg_TW := fg_t4 31 rfl rfl
theorem ve_X4_sun : (.selects RX4 yX4_sun yX4_sun : Cond) ∈ fg_TW := fg_t4 58 rfl rfl
theorem ve_X4_mist : (.selects RX4 yX4_mist yX4_mist : Cond) ∈ fg_TW := fg_t4 62 rfl rfl
theorem ve_X4_person : (.selects RX4 yX4_person yX4_person : Cond) ∈ fg_TW := fg_t4 66 rfl rfl
theorem ve_X4_of : (.selects RX4 yX4_of yX4_of : Cond) ∈ fg_TW := fg_t4 78 rfl rfl
theorem ve_X4_change : (.selects RX4 yX4_change yX4_change : Cond) ∈ fg_TW := fg_t4 102 rfl rfl
theorem ve_X4_trust : (.selects RX4 yX4_trust yX4_trust : Cond) ∈ fg_TW := fg_t4 106 rfl rfl
theorem ve_X4_go : (.selects RX4 yX4_go yX4_go : Cond) ∈ fg_TW := fg_t4 110 rfl rfl
theorem ve_X4_now : (.selects RX4 yX4_now yX4_now : Cond) ∈ fg_TW := fg_t4 150 rfl rfl
theorem ve_X4_ahead : (.selects RX4 yX4_ahead yX4_ahead : Cond) ∈ fg_TW := fg_t4 170 rfl rfl
theorem ve_X4_fog : (.selects RX4 yX4_fog yX4_fog : Cond) ∈ fg_TW := fg_t4 182 rfl rfl
theorem ve_X4_falls : (.selects RX4 yX4_falls yX4_falls : Cond) ∈ fg_TW := fg_t4 186 rfl rfl
theorem ve_X4_bare : (.selects RX4 yX4_bare yX4_bare : Cond) ∈ fg_TW := fg_t4 198 rfl rfl
theorem ve_X4_meet : (.selects RX4 yX4_meet yX4_meet : Cond) ∈ fg_TW := fg_t4 202 rfl rfl
theorem ve_X4_beliefFor : (.selects RX4 yX4_beliefFor yX4_beliefFor : Cond) ∈ fg_TW := fg_t4 206 rfl rfl
theorem ve_X4_settle : (.selects RX4 yX4_settle yX4_settle : Cond) ∈ fg_TW := fg_t4 217 rfl rfl
theorem ve_X4_kindFor : (.selects RX4 yX4_kindFor yX4_kindFor : Cond) ∈ fg_TW := fg_t4 221 rfl rfl
theorem ve_X4_rentFor : (.selects RX4 yX4_rentFor yX4_rentFor : Cond) ∈ fg_TW := fg_t4 225 rfl rfl
theorem ve_X4_sunFor : (.selects RX4 yX4_sunFor yX4_sunFor : Cond) ∈ fg_TW := fg_t4 229 rfl rfl
theorem ve_X4_away : (.selects RX4 yX4_away yX4_away : Cond) ∈ fg_TW := fg_t4 237 rfl rfl
theorem ve_X4_fits : (.selects RX4 yX4_fits yX4_fits : Cond) ∈ fg_TW := fg_t5 5 rfl rfl
theorem ve_X4_believed : (.selects RX4 yX4_believed yX4_believed : Cond) ∈ fg_TW := fg_t5 28 rfl rfl
theorem ve_X4_kinds : (.selects RX4 yX4_kinds yX4_kinds : Cond) ∈ fg_TW := fg_t5 32 rfl rfl
theorem ve_X4_fine : (.selects RX4 yX4_fine yX4_fine : Cond) ∈ fg_TW := fg_t5 36 rfl rfl
theorem ve_X4_odds : (.selects RX4 yX4_odds yX4_odds : Cond) ∈ fg_TW := fg_t5 45 rfl rfl
theorem ve_X4_seed : (.selects RX4 yX4_seed yX4_seed : Cond) ∈ fg_TW := fg_t5 50 rfl rfl
theorem ve_X4_feed : (.selects RX4 yX4_feed yX4_feed : Cond) ∈ fg_TW := fg_t5 54 rfl rfl
theorem ve_X4_wipe : (.selects RX4 yX4_wipe yX4_wipe : Cond) ∈ fg_TW := fg_t5 58 rfl rfl
theorem ve_X4_text : (.selects RX4 yX4_text yX4_text : Cond) ∈ fg_TW := fg_t5 62 rfl rfl
theorem ve_X4_hold : (.selects RX4 yX4_hold yX4_hold : Cond) ∈ fg_TW := fg_t5 105 rfl rfl
theorem ve_X4_as : (.selects RX4 yX4_as yX4_as : Cond) ∈ fg_TW := fg_t5 112 rfl rfl
theorem ve_X4_sheet : (.selects RX4 yX4_sheet yX4_sheet : Cond) ∈ fg_TW := fg_t5 119 rfl rfl
theorem ve_X4_write : (.selects RX4 yX4_write yX4_write : Cond) ∈ fg_TW := fg_t5 123 rfl rfl
theorem ve_X4_copy : (.selects RX4 yX4_copy yX4_copy : Cond) ∈ fg_TW := fg_t5 127 rfl rfl
theorem ve_X4_load : (.selects RX4 yX4_load yX4_load : Cond) ∈ fg_TW := fg_t5 131 rfl rfl
theorem ve_X4_judge : (.selects RX4 yX4_judge yX4_judge : Cond) ∈ fg_TW := fg_t5 135 rfl rfl
theorem ve_X4_image : (.selects RX4 yX4_image yX4_image : Cond) ∈ fg_TW := fg_t5 139 rfl rfl
theorem ve_X4_undo : (.selects RX4 yX4_undo yX4_undo : Cond) ∈ fg_TW := fg_t5 143 rfl rfl
theorem ve_X4_tear : (.selects RX4 yX4_tear yX4_tear : Cond) ∈ fg_TW := fg_t5 147 rfl rfl
theorem ve_X4_count : (.selects RX4 yX4_count yX4_count : Cond) ∈ fg_TW := fg_t5 151 rfl rfl
theorem ve_X4_status : (.selects RX4 yX4_status yX4_status : Cond) ∈ fg_TW := fg_t5 155 rfl rfl
theorem ve_X3_finding : (.selects RX3 yX3_finding yX3_finding : Cond) ∈ fg_TW := fg_tp 0 rfl rfl
theorem ve_X2_prefers : (.selects RX2 yX2_prefers yX2_prefers : Cond) ∈ fg_TW := fg_tp 1 rfl rfl
theorem ve_X2_thinAndThicken : (.selects RX2 yX2_thinAndThicken yX2_thinAndThicken : Cond) ∈ fg_TW := fg_tp 2 rfl rfl
theorem ve_X2_spreadFog : (.selects RX2 yX2_spreadFog yX2_spreadFog : Cond) ∈ fg_TW := fg_tp 3 rfl rfl
theorem ve_X2_movePeople : (.selects RX2 yX2_movePeople yX2_movePeople : Cond) ∈ fg_TW := fg_tp 4 rfl rfl
theorem ve_X2_isGone : (.selects RX2 yX2_isGone yX2_isGone : Cond) ∈ fg_TW := fg_tp 5 rfl rfl
theorem ve_X2_fall : (.selects RX2 yX2_fall yX2_fall : Cond) ∈ fg_TW := fg_tp 6 rfl rfl
theorem ve_X2_payRents : (.selects RX2 yX2_payRents yX2_payRents : Cond) ∈ fg_TW := fg_tp 7 rfl rfl
theorem ve_X2_spreadBelief : (.selects RX2 yX2_spreadBelief yX2_spreadBelief : Cond) ∈ fg_TW := fg_tp 8 rfl rfl
theorem ve_X2_greatestBeliefBeside : (.selects RX2 yX2_greatestBeliefBeside yX2_greatestBeliefBeside : Cond) ∈ fg_TW := fg_tp 9 rfl rfl
theorem ve_X3_faultOfTold : (.selects RX3 yX3_faultOfTold yX3_faultOfTold : Cond) ∈ fg_TW := fg_tp 10 rfl rfl
theorem ve_X3_goesAsTold : (.selects RX3 yX3_goesAsTold yX3_goesAsTold : Cond) ∈ fg_TW := fg_tp 11 rfl rfl
theorem ve_X1_nextToken : (.selects RX1 yX1_nextToken yX1_nextToken : Cond) ∈ fg_TW := fg_tp 12 rfl rfl
theorem ve_X1_readWord : (.selects RX1 yX1_readWord yX1_readWord : Cond) ∈ fg_TW := fg_tp 13 rfl rfl
theorem ve_X1_readNumber : (.selects RX1 yX1_readNumber yX1_readNumber : Cond) ∈ fg_TW := fg_tp 14 rfl rfl
theorem ve_X1_tellItem : (.selects RX1 yX1_tellItem yX1_tellItem : Cond) ∈ fg_TW := fg_tp 15 rfl rfl
theorem ve_X1_kindOfWord : (.selects RX1 yX1_kindOfWord yX1_kindOfWord : Cond) ∈ fg_TW := fg_tp 16 rfl rfl
theorem ve_X1_isWord : (.selects RX1 yX1_isWord yX1_isWord : Cond) ∈ fg_TW := fg_tp 17 rfl rfl
theorem ve_X1_tellPerson : (.selects RX1 yX1_tellPerson yX1_tellPerson : Cond) ∈ fg_TW := fg_tp 18 rfl rfl
theorem ve_X1_faultHere : (.selects RX1 yX1_faultHere yX1_faultHere : Cond) ∈ fg_TW := fg_tp 19 rfl rfl
theorem ve_X1_took : (.selects RX1 yX1_took yX1_took : Cond) ∈ fg_TW := fg_tp 20 rfl rfl
theorem ve_X1_takeNumber : (.selects RX1 yX1_takeNumber yX1_takeNumber : Cond) ∈ fg_TW := fg_tp 21 rfl rfl
theorem ve_X1_tellLot : (.selects RX1 yX1_tellLot yX1_tellLot : Cond) ∈ fg_TW := fg_tp 22 rfl rfl
theorem ve_X1_tellSun : (.selects RX1 yX1_tellSun yX1_tellSun : Cond) ∈ fg_TW := fg_tp 23 rfl rfl
theorem ve_X4_lays1 : (.selects RX4 yX4_lays1 yX4_lays1 : Cond) ∈ fg_TW := fg_tp 24 rfl rfl
theorem ve_X4_no : (.selects RX4 yX4_no yX4_no : Cond) ∈ fg_TW := fg_tp 25 rfl rfl
theorem ve_X4_of1 : (.selects RX4 yX4_of1 yX4_of1 : Cond) ∈ fg_TW := fg_tp 26 rfl rfl
theorem ve_X4_whoIsOn : (.selects RX4 yX4_whoIsOn yX4_whoIsOn : Cond) ∈ fg_TW := fg_tp 27 rfl rfl
theorem ve_X4_get : (.selects RX4 yX4_get yX4_get : Cond) ∈ fg_TW := fg_tp 28 rfl rfl
theorem ve_X4_standing : (.selects RX4 yX4_standing yX4_standing : Cond) ∈ fg_TW := fg_tp 29 rfl rfl
theorem ve_X4_stands : (.selects RX4 yX4_stands yX4_stands : Cond) ∈ fg_TW := fg_tp 30 rfl rfl
theorem ve_X4_trustOf : (.selects RX4 yX4_trustOf yX4_trustOf : Cond) ∈ fg_TW := fg_tp 31 rfl rfl
theorem ve_X4_adds : (.selects RX4 yX4_adds yX4_adds : Cond) ∈ fg_TW := fg_tp 32 rfl rfl
theorem ve_X4_puts : (.selects RX4 yX4_puts yX4_puts : Cond) ∈ fg_TW := fg_tp 33 rfl rfl
theorem ve_X4_isPerson : (.selects RX4 yX4_isPerson yX4_isPerson : Cond) ∈ fg_TW := fg_tp 34 rfl rfl
theorem ve_X4_losesOf : (.selects RX4 yX4_losesOf yX4_losesOf : Cond) ∈ fg_TW := fg_tp 35 rfl rfl
theorem ve_X4_makesFor : (.selects RX4 yX4_makesFor yX4_makesFor : Cond) ∈ fg_TW := fg_tp 36 rfl rfl
theorem ve_X4_isBetter : (.selects RX4 yX4_isBetter yX4_isBetter : Cond) ∈ fg_TW := fg_tp 37 rfl rfl
theorem ve_X4_ownedBy : (.selects RX4 yX4_ownedBy yX4_ownedBy : Cond) ∈ fg_TW := fg_tp 38 rfl rfl
theorem ve_X4_goes : (.selects RX4 yX4_goes yX4_goes : Cond) ∈ fg_TW := fg_tp 39 rfl rfl
theorem ve_X4_day : (.selects RX4 yX4_day yX4_day : Cond) ∈ fg_TW := fg_tp 40 rfl rfl
theorem ve_X4_drifts : (.selects RX4 yX4_drifts yX4_drifts : Cond) ∈ fg_TW := fg_tp 41 rfl rfl
theorem ve_X4_isAway : (.selects RX4 yX4_isAway yX4_isAway : Cond) ∈ fg_TW := fg_tp 42 rfl rfl
theorem ve_X4_moves : (.selects RX4 yX4_moves yX4_moves : Cond) ∈ fg_TW := fg_tp 43 rfl rfl
theorem ve_X4_pays : (.selects RX4 yX4_pays yX4_pays : Cond) ∈ fg_TW := fg_tp 44 rfl rfl
theorem ve_X4_finds : (.selects RX4 yX4_finds yX4_finds : Cond) ∈ fg_TW := fg_tp 45 rfl rfl
theorem ve_X4_onLots : (.selects RX4 yX4_onLots yX4_onLots : Cond) ∈ fg_TW := fg_tp 46 rfl rfl
theorem ve_X4_fogs : (.selects RX4 yX4_fogs yX4_fogs : Cond) ∈ fg_TW := fg_tp 47 rfl rfl
theorem ve_X4_sumOf : (.selects RX4 yX4_sumOf yX4_sumOf : Cond) ∈ fg_TW := fg_tp 48 rfl rfl
theorem ve_X4_mostFog : (.selects RX4 yX4_mostFog yX4_mostFog : Cond) ∈ fg_TW := fg_tp 49 rfl rfl
theorem ve_X4_richest : (.selects RX4 yX4_richest yX4_richest : Cond) ∈ fg_TW := fg_tp 50 rfl rfl
theorem ve_X4_setsAside : (.selects RX4 yX4_setsAside yX4_setsAside : Cond) ∈ fg_TW := fg_tp 51 rfl rfl
theorem ve_X4_laysBack : (.selects RX4 yX4_laysBack yX4_laysBack : Cond) ∈ fg_TW := fg_tp 52 rfl rfl
theorem ve_X4_firstBy : (.selects RX4 yX4_firstBy yX4_firstBy : Cond) ∈ fg_TW := fg_tp 53 rfl rfl
theorem ve_X4_isSo : (.selects RX4 yX4_isSo yX4_isSo : Cond) ∈ fg_TW := fg_tp 54 rfl rfl
theorem ve_X4_thenWith : (.selects RX4 yX4_thenWith yX4_thenWith : Cond) ∈ fg_TW := fg_tp 55 rfl rfl
theorem ve_X4_fellBy : (.selects RX4 yX4_fellBy yX4_fellBy : Cond) ∈ fg_TW := fg_tp 56 rfl rfl
theorem ve_X4_standsWithout : (.selects RX4 yX4_standsWithout yX4_standsWithout : Cond) ∈ fg_TW := fg_tp 57 rfl rfl
theorem ve_X4_wrongTold : (.selects RX4 yX4_wrongTold yX4_wrongTold : Cond) ∈ fg_TW := fg_tp 58 rfl rfl
theorem ve_X4_wrongSheet : (.selects RX4 yX4_wrongSheet yX4_wrongSheet : Cond) ∈ fg_TW := fg_tp 59 rfl rfl
theorem ve_X4_fitsAs : (.selects RX4 yX4_fitsAs yX4_fitsAs : Cond) ∈ fg_TW := fg_tp 60 rfl rfl
theorem ve_X4_told : (.selects RX4 yX4_told yX4_told : Cond) ∈ fg_TW := fg_tp 61 rfl rfl
theorem ve_X4_draw : (.selects RX4 yX4_draw yX4_draw : Cond) ∈ fg_TW := fg_tp 62 rfl rfl
theorem ve_X4_nextToken : (.selects RX4 yX4_nextToken yX4_nextToken : Cond) ∈ fg_TW := fg_tp 63 rfl rfl
theorem ve_X4_readsItem : (.selects RX4 yX4_readsItem yX4_readsItem : Cond) ∈ fg_TW := fg_tp 64 rfl rfl
theorem ve_X4_wordOf : (.selects RX4 yX4_wordOf yX4_wordOf : Cond) ∈ fg_TW := fg_tp 65 rfl rfl
theorem ve_X4_readsPerson : (.selects RX4 yX4_readsPerson yX4_readsPerson : Cond) ∈ fg_TW := fg_tp 66 rfl rfl
theorem ve_X4_takesNumber : (.selects RX4 yX4_takesNumber yX4_takesNumber : Cond) ∈ fg_TW := fg_tp 67 rfl rfl
theorem ve_X4_readsLot : (.selects RX4 yX4_readsLot yX4_readsLot : Cond) ∈ fg_TW := fg_tp 68 rfl rfl
theorem ve_X4_readsSun : (.selects RX4 yX4_readsSun yX4_readsSun : Cond) ∈ fg_TW := fg_tp 69 rfl rfl
theorem vn_acopy : (.native arraycopyName : Cond) ∈ fg_TW := fg_t2 100 rfl rfl
theorem vs_acopy : (.static arraycopyName : Cond) ∈ fg_TW := fg_t2 99 rfl rfl
theorem vm_RX2_61 : (.methodLink RX2 61 arraycopyName : Cond) ∈ fg_TW := fg_t2 98 rfl rfl
theorem vm_RX3_219 : (.methodLink RX3 219 arraycopyName : Cond) ∈ fg_TW := fg_t3 139 rfl rfl
theorem vk_Mmin : (.code Lib.Math.min.name Lib.Math.min.code 2 (some .int) : Cond) ∈ fg_TW := fg_t2 40 rfl rfl
theorem vk_Mmax : (.code Lib.Math.max.name Lib.Math.max.code 2 (some .int) : Cond) ∈ fg_TW := fg_t2 43 rfl rfl
theorem vu_X0 : ∀ w ∈ u_ws RX0 TX0 3, w ∈ fg_TW := by
  intro w hw
  have h : ∀ w ∈ u_ws RX0 TX0 3, w ∈ lw_tbl ∧ goodWord w = true := by decide +kernel
  exact fg_tm (h w hw).1 (h w hw).2
theorem vu_X1 : ∀ w ∈ u_ws RX1 TX1 7, w ∈ fg_TW := by
  intro w hw
  have h : ∀ w ∈ u_ws RX1 TX1 7, w ∈ lw_tbl ∧ goodWord w = true := by decide +kernel
  exact fg_tm (h w hw).1 (h w hw).2
theorem vu_X2 : ∀ w ∈ u_ws RX2 TX2 16, w ∈ fg_TW := by
  intro w hw
  have h : ∀ w ∈ u_ws RX2 TX2 16, w ∈ lw_tbl ∧ goodWord w = true := by decide +kernel
  exact fg_tm (h w hw).1 (h w hw).2
theorem vu_X3 : ∀ w ∈ u_ws RX3 TX3 7, w ∈ fg_TW := by
  intro w hw
  have h : ∀ w ∈ u_ws RX3 TX3 7, w ∈ lw_tbl ∧ goodWord w = true := by decide +kernel
  exact fg_tm (h w hw).1 (h w hw).2
theorem vu_X4 : ∀ w ∈ u_ws RX4 TX4 22, w ∈ fg_TW := by
  intro w hw
  have h : ∀ w ∈ u_ws RX4 TX4 22, w ∈ lw_tbl ∧ goodWord w = true := by decide +kernel
  exact fg_tm (h w hw).1 (h w hw).2
theorem vd_X3_init : yX3_init.cls = RX3 ∧ yX3_init.cls ≠ "java/lang/invoke/MethodHandle" ∧ yX3_init.cls ≠ "java/lang/invoke/VarHandle" ∧ (parseMethodDescriptor yX3_init.desc).map (fun d => d.parameters.length) = some 0 := by decide +kernel
theorem vd_X2_init : yX2_init.cls = RX2 ∧ yX2_init.cls ≠ "java/lang/invoke/MethodHandle" ∧ yX2_init.cls ≠ "java/lang/invoke/VarHandle" ∧ (parseMethodDescriptor yX2_init.desc).map (fun d => d.parameters.length) = some 0 := by decide +kernel
theorem vd_X1_init : yX1_init.cls = RX1 ∧ yX1_init.cls ≠ "java/lang/invoke/MethodHandle" ∧ yX1_init.cls ≠ "java/lang/invoke/VarHandle" ∧ (parseMethodDescriptor yX1_init.desc).map (fun d => d.parameters.length) = some 0 := by decide +kernel
theorem vd_X0_init : yX0_init.cls = RX0 ∧ yX0_init.cls ≠ "java/lang/invoke/MethodHandle" ∧ yX0_init.cls ≠ "java/lang/invoke/VarHandle" ∧ (parseMethodDescriptor yX0_init.desc).map (fun d => d.parameters.length) = some 0 := by decide +kernel
theorem vd_X3_lot : yX3_lot.cls = RX3 ∧ yX3_lot.cls ≠ "java/lang/invoke/MethodHandle" ∧ yX3_lot.cls ≠ "java/lang/invoke/VarHandle" ∧ (parseMethodDescriptor yX3_lot.desc).map (fun d => d.parameters.length) = some 3 := by decide +kernel
theorem vd_X3_isLot : yX3_isLot.cls = RX3 ∧ yX3_isLot.cls ≠ "java/lang/invoke/MethodHandle" ∧ yX3_isLot.cls ≠ "java/lang/invoke/VarHandle" ∧ (parseMethodDescriptor yX3_isLot.desc).map (fun d => d.parameters.length) = some 1 := by decide +kernel
theorem vd_X3_finding : yX3_finding.cls = RX3 ∧ yX3_finding.cls ≠ "java/lang/invoke/MethodHandle" ∧ yX3_finding.cls ≠ "java/lang/invoke/VarHandle" ∧ (parseMethodDescriptor yX3_finding.desc).map (fun d => d.parameters.length) = some 1 := by decide +kernel
theorem vd_X3_within : yX3_within.cls = RX3 ∧ yX3_within.cls ≠ "java/lang/invoke/MethodHandle" ∧ yX3_within.cls ≠ "java/lang/invoke/VarHandle" ∧ (parseMethodDescriptor yX3_within.desc).map (fun d => d.parameters.length) = some 3 := by decide +kernel
theorem vd_X3_exchange : yX3_exchange.cls = RX3 ∧ yX3_exchange.cls ≠ "java/lang/invoke/MethodHandle" ∧ yX3_exchange.cls ≠ "java/lang/invoke/VarHandle" ∧ (parseMethodDescriptor yX3_exchange.desc).map (fun d => d.parameters.length) = some 3 := by decide +kernel
theorem vd_X2_isPerson : yX2_isPerson.cls = RX2 ∧ yX2_isPerson.cls ≠ "java/lang/invoke/MethodHandle" ∧ yX2_isPerson.cls ≠ "java/lang/invoke/VarHandle" ∧ (parseMethodDescriptor yX2_isPerson.desc).map (fun d => d.parameters.length) = some 1 := by decide +kernel
theorem vd_X3_lotOf : yX3_lotOf.cls = RX3 ∧ yX3_lotOf.cls ≠ "java/lang/invoke/MethodHandle" ∧ yX3_lotOf.cls ≠ "java/lang/invoke/VarHandle" ∧ (parseMethodDescriptor yX3_lotOf.desc).map (fun d => d.parameters.length) = some 2 := by decide +kernel
theorem vd_X2_thoseOn : yX2_thoseOn.cls = RX2 ∧ yX2_thoseOn.cls ≠ "java/lang/invoke/MethodHandle" ∧ yX2_thoseOn.cls ≠ "java/lang/invoke/VarHandle" ∧ (parseMethodDescriptor yX2_thoseOn.desc).map (fun d => d.parameters.length) = some 1 := by decide +kernel
theorem vd_X2_thoseStanding : yX2_thoseStanding.cls = RX2 ∧ yX2_thoseStanding.cls ≠ "java/lang/invoke/MethodHandle" ∧ yX2_thoseStanding.cls ≠ "java/lang/invoke/VarHandle" ∧ (parseMethodDescriptor yX2_thoseStanding.desc).map (fun d => d.parameters.length) = some 1 := by decide +kernel
theorem vd_X2_stands : yX2_stands.cls = RX2 ∧ yX2_stands.cls ≠ "java/lang/invoke/MethodHandle" ∧ yX2_stands.cls ≠ "java/lang/invoke/VarHandle" ∧ (parseMethodDescriptor yX2_stands.desc).map (fun d => d.parameters.length) = some 2 := by decide +kernel
theorem vd_X2_trustOf : yX2_trustOf.cls = RX2 ∧ yX2_trustOf.cls ≠ "java/lang/invoke/MethodHandle" ∧ yX2_trustOf.cls ≠ "java/lang/invoke/VarHandle" ∧ (parseMethodDescriptor yX2_trustOf.desc).map (fun d => d.parameters.length) = some 2 := by decide +kernel
theorem vd_X3_sun : yX3_sun.cls = RX3 ∧ yX3_sun.cls ≠ "java/lang/invoke/MethodHandle" ∧ yX3_sun.cls ≠ "java/lang/invoke/VarHandle" ∧ (parseMethodDescriptor yX3_sun.desc).map (fun d => d.parameters.length) = some 2 := by decide +kernel
theorem vd_X3_mist : yX3_mist.cls = RX3 ∧ yX3_mist.cls ≠ "java/lang/invoke/MethodHandle" ∧ yX3_mist.cls ≠ "java/lang/invoke/VarHandle" ∧ (parseMethodDescriptor yX3_mist.desc).map (fun d => d.parameters.length) = some 1 := by decide +kernel
theorem vd_X3_person : yX3_person.cls = RX3 ∧ yX3_person.cls ≠ "java/lang/invoke/MethodHandle" ∧ yX3_person.cls ≠ "java/lang/invoke/VarHandle" ∧ (parseMethodDescriptor yX3_person.desc).map (fun d => d.parameters.length) = some 1 := by decide +kernel
theorem vd_X3_isKind : yX3_isKind.cls = RX3 ∧ yX3_isKind.cls ≠ "java/lang/invoke/MethodHandle" ∧ yX3_isKind.cls ≠ "java/lang/invoke/VarHandle" ∧ (parseMethodDescriptor yX3_isKind.desc).map (fun d => d.parameters.length) = some 1 := by decide +kernel
theorem vd_X2_add : yX2_add.cls = RX2 ∧ yX2_add.cls ≠ "java/lang/invoke/MethodHandle" ∧ yX2_add.cls ≠ "java/lang/invoke/VarHandle" ∧ (parseMethodDescriptor yX2_add.desc).map (fun d => d.parameters.length) = some 1 := by decide +kernel
theorem vd_X3_of : yX3_of.cls = RX3 ∧ yX3_of.cls ≠ "java/lang/invoke/MethodHandle" ∧ yX3_of.cls ≠ "java/lang/invoke/VarHandle" ∧ (parseMethodDescriptor yX3_of.desc).map (fun d => d.parameters.length) = some 2 := by decide +kernel
theorem vd_X3_losesOf : yX3_losesOf.cls = RX3 ∧ yX3_losesOf.cls ≠ "java/lang/invoke/MethodHandle" ∧ yX3_losesOf.cls ≠ "java/lang/invoke/VarHandle" ∧ (parseMethodDescriptor yX3_losesOf.desc).map (fun d => d.parameters.length) = some 1 := by decide +kernel
theorem vd_X2_lotMadeFor : yX2_lotMadeFor.cls = RX2 ∧ yX2_lotMadeFor.cls ≠ "java/lang/invoke/MethodHandle" ∧ yX2_lotMadeFor.cls ≠ "java/lang/invoke/VarHandle" ∧ (parseMethodDescriptor yX2_lotMadeFor.desc).map (fun d => d.parameters.length) = some 1 := by decide +kernel
theorem vd_X2_prefers : yX2_prefers.cls = RX2 ∧ yX2_prefers.cls ≠ "java/lang/invoke/MethodHandle" ∧ yX2_prefers.cls ≠ "java/lang/invoke/VarHandle" ∧ (parseMethodDescriptor yX2_prefers.desc).map (fun d => d.parameters.length) = some 3 := by decide +kernel
theorem vd_X2_lotsOwnedBy : yX2_lotsOwnedBy.cls = RX2 ∧ yX2_lotsOwnedBy.cls ≠ "java/lang/invoke/MethodHandle" ∧ yX2_lotsOwnedBy.cls ≠ "java/lang/invoke/VarHandle" ∧ (parseMethodDescriptor yX2_lotsOwnedBy.desc).map (fun d => d.parameters.length) = some 1 := by decide +kernel
theorem vd_X2_valueOf : yX2_valueOf.cls = RX2 ∧ yX2_valueOf.cls ≠ "java/lang/invoke/MethodHandle" ∧ yX2_valueOf.cls ≠ "java/lang/invoke/VarHandle" ∧ (parseMethodDescriptor yX2_valueOf.desc).map (fun d => d.parameters.length) = some 2 := by decide +kernel
theorem vd_X3_change : yX3_change.cls = RX3 ∧ yX3_change.cls ≠ "java/lang/invoke/MethodHandle" ∧ yX3_change.cls ≠ "java/lang/invoke/VarHandle" ∧ (parseMethodDescriptor yX3_change.desc).map (fun d => d.parameters.length) = some 3 := by decide +kernel
theorem vd_X3_trust : yX3_trust.cls = RX3 ∧ yX3_trust.cls ≠ "java/lang/invoke/MethodHandle" ∧ yX3_trust.cls ≠ "java/lang/invoke/VarHandle" ∧ (parseMethodDescriptor yX3_trust.desc).map (fun d => d.parameters.length) = some 2 := by decide +kernel
theorem vd_X3_go : yX3_go.cls = RX3 ∧ yX3_go.cls ≠ "java/lang/invoke/MethodHandle" ∧ yX3_go.cls ≠ "java/lang/invoke/VarHandle" ∧ (parseMethodDescriptor yX3_go.desc).map (fun d => d.parameters.length) = some 1 := by decide +kernel
theorem vd_X2_passDays : yX2_passDays.cls = RX2 ∧ yX2_passDays.cls ≠ "java/lang/invoke/MethodHandle" ∧ yX2_passDays.cls ≠ "java/lang/invoke/VarHandle" ∧ (parseMethodDescriptor yX2_passDays.desc).map (fun d => d.parameters.length) = some 1 := by decide +kernel
theorem vd_X2_thinAndThicken : yX2_thinAndThicken.cls = RX2 ∧ yX2_thinAndThicken.cls ≠ "java/lang/invoke/MethodHandle" ∧ yX2_thinAndThicken.cls ≠ "java/lang/invoke/VarHandle" ∧ (parseMethodDescriptor yX2_thinAndThicken.desc).map (fun d => d.parameters.length) = some 0 := by decide +kernel
theorem vd_J9_min_7cf53 : yJ9_min_7cf53.cls = RJ9 ∧ yJ9_min_7cf53.cls ≠ "java/lang/invoke/MethodHandle" ∧ yJ9_min_7cf53.cls ≠ "java/lang/invoke/VarHandle" ∧ (parseMethodDescriptor yJ9_min_7cf53.desc).map (fun d => d.parameters.length) = some 2 := by decide +kernel
theorem vd_J9_max_7cf53 : yJ9_max_7cf53.cls = RJ9 ∧ yJ9_max_7cf53.cls ≠ "java/lang/invoke/MethodHandle" ∧ yJ9_max_7cf53.cls ≠ "java/lang/invoke/VarHandle" ∧ (parseMethodDescriptor yJ9_max_7cf53.desc).map (fun d => d.parameters.length) = some 2 := by decide +kernel
theorem vd_X2_spreadFog : yX2_spreadFog.cls = RX2 ∧ yX2_spreadFog.cls ≠ "java/lang/invoke/MethodHandle" ∧ yX2_spreadFog.cls ≠ "java/lang/invoke/VarHandle" ∧ (parseMethodDescriptor yX2_spreadFog.desc).map (fun d => d.parameters.length) = some 0 := by decide +kernel
theorem vd_X2_movePeople : yX2_movePeople.cls = RX2 ∧ yX2_movePeople.cls ≠ "java/lang/invoke/MethodHandle" ∧ yX2_movePeople.cls ≠ "java/lang/invoke/VarHandle" ∧ (parseMethodDescriptor yX2_movePeople.desc).map (fun d => d.parameters.length) = some 0 := by decide +kernel
theorem vd_X2_isGone : yX2_isGone.cls = RX2 ∧ yX2_isGone.cls ≠ "java/lang/invoke/MethodHandle" ∧ yX2_isGone.cls ≠ "java/lang/invoke/VarHandle" ∧ (parseMethodDescriptor yX2_isGone.desc).map (fun d => d.parameters.length) = some 1 := by decide +kernel
theorem vd_X2_fall : yX2_fall.cls = RX2 ∧ yX2_fall.cls ≠ "java/lang/invoke/MethodHandle" ∧ yX2_fall.cls ≠ "java/lang/invoke/VarHandle" ∧ (parseMethodDescriptor yX2_fall.desc).map (fun d => d.parameters.length) = some 1 := by decide +kernel
theorem vd_X2_payRents : yX2_payRents.cls = RX2 ∧ yX2_payRents.cls ≠ "java/lang/invoke/MethodHandle" ∧ yX2_payRents.cls ≠ "java/lang/invoke/VarHandle" ∧ (parseMethodDescriptor yX2_payRents.desc).map (fun d => d.parameters.length) = some 0 := by decide +kernel
theorem vd_X2_spreadBelief : yX2_spreadBelief.cls = RX2 ∧ yX2_spreadBelief.cls ≠ "java/lang/invoke/MethodHandle" ∧ yX2_spreadBelief.cls ≠ "java/lang/invoke/VarHandle" ∧ (parseMethodDescriptor yX2_spreadBelief.desc).map (fun d => d.parameters.length) = some 0 := by decide +kernel
theorem vd_X2_greatestBeliefBeside : yX2_greatestBeliefBeside.cls = RX2 ∧ yX2_greatestBeliefBeside.cls ≠ "java/lang/invoke/MethodHandle" ∧ yX2_greatestBeliefBeside.cls ≠ "java/lang/invoke/VarHandle" ∧ (parseMethodDescriptor yX2_greatestBeliefBeside.desc).map (fun d => d.parameters.length) = some 1 := by decide +kernel
theorem vd_X2_thoseOnLots : yX2_thoseOnLots.cls = RX2 ∧ yX2_thoseOnLots.cls ≠ "java/lang/invoke/MethodHandle" ∧ yX2_thoseOnLots.cls ≠ "java/lang/invoke/VarHandle" ∧ (parseMethodDescriptor yX2_thoseOnLots.desc).map (fun d => d.parameters.length) = some 0 := by decide +kernel
theorem vd_X3_now : yX3_now.cls = RX3 ∧ yX3_now.cls ≠ "java/lang/invoke/MethodHandle" ∧ yX3_now.cls ≠ "java/lang/invoke/VarHandle" ∧ (parseMethodDescriptor yX3_now.desc).map (fun d => d.parameters.length) = some 1 := by decide +kernel
theorem vd_X3_sumOf : yX3_sumOf.cls = RX3 ∧ yX3_sumOf.cls ≠ "java/lang/invoke/MethodHandle" ∧ yX3_sumOf.cls ≠ "java/lang/invoke/VarHandle" ∧ (parseMethodDescriptor yX3_sumOf.desc).map (fun d => d.parameters.length) = some 2 := by decide +kernel
theorem vd_X3_firstGreatest : yX3_firstGreatest.cls = RX3 ∧ yX3_firstGreatest.cls ≠ "java/lang/invoke/MethodHandle" ∧ yX3_firstGreatest.cls ≠ "java/lang/invoke/VarHandle" ∧ (parseMethodDescriptor yX3_firstGreatest.desc).map (fun d => d.parameters.length) = some 2 := by decide +kernel
theorem vd_X3_ahead : yX3_ahead.cls = RX3 ∧ yX3_ahead.cls ≠ "java/lang/invoke/MethodHandle" ∧ yX3_ahead.cls ≠ "java/lang/invoke/VarHandle" ∧ (parseMethodDescriptor yX3_ahead.desc).map (fun d => d.parameters.length) = some 3 := by decide +kernel
theorem vd_X2_become : yX2_become.cls = RX2 ∧ yX2_become.cls ≠ "java/lang/invoke/MethodHandle" ∧ yX2_become.cls ≠ "java/lang/invoke/VarHandle" ∧ (parseMethodDescriptor yX2_become.desc).map (fun d => d.parameters.length) = some 1 := by decide +kernel
theorem vd_X3_fog : yX3_fog.cls = RX3 ∧ yX3_fog.cls ≠ "java/lang/invoke/MethodHandle" ∧ yX3_fog.cls ≠ "java/lang/invoke/VarHandle" ∧ (parseMethodDescriptor yX3_fog.desc).map (fun d => d.parameters.length) = some 2 := by decide +kernel
theorem vd_X3_falls : yX3_falls.cls = RX3 ∧ yX3_falls.cls ≠ "java/lang/invoke/MethodHandle" ∧ yX3_falls.cls ≠ "java/lang/invoke/VarHandle" ∧ (parseMethodDescriptor yX3_falls.desc).map (fun d => d.parameters.length) = some 1 := by decide +kernel
theorem vd_X3_bare : yX3_bare.cls = RX3 ∧ yX3_bare.cls ≠ "java/lang/invoke/MethodHandle" ∧ yX3_bare.cls ≠ "java/lang/invoke/VarHandle" ∧ (parseMethodDescriptor yX3_bare.desc).map (fun d => d.parameters.length) = some 0 := by decide +kernel
theorem vd_X3_meet : yX3_meet.cls = RX3 ∧ yX3_meet.cls ≠ "java/lang/invoke/MethodHandle" ∧ yX3_meet.cls ≠ "java/lang/invoke/VarHandle" ∧ (parseMethodDescriptor yX3_meet.desc).map (fun d => d.parameters.length) = some 2 := by decide +kernel
theorem vd_X3_beliefFor : yX3_beliefFor.cls = RX3 ∧ yX3_beliefFor.cls ≠ "java/lang/invoke/MethodHandle" ∧ yX3_beliefFor.cls ≠ "java/lang/invoke/VarHandle" ∧ (parseMethodDescriptor yX3_beliefFor.desc).map (fun d => d.parameters.length) = some 2 := by decide +kernel
theorem vd_X3_settle : yX3_settle.cls = RX3 ∧ yX3_settle.cls ≠ "java/lang/invoke/MethodHandle" ∧ yX3_settle.cls ≠ "java/lang/invoke/VarHandle" ∧ (parseMethodDescriptor yX3_settle.desc).map (fun d => d.parameters.length) = some 2 := by decide +kernel
theorem vd_X3_kindFor : yX3_kindFor.cls = RX3 ∧ yX3_kindFor.cls ≠ "java/lang/invoke/MethodHandle" ∧ yX3_kindFor.cls ≠ "java/lang/invoke/VarHandle" ∧ (parseMethodDescriptor yX3_kindFor.desc).map (fun d => d.parameters.length) = some 2 := by decide +kernel
theorem vd_X3_rentFor : yX3_rentFor.cls = RX3 ∧ yX3_rentFor.cls ≠ "java/lang/invoke/MethodHandle" ∧ yX3_rentFor.cls ≠ "java/lang/invoke/VarHandle" ∧ (parseMethodDescriptor yX3_rentFor.desc).map (fun d => d.parameters.length) = some 2 := by decide +kernel
theorem vd_X3_sunFor : yX3_sunFor.cls = RX3 ∧ yX3_sunFor.cls ≠ "java/lang/invoke/MethodHandle" ∧ yX3_sunFor.cls ≠ "java/lang/invoke/VarHandle" ∧ (parseMethodDescriptor yX3_sunFor.desc).map (fun d => d.parameters.length) = some 1 := by decide +kernel
theorem vd_X3_away : yX3_away.cls = RX3 ∧ yX3_away.cls ≠ "java/lang/invoke/MethodHandle" ∧ yX3_away.cls ≠ "java/lang/invoke/VarHandle" ∧ (parseMethodDescriptor yX3_away.desc).map (fun d => d.parameters.length) = some 2 := by decide +kernel
theorem vd_J6_bitCount_0f7a4 : yJ6_bitCount_0f7a4.cls = RJ6 ∧ yJ6_bitCount_0f7a4.cls ≠ "java/lang/invoke/MethodHandle" ∧ yJ6_bitCount_0f7a4.cls ≠ "java/lang/invoke/VarHandle" ∧ (parseMethodDescriptor yJ6_bitCount_0f7a4.desc).map (fun d => d.parameters.length) = some 1 := by decide +kernel
theorem vd_X2_sendAway : yX2_sendAway.cls = RX2 ∧ yX2_sendAway.cls ≠ "java/lang/invoke/MethodHandle" ∧ yX2_sendAway.cls ≠ "java/lang/invoke/VarHandle" ∧ (parseMethodDescriptor yX2_sendAway.desc).map (fun d => d.parameters.length) = some 1 := by decide +kernel
theorem vd_X3_fits : yX3_fits.cls = RX3 ∧ yX3_fits.cls ≠ "java/lang/invoke/MethodHandle" ∧ yX3_fits.cls ≠ "java/lang/invoke/VarHandle" ∧ (parseMethodDescriptor yX3_fits.desc).map (fun d => d.parameters.length) = some 2 := by decide +kernel
theorem vd_X3_faultOfTold : yX3_faultOfTold.cls = RX3 ∧ yX3_faultOfTold.cls ≠ "java/lang/invoke/MethodHandle" ∧ yX3_faultOfTold.cls ≠ "java/lang/invoke/VarHandle" ∧ (parseMethodDescriptor yX3_faultOfTold.desc).map (fun d => d.parameters.length) = some 2 := by decide +kernel
theorem vd_X3_isSheet : yX3_isSheet.cls = RX3 ∧ yX3_isSheet.cls ≠ "java/lang/invoke/MethodHandle" ∧ yX3_isSheet.cls ≠ "java/lang/invoke/VarHandle" ∧ (parseMethodDescriptor yX3_isSheet.desc).map (fun d => d.parameters.length) = some 1 := by decide +kernel
theorem vd_X0_isMissing : yX0_isMissing.cls = RX0 ∧ yX0_isMissing.cls ≠ "java/lang/invoke/MethodHandle" ∧ yX0_isMissing.cls ≠ "java/lang/invoke/VarHandle" ∧ (parseMethodDescriptor yX0_isMissing.desc).map (fun d => d.parameters.length) = some 0 := by decide +kernel
theorem vd_X3_goesAsTold : yX3_goesAsTold.cls = RX3 ∧ yX3_goesAsTold.cls ≠ "java/lang/invoke/MethodHandle" ∧ yX3_goesAsTold.cls ≠ "java/lang/invoke/VarHandle" ∧ (parseMethodDescriptor yX3_goesAsTold.desc).map (fun d => d.parameters.length) = some 2 := by decide +kernel
theorem vd_X3_believed : yX3_believed.cls = RX3 ∧ yX3_believed.cls ≠ "java/lang/invoke/MethodHandle" ∧ yX3_believed.cls ≠ "java/lang/invoke/VarHandle" ∧ (parseMethodDescriptor yX3_believed.desc).map (fun d => d.parameters.length) = some 2 := by decide +kernel
theorem vd_X3_kinds : yX3_kinds.cls = RX3 ∧ yX3_kinds.cls ≠ "java/lang/invoke/MethodHandle" ∧ yX3_kinds.cls ≠ "java/lang/invoke/VarHandle" ∧ (parseMethodDescriptor yX3_kinds.desc).map (fun d => d.parameters.length) = some 2 := by decide +kernel
theorem vd_X3_fine : yX3_fine.cls = RX3 ∧ yX3_fine.cls ≠ "java/lang/invoke/MethodHandle" ∧ yX3_fine.cls ≠ "java/lang/invoke/VarHandle" ∧ (parseMethodDescriptor yX3_fine.desc).map (fun d => d.parameters.length) = some 1 := by decide +kernel
theorem vd_X2_draw : yX2_draw.cls = RX2 ∧ yX2_draw.cls ≠ "java/lang/invoke/MethodHandle" ∧ yX2_draw.cls ≠ "java/lang/invoke/VarHandle" ∧ (parseMethodDescriptor yX2_draw.desc).map (fun d => d.parameters.length) = some 0 := by decide +kernel
theorem vd_X3_odds : yX3_odds.cls = RX3 ∧ yX3_odds.cls ≠ "java/lang/invoke/MethodHandle" ∧ yX3_odds.cls ≠ "java/lang/invoke/VarHandle" ∧ (parseMethodDescriptor yX3_odds.desc).map (fun d => d.parameters.length) = some 3 := by decide +kernel
theorem vd_X3_greatestCommon : yX3_greatestCommon.cls = RX3 ∧ yX3_greatestCommon.cls ≠ "java/lang/invoke/MethodHandle" ∧ yX3_greatestCommon.cls ≠ "java/lang/invoke/VarHandle" ∧ (parseMethodDescriptor yX3_greatestCommon.desc).map (fun d => d.parameters.length) = some 2 := by decide +kernel
theorem vd_X3_seed : yX3_seed.cls = RX3 ∧ yX3_seed.cls ≠ "java/lang/invoke/MethodHandle" ∧ yX3_seed.cls ≠ "java/lang/invoke/VarHandle" ∧ (parseMethodDescriptor yX3_seed.desc).map (fun d => d.parameters.length) = some 1 := by decide +kernel
theorem vd_X3_feed : yX3_feed.cls = RX3 ∧ yX3_feed.cls ≠ "java/lang/invoke/MethodHandle" ∧ yX3_feed.cls ≠ "java/lang/invoke/VarHandle" ∧ (parseMethodDescriptor yX3_feed.desc).map (fun d => d.parameters.length) = some 2 := by decide +kernel
theorem vd_X1_append : yX1_append.cls = RX1 ∧ yX1_append.cls ≠ "java/lang/invoke/MethodHandle" ∧ yX1_append.cls ≠ "java/lang/invoke/VarHandle" ∧ (parseMethodDescriptor yX1_append.desc).map (fun d => d.parameters.length) = some 1 := by decide +kernel
theorem vd_X3_wipe : yX3_wipe.cls = RX3 ∧ yX3_wipe.cls ≠ "java/lang/invoke/MethodHandle" ∧ yX3_wipe.cls ≠ "java/lang/invoke/VarHandle" ∧ (parseMethodDescriptor yX3_wipe.desc).map (fun d => d.parameters.length) = some 0 := by decide +kernel
theorem vd_X3_text : yX3_text.cls = RX3 ∧ yX3_text.cls ≠ "java/lang/invoke/MethodHandle" ∧ yX3_text.cls ≠ "java/lang/invoke/VarHandle" ∧ (parseMethodDescriptor yX3_text.desc).map (fun d => d.parameters.length) = some 0 := by decide +kernel
theorem vd_X1_tellTo : yX1_tellTo.cls = RX1 ∧ yX1_tellTo.cls ≠ "java/lang/invoke/MethodHandle" ∧ yX1_tellTo.cls ≠ "java/lang/invoke/VarHandle" ∧ (parseMethodDescriptor yX1_tellTo.desc).map (fun d => d.parameters.length) = some 1 := by decide +kernel
theorem vd_X1_nextToken : yX1_nextToken.cls = RX1 ∧ yX1_nextToken.cls ≠ "java/lang/invoke/MethodHandle" ∧ yX1_nextToken.cls ≠ "java/lang/invoke/VarHandle" ∧ (parseMethodDescriptor yX1_nextToken.desc).map (fun d => d.parameters.length) = some 0 := by decide +kernel
theorem vd_X1_isLetter : yX1_isLetter.cls = RX1 ∧ yX1_isLetter.cls ≠ "java/lang/invoke/MethodHandle" ∧ yX1_isLetter.cls ≠ "java/lang/invoke/VarHandle" ∧ (parseMethodDescriptor yX1_isLetter.desc).map (fun d => d.parameters.length) = some 1 := by decide +kernel
theorem vd_X1_readWord : yX1_readWord.cls = RX1 ∧ yX1_readWord.cls ≠ "java/lang/invoke/MethodHandle" ∧ yX1_readWord.cls ≠ "java/lang/invoke/VarHandle" ∧ (parseMethodDescriptor yX1_readWord.desc).map (fun d => d.parameters.length) = some 0 := by decide +kernel
theorem vd_X1_isDigit : yX1_isDigit.cls = RX1 ∧ yX1_isDigit.cls ≠ "java/lang/invoke/MethodHandle" ∧ yX1_isDigit.cls ≠ "java/lang/invoke/VarHandle" ∧ (parseMethodDescriptor yX1_isDigit.desc).map (fun d => d.parameters.length) = some 1 := by decide +kernel
theorem vd_X1_readNumber : yX1_readNumber.cls = RX1 ∧ yX1_readNumber.cls ≠ "java/lang/invoke/MethodHandle" ∧ yX1_readNumber.cls ≠ "java/lang/invoke/VarHandle" ∧ (parseMethodDescriptor yX1_readNumber.desc).map (fun d => d.parameters.length) = some 0 := by decide +kernel
theorem vd_X1_tellItem : yX1_tellItem.cls = RX1 ∧ yX1_tellItem.cls ≠ "java/lang/invoke/MethodHandle" ∧ yX1_tellItem.cls ≠ "java/lang/invoke/VarHandle" ∧ (parseMethodDescriptor yX1_tellItem.desc).map (fun d => d.parameters.length) = some 1 := by decide +kernel
theorem vd_X1_kindOfWord : yX1_kindOfWord.cls = RX1 ∧ yX1_kindOfWord.cls ≠ "java/lang/invoke/MethodHandle" ∧ yX1_kindOfWord.cls ≠ "java/lang/invoke/VarHandle" ∧ (parseMethodDescriptor yX1_kindOfWord.desc).map (fun d => d.parameters.length) = some 0 := by decide +kernel
theorem vd_X1_isWord : yX1_isWord.cls = RX1 ∧ yX1_isWord.cls ≠ "java/lang/invoke/MethodHandle" ∧ yX1_isWord.cls ≠ "java/lang/invoke/VarHandle" ∧ (parseMethodDescriptor yX1_isWord.desc).map (fun d => d.parameters.length) = some 1 := by decide +kernel
theorem vd_X1_tellPerson : yX1_tellPerson.cls = RX1 ∧ yX1_tellPerson.cls ≠ "java/lang/invoke/MethodHandle" ∧ yX1_tellPerson.cls ≠ "java/lang/invoke/VarHandle" ∧ (parseMethodDescriptor yX1_tellPerson.desc).map (fun d => d.parameters.length) = some 2 := by decide +kernel
theorem vd_X1_faultHere : yX1_faultHere.cls = RX1 ∧ yX1_faultHere.cls ≠ "java/lang/invoke/MethodHandle" ∧ yX1_faultHere.cls ≠ "java/lang/invoke/VarHandle" ∧ (parseMethodDescriptor yX1_faultHere.desc).map (fun d => d.parameters.length) = some 0 := by decide +kernel
theorem vd_X1_took : yX1_took.cls = RX1 ∧ yX1_took.cls ≠ "java/lang/invoke/MethodHandle" ∧ yX1_took.cls ≠ "java/lang/invoke/VarHandle" ∧ (parseMethodDescriptor yX1_took.desc).map (fun d => d.parameters.length) = some 1 := by decide +kernel
theorem vd_X1_takeNumber : yX1_takeNumber.cls = RX1 ∧ yX1_takeNumber.cls ≠ "java/lang/invoke/MethodHandle" ∧ yX1_takeNumber.cls ≠ "java/lang/invoke/VarHandle" ∧ (parseMethodDescriptor yX1_takeNumber.desc).map (fun d => d.parameters.length) = some 1 := by decide +kernel
theorem vd_X1_tellLot : yX1_tellLot.cls = RX1 ∧ yX1_tellLot.cls ≠ "java/lang/invoke/MethodHandle" ∧ yX1_tellLot.cls ≠ "java/lang/invoke/VarHandle" ∧ (parseMethodDescriptor yX1_tellLot.desc).map (fun d => d.parameters.length) = some 1 := by decide +kernel
theorem vd_X1_tellSun : yX1_tellSun.cls = RX1 ∧ yX1_tellSun.cls ≠ "java/lang/invoke/MethodHandle" ∧ yX1_tellSun.cls ≠ "java/lang/invoke/VarHandle" ∧ (parseMethodDescriptor yX1_tellSun.desc).map (fun d => d.parameters.length) = some 1 := by decide +kernel
theorem vd_X3_hold : yX3_hold.cls = RX3 ∧ yX3_hold.cls ≠ "java/lang/invoke/MethodHandle" ∧ yX3_hold.cls ≠ "java/lang/invoke/VarHandle" ∧ (parseMethodDescriptor yX3_hold.desc).map (fun d => d.parameters.length) = some 2 := by decide +kernel
theorem vd_X3_as : yX3_as.cls = RX3 ∧ yX3_as.cls ≠ "java/lang/invoke/MethodHandle" ∧ yX3_as.cls ≠ "java/lang/invoke/VarHandle" ∧ (parseMethodDescriptor yX3_as.desc).map (fun d => d.parameters.length) = some 2 := by decide +kernel
theorem vd_X3_isUnder : yX3_isUnder.cls = RX3 ∧ yX3_isUnder.cls ≠ "java/lang/invoke/MethodHandle" ∧ yX3_isUnder.cls ≠ "java/lang/invoke/VarHandle" ∧ (parseMethodDescriptor yX3_isUnder.desc).map (fun d => d.parameters.length) = some 2 := by decide +kernel
theorem vd_X3_kindAbove : yX3_kindAbove.cls = RX3 ∧ yX3_kindAbove.cls ≠ "java/lang/invoke/MethodHandle" ∧ yX3_kindAbove.cls ≠ "java/lang/invoke/VarHandle" ∧ (parseMethodDescriptor yX3_kindAbove.desc).map (fun d => d.parameters.length) = some 1 := by decide +kernel
theorem vd_X3_sheet : yX3_sheet.cls = RX3 ∧ yX3_sheet.cls ≠ "java/lang/invoke/MethodHandle" ∧ yX3_sheet.cls ≠ "java/lang/invoke/VarHandle" ∧ (parseMethodDescriptor yX3_sheet.desc).map (fun d => d.parameters.length) = some 3 := by decide +kernel
theorem vd_X0_begin : yX0_begin.cls = RX0 ∧ yX0_begin.cls ≠ "java/lang/invoke/MethodHandle" ∧ yX0_begin.cls ≠ "java/lang/invoke/VarHandle" ∧ (parseMethodDescriptor yX0_begin.desc).map (fun d => d.parameters.length) = some 2 := by decide +kernel
theorem vd_X3_write : yX3_write.cls = RX3 ∧ yX3_write.cls ≠ "java/lang/invoke/MethodHandle" ∧ yX3_write.cls ≠ "java/lang/invoke/VarHandle" ∧ (parseMethodDescriptor yX3_write.desc).map (fun d => d.parameters.length) = some 3 := by decide +kernel
theorem vd_X0_put : yX0_put.cls = RX0 ∧ yX0_put.cls ≠ "java/lang/invoke/MethodHandle" ∧ yX0_put.cls ≠ "java/lang/invoke/VarHandle" ∧ (parseMethodDescriptor yX0_put.desc).map (fun d => d.parameters.length) = some 2 := by decide +kernel
theorem vd_X3_copy : yX3_copy.cls = RX3 ∧ yX3_copy.cls ≠ "java/lang/invoke/MethodHandle" ∧ yX3_copy.cls ≠ "java/lang/invoke/VarHandle" ∧ (parseMethodDescriptor yX3_copy.desc).map (fun d => d.parameters.length) = some 5 := by decide +kernel
theorem vd_X0_has : yX0_has.cls = RX0 ∧ yX0_has.cls ≠ "java/lang/invoke/MethodHandle" ∧ yX0_has.cls ≠ "java/lang/invoke/VarHandle" ∧ (parseMethodDescriptor yX0_has.desc).map (fun d => d.parameters.length) = some 2 := by decide +kernel
theorem vd_X3_load : yX3_load.cls = RX3 ∧ yX3_load.cls ≠ "java/lang/invoke/MethodHandle" ∧ yX3_load.cls ≠ "java/lang/invoke/VarHandle" ∧ (parseMethodDescriptor yX3_load.desc).map (fun d => d.parameters.length) = some 1 := by decide +kernel
theorem vd_X3_judge : yX3_judge.cls = RX3 ∧ yX3_judge.cls ≠ "java/lang/invoke/MethodHandle" ∧ yX3_judge.cls ≠ "java/lang/invoke/VarHandle" ∧ (parseMethodDescriptor yX3_judge.desc).map (fun d => d.parameters.length) = some 1 := by decide +kernel
theorem vd_X3_image : yX3_image.cls = RX3 ∧ yX3_image.cls ≠ "java/lang/invoke/MethodHandle" ∧ yX3_image.cls ≠ "java/lang/invoke/VarHandle" ∧ (parseMethodDescriptor yX3_image.desc).map (fun d => d.parameters.length) = some 0 := by decide +kernel
theorem vd_X3_undo : yX3_undo.cls = RX3 ∧ yX3_undo.cls ≠ "java/lang/invoke/MethodHandle" ∧ yX3_undo.cls ≠ "java/lang/invoke/VarHandle" ∧ (parseMethodDescriptor yX3_undo.desc).map (fun d => d.parameters.length) = some 0 := by decide +kernel
theorem vd_X3_tear : yX3_tear.cls = RX3 ∧ yX3_tear.cls ≠ "java/lang/invoke/MethodHandle" ∧ yX3_tear.cls ≠ "java/lang/invoke/VarHandle" ∧ (parseMethodDescriptor yX3_tear.desc).map (fun d => d.parameters.length) = some 0 := by decide +kernel
theorem vd_X3_count : yX3_count.cls = RX3 ∧ yX3_count.cls ≠ "java/lang/invoke/MethodHandle" ∧ yX3_count.cls ≠ "java/lang/invoke/VarHandle" ∧ (parseMethodDescriptor yX3_count.desc).map (fun d => d.parameters.length) = some 1 := by decide +kernel
theorem vd_X2_spotsHeld : yX2_spotsHeld.cls = RX2 ∧ yX2_spotsHeld.cls ≠ "java/lang/invoke/MethodHandle" ∧ yX2_spotsHeld.cls ≠ "java/lang/invoke/VarHandle" ∧ (parseMethodDescriptor yX2_spotsHeld.desc).map (fun d => d.parameters.length) = some 0 := by decide +kernel
theorem vd_X3_status : yX3_status.cls = RX3 ∧ yX3_status.cls ≠ "java/lang/invoke/MethodHandle" ∧ yX3_status.cls ≠ "java/lang/invoke/VarHandle" ∧ (parseMethodDescriptor yX3_status.desc).map (fun d => d.parameters.length) = some 1 := by decide +kernel
theorem vd_X4_init : yX4_init.cls = RX4 ∧ yX4_init.cls ≠ "java/lang/invoke/MethodHandle" ∧ yX4_init.cls ≠ "java/lang/invoke/VarHandle" ∧ (parseMethodDescriptor yX4_init.desc).map (fun d => d.parameters.length) = some 0 := by decide +kernel
theorem vd_X4_lays1 : yX4_lays1.cls = RX4 ∧ yX4_lays1.cls ≠ "java/lang/invoke/MethodHandle" ∧ yX4_lays1.cls ≠ "java/lang/invoke/VarHandle" ∧ (parseMethodDescriptor yX4_lays1.desc).map (fun d => d.parameters.length) = some 3 := by decide +kernel
theorem vd_X4_lot : yX4_lot.cls = RX4 ∧ yX4_lot.cls ≠ "java/lang/invoke/MethodHandle" ∧ yX4_lot.cls ≠ "java/lang/invoke/VarHandle" ∧ (parseMethodDescriptor yX4_lot.desc).map (fun d => d.parameters.length) = some 3 := by decide +kernel
theorem vd_X4_isLot : yX4_isLot.cls = RX4 ∧ yX4_isLot.cls ≠ "java/lang/invoke/MethodHandle" ∧ yX4_isLot.cls ≠ "java/lang/invoke/VarHandle" ∧ (parseMethodDescriptor yX4_isLot.desc).map (fun d => d.parameters.length) = some 1 := by decide +kernel
theorem vd_X4_in1 : yX4_in1.cls = RX4 ∧ yX4_in1.cls ≠ "java/lang/invoke/MethodHandle" ∧ yX4_in1.cls ≠ "java/lang/invoke/VarHandle" ∧ (parseMethodDescriptor yX4_in1.desc).map (fun d => d.parameters.length) = some 3 := by decide +kernel
theorem vd_X4_no : yX4_no.cls = RX4 ∧ yX4_no.cls ≠ "java/lang/invoke/MethodHandle" ∧ yX4_no.cls ≠ "java/lang/invoke/VarHandle" ∧ (parseMethodDescriptor yX4_no.desc).map (fun d => d.parameters.length) = some 1 := by decide +kernel
theorem vd_X4_of1 : yX4_of1.cls = RX4 ∧ yX4_of1.cls ≠ "java/lang/invoke/MethodHandle" ∧ yX4_of1.cls ≠ "java/lang/invoke/VarHandle" ∧ (parseMethodDescriptor yX4_of1.desc).map (fun d => d.parameters.length) = some 2 := by decide +kernel
theorem vd_X4_lotOf : yX4_lotOf.cls = RX4 ∧ yX4_lotOf.cls ≠ "java/lang/invoke/MethodHandle" ∧ yX4_lotOf.cls ≠ "java/lang/invoke/VarHandle" ∧ (parseMethodDescriptor yX4_lotOf.desc).map (fun d => d.parameters.length) = some 2 := by decide +kernel
theorem vd_X4_whoIsOn : yX4_whoIsOn.cls = RX4 ∧ yX4_whoIsOn.cls ≠ "java/lang/invoke/MethodHandle" ∧ yX4_whoIsOn.cls ≠ "java/lang/invoke/VarHandle" ∧ (parseMethodDescriptor yX4_whoIsOn.desc).map (fun d => d.parameters.length) = some 1 := by decide +kernel
theorem vd_X4_get : yX4_get.cls = RX4 ∧ yX4_get.cls ≠ "java/lang/invoke/MethodHandle" ∧ yX4_get.cls ≠ "java/lang/invoke/VarHandle" ∧ (parseMethodDescriptor yX4_get.desc).map (fun d => d.parameters.length) = some 2 := by decide +kernel
theorem vd_X4_standing : yX4_standing.cls = RX4 ∧ yX4_standing.cls ≠ "java/lang/invoke/MethodHandle" ∧ yX4_standing.cls ≠ "java/lang/invoke/VarHandle" ∧ (parseMethodDescriptor yX4_standing.desc).map (fun d => d.parameters.length) = some 1 := by decide +kernel
theorem vd_X4_stands : yX4_stands.cls = RX4 ∧ yX4_stands.cls ≠ "java/lang/invoke/MethodHandle" ∧ yX4_stands.cls ≠ "java/lang/invoke/VarHandle" ∧ (parseMethodDescriptor yX4_stands.desc).map (fun d => d.parameters.length) = some 2 := by decide +kernel
theorem vd_X4_trustOf : yX4_trustOf.cls = RX4 ∧ yX4_trustOf.cls ≠ "java/lang/invoke/MethodHandle" ∧ yX4_trustOf.cls ≠ "java/lang/invoke/VarHandle" ∧ (parseMethodDescriptor yX4_trustOf.desc).map (fun d => d.parameters.length) = some 2 := by decide +kernel
theorem vd_X4_bits : yX4_bits.cls = RX4 ∧ yX4_bits.cls ≠ "java/lang/invoke/MethodHandle" ∧ yX4_bits.cls ≠ "java/lang/invoke/VarHandle" ∧ (parseMethodDescriptor yX4_bits.desc).map (fun d => d.parameters.length) = some 1 := by decide +kernel
theorem vd_X4_sun : yX4_sun.cls = RX4 ∧ yX4_sun.cls ≠ "java/lang/invoke/MethodHandle" ∧ yX4_sun.cls ≠ "java/lang/invoke/VarHandle" ∧ (parseMethodDescriptor yX4_sun.desc).map (fun d => d.parameters.length) = some 2 := by decide +kernel
theorem vd_X4_mist : yX4_mist.cls = RX4 ∧ yX4_mist.cls ≠ "java/lang/invoke/MethodHandle" ∧ yX4_mist.cls ≠ "java/lang/invoke/VarHandle" ∧ (parseMethodDescriptor yX4_mist.desc).map (fun d => d.parameters.length) = some 1 := by decide +kernel
theorem vd_X4_person : yX4_person.cls = RX4 ∧ yX4_person.cls ≠ "java/lang/invoke/MethodHandle" ∧ yX4_person.cls ≠ "java/lang/invoke/VarHandle" ∧ (parseMethodDescriptor yX4_person.desc).map (fun d => d.parameters.length) = some 1 := by decide +kernel
theorem vd_X4_adds : yX4_adds.cls = RX4 ∧ yX4_adds.cls ≠ "java/lang/invoke/MethodHandle" ∧ yX4_adds.cls ≠ "java/lang/invoke/VarHandle" ∧ (parseMethodDescriptor yX4_adds.desc).map (fun d => d.parameters.length) = some 1 := by decide +kernel
theorem vd_X4_puts : yX4_puts.cls = RX4 ∧ yX4_puts.cls ≠ "java/lang/invoke/MethodHandle" ∧ yX4_puts.cls ≠ "java/lang/invoke/VarHandle" ∧ (parseMethodDescriptor yX4_puts.desc).map (fun d => d.parameters.length) = some 3 := by decide +kernel
theorem vd_X4_of : yX4_of.cls = RX4 ∧ yX4_of.cls ≠ "java/lang/invoke/MethodHandle" ∧ yX4_of.cls ≠ "java/lang/invoke/VarHandle" ∧ (parseMethodDescriptor yX4_of.desc).map (fun d => d.parameters.length) = some 2 := by decide +kernel
theorem vd_X4_isPerson : yX4_isPerson.cls = RX4 ∧ yX4_isPerson.cls ≠ "java/lang/invoke/MethodHandle" ∧ yX4_isPerson.cls ≠ "java/lang/invoke/VarHandle" ∧ (parseMethodDescriptor yX4_isPerson.desc).map (fun d => d.parameters.length) = some 1 := by decide +kernel
theorem vd_X4_losesOf : yX4_losesOf.cls = RX4 ∧ yX4_losesOf.cls ≠ "java/lang/invoke/MethodHandle" ∧ yX4_losesOf.cls ≠ "java/lang/invoke/VarHandle" ∧ (parseMethodDescriptor yX4_losesOf.desc).map (fun d => d.parameters.length) = some 1 := by decide +kernel
theorem vd_X4_makesFor : yX4_makesFor.cls = RX4 ∧ yX4_makesFor.cls ≠ "java/lang/invoke/MethodHandle" ∧ yX4_makesFor.cls ≠ "java/lang/invoke/VarHandle" ∧ (parseMethodDescriptor yX4_makesFor.desc).map (fun d => d.parameters.length) = some 1 := by decide +kernel
theorem vd_X4_isBetter : yX4_isBetter.cls = RX4 ∧ yX4_isBetter.cls ≠ "java/lang/invoke/MethodHandle" ∧ yX4_isBetter.cls ≠ "java/lang/invoke/VarHandle" ∧ (parseMethodDescriptor yX4_isBetter.desc).map (fun d => d.parameters.length) = some 3 := by decide +kernel
theorem vd_X4_ownedBy : yX4_ownedBy.cls = RX4 ∧ yX4_ownedBy.cls ≠ "java/lang/invoke/MethodHandle" ∧ yX4_ownedBy.cls ≠ "java/lang/invoke/VarHandle" ∧ (parseMethodDescriptor yX4_ownedBy.desc).map (fun d => d.parameters.length) = some 1 := by decide +kernel
theorem vd_X4_change : yX4_change.cls = RX4 ∧ yX4_change.cls ≠ "java/lang/invoke/MethodHandle" ∧ yX4_change.cls ≠ "java/lang/invoke/VarHandle" ∧ (parseMethodDescriptor yX4_change.desc).map (fun d => d.parameters.length) = some 3 := by decide +kernel
theorem vd_X4_trust : yX4_trust.cls = RX4 ∧ yX4_trust.cls ≠ "java/lang/invoke/MethodHandle" ∧ yX4_trust.cls ≠ "java/lang/invoke/VarHandle" ∧ (parseMethodDescriptor yX4_trust.desc).map (fun d => d.parameters.length) = some 2 := by decide +kernel
theorem vd_X4_go : yX4_go.cls = RX4 ∧ yX4_go.cls ≠ "java/lang/invoke/MethodHandle" ∧ yX4_go.cls ≠ "java/lang/invoke/VarHandle" ∧ (parseMethodDescriptor yX4_go.desc).map (fun d => d.parameters.length) = some 1 := by decide +kernel
theorem vd_X4_goes : yX4_goes.cls = RX4 ∧ yX4_goes.cls ≠ "java/lang/invoke/MethodHandle" ∧ yX4_goes.cls ≠ "java/lang/invoke/VarHandle" ∧ (parseMethodDescriptor yX4_goes.desc).map (fun d => d.parameters.length) = some 1 := by decide +kernel
theorem vd_X4_day : yX4_day.cls = RX4 ∧ yX4_day.cls ≠ "java/lang/invoke/MethodHandle" ∧ yX4_day.cls ≠ "java/lang/invoke/VarHandle" ∧ (parseMethodDescriptor yX4_day.desc).map (fun d => d.parameters.length) = some 0 := by decide +kernel
theorem vd_X4_drifts : yX4_drifts.cls = RX4 ∧ yX4_drifts.cls ≠ "java/lang/invoke/MethodHandle" ∧ yX4_drifts.cls ≠ "java/lang/invoke/VarHandle" ∧ (parseMethodDescriptor yX4_drifts.desc).map (fun d => d.parameters.length) = some 0 := by decide +kernel
theorem vd_X4_less : yX4_less.cls = RX4 ∧ yX4_less.cls ≠ "java/lang/invoke/MethodHandle" ∧ yX4_less.cls ≠ "java/lang/invoke/VarHandle" ∧ (parseMethodDescriptor yX4_less.desc).map (fun d => d.parameters.length) = some 2 := by decide +kernel
theorem vd_X4_isAway : yX4_isAway.cls = RX4 ∧ yX4_isAway.cls ≠ "java/lang/invoke/MethodHandle" ∧ yX4_isAway.cls ≠ "java/lang/invoke/VarHandle" ∧ (parseMethodDescriptor yX4_isAway.desc).map (fun d => d.parameters.length) = some 1 := by decide +kernel
theorem vd_X4_moves : yX4_moves.cls = RX4 ∧ yX4_moves.cls ≠ "java/lang/invoke/MethodHandle" ∧ yX4_moves.cls ≠ "java/lang/invoke/VarHandle" ∧ (parseMethodDescriptor yX4_moves.desc).map (fun d => d.parameters.length) = some 1 := by decide +kernel
theorem vd_X4_pays : yX4_pays.cls = RX4 ∧ yX4_pays.cls ≠ "java/lang/invoke/MethodHandle" ∧ yX4_pays.cls ≠ "java/lang/invoke/VarHandle" ∧ (parseMethodDescriptor yX4_pays.desc).map (fun d => d.parameters.length) = some 1 := by decide +kernel
theorem vd_X4_finds : yX4_finds.cls = RX4 ∧ yX4_finds.cls ≠ "java/lang/invoke/MethodHandle" ∧ yX4_finds.cls ≠ "java/lang/invoke/VarHandle" ∧ (parseMethodDescriptor yX4_finds.desc).map (fun d => d.parameters.length) = some 1 := by decide +kernel
theorem vd_X4_onLots : yX4_onLots.cls = RX4 ∧ yX4_onLots.cls ≠ "java/lang/invoke/MethodHandle" ∧ yX4_onLots.cls ≠ "java/lang/invoke/VarHandle" ∧ (parseMethodDescriptor yX4_onLots.desc).map (fun d => d.parameters.length) = some 0 := by decide +kernel
theorem vd_X4_now : yX4_now.cls = RX4 ∧ yX4_now.cls ≠ "java/lang/invoke/MethodHandle" ∧ yX4_now.cls ≠ "java/lang/invoke/VarHandle" ∧ (parseMethodDescriptor yX4_now.desc).map (fun d => d.parameters.length) = some 1 := by decide +kernel
theorem vd_X4_fogs : yX4_fogs.cls = RX4 ∧ yX4_fogs.cls ≠ "java/lang/invoke/MethodHandle" ∧ yX4_fogs.cls ≠ "java/lang/invoke/VarHandle" ∧ (parseMethodDescriptor yX4_fogs.desc).map (fun d => d.parameters.length) = some 0 := by decide +kernel
theorem vd_X4_sumOf : yX4_sumOf.cls = RX4 ∧ yX4_sumOf.cls ≠ "java/lang/invoke/MethodHandle" ∧ yX4_sumOf.cls ≠ "java/lang/invoke/VarHandle" ∧ (parseMethodDescriptor yX4_sumOf.desc).map (fun d => d.parameters.length) = some 1 := by decide +kernel
theorem vd_X4_mostFog : yX4_mostFog.cls = RX4 ∧ yX4_mostFog.cls ≠ "java/lang/invoke/MethodHandle" ∧ yX4_mostFog.cls ≠ "java/lang/invoke/VarHandle" ∧ (parseMethodDescriptor yX4_mostFog.desc).map (fun d => d.parameters.length) = some 0 := by decide +kernel
theorem vd_X4_richest : yX4_richest.cls = RX4 ∧ yX4_richest.cls ≠ "java/lang/invoke/MethodHandle" ∧ yX4_richest.cls ≠ "java/lang/invoke/VarHandle" ∧ (parseMethodDescriptor yX4_richest.desc).map (fun d => d.parameters.length) = some 0 := by decide +kernel
theorem vd_X4_ahead : yX4_ahead.cls = RX4 ∧ yX4_ahead.cls ≠ "java/lang/invoke/MethodHandle" ∧ yX4_ahead.cls ≠ "java/lang/invoke/VarHandle" ∧ (parseMethodDescriptor yX4_ahead.desc).map (fun d => d.parameters.length) = some 3 := by decide +kernel
theorem vd_X4_setsAside : yX4_setsAside.cls = RX4 ∧ yX4_setsAside.cls ≠ "java/lang/invoke/MethodHandle" ∧ yX4_setsAside.cls ≠ "java/lang/invoke/VarHandle" ∧ (parseMethodDescriptor yX4_setsAside.desc).map (fun d => d.parameters.length) = some 0 := by decide +kernel
theorem vd_X4_laysBack : yX4_laysBack.cls = RX4 ∧ yX4_laysBack.cls ≠ "java/lang/invoke/MethodHandle" ∧ yX4_laysBack.cls ≠ "java/lang/invoke/VarHandle" ∧ (parseMethodDescriptor yX4_laysBack.desc).map (fun d => d.parameters.length) = some 0 := by decide +kernel
theorem vd_X4_fog : yX4_fog.cls = RX4 ∧ yX4_fog.cls ≠ "java/lang/invoke/MethodHandle" ∧ yX4_fog.cls ≠ "java/lang/invoke/VarHandle" ∧ (parseMethodDescriptor yX4_fog.desc).map (fun d => d.parameters.length) = some 2 := by decide +kernel
theorem vd_X4_falls : yX4_falls.cls = RX4 ∧ yX4_falls.cls ≠ "java/lang/invoke/MethodHandle" ∧ yX4_falls.cls ≠ "java/lang/invoke/VarHandle" ∧ (parseMethodDescriptor yX4_falls.desc).map (fun d => d.parameters.length) = some 1 := by decide +kernel
theorem vd_X4_firstBy : yX4_firstBy.cls = RX4 ∧ yX4_firstBy.cls ≠ "java/lang/invoke/MethodHandle" ∧ yX4_firstBy.cls ≠ "java/lang/invoke/VarHandle" ∧ (parseMethodDescriptor yX4_firstBy.desc).map (fun d => d.parameters.length) = some 3 := by decide +kernel
theorem vd_X4_isSo : yX4_isSo.cls = RX4 ∧ yX4_isSo.cls ≠ "java/lang/invoke/MethodHandle" ∧ yX4_isSo.cls ≠ "java/lang/invoke/VarHandle" ∧ (parseMethodDescriptor yX4_isSo.desc).map (fun d => d.parameters.length) = some 3 := by decide +kernel
theorem vd_X4_bare : yX4_bare.cls = RX4 ∧ yX4_bare.cls ≠ "java/lang/invoke/MethodHandle" ∧ yX4_bare.cls ≠ "java/lang/invoke/VarHandle" ∧ (parseMethodDescriptor yX4_bare.desc).map (fun d => d.parameters.length) = some 0 := by decide +kernel
theorem vd_X4_meet : yX4_meet.cls = RX4 ∧ yX4_meet.cls ≠ "java/lang/invoke/MethodHandle" ∧ yX4_meet.cls ≠ "java/lang/invoke/VarHandle" ∧ (parseMethodDescriptor yX4_meet.desc).map (fun d => d.parameters.length) = some 2 := by decide +kernel
theorem vd_X4_beliefFor : yX4_beliefFor.cls = RX4 ∧ yX4_beliefFor.cls ≠ "java/lang/invoke/MethodHandle" ∧ yX4_beliefFor.cls ≠ "java/lang/invoke/VarHandle" ∧ (parseMethodDescriptor yX4_beliefFor.desc).map (fun d => d.parameters.length) = some 2 := by decide +kernel
theorem vd_X4_isSoon : yX4_isSoon.cls = RX4 ∧ yX4_isSoon.cls ≠ "java/lang/invoke/MethodHandle" ∧ yX4_isSoon.cls ≠ "java/lang/invoke/VarHandle" ∧ (parseMethodDescriptor yX4_isSoon.desc).map (fun d => d.parameters.length) = some 1 := by decide +kernel
theorem vd_X4_thenWith : yX4_thenWith.cls = RX4 ∧ yX4_thenWith.cls ≠ "java/lang/invoke/MethodHandle" ∧ yX4_thenWith.cls ≠ "java/lang/invoke/VarHandle" ∧ (parseMethodDescriptor yX4_thenWith.desc).map (fun d => d.parameters.length) = some 5 := by decide +kernel
theorem vd_X4_settle : yX4_settle.cls = RX4 ∧ yX4_settle.cls ≠ "java/lang/invoke/MethodHandle" ∧ yX4_settle.cls ≠ "java/lang/invoke/VarHandle" ∧ (parseMethodDescriptor yX4_settle.desc).map (fun d => d.parameters.length) = some 2 := by decide +kernel
theorem vd_X4_kindFor : yX4_kindFor.cls = RX4 ∧ yX4_kindFor.cls ≠ "java/lang/invoke/MethodHandle" ∧ yX4_kindFor.cls ≠ "java/lang/invoke/VarHandle" ∧ (parseMethodDescriptor yX4_kindFor.desc).map (fun d => d.parameters.length) = some 2 := by decide +kernel
theorem vd_X4_rentFor : yX4_rentFor.cls = RX4 ∧ yX4_rentFor.cls ≠ "java/lang/invoke/MethodHandle" ∧ yX4_rentFor.cls ≠ "java/lang/invoke/VarHandle" ∧ (parseMethodDescriptor yX4_rentFor.desc).map (fun d => d.parameters.length) = some 2 := by decide +kernel
theorem vd_X4_sunFor : yX4_sunFor.cls = RX4 ∧ yX4_sunFor.cls ≠ "java/lang/invoke/MethodHandle" ∧ yX4_sunFor.cls ≠ "java/lang/invoke/VarHandle" ∧ (parseMethodDescriptor yX4_sunFor.desc).map (fun d => d.parameters.length) = some 1 := by decide +kernel
theorem vd_X4_fellBy : yX4_fellBy.cls = RX4 ∧ yX4_fellBy.cls ≠ "java/lang/invoke/MethodHandle" ∧ yX4_fellBy.cls ≠ "java/lang/invoke/VarHandle" ∧ (parseMethodDescriptor yX4_fellBy.desc).map (fun d => d.parameters.length) = some 2 := by decide +kernel
theorem vd_X4_away : yX4_away.cls = RX4 ∧ yX4_away.cls ≠ "java/lang/invoke/MethodHandle" ∧ yX4_away.cls ≠ "java/lang/invoke/VarHandle" ∧ (parseMethodDescriptor yX4_away.desc).map (fun d => d.parameters.length) = some 2 := by decide +kernel
theorem vd_X4_standsWithout : yX4_standsWithout.cls = RX4 ∧ yX4_standsWithout.cls ≠ "java/lang/invoke/MethodHandle" ∧ yX4_standsWithout.cls ≠ "java/lang/invoke/VarHandle" ∧ (parseMethodDescriptor yX4_standsWithout.desc).map (fun d => d.parameters.length) = some 3 := by decide +kernel
theorem vd_X4_fits : yX4_fits.cls = RX4 ∧ yX4_fits.cls ≠ "java/lang/invoke/MethodHandle" ∧ yX4_fits.cls ≠ "java/lang/invoke/VarHandle" ∧ (parseMethodDescriptor yX4_fits.desc).map (fun d => d.parameters.length) = some 2 := by decide +kernel
theorem vd_X4_wrongTold : yX4_wrongTold.cls = RX4 ∧ yX4_wrongTold.cls ≠ "java/lang/invoke/MethodHandle" ∧ yX4_wrongTold.cls ≠ "java/lang/invoke/VarHandle" ∧ (parseMethodDescriptor yX4_wrongTold.desc).map (fun d => d.parameters.length) = some 2 := by decide +kernel
theorem vd_X4_wrongSheet : yX4_wrongSheet.cls = RX4 ∧ yX4_wrongSheet.cls ≠ "java/lang/invoke/MethodHandle" ∧ yX4_wrongSheet.cls ≠ "java/lang/invoke/VarHandle" ∧ (parseMethodDescriptor yX4_wrongSheet.desc).map (fun d => d.parameters.length) = some 1 := by decide +kernel
theorem vd_X4_isSheet : yX4_isSheet.cls = RX4 ∧ yX4_isSheet.cls ≠ "java/lang/invoke/MethodHandle" ∧ yX4_isSheet.cls ≠ "java/lang/invoke/VarHandle" ∧ (parseMethodDescriptor yX4_isSheet.desc).map (fun d => d.parameters.length) = some 1 := by decide +kernel
theorem vd_X4_fitsAs : yX4_fitsAs.cls = RX4 ∧ yX4_fitsAs.cls ≠ "java/lang/invoke/MethodHandle" ∧ yX4_fitsAs.cls ≠ "java/lang/invoke/VarHandle" ∧ (parseMethodDescriptor yX4_fitsAs.desc).map (fun d => d.parameters.length) = some 4 := by decide +kernel
theorem vd_X4_told : yX4_told.cls = RX4 ∧ yX4_told.cls ≠ "java/lang/invoke/MethodHandle" ∧ yX4_told.cls ≠ "java/lang/invoke/VarHandle" ∧ (parseMethodDescriptor yX4_told.desc).map (fun d => d.parameters.length) = some 2 := by decide +kernel
theorem vd_X4_believed : yX4_believed.cls = RX4 ∧ yX4_believed.cls ≠ "java/lang/invoke/MethodHandle" ∧ yX4_believed.cls ≠ "java/lang/invoke/VarHandle" ∧ (parseMethodDescriptor yX4_believed.desc).map (fun d => d.parameters.length) = some 2 := by decide +kernel
theorem vd_X4_kinds : yX4_kinds.cls = RX4 ∧ yX4_kinds.cls ≠ "java/lang/invoke/MethodHandle" ∧ yX4_kinds.cls ≠ "java/lang/invoke/VarHandle" ∧ (parseMethodDescriptor yX4_kinds.desc).map (fun d => d.parameters.length) = some 2 := by decide +kernel
theorem vd_X4_fine : yX4_fine.cls = RX4 ∧ yX4_fine.cls ≠ "java/lang/invoke/MethodHandle" ∧ yX4_fine.cls ≠ "java/lang/invoke/VarHandle" ∧ (parseMethodDescriptor yX4_fine.desc).map (fun d => d.parameters.length) = some 1 := by decide +kernel
theorem vd_X4_draw : yX4_draw.cls = RX4 ∧ yX4_draw.cls ≠ "java/lang/invoke/MethodHandle" ∧ yX4_draw.cls ≠ "java/lang/invoke/VarHandle" ∧ (parseMethodDescriptor yX4_draw.desc).map (fun d => d.parameters.length) = some 0 := by decide +kernel
theorem vd_X4_odds : yX4_odds.cls = RX4 ∧ yX4_odds.cls ≠ "java/lang/invoke/MethodHandle" ∧ yX4_odds.cls ≠ "java/lang/invoke/VarHandle" ∧ (parseMethodDescriptor yX4_odds.desc).map (fun d => d.parameters.length) = some 3 := by decide +kernel
theorem vd_X4_seed : yX4_seed.cls = RX4 ∧ yX4_seed.cls ≠ "java/lang/invoke/MethodHandle" ∧ yX4_seed.cls ≠ "java/lang/invoke/VarHandle" ∧ (parseMethodDescriptor yX4_seed.desc).map (fun d => d.parameters.length) = some 1 := by decide +kernel
theorem vd_X4_feed : yX4_feed.cls = RX4 ∧ yX4_feed.cls ≠ "java/lang/invoke/MethodHandle" ∧ yX4_feed.cls ≠ "java/lang/invoke/VarHandle" ∧ (parseMethodDescriptor yX4_feed.desc).map (fun d => d.parameters.length) = some 2 := by decide +kernel
theorem vd_X4_wipe : yX4_wipe.cls = RX4 ∧ yX4_wipe.cls ≠ "java/lang/invoke/MethodHandle" ∧ yX4_wipe.cls ≠ "java/lang/invoke/VarHandle" ∧ (parseMethodDescriptor yX4_wipe.desc).map (fun d => d.parameters.length) = some 0 := by decide +kernel
theorem vd_X4_text : yX4_text.cls = RX4 ∧ yX4_text.cls ≠ "java/lang/invoke/MethodHandle" ∧ yX4_text.cls ≠ "java/lang/invoke/VarHandle" ∧ (parseMethodDescriptor yX4_text.desc).map (fun d => d.parameters.length) = some 0 := by decide +kernel
theorem vd_X4_nextToken : yX4_nextToken.cls = RX4 ∧ yX4_nextToken.cls ≠ "java/lang/invoke/MethodHandle" ∧ yX4_nextToken.cls ≠ "java/lang/invoke/VarHandle" ∧ (parseMethodDescriptor yX4_nextToken.desc).map (fun d => d.parameters.length) = some 0 := by decide +kernel
theorem vd_X4_isLetter : yX4_isLetter.cls = RX4 ∧ yX4_isLetter.cls ≠ "java/lang/invoke/MethodHandle" ∧ yX4_isLetter.cls ≠ "java/lang/invoke/VarHandle" ∧ (parseMethodDescriptor yX4_isLetter.desc).map (fun d => d.parameters.length) = some 1 := by decide +kernel
theorem vd_X4_isDigit : yX4_isDigit.cls = RX4 ∧ yX4_isDigit.cls ≠ "java/lang/invoke/MethodHandle" ∧ yX4_isDigit.cls ≠ "java/lang/invoke/VarHandle" ∧ (parseMethodDescriptor yX4_isDigit.desc).map (fun d => d.parameters.length) = some 1 := by decide +kernel
theorem vd_X4_readsItem : yX4_readsItem.cls = RX4 ∧ yX4_readsItem.cls ≠ "java/lang/invoke/MethodHandle" ∧ yX4_readsItem.cls ≠ "java/lang/invoke/VarHandle" ∧ (parseMethodDescriptor yX4_readsItem.desc).map (fun d => d.parameters.length) = some 0 := by decide +kernel
theorem vd_X4_wordOf : yX4_wordOf.cls = RX4 ∧ yX4_wordOf.cls ≠ "java/lang/invoke/MethodHandle" ∧ yX4_wordOf.cls ≠ "java/lang/invoke/VarHandle" ∧ (parseMethodDescriptor yX4_wordOf.desc).map (fun d => d.parameters.length) = some 1 := by decide +kernel
theorem vd_X4_readsPerson : yX4_readsPerson.cls = RX4 ∧ yX4_readsPerson.cls ≠ "java/lang/invoke/MethodHandle" ∧ yX4_readsPerson.cls ≠ "java/lang/invoke/VarHandle" ∧ (parseMethodDescriptor yX4_readsPerson.desc).map (fun d => d.parameters.length) = some 1 := by decide +kernel
theorem vd_X4_takesNumber : yX4_takesNumber.cls = RX4 ∧ yX4_takesNumber.cls ≠ "java/lang/invoke/MethodHandle" ∧ yX4_takesNumber.cls ≠ "java/lang/invoke/VarHandle" ∧ (parseMethodDescriptor yX4_takesNumber.desc).map (fun d => d.parameters.length) = some 2 := by decide +kernel
theorem vd_X4_readsLot : yX4_readsLot.cls = RX4 ∧ yX4_readsLot.cls ≠ "java/lang/invoke/MethodHandle" ∧ yX4_readsLot.cls ≠ "java/lang/invoke/VarHandle" ∧ (parseMethodDescriptor yX4_readsLot.desc).map (fun d => d.parameters.length) = some 0 := by decide +kernel
theorem vd_X4_readsSun : yX4_readsSun.cls = RX4 ∧ yX4_readsSun.cls ≠ "java/lang/invoke/MethodHandle" ∧ yX4_readsSun.cls ≠ "java/lang/invoke/VarHandle" ∧ (parseMethodDescriptor yX4_readsSun.desc).map (fun d => d.parameters.length) = some 1 := by decide +kernel
theorem vd_X4_hold : yX4_hold.cls = RX4 ∧ yX4_hold.cls ≠ "java/lang/invoke/MethodHandle" ∧ yX4_hold.cls ≠ "java/lang/invoke/VarHandle" ∧ (parseMethodDescriptor yX4_hold.desc).map (fun d => d.parameters.length) = some 2 := by decide +kernel
theorem vd_X4_isSpot : yX4_isSpot.cls = RX4 ∧ yX4_isSpot.cls ≠ "java/lang/invoke/MethodHandle" ∧ yX4_isSpot.cls ≠ "java/lang/invoke/VarHandle" ∧ (parseMethodDescriptor yX4_isSpot.desc).map (fun d => d.parameters.length) = some 1 := by decide +kernel
theorem vd_X4_as : yX4_as.cls = RX4 ∧ yX4_as.cls ≠ "java/lang/invoke/MethodHandle" ∧ yX4_as.cls ≠ "java/lang/invoke/VarHandle" ∧ (parseMethodDescriptor yX4_as.desc).map (fun d => d.parameters.length) = some 2 := by decide +kernel
theorem vd_X4_above : yX4_above.cls = RX4 ∧ yX4_above.cls ≠ "java/lang/invoke/MethodHandle" ∧ yX4_above.cls ≠ "java/lang/invoke/VarHandle" ∧ (parseMethodDescriptor yX4_above.desc).map (fun d => d.parameters.length) = some 1 := by decide +kernel
theorem vd_X4_sheet : yX4_sheet.cls = RX4 ∧ yX4_sheet.cls ≠ "java/lang/invoke/MethodHandle" ∧ yX4_sheet.cls ≠ "java/lang/invoke/VarHandle" ∧ (parseMethodDescriptor yX4_sheet.desc).map (fun d => d.parameters.length) = some 3 := by decide +kernel
theorem vd_X4_write : yX4_write.cls = RX4 ∧ yX4_write.cls ≠ "java/lang/invoke/MethodHandle" ∧ yX4_write.cls ≠ "java/lang/invoke/VarHandle" ∧ (parseMethodDescriptor yX4_write.desc).map (fun d => d.parameters.length) = some 3 := by decide +kernel
theorem vd_X4_copy : yX4_copy.cls = RX4 ∧ yX4_copy.cls ≠ "java/lang/invoke/MethodHandle" ∧ yX4_copy.cls ≠ "java/lang/invoke/VarHandle" ∧ (parseMethodDescriptor yX4_copy.desc).map (fun d => d.parameters.length) = some 5 := by decide +kernel
theorem vd_X4_load : yX4_load.cls = RX4 ∧ yX4_load.cls ≠ "java/lang/invoke/MethodHandle" ∧ yX4_load.cls ≠ "java/lang/invoke/VarHandle" ∧ (parseMethodDescriptor yX4_load.desc).map (fun d => d.parameters.length) = some 1 := by decide +kernel
theorem vd_X4_judge : yX4_judge.cls = RX4 ∧ yX4_judge.cls ≠ "java/lang/invoke/MethodHandle" ∧ yX4_judge.cls ≠ "java/lang/invoke/VarHandle" ∧ (parseMethodDescriptor yX4_judge.desc).map (fun d => d.parameters.length) = some 1 := by decide +kernel
theorem vd_X4_image : yX4_image.cls = RX4 ∧ yX4_image.cls ≠ "java/lang/invoke/MethodHandle" ∧ yX4_image.cls ≠ "java/lang/invoke/VarHandle" ∧ (parseMethodDescriptor yX4_image.desc).map (fun d => d.parameters.length) = some 0 := by decide +kernel
theorem vd_X4_undo : yX4_undo.cls = RX4 ∧ yX4_undo.cls ≠ "java/lang/invoke/MethodHandle" ∧ yX4_undo.cls ≠ "java/lang/invoke/VarHandle" ∧ (parseMethodDescriptor yX4_undo.desc).map (fun d => d.parameters.length) = some 0 := by decide +kernel
theorem vd_X4_tear : yX4_tear.cls = RX4 ∧ yX4_tear.cls ≠ "java/lang/invoke/MethodHandle" ∧ yX4_tear.cls ≠ "java/lang/invoke/VarHandle" ∧ (parseMethodDescriptor yX4_tear.desc).map (fun d => d.parameters.length) = some 0 := by decide +kernel
theorem vd_X4_count : yX4_count.cls = RX4 ∧ yX4_count.cls ≠ "java/lang/invoke/MethodHandle" ∧ yX4_count.cls ≠ "java/lang/invoke/VarHandle" ∧ (parseMethodDescriptor yX4_count.desc).map (fun d => d.parameters.length) = some 1 := by decide +kernel
theorem vd_X4_status : yX4_status.cls = RX4 ∧ yX4_status.cls ≠ "java/lang/invoke/MethodHandle" ∧ yX4_status.cls ≠ "java/lang/invoke/VarHandle" ∧ (parseMethodDescriptor yX4_status.desc).map (fun d => d.parameters.length) = some 1 := by decide +kernel
theorem vg_RX3_48 : GoodIn fg_TW (wsV RX3 48 RX3 yX3_finding (.code yX3_finding cX3_finding 2 (some .int) :: fg_TW)) := fg_gV vm_RX3_48 vh_X3_finding ve_X3_finding vi_RX3 vk_X3_finding
theorem vg_RX3_66 : GoodIn fg_TW (wsV RX3 66 RX2 yX2_isPerson (.code yX2_isPerson cX2_isPerson 2 (some .boolean) :: fg_TW)) := fg_gV vm_RX3_66 vh_X2_isPerson ve_X2_isPerson vi_RX2 vk_X2_isPerson
theorem vg_RX3_72 : GoodIn fg_TW (wsV RX3 72 RX2 yX2_thoseOn (.code yX2_thoseOn cX2_thoseOn 4 (some .int) :: fg_TW)) := fg_gV vm_RX3_72 vh_X2_thoseOn ve_X2_thoseOn vi_RX2 vk_X2_thoseOn
theorem vg_RX3_75 : GoodIn fg_TW (wsV RX3 75 RX2 yX2_thoseStanding (.code yX2_thoseStanding cX2_thoseStanding 4 (some .int) :: fg_TW)) := fg_gV vm_RX3_75 vh_X2_thoseStanding ve_X2_thoseStanding vi_RX2 vk_X2_thoseStanding
theorem vg_RX2_71 : GoodIn fg_TW (wsV RX2 71 RX2 yX2_stands (.code yX2_stands cX2_stands 3 (some .boolean) :: fg_TW)) := fg_gV vm_RX2_71 vh_X2_stands ve_X2_stands vi_RX2 vk_X2_stands
theorem vg_RX2_76 : GoodIn fg_TW (wsV RX2 76 RX2 yX2_trustOf (.code yX2_trustOf cX2_trustOf 7 (some .int) :: fg_TW)) := fg_gV vm_RX2_76 vh_X2_trustOf ve_X2_trustOf vi_RX2 vk_X2_trustOf
theorem vg_RX3_91 : GoodIn fg_TW (wsV RX3 91 RX2 yX2_add (.code yX2_add cX2_add 3 (some .int) :: fg_TW)) := fg_gV vm_RX3_91 vh_X2_add ve_X2_add vi_RX2 vk_X2_add
theorem vg_RX3_100 : GoodIn fg_TW (wsV RX3 100 RX2 yX2_lotMadeFor (.code yX2_lotMadeFor cX2_lotMadeFor 4 (some .int) :: fg_TW)) := fg_gV vm_RX3_100 vh_X2_lotMadeFor ve_X2_lotMadeFor vi_RX2 vk_X2_lotMadeFor
theorem vg_RX2_80 : GoodIn fg_TW (wsV RX2 80 RX2 yX2_prefers (.code yX2_prefers cX2_prefers 4 (some .boolean) :: fg_TW)) := fg_gV vm_RX2_80 vh_X2_prefers ve_X2_prefers vi_RX2 vk_X2_prefers
theorem vg_RX3_103 : GoodIn fg_TW (wsV RX3 103 RX2 yX2_lotsOwnedBy (.code yX2_lotsOwnedBy cX2_lotsOwnedBy 4 (some .int) :: fg_TW)) := fg_gV vm_RX3_103 vh_X2_lotsOwnedBy ve_X2_lotsOwnedBy vi_RX2 vk_X2_lotsOwnedBy
theorem vg_RX3_106 : GoodIn fg_TW (wsV RX3 106 RX2 yX2_valueOf (.code yX2_valueOf cX2_valueOf 3 (some .int) :: fg_TW)) := fg_gV vm_RX3_106 vh_X2_valueOf ve_X2_valueOf vi_RX2 vk_X2_valueOf
theorem vg_RX3_122 : GoodIn fg_TW (wsV RX3 122 RX2 yX2_trustOf (.code yX2_trustOf cX2_trustOf 7 (some .int) :: fg_TW)) := fg_gV vm_RX3_122 vh_X2_trustOf ve_X2_trustOf vi_RX2 vk_X2_trustOf
theorem vg_RX3_129 : GoodIn fg_TW (wsV RX3 129 RX2 yX2_passDays (.code yX2_passDays cX2_passDays 3 none :: fg_TW)) := fg_gV vm_RX3_129 vh_X2_passDays ve_X2_passDays vi_RX2 vk_X2_passDays
theorem vg_RX2_84 : GoodIn fg_TW (wsV RX2 84 RX2 yX2_thinAndThicken (.code yX2_thinAndThicken cX2_thinAndThicken 3 none :: fg_TW)) := fg_gV vm_RX2_84 vh_X2_thinAndThicken ve_X2_thinAndThicken vi_RX2 vk_X2_thinAndThicken
theorem vg_RX2_87 : GoodIn fg_TW (wsV RX2 87 RX2 yX2_spreadFog (.code yX2_spreadFog cX2_spreadFog 2 none :: fg_TW)) := fg_gV vm_RX2_87 vh_X2_spreadFog ve_X2_spreadFog vi_RX2 vk_X2_spreadFog
theorem vg_RX2_90 : GoodIn fg_TW (wsV RX2 90 RX2 yX2_movePeople (.code yX2_movePeople cX2_movePeople 2 none :: fg_TW)) := fg_gV vm_RX2_90 vh_X2_movePeople ve_X2_movePeople vi_RX2 vk_X2_movePeople
theorem vg_RX2_67 : GoodIn fg_TW (wsV RX2 67 RX2 yX2_isGone (.code yX2_isGone cX2_isGone 2 (some .boolean) :: fg_TW)) := fg_gV vm_RX2_67 vh_X2_isGone ve_X2_isGone vi_RX2 vk_X2_isGone
theorem vg_RX2_108 : GoodIn fg_TW (wsV RX2 108 RX2 yX2_lotMadeFor (.code yX2_lotMadeFor cX2_lotMadeFor 4 (some .int) :: fg_TW)) := fg_gV vm_RX2_108 vh_X2_lotMadeFor ve_X2_lotMadeFor vi_RX2 vk_X2_lotMadeFor
theorem vg_RX2_112 : GoodIn fg_TW (wsV RX2 112 RX2 yX2_fall (.code yX2_fall cX2_fall 2 none :: fg_TW)) := fg_gV vm_RX2_112 vh_X2_fall ve_X2_fall vi_RX2 vk_X2_fall
theorem vg_RX2_93 : GoodIn fg_TW (wsV RX2 93 RX2 yX2_payRents (.code yX2_payRents cX2_payRents 4 none :: fg_TW)) := fg_gV vm_RX2_93 vh_X2_payRents ve_X2_payRents vi_RX2 vk_X2_payRents
theorem vg_RX2_119 : GoodIn fg_TW (wsV RX2 119 RX2 yX2_isPerson (.code yX2_isPerson cX2_isPerson 2 (some .boolean) :: fg_TW)) := fg_gV vm_RX2_119 vh_X2_isPerson ve_X2_isPerson vi_RX2 vk_X2_isPerson
theorem vg_RX2_96 : GoodIn fg_TW (wsV RX2 96 RX2 yX2_spreadBelief (.code yX2_spreadBelief cX2_spreadBelief 3 none :: fg_TW)) := fg_gV vm_RX2_96 vh_X2_spreadBelief ve_X2_spreadBelief vi_RX2 vk_X2_spreadBelief
theorem vg_RX2_122 : GoodIn fg_TW (wsV RX2 122 RX2 yX2_greatestBeliefBeside (.code yX2_greatestBeliefBeside cX2_greatestBeliefBeside 4 (some .int) :: fg_TW)) := fg_gV vm_RX2_122 vh_X2_greatestBeliefBeside ve_X2_greatestBeliefBeside vi_RX2 vk_X2_greatestBeliefBeside
theorem vg_RX3_133 : GoodIn fg_TW (wsV RX3 133 RX2 yX2_thoseOnLots (.code yX2_thoseOnLots cX2_thoseOnLots 3 (some .int) :: fg_TW)) := fg_gV vm_RX3_133 vh_X2_thoseOnLots ve_X2_thoseOnLots vi_RX2 vk_X2_thoseOnLots
theorem vg_RX3_144 : GoodIn fg_TW (wsV RX3 144 RX2 yX2_become (.code yX2_become cX2_become 2 none :: fg_TW)) := fg_gV vm_RX3_144 vh_X2_become ve_X2_become vi_RX2 vk_X2_become
theorem vg_RX3_153 : GoodIn fg_TW (wsV RX3 153 RX2 yX2_sendAway (.code yX2_sendAway cX2_sendAway 3 none :: fg_TW)) := fg_gV vm_RX3_153 vh_X2_sendAway ve_X2_sendAway vi_RX2 vk_X2_sendAway
theorem vg_RX3_156 : GoodIn fg_TW (wsV RX3 156 RX3 yX3_faultOfTold (.code yX3_faultOfTold cX3_faultOfTold 3 (some .int) :: fg_TW)) := fg_gV vm_RX3_156 vh_X3_faultOfTold ve_X3_faultOfTold vi_RX3 vk_X3_faultOfTold
theorem vg_RX3_203 : GoodIn fg_TW (wsV RX3 203 RX0 yX0_isMissing (.code yX0_isMissing cX0_isMissing 1 (some .boolean) :: fg_TW)) := fg_gV vm_RX3_203 vh_X0_isMissing ve_X0_isMissing vi_RX0 vk_X0_isMissing
theorem vg_RX3_159 : GoodIn fg_TW (wsV RX3 159 RX3 yX3_goesAsTold (.code yX3_goesAsTold cX3_goesAsTold 5 (some .boolean) :: fg_TW)) := fg_gV vm_RX3_159 vh_X3_goesAsTold ve_X3_goesAsTold vi_RX3 vk_X3_goesAsTold
theorem vg_RX3_163 : GoodIn fg_TW (wsV RX3 163 RX2 yX2_draw (.code yX2_draw cX2_draw 1 (some .int) :: fg_TW)) := fg_gV vm_RX3_163 vh_X2_draw ve_X2_draw vi_RX2 vk_X2_draw
theorem vg_RX3_166 : GoodIn fg_TW (wsV RX3 166 RX2 yX2_stands (.code yX2_stands cX2_stands 3 (some .boolean) :: fg_TW)) := fg_gV vm_RX3_166 vh_X2_stands ve_X2_stands vi_RX2 vk_X2_stands
theorem vg_RX3_179 : GoodIn fg_TW (wsV RX3 179 RX1 yX1_append (.code yX1_append cX1_append 2 none :: fg_TW)) := fg_gV vm_RX3_179 vh_X1_append ve_X1_append vi_RX1 vk_X1_append
theorem vg_RX3_182 : GoodIn fg_TW (wsV RX3 182 RX1 yX1_tellTo (.code yX1_tellTo cX1_tellTo 4 (some .int) :: fg_TW)) := fg_gV vm_RX3_182 vh_X1_tellTo ve_X1_tellTo vi_RX1 vk_X1_tellTo
theorem vg_RX1_34 : GoodIn fg_TW (wsV RX1 34 RX1 yX1_nextToken (.code yX1_nextToken cX1_nextToken 1 none :: fg_TW)) := fg_gV vm_RX1_34 vh_X1_nextToken ve_X1_nextToken vi_RX1 vk_X1_nextToken
theorem vg_RX1_143 : GoodIn fg_TW (wsV RX1 143 RX1 yX1_readWord (.code yX1_readWord cX1_readWord 1 none :: fg_TW)) := fg_gV vm_RX1_143 vh_X1_readWord ve_X1_readWord vi_RX1 vk_X1_readWord
theorem vg_RX1_149 : GoodIn fg_TW (wsV RX1 149 RX1 yX1_readNumber (.code yX1_readNumber cX1_readNumber 1 none :: fg_TW)) := fg_gV vm_RX1_149 vh_X1_readNumber ve_X1_readNumber vi_RX1 vk_X1_readNumber
theorem vg_RX1_37 : GoodIn fg_TW (wsV RX1 37 RX1 yX1_tellItem (.code yX1_tellItem cX1_tellItem 3 none :: fg_TW)) := fg_gV vm_RX1_37 vh_X1_tellItem ve_X1_tellItem vi_RX1 vk_X1_tellItem
theorem vg_RX1_44 : GoodIn fg_TW (wsV RX1 44 RX1 yX1_kindOfWord (.code yX1_kindOfWord cX1_kindOfWord 1 (some .int) :: fg_TW)) := fg_gV vm_RX1_44 vh_X1_kindOfWord ve_X1_kindOfWord vi_RX1 vk_X1_kindOfWord
theorem vg_RX1_115 : GoodIn fg_TW (wsV RX1 115 RX1 yX1_isWord (.code yX1_isWord cX1_isWord 3 (some .boolean) :: fg_TW)) := fg_gV vm_RX1_115 vh_X1_isWord ve_X1_isWord vi_RX1 vk_X1_isWord
theorem vg_RX1_48 : GoodIn fg_TW (wsV RX1 48 RX1 yX1_tellPerson (.code yX1_tellPerson cX1_tellPerson 4 none :: fg_TW)) := fg_gV vm_RX1_48 vh_X1_tellPerson ve_X1_tellPerson vi_RX1 vk_X1_tellPerson
theorem vg_RX1_41 : GoodIn fg_TW (wsV RX1 41 RX1 yX1_faultHere (.code yX1_faultHere cX1_faultHere 1 none :: fg_TW)) := fg_gV vm_RX1_41 vh_X1_faultHere ve_X1_faultHere vi_RX1 vk_X1_faultHere
theorem vg_RX1_79 : GoodIn fg_TW (wsV RX1 79 RX2 yX2_add (.code yX2_add cX2_add 3 (some .int) :: fg_TW)) := fg_gV vm_RX1_79 vh_X2_add ve_X2_add vi_RX2 vk_X2_add
theorem vg_RX1_54 : GoodIn fg_TW (wsV RX1 54 RX1 yX1_took (.code yX1_took cX1_took 3 (some .boolean) :: fg_TW)) := fg_gV vm_RX1_54 vh_X1_took ve_X1_took vi_RX1 vk_X1_took
theorem vg_RX1_68 : GoodIn fg_TW (wsV RX1 68 RX1 yX1_takeNumber (.code yX1_takeNumber cX1_takeNumber 3 (some .int) :: fg_TW)) := fg_gV vm_RX1_68 vh_X1_takeNumber ve_X1_takeNumber vi_RX1 vk_X1_takeNumber
theorem vg_RX1_58 : GoodIn fg_TW (wsV RX1 58 RX1 yX1_tellLot (.code yX1_tellLot cX1_tellLot 3 none :: fg_TW)) := fg_gV vm_RX1_58 vh_X1_tellLot ve_X1_tellLot vi_RX1 vk_X1_tellLot
theorem vg_RX1_63 : GoodIn fg_TW (wsV RX1 63 RX1 yX1_tellSun (.code yX1_tellSun cX1_tellSun 4 none :: fg_TW)) := fg_gV vm_RX1_63 vh_X1_tellSun ve_X1_tellSun vi_RX1 vk_X1_tellSun
theorem vg_RX3_198 : GoodIn fg_TW (wsV RX3 198 RX0 yX0_begin (.code yX0_begin cX0_begin 4 none :: fg_TW)) := fg_gV vm_RX3_198 vh_X0_begin ve_X0_begin vi_RX0 vk_X0_begin
theorem vg_RX3_207 : GoodIn fg_TW (wsV RX3 207 RX0 yX0_put (.code yX0_put cX0_put 3 none :: fg_TW)) := fg_gV vm_RX3_207 vh_X0_put ve_X0_put vi_RX0 vk_X0_put
theorem vg_RX3_213 : GoodIn fg_TW (wsV RX3 213 RX0 yX0_has (.code yX0_has cX0_has 3 (some .boolean) :: fg_TW)) := fg_gV vm_RX3_213 vh_X0_has ve_X0_has vi_RX0 vk_X0_has
theorem vg_RX3_225 : GoodIn fg_TW (wsV RX3 225 RX2 yX2_spotsHeld (.code yX2_spotsHeld cX2_spotsHeld 3 (some .int) :: fg_TW)) := fg_gV vm_RX3_225 vh_X2_spotsHeld ve_X2_spotsHeld vi_RX2 vk_X2_spotsHeld
theorem vg_RX4_56 : GoodIn fg_TW (wsV RX4 56 RX4 yX4_lays1 (.code yX4_lays1 cX4_lays1 4 none :: fg_TW)) := fg_gV vm_RX4_56 vh_X4_lays1 ve_X4_lays1 vi_RX4 vk_X4_lays1
theorem vg_RX4_129 : GoodIn fg_TW (wsV RX4 129 RX4 yX4_no (.code yX4_no cX4_no 2 (some .int) :: fg_TW)) := fg_gV vm_RX4_129 vh_X4_no ve_X4_no vi_RX4 vk_X4_no
theorem vg_RX4_73 : GoodIn fg_TW (wsV RX4 73 RX4 yX4_of1 (.code yX4_of1 cX4_of1 3 (some .int) :: fg_TW)) := fg_gV vm_RX4_73 vh_X4_of1 ve_X4_of1 vi_RX4 vk_X4_of1
theorem vg_RX4_69 : GoodIn fg_TW (wsV RX4 69 RX4 yX4_whoIsOn (.code yX4_whoIsOn cX4_whoIsOn 4 (some .int) :: fg_TW)) := fg_gV vm_RX4_69 vh_X4_whoIsOn ve_X4_whoIsOn vi_RX4 vk_X4_whoIsOn
theorem vg_RX4_65 : GoodIn fg_TW (wsV RX4 65 RX4 yX4_get (.code yX4_get cX4_get 3 (some .int) :: fg_TW)) := fg_gV vm_RX4_65 vh_X4_get ve_X4_get vi_RX4 vk_X4_get
theorem vg_RX4_132 : GoodIn fg_TW (wsV RX4 132 RX4 yX4_standing (.code yX4_standing cX4_standing 4 (some .int) :: fg_TW)) := fg_gV vm_RX4_132 vh_X4_standing ve_X4_standing vi_RX4 vk_X4_standing
theorem vg_RX4_82 : GoodIn fg_TW (wsV RX4 82 RX4 yX4_stands (.code yX4_stands cX4_stands 3 (some .boolean) :: fg_TW)) := fg_gV vm_RX4_82 vh_X4_stands ve_X4_stands vi_RX4 vk_X4_stands
theorem vg_RX4_79 : GoodIn fg_TW (wsV RX4 79 RX4 yX4_trustOf (.code yX4_trustOf cX4_trustOf 5 (some .int) :: fg_TW)) := fg_gV vm_RX4_79 vh_X4_trustOf ve_X4_trustOf vi_RX4 vk_X4_trustOf
theorem vg_RX4_135 : GoodIn fg_TW (wsV RX4 135 RX4 yX4_adds (.code yX4_adds cX4_adds 3 none :: fg_TW)) := fg_gV vm_RX4_135 vh_X4_adds ve_X4_adds vi_RX4 vk_X4_adds
theorem vg_RX4_95 : GoodIn fg_TW (wsV RX4 95 RX4 yX4_puts (.code yX4_puts cX4_puts 4 none :: fg_TW)) := fg_gV vm_RX4_95 vh_X4_puts ve_X4_puts vi_RX4 vk_X4_puts
theorem vg_RX4_138 : GoodIn fg_TW (wsV RX4 138 RX4 yX4_isPerson (.code yX4_isPerson cX4_isPerson 2 (some .boolean) :: fg_TW)) := fg_gV vm_RX4_138 vh_X4_isPerson ve_X4_isPerson vi_RX4 vk_X4_isPerson
theorem vg_RX4_98 : GoodIn fg_TW (wsV RX4 98 RX4 yX4_losesOf (.code yX4_losesOf cX4_losesOf 2 (some .int) :: fg_TW)) := fg_gV vm_RX4_98 vh_X4_losesOf ve_X4_losesOf vi_RX4 vk_X4_losesOf
theorem vg_RX4_92 : GoodIn fg_TW (wsV RX4 92 RX4 yX4_makesFor (.code yX4_makesFor cX4_makesFor 4 (some .int) :: fg_TW)) := fg_gV vm_RX4_92 vh_X4_makesFor ve_X4_makesFor vi_RX4 vk_X4_makesFor
theorem vg_RX4_86 : GoodIn fg_TW (wsV RX4 86 RX4 yX4_isBetter (.code yX4_isBetter cX4_isBetter 6 (some .boolean) :: fg_TW)) := fg_gV vm_RX4_86 vh_X4_isBetter ve_X4_isBetter vi_RX4 vk_X4_isBetter
theorem vg_RX4_141 : GoodIn fg_TW (wsV RX4 141 RX4 yX4_ownedBy (.code yX4_ownedBy cX4_ownedBy 4 (some .int) :: fg_TW)) := fg_gV vm_RX4_141 vh_X4_ownedBy ve_X4_ownedBy vi_RX4 vk_X4_ownedBy
theorem vg_RX4_144 : GoodIn fg_TW (wsV RX4 144 RX4 yX4_goes (.code yX4_goes cX4_goes 3 none :: fg_TW)) := fg_gV vm_RX4_144 vh_X4_goes ve_X4_goes vi_RX4 vk_X4_goes
theorem vg_RX4_123 : GoodIn fg_TW (wsV RX4 123 RX4 yX4_day (.code yX4_day cX4_day 2 none :: fg_TW)) := fg_gV vm_RX4_123 vh_X4_day ve_X4_day vi_RX4 vk_X4_day
theorem vg_RX4_105 : GoodIn fg_TW (wsV RX4 105 RX4 yX4_drifts (.code yX4_drifts cX4_drifts 3 none :: fg_TW)) := fg_gV vm_RX4_105 vh_X4_drifts ve_X4_drifts vi_RX4 vk_X4_drifts
theorem vg_RX4_108 : GoodIn fg_TW (wsV RX4 108 RX4 yX4_isAway (.code yX4_isAway cX4_isAway 2 (some .boolean) :: fg_TW)) := fg_gV vm_RX4_108 vh_X4_isAway ve_X4_isAway vi_RX4 vk_X4_isAway
theorem vg_RX4_112 : GoodIn fg_TW (wsV RX4 112 RX4 yX4_moves (.code yX4_moves cX4_moves 4 none :: fg_TW)) := fg_gV vm_RX4_112 vh_X4_moves ve_X4_moves vi_RX4 vk_X4_moves
theorem vg_RX4_116 : GoodIn fg_TW (wsV RX4 116 RX4 yX4_pays (.code yX4_pays cX4_pays 5 none :: fg_TW)) := fg_gV vm_RX4_116 vh_X4_pays ve_X4_pays vi_RX4 vk_X4_pays
theorem vg_RX4_119 : GoodIn fg_TW (wsV RX4 119 RX4 yX4_finds (.code yX4_finds cX4_finds 5 none :: fg_TW)) := fg_gV vm_RX4_119 vh_X4_finds ve_X4_finds vi_RX4 vk_X4_finds
theorem vg_RX4_147 : GoodIn fg_TW (wsV RX4 147 RX4 yX4_onLots (.code yX4_onLots cX4_onLots 1 (some .int) :: fg_TW)) := fg_gV vm_RX4_147 vh_X4_onLots ve_X4_onLots vi_RX4 vk_X4_onLots
theorem vg_RX4_151 : GoodIn fg_TW (wsV RX4 151 RX4 yX4_fogs (.code yX4_fogs cX4_fogs 3 (some .int) :: fg_TW)) := fg_gV vm_RX4_151 vh_X4_fogs ve_X4_fogs vi_RX4 vk_X4_fogs
theorem vg_RX4_154 : GoodIn fg_TW (wsV RX4 154 RX4 yX4_sumOf (.code yX4_sumOf cX4_sumOf 4 (some .int) :: fg_TW)) := fg_gV vm_RX4_154 vh_X4_sumOf ve_X4_sumOf vi_RX4 vk_X4_sumOf
theorem vg_RX4_157 : GoodIn fg_TW (wsV RX4 157 RX4 yX4_mostFog (.code yX4_mostFog cX4_mostFog 3 (some .int) :: fg_TW)) := fg_gV vm_RX4_157 vh_X4_mostFog ve_X4_mostFog vi_RX4 vk_X4_mostFog
theorem vg_RX4_160 : GoodIn fg_TW (wsV RX4 160 RX4 yX4_richest (.code yX4_richest cX4_richest 3 (some .int) :: fg_TW)) := fg_gV vm_RX4_160 vh_X4_richest ve_X4_richest vi_RX4 vk_X4_richest
theorem vg_RX4_163 : GoodIn fg_TW (wsV RX4 163 RX4 yX4_setsAside (.code yX4_setsAside cX4_setsAside 2 none :: fg_TW)) := fg_gV vm_RX4_163 vh_X4_setsAside ve_X4_setsAside vi_RX4 vk_X4_setsAside
theorem vg_RX4_166 : GoodIn fg_TW (wsV RX4 166 RX4 yX4_laysBack (.code yX4_laysBack cX4_laysBack 2 none :: fg_TW)) := fg_gV vm_RX4_166 vh_X4_laysBack ve_X4_laysBack vi_RX4 vk_X4_laysBack
theorem vg_RX4_172 : GoodIn fg_TW (wsV RX4 172 RX4 yX4_firstBy (.code yX4_firstBy cX4_firstBy 5 (some .int) :: fg_TW)) := fg_gV vm_RX4_172 vh_X4_firstBy ve_X4_firstBy vi_RX4 vk_X4_firstBy
theorem vg_RX4_169 : GoodIn fg_TW (wsV RX4 169 RX4 yX4_isSo (.code yX4_isSo cX4_isSo 4 (some .boolean) :: fg_TW)) := fg_gV vm_RX4_169 vh_X4_isSo ve_X4_isSo vi_RX4 vk_X4_isSo
theorem vg_RX4_179 : GoodIn fg_TW (wsV RX4 179 RX4 yX4_thenWith (.code yX4_thenWith cX4_thenWith 7 (some .int) :: fg_TW)) := fg_gV vm_RX4_179 vh_X4_thenWith ve_X4_thenWith vi_RX4 vk_X4_thenWith
theorem vg_RX4_183 : GoodIn fg_TW (wsV RX4 183 RX4 yX4_fellBy (.code yX4_fellBy cX4_fellBy 4 (some .int) :: fg_TW)) := fg_gV vm_RX4_183 vh_X4_fellBy ve_X4_fellBy vi_RX4 vk_X4_fellBy
theorem vg_RX4_186 : GoodIn fg_TW (wsV RX4 186 RX4 yX4_standsWithout (.code yX4_standsWithout cX4_standsWithout 5 (some .boolean) :: fg_TW)) := fg_gV vm_RX4_186 vh_X4_standsWithout ve_X4_standsWithout vi_RX4 vk_X4_standsWithout
theorem vg_RX4_198 : GoodIn fg_TW (wsV RX4 198 RX4 yX4_wrongTold (.code yX4_wrongTold cX4_wrongTold 4 (some .int) :: fg_TW)) := fg_gV vm_RX4_198 vh_X4_wrongTold ve_X4_wrongTold vi_RX4 vk_X4_wrongTold
theorem vg_RX4_192 : GoodIn fg_TW (wsV RX4 192 RX4 yX4_wrongSheet (.code yX4_wrongSheet cX4_wrongSheet 2 (some .int) :: fg_TW)) := fg_gV vm_RX4_192 vh_X4_wrongSheet ve_X4_wrongSheet vi_RX4 vk_X4_wrongSheet
theorem vg_RX4_201 : GoodIn fg_TW (wsV RX4 201 RX4 yX4_fitsAs (.code yX4_fitsAs cX4_fitsAs 7 (some .boolean) :: fg_TW)) := fg_gV vm_RX4_201 vh_X4_fitsAs ve_X4_fitsAs vi_RX4 vk_X4_fitsAs
theorem vg_RX4_195 : GoodIn fg_TW (wsV RX4 195 RX4 yX4_told (.code yX4_told cX4_told 3 (some .int) :: fg_TW)) := fg_gV vm_RX4_195 vh_X4_told ve_X4_told vi_RX4 vk_X4_told
theorem vg_RX4_206 : GoodIn fg_TW (wsV RX4 206 RX4 yX4_draw (.code yX4_draw cX4_draw 1 (some .int) :: fg_TW)) := fg_gV vm_RX4_206 vh_X4_draw ve_X4_draw vi_RX4 vk_X4_draw
theorem vg_RX4_243 : GoodIn fg_TW (wsV RX4 243 RX4 yX4_nextToken (.code yX4_nextToken cX4_nextToken 1 none :: fg_TW)) := fg_gV vm_RX4_243 vh_X4_nextToken ve_X4_nextToken vi_RX4 vk_X4_nextToken
theorem vg_RX4_264 : GoodIn fg_TW (wsV RX4 264 RX4 yX4_readsItem (.code yX4_readsItem cX4_readsItem 3 (some .boolean) :: fg_TW)) := fg_gV vm_RX4_264 vh_X4_readsItem ve_X4_readsItem vi_RX4 vk_X4_readsItem
theorem vg_RX4_246 : GoodIn fg_TW (wsV RX4 246 RX4 yX4_wordOf (.code yX4_wordOf cX4_wordOf 7 (some .int) :: fg_TW)) := fg_gV vm_RX4_246 vh_X4_wordOf ve_X4_wordOf vi_RX4 vk_X4_wordOf
theorem vg_RX4_253 : GoodIn fg_TW (wsV RX4 253 RX4 yX4_readsPerson (.code yX4_readsPerson cX4_readsPerson 5 (some .boolean) :: fg_TW)) := fg_gV vm_RX4_253 vh_X4_readsPerson ve_X4_readsPerson vi_RX4 vk_X4_readsPerson
theorem vg_RX4_250 : GoodIn fg_TW (wsV RX4 250 RX4 yX4_takesNumber (.code yX4_takesNumber cX4_takesNumber 4 (some .int) :: fg_TW)) := fg_gV vm_RX4_250 vh_X4_takesNumber ve_X4_takesNumber vi_RX4 vk_X4_takesNumber
theorem vg_RX4_256 : GoodIn fg_TW (wsV RX4 256 RX4 yX4_readsLot (.code yX4_readsLot cX4_readsLot 4 (some .boolean) :: fg_TW)) := fg_gV vm_RX4_256 vh_X4_readsLot ve_X4_readsLot vi_RX4 vk_X4_readsLot
theorem vg_RX4_260 : GoodIn fg_TW (wsV RX4 260 RX4 yX4_readsSun (.code yX4_readsSun cX4_readsSun 4 (some .boolean) :: fg_TW)) := fg_gV vm_RX4_260 vh_X4_readsSun ve_X4_readsSun vi_RX4 vk_X4_readsSun
end
section
abbrev fg_W : Type := (Nat → Nat → Nat → Nat → Int32) × Int64
abbrev fg_G : Type := (Nat → Nat → Nat → Nat) × ClassId × ClassId × ClassId × (Nat → Nat) × (Nat → Nat)
def fg_put {α : Type} (f : Nat → α) (k : Nat) (v : α) : Nat → α := fun j => if j = k then v else f j
def fg_sw (w : fg_W) (K i : Nat) (d : Nat → Nat → Int32) : fg_W := (fg_put w.1 K (fg_put (w.1 K) i d), w.2)
def fg_st (w : fg_W) (K i b : Nat) (f : Nat → Int32) : fg_W := fg_sw w K i (fg_put (w.1 K i) b f)
def fg_sl (w : fg_W) (v : Int64) : fg_W := (w.1, v)
def fg_let {α β : Type} (x : α) (k : α → Option β) : Option β := k x
def fg_gd {β : Type} (i : Int32) (n : Nat) (k : Option β) : Option β := if ¬ (i < 0 ∨ n ≤ i.toNatClampNeg) then k else none
def fg_gp {β : Type} (x : Prop) [Decidable x] (k : Option β) : Option β := if x then k else none
def fg_bi {α β : Type} (x : Option (α × fg_W)) (k : α → fg_W → Option β) : Option β := match x with
  | some p => k p.1 p.2
  | none => none
def fg_bv {β : Type} (x : Option fg_W) (k : fg_W → Option β) : Option β := match x with
  | some w => k w
  | none => none
def fg_fuel : Nat := 1000
theorem fg_letE {α β : Type} {e x : α} {k : α → Option β} {o : Option β} (h : x = e) (hf : fg_let e k = o) : k x = o := by subst h; exact hf
theorem fg_gdE {β : Type} {i : Int32} {n : Nat} {k : Option β} {o : β} (hf : fg_gd i n k = some o) : vp_in i n ∧ k = some o := by
  unfold fg_gd at hf
  by_cases h : ¬ (i < 0 ∨ n ≤ i.toNatClampNeg)
  · rw [if_pos h] at hf; exact ⟨h, hf⟩
  · rw [if_neg h] at hf; cases hf
theorem fg_gpE {β : Type} {x : Prop} [Decidable x] {k : Option β} {o : β} (hf : fg_gp x k = some o) : x ∧ k = some o := by
  unfold fg_gp at hf
  by_cases h : x
  · rw [if_pos h] at hf; exact ⟨h, hf⟩
  · rw [if_neg h] at hf; cases hf
theorem fg_ifT {β : Type} {x : Prop} [Decidable x] {a b o : Option β} (hf : (if x then a else b) = o) (h : x) : a = o := by rwa [if_pos h] at hf
theorem fg_ifF {β : Type} {x : Prop} [Decidable x] {a b o : Option β} (hf : (if x then a else b) = o) (h : ¬ x) : b = o := by rwa [if_neg h] at hf
theorem fg_biE {α β : Type} {x : Option (α × fg_W)} {k : α → fg_W → Option β} {o : β} (hf : fg_bi x k = some o) : ∃ r w, x = some (r, w) ∧ k r w = some o := by
  cases x with
  | none => cases hf
  | some p => exact ⟨p.1, p.2, rfl, hf⟩
theorem fg_bvE {β : Type} {x : Option fg_W} {k : fg_W → Option β} {o : β} (hf : fg_bv x k = some o) : ∃ w, x = some w ∧ k w = some o := by
  cases x with
  | none => cases hf
  | some p => exact ⟨p, rfl, hf⟩
theorem fg_no {β : Type} {o : β} {A : Prop} (hf : (none : Option β) = some o) : A := by cases hf
def fg_f0 (g : fg_G) (i : Nat) (f : Nat → Int32) : List Value := [.int (f 0), .int (f 1), .ref (g.1 0 i 1)]
def fg_f1 (g : fg_G) (i : Nat) (f : Nat → Int32) : List Value := [.ref (g.1 1 i 1), .int (f 1), .int (f 2), .int (f 3), .int (f 4), .int (f 5), .int (f 6)]
def fg_f2 (g : fg_G) (i : Nat) (f : Nat → Int32) : List Value := [.ref (g.1 2 i 1), .ref (g.1 2 i 2), .ref (g.1 2 i 3), .ref (g.1 2 i 4), .int (f 4), .int (f 5), .ref (g.1 2 i 5), .ref (g.1 2 i 6), .ref (g.1 2 i 7), .ref (g.1 2 i 8), .ref (g.1 2 i 9), .int (f 11), .int (f 12), .int (f 13), .ref (g.1 2 i 10), .ref (g.1 2 i 11)]
def fg_f3 (g : fg_G) (i : Nat) (f : Nat → Int32) : List Value := [.ref (g.1 2 0 0), .ref (g.1 2 1 0), .ref (g.1 2 2 0), .int (f 3), .ref (g.1 1 0 0), .ref (g.1 3 i 2), .ref (g.1 3 i 1)]
def fg_f4 (g : fg_G) (i : Nat) (f : Nat → Int32) (v : Int64) : List Value := [.ref (g.1 4 i 1), .ref (g.1 4 i 2), .ref (g.1 4 i 3), .int (f 3), .ref (g.1 4 i 4), .int (f 5), .ref (g.1 4 i 5), .ref (g.1 4 i 6), .ref (g.1 4 i 7), .int (f 9), .int (f 10), .int (f 11), .int (f 12), .long v, .ref (g.1 4 i 8), .ref (g.1 4 i 9), .ref (g.1 4 i 10), .ref (g.1 4 i 11), .ref (g.1 4 i 12), .ref (g.1 4 i 13), .ref (g.1 4 i 14), .ref (g.1 4 i 15)]
/-- the cells by their places: kind, which one, part -/
def fg_E (g : fg_G) (w : fg_W) : Nat → Nat → Nat → va_E
  | 0, i, 0 => .inr (0, fg_f0 g i (w.1 0 i 0))
  | 0, i, b + 1 => .inl (g.2.1, 40, .inl (w.1 0 i (b + 1)))
  | 1, i, 0 => .inr (1, fg_f1 g i (w.1 1 i 0))
  | 1, i, b + 1 => .inl (g.2.1, 120, .inl (w.1 1 i (b + 1)))
  | 2, i, 0 => .inr (2, fg_f2 g i (w.1 2 i 0))
  | 2, i, 1 => .inl (g.2.1, 10, .inl (w.1 2 i 1))
  | 2, i, 2 => .inl (g.2.1, 10, .inl (w.1 2 i 2))
  | 2, i, 3 => .inl (g.2.1, 10, .inl (w.1 2 i 3))
  | 2, i, 4 => .inl (g.2.1, 6, .inl (w.1 2 i 4))
  | 2, i, 5 => .inl (g.2.1, 8, .inl (w.1 2 i 5))
  | 2, i, 6 => .inl (g.2.1, 8, .inl (w.1 2 i 6))
  | 2, i, 7 => .inl (g.2.1, 8, .inl (w.1 2 i 7))
  | 2, i, 8 => .inl (g.2.1, 8, .inl (w.1 2 i 8))
  | 2, i, 9 => .inl (g.2.1, 8, .inl (w.1 2 i 9))
  | 2, i, 10 => .inl (g.2.1, 10, .inl (w.1 2 i 10))
  | 2, i, b => .inl (g.2.1, 10, .inl (w.1 2 i b))
  | 3, i, 0 => .inr (3, fg_f3 g i (w.1 3 i 0))
  | 3, i, 1 => .inl (g.2.1, 7, .inl (w.1 3 i 1))
  | 3, _, _ => .inl (g.2.2.2.1, 4, .inr (.inr (.inr (.inr (fun j => some (g.1 0 j 0))))))
  | 4, i, 0 => .inr (4, fg_f4 g i (w.1 4 i 0) w.2)
  | 4, i, 1 => .inl (g.2.1, 90, .inl (w.1 4 i 1))
  | 4, i, 2 => .inl (g.2.1, 90, .inl (w.1 4 i 2))
  | 4, i, 3 => .inl (g.2.1, 90, .inl (w.1 4 i 3))
  | 4, i, 4 => .inl (g.2.1, 7, .inl (w.1 4 i 4))
  | 4, i, 5 => .inl (g.2.1, 10, .inl (w.1 4 i 5))
  | 4, i, 6 => .inl (g.2.1, 8, .inl (w.1 4 i 6))
  | 4, i, 7 => .inl (g.2.1, 120, .inl (w.1 4 i 7))
  | 4, i, 8 => .inl (g.2.2.1, 56, .inl (w.1 4 i 8))
  | 4, i, 9 => .inl (g.2.2.1, 24, .inl (w.1 4 i 9))
  | 4, i, 10 => .inl (g.2.2.1, 24, .inl (w.1 4 i 10))
  | 4, i, 11 => .inl (g.2.2.1, 24, .inl (w.1 4 i 11))
  | 4, i, 12 => .inl (g.2.1, 4, .inl (w.1 4 i 12))
  | 4, i, 13 => .inl (g.2.1, 4, .inl (w.1 4 i 13))
  | 4, i, 14 => .inl (g.2.1, 160, .inl (w.1 4 i 14))
  | 4, i, b => .inl (g.2.1, 40, .inl (w.1 4 i b))
  | K, i, b => .inl (g.2.1, 1, .inl (w.1 K i b))
def fg_shape : List (Nat × Nat × Nat) := [(0, 0, 0), (0, 0, 1), (0, 1, 0), (0, 1, 1), (0, 2, 0), (0, 2, 1), (0, 3, 0), (0, 3, 1), (1, 0, 0), (1, 0, 1), (2, 0, 0), (2, 0, 1), (2, 0, 2), (2, 0, 3), (2, 0, 4), (2, 0, 5), (2, 0, 6), (2, 0, 7), (2, 0, 8), (2, 0, 9), (2, 0, 10), (2, 0, 11), (2, 1, 0), (2, 1, 1), (2, 1, 2), (2, 1, 3), (2, 1, 4), (2, 1, 5), (2, 1, 6), (2, 1, 7), (2, 1, 8), (2, 1, 9), (2, 1, 10), (2, 1, 11), (2, 2, 0), (2, 2, 1), (2, 2, 2), (2, 2, 3), (2, 2, 4), (2, 2, 5), (2, 2, 6), (2, 2, 7), (2, 2, 8), (2, 2, 9), (2, 2, 10), (2, 2, 11), (3, 0, 0), (3, 0, 1), (3, 0, 2), (4, 0, 0), (4, 0, 1), (4, 0, 2), (4, 0, 3), (4, 0, 4), (4, 0, 5), (4, 0, 6), (4, 0, 7), (4, 0, 8), (4, 0, 9), (4, 0, 10), (4, 0, 11), (4, 0, 12), (4, 0, 13), (4, 0, 14), (4, 0, 15)]
theorem fg_inj : ∀ i, i < 65 → ∀ j, j < 65 → fg_shape[i]? = fg_shape[j]? → i = j := by decide +kernel
def fg_ok (K i b : Nat) : Prop := (K, i, b) ∈ fg_shape
theorem fg_in0 : ∀ i, i < 4 → ∀ b, b < 2 → fg_ok 0 i b := by unfold fg_ok; decide +kernel
theorem fg_in1 : ∀ b, b < 2 → fg_ok 1 0 b := by unfold fg_ok; decide +kernel
theorem fg_in2 : ∀ i, i < 3 → ∀ b, b < 12 → fg_ok 2 i b := by unfold fg_ok; decide +kernel
theorem fg_in3 : ∀ b, b < 3 → fg_ok 3 0 b := by unfold fg_ok; decide +kernel
theorem fg_in4 : ∀ b, b < 16 → fg_ok 4 0 b := by unfold fg_ok; decide +kernel
theorem fg_p0_0 {i : Nat} (h : i < 4) : fg_ok 0 i 0 := fg_in0 i h 0 (by decide)
theorem fg_p0_1 {i : Nat} (h : i < 4) : fg_ok 0 i 1 := fg_in0 i h 1 (by decide)
theorem fg_p1_0 : fg_ok 1 0 0 := fg_in1 0 (by decide)
theorem fg_p1_1 : fg_ok 1 0 1 := fg_in1 1 (by decide)
theorem fg_p2_0 {i : Nat} (h : i < 3) : fg_ok 2 i 0 := fg_in2 i h 0 (by decide)
theorem fg_p2_1 {i : Nat} (h : i < 3) : fg_ok 2 i 1 := fg_in2 i h 1 (by decide)
theorem fg_p2_2 {i : Nat} (h : i < 3) : fg_ok 2 i 2 := fg_in2 i h 2 (by decide)
theorem fg_p2_3 {i : Nat} (h : i < 3) : fg_ok 2 i 3 := fg_in2 i h 3 (by decide)
theorem fg_p2_4 {i : Nat} (h : i < 3) : fg_ok 2 i 4 := fg_in2 i h 4 (by decide)
theorem fg_p2_5 {i : Nat} (h : i < 3) : fg_ok 2 i 5 := fg_in2 i h 5 (by decide)
theorem fg_p2_6 {i : Nat} (h : i < 3) : fg_ok 2 i 6 := fg_in2 i h 6 (by decide)
theorem fg_p2_7 {i : Nat} (h : i < 3) : fg_ok 2 i 7 := fg_in2 i h 7 (by decide)
theorem fg_p2_8 {i : Nat} (h : i < 3) : fg_ok 2 i 8 := fg_in2 i h 8 (by decide)
theorem fg_p2_9 {i : Nat} (h : i < 3) : fg_ok 2 i 9 := fg_in2 i h 9 (by decide)
theorem fg_p2_10 {i : Nat} (h : i < 3) : fg_ok 2 i 10 := fg_in2 i h 10 (by decide)
theorem fg_p2_11 {i : Nat} (h : i < 3) : fg_ok 2 i 11 := fg_in2 i h 11 (by decide)
theorem fg_p3_0 : fg_ok 3 0 0 := fg_in3 0 (by decide)
theorem fg_p3_1 : fg_ok 3 0 1 := fg_in3 1 (by decide)
theorem fg_p3_2 : fg_ok 3 0 2 := fg_in3 2 (by decide)
theorem fg_p4_0 : fg_ok 4 0 0 := fg_in4 0 (by decide)
theorem fg_p4_1 : fg_ok 4 0 1 := fg_in4 1 (by decide)
theorem fg_p4_2 : fg_ok 4 0 2 := fg_in4 2 (by decide)
theorem fg_p4_3 : fg_ok 4 0 3 := fg_in4 3 (by decide)
theorem fg_p4_4 : fg_ok 4 0 4 := fg_in4 4 (by decide)
theorem fg_p4_5 : fg_ok 4 0 5 := fg_in4 5 (by decide)
theorem fg_p4_6 : fg_ok 4 0 6 := fg_in4 6 (by decide)
theorem fg_p4_7 : fg_ok 4 0 7 := fg_in4 7 (by decide)
theorem fg_p4_8 : fg_ok 4 0 8 := fg_in4 8 (by decide)
theorem fg_p4_9 : fg_ok 4 0 9 := fg_in4 9 (by decide)
theorem fg_p4_10 : fg_ok 4 0 10 := fg_in4 10 (by decide)
theorem fg_p4_11 : fg_ok 4 0 11 := fg_in4 11 (by decide)
theorem fg_p4_12 : fg_ok 4 0 12 := fg_in4 12 (by decide)
theorem fg_p4_13 : fg_ok 4 0 13 := fg_in4 13 (by decide)
theorem fg_p4_14 : fg_ok 4 0 14 := fg_in4 14 (by decide)
theorem fg_p4_15 : fg_ok 4 0 15 := fg_in4 15 (by decide)
def fg_cells (g : fg_G) (w : fg_W) : va_W := fg_shape.map (fun p => (g.1 p.1 p.2.1 p.2.2, fg_E g w p.1 p.2.1 p.2.2))
def fg_A (g : fg_G) (sz : Nat) : Nat → Prop := fun q => (∃ p ∈ fg_shape, g.1 p.1 p.2.1 p.2.2 = q) ∨ sz ≤ q
def fg_T (g : fg_G) : List (ClassId × FieldType) := [(g.2.1, .int), (g.2.2.1, .char), (g.2.2.2.1, .object "FogLots$Sheet")]
def fg_H (D : va_G) (g : fg_G) (H0 : Heap) (w : fg_W) (H : Heap) (locs : List Loc) : Prop := va_P D vwCl (fg_cells g w) H ∧ va_D (fg_A g H0.size) (fg_cells g w) ∧ va_S (fg_A g H0.size) H0 H locs
theorem fg_st_eq {w : fg_W} {K i b : Nat} {f : Nat → Int32} : (fg_st w K i b f).1 K i b = f := by simp [fg_st, fg_sw, fg_put]
theorem fg_st_ne {w : fg_W} {K i b K' i' b' : Nat} {f : Nat → Int32} (h : (K', i', b') ≠ (K, i, b)) : (fg_st w K i b f).1 K' i' b' = w.1 K' i' b' := by
  simp only [fg_st, fg_sw, fg_put]
  by_cases h1 : K' = K
  · subst h1
    by_cases h2 : i' = i
    · subst h2
      by_cases h3 : b' = b
      · subst h3; exact absurd rfl h
      · simp [fg_put, h3]
    · simp [fg_put, h2]
  · simp [fg_put, h1]
theorem fg_E_dep {g : fg_G} {w w' : fg_W} {K i b : Nat} (h1 : w'.1 K i b = w.1 K i b) (h2 : w'.2 = w.2) : fg_E g w' K i b = fg_E g w K i b := by
  unfold fg_E
  split <;> simp_all
theorem fg_idx {g : fg_G} {w : fg_W} {K i b : Nat} (h : fg_ok K i b) : ∃ q : Nat, (fg_cells g w)[q]? = some (g.1 K i b, fg_E g w K i b) ∧ ∀ w' : fg_W, (∀ K' i' b', (K', i', b') ≠ (K, i, b) → fg_ok K' i' b' → fg_E g w' K' i' b' = fg_E g w K' i' b') → (fg_cells g w).set q (g.1 K i b, fg_E g w' K i b) = fg_cells g w' := by
  obtain ⟨q, hq⟩ := List.mem_iff_getElem?.mp h
  have hlt : q < fg_shape.length := (List.getElem?_eq_some_iff.mp hq).1
  refine ⟨q, by simp [fg_cells, hq], fun w' hw => ?_⟩
  apply List.ext_getElem?
  intro j
  by_cases hj : q = j
  · subst hj
    rw [List.getElem?_set_self (by simpa [fg_cells] using hlt)]
    simp [fg_cells, hq]
  · rw [List.getElem?_set_ne hj]
    simp only [fg_cells, List.getElem?_map]
    cases hp : fg_shape[j]? with
    | none => rfl
    | some p =>
      obtain ⟨K', i', b'⟩ := p
      have hne : (K', i', b') ≠ (K, i, b) := by
        intro e
        rw [e] at hp
        have hjl : j < fg_shape.length := (List.getElem?_eq_some_iff.mp hp).1
        exact hj (fg_inj q hlt j hjl (hq.trans hp.symm))
      simp only [Option.map_some]
      rw [hw K' i' b' hne (List.mem_of_getElem? hp)]
theorem fg_D {A : Nat → Prop} {g : fg_G} {w w' : fg_W} (h : va_D A (fg_cells g w)) : va_D A (fg_cells g w') := by
  have key : ∀ (k : Nat) (q : Nat × va_E), (fg_cells g w')[k]? = some q → ∃ q0, (fg_cells g w)[k]? = some q0 ∧ q0.1 = q.1 := by
    intro k q hq
    simp only [fg_cells, List.getElem?_map] at hq ⊢
    cases hp : fg_shape[k]? with
    | none => rw [hp] at hq; cases hq
    | some p => rw [hp] at hq; simp only [Option.map_some, Option.some.injEq] at hq ⊢; subst hq; exact ⟨_, rfl, rfl⟩
  refine ⟨fun i j p q hp hq e => ?_, fun k q hq => ?_⟩
  · obtain ⟨p0, a1, a2⟩ := key i p hp
    obtain ⟨q0, b1, b2⟩ := key j q hq
    exact h.1 i j p0 q0 a1 b1 (by rw [a2, b2]; exact e)
  · obtain ⟨q0, b1, b2⟩ := key k q hq
    rw [← b2]; exact h.2 k q0 b1
theorem fg_dep {g : fg_G} {w : fg_W} {K i b : Nat} {f : Nat → Int32} : ∀ K' i' b', (K', i', b') ≠ (K, i, b) → fg_ok K' i' b' → fg_E g (fg_st w K i b f) K' i' b' = fg_E g w K' i' b' := fun _ _ _ h _ => fg_E_dep (fg_st_ne h) rfl
def fg_sk : List Nat := [118, 120, 122, 124, 126, 128, 130, 52, 61, 66, 82, 87, 92, 100, 104, 108]
def fg_sx : List String := ["person", "cottager", "surveyor", "mayor", "member", "doubter", "pupil", "lot", "sun", "mist", "on", "believes", "purse", "fog", "rent", "owner"]
def fg_sn : List Nat := [6, 8, 8, 5, 6, 7, 5, 3, 3, 4, 2, 8, 5, 3, 4, 5]
def fg_sb : List (List Int32) := [[112, 101, 114, 115, 111, 110], [99, 111, 116, 116, 97, 103, 101, 114], [115, 117, 114, 118, 101, 121, 111, 114], [109, 97, 121, 111, 114], [109, 101, 109, 98, 101, 114], [100, 111, 117, 98, 116, 101, 114], [112, 117, 112, 105, 108], [108, 111, 116], [115, 117, 110], [109, 105, 115, 116], [111, 110], [98, 101, 108, 105, 101, 118, 101, 115], [112, 117, 114, 115, 101], [102, 111, 103], [114, 101, 110, 116], [111, 119, 110, 101, 114]]
/-- what else is given of the start: nest links, the String constants, String's own static -/
def fg_N (g : fg_G) (sz : Nat) (U : State) : Prop := va_Nw (.methodLinkNest RX2 116 yX3_losesOf "FogLots") U ∧ va_Nw (.methodLinkNest RX1 96 yX3_isLot "FogLots") U ∧ (∀ i, i < 16 → vk_R RX1 (fg_sk.getD i 0) (fg_sx.getD i "") (g.2.2.2.2.1 i) U) ∧ vk_S 16 fg_sn fg_sb g.2.2.2.2.1 g.2.2.2.2.2 (fg_A g sz) U U.heap ∧ va_Z "java/lang/String" "COMPACT_STRINGS" "Z" (.int 1) (fg_A g sz) U U.heap
def fg_KN (D : va_G) (g : fg_G) (U : State) : Prop := va_K D vwCl (fg_T g) U ∧ fg_N g U.heap.size U
theorem fg_Asub {g : fg_G} {H0 H : Heap} {locs : List Loc} (hS : va_S (fg_A g H0.size) H0 H locs) : ∀ q, fg_A g H.size q → fg_A g H0.size q := fun _ hq => hq.imp id (fun z => Nat.le_trans hS.1 z)
theorem fg_N.pre {g : fg_G} {s U : State} {H : Heap} {locs : List Loc} (h : fg_N g s.heap.size s) (hS : va_S (fg_A g s.heap.size) s.heap H locs) (hU : U.heap = H) (hW : s.WarmedH U.vm) : fg_N g H.size U := by
  obtain ⟨h1, h2, h3, h4, h5⟩ := h
  refine ⟨va_Nw.warmM hW h1, va_Nw.warmM hW h2, fun i hi => vk_R.warm hW (h3 i hi), ?_, ?_⟩
  · rw [hU]; exact ((h4.kept hS.2.1).moved hW.alike).narrow (fg_Asub hS)
  · rw [hU]; exact ((h5.kept hS.2.1).moved hW.alike).narrow (fg_Asub hS)
theorem fg_N.calling {g : fg_G} {U : State} {sz : Nat} {f : JFrame} {mk : MethodId} {a : Array Value} (h : fg_N g sz U) : fg_N g sz (U.calling f mk a) := by
  obtain ⟨h1, h2, h3, h4, h5⟩ := h
  exact ⟨va_Nw.same rfl rfl h1, va_Nw.same rfl rfl h2, fun i hi => vk_R.same rfl (h3 i hi), vk_S.moved (u := U) (U := U.calling f mk a) (Vm.Alike.refl U.vm) h4, va_Z.moved (u := U) (U := U.calling f mk a) (Vm.Alike.refl U.vm) h5⟩
def fg_B (D : va_G) (g : fg_G) (sz : Nat) (w : fg_W) : State → Prop := fun U => U.heap.size = sz ∧ va_P D vwCl (fg_cells g w) U.heap ∧ va_K D vwCl (fg_T g) U ∧ va_D (fun _ => True) (fg_cells g w) ∧ fg_N g sz U
def fg_C (D : va_G) (g : fg_G) (u : fg_W) (t : State) : Prop := va_P D vwCl (fg_cells g u) t.heap ∧ va_K D vwCl (fg_T g) t
def fg_rm (f n : Nat) : Room := { frames := f, cells := 0, slots := 0, locals := n }
def fg_Qi (D : va_G) (g : fg_G) (r : Int32) (w : fg_W) (sz : Nat) : Array Value → State → Outcome → State → Prop := va_Qi (fun (r0 : Int32) (u : fg_W) => r0 = r ∧ u = w) (fg_C D g) (fg_A g sz)
def fg_Ql (D : va_G) (g : fg_G) (r : Int64) (w : fg_W) (sz : Nat) : Array Value → State → Outcome → State → Prop := va_Ql (fun (r0 : Int64) (u : fg_W) => r0 = r ∧ u = w) (fg_C D g) (fg_A g sz)
def fg_Qv (D : va_G) (g : fg_G) (w : fg_W) (sz : Nat) : Array Value → State → Outcome → State → Prop := va_Qv (fun (u : fg_W) => u = w) (fg_C D g) (fg_A g sz)
/-- a method's contract: at these arguments and this world it answers, and leaves the world so -/
def fg_M (l : Launch) (y : MethodName) (cc : ByteArray) (nL : Nat) (ret : Option FieldType) (fr lo : Nat) (D : va_G) (g : fg_G) (As : List Value) (w : fg_W) (Qc : Nat → Array Value → State → Outcome → State → Prop) : Prop :=
  ∀ sz, Met l y (.code y cc nL ret :: fg_TW) (fg_rm fr lo) (va_Pc As (fg_B D g sz w)) (Qc sz) 0 0 (fg_A g sz)
theorem fg_M.of {l : Launch} {y : MethodName} {cc : ByteArray} {nL : Nat} {ret : Option FieldType} {fr lo : Nat} {D : va_G} {g : fg_G} {As : List Value} {w : fg_W} {Qc : Nat → Array Value → State → Outcome → State → Prop} (hy : plainName y.cls = true) (hn : (lg_sl As).length ≤ nL)
    (body : ∀ (p : Program) (e : Env) (s : State) (m : MethodId) (below : List Frame) (meth : Method) (c : Code) (ls : Array Slot), CallFix p m c cc nL s As.toArray fg_TW y.cls → meth.sig.returnType = ret → meth.locks = false → fg_KN D g s → fg_H D g s.heap w s.heap [] → lv_has ls nL (lv_args 0 As) →
      W p l e (fg_rm fr lo) s m As.toArray below meth c s.heap [] 0 0 (MQ below (Qc s.heap.size) As.toArray s 0 0 (fg_A g s.heap.size)) (F0 m 0 ls [])) : fg_M l y cc nL ret fr lo D g As w Qc := by
  intro sz
  refine Met.ofW (cc := cc) (maxL := nL) (ret := ret) hy rfl ?_
  intro p e s m args below meth c s₁ B hml hv
  obtain ⟨rfl, hsz, hP, hK, hD0, hN⟩ := hv
  subst hsz
  have hts0 := atoms_spec (ws := .code y cc nL ret :: fg_TW) B.pre
  have hown : s.vm.findClass y.cls = some m.cls := findClass_of_methodNamed B.named
  have hl := lv_entry As (n := nL) hn
  rw [lg_entry_eq]
  refine body p e s m below meth c _ ⟨B.exec, B.bytes, hml, hown, fun w hw => hts0 w (List.mem_cons_of_mem _ hw)⟩ B.returns B.notSynchronized ⟨hK, hN⟩ ⟨hP, ?_, va_S.rf⟩ hl
  refine hD0.weaken (fun k q hk _ => ?_)
  simp only [fg_cells, List.getElem?_map] at hk
  cases hp : fg_shape[k]? with
  | none => rw [hp] at hk; cases hk
  | some p0 => rw [hp] at hk; simp only [Option.map_some, Option.some.injEq] at hk; subst hk; exact Or.inl ⟨p0, List.mem_of_getElem? hp, rfl⟩
abbrev fg_Gi (p : Program) (l : Launch) (e : Env) (fr lo : Nat) (s : State) (m : MethodId) (As : List Value) (below : List Frame) (meth : Method) (c : Code) (D : va_G) (g : fg_G) (r : Int32) (w' : fg_W) (H : Heap) (locs : List Loc) (pc : Nat) (ls : Array Slot) (st : List Value) : Prop := W p l e (fg_rm fr lo) s m As.toArray below meth c H locs 0 0 (MQ below (fg_Qi D g r w' s.heap.size) As.toArray s 0 0 (fg_A g s.heap.size)) (F0 m pc ls st)
abbrev fg_Gl (p : Program) (l : Launch) (e : Env) (fr lo : Nat) (s : State) (m : MethodId) (As : List Value) (below : List Frame) (meth : Method) (c : Code) (D : va_G) (g : fg_G) (r : Int64) (w' : fg_W) (H : Heap) (locs : List Loc) (pc : Nat) (ls : Array Slot) (st : List Value) : Prop := W p l e (fg_rm fr lo) s m As.toArray below meth c H locs 0 0 (MQ below (fg_Ql D g r w' s.heap.size) As.toArray s 0 0 (fg_A g s.heap.size)) (F0 m pc ls st)
abbrev fg_Gv (p : Program) (l : Launch) (e : Env) (fr lo : Nat) (s : State) (m : MethodId) (As : List Value) (below : List Frame) (meth : Method) (c : Code) (D : va_G) (g : fg_G) (w' : fg_W) (H : Heap) (locs : List Loc) (pc : Nat) (ls : Array Slot) (st : List Value) : Prop := W p l e (fg_rm fr lo) s m As.toArray below meth c H locs 0 0 (MQ below (fg_Qv D g w' s.heap.size) As.toArray s 0 0 (fg_A g s.heap.size)) (F0 m pc ls st)
theorem fg_E_sl2 {g : fg_G} {w : fg_W} {x : Int64} {K i b : Nat} (h : ¬ (K = 4 ∧ b = 0)) : fg_E g (fg_sl w x) K i b = fg_E g w K i b := by
  unfold fg_E
  split <;> first | rfl | (exact absurd ⟨rfl, rfl⟩ h) | simp_all [fg_sl]
/-- one model alone: of another number nothing is asked (its row isn't in the shape) -/
theorem fg_E_sl {g : fg_G} {w : fg_W} {x : Int64} {i : Nat} (h : (4, i, 0) ≠ (4, 0, 0)) (hs : fg_ok 4 i 0) : fg_E g (fg_sl w x) 4 i 0 = fg_E g w 4 i 0 := by
  have : i = 0 := by
    unfold fg_ok fg_shape at hs
    simpa using hs
  exact absurd (by rw [this]) h
section FGR
variable {p : Program} {l : Launch} {e : Env} {R : Room} {s : State} {m : MethodId} {args : Array Value} {below : List Frame} {meth : Method} {c : Code} {H : Heap} {locs : List Loc} {cells slots : Nat} {Q : State → Prop}
variable {cc : ByteArray} {pc : Nat} {ls : Array Slot} {rest : List Value} {D : va_G} {g : fg_G} {w : fg_W} {K i b : Nat}
theorem fg_iald (hx : p.tables.exec = Jvm.exec) (hb : c.code = cc) (hK : fg_KN D g s) (h : fg_H D g s.heap w H locs) {n : Nat} (hs : fg_ok K i b) (he : ∀ w : fg_W, fg_E g w K i b = .inl (g.2.1, n, .inl (w.1 K i b))) {ix : Int32} (hin : vp_in ix n) (hdg : decode cc pc = .ok (.iaload, 1))
    (kk : W p l e R s m args below meth c H locs cells slots Q (F0 m (pc + 1) ls (.int (w.1 K i b ix.toNatClampNeg) :: rest))) : W p l e R s m args below meth c H locs cells slots Q (F0 m pc ls (.int ix :: .ref (g.1 K i b) :: rest)) := by
  obtain ⟨q, hq, -⟩ := fg_idx (g := g) (w := w) hs
  rw [he] at hq
  exact va_iald hx hb hK.1 h.1 q 0 hq rfl hin hdg kk
theorem fg_cald (hx : p.tables.exec = Jvm.exec) (hb : c.code = cc) (hK : fg_KN D g s) (h : fg_H D g s.heap w H locs) {n : Nat} (hs : fg_ok K i b) (he : ∀ w : fg_W, fg_E g w K i b = .inl (g.2.2.1, n, .inl (w.1 K i b))) {ix : Int32} (hin : vp_in ix n) (hdg : decode cc pc = .ok (.caload, 1))
    (kk : W p l e R s m args below meth c H locs cells slots Q (F0 m (pc + 1) ls (.int (w.1 K i b ix.toNatClampNeg) :: rest))) : W p l e R s m args below meth c H locs cells slots Q (F0 m pc ls (.int ix :: .ref (g.1 K i b) :: rest)) := by
  obtain ⟨q, hq, -⟩ := fg_idx (g := g) (w := w) hs
  rw [he] at hq
  exact va_cald hx hb hK.1 h.1 q 1 hq rfl hin hdg kk
/-- sheets[ix] -/
theorem fg_aald (hx : p.tables.exec = Jvm.exec) (hb : c.code = cc) (hK : fg_KN D g s) (h : fg_H D g s.heap w H locs) {ix : Int32} (hin : vp_in ix 4) (hdg : decode cc pc = .ok (.aaload, 1))
    (kk : W p l e R s m args below meth c H locs cells slots Q (F0 m (pc + 1) ls (.ref (g.1 0 ix.toNatClampNeg 0) :: rest))) : W p l e R s m args below meth c H locs cells slots Q (F0 m pc ls (.int ix :: .ref (g.1 3 0 2) :: rest)) := by
  obtain ⟨q, hq, -⟩ := fg_idx (g := g) (w := w) (fg_in3 2 (by decide))
  exact va_aldq hx hb hK.1 h.1 q 2 hq rfl hin hdg kk
theorem fg_alen (hx : p.tables.exec = Jvm.exec) (hb : c.code = cc) (hK : fg_KN D g s) (h : fg_H D g s.heap w H locs) {n : Nat} (hs : fg_ok K i b) (he : ∀ w : fg_W, fg_E g w K i b = .inl (g.2.2.1, n, .inl (w.1 K i b))) (hdg : decode cc pc = .ok (.arraylength, 1))
    (kk : W p l e R s m args below meth c H locs cells slots Q (F0 m (pc + 1) ls (.int (nI n) :: rest))) : W p l e R s m args below meth c H locs cells slots Q (F0 m pc ls (.ref (g.1 K i b) :: rest)) := by
  obtain ⟨q, hq, -⟩ := fg_idx (g := g) (w := w) hs
  rw [he] at hq
  exact va_alen hx hb hK.1 h.1 q 1 hq rfl rfl hdg kk
theorem fg_iast (hx : p.tables.exec = Jvm.exec) (hb : c.code = cc) (hK : fg_KN D g s) (h : fg_H D g s.heap w H locs) {n : Nat} (hs : fg_ok K i b) (he : ∀ w : fg_W, fg_E g w K i b = .inl (g.2.1, n, .inl (w.1 K i b))) {ix x : Int32} (hin : vp_in ix n) (hdg : decode cc pc = .ok (.iastore, 1))
    (kk : ∀ (w1 : fg_W) (H1 : Heap) (locs1 : List Loc), w1 = fg_st w K i b (upd (w.1 K i b) ix.toNatClampNeg x) → fg_H D g s.heap w1 H1 locs1 → W p l e R s m args below meth c H1 locs1 cells slots Q (F0 m (pc + 1) ls rest)) : W p l e R s m args below meth c H locs cells slots Q (F0 m pc ls (.int x :: .int ix :: .ref (g.1 K i b) :: rest)) := by
  obtain ⟨q, hq, hset⟩ := fg_idx (g := g) (w := w) hs
  rw [he] at hq
  refine va_iast hx hb hK.1 h.1 h.2.1 h.2.2 q 0 hq rfl hin hdg (fun H1 locs1 hP hD hS => ?_)
  have e1 := hset (fg_st w K i b (upd (w.1 K i b) ix.toNatClampNeg x)) fg_dep
  rw [he, fg_st_eq] at e1
  rw [e1] at hP hD
  exact kk _ H1 locs1 rfl ⟨hP, hD, hS⟩
theorem fg_ialdL (hx : p.tables.exec = Jvm.exec) (hb : c.code = cc) (hK : fg_KN D g s) (h : fg_H D g s.heap w H locs) {n j : Nat} (hs : fg_ok K i b) (he : ∀ w : fg_W, fg_E g w K i b = .inl (g.2.1, n, .inl (w.1 K i b))) {ix : Int32} (hin : ¬ (ix < 0 ∨ n ≤ ix.toNatClampNeg)) (hj : ix.toNatClampNeg = j) (hdg : decode cc pc = .ok (.iaload, 1))
    (kk : W p l e R s m args below meth c H locs cells slots Q (F0 m (pc + 1) ls (.int (w.1 K i b j) :: rest))) : W p l e R s m args below meth c H locs cells slots Q (F0 m pc ls (.int ix :: .ref (g.1 K i b) :: rest)) := by
  subst hj
  exact fg_iald hx hb hK h hs he hin hdg kk
theorem fg_iastL (hx : p.tables.exec = Jvm.exec) (hb : c.code = cc) (hK : fg_KN D g s) (h : fg_H D g s.heap w H locs) {n j : Nat} (hs : fg_ok K i b) (he : ∀ w : fg_W, fg_E g w K i b = .inl (g.2.1, n, .inl (w.1 K i b))) {ix x : Int32} (hin : ¬ (ix < 0 ∨ n ≤ ix.toNatClampNeg)) (hj : ix.toNatClampNeg = j) (hdg : decode cc pc = .ok (.iastore, 1))
    (kk : ∀ (w1 : fg_W) (H1 : Heap) (locs1 : List Loc), w1 = fg_st w K i b (upd (w.1 K i b) j x) → fg_H D g s.heap w1 H1 locs1 → W p l e R s m args below meth c H1 locs1 cells slots Q (F0 m (pc + 1) ls rest)) : W p l e R s m args below meth c H locs cells slots Q (F0 m pc ls (.int x :: .int ix :: .ref (g.1 K i b) :: rest)) := by
  subst hj
  exact fg_iast hx hb hK h hs he hin hdg kk
theorem fg_copy {nL : Nat} {own : String} {index K' i' b' sj dj nj : Nat} (S : CallFix p m c cc nL s args fg_TW own) (hK : fg_KN D g s) (h : fg_H D g s.heap w H locs) {n n' : Nat} (hs : fg_ok K i b) (he : ∀ w : fg_W, fg_E g w K i b = .inl (g.2.1, n, .inl (w.1 K i b))) (hs' : fg_ok K' i' b') (he' : ∀ w : fg_W, fg_E g w K' i' b' = .inl (g.2.1, n', .inl (w.1 K' i' b'))) {sp dp nn : Int32} (e1 : sp.toNatClampNeg = sj) (e2 : dp.toNatClampNeg = dj) (e3 : nn.toNatClampNeg = nj) (h1 : ¬ sp < 0) (h2 : ¬ dp < 0) (h3 : ¬ nn < 0) (h4 : sp.toNatClampNeg + nn.toNatClampNeg ≤ n) (h5 : dp.toNatClampNeg + nn.toNatClampNeg ≤ n') (hlink : Cond.methodLink own index arraycopyName ∈ fg_TW) (hls : ls.size = nL) (hframes : 1 ≤ R.frames) (hlocals : (rest.map fun v => v.category).sum + (nativeFrameWords "java/lang/System" "arraycopy" 5 + 11) ≤ R.locals) (hdg : decode cc pc = .ok (.invokestatic index, 3))
    (kk : ∀ (w1 : fg_W) (H1 : Heap) (locs1 : List Loc), w1 = fg_st w K' i' b' (va_cpy (w.1 K i b) (w.1 K' i' b') sj dj nj) → fg_H D g s.heap w1 H1 locs1 → W p l e R s m args below meth c H1 locs1 cells slots Q (F0 m (pc + 3) ls rest)) : W p l e R s m args below meth c H locs cells slots Q (F0 m pc ls (.int nn :: .int dp :: .ref (g.1 K' i' b') :: .int sp :: .ref (g.1 K i b) :: rest)) := by
  subst e1; subst e2; subst e3
  obtain ⟨q, hq, -⟩ := fg_idx (g := g) (w := w) hs
  obtain ⟨q', hq', hset⟩ := fg_idx (g := g) (w := w) hs'
  rw [he] at hq
  rw [he'] at hq'
  refine va_copyi S.1 S.2.1 (S.2.2.1.trans hls.symm) S.2.2.2.1 (S.2.2.2.2 _ hlink) (S.2.2.2.2 _ vn_acopy) (S.2.2.2.2 _ vs_acopy) (S.2.2.2.2 _ vi_System) hK.1 h.1 h.2.1 h.2.2 q q' 0 0 hq hq' rfl rfl rfl h1 h2 h3 h4 h5 (fun _ _ => rfl) hframes hlocals hdg (fun H1 locs1 hP hD hS => ?_)
  have e1 := hset (fg_st w K' i' b' (va_cpy (w.1 K i b) (w.1 K' i' b') sp.toNatClampNeg dp.toNatClampNeg nn.toNatClampNeg)) fg_dep
  rw [he', fg_st_eq] at e1
  rw [e1] at hP hD
  exact kk _ H1 locs1 rfl ⟨hP, hD, hS⟩
theorem fg_vlt {ix : Int32} {n : Nat} (h : vp_in ix n) : ix.toNatClampNeg < n := Nat.not_le.mp fun q => h (Or.inr q)
theorem fg_get {nL : Nat} {own ref C : String} {T : u_T} {N ci index : Nat} (S : CallFix p m c cc nL s args fg_TW own) (hin : ∀ w ∈ u_ws C T N, w ∈ fg_TW) (hK : fg_KN D g s) (h : fg_H D g s.heap w H locs) {fs : List Value} (hs : fg_ok K i b) (he : fg_E g w K i b = .inr (ci, fs)) (hc : vwCl[ci]? = some (C, T, N)) (k : Nat) (hk : k < N) (hlink : Cond.fieldLink own index ref (T k).2.1 (T k).2.2.1 ∈ fg_TW) (hsame : (T k).1 = ref) {v : Value} (hv : fs[k]? = some v) (hdg : decode cc pc = .ok (.getfield index, 3))
    (kk : W p l e R s m args below meth c H locs cells slots Q (F0 m (pc + 3) ls (v :: rest))) : W p l e R s m args below meth c H locs cells slots Q (F0 m pc ls (.ref (g.1 K i b) :: rest)) := by
  obtain ⟨q, hq, -⟩ := fg_idx (g := g) (w := w) hs
  rw [he] at hq
  exact va_get S.1 S.2.1 S.2.2.2.2 hin S.2.2.2.1 hK.1 h.1 q hq hc k hk (S.2.2.2.2 _ hlink) (fun x hx => by rw [← hsame]; exact hx) hv hdg kk
theorem fg_putI {nL : Nat} {own ref C : String} {T : u_T} {N ci index : Nat} (S : CallFix p m c cc nL s args fg_TW own) (hin : ∀ w ∈ u_ws C T N, w ∈ fg_TW) (ty0 : Nat → FieldType) (hty : ∀ k, k < N → parseFieldDescriptor (T k).2.2.1 = some (ty0 k)) (hnm : ∀ a, a < N → ∀ b, b < N → a ≠ b → (T a).2.1 ≠ (T b).2.1) (hK : fg_KN D g s) (h : fg_H D g s.heap w H locs) {fs : (Nat → Int32) → List Value} (hs : fg_ok K i b) (he : ∀ w' : fg_W, w'.2 = w.2 → fg_E g w' K i b = .inr (ci, fs (w'.1 K i b))) (hc : vwCl[ci]? = some (C, T, N)) (k : Nat) (hk : k < N) (hlink : Cond.fieldLink own index ref (T k).2.1 (T k).2.2.1 ∈ fg_TW) (hsame : (T k).1 = ref) (hfin : (T k).2.2.2 = false) {ty : FieldType} {x : Int32} (hd : parseFieldDescriptor (T k).2.2.1 = some ty) (hn : narrow ty (.int x) = .int x) (hfit : fits ty (.int x) = true) (hl : ∀ f, k < (fs f).length) (hset : ∀ f, (fs f).set k (.int x) = fs (upd f k x)) (hdg : decode cc pc = .ok (.putfield index, 3))
    (kk : ∀ (w1 : fg_W) (H1 : Heap) (locs1 : List Loc), w1 = fg_st w K i b (upd (w.1 K i b) k x) → fg_H D g s.heap w1 H1 locs1 → W p l e R s m args below meth c H1 locs1 cells slots Q (F0 m (pc + 3) ls rest)) : W p l e R s m args below meth c H locs cells slots Q (F0 m pc ls (.int x :: .ref (g.1 K i b) :: rest)) := by
  obtain ⟨q, hq, hset2⟩ := fg_idx (g := g) (w := w) hs
  rw [he w rfl] at hq
  refine va_put S.1 S.2.1 S.2.2.2.2 hin ty0 hty hnm S.2.2.2.1 hK.1 h.1 h.2.1 h.2.2 q hq hc k hk (S.2.2.2.2 _ hlink) (fun x hx => by rw [← hsame]; exact hx) hfin hd hn hfit (hl _) hdg (fun H1 locs1 hP hD hS => ?_)
  have e1 := hset2 (fg_st w K i b (upd (w.1 K i b) k x)) fg_dep
  rw [he (fg_st w K i b (upd (w.1 K i b) k x)) rfl, fg_st_eq, ← hset] at e1
  rw [e1] at hP hD
  exact kk _ H1 locs1 rfl ⟨hP, hD, hS⟩
theorem fg_putL {nL : Nat} {index : Nat} (S : CallFix p m c cc nL s args fg_TW RX4) (hK : fg_KN D g s) (h : fg_H D g s.heap w H locs) (hlink : Cond.fieldLink RX4 index "FogLotsModel" "value" "J" ∈ fg_TW) {x : Int64} (hdg : decode cc pc = .ok (.putfield index, 3))
    (kk : ∀ (w1 : fg_W) (H1 : Heap) (locs1 : List Loc), w1 = fg_sl w x → fg_H D g s.heap w1 H1 locs1 → W p l e R s m args below meth c H1 locs1 cells slots Q (F0 m (pc + 3) ls rest)) : W p l e R s m args below meth c H locs cells slots Q (F0 m pc ls (.long x :: .ref (g.1 4 0 0) :: rest)) := by
  obtain ⟨q, hq, hset2⟩ := fg_idx (g := g) (w := w) fg_p4_0
  refine va_put (C := RX4) (T := TX4) (N := 22) (ty := .long) S.1 S.2.1 S.2.2.2.2 vu_X4 tyX4 tyX4_ok nmX4 S.2.2.2.1 hK.1 h.1 h.2.1 h.2.2 q hq rfl 13 (by decide) (S.2.2.2.2 _ hlink) (fun _ h9 => h9) rfl (tyX4_ok 13 (by decide)) rfl rfl (Nat.le_of_ble_eq_true rfl) hdg (fun H1 locs1 hP hD hS => ?_)
  have e1 := hset2 (fg_sl w x) (fun K' i' b' hne hok => by
    by_cases h4 : K' = 4 ∧ b' = 0
    · obtain ⟨rfl, rfl⟩ := h4
      exact fg_E_sl hne hok
    · exact fg_E_sl2 h4)
  have e2 : (fg_cells g w).set q (g.1 4 0 0, fg_E g (fg_sl w x) 4 0 0) = (fg_cells g w).set q (g.1 4 0 0, .inr (4, (fg_f4 g 0 (w.1 4 0 0) w.2).set 13 (.long x))) := rfl
  rw [e2] at e1
  exact kk _ H1 locs1 rfl ⟨by rw [← e1]; exact hP, by rw [← e1]; exact hD, hS⟩
theorem fg_blind {As : List Value} {sz : Nat} : FrameBlind (va_Pc As (fg_B D g sz w)) := fun a U f mk q => by
  obtain ⟨q0, q1, qP, qK, qD, qN⟩ := q
  exact ⟨q0, q1, qP, va_K.moved (u := U) (U := U.calling f mk a) (Vm.Alike.refl U.vm) qK, qD, qN.calling⟩
theorem fg_pre {As : List Value} (hK : fg_KN D g s) (h : fg_H D g s.heap w H locs) : ∀ U : State, U.heap = H → s.WarmedH U.vm → va_Pc As (fg_B D g H.size w) As.toArray U := fun U hU hW => ⟨rfl, by rw [hU], by rw [hU]; exact h.1, va_K.moved hW.alike hK.1, h.2.1.weaken (fun _ _ _ _ => trivial), hK.2.pre h.2.2 hU hW⟩
variable {own C : String} {T : u_T} {N ci index nL maxL n fr lo : Nat} {y : MethodName} {bytes : ByteArray} {ret : Option FieldType} {fs : List Value} {As st0 : List Value} {w' : fg_W}
/-- a virtual call -/
theorem fg_runV {Qc : Nat → Array Value → State → Outcome → State → Prop} (S : CallFix p m c cc nL s args fg_TW own) (hK : fg_KN D g s) (h : fg_H D g s.heap w H locs) (hM : fg_M l y bytes maxL ret fr lo D g (.ref (g.1 K i b) :: As) w Qc) (hG : GoodIn fg_TW (wsV own index C y (.code y bytes maxL ret :: fg_TW))) (hd : y.cls = C ∧ y.cls ≠ "java/lang/invoke/MethodHandle" ∧ y.cls ≠ "java/lang/invoke/VarHandle" ∧ (parseMethodDescriptor y.desc).map (fun d => d.parameters.length) = some n) (hR : fr + 1 ≤ R.frames ∧ 8 + (maxL + 11) + lo ≤ R.locals) (hs : fg_ok K i b) (he : fg_E g w K i b = .inr (ci, fs)) (hc : vwCl[ci]? = some (C, T, N)) (hn : As.length = n) (hl : ls.size = nL) (hst : st0 = As.reverse ++ .ref (g.1 K i b) :: rest) (hW : (rest.map fun v => v.category).sum ≤ 8) (hdg : decode cc pc = .ok (.invokevirtual index, 3)) (hz : cells ≤ R.cells ∧ slots ≤ R.slots) :
    va_Run p l e R s m args below meth c H locs cells slots 0 0 (F0 m pc ls st0) rest (Qc H.size (Value.ref (g.1 K i b) :: As).toArray) (fg_A g H.size) := by
  obtain ⟨q0, hq0, -⟩ := fg_idx (g := g) (w := w) hs
  rw [he] at hq0
  exact va_runV (As := As) (rest := rest) S (hM H.size) (cwV n S.2.2.2.2 hG rfl rfl rfl hd hR) ⟨fg_blind, va_recv hK.1 h.1 hc hq0, fg_pre hK h⟩ rfl hn hl hst (lv_room hW) hdg hz
theorem fg_runS {Qc : Nat → Array Value → State → Outcome → State → Prop} (S : CallFix p m c cc nL s args fg_TW own) (hK : fg_KN D g s) (h : fg_H D g s.heap w H locs) (hM : fg_M l y bytes maxL ret fr lo D g As w Qc) (hcode : Cond.code y bytes maxL ret ∈ fg_TW) (hlk : Cond.methodLink own index y ∈ fg_TW) (hstat : Cond.static y ∈ fg_TW) (hini : Cond.initialized y.cls ∈ fg_TW) (hd : y.cls ≠ "java/lang/invoke/MethodHandle" ∧ y.cls ≠ "java/lang/invoke/VarHandle" ∧ (parseMethodDescriptor y.desc).map (fun d => d.parameters.length) = some n) (hR : fr + 1 ≤ R.frames ∧ 8 + (maxL + 11) + lo ≤ R.locals) (hn : As.length = n) (hl : ls.size = nL) (hst : st0 = As.reverse ++ rest) (hW : (rest.map fun v => v.category).sum ≤ 8) (hdg : decode cc pc = .ok (.invokestatic index, 3)) (hz : cells ≤ R.cells ∧ slots ≤ R.slots) :
    va_Run p l e R s m args below meth c H locs cells slots 0 0 (F0 m pc ls st0) rest (Qc H.size As.toArray) (fg_A g H.size) :=
  va_runS (As := As) (rest := rest) S (hM H.size) ⟨callB_of n S.2.2.2.2 (fg_gC hcode) rfl rfl rfl (S.2.2.2.2 _ hini) (S.2.2.2.2 _ hlk) hd hR, S.2.2.2.2 _ hstat⟩ ⟨fg_blind, fg_pre hK h⟩ rfl hn hl hst (lv_room hW) hdg hz
/-- a static method of another class of the nest -/
theorem fg_runSN {host : String} {Qc : Nat → Array Value → State → Outcome → State → Prop} (S : CallFix p m c cc nL s args fg_TW own) (hK : fg_KN D g s) (h : fg_H D g s.heap w H locs) (hM : fg_M l y bytes maxL ret fr lo D g As w Qc) (hcode : Cond.code y bytes maxL ret ∈ fg_TW) (hlk : va_Nw (.methodLinkNest own index y host) s) (hstat : Cond.static y ∈ fg_TW) (hini : Cond.initialized y.cls ∈ fg_TW) (hd : y.cls ≠ "java/lang/invoke/MethodHandle" ∧ y.cls ≠ "java/lang/invoke/VarHandle" ∧ (parseMethodDescriptor y.desc).map (fun d => d.parameters.length) = some n) (hR : fr + 1 ≤ R.frames ∧ 8 + (maxL + 11) + lo ≤ R.locals) (hn : As.length = n) (hl : ls.size = nL) (hst : st0 = As.reverse ++ rest) (hW : (rest.map fun v => v.category).sum ≤ 8) (hdg : decode cc pc = .ok (.invokestatic index, 3)) (hz : cells ≤ R.cells ∧ slots ≤ R.slots) :
    va_Run p l e R s m args below meth c H locs cells slots 0 0 (F0 m pc ls st0) rest (Qc H.size As.toArray) (fg_A g H.size) :=
  va_runSN (As := As) (rest := rest) S (hM H.size) ⟨va_cnB n S.2.2.2.2 (fg_gC hcode) rfl rfl rfl hlk (S.2.2.2.2 _ hini) hd hR, S.2.2.2.2 _ hstat, trivial⟩ ⟨fg_blind, fg_pre hK h⟩ rfl hn hl hst (lv_room hW) hdg hz
theorem fg_ci {a : Array Value} {r : Int32} (h : fg_H D g s.heap w H locs) (hr : va_Run p l e R s m args below meth c H locs cells slots 0 0 (F0 m pc ls st0) rest (fg_Qi D g r w' H.size a) (fg_A g H.size)) (kk : ∀ (H1 : Heap) (locs1 : List Loc), fg_H D g s.heap w' H1 locs1 → W p l e R s m args below meth c H1 locs1 cells slots Q (F0 m (pc + 3) ls (.int r :: rest))) : W p l e R s m args below meth c H locs cells slots Q (F0 m pc ls st0) := by
  refine va_calli hr h.2.2 (fun q _ hq => fg_Asub h.2.2 q hq) (fg_Asub h.2.2) (fun r0 u t H1 locs1 ht hvm hw hB hz hk hS1 => ?_)
  obtain ⟨rfl, rfl⟩ := hw
  obtain ⟨hP1, hK1⟩ := hB
  rw [ht] at hP1
  exact kk H1 locs1 ⟨hP1, fg_D h.2.1, hS1⟩
theorem fg_cl {a : Array Value} {r : Int64} (h : fg_H D g s.heap w H locs) (hr : va_Run p l e R s m args below meth c H locs cells slots 0 0 (F0 m pc ls st0) rest (fg_Ql D g r w' H.size a) (fg_A g H.size)) (kk : ∀ (H1 : Heap) (locs1 : List Loc), fg_H D g s.heap w' H1 locs1 → W p l e R s m args below meth c H1 locs1 cells slots Q (F0 m (pc + 3) ls (.long r :: rest))) : W p l e R s m args below meth c H locs cells slots Q (F0 m pc ls st0) := by
  refine va_calll hr h.2.2 (fun q _ hq => fg_Asub h.2.2 q hq) (fg_Asub h.2.2) (fun r0 u t H1 locs1 ht hvm hw hB hz hk hS1 => ?_)
  obtain ⟨rfl, rfl⟩ := hw
  obtain ⟨hP1, hK1⟩ := hB
  rw [ht] at hP1
  exact kk H1 locs1 ⟨hP1, fg_D h.2.1, hS1⟩
theorem fg_cv {a : Array Value} (h : fg_H D g s.heap w H locs) (hr : va_Run p l e R s m args below meth c H locs cells slots 0 0 (F0 m pc ls st0) rest (fg_Qv D g w' H.size a) (fg_A g H.size)) (kk : ∀ (H1 : Heap) (locs1 : List Loc), fg_H D g s.heap w' H1 locs1 → W p l e R s m args below meth c H1 locs1 cells slots Q (F0 m (pc + 3) ls rest)) : W p l e R s m args below meth c H locs cells slots Q (F0 m pc ls st0) := by
  refine va_callv hr h.2.2 (fun q _ hq => fg_Asub h.2.2 q hq) (fg_Asub h.2.2) (fun u t H1 locs1 ht hvm hw hB hz hk hS1 => ?_)
  subst hw
  obtain ⟨hP1, hK1⟩ := hB
  rw [ht] at hP1
  exact kk H1 locs1 ⟨hP1, fg_D h.2.1, hS1⟩
theorem fg_reti {r v : Int32} (hx : p.tables.exec = Jvm.exec) (hb : c.code = cc) (hr : meth.sig.returnType = some .int) (hlk : meth.locks = false) (hK : fg_KN D g s) (h : fg_H D g s.heap w H locs) (hf : some (v, w) = some (r, w')) (hdg : decode cc pc = .ok (.ireturn, 1)) : W p l e R s m args below meth c H locs 0 0 (MQ below (fg_Qi D g r w' s.heap.size) args s 0 0 (fg_A g s.heap.size)) (F0 m pc ls [.int v]) := by
  cases hf
  exact W.iret hx hb hr (fun t ht hW => ⟨⟨_, _, rfl, ⟨rfl, rfl⟩, by rw [ht]; exact h.1, va_K.moved hW.alike hK.1⟩, h.2.2.F ht⟩) h.2.2.2.2 hdg hlk
theorem fg_retz {r v : Int32} (hx : p.tables.exec = Jvm.exec) (hb : c.code = cc) (hr : meth.sig.returnType = some .boolean) (hlk : meth.locks = false) (hK : fg_KN D g s) (h : fg_H D g s.heap w H locs) (hf : some (v, w) = some (r, w')) (hv : v = 0 ∨ v = 1) (hdg : decode cc pc = .ok (.ireturn, 1)) : W p l e R s m args below meth c H locs 0 0 (MQ below (fg_Qi D g r w' s.heap.size) args s 0 0 (fg_A g s.heap.size)) (F0 m pc ls [.int v]) := by
  cases hf
  exact W.zret hx hb hr (by rcases hv with rfl | rfl <;> rfl) (fun t ht hW => ⟨⟨_, _, rfl, ⟨rfl, rfl⟩, by rw [ht]; exact h.1, va_K.moved hW.alike hK.1⟩, h.2.2.F ht⟩) h.2.2.2.2 hdg hlk
theorem fg_retl {r v : Int64} (hx : p.tables.exec = Jvm.exec) (hb : c.code = cc) (hr : meth.sig.returnType = some .long) (hlk : meth.locks = false) (hK : fg_KN D g s) (h : fg_H D g s.heap w H locs) (hf : some (v, w) = some (r, w')) (hdg : decode cc pc = .ok (.lreturn, 1)) : W p l e R s m args below meth c H locs 0 0 (MQ below (fg_Ql D g r w' s.heap.size) args s 0 0 (fg_A g s.heap.size)) (F0 m pc ls [.long v]) := by
  cases hf
  exact W.lret hx hb hr (fun t ht hW => ⟨⟨_, _, rfl, ⟨rfl, rfl⟩, by rw [ht]; exact h.1, va_K.moved hW.alike hK.1⟩, h.2.2.F ht⟩) h.2.2.2.2 hdg hlk
theorem fg_retv (hx : p.tables.exec = Jvm.exec) (hb : c.code = cc) (hr : meth.sig.returnType = none) (hlk : meth.locks = false) (hK : fg_KN D g s) (h : fg_H D g s.heap w H locs) (hf : some w = some w') (hdg : decode cc pc = .ok (.return_, 1)) : W p l e R s m args below meth c H locs 0 0 (MQ below (fg_Qv D g w' s.heap.size) args s 0 0 (fg_A g s.heap.size)) (F0 m pc ls []) := by
  cases hf
  exact W.vret hx hb hr (fun t ht hW => ⟨⟨_, rfl, rfl, by rw [ht]; exact h.1, va_K.moved hW.alike hK.1⟩, h.2.2.F ht⟩) h.2.2.2.2 hdg hlk
end FGR
end
