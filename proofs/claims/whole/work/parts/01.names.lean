-- ===== PART A: goes FIRST, ahead of the names: the tables' words, and 'selects' of the private methods out of them =====
/-- a private method of a class that the tables say can be made, by its rows of tables_1 -/
def lw_okq (q : MethodName × Nat) : Prop := (q.1.cls ≠ "java/lang/invoke/MethodHandle" ∧ q.1.cls ≠ "java/lang/invoke/VarHandle") ∧ Cond.instantiable q.1.cls q.2 ∈ tables_1 ∧ Cond.privateMethod q.1 ∈ tables_1 ∧ Cond.instanceMethod q.1 ∈ tables_1
theorem lw_p0 : lw_okq (⟨"HosieryPlant", "appendBytes", "(I)V"⟩, 9) := ⟨⟨by decide +kernel, by decide +kernel⟩, List.mem_of_getElem? (i := 21) (by decide +kernel), List.mem_of_getElem? (i := 343) (by decide +kernel), List.mem_of_getElem? (i := 344) (by decide +kernel)⟩
theorem lw_p1 : lw_okq (⟨"HosieryPlant$Parser", "advance", "()V"⟩, 12) := ⟨⟨by decide +kernel, by decide +kernel⟩, List.mem_of_getElem? (i := 29) (by decide +kernel), List.mem_of_getElem? (i := 363) (by decide +kernel), List.mem_of_getElem? (i := 364) (by decide +kernel)⟩
theorem lw_p2 : lw_okq (⟨"HosieryPlant$Parser", "spells", "(Ljava/lang/String;)Z"⟩, 12) := ⟨⟨by decide +kernel, by decide +kernel⟩, List.mem_of_getElem? (i := 29) (by decide +kernel), List.mem_of_getElem? (i := 384) (by decide +kernel), List.mem_of_getElem? (i := 385) (by decide +kernel)⟩
theorem lw_p3 : lw_okq (⟨"HosieryPlant$Parser", "readTolerance", "()V"⟩, 12) := ⟨⟨by decide +kernel, by decide +kernel⟩, List.mem_of_getElem? (i := 29) (by decide +kernel), List.mem_of_getElem? (i := 435) (by decide +kernel), List.mem_of_getElem? (i := 436) (by decide +kernel)⟩
theorem lw_p4 : lw_okq (⟨"HosieryPlant$Parser", "startStatement", "(ZI)V"⟩, 12) := ⟨⟨by decide +kernel, by decide +kernel⟩, List.mem_of_getElem? (i := 29) (by decide +kernel), List.mem_of_getElem? (i := 439) (by decide +kernel), List.mem_of_getElem? (i := 440) (by decide +kernel)⟩
theorem lw_p5 : lw_okq (⟨"HosieryPlant$Parser", "refuse", "(I)V"⟩, 12) := ⟨⟨by decide +kernel, by decide +kernel⟩, List.mem_of_getElem? (i := 29) (by decide +kernel), List.mem_of_getElem? (i := 443) (by decide +kernel), List.mem_of_getElem? (i := 444) (by decide +kernel)⟩
theorem lw_p6 : lw_okq (⟨"HosieryPlant$Parser", "readNumber", "(II)I"⟩, 12) := ⟨⟨by decide +kernel, by decide +kernel⟩, List.mem_of_getElem? (i := 29) (by decide +kernel), List.mem_of_getElem? (i := 447) (by decide +kernel), List.mem_of_getElem? (i := 448) (by decide +kernel)⟩
theorem lw_p7 : lw_okq (⟨"HosieryPlant$Parser", "endStatement", "()V"⟩, 12) := ⟨⟨by decide +kernel, by decide +kernel⟩, List.mem_of_getElem? (i := 29) (by decide +kernel), List.mem_of_getElem? (i := 454) (by decide +kernel), List.mem_of_getElem? (i := 455) (by decide +kernel)⟩
theorem lw_p8 : lw_okq (⟨"HosieryPlant$Parser", "readSteam", "()V"⟩, 12) := ⟨⟨by decide +kernel, by decide +kernel⟩, List.mem_of_getElem? (i := 29) (by decide +kernel), List.mem_of_getElem? (i := 459) (by decide +kernel), List.mem_of_getElem? (i := 460) (by decide +kernel)⟩
theorem lw_p9 : lw_okq (⟨"HosieryPlant$Parser", "readBox", "()V"⟩, 12) := ⟨⟨by decide +kernel, by decide +kernel⟩, List.mem_of_getElem? (i := 29) (by decide +kernel), List.mem_of_getElem? (i := 464) (by decide +kernel), List.mem_of_getElem? (i := 465) (by decide +kernel)⟩
theorem lw_p10 : lw_okq (⟨"HosieryPlant$Parser", "readYarn", "(LHosieryPlant$Catalogue;)V"⟩, 12) := ⟨⟨by decide +kernel, by decide +kernel⟩, List.mem_of_getElem? (i := 29) (by decide +kernel), List.mem_of_getElem? (i := 469) (by decide +kernel), List.mem_of_getElem? (i := 470) (by decide +kernel)⟩
theorem lw_p11 : lw_okq (⟨"HosieryPlant$Parser", "nameHere", "()I"⟩, 12) := ⟨⟨by decide +kernel, by decide +kernel⟩, List.mem_of_getElem? (i := 29) (by decide +kernel), List.mem_of_getElem? (i := 473) (by decide +kernel), List.mem_of_getElem? (i := 474) (by decide +kernel)⟩
theorem lw_p12 : lw_okq (⟨"HosieryPlant$Parser", "isKeyword", "()Z"⟩, 12) := ⟨⟨by decide +kernel, by decide +kernel⟩, List.mem_of_getElem? (i := 29) (by decide +kernel), List.mem_of_getElem? (i := 477) (by decide +kernel), List.mem_of_getElem? (i := 478) (by decide +kernel)⟩
theorem lw_p13 : lw_okq (⟨"HosieryPlant$Parser", "takeNewName", "(I[II)I"⟩, 12) := ⟨⟨by decide +kernel, by decide +kernel⟩, List.mem_of_getElem? (i := 29) (by decide +kernel), List.mem_of_getElem? (i := 493) (by decide +kernel), List.mem_of_getElem? (i := 494) (by decide +kernel)⟩
theorem lw_p14 : lw_okq (⟨"HosieryPlant$Parser", "readShape", "(LHosieryPlant$Catalogue;)V"⟩, 12) := ⟨⟨by decide +kernel, by decide +kernel⟩, List.mem_of_getElem? (i := 29) (by decide +kernel), List.mem_of_getElem? (i := 501) (by decide +kernel), List.mem_of_getElem? (i := 502) (by decide +kernel)⟩
theorem lw_p15 : lw_okq (⟨"HosieryPlant$Parser", "readSize", "(LHosieryPlant$Catalogue;)V"⟩, 12) := ⟨⟨by decide +kernel, by decide +kernel⟩, List.mem_of_getElem? (i := 29) (by decide +kernel), List.mem_of_getElem? (i := 505) (by decide +kernel), List.mem_of_getElem? (i := 506) (by decide +kernel)⟩
def lw_privs_1 : List (MethodName × Nat) := [(⟨"HosieryPlant", "appendBytes", "(I)V"⟩, 9), (⟨"HosieryPlant$Parser", "advance", "()V"⟩, 12), (⟨"HosieryPlant$Parser", "spells", "(Ljava/lang/String;)Z"⟩, 12), (⟨"HosieryPlant$Parser", "readTolerance", "()V"⟩, 12), (⟨"HosieryPlant$Parser", "startStatement", "(ZI)V"⟩, 12), (⟨"HosieryPlant$Parser", "refuse", "(I)V"⟩, 12), (⟨"HosieryPlant$Parser", "readNumber", "(II)I"⟩, 12), (⟨"HosieryPlant$Parser", "endStatement", "()V"⟩, 12), (⟨"HosieryPlant$Parser", "readSteam", "()V"⟩, 12), (⟨"HosieryPlant$Parser", "readBox", "()V"⟩, 12), (⟨"HosieryPlant$Parser", "readYarn", "(LHosieryPlant$Catalogue;)V"⟩, 12), (⟨"HosieryPlant$Parser", "nameHere", "()I"⟩, 12), (⟨"HosieryPlant$Parser", "isKeyword", "()Z"⟩, 12), (⟨"HosieryPlant$Parser", "takeNewName", "(I[II)I"⟩, 12), (⟨"HosieryPlant$Parser", "readShape", "(LHosieryPlant$Catalogue;)V"⟩, 12), (⟨"HosieryPlant$Parser", "readSize", "(LHosieryPlant$Catalogue;)V"⟩, 12)]
theorem lw_r1 : ∀ q ∈ lw_privs_1, lw_okq q := List.forall_mem_cons.mpr ⟨lw_p0, List.forall_mem_cons.mpr ⟨lw_p1, List.forall_mem_cons.mpr ⟨lw_p2, List.forall_mem_cons.mpr ⟨lw_p3, List.forall_mem_cons.mpr ⟨lw_p4, List.forall_mem_cons.mpr ⟨lw_p5, List.forall_mem_cons.mpr ⟨lw_p6, List.forall_mem_cons.mpr ⟨lw_p7, List.forall_mem_cons.mpr ⟨lw_p8, List.forall_mem_cons.mpr ⟨lw_p9, List.forall_mem_cons.mpr ⟨lw_p10, List.forall_mem_cons.mpr ⟨lw_p11, List.forall_mem_cons.mpr ⟨lw_p12, List.forall_mem_cons.mpr ⟨lw_p13, List.forall_mem_cons.mpr ⟨lw_p14, List.forall_mem_cons.mpr ⟨lw_p15, fun _ h => absurd h List.not_mem_nil⟩⟩⟩⟩⟩⟩⟩⟩⟩⟩⟩⟩⟩⟩⟩⟩
theorem lw_p16 : lw_okq (⟨"HosieryPlant$Parser", "readPiece", "(LHosieryPlant$Catalogue;)V"⟩, 12) := ⟨⟨by decide +kernel, by decide +kernel⟩, List.mem_of_getElem? (i := 29) (by decide +kernel), List.mem_of_getElem? (i := 509) (by decide +kernel), List.mem_of_getElem? (i := 510) (by decide +kernel)⟩
theorem lw_p17 : lw_okq (⟨"HosieryPlant$Parser", "takeKnownYarn", "(ILHosieryPlant$Catalogue;)I"⟩, 12) := ⟨⟨by decide +kernel, by decide +kernel⟩, List.mem_of_getElem? (i := 29) (by decide +kernel), List.mem_of_getElem? (i := 513) (by decide +kernel), List.mem_of_getElem? (i := 514) (by decide +kernel)⟩
theorem lw_p18 : lw_okq (⟨"HosieryPlant$Parser", "readKind", "()I"⟩, 12) := ⟨⟨by decide +kernel, by decide +kernel⟩, List.mem_of_getElem? (i := 29) (by decide +kernel), List.mem_of_getElem? (i := 517) (by decide +kernel), List.mem_of_getElem? (i := 518) (by decide +kernel)⟩
theorem lw_p19 : lw_okq (⟨"HosieryPlant$Parser", "readTimes", "()I"⟩, 12) := ⟨⟨by decide +kernel, by decide +kernel⟩, List.mem_of_getElem? (i := 29) (by decide +kernel), List.mem_of_getElem? (i := 521) (by decide +kernel), List.mem_of_getElem? (i := 522) (by decide +kernel)⟩
theorem lw_p20 : lw_okq (⟨"HosieryPlant", "beforeChange", "()V"⟩, 9) := ⟨⟨by decide +kernel, by decide +kernel⟩, List.mem_of_getElem? (i := 21) (by decide +kernel), List.mem_of_getElem? (i := 530) (by decide +kernel), List.mem_of_getElem? (i := 531) (by decide +kernel)⟩
theorem lw_p21 : lw_okq (⟨"HosieryPlant$History", "placeOf", "(I)LHosieryPlant$Plant;"⟩, 3) := ⟨⟨by decide +kernel, by decide +kernel⟩, List.mem_of_getElem? (i := 249) (by decide +kernel), List.mem_of_getElem? (i := 538) (by decide +kernel), List.mem_of_getElem? (i := 539) (by decide +kernel)⟩
theorem lw_p22 : lw_okq (⟨"HosieryPlant", "isPiece", "(I)Z"⟩, 9) := ⟨⟨by decide +kernel, by decide +kernel⟩, List.mem_of_getElem? (i := 21) (by decide +kernel), List.mem_of_getElem? (i := 613) (by decide +kernel), List.mem_of_getElem? (i := 614) (by decide +kernel)⟩
theorem lw_p23 : lw_okq (⟨"HosieryPlant", "setWhere", "([II)I"⟩, 9) := ⟨⟨by decide +kernel, by decide +kernel⟩, List.mem_of_getElem? (i := 21) (by decide +kernel), List.mem_of_getElem? (i := 641) (by decide +kernel), List.mem_of_getElem? (i := 642) (by decide +kernel)⟩
theorem lw_p24 : lw_okq (⟨"HosieryPlant", "isShape", "(I)Z"⟩, 9) := ⟨⟨by decide +kernel, by decide +kernel⟩, List.mem_of_getElem? (i := 21) (by decide +kernel), List.mem_of_getElem? (i := 674) (by decide +kernel), List.mem_of_getElem? (i := 675) (by decide +kernel)⟩
theorem lw_p25 : lw_okq (⟨"HosieryPlant", "isSize", "(I)Z"⟩, 9) := ⟨⟨by decide +kernel, by decide +kernel⟩, List.mem_of_getElem? (i := 21) (by decide +kernel), List.mem_of_getElem? (i := 712) (by decide +kernel), List.mem_of_getElem? (i := 713) (by decide +kernel)⟩
theorem lw_p26 : lw_okq (⟨"HosieryPlant", "findPairs", "()V"⟩, 9) := ⟨⟨by decide +kernel, by decide +kernel⟩, List.mem_of_getElem? (i := 21) (by decide +kernel), List.mem_of_getElem? (i := 779) (by decide +kernel), List.mem_of_getElem? (i := 780) (by decide +kernel)⟩
theorem lw_p27 : lw_okq (⟨"HosieryPlant$Matching", "takeMatches", "(LHosieryPlant$Plant;Z)I"⟩, 4) := ⟨⟨by decide +kernel, by decide +kernel⟩, List.mem_of_getElem? (i := 269) (by decide +kernel), List.mem_of_getElem? (i := 787) (by decide +kernel), List.mem_of_getElem? (i := 788) (by decide +kernel)⟩
theorem lw_p28 : lw_okq (⟨"HosieryPlant$Matching", "lowestPartner", "(II)I"⟩, 4) := ⟨⟨by decide +kernel, by decide +kernel⟩, List.mem_of_getElem? (i := 269) (by decide +kernel), List.mem_of_getElem? (i := 809) (by decide +kernel), List.mem_of_getElem? (i := 810) (by decide +kernel)⟩
theorem lw_p29 : lw_okq (⟨"HosieryPlant$Matching", "recall", "(I)I"⟩, 4) := ⟨⟨by decide +kernel, by decide +kernel⟩, List.mem_of_getElem? (i := 269) (by decide +kernel), List.mem_of_getElem? (i := 816) (by decide +kernel), List.mem_of_getElem? (i := 817) (by decide +kernel)⟩
theorem lw_p30 : lw_okq (⟨"HosieryPlant$Matching", "gapBetween", "(II)I"⟩, 4) := ⟨⟨by decide +kernel, by decide +kernel⟩, List.mem_of_getElem? (i := 269) (by decide +kernel), List.mem_of_getElem? (i := 833) (by decide +kernel), List.mem_of_getElem? (i := 834) (by decide +kernel)⟩
theorem lw_p31 : lw_okq (⟨"HosieryPlant$Matching", "remember", "(II)V"⟩, 4) := ⟨⟨by decide +kernel, by decide +kernel⟩, List.mem_of_getElem? (i := 269) (by decide +kernel), List.mem_of_getElem? (i := 838) (by decide +kernel), List.mem_of_getElem? (i := 839) (by decide +kernel)⟩
def lw_privs_2 : List (MethodName × Nat) := [(⟨"HosieryPlant$Parser", "readPiece", "(LHosieryPlant$Catalogue;)V"⟩, 12), (⟨"HosieryPlant$Parser", "takeKnownYarn", "(ILHosieryPlant$Catalogue;)I"⟩, 12), (⟨"HosieryPlant$Parser", "readKind", "()I"⟩, 12), (⟨"HosieryPlant$Parser", "readTimes", "()I"⟩, 12), (⟨"HosieryPlant", "beforeChange", "()V"⟩, 9), (⟨"HosieryPlant$History", "placeOf", "(I)LHosieryPlant$Plant;"⟩, 3), (⟨"HosieryPlant", "isPiece", "(I)Z"⟩, 9), (⟨"HosieryPlant", "setWhere", "([II)I"⟩, 9), (⟨"HosieryPlant", "isShape", "(I)Z"⟩, 9), (⟨"HosieryPlant", "isSize", "(I)Z"⟩, 9), (⟨"HosieryPlant", "findPairs", "()V"⟩, 9), (⟨"HosieryPlant$Matching", "takeMatches", "(LHosieryPlant$Plant;Z)I"⟩, 4), (⟨"HosieryPlant$Matching", "lowestPartner", "(II)I"⟩, 4), (⟨"HosieryPlant$Matching", "recall", "(I)I"⟩, 4), (⟨"HosieryPlant$Matching", "gapBetween", "(II)I"⟩, 4), (⟨"HosieryPlant$Matching", "remember", "(II)V"⟩, 4)]
theorem lw_r2 : ∀ q ∈ lw_privs_2, lw_okq q := List.forall_mem_cons.mpr ⟨lw_p16, List.forall_mem_cons.mpr ⟨lw_p17, List.forall_mem_cons.mpr ⟨lw_p18, List.forall_mem_cons.mpr ⟨lw_p19, List.forall_mem_cons.mpr ⟨lw_p20, List.forall_mem_cons.mpr ⟨lw_p21, List.forall_mem_cons.mpr ⟨lw_p22, List.forall_mem_cons.mpr ⟨lw_p23, List.forall_mem_cons.mpr ⟨lw_p24, List.forall_mem_cons.mpr ⟨lw_p25, List.forall_mem_cons.mpr ⟨lw_p26, List.forall_mem_cons.mpr ⟨lw_p27, List.forall_mem_cons.mpr ⟨lw_p28, List.forall_mem_cons.mpr ⟨lw_p29, List.forall_mem_cons.mpr ⟨lw_p30, List.forall_mem_cons.mpr ⟨lw_p31, fun _ h => absurd h List.not_mem_nil⟩⟩⟩⟩⟩⟩⟩⟩⟩⟩⟩⟩⟩⟩⟩⟩
theorem lw_p32 : lw_okq (⟨"HosieryPlant", "packableSet", "()I"⟩, 9) := ⟨⟨by decide +kernel, by decide +kernel⟩, List.mem_of_getElem? (i := 21) (by decide +kernel), List.mem_of_getElem? (i := 846) (by decide +kernel), List.mem_of_getElem? (i := 847) (by decide +kernel)⟩
theorem lw_p33 : lw_okq (⟨"HosieryPlant", "isInFullBox", "(I)Z"⟩, 9) := ⟨⟨by decide +kernel, by decide +kernel⟩, List.mem_of_getElem? (i := 21) (by decide +kernel), List.mem_of_getElem? (i := 850) (by decide +kernel), List.mem_of_getElem? (i := 851) (by decide +kernel)⟩
theorem lw_p34 : lw_okq (⟨"HosieryPlant", "sizeOfPair", "(I)I"⟩, 9) := ⟨⟨by decide +kernel, by decide +kernel⟩, List.mem_of_getElem? (i := 21) (by decide +kernel), List.mem_of_getElem? (i := 854) (by decide +kernel), List.mem_of_getElem? (i := 855) (by decide +kernel)⟩
theorem lw_p35 : lw_okq (⟨"HosieryPlant", "isBoxedWith", "(II)Z"⟩, 9) := ⟨⟨by decide +kernel, by decide +kernel⟩, List.mem_of_getElem? (i := 21) (by decide +kernel), List.mem_of_getElem? (i := 859) (by decide +kernel), List.mem_of_getElem? (i := 860) (by decide +kernel)⟩
theorem lw_p36 : lw_okq (⟨"HosieryPlant", "boxesOf", "(I)I"⟩, 9) := ⟨⟨by decide +kernel, by decide +kernel⟩, List.mem_of_getElem? (i := 21) (by decide +kernel), List.mem_of_getElem? (i := 864) (by decide +kernel), List.mem_of_getElem? (i := 865) (by decide +kernel)⟩
theorem lw_p37 : lw_okq (⟨"HosieryPlant", "areTwoPieces", "(II)Z"⟩, 9) := ⟨⟨by decide +kernel, by decide +kernel⟩, List.mem_of_getElem? (i := 21) (by decide +kernel), List.mem_of_getElem? (i := 884) (by decide +kernel), List.mem_of_getElem? (i := 885) (by decide +kernel)⟩
theorem lw_p38 : lw_okq (⟨"HosieryPlant", "pairsIfBoarded", "(II)I"⟩, 9) := ⟨⟨by decide +kernel, by decide +kernel⟩, List.mem_of_getElem? (i := 21) (by decide +kernel), List.mem_of_getElem? (i := 975) (by decide +kernel), List.mem_of_getElem? (i := 976) (by decide +kernel)⟩
theorem lw_p39 : lw_okq (⟨"HosieryPlant", "pairsWithin", "(II)I"⟩, 9) := ⟨⟨by decide +kernel, by decide +kernel⟩, List.mem_of_getElem? (i := 21) (by decide +kernel), List.mem_of_getElem? (i := 991) (by decide +kernel), List.mem_of_getElem? (i := 992) (by decide +kernel)⟩
theorem lw_p40 : lw_okq (⟨"HosieryPlant", "writeCatalogue", "(LHosieryPlant$Catalogue;)V"⟩, 9) := ⟨⟨by decide +kernel, by decide +kernel⟩, List.mem_of_getElem? (i := 21) (by decide +kernel), List.mem_of_getElem? (i := 1163) (by decide +kernel), List.mem_of_getElem? (i := 1164) (by decide +kernel)⟩
theorem lw_p41 : lw_okq (⟨"HosieryPlant", "writeName", "(I)V"⟩, 9) := ⟨⟨by decide +kernel, by decide +kernel⟩, List.mem_of_getElem? (i := 21) (by decide +kernel), List.mem_of_getElem? (i := 1168) (by decide +kernel), List.mem_of_getElem? (i := 1169) (by decide +kernel)⟩
theorem lw_p42 : lw_okq (⟨"HosieryPlantModel", "isPiece", "(I)Z"⟩, 23) := ⟨⟨by decide +kernel, by decide +kernel⟩, List.mem_of_getElem? (i := 1202) (by decide +kernel), List.mem_of_getElem? (i := 1316) (by decide +kernel), List.mem_of_getElem? (i := 1317) (by decide +kernel)⟩
theorem lw_p43 : lw_okq (⟨"HosieryPlantModel", "field", "(II)I"⟩, 23) := ⟨⟨by decide +kernel, by decide +kernel⟩, List.mem_of_getElem? (i := 1202) (by decide +kernel), List.mem_of_getElem? (i := 1323) (by decide +kernel), List.mem_of_getElem? (i := 1324) (by decide +kernel)⟩
theorem lw_p44 : lw_okq (⟨"HosieryPlantModel", "count", "()I"⟩, 23) := ⟨⟨by decide +kernel, by decide +kernel⟩, List.mem_of_getElem? (i := 1202) (by decide +kernel), List.mem_of_getElem? (i := 1355) (by decide +kernel), List.mem_of_getElem? (i := 1356) (by decide +kernel)⟩
theorem lw_p45 : lw_okq (⟨"HosieryPlantModel", "isIn", "(II)Z"⟩, 23) := ⟨⟨by decide +kernel, by decide +kernel⟩, List.mem_of_getElem? (i := 1202) (by decide +kernel), List.mem_of_getElem? (i := 1359) (by decide +kernel), List.mem_of_getElem? (i := 1360) (by decide +kernel)⟩
theorem lw_p46 : lw_okq (⟨"HosieryPlantModel", "limitOf", "(I)I"⟩, 23) := ⟨⟨by decide +kernel, by decide +kernel⟩, List.mem_of_getElem? (i := 1202) (by decide +kernel), List.mem_of_getElem? (i := 1367) (by decide +kernel), List.mem_of_getElem? (i := 1368) (by decide +kernel)⟩
theorem lw_p47 : lw_okq (⟨"HosieryPlantModel", "longestOf", "(I)I"⟩, 23) := ⟨⟨by decide +kernel, by decide +kernel⟩, List.mem_of_getElem? (i := 1202) (by decide +kernel), List.mem_of_getElem? (i := 1376) (by decide +kernel), List.mem_of_getElem? (i := 1377) (by decide +kernel)⟩
def lw_privs_3 : List (MethodName × Nat) := [(⟨"HosieryPlant", "packableSet", "()I"⟩, 9), (⟨"HosieryPlant", "isInFullBox", "(I)Z"⟩, 9), (⟨"HosieryPlant", "sizeOfPair", "(I)I"⟩, 9), (⟨"HosieryPlant", "isBoxedWith", "(II)Z"⟩, 9), (⟨"HosieryPlant", "boxesOf", "(I)I"⟩, 9), (⟨"HosieryPlant", "areTwoPieces", "(II)Z"⟩, 9), (⟨"HosieryPlant", "pairsIfBoarded", "(II)I"⟩, 9), (⟨"HosieryPlant", "pairsWithin", "(II)I"⟩, 9), (⟨"HosieryPlant", "writeCatalogue", "(LHosieryPlant$Catalogue;)V"⟩, 9), (⟨"HosieryPlant", "writeName", "(I)V"⟩, 9), (⟨"HosieryPlantModel", "isPiece", "(I)Z"⟩, 23), (⟨"HosieryPlantModel", "field", "(II)I"⟩, 23), (⟨"HosieryPlantModel", "count", "()I"⟩, 23), (⟨"HosieryPlantModel", "isIn", "(II)Z"⟩, 23), (⟨"HosieryPlantModel", "limitOf", "(I)I"⟩, 23), (⟨"HosieryPlantModel", "longestOf", "(I)I"⟩, 23)]
theorem lw_r3 : ∀ q ∈ lw_privs_3, lw_okq q := List.forall_mem_cons.mpr ⟨lw_p32, List.forall_mem_cons.mpr ⟨lw_p33, List.forall_mem_cons.mpr ⟨lw_p34, List.forall_mem_cons.mpr ⟨lw_p35, List.forall_mem_cons.mpr ⟨lw_p36, List.forall_mem_cons.mpr ⟨lw_p37, List.forall_mem_cons.mpr ⟨lw_p38, List.forall_mem_cons.mpr ⟨lw_p39, List.forall_mem_cons.mpr ⟨lw_p40, List.forall_mem_cons.mpr ⟨lw_p41, List.forall_mem_cons.mpr ⟨lw_p42, List.forall_mem_cons.mpr ⟨lw_p43, List.forall_mem_cons.mpr ⟨lw_p44, List.forall_mem_cons.mpr ⟨lw_p45, List.forall_mem_cons.mpr ⟨lw_p46, List.forall_mem_cons.mpr ⟨lw_p47, fun _ h => absurd h List.not_mem_nil⟩⟩⟩⟩⟩⟩⟩⟩⟩⟩⟩⟩⟩⟩⟩⟩
theorem lw_p48 : lw_okq (⟨"HosieryPlantModel", "isShape", "(I)Z"⟩, 23) := ⟨⟨by decide +kernel, by decide +kernel⟩, List.mem_of_getElem? (i := 1202) (by decide +kernel), List.mem_of_getElem? (i := 1384) (by decide +kernel), List.mem_of_getElem? (i := 1385) (by decide +kernel)⟩
theorem lw_p49 : lw_okq (⟨"HosieryPlantModel", "isDone", "(I)Z"⟩, 23) := ⟨⟨by decide +kernel, by decide +kernel⟩, List.mem_of_getElem? (i := 1202) (by decide +kernel), List.mem_of_getElem? (i := 1388) (by decide +kernel), List.mem_of_getElem? (i := 1389) (by decide +kernel)⟩
theorem lw_p50 : lw_okq (⟨"HosieryPlantModel", "wouldTear", "(II)Z"⟩, 23) := ⟨⟨by decide +kernel, by decide +kernel⟩, List.mem_of_getElem? (i := 1202) (by decide +kernel), List.mem_of_getElem? (i := 1392) (by decide +kernel), List.mem_of_getElem? (i := 1393) (by decide +kernel)⟩
theorem lw_p51 : lw_okq (⟨"HosieryPlantModel", "shapeLength", "(I)I"⟩, 23) := ⟨⟨by decide +kernel, by decide +kernel⟩, List.mem_of_getElem? (i := 1202) (by decide +kernel), List.mem_of_getElem? (i := 1396) (by decide +kernel), List.mem_of_getElem? (i := 1397) (by decide +kernel)⟩
theorem lw_p52 : lw_okq (⟨"HosieryPlantModel", "lengthOn", "(II)I"⟩, 23) := ⟨⟨by decide +kernel, by decide +kernel⟩, List.mem_of_getElem? (i := 1202) (by decide +kernel), List.mem_of_getElem? (i := 1400) (by decide +kernel), List.mem_of_getElem? (i := 1401) (by decide +kernel)⟩
theorem lw_p53 : lw_okq (⟨"HosieryPlantModel", "sizeOfPiece", "(I)I"⟩, 23) := ⟨⟨by decide +kernel, by decide +kernel⟩, List.mem_of_getElem? (i := 1202) (by decide +kernel), List.mem_of_getElem? (i := 1408) (by decide +kernel), List.mem_of_getElem? (i := 1409) (by decide +kernel)⟩
theorem lw_p54 : lw_okq (⟨"HosieryPlantModel", "sizeFor", "(II)I"⟩, 23) := ⟨⟨by decide +kernel, by decide +kernel⟩, List.mem_of_getElem? (i := 1202) (by decide +kernel), List.mem_of_getElem? (i := 1412) (by decide +kernel), List.mem_of_getElem? (i := 1413) (by decide +kernel)⟩
theorem lw_p55 : lw_okq (⟨"HosieryPlantModel", "isBefore", "(II)Z"⟩, 23) := ⟨⟨by decide +kernel, by decide +kernel⟩, List.mem_of_getElem? (i := 1202) (by decide +kernel), List.mem_of_getElem? (i := 1424) (by decide +kernel), List.mem_of_getElem? (i := 1425) (by decide +kernel)⟩
theorem lw_p56 : lw_okq (⟨"HosieryPlantModel", "areTwo", "(II)Z"⟩, 23) := ⟨⟨by decide +kernel, by decide +kernel⟩, List.mem_of_getElem? (i := 1202) (by decide +kernel), List.mem_of_getElem? (i := 1438) (by decide +kernel), List.mem_of_getElem? (i := 1439) (by decide +kernel)⟩
theorem lw_p57 : lw_okq (⟨"HosieryPlantModel", "areMatch", "(II)Z"⟩, 23) := ⟨⟨by decide +kernel, by decide +kernel⟩, List.mem_of_getElem? (i := 1202) (by decide +kernel), List.mem_of_getElem? (i := 1442) (by decide +kernel), List.mem_of_getElem? (i := 1443) (by decide +kernel)⟩
theorem lw_p58 : lw_okq (⟨"HosieryPlantModel", "gapOf", "(II)I"⟩, 23) := ⟨⟨by decide +kernel, by decide +kernel⟩, List.mem_of_getElem? (i := 1202) (by decide +kernel), List.mem_of_getElem? (i := 1451) (by decide +kernel), List.mem_of_getElem? (i := 1452) (by decide +kernel)⟩
theorem lw_p59 : lw_okq (⟨"HosieryPlantModel", "matchesOf", "(I)I"⟩, 23) := ⟨⟨by decide +kernel, by decide +kernel⟩, List.mem_of_getElem? (i := 1202) (by decide +kernel), List.mem_of_getElem? (i := 1459) (by decide +kernel), List.mem_of_getElem? (i := 1460) (by decide +kernel)⟩
theorem lw_p60 : lw_okq (⟨"HosieryPlantModel", "countPairs", "()I"⟩, 23) := ⟨⟨by decide +kernel, by decide +kernel⟩, List.mem_of_getElem? (i := 1202) (by decide +kernel), List.mem_of_getElem? (i := 1471) (by decide +kernel), List.mem_of_getElem? (i := 1472) (by decide +kernel)⟩
theorem lw_p61 : lw_okq (⟨"HosieryPlantModel", "layWorth", "()I"⟩, 23) := ⟨⟨by decide +kernel, by decide +kernel⟩, List.mem_of_getElem? (i := 1202) (by decide +kernel), List.mem_of_getElem? (i := 1475) (by decide +kernel), List.mem_of_getElem? (i := 1476) (by decide +kernel)⟩
theorem lw_p62 : lw_okq (⟨"HosieryPlantModel", "worthWith", "(III)I"⟩, 23) := ⟨⟨by decide +kernel, by decide +kernel⟩, List.mem_of_getElem? (i := 1202) (by decide +kernel), List.mem_of_getElem? (i := 1485) (by decide +kernel), List.mem_of_getElem? (i := 1486) (by decide +kernel)⟩
theorem lw_p63 : lw_okq (⟨"HosieryPlantModel", "layPartners", "()I"⟩, 23) := ⟨⟨by decide +kernel, by decide +kernel⟩, List.mem_of_getElem? (i := 1202) (by decide +kernel), List.mem_of_getElem? (i := 1493) (by decide +kernel), List.mem_of_getElem? (i := 1494) (by decide +kernel)⟩
def lw_privs_4 : List (MethodName × Nat) := [(⟨"HosieryPlantModel", "isShape", "(I)Z"⟩, 23), (⟨"HosieryPlantModel", "isDone", "(I)Z"⟩, 23), (⟨"HosieryPlantModel", "wouldTear", "(II)Z"⟩, 23), (⟨"HosieryPlantModel", "shapeLength", "(I)I"⟩, 23), (⟨"HosieryPlantModel", "lengthOn", "(II)I"⟩, 23), (⟨"HosieryPlantModel", "sizeOfPiece", "(I)I"⟩, 23), (⟨"HosieryPlantModel", "sizeFor", "(II)I"⟩, 23), (⟨"HosieryPlantModel", "isBefore", "(II)Z"⟩, 23), (⟨"HosieryPlantModel", "areTwo", "(II)Z"⟩, 23), (⟨"HosieryPlantModel", "areMatch", "(II)Z"⟩, 23), (⟨"HosieryPlantModel", "gapOf", "(II)I"⟩, 23), (⟨"HosieryPlantModel", "matchesOf", "(I)I"⟩, 23), (⟨"HosieryPlantModel", "countPairs", "()I"⟩, 23), (⟨"HosieryPlantModel", "layWorth", "()I"⟩, 23), (⟨"HosieryPlantModel", "worthWith", "(III)I"⟩, 23), (⟨"HosieryPlantModel", "layPartners", "()I"⟩, 23)]
theorem lw_r4 : ∀ q ∈ lw_privs_4, lw_okq q := List.forall_mem_cons.mpr ⟨lw_p48, List.forall_mem_cons.mpr ⟨lw_p49, List.forall_mem_cons.mpr ⟨lw_p50, List.forall_mem_cons.mpr ⟨lw_p51, List.forall_mem_cons.mpr ⟨lw_p52, List.forall_mem_cons.mpr ⟨lw_p53, List.forall_mem_cons.mpr ⟨lw_p54, List.forall_mem_cons.mpr ⟨lw_p55, List.forall_mem_cons.mpr ⟨lw_p56, List.forall_mem_cons.mpr ⟨lw_p57, List.forall_mem_cons.mpr ⟨lw_p58, List.forall_mem_cons.mpr ⟨lw_p59, List.forall_mem_cons.mpr ⟨lw_p60, List.forall_mem_cons.mpr ⟨lw_p61, List.forall_mem_cons.mpr ⟨lw_p62, List.forall_mem_cons.mpr ⟨lw_p63, fun _ h => absurd h List.not_mem_nil⟩⟩⟩⟩⟩⟩⟩⟩⟩⟩⟩⟩⟩⟩⟩⟩
theorem lw_p64 : lw_okq (⟨"HosieryPlantModel", "pairAt", "(I)I"⟩, 23) := ⟨⟨by decide +kernel, by decide +kernel⟩, List.mem_of_getElem? (i := 1202) (by decide +kernel), List.mem_of_getElem? (i := 1505) (by decide +kernel), List.mem_of_getElem? (i := 1506) (by decide +kernel)⟩
theorem lw_p65 : lw_okq (⟨"HosieryPlantModel", "sizeOfPair", "(I)I"⟩, 23) := ⟨⟨by decide +kernel, by decide +kernel⟩, List.mem_of_getElem? (i := 1202) (by decide +kernel), List.mem_of_getElem? (i := 1513) (by decide +kernel), List.mem_of_getElem? (i := 1514) (by decide +kernel)⟩
theorem lw_p66 : lw_okq (⟨"HosieryPlantModel", "together", "(I)I"⟩, 23) := ⟨⟨by decide +kernel, by decide +kernel⟩, List.mem_of_getElem? (i := 1202) (by decide +kernel), List.mem_of_getElem? (i := 1525) (by decide +kernel), List.mem_of_getElem? (i := 1526) (by decide +kernel)⟩
theorem lw_p67 : lw_okq (⟨"HosieryPlantModel", "packedSet", "()I"⟩, 23) := ⟨⟨by decide +kernel, by decide +kernel⟩, List.mem_of_getElem? (i := 1202) (by decide +kernel), List.mem_of_getElem? (i := 1537) (by decide +kernel), List.mem_of_getElem? (i := 1538) (by decide +kernel)⟩
theorem lw_p68 : lw_okq (⟨"HosieryPlantModel", "isSized", "(I)Z"⟩, 23) := ⟨⟨by decide +kernel, by decide +kernel⟩, List.mem_of_getElem? (i := 1202) (by decide +kernel), List.mem_of_getElem? (i := 1541) (by decide +kernel), List.mem_of_getElem? (i := 1542) (by decide +kernel)⟩
theorem lw_p69 : lw_okq (⟨"HosieryPlantModel", "inGroup", "(IZ)I"⟩, 23) := ⟨⟨by decide +kernel, by decide +kernel⟩, List.mem_of_getElem? (i := 1202) (by decide +kernel), List.mem_of_getElem? (i := 1545) (by decide +kernel), List.mem_of_getElem? (i := 1546) (by decide +kernel)⟩
theorem lw_p70 : lw_okq (⟨"HosieryPlantModel", "groupKey", "(I)I"⟩, 23) := ⟨⟨by decide +kernel, by decide +kernel⟩, List.mem_of_getElem? (i := 1202) (by decide +kernel), List.mem_of_getElem? (i := 1549) (by decide +kernel), List.mem_of_getElem? (i := 1550) (by decide +kernel)⟩
theorem lw_p71 : lw_okq (⟨"HosieryPlantModel", "startPrediction", "()V"⟩, 23) := ⟨⟨by decide +kernel, by decide +kernel⟩, List.mem_of_getElem? (i := 1202) (by decide +kernel), List.mem_of_getElem? (i := 1558) (by decide +kernel), List.mem_of_getElem? (i := 1559) (by decide +kernel)⟩
theorem lw_p72 : lw_okq (⟨"HosieryPlantModel", "pass", "()I"⟩, 23) := ⟨⟨by decide +kernel, by decide +kernel⟩, List.mem_of_getElem? (i := 1202) (by decide +kernel), List.mem_of_getElem? (i := 1562) (by decide +kernel), List.mem_of_getElem? (i := 1563) (by decide +kernel)⟩
theorem lw_p73 : lw_okq (⟨"HosieryPlantModel", "pairsOn", "(II)I"⟩, 23) := ⟨⟨by decide +kernel, by decide +kernel⟩, List.mem_of_getElem? (i := 1202) (by decide +kernel), List.mem_of_getElem? (i := 1574) (by decide +kernel), List.mem_of_getElem? (i := 1575) (by decide +kernel)⟩
theorem lw_p74 : lw_okq (⟨"HosieryPlantModel", "putAll", "(I)I"⟩, 23) := ⟨⟨by decide +kernel, by decide +kernel⟩, List.mem_of_getElem? (i := 1202) (by decide +kernel), List.mem_of_getElem? (i := 1578) (by decide +kernel), List.mem_of_getElem? (i := 1579) (by decide +kernel)⟩
theorem lw_p75 : lw_okq (⟨"HosieryPlantModel", "put", "(II)Z"⟩, 23) := ⟨⟨by decide +kernel, by decide +kernel⟩, List.mem_of_getElem? (i := 1202) (by decide +kernel), List.mem_of_getElem? (i := 1582) (by decide +kernel), List.mem_of_getElem? (i := 1583) (by decide +kernel)⟩
theorem lw_p76 : lw_okq (⟨"HosieryPlantModel", "pairsWithin", "(I)I"⟩, 23) := ⟨⟨by decide +kernel, by decide +kernel⟩, List.mem_of_getElem? (i := 1202) (by decide +kernel), List.mem_of_getElem? (i := 1602) (by decide +kernel), List.mem_of_getElem? (i := 1603) (by decide +kernel)⟩
theorem lw_p77 : lw_okq (⟨"HosieryPlantModel", "pairsDyed", "(II)I"⟩, 23) := ⟨⟨by decide +kernel, by decide +kernel⟩, List.mem_of_getElem? (i := 1202) (by decide +kernel), List.mem_of_getElem? (i := 1611) (by decide +kernel), List.mem_of_getElem? (i := 1612) (by decide +kernel)⟩
theorem lw_p78 : lw_okq (⟨"HosieryPlantModel", "remember", "()V"⟩, 23) := ⟨⟨by decide +kernel, by decide +kernel⟩, List.mem_of_getElem? (i := 1202) (by decide +kernel), List.mem_of_getElem? (i := 1627) (by decide +kernel), List.mem_of_getElem? (i := 1628) (by decide +kernel)⟩
theorem lw_p79 : lw_okq (⟨"HosieryPlantModel", "appendFour", "(I)V"⟩, 23) := ⟨⟨by decide +kernel, by decide +kernel⟩, List.mem_of_getElem? (i := 1202) (by decide +kernel), List.mem_of_getElem? (i := 1662) (by decide +kernel), List.mem_of_getElem? (i := 1663) (by decide +kernel)⟩
def lw_privs_5 : List (MethodName × Nat) := [(⟨"HosieryPlantModel", "pairAt", "(I)I"⟩, 23), (⟨"HosieryPlantModel", "sizeOfPair", "(I)I"⟩, 23), (⟨"HosieryPlantModel", "together", "(I)I"⟩, 23), (⟨"HosieryPlantModel", "packedSet", "()I"⟩, 23), (⟨"HosieryPlantModel", "isSized", "(I)Z"⟩, 23), (⟨"HosieryPlantModel", "inGroup", "(IZ)I"⟩, 23), (⟨"HosieryPlantModel", "groupKey", "(I)I"⟩, 23), (⟨"HosieryPlantModel", "startPrediction", "()V"⟩, 23), (⟨"HosieryPlantModel", "pass", "()I"⟩, 23), (⟨"HosieryPlantModel", "pairsOn", "(II)I"⟩, 23), (⟨"HosieryPlantModel", "putAll", "(I)I"⟩, 23), (⟨"HosieryPlantModel", "put", "(II)Z"⟩, 23), (⟨"HosieryPlantModel", "pairsWithin", "(I)I"⟩, 23), (⟨"HosieryPlantModel", "pairsDyed", "(II)I"⟩, 23), (⟨"HosieryPlantModel", "remember", "()V"⟩, 23), (⟨"HosieryPlantModel", "appendFour", "(I)V"⟩, 23)]
theorem lw_r5 : ∀ q ∈ lw_privs_5, lw_okq q := List.forall_mem_cons.mpr ⟨lw_p64, List.forall_mem_cons.mpr ⟨lw_p65, List.forall_mem_cons.mpr ⟨lw_p66, List.forall_mem_cons.mpr ⟨lw_p67, List.forall_mem_cons.mpr ⟨lw_p68, List.forall_mem_cons.mpr ⟨lw_p69, List.forall_mem_cons.mpr ⟨lw_p70, List.forall_mem_cons.mpr ⟨lw_p71, List.forall_mem_cons.mpr ⟨lw_p72, List.forall_mem_cons.mpr ⟨lw_p73, List.forall_mem_cons.mpr ⟨lw_p74, List.forall_mem_cons.mpr ⟨lw_p75, List.forall_mem_cons.mpr ⟨lw_p76, List.forall_mem_cons.mpr ⟨lw_p77, List.forall_mem_cons.mpr ⟨lw_p78, List.forall_mem_cons.mpr ⟨lw_p79, fun _ h => absurd h List.not_mem_nil⟩⟩⟩⟩⟩⟩⟩⟩⟩⟩⟩⟩⟩⟩⟩⟩
theorem lw_p80 : lw_okq (⟨"HosieryPlantModel", "advance", "()V"⟩, 23) := ⟨⟨by decide +kernel, by decide +kernel⟩, List.mem_of_getElem? (i := 1202) (by decide +kernel), List.mem_of_getElem? (i := 1674) (by decide +kernel), List.mem_of_getElem? (i := 1675) (by decide +kernel)⟩
theorem lw_p81 : lw_okq (⟨"HosieryPlantModel", "byteAt", "(I)I"⟩, 23) := ⟨⟨by decide +kernel, by decide +kernel⟩, List.mem_of_getElem? (i := 1202) (by decide +kernel), List.mem_of_getElem? (i := 1678) (by decide +kernel), List.mem_of_getElem? (i := 1679) (by decide +kernel)⟩
theorem lw_p82 : lw_okq (⟨"HosieryPlantModel", "good", "()Z"⟩, 23) := ⟨⟨by decide +kernel, by decide +kernel⟩, List.mem_of_getElem? (i := 1202) (by decide +kernel), List.mem_of_getElem? (i := 1687) (by decide +kernel), List.mem_of_getElem? (i := 1688) (by decide +kernel)⟩
theorem lw_p83 : lw_okq (⟨"HosieryPlantModel", "parseStatement", "()V"⟩, 23) := ⟨⟨by decide +kernel, by decide +kernel⟩, List.mem_of_getElem? (i := 1202) (by decide +kernel), List.mem_of_getElem? (i := 1691) (by decide +kernel), List.mem_of_getElem? (i := 1692) (by decide +kernel)⟩
theorem lw_p84 : lw_okq (⟨"HosieryPlantModel", "isText", "(Ljava/lang/String;)Z"⟩, 23) := ⟨⟨by decide +kernel, by decide +kernel⟩, List.mem_of_getElem? (i := 1202) (by decide +kernel), List.mem_of_getElem? (i := 1696) (by decide +kernel), List.mem_of_getElem? (i := 1697) (by decide +kernel)⟩
theorem lw_p85 : lw_okq (⟨"HosieryPlantModel", "once", "(I)V"⟩, 23) := ⟨⟨by decide +kernel, by decide +kernel⟩, List.mem_of_getElem? (i := 1202) (by decide +kernel), List.mem_of_getElem? (i := 1702) (by decide +kernel), List.mem_of_getElem? (i := 1703) (by decide +kernel)⟩
theorem lw_p86 : lw_okq (⟨"HosieryPlantModel", "fail", "(I)V"⟩, 23) := ⟨⟨by decide +kernel, by decide +kernel⟩, List.mem_of_getElem? (i := 1202) (by decide +kernel), List.mem_of_getElem? (i := 1706) (by decide +kernel), List.mem_of_getElem? (i := 1707) (by decide +kernel)⟩
theorem lw_p87 : lw_okq (⟨"HosieryPlantModel", "goOn", "()V"⟩, 23) := ⟨⟨by decide +kernel, by decide +kernel⟩, List.mem_of_getElem? (i := 1202) (by decide +kernel), List.mem_of_getElem? (i := 1710) (by decide +kernel), List.mem_of_getElem? (i := 1711) (by decide +kernel)⟩
theorem lw_p88 : lw_okq (⟨"HosieryPlantModel", "number", "(II)I"⟩, 23) := ⟨⟨by decide +kernel, by decide +kernel⟩, List.mem_of_getElem? (i := 1202) (by decide +kernel), List.mem_of_getElem? (i := 1714) (by decide +kernel), List.mem_of_getElem? (i := 1715) (by decide +kernel)⟩
theorem lw_p89 : lw_okq (⟨"HosieryPlantModel", "parseYarn", "()V"⟩, 23) := ⟨⟨by decide +kernel, by decide +kernel⟩, List.mem_of_getElem? (i := 1202) (by decide +kernel), List.mem_of_getElem? (i := 1721) (by decide +kernel), List.mem_of_getElem? (i := 1722) (by decide +kernel)⟩
theorem lw_p90 : lw_okq (⟨"HosieryPlantModel", "enter", "(II)V"⟩, 23) := ⟨⟨by decide +kernel, by decide +kernel⟩, List.mem_of_getElem? (i := 1202) (by decide +kernel), List.mem_of_getElem? (i := 1725) (by decide +kernel), List.mem_of_getElem? (i := 1726) (by decide +kernel)⟩
theorem lw_p91 : lw_okq (⟨"HosieryPlantModel", "newName", "(III)I"⟩, 23) := ⟨⟨by decide +kernel, by decide +kernel⟩, List.mem_of_getElem? (i := 1202) (by decide +kernel), List.mem_of_getElem? (i := 1729) (by decide +kernel), List.mem_of_getElem? (i := 1730) (by decide +kernel)⟩
theorem lw_p92 : lw_okq (⟨"HosieryPlantModel", "nameHere", "()I"⟩, 23) := ⟨⟨by decide +kernel, by decide +kernel⟩, List.mem_of_getElem? (i := 1202) (by decide +kernel), List.mem_of_getElem? (i := 1733) (by decide +kernel), List.mem_of_getElem? (i := 1734) (by decide +kernel)⟩
theorem lw_p93 : lw_okq (⟨"HosieryPlantModel", "isKeyword", "()Z"⟩, 23) := ⟨⟨by decide +kernel, by decide +kernel⟩, List.mem_of_getElem? (i := 1202) (by decide +kernel), List.mem_of_getElem? (i := 1737) (by decide +kernel), List.mem_of_getElem? (i := 1738) (by decide +kernel)⟩
theorem lw_p94 : lw_okq (⟨"HosieryPlantModel", "kindHere", "()I"⟩, 23) := ⟨⟨by decide +kernel, by decide +kernel⟩, List.mem_of_getElem? (i := 1202) (by decide +kernel), List.mem_of_getElem? (i := 1744) (by decide +kernel), List.mem_of_getElem? (i := 1745) (by decide +kernel)⟩
theorem lw_p95 : lw_okq (⟨"HosieryPlantModel", "packed", "()I"⟩, 23) := ⟨⟨by decide +kernel, by decide +kernel⟩, List.mem_of_getElem? (i := 1202) (by decide +kernel), List.mem_of_getElem? (i := 1752) (by decide +kernel), List.mem_of_getElem? (i := 1753) (by decide +kernel)⟩
def lw_privs_6 : List (MethodName × Nat) := [(⟨"HosieryPlantModel", "advance", "()V"⟩, 23), (⟨"HosieryPlantModel", "byteAt", "(I)I"⟩, 23), (⟨"HosieryPlantModel", "good", "()Z"⟩, 23), (⟨"HosieryPlantModel", "parseStatement", "()V"⟩, 23), (⟨"HosieryPlantModel", "isText", "(Ljava/lang/String;)Z"⟩, 23), (⟨"HosieryPlantModel", "once", "(I)V"⟩, 23), (⟨"HosieryPlantModel", "fail", "(I)V"⟩, 23), (⟨"HosieryPlantModel", "goOn", "()V"⟩, 23), (⟨"HosieryPlantModel", "number", "(II)I"⟩, 23), (⟨"HosieryPlantModel", "parseYarn", "()V"⟩, 23), (⟨"HosieryPlantModel", "enter", "(II)V"⟩, 23), (⟨"HosieryPlantModel", "newName", "(III)I"⟩, 23), (⟨"HosieryPlantModel", "nameHere", "()I"⟩, 23), (⟨"HosieryPlantModel", "isKeyword", "()Z"⟩, 23), (⟨"HosieryPlantModel", "kindHere", "()I"⟩, 23), (⟨"HosieryPlantModel", "packed", "()I"⟩, 23)]
theorem lw_r6 : ∀ q ∈ lw_privs_6, lw_okq q := List.forall_mem_cons.mpr ⟨lw_p80, List.forall_mem_cons.mpr ⟨lw_p81, List.forall_mem_cons.mpr ⟨lw_p82, List.forall_mem_cons.mpr ⟨lw_p83, List.forall_mem_cons.mpr ⟨lw_p84, List.forall_mem_cons.mpr ⟨lw_p85, List.forall_mem_cons.mpr ⟨lw_p86, List.forall_mem_cons.mpr ⟨lw_p87, List.forall_mem_cons.mpr ⟨lw_p88, List.forall_mem_cons.mpr ⟨lw_p89, List.forall_mem_cons.mpr ⟨lw_p90, List.forall_mem_cons.mpr ⟨lw_p91, List.forall_mem_cons.mpr ⟨lw_p92, List.forall_mem_cons.mpr ⟨lw_p93, List.forall_mem_cons.mpr ⟨lw_p94, List.forall_mem_cons.mpr ⟨lw_p95, fun _ h => absurd h List.not_mem_nil⟩⟩⟩⟩⟩⟩⟩⟩⟩⟩⟩⟩⟩⟩⟩⟩
theorem lw_p96 : lw_okq (⟨"HosieryPlantModel", "findIn", "(IIII)I"⟩, 23) := ⟨⟨by decide +kernel, by decide +kernel⟩, List.mem_of_getElem? (i := 1202) (by decide +kernel), List.mem_of_getElem? (i := 1756) (by decide +kernel), List.mem_of_getElem? (i := 1757) (by decide +kernel)⟩
theorem lw_p97 : lw_okq (⟨"HosieryPlantModel", "parseShape", "()V"⟩, 23) := ⟨⟨by decide +kernel, by decide +kernel⟩, List.mem_of_getElem? (i := 1202) (by decide +kernel), List.mem_of_getElem? (i := 1760) (by decide +kernel), List.mem_of_getElem? (i := 1761) (by decide +kernel)⟩
theorem lw_p98 : lw_okq (⟨"HosieryPlantModel", "someLength", "(I)I"⟩, 23) := ⟨⟨by decide +kernel, by decide +kernel⟩, List.mem_of_getElem? (i := 1202) (by decide +kernel), List.mem_of_getElem? (i := 1764) (by decide +kernel), List.mem_of_getElem? (i := 1765) (by decide +kernel)⟩
theorem lw_p99 : lw_okq (⟨"HosieryPlantModel", "parseSize", "()V"⟩, 23) := ⟨⟨by decide +kernel, by decide +kernel⟩, List.mem_of_getElem? (i := 1202) (by decide +kernel), List.mem_of_getElem? (i := 1768) (by decide +kernel), List.mem_of_getElem? (i := 1769) (by decide +kernel)⟩
theorem lw_p100 : lw_okq (⟨"HosieryPlantModel", "parsePiece", "()V"⟩, 23) := ⟨⟨by decide +kernel, by decide +kernel⟩, List.mem_of_getElem? (i := 1202) (by decide +kernel), List.mem_of_getElem? (i := 1772) (by decide +kernel), List.mem_of_getElem? (i := 1773) (by decide +kernel)⟩
theorem lw_p101 : lw_okq (⟨"HosieryPlantModel", "times", "()I"⟩, 23) := ⟨⟨by decide +kernel, by decide +kernel⟩, List.mem_of_getElem? (i := 1202) (by decide +kernel), List.mem_of_getElem? (i := 1776) (by decide +kernel), List.mem_of_getElem? (i := 1777) (by decide +kernel)⟩
theorem lw_p102 : lw_okq (⟨"HosieryPlantModel", "add", "(IIII)V"⟩, 23) := ⟨⟨by decide +kernel, by decide +kernel⟩, List.mem_of_getElem? (i := 1202) (by decide +kernel), List.mem_of_getElem? (i := 1781) (by decide +kernel), List.mem_of_getElem? (i := 1782) (by decide +kernel)⟩
theorem lw_p103 : lw_okq (⟨"HosieryPlantModel", "writeText", "(Ljava/lang/String;)V"⟩, 23) := ⟨⟨by decide +kernel, by decide +kernel⟩, List.mem_of_getElem? (i := 1202) (by decide +kernel), List.mem_of_getElem? (i := 1803) (by decide +kernel), List.mem_of_getElem? (i := 1804) (by decide +kernel)⟩
theorem lw_p104 : lw_okq (⟨"HosieryPlantModel", "write", "(I)V"⟩, 23) := ⟨⟨by decide +kernel, by decide +kernel⟩, List.mem_of_getElem? (i := 1202) (by decide +kernel), List.mem_of_getElem? (i := 1807) (by decide +kernel), List.mem_of_getElem? (i := 1808) (by decide +kernel)⟩
theorem lw_p105 : lw_okq (⟨"HosieryPlantModel", "writeNumbers", "(II)V"⟩, 23) := ⟨⟨by decide +kernel, by decide +kernel⟩, List.mem_of_getElem? (i := 1202) (by decide +kernel), List.mem_of_getElem? (i := 1811) (by decide +kernel), List.mem_of_getElem? (i := 1812) (by decide +kernel)⟩
theorem lw_p106 : lw_okq (⟨"HosieryPlantModel", "writeNumber", "(I)V"⟩, 23) := ⟨⟨by decide +kernel, by decide +kernel⟩, List.mem_of_getElem? (i := 1202) (by decide +kernel), List.mem_of_getElem? (i := 1815) (by decide +kernel), List.mem_of_getElem? (i := 1816) (by decide +kernel)⟩
theorem lw_p107 : lw_okq (⟨"HosieryPlantModel", "writeTable", "(Ljava/lang/String;III)V"⟩, 23) := ⟨⟨by decide +kernel, by decide +kernel⟩, List.mem_of_getElem? (i := 1202) (by decide +kernel), List.mem_of_getElem? (i := 1819) (by decide +kernel), List.mem_of_getElem? (i := 1820) (by decide +kernel)⟩
theorem lw_p108 : lw_okq (⟨"HosieryPlantModel", "writeName", "(I)V"⟩, 23) := ⟨⟨by decide +kernel, by decide +kernel⟩, List.mem_of_getElem? (i := 1202) (by decide +kernel), List.mem_of_getElem? (i := 1823) (by decide +kernel), List.mem_of_getElem? (i := 1824) (by decide +kernel)⟩
theorem lw_p109 : lw_okq (⟨"HosieryPlantModel", "writePiece", "(I)V"⟩, 23) := ⟨⟨by decide +kernel, by decide +kernel⟩, List.mem_of_getElem? (i := 1202) (by decide +kernel), List.mem_of_getElem? (i := 1830) (by decide +kernel), List.mem_of_getElem? (i := 1831) (by decide +kernel)⟩
def lw_privs_7 : List (MethodName × Nat) := [(⟨"HosieryPlantModel", "findIn", "(IIII)I"⟩, 23), (⟨"HosieryPlantModel", "parseShape", "()V"⟩, 23), (⟨"HosieryPlantModel", "someLength", "(I)I"⟩, 23), (⟨"HosieryPlantModel", "parseSize", "()V"⟩, 23), (⟨"HosieryPlantModel", "parsePiece", "()V"⟩, 23), (⟨"HosieryPlantModel", "times", "()I"⟩, 23), (⟨"HosieryPlantModel", "add", "(IIII)V"⟩, 23), (⟨"HosieryPlantModel", "writeText", "(Ljava/lang/String;)V"⟩, 23), (⟨"HosieryPlantModel", "write", "(I)V"⟩, 23), (⟨"HosieryPlantModel", "writeNumbers", "(II)V"⟩, 23), (⟨"HosieryPlantModel", "writeNumber", "(I)V"⟩, 23), (⟨"HosieryPlantModel", "writeTable", "(Ljava/lang/String;III)V"⟩, 23), (⟨"HosieryPlantModel", "writeName", "(I)V"⟩, 23), (⟨"HosieryPlantModel", "writePiece", "(I)V"⟩, 23)]
theorem lw_r7 : ∀ q ∈ lw_privs_7, lw_okq q := List.forall_mem_cons.mpr ⟨lw_p96, List.forall_mem_cons.mpr ⟨lw_p97, List.forall_mem_cons.mpr ⟨lw_p98, List.forall_mem_cons.mpr ⟨lw_p99, List.forall_mem_cons.mpr ⟨lw_p100, List.forall_mem_cons.mpr ⟨lw_p101, List.forall_mem_cons.mpr ⟨lw_p102, List.forall_mem_cons.mpr ⟨lw_p103, List.forall_mem_cons.mpr ⟨lw_p104, List.forall_mem_cons.mpr ⟨lw_p105, List.forall_mem_cons.mpr ⟨lw_p106, List.forall_mem_cons.mpr ⟨lw_p107, List.forall_mem_cons.mpr ⟨lw_p108, List.forall_mem_cons.mpr ⟨lw_p109, fun _ h => absurd h List.not_mem_nil⟩⟩⟩⟩⟩⟩⟩⟩⟩⟩⟩⟩⟩⟩
def lw_privs : List (MethodName × Nat) := lw_privs_1 ++ (lw_privs_2 ++ (lw_privs_3 ++ (lw_privs_4 ++ (lw_privs_5 ++ (lw_privs_6 ++ (lw_privs_7))))))
def lw_tbl : List Cond := k2_sels lw_privs ++ tables_1
theorem lw_privs_ok : ∀ q ∈ lw_privs, lw_okq q := by
  show ∀ q ∈ lw_privs_1 ++ (lw_privs_2 ++ (lw_privs_3 ++ (lw_privs_4 ++ (lw_privs_5 ++ (lw_privs_6 ++ (lw_privs_7)))))), lw_okq q
  exact List.forall_mem_append.mpr ⟨lw_r1, List.forall_mem_append.mpr ⟨lw_r2, List.forall_mem_append.mpr ⟨lw_r3, List.forall_mem_append.mpr ⟨lw_r4, List.forall_mem_append.mpr ⟨lw_r5, List.forall_mem_append.mpr ⟨lw_r6, lw_r7⟩⟩⟩⟩⟩⟩
-- ===== end of PART A; then your names; then what follows =====
/-! ===== BEGIN printed: names, fields, word lists, decode rows ===== -/
def RX0 : String := "HosieryPlant$Catalogue"
def TX0 : u_T := fun k => match k with
  | 0 => ("HosieryPlant$Catalogue", "yarns", "I", false)
  | 1 => ("HosieryPlant$Catalogue", "shapes", "I", false)
  | 2 => ("HosieryPlant$Catalogue", "sizes", "I", false)
  | 3 => ("HosieryPlant$Catalogue", "yarnNames", "[I", true)
  | 4 => ("HosieryPlant$Catalogue", "stretches", "[I", true)
  | 5 => ("HosieryPlant$Catalogue", "recoveries", "[I", true)
  | 6 => ("HosieryPlant$Catalogue", "shapeNames", "[I", true)
  | 7 => ("HosieryPlant$Catalogue", "shapeLengths", "[I", true)
  | 8 => ("HosieryPlant$Catalogue", "sizeNames", "[I", true)
  | 9 => ("HosieryPlant$Catalogue", "sizeLeasts", "[I", true)
  | _ => ("HosieryPlant$Catalogue", "sizeGreatests", "[I", true)
def tyX0 : Nat → FieldType := fun k => match k with
  | 0 => .int
  | 1 => .int
  | 2 => .int
  | 3 => .array .int
  | 4 => .array .int
  | 5 => .array .int
  | 6 => .array .int
  | 7 => .array .int
  | 8 => .array .int
  | 9 => .array .int
  | _ => .array .int
abbrev wsX00 : List Cond := u_ws RX0 TX0 11
theorem nmX0 : ∀ a, a < 11 → ∀ b, b < 11 → a ≠ b → (TX0 a).2.1 ≠ (TX0 b).2.1 := by decide +kernel
theorem tyX0_ok : ∀ k, k < 11 → parseFieldDescriptor (TX0 k).2.2.1 = some (tyX0 k) := by decide +kernel
abbrev cX0_init : ByteArray := prog_2_method_1_code
def yX0_init : MethodName := ⟨RX0, "<init>", "()V"⟩
abbrev cX0_takeAll : ByteArray := prog_2_method_2_code
def yX0_takeAll : MethodName := ⟨RX0, "takeAll", "(LHosieryPlant$Catalogue;)V"⟩
abbrev cX0_sizeHolding : ByteArray := prog_2_method_3_code
def yX0_sizeHolding : MethodName := ⟨RX0, "sizeHolding", "(II)I"⟩
def RX1 : String := "HosieryPlant$History"
def TX1 : u_T := fun k => match k with
  | 0 => ("HosieryPlant$History", "count", "I", false)
  | 1 => ("HosieryPlant$History", "oldest", "I", false)
  | _ => ("HosieryPlant$History", "kept", "[LHosieryPlant$Plant;", true)
def tyX1 : Nat → FieldType := fun k => match k with
  | 0 => .int
  | 1 => .int
  | _ => .array (.object "HosieryPlant$Plant")
abbrev wsX10 : List Cond := u_ws RX1 TX1 3
theorem nmX1 : ∀ a, a < 3 → ∀ b, b < 3 → a ≠ b → (TX1 a).2.1 ≠ (TX1 b).2.1 := by decide +kernel
theorem tyX1_ok : ∀ k, k < 3 → parseFieldDescriptor (TX1 k).2.2.1 = some (tyX1 k) := by decide +kernel
abbrev cX1_init : ByteArray := prog_3_method_1_code
def yX1_init : MethodName := ⟨RX1, "<init>", "()V"⟩
abbrev cX1_keep : ByteArray := prog_3_method_2_code
def yX1_keep : MethodName := ⟨RX1, "keep", "(LHosieryPlant$Plant;)V"⟩
abbrev cX1_takeBack : ByteArray := prog_3_method_3_code
def yX1_takeBack : MethodName := ⟨RX1, "takeBack", "(LHosieryPlant$Plant;)V"⟩
abbrev cX1_placeOf : ByteArray := prog_3_method_4_code
def yX1_placeOf : MethodName := ⟨RX1, "placeOf", "(I)LHosieryPlant$Plant;"⟩
def RX2 : String := "HosieryPlant$Matching"
def TX2 : u_T := fun k => match k with
  | 0 => ("HosieryPlant$Matching", "friends", "[I", true)
  | 1 => ("HosieryPlant$Matching", "gaps", "[I", true)
  | 2 => ("HosieryPlant$Matching", "kept", "[J", true)
  | _ => ("HosieryPlant$Matching", "round", "J", false)
def tyX2 : Nat → FieldType := fun k => match k with
  | 0 => .array .int
  | 1 => .array .int
  | 2 => .array .long
  | _ => .long
abbrev wsX20 : List Cond := u_ws RX2 TX2 4
theorem nmX2 : ∀ a, a < 4 → ∀ b, b < 4 → a ≠ b → (TX2 a).2.1 ≠ (TX2 b).2.1 := by decide +kernel
theorem tyX2_ok : ∀ k, k < 4 → parseFieldDescriptor (TX2 k).2.2.1 = some (tyX2 k) := by decide +kernel
abbrev cX2_init : ByteArray := prog_4_method_1_code
def yX2_init : MethodName := ⟨RX2, "<init>", "()V"⟩
abbrev cX2_mostPairs : ByteArray := prog_4_method_2_code
def yX2_mostPairs : MethodName := ⟨RX2, "mostPairs", "(LHosieryPlant$Plant;)I"⟩
abbrev cX2_pairUp : ByteArray := prog_4_method_3_code
def yX2_pairUp : MethodName := ⟨RX2, "pairUp", "(LHosieryPlant$Plant;LHosieryPlant$Pairing;)V"⟩
abbrev cX2_takeMatches : ByteArray := prog_4_method_4_code
def yX2_takeMatches : MethodName := ⟨RX2, "takeMatches", "(LHosieryPlant$Plant;Z)I"⟩
abbrev cX2_gapBetween : ByteArray := prog_4_method_5_code
def yX2_gapBetween : MethodName := ⟨RX2, "gapBetween", "(II)I"⟩
abbrev cX2_lowestPartner : ByteArray := prog_4_method_6_code
def yX2_lowestPartner : MethodName := ⟨RX2, "lowestPartner", "(II)I"⟩
abbrev cX2_worthOf : ByteArray := prog_4_method_7_code
def yX2_worthOf : MethodName := ⟨RX2, "worthOf", "(LHosieryPlant$Matching;II)I"⟩
abbrev cX2_recall : ByteArray := prog_4_method_8_code
def yX2_recall : MethodName := ⟨RX2, "recall", "(I)I"⟩
abbrev cX2_remember : ByteArray := prog_4_method_9_code
def yX2_remember : MethodName := ⟨RX2, "remember", "(II)V"⟩
def RX3 : String := "HosieryPlant$Pairing"
def TX3 : u_T := fun k => match k with
  | 0 => ("HosieryPlant$Pairing", "known", "Z", false)
  | 1 => ("HosieryPlant$Pairing", "pairs", "I", false)
  | 2 => ("HosieryPlant$Pairing", "gapSum", "I", false)
  | _ => ("HosieryPlant$Pairing", "partners", "[I", true)
def tyX3 : Nat → FieldType := fun k => match k with
  | 0 => .boolean
  | 1 => .int
  | 2 => .int
  | _ => .array .int
abbrev wsX30 : List Cond := u_ws RX3 TX3 4
theorem nmX3 : ∀ a, a < 4 → ∀ b, b < 4 → a ≠ b → (TX3 a).2.1 ≠ (TX3 b).2.1 := by decide +kernel
theorem tyX3_ok : ∀ k, k < 4 → parseFieldDescriptor (TX3 k).2.2.1 = some (tyX3 k) := by decide +kernel
abbrev cX3_init : ByteArray := prog_5_method_1_code
def yX3_init : MethodName := ⟨RX3, "<init>", "()V"⟩
abbrev cX3_dissolve : ByteArray := prog_5_method_2_code
def yX3_dissolve : MethodName := ⟨RX3, "dissolve", "()V"⟩
abbrev cX3_join : ByteArray := prog_5_method_3_code
def yX3_join : MethodName := ⟨RX3, "join", "(III)V"⟩
abbrev cX3_lowerOf : ByteArray := prog_5_method_4_code
def yX3_lowerOf : MethodName := ⟨RX3, "lowerOf", "(I)I"⟩
def RX4 : String := "HosieryPlant$Parser"
def TX4 : u_T := fun k => match k with
  | 0 => ("HosieryPlant$Parser", "draft", "LHosieryPlant$Plant;", true)
  | 1 => ("HosieryPlant$Parser", "code", "I", false)
  | 2 => ("HosieryPlant$Parser", "position", "I", false)
  | 3 => ("HosieryPlant$Parser", "text", "[I", true)
  | 4 => ("HosieryPlant$Parser", "textLength", "I", false)
  | 5 => ("HosieryPlant$Parser", "token", "I", false)
  | 6 => ("HosieryPlant$Parser", "start", "I", false)
  | 7 => ("HosieryPlant$Parser", "next", "I", false)
  | 8 => ("HosieryPlant$Parser", "value", "I", false)
  | 9 => ("HosieryPlant$Parser", "toleranceSeen", "Z", false)
  | 10 => ("HosieryPlant$Parser", "steamSeen", "Z", false)
  | _ => ("HosieryPlant$Parser", "boxSeen", "Z", false)
def tyX4 : Nat → FieldType := fun k => match k with
  | 0 => .object "HosieryPlant$Plant"
  | 1 => .int
  | 2 => .int
  | 3 => .array .int
  | 4 => .int
  | 5 => .int
  | 6 => .int
  | 7 => .int
  | 8 => .int
  | 9 => .boolean
  | 10 => .boolean
  | _ => .boolean
abbrev wsX40 : List Cond := u_ws RX4 TX4 12
theorem nmX4 : ∀ a, a < 12 → ∀ b, b < 12 → a ≠ b → (TX4 a).2.1 ≠ (TX4 b).2.1 := by decide +kernel
theorem tyX4_ok : ∀ k, k < 12 → parseFieldDescriptor (TX4 k).2.2.1 = some (tyX4 k) := by decide +kernel
abbrev cX4_init : ByteArray := prog_6_method_1_code
def yX4_init : MethodName := ⟨RX4, "<init>", "()V"⟩
abbrev cX4_read : ByteArray := prog_6_method_2_code
def yX4_read : MethodName := ⟨RX4, "read", "(I)Z"⟩
abbrev cX4_readTolerance : ByteArray := prog_6_method_3_code
def yX4_readTolerance : MethodName := ⟨RX4, "readTolerance", "()V"⟩
abbrev cX4_readSteam : ByteArray := prog_6_method_4_code
def yX4_readSteam : MethodName := ⟨RX4, "readSteam", "()V"⟩
abbrev cX4_readBox : ByteArray := prog_6_method_5_code
def yX4_readBox : MethodName := ⟨RX4, "readBox", "()V"⟩
abbrev cX4_readYarn : ByteArray := prog_6_method_6_code
def yX4_readYarn : MethodName := ⟨RX4, "readYarn", "(LHosieryPlant$Catalogue;)V"⟩
abbrev cX4_readShape : ByteArray := prog_6_method_7_code
def yX4_readShape : MethodName := ⟨RX4, "readShape", "(LHosieryPlant$Catalogue;)V"⟩
abbrev cX4_readSize : ByteArray := prog_6_method_8_code
def yX4_readSize : MethodName := ⟨RX4, "readSize", "(LHosieryPlant$Catalogue;)V"⟩
abbrev cX4_readPiece : ByteArray := prog_6_method_9_code
def yX4_readPiece : MethodName := ⟨RX4, "readPiece", "(LHosieryPlant$Catalogue;)V"⟩
abbrev cX4_readTimes : ByteArray := prog_6_method_10_code
def yX4_readTimes : MethodName := ⟨RX4, "readTimes", "()I"⟩
abbrev cX4_startStatement : ByteArray := prog_6_method_11_code
def yX4_startStatement : MethodName := ⟨RX4, "startStatement", "(ZI)V"⟩
abbrev cX4_endStatement : ByteArray := prog_6_method_12_code
def yX4_endStatement : MethodName := ⟨RX4, "endStatement", "()V"⟩
abbrev cX4_readNumber : ByteArray := prog_6_method_13_code
def yX4_readNumber : MethodName := ⟨RX4, "readNumber", "(II)I"⟩
abbrev cX4_takeNewName : ByteArray := prog_6_method_14_code
def yX4_takeNewName : MethodName := ⟨RX4, "takeNewName", "(I[II)I"⟩
abbrev cX4_takeKnownYarn : ByteArray := prog_6_method_15_code
def yX4_takeKnownYarn : MethodName := ⟨RX4, "takeKnownYarn", "(ILHosieryPlant$Catalogue;)I"⟩
abbrev cX4_nameHere : ByteArray := prog_6_method_16_code
def yX4_nameHere : MethodName := ⟨RX4, "nameHere", "()I"⟩
abbrev cX4_readKind : ByteArray := prog_6_method_17_code
def yX4_readKind : MethodName := ⟨RX4, "readKind", "()I"⟩
abbrev cX4_isKeyword : ByteArray := prog_6_method_18_code
def yX4_isKeyword : MethodName := ⟨RX4, "isKeyword", "()Z"⟩
abbrev cX4_spells : ByteArray := prog_6_method_19_code
def yX4_spells : MethodName := ⟨RX4, "spells", "(Ljava/lang/String;)Z"⟩
abbrev cX4_refuse : ByteArray := prog_6_method_20_code
def yX4_refuse : MethodName := ⟨RX4, "refuse", "(I)V"⟩
abbrev cX4_advance : ByteArray := prog_6_method_21_code
def yX4_advance : MethodName := ⟨RX4, "advance", "()V"⟩
abbrev cX4_isBlank : ByteArray := prog_6_method_22_code
def yX4_isBlank : MethodName := ⟨RX4, "isBlank", "(I)Z"⟩
abbrev cX4_isDigit : ByteArray := prog_6_method_23_code
def yX4_isDigit : MethodName := ⟨RX4, "isDigit", "(I)Z"⟩
def RX5 : String := "HosieryPlant$Plant"
def TX5 : u_T := fun k => match k with
  | 0 => ("HosieryPlant$Plant", "catalogue", "LHosieryPlant$Catalogue;", true)
  | 1 => ("HosieryPlant$Plant", "lengthTolerance", "I", false)
  | 2 => ("HosieryPlant$Plant", "shadeTolerance", "I", false)
  | 3 => ("HosieryPlant$Plant", "strength", "I", false)
  | 4 => ("HosieryPlant$Plant", "box", "I", false)
  | 5 => ("HosieryPlant$Plant", "days", "I", false)
  | 6 => ("HosieryPlant$Plant", "pieces", "I", false)
  | 7 => ("HosieryPlant$Plant", "yarns", "[I", true)
  | 8 => ("HosieryPlant$Plant", "kinds", "[I", true)
  | 9 => ("HosieryPlant$Plant", "knitted", "[I", true)
  | 10 => ("HosieryPlant$Plant", "lengths", "[I", true)
  | 11 => ("HosieryPlant$Plant", "shades", "[I", true)
  | _ => ("HosieryPlant$Plant", "states", "[I", true)
def tyX5 : Nat → FieldType := fun k => match k with
  | 0 => .object "HosieryPlant$Catalogue"
  | 1 => .int
  | 2 => .int
  | 3 => .int
  | 4 => .int
  | 5 => .int
  | 6 => .int
  | 7 => .array .int
  | 8 => .array .int
  | 9 => .array .int
  | 10 => .array .int
  | 11 => .array .int
  | _ => .array .int
abbrev wsX50 : List Cond := u_ws RX5 TX5 13
theorem nmX5 : ∀ a, a < 13 → ∀ b, b < 13 → a ≠ b → (TX5 a).2.1 ≠ (TX5 b).2.1 := by decide +kernel
theorem tyX5_ok : ∀ k, k < 13 → parseFieldDescriptor (TX5 k).2.2.1 = some (tyX5 k) := by decide +kernel
abbrev cX5_init : ByteArray := prog_7_method_1_code
def yX5_init : MethodName := ⟨RX5, "<init>", "()V"⟩
abbrev cX5_makeEmpty : ByteArray := prog_7_method_2_code
def yX5_makeEmpty : MethodName := ⟨RX5, "makeEmpty", "()V"⟩
abbrev cX5_copyFrom : ByteArray := prog_7_method_3_code
def yX5_copyFrom : MethodName := ⟨RX5, "copyFrom", "(LHosieryPlant$Plant;)V"⟩
abbrev cX5_addPiece : ByteArray := prog_7_method_4_code
def yX5_addPiece : MethodName := ⟨RX5, "addPiece", "(IIII)V"⟩
abbrev cX5_isBoarded : ByteArray := prog_7_method_5_code
def yX5_isBoarded : MethodName := ⟨RX5, "isBoarded", "(I)Z"⟩
abbrev cX5_canBeBoarded : ByteArray := prog_7_method_6_code
def yX5_canBeBoarded : MethodName := ⟨RX5, "canBeBoarded", "(I)Z"⟩
abbrev cX5_stretchOf : ByteArray := prog_7_method_7_code
def yX5_stretchOf : MethodName := ⟨RX5, "stretchOf", "(I)I"⟩
abbrev cX5_reachOf : ByteArray := prog_7_method_8_code
def yX5_reachOf : MethodName := ⟨RX5, "reachOf", "(I)I"⟩
abbrev cX5_lengthOn : ByteArray := prog_7_method_9_code
def yX5_lengthOn : MethodName := ⟨RX5, "lengthOn", "(II)I"⟩
abbrev cX5_boardOn : ByteArray := prog_7_method_10_code
def yX5_boardOn : MethodName := ⟨RX5, "boardOn", "(II)Z"⟩
abbrev cX5_boardRaw : ByteArray := prog_7_method_11_code
def yX5_boardRaw : MethodName := ⟨RX5, "boardRaw", "(I)I"⟩
abbrev cX5_passDay : ByteArray := prog_7_method_12_code
def yX5_passDay : MethodName := ⟨RX5, "passDay", "()I"⟩
abbrev cX5_sizeOfPiece : ByteArray := prog_7_method_13_code
def yX5_sizeOfPiece : MethodName := ⟨RX5, "sizeOfPiece", "(I)I"⟩
abbrev cX5_rankOf : ByteArray := prog_7_method_14_code
def yX5_rankOf : MethodName := ⟨RX5, "rankOf", "(I)I"⟩
abbrev cX5_fits : ByteArray := prog_7_method_15_code
def yX5_fits : MethodName := ⟨RX5, "fits", "(II)Z"⟩
abbrev cX5_gapOf : ByteArray := prog_7_method_16_code
def yX5_gapOf : MethodName := ⟨RX5, "gapOf", "(II)I"⟩
abbrev cX5_matchSet : ByteArray := prog_7_method_17_code
def yX5_matchSet : MethodName := ⟨RX5, "matchSet", "(I)I"⟩
abbrev cX5_groupSet : ByteArray := prog_7_method_18_code
def yX5_groupSet : MethodName := ⟨RX5, "groupSet", "(I)I"⟩
def RX6 : String := "HosieryPlant"
def TX6 : u_T := fun k => match k with
  | 0 => ("HosieryPlant", "input", "[I", true)
  | 1 => ("HosieryPlant", "inputLength", "I", false)
  | 2 => ("HosieryPlant", "output", "Ljava/lang/StringBuilder;", true)
  | 3 => ("HosieryPlant", "parser", "LHosieryPlant$Parser;", true)
  | 4 => ("HosieryPlant", "plant", "LHosieryPlant$Plant;", true)
  | 5 => ("HosieryPlant", "trial", "LHosieryPlant$Plant;", true)
  | 6 => ("HosieryPlant", "history", "LHosieryPlant$History;", true)
  | 7 => ("HosieryPlant", "matching", "LHosieryPlant$Matching;", true)
  | _ => ("HosieryPlant", "pairing", "LHosieryPlant$Pairing;", true)
def tyX6 : Nat → FieldType := fun k => match k with
  | 0 => .array .int
  | 1 => .int
  | 2 => .object "java/lang/StringBuilder"
  | 3 => .object "HosieryPlant$Parser"
  | 4 => .object "HosieryPlant$Plant"
  | 5 => .object "HosieryPlant$Plant"
  | 6 => .object "HosieryPlant$History"
  | 7 => .object "HosieryPlant$Matching"
  | _ => .object "HosieryPlant$Pairing"
abbrev wsX60 : List Cond := u_ws RX6 TX6 9
theorem nmX6 : ∀ a, a < 9 → ∀ b, b < 9 → a ≠ b → (TX6 a).2.1 ≠ (TX6 b).2.1 := by decide +kernel
theorem tyX6_ok : ∀ k, k < 9 → parseFieldDescriptor (TX6 k).2.2.1 = some (tyX6 k) := by decide +kernel
abbrev cX6_init : ByteArray := prog_1_method_1_code
def yX6_init : MethodName := ⟨RX6, "<init>", "()V"⟩
abbrev cX6_append : ByteArray := prog_1_method_2_code
def yX6_append : MethodName := ⟨RX6, "append", "(IIIII)I"⟩
abbrev cX6_truncate : ByteArray := prog_1_method_3_code
def yX6_truncate : MethodName := ⟨RX6, "truncate", "(I)I"⟩
abbrev cX6_load : ByteArray := prog_1_method_4_code
def yX6_load : MethodName := ⟨RX6, "load", "()I"⟩
abbrev cX6_errorCode : ByteArray := prog_1_method_5_code
def yX6_errorCode : MethodName := ⟨RX6, "errorCode", "()I"⟩
abbrev cX6_errorPosition : ByteArray := prog_1_method_6_code
def yX6_errorPosition : MethodName := ⟨RX6, "errorPosition", "()I"⟩
abbrev cX6_find : ByteArray := prog_1_method_7_code
def yX6_find : MethodName := ⟨RX6, "find", "(I)I"⟩
abbrev cX6_yarnCount : ByteArray := prog_1_method_8_code
def yX6_yarnCount : MethodName := ⟨RX6, "yarnCount", "()I"⟩
abbrev cX6_shapeCount : ByteArray := prog_1_method_9_code
def yX6_shapeCount : MethodName := ⟨RX6, "shapeCount", "()I"⟩
abbrev cX6_sizeCount : ByteArray := prog_1_method_10_code
def yX6_sizeCount : MethodName := ⟨RX6, "sizeCount", "()I"⟩
abbrev cX6_pieceCount : ByteArray := prog_1_method_11_code
def yX6_pieceCount : MethodName := ⟨RX6, "pieceCount", "()I"⟩
abbrev cX6_days : ByteArray := prog_1_method_12_code
def yX6_days : MethodName := ⟨RX6, "days", "()I"⟩
abbrev cX6_undoCount : ByteArray := prog_1_method_13_code
def yX6_undoCount : MethodName := ⟨RX6, "undoCount", "()I"⟩
abbrev cX6_lengthTolerance : ByteArray := prog_1_method_14_code
def yX6_lengthTolerance : MethodName := ⟨RX6, "lengthTolerance", "()I"⟩
abbrev cX6_shadeTolerance : ByteArray := prog_1_method_15_code
def yX6_shadeTolerance : MethodName := ⟨RX6, "shadeTolerance", "()I"⟩
abbrev cX6_steam : ByteArray := prog_1_method_16_code
def yX6_steam : MethodName := ⟨RX6, "steam", "()I"⟩
abbrev cX6_length : ByteArray := prog_1_method_17_code
def yX6_length : MethodName := ⟨RX6, "length", "(I)I"⟩
abbrev cX6_knitted : ByteArray := prog_1_method_18_code
def yX6_knitted : MethodName := ⟨RX6, "knitted", "(I)I"⟩
abbrev cX6_shade : ByteArray := prog_1_method_19_code
def yX6_shade : MethodName := ⟨RX6, "shade", "(I)I"⟩
abbrev cX6_yarnOf : ByteArray := prog_1_method_20_code
def yX6_yarnOf : MethodName := ⟨RX6, "yarnOf", "(I)I"⟩
abbrev cX6_kindOf : ByteArray := prog_1_method_21_code
def yX6_kindOf : MethodName := ⟨RX6, "kindOf", "(I)I"⟩
abbrev cX6_state : ByteArray := prog_1_method_22_code
def yX6_state : MethodName := ⟨RX6, "state", "(I)I"⟩
abbrev cX6_inState : ByteArray := prog_1_method_23_code
def yX6_inState : MethodName := ⟨RX6, "inState", "(I)I"⟩
abbrev cX6_ofYarn : ByteArray := prog_1_method_24_code
def yX6_ofYarn : MethodName := ⟨RX6, "ofYarn", "(I)I"⟩
abbrev cX6_stretchLimit : ByteArray := prog_1_method_25_code
def yX6_stretchLimit : MethodName := ⟨RX6, "stretchLimit", "(I)I"⟩
abbrev cX6_longestShape : ByteArray := prog_1_method_26_code
def yX6_longestShape : MethodName := ⟨RX6, "longestShape", "(I)I"⟩
abbrev cX6_ifBoarded : ByteArray := prog_1_method_27_code
def yX6_ifBoarded : MethodName := ⟨RX6, "ifBoarded", "(II)I"⟩
abbrev cX6_shapeFor : ByteArray := prog_1_method_28_code
def yX6_shapeFor : MethodName := ⟨RX6, "shapeFor", "(II)I"⟩
abbrev cX6_sizeOf : ByteArray := prog_1_method_29_code
def yX6_sizeOf : MethodName := ⟨RX6, "sizeOf", "(I)I"⟩
abbrev cX6_ofSize : ByteArray := prog_1_method_30_code
def yX6_ofSize : MethodName := ⟨RX6, "ofSize", "(I)I"⟩
abbrev cX6_sorted : ByteArray := prog_1_method_31_code
def yX6_sorted : MethodName := ⟨RX6, "sorted", "(I)I"⟩
abbrev cX6_lengthRange : ByteArray := prog_1_method_32_code
def yX6_lengthRange : MethodName := ⟨RX6, "lengthRange", "()I"⟩
abbrev cX6_board : ByteArray := prog_1_method_33_code
def yX6_board : MethodName := ⟨RX6, "board", "(II)I"⟩
abbrev cX6_boardAll : ByteArray := prog_1_method_34_code
def yX6_boardAll : MethodName := ⟨RX6, "boardAll", "(I)I"⟩
abbrev cX6_day : ByteArray := prog_1_method_35_code
def yX6_day : MethodName := ⟨RX6, "day", "()I"⟩
abbrev cX6_dye : ByteArray := prog_1_method_36_code
def yX6_dye : MethodName := ⟨RX6, "dye", "(II)I"⟩
abbrev cX6_setTolerance : ByteArray := prog_1_method_37_code
def yX6_setTolerance : MethodName := ⟨RX6, "setTolerance", "(II)I"⟩
abbrev cX6_setSteam : ByteArray := prog_1_method_38_code
def yX6_setSteam : MethodName := ⟨RX6, "setSteam", "(I)I"⟩
abbrev cX6_pack : ByteArray := prog_1_method_39_code
def yX6_pack : MethodName := ⟨RX6, "pack", "()I"⟩
abbrev cX6_boxCount : ByteArray := prog_1_method_40_code
def yX6_boxCount : MethodName := ⟨RX6, "boxCount", "()I"⟩
abbrev cX6_undo : ByteArray := prog_1_method_41_code
def yX6_undo : MethodName := ⟨RX6, "undo", "()I"⟩
abbrev cX6_isMatch : ByteArray := prog_1_method_42_code
def yX6_isMatch : MethodName := ⟨RX6, "isMatch", "(II)I"⟩
abbrev cX6_gap : ByteArray := prog_1_method_43_code
def yX6_gap : MethodName := ⟨RX6, "gap", "(II)I"⟩
abbrev cX6_matches : ByteArray := prog_1_method_44_code
def yX6_matches : MethodName := ⟨RX6, "matches", "(I)I"⟩
abbrev cX6_nearest : ByteArray := prog_1_method_45_code
def yX6_nearest : MethodName := ⟨RX6, "nearest", "(I)I"⟩
abbrev cX6_pairCount : ByteArray := prog_1_method_46_code
def yX6_pairCount : MethodName := ⟨RX6, "pairCount", "()I"⟩
abbrev cX6_pairGap : ByteArray := prog_1_method_47_code
def yX6_pairGap : MethodName := ⟨RX6, "pairGap", "()I"⟩
abbrev cX6_partner : ByteArray := prog_1_method_48_code
def yX6_partner : MethodName := ⟨RX6, "partner", "(I)I"⟩
abbrev cX6_pair : ByteArray := prog_1_method_49_code
def yX6_pair : MethodName := ⟨RX6, "pair", "(I)I"⟩
abbrev cX6_pairSize : ByteArray := prog_1_method_50_code
def yX6_pairSize : MethodName := ⟨RX6, "pairSize", "(I)I"⟩
abbrev cX6_worstPair : ByteArray := prog_1_method_51_code
def yX6_worstPair : MethodName := ⟨RX6, "worstPair", "()I"⟩
abbrev cX6_seconds : ByteArray := prog_1_method_52_code
def yX6_seconds : MethodName := ⟨RX6, "seconds", "()I"⟩
abbrev cX6_groupCount : ByteArray := prog_1_method_53_code
def yX6_groupCount : MethodName := ⟨RX6, "groupCount", "()I"⟩
abbrev cX6_groupOf : ByteArray := prog_1_method_54_code
def yX6_groupOf : MethodName := ⟨RX6, "groupOf", "(I)I"⟩
abbrev cX6_ifDays : ByteArray := prog_1_method_55_code
def yX6_ifDays : MethodName := ⟨RX6, "ifDays", "(I)I"⟩
abbrev cX6_bestDay : ByteArray := prog_1_method_56_code
def yX6_bestDay : MethodName := ⟨RX6, "bestDay", "(I)I"⟩
abbrev cX6_daysToSize : ByteArray := prog_1_method_57_code
def yX6_daysToSize : MethodName := ⟨RX6, "daysToSize", "(II)I"⟩
abbrev cX6_ifAllBoarded : ByteArray := prog_1_method_58_code
def yX6_ifAllBoarded : MethodName := ⟨RX6, "ifAllBoarded", "(I)I"⟩
abbrev cX6_bestShape : ByteArray := prog_1_method_59_code
def yX6_bestShape : MethodName := ⟨RX6, "bestShape", "()I"⟩
abbrev cX6_leastSteam : ByteArray := prog_1_method_60_code
def yX6_leastSteam : MethodName := ⟨RX6, "leastSteam", "(II)I"⟩
abbrev cX6_leastTolerance : ByteArray := prog_1_method_61_code
def yX6_leastTolerance : MethodName := ⟨RX6, "leastTolerance", "(I)I"⟩
abbrev cX6_ifTolerance : ByteArray := prog_1_method_62_code
def yX6_ifTolerance : MethodName := ⟨RX6, "ifTolerance", "(II)I"⟩
abbrev cX6_bestDye : ByteArray := prog_1_method_63_code
def yX6_bestDye : MethodName := ⟨RX6, "bestDye", "(I)I"⟩
abbrev cX6_writePlant : ByteArray := prog_1_method_64_code
def yX6_writePlant : MethodName := ⟨RX6, "writePlant", "()I"⟩
abbrev cX6_outputByte : ByteArray := prog_1_method_65_code
def yX6_outputByte : MethodName := ⟨RX6, "outputByte", "(I)I"⟩
abbrev cX6_appendBytes : ByteArray := prog_1_method_66_code
def yX6_appendBytes : MethodName := ⟨RX6, "appendBytes", "(I)V"⟩
abbrev cX6_beforeChange : ByteArray := prog_1_method_67_code
def yX6_beforeChange : MethodName := ⟨RX6, "beforeChange", "()V"⟩
abbrev cX6_findPairs : ByteArray := prog_1_method_68_code
def yX6_findPairs : MethodName := ⟨RX6, "findPairs", "()V"⟩
abbrev cX6_isPiece : ByteArray := prog_1_method_69_code
def yX6_isPiece : MethodName := ⟨RX6, "isPiece", "(I)Z"⟩
abbrev cX6_areTwoPieces : ByteArray := prog_1_method_70_code
def yX6_areTwoPieces : MethodName := ⟨RX6, "areTwoPieces", "(II)Z"⟩
abbrev cX6_isShape : ByteArray := prog_1_method_71_code
def yX6_isShape : MethodName := ⟨RX6, "isShape", "(I)Z"⟩
abbrev cX6_isSize : ByteArray := prog_1_method_72_code
def yX6_isSize : MethodName := ⟨RX6, "isSize", "(I)Z"⟩
abbrev cX6_areTolerances : ByteArray := prog_1_method_73_code
def yX6_areTolerances : MethodName := ⟨RX6, "areTolerances", "(II)Z"⟩
abbrev cX6_setWhere : ByteArray := prog_1_method_74_code
def yX6_setWhere : MethodName := ⟨RX6, "setWhere", "([II)I"⟩
abbrev cX6_pairsIfBoarded : ByteArray := prog_1_method_75_code
def yX6_pairsIfBoarded : MethodName := ⟨RX6, "pairsIfBoarded", "(II)I"⟩
abbrev cX6_pairsWithin : ByteArray := prog_1_method_76_code
def yX6_pairsWithin : MethodName := ⟨RX6, "pairsWithin", "(II)I"⟩
abbrev cX6_sizeOfPair : ByteArray := prog_1_method_77_code
def yX6_sizeOfPair : MethodName := ⟨RX6, "sizeOfPair", "(I)I"⟩
abbrev cX6_packableSet : ByteArray := prog_1_method_78_code
def yX6_packableSet : MethodName := ⟨RX6, "packableSet", "()I"⟩
abbrev cX6_isInFullBox : ByteArray := prog_1_method_79_code
def yX6_isInFullBox : MethodName := ⟨RX6, "isInFullBox", "(I)Z"⟩
abbrev cX6_isBoxedWith : ByteArray := prog_1_method_80_code
def yX6_isBoxedWith : MethodName := ⟨RX6, "isBoxedWith", "(II)Z"⟩
abbrev cX6_boxesOf : ByteArray := prog_1_method_81_code
def yX6_boxesOf : MethodName := ⟨RX6, "boxesOf", "(I)I"⟩
abbrev cX6_writeCatalogue : ByteArray := prog_1_method_82_code
def yX6_writeCatalogue : MethodName := ⟨RX6, "writeCatalogue", "(LHosieryPlant$Catalogue;)V"⟩
abbrev cX6_writeName : ByteArray := prog_1_method_83_code
def yX6_writeName : MethodName := ⟨RX6, "writeName", "(I)V"⟩
abbrev cX6_kindWord : ByteArray := prog_1_method_84_code
def yX6_kindWord : MethodName := ⟨RX6, "kindWord", "(I)Ljava/lang/String;"⟩
abbrev cX6_at : ByteArray := prog_1_method_85_code
def yX6_at : MethodName := ⟨RX6, "at", "([II)I"⟩
abbrev cX6_put : ByteArray := prog_1_method_86_code
def yX6_put : MethodName := ⟨RX6, "put", "([III)V"⟩
abbrev cX6_copyRow : ByteArray := prog_1_method_87_code
def yX6_copyRow : MethodName := ⟨RX6, "copyRow", "([I[I)V"⟩
abbrev cX6_isBetween : ByteArray := prog_1_method_88_code
def yX6_isBetween : MethodName := ⟨RX6, "isBetween", "(III)Z"⟩
abbrev cX6_contains : ByteArray := prog_1_method_89_code
def yX6_contains : MethodName := ⟨RX6, "contains", "(II)Z"⟩
abbrev cX6_lowestOf : ByteArray := prog_1_method_90_code
def yX6_lowestOf : MethodName := ⟨RX6, "lowestOf", "(I)I"⟩
abbrev cX6_isLetter : ByteArray := prog_1_method_91_code
def yX6_isLetter : MethodName := ⟨RX6, "isLetter", "(I)Z"⟩
abbrev cX6_packName : ByteArray := prog_1_method_92_code
def yX6_packName : MethodName := ⟨RX6, "packName", "([III)I"⟩
abbrev cX6_indexOfName : ByteArray := prog_1_method_93_code
def yX6_indexOfName : MethodName := ⟨RX6, "indexOfName", "([III)I"⟩
def RX7 : String := "HosieryPlantModel"
def TX7 : u_T := fun k => match k with
  | 0 => ("HosieryPlantModel", "thrown", "I", false)
  | 1 => ("HosieryPlantModel", "plant", "[I", true)
  | 2 => ("HosieryPlantModel", "draft", "[I", true)
  | 3 => ("HosieryPlantModel", "copy", "[I", true)
  | 4 => ("HosieryPlantModel", "now", "[I", false)
  | 5 => ("HosieryPlantModel", "worth", "[I", true)
  | 6 => ("HosieryPlantModel", "match", "[I", true)
  | 7 => ("HosieryPlantModel", "partners", "[I", true)
  | 8 => ("HosieryPlantModel", "boxes", "I", false)
  | 9 => ("HosieryPlantModel", "history", "[I", true)
  | 10 => ("HosieryPlantModel", "remembered", "I", false)
  | 11 => ("HosieryPlantModel", "input", "[B", true)
  | 12 => ("HosieryPlantModel", "inputSize", "I", false)
  | 13 => ("HosieryPlantModel", "size", "I", false)
  | 14 => ("HosieryPlantModel", "next", "I", false)
  | 15 => ("HosieryPlantModel", "start", "I", false)
  | 16 => ("HosieryPlantModel", "token", "I", false)
  | 17 => ("HosieryPlantModel", "value", "I", false)
  | 18 => ("HosieryPlantModel", "errorFound", "I", false)
  | 19 => ("HosieryPlantModel", "errorPlace", "I", false)
  | 20 => ("HosieryPlantModel", "seen", "I", false)
  | 21 => ("HosieryPlantModel", "output", "[B", true)
  | _ => ("HosieryPlantModel", "outputSize", "I", false)
def tyX7 : Nat → FieldType := fun k => match k with
  | 0 => .int
  | 1 => .array .int
  | 2 => .array .int
  | 3 => .array .int
  | 4 => .array .int
  | 5 => .array .int
  | 6 => .array .int
  | 7 => .array .int
  | 8 => .int
  | 9 => .array .int
  | 10 => .int
  | 11 => .array .byte
  | 12 => .int
  | 13 => .int
  | 14 => .int
  | 15 => .int
  | 16 => .int
  | 17 => .int
  | 18 => .int
  | 19 => .int
  | 20 => .int
  | 21 => .array .byte
  | _ => .int
abbrev wsX70 : List Cond := u_ws RX7 TX7 23
theorem nmX7 : ∀ a, a < 23 → ∀ b, b < 23 → a ≠ b → (TX7 a).2.1 ≠ (TX7 b).2.1 := by decide +kernel
theorem tyX7_ok : ∀ k, k < 23 → parseFieldDescriptor (TX7 k).2.2.1 = some (tyX7 k) := by decide +kernel
abbrev cX7_in : ByteArray := prog_9_method_2_code
def yX7_in : MethodName := ⟨RX7, "in", "(JJJ)Z"⟩
abbrev cX7_hasBit : ByteArray := prog_9_method_3_code
def yX7_hasBit : MethodName := ⟨RX7, "hasBit", "(II)Z"⟩
abbrev cX7_init : ByteArray := prog_9_method_4_code
def yX7_init : MethodName := ⟨RX7, "<init>", "()V"⟩
abbrev cX7_clear : ByteArray := prog_9_method_5_code
def yX7_clear : MethodName := ⟨RX7, "clear", "([I)V"⟩
abbrev cX7_startPrediction : ByteArray := prog_9_method_6_code
def yX7_startPrediction : MethodName := ⟨RX7, "startPrediction", "()V"⟩
abbrev cX7_at : ByteArray := prog_9_method_7_code
def yX7_at : MethodName := ⟨RX7, "at", "(II)I"⟩
abbrev cX7_field : ByteArray := prog_9_method_8_code
def yX7_field : MethodName := ⟨RX7, "field", "(II)I"⟩
abbrev cX7_count : ByteArray := prog_9_method_9_code
def yX7_count : MethodName := ⟨RX7, "count", "()I"⟩
abbrev cX7_isPiece : ByteArray := prog_9_method_10_code
def yX7_isPiece : MethodName := ⟨RX7, "isPiece", "(I)Z"⟩
abbrev cX7_isShape : ByteArray := prog_9_method_11_code
def yX7_isShape : MethodName := ⟨RX7, "isShape", "(I)Z"⟩
abbrev cX7_isIn : ByteArray := prog_9_method_12_code
def yX7_isIn : MethodName := ⟨RX7, "isIn", "(II)Z"⟩
abbrev cX7_shapeLength : ByteArray := prog_9_method_13_code
def yX7_shapeLength : MethodName := ⟨RX7, "shapeLength", "(I)I"⟩
abbrev cX7_limitOf : ByteArray := prog_9_method_14_code
def yX7_limitOf : MethodName := ⟨RX7, "limitOf", "(I)I"⟩
abbrev cX7_longestOf : ByteArray := prog_9_method_15_code
def yX7_longestOf : MethodName := ⟨RX7, "longestOf", "(I)I"⟩
abbrev cX7_wouldTear : ByteArray := prog_9_method_16_code
def yX7_wouldTear : MethodName := ⟨RX7, "wouldTear", "(II)Z"⟩
abbrev cX7_lengthOn : ByteArray := prog_9_method_17_code
def yX7_lengthOn : MethodName := ⟨RX7, "lengthOn", "(II)I"⟩
abbrev cX7_put : ByteArray := prog_9_method_18_code
def yX7_put : MethodName := ⟨RX7, "put", "(II)Z"⟩
abbrev cX7_putAll : ByteArray := prog_9_method_19_code
def yX7_putAll : MethodName := ⟨RX7, "putAll", "(I)I"⟩
abbrev cX7_pass : ByteArray := prog_9_method_20_code
def yX7_pass : MethodName := ⟨RX7, "pass", "()I"⟩
abbrev cX7_sizeFor : ByteArray := prog_9_method_21_code
def yX7_sizeFor : MethodName := ⟨RX7, "sizeFor", "(II)I"⟩
abbrev cX7_sizeOfPiece : ByteArray := prog_9_method_22_code
def yX7_sizeOfPiece : MethodName := ⟨RX7, "sizeOfPiece", "(I)I"⟩
abbrev cX7_gapOf : ByteArray := prog_9_method_23_code
def yX7_gapOf : MethodName := ⟨RX7, "gapOf", "(II)I"⟩
abbrev cX7_areMatch : ByteArray := prog_9_method_24_code
def yX7_areMatch : MethodName := ⟨RX7, "areMatch", "(II)Z"⟩
abbrev cX7_matchesOf : ByteArray := prog_9_method_25_code
def yX7_matchesOf : MethodName := ⟨RX7, "matchesOf", "(I)I"⟩
abbrev cX7_lowest : ByteArray := prog_9_method_26_code
def yX7_lowest : MethodName := ⟨RX7, "lowest", "(I)I"⟩
abbrev cX7_layWorth : ByteArray := prog_9_method_27_code
def yX7_layWorth : MethodName := ⟨RX7, "layWorth", "()I"⟩
abbrev cX7_worthWith : ByteArray := prog_9_method_28_code
def yX7_worthWith : MethodName := ⟨RX7, "worthWith", "(III)I"⟩
abbrev cX7_countPairs : ByteArray := prog_9_method_29_code
def yX7_countPairs : MethodName := ⟨RX7, "countPairs", "()I"⟩
abbrev cX7_layPartners : ByteArray := prog_9_method_30_code
def yX7_layPartners : MethodName := ⟨RX7, "layPartners", "()I"⟩
abbrev cX7_pairAt : ByteArray := prog_9_method_31_code
def yX7_pairAt : MethodName := ⟨RX7, "pairAt", "(I)I"⟩
abbrev cX7_sizeOfPair : ByteArray := prog_9_method_32_code
def yX7_sizeOfPair : MethodName := ⟨RX7, "sizeOfPair", "(I)I"⟩
abbrev cX7_groupKey : ByteArray := prog_9_method_33_code
def yX7_groupKey : MethodName := ⟨RX7, "groupKey", "(I)I"⟩
abbrev cX7_isSized : ByteArray := prog_9_method_34_code
def yX7_isSized : MethodName := ⟨RX7, "isSized", "(I)Z"⟩
abbrev cX7_inGroup : ByteArray := prog_9_method_35_code
def yX7_inGroup : MethodName := ⟨RX7, "inGroup", "(IZ)I"⟩
abbrev cX7_packedSet : ByteArray := prog_9_method_36_code
def yX7_packedSet : MethodName := ⟨RX7, "packedSet", "()I"⟩
abbrev cX7_yarnCount : ByteArray := prog_9_method_37_code
def yX7_yarnCount : MethodName := ⟨RX7, "yarnCount", "()I"⟩
abbrev cX7_shapeCount : ByteArray := prog_9_method_38_code
def yX7_shapeCount : MethodName := ⟨RX7, "shapeCount", "()I"⟩
abbrev cX7_sizeCount : ByteArray := prog_9_method_39_code
def yX7_sizeCount : MethodName := ⟨RX7, "sizeCount", "()I"⟩
abbrev cX7_pieceCount : ByteArray := prog_9_method_40_code
def yX7_pieceCount : MethodName := ⟨RX7, "pieceCount", "()I"⟩
abbrev cX7_days : ByteArray := prog_9_method_41_code
def yX7_days : MethodName := ⟨RX7, "days", "()I"⟩
abbrev cX7_lengthTolerance : ByteArray := prog_9_method_42_code
def yX7_lengthTolerance : MethodName := ⟨RX7, "lengthTolerance", "()I"⟩
abbrev cX7_shadeTolerance : ByteArray := prog_9_method_43_code
def yX7_shadeTolerance : MethodName := ⟨RX7, "shadeTolerance", "()I"⟩
abbrev cX7_steam : ByteArray := prog_9_method_44_code
def yX7_steam : MethodName := ⟨RX7, "steam", "()I"⟩
abbrev cX7_length : ByteArray := prog_9_method_45_code
def yX7_length : MethodName := ⟨RX7, "length", "(I)I"⟩
abbrev cX7_knitted : ByteArray := prog_9_method_46_code
def yX7_knitted : MethodName := ⟨RX7, "knitted", "(I)I"⟩
abbrev cX7_shade : ByteArray := prog_9_method_47_code
def yX7_shade : MethodName := ⟨RX7, "shade", "(I)I"⟩
abbrev cX7_yarnOf : ByteArray := prog_9_method_48_code
def yX7_yarnOf : MethodName := ⟨RX7, "yarnOf", "(I)I"⟩
abbrev cX7_kindOf : ByteArray := prog_9_method_49_code
def yX7_kindOf : MethodName := ⟨RX7, "kindOf", "(I)I"⟩
abbrev cX7_state : ByteArray := prog_9_method_50_code
def yX7_state : MethodName := ⟨RX7, "state", "(I)I"⟩
abbrev cX7_inState : ByteArray := prog_9_method_51_code
def yX7_inState : MethodName := ⟨RX7, "inState", "(I)I"⟩
abbrev cX7_stretchLimit : ByteArray := prog_9_method_52_code
def yX7_stretchLimit : MethodName := ⟨RX7, "stretchLimit", "(I)I"⟩
abbrev cX7_longestShape : ByteArray := prog_9_method_53_code
def yX7_longestShape : MethodName := ⟨RX7, "longestShape", "(I)I"⟩
abbrev cX7_isDone : ByteArray := prog_9_method_54_code
def yX7_isDone : MethodName := ⟨RX7, "isDone", "(I)Z"⟩
abbrev cX7_ifBoarded : ByteArray := prog_9_method_55_code
def yX7_ifBoarded : MethodName := ⟨RX7, "ifBoarded", "(II)I"⟩
abbrev cX7_sizeOf : ByteArray := prog_9_method_56_code
def yX7_sizeOf : MethodName := ⟨RX7, "sizeOf", "(I)I"⟩
abbrev cX7_ofSize : ByteArray := prog_9_method_57_code
def yX7_ofSize : MethodName := ⟨RX7, "ofSize", "(I)I"⟩
abbrev cX7_isBefore : ByteArray := prog_9_method_58_code
def yX7_isBefore : MethodName := ⟨RX7, "isBefore", "(II)Z"⟩
abbrev cX7_sorted : ByteArray := prog_9_method_59_code
def yX7_sorted : MethodName := ⟨RX7, "sorted", "(I)I"⟩
abbrev cX7_lengthRange : ByteArray := prog_9_method_60_code
def yX7_lengthRange : MethodName := ⟨RX7, "lengthRange", "()I"⟩
abbrev cX7_areTwo : ByteArray := prog_9_method_61_code
def yX7_areTwo : MethodName := ⟨RX7, "areTwo", "(II)Z"⟩
abbrev cX7_isMatch : ByteArray := prog_9_method_62_code
def yX7_isMatch : MethodName := ⟨RX7, "isMatch", "(II)I"⟩
abbrev cX7_gap : ByteArray := prog_9_method_63_code
def yX7_gap : MethodName := ⟨RX7, "gap", "(II)I"⟩
abbrev cX7_matches : ByteArray := prog_9_method_64_code
def yX7_matches : MethodName := ⟨RX7, "matches", "(I)I"⟩
abbrev cX7_nearest : ByteArray := prog_9_method_65_code
def yX7_nearest : MethodName := ⟨RX7, "nearest", "(I)I"⟩
abbrev cX7_pairCount : ByteArray := prog_9_method_66_code
def yX7_pairCount : MethodName := ⟨RX7, "pairCount", "()I"⟩
abbrev cX7_pairGap : ByteArray := prog_9_method_67_code
def yX7_pairGap : MethodName := ⟨RX7, "pairGap", "()I"⟩
abbrev cX7_partner : ByteArray := prog_9_method_68_code
def yX7_partner : MethodName := ⟨RX7, "partner", "(I)I"⟩
abbrev cX7_pair : ByteArray := prog_9_method_69_code
def yX7_pair : MethodName := ⟨RX7, "pair", "(I)I"⟩
abbrev cX7_pairSize : ByteArray := prog_9_method_70_code
def yX7_pairSize : MethodName := ⟨RX7, "pairSize", "(I)I"⟩
abbrev cX7_seconds : ByteArray := prog_9_method_71_code
def yX7_seconds : MethodName := ⟨RX7, "seconds", "()I"⟩
abbrev cX7_together : ByteArray := prog_9_method_72_code
def yX7_together : MethodName := ⟨RX7, "together", "(I)I"⟩
abbrev cX7_groupCount : ByteArray := prog_9_method_73_code
def yX7_groupCount : MethodName := ⟨RX7, "groupCount", "()I"⟩
abbrev cX7_groupOf : ByteArray := prog_9_method_74_code
def yX7_groupOf : MethodName := ⟨RX7, "groupOf", "(I)I"⟩
abbrev cX7_boxCount : ByteArray := prog_9_method_75_code
def yX7_boxCount : MethodName := ⟨RX7, "boxCount", "()I"⟩
abbrev cX7_ifDays : ByteArray := prog_9_method_76_code
def yX7_ifDays : MethodName := ⟨RX7, "ifDays", "(I)I"⟩
abbrev cX7_bestDay : ByteArray := prog_9_method_77_code
def yX7_bestDay : MethodName := ⟨RX7, "bestDay", "(I)I"⟩
abbrev cX7_pairsOn : ByteArray := prog_9_method_78_code
def yX7_pairsOn : MethodName := ⟨RX7, "pairsOn", "(II)I"⟩
abbrev cX7_ifAllBoarded : ByteArray := prog_9_method_79_code
def yX7_ifAllBoarded : MethodName := ⟨RX7, "ifAllBoarded", "(I)I"⟩
abbrev cX7_bestShape : ByteArray := prog_9_method_80_code
def yX7_bestShape : MethodName := ⟨RX7, "bestShape", "()I"⟩
abbrev cX7_isPairs : ByteArray := prog_9_method_81_code
def yX7_isPairs : MethodName := ⟨RX7, "isPairs", "(I)Z"⟩
abbrev cX7_leastSteam : ByteArray := prog_9_method_82_code
def yX7_leastSteam : MethodName := ⟨RX7, "leastSteam", "(II)I"⟩
abbrev cX7_pairsWithin : ByteArray := prog_9_method_83_code
def yX7_pairsWithin : MethodName := ⟨RX7, "pairsWithin", "(I)I"⟩
abbrev cX7_leastTolerance : ByteArray := prog_9_method_84_code
def yX7_leastTolerance : MethodName := ⟨RX7, "leastTolerance", "(I)I"⟩
abbrev cX7_pairsDyed : ByteArray := prog_9_method_85_code
def yX7_pairsDyed : MethodName := ⟨RX7, "pairsDyed", "(II)I"⟩
abbrev cX7_bestDye : ByteArray := prog_9_method_86_code
def yX7_bestDye : MethodName := ⟨RX7, "bestDye", "(I)I"⟩
abbrev cX7_remember : ByteArray := prog_9_method_87_code
def yX7_remember : MethodName := ⟨RX7, "remember", "()V"⟩
abbrev cX7_undo : ByteArray := prog_9_method_88_code
def yX7_undo : MethodName := ⟨RX7, "undo", "()I"⟩
abbrev cX7_undoCount : ByteArray := prog_9_method_89_code
def yX7_undoCount : MethodName := ⟨RX7, "undoCount", "()I"⟩
abbrev cX7_board : ByteArray := prog_9_method_90_code
def yX7_board : MethodName := ⟨RX7, "board", "(II)I"⟩
abbrev cX7_boardAll : ByteArray := prog_9_method_91_code
def yX7_boardAll : MethodName := ⟨RX7, "boardAll", "(I)I"⟩
abbrev cX7_day : ByteArray := prog_9_method_92_code
def yX7_day : MethodName := ⟨RX7, "day", "()I"⟩
abbrev cX7_dye : ByteArray := prog_9_method_93_code
def yX7_dye : MethodName := ⟨RX7, "dye", "(II)I"⟩
abbrev cX7_setTolerance : ByteArray := prog_9_method_94_code
def yX7_setTolerance : MethodName := ⟨RX7, "setTolerance", "(II)I"⟩
abbrev cX7_setSteam : ByteArray := prog_9_method_95_code
def yX7_setSteam : MethodName := ⟨RX7, "setSteam", "(I)I"⟩
abbrev cX7_pack : ByteArray := prog_9_method_96_code
def yX7_pack : MethodName := ⟨RX7, "pack", "()I"⟩
abbrev cX7_appendFour : ByteArray := prog_9_method_97_code
def yX7_appendFour : MethodName := ⟨RX7, "appendFour", "(I)V"⟩
abbrev cX7_append : ByteArray := prog_9_method_98_code
def yX7_append : MethodName := ⟨RX7, "append", "(IIIII)I"⟩
abbrev cX7_truncate : ByteArray := prog_9_method_99_code
def yX7_truncate : MethodName := ⟨RX7, "truncate", "(I)I"⟩
abbrev cX7_good : ByteArray := prog_9_method_100_code
def yX7_good : MethodName := ⟨RX7, "good", "()Z"⟩
abbrev cX7_fail : ByteArray := prog_9_method_101_code
def yX7_fail : MethodName := ⟨RX7, "fail", "(I)V"⟩
abbrev cX7_byteAt : ByteArray := prog_9_method_102_code
def yX7_byteAt : MethodName := ⟨RX7, "byteAt", "(I)I"⟩
abbrev cX7_advance : ByteArray := prog_9_method_103_code
def yX7_advance : MethodName := ⟨RX7, "advance", "()V"⟩
abbrev cX7_goOn : ByteArray := prog_9_method_104_code
def yX7_goOn : MethodName := ⟨RX7, "goOn", "()V"⟩
abbrev cX7_isText : ByteArray := prog_9_method_105_code
def yX7_isText : MethodName := ⟨RX7, "isText", "(Ljava/lang/String;)Z"⟩
abbrev cX7_kindHere : ByteArray := prog_9_method_106_code
def yX7_kindHere : MethodName := ⟨RX7, "kindHere", "()I"⟩
abbrev cX7_isKeyword : ByteArray := prog_9_method_107_code
def yX7_isKeyword : MethodName := ⟨RX7, "isKeyword", "()Z"⟩
abbrev cX7_number : ByteArray := prog_9_method_108_code
def yX7_number : MethodName := ⟨RX7, "number", "(II)I"⟩
abbrev cX7_packed : ByteArray := prog_9_method_109_code
def yX7_packed : MethodName := ⟨RX7, "packed", "()I"⟩
abbrev cX7_nameHere : ByteArray := prog_9_method_110_code
def yX7_nameHere : MethodName := ⟨RX7, "nameHere", "()I"⟩
abbrev cX7_findIn : ByteArray := prog_9_method_111_code
def yX7_findIn : MethodName := ⟨RX7, "findIn", "(IIII)I"⟩
abbrev cX7_newName : ByteArray := prog_9_method_112_code
def yX7_newName : MethodName := ⟨RX7, "newName", "(III)I"⟩
abbrev cX7_enter : ByteArray := prog_9_method_113_code
def yX7_enter : MethodName := ⟨RX7, "enter", "(II)V"⟩
abbrev cX7_once : ByteArray := prog_9_method_114_code
def yX7_once : MethodName := ⟨RX7, "once", "(I)V"⟩
abbrev cX7_someLength : ByteArray := prog_9_method_115_code
def yX7_someLength : MethodName := ⟨RX7, "someLength", "(I)I"⟩
abbrev cX7_parseYarn : ByteArray := prog_9_method_116_code
def yX7_parseYarn : MethodName := ⟨RX7, "parseYarn", "()V"⟩
abbrev cX7_parseShape : ByteArray := prog_9_method_117_code
def yX7_parseShape : MethodName := ⟨RX7, "parseShape", "()V"⟩
abbrev cX7_parseSize : ByteArray := prog_9_method_118_code
def yX7_parseSize : MethodName := ⟨RX7, "parseSize", "()V"⟩
abbrev cX7_parsePiece : ByteArray := prog_9_method_119_code
def yX7_parsePiece : MethodName := ⟨RX7, "parsePiece", "()V"⟩
abbrev cX7_times : ByteArray := prog_9_method_120_code
def yX7_times : MethodName := ⟨RX7, "times", "()I"⟩
abbrev cX7_add : ByteArray := prog_9_method_121_code
def yX7_add : MethodName := ⟨RX7, "add", "(IIII)V"⟩
abbrev cX7_parseStatement : ByteArray := prog_9_method_122_code
def yX7_parseStatement : MethodName := ⟨RX7, "parseStatement", "()V"⟩
abbrev cX7_load : ByteArray := prog_9_method_123_code
def yX7_load : MethodName := ⟨RX7, "load", "()I"⟩
abbrev cX7_errorCode : ByteArray := prog_9_method_124_code
def yX7_errorCode : MethodName := ⟨RX7, "errorCode", "()I"⟩
abbrev cX7_errorPosition : ByteArray := prog_9_method_125_code
def yX7_errorPosition : MethodName := ⟨RX7, "errorPosition", "()I"⟩
abbrev cX7_find : ByteArray := prog_9_method_126_code
def yX7_find : MethodName := ⟨RX7, "find", "(I)I"⟩
abbrev cX7_write : ByteArray := prog_9_method_127_code
def yX7_write : MethodName := ⟨RX7, "write", "(I)V"⟩
abbrev cX7_writeText : ByteArray := prog_9_method_128_code
def yX7_writeText : MethodName := ⟨RX7, "writeText", "(Ljava/lang/String;)V"⟩
abbrev cX7_writeNumber : ByteArray := prog_9_method_129_code
def yX7_writeNumber : MethodName := ⟨RX7, "writeNumber", "(I)V"⟩
abbrev cX7_letterOf : ByteArray := prog_9_method_130_code
def yX7_letterOf : MethodName := ⟨RX7, "letterOf", "(II)I"⟩
abbrev cX7_writeName : ByteArray := prog_9_method_131_code
def yX7_writeName : MethodName := ⟨RX7, "writeName", "(I)V"⟩
abbrev cX7_writeNumbers : ByteArray := prog_9_method_132_code
def yX7_writeNumbers : MethodName := ⟨RX7, "writeNumbers", "(II)V"⟩
abbrev cX7_writeTable : ByteArray := prog_9_method_133_code
def yX7_writeTable : MethodName := ⟨RX7, "writeTable", "(Ljava/lang/String;III)V"⟩
abbrev cX7_writePiece : ByteArray := prog_9_method_134_code
def yX7_writePiece : MethodName := ⟨RX7, "writePiece", "(I)V"⟩
abbrev cX7_writePlant : ByteArray := prog_9_method_135_code
def yX7_writePlant : MethodName := ⟨RX7, "writePlant", "()I"⟩
abbrev cX7_outputByte : ByteArray := prog_9_method_136_code
def yX7_outputByte : MethodName := ⟨RX7, "outputByte", "(I)I"⟩
abbrev cX7_ifTolerance : ByteArray := prog_9_method_137_code
def yX7_ifTolerance : MethodName := ⟨RX7, "ifTolerance", "(II)I"⟩
abbrev cX7_worstPair : ByteArray := prog_9_method_138_code
def yX7_worstPair : MethodName := ⟨RX7, "worstPair", "()I"⟩
abbrev cX7_ofYarn : ByteArray := prog_9_method_139_code
def yX7_ofYarn : MethodName := ⟨RX7, "ofYarn", "(I)I"⟩
abbrev cX7_daysToSize : ByteArray := prog_9_method_140_code
def yX7_daysToSize : MethodName := ⟨RX7, "daysToSize", "(II)I"⟩
abbrev cX7_shapeFor : ByteArray := prog_9_method_141_code
def yX7_shapeFor : MethodName := ⟨RX7, "shapeFor", "(II)I"⟩
def RJ5 : String := "java/lang/AbstractStringBuilder"
def TJ5 : u_T := fun k => match k with
  | _ => ("", "", "", false)
def tyJ5 : Nat → FieldType := fun k => match k with
  | _ => .int
abbrev wsJ50 : List Cond := u_ws RJ5 TJ5 0
theorem nmJ5 : ∀ a, a < 0 → ∀ b, b < 0 → a ≠ b → (TJ5 a).2.1 ≠ (TJ5 b).2.1 := by decide +kernel
theorem tyJ5_ok : ∀ k, k < 0 → parseFieldDescriptor (TJ5 k).2.2.1 = some (tyJ5 k) := by decide +kernel
abbrev cJ5_init_d00df : ByteArray := prog_10_method_2_code
def yJ5_init_d00df : MethodName := ⟨RJ5, "<init>", "(I)V"⟩
abbrev cJ5_length_8abf5 : ByteArray := prog_10_method_6_code
def yJ5_length_8abf5 : MethodName := ⟨RJ5, "length", "()I"⟩
abbrev cJ5_ensureCapacityInternal_d00df : ByteArray := prog_10_method_9_code
def yJ5_ensureCapacityInternal_d00df : MethodName := ⟨RJ5, "ensureCapacityInternal", "(I)V"⟩
abbrev cJ5_newCapacity_0f7a4 : ByteArray := prog_10_method_10_code
def yJ5_newCapacity_0f7a4 : MethodName := ⟨RJ5, "newCapacity", "(I)I"⟩
abbrev cJ5_inflate_da8c8 : ByteArray := prog_10_method_11_code
def yJ5_inflate_da8c8 : MethodName := ⟨RJ5, "inflate", "()V"⟩
abbrev cJ5_setLength_d00df : ByteArray := prog_10_method_13_code
def yJ5_setLength_d00df : MethodName := ⟨RJ5, "setLength", "(I)V"⟩
abbrev cJ5_charAt_5068e : ByteArray := prog_10_method_14_code
def yJ5_charAt_5068e : MethodName := ⟨RJ5, "charAt", "(I)C"⟩
abbrev cJ5_append_cf1ce : ByteArray := prog_10_method_22_code
def yJ5_append_cf1ce : MethodName := ⟨RJ5, "append", "(Ljava/lang/String;)Ljava/lang/AbstractStringBuilder;"⟩
abbrev cJ5_appendNull_278bc : ByteArray := prog_10_method_26_code
def yJ5_appendNull_278bc : MethodName := ⟨RJ5, "appendNull", "()Ljava/lang/AbstractStringBuilder;"⟩
abbrev cJ5_append_3fe6f : ByteArray := prog_10_method_31_code
def yJ5_append_3fe6f : MethodName := ⟨RJ5, "append", "(C)Ljava/lang/AbstractStringBuilder;"⟩
abbrev cJ5_append_c97b9 : ByteArray := prog_10_method_32_code
def yJ5_append_c97b9 : MethodName := ⟨RJ5, "append", "(I)Ljava/lang/AbstractStringBuilder;"⟩
abbrev cJ5_isLatin1_aae02 : ByteArray := prog_10_method_68_code
def yJ5_isLatin1_aae02 : MethodName := ⟨RJ5, "isLatin1", "()Z"⟩
abbrev cJ5_inflateIfNeededFor_a7421 : ByteArray := prog_10_method_71_code
def yJ5_inflateIfNeededFor_a7421 : MethodName := ⟨RJ5, "inflateIfNeededFor", "(Ljava/lang/String;)V"⟩
abbrev cJ5_putStringAt_47b60 : ByteArray := prog_10_method_73_code
def yJ5_putStringAt_47b60 : MethodName := ⟨RJ5, "putStringAt", "(ILjava/lang/String;)V"⟩
def RJx8e188 : String := "java/lang/Cloneable"
def TJx8e188 : u_T := fun k => match k with
  | _ => ("", "", "", false)
def tyJx8e188 : Nat → FieldType := fun k => match k with
  | _ => .int
abbrev wsJx8e1880 : List Cond := u_ws RJx8e188 TJx8e188 0
theorem nmJx8e188 : ∀ a, a < 0 → ∀ b, b < 0 → a ≠ b → (TJx8e188 a).2.1 ≠ (TJx8e188 b).2.1 := by decide +kernel
theorem tyJx8e188_ok : ∀ k, k < 0 → parseFieldDescriptor (TJx8e188 k).2.2.1 = some (tyJx8e188 k) := by decide +kernel
def RJ6 : String := "java/lang/Integer"
def TJ6 : u_T := fun k => match k with
  | _ => ("", "", "", false)
def tyJ6 : Nat → FieldType := fun k => match k with
  | _ => .int
abbrev wsJ60 : List Cond := u_ws RJ6 TJ6 0
theorem nmJ6 : ∀ a, a < 0 → ∀ b, b < 0 → a ≠ b → (TJ6 a).2.1 ≠ (TJ6 b).2.1 := by decide +kernel
theorem tyJ6_ok : ∀ k, k < 0 → parseFieldDescriptor (TJ6 k).2.2.1 = some (tyJ6 k) := by decide +kernel
abbrev cJ6_getChars_ba4f3 : ByteArray := prog_12_method_12_code
def yJ6_getChars_ba4f3 : MethodName := ⟨RJ6, "getChars", "(II[B)I"⟩
abbrev cJ6_stringSize_0f7a4 : ByteArray := prog_12_method_13_code
def yJ6_stringSize_0f7a4 : MethodName := ⟨RJ6, "stringSize", "(I)I"⟩
abbrev cJ6_bitCount_0f7a4 : ByteArray := prog_12_method_49_code
def yJ6_bitCount_0f7a4 : MethodName := ⟨RJ6, "bitCount", "(I)I"⟩
def RJ9 : String := "java/lang/Math"
def TJ9 : u_T := fun k => match k with
  | _ => ("", "", "", false)
def tyJ9 : Nat → FieldType := fun k => match k with
  | _ => .int
abbrev wsJ90 : List Cond := u_ws RJ9 TJ9 0
theorem nmJ9 : ∀ a, a < 0 → ∀ b, b < 0 → a ≠ b → (TJ9 a).2.1 ≠ (TJ9 b).2.1 := by decide +kernel
theorem tyJ9_ok : ∀ k, k < 0 → parseFieldDescriptor (TJ9 k).2.2.1 = some (tyJ9 k) := by decide +kernel
abbrev cJ9_abs_0f7a4 : ByteArray := prog_13_method_59_code
def yJ9_abs_0f7a4 : MethodName := ⟨RJ9, "abs", "(I)I"⟩
abbrev cJ9_max_7cf53 : ByteArray := prog_13_method_65_code
def yJ9_max_7cf53 : MethodName := ⟨RJ9, "max", "(II)I"⟩
abbrev cJ9_min_7cf53 : ByteArray := prog_13_method_69_code
def yJ9_min_7cf53 : MethodName := ⟨RJ9, "min", "(II)I"⟩
def RJ0 : String := "java/lang/String"
def TJ0 : u_T := fun k => match k with
  | _ => ("", "", "", false)
def tyJ0 : Nat → FieldType := fun k => match k with
  | _ => .int
abbrev wsJ00 : List Cond := u_ws RJ0 TJ0 0
theorem nmJ0 : ∀ a, a < 0 → ∀ b, b < 0 → a ≠ b → (TJ0 a).2.1 ≠ (TJ0 b).2.1 := by decide +kernel
theorem tyJ0_ok : ∀ k, k < 0 → parseFieldDescriptor (TJ0 k).2.2.1 = some (tyJ0 k) := by decide +kernel
abbrev cJ0_length_8abf5 : ByteArray := prog_14_method_54_code
def yJ0_length_8abf5 : MethodName := ⟨RJ0, "length", "()I"⟩
abbrev cJ0_charAt_5068e : ByteArray := prog_14_method_56_code
def yJ0_charAt_5068e : MethodName := ⟨RJ0, "charAt", "(I)C"⟩
abbrev cJ0_getBytes_840e7 : ByteArray := prog_14_method_147_code
def yJ0_getBytes_840e7 : MethodName := ⟨RJ0, "getBytes", "([BIB)V"⟩
abbrev cJ0_coder_7d493 : ByteArray := prog_14_method_152_code
def yJ0_coder_7d493 : MethodName := ⟨RJ0, "coder", "()B"⟩
abbrev cJ0_isLatin1_aae02 : ByteArray := prog_14_method_154_code
def yJ0_isLatin1_aae02 : MethodName := ⟨RJ0, "isLatin1", "()Z"⟩
abbrev cJ0_checkIndex_df160 : ByteArray := prog_14_method_155_code
def yJ0_checkIndex_df160 : MethodName := ⟨RJ0, "checkIndex", "(II)V"⟩
abbrev cJ0_checkBoundsOffCount_cabcc : ByteArray := prog_14_method_157_code
def yJ0_checkBoundsOffCount_cabcc : MethodName := ⟨RJ0, "checkBoundsOffCount", "(III)I"⟩
abbrev cJ0_checkBoundsBeginEnd_23922 : ByteArray := prog_14_method_158_code
def yJ0_checkBoundsBeginEnd_23922 : MethodName := ⟨RJ0, "checkBoundsBeginEnd", "(III)V"⟩
def RJ4 : String := "java/lang/StringBuilder"
def TJ4 : u_T := fun k => match k with
  | 0 => ("java/lang/AbstractStringBuilder", "value", "[B", false)
  | 1 => ("java/lang/AbstractStringBuilder", "coder", "B", false)
  | 2 => ("java/lang/AbstractStringBuilder", "maybeLatin1", "Z", false)
  | _ => ("java/lang/AbstractStringBuilder", "count", "I", false)
def tyJ4 : Nat → FieldType := fun k => match k with
  | 0 => .array .byte
  | 1 => .byte
  | 2 => .boolean
  | _ => .int
abbrev wsJ40 : List Cond := u_ws RJ4 TJ4 4
theorem nmJ4 : ∀ a, a < 4 → ∀ b, b < 4 → a ≠ b → (TJ4 a).2.1 ≠ (TJ4 b).2.1 := by decide +kernel
theorem tyJ4_ok : ∀ k, k < 4 → parseFieldDescriptor (TJ4 k).2.2.1 = some (tyJ4 k) := by decide +kernel
abbrev cJ4_init_da8c8 : ByteArray := prog_15_method_1_code
def yJ4_init_da8c8 : MethodName := ⟨RJ4, "<init>", "()V"⟩
abbrev cJ4_append_15ec4 : ByteArray := prog_15_method_7_code
def yJ4_append_15ec4 : MethodName := ⟨RJ4, "append", "(Ljava/lang/String;)Ljava/lang/StringBuilder;"⟩
abbrev cJ4_append_cf468 : ByteArray := prog_15_method_14_code
def yJ4_append_cf468 : MethodName := ⟨RJ4, "append", "(C)Ljava/lang/StringBuilder;"⟩
abbrev cJ4_append_bf812 : ByteArray := prog_15_method_15_code
def yJ4_append_bf812 : MethodName := ⟨RJ4, "append", "(I)Ljava/lang/StringBuilder;"⟩
abbrev cJ4_charAt_5068e : ByteArray := prog_15_method_88_code
def yJ4_charAt_5068e : MethodName := ⟨RJ4, "charAt", "(I)C"⟩
abbrev cJ4_setLength_d00df : ByteArray := prog_15_method_89_code
def yJ4_setLength_d00df : MethodName := ⟨RJ4, "setLength", "(I)V"⟩
abbrev cJ4_length_8abf5 : ByteArray := prog_15_method_93_code
def yJ4_length_8abf5 : MethodName := ⟨RJ4, "length", "()I"⟩
def RJ1 : String := "java/lang/StringLatin1"
def TJ1 : u_T := fun k => match k with
  | _ => ("", "", "", false)
def tyJ1 : Nat → FieldType := fun k => match k with
  | _ => .int
abbrev wsJ10 : List Cond := u_ws RJ1 TJ1 0
theorem nmJ1 : ∀ a, a < 0 → ∀ b, b < 0 → a ≠ b → (TJ1 a).2.1 ≠ (TJ1 b).2.1 := by decide +kernel
theorem tyJ1_ok : ∀ k, k < 0 → parseFieldDescriptor (TJ1 k).2.2.1 = some (tyJ1 k) := by decide +kernel
abbrev cJ1_charAt_3b067 : ByteArray := prog_16_method_2_code
def yJ1_charAt_3b067 : MethodName := ⟨RJ1, "charAt", "([BI)C"⟩
abbrev cJ1_canEncode_fc78d : ByteArray := prog_16_method_3_code
def yJ1_canEncode_fc78d : MethodName := ⟨RJ1, "canEncode", "(C)Z"⟩
abbrev cJ1_fillNull_b72d1 : ByteArray := prog_16_method_48_code
def yJ1_fillNull_b72d1 : MethodName := ⟨RJ1, "fillNull", "([BII)V"⟩
abbrev cJ1_inflate_0e8fd : ByteArray := prog_16_method_50_code
def yJ1_inflate_0e8fd : MethodName := ⟨RJ1, "inflate", "([BI[BII)V"⟩
def RJ2 : String := "java/lang/StringUTF16"
def TJ2 : u_T := fun k => match k with
  | _ => ("", "", "", false)
def tyJ2 : Nat → FieldType := fun k => match k with
  | _ => .int
abbrev wsJ20 : List Cond := u_ws RJ2 TJ2 0
theorem nmJ2 : ∀ a, a < 0 → ∀ b, b < 0 → a ≠ b → (TJ2 a).2.1 ≠ (TJ2 b).2.1 := by decide +kernel
theorem tyJ2_ok : ∀ k, k < 0 → parseFieldDescriptor (TJ2 k).2.2.1 = some (tyJ2 k) := by decide +kernel
abbrev cJ2_newBytesFor_77867 : ByteArray := prog_17_method_2_code
def yJ2_newBytesFor_77867 : MethodName := ⟨RJ2, "newBytesFor", "(I)[B"⟩
abbrev cJ2_newBytesLength_0f7a4 : ByteArray := prog_17_method_3_code
def yJ2_newBytesLength_0f7a4 : MethodName := ⟨RJ2, "newBytesLength", "(I)I"⟩
abbrev cJ2_putChar_b72d1 : ByteArray := prog_17_method_4_code
def yJ2_putChar_b72d1 : MethodName := ⟨RJ2, "putChar", "([BII)V"⟩
abbrev cJ2_getChar_3b067 : ByteArray := prog_17_method_5_code
def yJ2_getChar_3b067 : MethodName := ⟨RJ2, "getChar", "([BI)C"⟩
abbrev cJ2_length_9d52b : ByteArray := prog_17_method_6_code
def yJ2_length_9d52b : MethodName := ⟨RJ2, "length", "([B)I"⟩
abbrev cJ2_fillNull_b72d1 : ByteArray := prog_17_method_70_code
def yJ2_fillNull_b72d1 : MethodName := ⟨RJ2, "fillNull", "([BII)V"⟩
abbrev cJ2_putCharSB_b72d1 : ByteArray := prog_17_method_71_code
def yJ2_putCharSB_b72d1 : MethodName := ⟨RJ2, "putCharSB", "([BII)V"⟩
abbrev cJ2_getChars_46870 : ByteArray := prog_17_method_77_code
def yJ2_getChars_46870 : MethodName := ⟨RJ2, "getChars", "(III[B)I"⟩
abbrev cJ2_putCharsAt_cd4e5 : ByteArray := prog_17_method_81_code
def yJ2_putCharsAt_cd4e5 : MethodName := ⟨RJ2, "putCharsAt", "([BICCCC)I"⟩
abbrev cJ2_charAt_3b067 : ByteArray := prog_17_method_83_code
def yJ2_charAt_3b067 : MethodName := ⟨RJ2, "charAt", "([BI)C"⟩
abbrev cJ2_inflate_0e8fd : ByteArray := prog_17_method_86_code
def yJ2_inflate_0e8fd : MethodName := ⟨RJ2, "inflate", "([BI[BII)V"⟩
abbrev cJ2_getChars_ba4f3 : ByteArray := prog_17_method_89_code
def yJ2_getChars_ba4f3 : MethodName := ⟨RJ2, "getChars", "(II[B)I"⟩
abbrev cJ2_checkIndex_2214a : ByteArray := prog_17_method_91_code
def yJ2_checkIndex_2214a : MethodName := ⟨RJ2, "checkIndex", "(I[B)V"⟩
abbrev cJ2_checkBoundsBeginEnd_d044e : ByteArray := prog_17_method_93_code
def yJ2_checkBoundsBeginEnd_d044e : MethodName := ⟨RJ2, "checkBoundsBeginEnd", "(II[B)V"⟩
abbrev cJ2_checkBoundsOffCount_d044e : ByteArray := prog_17_method_94_code
def yJ2_checkBoundsOffCount_d044e : MethodName := ⟨RJ2, "checkBoundsOffCount", "(II[B)V"⟩
def RJ10 : String := "java/lang/System"
def TJ10 : u_T := fun k => match k with
  | _ => ("", "", "", false)
def tyJ10 : Nat → FieldType := fun k => match k with
  | _ => .int
abbrev wsJ100 : List Cond := u_ws RJ10 TJ10 0
theorem nmJ10 : ∀ a, a < 0 → ∀ b, b < 0 → a ≠ b → (TJ10 a).2.1 ≠ (TJ10 b).2.1 := by decide +kernel
theorem tyJ10_ok : ∀ k, k < 0 → parseFieldDescriptor (TJ10 k).2.2.1 = some (tyJ10 k) := by decide +kernel
def RJ7 : String := "java/util/Arrays"
def TJ7 : u_T := fun k => match k with
  | _ => ("", "", "", false)
def tyJ7 : Nat → FieldType := fun k => match k with
  | _ => .int
abbrev wsJ70 : List Cond := u_ws RJ7 TJ7 0
theorem nmJ7 : ∀ a, a < 0 → ∀ b, b < 0 → a ≠ b → (TJ7 a).2.1 ≠ (TJ7 b).2.1 := by decide +kernel
theorem tyJ7_ok : ∀ k, k < 0 → parseFieldDescriptor (TJ7 k).2.2.1 = some (tyJ7 k) := by decide +kernel
abbrev cJ7_rangeCheck_23922 : ByteArray := prog_19_method_30_code
def yJ7_rangeCheck_23922 : MethodName := ⟨RJ7, "rangeCheck", "(III)V"⟩
abbrev cJ7_fill_eb02e : ByteArray := prog_19_method_110_code
def yJ7_fill_eb02e : MethodName := ⟨RJ7, "fill", "([BIIB)V"⟩
abbrev cJ7_copyOf_9075b : ByteArray := prog_19_method_121_code
def yJ7_copyOf_9075b : MethodName := ⟨RJ7, "copyOf", "([BI)[B"⟩
def RJ8 : String := "jdk/internal/util/ArraysSupport"
def TJ8 : u_T := fun k => match k with
  | _ => ("", "", "", false)
def tyJ8 : Nat → FieldType := fun k => match k with
  | _ => .int
abbrev wsJ80 : List Cond := u_ws RJ8 TJ8 0
theorem nmJ8 : ∀ a, a < 0 → ∀ b, b < 0 → a ≠ b → (TJ8 a).2.1 ≠ (TJ8 b).2.1 := by decide +kernel
theorem tyJ8_ok : ∀ k, k < 0 → parseFieldDescriptor (TJ8 k).2.2.1 = some (tyJ8 k) := by decide +kernel
abbrev cJ8_newLength_cabcc : ByteArray := prog_20_method_27_code
def yJ8_newLength_cabcc : MethodName := ⟨RJ8, "newLength", "(III)I"⟩
abbrev cJ8_hugeLength_7cf53 : ByteArray := prog_20_method_28_code
def yJ8_hugeLength_7cf53 : MethodName := ⟨RJ8, "hugeLength", "(II)I"⟩
def RJ3 : String := "jdk/internal/util/Preconditions"
def TJ3 : u_T := fun k => match k with
  | _ => ("", "", "", false)
def tyJ3 : Nat → FieldType := fun k => match k with
  | _ => .int
abbrev wsJ30 : List Cond := u_ws RJ3 TJ3 0
theorem nmJ3 : ∀ a, a < 0 → ∀ b, b < 0 → a ≠ b → (TJ3 a).2.1 ≠ (TJ3 b).2.1 := by decide +kernel
theorem tyJ3_ok : ∀ k, k < 0 → parseFieldDescriptor (TJ3 k).2.2.1 = some (tyJ3 k) := by decide +kernel
abbrev cJ3_checkIndex_8e157 : ByteArray := prog_21_method_11_code
def yJ3_checkIndex_8e157 : MethodName := ⟨RJ3, "checkIndex", "(IILjava/util/function/BiFunction;)I"⟩
abbrev cJ3_checkFromToIndex_8c36e : ByteArray := prog_21_method_12_code
def yJ3_checkFromToIndex_8c36e : MethodName := ⟨RJ3, "checkFromToIndex", "(IIILjava/util/function/BiFunction;)I"⟩
abbrev cJ3_checkFromIndexSize_8c36e : ByteArray := prog_21_method_13_code
def yJ3_checkFromIndexSize_8c36e : MethodName := ⟨RJ3, "checkFromIndexSize", "(IIILjava/util/function/BiFunction;)I"⟩
def RL : String := "HosieryPlantLaw"
abbrev cL_law : ByteArray := code
def yL_law : MethodName := ⟨RL, "law", "([I)Z"⟩
abbrev vwCl : List vw_C := [(RJ4, TJ4, 4), (RX0, TX0, 11), (RX1, TX1, 3), (RX2, TX2, 4), (RX3, TX3, 4), (RX4, TX4, 12), (RX5, TX5, 13), (RX6, TX6, 9), (RX7, TX7, 23)]
theorem innX0 : ∀ w ∈ wsX00, w ∈ lw_tbl := by decide +kernel
theorem innX1 : ∀ w ∈ wsX10, w ∈ lw_tbl := by decide +kernel
theorem innX2 : ∀ w ∈ wsX20, w ∈ lw_tbl := by decide +kernel
theorem innX3 : ∀ w ∈ wsX30, w ∈ lw_tbl := by decide +kernel
theorem innX4 : ∀ w ∈ wsX40, w ∈ lw_tbl := by decide +kernel
theorem innX5 : ∀ w ∈ wsX50, w ∈ lw_tbl := by decide +kernel
theorem innX6 : ∀ w ∈ wsX60, w ∈ lw_tbl := by decide +kernel
theorem innX7 : ∀ w ∈ wsX70, w ∈ lw_tbl := by decide +kernel
theorem innJ4 : ∀ w ∈ wsJ40, w ∈ lw_tbl := by decide +kernel
/-- the builder's class selects these private methods of its superclass -/
def sb_sels : List Cond := [.selects RJ4 yJ5_ensureCapacityInternal_d00df yJ5_ensureCapacityInternal_d00df, .selects RJ4 yJ5_newCapacity_0f7a4 yJ5_newCapacity_0f7a4, .selects RJ4 yJ5_putStringAt_47b60 yJ5_putStringAt_47b60, .selects RJ4 yJ5_inflateIfNeededFor_a7421 yJ5_inflateIfNeededFor_a7421]
def lw_g : List Cond := lw_tbl.filter goodWord ++ sb_sels
theorem lw_gm {w : Cond} (h : w ∈ lw_tbl ∧ goodWord w = true) : w ∈ lw_g := List.mem_append_left _ (List.mem_filter.mpr h)
theorem sb_sels_good : ∀ w ∈ sb_sels, goodWord w = true := by decide +kernel
theorem lw_good {w : Cond} (h : w ∈ lw_g) : goodWord w = true := by
  rcases List.mem_append.mp h with h | h
  · exact (List.mem_filter.mp h).2
  · exact sb_sels_good w h
theorem lw_sb {w : Cond} (h : w ∈ sb_sels) : w ∈ lw_g := List.mem_append_right _ h
theorem lw_mg {w : Cond} (i : Nat) (h : lw_tbl[i]? = some w) (hg : goodWord w = true) : w ∈ lw_g := lw_gm ⟨List.mem_of_getElem? h, hg⟩
