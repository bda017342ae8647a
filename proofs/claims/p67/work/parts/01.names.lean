/-- a private method of a class that the tables say can be made, by its rows of tables_1 -/
def lw_okq (q : MethodName × Nat) : Prop := (q.1.cls ≠ "java/lang/invoke/MethodHandle" ∧ q.1.cls ≠ "java/lang/invoke/VarHandle") ∧ Cond.instantiable q.1.cls q.2 ∈ tables_1 ∧ Cond.privateMethod q.1 ∈ tables_1 ∧ Cond.instanceMethod q.1 ∈ tables_1
theorem lw_p0 : lw_okq (⟨"HosieryPlant$Parser", "advance", "()V"⟩, 12) := ⟨⟨by decide +kernel, by decide +kernel⟩, List.mem_of_getElem? (i := 28) (by decide +kernel), List.mem_of_getElem? (i := 346) (by decide +kernel), List.mem_of_getElem? (i := 347) (by decide +kernel)⟩
theorem lw_p1 : lw_okq (⟨"HosieryPlant$Parser", "spells", "(Ljava/lang/String;)Z"⟩, 12) := ⟨⟨by decide +kernel, by decide +kernel⟩, List.mem_of_getElem? (i := 28) (by decide +kernel), List.mem_of_getElem? (i := 367) (by decide +kernel), List.mem_of_getElem? (i := 368) (by decide +kernel)⟩
theorem lw_p2 : lw_okq (⟨"HosieryPlant$Parser", "readTolerance", "()V"⟩, 12) := ⟨⟨by decide +kernel, by decide +kernel⟩, List.mem_of_getElem? (i := 28) (by decide +kernel), List.mem_of_getElem? (i := 418) (by decide +kernel), List.mem_of_getElem? (i := 419) (by decide +kernel)⟩
theorem lw_p3 : lw_okq (⟨"HosieryPlant$Parser", "startStatement", "(ZI)V"⟩, 12) := ⟨⟨by decide +kernel, by decide +kernel⟩, List.mem_of_getElem? (i := 28) (by decide +kernel), List.mem_of_getElem? (i := 422) (by decide +kernel), List.mem_of_getElem? (i := 423) (by decide +kernel)⟩
theorem lw_p4 : lw_okq (⟨"HosieryPlant$Parser", "refuse", "(I)V"⟩, 12) := ⟨⟨by decide +kernel, by decide +kernel⟩, List.mem_of_getElem? (i := 28) (by decide +kernel), List.mem_of_getElem? (i := 426) (by decide +kernel), List.mem_of_getElem? (i := 427) (by decide +kernel)⟩
theorem lw_p5 : lw_okq (⟨"HosieryPlant$Parser", "readNumber", "(II)I"⟩, 12) := ⟨⟨by decide +kernel, by decide +kernel⟩, List.mem_of_getElem? (i := 28) (by decide +kernel), List.mem_of_getElem? (i := 430) (by decide +kernel), List.mem_of_getElem? (i := 431) (by decide +kernel)⟩
theorem lw_p6 : lw_okq (⟨"HosieryPlant$Parser", "endStatement", "()V"⟩, 12) := ⟨⟨by decide +kernel, by decide +kernel⟩, List.mem_of_getElem? (i := 28) (by decide +kernel), List.mem_of_getElem? (i := 437) (by decide +kernel), List.mem_of_getElem? (i := 438) (by decide +kernel)⟩
theorem lw_p7 : lw_okq (⟨"HosieryPlant$Parser", "readSteam", "()V"⟩, 12) := ⟨⟨by decide +kernel, by decide +kernel⟩, List.mem_of_getElem? (i := 28) (by decide +kernel), List.mem_of_getElem? (i := 442) (by decide +kernel), List.mem_of_getElem? (i := 443) (by decide +kernel)⟩
theorem lw_p8 : lw_okq (⟨"HosieryPlant$Parser", "readBox", "()V"⟩, 12) := ⟨⟨by decide +kernel, by decide +kernel⟩, List.mem_of_getElem? (i := 28) (by decide +kernel), List.mem_of_getElem? (i := 447) (by decide +kernel), List.mem_of_getElem? (i := 448) (by decide +kernel)⟩
theorem lw_p9 : lw_okq (⟨"HosieryPlant$Parser", "readYarn", "(LHosieryPlant$Catalogue;)V"⟩, 12) := ⟨⟨by decide +kernel, by decide +kernel⟩, List.mem_of_getElem? (i := 28) (by decide +kernel), List.mem_of_getElem? (i := 452) (by decide +kernel), List.mem_of_getElem? (i := 453) (by decide +kernel)⟩
theorem lw_p10 : lw_okq (⟨"HosieryPlant$Parser", "nameHere", "()I"⟩, 12) := ⟨⟨by decide +kernel, by decide +kernel⟩, List.mem_of_getElem? (i := 28) (by decide +kernel), List.mem_of_getElem? (i := 456) (by decide +kernel), List.mem_of_getElem? (i := 457) (by decide +kernel)⟩
theorem lw_p11 : lw_okq (⟨"HosieryPlant$Parser", "isKeyword", "()Z"⟩, 12) := ⟨⟨by decide +kernel, by decide +kernel⟩, List.mem_of_getElem? (i := 28) (by decide +kernel), List.mem_of_getElem? (i := 460) (by decide +kernel), List.mem_of_getElem? (i := 461) (by decide +kernel)⟩
theorem lw_p12 : lw_okq (⟨"HosieryPlant$Parser", "takeNewName", "(I[II)I"⟩, 12) := ⟨⟨by decide +kernel, by decide +kernel⟩, List.mem_of_getElem? (i := 28) (by decide +kernel), List.mem_of_getElem? (i := 476) (by decide +kernel), List.mem_of_getElem? (i := 477) (by decide +kernel)⟩
theorem lw_p13 : lw_okq (⟨"HosieryPlant$Parser", "readShape", "(LHosieryPlant$Catalogue;)V"⟩, 12) := ⟨⟨by decide +kernel, by decide +kernel⟩, List.mem_of_getElem? (i := 28) (by decide +kernel), List.mem_of_getElem? (i := 486) (by decide +kernel), List.mem_of_getElem? (i := 487) (by decide +kernel)⟩
theorem lw_p14 : lw_okq (⟨"HosieryPlant$Parser", "readSize", "(LHosieryPlant$Catalogue;)V"⟩, 12) := ⟨⟨by decide +kernel, by decide +kernel⟩, List.mem_of_getElem? (i := 28) (by decide +kernel), List.mem_of_getElem? (i := 490) (by decide +kernel), List.mem_of_getElem? (i := 491) (by decide +kernel)⟩
theorem lw_p15 : lw_okq (⟨"HosieryPlant$Parser", "readPiece", "(LHosieryPlant$Catalogue;)V"⟩, 12) := ⟨⟨by decide +kernel, by decide +kernel⟩, List.mem_of_getElem? (i := 28) (by decide +kernel), List.mem_of_getElem? (i := 494) (by decide +kernel), List.mem_of_getElem? (i := 495) (by decide +kernel)⟩
def lw_privs_1 : List (MethodName × Nat) := [(⟨"HosieryPlant$Parser", "advance", "()V"⟩, 12), (⟨"HosieryPlant$Parser", "spells", "(Ljava/lang/String;)Z"⟩, 12), (⟨"HosieryPlant$Parser", "readTolerance", "()V"⟩, 12), (⟨"HosieryPlant$Parser", "startStatement", "(ZI)V"⟩, 12), (⟨"HosieryPlant$Parser", "refuse", "(I)V"⟩, 12), (⟨"HosieryPlant$Parser", "readNumber", "(II)I"⟩, 12), (⟨"HosieryPlant$Parser", "endStatement", "()V"⟩, 12), (⟨"HosieryPlant$Parser", "readSteam", "()V"⟩, 12), (⟨"HosieryPlant$Parser", "readBox", "()V"⟩, 12), (⟨"HosieryPlant$Parser", "readYarn", "(LHosieryPlant$Catalogue;)V"⟩, 12), (⟨"HosieryPlant$Parser", "nameHere", "()I"⟩, 12), (⟨"HosieryPlant$Parser", "isKeyword", "()Z"⟩, 12), (⟨"HosieryPlant$Parser", "takeNewName", "(I[II)I"⟩, 12), (⟨"HosieryPlant$Parser", "readShape", "(LHosieryPlant$Catalogue;)V"⟩, 12), (⟨"HosieryPlant$Parser", "readSize", "(LHosieryPlant$Catalogue;)V"⟩, 12), (⟨"HosieryPlant$Parser", "readPiece", "(LHosieryPlant$Catalogue;)V"⟩, 12)]
theorem lw_r1 : ∀ q ∈ lw_privs_1, lw_okq q := List.forall_mem_cons.mpr ⟨lw_p0, List.forall_mem_cons.mpr ⟨lw_p1, List.forall_mem_cons.mpr ⟨lw_p2, List.forall_mem_cons.mpr ⟨lw_p3, List.forall_mem_cons.mpr ⟨lw_p4, List.forall_mem_cons.mpr ⟨lw_p5, List.forall_mem_cons.mpr ⟨lw_p6, List.forall_mem_cons.mpr ⟨lw_p7, List.forall_mem_cons.mpr ⟨lw_p8, List.forall_mem_cons.mpr ⟨lw_p9, List.forall_mem_cons.mpr ⟨lw_p10, List.forall_mem_cons.mpr ⟨lw_p11, List.forall_mem_cons.mpr ⟨lw_p12, List.forall_mem_cons.mpr ⟨lw_p13, List.forall_mem_cons.mpr ⟨lw_p14, List.forall_mem_cons.mpr ⟨lw_p15, fun _ h => absurd h List.not_mem_nil⟩⟩⟩⟩⟩⟩⟩⟩⟩⟩⟩⟩⟩⟩⟩⟩
theorem lw_p16 : lw_okq (⟨"HosieryPlant$Parser", "takeKnownYarn", "(ILHosieryPlant$Catalogue;)I"⟩, 12) := ⟨⟨by decide +kernel, by decide +kernel⟩, List.mem_of_getElem? (i := 28) (by decide +kernel), List.mem_of_getElem? (i := 498) (by decide +kernel), List.mem_of_getElem? (i := 499) (by decide +kernel)⟩
theorem lw_p17 : lw_okq (⟨"HosieryPlant$Parser", "readKind", "()I"⟩, 12) := ⟨⟨by decide +kernel, by decide +kernel⟩, List.mem_of_getElem? (i := 28) (by decide +kernel), List.mem_of_getElem? (i := 502) (by decide +kernel), List.mem_of_getElem? (i := 503) (by decide +kernel)⟩
theorem lw_p18 : lw_okq (⟨"HosieryPlant$Parser", "readTimes", "()I"⟩, 12) := ⟨⟨by decide +kernel, by decide +kernel⟩, List.mem_of_getElem? (i := 28) (by decide +kernel), List.mem_of_getElem? (i := 506) (by decide +kernel), List.mem_of_getElem? (i := 507) (by decide +kernel)⟩
theorem lw_p19 : lw_okq (⟨"HosieryPlant", "beforeChange", "()V"⟩, 9) := ⟨⟨by decide +kernel, by decide +kernel⟩, List.mem_of_getElem? (i := 20) (by decide +kernel), List.mem_of_getElem? (i := 515) (by decide +kernel), List.mem_of_getElem? (i := 516) (by decide +kernel)⟩
theorem lw_p20 : lw_okq (⟨"HosieryPlant$History", "placeOf", "(I)LHosieryPlant$Plant;"⟩, 3) := ⟨⟨by decide +kernel, by decide +kernel⟩, List.mem_of_getElem? (i := 248) (by decide +kernel), List.mem_of_getElem? (i := 523) (by decide +kernel), List.mem_of_getElem? (i := 524) (by decide +kernel)⟩
theorem lw_p21 : lw_okq (⟨"HosieryPlant", "isPiece", "(I)Z"⟩, 9) := ⟨⟨by decide +kernel, by decide +kernel⟩, List.mem_of_getElem? (i := 20) (by decide +kernel), List.mem_of_getElem? (i := 570) (by decide +kernel), List.mem_of_getElem? (i := 571) (by decide +kernel)⟩
theorem lw_p22 : lw_okq (⟨"HosieryPlant", "isShape", "(I)Z"⟩, 9) := ⟨⟨by decide +kernel, by decide +kernel⟩, List.mem_of_getElem? (i := 20) (by decide +kernel), List.mem_of_getElem? (i := 582) (by decide +kernel), List.mem_of_getElem? (i := 583) (by decide +kernel)⟩
theorem lw_p23 : lw_okq (⟨"HosieryPlant", "setWhere", "([II)I"⟩, 9) := ⟨⟨by decide +kernel, by decide +kernel⟩, List.mem_of_getElem? (i := 20) (by decide +kernel), List.mem_of_getElem? (i := 586) (by decide +kernel), List.mem_of_getElem? (i := 587) (by decide +kernel)⟩
theorem lw_p24 : lw_okq (⟨"HosieryPlant", "areTwoPieces", "(II)Z"⟩, 9) := ⟨⟨by decide +kernel, by decide +kernel⟩, List.mem_of_getElem? (i := 20) (by decide +kernel), List.mem_of_getElem? (i := 647) (by decide +kernel), List.mem_of_getElem? (i := 648) (by decide +kernel)⟩
theorem lw_p25 : lw_okq (⟨"HosieryPlant", "findPairs", "()V"⟩, 9) := ⟨⟨by decide +kernel, by decide +kernel⟩, List.mem_of_getElem? (i := 20) (by decide +kernel), List.mem_of_getElem? (i := 662) (by decide +kernel), List.mem_of_getElem? (i := 663) (by decide +kernel)⟩
theorem lw_p26 : lw_okq (⟨"HosieryPlant$Matching", "takeMatches", "(LHosieryPlant$Plant;Z)I"⟩, 4) := ⟨⟨by decide +kernel, by decide +kernel⟩, List.mem_of_getElem? (i := 268) (by decide +kernel), List.mem_of_getElem? (i := 670) (by decide +kernel), List.mem_of_getElem? (i := 671) (by decide +kernel)⟩
theorem lw_p27 : lw_okq (⟨"HosieryPlant$Matching", "lowestPartner", "(II)I"⟩, 4) := ⟨⟨by decide +kernel, by decide +kernel⟩, List.mem_of_getElem? (i := 268) (by decide +kernel), List.mem_of_getElem? (i := 688) (by decide +kernel), List.mem_of_getElem? (i := 689) (by decide +kernel)⟩
theorem lw_p28 : lw_okq (⟨"HosieryPlant$Matching", "recall", "(I)I"⟩, 4) := ⟨⟨by decide +kernel, by decide +kernel⟩, List.mem_of_getElem? (i := 268) (by decide +kernel), List.mem_of_getElem? (i := 695) (by decide +kernel), List.mem_of_getElem? (i := 696) (by decide +kernel)⟩
theorem lw_p29 : lw_okq (⟨"HosieryPlant$Matching", "gapBetween", "(II)I"⟩, 4) := ⟨⟨by decide +kernel, by decide +kernel⟩, List.mem_of_getElem? (i := 268) (by decide +kernel), List.mem_of_getElem? (i := 712) (by decide +kernel), List.mem_of_getElem? (i := 713) (by decide +kernel)⟩
theorem lw_p30 : lw_okq (⟨"HosieryPlant$Matching", "remember", "(II)V"⟩, 4) := ⟨⟨by decide +kernel, by decide +kernel⟩, List.mem_of_getElem? (i := 268) (by decide +kernel), List.mem_of_getElem? (i := 717) (by decide +kernel), List.mem_of_getElem? (i := 718) (by decide +kernel)⟩
theorem lw_p31 : lw_okq (⟨"HosieryPlant", "pairsIfBoarded", "(II)I"⟩, 9) := ⟨⟨by decide +kernel, by decide +kernel⟩, List.mem_of_getElem? (i := 20) (by decide +kernel), List.mem_of_getElem? (i := 754) (by decide +kernel), List.mem_of_getElem? (i := 755) (by decide +kernel)⟩
def lw_privs_2 : List (MethodName × Nat) := [(⟨"HosieryPlant$Parser", "takeKnownYarn", "(ILHosieryPlant$Catalogue;)I"⟩, 12), (⟨"HosieryPlant$Parser", "readKind", "()I"⟩, 12), (⟨"HosieryPlant$Parser", "readTimes", "()I"⟩, 12), (⟨"HosieryPlant", "beforeChange", "()V"⟩, 9), (⟨"HosieryPlant$History", "placeOf", "(I)LHosieryPlant$Plant;"⟩, 3), (⟨"HosieryPlant", "isPiece", "(I)Z"⟩, 9), (⟨"HosieryPlant", "isShape", "(I)Z"⟩, 9), (⟨"HosieryPlant", "setWhere", "([II)I"⟩, 9), (⟨"HosieryPlant", "areTwoPieces", "(II)Z"⟩, 9), (⟨"HosieryPlant", "findPairs", "()V"⟩, 9), (⟨"HosieryPlant$Matching", "takeMatches", "(LHosieryPlant$Plant;Z)I"⟩, 4), (⟨"HosieryPlant$Matching", "lowestPartner", "(II)I"⟩, 4), (⟨"HosieryPlant$Matching", "recall", "(I)I"⟩, 4), (⟨"HosieryPlant$Matching", "gapBetween", "(II)I"⟩, 4), (⟨"HosieryPlant$Matching", "remember", "(II)V"⟩, 4), (⟨"HosieryPlant", "pairsIfBoarded", "(II)I"⟩, 9)]
theorem lw_r2 : ∀ q ∈ lw_privs_2, lw_okq q := List.forall_mem_cons.mpr ⟨lw_p16, List.forall_mem_cons.mpr ⟨lw_p17, List.forall_mem_cons.mpr ⟨lw_p18, List.forall_mem_cons.mpr ⟨lw_p19, List.forall_mem_cons.mpr ⟨lw_p20, List.forall_mem_cons.mpr ⟨lw_p21, List.forall_mem_cons.mpr ⟨lw_p22, List.forall_mem_cons.mpr ⟨lw_p23, List.forall_mem_cons.mpr ⟨lw_p24, List.forall_mem_cons.mpr ⟨lw_p25, List.forall_mem_cons.mpr ⟨lw_p26, List.forall_mem_cons.mpr ⟨lw_p27, List.forall_mem_cons.mpr ⟨lw_p28, List.forall_mem_cons.mpr ⟨lw_p29, List.forall_mem_cons.mpr ⟨lw_p30, List.forall_mem_cons.mpr ⟨lw_p31, fun _ h => absurd h List.not_mem_nil⟩⟩⟩⟩⟩⟩⟩⟩⟩⟩⟩⟩⟩⟩⟩⟩
theorem lw_p32 : lw_okq (⟨"HosieryPlant", "pairsWithin", "(II)I"⟩, 9) := ⟨⟨by decide +kernel, by decide +kernel⟩, List.mem_of_getElem? (i := 20) (by decide +kernel), List.mem_of_getElem? (i := 770) (by decide +kernel), List.mem_of_getElem? (i := 771) (by decide +kernel)⟩
theorem lw_p33 : lw_okq (⟨"HosieryPlant", "appendBytes", "(I)V"⟩, 9) := ⟨⟨by decide +kernel, by decide +kernel⟩, List.mem_of_getElem? (i := 20) (by decide +kernel), List.mem_of_getElem? (i := 826) (by decide +kernel), List.mem_of_getElem? (i := 827) (by decide +kernel)⟩
theorem lw_p34 : lw_okq (⟨"HosieryPlant", "writeCatalogue", "(LHosieryPlant$Catalogue;)V"⟩, 9) := ⟨⟨by decide +kernel, by decide +kernel⟩, List.mem_of_getElem? (i := 20) (by decide +kernel), List.mem_of_getElem? (i := 1134) (by decide +kernel), List.mem_of_getElem? (i := 1135) (by decide +kernel)⟩
theorem lw_p35 : lw_okq (⟨"HosieryPlant", "writeName", "(I)V"⟩, 9) := ⟨⟨by decide +kernel, by decide +kernel⟩, List.mem_of_getElem? (i := 20) (by decide +kernel), List.mem_of_getElem? (i := 1139) (by decide +kernel), List.mem_of_getElem? (i := 1140) (by decide +kernel)⟩
def lw_privs_3 : List (MethodName × Nat) := [(⟨"HosieryPlant", "pairsWithin", "(II)I"⟩, 9), (⟨"HosieryPlant", "appendBytes", "(I)V"⟩, 9), (⟨"HosieryPlant", "writeCatalogue", "(LHosieryPlant$Catalogue;)V"⟩, 9), (⟨"HosieryPlant", "writeName", "(I)V"⟩, 9)]
theorem lw_r3 : ∀ q ∈ lw_privs_3, lw_okq q := List.forall_mem_cons.mpr ⟨lw_p32, List.forall_mem_cons.mpr ⟨lw_p33, List.forall_mem_cons.mpr ⟨lw_p34, List.forall_mem_cons.mpr ⟨lw_p35, fun _ h => absurd h List.not_mem_nil⟩⟩⟩⟩
def lw_privs : List (MethodName × Nat) := lw_privs_1 ++ (lw_privs_2 ++ (lw_privs_3))
def lw_tbl : List Cond := k2_sels lw_privs ++ tables_1
theorem lw_privs_ok : ∀ q ∈ lw_privs, lw_okq q := by
  show ∀ q ∈ lw_privs_1 ++ (lw_privs_2 ++ (lw_privs_3)), lw_okq q
  exact List.forall_mem_append.mpr ⟨lw_r1, List.forall_mem_append.mpr ⟨lw_r2, lw_r3⟩⟩
def RX0 : String := "HosieryPlant$Catalogue"
def TX0 : u_T := fun k => match k with
  | 0 => ("HosieryPlant$Catalogue", "yarns", "I", false)
  | 1 => ("HosieryPlant$Catalogue", "shapes", "I", false)
  | 2 => ("HosieryPlant$Catalogue", "sizes", "I", false)
  | 3 => ("HosieryPlant$Catalogue", "yarnNames", "[I", true)
  | 4 => ("HosieryPlant$Catalogue", "stretches", "[I", true)
  | 5 => ("HosieryPlant$Catalogue", "recoveries", "[I", true)
  | 6 => ("HosieryPlant$Catalogue", "shapeNames", "[I", true)
  | 7 => ("HosieryPlant$Catalogue", "shapeLengths", "[I", true)
  | 8 => ("HosieryPlant$Catalogue", "sizeNames", "[I", true)
  | 9 => ("HosieryPlant$Catalogue", "sizeLeasts", "[I", true)
  | _ => ("HosieryPlant$Catalogue", "sizeGreatests", "[I", true)
def tyX0 : Nat → FieldType := fun k => match k with
  | 0 => .int
  | 1 => .int
  | 2 => .int
  | 3 => .array .int
  | 4 => .array .int
  | 5 => .array .int
  | 6 => .array .int
  | 7 => .array .int
  | 8 => .array .int
  | 9 => .array .int
  | _ => .array .int
abbrev wsX00 : List Cond := u_ws RX0 TX0 11
theorem nmX0 : ∀ a, a < 11 → ∀ b, b < 11 → a ≠ b → (TX0 a).2.1 ≠ (TX0 b).2.1 := by decide +kernel
theorem tyX0_ok : ∀ k, k < 11 → parseFieldDescriptor (TX0 k).2.2.1 = some (tyX0 k) := by decide +kernel
abbrev cX0_init : ByteArray := prog_2_method_1_code
def yX0_init : MethodName := ⟨RX0, "<init>", "()V"⟩
abbrev cX0_takeAll : ByteArray := prog_2_method_2_code
def yX0_takeAll : MethodName := ⟨RX0, "takeAll", "(LHosieryPlant$Catalogue;)V"⟩
def RX1 : String := "HosieryPlant$History"
def TX1 : u_T := fun k => match k with
  | 0 => ("HosieryPlant$History", "count", "I", false)
  | 1 => ("HosieryPlant$History", "oldest", "I", false)
  | _ => ("HosieryPlant$History", "kept", "[LHosieryPlant$Plant;", true)
def tyX1 : Nat → FieldType := fun k => match k with
  | 0 => .int
  | 1 => .int
  | _ => .array (.object "HosieryPlant$Plant")
abbrev wsX10 : List Cond := u_ws RX1 TX1 3
theorem nmX1 : ∀ a, a < 3 → ∀ b, b < 3 → a ≠ b → (TX1 a).2.1 ≠ (TX1 b).2.1 := by decide +kernel
theorem tyX1_ok : ∀ k, k < 3 → parseFieldDescriptor (TX1 k).2.2.1 = some (tyX1 k) := by decide +kernel
abbrev cX1_init : ByteArray := prog_3_method_1_code
def yX1_init : MethodName := ⟨RX1, "<init>", "()V"⟩
abbrev cX1_keep : ByteArray := prog_3_method_2_code
def yX1_keep : MethodName := ⟨RX1, "keep", "(LHosieryPlant$Plant;)V"⟩
abbrev cX1_takeBack : ByteArray := prog_3_method_3_code
def yX1_takeBack : MethodName := ⟨RX1, "takeBack", "(LHosieryPlant$Plant;)V"⟩
abbrev cX1_placeOf : ByteArray := prog_3_method_4_code
def yX1_placeOf : MethodName := ⟨RX1, "placeOf", "(I)LHosieryPlant$Plant;"⟩
def RX2 : String := "HosieryPlant$Matching"
def TX2 : u_T := fun k => match k with
  | 0 => ("HosieryPlant$Matching", "friends", "[I", true)
  | 1 => ("HosieryPlant$Matching", "gaps", "[I", true)
  | 2 => ("HosieryPlant$Matching", "kept", "[J", true)
  | _ => ("HosieryPlant$Matching", "round", "J", false)
def tyX2 : Nat → FieldType := fun k => match k with
  | 0 => .array .int
  | 1 => .array .int
  | 2 => .array .long
  | _ => .long
abbrev wsX20 : List Cond := u_ws RX2 TX2 4
theorem nmX2 : ∀ a, a < 4 → ∀ b, b < 4 → a ≠ b → (TX2 a).2.1 ≠ (TX2 b).2.1 := by decide +kernel
theorem tyX2_ok : ∀ k, k < 4 → parseFieldDescriptor (TX2 k).2.2.1 = some (tyX2 k) := by decide +kernel
abbrev cX2_init : ByteArray := prog_4_method_1_code
def yX2_init : MethodName := ⟨RX2, "<init>", "()V"⟩
abbrev cX2_mostPairs : ByteArray := prog_4_method_2_code
def yX2_mostPairs : MethodName := ⟨RX2, "mostPairs", "(LHosieryPlant$Plant;)I"⟩
abbrev cX2_pairUp : ByteArray := prog_4_method_3_code
def yX2_pairUp : MethodName := ⟨RX2, "pairUp", "(LHosieryPlant$Plant;LHosieryPlant$Pairing;)V"⟩
abbrev cX2_takeMatches : ByteArray := prog_4_method_4_code
def yX2_takeMatches : MethodName := ⟨RX2, "takeMatches", "(LHosieryPlant$Plant;Z)I"⟩
abbrev cX2_gapBetween : ByteArray := prog_4_method_5_code
def yX2_gapBetween : MethodName := ⟨RX2, "gapBetween", "(II)I"⟩
abbrev cX2_lowestPartner : ByteArray := prog_4_method_6_code
def yX2_lowestPartner : MethodName := ⟨RX2, "lowestPartner", "(II)I"⟩
abbrev cX2_worthOf : ByteArray := prog_4_method_7_code
def yX2_worthOf : MethodName := ⟨RX2, "worthOf", "(LHosieryPlant$Matching;II)I"⟩
abbrev cX2_recall : ByteArray := prog_4_method_8_code
def yX2_recall : MethodName := ⟨RX2, "recall", "(I)I"⟩
abbrev cX2_remember : ByteArray := prog_4_method_9_code
def yX2_remember : MethodName := ⟨RX2, "remember", "(II)V"⟩
def RX3 : String := "HosieryPlant$Pairing"
def TX3 : u_T := fun k => match k with
  | 0 => ("HosieryPlant$Pairing", "known", "Z", false)
  | 1 => ("HosieryPlant$Pairing", "pairs", "I", false)
  | 2 => ("HosieryPlant$Pairing", "gapSum", "I", false)
  | _ => ("HosieryPlant$Pairing", "partners", "[I", true)
def tyX3 : Nat → FieldType := fun k => match k with
  | 0 => .boolean
  | 1 => .int
  | 2 => .int
  | _ => .array .int
abbrev wsX30 : List Cond := u_ws RX3 TX3 4
theorem nmX3 : ∀ a, a < 4 → ∀ b, b < 4 → a ≠ b → (TX3 a).2.1 ≠ (TX3 b).2.1 := by decide +kernel
theorem tyX3_ok : ∀ k, k < 4 → parseFieldDescriptor (TX3 k).2.2.1 = some (tyX3 k) := by decide +kernel
abbrev cX3_init : ByteArray := prog_5_method_1_code
def yX3_init : MethodName := ⟨RX3, "<init>", "()V"⟩
abbrev cX3_dissolve : ByteArray := prog_5_method_2_code
def yX3_dissolve : MethodName := ⟨RX3, "dissolve", "()V"⟩
abbrev cX3_join : ByteArray := prog_5_method_3_code
def yX3_join : MethodName := ⟨RX3, "join", "(III)V"⟩
abbrev cX3_lowerOf : ByteArray := prog_5_method_4_code
def yX3_lowerOf : MethodName := ⟨RX3, "lowerOf", "(I)I"⟩
def RX4 : String := "HosieryPlant$Parser"
def TX4 : u_T := fun k => match k with
  | 0 => ("HosieryPlant$Parser", "draft", "LHosieryPlant$Plant;", true)
  | 1 => ("HosieryPlant$Parser", "code", "I", false)
  | 2 => ("HosieryPlant$Parser", "position", "I", false)
  | 3 => ("HosieryPlant$Parser", "text", "[I", true)
  | 4 => ("HosieryPlant$Parser", "textLength", "I", false)
  | 5 => ("HosieryPlant$Parser", "token", "I", false)
  | 6 => ("HosieryPlant$Parser", "start", "I", false)
  | 7 => ("HosieryPlant$Parser", "next", "I", false)
  | 8 => ("HosieryPlant$Parser", "value", "I", false)
  | 9 => ("HosieryPlant$Parser", "toleranceSeen", "Z", false)
  | 10 => ("HosieryPlant$Parser", "steamSeen", "Z", false)
  | _ => ("HosieryPlant$Parser", "boxSeen", "Z", false)
def tyX4 : Nat → FieldType := fun k => match k with
  | 0 => .object "HosieryPlant$Plant"
  | 1 => .int
  | 2 => .int
  | 3 => .array .int
  | 4 => .int
  | 5 => .int
  | 6 => .int
  | 7 => .int
  | 8 => .int
  | 9 => .boolean
  | 10 => .boolean
  | _ => .boolean
abbrev wsX40 : List Cond := u_ws RX4 TX4 12
theorem nmX4 : ∀ a, a < 12 → ∀ b, b < 12 → a ≠ b → (TX4 a).2.1 ≠ (TX4 b).2.1 := by decide +kernel
theorem tyX4_ok : ∀ k, k < 12 → parseFieldDescriptor (TX4 k).2.2.1 = some (tyX4 k) := by decide +kernel
abbrev cX4_init : ByteArray := prog_6_method_1_code
def yX4_init : MethodName := ⟨RX4, "<init>", "()V"⟩
abbrev cX4_read : ByteArray := prog_6_method_2_code
def yX4_read : MethodName := ⟨RX4, "read", "(I)Z"⟩
abbrev cX4_readTolerance : ByteArray := prog_6_method_3_code
def yX4_readTolerance : MethodName := ⟨RX4, "readTolerance", "()V"⟩
abbrev cX4_readSteam : ByteArray := prog_6_method_4_code
def yX4_readSteam : MethodName := ⟨RX4, "readSteam", "()V"⟩
abbrev cX4_readBox : ByteArray := prog_6_method_5_code
def yX4_readBox : MethodName := ⟨RX4, "readBox", "()V"⟩
abbrev cX4_readYarn : ByteArray := prog_6_method_6_code
def yX4_readYarn : MethodName := ⟨RX4, "readYarn", "(LHosieryPlant$Catalogue;)V"⟩
abbrev cX4_readShape : ByteArray := prog_6_method_7_code
def yX4_readShape : MethodName := ⟨RX4, "readShape", "(LHosieryPlant$Catalogue;)V"⟩
abbrev cX4_readSize : ByteArray := prog_6_method_8_code
def yX4_readSize : MethodName := ⟨RX4, "readSize", "(LHosieryPlant$Catalogue;)V"⟩
abbrev cX4_readPiece : ByteArray := prog_6_method_9_code
def yX4_readPiece : MethodName := ⟨RX4, "readPiece", "(LHosieryPlant$Catalogue;)V"⟩
abbrev cX4_readTimes : ByteArray := prog_6_method_10_code
def yX4_readTimes : MethodName := ⟨RX4, "readTimes", "()I"⟩
abbrev cX4_startStatement : ByteArray := prog_6_method_11_code
def yX4_startStatement : MethodName := ⟨RX4, "startStatement", "(ZI)V"⟩
abbrev cX4_endStatement : ByteArray := prog_6_method_12_code
def yX4_endStatement : MethodName := ⟨RX4, "endStatement", "()V"⟩
abbrev cX4_readNumber : ByteArray := prog_6_method_13_code
def yX4_readNumber : MethodName := ⟨RX4, "readNumber", "(II)I"⟩
abbrev cX4_takeNewName : ByteArray := prog_6_method_14_code
def yX4_takeNewName : MethodName := ⟨RX4, "takeNewName", "(I[II)I"⟩
abbrev cX4_takeKnownYarn : ByteArray := prog_6_method_15_code
def yX4_takeKnownYarn : MethodName := ⟨RX4, "takeKnownYarn", "(ILHosieryPlant$Catalogue;)I"⟩
abbrev cX4_nameHere : ByteArray := prog_6_method_16_code
def yX4_nameHere : MethodName := ⟨RX4, "nameHere", "()I"⟩
abbrev cX4_readKind : ByteArray := prog_6_method_17_code
def yX4_readKind : MethodName := ⟨RX4, "readKind", "()I"⟩
abbrev cX4_isKeyword : ByteArray := prog_6_method_18_code
def yX4_isKeyword : MethodName := ⟨RX4, "isKeyword", "()Z"⟩
abbrev cX4_spells : ByteArray := prog_6_method_19_code
def yX4_spells : MethodName := ⟨RX4, "spells", "(Ljava/lang/String;)Z"⟩
abbrev cX4_refuse : ByteArray := prog_6_method_20_code
def yX4_refuse : MethodName := ⟨RX4, "refuse", "(I)V"⟩
abbrev cX4_advance : ByteArray := prog_6_method_21_code
def yX4_advance : MethodName := ⟨RX4, "advance", "()V"⟩
abbrev cX4_isBlank : ByteArray := prog_6_method_22_code
def yX4_isBlank : MethodName := ⟨RX4, "isBlank", "(I)Z"⟩
abbrev cX4_isDigit : ByteArray := prog_6_method_23_code
def yX4_isDigit : MethodName := ⟨RX4, "isDigit", "(I)Z"⟩
def RX5 : String := "HosieryPlant$Plant"
def TX5 : u_T := fun k => match k with
  | 0 => ("HosieryPlant$Plant", "catalogue", "LHosieryPlant$Catalogue;", true)
  | 1 => ("HosieryPlant$Plant", "lengthTolerance", "I", false)
  | 2 => ("HosieryPlant$Plant", "shadeTolerance", "I", false)
  | 3 => ("HosieryPlant$Plant", "strength", "I", false)
  | 4 => ("HosieryPlant$Plant", "box", "I", false)
  | 5 => ("HosieryPlant$Plant", "days", "I", false)
  | 6 => ("HosieryPlant$Plant", "pieces", "I", false)
  | 7 => ("HosieryPlant$Plant", "yarns", "[I", true)
  | 8 => ("HosieryPlant$Plant", "kinds", "[I", true)
  | 9 => ("HosieryPlant$Plant", "knitted", "[I", true)
  | 10 => ("HosieryPlant$Plant", "lengths", "[I", true)
  | 11 => ("HosieryPlant$Plant", "shades", "[I", true)
  | _ => ("HosieryPlant$Plant", "states", "[I", true)
def tyX5 : Nat → FieldType := fun k => match k with
  | 0 => .object "HosieryPlant$Catalogue"
  | 1 => .int
  | 2 => .int
  | 3 => .int
  | 4 => .int
  | 5 => .int
  | 6 => .int
  | 7 => .array .int
  | 8 => .array .int
  | 9 => .array .int
  | 10 => .array .int
  | 11 => .array .int
  | _ => .array .int
abbrev wsX50 : List Cond := u_ws RX5 TX5 13
theorem nmX5 : ∀ a, a < 13 → ∀ b, b < 13 → a ≠ b → (TX5 a).2.1 ≠ (TX5 b).2.1 := by decide +kernel
theorem tyX5_ok : ∀ k, k < 13 → parseFieldDescriptor (TX5 k).2.2.1 = some (tyX5 k) := by decide +kernel
abbrev cX5_init : ByteArray := prog_7_method_1_code
def yX5_init : MethodName := ⟨RX5, "<init>", "()V"⟩
abbrev cX5_makeEmpty : ByteArray := prog_7_method_2_code
def yX5_makeEmpty : MethodName := ⟨RX5, "makeEmpty", "()V"⟩
abbrev cX5_copyFrom : ByteArray := prog_7_method_3_code
def yX5_copyFrom : MethodName := ⟨RX5, "copyFrom", "(LHosieryPlant$Plant;)V"⟩
abbrev cX5_addPiece : ByteArray := prog_7_method_4_code
def yX5_addPiece : MethodName := ⟨RX5, "addPiece", "(IIII)V"⟩
abbrev cX5_isBoarded : ByteArray := prog_7_method_5_code
def yX5_isBoarded : MethodName := ⟨RX5, "isBoarded", "(I)Z"⟩
abbrev cX5_stretchOf : ByteArray := prog_7_method_7_code
def yX5_stretchOf : MethodName := ⟨RX5, "stretchOf", "(I)I"⟩
abbrev cX5_reachOf : ByteArray := prog_7_method_8_code
def yX5_reachOf : MethodName := ⟨RX5, "reachOf", "(I)I"⟩
abbrev cX5_lengthOn : ByteArray := prog_7_method_9_code
def yX5_lengthOn : MethodName := ⟨RX5, "lengthOn", "(II)I"⟩
abbrev cX5_boardOn : ByteArray := prog_7_method_10_code
def yX5_boardOn : MethodName := ⟨RX5, "boardOn", "(II)Z"⟩
abbrev cX5_boardRaw : ByteArray := prog_7_method_11_code
def yX5_boardRaw : MethodName := ⟨RX5, "boardRaw", "(I)I"⟩
abbrev cX5_passDay : ByteArray := prog_7_method_12_code
def yX5_passDay : MethodName := ⟨RX5, "passDay", "()I"⟩
abbrev cX5_fits : ByteArray := prog_7_method_15_code
def yX5_fits : MethodName := ⟨RX5, "fits", "(II)Z"⟩
abbrev cX5_gapOf : ByteArray := prog_7_method_16_code
def yX5_gapOf : MethodName := ⟨RX5, "gapOf", "(II)I"⟩
abbrev cX5_matchSet : ByteArray := prog_7_method_17_code
def yX5_matchSet : MethodName := ⟨RX5, "matchSet", "(I)I"⟩
def RX6 : String := "HosieryPlant"
def TX6 : u_T := fun k => match k with
  | 0 => ("HosieryPlant", "input", "[I", true)
  | 1 => ("HosieryPlant", "inputLength", "I", false)
  | 2 => ("HosieryPlant", "output", "Ljava/lang/StringBuilder;", true)
  | 3 => ("HosieryPlant", "parser", "LHosieryPlant$Parser;", true)
  | 4 => ("HosieryPlant", "plant", "LHosieryPlant$Plant;", true)
  | 5 => ("HosieryPlant", "trial", "LHosieryPlant$Plant;", true)
  | 6 => ("HosieryPlant", "history", "LHosieryPlant$History;", true)
  | 7 => ("HosieryPlant", "matching", "LHosieryPlant$Matching;", true)
  | _ => ("HosieryPlant", "pairing", "LHosieryPlant$Pairing;", true)
def tyX6 : Nat → FieldType := fun k => match k with
  | 0 => .array .int
  | 1 => .int
  | 2 => .object "java/lang/StringBuilder"
  | 3 => .object "HosieryPlant$Parser"
  | 4 => .object "HosieryPlant$Plant"
  | 5 => .object "HosieryPlant$Plant"
  | 6 => .object "HosieryPlant$History"
  | 7 => .object "HosieryPlant$Matching"
  | _ => .object "HosieryPlant$Pairing"
abbrev wsX60 : List Cond := u_ws RX6 TX6 9
theorem nmX6 : ∀ a, a < 9 → ∀ b, b < 9 → a ≠ b → (TX6 a).2.1 ≠ (TX6 b).2.1 := by decide +kernel
theorem tyX6_ok : ∀ k, k < 9 → parseFieldDescriptor (TX6 k).2.2.1 = some (tyX6 k) := by decide +kernel
abbrev cX6_init : ByteArray := prog_1_method_1_code
def yX6_init : MethodName := ⟨RX6, "<init>", "()V"⟩
abbrev cX6_append : ByteArray := prog_1_method_2_code
def yX6_append : MethodName := ⟨RX6, "append", "(IIIII)I"⟩
abbrev cX6_truncate : ByteArray := prog_1_method_3_code
def yX6_truncate : MethodName := ⟨RX6, "truncate", "(I)I"⟩
abbrev cX6_load : ByteArray := prog_1_method_4_code
def yX6_load : MethodName := ⟨RX6, "load", "()I"⟩
abbrev cX6_errorCode : ByteArray := prog_1_method_5_code
def yX6_errorCode : MethodName := ⟨RX6, "errorCode", "()I"⟩
abbrev cX6_errorPosition : ByteArray := prog_1_method_6_code
def yX6_errorPosition : MethodName := ⟨RX6, "errorPosition", "()I"⟩
abbrev cX6_find : ByteArray := prog_1_method_7_code
def yX6_find : MethodName := ⟨RX6, "find", "(I)I"⟩
abbrev cX6_pieceCount : ByteArray := prog_1_method_11_code
def yX6_pieceCount : MethodName := ⟨RX6, "pieceCount", "()I"⟩
abbrev cX6_days : ByteArray := prog_1_method_12_code
def yX6_days : MethodName := ⟨RX6, "days", "()I"⟩
abbrev cX6_undoCount : ByteArray := prog_1_method_13_code
def yX6_undoCount : MethodName := ⟨RX6, "undoCount", "()I"⟩
abbrev cX6_lengthTolerance : ByteArray := prog_1_method_14_code
def yX6_lengthTolerance : MethodName := ⟨RX6, "lengthTolerance", "()I"⟩
abbrev cX6_shadeTolerance : ByteArray := prog_1_method_15_code
def yX6_shadeTolerance : MethodName := ⟨RX6, "shadeTolerance", "()I"⟩
abbrev cX6_steam : ByteArray := prog_1_method_16_code
def yX6_steam : MethodName := ⟨RX6, "steam", "()I"⟩
abbrev cX6_shade : ByteArray := prog_1_method_19_code
def yX6_shade : MethodName := ⟨RX6, "shade", "(I)I"⟩
abbrev cX6_state : ByteArray := prog_1_method_22_code
def yX6_state : MethodName := ⟨RX6, "state", "(I)I"⟩
abbrev cX6_boardAll : ByteArray := prog_1_method_34_code
def yX6_boardAll : MethodName := ⟨RX6, "boardAll", "(I)I"⟩
abbrev cX6_day : ByteArray := prog_1_method_35_code
def yX6_day : MethodName := ⟨RX6, "day", "()I"⟩
abbrev cX6_dye : ByteArray := prog_1_method_36_code
def yX6_dye : MethodName := ⟨RX6, "dye", "(II)I"⟩
abbrev cX6_setTolerance : ByteArray := prog_1_method_37_code
def yX6_setTolerance : MethodName := ⟨RX6, "setTolerance", "(II)I"⟩
abbrev cX6_setSteam : ByteArray := prog_1_method_38_code
def yX6_setSteam : MethodName := ⟨RX6, "setSteam", "(I)I"⟩
abbrev cX6_undo : ByteArray := prog_1_method_41_code
def yX6_undo : MethodName := ⟨RX6, "undo", "()I"⟩
abbrev cX6_gap : ByteArray := prog_1_method_43_code
def yX6_gap : MethodName := ⟨RX6, "gap", "(II)I"⟩
abbrev cX6_pairCount : ByteArray := prog_1_method_46_code
def yX6_pairCount : MethodName := ⟨RX6, "pairCount", "()I"⟩
abbrev cX6_pair : ByteArray := prog_1_method_49_code
def yX6_pair : MethodName := ⟨RX6, "pair", "(I)I"⟩
abbrev cX6_worstPair : ByteArray := prog_1_method_51_code
def yX6_worstPair : MethodName := ⟨RX6, "worstPair", "()I"⟩
abbrev cX6_ifDays : ByteArray := prog_1_method_55_code
def yX6_ifDays : MethodName := ⟨RX6, "ifDays", "(I)I"⟩
abbrev cX6_bestDay : ByteArray := prog_1_method_56_code
def yX6_bestDay : MethodName := ⟨RX6, "bestDay", "(I)I"⟩
abbrev cX6_ifAllBoarded : ByteArray := prog_1_method_58_code
def yX6_ifAllBoarded : MethodName := ⟨RX6, "ifAllBoarded", "(I)I"⟩
abbrev cX6_bestShape : ByteArray := prog_1_method_59_code
def yX6_bestShape : MethodName := ⟨RX6, "bestShape", "()I"⟩
abbrev cX6_leastSteam : ByteArray := prog_1_method_60_code
def yX6_leastSteam : MethodName := ⟨RX6, "leastSteam", "(II)I"⟩
abbrev cX6_leastTolerance : ByteArray := prog_1_method_61_code
def yX6_leastTolerance : MethodName := ⟨RX6, "leastTolerance", "(I)I"⟩
abbrev cX6_ifTolerance : ByteArray := prog_1_method_62_code
def yX6_ifTolerance : MethodName := ⟨RX6, "ifTolerance", "(II)I"⟩
abbrev cX6_bestDye : ByteArray := prog_1_method_63_code
def yX6_bestDye : MethodName := ⟨RX6, "bestDye", "(I)I"⟩
abbrev cX6_writePlant : ByteArray := prog_1_method_64_code
def yX6_writePlant : MethodName := ⟨RX6, "writePlant", "()I"⟩
abbrev cX6_outputByte : ByteArray := prog_1_method_65_code
def yX6_outputByte : MethodName := ⟨RX6, "outputByte", "(I)I"⟩
abbrev cX6_appendBytes : ByteArray := prog_1_method_66_code
def yX6_appendBytes : MethodName := ⟨RX6, "appendBytes", "(I)V"⟩
abbrev cX6_beforeChange : ByteArray := prog_1_method_67_code
def yX6_beforeChange : MethodName := ⟨RX6, "beforeChange", "()V"⟩
abbrev cX6_findPairs : ByteArray := prog_1_method_68_code
def yX6_findPairs : MethodName := ⟨RX6, "findPairs", "()V"⟩
abbrev cX6_isPiece : ByteArray := prog_1_method_69_code
def yX6_isPiece : MethodName := ⟨RX6, "isPiece", "(I)Z"⟩
abbrev cX6_areTwoPieces : ByteArray := prog_1_method_70_code
def yX6_areTwoPieces : MethodName := ⟨RX6, "areTwoPieces", "(II)Z"⟩
abbrev cX6_isShape : ByteArray := prog_1_method_71_code
def yX6_isShape : MethodName := ⟨RX6, "isShape", "(I)Z"⟩
abbrev cX6_areTolerances : ByteArray := prog_1_method_73_code
def yX6_areTolerances : MethodName := ⟨RX6, "areTolerances", "(II)Z"⟩
abbrev cX6_setWhere : ByteArray := prog_1_method_74_code
def yX6_setWhere : MethodName := ⟨RX6, "setWhere", "([II)I"⟩
abbrev cX6_pairsIfBoarded : ByteArray := prog_1_method_75_code
def yX6_pairsIfBoarded : MethodName := ⟨RX6, "pairsIfBoarded", "(II)I"⟩
abbrev cX6_pairsWithin : ByteArray := prog_1_method_76_code
def yX6_pairsWithin : MethodName := ⟨RX6, "pairsWithin", "(II)I"⟩
abbrev cX6_writeCatalogue : ByteArray := prog_1_method_82_code
def yX6_writeCatalogue : MethodName := ⟨RX6, "writeCatalogue", "(LHosieryPlant$Catalogue;)V"⟩
abbrev cX6_writeName : ByteArray := prog_1_method_83_code
def yX6_writeName : MethodName := ⟨RX6, "writeName", "(I)V"⟩
abbrev cX6_kindWord : ByteArray := prog_1_method_84_code
def yX6_kindWord : MethodName := ⟨RX6, "kindWord", "(I)Ljava/lang/String;"⟩
abbrev cX6_at : ByteArray := prog_1_method_85_code
def yX6_at : MethodName := ⟨RX6, "at", "([II)I"⟩
abbrev cX6_put : ByteArray := prog_1_method_86_code
def yX6_put : MethodName := ⟨RX6, "put", "([III)V"⟩
abbrev cX6_copyRow : ByteArray := prog_1_method_87_code
def yX6_copyRow : MethodName := ⟨RX6, "copyRow", "([I[I)V"⟩
abbrev cX6_isBetween : ByteArray := prog_1_method_88_code
def yX6_isBetween : MethodName := ⟨RX6, "isBetween", "(III)Z"⟩
abbrev cX6_contains : ByteArray := prog_1_method_89_code
def yX6_contains : MethodName := ⟨RX6, "contains", "(II)Z"⟩
abbrev cX6_lowestOf : ByteArray := prog_1_method_90_code
def yX6_lowestOf : MethodName := ⟨RX6, "lowestOf", "(I)I"⟩
abbrev cX6_isLetter : ByteArray := prog_1_method_91_code
def yX6_isLetter : MethodName := ⟨RX6, "isLetter", "(I)Z"⟩
abbrev cX6_packName : ByteArray := prog_1_method_92_code
def yX6_packName : MethodName := ⟨RX6, "packName", "([III)I"⟩
abbrev cX6_indexOfName : ByteArray := prog_1_method_93_code
def yX6_indexOfName : MethodName := ⟨RX6, "indexOfName", "([III)I"⟩
def RX7 : String := "HosieryPlantModel"
def TX7 : u_T := fun k => match k with
  | _ => ("", "", "", false)
def tyX7 : Nat → FieldType := fun k => match k with
  | _ => .int
abbrev wsX70 : List Cond := u_ws RX7 TX7 0
theorem nmX7 : ∀ a, a < 0 → ∀ b, b < 0 → a ≠ b → (TX7 a).2.1 ≠ (TX7 b).2.1 := by decide +kernel
theorem tyX7_ok : ∀ k, k < 0 → parseFieldDescriptor (TX7 k).2.2.1 = some (tyX7 k) := by decide +kernel
def RJ5 : String := "java/lang/AbstractStringBuilder"
def TJ5 : u_T := fun k => match k with
  | _ => ("", "", "", false)
def tyJ5 : Nat → FieldType := fun k => match k with
  | _ => .int
abbrev wsJ50 : List Cond := u_ws RJ5 TJ5 0
theorem nmJ5 : ∀ a, a < 0 → ∀ b, b < 0 → a ≠ b → (TJ5 a).2.1 ≠ (TJ5 b).2.1 := by decide +kernel
theorem tyJ5_ok : ∀ k, k < 0 → parseFieldDescriptor (TJ5 k).2.2.1 = some (tyJ5 k) := by decide +kernel
abbrev cJ5_init_d00df : ByteArray := prog_10_method_2_code
def yJ5_init_d00df : MethodName := ⟨RJ5, "<init>", "(I)V"⟩
abbrev cJ5_init_a7421 : ByteArray := prog_10_method_3_code
def yJ5_init_a7421 : MethodName := ⟨RJ5, "<init>", "(Ljava/lang/String;)V"⟩
abbrev cJ5_length_8abf5 : ByteArray := prog_10_method_6_code
def yJ5_length_8abf5 : MethodName := ⟨RJ5, "length", "()I"⟩
abbrev cJ5_ensureCapacityInternal_d00df : ByteArray := prog_10_method_9_code
def yJ5_ensureCapacityInternal_d00df : MethodName := ⟨RJ5, "ensureCapacityInternal", "(I)V"⟩
abbrev cJ5_newCapacity_0f7a4 : ByteArray := prog_10_method_10_code
def yJ5_newCapacity_0f7a4 : MethodName := ⟨RJ5, "newCapacity", "(I)I"⟩
abbrev cJ5_inflate_da8c8 : ByteArray := prog_10_method_11_code
def yJ5_inflate_da8c8 : MethodName := ⟨RJ5, "inflate", "()V"⟩
abbrev cJ5_setLength_d00df : ByteArray := prog_10_method_13_code
def yJ5_setLength_d00df : MethodName := ⟨RJ5, "setLength", "(I)V"⟩
abbrev cJ5_charAt_5068e : ByteArray := prog_10_method_14_code
def yJ5_charAt_5068e : MethodName := ⟨RJ5, "charAt", "(I)C"⟩
abbrev cJ5_append_cf1ce : ByteArray := prog_10_method_22_code
def yJ5_append_cf1ce : MethodName := ⟨RJ5, "append", "(Ljava/lang/String;)Ljava/lang/AbstractStringBuilder;"⟩
abbrev cJ5_appendNull_278bc : ByteArray := prog_10_method_26_code
def yJ5_appendNull_278bc : MethodName := ⟨RJ5, "appendNull", "()Ljava/lang/AbstractStringBuilder;"⟩
abbrev cJ5_append_3fe6f : ByteArray := prog_10_method_31_code
def yJ5_append_3fe6f : MethodName := ⟨RJ5, "append", "(C)Ljava/lang/AbstractStringBuilder;"⟩
abbrev cJ5_append_c97b9 : ByteArray := prog_10_method_32_code
def yJ5_append_c97b9 : MethodName := ⟨RJ5, "append", "(I)Ljava/lang/AbstractStringBuilder;"⟩
abbrev cJ5_getValue_6d5f1 : ByteArray := prog_10_method_64_code
def yJ5_getValue_6d5f1 : MethodName := ⟨RJ5, "getValue", "()[B"⟩
abbrev cJ5_isLatin1_aae02 : ByteArray := prog_10_method_68_code
def yJ5_isLatin1_aae02 : MethodName := ⟨RJ5, "isLatin1", "()Z"⟩
abbrev cJ5_inflateIfNeededFor_a7421 : ByteArray := prog_10_method_71_code
def yJ5_inflateIfNeededFor_a7421 : MethodName := ⟨RJ5, "inflateIfNeededFor", "(Ljava/lang/String;)V"⟩
abbrev cJ5_putStringAt_47b60 : ByteArray := prog_10_method_73_code
def yJ5_putStringAt_47b60 : MethodName := ⟨RJ5, "putStringAt", "(ILjava/lang/String;)V"⟩
def RJx8e188 : String := "java/lang/Cloneable"
def TJx8e188 : u_T := fun k => match k with
  | _ => ("", "", "", false)
def tyJx8e188 : Nat → FieldType := fun k => match k with
  | _ => .int
theorem nmJx8e188 : ∀ a, a < 0 → ∀ b, b < 0 → a ≠ b → (TJx8e188 a).2.1 ≠ (TJx8e188 b).2.1 := by decide +kernel
theorem tyJx8e188_ok : ∀ k, k < 0 → parseFieldDescriptor (TJx8e188 k).2.2.1 = some (tyJx8e188 k) := by decide +kernel
def RJ6 : String := "java/lang/Integer"
def TJ6 : u_T := fun k => match k with
  | _ => ("", "", "", false)
def tyJ6 : Nat → FieldType := fun k => match k with
  | _ => .int
abbrev wsJ60 : List Cond := u_ws RJ6 TJ6 0
theorem nmJ6 : ∀ a, a < 0 → ∀ b, b < 0 → a ≠ b → (TJ6 a).2.1 ≠ (TJ6 b).2.1 := by decide +kernel
theorem tyJ6_ok : ∀ k, k < 0 → parseFieldDescriptor (TJ6 k).2.2.1 = some (tyJ6 k) := by decide +kernel
abbrev cJ6_getChars_ba4f3 : ByteArray := prog_12_method_12_code
def yJ6_getChars_ba4f3 : MethodName := ⟨RJ6, "getChars", "(II[B)I"⟩
abbrev cJ6_stringSize_0f7a4 : ByteArray := prog_12_method_13_code
def yJ6_stringSize_0f7a4 : MethodName := ⟨RJ6, "stringSize", "(I)I"⟩
abbrev cJ6_bitCount_0f7a4 : ByteArray := prog_12_method_49_code
def yJ6_bitCount_0f7a4 : MethodName := ⟨RJ6, "bitCount", "(I)I"⟩
def RJ9 : String := "java/lang/Math"
def TJ9 : u_T := fun k => match k with
  | _ => ("", "", "", false)
def tyJ9 : Nat → FieldType := fun k => match k with
  | _ => .int
abbrev wsJ90 : List Cond := u_ws RJ9 TJ9 0
theorem nmJ9 : ∀ a, a < 0 → ∀ b, b < 0 → a ≠ b → (TJ9 a).2.1 ≠ (TJ9 b).2.1 := by decide +kernel
theorem tyJ9_ok : ∀ k, k < 0 → parseFieldDescriptor (TJ9 k).2.2.1 = some (tyJ9 k) := by decide +kernel
abbrev cJ9_abs_0f7a4 : ByteArray := prog_13_method_59_code
def yJ9_abs_0f7a4 : MethodName := ⟨RJ9, "abs", "(I)I"⟩
abbrev cJ9_max_7cf53 : ByteArray := prog_13_method_65_code
def yJ9_max_7cf53 : MethodName := ⟨RJ9, "max", "(II)I"⟩
abbrev cJ9_min_7cf53 : ByteArray := prog_13_method_69_code
def yJ9_min_7cf53 : MethodName := ⟨RJ9, "min", "(II)I"⟩
def RJ0 : String := "java/lang/String"
def TJ0 : u_T := fun k => match k with
  | 0 => ("java/lang/String", "value", "[B", true)
  | 1 => ("java/lang/String", "coder", "B", true)
  | 2 => ("java/lang/String", "hash", "I", false)
  | _ => ("java/lang/String", "hashIsZero", "Z", false)
def tyJ0 : Nat → FieldType := fun k => match k with
  | 0 => .array .byte
  | 1 => .byte
  | 2 => .int
  | _ => .boolean
abbrev wsJ00 : List Cond := u_ws RJ0 TJ0 4
theorem nmJ0 : ∀ a, a < 4 → ∀ b, b < 4 → a ≠ b → (TJ0 a).2.1 ≠ (TJ0 b).2.1 := by decide +kernel
theorem tyJ0_ok : ∀ k, k < 4 → parseFieldDescriptor (TJ0 k).2.2.1 = some (tyJ0 k) := by decide +kernel
abbrev cJ0_init_81219 : ByteArray := prog_14_method_53_code
def yJ0_init_81219 : MethodName := ⟨RJ0, "<init>", "(Ljava/lang/StringBuilder;)V"⟩
abbrev cJ0_length_8abf5 : ByteArray := prog_14_method_54_code
def yJ0_length_8abf5 : MethodName := ⟨RJ0, "length", "()I"⟩
abbrev cJ0_charAt_5068e : ByteArray := prog_14_method_56_code
def yJ0_charAt_5068e : MethodName := ⟨RJ0, "charAt", "(I)C"⟩
abbrev cJ0_equals_9ea2d : ByteArray := prog_14_method_66_code
def yJ0_equals_9ea2d : MethodName := ⟨RJ0, "equals", "(Ljava/lang/Object;)Z"⟩
abbrev cJ0_getBytes_840e7 : ByteArray := prog_14_method_147_code
def yJ0_getBytes_840e7 : MethodName := ⟨RJ0, "getBytes", "([BIB)V"⟩
abbrev cJ0_init_db425 : ByteArray := prog_14_method_150_code
def yJ0_init_db425 : MethodName := ⟨RJ0, "<init>", "(Ljava/lang/AbstractStringBuilder;Ljava/lang/Void;)V"⟩
abbrev cJ0_coder_7d493 : ByteArray := prog_14_method_152_code
def yJ0_coder_7d493 : MethodName := ⟨RJ0, "coder", "()B"⟩
abbrev cJ0_isLatin1_aae02 : ByteArray := prog_14_method_154_code
def yJ0_isLatin1_aae02 : MethodName := ⟨RJ0, "isLatin1", "()Z"⟩
abbrev cJ0_checkIndex_df160 : ByteArray := prog_14_method_155_code
def yJ0_checkIndex_df160 : MethodName := ⟨RJ0, "checkIndex", "(II)V"⟩
abbrev cJ0_checkBoundsOffCount_cabcc : ByteArray := prog_14_method_157_code
def yJ0_checkBoundsOffCount_cabcc : MethodName := ⟨RJ0, "checkBoundsOffCount", "(III)I"⟩
abbrev cJ0_checkBoundsBeginEnd_23922 : ByteArray := prog_14_method_158_code
def yJ0_checkBoundsBeginEnd_23922 : MethodName := ⟨RJ0, "checkBoundsBeginEnd", "(III)V"⟩
def RJ4 : String := "java/lang/StringBuilder"
def TJ4 : u_T := fun k => match k with
  | 0 => ("java/lang/AbstractStringBuilder", "value", "[B", false)
  | 1 => ("java/lang/AbstractStringBuilder", "coder", "B", false)
  | 2 => ("java/lang/AbstractStringBuilder", "maybeLatin1", "Z", false)
  | _ => ("java/lang/AbstractStringBuilder", "count", "I", false)
def tyJ4 : Nat → FieldType := fun k => match k with
  | 0 => .array .byte
  | 1 => .byte
  | 2 => .boolean
  | _ => .int
abbrev wsJ40 : List Cond := u_ws RJ4 TJ4 4
theorem nmJ4 : ∀ a, a < 4 → ∀ b, b < 4 → a ≠ b → (TJ4 a).2.1 ≠ (TJ4 b).2.1 := by decide +kernel
theorem tyJ4_ok : ∀ k, k < 4 → parseFieldDescriptor (TJ4 k).2.2.1 = some (tyJ4 k) := by decide +kernel
abbrev cJ4_init_da8c8 : ByteArray := prog_15_method_1_code
def yJ4_init_da8c8 : MethodName := ⟨RJ4, "<init>", "()V"⟩
abbrev cJ4_init_a7421 : ByteArray := prog_15_method_3_code
def yJ4_init_a7421 : MethodName := ⟨RJ4, "<init>", "(Ljava/lang/String;)V"⟩
abbrev cJ4_append_15ec4 : ByteArray := prog_15_method_7_code
def yJ4_append_15ec4 : MethodName := ⟨RJ4, "append", "(Ljava/lang/String;)Ljava/lang/StringBuilder;"⟩
abbrev cJ4_append_cf468 : ByteArray := prog_15_method_14_code
def yJ4_append_cf468 : MethodName := ⟨RJ4, "append", "(C)Ljava/lang/StringBuilder;"⟩
abbrev cJ4_append_bf812 : ByteArray := prog_15_method_15_code
def yJ4_append_bf812 : MethodName := ⟨RJ4, "append", "(I)Ljava/lang/StringBuilder;"⟩
abbrev cJ4_toString_0e30d : ByteArray := prog_15_method_42_code
def yJ4_toString_0e30d : MethodName := ⟨RJ4, "toString", "()Ljava/lang/String;"⟩
abbrev cJ4_append_cf1ce : ByteArray := prog_15_method_80_code
def yJ4_append_cf1ce : MethodName := ⟨RJ4, "append", "(Ljava/lang/String;)Ljava/lang/AbstractStringBuilder;"⟩
abbrev cJ4_charAt_5068e : ByteArray := prog_15_method_88_code
def yJ4_charAt_5068e : MethodName := ⟨RJ4, "charAt", "(I)C"⟩
abbrev cJ4_setLength_d00df : ByteArray := prog_15_method_89_code
def yJ4_setLength_d00df : MethodName := ⟨RJ4, "setLength", "(I)V"⟩
abbrev cJ4_length_8abf5 : ByteArray := prog_15_method_93_code
def yJ4_length_8abf5 : MethodName := ⟨RJ4, "length", "()I"⟩
def RJ1 : String := "java/lang/StringLatin1"
def TJ1 : u_T := fun k => match k with
  | _ => ("", "", "", false)
def tyJ1 : Nat → FieldType := fun k => match k with
  | _ => .int
abbrev wsJ10 : List Cond := u_ws RJ1 TJ1 0
theorem nmJ1 : ∀ a, a < 0 → ∀ b, b < 0 → a ≠ b → (TJ1 a).2.1 ≠ (TJ1 b).2.1 := by decide +kernel
theorem tyJ1_ok : ∀ k, k < 0 → parseFieldDescriptor (TJ1 k).2.2.1 = some (tyJ1 k) := by decide +kernel
abbrev cJ1_charAt_3b067 : ByteArray := prog_16_method_2_code
def yJ1_charAt_3b067 : MethodName := ⟨RJ1, "charAt", "([BI)C"⟩
abbrev cJ1_canEncode_fc78d : ByteArray := prog_16_method_3_code
def yJ1_canEncode_fc78d : MethodName := ⟨RJ1, "canEncode", "(C)Z"⟩
abbrev cJ1_equals_b5fdf : ByteArray := prog_16_method_13_code
def yJ1_equals_b5fdf : MethodName := ⟨RJ1, "equals", "([B[B)Z"⟩
abbrev cJ1_fillNull_b72d1 : ByteArray := prog_16_method_48_code
def yJ1_fillNull_b72d1 : MethodName := ⟨RJ1, "fillNull", "([BII)V"⟩
abbrev cJ1_inflate_0e8fd : ByteArray := prog_16_method_50_code
def yJ1_inflate_0e8fd : MethodName := ⟨RJ1, "inflate", "([BI[BII)V"⟩
def RJ2 : String := "java/lang/StringUTF16"
def TJ2 : u_T := fun k => match k with
  | _ => ("", "", "", false)
def tyJ2 : Nat → FieldType := fun k => match k with
  | _ => .int
abbrev wsJ20 : List Cond := u_ws RJ2 TJ2 0
theorem nmJ2 : ∀ a, a < 0 → ∀ b, b < 0 → a ≠ b → (TJ2 a).2.1 ≠ (TJ2 b).2.1 := by decide +kernel
theorem tyJ2_ok : ∀ k, k < 0 → parseFieldDescriptor (TJ2 k).2.2.1 = some (tyJ2 k) := by decide +kernel
abbrev cJ2_newBytesFor_77867 : ByteArray := prog_17_method_2_code
def yJ2_newBytesFor_77867 : MethodName := ⟨RJ2, "newBytesFor", "(I)[B"⟩
abbrev cJ2_newBytesLength_0f7a4 : ByteArray := prog_17_method_3_code
def yJ2_newBytesLength_0f7a4 : MethodName := ⟨RJ2, "newBytesLength", "(I)I"⟩
abbrev cJ2_putChar_b72d1 : ByteArray := prog_17_method_4_code
def yJ2_putChar_b72d1 : MethodName := ⟨RJ2, "putChar", "([BII)V"⟩
abbrev cJ2_getChar_3b067 : ByteArray := prog_17_method_5_code
def yJ2_getChar_3b067 : MethodName := ⟨RJ2, "getChar", "([BI)C"⟩
abbrev cJ2_length_9d52b : ByteArray := prog_17_method_6_code
def yJ2_length_9d52b : MethodName := ⟨RJ2, "length", "([B)I"⟩
abbrev cJ2_coderFromArrayLen_85cad : ByteArray := prog_17_method_15_code
def yJ2_coderFromArrayLen_85cad : MethodName := ⟨RJ2, "coderFromArrayLen", "([BI)B"⟩
abbrev cJ2_compress_39247 : ByteArray := prog_17_method_17_code
def yJ2_compress_39247 : MethodName := ⟨RJ2, "compress", "([BII)[B"⟩
abbrev cJ2_compress_5af95 : ByteArray := prog_17_method_22_code
def yJ2_compress_5af95 : MethodName := ⟨RJ2, "compress", "([BI[BII)I"⟩
abbrev cJ2_fillNull_b72d1 : ByteArray := prog_17_method_70_code
def yJ2_fillNull_b72d1 : MethodName := ⟨RJ2, "fillNull", "([BII)V"⟩
abbrev cJ2_putCharSB_b72d1 : ByteArray := prog_17_method_71_code
def yJ2_putCharSB_b72d1 : MethodName := ⟨RJ2, "putCharSB", "([BII)V"⟩
abbrev cJ2_getChars_46870 : ByteArray := prog_17_method_77_code
def yJ2_getChars_46870 : MethodName := ⟨RJ2, "getChars", "(III[B)I"⟩
abbrev cJ2_putCharsAt_cd4e5 : ByteArray := prog_17_method_81_code
def yJ2_putCharsAt_cd4e5 : MethodName := ⟨RJ2, "putCharsAt", "([BICCCC)I"⟩
abbrev cJ2_charAt_3b067 : ByteArray := prog_17_method_83_code
def yJ2_charAt_3b067 : MethodName := ⟨RJ2, "charAt", "([BI)C"⟩
abbrev cJ2_inflate_0e8fd : ByteArray := prog_17_method_86_code
def yJ2_inflate_0e8fd : MethodName := ⟨RJ2, "inflate", "([BI[BII)V"⟩
abbrev cJ2_getChars_ba4f3 : ByteArray := prog_17_method_89_code
def yJ2_getChars_ba4f3 : MethodName := ⟨RJ2, "getChars", "(II[B)I"⟩
abbrev cJ2_checkIndex_2214a : ByteArray := prog_17_method_91_code
def yJ2_checkIndex_2214a : MethodName := ⟨RJ2, "checkIndex", "(I[B)V"⟩
abbrev cJ2_checkBoundsBeginEnd_d044e : ByteArray := prog_17_method_93_code
def yJ2_checkBoundsBeginEnd_d044e : MethodName := ⟨RJ2, "checkBoundsBeginEnd", "(II[B)V"⟩
abbrev cJ2_checkBoundsOffCount_d044e : ByteArray := prog_17_method_94_code
def yJ2_checkBoundsOffCount_d044e : MethodName := ⟨RJ2, "checkBoundsOffCount", "(II[B)V"⟩
def RJ10 : String := "java/lang/System"
def TJ10 : u_T := fun k => match k with
  | _ => ("", "", "", false)
def tyJ10 : Nat → FieldType := fun k => match k with
  | _ => .int
abbrev wsJ100 : List Cond := u_ws RJ10 TJ10 0
theorem nmJ10 : ∀ a, a < 0 → ∀ b, b < 0 → a ≠ b → (TJ10 a).2.1 ≠ (TJ10 b).2.1 := by decide +kernel
theorem tyJ10_ok : ∀ k, k < 0 → parseFieldDescriptor (TJ10 k).2.2.1 = some (tyJ10 k) := by decide +kernel
def RJ7 : String := "java/util/Arrays"
def TJ7 : u_T := fun k => match k with
  | _ => ("", "", "", false)
def tyJ7 : Nat → FieldType := fun k => match k with
  | _ => .int
abbrev wsJ70 : List Cond := u_ws RJ7 TJ7 0
theorem nmJ7 : ∀ a, a < 0 → ∀ b, b < 0 → a ≠ b → (TJ7 a).2.1 ≠ (TJ7 b).2.1 := by decide +kernel
theorem tyJ7_ok : ∀ k, k < 0 → parseFieldDescriptor (TJ7 k).2.2.1 = some (tyJ7 k) := by decide +kernel
abbrev cJ7_rangeCheck_23922 : ByteArray := prog_19_method_30_code
def yJ7_rangeCheck_23922 : MethodName := ⟨RJ7, "rangeCheck", "(III)V"⟩
abbrev cJ7_fill_eb02e : ByteArray := prog_19_method_110_code
def yJ7_fill_eb02e : MethodName := ⟨RJ7, "fill", "([BIIB)V"⟩
abbrev cJ7_copyOf_9075b : ByteArray := prog_19_method_121_code
def yJ7_copyOf_9075b : MethodName := ⟨RJ7, "copyOf", "([BI)[B"⟩
abbrev cJ7_checkLength_df160 : ByteArray := prog_19_method_131_code
def yJ7_checkLength_df160 : MethodName := ⟨RJ7, "checkLength", "(II)V"⟩
abbrev cJ7_copyOfRange_39247 : ByteArray := prog_19_method_132_code
def yJ7_copyOfRange_39247 : MethodName := ⟨RJ7, "copyOfRange", "([BII)[B"⟩
abbrev cJ7_copyOfRangeByte_39247 : ByteArray := prog_19_method_133_code
def yJ7_copyOfRangeByte_39247 : MethodName := ⟨RJ7, "copyOfRangeByte", "([BII)[B"⟩
def RJ8 : String := "jdk/internal/util/ArraysSupport"
def TJ8 : u_T := fun k => match k with
  | _ => ("", "", "", false)
def tyJ8 : Nat → FieldType := fun k => match k with
  | _ => .int
abbrev wsJ80 : List Cond := u_ws RJ8 TJ8 0
theorem nmJ8 : ∀ a, a < 0 → ∀ b, b < 0 → a ≠ b → (TJ8 a).2.1 ≠ (TJ8 b).2.1 := by decide +kernel
theorem tyJ8_ok : ∀ k, k < 0 → parseFieldDescriptor (TJ8 k).2.2.1 = some (tyJ8 k) := by decide +kernel
abbrev cJ8_newLength_cabcc : ByteArray := prog_20_method_27_code
def yJ8_newLength_cabcc : MethodName := ⟨RJ8, "newLength", "(III)I"⟩
abbrev cJ8_hugeLength_7cf53 : ByteArray := prog_20_method_28_code
def yJ8_hugeLength_7cf53 : MethodName := ⟨RJ8, "hugeLength", "(II)I"⟩
def RJ3 : String := "jdk/internal/util/Preconditions"
def TJ3 : u_T := fun k => match k with
  | _ => ("", "", "", false)
def tyJ3 : Nat → FieldType := fun k => match k with
  | _ => .int
abbrev wsJ30 : List Cond := u_ws RJ3 TJ3 0
theorem nmJ3 : ∀ a, a < 0 → ∀ b, b < 0 → a ≠ b → (TJ3 a).2.1 ≠ (TJ3 b).2.1 := by decide +kernel
theorem tyJ3_ok : ∀ k, k < 0 → parseFieldDescriptor (TJ3 k).2.2.1 = some (tyJ3 k) := by decide +kernel
abbrev cJ3_checkIndex_8e157 : ByteArray := prog_21_method_11_code
def yJ3_checkIndex_8e157 : MethodName := ⟨RJ3, "checkIndex", "(IILjava/util/function/BiFunction;)I"⟩
abbrev cJ3_checkFromToIndex_8c36e : ByteArray := prog_21_method_12_code
def yJ3_checkFromToIndex_8c36e : MethodName := ⟨RJ3, "checkFromToIndex", "(IIILjava/util/function/BiFunction;)I"⟩
abbrev cJ3_checkFromIndexSize_8c36e : ByteArray := prog_21_method_13_code
def yJ3_checkFromIndexSize_8c36e : MethodName := ⟨RJ3, "checkFromIndexSize", "(IIILjava/util/function/BiFunction;)I"⟩
def RL : String := "HosieryPlantLaw"
abbrev cL_draw : ByteArray := method_2_code
def yL_draw : MethodName := ⟨RL, "draw", "([III)I"⟩
abbrev cL_four : ByteArray := method_3_code
def yL_four : MethodName := ⟨RL, "four", "(Ljava/lang/String;I)I"⟩
abbrev cL_feed : ByteArray := method_4_code
def yL_feed : MethodName := ⟨RL, "feed", "(LHosieryPlant;Ljava/lang/String;)Z"⟩
abbrev cL_pieces : ByteArray := method_6_code
def yL_pieces : MethodName := ⟨RL, "pieces", "([I)I"⟩
abbrev cL_shapes : ByteArray := method_7_code
def yL_shapes : MethodName := ⟨RL, "shapes", "([I)I"⟩
abbrev cL_yarns : ByteArray := method_8_code
def yL_yarns : MethodName := ⟨RL, "yarns", "([I)I"⟩
abbrev cL_steam : ByteArray := method_9_code
def yL_steam : MethodName := ⟨RL, "steam", "([I)I"⟩
abbrev cL_shape : ByteArray := method_10_code
def yL_shape : MethodName := ⟨RL, "shape", "([II)I"⟩
abbrev cL_stretch : ByteArray := method_11_code
def yL_stretch : MethodName := ⟨RL, "stretch", "([II)I"⟩
abbrev cL_recovery : ByteArray := method_12_code
def yL_recovery : MethodName := ⟨RL, "recovery", "([II)I"⟩
abbrev cL_yarn : ByteArray := method_13_code
def yL_yarn : MethodName := ⟨RL, "yarn", "([II)I"⟩
abbrev cL_kind : ByteArray := method_14_code
def yL_kind : MethodName := ⟨RL, "kind", "([II)I"⟩
abbrev cL_knitted : ByteArray := method_15_code
def yL_knitted : MethodName := ⟨RL, "knitted", "([II)I"⟩
abbrev cL_shade : ByteArray := method_16_code
def yL_shade : MethodName := ⟨RL, "shade", "([II)I"⟩
abbrev cL_plant : ByteArray := method_17_code
def yL_plant : MethodName := ⟨RL, "plant", "([I)Ljava/lang/String;"⟩
abbrev cL_load : ByteArray := method_18_code
def yL_load : MethodName := ⟨RL, "load", "(LHosieryPlant;[I)Z"⟩
abbrev cL_fails : ByteArray := method_19_code
def yL_fails : MethodName := ⟨RL, "fails", "(LHosieryPlant;Ljava/lang/String;II)Z"⟩
abbrev cL_written : ByteArray := method_20_code
def yL_written : MethodName := ⟨RL, "written", "(LHosieryPlant;)Ljava/lang/String;"⟩
abbrev cL_tried : ByteArray := method_21_code
def yL_tried : MethodName := ⟨RL, "tried", "(LHosieryPlant;I)I"⟩
abbrev cL_law : ByteArray := code
def yL_law : MethodName := ⟨RL, "law", "([I)Z"⟩
abbrev vwCl : List vw_C := [(RJ4, TJ4, 4), (RX0, TX0, 11), (RX1, TX1, 3), (RX2, TX2, 4), (RX3, TX3, 4), (RX4, TX4, 12), (RX5, TX5, 13), (RX6, TX6, 9), (RJ0, TJ0, 4)]
theorem innX0 : ∀ w ∈ wsX00, w ∈ lw_tbl := by decide +kernel
theorem innX1 : ∀ w ∈ wsX10, w ∈ lw_tbl := by decide +kernel
theorem innX2 : ∀ w ∈ wsX20, w ∈ lw_tbl := by decide +kernel
theorem innX3 : ∀ w ∈ wsX30, w ∈ lw_tbl := by decide +kernel
theorem innX4 : ∀ w ∈ wsX40, w ∈ lw_tbl := by decide +kernel
theorem innX5 : ∀ w ∈ wsX50, w ∈ lw_tbl := by decide +kernel
theorem innX6 : ∀ w ∈ wsX60, w ∈ lw_tbl := by decide +kernel
theorem innJ4 : ∀ w ∈ wsJ40, w ∈ lw_tbl := by decide +kernel
theorem innJ0 : ∀ w ∈ wsJ00, w ∈ lw_tbl := by decide +kernel
/-- the builder's class selects these private methods of its superclass -/
def sb_sels : List Cond := [.selects RJ4 yJ5_ensureCapacityInternal_d00df yJ5_ensureCapacityInternal_d00df, .selects RJ4 yJ5_newCapacity_0f7a4 yJ5_newCapacity_0f7a4, .selects RJ4 yJ5_putStringAt_47b60 yJ5_putStringAt_47b60, .selects RJ4 yJ5_inflateIfNeededFor_a7421 yJ5_inflateIfNeededFor_a7421]
def lw_g : List Cond := lw_tbl.filter goodWord ++ sb_sels
theorem lw_gm {w : Cond} (h : w ∈ lw_tbl ∧ goodWord w = true) : w ∈ lw_g := List.mem_append_left _ (List.mem_filter.mpr h)
theorem sb_sels_good : ∀ w ∈ sb_sels, goodWord w = true := by decide +kernel
theorem lw_good {w : Cond} (h : w ∈ lw_g) : goodWord w = true := by
  rcases List.mem_append.mp h with h | h
  · exact (List.mem_filter.mp h).2
  · exact sb_sels_good w h
theorem lw_sb {w : Cond} (h : w ∈ sb_sels) : w ∈ lw_g := List.mem_append_right _ h
theorem lw_mg {w : Cond} (i : Nat) (h : lw_tbl[i]? = some w) (hg : goodWord w = true) : w ∈ lw_g := lw_gm ⟨List.mem_of_getElem? h, hg⟩
