/-! Methods as the abstract machine knows them, and what the tables say of each entry that names a method, a field or a class. -/
theorem lw_k1 {w : Cond} (j : Nat) (h0 : tables_1_1[j]? = some w) (hg : goodWord w = true) : w ∈ lw_g := have h : w ∈ tables_1_1 := List.mem_of_getElem? h0; lw_gm ⟨List.mem_append_right _ (List.mem_append_left _ h), hg⟩
theorem lw_k2 {w : Cond} (j : Nat) (h0 : tables_1_2[j]? = some w) (hg : goodWord w = true) : w ∈ lw_g := have h : w ∈ tables_1_2 := List.mem_of_getElem? h0; lw_gm ⟨List.mem_append_right _ (List.mem_append_right _ (List.mem_append_left _ h)), hg⟩
theorem lw_k3 {w : Cond} (j : Nat) (h0 : tables_1_3[j]? = some w) (hg : goodWord w = true) : w ∈ lw_g := have h : w ∈ tables_1_3 := List.mem_of_getElem? h0; lw_gm ⟨List.mem_append_right _ (List.mem_append_right _ (List.mem_append_right _ (List.mem_append_left _ h))), hg⟩
theorem lw_k4 {w : Cond} (j : Nat) (h0 : tables_1_4[j]? = some w) (hg : goodWord w = true) : w ∈ lw_g := have h : w ∈ tables_1_4 := List.mem_of_getElem? h0; lw_gm ⟨List.mem_append_right _ (List.mem_append_right _ (List.mem_append_right _ (List.mem_append_right _ (List.mem_append_left _ h)))), hg⟩
theorem lw_k5 {w : Cond} (j : Nat) (h0 : tables_1_5[j]? = some w) (hg : goodWord w = true) : w ∈ lw_g := have h : w ∈ tables_1_5 := List.mem_of_getElem? h0; lw_gm ⟨List.mem_append_right _ (List.mem_append_right _ (List.mem_append_right _ (List.mem_append_right _ (List.mem_append_right _ (List.mem_append_left _ h))))), hg⟩
theorem lw_k6 {w : Cond} (j : Nat) (h0 : tables_1_6[j]? = some w) (hg : goodWord w = true) : w ∈ lw_g := have h : w ∈ tables_1_6 := List.mem_of_getElem? h0; lw_gm ⟨List.mem_append_right _ (List.mem_append_right _ (List.mem_append_right _ (List.mem_append_right _ (List.mem_append_right _ (List.mem_append_right _ (List.mem_append_left _ h)))))), hg⟩
theorem lw_k7 {w : Cond} (j : Nat) (h0 : tables_1_7[j]? = some w) (hg : goodWord w = true) : w ∈ lw_g := have h : w ∈ tables_1_7 := List.mem_of_getElem? h0; lw_gm ⟨List.mem_append_right _ (List.mem_append_right _ (List.mem_append_right _ (List.mem_append_right _ (List.mem_append_right _ (List.mem_append_right _ (List.mem_append_right _ (List.mem_append_left _ h))))))), hg⟩
theorem lw_k8 {w : Cond} (j : Nat) (h0 : tables_1_8[j]? = some w) (hg : goodWord w = true) : w ∈ lw_g := have h : w ∈ tables_1_8 := List.mem_of_getElem? h0; lw_gm ⟨List.mem_append_right _ (List.mem_append_right _ (List.mem_append_right _ (List.mem_append_right _ (List.mem_append_right _ (List.mem_append_right _ (List.mem_append_right _ (List.mem_append_right _ (h)))))))), hg⟩
theorem inngJ4 : ∀ w ∈ wsJ40, w ∈ lw_g := fun w hw => lw_gm ⟨innJ4 w hw, (by decide +kernel : ∀ w ∈ wsJ40, goodWord w = true) w hw⟩
theorem inngX0 : ∀ w ∈ wsX00, w ∈ lw_g := fun w hw => lw_gm ⟨innX0 w hw, (by decide +kernel : ∀ w ∈ wsX00, goodWord w = true) w hw⟩
theorem inngX1 : ∀ w ∈ wsX10, w ∈ lw_g := fun w hw => lw_gm ⟨innX1 w hw, (by decide +kernel : ∀ w ∈ wsX10, goodWord w = true) w hw⟩
theorem inngX2 : ∀ w ∈ wsX20, w ∈ lw_g := fun w hw => lw_gm ⟨innX2 w hw, (by decide +kernel : ∀ w ∈ wsX20, goodWord w = true) w hw⟩
theorem inngX3 : ∀ w ∈ wsX30, w ∈ lw_g := fun w hw => lw_gm ⟨innX3 w hw, (by decide +kernel : ∀ w ∈ wsX30, goodWord w = true) w hw⟩
theorem inngX4 : ∀ w ∈ wsX40, w ∈ lw_g := fun w hw => lw_gm ⟨innX4 w hw, (by decide +kernel : ∀ w ∈ wsX40, goodWord w = true) w hw⟩
theorem inngX5 : ∀ w ∈ wsX50, w ∈ lw_g := fun w hw => lw_gm ⟨innX5 w hw, (by decide +kernel : ∀ w ∈ wsX50, goodWord w = true) w hw⟩
theorem inngX6 : ∀ w ∈ wsX60, w ∈ lw_g := fun w hw => lw_gm ⟨innX6 w hw, (by decide +kernel : ∀ w ∈ wsX60, goodWord w = true) w hw⟩
theorem inngX7 : ∀ w ∈ wsX70, w ∈ lw_g := fun w hw => lw_gm ⟨innX7 w hw, (by decide +kernel : ∀ w ∈ wsX70, goodWord w = true) w hw⟩
abbrev mX0_init : MD := (yX0_init, cX0_init, 1, none)
theorem kCX0_init : okC mX0_init 0 := ⟨(lw_k1 77 (by decide +kernel) (by decide +kernel)), ⟨by decide +kernel, by decide +kernel, by decide +kernel⟩, by decide +kernel, by decide, (lw_k1 8 (by decide +kernel) (by decide +kernel))⟩
abbrev mX0_takeAll : MD := (yX0_takeAll, cX0_takeAll, 2, none)
theorem kCX0_takeAll : okC mX0_takeAll 1 := ⟨(lw_k3 67 (by decide +kernel) (by decide +kernel)), ⟨by decide +kernel, by decide +kernel, by decide +kernel⟩, by decide +kernel, by decide, (lw_k1 8 (by decide +kernel) (by decide +kernel))⟩
abbrev mX0_sizeHolding : MD := (yX0_sizeHolding, cX0_sizeHolding, 4, (some .int))
theorem kCX0_sizeHolding : okC mX0_sizeHolding 2 := ⟨(lw_k3 224 (by decide +kernel) (by decide +kernel)), ⟨by decide +kernel, by decide +kernel, by decide +kernel⟩, by decide +kernel, by decide, (lw_k1 8 (by decide +kernel) (by decide +kernel))⟩
abbrev mX1_init : MD := (yX1_init, cX1_init, 2, none)
theorem kCX1_init : okC mX1_init 0 := ⟨(lw_k2 11 (by decide +kernel) (by decide +kernel)), ⟨by decide +kernel, by decide +kernel, by decide +kernel⟩, by decide +kernel, by decide, (lw_k1 9 (by decide +kernel) (by decide +kernel))⟩
abbrev mX1_keep : MD := (yX1_keep, cX1_keep, 3, none)
theorem kCX1_keep : okC mX1_keep 1 := ⟨(lw_k3 55 (by decide +kernel) (by decide +kernel)), ⟨by decide +kernel, by decide +kernel, by decide +kernel⟩, by decide +kernel, by decide, (lw_k1 9 (by decide +kernel) (by decide +kernel))⟩
abbrev mX1_takeBack : MD := (yX1_takeBack, cX1_takeBack, 3, none)
theorem kCX1_takeBack : okC mX1_takeBack 1 := ⟨(lw_k4 157 (by decide +kernel) (by decide +kernel)), ⟨by decide +kernel, by decide +kernel, by decide +kernel⟩, by decide +kernel, by decide, (lw_k1 9 (by decide +kernel) (by decide +kernel))⟩
abbrev mX1_placeOf : MD := (yX1_placeOf, cX1_placeOf, 3, (some (.object "HosieryPlant$Plant")))
theorem kCX1_placeOf : okC mX1_placeOf 1 := ⟨(lw_k3 59 (by decide +kernel) (by decide +kernel)), ⟨by decide +kernel, by decide +kernel, by decide +kernel⟩, by decide +kernel, by decide, (lw_k1 9 (by decide +kernel) (by decide +kernel))⟩
abbrev mX2_init : MD := (yX2_init, cX2_init, 1, none)
theorem kCX2_init : okC mX2_init 0 := ⟨(lw_k2 31 (by decide +kernel) (by decide +kernel)), ⟨by decide +kernel, by decide +kernel, by decide +kernel⟩, by decide +kernel, by decide, (lw_k1 10 (by decide +kernel) (by decide +kernel))⟩
abbrev mX2_mostPairs : MD := (yX2_mostPairs, cX2_mostPairs, 3, (some .int))
theorem kCX2_mostPairs : okC mX2_mostPairs 1 := ⟨(lw_k5 0 (by decide +kernel) (by decide +kernel)), ⟨by decide +kernel, by decide +kernel, by decide +kernel⟩, by decide +kernel, by decide, (lw_k1 10 (by decide +kernel) (by decide +kernel))⟩
abbrev mX2_pairUp : MD := (yX2_pairUp, cX2_pairUp, 6, none)
theorem kCX2_pairUp : okC mX2_pairUp 2 := ⟨(lw_k4 64 (by decide +kernel) (by decide +kernel)), ⟨by decide +kernel, by decide +kernel, by decide +kernel⟩, by decide +kernel, by decide, (lw_k1 10 (by decide +kernel) (by decide +kernel))⟩
abbrev mX2_takeMatches : MD := (yX2_takeMatches, cX2_takeMatches, 7, (some .int))
theorem kCX2_takeMatches : okC mX2_takeMatches 2 := ⟨(lw_k4 68 (by decide +kernel) (by decide +kernel)), ⟨by decide +kernel, by decide +kernel, by decide +kernel⟩, by decide +kernel, by decide, (lw_k1 10 (by decide +kernel) (by decide +kernel))⟩
abbrev mX2_gapBetween : MD := (yX2_gapBetween, cX2_gapBetween, 3, (some .int))
theorem kCX2_gapBetween : okC mX2_gapBetween 2 := ⟨(lw_k4 114 (by decide +kernel) (by decide +kernel)), ⟨by decide +kernel, by decide +kernel, by decide +kernel⟩, by decide +kernel, by decide, (lw_k1 10 (by decide +kernel) (by decide +kernel))⟩
abbrev mX2_lowestPartner : MD := (yX2_lowestPartner, cX2_lowestPartner, 7, (some .int))
theorem kCX2_lowestPartner : okC mX2_lowestPartner 2 := ⟨(lw_k4 90 (by decide +kernel) (by decide +kernel)), ⟨by decide +kernel, by decide +kernel, by decide +kernel⟩, by decide +kernel, by decide, (lw_k1 10 (by decide +kernel) (by decide +kernel))⟩
abbrev mX2_worthOf : MD := (yX2_worthOf, cX2_worthOf, 10, (some .int))
theorem kCX2_worthOf : okC mX2_worthOf 3 := ⟨(lw_k4 93 (by decide +kernel) (by decide +kernel)), ⟨by decide +kernel, by decide +kernel, by decide +kernel⟩, by decide +kernel, by decide, (lw_k1 10 (by decide +kernel) (by decide +kernel))⟩
abbrev mX2_recall : MD := (yX2_recall, cX2_recall, 3, (some .int))
theorem kCX2_recall : okC mX2_recall 1 := ⟨(lw_k4 97 (by decide +kernel) (by decide +kernel)), ⟨by decide +kernel, by decide +kernel, by decide +kernel⟩, by decide +kernel, by decide, (lw_k1 10 (by decide +kernel) (by decide +kernel))⟩
abbrev mX2_remember : MD := (yX2_remember, cX2_remember, 4, none)
theorem kCX2_remember : okC mX2_remember 2 := ⟨(lw_k4 119 (by decide +kernel) (by decide +kernel)), ⟨by decide +kernel, by decide +kernel, by decide +kernel⟩, by decide +kernel, by decide, (lw_k1 10 (by decide +kernel) (by decide +kernel))⟩
abbrev mX3_init : MD := (yX3_init, cX3_init, 1, none)
theorem kCX3_init : okC mX3_init 0 := ⟨(lw_k2 51 (by decide +kernel) (by decide +kernel)), ⟨by decide +kernel, by decide +kernel, by decide +kernel⟩, by decide +kernel, by decide, (lw_k1 11 (by decide +kernel) (by decide +kernel))⟩
abbrev mX3_dissolve : MD := (yX3_dissolve, cX3_dissolve, 2, none)
theorem kCX3_dissolve : okC mX3_dissolve 0 := ⟨(lw_k4 82 (by decide +kernel) (by decide +kernel)), ⟨by decide +kernel, by decide +kernel, by decide +kernel⟩, by decide +kernel, by decide, (lw_k1 11 (by decide +kernel) (by decide +kernel))⟩
abbrev mX3_join : MD := (yX3_join, cX3_join, 4, none)
theorem kCX3_join : okC mX3_join 3 := ⟨(lw_k4 123 (by decide +kernel) (by decide +kernel)), ⟨by decide +kernel, by decide +kernel, by decide +kernel⟩, by decide +kernel, by decide, (lw_k1 11 (by decide +kernel) (by decide +kernel))⟩
abbrev mX3_lowerOf : MD := (yX3_lowerOf, cX3_lowerOf, 4, (some .int))
theorem kCX3_lowerOf : okC mX3_lowerOf 1 := ⟨(lw_k4 204 (by decide +kernel) (by decide +kernel)), ⟨by decide +kernel, by decide +kernel, by decide +kernel⟩, by decide +kernel, by decide, (lw_k1 11 (by decide +kernel) (by decide +kernel))⟩
abbrev mX4_init : MD := (yX4_init, cX4_init, 2, none)
theorem kCX4_init : okC mX4_init 1 := ⟨(lw_k1 65 (by decide +kernel) (by decide +kernel)), ⟨by decide +kernel, by decide +kernel, by decide +kernel⟩, by decide +kernel, by decide, (lw_k1 6 (by decide +kernel) (by decide +kernel))⟩
abbrev mX4_read : MD := (yX4_read, cX4_read, 3, (some .boolean))
theorem kCX4_read : okC mX4_read 1 := ⟨(lw_k2 119 (by decide +kernel) (by decide +kernel)), ⟨by decide +kernel, by decide +kernel, by decide +kernel⟩, by decide +kernel, by decide, (lw_k1 6 (by decide +kernel) (by decide +kernel))⟩
abbrev mX4_readTolerance : MD := (yX4_readTolerance, cX4_readTolerance, 1, none)
theorem kCX4_readTolerance : okC mX4_readTolerance 0 := ⟨(lw_k2 196 (by decide +kernel) (by decide +kernel)), ⟨by decide +kernel, by decide +kernel, by decide +kernel⟩, by decide +kernel, by decide, (lw_k1 6 (by decide +kernel) (by decide +kernel))⟩
abbrev mX4_readSteam : MD := (yX4_readSteam, cX4_readSteam, 1, none)
theorem kCX4_readSteam : okC mX4_readSteam 0 := ⟨(lw_k2 220 (by decide +kernel) (by decide +kernel)), ⟨by decide +kernel, by decide +kernel, by decide +kernel⟩, by decide +kernel, by decide, (lw_k1 6 (by decide +kernel) (by decide +kernel))⟩
abbrev mX4_readBox : MD := (yX4_readBox, cX4_readBox, 1, none)
theorem kCX4_readBox : okC mX4_readBox 0 := ⟨(lw_k2 225 (by decide +kernel) (by decide +kernel)), ⟨by decide +kernel, by decide +kernel, by decide +kernel⟩, by decide +kernel, by decide, (lw_k1 6 (by decide +kernel) (by decide +kernel))⟩
abbrev mX4_readYarn : MD := (yX4_readYarn, cX4_readYarn, 5, none)
theorem kCX4_readYarn : okC mX4_readYarn 1 := ⟨(lw_k2 230 (by decide +kernel) (by decide +kernel)), ⟨by decide +kernel, by decide +kernel, by decide +kernel⟩, by decide +kernel, by decide, (lw_k1 6 (by decide +kernel) (by decide +kernel))⟩
abbrev mX4_readShape : MD := (yX4_readShape, cX4_readShape, 4, none)
theorem kCX4_readShape : okC mX4_readShape 1 := ⟨(lw_k3 22 (by decide +kernel) (by decide +kernel)), ⟨by decide +kernel, by decide +kernel, by decide +kernel⟩, by decide +kernel, by decide, (lw_k1 6 (by decide +kernel) (by decide +kernel))⟩
abbrev mX4_readSize : MD := (yX4_readSize, cX4_readSize, 5, none)
theorem kCX4_readSize : okC mX4_readSize 1 := ⟨(lw_k3 26 (by decide +kernel) (by decide +kernel)), ⟨by decide +kernel, by decide +kernel, by decide +kernel⟩, by decide +kernel, by decide, (lw_k1 6 (by decide +kernel) (by decide +kernel))⟩
abbrev mX4_readPiece : MD := (yX4_readPiece, cX4_readPiece, 8, none)
theorem kCX4_readPiece : okC mX4_readPiece 1 := ⟨(lw_k3 30 (by decide +kernel) (by decide +kernel)), ⟨by decide +kernel, by decide +kernel, by decide +kernel⟩, by decide +kernel, by decide, (lw_k1 6 (by decide +kernel) (by decide +kernel))⟩
abbrev mX4_readTimes : MD := (yX4_readTimes, cX4_readTimes, 1, (some .int))
theorem kCX4_readTimes : okC mX4_readTimes 0 := ⟨(lw_k3 42 (by decide +kernel) (by decide +kernel)), ⟨by decide +kernel, by decide +kernel, by decide +kernel⟩, by decide +kernel, by decide, (lw_k1 6 (by decide +kernel) (by decide +kernel))⟩
abbrev mX4_startStatement : MD := (yX4_startStatement, cX4_startStatement, 3, none)
theorem kCX4_startStatement : okC mX4_startStatement 2 := ⟨(lw_k2 200 (by decide +kernel) (by decide +kernel)), ⟨by decide +kernel, by decide +kernel, by decide +kernel⟩, by decide +kernel, by decide, (lw_k1 6 (by decide +kernel) (by decide +kernel))⟩
abbrev mX4_endStatement : MD := (yX4_endStatement, cX4_endStatement, 1, none)
theorem kCX4_endStatement : okC mX4_endStatement 0 := ⟨(lw_k2 215 (by decide +kernel) (by decide +kernel)), ⟨by decide +kernel, by decide +kernel, by decide +kernel⟩, by decide +kernel, by decide, (lw_k1 6 (by decide +kernel) (by decide +kernel))⟩
abbrev mX4_readNumber : MD := (yX4_readNumber, cX4_readNumber, 4, (some .int))
theorem kCX4_readNumber : okC mX4_readNumber 2 := ⟨(lw_k2 208 (by decide +kernel) (by decide +kernel)), ⟨by decide +kernel, by decide +kernel, by decide +kernel⟩, by decide +kernel, by decide, (lw_k1 6 (by decide +kernel) (by decide +kernel))⟩
abbrev mX4_takeNewName : MD := (yX4_takeNewName, cX4_takeNewName, 4, (some .int))
theorem kCX4_takeNewName : okC mX4_takeNewName 3 := ⟨(lw_k3 14 (by decide +kernel) (by decide +kernel)), ⟨by decide +kernel, by decide +kernel, by decide +kernel⟩, by decide +kernel, by decide, (lw_k1 6 (by decide +kernel) (by decide +kernel))⟩
abbrev mX4_takeKnownYarn : MD := (yX4_takeKnownYarn, cX4_takeKnownYarn, 4, (some .int))
theorem kCX4_takeKnownYarn : okC mX4_takeKnownYarn 2 := ⟨(lw_k3 34 (by decide +kernel) (by decide +kernel)), ⟨by decide +kernel, by decide +kernel, by decide +kernel⟩, by decide +kernel, by decide, (lw_k1 6 (by decide +kernel) (by decide +kernel))⟩
abbrev mX4_nameHere : MD := (yX4_nameHere, cX4_nameHere, 1, (some .int))
theorem kCX4_nameHere : okC mX4_nameHere 0 := ⟨(lw_k2 234 (by decide +kernel) (by decide +kernel)), ⟨by decide +kernel, by decide +kernel, by decide +kernel⟩, by decide +kernel, by decide, (lw_k1 6 (by decide +kernel) (by decide +kernel))⟩
abbrev mX4_readKind : MD := (yX4_readKind, cX4_readKind, 2, (some .int))
theorem kCX4_readKind : okC mX4_readKind 0 := ⟨(lw_k3 38 (by decide +kernel) (by decide +kernel)), ⟨by decide +kernel, by decide +kernel, by decide +kernel⟩, by decide +kernel, by decide, (lw_k1 6 (by decide +kernel) (by decide +kernel))⟩
abbrev mX4_isKeyword : MD := (yX4_isKeyword, cX4_isKeyword, 1, (some .boolean))
theorem kCX4_isKeyword : okC mX4_isKeyword 0 := ⟨(lw_k2 238 (by decide +kernel) (by decide +kernel)), ⟨by decide +kernel, by decide +kernel, by decide +kernel⟩, by decide +kernel, by decide, (lw_k1 6 (by decide +kernel) (by decide +kernel))⟩
abbrev mX4_spells : MD := (yX4_spells, cX4_spells, 3, (some .boolean))
theorem kCX4_spells : okC mX4_spells 1 := ⟨(lw_k2 145 (by decide +kernel) (by decide +kernel)), ⟨by decide +kernel, by decide +kernel, by decide +kernel⟩, by decide +kernel, by decide, (lw_k1 6 (by decide +kernel) (by decide +kernel))⟩
abbrev mX4_refuse : MD := (yX4_refuse, cX4_refuse, 2, none)
theorem kCX4_refuse : okC mX4_refuse 1 := ⟨(lw_k2 204 (by decide +kernel) (by decide +kernel)), ⟨by decide +kernel, by decide +kernel, by decide +kernel⟩, by decide +kernel, by decide, (lw_k1 6 (by decide +kernel) (by decide +kernel))⟩
abbrev mX4_advance : MD := (yX4_advance, cX4_advance, 1, none)
theorem kCX4_advance : okC mX4_advance 0 := ⟨(lw_k2 124 (by decide +kernel) (by decide +kernel)), ⟨by decide +kernel, by decide +kernel, by decide +kernel⟩, by decide +kernel, by decide, (lw_k1 6 (by decide +kernel) (by decide +kernel))⟩
abbrev mX4_isBlank : MD := (yX4_isBlank, cX4_isBlank, 1, (some .boolean))
theorem kCX4_isBlank : okC mX4_isBlank 1 := ⟨(lw_k2 130 (by decide +kernel) (by decide +kernel)), ⟨by decide +kernel, by decide +kernel, by decide +kernel⟩, by decide +kernel, by decide, (lw_k1 6 (by decide +kernel) (by decide +kernel))⟩
abbrev mX4_isDigit : MD := (yX4_isDigit, cX4_isDigit, 1, (some .boolean))
theorem kCX4_isDigit : okC mX4_isDigit 1 := ⟨(lw_k2 136 (by decide +kernel) (by decide +kernel)), ⟨by decide +kernel, by decide +kernel, by decide +kernel⟩, by decide +kernel, by decide, (lw_k1 6 (by decide +kernel) (by decide +kernel))⟩
abbrev mX5_init : MD := (yX5_init, cX5_init, 1, none)
theorem kCX5_init : okC mX5_init 0 := ⟨(lw_k1 71 (by decide +kernel) (by decide +kernel)), ⟨by decide +kernel, by decide +kernel, by decide +kernel⟩, by decide +kernel, by decide, (lw_k1 7 (by decide +kernel) (by decide +kernel))⟩
abbrev mX5_makeEmpty : MD := (yX5_makeEmpty, cX5_makeEmpty, 1, none)
theorem kCX5_makeEmpty : okC mX5_makeEmpty 0 := ⟨(lw_k1 144 (by decide +kernel) (by decide +kernel)), ⟨by decide +kernel, by decide +kernel, by decide +kernel⟩, by decide +kernel, by decide, (lw_k1 7 (by decide +kernel) (by decide +kernel))⟩
abbrev mX5_copyFrom : MD := (yX5_copyFrom, cX5_copyFrom, 2, none)
theorem kCX5_copyFrom : okC mX5_copyFrom 1 := ⟨(lw_k3 63 (by decide +kernel) (by decide +kernel)), ⟨by decide +kernel, by decide +kernel, by decide +kernel⟩, by decide +kernel, by decide, (lw_k1 7 (by decide +kernel) (by decide +kernel))⟩
abbrev mX5_addPiece : MD := (yX5_addPiece, cX5_addPiece, 5, none)
theorem kCX5_addPiece : okC mX5_addPiece 4 := ⟨(lw_k3 46 (by decide +kernel) (by decide +kernel)), ⟨by decide +kernel, by decide +kernel, by decide +kernel⟩, by decide +kernel, by decide, (lw_k1 7 (by decide +kernel) (by decide +kernel))⟩
abbrev mX5_isBoarded : MD := (yX5_isBoarded, cX5_isBoarded, 2, (some .boolean))
theorem kCX5_isBoarded : okC mX5_isBoarded 1 := ⟨(lw_k4 9 (by decide +kernel) (by decide +kernel)), ⟨by decide +kernel, by decide +kernel, by decide +kernel⟩, by decide +kernel, by decide, (lw_k1 7 (by decide +kernel) (by decide +kernel))⟩
abbrev mX5_canBeBoarded : MD := (yX5_canBeBoarded, cX5_canBeBoarded, 2, (some .boolean))
theorem kCX5_canBeBoarded : okC mX5_canBeBoarded 1 := ⟨(lw_k3 199 (by decide +kernel) (by decide +kernel)), ⟨by decide +kernel, by decide +kernel, by decide +kernel⟩, by decide +kernel, by decide, (lw_k1 7 (by decide +kernel) (by decide +kernel))⟩
abbrev mX5_stretchOf : MD := (yX5_stretchOf, cX5_stretchOf, 4, (some .int))
theorem kCX5_stretchOf : okC mX5_stretchOf 1 := ⟨(lw_k3 174 (by decide +kernel) (by decide +kernel)), ⟨by decide +kernel, by decide +kernel, by decide +kernel⟩, by decide +kernel, by decide, (lw_k1 7 (by decide +kernel) (by decide +kernel))⟩
abbrev mX5_reachOf : MD := (yX5_reachOf, cX5_reachOf, 2, (some .int))
theorem kCX5_reachOf : okC mX5_reachOf 1 := ⟨(lw_k3 186 (by decide +kernel) (by decide +kernel)), ⟨by decide +kernel, by decide +kernel, by decide +kernel⟩, by decide +kernel, by decide, (lw_k1 7 (by decide +kernel) (by decide +kernel))⟩
abbrev mX5_lengthOn : MD := (yX5_lengthOn, cX5_lengthOn, 5, (some .int))
theorem kCX5_lengthOn : okC mX5_lengthOn 2 := ⟨(lw_k3 203 (by decide +kernel) (by decide +kernel)), ⟨by decide +kernel, by decide +kernel, by decide +kernel⟩, by decide +kernel, by decide, (lw_k1 7 (by decide +kernel) (by decide +kernel))⟩
abbrev mX5_boardOn : MD := (yX5_boardOn, cX5_boardOn, 4, (some .boolean))
theorem kCX5_boardOn : okC mX5_boardOn 2 := ⟨(lw_k4 18 (by decide +kernel) (by decide +kernel)), ⟨by decide +kernel, by decide +kernel, by decide +kernel⟩, by decide +kernel, by decide, (lw_k1 7 (by decide +kernel) (by decide +kernel))⟩
abbrev mX5_boardRaw : MD := (yX5_boardRaw, cX5_boardRaw, 4, (some .int))
theorem kCX5_boardRaw : okC mX5_boardRaw 1 := ⟨(lw_k4 27 (by decide +kernel) (by decide +kernel)), ⟨by decide +kernel, by decide +kernel, by decide +kernel⟩, by decide +kernel, by decide, (lw_k1 7 (by decide +kernel) (by decide +kernel))⟩
abbrev mX5_passDay : MD := (yX5_passDay, cX5_passDay, 6, (some .int))
theorem kCX5_passDay : okC mX5_passDay 0 := ⟨(lw_k4 36 (by decide +kernel) (by decide +kernel)), ⟨by decide +kernel, by decide +kernel, by decide +kernel⟩, by decide +kernel, by decide, (lw_k1 7 (by decide +kernel) (by decide +kernel))⟩
abbrev mX5_sizeOfPiece : MD := (yX5_sizeOfPiece, cX5_sizeOfPiece, 3, (some .int))
theorem kCX5_sizeOfPiece : okC mX5_sizeOfPiece 1 := ⟨(lw_k3 220 (by decide +kernel) (by decide +kernel)), ⟨by decide +kernel, by decide +kernel, by decide +kernel⟩, by decide +kernel, by decide, (lw_k1 7 (by decide +kernel) (by decide +kernel))⟩
abbrev mX5_rankOf : MD := (yX5_rankOf, cX5_rankOf, 5, (some .int))
theorem kCX5_rankOf : okC mX5_rankOf 1 := ⟨(lw_k4 1 (by decide +kernel) (by decide +kernel)), ⟨by decide +kernel, by decide +kernel, by decide +kernel⟩, by decide +kernel, by decide, (lw_k1 7 (by decide +kernel) (by decide +kernel))⟩
abbrev mX5_fits : MD := (yX5_fits, cX5_fits, 3, (some .boolean))
theorem kCX5_fits : okC mX5_fits 2 := ⟨(lw_k4 72 (by decide +kernel) (by decide +kernel)), ⟨by decide +kernel, by decide +kernel, by decide +kernel⟩, by decide +kernel, by decide, (lw_k1 7 (by decide +kernel) (by decide +kernel))⟩
abbrev mX5_gapOf : MD := (yX5_gapOf, cX5_gapOf, 3, (some .int))
theorem kCX5_gapOf : okC mX5_gapOf 2 := ⟨(lw_k4 77 (by decide +kernel) (by decide +kernel)), ⟨by decide +kernel, by decide +kernel, by decide +kernel⟩, by decide +kernel, by decide, (lw_k1 7 (by decide +kernel) (by decide +kernel))⟩
abbrev mX5_matchSet : MD := (yX5_matchSet, cX5_matchSet, 4, (some .int))
theorem kCX5_matchSet : okC mX5_matchSet 1 := ⟨(lw_k4 179 (by decide +kernel) (by decide +kernel)), ⟨by decide +kernel, by decide +kernel, by decide +kernel⟩, by decide +kernel, by decide, (lw_k1 7 (by decide +kernel) (by decide +kernel))⟩
abbrev mX5_groupSet : MD := (yX5_groupSet, cX5_groupSet, 6, (some .int))
theorem kCX5_groupSet : okC mX5_groupSet 1 := ⟨(lw_k4 225 (by decide +kernel) (by decide +kernel)), ⟨by decide +kernel, by decide +kernel, by decide +kernel⟩, by decide +kernel, by decide, (lw_k1 7 (by decide +kernel) (by decide +kernel))⟩
abbrev mX6_init : MD := (yX6_init, cX6_init, 1, none)
theorem kCX6_init : okC mX6_init 0 := ⟨(lw_k1 24 (by decide +kernel) (by decide +kernel)), ⟨by decide +kernel, by decide +kernel, by decide +kernel⟩, by decide +kernel, by decide, (lw_k1 1 (by decide +kernel) (by decide +kernel))⟩
abbrev mX6_append : MD := (yX6_append, cX6_append, 6, (some .int))
theorem kCX6_append : okC mX6_append 5 := ⟨(lw_k2 100 (by decide +kernel) (by decide +kernel)), ⟨by decide +kernel, by decide +kernel, by decide +kernel⟩, by decide +kernel, by decide, (lw_k1 1 (by decide +kernel) (by decide +kernel))⟩
abbrev mX6_truncate : MD := (yX6_truncate, cX6_truncate, 2, (some .int))
theorem kCX6_truncate : okC mX6_truncate 1 := ⟨(lw_k2 111 (by decide +kernel) (by decide +kernel)), ⟨by decide +kernel, by decide +kernel, by decide +kernel⟩, by decide +kernel, by decide, (lw_k1 1 (by decide +kernel) (by decide +kernel))⟩
abbrev mX6_load : MD := (yX6_load, cX6_load, 2, (some .int))
theorem kCX6_load : okC mX6_load 0 := ⟨(lw_k2 115 (by decide +kernel) (by decide +kernel)), ⟨by decide +kernel, by decide +kernel, by decide +kernel⟩, by decide +kernel, by decide, (lw_k1 1 (by decide +kernel) (by decide +kernel))⟩
abbrev mX6_errorCode : MD := (yX6_errorCode, cX6_errorCode, 1, (some .int))
theorem kCX6_errorCode : okC mX6_errorCode 0 := ⟨(lw_k3 80 (by decide +kernel) (by decide +kernel)), ⟨by decide +kernel, by decide +kernel, by decide +kernel⟩, by decide +kernel, by decide, (lw_k1 1 (by decide +kernel) (by decide +kernel))⟩
abbrev mX6_errorPosition : MD := (yX6_errorPosition, cX6_errorPosition, 1, (some .int))
theorem kCX6_errorPosition : okC mX6_errorPosition 0 := ⟨(lw_k3 84 (by decide +kernel) (by decide +kernel)), ⟨by decide +kernel, by decide +kernel, by decide +kernel⟩, by decide +kernel, by decide, (lw_k1 1 (by decide +kernel) (by decide +kernel))⟩
abbrev mX6_find : MD := (yX6_find, cX6_find, 4, (some .int))
theorem kCX6_find : okC mX6_find 1 := ⟨(lw_k3 88 (by decide +kernel) (by decide +kernel)), ⟨by decide +kernel, by decide +kernel, by decide +kernel⟩, by decide +kernel, by decide, (lw_k1 1 (by decide +kernel) (by decide +kernel))⟩
abbrev mX6_yarnCount : MD := (yX6_yarnCount, cX6_yarnCount, 1, (some .int))
theorem kCX6_yarnCount : okC mX6_yarnCount 0 := ⟨(lw_k3 94 (by decide +kernel) (by decide +kernel)), ⟨by decide +kernel, by decide +kernel, by decide +kernel⟩, by decide +kernel, by decide, (lw_k1 1 (by decide +kernel) (by decide +kernel))⟩
abbrev mX6_shapeCount : MD := (yX6_shapeCount, cX6_shapeCount, 1, (some .int))
theorem kCX6_shapeCount : okC mX6_shapeCount 0 := ⟨(lw_k3 98 (by decide +kernel) (by decide +kernel)), ⟨by decide +kernel, by decide +kernel, by decide +kernel⟩, by decide +kernel, by decide, (lw_k1 1 (by decide +kernel) (by decide +kernel))⟩
abbrev mX6_sizeCount : MD := (yX6_sizeCount, cX6_sizeCount, 1, (some .int))
theorem kCX6_sizeCount : okC mX6_sizeCount 0 := ⟨(lw_k3 102 (by decide +kernel) (by decide +kernel)), ⟨by decide +kernel, by decide +kernel, by decide +kernel⟩, by decide +kernel, by decide, (lw_k1 1 (by decide +kernel) (by decide +kernel))⟩
abbrev mX6_pieceCount : MD := (yX6_pieceCount, cX6_pieceCount, 1, (some .int))
theorem kCX6_pieceCount : okC mX6_pieceCount 0 := ⟨(lw_k3 106 (by decide +kernel) (by decide +kernel)), ⟨by decide +kernel, by decide +kernel, by decide +kernel⟩, by decide +kernel, by decide, (lw_k1 1 (by decide +kernel) (by decide +kernel))⟩
abbrev mX6_days : MD := (yX6_days, cX6_days, 1, (some .int))
theorem kCX6_days : okC mX6_days 0 := ⟨(lw_k3 110 (by decide +kernel) (by decide +kernel)), ⟨by decide +kernel, by decide +kernel, by decide +kernel⟩, by decide +kernel, by decide, (lw_k1 1 (by decide +kernel) (by decide +kernel))⟩
abbrev mX6_undoCount : MD := (yX6_undoCount, cX6_undoCount, 1, (some .int))
theorem kCX6_undoCount : okC mX6_undoCount 0 := ⟨(lw_k3 114 (by decide +kernel) (by decide +kernel)), ⟨by decide +kernel, by decide +kernel, by decide +kernel⟩, by decide +kernel, by decide, (lw_k1 1 (by decide +kernel) (by decide +kernel))⟩
abbrev mX6_lengthTolerance : MD := (yX6_lengthTolerance, cX6_lengthTolerance, 1, (some .int))
theorem kCX6_lengthTolerance : okC mX6_lengthTolerance 0 := ⟨(lw_k3 118 (by decide +kernel) (by decide +kernel)), ⟨by decide +kernel, by decide +kernel, by decide +kernel⟩, by decide +kernel, by decide, (lw_k1 1 (by decide +kernel) (by decide +kernel))⟩
abbrev mX6_shadeTolerance : MD := (yX6_shadeTolerance, cX6_shadeTolerance, 1, (some .int))
theorem kCX6_shadeTolerance : okC mX6_shadeTolerance 0 := ⟨(lw_k3 122 (by decide +kernel) (by decide +kernel)), ⟨by decide +kernel, by decide +kernel, by decide +kernel⟩, by decide +kernel, by decide, (lw_k1 1 (by decide +kernel) (by decide +kernel))⟩
abbrev mX6_steam : MD := (yX6_steam, cX6_steam, 1, (some .int))
theorem kCX6_steam : okC mX6_steam 0 := ⟨(lw_k3 126 (by decide +kernel) (by decide +kernel)), ⟨by decide +kernel, by decide +kernel, by decide +kernel⟩, by decide +kernel, by decide, (lw_k1 1 (by decide +kernel) (by decide +kernel))⟩
abbrev mX6_length : MD := (yX6_length, cX6_length, 2, (some .int))
theorem kCX6_length : okC mX6_length 1 := ⟨(lw_k3 130 (by decide +kernel) (by decide +kernel)), ⟨by decide +kernel, by decide +kernel, by decide +kernel⟩, by decide +kernel, by decide, (lw_k1 1 (by decide +kernel) (by decide +kernel))⟩
abbrev mX6_knitted : MD := (yX6_knitted, cX6_knitted, 2, (some .int))
theorem kCX6_knitted : okC mX6_knitted 1 := ⟨(lw_k3 138 (by decide +kernel) (by decide +kernel)), ⟨by decide +kernel, by decide +kernel, by decide +kernel⟩, by decide +kernel, by decide, (lw_k1 1 (by decide +kernel) (by decide +kernel))⟩
abbrev mX6_shade : MD := (yX6_shade, cX6_shade, 2, (some .int))
theorem kCX6_shade : okC mX6_shade 1 := ⟨(lw_k3 142 (by decide +kernel) (by decide +kernel)), ⟨by decide +kernel, by decide +kernel, by decide +kernel⟩, by decide +kernel, by decide, (lw_k1 1 (by decide +kernel) (by decide +kernel))⟩
abbrev mX6_yarnOf : MD := (yX6_yarnOf, cX6_yarnOf, 2, (some .int))
theorem kCX6_yarnOf : okC mX6_yarnOf 1 := ⟨(lw_k3 146 (by decide +kernel) (by decide +kernel)), ⟨by decide +kernel, by decide +kernel, by decide +kernel⟩, by decide +kernel, by decide, (lw_k1 1 (by decide +kernel) (by decide +kernel))⟩
abbrev mX6_kindOf : MD := (yX6_kindOf, cX6_kindOf, 2, (some .int))
theorem kCX6_kindOf : okC mX6_kindOf 1 := ⟨(lw_k3 150 (by decide +kernel) (by decide +kernel)), ⟨by decide +kernel, by decide +kernel, by decide +kernel⟩, by decide +kernel, by decide, (lw_k1 1 (by decide +kernel) (by decide +kernel))⟩
abbrev mX6_state : MD := (yX6_state, cX6_state, 2, (some .int))
theorem kCX6_state : okC mX6_state 1 := ⟨(lw_k3 154 (by decide +kernel) (by decide +kernel)), ⟨by decide +kernel, by decide +kernel, by decide +kernel⟩, by decide +kernel, by decide, (lw_k1 1 (by decide +kernel) (by decide +kernel))⟩
abbrev mX6_inState : MD := (yX6_inState, cX6_inState, 2, (some .int))
theorem kCX6_inState : okC mX6_inState 1 := ⟨(lw_k3 158 (by decide +kernel) (by decide +kernel)), ⟨by decide +kernel, by decide +kernel, by decide +kernel⟩, by decide +kernel, by decide, (lw_k1 1 (by decide +kernel) (by decide +kernel))⟩
abbrev mX6_ofYarn : MD := (yX6_ofYarn, cX6_ofYarn, 2, (some .int))
theorem kCX6_ofYarn : okC mX6_ofYarn 1 := ⟨(lw_k3 166 (by decide +kernel) (by decide +kernel)), ⟨by decide +kernel, by decide +kernel, by decide +kernel⟩, by decide +kernel, by decide, (lw_k1 1 (by decide +kernel) (by decide +kernel))⟩
abbrev mX6_stretchLimit : MD := (yX6_stretchLimit, cX6_stretchLimit, 2, (some .int))
theorem kCX6_stretchLimit : okC mX6_stretchLimit 1 := ⟨(lw_k3 170 (by decide +kernel) (by decide +kernel)), ⟨by decide +kernel, by decide +kernel, by decide +kernel⟩, by decide +kernel, by decide, (lw_k1 1 (by decide +kernel) (by decide +kernel))⟩
abbrev mX6_longestShape : MD := (yX6_longestShape, cX6_longestShape, 2, (some .int))
theorem kCX6_longestShape : okC mX6_longestShape 1 := ⟨(lw_k3 182 (by decide +kernel) (by decide +kernel)), ⟨by decide +kernel, by decide +kernel, by decide +kernel⟩, by decide +kernel, by decide, (lw_k1 1 (by decide +kernel) (by decide +kernel))⟩
abbrev mX6_ifBoarded : MD := (yX6_ifBoarded, cX6_ifBoarded, 3, (some .int))
theorem kCX6_ifBoarded : okC mX6_ifBoarded 2 := ⟨(lw_k3 191 (by decide +kernel) (by decide +kernel)), ⟨by decide +kernel, by decide +kernel, by decide +kernel⟩, by decide +kernel, by decide, (lw_k1 1 (by decide +kernel) (by decide +kernel))⟩
abbrev mX6_shapeFor : MD := (yX6_shapeFor, cX6_shapeFor, 8, (some .int))
theorem kCX6_shapeFor : okC mX6_shapeFor 2 := ⟨(lw_k3 208 (by decide +kernel) (by decide +kernel)), ⟨by decide +kernel, by decide +kernel, by decide +kernel⟩, by decide +kernel, by decide, (lw_k1 1 (by decide +kernel) (by decide +kernel))⟩
abbrev mX6_sizeOf : MD := (yX6_sizeOf, cX6_sizeOf, 2, (some .int))
theorem kCX6_sizeOf : okC mX6_sizeOf 1 := ⟨(lw_k3 216 (by decide +kernel) (by decide +kernel)), ⟨by decide +kernel, by decide +kernel, by decide +kernel⟩, by decide +kernel, by decide, (lw_k1 1 (by decide +kernel) (by decide +kernel))⟩
abbrev mX6_ofSize : MD := (yX6_ofSize, cX6_ofSize, 4, (some .int))
theorem kCX6_ofSize : okC mX6_ofSize 1 := ⟨(lw_k3 229 (by decide +kernel) (by decide +kernel)), ⟨by decide +kernel, by decide +kernel, by decide +kernel⟩, by decide +kernel, by decide, (lw_k1 1 (by decide +kernel) (by decide +kernel))⟩
abbrev mX6_sorted : MD := (yX6_sorted, cX6_sorted, 3, (some .int))
theorem kCX6_sorted : okC mX6_sorted 1 := ⟨(lw_k3 237 (by decide +kernel) (by decide +kernel)), ⟨by decide +kernel, by decide +kernel, by decide +kernel⟩, by decide +kernel, by decide, (lw_k1 1 (by decide +kernel) (by decide +kernel))⟩
abbrev mX6_lengthRange : MD := (yX6_lengthRange, cX6_lengthRange, 4, (some .int))
theorem kCX6_lengthRange : okC mX6_lengthRange 0 := ⟨(lw_k4 5 (by decide +kernel) (by decide +kernel)), ⟨by decide +kernel, by decide +kernel, by decide +kernel⟩, by decide +kernel, by decide, (lw_k1 1 (by decide +kernel) (by decide +kernel))⟩
abbrev mX6_board : MD := (yX6_board, cX6_board, 3, (some .int))
theorem kCX6_board : okC mX6_board 2 := ⟨(lw_k4 14 (by decide +kernel) (by decide +kernel)), ⟨by decide +kernel, by decide +kernel, by decide +kernel⟩, by decide +kernel, by decide, (lw_k1 1 (by decide +kernel) (by decide +kernel))⟩
abbrev mX6_boardAll : MD := (yX6_boardAll, cX6_boardAll, 2, (some .int))
theorem kCX6_boardAll : okC mX6_boardAll 1 := ⟨(lw_k4 23 (by decide +kernel) (by decide +kernel)), ⟨by decide +kernel, by decide +kernel, by decide +kernel⟩, by decide +kernel, by decide, (lw_k1 1 (by decide +kernel) (by decide +kernel))⟩
abbrev mX6_day : MD := (yX6_day, cX6_day, 1, (some .int))
theorem kCX6_day : okC mX6_day 0 := ⟨(lw_k4 32 (by decide +kernel) (by decide +kernel)), ⟨by decide +kernel, by decide +kernel, by decide +kernel⟩, by decide +kernel, by decide, (lw_k1 1 (by decide +kernel) (by decide +kernel))⟩
abbrev mX6_dye : MD := (yX6_dye, cX6_dye, 4, (some .int))
theorem kCX6_dye : okC mX6_dye 2 := ⟨(lw_k4 41 (by decide +kernel) (by decide +kernel)), ⟨by decide +kernel, by decide +kernel, by decide +kernel⟩, by decide +kernel, by decide, (lw_k1 1 (by decide +kernel) (by decide +kernel))⟩
abbrev mX6_setTolerance : MD := (yX6_setTolerance, cX6_setTolerance, 4, (some .int))
theorem kCX6_setTolerance : okC mX6_setTolerance 2 := ⟨(lw_k4 45 (by decide +kernel) (by decide +kernel)), ⟨by decide +kernel, by decide +kernel, by decide +kernel⟩, by decide +kernel, by decide, (lw_k1 1 (by decide +kernel) (by decide +kernel))⟩
abbrev mX6_setSteam : MD := (yX6_setSteam, cX6_setSteam, 3, (some .int))
theorem kCX6_setSteam : okC mX6_setSteam 1 := ⟨(lw_k4 52 (by decide +kernel) (by decide +kernel)), ⟨by decide +kernel, by decide +kernel, by decide +kernel⟩, by decide +kernel, by decide, (lw_k1 1 (by decide +kernel) (by decide +kernel))⟩
abbrev mX6_pack : MD := (yX6_pack, cX6_pack, 3, (some .int))
theorem kCX6_pack : okC mX6_pack 0 := ⟨(lw_k4 56 (by decide +kernel) (by decide +kernel)), ⟨by decide +kernel, by decide +kernel, by decide +kernel⟩, by decide +kernel, by decide, (lw_k1 1 (by decide +kernel) (by decide +kernel))⟩
abbrev mX6_boxCount : MD := (yX6_boxCount, cX6_boxCount, 1, (some .int))
theorem kCX6_boxCount : okC mX6_boxCount 0 := ⟨(lw_k4 149 (by decide +kernel) (by decide +kernel)), ⟨by decide +kernel, by decide +kernel, by decide +kernel⟩, by decide +kernel, by decide, (lw_k1 1 (by decide +kernel) (by decide +kernel))⟩
abbrev mX6_undo : MD := (yX6_undo, cX6_undo, 1, (some .int))
theorem kCX6_undo : okC mX6_undo 0 := ⟨(lw_k4 153 (by decide +kernel) (by decide +kernel)), ⟨by decide +kernel, by decide +kernel, by decide +kernel⟩, by decide +kernel, by decide, (lw_k1 1 (by decide +kernel) (by decide +kernel))⟩
abbrev mX6_isMatch : MD := (yX6_isMatch, cX6_isMatch, 3, (some .int))
theorem kCX6_isMatch : okC mX6_isMatch 2 := ⟨(lw_k4 161 (by decide +kernel) (by decide +kernel)), ⟨by decide +kernel, by decide +kernel, by decide +kernel⟩, by decide +kernel, by decide, (lw_k1 1 (by decide +kernel) (by decide +kernel))⟩
abbrev mX6_gap : MD := (yX6_gap, cX6_gap, 3, (some .int))
theorem kCX6_gap : okC mX6_gap 2 := ⟨(lw_k4 170 (by decide +kernel) (by decide +kernel)), ⟨by decide +kernel, by decide +kernel, by decide +kernel⟩, by decide +kernel, by decide, (lw_k1 1 (by decide +kernel) (by decide +kernel))⟩
abbrev mX6_matches : MD := (yX6_matches, cX6_matches, 2, (some .int))
theorem kCX6_matches : okC mX6_matches 1 := ⟨(lw_k4 175 (by decide +kernel) (by decide +kernel)), ⟨by decide +kernel, by decide +kernel, by decide +kernel⟩, by decide +kernel, by decide, (lw_k1 1 (by decide +kernel) (by decide +kernel))⟩
abbrev mX6_nearest : MD := (yX6_nearest, cX6_nearest, 4, (some .int))
theorem kCX6_nearest : okC mX6_nearest 1 := ⟨(lw_k4 184 (by decide +kernel) (by decide +kernel)), ⟨by decide +kernel, by decide +kernel, by decide +kernel⟩, by decide +kernel, by decide, (lw_k1 1 (by decide +kernel) (by decide +kernel))⟩
abbrev mX6_pairCount : MD := (yX6_pairCount, cX6_pairCount, 1, (some .int))
theorem kCX6_pairCount : okC mX6_pairCount 0 := ⟨(lw_k4 188 (by decide +kernel) (by decide +kernel)), ⟨by decide +kernel, by decide +kernel, by decide +kernel⟩, by decide +kernel, by decide, (lw_k1 1 (by decide +kernel) (by decide +kernel))⟩
abbrev mX6_pairGap : MD := (yX6_pairGap, cX6_pairGap, 1, (some .int))
theorem kCX6_pairGap : okC mX6_pairGap 0 := ⟨(lw_k4 192 (by decide +kernel) (by decide +kernel)), ⟨by decide +kernel, by decide +kernel, by decide +kernel⟩, by decide +kernel, by decide, (lw_k1 1 (by decide +kernel) (by decide +kernel))⟩
abbrev mX6_partner : MD := (yX6_partner, cX6_partner, 2, (some .int))
theorem kCX6_partner : okC mX6_partner 1 := ⟨(lw_k4 196 (by decide +kernel) (by decide +kernel)), ⟨by decide +kernel, by decide +kernel, by decide +kernel⟩, by decide +kernel, by decide, (lw_k1 1 (by decide +kernel) (by decide +kernel))⟩
abbrev mX6_pair : MD := (yX6_pair, cX6_pair, 3, (some .int))
theorem kCX6_pair : okC mX6_pair 1 := ⟨(lw_k4 200 (by decide +kernel) (by decide +kernel)), ⟨by decide +kernel, by decide +kernel, by decide +kernel⟩, by decide +kernel, by decide, (lw_k1 1 (by decide +kernel) (by decide +kernel))⟩
abbrev mX6_pairSize : MD := (yX6_pairSize, cX6_pairSize, 3, (some .int))
theorem kCX6_pairSize : okC mX6_pairSize 1 := ⟨(lw_k4 209 (by decide +kernel) (by decide +kernel)), ⟨by decide +kernel, by decide +kernel, by decide +kernel⟩, by decide +kernel, by decide, (lw_k1 1 (by decide +kernel) (by decide +kernel))⟩
abbrev mX6_worstPair : MD := (yX6_worstPair, cX6_worstPair, 6, (some .int))
theorem kCX6_worstPair : okC mX6_worstPair 0 := ⟨(lw_k4 213 (by decide +kernel) (by decide +kernel)), ⟨by decide +kernel, by decide +kernel, by decide +kernel⟩, by decide +kernel, by decide, (lw_k1 1 (by decide +kernel) (by decide +kernel))⟩
abbrev mX6_seconds : MD := (yX6_seconds, cX6_seconds, 3, (some .int))
theorem kCX6_seconds : okC mX6_seconds 0 := ⟨(lw_k4 217 (by decide +kernel) (by decide +kernel)), ⟨by decide +kernel, by decide +kernel, by decide +kernel⟩, by decide +kernel, by decide, (lw_k1 1 (by decide +kernel) (by decide +kernel))⟩
abbrev mX6_groupCount : MD := (yX6_groupCount, cX6_groupCount, 3, (some .int))
theorem kCX6_groupCount : okC mX6_groupCount 0 := ⟨(lw_k4 221 (by decide +kernel) (by decide +kernel)), ⟨by decide +kernel, by decide +kernel, by decide +kernel⟩, by decide +kernel, by decide, (lw_k1 1 (by decide +kernel) (by decide +kernel))⟩
abbrev mX6_groupOf : MD := (yX6_groupOf, cX6_groupOf, 2, (some .int))
theorem kCX6_groupOf : okC mX6_groupOf 1 := ⟨(lw_k4 232 (by decide +kernel) (by decide +kernel)), ⟨by decide +kernel, by decide +kernel, by decide +kernel⟩, by decide +kernel, by decide, (lw_k1 1 (by decide +kernel) (by decide +kernel))⟩
abbrev mX6_ifDays : MD := (yX6_ifDays, cX6_ifDays, 3, (some .int))
theorem kCX6_ifDays : okC mX6_ifDays 1 := ⟨(lw_k4 236 (by decide +kernel) (by decide +kernel)), ⟨by decide +kernel, by decide +kernel, by decide +kernel⟩, by decide +kernel, by decide, (lw_k1 1 (by decide +kernel) (by decide +kernel))⟩
abbrev mX6_bestDay : MD := (yX6_bestDay, cX6_bestDay, 6, (some .int))
theorem kCX6_bestDay : okC mX6_bestDay 1 := ⟨(lw_k5 4 (by decide +kernel) (by decide +kernel)), ⟨by decide +kernel, by decide +kernel, by decide +kernel⟩, by decide +kernel, by decide, (lw_k1 1 (by decide +kernel) (by decide +kernel))⟩
abbrev mX6_daysToSize : MD := (yX6_daysToSize, cX6_daysToSize, 4, (some .int))
theorem kCX6_daysToSize : okC mX6_daysToSize 2 := ⟨(lw_k5 8 (by decide +kernel) (by decide +kernel)), ⟨by decide +kernel, by decide +kernel, by decide +kernel⟩, by decide +kernel, by decide, (lw_k1 1 (by decide +kernel) (by decide +kernel))⟩
abbrev mX6_ifAllBoarded : MD := (yX6_ifAllBoarded, cX6_ifAllBoarded, 2, (some .int))
theorem kCX6_ifAllBoarded : okC mX6_ifAllBoarded 1 := ⟨(lw_k5 12 (by decide +kernel) (by decide +kernel)), ⟨by decide +kernel, by decide +kernel, by decide +kernel⟩, by decide +kernel, by decide, (lw_k1 1 (by decide +kernel) (by decide +kernel))⟩
abbrev mX6_bestShape : MD := (yX6_bestShape, cX6_bestShape, 5, (some .int))
theorem kCX6_bestShape : okC mX6_bestShape 0 := ⟨(lw_k5 20 (by decide +kernel) (by decide +kernel)), ⟨by decide +kernel, by decide +kernel, by decide +kernel⟩, by decide +kernel, by decide, (lw_k1 1 (by decide +kernel) (by decide +kernel))⟩
abbrev mX6_leastSteam : MD := (yX6_leastSteam, cX6_leastSteam, 4, (some .int))
theorem kCX6_leastSteam : okC mX6_leastSteam 2 := ⟨(lw_k5 24 (by decide +kernel) (by decide +kernel)), ⟨by decide +kernel, by decide +kernel, by decide +kernel⟩, by decide +kernel, by decide, (lw_k1 1 (by decide +kernel) (by decide +kernel))⟩
abbrev mX6_leastTolerance : MD := (yX6_leastTolerance, cX6_leastTolerance, 7, (some .int))
theorem kCX6_leastTolerance : okC mX6_leastTolerance 1 := ⟨(lw_k5 28 (by decide +kernel) (by decide +kernel)), ⟨by decide +kernel, by decide +kernel, by decide +kernel⟩, by decide +kernel, by decide, (lw_k1 1 (by decide +kernel) (by decide +kernel))⟩
abbrev mX6_ifTolerance : MD := (yX6_ifTolerance, cX6_ifTolerance, 3, (some .int))
theorem kCX6_ifTolerance : okC mX6_ifTolerance 2 := ⟨(lw_k5 36 (by decide +kernel) (by decide +kernel)), ⟨by decide +kernel, by decide +kernel, by decide +kernel⟩, by decide +kernel, by decide, (lw_k1 1 (by decide +kernel) (by decide +kernel))⟩
abbrev mX6_bestDye : MD := (yX6_bestDye, cX6_bestDye, 10, (some .int))
theorem kCX6_bestDye : okC mX6_bestDye 1 := ⟨(lw_k5 40 (by decide +kernel) (by decide +kernel)), ⟨by decide +kernel, by decide +kernel, by decide +kernel⟩, by decide +kernel, by decide, (lw_k1 1 (by decide +kernel) (by decide +kernel))⟩
abbrev mX6_writePlant : MD := (yX6_writePlant, cX6_writePlant, 2, (some .int))
theorem kCX6_writePlant : okC mX6_writePlant 0 := ⟨(lw_k5 44 (by decide +kernel) (by decide +kernel)), ⟨by decide +kernel, by decide +kernel, by decide +kernel⟩, by decide +kernel, by decide, (lw_k1 1 (by decide +kernel) (by decide +kernel))⟩
abbrev mX6_outputByte : MD := (yX6_outputByte, cX6_outputByte, 2, (some .int))
theorem kCX6_outputByte : okC mX6_outputByte 1 := ⟨(lw_k5 229 (by decide +kernel) (by decide +kernel)), ⟨by decide +kernel, by decide +kernel, by decide +kernel⟩, by decide +kernel, by decide, (lw_k1 1 (by decide +kernel) (by decide +kernel))⟩
abbrev mX6_appendBytes : MD := (yX6_appendBytes, cX6_appendBytes, 3, none)
theorem kCX6_appendBytes : okC mX6_appendBytes 1 := ⟨(lw_k2 104 (by decide +kernel) (by decide +kernel)), ⟨by decide +kernel, by decide +kernel, by decide +kernel⟩, by decide +kernel, by decide, (lw_k1 1 (by decide +kernel) (by decide +kernel))⟩
abbrev mX6_beforeChange : MD := (yX6_beforeChange, cX6_beforeChange, 1, none)
theorem kCX6_beforeChange : okC mX6_beforeChange 0 := ⟨(lw_k3 51 (by decide +kernel) (by decide +kernel)), ⟨by decide +kernel, by decide +kernel, by decide +kernel⟩, by decide +kernel, by decide, (lw_k1 1 (by decide +kernel) (by decide +kernel))⟩
abbrev mX6_findPairs : MD := (yX6_findPairs, cX6_findPairs, 1, none)
theorem kCX6_findPairs : okC mX6_findPairs 0 := ⟨(lw_k4 60 (by decide +kernel) (by decide +kernel)), ⟨by decide +kernel, by decide +kernel, by decide +kernel⟩, by decide +kernel, by decide, (lw_k1 1 (by decide +kernel) (by decide +kernel))⟩
abbrev mX6_isPiece : MD := (yX6_isPiece, cX6_isPiece, 2, (some .boolean))
theorem kCX6_isPiece : okC mX6_isPiece 1 := ⟨(lw_k3 134 (by decide +kernel) (by decide +kernel)), ⟨by decide +kernel, by decide +kernel, by decide +kernel⟩, by decide +kernel, by decide, (lw_k1 1 (by decide +kernel) (by decide +kernel))⟩
abbrev mX6_areTwoPieces : MD := (yX6_areTwoPieces, cX6_areTwoPieces, 3, (some .boolean))
theorem kCX6_areTwoPieces : okC mX6_areTwoPieces 2 := ⟨(lw_k4 165 (by decide +kernel) (by decide +kernel)), ⟨by decide +kernel, by decide +kernel, by decide +kernel⟩, by decide +kernel, by decide, (lw_k1 1 (by decide +kernel) (by decide +kernel))⟩
abbrev mX6_isShape : MD := (yX6_isShape, cX6_isShape, 2, (some .boolean))
theorem kCX6_isShape : okC mX6_isShape 1 := ⟨(lw_k3 195 (by decide +kernel) (by decide +kernel)), ⟨by decide +kernel, by decide +kernel, by decide +kernel⟩, by decide +kernel, by decide, (lw_k1 1 (by decide +kernel) (by decide +kernel))⟩
abbrev mX6_isSize : MD := (yX6_isSize, cX6_isSize, 2, (some .boolean))
theorem kCX6_isSize : okC mX6_isSize 1 := ⟨(lw_k3 233 (by decide +kernel) (by decide +kernel)), ⟨by decide +kernel, by decide +kernel, by decide +kernel⟩, by decide +kernel, by decide, (lw_k1 1 (by decide +kernel) (by decide +kernel))⟩
abbrev mX6_areTolerances : MD := (yX6_areTolerances, cX6_areTolerances, 2, (some .boolean))
theorem kCX6_areTolerances : okC mX6_areTolerances 2 := ⟨(lw_k4 48 (by decide +kernel) (by decide +kernel)), ⟨by decide +kernel, by decide +kernel, by decide +kernel⟩, by decide +kernel, by decide, (lw_k1 1 (by decide +kernel) (by decide +kernel))⟩
abbrev mX6_setWhere : MD := (yX6_setWhere, cX6_setWhere, 5, (some .int))
theorem kCX6_setWhere : okC mX6_setWhere 2 := ⟨(lw_k3 162 (by decide +kernel) (by decide +kernel)), ⟨by decide +kernel, by decide +kernel, by decide +kernel⟩, by decide +kernel, by decide, (lw_k1 1 (by decide +kernel) (by decide +kernel))⟩
abbrev mX6_pairsIfBoarded : MD := (yX6_pairsIfBoarded, cX6_pairsIfBoarded, 3, (some .int))
theorem kCX6_pairsIfBoarded : okC mX6_pairsIfBoarded 2 := ⟨(lw_k5 16 (by decide +kernel) (by decide +kernel)), ⟨by decide +kernel, by decide +kernel, by decide +kernel⟩, by decide +kernel, by decide, (lw_k1 1 (by decide +kernel) (by decide +kernel))⟩
abbrev mX6_pairsWithin : MD := (yX6_pairsWithin, cX6_pairsWithin, 3, (some .int))
theorem kCX6_pairsWithin : okC mX6_pairsWithin 2 := ⟨(lw_k5 32 (by decide +kernel) (by decide +kernel)), ⟨by decide +kernel, by decide +kernel, by decide +kernel⟩, by decide +kernel, by decide, (lw_k1 1 (by decide +kernel) (by decide +kernel))⟩
abbrev mX6_sizeOfPair : MD := (yX6_sizeOfPair, cX6_sizeOfPair, 5, (some .int))
theorem kCX6_sizeOfPair : okC mX6_sizeOfPair 1 := ⟨(lw_k4 135 (by decide +kernel) (by decide +kernel)), ⟨by decide +kernel, by decide +kernel, by decide +kernel⟩, by decide +kernel, by decide, (lw_k1 1 (by decide +kernel) (by decide +kernel))⟩
abbrev mX6_packableSet : MD := (yX6_packableSet, cX6_packableSet, 3, (some .int))
theorem kCX6_packableSet : okC mX6_packableSet 0 := ⟨(lw_k4 127 (by decide +kernel) (by decide +kernel)), ⟨by decide +kernel, by decide +kernel, by decide +kernel⟩, by decide +kernel, by decide, (lw_k1 1 (by decide +kernel) (by decide +kernel))⟩
abbrev mX6_isInFullBox : MD := (yX6_isInFullBox, cX6_isInFullBox, 5, (some .boolean))
theorem kCX6_isInFullBox : okC mX6_isInFullBox 1 := ⟨(lw_k4 131 (by decide +kernel) (by decide +kernel)), ⟨by decide +kernel, by decide +kernel, by decide +kernel⟩, by decide +kernel, by decide, (lw_k1 1 (by decide +kernel) (by decide +kernel))⟩
abbrev mX6_isBoxedWith : MD := (yX6_isBoxedWith, cX6_isBoxedWith, 3, (some .boolean))
theorem kCX6_isBoxedWith : okC mX6_isBoxedWith 2 := ⟨(lw_k4 140 (by decide +kernel) (by decide +kernel)), ⟨by decide +kernel, by decide +kernel, by decide +kernel⟩, by decide +kernel, by decide, (lw_k1 1 (by decide +kernel) (by decide +kernel))⟩
abbrev mX6_boxesOf : MD := (yX6_boxesOf, cX6_boxesOf, 2, (some .int))
theorem kCX6_boxesOf : okC mX6_boxesOf 1 := ⟨(lw_k4 145 (by decide +kernel) (by decide +kernel)), ⟨by decide +kernel, by decide +kernel, by decide +kernel⟩, by decide +kernel, by decide, (lw_k1 1 (by decide +kernel) (by decide +kernel))⟩
abbrev mX6_writeCatalogue : MD := (yX6_writeCatalogue, cX6_writeCatalogue, 3, none)
theorem kCX6_writeCatalogue : okC mX6_writeCatalogue 1 := ⟨(lw_k5 204 (by decide +kernel) (by decide +kernel)), ⟨by decide +kernel, by decide +kernel, by decide +kernel⟩, by decide +kernel, by decide, (lw_k1 1 (by decide +kernel) (by decide +kernel))⟩
abbrev mX6_writeName : MD := (yX6_writeName, cX6_writeName, 4, none)
theorem kCX6_writeName : okC mX6_writeName 1 := ⟨(lw_k5 209 (by decide +kernel) (by decide +kernel)), ⟨by decide +kernel, by decide +kernel, by decide +kernel⟩, by decide +kernel, by decide, (lw_k1 1 (by decide +kernel) (by decide +kernel))⟩
abbrev mX6_kindWord : MD := (yX6_kindWord, cX6_kindWord, 1, (some (.object "java/lang/String")))
theorem kCX6_kindWord : okC mX6_kindWord 1 := ⟨(lw_k5 215 (by decide +kernel) (by decide +kernel)), ⟨by decide +kernel, by decide +kernel, by decide +kernel⟩, by decide +kernel, by decide, (lw_k1 1 (by decide +kernel) (by decide +kernel))⟩
abbrev mX6_at : MD := (yX6_at, cX6_at, 2, (some .int))
theorem kCX6_at : okC mX6_at 2 := ⟨(lw_k2 127 (by decide +kernel) (by decide +kernel)), ⟨by decide +kernel, by decide +kernel, by decide +kernel⟩, by decide +kernel, by decide, (lw_k1 1 (by decide +kernel) (by decide +kernel))⟩
abbrev mX6_put : MD := (yX6_put, cX6_put, 3, none)
theorem kCX6_put : okC mX6_put 3 := ⟨(lw_k2 107 (by decide +kernel) (by decide +kernel)), ⟨by decide +kernel, by decide +kernel, by decide +kernel⟩, by decide +kernel, by decide, (lw_k1 1 (by decide +kernel) (by decide +kernel))⟩
abbrev mX6_copyRow : MD := (yX6_copyRow, cX6_copyRow, 2, none)
theorem kCX6_copyRow : okC mX6_copyRow 2 := ⟨(lw_k3 70 (by decide +kernel) (by decide +kernel)), ⟨by decide +kernel, by decide +kernel, by decide +kernel⟩, by decide +kernel, by decide, (lw_k1 1 (by decide +kernel) (by decide +kernel))⟩
abbrev mX6_isBetween : MD := (yX6_isBetween, cX6_isBetween, 3, (some .boolean))
theorem kCX6_isBetween : okC mX6_isBetween 3 := ⟨(lw_k2 211 (by decide +kernel) (by decide +kernel)), ⟨by decide +kernel, by decide +kernel, by decide +kernel⟩, by decide +kernel, by decide, (lw_k1 1 (by decide +kernel) (by decide +kernel))⟩
abbrev mX6_contains : MD := (yX6_contains, cX6_contains, 2, (some .boolean))
theorem kCX6_contains : okC mX6_contains 2 := ⟨(lw_k4 86 (by decide +kernel) (by decide +kernel)), ⟨by decide +kernel, by decide +kernel, by decide +kernel⟩, by decide +kernel, by decide, (lw_k1 1 (by decide +kernel) (by decide +kernel))⟩
abbrev mX6_lowestOf : MD := (yX6_lowestOf, cX6_lowestOf, 1, (some .int))
theorem kCX6_lowestOf : okC mX6_lowestOf 1 := ⟨(lw_k4 101 (by decide +kernel) (by decide +kernel)), ⟨by decide +kernel, by decide +kernel, by decide +kernel⟩, by decide +kernel, by decide, (lw_k1 1 (by decide +kernel) (by decide +kernel))⟩
abbrev mX6_isLetter : MD := (yX6_isLetter, cX6_isLetter, 1, (some .boolean))
theorem kCX6_isLetter : okC mX6_isLetter 1 := ⟨(lw_k2 133 (by decide +kernel) (by decide +kernel)), ⟨by decide +kernel, by decide +kernel, by decide +kernel⟩, by decide +kernel, by decide, (lw_k1 1 (by decide +kernel) (by decide +kernel))⟩
abbrev mX6_packName : MD := (yX6_packName, cX6_packName, 6, (some .int))
theorem kCX6_packName : okC mX6_packName 3 := ⟨(lw_k3 8 (by decide +kernel) (by decide +kernel)), ⟨by decide +kernel, by decide +kernel, by decide +kernel⟩, by decide +kernel, by decide, (lw_k1 1 (by decide +kernel) (by decide +kernel))⟩
abbrev mX6_indexOfName : MD := (yX6_indexOfName, cX6_indexOfName, 4, (some .int))
theorem kCX6_indexOfName : okC mX6_indexOfName 3 := ⟨(lw_k3 17 (by decide +kernel) (by decide +kernel)), ⟨by decide +kernel, by decide +kernel, by decide +kernel⟩, by decide +kernel, by decide, (lw_k1 1 (by decide +kernel) (by decide +kernel))⟩
abbrev mX7_in : MD := (yX7_in, cX7_in, 6, (some .boolean))
theorem kCX7_in : okC mX7_in 3 := ⟨(lw_k6 120 (by decide +kernel) (by decide +kernel)), ⟨by decide +kernel, by decide +kernel, by decide +kernel⟩, by decide +kernel, by decide, (lw_k1 12 (by decide +kernel) (by decide +kernel))⟩
abbrev mX7_hasBit : MD := (yX7_hasBit, cX7_hasBit, 2, (some .boolean))
theorem kCX7_hasBit : okC mX7_hasBit 2 := ⟨(lw_k7 42 (by decide +kernel) (by decide +kernel)), ⟨by decide +kernel, by decide +kernel, by decide +kernel⟩, by decide +kernel, by decide, (lw_k1 12 (by decide +kernel) (by decide +kernel))⟩
abbrev mX7_init : MD := (yX7_init, cX7_init, 1, none)
theorem kCX7_init : okC mX7_init 0 := ⟨(lw_k6 4 (by decide +kernel) (by decide +kernel)), ⟨by decide +kernel, by decide +kernel, by decide +kernel⟩, by decide +kernel, by decide, (lw_k1 12 (by decide +kernel) (by decide +kernel))⟩
abbrev mX7_clear : MD := (yX7_clear, cX7_clear, 2, none)
theorem kCX7_clear : okC mX7_clear 1 := ⟨(lw_k6 8 (by decide +kernel) (by decide +kernel)), ⟨by decide +kernel, by decide +kernel, by decide +kernel⟩, by decide +kernel, by decide, (lw_k1 12 (by decide +kernel) (by decide +kernel))⟩
abbrev mX7_startPrediction : MD := (yX7_startPrediction, cX7_startPrediction, 2, none)
theorem kCX7_startPrediction : okC mX7_startPrediction 0 := ⟨(lw_k7 119 (by decide +kernel) (by decide +kernel)), ⟨by decide +kernel, by decide +kernel, by decide +kernel⟩, by decide +kernel, by decide, (lw_k1 12 (by decide +kernel) (by decide +kernel))⟩
abbrev mX7_at : MD := (yX7_at, cX7_at, 2, (some .int))
theorem kCX7_at : okC mX7_at 2 := ⟨(lw_k6 127 (by decide +kernel) (by decide +kernel)), ⟨by decide +kernel, by decide +kernel, by decide +kernel⟩, by decide +kernel, by decide, (lw_k1 12 (by decide +kernel) (by decide +kernel))⟩
abbrev mX7_field : MD := (yX7_field, cX7_field, 3, (some .int))
theorem kCX7_field : okC mX7_field 2 := ⟨(lw_k6 124 (by decide +kernel) (by decide +kernel)), ⟨by decide +kernel, by decide +kernel, by decide +kernel⟩, by decide +kernel, by decide, (lw_k1 12 (by decide +kernel) (by decide +kernel))⟩
abbrev mX7_count : MD := (yX7_count, cX7_count, 1, (some .int))
theorem kCX7_count : okC mX7_count 0 := ⟨(lw_k6 156 (by decide +kernel) (by decide +kernel)), ⟨by decide +kernel, by decide +kernel, by decide +kernel⟩, by decide +kernel, by decide, (lw_k1 12 (by decide +kernel) (by decide +kernel))⟩
abbrev mX7_isPiece : MD := (yX7_isPiece, cX7_isPiece, 2, (some .boolean))
theorem kCX7_isPiece : okC mX7_isPiece 1 := ⟨(lw_k6 117 (by decide +kernel) (by decide +kernel)), ⟨by decide +kernel, by decide +kernel, by decide +kernel⟩, by decide +kernel, by decide, (lw_k1 12 (by decide +kernel) (by decide +kernel))⟩
abbrev mX7_isShape : MD := (yX7_isShape, cX7_isShape, 2, (some .boolean))
theorem kCX7_isShape : okC mX7_isShape 1 := ⟨(lw_k6 185 (by decide +kernel) (by decide +kernel)), ⟨by decide +kernel, by decide +kernel, by decide +kernel⟩, by decide +kernel, by decide, (lw_k1 12 (by decide +kernel) (by decide +kernel))⟩
abbrev mX7_isIn : MD := (yX7_isIn, cX7_isIn, 3, (some .boolean))
theorem kCX7_isIn : okC mX7_isIn 2 := ⟨(lw_k6 160 (by decide +kernel) (by decide +kernel)), ⟨by decide +kernel, by decide +kernel, by decide +kernel⟩, by decide +kernel, by decide, (lw_k1 12 (by decide +kernel) (by decide +kernel))⟩
abbrev mX7_shapeLength : MD := (yX7_shapeLength, cX7_shapeLength, 2, (some .int))
theorem kCX7_shapeLength : okC mX7_shapeLength 1 := ⟨(lw_k6 197 (by decide +kernel) (by decide +kernel)), ⟨by decide +kernel, by decide +kernel, by decide +kernel⟩, by decide +kernel, by decide, (lw_k1 12 (by decide +kernel) (by decide +kernel))⟩
abbrev mX7_limitOf : MD := (yX7_limitOf, cX7_limitOf, 4, (some .int))
theorem kCX7_limitOf : okC mX7_limitOf 1 := ⟨(lw_k6 168 (by decide +kernel) (by decide +kernel)), ⟨by decide +kernel, by decide +kernel, by decide +kernel⟩, by decide +kernel, by decide, (lw_k1 12 (by decide +kernel) (by decide +kernel))⟩
abbrev mX7_longestOf : MD := (yX7_longestOf, cX7_longestOf, 2, (some .int))
theorem kCX7_longestOf : okC mX7_longestOf 1 := ⟨(lw_k6 177 (by decide +kernel) (by decide +kernel)), ⟨by decide +kernel, by decide +kernel, by decide +kernel⟩, by decide +kernel, by decide, (lw_k1 12 (by decide +kernel) (by decide +kernel))⟩
abbrev mX7_wouldTear : MD := (yX7_wouldTear, cX7_wouldTear, 3, (some .boolean))
theorem kCX7_wouldTear : okC mX7_wouldTear 2 := ⟨(lw_k6 193 (by decide +kernel) (by decide +kernel)), ⟨by decide +kernel, by decide +kernel, by decide +kernel⟩, by decide +kernel, by decide, (lw_k1 12 (by decide +kernel) (by decide +kernel))⟩
abbrev mX7_lengthOn : MD := (yX7_lengthOn, cX7_lengthOn, 4, (some .int))
theorem kCX7_lengthOn : okC mX7_lengthOn 2 := ⟨(lw_k6 201 (by decide +kernel) (by decide +kernel)), ⟨by decide +kernel, by decide +kernel, by decide +kernel⟩, by decide +kernel, by decide, (lw_k1 12 (by decide +kernel) (by decide +kernel))⟩
abbrev mX7_put : MD := (yX7_put, cX7_put, 3, (some .boolean))
theorem kCX7_put : okC mX7_put 2 := ⟨(lw_k7 143 (by decide +kernel) (by decide +kernel)), ⟨by decide +kernel, by decide +kernel, by decide +kernel⟩, by decide +kernel, by decide, (lw_k1 12 (by decide +kernel) (by decide +kernel))⟩
abbrev mX7_putAll : MD := (yX7_putAll, cX7_putAll, 4, (some .int))
theorem kCX7_putAll : okC mX7_putAll 1 := ⟨(lw_k7 139 (by decide +kernel) (by decide +kernel)), ⟨by decide +kernel, by decide +kernel, by decide +kernel⟩, by decide +kernel, by decide, (lw_k1 12 (by decide +kernel) (by decide +kernel))⟩
abbrev mX7_pass : MD := (yX7_pass, cX7_pass, 6, (some .int))
theorem kCX7_pass : okC mX7_pass 0 := ⟨(lw_k7 123 (by decide +kernel) (by decide +kernel)), ⟨by decide +kernel, by decide +kernel, by decide +kernel⟩, by decide +kernel, by decide, (lw_k1 12 (by decide +kernel) (by decide +kernel))⟩
abbrev mX7_sizeFor : MD := (yX7_sizeFor, cX7_sizeFor, 4, (some .int))
theorem kCX7_sizeFor : okC mX7_sizeFor 2 := ⟨(lw_k6 213 (by decide +kernel) (by decide +kernel)), ⟨by decide +kernel, by decide +kernel, by decide +kernel⟩, by decide +kernel, by decide, (lw_k1 12 (by decide +kernel) (by decide +kernel))⟩
abbrev mX7_sizeOfPiece : MD := (yX7_sizeOfPiece, cX7_sizeOfPiece, 2, (some .int))
theorem kCX7_sizeOfPiece : okC mX7_sizeOfPiece 1 := ⟨(lw_k6 209 (by decide +kernel) (by decide +kernel)), ⟨by decide +kernel, by decide +kernel, by decide +kernel⟩, by decide +kernel, by decide, (lw_k1 12 (by decide +kernel) (by decide +kernel))⟩
abbrev mX7_gapOf : MD := (yX7_gapOf, cX7_gapOf, 3, (some .int))
theorem kCX7_gapOf : okC mX7_gapOf 2 := ⟨(lw_k7 12 (by decide +kernel) (by decide +kernel)), ⟨by decide +kernel, by decide +kernel, by decide +kernel⟩, by decide +kernel, by decide, (lw_k1 12 (by decide +kernel) (by decide +kernel))⟩
abbrev mX7_areMatch : MD := (yX7_areMatch, cX7_areMatch, 3, (some .boolean))
theorem kCX7_areMatch : okC mX7_areMatch 2 := ⟨(lw_k7 3 (by decide +kernel) (by decide +kernel)), ⟨by decide +kernel, by decide +kernel, by decide +kernel⟩, by decide +kernel, by decide, (lw_k1 12 (by decide +kernel) (by decide +kernel))⟩
abbrev mX7_matchesOf : MD := (yX7_matchesOf, cX7_matchesOf, 4, (some .int))
theorem kCX7_matchesOf : okC mX7_matchesOf 1 := ⟨(lw_k7 20 (by decide +kernel) (by decide +kernel)), ⟨by decide +kernel, by decide +kernel, by decide +kernel⟩, by decide +kernel, by decide, (lw_k1 12 (by decide +kernel) (by decide +kernel))⟩
abbrev mX7_lowest : MD := (yX7_lowest, cX7_lowest, 2, (some .int))
theorem kCX7_lowest : okC mX7_lowest 1 := ⟨(lw_k7 39 (by decide +kernel) (by decide +kernel)), ⟨by decide +kernel, by decide +kernel, by decide +kernel⟩, by decide +kernel, by decide, (lw_k1 12 (by decide +kernel) (by decide +kernel))⟩
abbrev mX7_layWorth : MD := (yX7_layWorth, cX7_layWorth, 6, (some .int))
theorem kCX7_layWorth : okC mX7_layWorth 0 := ⟨(lw_k7 36 (by decide +kernel) (by decide +kernel)), ⟨by decide +kernel, by decide +kernel, by decide +kernel⟩, by decide +kernel, by decide, (lw_k1 12 (by decide +kernel) (by decide +kernel))⟩
abbrev mX7_worthWith : MD := (yX7_worthWith, cX7_worthWith, 4, (some .int))
theorem kCX7_worthWith : okC mX7_worthWith 3 := ⟨(lw_k7 46 (by decide +kernel) (by decide +kernel)), ⟨by decide +kernel, by decide +kernel, by decide +kernel⟩, by decide +kernel, by decide, (lw_k1 12 (by decide +kernel) (by decide +kernel))⟩
abbrev mX7_countPairs : MD := (yX7_countPairs, cX7_countPairs, 1, (some .int))
theorem kCX7_countPairs : okC mX7_countPairs 0 := ⟨(lw_k7 32 (by decide +kernel) (by decide +kernel)), ⟨by decide +kernel, by decide +kernel, by decide +kernel⟩, by decide +kernel, by decide, (lw_k1 12 (by decide +kernel) (by decide +kernel))⟩
abbrev mX7_layPartners : MD := (yX7_layPartners, cX7_layPartners, 7, (some .int))
theorem kCX7_layPartners : okC mX7_layPartners 0 := ⟨(lw_k7 54 (by decide +kernel) (by decide +kernel)), ⟨by decide +kernel, by decide +kernel, by decide +kernel⟩, by decide +kernel, by decide, (lw_k1 12 (by decide +kernel) (by decide +kernel))⟩
abbrev mX7_pairAt : MD := (yX7_pairAt, cX7_pairAt, 4, (some .int))
theorem kCX7_pairAt : okC mX7_pairAt 1 := ⟨(lw_k7 66 (by decide +kernel) (by decide +kernel)), ⟨by decide +kernel, by decide +kernel, by decide +kernel⟩, by decide +kernel, by decide, (lw_k1 12 (by decide +kernel) (by decide +kernel))⟩
abbrev mX7_sizeOfPair : MD := (yX7_sizeOfPair, cX7_sizeOfPair, 4, (some .int))
theorem kCX7_sizeOfPair : okC mX7_sizeOfPair 1 := ⟨(lw_k7 74 (by decide +kernel) (by decide +kernel)), ⟨by decide +kernel, by decide +kernel, by decide +kernel⟩, by decide +kernel, by decide, (lw_k1 12 (by decide +kernel) (by decide +kernel))⟩
abbrev mX7_groupKey : MD := (yX7_groupKey, cX7_groupKey, 2, (some .int))
theorem kCX7_groupKey : okC mX7_groupKey 1 := ⟨(lw_k7 110 (by decide +kernel) (by decide +kernel)), ⟨by decide +kernel, by decide +kernel, by decide +kernel⟩, by decide +kernel, by decide, (lw_k1 12 (by decide +kernel) (by decide +kernel))⟩
abbrev mX7_isSized : MD := (yX7_isSized, cX7_isSized, 2, (some .boolean))
theorem kCX7_isSized : okC mX7_isSized 1 := ⟨(lw_k7 102 (by decide +kernel) (by decide +kernel)), ⟨by decide +kernel, by decide +kernel, by decide +kernel⟩, by decide +kernel, by decide, (lw_k1 12 (by decide +kernel) (by decide +kernel))⟩
abbrev mX7_inGroup : MD := (yX7_inGroup, cX7_inGroup, 5, (some .int))
theorem kCX7_inGroup : okC mX7_inGroup 2 := ⟨(lw_k7 106 (by decide +kernel) (by decide +kernel)), ⟨by decide +kernel, by decide +kernel, by decide +kernel⟩, by decide +kernel, by decide, (lw_k1 12 (by decide +kernel) (by decide +kernel))⟩
abbrev mX7_packedSet : MD := (yX7_packedSet, cX7_packedSet, 4, (some .int))
theorem kCX7_packedSet : okC mX7_packedSet 0 := ⟨(lw_k7 98 (by decide +kernel) (by decide +kernel)), ⟨by decide +kernel, by decide +kernel, by decide +kernel⟩, by decide +kernel, by decide, (lw_k1 12 (by decide +kernel) (by decide +kernel))⟩
abbrev mX7_yarnCount : MD := (yX7_yarnCount, cX7_yarnCount, 1, (some .int))
theorem kCX7_yarnCount : okC mX7_yarnCount 0 := ⟨(lw_k6 81 (by decide +kernel) (by decide +kernel)), ⟨by decide +kernel, by decide +kernel, by decide +kernel⟩, by decide +kernel, by decide, (lw_k1 12 (by decide +kernel) (by decide +kernel))⟩
abbrev mX7_shapeCount : MD := (yX7_shapeCount, cX7_shapeCount, 1, (some .int))
theorem kCX7_shapeCount : okC mX7_shapeCount 0 := ⟨(lw_k6 85 (by decide +kernel) (by decide +kernel)), ⟨by decide +kernel, by decide +kernel, by decide +kernel⟩, by decide +kernel, by decide, (lw_k1 12 (by decide +kernel) (by decide +kernel))⟩
abbrev mX7_sizeCount : MD := (yX7_sizeCount, cX7_sizeCount, 1, (some .int))
theorem kCX7_sizeCount : okC mX7_sizeCount 0 := ⟨(lw_k6 89 (by decide +kernel) (by decide +kernel)), ⟨by decide +kernel, by decide +kernel, by decide +kernel⟩, by decide +kernel, by decide, (lw_k1 12 (by decide +kernel) (by decide +kernel))⟩
abbrev mX7_pieceCount : MD := (yX7_pieceCount, cX7_pieceCount, 1, (some .int))
theorem kCX7_pieceCount : okC mX7_pieceCount 0 := ⟨(lw_k6 93 (by decide +kernel) (by decide +kernel)), ⟨by decide +kernel, by decide +kernel, by decide +kernel⟩, by decide +kernel, by decide, (lw_k1 12 (by decide +kernel) (by decide +kernel))⟩
abbrev mX7_days : MD := (yX7_days, cX7_days, 1, (some .int))
theorem kCX7_days : okC mX7_days 0 := ⟨(lw_k6 97 (by decide +kernel) (by decide +kernel)), ⟨by decide +kernel, by decide +kernel, by decide +kernel⟩, by decide +kernel, by decide, (lw_k1 12 (by decide +kernel) (by decide +kernel))⟩
abbrev mX7_lengthTolerance : MD := (yX7_lengthTolerance, cX7_lengthTolerance, 1, (some .int))
theorem kCX7_lengthTolerance : okC mX7_lengthTolerance 0 := ⟨(lw_k6 101 (by decide +kernel) (by decide +kernel)), ⟨by decide +kernel, by decide +kernel, by decide +kernel⟩, by decide +kernel, by decide, (lw_k1 12 (by decide +kernel) (by decide +kernel))⟩
abbrev mX7_shadeTolerance : MD := (yX7_shadeTolerance, cX7_shadeTolerance, 1, (some .int))
theorem kCX7_shadeTolerance : okC mX7_shadeTolerance 0 := ⟨(lw_k6 105 (by decide +kernel) (by decide +kernel)), ⟨by decide +kernel, by decide +kernel, by decide +kernel⟩, by decide +kernel, by decide, (lw_k1 12 (by decide +kernel) (by decide +kernel))⟩
abbrev mX7_steam : MD := (yX7_steam, cX7_steam, 1, (some .int))
theorem kCX7_steam : okC mX7_steam 0 := ⟨(lw_k6 109 (by decide +kernel) (by decide +kernel)), ⟨by decide +kernel, by decide +kernel, by decide +kernel⟩, by decide +kernel, by decide, (lw_k1 12 (by decide +kernel) (by decide +kernel))⟩
abbrev mX7_length : MD := (yX7_length, cX7_length, 2, (some .int))
theorem kCX7_length : okC mX7_length 1 := ⟨(lw_k6 113 (by decide +kernel) (by decide +kernel)), ⟨by decide +kernel, by decide +kernel, by decide +kernel⟩, by decide +kernel, by decide, (lw_k1 12 (by decide +kernel) (by decide +kernel))⟩
abbrev mX7_knitted : MD := (yX7_knitted, cX7_knitted, 2, (some .int))
theorem kCX7_knitted : okC mX7_knitted 1 := ⟨(lw_k6 131 (by decide +kernel) (by decide +kernel)), ⟨by decide +kernel, by decide +kernel, by decide +kernel⟩, by decide +kernel, by decide, (lw_k1 12 (by decide +kernel) (by decide +kernel))⟩
abbrev mX7_shade : MD := (yX7_shade, cX7_shade, 2, (some .int))
theorem kCX7_shade : okC mX7_shade 1 := ⟨(lw_k6 135 (by decide +kernel) (by decide +kernel)), ⟨by decide +kernel, by decide +kernel, by decide +kernel⟩, by decide +kernel, by decide, (lw_k1 12 (by decide +kernel) (by decide +kernel))⟩
abbrev mX7_yarnOf : MD := (yX7_yarnOf, cX7_yarnOf, 2, (some .int))
theorem kCX7_yarnOf : okC mX7_yarnOf 1 := ⟨(lw_k6 139 (by decide +kernel) (by decide +kernel)), ⟨by decide +kernel, by decide +kernel, by decide +kernel⟩, by decide +kernel, by decide, (lw_k1 12 (by decide +kernel) (by decide +kernel))⟩
abbrev mX7_kindOf : MD := (yX7_kindOf, cX7_kindOf, 2, (some .int))
theorem kCX7_kindOf : okC mX7_kindOf 1 := ⟨(lw_k6 143 (by decide +kernel) (by decide +kernel)), ⟨by decide +kernel, by decide +kernel, by decide +kernel⟩, by decide +kernel, by decide, (lw_k1 12 (by decide +kernel) (by decide +kernel))⟩
abbrev mX7_state : MD := (yX7_state, cX7_state, 2, (some .int))
theorem kCX7_state : okC mX7_state 1 := ⟨(lw_k6 147 (by decide +kernel) (by decide +kernel)), ⟨by decide +kernel, by decide +kernel, by decide +kernel⟩, by decide +kernel, by decide, (lw_k1 12 (by decide +kernel) (by decide +kernel))⟩
abbrev mX7_inState : MD := (yX7_inState, cX7_inState, 4, (some .int))
theorem kCX7_inState : okC mX7_inState 1 := ⟨(lw_k6 151 (by decide +kernel) (by decide +kernel)), ⟨by decide +kernel, by decide +kernel, by decide +kernel⟩, by decide +kernel, by decide, (lw_k1 12 (by decide +kernel) (by decide +kernel))⟩
abbrev mX7_stretchLimit : MD := (yX7_stretchLimit, cX7_stretchLimit, 2, (some .int))
theorem kCX7_stretchLimit : okC mX7_stretchLimit 1 := ⟨(lw_k6 164 (by decide +kernel) (by decide +kernel)), ⟨by decide +kernel, by decide +kernel, by decide +kernel⟩, by decide +kernel, by decide, (lw_k1 12 (by decide +kernel) (by decide +kernel))⟩
abbrev mX7_longestShape : MD := (yX7_longestShape, cX7_longestShape, 2, (some .int))
theorem kCX7_longestShape : okC mX7_longestShape 1 := ⟨(lw_k6 173 (by decide +kernel) (by decide +kernel)), ⟨by decide +kernel, by decide +kernel, by decide +kernel⟩, by decide +kernel, by decide, (lw_k1 12 (by decide +kernel) (by decide +kernel))⟩
abbrev mX7_isDone : MD := (yX7_isDone, cX7_isDone, 2, (some .boolean))
theorem kCX7_isDone : okC mX7_isDone 1 := ⟨(lw_k6 189 (by decide +kernel) (by decide +kernel)), ⟨by decide +kernel, by decide +kernel, by decide +kernel⟩, by decide +kernel, by decide, (lw_k1 12 (by decide +kernel) (by decide +kernel))⟩
abbrev mX7_ifBoarded : MD := (yX7_ifBoarded, cX7_ifBoarded, 3, (some .int))
theorem kCX7_ifBoarded : okC mX7_ifBoarded 2 := ⟨(lw_k6 181 (by decide +kernel) (by decide +kernel)), ⟨by decide +kernel, by decide +kernel, by decide +kernel⟩, by decide +kernel, by decide, (lw_k1 12 (by decide +kernel) (by decide +kernel))⟩
abbrev mX7_sizeOf : MD := (yX7_sizeOf, cX7_sizeOf, 2, (some .int))
theorem kCX7_sizeOf : okC mX7_sizeOf 1 := ⟨(lw_k6 205 (by decide +kernel) (by decide +kernel)), ⟨by decide +kernel, by decide +kernel, by decide +kernel⟩, by decide +kernel, by decide, (lw_k1 12 (by decide +kernel) (by decide +kernel))⟩
abbrev mX7_ofSize : MD := (yX7_ofSize, cX7_ofSize, 4, (some .int))
theorem kCX7_ofSize : okC mX7_ofSize 1 := ⟨(lw_k6 217 (by decide +kernel) (by decide +kernel)), ⟨by decide +kernel, by decide +kernel, by decide +kernel⟩, by decide +kernel, by decide, (lw_k1 12 (by decide +kernel) (by decide +kernel))⟩
abbrev mX7_isBefore : MD := (yX7_isBefore, cX7_isBefore, 5, (some .boolean))
theorem kCX7_isBefore : okC mX7_isBefore 2 := ⟨(lw_k6 225 (by decide +kernel) (by decide +kernel)), ⟨by decide +kernel, by decide +kernel, by decide +kernel⟩, by decide +kernel, by decide, (lw_k1 12 (by decide +kernel) (by decide +kernel))⟩
abbrev mX7_sorted : MD := (yX7_sorted, cX7_sorted, 5, (some .int))
theorem kCX7_sorted : okC mX7_sorted 1 := ⟨(lw_k6 221 (by decide +kernel) (by decide +kernel)), ⟨by decide +kernel, by decide +kernel, by decide +kernel⟩, by decide +kernel, by decide, (lw_k1 12 (by decide +kernel) (by decide +kernel))⟩
abbrev mX7_lengthRange : MD := (yX7_lengthRange, cX7_lengthRange, 4, (some .int))
theorem kCX7_lengthRange : okC mX7_lengthRange 0 := ⟨(lw_k6 229 (by decide +kernel) (by decide +kernel)), ⟨by decide +kernel, by decide +kernel, by decide +kernel⟩, by decide +kernel, by decide, (lw_k1 12 (by decide +kernel) (by decide +kernel))⟩
abbrev mX7_areTwo : MD := (yX7_areTwo, cX7_areTwo, 3, (some .boolean))
theorem kCX7_areTwo : okC mX7_areTwo 2 := ⟨(lw_k6 239 (by decide +kernel) (by decide +kernel)), ⟨by decide +kernel, by decide +kernel, by decide +kernel⟩, by decide +kernel, by decide, (lw_k1 12 (by decide +kernel) (by decide +kernel))⟩
abbrev mX7_isMatch : MD := (yX7_isMatch, cX7_isMatch, 3, (some .int))
theorem kCX7_isMatch : okC mX7_isMatch 2 := ⟨(lw_k6 235 (by decide +kernel) (by decide +kernel)), ⟨by decide +kernel, by decide +kernel, by decide +kernel⟩, by decide +kernel, by decide, (lw_k1 12 (by decide +kernel) (by decide +kernel))⟩
abbrev mX7_gap : MD := (yX7_gap, cX7_gap, 3, (some .int))
theorem kCX7_gap : okC mX7_gap 2 := ⟨(lw_k7 8 (by decide +kernel) (by decide +kernel)), ⟨by decide +kernel, by decide +kernel, by decide +kernel⟩, by decide +kernel, by decide, (lw_k1 12 (by decide +kernel) (by decide +kernel))⟩
abbrev mX7_matches : MD := (yX7_matches, cX7_matches, 2, (some .int))
theorem kCX7_matches : okC mX7_matches 1 := ⟨(lw_k7 16 (by decide +kernel) (by decide +kernel)), ⟨by decide +kernel, by decide +kernel, by decide +kernel⟩, by decide +kernel, by decide, (lw_k1 12 (by decide +kernel) (by decide +kernel))⟩
abbrev mX7_nearest : MD := (yX7_nearest, cX7_nearest, 4, (some .int))
theorem kCX7_nearest : okC mX7_nearest 1 := ⟨(lw_k7 24 (by decide +kernel) (by decide +kernel)), ⟨by decide +kernel, by decide +kernel, by decide +kernel⟩, by decide +kernel, by decide, (lw_k1 12 (by decide +kernel) (by decide +kernel))⟩
abbrev mX7_pairCount : MD := (yX7_pairCount, cX7_pairCount, 1, (some .int))
theorem kCX7_pairCount : okC mX7_pairCount 0 := ⟨(lw_k7 28 (by decide +kernel) (by decide +kernel)), ⟨by decide +kernel, by decide +kernel, by decide +kernel⟩, by decide +kernel, by decide, (lw_k1 12 (by decide +kernel) (by decide +kernel))⟩
abbrev mX7_pairGap : MD := (yX7_pairGap, cX7_pairGap, 1, (some .int))
theorem kCX7_pairGap : okC mX7_pairGap 0 := ⟨(lw_k7 50 (by decide +kernel) (by decide +kernel)), ⟨by decide +kernel, by decide +kernel, by decide +kernel⟩, by decide +kernel, by decide, (lw_k1 12 (by decide +kernel) (by decide +kernel))⟩
abbrev mX7_partner : MD := (yX7_partner, cX7_partner, 3, (some .int))
theorem kCX7_partner : okC mX7_partner 1 := ⟨(lw_k7 58 (by decide +kernel) (by decide +kernel)), ⟨by decide +kernel, by decide +kernel, by decide +kernel⟩, by decide +kernel, by decide, (lw_k1 12 (by decide +kernel) (by decide +kernel))⟩
abbrev mX7_pair : MD := (yX7_pair, cX7_pair, 4, (some .int))
theorem kCX7_pair : okC mX7_pair 1 := ⟨(lw_k7 62 (by decide +kernel) (by decide +kernel)), ⟨by decide +kernel, by decide +kernel, by decide +kernel⟩, by decide +kernel, by decide, (lw_k1 12 (by decide +kernel) (by decide +kernel))⟩
abbrev mX7_pairSize : MD := (yX7_pairSize, cX7_pairSize, 4, (some .int))
theorem kCX7_pairSize : okC mX7_pairSize 1 := ⟨(lw_k7 70 (by decide +kernel) (by decide +kernel)), ⟨by decide +kernel, by decide +kernel, by decide +kernel⟩, by decide +kernel, by decide, (lw_k1 12 (by decide +kernel) (by decide +kernel))⟩
abbrev mX7_seconds : MD := (yX7_seconds, cX7_seconds, 4, (some .int))
theorem kCX7_seconds : okC mX7_seconds 0 := ⟨(lw_k7 78 (by decide +kernel) (by decide +kernel)), ⟨by decide +kernel, by decide +kernel, by decide +kernel⟩, by decide +kernel, by decide, (lw_k1 12 (by decide +kernel) (by decide +kernel))⟩
abbrev mX7_together : MD := (yX7_together, cX7_together, 5, (some .int))
theorem kCX7_together : okC mX7_together 1 := ⟨(lw_k7 86 (by decide +kernel) (by decide +kernel)), ⟨by decide +kernel, by decide +kernel, by decide +kernel⟩, by decide +kernel, by decide, (lw_k1 12 (by decide +kernel) (by decide +kernel))⟩
abbrev mX7_groupCount : MD := (yX7_groupCount, cX7_groupCount, 3, (some .int))
theorem kCX7_groupCount : okC mX7_groupCount 0 := ⟨(lw_k7 82 (by decide +kernel) (by decide +kernel)), ⟨by decide +kernel, by decide +kernel, by decide +kernel⟩, by decide +kernel, by decide, (lw_k1 12 (by decide +kernel) (by decide +kernel))⟩
abbrev mX7_groupOf : MD := (yX7_groupOf, cX7_groupOf, 2, (some .int))
theorem kCX7_groupOf : okC mX7_groupOf 1 := ⟨(lw_k7 90 (by decide +kernel) (by decide +kernel)), ⟨by decide +kernel, by decide +kernel, by decide +kernel⟩, by decide +kernel, by decide, (lw_k1 12 (by decide +kernel) (by decide +kernel))⟩
abbrev mX7_boxCount : MD := (yX7_boxCount, cX7_boxCount, 2, (some .int))
theorem kCX7_boxCount : okC mX7_boxCount 0 := ⟨(lw_k7 94 (by decide +kernel) (by decide +kernel)), ⟨by decide +kernel, by decide +kernel, by decide +kernel⟩, by decide +kernel, by decide, (lw_k1 12 (by decide +kernel) (by decide +kernel))⟩
abbrev mX7_ifDays : MD := (yX7_ifDays, cX7_ifDays, 4, (some .int))
theorem kCX7_ifDays : okC mX7_ifDays 1 := ⟨(lw_k7 114 (by decide +kernel) (by decide +kernel)), ⟨by decide +kernel, by decide +kernel, by decide +kernel⟩, by decide +kernel, by decide, (lw_k1 12 (by decide +kernel) (by decide +kernel))⟩
abbrev mX7_bestDay : MD := (yX7_bestDay, cX7_bestDay, 7, (some .int))
theorem kCX7_bestDay : okC mX7_bestDay 1 := ⟨(lw_k7 127 (by decide +kernel) (by decide +kernel)), ⟨by decide +kernel, by decide +kernel, by decide +kernel⟩, by decide +kernel, by decide, (lw_k1 12 (by decide +kernel) (by decide +kernel))⟩
abbrev mX7_pairsOn : MD := (yX7_pairsOn, cX7_pairsOn, 5, (some .int))
theorem kCX7_pairsOn : okC mX7_pairsOn 2 := ⟨(lw_k7 135 (by decide +kernel) (by decide +kernel)), ⟨by decide +kernel, by decide +kernel, by decide +kernel⟩, by decide +kernel, by decide, (lw_k1 12 (by decide +kernel) (by decide +kernel))⟩
abbrev mX7_ifAllBoarded : MD := (yX7_ifAllBoarded, cX7_ifAllBoarded, 2, (some .int))
theorem kCX7_ifAllBoarded : okC mX7_ifAllBoarded 1 := ⟨(lw_k7 131 (by decide +kernel) (by decide +kernel)), ⟨by decide +kernel, by decide +kernel, by decide +kernel⟩, by decide +kernel, by decide, (lw_k1 12 (by decide +kernel) (by decide +kernel))⟩
abbrev mX7_bestShape : MD := (yX7_bestShape, cX7_bestShape, 5, (some .int))
theorem kCX7_bestShape : okC mX7_bestShape 0 := ⟨(lw_k7 147 (by decide +kernel) (by decide +kernel)), ⟨by decide +kernel, by decide +kernel, by decide +kernel⟩, by decide +kernel, by decide, (lw_k1 12 (by decide +kernel) (by decide +kernel))⟩
abbrev mX7_isPairs : MD := (yX7_isPairs, cX7_isPairs, 1, (some .boolean))
theorem kCX7_isPairs : okC mX7_isPairs 1 := ⟨(lw_k7 154 (by decide +kernel) (by decide +kernel)), ⟨by decide +kernel, by decide +kernel, by decide +kernel⟩, by decide +kernel, by decide, (lw_k1 12 (by decide +kernel) (by decide +kernel))⟩
abbrev mX7_leastSteam : MD := (yX7_leastSteam, cX7_leastSteam, 4, (some .int))
theorem kCX7_leastSteam : okC mX7_leastSteam 2 := ⟨(lw_k7 151 (by decide +kernel) (by decide +kernel)), ⟨by decide +kernel, by decide +kernel, by decide +kernel⟩, by decide +kernel, by decide, (lw_k1 12 (by decide +kernel) (by decide +kernel))⟩
abbrev mX7_pairsWithin : MD := (yX7_pairsWithin, cX7_pairsWithin, 3, (some .int))
theorem kCX7_pairsWithin : okC mX7_pairsWithin 1 := ⟨(lw_k7 163 (by decide +kernel) (by decide +kernel)), ⟨by decide +kernel, by decide +kernel, by decide +kernel⟩, by decide +kernel, by decide, (lw_k1 12 (by decide +kernel) (by decide +kernel))⟩
abbrev mX7_leastTolerance : MD := (yX7_leastTolerance, cX7_leastTolerance, 5, (some .int))
theorem kCX7_leastTolerance : okC mX7_leastTolerance 1 := ⟨(lw_k7 159 (by decide +kernel) (by decide +kernel)), ⟨by decide +kernel, by decide +kernel, by decide +kernel⟩, by decide +kernel, by decide, (lw_k1 12 (by decide +kernel) (by decide +kernel))⟩
abbrev mX7_pairsDyed : MD := (yX7_pairsDyed, cX7_pairsDyed, 4, (some .int))
theorem kCX7_pairsDyed : okC mX7_pairsDyed 2 := ⟨(lw_k7 172 (by decide +kernel) (by decide +kernel)), ⟨by decide +kernel, by decide +kernel, by decide +kernel⟩, by decide +kernel, by decide, (lw_k1 12 (by decide +kernel) (by decide +kernel))⟩
abbrev mX7_bestDye : MD := (yX7_bestDye, cX7_bestDye, 9, (some .int))
theorem kCX7_bestDye : okC mX7_bestDye 1 := ⟨(lw_k7 167 (by decide +kernel) (by decide +kernel)), ⟨by decide +kernel, by decide +kernel, by decide +kernel⟩, by decide +kernel, by decide, (lw_k1 12 (by decide +kernel) (by decide +kernel))⟩
abbrev mX7_remember : MD := (yX7_remember, cX7_remember, 2, none)
theorem kCX7_remember : okC mX7_remember 0 := ⟨(lw_k7 188 (by decide +kernel) (by decide +kernel)), ⟨by decide +kernel, by decide +kernel, by decide +kernel⟩, by decide +kernel, by decide, (lw_k1 12 (by decide +kernel) (by decide +kernel))⟩
abbrev mX7_undo : MD := (yX7_undo, cX7_undo, 2, (some .int))
theorem kCX7_undo : okC mX7_undo 0 := ⟨(lw_k7 176 (by decide +kernel) (by decide +kernel)), ⟨by decide +kernel, by decide +kernel, by decide +kernel⟩, by decide +kernel, by decide, (lw_k1 12 (by decide +kernel) (by decide +kernel))⟩
abbrev mX7_undoCount : MD := (yX7_undoCount, cX7_undoCount, 1, (some .int))
theorem kCX7_undoCount : okC mX7_undoCount 0 := ⟨(lw_k7 180 (by decide +kernel) (by decide +kernel)), ⟨by decide +kernel, by decide +kernel, by decide +kernel⟩, by decide +kernel, by decide, (lw_k1 12 (by decide +kernel) (by decide +kernel))⟩
abbrev mX7_board : MD := (yX7_board, cX7_board, 5, (some .int))
theorem kCX7_board : okC mX7_board 2 := ⟨(lw_k7 184 (by decide +kernel) (by decide +kernel)), ⟨by decide +kernel, by decide +kernel, by decide +kernel⟩, by decide +kernel, by decide, (lw_k1 12 (by decide +kernel) (by decide +kernel))⟩
abbrev mX7_boardAll : MD := (yX7_boardAll, cX7_boardAll, 2, (some .int))
theorem kCX7_boardAll : okC mX7_boardAll 1 := ⟨(lw_k7 192 (by decide +kernel) (by decide +kernel)), ⟨by decide +kernel, by decide +kernel, by decide +kernel⟩, by decide +kernel, by decide, (lw_k1 12 (by decide +kernel) (by decide +kernel))⟩
abbrev mX7_day : MD := (yX7_day, cX7_day, 1, (some .int))
theorem kCX7_day : okC mX7_day 0 := ⟨(lw_k7 197 (by decide +kernel) (by decide +kernel)), ⟨by decide +kernel, by decide +kernel, by decide +kernel⟩, by decide +kernel, by decide, (lw_k1 12 (by decide +kernel) (by decide +kernel))⟩
abbrev mX7_dye : MD := (yX7_dye, cX7_dye, 4, (some .int))
theorem kCX7_dye : okC mX7_dye 2 := ⟨(lw_k7 201 (by decide +kernel) (by decide +kernel)), ⟨by decide +kernel, by decide +kernel, by decide +kernel⟩, by decide +kernel, by decide, (lw_k1 12 (by decide +kernel) (by decide +kernel))⟩
abbrev mX7_setTolerance : MD := (yX7_setTolerance, cX7_setTolerance, 4, (some .int))
theorem kCX7_setTolerance : okC mX7_setTolerance 2 := ⟨(lw_k7 205 (by decide +kernel) (by decide +kernel)), ⟨by decide +kernel, by decide +kernel, by decide +kernel⟩, by decide +kernel, by decide, (lw_k1 12 (by decide +kernel) (by decide +kernel))⟩
abbrev mX7_setSteam : MD := (yX7_setSteam, cX7_setSteam, 3, (some .int))
theorem kCX7_setSteam : okC mX7_setSteam 1 := ⟨(lw_k7 210 (by decide +kernel) (by decide +kernel)), ⟨by decide +kernel, by decide +kernel, by decide +kernel⟩, by decide +kernel, by decide, (lw_k1 12 (by decide +kernel) (by decide +kernel))⟩
abbrev mX7_pack : MD := (yX7_pack, cX7_pack, 3, (some .int))
theorem kCX7_pack : okC mX7_pack 0 := ⟨(lw_k7 215 (by decide +kernel) (by decide +kernel)), ⟨by decide +kernel, by decide +kernel, by decide +kernel⟩, by decide +kernel, by decide, (lw_k1 12 (by decide +kernel) (by decide +kernel))⟩
abbrev mX7_appendFour : MD := (yX7_appendFour, cX7_appendFour, 3, none)
theorem kCX7_appendFour : okC mX7_appendFour 1 := ⟨(lw_k7 223 (by decide +kernel) (by decide +kernel)), ⟨by decide +kernel, by decide +kernel, by decide +kernel⟩, by decide +kernel, by decide, (lw_k1 12 (by decide +kernel) (by decide +kernel))⟩
abbrev mX7_append : MD := (yX7_append, cX7_append, 6, (some .int))
theorem kCX7_append : okC mX7_append 5 := ⟨(lw_k7 219 (by decide +kernel) (by decide +kernel)), ⟨by decide +kernel, by decide +kernel, by decide +kernel⟩, by decide +kernel, by decide, (lw_k1 12 (by decide +kernel) (by decide +kernel))⟩
abbrev mX7_truncate : MD := (yX7_truncate, cX7_truncate, 2, (some .int))
theorem kCX7_truncate : okC mX7_truncate 1 := ⟨(lw_k7 227 (by decide +kernel) (by decide +kernel)), ⟨by decide +kernel, by decide +kernel, by decide +kernel⟩, by decide +kernel, by decide, (lw_k1 12 (by decide +kernel) (by decide +kernel))⟩
abbrev mX7_good : MD := (yX7_good, cX7_good, 1, (some .boolean))
theorem kCX7_good : okC mX7_good 0 := ⟨(lw_k8 8 (by decide +kernel) (by decide +kernel)), ⟨by decide +kernel, by decide +kernel, by decide +kernel⟩, by decide +kernel, by decide, (lw_k1 12 (by decide +kernel) (by decide +kernel))⟩
abbrev mX7_fail : MD := (yX7_fail, cX7_fail, 2, none)
theorem kCX7_fail : okC mX7_fail 1 := ⟨(lw_k8 27 (by decide +kernel) (by decide +kernel)), ⟨by decide +kernel, by decide +kernel, by decide +kernel⟩, by decide +kernel, by decide, (lw_k1 12 (by decide +kernel) (by decide +kernel))⟩
abbrev mX7_byteAt : MD := (yX7_byteAt, cX7_byteAt, 2, (some .int))
theorem kCX7_byteAt : okC mX7_byteAt 1 := ⟨(lw_k7 239 (by decide +kernel) (by decide +kernel)), ⟨by decide +kernel, by decide +kernel, by decide +kernel⟩, by decide +kernel, by decide, (lw_k1 12 (by decide +kernel) (by decide +kernel))⟩
abbrev mX7_advance : MD := (yX7_advance, cX7_advance, 2, none)
theorem kCX7_advance : okC mX7_advance 0 := ⟨(lw_k7 235 (by decide +kernel) (by decide +kernel)), ⟨by decide +kernel, by decide +kernel, by decide +kernel⟩, by decide +kernel, by decide, (lw_k1 12 (by decide +kernel) (by decide +kernel))⟩
abbrev mX7_goOn : MD := (yX7_goOn, cX7_goOn, 1, none)
theorem kCX7_goOn : okC mX7_goOn 0 := ⟨(lw_k8 31 (by decide +kernel) (by decide +kernel)), ⟨by decide +kernel, by decide +kernel, by decide +kernel⟩, by decide +kernel, by decide, (lw_k1 12 (by decide +kernel) (by decide +kernel))⟩
abbrev mX7_isText : MD := (yX7_isText, cX7_isText, 4, (some .boolean))
theorem kCX7_isText : okC mX7_isText 1 := ⟨(lw_k8 17 (by decide +kernel) (by decide +kernel)), ⟨by decide +kernel, by decide +kernel, by decide +kernel⟩, by decide +kernel, by decide, (lw_k1 12 (by decide +kernel) (by decide +kernel))⟩
abbrev mX7_kindHere : MD := (yX7_kindHere, cX7_kindHere, 1, (some .int))
theorem kCX7_kindHere : okC mX7_kindHere 0 := ⟨(lw_k8 65 (by decide +kernel) (by decide +kernel)), ⟨by decide +kernel, by decide +kernel, by decide +kernel⟩, by decide +kernel, by decide, (lw_k1 12 (by decide +kernel) (by decide +kernel))⟩
abbrev mX7_isKeyword : MD := (yX7_isKeyword, cX7_isKeyword, 1, (some .boolean))
theorem kCX7_isKeyword : okC mX7_isKeyword 0 := ⟨(lw_k8 58 (by decide +kernel) (by decide +kernel)), ⟨by decide +kernel, by decide +kernel, by decide +kernel⟩, by decide +kernel, by decide, (lw_k1 12 (by decide +kernel) (by decide +kernel))⟩
abbrev mX7_number : MD := (yX7_number, cX7_number, 4, (some .int))
theorem kCX7_number : okC mX7_number 2 := ⟨(lw_k8 35 (by decide +kernel) (by decide +kernel)), ⟨by decide +kernel, by decide +kernel, by decide +kernel⟩, by decide +kernel, by decide, (lw_k1 12 (by decide +kernel) (by decide +kernel))⟩
abbrev mX7_packed : MD := (yX7_packed, cX7_packed, 3, (some .int))
theorem kCX7_packed : okC mX7_packed 0 := ⟨(lw_k8 73 (by decide +kernel) (by decide +kernel)), ⟨by decide +kernel, by decide +kernel, by decide +kernel⟩, by decide +kernel, by decide, (lw_k1 12 (by decide +kernel) (by decide +kernel))⟩
abbrev mX7_nameHere : MD := (yX7_nameHere, cX7_nameHere, 1, (some .int))
theorem kCX7_nameHere : okC mX7_nameHere 0 := ⟨(lw_k8 54 (by decide +kernel) (by decide +kernel)), ⟨by decide +kernel, by decide +kernel, by decide +kernel⟩, by decide +kernel, by decide, (lw_k1 12 (by decide +kernel) (by decide +kernel))⟩
abbrev mX7_findIn : MD := (yX7_findIn, cX7_findIn, 6, (some .int))
theorem kCX7_findIn : okC mX7_findIn 4 := ⟨(lw_k8 77 (by decide +kernel) (by decide +kernel)), ⟨by decide +kernel, by decide +kernel, by decide +kernel⟩, by decide +kernel, by decide, (lw_k1 12 (by decide +kernel) (by decide +kernel))⟩
abbrev mX7_newName : MD := (yX7_newName, cX7_newName, 6, (some .int))
theorem kCX7_newName : okC mX7_newName 3 := ⟨(lw_k8 50 (by decide +kernel) (by decide +kernel)), ⟨by decide +kernel, by decide +kernel, by decide +kernel⟩, by decide +kernel, by decide, (lw_k1 12 (by decide +kernel) (by decide +kernel))⟩
abbrev mX7_enter : MD := (yX7_enter, cX7_enter, 3, none)
theorem kCX7_enter : okC mX7_enter 2 := ⟨(lw_k8 46 (by decide +kernel) (by decide +kernel)), ⟨by decide +kernel, by decide +kernel, by decide +kernel⟩, by decide +kernel, by decide, (lw_k1 12 (by decide +kernel) (by decide +kernel))⟩
abbrev mX7_once : MD := (yX7_once, cX7_once, 2, none)
theorem kCX7_once : okC mX7_once 1 := ⟨(lw_k8 23 (by decide +kernel) (by decide +kernel)), ⟨by decide +kernel, by decide +kernel, by decide +kernel⟩, by decide +kernel, by decide, (lw_k1 12 (by decide +kernel) (by decide +kernel))⟩
abbrev mX7_someLength : MD := (yX7_someLength, cX7_someLength, 2, (some .int))
theorem kCX7_someLength : okC mX7_someLength 1 := ⟨(lw_k8 85 (by decide +kernel) (by decide +kernel)), ⟨by decide +kernel, by decide +kernel, by decide +kernel⟩, by decide +kernel, by decide, (lw_k1 12 (by decide +kernel) (by decide +kernel))⟩
abbrev mX7_parseYarn : MD := (yX7_parseYarn, cX7_parseYarn, 2, none)
theorem kCX7_parseYarn : okC mX7_parseYarn 0 := ⟨(lw_k8 42 (by decide +kernel) (by decide +kernel)), ⟨by decide +kernel, by decide +kernel, by decide +kernel⟩, by decide +kernel, by decide, (lw_k1 12 (by decide +kernel) (by decide +kernel))⟩
abbrev mX7_parseShape : MD := (yX7_parseShape, cX7_parseShape, 2, none)
theorem kCX7_parseShape : okC mX7_parseShape 0 := ⟨(lw_k8 81 (by decide +kernel) (by decide +kernel)), ⟨by decide +kernel, by decide +kernel, by decide +kernel⟩, by decide +kernel, by decide, (lw_k1 12 (by decide +kernel) (by decide +kernel))⟩
abbrev mX7_parseSize : MD := (yX7_parseSize, cX7_parseSize, 2, none)
theorem kCX7_parseSize : okC mX7_parseSize 0 := ⟨(lw_k8 89 (by decide +kernel) (by decide +kernel)), ⟨by decide +kernel, by decide +kernel, by decide +kernel⟩, by decide +kernel, by decide, (lw_k1 12 (by decide +kernel) (by decide +kernel))⟩
abbrev mX7_parsePiece : MD := (yX7_parsePiece, cX7_parsePiece, 7, none)
theorem kCX7_parsePiece : okC mX7_parsePiece 0 := ⟨(lw_k8 93 (by decide +kernel) (by decide +kernel)), ⟨by decide +kernel, by decide +kernel, by decide +kernel⟩, by decide +kernel, by decide, (lw_k1 12 (by decide +kernel) (by decide +kernel))⟩
abbrev mX7_times : MD := (yX7_times, cX7_times, 1, (some .int))
theorem kCX7_times : okC mX7_times 0 := ⟨(lw_k8 97 (by decide +kernel) (by decide +kernel)), ⟨by decide +kernel, by decide +kernel, by decide +kernel⟩, by decide +kernel, by decide, (lw_k1 12 (by decide +kernel) (by decide +kernel))⟩
abbrev mX7_add : MD := (yX7_add, cX7_add, 6, none)
theorem kCX7_add : okC mX7_add 4 := ⟨(lw_k8 102 (by decide +kernel) (by decide +kernel)), ⟨by decide +kernel, by decide +kernel, by decide +kernel⟩, by decide +kernel, by decide, (lw_k1 12 (by decide +kernel) (by decide +kernel))⟩
abbrev mX7_parseStatement : MD := (yX7_parseStatement, cX7_parseStatement, 1, none)
theorem kCX7_parseStatement : okC mX7_parseStatement 0 := ⟨(lw_k8 12 (by decide +kernel) (by decide +kernel)), ⟨by decide +kernel, by decide +kernel, by decide +kernel⟩, by decide +kernel, by decide, (lw_k1 12 (by decide +kernel) (by decide +kernel))⟩
abbrev mX7_load : MD := (yX7_load, cX7_load, 2, (some .int))
theorem kCX7_load : okC mX7_load 0 := ⟨(lw_k7 231 (by decide +kernel) (by decide +kernel)), ⟨by decide +kernel, by decide +kernel, by decide +kernel⟩, by decide +kernel, by decide, (lw_k1 12 (by decide +kernel) (by decide +kernel))⟩
abbrev mX7_errorCode : MD := (yX7_errorCode, cX7_errorCode, 1, (some .int))
theorem kCX7_errorCode : okC mX7_errorCode 0 := ⟨(lw_k8 106 (by decide +kernel) (by decide +kernel)), ⟨by decide +kernel, by decide +kernel, by decide +kernel⟩, by decide +kernel, by decide, (lw_k1 12 (by decide +kernel) (by decide +kernel))⟩
abbrev mX7_errorPosition : MD := (yX7_errorPosition, cX7_errorPosition, 1, (some .int))
theorem kCX7_errorPosition : okC mX7_errorPosition 0 := ⟨(lw_k8 110 (by decide +kernel) (by decide +kernel)), ⟨by decide +kernel, by decide +kernel, by decide +kernel⟩, by decide +kernel, by decide, (lw_k1 12 (by decide +kernel) (by decide +kernel))⟩
abbrev mX7_find : MD := (yX7_find, cX7_find, 6, (some .int))
theorem kCX7_find : okC mX7_find 1 := ⟨(lw_k8 114 (by decide +kernel) (by decide +kernel)), ⟨by decide +kernel, by decide +kernel, by decide +kernel⟩, by decide +kernel, by decide, (lw_k1 12 (by decide +kernel) (by decide +kernel))⟩
abbrev mX7_write : MD := (yX7_write, cX7_write, 2, none)
theorem kCX7_write : okC mX7_write 1 := ⟨(lw_k8 128 (by decide +kernel) (by decide +kernel)), ⟨by decide +kernel, by decide +kernel, by decide +kernel⟩, by decide +kernel, by decide, (lw_k1 12 (by decide +kernel) (by decide +kernel))⟩
abbrev mX7_writeText : MD := (yX7_writeText, cX7_writeText, 3, none)
theorem kCX7_writeText : okC mX7_writeText 1 := ⟨(lw_k8 124 (by decide +kernel) (by decide +kernel)), ⟨by decide +kernel, by decide +kernel, by decide +kernel⟩, by decide +kernel, by decide, (lw_k1 12 (by decide +kernel) (by decide +kernel))⟩
abbrev mX7_writeNumber : MD := (yX7_writeNumber, cX7_writeNumber, 4, none)
theorem kCX7_writeNumber : okC mX7_writeNumber 1 := ⟨(lw_k8 136 (by decide +kernel) (by decide +kernel)), ⟨by decide +kernel, by decide +kernel, by decide +kernel⟩, by decide +kernel, by decide, (lw_k1 12 (by decide +kernel) (by decide +kernel))⟩
abbrev mX7_letterOf : MD := (yX7_letterOf, cX7_letterOf, 4, (some .int))
theorem kCX7_letterOf : okC mX7_letterOf 2 := ⟨(lw_k8 147 (by decide +kernel) (by decide +kernel)), ⟨by decide +kernel, by decide +kernel, by decide +kernel⟩, by decide +kernel, by decide, (lw_k1 12 (by decide +kernel) (by decide +kernel))⟩
abbrev mX7_writeName : MD := (yX7_writeName, cX7_writeName, 3, none)
theorem kCX7_writeName : okC mX7_writeName 1 := ⟨(lw_k8 144 (by decide +kernel) (by decide +kernel)), ⟨by decide +kernel, by decide +kernel, by decide +kernel⟩, by decide +kernel, by decide, (lw_k1 12 (by decide +kernel) (by decide +kernel))⟩
abbrev mX7_writeNumbers : MD := (yX7_writeNumbers, cX7_writeNumbers, 4, none)
theorem kCX7_writeNumbers : okC mX7_writeNumbers 2 := ⟨(lw_k8 132 (by decide +kernel) (by decide +kernel)), ⟨by decide +kernel, by decide +kernel, by decide +kernel⟩, by decide +kernel, by decide, (lw_k1 12 (by decide +kernel) (by decide +kernel))⟩
abbrev mX7_writeTable : MD := (yX7_writeTable, cX7_writeTable, 6, none)
theorem kCX7_writeTable : okC mX7_writeTable 4 := ⟨(lw_k8 140 (by decide +kernel) (by decide +kernel)), ⟨by decide +kernel, by decide +kernel, by decide +kernel⟩, by decide +kernel, by decide, (lw_k1 12 (by decide +kernel) (by decide +kernel))⟩
abbrev mX7_writePiece : MD := (yX7_writePiece, cX7_writePiece, 3, none)
theorem kCX7_writePiece : okC mX7_writePiece 1 := ⟨(lw_k8 151 (by decide +kernel) (by decide +kernel)), ⟨by decide +kernel, by decide +kernel, by decide +kernel⟩, by decide +kernel, by decide, (lw_k1 12 (by decide +kernel) (by decide +kernel))⟩
abbrev mX7_writePlant : MD := (yX7_writePlant, cX7_writePlant, 2, (some .int))
theorem kCX7_writePlant : okC mX7_writePlant 0 := ⟨(lw_k8 120 (by decide +kernel) (by decide +kernel)), ⟨by decide +kernel, by decide +kernel, by decide +kernel⟩, by decide +kernel, by decide, (lw_k1 12 (by decide +kernel) (by decide +kernel))⟩
abbrev mX7_outputByte : MD := (yX7_outputByte, cX7_outputByte, 2, (some .int))
theorem kCX7_outputByte : okC mX7_outputByte 1 := ⟨(lw_k8 158 (by decide +kernel) (by decide +kernel)), ⟨by decide +kernel, by decide +kernel, by decide +kernel⟩, by decide +kernel, by decide, (lw_k1 12 (by decide +kernel) (by decide +kernel))⟩
abbrev mX7_ifTolerance : MD := (yX7_ifTolerance, cX7_ifTolerance, 4, (some .int))
theorem kCX7_ifTolerance : okC mX7_ifTolerance 2 := ⟨(lw_k8 162 (by decide +kernel) (by decide +kernel)), ⟨by decide +kernel, by decide +kernel, by decide +kernel⟩, by decide +kernel, by decide, (lw_k1 12 (by decide +kernel) (by decide +kernel))⟩
abbrev mX7_worstPair : MD := (yX7_worstPair, cX7_worstPair, 7, (some .int))
theorem kCX7_worstPair : okC mX7_worstPair 0 := ⟨(lw_k8 166 (by decide +kernel) (by decide +kernel)), ⟨by decide +kernel, by decide +kernel, by decide +kernel⟩, by decide +kernel, by decide, (lw_k1 12 (by decide +kernel) (by decide +kernel))⟩
abbrev mX7_ofYarn : MD := (yX7_ofYarn, cX7_ofYarn, 4, (some .int))
theorem kCX7_ofYarn : okC mX7_ofYarn 1 := ⟨(lw_k8 170 (by decide +kernel) (by decide +kernel)), ⟨by decide +kernel, by decide +kernel, by decide +kernel⟩, by decide +kernel, by decide, (lw_k1 12 (by decide +kernel) (by decide +kernel))⟩
abbrev mX7_daysToSize : MD := (yX7_daysToSize, cX7_daysToSize, 6, (some .int))
theorem kCX7_daysToSize : okC mX7_daysToSize 2 := ⟨(lw_k8 174 (by decide +kernel) (by decide +kernel)), ⟨by decide +kernel, by decide +kernel, by decide +kernel⟩, by decide +kernel, by decide, (lw_k1 12 (by decide +kernel) (by decide +kernel))⟩
abbrev mX7_shapeFor : MD := (yX7_shapeFor, cX7_shapeFor, 7, (some .int))
theorem kCX7_shapeFor : okC mX7_shapeFor 2 := ⟨(lw_k8 178 (by decide +kernel) (by decide +kernel)), ⟨by decide +kernel, by decide +kernel, by decide +kernel⟩, by decide +kernel, by decide, (lw_k1 12 (by decide +kernel) (by decide +kernel))⟩
abbrev mJ5_init_d00df : MD := (yJ5_init_d00df, cJ5_init_d00df, 2, none)
theorem kCJ5_init_d00df : okC mJ5_init_d00df 1 := ⟨(lw_k1 35 (by decide +kernel) (by decide +kernel)), ⟨by decide +kernel, by decide +kernel, by decide +kernel⟩, by decide +kernel, by decide, (lw_k1 2 (by decide +kernel) (by decide +kernel))⟩
abbrev mJ5_length_8abf5 : MD := (yJ5_length_8abf5, cJ5_length_8abf5, 1, (some .int))
theorem kCJ5_length_8abf5 : okC mJ5_length_8abf5 0 := ⟨(lw_k5 225 (by decide +kernel) (by decide +kernel)), ⟨by decide +kernel, by decide +kernel, by decide +kernel⟩, by decide +kernel, by decide, (lw_k1 2 (by decide +kernel) (by decide +kernel))⟩
abbrev mJ5_ensureCapacityInternal_d00df : MD := (yJ5_ensureCapacityInternal_d00df, cJ5_ensureCapacityInternal_d00df, 3, none)
theorem kCJ5_ensureCapacityInternal_d00df : okC mJ5_ensureCapacityInternal_d00df 1 := ⟨(lw_k5 55 (by decide +kernel) (by decide +kernel)), ⟨by decide +kernel, by decide +kernel, by decide +kernel⟩, by decide +kernel, by decide, (lw_k1 2 (by decide +kernel) (by decide +kernel))⟩
abbrev mJ5_newCapacity_0f7a4 : MD := (yJ5_newCapacity_0f7a4, cJ5_newCapacity_0f7a4, 6, (some .int))
theorem kCJ5_newCapacity_0f7a4 : okC mJ5_newCapacity_0f7a4 1 := ⟨(lw_k5 59 (by decide +kernel) (by decide +kernel)), ⟨by decide +kernel, by decide +kernel, by decide +kernel⟩, by decide +kernel, by decide, (lw_k1 2 (by decide +kernel) (by decide +kernel))⟩
abbrev mJ5_inflate_da8c8 : MD := (yJ5_inflate_da8c8, cJ5_inflate_da8c8, 2, none)
theorem kCJ5_inflate_da8c8 : okC mJ5_inflate_da8c8 0 := ⟨(lw_k5 139 (by decide +kernel) (by decide +kernel)), ⟨by decide +kernel, by decide +kernel, by decide +kernel⟩, by decide +kernel, by decide, (lw_k1 2 (by decide +kernel) (by decide +kernel))⟩
abbrev mJ5_setLength_d00df : MD := (yJ5_setLength_d00df, cJ5_setLength_d00df, 2, none)
theorem kCJ5_setLength_d00df : okC mJ5_setLength_d00df 1 := ⟨(lw_k5 51 (by decide +kernel) (by decide +kernel)), ⟨by decide +kernel, by decide +kernel, by decide +kernel⟩, by decide +kernel, by decide, (lw_k1 2 (by decide +kernel) (by decide +kernel))⟩
abbrev mJ5_charAt_5068e : MD := (yJ5_charAt_5068e, cJ5_charAt_5068e, 5, (some .char))
theorem kCJ5_charAt_5068e : okC mJ5_charAt_5068e 1 := ⟨(lw_k5 236 (by decide +kernel) (by decide +kernel)), ⟨by decide +kernel, by decide +kernel, by decide +kernel⟩, by decide +kernel, by decide, (lw_k1 2 (by decide +kernel) (by decide +kernel))⟩
abbrev mJ5_append_cf1ce : MD := (yJ5_append_cf1ce, cJ5_append_cf1ce, 3, (some (.object "java/lang/AbstractStringBuilder")))
theorem kCJ5_append_cf1ce : okC mJ5_append_cf1ce 1 := ⟨(lw_k5 106 (by decide +kernel) (by decide +kernel)), ⟨by decide +kernel, by decide +kernel, by decide +kernel⟩, by decide +kernel, by decide, (lw_k1 2 (by decide +kernel) (by decide +kernel))⟩
abbrev mJ5_appendNull_278bc : MD := (yJ5_appendNull_278bc, cJ5_appendNull_278bc, 3, (some (.object "java/lang/AbstractStringBuilder")))
theorem kCJ5_appendNull_278bc : okC mJ5_appendNull_278bc 0 := ⟨(lw_k5 110 (by decide +kernel) (by decide +kernel)), ⟨by decide +kernel, by decide +kernel, by decide +kernel⟩, by decide +kernel, by decide, (lw_k1 2 (by decide +kernel) (by decide +kernel))⟩
abbrev mJ5_append_3fe6f : MD := (yJ5_append_3fe6f, cJ5_append_3fe6f, 2, (some (.object "java/lang/AbstractStringBuilder")))
theorem kCJ5_append_3fe6f : okC mJ5_append_3fe6f 1 := ⟨(lw_k5 167 (by decide +kernel) (by decide +kernel)), ⟨by decide +kernel, by decide +kernel, by decide +kernel⟩, by decide +kernel, by decide, (lw_k1 2 (by decide +kernel) (by decide +kernel))⟩
abbrev mJ5_append_c97b9 : MD := (yJ5_append_c97b9, cJ5_append_c97b9, 4, (some (.object "java/lang/AbstractStringBuilder")))
theorem kCJ5_append_c97b9 : okC mJ5_append_c97b9 1 := ⟨(lw_k5 180 (by decide +kernel) (by decide +kernel)), ⟨by decide +kernel, by decide +kernel, by decide +kernel⟩, by decide +kernel, by decide, (lw_k1 2 (by decide +kernel) (by decide +kernel))⟩
abbrev mJ5_isLatin1_aae02 : MD := (yJ5_isLatin1_aae02, cJ5_isLatin1_aae02, 1, (some .boolean))
theorem kCJ5_isLatin1_aae02 : okC mJ5_isLatin1_aae02 0 := ⟨(lw_k5 85 (by decide +kernel) (by decide +kernel)), ⟨by decide +kernel, by decide +kernel, by decide +kernel⟩, by decide +kernel, by decide, (lw_k1 2 (by decide +kernel) (by decide +kernel))⟩
abbrev mJ5_inflateIfNeededFor_a7421 : MD := (yJ5_inflateIfNeededFor_a7421, cJ5_inflateIfNeededFor_a7421, 2, none)
theorem kCJ5_inflateIfNeededFor_a7421 : okC mJ5_inflateIfNeededFor_a7421 1 := ⟨(lw_k5 134 (by decide +kernel) (by decide +kernel)), ⟨by decide +kernel, by decide +kernel, by decide +kernel⟩, by decide +kernel, by decide, (lw_k1 2 (by decide +kernel) (by decide +kernel))⟩
abbrev mJ5_putStringAt_47b60 : MD := (yJ5_putStringAt_47b60, cJ5_putStringAt_47b60, 3, none)
theorem kCJ5_putStringAt_47b60 : okC mJ5_putStringAt_47b60 2 := ⟨(lw_k5 130 (by decide +kernel) (by decide +kernel)), ⟨by decide +kernel, by decide +kernel, by decide +kernel⟩, by decide +kernel, by decide, (lw_k1 2 (by decide +kernel) (by decide +kernel))⟩
abbrev mJ6_getChars_ba4f3 : MD := (yJ6_getChars_ba4f3, cJ6_getChars_ba4f3, 7, (some .int))
theorem kCJ6_getChars_ba4f3 : okC mJ6_getChars_ba4f3 3 := ⟨(lw_k5 186 (by decide +kernel) (by decide +kernel)), ⟨by decide +kernel, by decide +kernel, by decide +kernel⟩, by decide +kernel, by decide, (lw_k1 17 (by decide +kernel) (by decide +kernel))⟩
abbrev mJ6_stringSize_0f7a4 : MD := (yJ6_stringSize_0f7a4, cJ6_stringSize_0f7a4, 4, (some .int))
theorem kCJ6_stringSize_0f7a4 : okC mJ6_stringSize_0f7a4 1 := ⟨(lw_k5 183 (by decide +kernel) (by decide +kernel)), ⟨by decide +kernel, by decide +kernel, by decide +kernel⟩, by decide +kernel, by decide, (lw_k1 17 (by decide +kernel) (by decide +kernel))⟩
abbrev mJ6_bitCount_0f7a4 : MD := (yJ6_bitCount_0f7a4, cJ6_bitCount_0f7a4, 1, (some .int))
theorem kCJ6_bitCount_0f7a4 : okC mJ6_bitCount_0f7a4 1 := ⟨(lw_k4 104 (by decide +kernel) (by decide +kernel)), ⟨by decide +kernel, by decide +kernel, by decide +kernel⟩, by decide +kernel, by decide, (lw_k1 17 (by decide +kernel) (by decide +kernel))⟩
abbrev mJ0_length_8abf5 : MD := (yJ0_length_8abf5, cJ0_length_8abf5, 1, (some .int))
theorem kCJ0_length_8abf5 : okC mJ0_length_8abf5 0 := ⟨(lw_k2 149 (by decide +kernel) (by decide +kernel)), ⟨by decide +kernel, by decide +kernel, by decide +kernel⟩, by decide +kernel, by decide, (lw_k1 4 (by decide +kernel) (by decide +kernel))⟩
abbrev mJ0_charAt_5068e : MD := (yJ0_charAt_5068e, cJ0_charAt_5068e, 2, (some .char))
theorem kCJ0_charAt_5068e : okC mJ0_charAt_5068e 1 := ⟨(lw_k2 158 (by decide +kernel) (by decide +kernel)), ⟨by decide +kernel, by decide +kernel, by decide +kernel⟩, by decide +kernel, by decide, (lw_k1 4 (by decide +kernel) (by decide +kernel))⟩
abbrev mJ0_getBytes_840e7 : MD := (yJ0_getBytes_840e7, cJ0_getBytes_840e7, 4, none)
theorem kCJ0_getBytes_840e7 : okC mJ0_getBytes_840e7 3 := ⟨(lw_k5 158 (by decide +kernel) (by decide +kernel)), ⟨by decide +kernel, by decide +kernel, by decide +kernel⟩, by decide +kernel, by decide, (lw_k1 4 (by decide +kernel) (by decide +kernel))⟩
abbrev mJ0_coder_7d493 : MD := (yJ0_coder_7d493, cJ0_coder_7d493, 1, (some .byte))
theorem kCJ0_coder_7d493 : okC mJ0_coder_7d493 0 := ⟨(lw_k2 153 (by decide +kernel) (by decide +kernel)), ⟨by decide +kernel, by decide +kernel, by decide +kernel⟩, by decide +kernel, by decide, (lw_k1 4 (by decide +kernel) (by decide +kernel))⟩
abbrev mJ0_isLatin1_aae02 : MD := (yJ0_isLatin1_aae02, cJ0_isLatin1_aae02, 1, (some .boolean))
theorem kCJ0_isLatin1_aae02 : okC mJ0_isLatin1_aae02 0 := ⟨(lw_k2 162 (by decide +kernel) (by decide +kernel)), ⟨by decide +kernel, by decide +kernel, by decide +kernel⟩, by decide +kernel, by decide, (lw_k1 4 (by decide +kernel) (by decide +kernel))⟩
abbrev mJ0_checkIndex_df160 : MD := (yJ0_checkIndex_df160, cJ0_checkIndex_df160, 2, none)
theorem kCJ0_checkIndex_df160 : okC mJ0_checkIndex_df160 2 := ⟨(lw_k2 168 (by decide +kernel) (by decide +kernel)), ⟨by decide +kernel, by decide +kernel, by decide +kernel⟩, by decide +kernel, by decide, (lw_k1 4 (by decide +kernel) (by decide +kernel))⟩
abbrev mJ0_checkBoundsOffCount_cabcc : MD := (yJ0_checkBoundsOffCount_cabcc, cJ0_checkBoundsOffCount_cabcc, 3, (some .int))
theorem kCJ0_checkBoundsOffCount_cabcc : okC mJ0_checkBoundsOffCount_cabcc 3 := ⟨(lw_k5 151 (by decide +kernel) (by decide +kernel)), ⟨by decide +kernel, by decide +kernel, by decide +kernel⟩, by decide +kernel, by decide, (lw_k1 4 (by decide +kernel) (by decide +kernel))⟩
abbrev mJ0_checkBoundsBeginEnd_23922 : MD := (yJ0_checkBoundsBeginEnd_23922, cJ0_checkBoundsBeginEnd_23922, 3, none)
theorem kCJ0_checkBoundsBeginEnd_23922 : okC mJ0_checkBoundsBeginEnd_23922 3 := ⟨(lw_k5 119 (by decide +kernel) (by decide +kernel)), ⟨by decide +kernel, by decide +kernel, by decide +kernel⟩, by decide +kernel, by decide, (lw_k1 4 (by decide +kernel) (by decide +kernel))⟩
abbrev mJ4_init_da8c8 : MD := (yJ4_init_da8c8, cJ4_init_da8c8, 1, none)
theorem kCJ4_init_da8c8 : okC mJ4_init_da8c8 0 := ⟨(lw_k1 32 (by decide +kernel) (by decide +kernel)), ⟨by decide +kernel, by decide +kernel, by decide +kernel⟩, by decide +kernel, by decide, (lw_k1 3 (by decide +kernel) (by decide +kernel))⟩
abbrev mJ4_append_15ec4 : MD := (yJ4_append_15ec4, cJ4_append_15ec4, 2, (some (.object "java/lang/StringBuilder")))
theorem kCJ4_append_15ec4 : okC mJ4_append_15ec4 1 := ⟨(lw_k5 103 (by decide +kernel) (by decide +kernel)), ⟨by decide +kernel, by decide +kernel, by decide +kernel⟩, by decide +kernel, by decide, (lw_k1 3 (by decide +kernel) (by decide +kernel))⟩
abbrev mJ4_append_cf468 : MD := (yJ4_append_cf468, cJ4_append_cf468, 2, (some (.object "java/lang/StringBuilder")))
theorem kCJ4_append_cf468 : okC mJ4_append_cf468 1 := ⟨(lw_k5 164 (by decide +kernel) (by decide +kernel)), ⟨by decide +kernel, by decide +kernel, by decide +kernel⟩, by decide +kernel, by decide, (lw_k1 3 (by decide +kernel) (by decide +kernel))⟩
abbrev mJ4_append_bf812 : MD := (yJ4_append_bf812, cJ4_append_bf812, 2, (some (.object "java/lang/StringBuilder")))
theorem kCJ4_append_bf812 : okC mJ4_append_bf812 1 := ⟨(lw_k5 177 (by decide +kernel) (by decide +kernel)), ⟨by decide +kernel, by decide +kernel, by decide +kernel⟩, by decide +kernel, by decide, (lw_k1 3 (by decide +kernel) (by decide +kernel))⟩
abbrev mJ4_charAt_5068e : MD := (yJ4_charAt_5068e, cJ4_charAt_5068e, 2, (some .char))
theorem kCJ4_charAt_5068e : okC mJ4_charAt_5068e 1 := ⟨(lw_k5 233 (by decide +kernel) (by decide +kernel)), ⟨by decide +kernel, by decide +kernel, by decide +kernel⟩, by decide +kernel, by decide, (lw_k1 3 (by decide +kernel) (by decide +kernel))⟩
abbrev mJ4_setLength_d00df : MD := (yJ4_setLength_d00df, cJ4_setLength_d00df, 2, none)
theorem kCJ4_setLength_d00df : okC mJ4_setLength_d00df 1 := ⟨(lw_k5 48 (by decide +kernel) (by decide +kernel)), ⟨by decide +kernel, by decide +kernel, by decide +kernel⟩, by decide +kernel, by decide, (lw_k1 3 (by decide +kernel) (by decide +kernel))⟩
abbrev mJ4_length_8abf5 : MD := (yJ4_length_8abf5, cJ4_length_8abf5, 1, (some .int))
theorem kCJ4_length_8abf5 : okC mJ4_length_8abf5 0 := ⟨(lw_k5 222 (by decide +kernel) (by decide +kernel)), ⟨by decide +kernel, by decide +kernel, by decide +kernel⟩, by decide +kernel, by decide, (lw_k1 3 (by decide +kernel) (by decide +kernel))⟩
abbrev mJ1_charAt_3b067 : MD := (yJ1_charAt_3b067, cJ1_charAt_3b067, 2, (some .char))
theorem kCJ1_charAt_3b067 : okC mJ1_charAt_3b067 2 := ⟨(lw_k2 165 (by decide +kernel) (by decide +kernel)), ⟨by decide +kernel, by decide +kernel, by decide +kernel⟩, by decide +kernel, by decide, (lw_k1 14 (by decide +kernel) (by decide +kernel))⟩
abbrev mJ1_canEncode_fc78d : MD := (yJ1_canEncode_fc78d, cJ1_canEncode_fc78d, 1, (some .boolean))
theorem kCJ1_canEncode_fc78d : okC mJ1_canEncode_fc78d 1 := ⟨(lw_k5 170 (by decide +kernel) (by decide +kernel)), ⟨by decide +kernel, by decide +kernel, by decide +kernel⟩, by decide +kernel, by decide, (lw_k1 14 (by decide +kernel) (by decide +kernel))⟩
abbrev mJ1_fillNull_b72d1 : MD := (yJ1_fillNull_b72d1, cJ1_fillNull_b72d1, 3, none)
theorem kCJ1_fillNull_b72d1 : okC mJ1_fillNull_b72d1 3 := ⟨(lw_k5 88 (by decide +kernel) (by decide +kernel)), ⟨by decide +kernel, by decide +kernel, by decide +kernel⟩, by decide +kernel, by decide, (lw_k1 14 (by decide +kernel) (by decide +kernel))⟩
abbrev mJ1_inflate_0e8fd : MD := (yJ1_inflate_0e8fd, cJ1_inflate_0e8fd, 5, none)
theorem kCJ1_inflate_0e8fd : okC mJ1_inflate_0e8fd 5 := ⟨(lw_k5 142 (by decide +kernel) (by decide +kernel)), ⟨by decide +kernel, by decide +kernel, by decide +kernel⟩, by decide +kernel, by decide, (lw_k1 14 (by decide +kernel) (by decide +kernel))⟩
abbrev mJ2_newBytesFor_77867 : MD := (yJ2_newBytesFor_77867, cJ2_newBytesFor_77867, 1, (some (.array .byte)))
theorem kCJ2_newBytesFor_77867 : okC mJ2_newBytesFor_77867 1 := ⟨(lw_k1 41 (by decide +kernel) (by decide +kernel)), ⟨by decide +kernel, by decide +kernel, by decide +kernel⟩, by decide +kernel, by decide, (lw_k1 5 (by decide +kernel) (by decide +kernel))⟩
abbrev mJ2_newBytesLength_0f7a4 : MD := (yJ2_newBytesLength_0f7a4, cJ2_newBytesLength_0f7a4, 1, (some .int))
theorem kCJ2_newBytesLength_0f7a4 : okC mJ2_newBytesLength_0f7a4 1 := ⟨(lw_k1 44 (by decide +kernel) (by decide +kernel)), ⟨by decide +kernel, by decide +kernel, by decide +kernel⟩, by decide +kernel, by decide, (lw_k1 5 (by decide +kernel) (by decide +kernel))⟩
abbrev mJ2_putChar_b72d1 : MD := (yJ2_putChar_b72d1, cJ2_putChar_b72d1, 3, none)
theorem kCJ2_putChar_b72d1 : okC mJ2_putChar_b72d1 3 := ⟨(lw_k5 125 (by decide +kernel) (by decide +kernel)), ⟨by decide +kernel, by decide +kernel, by decide +kernel⟩, by decide +kernel, by decide, (lw_k1 5 (by decide +kernel) (by decide +kernel))⟩
abbrev mJ2_getChar_3b067 : MD := (yJ2_getChar_3b067, cJ2_getChar_3b067, 2, (some .char))
theorem kCJ2_getChar_3b067 : okC mJ2_getChar_3b067 2 := ⟨(lw_k2 186 (by decide +kernel) (by decide +kernel)), ⟨by decide +kernel, by decide +kernel, by decide +kernel⟩, by decide +kernel, by decide, (lw_k1 5 (by decide +kernel) (by decide +kernel))⟩
abbrev mJ2_length_9d52b : MD := (yJ2_length_9d52b, cJ2_length_9d52b, 1, (some .int))
theorem kCJ2_length_9d52b : okC mJ2_length_9d52b 1 := ⟨(lw_k2 182 (by decide +kernel) (by decide +kernel)), ⟨by decide +kernel, by decide +kernel, by decide +kernel⟩, by decide +kernel, by decide, (lw_k1 5 (by decide +kernel) (by decide +kernel))⟩
abbrev mJ2_fillNull_b72d1 : MD := (yJ2_fillNull_b72d1, cJ2_fillNull_b72d1, 3, none)
theorem kCJ2_fillNull_b72d1 : okC mJ2_fillNull_b72d1 3 := ⟨(lw_k5 97 (by decide +kernel) (by decide +kernel)), ⟨by decide +kernel, by decide +kernel, by decide +kernel⟩, by decide +kernel, by decide, (lw_k1 5 (by decide +kernel) (by decide +kernel))⟩
abbrev mJ2_putCharSB_b72d1 : MD := (yJ2_putCharSB_b72d1, cJ2_putCharSB_b72d1, 3, none)
theorem kCJ2_putCharSB_b72d1 : okC mJ2_putCharSB_b72d1 3 := ⟨(lw_k5 173 (by decide +kernel) (by decide +kernel)), ⟨by decide +kernel, by decide +kernel, by decide +kernel⟩, by decide +kernel, by decide, (lw_k1 5 (by decide +kernel) (by decide +kernel))⟩
abbrev mJ2_getChars_46870 : MD := (yJ2_getChars_46870, cJ2_getChars_46870, 5, (some .int))
theorem kCJ2_getChars_46870 : okC mJ2_getChars_46870 4 := ⟨(lw_k5 193 (by decide +kernel) (by decide +kernel)), ⟨by decide +kernel, by decide +kernel, by decide +kernel⟩, by decide +kernel, by decide, (lw_k1 5 (by decide +kernel) (by decide +kernel))⟩
abbrev mJ2_putCharsAt_cd4e5 : MD := (yJ2_putCharsAt_cd4e5, cJ2_putCharsAt_cd4e5, 7, (some .int))
theorem kCJ2_putCharsAt_cd4e5 : okC mJ2_putCharsAt_cd4e5 6 := ⟨(lw_k5 113 (by decide +kernel) (by decide +kernel)), ⟨by decide +kernel, by decide +kernel, by decide +kernel⟩, by decide +kernel, by decide, (lw_k1 5 (by decide +kernel) (by decide +kernel))⟩
abbrev mJ2_charAt_3b067 : MD := (yJ2_charAt_3b067, cJ2_charAt_3b067, 2, (some .char))
theorem kCJ2_charAt_3b067 : okC mJ2_charAt_3b067 2 := ⟨(lw_k2 176 (by decide +kernel) (by decide +kernel)), ⟨by decide +kernel, by decide +kernel, by decide +kernel⟩, by decide +kernel, by decide, (lw_k1 5 (by decide +kernel) (by decide +kernel))⟩
abbrev mJ2_inflate_0e8fd : MD := (yJ2_inflate_0e8fd, cJ2_inflate_0e8fd, 6, none)
theorem kCJ2_inflate_0e8fd : okC mJ2_inflate_0e8fd 5 := ⟨(lw_k5 145 (by decide +kernel) (by decide +kernel)), ⟨by decide +kernel, by decide +kernel, by decide +kernel⟩, by decide +kernel, by decide, (lw_k1 5 (by decide +kernel) (by decide +kernel))⟩
abbrev mJ2_getChars_ba4f3 : MD := (yJ2_getChars_ba4f3, cJ2_getChars_ba4f3, 7, (some .int))
theorem kCJ2_getChars_ba4f3 : okC mJ2_getChars_ba4f3 3 := ⟨(lw_k5 196 (by decide +kernel) (by decide +kernel)), ⟨by decide +kernel, by decide +kernel, by decide +kernel⟩, by decide +kernel, by decide, (lw_k1 5 (by decide +kernel) (by decide +kernel))⟩
abbrev mJ2_checkIndex_2214a : MD := (yJ2_checkIndex_2214a, cJ2_checkIndex_2214a, 2, none)
theorem kCJ2_checkIndex_2214a : okC mJ2_checkIndex_2214a 2 := ⟨(lw_k2 179 (by decide +kernel) (by decide +kernel)), ⟨by decide +kernel, by decide +kernel, by decide +kernel⟩, by decide +kernel, by decide, (lw_k1 5 (by decide +kernel) (by decide +kernel))⟩
abbrev mJ2_checkBoundsBeginEnd_d044e : MD := (yJ2_checkBoundsBeginEnd_d044e, cJ2_checkBoundsBeginEnd_d044e, 3, none)
theorem kCJ2_checkBoundsBeginEnd_d044e : okC mJ2_checkBoundsBeginEnd_d044e 3 := ⟨(lw_k5 116 (by decide +kernel) (by decide +kernel)), ⟨by decide +kernel, by decide +kernel, by decide +kernel⟩, by decide +kernel, by decide, (lw_k1 5 (by decide +kernel) (by decide +kernel))⟩
abbrev mJ2_checkBoundsOffCount_d044e : MD := (yJ2_checkBoundsOffCount_d044e, cJ2_checkBoundsOffCount_d044e, 3, none)
theorem kCJ2_checkBoundsOffCount_d044e : okC mJ2_checkBoundsOffCount_d044e 3 := ⟨(lw_k5 148 (by decide +kernel) (by decide +kernel)), ⟨by decide +kernel, by decide +kernel, by decide +kernel⟩, by decide +kernel, by decide, (lw_k1 5 (by decide +kernel) (by decide +kernel))⟩
abbrev mJ7_rangeCheck_23922 : MD := (yJ7_rangeCheck_23922, cJ7_rangeCheck_23922, 3, none)
theorem kCJ7_rangeCheck_23922 : okC mJ7_rangeCheck_23922 3 := ⟨(lw_k5 94 (by decide +kernel) (by decide +kernel)), ⟨by decide +kernel, by decide +kernel, by decide +kernel⟩, by decide +kernel, by decide, (lw_k1 19 (by decide +kernel) (by decide +kernel))⟩
abbrev mJ7_fill_eb02e : MD := (yJ7_fill_eb02e, cJ7_fill_eb02e, 5, none)
theorem kCJ7_fill_eb02e : okC mJ7_fill_eb02e 4 := ⟨(lw_k5 91 (by decide +kernel) (by decide +kernel)), ⟨by decide +kernel, by decide +kernel, by decide +kernel⟩, by decide +kernel, by decide, (lw_k1 19 (by decide +kernel) (by decide +kernel))⟩
abbrev mJ7_copyOf_9075b : MD := (yJ7_copyOf_9075b, cJ7_copyOf_9075b, 3, (some (.array .byte)))
theorem kCJ7_copyOf_9075b : okC mJ7_copyOf_9075b 2 := ⟨(lw_k5 71 (by decide +kernel) (by decide +kernel)), ⟨by decide +kernel, by decide +kernel, by decide +kernel⟩, by decide +kernel, by decide, (lw_k1 19 (by decide +kernel) (by decide +kernel))⟩
abbrev mJ8_newLength_cabcc : MD := (yJ8_newLength_cabcc, cJ8_newLength_cabcc, 4, (some .int))
theorem kCJ8_newLength_cabcc : okC mJ8_newLength_cabcc 3 := ⟨(lw_k5 62 (by decide +kernel) (by decide +kernel)), ⟨by decide +kernel, by decide +kernel, by decide +kernel⟩, by decide +kernel, by decide, (lw_k1 18 (by decide +kernel) (by decide +kernel))⟩
abbrev mJ8_hugeLength_7cf53 : MD := (yJ8_hugeLength_7cf53, cJ8_hugeLength_7cf53, 3, (some .int))
theorem kCJ8_hugeLength_7cf53 : okC mJ8_hugeLength_7cf53 2 := ⟨(lw_k5 67 (by decide +kernel) (by decide +kernel)), ⟨by decide +kernel, by decide +kernel, by decide +kernel⟩, by decide +kernel, by decide, (lw_k1 18 (by decide +kernel) (by decide +kernel))⟩
abbrev mJ3_checkIndex_8e157 : MD := (yJ3_checkIndex_8e157, cJ3_checkIndex_8e157, 3, (some .int))
theorem kCJ3_checkIndex_8e157 : okC mJ3_checkIndex_8e157 3 := ⟨(lw_k2 173 (by decide +kernel) (by decide +kernel)), ⟨by decide +kernel, by decide +kernel, by decide +kernel⟩, by decide +kernel, by decide, (lw_k1 15 (by decide +kernel) (by decide +kernel))⟩
abbrev mJ3_checkFromToIndex_8c36e : MD := (yJ3_checkFromToIndex_8c36e, cJ3_checkFromToIndex_8c36e, 4, (some .int))
theorem kCJ3_checkFromToIndex_8c36e : okC mJ3_checkFromToIndex_8c36e 4 := ⟨(lw_k5 122 (by decide +kernel) (by decide +kernel)), ⟨by decide +kernel, by decide +kernel, by decide +kernel⟩, by decide +kernel, by decide, (lw_k1 15 (by decide +kernel) (by decide +kernel))⟩
abbrev mJ3_checkFromIndexSize_8c36e : MD := (yJ3_checkFromIndexSize_8c36e, cJ3_checkFromIndexSize_8c36e, 4, (some .int))
theorem kCJ3_checkFromIndexSize_8c36e : okC mJ3_checkFromIndexSize_8c36e 4 := ⟨(lw_k5 154 (by decide +kernel) (by decide +kernel)), ⟨by decide +kernel, by decide +kernel, by decide +kernel⟩, by decide +kernel, by decide, (lw_k1 15 (by decide +kernel) (by decide +kernel))⟩
theorem kKX2_96 : Cond.constantLong RX2 96 (1048575) ∈ lw_g := (lw_k4 98 (by decide +kernel) (by decide +kernel))
theorem kKX7_153 : Cond.constantLong RX7 153 (3) ∈ lw_g := (lw_k6 152 (by decide +kernel) (by decide +kernel))
theorem kKX7_179 : Cond.constantLong RX7 179 (60) ∈ lw_g := (lw_k7 115 (by decide +kernel) (by decide +kernel))
theorem kKX7_193 : Cond.constantLong RX7 193 (7) ∈ lw_g := (lw_k7 155 (by decide +kernel) (by decide +kernel))
theorem kKX7_201 : Cond.constantLong RX7 201 (255) ∈ lw_g := (lw_k7 168 (by decide +kernel) (by decide +kernel))
theorem kKX7_215 : Cond.constantLong RX7 215 (500) ∈ lw_g := (lw_k7 206 (by decide +kernel) (by decide +kernel))
theorem kKX7_217 : Cond.constantLong RX7 217 (100) ∈ lw_g := (lw_k7 211 (by decide +kernel) (by decide +kernel))
theorem kKX7_248 : Cond.constantLong RX7 248 (97) ∈ lw_g := (lw_k8 0 (by decide +kernel) (by decide +kernel))
theorem kKX7_250 : Cond.constantLong RX7 250 (122) ∈ lw_g := (lw_k8 1 (by decide +kernel) (by decide +kernel))
theorem kKX7_252 : Cond.constantLong RX7 252 (48) ∈ lw_g := (lw_k8 2 (by decide +kernel) (by decide +kernel))
theorem kKX7_254 : Cond.constantLong RX7 254 (57) ∈ lw_g := (lw_k8 3 (by decide +kernel) (by decide +kernel))
theorem kKX7_341 : Cond.constantLong RX7 341 (14) ∈ lw_g := (lw_k8 98 (by decide +kernel) (by decide +kernel))
theorem kKX7_361 : Cond.constantLong RX7 361 (2) ∈ lw_g := (lw_k8 115 (by decide +kernel) (by decide +kernel))
theorem kKX7_363 : Cond.constantLong RX7 363 (6) ∈ lw_g := (lw_k8 116 (by decide +kernel) (by decide +kernel))
theorem kKX7_400 : Cond.constantLong RX7 400 (9999) ∈ lw_g := (lw_k8 179 (by decide +kernel) (by decide +kernel))
theorem kLX6_13 : Cond.classLink RX6 13 RJ4 ∈ lw_g := (lw_k1 28 (by decide +kernel) (by decide +kernel))
theorem kNX6_13 : okN RX6 13 0 4 [.null, .int 0, .int 0, .int 0] := ⟨RJ4, TJ4, tyJ4, rfl, inngJ4, tyJ4_ok, kLX6_13, (lw_k1 29 (by decide +kernel) (by decide +kernel)), (lw_k1 3 (by decide +kernel) (by decide +kernel)), fun j hj => by rcases (show j = 0 ∨ j = 1 ∨ j = 2 ∨ j = 3 by omega) with rfl | rfl | rfl | rfl <;> rfl⟩
theorem kLX6_20 : Cond.classLink RX6 20 RX4 ∈ lw_g := (lw_k1 61 (by decide +kernel) (by decide +kernel))
theorem kNX6_20 : okN RX6 20 5 12 [.null, .int 0, .int 0, .null, .int 0, .int 0, .int 0, .int 0, .int 0, .int 0, .int 0, .int 0] := ⟨RX4, TX4, tyX4, rfl, inngX4, tyX4_ok, kLX6_20, (lw_k1 62 (by decide +kernel) (by decide +kernel)), (lw_k1 6 (by decide +kernel) (by decide +kernel)), fun j hj => by rcases (show j = 0 ∨ j = 1 ∨ j = 2 ∨ j = 3 ∨ j = 4 ∨ j = 5 ∨ j = 6 ∨ j = 7 ∨ j = 8 ∨ j = 9 ∨ j = 10 ∨ j = 11 by omega) with rfl | rfl | rfl | rfl | rfl | rfl | rfl | rfl | rfl | rfl | rfl | rfl <;> rfl⟩
theorem kLX6_29 : Cond.classLink RX6 29 RX5 ∈ lw_g := (lw_k2 5 (by decide +kernel) (by decide +kernel))
theorem kNX6_29 : okN RX6 29 6 13 [.null, .int 0, .int 0, .int 0, .int 0, .int 0, .int 0, .null, .null, .null, .null, .null, .null] := ⟨RX5, TX5, tyX5, rfl, inngX5, tyX5_ok, kLX6_29, (lw_k1 68 (by decide +kernel) (by decide +kernel)), (lw_k1 7 (by decide +kernel) (by decide +kernel)), fun j hj => by rcases (show j = 0 ∨ j = 1 ∨ j = 2 ∨ j = 3 ∨ j = 4 ∨ j = 5 ∨ j = 6 ∨ j = 7 ∨ j = 8 ∨ j = 9 ∨ j = 10 ∨ j = 11 ∨ j = 12 by omega) with rfl | rfl | rfl | rfl | rfl | rfl | rfl | rfl | rfl | rfl | rfl | rfl | rfl <;> rfl⟩
theorem kLX6_39 : Cond.classLink RX6 39 RX1 ∈ lw_g := (lw_k2 7 (by decide +kernel) (by decide +kernel))
theorem kNX6_39 : okN RX6 39 2 3 [.int 0, .int 0, .null] := ⟨RX1, TX1, tyX1, rfl, inngX1, tyX1_ok, kLX6_39, (lw_k2 8 (by decide +kernel) (by decide +kernel)), (lw_k1 9 (by decide +kernel) (by decide +kernel)), fun j hj => by rcases (show j = 0 ∨ j = 1 ∨ j = 2 by omega) with rfl | rfl | rfl <;> rfl⟩
theorem kLX6_46 : Cond.classLink RX6 46 RX2 ∈ lw_g := (lw_k2 27 (by decide +kernel) (by decide +kernel))
theorem kNX6_46 : okN RX6 46 3 4 [.null, .null, .null, .long 0] := ⟨RX2, TX2, tyX2, rfl, inngX2, tyX2_ok, kLX6_46, (lw_k2 28 (by decide +kernel) (by decide +kernel)), (lw_k1 10 (by decide +kernel) (by decide +kernel)), fun j hj => by rcases (show j = 0 ∨ j = 1 ∨ j = 2 ∨ j = 3 by omega) with rfl | rfl | rfl | rfl <;> rfl⟩
theorem kLX6_53 : Cond.classLink RX6 53 RX3 ∈ lw_g := (lw_k2 47 (by decide +kernel) (by decide +kernel))
theorem kNX6_53 : okN RX6 53 4 4 [.int 0, .int 0, .int 0, .null] := ⟨RX3, TX3, tyX3, rfl, inngX3, tyX3_ok, kLX6_53, (lw_k2 48 (by decide +kernel) (by decide +kernel)), (lw_k1 11 (by decide +kernel) (by decide +kernel)), fun j hj => by rcases (show j = 0 ∨ j = 1 ∨ j = 2 ∨ j = 3 by omega) with rfl | rfl | rfl | rfl <;> rfl⟩
theorem kLX1_9 : Cond.classLink RX1 9 RX5 ∈ lw_g := (lw_k2 13 (by decide +kernel) (by decide +kernel))
theorem kNX1_9 : okN RX1 9 6 13 [.null, .int 0, .int 0, .int 0, .int 0, .int 0, .int 0, .null, .null, .null, .null, .null, .null] := ⟨RX5, TX5, tyX5, rfl, inngX5, tyX5_ok, kLX1_9, (lw_k1 68 (by decide +kernel) (by decide +kernel)), (lw_k1 7 (by decide +kernel) (by decide +kernel)), fun j hj => by rcases (show j = 0 ∨ j = 1 ∨ j = 2 ∨ j = 3 ∨ j = 4 ∨ j = 5 ∨ j = 6 ∨ j = 7 ∨ j = 8 ∨ j = 9 ∨ j = 10 ∨ j = 11 ∨ j = 12 by omega) with rfl | rfl | rfl | rfl | rfl | rfl | rfl | rfl | rfl | rfl | rfl | rfl | rfl <;> rfl⟩
theorem kLX4_15 : Cond.classLink RX4 15 RX5 ∈ lw_g := (lw_k1 67 (by decide +kernel) (by decide +kernel))
theorem kNX4_15 : okN RX4 15 6 13 [.null, .int 0, .int 0, .int 0, .int 0, .int 0, .int 0, .null, .null, .null, .null, .null, .null] := ⟨RX5, TX5, tyX5, rfl, inngX5, tyX5_ok, kLX4_15, (lw_k1 68 (by decide +kernel) (by decide +kernel)), (lw_k1 7 (by decide +kernel) (by decide +kernel)), fun j hj => by rcases (show j = 0 ∨ j = 1 ∨ j = 2 ∨ j = 3 ∨ j = 4 ∨ j = 5 ∨ j = 6 ∨ j = 7 ∨ j = 8 ∨ j = 9 ∨ j = 10 ∨ j = 11 ∨ j = 12 by omega) with rfl | rfl | rfl | rfl | rfl | rfl | rfl | rfl | rfl | rfl | rfl | rfl | rfl <;> rfl⟩
theorem kLX5_9 : Cond.classLink RX5 9 RX0 ∈ lw_g := (lw_k1 73 (by decide +kernel) (by decide +kernel))
theorem kNX5_9 : okN RX5 9 1 11 [.int 0, .int 0, .int 0, .null, .null, .null, .null, .null, .null, .null, .null] := ⟨RX0, TX0, tyX0, rfl, inngX0, tyX0_ok, kLX5_9, (lw_k1 74 (by decide +kernel) (by decide +kernel)), (lw_k1 8 (by decide +kernel) (by decide +kernel)), fun j hj => by rcases (show j = 0 ∨ j = 1 ∨ j = 2 ∨ j = 3 ∨ j = 4 ∨ j = 5 ∨ j = 6 ∨ j = 7 ∨ j = 8 ∨ j = 9 ∨ j = 10 by omega) with rfl | rfl | rfl | rfl | rfl | rfl | rfl | rfl | rfl | rfl | rfl <;> rfl⟩
theorem kLL_7 : Cond.classLink RL 7 RX6 ∈ lw_g := (lw_k1 20 (by decide +kernel) (by decide +kernel))
theorem kNL_7 : okN RL 7 7 9 [.null, .int 0, .null, .null, .null, .null, .null, .null, .null] := ⟨RX6, TX6, tyX6, rfl, inngX6, tyX6_ok, kLL_7, (lw_k1 21 (by decide +kernel) (by decide +kernel)), (lw_k1 1 (by decide +kernel) (by decide +kernel)), fun j hj => by rcases (show j = 0 ∨ j = 1 ∨ j = 2 ∨ j = 3 ∨ j = 4 ∨ j = 5 ∨ j = 6 ∨ j = 7 ∨ j = 8 by omega) with rfl | rfl | rfl | rfl | rfl | rfl | rfl | rfl | rfl <;> rfl⟩
theorem kLL_10 : Cond.classLink RL 10 RX7 ∈ lw_g := (lw_k6 0 (by decide +kernel) (by decide +kernel))
theorem kNL_10 : okN RL 10 8 23 [.int 0, .null, .null, .null, .null, .null, .null, .null, .int 0, .null, .int 0, .null, .int 0, .int 0, .int 0, .int 0, .int 0, .int 0, .int 0, .int 0, .int 0, .null, .int 0] := ⟨RX7, TX7, tyX7, rfl, inngX7, tyX7_ok, kLL_10, (lw_k6 1 (by decide +kernel) (by decide +kernel)), (lw_k1 12 (by decide +kernel) (by decide +kernel)), fun j hj => by rcases (show j = 0 ∨ j = 1 ∨ j = 2 ∨ j = 3 ∨ j = 4 ∨ j = 5 ∨ j = 6 ∨ j = 7 ∨ j = 8 ∨ j = 9 ∨ j = 10 ∨ j = 11 ∨ j = 12 ∨ j = 13 ∨ j = 14 ∨ j = 15 ∨ j = 16 ∨ j = 17 ∨ j = 18 ∨ j = 19 ∨ j = 20 ∨ j = 21 ∨ j = 22 by omega) with rfl | rfl | rfl | rfl | rfl | rfl | rfl | rfl | rfl | rfl | rfl | rfl | rfl | rfl | rfl | rfl | rfl | rfl | rfl | rfl | rfl | rfl | rfl <;> rfl⟩
theorem kLJ7_311 : Cond.classLink RJ7 311 "[B" ∈ lw_g := (lw_k5 78 (by decide +kernel) (by decide +kernel))
theorem kGX6_9 : okG RX6 9 7 0 := ⟨RX6, TX6, 9, rfl, by decide, inngX6, (lw_k2 69 (by decide +kernel) (by decide +kernel))⟩
theorem kFX6_9 : okF RX6 9 7 0 (.array .int) true := ⟨RX6, TX6, 9, tyX6, rfl, by decide, inngX6, (lw_k2 69 (by decide +kernel) (by decide +kernel)), tyX6_ok, nmX6, rfl, rfl, fun _ => rfl⟩
theorem kGX6_16 : okG RX6 16 7 2 := ⟨RX6, TX6, 9, rfl, by decide, inngX6, (lw_k2 71 (by decide +kernel) (by decide +kernel))⟩
theorem kFX6_16 : okF RX6 16 7 2 (.object "java/lang/StringBuilder") true := ⟨RX6, TX6, 9, tyX6, rfl, by decide, inngX6, (lw_k2 71 (by decide +kernel) (by decide +kernel)), tyX6_ok, nmX6, rfl, rfl, fun _ => rfl⟩
theorem kGX6_25 : okG RX6 25 7 3 := ⟨RX6, TX6, 9, rfl, by decide, inngX6, (lw_k2 72 (by decide +kernel) (by decide +kernel))⟩
theorem kFX6_25 : okF RX6 25 7 3 (.object "HosieryPlant$Parser") true := ⟨RX6, TX6, 9, tyX6, rfl, by decide, inngX6, (lw_k2 72 (by decide +kernel) (by decide +kernel)), tyX6_ok, nmX6, rfl, rfl, fun _ => rfl⟩
theorem kGX6_32 : okG RX6 32 7 4 := ⟨RX6, TX6, 9, rfl, by decide, inngX6, (lw_k2 73 (by decide +kernel) (by decide +kernel))⟩
theorem kFX6_32 : okF RX6 32 7 4 (.object "HosieryPlant$Plant") true := ⟨RX6, TX6, 9, tyX6, rfl, by decide, inngX6, (lw_k2 73 (by decide +kernel) (by decide +kernel)), tyX6_ok, nmX6, rfl, rfl, fun _ => rfl⟩
theorem kGX6_36 : okG RX6 36 7 5 := ⟨RX6, TX6, 9, rfl, by decide, inngX6, (lw_k2 74 (by decide +kernel) (by decide +kernel))⟩
theorem kFX6_36 : okF RX6 36 7 5 (.object "HosieryPlant$Plant") true := ⟨RX6, TX6, 9, tyX6, rfl, by decide, inngX6, (lw_k2 74 (by decide +kernel) (by decide +kernel)), tyX6_ok, nmX6, rfl, rfl, fun _ => rfl⟩
theorem kGX6_42 : okG RX6 42 7 6 := ⟨RX6, TX6, 9, rfl, by decide, inngX6, (lw_k2 75 (by decide +kernel) (by decide +kernel))⟩
theorem kFX6_42 : okF RX6 42 7 6 (.object "HosieryPlant$History") true := ⟨RX6, TX6, 9, tyX6, rfl, by decide, inngX6, (lw_k2 75 (by decide +kernel) (by decide +kernel)), tyX6_ok, nmX6, rfl, rfl, fun _ => rfl⟩
theorem kGX6_49 : okG RX6 49 7 7 := ⟨RX6, TX6, 9, rfl, by decide, inngX6, (lw_k2 76 (by decide +kernel) (by decide +kernel))⟩
theorem kFX6_49 : okF RX6 49 7 7 (.object "HosieryPlant$Matching") true := ⟨RX6, TX6, 9, tyX6, rfl, by decide, inngX6, (lw_k2 76 (by decide +kernel) (by decide +kernel)), tyX6_ok, nmX6, rfl, rfl, fun _ => rfl⟩
theorem kGX6_56 : okG RX6 56 7 8 := ⟨RX6, TX6, 9, rfl, by decide, inngX6, (lw_k2 77 (by decide +kernel) (by decide +kernel))⟩
theorem kFX6_56 : okF RX6 56 7 8 (.object "HosieryPlant$Pairing") true := ⟨RX6, TX6, 9, tyX6, rfl, by decide, inngX6, (lw_k2 77 (by decide +kernel) (by decide +kernel)), tyX6_ok, nmX6, rfl, rfl, fun _ => rfl⟩
theorem kGX6_60 : okG RX6 60 7 1 := ⟨RX6, TX6, 9, rfl, by decide, inngX6, (lw_k2 70 (by decide +kernel) (by decide +kernel))⟩
theorem kFX6_60 : okF RX6 60 7 1 .int false := ⟨RX6, TX6, 9, tyX6, rfl, by decide, inngX6, (lw_k2 70 (by decide +kernel) (by decide +kernel)), tyX6_ok, nmX6, rfl, rfl, fun q => absurd q (by decide)⟩
theorem kGX6_75 : okG RX6 75 5 0 := ⟨RX4, TX4, 12, rfl, by decide, inngX4, (lw_k1 206 (by decide +kernel) (by decide +kernel))⟩
theorem kGX6_82 : okG RX6 82 6 6 := ⟨RX5, TX5, 13, rfl, by decide, inngX5, (lw_k1 164 (by decide +kernel) (by decide +kernel))⟩
theorem kFX6_82 : okF RX6 82 6 6 .int false := ⟨RX5, TX5, 13, tyX5, rfl, by decide, inngX5, (lw_k1 164 (by decide +kernel) (by decide +kernel)), tyX5_ok, nmX5, rfl, rfl, fun q => absurd q (by decide)⟩
theorem kGX6_85 : okG RX6 85 5 1 := ⟨RX4, TX4, 12, rfl, by decide, inngX4, (lw_k1 208 (by decide +kernel) (by decide +kernel))⟩
theorem kFX6_85 : okF RX6 85 5 1 .int false := ⟨RX4, TX4, 12, tyX4, rfl, by decide, inngX4, (lw_k1 208 (by decide +kernel) (by decide +kernel)), tyX4_ok, nmX4, rfl, rfl, fun q => absurd q (by decide)⟩
theorem kGX6_88 : okG RX6 88 5 2 := ⟨RX4, TX4, 12, rfl, by decide, inngX4, (lw_k1 210 (by decide +kernel) (by decide +kernel))⟩
theorem kFX6_88 : okF RX6 88 5 2 .int false := ⟨RX4, TX4, 12, tyX4, rfl, by decide, inngX4, (lw_k1 210 (by decide +kernel) (by decide +kernel)), tyX4_ok, nmX4, rfl, rfl, fun q => absurd q (by decide)⟩
theorem kGX6_95 : okG RX6 95 6 0 := ⟨RX5, TX5, 13, rfl, by decide, inngX5, (lw_k1 147 (by decide +kernel) (by decide +kernel))⟩
theorem kGX6_99 : okG RX6 99 1 3 := ⟨RX0, TX0, 11, rfl, by decide, inngX0, (lw_k1 93 (by decide +kernel) (by decide +kernel))⟩
theorem kGX6_104 : okG RX6 104 1 0 := ⟨RX0, TX0, 11, rfl, by decide, inngX0, (lw_k1 82 (by decide +kernel) (by decide +kernel))⟩
theorem kFX6_104 : okF RX6 104 1 0 .int false := ⟨RX0, TX0, 11, tyX0, rfl, by decide, inngX0, (lw_k1 82 (by decide +kernel) (by decide +kernel)), tyX0_ok, nmX0, rfl, rfl, fun q => absurd q (by decide)⟩
theorem kGX6_110 : okG RX6 110 1 6 := ⟨RX0, TX0, 11, rfl, by decide, inngX0, (lw_k1 104 (by decide +kernel) (by decide +kernel))⟩
theorem kGX6_113 : okG RX6 113 1 1 := ⟨RX0, TX0, 11, rfl, by decide, inngX0, (lw_k1 86 (by decide +kernel) (by decide +kernel))⟩
theorem kFX6_113 : okF RX6 113 1 1 .int false := ⟨RX0, TX0, 11, tyX0, rfl, by decide, inngX0, (lw_k1 86 (by decide +kernel) (by decide +kernel)), tyX0_ok, nmX0, rfl, rfl, fun q => absurd q (by decide)⟩
theorem kGX6_116 : okG RX6 116 1 8 := ⟨RX0, TX0, 11, rfl, by decide, inngX0, (lw_k1 110 (by decide +kernel) (by decide +kernel))⟩
theorem kGX6_119 : okG RX6 119 1 2 := ⟨RX0, TX0, 11, rfl, by decide, inngX0, (lw_k1 89 (by decide +kernel) (by decide +kernel))⟩
theorem kFX6_119 : okF RX6 119 1 2 .int false := ⟨RX0, TX0, 11, tyX0, rfl, by decide, inngX0, (lw_k1 89 (by decide +kernel) (by decide +kernel)), tyX0_ok, nmX0, rfl, rfl, fun q => absurd q (by decide)⟩
theorem kGX6_122 : okG RX6 122 6 5 := ⟨RX5, TX5, 13, rfl, by decide, inngX5, (lw_k1 161 (by decide +kernel) (by decide +kernel))⟩
theorem kFX6_122 : okF RX6 122 6 5 .int false := ⟨RX5, TX5, 13, tyX5, rfl, by decide, inngX5, (lw_k1 161 (by decide +kernel) (by decide +kernel)), tyX5_ok, nmX5, rfl, rfl, fun q => absurd q (by decide)⟩
theorem kGX6_125 : okG RX6 125 2 0 := ⟨RX1, TX1, 3, rfl, by decide, inngX1, (lw_k2 17 (by decide +kernel) (by decide +kernel))⟩
theorem kFX6_125 : okF RX6 125 2 0 .int false := ⟨RX1, TX1, 3, tyX1, rfl, by decide, inngX1, (lw_k2 17 (by decide +kernel) (by decide +kernel)), tyX1_ok, nmX1, rfl, rfl, fun q => absurd q (by decide)⟩
theorem kGX6_128 : okG RX6 128 6 1 := ⟨RX5, TX5, 13, rfl, by decide, inngX5, (lw_k1 150 (by decide +kernel) (by decide +kernel))⟩
theorem kFX6_128 : okF RX6 128 6 1 .int false := ⟨RX5, TX5, 13, tyX5, rfl, by decide, inngX5, (lw_k1 150 (by decide +kernel) (by decide +kernel)), tyX5_ok, nmX5, rfl, rfl, fun q => absurd q (by decide)⟩
theorem kGX6_131 : okG RX6 131 6 2 := ⟨RX5, TX5, 13, rfl, by decide, inngX5, (lw_k1 153 (by decide +kernel) (by decide +kernel))⟩
theorem kFX6_131 : okF RX6 131 6 2 .int false := ⟨RX5, TX5, 13, tyX5, rfl, by decide, inngX5, (lw_k1 153 (by decide +kernel) (by decide +kernel)), tyX5_ok, nmX5, rfl, rfl, fun q => absurd q (by decide)⟩
theorem kGX6_134 : okG RX6 134 6 3 := ⟨RX5, TX5, 13, rfl, by decide, inngX5, (lw_k1 156 (by decide +kernel) (by decide +kernel))⟩
theorem kFX6_134 : okF RX6 134 6 3 .int false := ⟨RX5, TX5, 13, tyX5, rfl, by decide, inngX5, (lw_k1 156 (by decide +kernel) (by decide +kernel)), tyX5_ok, nmX5, rfl, rfl, fun q => absurd q (by decide)⟩
theorem kGX6_140 : okG RX6 140 6 10 := ⟨RX5, TX5, 13, rfl, by decide, inngX5, (lw_k1 173 (by decide +kernel) (by decide +kernel))⟩
theorem kGX6_147 : okG RX6 147 6 9 := ⟨RX5, TX5, 13, rfl, by decide, inngX5, (lw_k1 171 (by decide +kernel) (by decide +kernel))⟩
theorem kGX6_150 : okG RX6 150 6 11 := ⟨RX5, TX5, 13, rfl, by decide, inngX5, (lw_k1 175 (by decide +kernel) (by decide +kernel))⟩
theorem kGX6_153 : okG RX6 153 6 7 := ⟨RX5, TX5, 13, rfl, by decide, inngX5, (lw_k1 167 (by decide +kernel) (by decide +kernel))⟩
theorem kGX6_155 : okG RX6 155 6 8 := ⟨RX5, TX5, 13, rfl, by decide, inngX5, (lw_k1 169 (by decide +kernel) (by decide +kernel))⟩
theorem kGX6_158 : okG RX6 158 6 12 := ⟨RX5, TX5, 13, rfl, by decide, inngX5, (lw_k1 177 (by decide +kernel) (by decide +kernel))⟩
theorem kGX6_241 : okG RX6 241 4 0 := ⟨RX3, TX3, 4, rfl, by decide, inngX3, (lw_k2 53 (by decide +kernel) (by decide +kernel))⟩
theorem kFX6_241 : okF RX6 241 4 0 .boolean false := ⟨RX3, TX3, 4, tyX3, rfl, by decide, inngX3, (lw_k2 53 (by decide +kernel) (by decide +kernel)), tyX3_ok, nmX3, rfl, rfl, fun q => absurd q (by decide)⟩
theorem kGX6_257 : okG RX6 257 4 1 := ⟨RX3, TX3, 4, rfl, by decide, inngX3, (lw_k2 55 (by decide +kernel) (by decide +kernel))⟩
theorem kFX6_257 : okF RX6 257 4 1 .int false := ⟨RX3, TX3, 4, tyX3, rfl, by decide, inngX3, (lw_k2 55 (by decide +kernel) (by decide +kernel)), tyX3_ok, nmX3, rfl, rfl, fun q => absurd q (by decide)⟩
theorem kGX6_260 : okG RX6 260 4 2 := ⟨RX3, TX3, 4, rfl, by decide, inngX3, (lw_k2 57 (by decide +kernel) (by decide +kernel))⟩
theorem kFX6_260 : okF RX6 260 4 2 .int false := ⟨RX3, TX3, 4, tyX3, rfl, by decide, inngX3, (lw_k2 57 (by decide +kernel) (by decide +kernel)), tyX3_ok, nmX3, rfl, rfl, fun q => absurd q (by decide)⟩
theorem kGX6_263 : okG RX6 263 4 3 := ⟨RX3, TX3, 4, rfl, by decide, inngX3, (lw_k2 59 (by decide +kernel) (by decide +kernel))⟩
theorem kGX6_307 : okG RX6 307 6 4 := ⟨RX5, TX5, 13, rfl, by decide, inngX5, (lw_k1 159 (by decide +kernel) (by decide +kernel))⟩
theorem kFX6_307 : okF RX6 307 6 4 .int false := ⟨RX5, TX5, 13, tyX5, rfl, by decide, inngX5, (lw_k1 159 (by decide +kernel) (by decide +kernel)), tyX5_ok, nmX5, rfl, rfl, fun q => absurd q (by decide)⟩
theorem kGX6_352 : okG RX6 352 1 4 := ⟨RX0, TX0, 11, rfl, by decide, inngX0, (lw_k1 97 (by decide +kernel) (by decide +kernel))⟩
theorem kGX6_355 : okG RX6 355 1 5 := ⟨RX0, TX0, 11, rfl, by decide, inngX0, (lw_k1 101 (by decide +kernel) (by decide +kernel))⟩
theorem kGX6_360 : okG RX6 360 1 7 := ⟨RX0, TX0, 11, rfl, by decide, inngX0, (lw_k1 108 (by decide +kernel) (by decide +kernel))⟩
theorem kGX6_365 : okG RX6 365 1 9 := ⟨RX0, TX0, 11, rfl, by decide, inngX0, (lw_k1 114 (by decide +kernel) (by decide +kernel))⟩
theorem kGX6_368 : okG RX6 368 1 10 := ⟨RX0, TX0, 11, rfl, by decide, inngX0, (lw_k1 117 (by decide +kernel) (by decide +kernel))⟩
theorem kGX0_9 : okG RX0 9 1 3 := ⟨RX0, TX0, 11, rfl, by decide, inngX0, (lw_k1 91 (by decide +kernel) (by decide +kernel))⟩
theorem kFX0_9 : okF RX0 9 1 3 (.array .int) true := ⟨RX0, TX0, 11, tyX0, rfl, by decide, inngX0, (lw_k1 91 (by decide +kernel) (by decide +kernel)), tyX0_ok, nmX0, rfl, rfl, fun _ => rfl⟩
theorem kGX0_15 : okG RX0 15 1 4 := ⟨RX0, TX0, 11, rfl, by decide, inngX0, (lw_k1 94 (by decide +kernel) (by decide +kernel))⟩
theorem kFX0_15 : okF RX0 15 1 4 (.array .int) true := ⟨RX0, TX0, 11, tyX0, rfl, by decide, inngX0, (lw_k1 94 (by decide +kernel) (by decide +kernel)), tyX0_ok, nmX0, rfl, rfl, fun _ => rfl⟩
theorem kGX0_18 : okG RX0 18 1 5 := ⟨RX0, TX0, 11, rfl, by decide, inngX0, (lw_k1 98 (by decide +kernel) (by decide +kernel))⟩
theorem kFX0_18 : okF RX0 18 1 5 (.array .int) true := ⟨RX0, TX0, 11, tyX0, rfl, by decide, inngX0, (lw_k1 98 (by decide +kernel) (by decide +kernel)), tyX0_ok, nmX0, rfl, rfl, fun _ => rfl⟩
theorem kGX0_21 : okG RX0 21 1 6 := ⟨RX0, TX0, 11, rfl, by decide, inngX0, (lw_k1 102 (by decide +kernel) (by decide +kernel))⟩
theorem kFX0_21 : okF RX0 21 1 6 (.array .int) true := ⟨RX0, TX0, 11, tyX0, rfl, by decide, inngX0, (lw_k1 102 (by decide +kernel) (by decide +kernel)), tyX0_ok, nmX0, rfl, rfl, fun _ => rfl⟩
theorem kGX0_24 : okG RX0 24 1 7 := ⟨RX0, TX0, 11, rfl, by decide, inngX0, (lw_k1 105 (by decide +kernel) (by decide +kernel))⟩
theorem kFX0_24 : okF RX0 24 1 7 (.array .int) true := ⟨RX0, TX0, 11, tyX0, rfl, by decide, inngX0, (lw_k1 105 (by decide +kernel) (by decide +kernel)), tyX0_ok, nmX0, rfl, rfl, fun _ => rfl⟩
theorem kGX0_27 : okG RX0 27 1 8 := ⟨RX0, TX0, 11, rfl, by decide, inngX0, (lw_k1 109 (by decide +kernel) (by decide +kernel))⟩
theorem kFX0_27 : okF RX0 27 1 8 (.array .int) true := ⟨RX0, TX0, 11, tyX0, rfl, by decide, inngX0, (lw_k1 109 (by decide +kernel) (by decide +kernel)), tyX0_ok, nmX0, rfl, rfl, fun _ => rfl⟩
theorem kGX0_30 : okG RX0 30 1 9 := ⟨RX0, TX0, 11, rfl, by decide, inngX0, (lw_k1 112 (by decide +kernel) (by decide +kernel))⟩
theorem kFX0_30 : okF RX0 30 1 9 (.array .int) true := ⟨RX0, TX0, 11, tyX0, rfl, by decide, inngX0, (lw_k1 112 (by decide +kernel) (by decide +kernel)), tyX0_ok, nmX0, rfl, rfl, fun _ => rfl⟩
theorem kGX0_33 : okG RX0 33 1 10 := ⟨RX0, TX0, 11, rfl, by decide, inngX0, (lw_k1 115 (by decide +kernel) (by decide +kernel))⟩
theorem kFX0_33 : okF RX0 33 1 10 (.array .int) true := ⟨RX0, TX0, 11, tyX0, rfl, by decide, inngX0, (lw_k1 115 (by decide +kernel) (by decide +kernel)), tyX0_ok, nmX0, rfl, rfl, fun _ => rfl⟩
theorem kGX0_36 : okG RX0 36 1 0 := ⟨RX0, TX0, 11, rfl, by decide, inngX0, (lw_k1 79 (by decide +kernel) (by decide +kernel))⟩
theorem kFX0_36 : okF RX0 36 1 0 .int false := ⟨RX0, TX0, 11, tyX0, rfl, by decide, inngX0, (lw_k1 79 (by decide +kernel) (by decide +kernel)), tyX0_ok, nmX0, rfl, rfl, fun q => absurd q (by decide)⟩
theorem kGX0_40 : okG RX0 40 1 1 := ⟨RX0, TX0, 11, rfl, by decide, inngX0, (lw_k1 83 (by decide +kernel) (by decide +kernel))⟩
theorem kFX0_40 : okF RX0 40 1 1 .int false := ⟨RX0, TX0, 11, tyX0, rfl, by decide, inngX0, (lw_k1 83 (by decide +kernel) (by decide +kernel)), tyX0_ok, nmX0, rfl, rfl, fun q => absurd q (by decide)⟩
theorem kGX0_43 : okG RX0 43 1 2 := ⟨RX0, TX0, 11, rfl, by decide, inngX0, (lw_k1 87 (by decide +kernel) (by decide +kernel))⟩
theorem kFX0_43 : okF RX0 43 1 2 .int false := ⟨RX0, TX0, 11, tyX0, rfl, by decide, inngX0, (lw_k1 87 (by decide +kernel) (by decide +kernel)), tyX0_ok, nmX0, rfl, rfl, fun q => absurd q (by decide)⟩
theorem kGX1_11 : okG RX1 11 2 2 := ⟨RX1, TX1, 3, rfl, by decide, inngX1, (lw_k2 19 (by decide +kernel) (by decide +kernel))⟩
theorem kFX1_11 : okF RX1 11 2 2 (.array (.object "HosieryPlant$Plant")) true := ⟨RX1, TX1, 3, tyX1, rfl, by decide, inngX1, (lw_k2 19 (by decide +kernel) (by decide +kernel)), tyX1_ok, nmX1, rfl, rfl, fun _ => rfl⟩
theorem kGX1_18 : okG RX1 18 2 0 := ⟨RX1, TX1, 3, rfl, by decide, inngX1, (lw_k2 16 (by decide +kernel) (by decide +kernel))⟩
theorem kFX1_18 : okF RX1 18 2 0 .int false := ⟨RX1, TX1, 3, tyX1, rfl, by decide, inngX1, (lw_k2 16 (by decide +kernel) (by decide +kernel)), tyX1_ok, nmX1, rfl, rfl, fun q => absurd q (by decide)⟩
theorem kGX1_30 : okG RX1 30 2 1 := ⟨RX1, TX1, 3, rfl, by decide, inngX1, (lw_k2 18 (by decide +kernel) (by decide +kernel))⟩
theorem kFX1_30 : okF RX1 30 2 1 .int false := ⟨RX1, TX1, 3, tyX1, rfl, by decide, inngX1, (lw_k2 18 (by decide +kernel) (by decide +kernel)), tyX1_ok, nmX1, rfl, rfl, fun q => absurd q (by decide)⟩
theorem kGX2_9 : okG RX2 9 3 0 := ⟨RX2, TX2, 4, rfl, by decide, inngX2, (lw_k2 33 (by decide +kernel) (by decide +kernel))⟩
theorem kFX2_9 : okF RX2 9 3 0 (.array .int) true := ⟨RX2, TX2, 4, tyX2, rfl, by decide, inngX2, (lw_k2 33 (by decide +kernel) (by decide +kernel)), tyX2_ok, nmX2, rfl, rfl, fun _ => rfl⟩
theorem kGX2_15 : okG RX2 15 3 1 := ⟨RX2, TX2, 4, rfl, by decide, inngX2, (lw_k2 34 (by decide +kernel) (by decide +kernel))⟩
theorem kFX2_15 : okF RX2 15 3 1 (.array .int) true := ⟨RX2, TX2, 4, tyX2, rfl, by decide, inngX2, (lw_k2 34 (by decide +kernel) (by decide +kernel)), tyX2_ok, nmX2, rfl, rfl, fun _ => rfl⟩
theorem kGX2_18 : okG RX2 18 3 2 := ⟨RX2, TX2, 4, rfl, by decide, inngX2, (lw_k2 35 (by decide +kernel) (by decide +kernel))⟩
theorem kFX2_18 : okF RX2 18 3 2 (.array .long) true := ⟨RX2, TX2, 4, tyX2, rfl, by decide, inngX2, (lw_k2 35 (by decide +kernel) (by decide +kernel)), tyX2_ok, nmX2, rfl, rfl, fun _ => rfl⟩
theorem kGX2_51 : okG RX2 51 3 3 := ⟨RX2, TX2, 4, rfl, by decide, inngX2, (lw_k2 36 (by decide +kernel) (by decide +kernel))⟩
theorem kFX2_51 : okF RX2 51 3 3 .long false := ⟨RX2, TX2, 4, tyX2, rfl, by decide, inngX2, (lw_k2 36 (by decide +kernel) (by decide +kernel)), tyX2_ok, nmX2, rfl, rfl, fun q => absurd q (by decide)⟩
theorem kGX2_55 : okG RX2 55 6 6 := ⟨RX5, TX5, 13, rfl, by decide, inngX5, (lw_k1 163 (by decide +kernel) (by decide +kernel))⟩
theorem kFX2_55 : okF RX2 55 6 6 .int false := ⟨RX5, TX5, 13, tyX5, rfl, by decide, inngX5, (lw_k1 163 (by decide +kernel) (by decide +kernel)), tyX5_ok, nmX5, rfl, rfl, fun q => absurd q (by decide)⟩
theorem kGX3_9 : okG RX3 9 4 3 := ⟨RX3, TX3, 4, rfl, by decide, inngX3, (lw_k2 58 (by decide +kernel) (by decide +kernel))⟩
theorem kFX3_9 : okF RX3 9 4 3 (.array .int) true := ⟨RX3, TX3, 4, tyX3, rfl, by decide, inngX3, (lw_k2 58 (by decide +kernel) (by decide +kernel)), tyX3_ok, nmX3, rfl, rfl, fun _ => rfl⟩
theorem kGX3_15 : okG RX3 15 4 1 := ⟨RX3, TX3, 4, rfl, by decide, inngX3, (lw_k2 54 (by decide +kernel) (by decide +kernel))⟩
theorem kFX3_15 : okF RX3 15 4 1 .int false := ⟨RX3, TX3, 4, tyX3, rfl, by decide, inngX3, (lw_k2 54 (by decide +kernel) (by decide +kernel)), tyX3_ok, nmX3, rfl, rfl, fun q => absurd q (by decide)⟩
theorem kGX3_19 : okG RX3 19 4 2 := ⟨RX3, TX3, 4, rfl, by decide, inngX3, (lw_k2 56 (by decide +kernel) (by decide +kernel))⟩
theorem kFX3_19 : okF RX3 19 4 2 .int false := ⟨RX3, TX3, 4, tyX3, rfl, by decide, inngX3, (lw_k2 56 (by decide +kernel) (by decide +kernel)), tyX3_ok, nmX3, rfl, rfl, fun q => absurd q (by decide)⟩
theorem kGX4_9 : okG RX4 9 5 3 := ⟨RX4, TX4, 12, rfl, by decide, inngX4, (lw_k1 211 (by decide +kernel) (by decide +kernel))⟩
theorem kFX4_9 : okF RX4 9 5 3 (.array .int) true := ⟨RX4, TX4, 12, tyX4, rfl, by decide, inngX4, (lw_k1 211 (by decide +kernel) (by decide +kernel)), tyX4_ok, nmX4, rfl, rfl, fun _ => rfl⟩
theorem kGX4_18 : okG RX4 18 5 0 := ⟨RX4, TX4, 12, rfl, by decide, inngX4, (lw_k1 205 (by decide +kernel) (by decide +kernel))⟩
theorem kFX4_18 : okF RX4 18 5 0 (.object "HosieryPlant$Plant") true := ⟨RX4, TX4, 12, tyX4, rfl, by decide, inngX4, (lw_k1 205 (by decide +kernel) (by decide +kernel)), tyX4_ok, nmX4, rfl, rfl, fun _ => rfl⟩
theorem kGX4_22 : okG RX4 22 5 2 := ⟨RX4, TX4, 12, rfl, by decide, inngX4, (lw_k1 209 (by decide +kernel) (by decide +kernel))⟩
theorem kFX4_22 : okF RX4 22 5 2 .int false := ⟨RX4, TX4, 12, tyX4, rfl, by decide, inngX4, (lw_k1 209 (by decide +kernel) (by decide +kernel)), tyX4_ok, nmX4, rfl, rfl, fun q => absurd q (by decide)⟩
theorem kGX4_29 : okG RX4 29 5 1 := ⟨RX4, TX4, 12, rfl, by decide, inngX4, (lw_k1 207 (by decide +kernel) (by decide +kernel))⟩
theorem kFX4_29 : okF RX4 29 5 1 .int false := ⟨RX4, TX4, 12, tyX4, rfl, by decide, inngX4, (lw_k1 207 (by decide +kernel) (by decide +kernel)), tyX4_ok, nmX4, rfl, rfl, fun q => absurd q (by decide)⟩
theorem kGX4_32 : okG RX4 32 5 9 := ⟨RX4, TX4, 12, rfl, by decide, inngX4, (lw_k1 217 (by decide +kernel) (by decide +kernel))⟩
theorem kFX4_32 : okF RX4 32 5 9 .boolean false := ⟨RX4, TX4, 12, tyX4, rfl, by decide, inngX4, (lw_k1 217 (by decide +kernel) (by decide +kernel)), tyX4_ok, nmX4, rfl, rfl, fun q => absurd q (by decide)⟩
theorem kGX4_36 : okG RX4 36 5 10 := ⟨RX4, TX4, 12, rfl, by decide, inngX4, (lw_k1 218 (by decide +kernel) (by decide +kernel))⟩
theorem kFX4_36 : okF RX4 36 5 10 .boolean false := ⟨RX4, TX4, 12, tyX4, rfl, by decide, inngX4, (lw_k1 218 (by decide +kernel) (by decide +kernel)), tyX4_ok, nmX4, rfl, rfl, fun q => absurd q (by decide)⟩
theorem kGX4_39 : okG RX4 39 5 11 := ⟨RX4, TX4, 12, rfl, by decide, inngX4, (lw_k1 219 (by decide +kernel) (by decide +kernel))⟩
theorem kFX4_39 : okF RX4 39 5 11 .boolean false := ⟨RX4, TX4, 12, tyX4, rfl, by decide, inngX4, (lw_k1 219 (by decide +kernel) (by decide +kernel)), tyX4_ok, nmX4, rfl, rfl, fun q => absurd q (by decide)⟩
theorem kGX4_42 : okG RX4 42 5 4 := ⟨RX4, TX4, 12, rfl, by decide, inngX4, (lw_k1 212 (by decide +kernel) (by decide +kernel))⟩
theorem kFX4_42 : okF RX4 42 5 4 .int false := ⟨RX4, TX4, 12, tyX4, rfl, by decide, inngX4, (lw_k1 212 (by decide +kernel) (by decide +kernel)), tyX4_ok, nmX4, rfl, rfl, fun q => absurd q (by decide)⟩
theorem kGX4_45 : okG RX4 45 5 7 := ⟨RX4, TX4, 12, rfl, by decide, inngX4, (lw_k1 215 (by decide +kernel) (by decide +kernel))⟩
theorem kFX4_45 : okF RX4 45 5 7 .int false := ⟨RX4, TX4, 12, tyX4, rfl, by decide, inngX4, (lw_k1 215 (by decide +kernel) (by decide +kernel)), tyX4_ok, nmX4, rfl, rfl, fun q => absurd q (by decide)⟩
theorem kGX4_51 : okG RX4 51 5 5 := ⟨RX4, TX4, 12, rfl, by decide, inngX4, (lw_k1 213 (by decide +kernel) (by decide +kernel))⟩
theorem kFX4_51 : okF RX4 51 5 5 .int false := ⟨RX4, TX4, 12, tyX4, rfl, by decide, inngX4, (lw_k1 213 (by decide +kernel) (by decide +kernel)), tyX4_ok, nmX4, rfl, rfl, fun q => absurd q (by decide)⟩
theorem kGX4_75 : okG RX4 75 6 0 := ⟨RX5, TX5, 13, rfl, by decide, inngX5, (lw_k1 146 (by decide +kernel) (by decide +kernel))⟩
theorem kGX4_110 : okG RX4 110 6 1 := ⟨RX5, TX5, 13, rfl, by decide, inngX5, (lw_k1 149 (by decide +kernel) (by decide +kernel))⟩
theorem kFX4_110 : okF RX4 110 6 1 .int false := ⟨RX5, TX5, 13, tyX5, rfl, by decide, inngX5, (lw_k1 149 (by decide +kernel) (by decide +kernel)), tyX5_ok, nmX5, rfl, rfl, fun q => absurd q (by decide)⟩
theorem kGX4_113 : okG RX4 113 6 2 := ⟨RX5, TX5, 13, rfl, by decide, inngX5, (lw_k1 152 (by decide +kernel) (by decide +kernel))⟩
theorem kFX4_113 : okF RX4 113 6 2 .int false := ⟨RX5, TX5, 13, tyX5, rfl, by decide, inngX5, (lw_k1 152 (by decide +kernel) (by decide +kernel)), tyX5_ok, nmX5, rfl, rfl, fun q => absurd q (by decide)⟩
theorem kGX4_119 : okG RX4 119 6 3 := ⟨RX5, TX5, 13, rfl, by decide, inngX5, (lw_k1 155 (by decide +kernel) (by decide +kernel))⟩
theorem kFX4_119 : okF RX4 119 6 3 .int false := ⟨RX5, TX5, 13, tyX5, rfl, by decide, inngX5, (lw_k1 155 (by decide +kernel) (by decide +kernel)), tyX5_ok, nmX5, rfl, rfl, fun q => absurd q (by decide)⟩
theorem kGX4_122 : okG RX4 122 6 4 := ⟨RX5, TX5, 13, rfl, by decide, inngX5, (lw_k1 158 (by decide +kernel) (by decide +kernel))⟩
theorem kFX4_122 : okF RX4 122 6 4 .int false := ⟨RX5, TX5, 13, tyX5, rfl, by decide, inngX5, (lw_k1 158 (by decide +kernel) (by decide +kernel)), tyX5_ok, nmX5, rfl, rfl, fun q => absurd q (by decide)⟩
theorem kGX4_124 : okG RX4 124 1 0 := ⟨RX0, TX0, 11, rfl, by decide, inngX0, (lw_k1 81 (by decide +kernel) (by decide +kernel))⟩
theorem kFX4_124 : okF RX4 124 1 0 .int false := ⟨RX0, TX0, 11, tyX0, rfl, by decide, inngX0, (lw_k1 81 (by decide +kernel) (by decide +kernel)), tyX0_ok, nmX0, rfl, rfl, fun q => absurd q (by decide)⟩
theorem kGX4_133 : okG RX4 133 1 3 := ⟨RX0, TX0, 11, rfl, by decide, inngX0, (lw_k1 92 (by decide +kernel) (by decide +kernel))⟩
theorem kGX4_144 : okG RX4 144 1 4 := ⟨RX0, TX0, 11, rfl, by decide, inngX0, (lw_k1 95 (by decide +kernel) (by decide +kernel))⟩
theorem kGX4_147 : okG RX4 147 1 5 := ⟨RX0, TX0, 11, rfl, by decide, inngX0, (lw_k1 99 (by decide +kernel) (by decide +kernel))⟩
theorem kGX4_150 : okG RX4 150 1 1 := ⟨RX0, TX0, 11, rfl, by decide, inngX0, (lw_k1 85 (by decide +kernel) (by decide +kernel))⟩
theorem kFX4_150 : okF RX4 150 1 1 .int false := ⟨RX0, TX0, 11, tyX0, rfl, by decide, inngX0, (lw_k1 85 (by decide +kernel) (by decide +kernel)), tyX0_ok, nmX0, rfl, rfl, fun q => absurd q (by decide)⟩
theorem kGX4_153 : okG RX4 153 1 6 := ⟨RX0, TX0, 11, rfl, by decide, inngX0, (lw_k1 103 (by decide +kernel) (by decide +kernel))⟩
theorem kGX4_156 : okG RX4 156 1 7 := ⟨RX0, TX0, 11, rfl, by decide, inngX0, (lw_k1 106 (by decide +kernel) (by decide +kernel))⟩
theorem kGX4_159 : okG RX4 159 1 2 := ⟨RX0, TX0, 11, rfl, by decide, inngX0, (lw_k1 90 (by decide +kernel) (by decide +kernel))⟩
theorem kFX4_159 : okF RX4 159 1 2 .int false := ⟨RX0, TX0, 11, tyX0, rfl, by decide, inngX0, (lw_k1 90 (by decide +kernel) (by decide +kernel)), tyX0_ok, nmX0, rfl, rfl, fun q => absurd q (by decide)⟩
theorem kGX4_162 : okG RX4 162 1 8 := ⟨RX0, TX0, 11, rfl, by decide, inngX0, (lw_k1 111 (by decide +kernel) (by decide +kernel))⟩
theorem kGX4_165 : okG RX4 165 1 9 := ⟨RX0, TX0, 11, rfl, by decide, inngX0, (lw_k1 113 (by decide +kernel) (by decide +kernel))⟩
theorem kGX4_168 : okG RX4 168 1 10 := ⟨RX0, TX0, 11, rfl, by decide, inngX0, (lw_k1 116 (by decide +kernel) (by decide +kernel))⟩
theorem kGX4_171 : okG RX4 171 6 6 := ⟨RX5, TX5, 13, rfl, by decide, inngX5, (lw_k1 165 (by decide +kernel) (by decide +kernel))⟩
theorem kFX4_171 : okF RX4 171 6 6 .int false := ⟨RX5, TX5, 13, tyX5, rfl, by decide, inngX5, (lw_k1 165 (by decide +kernel) (by decide +kernel)), tyX5_ok, nmX5, rfl, rfl, fun q => absurd q (by decide)⟩
theorem kGX4_190 : okG RX4 190 5 8 := ⟨RX4, TX4, 12, rfl, by decide, inngX4, (lw_k1 216 (by decide +kernel) (by decide +kernel))⟩
theorem kFX4_190 : okF RX4 190 5 8 .int false := ⟨RX4, TX4, 12, tyX4, rfl, by decide, inngX4, (lw_k1 216 (by decide +kernel) (by decide +kernel)), tyX4_ok, nmX4, rfl, rfl, fun q => absurd q (by decide)⟩
theorem kGX4_197 : okG RX4 197 5 6 := ⟨RX4, TX4, 12, rfl, by decide, inngX4, (lw_k1 214 (by decide +kernel) (by decide +kernel))⟩
theorem kFX4_197 : okF RX4 197 5 6 .int false := ⟨RX4, TX4, 12, tyX4, rfl, by decide, inngX4, (lw_k1 214 (by decide +kernel) (by decide +kernel)), tyX4_ok, nmX4, rfl, rfl, fun q => absurd q (by decide)⟩
theorem kGX5_12 : okG RX5 12 6 0 := ⟨RX5, TX5, 13, rfl, by decide, inngX5, (lw_k1 145 (by decide +kernel) (by decide +kernel))⟩
theorem kFX5_12 : okF RX5 12 6 0 (.object "HosieryPlant$Catalogue") true := ⟨RX5, TX5, 13, tyX5, rfl, by decide, inngX5, (lw_k1 145 (by decide +kernel) (by decide +kernel)), tyX5_ok, nmX5, rfl, rfl, fun _ => rfl⟩
theorem kGX5_18 : okG RX5 18 6 7 := ⟨RX5, TX5, 13, rfl, by decide, inngX5, (lw_k1 166 (by decide +kernel) (by decide +kernel))⟩
theorem kFX5_18 : okF RX5 18 6 7 (.array .int) true := ⟨RX5, TX5, 13, tyX5, rfl, by decide, inngX5, (lw_k1 166 (by decide +kernel) (by decide +kernel)), tyX5_ok, nmX5, rfl, rfl, fun _ => rfl⟩
theorem kGX5_22 : okG RX5 22 6 8 := ⟨RX5, TX5, 13, rfl, by decide, inngX5, (lw_k1 168 (by decide +kernel) (by decide +kernel))⟩
theorem kFX5_22 : okF RX5 22 6 8 (.array .int) true := ⟨RX5, TX5, 13, tyX5, rfl, by decide, inngX5, (lw_k1 168 (by decide +kernel) (by decide +kernel)), tyX5_ok, nmX5, rfl, rfl, fun _ => rfl⟩
theorem kGX5_25 : okG RX5 25 6 9 := ⟨RX5, TX5, 13, rfl, by decide, inngX5, (lw_k1 170 (by decide +kernel) (by decide +kernel))⟩
theorem kFX5_25 : okF RX5 25 6 9 (.array .int) true := ⟨RX5, TX5, 13, tyX5, rfl, by decide, inngX5, (lw_k1 170 (by decide +kernel) (by decide +kernel)), tyX5_ok, nmX5, rfl, rfl, fun _ => rfl⟩
theorem kGX5_28 : okG RX5 28 6 10 := ⟨RX5, TX5, 13, rfl, by decide, inngX5, (lw_k1 172 (by decide +kernel) (by decide +kernel))⟩
theorem kFX5_28 : okF RX5 28 6 10 (.array .int) true := ⟨RX5, TX5, 13, tyX5, rfl, by decide, inngX5, (lw_k1 172 (by decide +kernel) (by decide +kernel)), tyX5_ok, nmX5, rfl, rfl, fun _ => rfl⟩
theorem kGX5_31 : okG RX5 31 6 11 := ⟨RX5, TX5, 13, rfl, by decide, inngX5, (lw_k1 174 (by decide +kernel) (by decide +kernel))⟩
theorem kFX5_31 : okF RX5 31 6 11 (.array .int) true := ⟨RX5, TX5, 13, tyX5, rfl, by decide, inngX5, (lw_k1 174 (by decide +kernel) (by decide +kernel)), tyX5_ok, nmX5, rfl, rfl, fun _ => rfl⟩
theorem kGX5_34 : okG RX5 34 6 12 := ⟨RX5, TX5, 13, rfl, by decide, inngX5, (lw_k1 176 (by decide +kernel) (by decide +kernel))⟩
theorem kFX5_34 : okF RX5 34 6 12 (.array .int) true := ⟨RX5, TX5, 13, tyX5, rfl, by decide, inngX5, (lw_k1 176 (by decide +kernel) (by decide +kernel)), tyX5_ok, nmX5, rfl, rfl, fun _ => rfl⟩
theorem kGX5_40 : okG RX5 40 1 0 := ⟨RX0, TX0, 11, rfl, by decide, inngX0, (lw_k1 80 (by decide +kernel) (by decide +kernel))⟩
theorem kFX5_40 : okF RX5 40 1 0 .int false := ⟨RX0, TX0, 11, tyX0, rfl, by decide, inngX0, (lw_k1 80 (by decide +kernel) (by decide +kernel)), tyX0_ok, nmX0, rfl, rfl, fun q => absurd q (by decide)⟩
theorem kGX5_43 : okG RX5 43 1 1 := ⟨RX0, TX0, 11, rfl, by decide, inngX0, (lw_k1 84 (by decide +kernel) (by decide +kernel))⟩
theorem kFX5_43 : okF RX5 43 1 1 .int false := ⟨RX0, TX0, 11, tyX0, rfl, by decide, inngX0, (lw_k1 84 (by decide +kernel) (by decide +kernel)), tyX0_ok, nmX0, rfl, rfl, fun q => absurd q (by decide)⟩
theorem kGX5_46 : okG RX5 46 1 2 := ⟨RX0, TX0, 11, rfl, by decide, inngX0, (lw_k1 88 (by decide +kernel) (by decide +kernel))⟩
theorem kFX5_46 : okF RX5 46 1 2 .int false := ⟨RX0, TX0, 11, tyX0, rfl, by decide, inngX0, (lw_k1 88 (by decide +kernel) (by decide +kernel)), tyX0_ok, nmX0, rfl, rfl, fun q => absurd q (by decide)⟩
theorem kGX5_49 : okG RX5 49 6 1 := ⟨RX5, TX5, 13, rfl, by decide, inngX5, (lw_k1 148 (by decide +kernel) (by decide +kernel))⟩
theorem kFX5_49 : okF RX5 49 6 1 .int false := ⟨RX5, TX5, 13, tyX5, rfl, by decide, inngX5, (lw_k1 148 (by decide +kernel) (by decide +kernel)), tyX5_ok, nmX5, rfl, rfl, fun q => absurd q (by decide)⟩
theorem kGX5_52 : okG RX5 52 6 2 := ⟨RX5, TX5, 13, rfl, by decide, inngX5, (lw_k1 151 (by decide +kernel) (by decide +kernel))⟩
theorem kFX5_52 : okF RX5 52 6 2 .int false := ⟨RX5, TX5, 13, tyX5, rfl, by decide, inngX5, (lw_k1 151 (by decide +kernel) (by decide +kernel)), tyX5_ok, nmX5, rfl, rfl, fun q => absurd q (by decide)⟩
theorem kGX5_55 : okG RX5 55 6 3 := ⟨RX5, TX5, 13, rfl, by decide, inngX5, (lw_k1 154 (by decide +kernel) (by decide +kernel))⟩
theorem kFX5_55 : okF RX5 55 6 3 .int false := ⟨RX5, TX5, 13, tyX5, rfl, by decide, inngX5, (lw_k1 154 (by decide +kernel) (by decide +kernel)), tyX5_ok, nmX5, rfl, rfl, fun q => absurd q (by decide)⟩
theorem kGX5_58 : okG RX5 58 6 4 := ⟨RX5, TX5, 13, rfl, by decide, inngX5, (lw_k1 157 (by decide +kernel) (by decide +kernel))⟩
theorem kFX5_58 : okF RX5 58 6 4 .int false := ⟨RX5, TX5, 13, tyX5, rfl, by decide, inngX5, (lw_k1 157 (by decide +kernel) (by decide +kernel)), tyX5_ok, nmX5, rfl, rfl, fun q => absurd q (by decide)⟩
theorem kGX5_61 : okG RX5 61 6 5 := ⟨RX5, TX5, 13, rfl, by decide, inngX5, (lw_k1 160 (by decide +kernel) (by decide +kernel))⟩
theorem kFX5_61 : okF RX5 61 6 5 .int false := ⟨RX5, TX5, 13, tyX5, rfl, by decide, inngX5, (lw_k1 160 (by decide +kernel) (by decide +kernel)), tyX5_ok, nmX5, rfl, rfl, fun q => absurd q (by decide)⟩
theorem kGX5_64 : okG RX5 64 6 6 := ⟨RX5, TX5, 13, rfl, by decide, inngX5, (lw_k1 162 (by decide +kernel) (by decide +kernel))⟩
theorem kFX5_64 : okF RX5 64 6 6 .int false := ⟨RX5, TX5, 13, tyX5, rfl, by decide, inngX5, (lw_k1 162 (by decide +kernel) (by decide +kernel)), tyX5_ok, nmX5, rfl, rfl, fun q => absurd q (by decide)⟩
theorem kGX5_83 : okG RX5 83 1 4 := ⟨RX0, TX0, 11, rfl, by decide, inngX0, (lw_k1 96 (by decide +kernel) (by decide +kernel))⟩
theorem kGX5_96 : okG RX5 96 1 7 := ⟨RX0, TX0, 11, rfl, by decide, inngX0, (lw_k1 107 (by decide +kernel) (by decide +kernel))⟩
theorem kGX5_109 : okG RX5 109 1 5 := ⟨RX0, TX0, 11, rfl, by decide, inngX0, (lw_k1 100 (by decide +kernel) (by decide +kernel))⟩
theorem kGX7_13 : okG RX7 13 8 1 := ⟨RX7, TX7, 23, rfl, by decide, inngX7, (lw_k6 9 (by decide +kernel) (by decide +kernel))⟩
theorem kFX7_13 : okF RX7 13 8 1 (.array .int) true := ⟨RX7, TX7, 23, tyX7, rfl, by decide, inngX7, (lw_k6 9 (by decide +kernel) (by decide +kernel)), tyX7_ok, nmX7, rfl, rfl, fun _ => rfl⟩
theorem kGX7_17 : okG RX7 17 8 2 := ⟨RX7, TX7, 23, rfl, by decide, inngX7, (lw_k6 10 (by decide +kernel) (by decide +kernel))⟩
theorem kFX7_17 : okF RX7 17 8 2 (.array .int) true := ⟨RX7, TX7, 23, tyX7, rfl, by decide, inngX7, (lw_k6 10 (by decide +kernel) (by decide +kernel)), tyX7_ok, nmX7, rfl, rfl, fun _ => rfl⟩
theorem kGX7_20 : okG RX7 20 8 3 := ⟨RX7, TX7, 23, rfl, by decide, inngX7, (lw_k6 11 (by decide +kernel) (by decide +kernel))⟩
theorem kFX7_20 : okF RX7 20 8 3 (.array .int) true := ⟨RX7, TX7, 23, tyX7, rfl, by decide, inngX7, (lw_k6 11 (by decide +kernel) (by decide +kernel)), tyX7_ok, nmX7, rfl, rfl, fun _ => rfl⟩
theorem kGX7_23 : okG RX7 23 8 4 := ⟨RX7, TX7, 23, rfl, by decide, inngX7, (lw_k6 12 (by decide +kernel) (by decide +kernel))⟩
theorem kFX7_23 : okF RX7 23 8 4 (.array .int) false := ⟨RX7, TX7, 23, tyX7, rfl, by decide, inngX7, (lw_k6 12 (by decide +kernel) (by decide +kernel)), tyX7_ok, nmX7, rfl, rfl, fun q => absurd q (by decide)⟩
theorem kGX7_26 : okG RX7 26 8 5 := ⟨RX7, TX7, 23, rfl, by decide, inngX7, (lw_k6 13 (by decide +kernel) (by decide +kernel))⟩
theorem kFX7_26 : okF RX7 26 8 5 (.array .int) true := ⟨RX7, TX7, 23, tyX7, rfl, by decide, inngX7, (lw_k6 13 (by decide +kernel) (by decide +kernel)), tyX7_ok, nmX7, rfl, rfl, fun _ => rfl⟩
theorem kGX7_29 : okG RX7 29 8 6 := ⟨RX7, TX7, 23, rfl, by decide, inngX7, (lw_k6 14 (by decide +kernel) (by decide +kernel))⟩
theorem kFX7_29 : okF RX7 29 8 6 (.array .int) true := ⟨RX7, TX7, 23, tyX7, rfl, by decide, inngX7, (lw_k6 14 (by decide +kernel) (by decide +kernel)), tyX7_ok, nmX7, rfl, rfl, fun _ => rfl⟩
theorem kGX7_32 : okG RX7 32 8 7 := ⟨RX7, TX7, 23, rfl, by decide, inngX7, (lw_k6 15 (by decide +kernel) (by decide +kernel))⟩
theorem kFX7_32 : okF RX7 32 8 7 (.array .int) true := ⟨RX7, TX7, 23, tyX7, rfl, by decide, inngX7, (lw_k6 15 (by decide +kernel) (by decide +kernel)), tyX7_ok, nmX7, rfl, rfl, fun _ => rfl⟩
theorem kGX7_35 : okG RX7 35 8 9 := ⟨RX7, TX7, 23, rfl, by decide, inngX7, (lw_k6 17 (by decide +kernel) (by decide +kernel))⟩
theorem kFX7_35 : okF RX7 35 8 9 (.array .int) true := ⟨RX7, TX7, 23, tyX7, rfl, by decide, inngX7, (lw_k6 17 (by decide +kernel) (by decide +kernel)), tyX7_ok, nmX7, rfl, rfl, fun _ => rfl⟩
theorem kGX7_38 : okG RX7 38 8 11 := ⟨RX7, TX7, 23, rfl, by decide, inngX7, (lw_k6 19 (by decide +kernel) (by decide +kernel))⟩
theorem kFX7_38 : okF RX7 38 8 11 (.array .byte) true := ⟨RX7, TX7, 23, tyX7, rfl, by decide, inngX7, (lw_k6 19 (by decide +kernel) (by decide +kernel)), tyX7_ok, nmX7, rfl, rfl, fun _ => rfl⟩
theorem kGX7_42 : okG RX7 42 8 19 := ⟨RX7, TX7, 23, rfl, by decide, inngX7, (lw_k6 27 (by decide +kernel) (by decide +kernel))⟩
theorem kFX7_42 : okF RX7 42 8 19 .int false := ⟨RX7, TX7, 23, tyX7, rfl, by decide, inngX7, (lw_k6 27 (by decide +kernel) (by decide +kernel)), tyX7_ok, nmX7, rfl, rfl, fun q => absurd q (by decide)⟩
theorem kGX7_45 : okG RX7 45 8 21 := ⟨RX7, TX7, 23, rfl, by decide, inngX7, (lw_k6 29 (by decide +kernel) (by decide +kernel))⟩
theorem kFX7_45 : okF RX7 45 8 21 (.array .byte) true := ⟨RX7, TX7, 23, tyX7, rfl, by decide, inngX7, (lw_k6 29 (by decide +kernel) (by decide +kernel)), tyX7_ok, nmX7, rfl, rfl, fun _ => rfl⟩
theorem kGX7_147 : okG RX7 147 8 8 := ⟨RX7, TX7, 23, rfl, by decide, inngX7, (lw_k6 16 (by decide +kernel) (by decide +kernel))⟩
theorem kFX7_147 : okF RX7 147 8 8 .int false := ⟨RX7, TX7, 23, tyX7, rfl, by decide, inngX7, (lw_k6 16 (by decide +kernel) (by decide +kernel)), tyX7_ok, nmX7, rfl, rfl, fun q => absurd q (by decide)⟩
theorem kGX7_206 : okG RX7 206 8 10 := ⟨RX7, TX7, 23, rfl, by decide, inngX7, (lw_k6 18 (by decide +kernel) (by decide +kernel))⟩
theorem kFX7_206 : okF RX7 206 8 10 .int false := ⟨RX7, TX7, 23, tyX7, rfl, by decide, inngX7, (lw_k6 18 (by decide +kernel) (by decide +kernel)), tyX7_ok, nmX7, rfl, rfl, fun q => absurd q (by decide)⟩
theorem kGX7_219 : okG RX7 219 8 12 := ⟨RX7, TX7, 23, rfl, by decide, inngX7, (lw_k6 20 (by decide +kernel) (by decide +kernel))⟩
theorem kFX7_219 : okF RX7 219 8 12 .int false := ⟨RX7, TX7, 23, tyX7, rfl, by decide, inngX7, (lw_k6 20 (by decide +kernel) (by decide +kernel)), tyX7_ok, nmX7, rfl, rfl, fun q => absurd q (by decide)⟩
theorem kGX7_226 : okG RX7 226 8 18 := ⟨RX7, TX7, 23, rfl, by decide, inngX7, (lw_k6 26 (by decide +kernel) (by decide +kernel))⟩
theorem kFX7_226 : okF RX7 226 8 18 .int false := ⟨RX7, TX7, 23, tyX7, rfl, by decide, inngX7, (lw_k6 26 (by decide +kernel) (by decide +kernel)), tyX7_ok, nmX7, rfl, rfl, fun q => absurd q (by decide)⟩
theorem kGX7_233 : okG RX7 233 8 15 := ⟨RX7, TX7, 23, rfl, by decide, inngX7, (lw_k6 23 (by decide +kernel) (by decide +kernel))⟩
theorem kFX7_233 : okF RX7 233 8 15 .int false := ⟨RX7, TX7, 23, tyX7, rfl, by decide, inngX7, (lw_k6 23 (by decide +kernel) (by decide +kernel)), tyX7_ok, nmX7, rfl, rfl, fun q => absurd q (by decide)⟩
theorem kGX7_236 : okG RX7 236 8 13 := ⟨RX7, TX7, 23, rfl, by decide, inngX7, (lw_k6 21 (by decide +kernel) (by decide +kernel))⟩
theorem kFX7_236 : okF RX7 236 8 13 .int false := ⟨RX7, TX7, 23, tyX7, rfl, by decide, inngX7, (lw_k6 21 (by decide +kernel) (by decide +kernel)), tyX7_ok, nmX7, rfl, rfl, fun q => absurd q (by decide)⟩
theorem kGX7_239 : okG RX7 239 8 14 := ⟨RX7, TX7, 23, rfl, by decide, inngX7, (lw_k6 22 (by decide +kernel) (by decide +kernel))⟩
theorem kFX7_239 : okF RX7 239 8 14 .int false := ⟨RX7, TX7, 23, tyX7, rfl, by decide, inngX7, (lw_k6 22 (by decide +kernel) (by decide +kernel)), tyX7_ok, nmX7, rfl, rfl, fun q => absurd q (by decide)⟩
theorem kGX7_245 : okG RX7 245 8 16 := ⟨RX7, TX7, 23, rfl, by decide, inngX7, (lw_k6 24 (by decide +kernel) (by decide +kernel))⟩
theorem kFX7_245 : okF RX7 245 8 16 .int false := ⟨RX7, TX7, 23, tyX7, rfl, by decide, inngX7, (lw_k6 24 (by decide +kernel) (by decide +kernel)), tyX7_ok, nmX7, rfl, rfl, fun q => absurd q (by decide)⟩
theorem kGX7_256 : okG RX7 256 8 17 := ⟨RX7, TX7, 23, rfl, by decide, inngX7, (lw_k6 25 (by decide +kernel) (by decide +kernel))⟩
theorem kFX7_256 : okF RX7 256 8 17 .int false := ⟨RX7, TX7, 23, tyX7, rfl, by decide, inngX7, (lw_k6 25 (by decide +kernel) (by decide +kernel)), tyX7_ok, nmX7, rfl, rfl, fun q => absurd q (by decide)⟩
theorem kGX7_319 : okG RX7 319 8 20 := ⟨RX7, TX7, 23, rfl, by decide, inngX7, (lw_k6 28 (by decide +kernel) (by decide +kernel))⟩
theorem kFX7_319 : okF RX7 319 8 20 .int false := ⟨RX7, TX7, 23, tyX7, rfl, by decide, inngX7, (lw_k6 28 (by decide +kernel) (by decide +kernel)), tyX7_ok, nmX7, rfl, rfl, fun q => absurd q (by decide)⟩
theorem kGX7_365 : okG RX7 365 8 22 := ⟨RX7, TX7, 23, rfl, by decide, inngX7, (lw_k6 30 (by decide +kernel) (by decide +kernel))⟩
theorem kFX7_365 : okF RX7 365 8 22 .int false := ⟨RX7, TX7, 23, tyX7, rfl, by decide, inngX7, (lw_k6 30 (by decide +kernel) (by decide +kernel)), tyX7_ok, nmX7, rfl, rfl, fun q => absurd q (by decide)⟩
theorem kGJ5_15 : okG RJ5 15 0 0 := ⟨RJ4, TJ4, 4, rfl, by decide, inngJ4, (lw_k1 46 (by decide +kernel) (by decide +kernel))⟩
theorem kFJ5_15 : okF RJ5 15 0 0 (.array .byte) false := ⟨RJ4, TJ4, 4, tyJ4, rfl, by decide, inngJ4, (lw_k1 46 (by decide +kernel) (by decide +kernel)), tyJ4_ok, nmJ4, rfl, rfl, fun q => absurd q (by decide)⟩
-- other field: java/lang/AbstractStringBuilder 18 java/lang/String COMPACT_STRINGS
theorem kGJ5_22 : okG RJ5 22 0 1 := ⟨RJ4, TJ4, 4, rfl, by decide, inngJ4, (lw_k1 47 (by decide +kernel) (by decide +kernel))⟩
theorem kFJ5_22 : okF RJ5 22 0 1 .byte false := ⟨RJ4, TJ4, 4, tyJ4, rfl, by decide, inngJ4, (lw_k1 47 (by decide +kernel) (by decide +kernel)), tyJ4_ok, nmJ4, rfl, rfl, fun q => absurd q (by decide)⟩
theorem kGJ5_73 : okG RJ5 73 0 2 := ⟨RJ4, TJ4, 4, rfl, by decide, inngJ4, (lw_k1 48 (by decide +kernel) (by decide +kernel))⟩
theorem kFJ5_73 : okF RJ5 73 0 2 .boolean false := ⟨RJ4, TJ4, 4, tyJ4, rfl, by decide, inngJ4, (lw_k1 48 (by decide +kernel) (by decide +kernel)), tyJ4_ok, nmJ4, rfl, rfl, fun q => absurd q (by decide)⟩
theorem kGJ5_79 : okG RJ5 79 0 3 := ⟨RJ4, TJ4, 4, rfl, by decide, inngJ4, (lw_k1 49 (by decide +kernel) (by decide +kernel))⟩
theorem kFJ5_79 : okF RJ5 79 0 3 .int false := ⟨RJ4, TJ4, 4, tyJ4, rfl, by decide, inngJ4, (lw_k1 49 (by decide +kernel) (by decide +kernel)), tyJ4_ok, nmJ4, rfl, rfl, fun q => absurd q (by decide)⟩
-- other field: java/lang/Integer 83 java/lang/Integer DigitOnes
-- other field: java/lang/Integer 87 java/lang/Integer DigitTens
-- other field: java/lang/String 9 java/lang/String value
-- other field: java/lang/String 15 java/lang/String coder
-- other field: java/lang/String 38 java/lang/String COMPACT_STRINGS
-- other field: java/lang/String 1053 jdk/internal/util/Preconditions SIOOBE_FORMATTER
-- other field: java/lang/StringUTF16 44 java/lang/StringUTF16 $assertionsDisabled
-- other field: java/lang/StringUTF16 59 java/lang/StringUTF16 HI_BYTE_SHIFT
-- other field: java/lang/StringUTF16 63 java/lang/StringUTF16 LO_BYTE_SHIFT
-- other field: java/lang/StringUTF16 403 java/lang/Integer DigitOnes
-- other field: java/lang/StringUTF16 407 java/lang/Integer DigitTens
theorem kKX2_30 : Cond.constant RX2 30 (100000) ∈ lw_g := (lw_k4 109 (by decide +kernel) (by decide +kernel))
theorem kKX4_240 : Cond.constant RX4 240 (100000) ∈ lw_g := (lw_k2 137 (by decide +kernel) (by decide +kernel))
theorem kKX7_117 : Cond.constant RX7 117 (100000) ∈ lw_g := (lw_k6 230 (by decide +kernel) (by decide +kernel))
theorem kKX7_259 : Cond.constant RX7 259 (99999) ∈ lw_g := (lw_k8 4 (by decide +kernel) (by decide +kernel))
theorem kKJ5_39 : Cond.constant RJ5 39 (2147483647) ∈ lw_g := (lw_k5 68 (by decide +kernel) (by decide +kernel))
theorem kKJ6_265 : Cond.constant RJ6 265 (1431655765) ∈ lw_g := (lw_k4 105 (by decide +kernel) (by decide +kernel))
theorem kKJ6_266 : Cond.constant RJ6 266 (858993459) ∈ lw_g := (lw_k4 106 (by decide +kernel) (by decide +kernel))
theorem kKJ6_267 : Cond.constant RJ6 267 (252645135) ∈ lw_g := (lw_k4 107 (by decide +kernel) (by decide +kernel))
theorem kKJ2_20 : Cond.constant RJ2 20 (1073741823) ∈ lw_g := (lw_k1 45 (by decide +kernel) (by decide +kernel))
theorem kKJ8_200 : Cond.constant RJ8 200 (2147483639) ∈ lw_g := (lw_k5 64 (by decide +kernel) (by decide +kernel))
theorem kMX6_15 : okI RX6 15 mJ4_init_da8c8 0 := ⟨kCJ4_init_da8c8, (lw_k1 30 (by decide +kernel) (by decide +kernel)), (lw_k1 31 (by decide +kernel) (by decide +kernel)), rfl, rfl⟩
theorem kMX6_22 : okI RX6 22 mX4_init 1 := ⟨kCX4_init, (lw_k1 63 (by decide +kernel) (by decide +kernel)), (lw_k1 64 (by decide +kernel) (by decide +kernel)), rfl, rfl⟩
theorem kMX6_31 : okI RX6 31 mX5_init 0 := ⟨kCX5_init, (lw_k2 6 (by decide +kernel) (by decide +kernel)), (lw_k1 70 (by decide +kernel) (by decide +kernel)), rfl, rfl⟩
theorem kMX6_41 : okI RX6 41 mX1_init 0 := ⟨kCX1_init, (lw_k2 9 (by decide +kernel) (by decide +kernel)), (lw_k2 10 (by decide +kernel) (by decide +kernel)), rfl, rfl⟩
theorem kMX6_48 : okI RX6 48 mX2_init 0 := ⟨kCX2_init, (lw_k2 29 (by decide +kernel) (by decide +kernel)), (lw_k2 30 (by decide +kernel) (by decide +kernel)), rfl, rfl⟩
theorem kMX6_55 : okI RX6 55 mX3_init 0 := ⟨kCX3_init, (lw_k2 49 (by decide +kernel) (by decide +kernel)), (lw_k2 50 (by decide +kernel) (by decide +kernel)), rfl, rfl⟩
theorem kMX6_64 : okV RX6 64 mX6_appendBytes 1 := ⟨kCX6_appendBytes, (lw_k2 101 (by decide +kernel) (by decide +kernel)), (lw_k2 103 (by decide +kernel) (by decide +kernel)), (lw_mg 0 (by decide +kernel) (by decide +kernel))⟩
theorem kMX6_68 : okV RX6 68 mX4_read 1 := ⟨kCX4_read, (lw_k2 116 (by decide +kernel) (by decide +kernel)), (lw_k2 117 (by decide +kernel) (by decide +kernel)), (lw_k2 118 (by decide +kernel) (by decide +kernel))⟩
theorem kMX6_72 : okV RX6 72 mX6_beforeChange 0 := ⟨kCX6_beforeChange, (lw_k3 48 (by decide +kernel) (by decide +kernel)), (lw_k3 50 (by decide +kernel) (by decide +kernel)), (lw_mg 20 (by decide +kernel) (by decide +kernel))⟩
theorem kMX6_78 : okV RX6 78 mX5_copyFrom 1 := ⟨kCX5_copyFrom, (lw_k3 76 (by decide +kernel) (by decide +kernel)), (lw_k3 61 (by decide +kernel) (by decide +kernel)), (lw_k3 62 (by decide +kernel) (by decide +kernel))⟩
theorem kMX6_91 : okS RX6 91 mX6_packName 3 := ⟨kCX6_packName, (lw_k3 89 (by decide +kernel) (by decide +kernel)), (lw_k3 7 (by decide +kernel) (by decide +kernel))⟩
theorem kMX6_107 : okS RX6 107 mX6_indexOfName 3 := ⟨kCX6_indexOfName, (lw_k3 90 (by decide +kernel) (by decide +kernel)), (lw_k3 16 (by decide +kernel) (by decide +kernel))⟩
theorem kMX6_137 : okV RX6 137 mX6_isPiece 1 := ⟨kCX6_isPiece, (lw_k3 131 (by decide +kernel) (by decide +kernel)), (lw_k3 133 (by decide +kernel) (by decide +kernel)), (lw_mg 22 (by decide +kernel) (by decide +kernel))⟩
theorem kMX6_143 : okS RX6 143 mX6_at 2 := ⟨kCX6_at, (lw_k3 9 (by decide +kernel) (by decide +kernel)), (lw_k2 126 (by decide +kernel) (by decide +kernel))⟩
theorem kMX6_161 : okV RX6 161 mX6_setWhere 2 := ⟨kCX6_setWhere, (lw_k3 159 (by decide +kernel) (by decide +kernel)), (lw_k3 161 (by decide +kernel) (by decide +kernel)), (lw_mg 23 (by decide +kernel) (by decide +kernel))⟩
theorem kMX6_164 : okV RX6 164 mX5_stretchOf 1 := ⟨kCX5_stretchOf, (lw_k3 171 (by decide +kernel) (by decide +kernel)), (lw_k3 172 (by decide +kernel) (by decide +kernel)), (lw_k3 173 (by decide +kernel) (by decide +kernel))⟩
theorem kMX6_168 : okV RX6 168 mX5_reachOf 1 := ⟨kCX5_reachOf, (lw_k3 183 (by decide +kernel) (by decide +kernel)), (lw_k3 184 (by decide +kernel) (by decide +kernel)), (lw_k3 185 (by decide +kernel) (by decide +kernel))⟩
theorem kMX6_171 : okV RX6 171 mX6_isShape 1 := ⟨kCX6_isShape, (lw_k3 192 (by decide +kernel) (by decide +kernel)), (lw_k3 194 (by decide +kernel) (by decide +kernel)), (lw_mg 24 (by decide +kernel) (by decide +kernel))⟩
theorem kMX6_174 : okV RX6 174 mX5_canBeBoarded 1 := ⟨kCX5_canBeBoarded, (lw_k3 196 (by decide +kernel) (by decide +kernel)), (lw_k3 197 (by decide +kernel) (by decide +kernel)), (lw_k3 198 (by decide +kernel) (by decide +kernel))⟩
theorem kMX6_177 : okV RX6 177 mX5_lengthOn 2 := ⟨kCX5_lengthOn, (lw_k3 200 (by decide +kernel) (by decide +kernel)), (lw_k3 201 (by decide +kernel) (by decide +kernel)), (lw_k3 202 (by decide +kernel) (by decide +kernel))⟩
theorem kMX6_181 : okS RX6 181 mX6_isBetween 3 := ⟨kCX6_isBetween, (lw_k3 209 (by decide +kernel) (by decide +kernel)), (lw_k2 210 (by decide +kernel) (by decide +kernel))⟩
theorem kMX6_190 : okV RX6 190 mX5_sizeOfPiece 1 := ⟨kCX5_sizeOfPiece, (lw_k3 217 (by decide +kernel) (by decide +kernel)), (lw_k3 218 (by decide +kernel) (by decide +kernel)), (lw_k3 219 (by decide +kernel) (by decide +kernel))⟩
theorem kMX6_193 : okV RX6 193 mX6_isSize 1 := ⟨kCX6_isSize, (lw_k3 230 (by decide +kernel) (by decide +kernel)), (lw_k3 232 (by decide +kernel) (by decide +kernel)), (lw_mg 25 (by decide +kernel) (by decide +kernel))⟩
theorem kMX6_196 : okV RX6 196 mX5_rankOf 1 := ⟨kCX5_rankOf, (lw_k3 238 (by decide +kernel) (by decide +kernel)), (lw_k3 239 (by decide +kernel) (by decide +kernel)), (lw_k4 0 (by decide +kernel) (by decide +kernel))⟩
theorem kMX6_199 : okV RX6 199 mX5_isBoarded 1 := ⟨kCX5_isBoarded, (lw_k4 6 (by decide +kernel) (by decide +kernel)), (lw_k4 7 (by decide +kernel) (by decide +kernel)), (lw_k4 8 (by decide +kernel) (by decide +kernel))⟩
theorem kMX6_208 : okV RX6 208 mX5_boardOn 2 := ⟨kCX5_boardOn, (lw_k4 15 (by decide +kernel) (by decide +kernel)), (lw_k4 16 (by decide +kernel) (by decide +kernel)), (lw_k4 17 (by decide +kernel) (by decide +kernel))⟩
theorem kMX6_212 : okV RX6 212 mX5_boardRaw 1 := ⟨kCX5_boardRaw, (lw_k4 24 (by decide +kernel) (by decide +kernel)), (lw_k4 25 (by decide +kernel) (by decide +kernel)), (lw_k4 26 (by decide +kernel) (by decide +kernel))⟩
theorem kMX6_215 : okV RX6 215 mX5_passDay 0 := ⟨kCX5_passDay, (lw_k4 33 (by decide +kernel) (by decide +kernel)), (lw_k4 34 (by decide +kernel) (by decide +kernel)), (lw_k4 35 (by decide +kernel) (by decide +kernel))⟩
theorem kMX6_219 : okS RX6 219 mX6_put 3 := ⟨kCX6_put, (lw_k2 105 (by decide +kernel) (by decide +kernel)), (lw_k2 106 (by decide +kernel) (by decide +kernel))⟩
theorem kMX6_223 : okS RX6 223 mX6_areTolerances 2 := ⟨kCX6_areTolerances, (lw_k4 46 (by decide +kernel) (by decide +kernel)), (lw_k4 47 (by decide +kernel) (by decide +kernel))⟩
theorem kMX6_226 : okV RX6 226 mX6_findPairs 0 := ⟨kCX6_findPairs, (lw_k4 57 (by decide +kernel) (by decide +kernel)), (lw_k4 59 (by decide +kernel) (by decide +kernel)), (lw_mg 26 (by decide +kernel) (by decide +kernel))⟩
theorem kMX6_229 : okV RX6 229 mX6_packableSet 0 := ⟨kCX6_packableSet, (lw_k4 124 (by decide +kernel) (by decide +kernel)), (lw_k4 126 (by decide +kernel) (by decide +kernel)), (lw_mg 32 (by decide +kernel) (by decide +kernel))⟩
theorem kMX6_232 : okS RX6 232 mX6_contains 2 := ⟨kCX6_contains, (lw_k4 141 (by decide +kernel) (by decide +kernel)), (lw_k4 85 (by decide +kernel) (by decide +kernel))⟩
theorem kMX6_235 : okV RX6 235 mX6_boxesOf 1 := ⟨kCX6_boxesOf, (lw_k4 142 (by decide +kernel) (by decide +kernel)), (lw_k4 144 (by decide +kernel) (by decide +kernel)), (lw_mg 36 (by decide +kernel) (by decide +kernel))⟩
theorem kMX6_238 : okV RX6 238 mX1_takeBack 1 := ⟨kCX1_takeBack, (lw_k4 154 (by decide +kernel) (by decide +kernel)), (lw_k4 155 (by decide +kernel) (by decide +kernel)), (lw_k4 156 (by decide +kernel) (by decide +kernel))⟩
theorem kMX6_245 : okV RX6 245 mX6_areTwoPieces 2 := ⟨kCX6_areTwoPieces, (lw_k4 162 (by decide +kernel) (by decide +kernel)), (lw_k4 164 (by decide +kernel) (by decide +kernel)), (lw_mg 37 (by decide +kernel) (by decide +kernel))⟩
theorem kMX6_248 : okV RX6 248 mX5_fits 2 := ⟨kCX5_fits, (lw_k4 166 (by decide +kernel) (by decide +kernel)), (lw_k4 70 (by decide +kernel) (by decide +kernel)), (lw_k4 71 (by decide +kernel) (by decide +kernel))⟩
theorem kMX6_251 : okV RX6 251 mX5_gapOf 2 := ⟨kCX5_gapOf, (lw_k4 171 (by decide +kernel) (by decide +kernel)), (lw_k4 75 (by decide +kernel) (by decide +kernel)), (lw_k4 76 (by decide +kernel) (by decide +kernel))⟩
theorem kMX6_254 : okV RX6 254 mX5_matchSet 1 := ⟨kCX5_matchSet, (lw_k4 176 (by decide +kernel) (by decide +kernel)), (lw_k4 177 (by decide +kernel) (by decide +kernel)), (lw_k4 178 (by decide +kernel) (by decide +kernel))⟩
theorem kMX6_266 : okV RX6 266 mX3_lowerOf 1 := ⟨kCX3_lowerOf, (lw_k4 201 (by decide +kernel) (by decide +kernel)), (lw_k4 202 (by decide +kernel) (by decide +kernel)), (lw_k4 203 (by decide +kernel) (by decide +kernel))⟩
theorem kMX6_269 : okV RX6 269 mX6_sizeOfPair 1 := ⟨kCX6_sizeOfPair, (lw_k4 132 (by decide +kernel) (by decide +kernel)), (lw_k4 134 (by decide +kernel) (by decide +kernel)), (lw_mg 34 (by decide +kernel) (by decide +kernel))⟩
theorem kMX6_272 : okV RX6 272 mX5_groupSet 1 := ⟨kCX5_groupSet, (lw_k4 222 (by decide +kernel) (by decide +kernel)), (lw_k4 223 (by decide +kernel) (by decide +kernel)), (lw_k4 224 (by decide +kernel) (by decide +kernel))⟩
theorem kMX6_275 : okS RX6 275 mX6_lowestOf 1 := ⟨kCX6_lowestOf, (lw_k4 228 (by decide +kernel) (by decide +kernel)), (lw_k4 100 (by decide +kernel) (by decide +kernel))⟩
theorem kMX6_278 : okV RX6 278 mX2_mostPairs 1 := ⟨kCX2_mostPairs, (lw_k4 237 (by decide +kernel) (by decide +kernel)), (lw_k4 238 (by decide +kernel) (by decide +kernel)), (lw_k4 239 (by decide +kernel) (by decide +kernel))⟩
theorem kMX6_282 : okV RX6 282 mX6_pairsIfBoarded 2 := ⟨kCX6_pairsIfBoarded, (lw_k5 13 (by decide +kernel) (by decide +kernel)), (lw_k5 15 (by decide +kernel) (by decide +kernel)), (lw_mg 38 (by decide +kernel) (by decide +kernel))⟩
theorem kMX6_285 : okV RX6 285 mX6_pairsWithin 2 := ⟨kCX6_pairsWithin, (lw_k5 29 (by decide +kernel) (by decide +kernel)), (lw_k5 31 (by decide +kernel) (by decide +kernel)), (lw_mg 39 (by decide +kernel) (by decide +kernel))⟩
theorem kMX6_288 : okV RX6 288 mJ4_setLength_d00df 1 := ⟨kCJ4_setLength_d00df, (lw_k5 45 (by decide +kernel) (by decide +kernel)), (lw_k5 46 (by decide +kernel) (by decide +kernel)), (lw_k5 47 (by decide +kernel) (by decide +kernel))⟩
theorem kMX6_293 : okV RX6 293 mJ4_append_15ec4 1 := ⟨kCJ4_append_15ec4, (lw_k5 100 (by decide +kernel) (by decide +kernel)), (lw_k5 101 (by decide +kernel) (by decide +kernel)), (lw_k5 102 (by decide +kernel) (by decide +kernel))⟩
theorem kMX6_297 : okV RX6 297 mJ4_append_cf468 1 := ⟨kCJ4_append_cf468, (lw_k5 161 (by decide +kernel) (by decide +kernel)), (lw_k5 162 (by decide +kernel) (by decide +kernel)), (lw_k5 163 (by decide +kernel) (by decide +kernel))⟩
theorem kMX6_300 : okV RX6 300 mJ4_append_bf812 1 := ⟨kCJ4_append_bf812, (lw_k5 174 (by decide +kernel) (by decide +kernel)), (lw_k5 175 (by decide +kernel) (by decide +kernel)), (lw_k5 176 (by decide +kernel) (by decide +kernel))⟩
theorem kMX6_309 : okV RX6 309 mX6_writeCatalogue 1 := ⟨kCX6_writeCatalogue, (lw_k5 201 (by decide +kernel) (by decide +kernel)), (lw_k5 203 (by decide +kernel) (by decide +kernel)), (lw_mg 40 (by decide +kernel) (by decide +kernel))⟩
theorem kMX6_315 : okV RX6 315 mX6_writeName 1 := ⟨kCX6_writeName, (lw_k5 206 (by decide +kernel) (by decide +kernel)), (lw_k5 208 (by decide +kernel) (by decide +kernel)), (lw_mg 41 (by decide +kernel) (by decide +kernel))⟩
theorem kMX6_318 : okS RX6 318 mX6_kindWord 1 := ⟨kCX6_kindWord, (lw_k5 213 (by decide +kernel) (by decide +kernel)), (lw_k5 214 (by decide +kernel) (by decide +kernel))⟩
theorem kMX6_322 : okV RX6 322 mJ4_length_8abf5 0 := ⟨kCJ4_length_8abf5, (lw_k5 219 (by decide +kernel) (by decide +kernel)), (lw_k5 220 (by decide +kernel) (by decide +kernel)), (lw_k5 221 (by decide +kernel) (by decide +kernel))⟩
theorem kMX6_325 : okV RX6 325 mJ4_charAt_5068e 1 := ⟨kCJ4_charAt_5068e, (lw_k5 230 (by decide +kernel) (by decide +kernel)), (lw_k5 231 (by decide +kernel) (by decide +kernel)), (lw_k5 232 (by decide +kernel) (by decide +kernel))⟩
theorem kMX6_329 : okV RX6 329 mX1_keep 1 := ⟨kCX1_keep, (lw_k3 52 (by decide +kernel) (by decide +kernel)), (lw_k3 53 (by decide +kernel) (by decide +kernel)), (lw_k3 54 (by decide +kernel) (by decide +kernel))⟩
theorem kMX6_332 : okV RX6 332 mX2_pairUp 2 := ⟨kCX2_pairUp, (lw_k4 61 (by decide +kernel) (by decide +kernel)), (lw_k4 62 (by decide +kernel) (by decide +kernel)), (lw_k4 63 (by decide +kernel) (by decide +kernel))⟩
theorem kMX6_336 : okV RX6 336 mX0_sizeHolding 2 := ⟨kCX0_sizeHolding, (lw_k4 136 (by decide +kernel) (by decide +kernel)), (lw_k3 222 (by decide +kernel) (by decide +kernel)), (lw_k3 223 (by decide +kernel) (by decide +kernel))⟩
theorem kMX6_339 : okV RX6 339 mX6_isInFullBox 1 := ⟨kCX6_isInFullBox, (lw_k4 128 (by decide +kernel) (by decide +kernel)), (lw_k4 130 (by decide +kernel) (by decide +kernel)), (lw_mg 33 (by decide +kernel) (by decide +kernel))⟩
theorem kMX6_342 : okV RX6 342 mX6_isBoxedWith 2 := ⟨kCX6_isBoxedWith, (lw_k4 137 (by decide +kernel) (by decide +kernel)), (lw_k4 139 (by decide +kernel) (by decide +kernel)), (lw_mg 35 (by decide +kernel) (by decide +kernel))⟩
theorem kMX6_345 : okS RX6 345 mJ6_bitCount_0f7a4 1 := ⟨kCJ6_bitCount_0f7a4, (lw_k4 102 (by decide +kernel) (by decide +kernel)), (lw_k4 103 (by decide +kernel) (by decide +kernel))⟩
theorem kMX6_383 : okS RX6 383 mX6_isLetter 1 := ⟨kCX6_isLetter, (lw_k3 10 (by decide +kernel) (by decide +kernel)), (lw_k2 132 (by decide +kernel) (by decide +kernel))⟩
theorem kMX1_17 : okI RX1 17 mX5_init 0 := ⟨kCX5_init, (lw_k2 15 (by decide +kernel) (by decide +kernel)), (lw_k1 70 (by decide +kernel) (by decide +kernel)), rfl, rfl⟩
theorem kMX1_22 : okV RX1 22 mX1_placeOf 1 := ⟨kCX1_placeOf, (lw_k3 56 (by decide +kernel) (by decide +kernel)), (lw_k3 58 (by decide +kernel) (by decide +kernel)), (lw_mg 21 (by decide +kernel) (by decide +kernel))⟩
theorem kMX1_26 : okV RX1 26 mX5_copyFrom 1 := ⟨kCX5_copyFrom, (lw_k3 60 (by decide +kernel) (by decide +kernel)), (lw_k3 61 (by decide +kernel) (by decide +kernel)), (lw_k3 62 (by decide +kernel) (by decide +kernel))⟩
theorem kMX2_22 : okV RX2 22 mX2_takeMatches 2 := ⟨kCX2_takeMatches, (lw_k4 65 (by decide +kernel) (by decide +kernel)), (lw_k4 67 (by decide +kernel) (by decide +kernel)), (lw_mg 27 (by decide +kernel) (by decide +kernel))⟩
theorem kMX2_26 : okS RX2 26 mX2_worthOf 3 := ⟨kCX2_worthOf, (lw_k4 91 (by decide +kernel) (by decide +kernel)), (lw_k4 92 (by decide +kernel) (by decide +kernel))⟩
theorem kMX2_31 : okV RX2 31 mX3_dissolve 0 := ⟨kCX3_dissolve, (lw_k4 79 (by decide +kernel) (by decide +kernel)), (lw_k4 80 (by decide +kernel) (by decide +kernel)), (lw_k4 81 (by decide +kernel) (by decide +kernel))⟩
theorem kMX2_40 : okV RX2 40 mX2_lowestPartner 2 := ⟨kCX2_lowestPartner, (lw_k4 87 (by decide +kernel) (by decide +kernel)), (lw_k4 89 (by decide +kernel) (by decide +kernel)), (lw_mg 28 (by decide +kernel) (by decide +kernel))⟩
theorem kMX2_44 : okV RX2 44 mX2_gapBetween 2 := ⟨kCX2_gapBetween, (lw_k4 111 (by decide +kernel) (by decide +kernel)), (lw_k4 113 (by decide +kernel) (by decide +kernel)), (lw_mg 30 (by decide +kernel) (by decide +kernel))⟩
theorem kMX2_47 : okV RX2 47 mX3_join 3 := ⟨kCX3_join, (lw_k4 120 (by decide +kernel) (by decide +kernel)), (lw_k4 121 (by decide +kernel) (by decide +kernel)), (lw_k4 122 (by decide +kernel) (by decide +kernel))⟩
theorem kMX2_61 : okV RX2 61 mX5_fits 2 := ⟨kCX5_fits, (lw_k4 69 (by decide +kernel) (by decide +kernel)), (lw_k4 70 (by decide +kernel) (by decide +kernel)), (lw_k4 71 (by decide +kernel) (by decide +kernel))⟩
theorem kMX2_64 : okV RX2 64 mX5_gapOf 2 := ⟨kCX5_gapOf, (lw_k4 74 (by decide +kernel) (by decide +kernel)), (lw_k4 75 (by decide +kernel) (by decide +kernel)), (lw_k4 76 (by decide +kernel) (by decide +kernel))⟩
theorem kMX2_75 : okV RX2 75 mX2_recall 1 := ⟨kCX2_recall, (lw_k4 94 (by decide +kernel) (by decide +kernel)), (lw_k4 96 (by decide +kernel) (by decide +kernel)), (lw_mg 29 (by decide +kernel) (by decide +kernel))⟩
theorem kMX2_82 : okS RX2 82 mJ6_bitCount_0f7a4 1 := ⟨kCJ6_bitCount_0f7a4, (lw_k4 108 (by decide +kernel) (by decide +kernel)), (lw_k4 103 (by decide +kernel) (by decide +kernel))⟩
theorem kMX2_92 : okV RX2 92 mX2_remember 2 := ⟨kCX2_remember, (lw_k4 116 (by decide +kernel) (by decide +kernel)), (lw_k4 118 (by decide +kernel) (by decide +kernel)), (lw_mg 31 (by decide +kernel) (by decide +kernel))⟩
theorem kMX4_17 : okI RX4 17 mX5_init 0 := ⟨kCX5_init, (lw_k1 69 (by decide +kernel) (by decide +kernel)), (lw_k1 70 (by decide +kernel) (by decide +kernel)), rfl, rfl⟩
theorem kMX4_26 : okV RX4 26 mX5_makeEmpty 0 := ⟨kCX5_makeEmpty, (lw_k2 120 (by decide +kernel) (by decide +kernel)), (lw_k1 142 (by decide +kernel) (by decide +kernel)), (lw_k1 143 (by decide +kernel) (by decide +kernel))⟩
theorem kMX4_48 : okV RX4 48 mX4_advance 0 := ⟨kCX4_advance, (lw_k2 121 (by decide +kernel) (by decide +kernel)), (lw_k2 123 (by decide +kernel) (by decide +kernel)), (lw_mg 1 (by decide +kernel) (by decide +kernel))⟩
theorem kMX4_56 : okV RX4 56 mX4_spells 1 := ⟨kCX4_spells, (lw_k2 142 (by decide +kernel) (by decide +kernel)), (lw_k2 144 (by decide +kernel) (by decide +kernel)), (lw_mg 2 (by decide +kernel) (by decide +kernel))⟩
theorem kMX4_60 : okV RX4 60 mX4_readTolerance 0 := ⟨kCX4_readTolerance, (lw_k2 193 (by decide +kernel) (by decide +kernel)), (lw_k2 195 (by decide +kernel) (by decide +kernel)), (lw_mg 3 (by decide +kernel) (by decide +kernel))⟩
theorem kMX4_65 : okV RX4 65 mX4_readSteam 0 := ⟨kCX4_readSteam, (lw_k2 217 (by decide +kernel) (by decide +kernel)), (lw_k2 219 (by decide +kernel) (by decide +kernel)), (lw_mg 8 (by decide +kernel) (by decide +kernel))⟩
theorem kMX4_70 : okV RX4 70 mX4_readBox 0 := ⟨kCX4_readBox, (lw_k2 222 (by decide +kernel) (by decide +kernel)), (lw_k2 224 (by decide +kernel) (by decide +kernel)), (lw_mg 9 (by decide +kernel) (by decide +kernel))⟩
theorem kMX4_79 : okV RX4 79 mX4_readYarn 1 := ⟨kCX4_readYarn, (lw_k2 227 (by decide +kernel) (by decide +kernel)), (lw_k2 229 (by decide +kernel) (by decide +kernel)), (lw_mg 10 (by decide +kernel) (by decide +kernel))⟩
theorem kMX4_85 : okV RX4 85 mX4_readShape 1 := ⟨kCX4_readShape, (lw_k3 19 (by decide +kernel) (by decide +kernel)), (lw_k3 21 (by decide +kernel) (by decide +kernel)), (lw_mg 14 (by decide +kernel) (by decide +kernel))⟩
theorem kMX4_90 : okV RX4 90 mX4_readSize 1 := ⟨kCX4_readSize, (lw_k3 23 (by decide +kernel) (by decide +kernel)), (lw_k3 25 (by decide +kernel) (by decide +kernel)), (lw_mg 15 (by decide +kernel) (by decide +kernel))⟩
theorem kMX4_95 : okV RX4 95 mX4_readPiece 1 := ⟨kCX4_readPiece, (lw_k3 27 (by decide +kernel) (by decide +kernel)), (lw_k3 29 (by decide +kernel) (by decide +kernel)), (lw_mg 16 (by decide +kernel) (by decide +kernel))⟩
theorem kMX4_98 : okV RX4 98 mX4_refuse 1 := ⟨kCX4_refuse, (lw_k2 201 (by decide +kernel) (by decide +kernel)), (lw_k2 203 (by decide +kernel) (by decide +kernel)), (lw_mg 5 (by decide +kernel) (by decide +kernel))⟩
theorem kMX4_102 : okV RX4 102 mX4_startStatement 2 := ⟨kCX4_startStatement, (lw_k2 197 (by decide +kernel) (by decide +kernel)), (lw_k2 199 (by decide +kernel) (by decide +kernel)), (lw_mg 4 (by decide +kernel) (by decide +kernel))⟩
theorem kMX4_106 : okV RX4 106 mX4_readNumber 2 := ⟨kCX4_readNumber, (lw_k2 205 (by decide +kernel) (by decide +kernel)), (lw_k2 207 (by decide +kernel) (by decide +kernel)), (lw_mg 6 (by decide +kernel) (by decide +kernel))⟩
theorem kMX4_116 : okV RX4 116 mX4_endStatement 0 := ⟨kCX4_endStatement, (lw_k2 212 (by decide +kernel) (by decide +kernel)), (lw_k2 214 (by decide +kernel) (by decide +kernel)), (lw_mg 7 (by decide +kernel) (by decide +kernel))⟩
theorem kMX4_129 : okV RX4 129 mX4_nameHere 0 := ⟨kCX4_nameHere, (lw_k2 231 (by decide +kernel) (by decide +kernel)), (lw_k2 233 (by decide +kernel) (by decide +kernel)), (lw_mg 11 (by decide +kernel) (by decide +kernel))⟩
theorem kMX4_136 : okV RX4 136 mX4_takeNewName 3 := ⟨kCX4_takeNewName, (lw_k3 11 (by decide +kernel) (by decide +kernel)), (lw_k3 13 (by decide +kernel) (by decide +kernel)), (lw_mg 13 (by decide +kernel) (by decide +kernel))⟩
theorem kMX4_174 : okV RX4 174 mX4_takeKnownYarn 2 := ⟨kCX4_takeKnownYarn, (lw_k3 31 (by decide +kernel) (by decide +kernel)), (lw_k3 33 (by decide +kernel) (by decide +kernel)), (lw_mg 17 (by decide +kernel) (by decide +kernel))⟩
theorem kMX4_178 : okV RX4 178 mX4_readKind 0 := ⟨kCX4_readKind, (lw_k3 35 (by decide +kernel) (by decide +kernel)), (lw_k3 37 (by decide +kernel) (by decide +kernel)), (lw_mg 18 (by decide +kernel) (by decide +kernel))⟩
theorem kMX4_183 : okV RX4 183 mX4_readTimes 0 := ⟨kCX4_readTimes, (lw_k3 39 (by decide +kernel) (by decide +kernel)), (lw_k3 41 (by decide +kernel) (by decide +kernel)), (lw_mg 19 (by decide +kernel) (by decide +kernel))⟩
theorem kMX4_186 : okV RX4 186 mX5_addPiece 4 := ⟨kCX5_addPiece, (lw_k3 43 (by decide +kernel) (by decide +kernel)), (lw_k3 44 (by decide +kernel) (by decide +kernel)), (lw_k3 45 (by decide +kernel) (by decide +kernel))⟩
theorem kMX4_208 : okV RX4 208 mX4_isKeyword 0 := ⟨kCX4_isKeyword, (lw_k2 235 (by decide +kernel) (by decide +kernel)), (lw_k2 237 (by decide +kernel) (by decide +kernel)), (lw_mg 12 (by decide +kernel) (by decide +kernel))⟩
theorem kMX4_221 : okV RX4 221 mJ0_length_8abf5 0 := ⟨kCJ0_length_8abf5, (lw_k2 146 (by decide +kernel) (by decide +kernel)), (lw_k2 147 (by decide +kernel) (by decide +kernel)), (lw_k2 148 (by decide +kernel) (by decide +kernel))⟩
theorem kMX4_226 : okV RX4 226 mJ0_charAt_5068e 1 := ⟨kCJ0_charAt_5068e, (lw_k2 155 (by decide +kernel) (by decide +kernel)), (lw_k2 156 (by decide +kernel) (by decide +kernel)), (lw_k2 157 (by decide +kernel) (by decide +kernel))⟩
theorem kMX4_230 : okS RX4 230 mX4_isBlank 1 := ⟨kCX4_isBlank, (lw_k2 128 (by decide +kernel) (by decide +kernel)), (lw_k2 129 (by decide +kernel) (by decide +kernel))⟩
theorem kMX4_237 : okS RX4 237 mX4_isDigit 1 := ⟨kCX4_isDigit, (lw_k2 134 (by decide +kernel) (by decide +kernel)), (lw_k2 135 (by decide +kernel) (by decide +kernel))⟩
theorem kMX5_11 : okI RX5 11 mX0_init 0 := ⟨kCX0_init, (lw_k1 75 (by decide +kernel) (by decide +kernel)), (lw_k1 76 (by decide +kernel) (by decide +kernel)), rfl, rfl⟩
theorem kMX5_37 : okV RX5 37 mX5_makeEmpty 0 := ⟨kCX5_makeEmpty, (lw_k1 141 (by decide +kernel) (by decide +kernel)), (lw_k1 142 (by decide +kernel) (by decide +kernel)), (lw_k1 143 (by decide +kernel) (by decide +kernel))⟩
theorem kMX5_67 : okV RX5 67 mX0_takeAll 1 := ⟨kCX0_takeAll, (lw_k3 64 (by decide +kernel) (by decide +kernel)), (lw_k3 65 (by decide +kernel) (by decide +kernel)), (lw_k3 66 (by decide +kernel) (by decide +kernel))⟩
theorem kMX5_92 : okV RX5 92 mX5_stretchOf 1 := ⟨kCX5_stretchOf, (lw_k3 187 (by decide +kernel) (by decide +kernel)), (lw_k3 172 (by decide +kernel) (by decide +kernel)), (lw_k3 173 (by decide +kernel) (by decide +kernel))⟩
theorem kMX5_99 : okV RX5 99 mX5_reachOf 1 := ⟨kCX5_reachOf, (lw_k3 204 (by decide +kernel) (by decide +kernel)), (lw_k3 184 (by decide +kernel) (by decide +kernel)), (lw_k3 185 (by decide +kernel) (by decide +kernel))⟩
theorem kMX5_102 : okV RX5 102 mX5_lengthOn 2 := ⟨kCX5_lengthOn, (lw_k4 19 (by decide +kernel) (by decide +kernel)), (lw_k3 201 (by decide +kernel) (by decide +kernel)), (lw_k3 202 (by decide +kernel) (by decide +kernel))⟩
theorem kMX5_105 : okV RX5 105 mX5_boardOn 2 := ⟨kCX5_boardOn, (lw_k4 28 (by decide +kernel) (by decide +kernel)), (lw_k4 16 (by decide +kernel) (by decide +kernel)), (lw_k4 17 (by decide +kernel) (by decide +kernel))⟩
theorem kMX5_112 : okV RX5 112 mX5_isBoarded 1 := ⟨kCX5_isBoarded, (lw_k4 37 (by decide +kernel) (by decide +kernel)), (lw_k4 7 (by decide +kernel) (by decide +kernel)), (lw_k4 8 (by decide +kernel) (by decide +kernel))⟩
theorem kMX5_116 : okV RX5 116 mX0_sizeHolding 2 := ⟨kCX0_sizeHolding, (lw_k3 221 (by decide +kernel) (by decide +kernel)), (lw_k3 222 (by decide +kernel) (by decide +kernel)), (lw_k3 223 (by decide +kernel) (by decide +kernel))⟩
theorem kMX5_122 : okV RX5 122 mX5_fits 2 := ⟨kCX5_fits, (lw_k4 180 (by decide +kernel) (by decide +kernel)), (lw_k4 70 (by decide +kernel) (by decide +kernel)), (lw_k4 71 (by decide +kernel) (by decide +kernel))⟩
theorem kMX5_128 : okV RX5 128 mX5_matchSet 1 := ⟨kCX5_matchSet, (lw_k4 227 (by decide +kernel) (by decide +kernel)), (lw_k4 177 (by decide +kernel) (by decide +kernel)), (lw_k4 178 (by decide +kernel) (by decide +kernel))⟩
theorem kML_9 : okI RL 9 mX6_init 0 := ⟨kCX6_init, (lw_k1 22 (by decide +kernel) (by decide +kernel)), (lw_k1 23 (by decide +kernel) (by decide +kernel)), rfl, rfl⟩
theorem kML_12 : okI RL 12 mX7_init 0 := ⟨kCX7_init, (lw_k6 2 (by decide +kernel) (by decide +kernel)), (lw_k6 3 (by decide +kernel) (by decide +kernel)), rfl, rfl⟩
theorem kML_13 : okV RL 13 mX6_append 5 := ⟨kCX6_append, (lw_k2 97 (by decide +kernel) (by decide +kernel)), (lw_k2 98 (by decide +kernel) (by decide +kernel)), (lw_k2 99 (by decide +kernel) (by decide +kernel))⟩
theorem kML_17 : okV RL 17 mX7_append 5 := ⟨kCX7_append, (lw_k7 216 (by decide +kernel) (by decide +kernel)), (lw_k7 217 (by decide +kernel) (by decide +kernel)), (lw_k7 218 (by decide +kernel) (by decide +kernel))⟩
theorem kML_18 : okV RL 18 mX6_truncate 1 := ⟨kCX6_truncate, (lw_k2 108 (by decide +kernel) (by decide +kernel)), (lw_k2 109 (by decide +kernel) (by decide +kernel)), (lw_k2 110 (by decide +kernel) (by decide +kernel))⟩
theorem kML_22 : okV RL 22 mX7_truncate 1 := ⟨kCX7_truncate, (lw_k7 224 (by decide +kernel) (by decide +kernel)), (lw_k7 225 (by decide +kernel) (by decide +kernel)), (lw_k7 226 (by decide +kernel) (by decide +kernel))⟩
theorem kML_23 : okV RL 23 mX6_load 0 := ⟨kCX6_load, (lw_k2 112 (by decide +kernel) (by decide +kernel)), (lw_k2 113 (by decide +kernel) (by decide +kernel)), (lw_k2 114 (by decide +kernel) (by decide +kernel))⟩
theorem kML_27 : okV RL 27 mX7_load 0 := ⟨kCX7_load, (lw_k7 228 (by decide +kernel) (by decide +kernel)), (lw_k7 229 (by decide +kernel) (by decide +kernel)), (lw_k7 230 (by decide +kernel) (by decide +kernel))⟩
theorem kML_28 : okV RL 28 mX6_errorCode 0 := ⟨kCX6_errorCode, (lw_k3 77 (by decide +kernel) (by decide +kernel)), (lw_k3 78 (by decide +kernel) (by decide +kernel)), (lw_k3 79 (by decide +kernel) (by decide +kernel))⟩
theorem kML_31 : okV RL 31 mX7_errorCode 0 := ⟨kCX7_errorCode, (lw_k8 103 (by decide +kernel) (by decide +kernel)), (lw_k8 104 (by decide +kernel) (by decide +kernel)), (lw_k8 105 (by decide +kernel) (by decide +kernel))⟩
theorem kML_32 : okV RL 32 mX6_errorPosition 0 := ⟨kCX6_errorPosition, (lw_k3 81 (by decide +kernel) (by decide +kernel)), (lw_k3 82 (by decide +kernel) (by decide +kernel)), (lw_k3 83 (by decide +kernel) (by decide +kernel))⟩
theorem kML_35 : okV RL 35 mX7_errorPosition 0 := ⟨kCX7_errorPosition, (lw_k8 107 (by decide +kernel) (by decide +kernel)), (lw_k8 108 (by decide +kernel) (by decide +kernel)), (lw_k8 109 (by decide +kernel) (by decide +kernel))⟩
theorem kML_36 : okV RL 36 mX6_yarnCount 0 := ⟨kCX6_yarnCount, (lw_k3 91 (by decide +kernel) (by decide +kernel)), (lw_k3 92 (by decide +kernel) (by decide +kernel)), (lw_k3 93 (by decide +kernel) (by decide +kernel))⟩
theorem kML_39 : okV RL 39 mX7_yarnCount 0 := ⟨kCX7_yarnCount, (lw_k6 78 (by decide +kernel) (by decide +kernel)), (lw_k6 79 (by decide +kernel) (by decide +kernel)), (lw_k6 80 (by decide +kernel) (by decide +kernel))⟩
theorem kML_40 : okV RL 40 mX6_shapeCount 0 := ⟨kCX6_shapeCount, (lw_k3 95 (by decide +kernel) (by decide +kernel)), (lw_k3 96 (by decide +kernel) (by decide +kernel)), (lw_k3 97 (by decide +kernel) (by decide +kernel))⟩
theorem kML_43 : okV RL 43 mX7_shapeCount 0 := ⟨kCX7_shapeCount, (lw_k6 82 (by decide +kernel) (by decide +kernel)), (lw_k6 83 (by decide +kernel) (by decide +kernel)), (lw_k6 84 (by decide +kernel) (by decide +kernel))⟩
theorem kML_44 : okV RL 44 mX6_sizeCount 0 := ⟨kCX6_sizeCount, (lw_k3 99 (by decide +kernel) (by decide +kernel)), (lw_k3 100 (by decide +kernel) (by decide +kernel)), (lw_k3 101 (by decide +kernel) (by decide +kernel))⟩
theorem kML_47 : okV RL 47 mX7_sizeCount 0 := ⟨kCX7_sizeCount, (lw_k6 86 (by decide +kernel) (by decide +kernel)), (lw_k6 87 (by decide +kernel) (by decide +kernel)), (lw_k6 88 (by decide +kernel) (by decide +kernel))⟩
theorem kML_48 : okV RL 48 mX6_pieceCount 0 := ⟨kCX6_pieceCount, (lw_k3 103 (by decide +kernel) (by decide +kernel)), (lw_k3 104 (by decide +kernel) (by decide +kernel)), (lw_k3 105 (by decide +kernel) (by decide +kernel))⟩
theorem kML_51 : okV RL 51 mX7_pieceCount 0 := ⟨kCX7_pieceCount, (lw_k6 90 (by decide +kernel) (by decide +kernel)), (lw_k6 91 (by decide +kernel) (by decide +kernel)), (lw_k6 92 (by decide +kernel) (by decide +kernel))⟩
theorem kML_52 : okV RL 52 mX6_days 0 := ⟨kCX6_days, (lw_k3 107 (by decide +kernel) (by decide +kernel)), (lw_k3 108 (by decide +kernel) (by decide +kernel)), (lw_k3 109 (by decide +kernel) (by decide +kernel))⟩
theorem kML_55 : okV RL 55 mX7_days 0 := ⟨kCX7_days, (lw_k6 94 (by decide +kernel) (by decide +kernel)), (lw_k6 95 (by decide +kernel) (by decide +kernel)), (lw_k6 96 (by decide +kernel) (by decide +kernel))⟩
theorem kML_56 : okV RL 56 mX6_undoCount 0 := ⟨kCX6_undoCount, (lw_k3 111 (by decide +kernel) (by decide +kernel)), (lw_k3 112 (by decide +kernel) (by decide +kernel)), (lw_k3 113 (by decide +kernel) (by decide +kernel))⟩
theorem kML_59 : okV RL 59 mX7_undoCount 0 := ⟨kCX7_undoCount, (lw_k7 177 (by decide +kernel) (by decide +kernel)), (lw_k7 178 (by decide +kernel) (by decide +kernel)), (lw_k7 179 (by decide +kernel) (by decide +kernel))⟩
theorem kML_60 : okV RL 60 mX6_lengthTolerance 0 := ⟨kCX6_lengthTolerance, (lw_k3 115 (by decide +kernel) (by decide +kernel)), (lw_k3 116 (by decide +kernel) (by decide +kernel)), (lw_k3 117 (by decide +kernel) (by decide +kernel))⟩
theorem kML_63 : okV RL 63 mX7_lengthTolerance 0 := ⟨kCX7_lengthTolerance, (lw_k6 98 (by decide +kernel) (by decide +kernel)), (lw_k6 99 (by decide +kernel) (by decide +kernel)), (lw_k6 100 (by decide +kernel) (by decide +kernel))⟩
theorem kML_64 : okV RL 64 mX6_shadeTolerance 0 := ⟨kCX6_shadeTolerance, (lw_k3 119 (by decide +kernel) (by decide +kernel)), (lw_k3 120 (by decide +kernel) (by decide +kernel)), (lw_k3 121 (by decide +kernel) (by decide +kernel))⟩
theorem kML_67 : okV RL 67 mX7_shadeTolerance 0 := ⟨kCX7_shadeTolerance, (lw_k6 102 (by decide +kernel) (by decide +kernel)), (lw_k6 103 (by decide +kernel) (by decide +kernel)), (lw_k6 104 (by decide +kernel) (by decide +kernel))⟩
theorem kML_68 : okV RL 68 mX6_steam 0 := ⟨kCX6_steam, (lw_k3 123 (by decide +kernel) (by decide +kernel)), (lw_k3 124 (by decide +kernel) (by decide +kernel)), (lw_k3 125 (by decide +kernel) (by decide +kernel))⟩
theorem kML_71 : okV RL 71 mX7_steam 0 := ⟨kCX7_steam, (lw_k6 106 (by decide +kernel) (by decide +kernel)), (lw_k6 107 (by decide +kernel) (by decide +kernel)), (lw_k6 108 (by decide +kernel) (by decide +kernel))⟩
theorem kML_72 : okV RL 72 mX6_find 1 := ⟨kCX6_find, (lw_k3 85 (by decide +kernel) (by decide +kernel)), (lw_k3 86 (by decide +kernel) (by decide +kernel)), (lw_k3 87 (by decide +kernel) (by decide +kernel))⟩
theorem kML_75 : okV RL 75 mX7_find 1 := ⟨kCX7_find, (lw_k8 111 (by decide +kernel) (by decide +kernel)), (lw_k8 112 (by decide +kernel) (by decide +kernel)), (lw_k8 113 (by decide +kernel) (by decide +kernel))⟩
theorem kML_76 : okV RL 76 mX6_length 1 := ⟨kCX6_length, (lw_k3 127 (by decide +kernel) (by decide +kernel)), (lw_k3 128 (by decide +kernel) (by decide +kernel)), (lw_k3 129 (by decide +kernel) (by decide +kernel))⟩
theorem kML_79 : okV RL 79 mX7_length 1 := ⟨kCX7_length, (lw_k6 110 (by decide +kernel) (by decide +kernel)), (lw_k6 111 (by decide +kernel) (by decide +kernel)), (lw_k6 112 (by decide +kernel) (by decide +kernel))⟩
theorem kML_80 : okV RL 80 mX6_knitted 1 := ⟨kCX6_knitted, (lw_k3 135 (by decide +kernel) (by decide +kernel)), (lw_k3 136 (by decide +kernel) (by decide +kernel)), (lw_k3 137 (by decide +kernel) (by decide +kernel))⟩
theorem kML_83 : okV RL 83 mX7_knitted 1 := ⟨kCX7_knitted, (lw_k6 128 (by decide +kernel) (by decide +kernel)), (lw_k6 129 (by decide +kernel) (by decide +kernel)), (lw_k6 130 (by decide +kernel) (by decide +kernel))⟩
theorem kML_84 : okV RL 84 mX6_shade 1 := ⟨kCX6_shade, (lw_k3 139 (by decide +kernel) (by decide +kernel)), (lw_k3 140 (by decide +kernel) (by decide +kernel)), (lw_k3 141 (by decide +kernel) (by decide +kernel))⟩
theorem kML_87 : okV RL 87 mX7_shade 1 := ⟨kCX7_shade, (lw_k6 132 (by decide +kernel) (by decide +kernel)), (lw_k6 133 (by decide +kernel) (by decide +kernel)), (lw_k6 134 (by decide +kernel) (by decide +kernel))⟩
theorem kML_88 : okV RL 88 mX6_yarnOf 1 := ⟨kCX6_yarnOf, (lw_k3 143 (by decide +kernel) (by decide +kernel)), (lw_k3 144 (by decide +kernel) (by decide +kernel)), (lw_k3 145 (by decide +kernel) (by decide +kernel))⟩
theorem kML_91 : okV RL 91 mX7_yarnOf 1 := ⟨kCX7_yarnOf, (lw_k6 136 (by decide +kernel) (by decide +kernel)), (lw_k6 137 (by decide +kernel) (by decide +kernel)), (lw_k6 138 (by decide +kernel) (by decide +kernel))⟩
theorem kML_92 : okV RL 92 mX6_kindOf 1 := ⟨kCX6_kindOf, (lw_k3 147 (by decide +kernel) (by decide +kernel)), (lw_k3 148 (by decide +kernel) (by decide +kernel)), (lw_k3 149 (by decide +kernel) (by decide +kernel))⟩
theorem kML_95 : okV RL 95 mX7_kindOf 1 := ⟨kCX7_kindOf, (lw_k6 140 (by decide +kernel) (by decide +kernel)), (lw_k6 141 (by decide +kernel) (by decide +kernel)), (lw_k6 142 (by decide +kernel) (by decide +kernel))⟩
theorem kML_96 : okV RL 96 mX6_state 1 := ⟨kCX6_state, (lw_k3 151 (by decide +kernel) (by decide +kernel)), (lw_k3 152 (by decide +kernel) (by decide +kernel)), (lw_k3 153 (by decide +kernel) (by decide +kernel))⟩
theorem kML_99 : okV RL 99 mX7_state 1 := ⟨kCX7_state, (lw_k6 144 (by decide +kernel) (by decide +kernel)), (lw_k6 145 (by decide +kernel) (by decide +kernel)), (lw_k6 146 (by decide +kernel) (by decide +kernel))⟩
theorem kML_100 : okV RL 100 mX6_inState 1 := ⟨kCX6_inState, (lw_k3 155 (by decide +kernel) (by decide +kernel)), (lw_k3 156 (by decide +kernel) (by decide +kernel)), (lw_k3 157 (by decide +kernel) (by decide +kernel))⟩
theorem kML_103 : okV RL 103 mX7_inState 1 := ⟨kCX7_inState, (lw_k6 148 (by decide +kernel) (by decide +kernel)), (lw_k6 149 (by decide +kernel) (by decide +kernel)), (lw_k6 150 (by decide +kernel) (by decide +kernel))⟩
theorem kML_104 : okV RL 104 mX6_stretchLimit 1 := ⟨kCX6_stretchLimit, (lw_k3 167 (by decide +kernel) (by decide +kernel)), (lw_k3 168 (by decide +kernel) (by decide +kernel)), (lw_k3 169 (by decide +kernel) (by decide +kernel))⟩
theorem kML_107 : okV RL 107 mX7_stretchLimit 1 := ⟨kCX7_stretchLimit, (lw_k6 161 (by decide +kernel) (by decide +kernel)), (lw_k6 162 (by decide +kernel) (by decide +kernel)), (lw_k6 163 (by decide +kernel) (by decide +kernel))⟩
theorem kML_108 : okV RL 108 mX6_longestShape 1 := ⟨kCX6_longestShape, (lw_k3 179 (by decide +kernel) (by decide +kernel)), (lw_k3 180 (by decide +kernel) (by decide +kernel)), (lw_k3 181 (by decide +kernel) (by decide +kernel))⟩
theorem kML_111 : okV RL 111 mX7_longestShape 1 := ⟨kCX7_longestShape, (lw_k6 170 (by decide +kernel) (by decide +kernel)), (lw_k6 171 (by decide +kernel) (by decide +kernel)), (lw_k6 172 (by decide +kernel) (by decide +kernel))⟩
theorem kML_112 : okV RL 112 mX6_ifBoarded 2 := ⟨kCX6_ifBoarded, (lw_k3 188 (by decide +kernel) (by decide +kernel)), (lw_k3 189 (by decide +kernel) (by decide +kernel)), (lw_k3 190 (by decide +kernel) (by decide +kernel))⟩
theorem kML_116 : okV RL 116 mX7_ifBoarded 2 := ⟨kCX7_ifBoarded, (lw_k6 178 (by decide +kernel) (by decide +kernel)), (lw_k6 179 (by decide +kernel) (by decide +kernel)), (lw_k6 180 (by decide +kernel) (by decide +kernel))⟩
theorem kML_117 : okV RL 117 mX6_sizeOf 1 := ⟨kCX6_sizeOf, (lw_k3 213 (by decide +kernel) (by decide +kernel)), (lw_k3 214 (by decide +kernel) (by decide +kernel)), (lw_k3 215 (by decide +kernel) (by decide +kernel))⟩
theorem kML_120 : okV RL 120 mX7_sizeOf 1 := ⟨kCX7_sizeOf, (lw_k6 202 (by decide +kernel) (by decide +kernel)), (lw_k6 203 (by decide +kernel) (by decide +kernel)), (lw_k6 204 (by decide +kernel) (by decide +kernel))⟩
theorem kML_121 : okV RL 121 mX6_ofSize 1 := ⟨kCX6_ofSize, (lw_k3 226 (by decide +kernel) (by decide +kernel)), (lw_k3 227 (by decide +kernel) (by decide +kernel)), (lw_k3 228 (by decide +kernel) (by decide +kernel))⟩
theorem kML_124 : okV RL 124 mX7_ofSize 1 := ⟨kCX7_ofSize, (lw_k6 214 (by decide +kernel) (by decide +kernel)), (lw_k6 215 (by decide +kernel) (by decide +kernel)), (lw_k6 216 (by decide +kernel) (by decide +kernel))⟩
theorem kML_125 : okV RL 125 mX6_sorted 1 := ⟨kCX6_sorted, (lw_k3 234 (by decide +kernel) (by decide +kernel)), (lw_k3 235 (by decide +kernel) (by decide +kernel)), (lw_k3 236 (by decide +kernel) (by decide +kernel))⟩
theorem kML_128 : okV RL 128 mX7_sorted 1 := ⟨kCX7_sorted, (lw_k6 218 (by decide +kernel) (by decide +kernel)), (lw_k6 219 (by decide +kernel) (by decide +kernel)), (lw_k6 220 (by decide +kernel) (by decide +kernel))⟩
theorem kML_129 : okV RL 129 mX6_lengthRange 0 := ⟨kCX6_lengthRange, (lw_k4 2 (by decide +kernel) (by decide +kernel)), (lw_k4 3 (by decide +kernel) (by decide +kernel)), (lw_k4 4 (by decide +kernel) (by decide +kernel))⟩
theorem kML_132 : okV RL 132 mX7_lengthRange 0 := ⟨kCX7_lengthRange, (lw_k6 226 (by decide +kernel) (by decide +kernel)), (lw_k6 227 (by decide +kernel) (by decide +kernel)), (lw_k6 228 (by decide +kernel) (by decide +kernel))⟩
theorem kML_133 : okV RL 133 mX6_board 2 := ⟨kCX6_board, (lw_k4 11 (by decide +kernel) (by decide +kernel)), (lw_k4 12 (by decide +kernel) (by decide +kernel)), (lw_k4 13 (by decide +kernel) (by decide +kernel))⟩
theorem kML_136 : okV RL 136 mX7_board 2 := ⟨kCX7_board, (lw_k7 181 (by decide +kernel) (by decide +kernel)), (lw_k7 182 (by decide +kernel) (by decide +kernel)), (lw_k7 183 (by decide +kernel) (by decide +kernel))⟩
theorem kML_137 : okV RL 137 mX6_boardAll 1 := ⟨kCX6_boardAll, (lw_k4 20 (by decide +kernel) (by decide +kernel)), (lw_k4 21 (by decide +kernel) (by decide +kernel)), (lw_k4 22 (by decide +kernel) (by decide +kernel))⟩
theorem kML_140 : okV RL 140 mX7_boardAll 1 := ⟨kCX7_boardAll, (lw_k7 189 (by decide +kernel) (by decide +kernel)), (lw_k7 190 (by decide +kernel) (by decide +kernel)), (lw_k7 191 (by decide +kernel) (by decide +kernel))⟩
theorem kML_141 : okV RL 141 mX6_day 0 := ⟨kCX6_day, (lw_k4 29 (by decide +kernel) (by decide +kernel)), (lw_k4 30 (by decide +kernel) (by decide +kernel)), (lw_k4 31 (by decide +kernel) (by decide +kernel))⟩
theorem kML_144 : okV RL 144 mX7_day 0 := ⟨kCX7_day, (lw_k7 194 (by decide +kernel) (by decide +kernel)), (lw_k7 195 (by decide +kernel) (by decide +kernel)), (lw_k7 196 (by decide +kernel) (by decide +kernel))⟩
theorem kML_145 : okV RL 145 mX6_dye 2 := ⟨kCX6_dye, (lw_k4 38 (by decide +kernel) (by decide +kernel)), (lw_k4 39 (by decide +kernel) (by decide +kernel)), (lw_k4 40 (by decide +kernel) (by decide +kernel))⟩
theorem kML_148 : okV RL 148 mX7_dye 2 := ⟨kCX7_dye, (lw_k7 198 (by decide +kernel) (by decide +kernel)), (lw_k7 199 (by decide +kernel) (by decide +kernel)), (lw_k7 200 (by decide +kernel) (by decide +kernel))⟩
theorem kML_149 : okV RL 149 mX6_setTolerance 2 := ⟨kCX6_setTolerance, (lw_k4 42 (by decide +kernel) (by decide +kernel)), (lw_k4 43 (by decide +kernel) (by decide +kernel)), (lw_k4 44 (by decide +kernel) (by decide +kernel))⟩
theorem kML_152 : okV RL 152 mX7_setTolerance 2 := ⟨kCX7_setTolerance, (lw_k7 202 (by decide +kernel) (by decide +kernel)), (lw_k7 203 (by decide +kernel) (by decide +kernel)), (lw_k7 204 (by decide +kernel) (by decide +kernel))⟩
theorem kML_153 : okV RL 153 mX6_setSteam 1 := ⟨kCX6_setSteam, (lw_k4 49 (by decide +kernel) (by decide +kernel)), (lw_k4 50 (by decide +kernel) (by decide +kernel)), (lw_k4 51 (by decide +kernel) (by decide +kernel))⟩
theorem kML_156 : okV RL 156 mX7_setSteam 1 := ⟨kCX7_setSteam, (lw_k7 207 (by decide +kernel) (by decide +kernel)), (lw_k7 208 (by decide +kernel) (by decide +kernel)), (lw_k7 209 (by decide +kernel) (by decide +kernel))⟩
theorem kML_157 : okV RL 157 mX6_isMatch 2 := ⟨kCX6_isMatch, (lw_k4 158 (by decide +kernel) (by decide +kernel)), (lw_k4 159 (by decide +kernel) (by decide +kernel)), (lw_k4 160 (by decide +kernel) (by decide +kernel))⟩
theorem kML_160 : okV RL 160 mX7_isMatch 2 := ⟨kCX7_isMatch, (lw_k6 232 (by decide +kernel) (by decide +kernel)), (lw_k6 233 (by decide +kernel) (by decide +kernel)), (lw_k6 234 (by decide +kernel) (by decide +kernel))⟩
theorem kML_161 : okV RL 161 mX6_gap 2 := ⟨kCX6_gap, (lw_k4 167 (by decide +kernel) (by decide +kernel)), (lw_k4 168 (by decide +kernel) (by decide +kernel)), (lw_k4 169 (by decide +kernel) (by decide +kernel))⟩
theorem kML_164 : okV RL 164 mX7_gap 2 := ⟨kCX7_gap, (lw_k7 5 (by decide +kernel) (by decide +kernel)), (lw_k7 6 (by decide +kernel) (by decide +kernel)), (lw_k7 7 (by decide +kernel) (by decide +kernel))⟩
theorem kML_165 : okV RL 165 mX6_matches 1 := ⟨kCX6_matches, (lw_k4 172 (by decide +kernel) (by decide +kernel)), (lw_k4 173 (by decide +kernel) (by decide +kernel)), (lw_k4 174 (by decide +kernel) (by decide +kernel))⟩
theorem kML_168 : okV RL 168 mX7_matches 1 := ⟨kCX7_matches, (lw_k7 13 (by decide +kernel) (by decide +kernel)), (lw_k7 14 (by decide +kernel) (by decide +kernel)), (lw_k7 15 (by decide +kernel) (by decide +kernel))⟩
theorem kML_169 : okV RL 169 mX6_nearest 1 := ⟨kCX6_nearest, (lw_k4 181 (by decide +kernel) (by decide +kernel)), (lw_k4 182 (by decide +kernel) (by decide +kernel)), (lw_k4 183 (by decide +kernel) (by decide +kernel))⟩
theorem kML_172 : okV RL 172 mX7_nearest 1 := ⟨kCX7_nearest, (lw_k7 21 (by decide +kernel) (by decide +kernel)), (lw_k7 22 (by decide +kernel) (by decide +kernel)), (lw_k7 23 (by decide +kernel) (by decide +kernel))⟩
theorem kML_173 : okV RL 173 mX6_pairCount 0 := ⟨kCX6_pairCount, (lw_k4 185 (by decide +kernel) (by decide +kernel)), (lw_k4 186 (by decide +kernel) (by decide +kernel)), (lw_k4 187 (by decide +kernel) (by decide +kernel))⟩
theorem kML_176 : okV RL 176 mX7_pairCount 0 := ⟨kCX7_pairCount, (lw_k7 25 (by decide +kernel) (by decide +kernel)), (lw_k7 26 (by decide +kernel) (by decide +kernel)), (lw_k7 27 (by decide +kernel) (by decide +kernel))⟩
theorem kML_177 : okV RL 177 mX6_pairGap 0 := ⟨kCX6_pairGap, (lw_k4 189 (by decide +kernel) (by decide +kernel)), (lw_k4 190 (by decide +kernel) (by decide +kernel)), (lw_k4 191 (by decide +kernel) (by decide +kernel))⟩
theorem kML_180 : okV RL 180 mX7_pairGap 0 := ⟨kCX7_pairGap, (lw_k7 47 (by decide +kernel) (by decide +kernel)), (lw_k7 48 (by decide +kernel) (by decide +kernel)), (lw_k7 49 (by decide +kernel) (by decide +kernel))⟩
theorem kML_181 : okV RL 181 mX6_partner 1 := ⟨kCX6_partner, (lw_k4 193 (by decide +kernel) (by decide +kernel)), (lw_k4 194 (by decide +kernel) (by decide +kernel)), (lw_k4 195 (by decide +kernel) (by decide +kernel))⟩
theorem kML_184 : okV RL 184 mX7_partner 1 := ⟨kCX7_partner, (lw_k7 55 (by decide +kernel) (by decide +kernel)), (lw_k7 56 (by decide +kernel) (by decide +kernel)), (lw_k7 57 (by decide +kernel) (by decide +kernel))⟩
theorem kML_185 : okV RL 185 mX6_pair 1 := ⟨kCX6_pair, (lw_k4 197 (by decide +kernel) (by decide +kernel)), (lw_k4 198 (by decide +kernel) (by decide +kernel)), (lw_k4 199 (by decide +kernel) (by decide +kernel))⟩
theorem kML_188 : okV RL 188 mX7_pair 1 := ⟨kCX7_pair, (lw_k7 59 (by decide +kernel) (by decide +kernel)), (lw_k7 60 (by decide +kernel) (by decide +kernel)), (lw_k7 61 (by decide +kernel) (by decide +kernel))⟩
theorem kML_189 : okV RL 189 mX6_pairSize 1 := ⟨kCX6_pairSize, (lw_k4 206 (by decide +kernel) (by decide +kernel)), (lw_k4 207 (by decide +kernel) (by decide +kernel)), (lw_k4 208 (by decide +kernel) (by decide +kernel))⟩
theorem kML_192 : okV RL 192 mX7_pairSize 1 := ⟨kCX7_pairSize, (lw_k7 67 (by decide +kernel) (by decide +kernel)), (lw_k7 68 (by decide +kernel) (by decide +kernel)), (lw_k7 69 (by decide +kernel) (by decide +kernel))⟩
theorem kML_193 : okV RL 193 mX6_seconds 0 := ⟨kCX6_seconds, (lw_k4 214 (by decide +kernel) (by decide +kernel)), (lw_k4 215 (by decide +kernel) (by decide +kernel)), (lw_k4 216 (by decide +kernel) (by decide +kernel))⟩
theorem kML_196 : okV RL 196 mX7_seconds 0 := ⟨kCX7_seconds, (lw_k7 75 (by decide +kernel) (by decide +kernel)), (lw_k7 76 (by decide +kernel) (by decide +kernel)), (lw_k7 77 (by decide +kernel) (by decide +kernel))⟩
theorem kML_197 : okV RL 197 mX6_groupCount 0 := ⟨kCX6_groupCount, (lw_k4 218 (by decide +kernel) (by decide +kernel)), (lw_k4 219 (by decide +kernel) (by decide +kernel)), (lw_k4 220 (by decide +kernel) (by decide +kernel))⟩
theorem kML_200 : okV RL 200 mX7_groupCount 0 := ⟨kCX7_groupCount, (lw_k7 79 (by decide +kernel) (by decide +kernel)), (lw_k7 80 (by decide +kernel) (by decide +kernel)), (lw_k7 81 (by decide +kernel) (by decide +kernel))⟩
theorem kML_201 : okV RL 201 mX6_groupOf 1 := ⟨kCX6_groupOf, (lw_k4 229 (by decide +kernel) (by decide +kernel)), (lw_k4 230 (by decide +kernel) (by decide +kernel)), (lw_k4 231 (by decide +kernel) (by decide +kernel))⟩
theorem kML_204 : okV RL 204 mX7_groupOf 1 := ⟨kCX7_groupOf, (lw_k7 87 (by decide +kernel) (by decide +kernel)), (lw_k7 88 (by decide +kernel) (by decide +kernel)), (lw_k7 89 (by decide +kernel) (by decide +kernel))⟩
theorem kML_205 : okV RL 205 mX6_pack 0 := ⟨kCX6_pack, (lw_k4 53 (by decide +kernel) (by decide +kernel)), (lw_k4 54 (by decide +kernel) (by decide +kernel)), (lw_k4 55 (by decide +kernel) (by decide +kernel))⟩
theorem kML_208 : okV RL 208 mX7_pack 0 := ⟨kCX7_pack, (lw_k7 212 (by decide +kernel) (by decide +kernel)), (lw_k7 213 (by decide +kernel) (by decide +kernel)), (lw_k7 214 (by decide +kernel) (by decide +kernel))⟩
theorem kML_209 : okV RL 209 mX6_boxCount 0 := ⟨kCX6_boxCount, (lw_k4 146 (by decide +kernel) (by decide +kernel)), (lw_k4 147 (by decide +kernel) (by decide +kernel)), (lw_k4 148 (by decide +kernel) (by decide +kernel))⟩
theorem kML_212 : okV RL 212 mX7_boxCount 0 := ⟨kCX7_boxCount, (lw_k7 91 (by decide +kernel) (by decide +kernel)), (lw_k7 92 (by decide +kernel) (by decide +kernel)), (lw_k7 93 (by decide +kernel) (by decide +kernel))⟩
theorem kML_213 : okV RL 213 mX6_ifDays 1 := ⟨kCX6_ifDays, (lw_k4 233 (by decide +kernel) (by decide +kernel)), (lw_k4 234 (by decide +kernel) (by decide +kernel)), (lw_k4 235 (by decide +kernel) (by decide +kernel))⟩
theorem kML_216 : okV RL 216 mX7_ifDays 1 := ⟨kCX7_ifDays, (lw_k7 111 (by decide +kernel) (by decide +kernel)), (lw_k7 112 (by decide +kernel) (by decide +kernel)), (lw_k7 113 (by decide +kernel) (by decide +kernel))⟩
theorem kML_217 : okV RL 217 mX6_bestDay 1 := ⟨kCX6_bestDay, (lw_k5 1 (by decide +kernel) (by decide +kernel)), (lw_k5 2 (by decide +kernel) (by decide +kernel)), (lw_k5 3 (by decide +kernel) (by decide +kernel))⟩
theorem kML_220 : okV RL 220 mX7_bestDay 1 := ⟨kCX7_bestDay, (lw_k7 124 (by decide +kernel) (by decide +kernel)), (lw_k7 125 (by decide +kernel) (by decide +kernel)), (lw_k7 126 (by decide +kernel) (by decide +kernel))⟩
theorem kML_221 : okV RL 221 mX6_ifAllBoarded 1 := ⟨kCX6_ifAllBoarded, (lw_k5 9 (by decide +kernel) (by decide +kernel)), (lw_k5 10 (by decide +kernel) (by decide +kernel)), (lw_k5 11 (by decide +kernel) (by decide +kernel))⟩
theorem kML_224 : okV RL 224 mX7_ifAllBoarded 1 := ⟨kCX7_ifAllBoarded, (lw_k7 128 (by decide +kernel) (by decide +kernel)), (lw_k7 129 (by decide +kernel) (by decide +kernel)), (lw_k7 130 (by decide +kernel) (by decide +kernel))⟩
theorem kML_225 : okV RL 225 mX6_bestShape 0 := ⟨kCX6_bestShape, (lw_k5 17 (by decide +kernel) (by decide +kernel)), (lw_k5 18 (by decide +kernel) (by decide +kernel)), (lw_k5 19 (by decide +kernel) (by decide +kernel))⟩
theorem kML_228 : okV RL 228 mX7_bestShape 0 := ⟨kCX7_bestShape, (lw_k7 144 (by decide +kernel) (by decide +kernel)), (lw_k7 145 (by decide +kernel) (by decide +kernel)), (lw_k7 146 (by decide +kernel) (by decide +kernel))⟩
theorem kML_229 : okV RL 229 mX6_leastSteam 2 := ⟨kCX6_leastSteam, (lw_k5 21 (by decide +kernel) (by decide +kernel)), (lw_k5 22 (by decide +kernel) (by decide +kernel)), (lw_k5 23 (by decide +kernel) (by decide +kernel))⟩
theorem kML_232 : okV RL 232 mX7_leastSteam 2 := ⟨kCX7_leastSteam, (lw_k7 148 (by decide +kernel) (by decide +kernel)), (lw_k7 149 (by decide +kernel) (by decide +kernel)), (lw_k7 150 (by decide +kernel) (by decide +kernel))⟩
theorem kML_233 : okV RL 233 mX6_leastTolerance 1 := ⟨kCX6_leastTolerance, (lw_k5 25 (by decide +kernel) (by decide +kernel)), (lw_k5 26 (by decide +kernel) (by decide +kernel)), (lw_k5 27 (by decide +kernel) (by decide +kernel))⟩
theorem kML_236 : okV RL 236 mX7_leastTolerance 1 := ⟨kCX7_leastTolerance, (lw_k7 156 (by decide +kernel) (by decide +kernel)), (lw_k7 157 (by decide +kernel) (by decide +kernel)), (lw_k7 158 (by decide +kernel) (by decide +kernel))⟩
theorem kML_237 : okV RL 237 mX6_bestDye 1 := ⟨kCX6_bestDye, (lw_k5 37 (by decide +kernel) (by decide +kernel)), (lw_k5 38 (by decide +kernel) (by decide +kernel)), (lw_k5 39 (by decide +kernel) (by decide +kernel))⟩
theorem kML_240 : okV RL 240 mX7_bestDye 1 := ⟨kCX7_bestDye, (lw_k7 164 (by decide +kernel) (by decide +kernel)), (lw_k7 165 (by decide +kernel) (by decide +kernel)), (lw_k7 166 (by decide +kernel) (by decide +kernel))⟩
theorem kML_241 : okV RL 241 mX6_undo 0 := ⟨kCX6_undo, (lw_k4 150 (by decide +kernel) (by decide +kernel)), (lw_k4 151 (by decide +kernel) (by decide +kernel)), (lw_k4 152 (by decide +kernel) (by decide +kernel))⟩
theorem kML_244 : okV RL 244 mX7_undo 0 := ⟨kCX7_undo, (lw_k7 173 (by decide +kernel) (by decide +kernel)), (lw_k7 174 (by decide +kernel) (by decide +kernel)), (lw_k7 175 (by decide +kernel) (by decide +kernel))⟩
theorem kML_245 : okV RL 245 mX6_writePlant 0 := ⟨kCX6_writePlant, (lw_k5 41 (by decide +kernel) (by decide +kernel)), (lw_k5 42 (by decide +kernel) (by decide +kernel)), (lw_k5 43 (by decide +kernel) (by decide +kernel))⟩
theorem kML_248 : okV RL 248 mX7_writePlant 0 := ⟨kCX7_writePlant, (lw_k8 117 (by decide +kernel) (by decide +kernel)), (lw_k8 118 (by decide +kernel) (by decide +kernel)), (lw_k8 119 (by decide +kernel) (by decide +kernel))⟩
theorem kML_249 : okV RL 249 mX6_outputByte 1 := ⟨kCX6_outputByte, (lw_k5 226 (by decide +kernel) (by decide +kernel)), (lw_k5 227 (by decide +kernel) (by decide +kernel)), (lw_k5 228 (by decide +kernel) (by decide +kernel))⟩
theorem kML_252 : okV RL 252 mX7_outputByte 1 := ⟨kCX7_outputByte, (lw_k8 155 (by decide +kernel) (by decide +kernel)), (lw_k8 156 (by decide +kernel) (by decide +kernel)), (lw_k8 157 (by decide +kernel) (by decide +kernel))⟩
theorem kML_253 : okV RL 253 mX6_ifTolerance 2 := ⟨kCX6_ifTolerance, (lw_k5 33 (by decide +kernel) (by decide +kernel)), (lw_k5 34 (by decide +kernel) (by decide +kernel)), (lw_k5 35 (by decide +kernel) (by decide +kernel))⟩
theorem kML_256 : okV RL 256 mX7_ifTolerance 2 := ⟨kCX7_ifTolerance, (lw_k8 159 (by decide +kernel) (by decide +kernel)), (lw_k8 160 (by decide +kernel) (by decide +kernel)), (lw_k8 161 (by decide +kernel) (by decide +kernel))⟩
theorem kML_257 : okV RL 257 mX6_worstPair 0 := ⟨kCX6_worstPair, (lw_k4 210 (by decide +kernel) (by decide +kernel)), (lw_k4 211 (by decide +kernel) (by decide +kernel)), (lw_k4 212 (by decide +kernel) (by decide +kernel))⟩
theorem kML_260 : okV RL 260 mX7_worstPair 0 := ⟨kCX7_worstPair, (lw_k8 163 (by decide +kernel) (by decide +kernel)), (lw_k8 164 (by decide +kernel) (by decide +kernel)), (lw_k8 165 (by decide +kernel) (by decide +kernel))⟩
theorem kML_261 : okV RL 261 mX6_ofYarn 1 := ⟨kCX6_ofYarn, (lw_k3 163 (by decide +kernel) (by decide +kernel)), (lw_k3 164 (by decide +kernel) (by decide +kernel)), (lw_k3 165 (by decide +kernel) (by decide +kernel))⟩
theorem kML_264 : okV RL 264 mX7_ofYarn 1 := ⟨kCX7_ofYarn, (lw_k8 167 (by decide +kernel) (by decide +kernel)), (lw_k8 168 (by decide +kernel) (by decide +kernel)), (lw_k8 169 (by decide +kernel) (by decide +kernel))⟩
theorem kML_265 : okV RL 265 mX6_daysToSize 2 := ⟨kCX6_daysToSize, (lw_k5 5 (by decide +kernel) (by decide +kernel)), (lw_k5 6 (by decide +kernel) (by decide +kernel)), (lw_k5 7 (by decide +kernel) (by decide +kernel))⟩
theorem kML_268 : okV RL 268 mX7_daysToSize 2 := ⟨kCX7_daysToSize, (lw_k8 171 (by decide +kernel) (by decide +kernel)), (lw_k8 172 (by decide +kernel) (by decide +kernel)), (lw_k8 173 (by decide +kernel) (by decide +kernel))⟩
theorem kML_269 : okV RL 269 mX6_shapeFor 2 := ⟨kCX6_shapeFor, (lw_k3 205 (by decide +kernel) (by decide +kernel)), (lw_k3 206 (by decide +kernel) (by decide +kernel)), (lw_k3 207 (by decide +kernel) (by decide +kernel))⟩
theorem kML_272 : okV RL 272 mX7_shapeFor 2 := ⟨kCX7_shapeFor, (lw_k8 175 (by decide +kernel) (by decide +kernel)), (lw_k8 176 (by decide +kernel) (by decide +kernel)), (lw_k8 177 (by decide +kernel) (by decide +kernel))⟩
theorem kMX7_48 : okS RX7 48 mX7_clear 1 := ⟨kCX7_clear, (lw_k6 6 (by decide +kernel) (by decide +kernel)), (lw_k6 7 (by decide +kernel) (by decide +kernel))⟩
theorem kMX7_52 : okS RX7 52 mX7_at 2 := ⟨kCX7_at, (lw_k6 125 (by decide +kernel) (by decide +kernel)), (lw_k6 126 (by decide +kernel) (by decide +kernel))⟩
theorem kMX7_56 : okS RX7 56 mX7_in 3 := ⟨kCX7_in, (lw_k6 118 (by decide +kernel) (by decide +kernel)), (lw_k6 119 (by decide +kernel) (by decide +kernel))⟩
theorem kMX7_60 : okV RX7 60 mX7_field 2 := ⟨kCX7_field, (lw_k6 121 (by decide +kernel) (by decide +kernel)), (lw_k6 123 (by decide +kernel) (by decide +kernel)), (lw_mg 43 (by decide +kernel) (by decide +kernel))⟩
theorem kMX7_68 : okV RX7 68 mX7_limitOf 1 := ⟨kCX7_limitOf, (lw_k6 165 (by decide +kernel) (by decide +kernel)), (lw_k6 167 (by decide +kernel) (by decide +kernel)), (lw_mg 46 (by decide +kernel) (by decide +kernel))⟩
theorem kMX7_72 : okV RX7 72 mX7_shapeLength 1 := ⟨kCX7_shapeLength, (lw_k6 194 (by decide +kernel) (by decide +kernel)), (lw_k6 196 (by decide +kernel) (by decide +kernel)), (lw_mg 51 (by decide +kernel) (by decide +kernel))⟩
theorem kMX7_75 : okV RX7 75 mX7_longestOf 1 := ⟨kCX7_longestOf, (lw_k6 174 (by decide +kernel) (by decide +kernel)), (lw_k6 176 (by decide +kernel) (by decide +kernel)), (lw_mg 47 (by decide +kernel) (by decide +kernel))⟩
theorem kMX7_78 : okV RX7 78 mX7_wouldTear 2 := ⟨kCX7_wouldTear, (lw_k6 190 (by decide +kernel) (by decide +kernel)), (lw_k6 192 (by decide +kernel) (by decide +kernel)), (lw_mg 50 (by decide +kernel) (by decide +kernel))⟩
theorem kMX7_82 : okV RX7 82 mX7_lengthOn 2 := ⟨kCX7_lengthOn, (lw_k6 198 (by decide +kernel) (by decide +kernel)), (lw_k6 200 (by decide +kernel) (by decide +kernel)), (lw_mg 52 (by decide +kernel) (by decide +kernel))⟩
theorem kMX7_85 : okV RX7 85 mX7_count 0 := ⟨kCX7_count, (lw_k6 153 (by decide +kernel) (by decide +kernel)), (lw_k6 155 (by decide +kernel) (by decide +kernel)), (lw_mg 44 (by decide +kernel) (by decide +kernel))⟩
theorem kMX7_89 : okV RX7 89 mX7_isIn 2 := ⟨kCX7_isIn, (lw_k6 157 (by decide +kernel) (by decide +kernel)), (lw_k6 159 (by decide +kernel) (by decide +kernel)), (lw_mg 45 (by decide +kernel) (by decide +kernel))⟩
theorem kMX7_92 : okV RX7 92 mX7_put 2 := ⟨kCX7_put, (lw_k7 140 (by decide +kernel) (by decide +kernel)), (lw_k7 142 (by decide +kernel) (by decide +kernel)), (lw_mg 75 (by decide +kernel) (by decide +kernel))⟩
theorem kMX7_95 : okV RX7 95 mX7_sizeFor 2 := ⟨kCX7_sizeFor, (lw_k6 210 (by decide +kernel) (by decide +kernel)), (lw_k6 212 (by decide +kernel) (by decide +kernel)), (lw_mg 54 (by decide +kernel) (by decide +kernel))⟩
theorem kMX7_101 : okV RX7 101 mX7_areMatch 2 := ⟨kCX7_areMatch, (lw_k7 0 (by decide +kernel) (by decide +kernel)), (lw_k7 2 (by decide +kernel) (by decide +kernel)), (lw_mg 57 (by decide +kernel) (by decide +kernel))⟩
theorem kMX7_104 : okS RX7 104 mX7_hasBit 2 := ⟨kCX7_hasBit, (lw_k7 40 (by decide +kernel) (by decide +kernel)), (lw_k7 41 (by decide +kernel) (by decide +kernel))⟩
theorem kMX7_107 : okV RX7 107 mX7_matchesOf 1 := ⟨kCX7_matchesOf, (lw_k7 17 (by decide +kernel) (by decide +kernel)), (lw_k7 19 (by decide +kernel) (by decide +kernel)), (lw_mg 59 (by decide +kernel) (by decide +kernel))⟩
theorem kMX7_110 : okS RX7 110 mX7_lowest 1 := ⟨kCX7_lowest, (lw_k7 37 (by decide +kernel) (by decide +kernel)), (lw_k7 38 (by decide +kernel) (by decide +kernel))⟩
theorem kMX7_113 : okV RX7 113 mX7_worthWith 3 := ⟨kCX7_worthWith, (lw_k7 43 (by decide +kernel) (by decide +kernel)), (lw_k7 45 (by decide +kernel) (by decide +kernel)), (lw_mg 62 (by decide +kernel) (by decide +kernel))⟩
theorem kMX7_118 : okV RX7 118 mX7_gapOf 2 := ⟨kCX7_gapOf, (lw_k7 9 (by decide +kernel) (by decide +kernel)), (lw_k7 11 (by decide +kernel) (by decide +kernel)), (lw_mg 58 (by decide +kernel) (by decide +kernel))⟩
theorem kMX7_121 : okV RX7 121 mX7_layWorth 0 := ⟨kCX7_layWorth, (lw_k7 33 (by decide +kernel) (by decide +kernel)), (lw_k7 35 (by decide +kernel) (by decide +kernel)), (lw_mg 61 (by decide +kernel) (by decide +kernel))⟩
theorem kMX7_124 : okV RX7 124 mX7_countPairs 0 := ⟨kCX7_countPairs, (lw_k7 29 (by decide +kernel) (by decide +kernel)), (lw_k7 31 (by decide +kernel) (by decide +kernel)), (lw_mg 60 (by decide +kernel) (by decide +kernel))⟩
theorem kMX7_130 : okV RX7 130 mX7_sizeOfPair 1 := ⟨kCX7_sizeOfPair, (lw_k7 71 (by decide +kernel) (by decide +kernel)), (lw_k7 73 (by decide +kernel) (by decide +kernel)), (lw_mg 65 (by decide +kernel) (by decide +kernel))⟩
theorem kMX7_133 : okV RX7 133 mX7_isSized 1 := ⟨kCX7_isSized, (lw_k7 99 (by decide +kernel) (by decide +kernel)), (lw_k7 101 (by decide +kernel) (by decide +kernel)), (lw_mg 68 (by decide +kernel) (by decide +kernel))⟩
theorem kMX7_137 : okV RX7 137 mX7_groupKey 1 := ⟨kCX7_groupKey, (lw_k7 107 (by decide +kernel) (by decide +kernel)), (lw_k7 109 (by decide +kernel) (by decide +kernel)), (lw_mg 70 (by decide +kernel) (by decide +kernel))⟩
theorem kMX7_140 : okV RX7 140 mX7_layPartners 0 := ⟨kCX7_layPartners, (lw_k7 51 (by decide +kernel) (by decide +kernel)), (lw_k7 53 (by decide +kernel) (by decide +kernel)), (lw_mg 63 (by decide +kernel) (by decide +kernel))⟩
theorem kMX7_143 : okV RX7 143 mX7_inGroup 2 := ⟨kCX7_inGroup, (lw_k7 103 (by decide +kernel) (by decide +kernel)), (lw_k7 105 (by decide +kernel) (by decide +kernel)), (lw_mg 69 (by decide +kernel) (by decide +kernel))⟩
theorem kMX7_150 : okV RX7 150 mX7_isPiece 1 := ⟨kCX7_isPiece, (lw_k6 114 (by decide +kernel) (by decide +kernel)), (lw_k6 116 (by decide +kernel) (by decide +kernel)), (lw_mg 42 (by decide +kernel) (by decide +kernel))⟩
theorem kMX7_155 : okV RX7 155 mX7_isShape 1 := ⟨kCX7_isShape, (lw_k6 182 (by decide +kernel) (by decide +kernel)), (lw_k6 184 (by decide +kernel) (by decide +kernel)), (lw_mg 48 (by decide +kernel) (by decide +kernel))⟩
theorem kMX7_158 : okV RX7 158 mX7_isDone 1 := ⟨kCX7_isDone, (lw_k6 186 (by decide +kernel) (by decide +kernel)), (lw_k6 188 (by decide +kernel) (by decide +kernel)), (lw_mg 49 (by decide +kernel) (by decide +kernel))⟩
theorem kMX7_161 : okV RX7 161 mX7_sizeOfPiece 1 := ⟨kCX7_sizeOfPiece, (lw_k6 206 (by decide +kernel) (by decide +kernel)), (lw_k6 208 (by decide +kernel) (by decide +kernel)), (lw_mg 53 (by decide +kernel) (by decide +kernel))⟩
theorem kMX7_164 : okV RX7 164 mX7_isBefore 2 := ⟨kCX7_isBefore, (lw_k6 222 (by decide +kernel) (by decide +kernel)), (lw_k6 224 (by decide +kernel) (by decide +kernel)), (lw_mg 55 (by decide +kernel) (by decide +kernel))⟩
theorem kMX7_167 : okV RX7 167 mX7_areTwo 2 := ⟨kCX7_areTwo, (lw_k6 236 (by decide +kernel) (by decide +kernel)), (lw_k6 238 (by decide +kernel) (by decide +kernel)), (lw_mg 56 (by decide +kernel) (by decide +kernel))⟩
theorem kMX7_170 : okV RX7 170 mX7_pairAt 1 := ⟨kCX7_pairAt, (lw_k7 63 (by decide +kernel) (by decide +kernel)), (lw_k7 65 (by decide +kernel) (by decide +kernel)), (lw_mg 64 (by decide +kernel) (by decide +kernel))⟩
theorem kMX7_173 : okV RX7 173 mX7_together 1 := ⟨kCX7_together, (lw_k7 83 (by decide +kernel) (by decide +kernel)), (lw_k7 85 (by decide +kernel) (by decide +kernel)), (lw_mg 66 (by decide +kernel) (by decide +kernel))⟩
theorem kMX7_176 : okV RX7 176 mX7_packedSet 0 := ⟨kCX7_packedSet, (lw_k7 95 (by decide +kernel) (by decide +kernel)), (lw_k7 97 (by decide +kernel) (by decide +kernel)), (lw_mg 67 (by decide +kernel) (by decide +kernel))⟩
theorem kMX7_181 : okV RX7 181 mX7_startPrediction 0 := ⟨kCX7_startPrediction, (lw_k7 116 (by decide +kernel) (by decide +kernel)), (lw_k7 118 (by decide +kernel) (by decide +kernel)), (lw_mg 71 (by decide +kernel) (by decide +kernel))⟩
theorem kMX7_184 : okV RX7 184 mX7_pass 0 := ⟨kCX7_pass, (lw_k7 120 (by decide +kernel) (by decide +kernel)), (lw_k7 122 (by decide +kernel) (by decide +kernel)), (lw_mg 72 (by decide +kernel) (by decide +kernel))⟩
theorem kMX7_187 : okV RX7 187 mX7_putAll 1 := ⟨kCX7_putAll, (lw_k7 136 (by decide +kernel) (by decide +kernel)), (lw_k7 138 (by decide +kernel) (by decide +kernel)), (lw_mg 74 (by decide +kernel) (by decide +kernel))⟩
theorem kMX7_190 : okV RX7 190 mX7_pairsOn 2 := ⟨kCX7_pairsOn, (lw_k7 132 (by decide +kernel) (by decide +kernel)), (lw_k7 134 (by decide +kernel) (by decide +kernel)), (lw_mg 73 (by decide +kernel) (by decide +kernel))⟩
theorem kMX7_195 : okS RX7 195 mX7_isPairs 1 := ⟨kCX7_isPairs, (lw_k7 152 (by decide +kernel) (by decide +kernel)), (lw_k7 153 (by decide +kernel) (by decide +kernel))⟩
theorem kMX7_198 : okV RX7 198 mX7_pairsWithin 1 := ⟨kCX7_pairsWithin, (lw_k7 160 (by decide +kernel) (by decide +kernel)), (lw_k7 162 (by decide +kernel) (by decide +kernel)), (lw_mg 76 (by decide +kernel) (by decide +kernel))⟩
theorem kMX7_203 : okV RX7 203 mX7_pairsDyed 2 := ⟨kCX7_pairsDyed, (lw_k7 169 (by decide +kernel) (by decide +kernel)), (lw_k7 171 (by decide +kernel) (by decide +kernel)), (lw_mg 77 (by decide +kernel) (by decide +kernel))⟩
theorem kMX7_209 : okV RX7 209 mX7_remember 0 := ⟨kCX7_remember, (lw_k7 185 (by decide +kernel) (by decide +kernel)), (lw_k7 187 (by decide +kernel) (by decide +kernel)), (lw_mg 78 (by decide +kernel) (by decide +kernel))⟩
theorem kMX7_212 : okV RX7 212 mX7_inState 1 := ⟨kCX7_inState, (lw_k7 193 (by decide +kernel) (by decide +kernel)), (lw_k6 149 (by decide +kernel) (by decide +kernel)), (lw_k6 150 (by decide +kernel) (by decide +kernel))⟩
theorem kMX7_222 : okV RX7 222 mX7_appendFour 1 := ⟨kCX7_appendFour, (lw_k7 220 (by decide +kernel) (by decide +kernel)), (lw_k7 222 (by decide +kernel) (by decide +kernel)), (lw_mg 79 (by decide +kernel) (by decide +kernel))⟩
theorem kMX7_229 : okV RX7 229 mX7_good 0 := ⟨kCX7_good, (lw_k8 5 (by decide +kernel) (by decide +kernel)), (lw_k8 7 (by decide +kernel) (by decide +kernel)), (lw_mg 82 (by decide +kernel) (by decide +kernel))⟩
theorem kMX7_242 : okV RX7 242 mX7_byteAt 1 := ⟨kCX7_byteAt, (lw_k7 236 (by decide +kernel) (by decide +kernel)), (lw_k7 238 (by decide +kernel) (by decide +kernel)), (lw_mg 81 (by decide +kernel) (by decide +kernel))⟩
theorem kMX7_260 : okV RX7 260 mX7_advance 0 := ⟨kCX7_advance, (lw_k7 232 (by decide +kernel) (by decide +kernel)), (lw_k7 234 (by decide +kernel) (by decide +kernel)), (lw_mg 80 (by decide +kernel) (by decide +kernel))⟩
theorem kMX7_263 : okV RX7 263 mJ0_length_8abf5 0 := ⟨kCJ0_length_8abf5, (lw_k8 18 (by decide +kernel) (by decide +kernel)), (lw_k2 147 (by decide +kernel) (by decide +kernel)), (lw_k2 148 (by decide +kernel) (by decide +kernel))⟩
theorem kMX7_268 : okV RX7 268 mJ0_charAt_5068e 1 := ⟨kCJ0_charAt_5068e, (lw_k8 19 (by decide +kernel) (by decide +kernel)), (lw_k2 156 (by decide +kernel) (by decide +kernel)), (lw_k2 157 (by decide +kernel) (by decide +kernel))⟩
theorem kMX7_274 : okV RX7 274 mX7_isText 1 := ⟨kCX7_isText, (lw_k8 14 (by decide +kernel) (by decide +kernel)), (lw_k8 16 (by decide +kernel) (by decide +kernel)), (lw_mg 84 (by decide +kernel) (by decide +kernel))⟩
theorem kMX7_295 : okV RX7 295 mX7_kindHere 0 := ⟨kCX7_kindHere, (lw_k8 62 (by decide +kernel) (by decide +kernel)), (lw_k8 64 (by decide +kernel) (by decide +kernel)), (lw_mg 94 (by decide +kernel) (by decide +kernel))⟩
theorem kMX7_300 : okV RX7 300 mX7_fail 1 := ⟨kCX7_fail, (lw_k8 24 (by decide +kernel) (by decide +kernel)), (lw_k8 26 (by decide +kernel) (by decide +kernel)), (lw_mg 86 (by decide +kernel) (by decide +kernel))⟩
theorem kMX7_303 : okV RX7 303 mX7_goOn 0 := ⟨kCX7_goOn, (lw_k8 28 (by decide +kernel) (by decide +kernel)), (lw_k8 30 (by decide +kernel) (by decide +kernel)), (lw_mg 87 (by decide +kernel) (by decide +kernel))⟩
theorem kMX7_306 : okV RX7 306 mX7_isKeyword 0 := ⟨kCX7_isKeyword, (lw_k8 55 (by decide +kernel) (by decide +kernel)), (lw_k8 57 (by decide +kernel) (by decide +kernel)), (lw_mg 93 (by decide +kernel) (by decide +kernel))⟩
theorem kMX7_309 : okV RX7 309 mX7_packed 0 := ⟨kCX7_packed, (lw_k8 70 (by decide +kernel) (by decide +kernel)), (lw_k8 72 (by decide +kernel) (by decide +kernel)), (lw_mg 95 (by decide +kernel) (by decide +kernel))⟩
theorem kMX7_312 : okV RX7 312 mX7_nameHere 0 := ⟨kCX7_nameHere, (lw_k8 51 (by decide +kernel) (by decide +kernel)), (lw_k8 53 (by decide +kernel) (by decide +kernel)), (lw_mg 92 (by decide +kernel) (by decide +kernel))⟩
theorem kMX7_315 : okV RX7 315 mX7_findIn 4 := ⟨kCX7_findIn, (lw_k8 74 (by decide +kernel) (by decide +kernel)), (lw_k8 76 (by decide +kernel) (by decide +kernel)), (lw_mg 96 (by decide +kernel) (by decide +kernel))⟩
theorem kMX7_322 : okV RX7 322 mX7_number 2 := ⟨kCX7_number, (lw_k8 32 (by decide +kernel) (by decide +kernel)), (lw_k8 34 (by decide +kernel) (by decide +kernel)), (lw_mg 88 (by decide +kernel) (by decide +kernel))⟩
theorem kMX7_325 : okV RX7 325 mX7_enter 2 := ⟨kCX7_enter, (lw_k8 43 (by decide +kernel) (by decide +kernel)), (lw_k8 45 (by decide +kernel) (by decide +kernel)), (lw_mg 90 (by decide +kernel) (by decide +kernel))⟩
theorem kMX7_329 : okV RX7 329 mX7_newName 3 := ⟨kCX7_newName, (lw_k8 47 (by decide +kernel) (by decide +kernel)), (lw_k8 49 (by decide +kernel) (by decide +kernel)), (lw_mg 91 (by decide +kernel) (by decide +kernel))⟩
theorem kMX7_332 : okV RX7 332 mX7_someLength 1 := ⟨kCX7_someLength, (lw_k8 82 (by decide +kernel) (by decide +kernel)), (lw_k8 84 (by decide +kernel) (by decide +kernel)), (lw_mg 98 (by decide +kernel) (by decide +kernel))⟩
theorem kMX7_335 : okV RX7 335 mX7_times 0 := ⟨kCX7_times, (lw_k8 94 (by decide +kernel) (by decide +kernel)), (lw_k8 96 (by decide +kernel) (by decide +kernel)), (lw_mg 101 (by decide +kernel) (by decide +kernel))⟩
theorem kMX7_337 : okV RX7 337 mX7_add 4 := ⟨kCX7_add, (lw_k8 99 (by decide +kernel) (by decide +kernel)), (lw_k8 101 (by decide +kernel) (by decide +kernel)), (lw_mg 102 (by decide +kernel) (by decide +kernel))⟩
theorem kMX7_343 : okV RX7 343 mX7_once 1 := ⟨kCX7_once, (lw_k8 20 (by decide +kernel) (by decide +kernel)), (lw_k8 22 (by decide +kernel) (by decide +kernel)), (lw_mg 85 (by decide +kernel) (by decide +kernel))⟩
theorem kMX7_346 : okV RX7 346 mX7_parseYarn 0 := ⟨kCX7_parseYarn, (lw_k8 39 (by decide +kernel) (by decide +kernel)), (lw_k8 41 (by decide +kernel) (by decide +kernel)), (lw_mg 89 (by decide +kernel) (by decide +kernel))⟩
theorem kMX7_349 : okV RX7 349 mX7_parseShape 0 := ⟨kCX7_parseShape, (lw_k8 78 (by decide +kernel) (by decide +kernel)), (lw_k8 80 (by decide +kernel) (by decide +kernel)), (lw_mg 97 (by decide +kernel) (by decide +kernel))⟩
theorem kMX7_352 : okV RX7 352 mX7_parseSize 0 := ⟨kCX7_parseSize, (lw_k8 86 (by decide +kernel) (by decide +kernel)), (lw_k8 88 (by decide +kernel) (by decide +kernel)), (lw_mg 99 (by decide +kernel) (by decide +kernel))⟩
theorem kMX7_355 : okV RX7 355 mX7_parsePiece 0 := ⟨kCX7_parsePiece, (lw_k8 90 (by decide +kernel) (by decide +kernel)), (lw_k8 92 (by decide +kernel) (by decide +kernel)), (lw_mg 100 (by decide +kernel) (by decide +kernel))⟩
theorem kMX7_358 : okV RX7 358 mX7_parseStatement 0 := ⟨kCX7_parseStatement, (lw_k8 9 (by decide +kernel) (by decide +kernel)), (lw_k8 11 (by decide +kernel) (by decide +kernel)), (lw_mg 83 (by decide +kernel) (by decide +kernel))⟩
theorem kMX7_368 : okV RX7 368 mX7_write 1 := ⟨kCX7_write, (lw_k8 125 (by decide +kernel) (by decide +kernel)), (lw_k8 127 (by decide +kernel) (by decide +kernel)), (lw_mg 104 (by decide +kernel) (by decide +kernel))⟩
theorem kMX7_371 : okS RX7 371 mX7_letterOf 2 := ⟨kCX7_letterOf, (lw_k8 145 (by decide +kernel) (by decide +kernel)), (lw_k8 146 (by decide +kernel) (by decide +kernel))⟩
theorem kMX7_374 : okV RX7 374 mX7_writeNumber 1 := ⟨kCX7_writeNumber, (lw_k8 133 (by decide +kernel) (by decide +kernel)), (lw_k8 135 (by decide +kernel) (by decide +kernel)), (lw_mg 106 (by decide +kernel) (by decide +kernel))⟩
theorem kMX7_377 : okV RX7 377 mX7_writeText 1 := ⟨kCX7_writeText, (lw_k8 121 (by decide +kernel) (by decide +kernel)), (lw_k8 123 (by decide +kernel) (by decide +kernel)), (lw_mg 103 (by decide +kernel) (by decide +kernel))⟩
theorem kMX7_381 : okV RX7 381 mX7_writeName 1 := ⟨kCX7_writeName, (lw_k8 141 (by decide +kernel) (by decide +kernel)), (lw_k8 143 (by decide +kernel) (by decide +kernel)), (lw_mg 108 (by decide +kernel) (by decide +kernel))⟩
theorem kMX7_384 : okV RX7 384 mX7_writeNumbers 2 := ⟨kCX7_writeNumbers, (lw_k8 129 (by decide +kernel) (by decide +kernel)), (lw_k8 131 (by decide +kernel) (by decide +kernel)), (lw_mg 105 (by decide +kernel) (by decide +kernel))⟩
theorem kMX7_393 : okV RX7 393 mX7_writeTable 4 := ⟨kCX7_writeTable, (lw_k8 137 (by decide +kernel) (by decide +kernel)), (lw_k8 139 (by decide +kernel) (by decide +kernel)), (lw_mg 107 (by decide +kernel) (by decide +kernel))⟩
theorem kMX7_397 : okV RX7 397 mX7_writePiece 1 := ⟨kCX7_writePiece, (lw_k8 148 (by decide +kernel) (by decide +kernel)), (lw_k8 150 (by decide +kernel) (by decide +kernel)), (lw_mg 109 (by decide +kernel) (by decide +kernel))⟩
theorem kMJ5_26 : okS RJ5 26 mJ2_newBytesFor_77867 1 := ⟨kCJ2_newBytesFor_77867, (lw_k1 39 (by decide +kernel) (by decide +kernel)), (lw_k1 40 (by decide +kernel) (by decide +kernel))⟩
theorem kMJ5_32 : okV RJ5 32 mJ0_length_8abf5 0 := ⟨kCJ0_length_8abf5, (lw_k5 126 (by decide +kernel) (by decide +kernel)), (lw_k2 147 (by decide +kernel) (by decide +kernel)), (lw_k2 148 (by decide +kernel) (by decide +kernel))⟩
theorem kMJ5_40 : okV RJ5 40 mJ0_coder_7d493 0 := ⟨kCJ0_coder_7d493, (lw_k5 135 (by decide +kernel) (by decide +kernel)), (lw_k2 151 (by decide +kernel) (by decide +kernel)), (lw_k2 152 (by decide +kernel) (by decide +kernel))⟩
-- other call: java/lang/AbstractStringBuilder 83 ('java/lang/AbstractStringBuilder', 'isLatin1', '()Z')
-- other call: java/lang/AbstractStringBuilder 100 ('java/lang/AbstractStringBuilder', 'ensureCapacityInternal', '(I)V')
-- other call: java/lang/AbstractStringBuilder 104 ('java/lang/AbstractStringBuilder', 'newCapacity', '(I)I')
theorem kMJ5_108 : okS RJ5 108 mJ7_copyOf_9075b 2 := ⟨kCJ7_copyOf_9075b, (lw_k5 69 (by decide +kernel) (by decide +kernel)), (lw_k5 70 (by decide +kernel) (by decide +kernel))⟩
theorem kMJ5_114 : okS RJ5 114 mJ8_newLength_cabcc 3 := ⟨kCJ8_newLength_cabcc, (lw_k5 60 (by decide +kernel) (by decide +kernel)), (lw_k5 61 (by decide +kernel) (by decide +kernel))⟩
theorem kMJ5_125 : okS RJ5 125 mJ1_inflate_0e8fd 5 := ⟨kCJ1_inflate_0e8fd, (lw_k5 140 (by decide +kernel) (by decide +kernel)), (lw_k5 141 (by decide +kernel) (by decide +kernel))⟩
theorem kMJ5_133 : okS RJ5 133 mJ1_fillNull_b72d1 3 := ⟨kCJ1_fillNull_b72d1, (lw_k5 86 (by decide +kernel) (by decide +kernel)), (lw_k5 87 (by decide +kernel) (by decide +kernel))⟩
theorem kMJ5_137 : okS RJ5 137 mJ2_fillNull_b72d1 3 := ⟨kCJ2_fillNull_b72d1, (lw_k5 95 (by decide +kernel) (by decide +kernel)), (lw_k5 96 (by decide +kernel) (by decide +kernel))⟩
theorem kMJ5_144 : okS RJ5 144 mJ0_checkIndex_df160 2 := ⟨kCJ0_checkIndex_df160, (lw_k5 238 (by decide +kernel) (by decide +kernel)), (lw_k2 167 (by decide +kernel) (by decide +kernel))⟩
theorem kMJ5_148 : okS RJ5 148 mJ2_getChar_3b067 2 := ⟨kCJ2_getChar_3b067, (lw_k5 239 (by decide +kernel) (by decide +kernel)), (lw_k2 185 (by decide +kernel) (by decide +kernel))⟩
theorem kMJ5_191 : okS RJ5 191 mJ1_canEncode_fc78d 1 := ⟨kCJ1_canEncode_fc78d, (lw_k5 168 (by decide +kernel) (by decide +kernel)), (lw_k5 169 (by decide +kernel) (by decide +kernel))⟩
-- other call: java/lang/AbstractStringBuilder 195 ('java/lang/AbstractStringBuilder', 'inflate', '()V')
theorem kMJ5_197 : okS RJ5 197 mJ2_putCharSB_b72d1 3 := ⟨kCJ2_putCharSB_b72d1, (lw_k5 171 (by decide +kernel) (by decide +kernel)), (lw_k5 172 (by decide +kernel) (by decide +kernel))⟩
-- other call: java/lang/AbstractStringBuilder 204 ('java/lang/AbstractStringBuilder', 'appendNull', '()Ljava/lang/AbstractStringBuilder;')
-- other call: java/lang/AbstractStringBuilder 208 ('java/lang/AbstractStringBuilder', 'putStringAt', '(ILjava/lang/String;)V')
theorem kMJ5_226 : okS RJ5 226 mJ2_putCharsAt_cd4e5 6 := ⟨kCJ2_putCharsAt_cd4e5, (lw_k5 111 (by decide +kernel) (by decide +kernel)), (lw_k5 112 (by decide +kernel) (by decide +kernel))⟩
theorem kMJ5_245 : okS RJ5 245 mJ6_stringSize_0f7a4 1 := ⟨kCJ6_stringSize_0f7a4, (lw_k5 181 (by decide +kernel) (by decide +kernel)), (lw_k5 182 (by decide +kernel) (by decide +kernel))⟩
theorem kMJ5_248 : okS RJ5 248 mJ6_getChars_ba4f3 3 := ⟨kCJ6_getChars_ba4f3, (lw_k5 184 (by decide +kernel) (by decide +kernel)), (lw_k5 185 (by decide +kernel) (by decide +kernel))⟩
theorem kMJ5_251 : okS RJ5 251 mJ2_getChars_46870 4 := ⟨kCJ2_getChars_46870, (lw_k5 191 (by decide +kernel) (by decide +kernel)), (lw_k5 192 (by decide +kernel) (by decide +kernel))⟩
-- other call: java/lang/AbstractStringBuilder 397 ('java/lang/AbstractStringBuilder', 'inflateIfNeededFor', '(Ljava/lang/String;)V')
theorem kMJ5_399 : okV RJ5 399 mJ0_getBytes_840e7 3 := ⟨kCJ0_getBytes_840e7, (lw_k5 155 (by decide +kernel) (by decide +kernel)), (lw_k5 156 (by decide +kernel) (by decide +kernel)), (lw_k5 157 (by decide +kernel) (by decide +kernel))⟩
theorem kMJ0_106 : okS RJ0 106 mJ1_inflate_0e8fd 5 := ⟨kCJ1_inflate_0e8fd, (lw_k5 160 (by decide +kernel) (by decide +kernel)), (lw_k5 141 (by decide +kernel) (by decide +kernel))⟩
theorem kMJ0_335 : okV RJ0 335 mJ0_coder_7d493 0 := ⟨kCJ0_coder_7d493, (lw_k2 150 (by decide +kernel) (by decide +kernel)), (lw_k2 151 (by decide +kernel) (by decide +kernel)), (lw_k2 152 (by decide +kernel) (by decide +kernel))⟩
theorem kMJ0_492 : okV RJ0 492 mJ0_isLatin1_aae02 0 := ⟨kCJ0_isLatin1_aae02, (lw_k2 159 (by decide +kernel) (by decide +kernel)), (lw_k2 160 (by decide +kernel) (by decide +kernel)), (lw_k2 161 (by decide +kernel) (by decide +kernel))⟩
theorem kMJ0_495 : okS RJ0 495 mJ1_charAt_3b067 2 := ⟨kCJ1_charAt_3b067, (lw_k2 163 (by decide +kernel) (by decide +kernel)), (lw_k2 164 (by decide +kernel) (by decide +kernel))⟩
theorem kMJ0_498 : okS RJ0 498 mJ2_charAt_3b067 2 := ⟨kCJ2_charAt_3b067, (lw_k2 174 (by decide +kernel) (by decide +kernel)), (lw_k2 175 (by decide +kernel) (by decide +kernel))⟩
theorem kMJ0_1059 : okS RJ0 1059 mJ3_checkIndex_8e157 3 := ⟨kCJ3_checkIndex_8e157, (lw_k2 171 (by decide +kernel) (by decide +kernel)), (lw_k2 172 (by decide +kernel) (by decide +kernel))⟩
theorem kMJ0_1062 : okS RJ0 1062 mJ3_checkFromToIndex_8c36e 4 := ⟨kCJ3_checkFromToIndex_8c36e, (lw_k5 120 (by decide +kernel) (by decide +kernel)), (lw_k5 121 (by decide +kernel) (by decide +kernel))⟩
theorem kMJ0_1065 : okS RJ0 1065 mJ3_checkFromIndexSize_8c36e 4 := ⟨kCJ3_checkFromIndexSize_8c36e, (lw_k5 152 (by decide +kernel) (by decide +kernel)), (lw_k5 153 (by decide +kernel) (by decide +kernel))⟩
theorem kMJ4_1 : okI RJ4 1 mJ5_init_d00df 1 := ⟨kCJ5_init_d00df, (lw_k1 33 (by decide +kernel) (by decide +kernel)), (lw_k1 34 (by decide +kernel) (by decide +kernel)), rfl, rfl⟩
-- other call: java/lang/StringBuilder 29 ('java/lang/AbstractStringBuilder', 'append', '(Ljava/lang/String;)Ljava/lang/AbstractStringBuilder;')
-- other call: java/lang/StringBuilder 50 ('java/lang/AbstractStringBuilder', 'append', '(C)Ljava/lang/AbstractStringBuilder;')
-- other call: java/lang/StringBuilder 53 ('java/lang/AbstractStringBuilder', 'append', '(I)Ljava/lang/AbstractStringBuilder;')
-- other call: java/lang/StringBuilder 329 ('java/lang/AbstractStringBuilder', 'charAt', '(I)C')
-- other call: java/lang/StringBuilder 333 ('java/lang/AbstractStringBuilder', 'setLength', '(I)V')
-- other call: java/lang/StringBuilder 343 ('java/lang/AbstractStringBuilder', 'length', '()I')
theorem kMJ1_9 : okS RJ1 9 mJ0_checkIndex_df160 2 := ⟨kCJ0_checkIndex_df160, (lw_k2 166 (by decide +kernel) (by decide +kernel)), (lw_k2 167 (by decide +kernel) (by decide +kernel))⟩
theorem kMJ1_236 : okS RJ1 236 mJ7_fill_eb02e 4 := ⟨kCJ7_fill_eb02e, (lw_k5 89 (by decide +kernel) (by decide +kernel)), (lw_k5 90 (by decide +kernel) (by decide +kernel))⟩
theorem kMJ1_240 : okS RJ1 240 mJ2_inflate_0e8fd 5 := ⟨kCJ2_inflate_0e8fd, (lw_k5 143 (by decide +kernel) (by decide +kernel)), (lw_k5 144 (by decide +kernel) (by decide +kernel))⟩
theorem kMJ2_11 : okS RJ2 11 mJ2_newBytesLength_0f7a4 1 := ⟨kCJ2_newBytesLength_0f7a4, (lw_k1 42 (by decide +kernel) (by decide +kernel)), (lw_k1 43 (by decide +kernel) (by decide +kernel))⟩
theorem kMJ2_48 : okS RJ2 48 mJ2_length_9d52b 1 := ⟨kCJ2_length_9d52b, (lw_k2 180 (by decide +kernel) (by decide +kernel)), (lw_k2 181 (by decide +kernel) (by decide +kernel))⟩
theorem kMJ2_67 : okS RJ2 67 mJ2_checkIndex_2214a 2 := ⟨kCJ2_checkIndex_2214a, (lw_k2 177 (by decide +kernel) (by decide +kernel)), (lw_k2 178 (by decide +kernel) (by decide +kernel))⟩
theorem kMJ2_71 : okS RJ2 71 mJ2_getChar_3b067 2 := ⟨kCJ2_getChar_3b067, (lw_k2 184 (by decide +kernel) (by decide +kernel)), (lw_k2 185 (by decide +kernel) (by decide +kernel))⟩
theorem kMJ2_96 : okS RJ2 96 mJ2_checkBoundsBeginEnd_d044e 3 := ⟨kCJ2_checkBoundsBeginEnd_d044e, (lw_k5 114 (by decide +kernel) (by decide +kernel)), (lw_k5 115 (by decide +kernel) (by decide +kernel))⟩
theorem kMJ2_111 : okS RJ2 111 mJ2_putChar_b72d1 3 := ⟨kCJ2_putChar_b72d1, (lw_k5 123 (by decide +kernel) (by decide +kernel)), (lw_k5 124 (by decide +kernel) (by decide +kernel))⟩
theorem kMJ2_173 : okS RJ2 173 mJ2_checkBoundsOffCount_d044e 3 := ⟨kCJ2_checkBoundsOffCount_d044e, (lw_k5 146 (by decide +kernel) (by decide +kernel)), (lw_k5 147 (by decide +kernel) (by decide +kernel))⟩
theorem kMJ2_241 : okS RJ2 241 mJ0_checkBoundsBeginEnd_23922 3 := ⟨kCJ0_checkBoundsBeginEnd_23922, (lw_k5 117 (by decide +kernel) (by decide +kernel)), (lw_k5 118 (by decide +kernel) (by decide +kernel))⟩
theorem kMJ2_380 : okS RJ2 380 mJ7_fill_eb02e 4 := ⟨kCJ7_fill_eb02e, (lw_k5 98 (by decide +kernel) (by decide +kernel)), (lw_k5 90 (by decide +kernel) (by decide +kernel))⟩
theorem kMJ2_393 : okS RJ2 393 mJ2_getChars_ba4f3 3 := ⟨kCJ2_getChars_ba4f3, (lw_k5 194 (by decide +kernel) (by decide +kernel)), (lw_k5 195 (by decide +kernel) (by decide +kernel))⟩
theorem kMJ2_414 : okS RJ2 414 mJ0_checkIndex_df160 2 := ⟨kCJ0_checkIndex_df160, (lw_k2 183 (by decide +kernel) (by decide +kernel)), (lw_k2 167 (by decide +kernel) (by decide +kernel))⟩
theorem kMJ2_419 : okS RJ2 419 mJ0_checkBoundsOffCount_cabcc 3 := ⟨kCJ0_checkBoundsOffCount_cabcc, (lw_k5 149 (by decide +kernel) (by decide +kernel)), (lw_k5 150 (by decide +kernel) (by decide +kernel))⟩
theorem kMJ7_13 : okS RJ7 13 mJ7_rangeCheck_23922 3 := ⟨kCJ7_rangeCheck_23922, (lw_k5 92 (by decide +kernel) (by decide +kernel)), (lw_k5 93 (by decide +kernel) (by decide +kernel))⟩
theorem kMJ8_201 : okS RJ8 201 mJ8_hugeLength_7cf53 2 := ⟨kCJ8_hugeLength_7cf53, (lw_k5 65 (by decide +kernel) (by decide +kernel)), (lw_k5 66 (by decide +kernel) (by decide +kernel))⟩
theorem kMX0_46 : okSN RX0 46 mX6_copyRow 2 := ⟨kCX6_copyRow, (lw_k3 69 (by decide +kernel) (by decide +kernel)), 0, "HosieryPlant", rfl⟩
theorem kMX0_50 : okSN RX0 50 mX6_at 2 := ⟨kCX6_at, (lw_k2 126 (by decide +kernel) (by decide +kernel)), 1, "HosieryPlant", rfl⟩
theorem kMX2_36 : okSN RX2 36 mX6_contains 2 := ⟨kCX6_contains, (lw_k4 85 (by decide +kernel) (by decide +kernel)), 2, "HosieryPlant", rfl⟩
theorem kMX2_67 : okSN RX2 67 mX6_put 3 := ⟨kCX6_put, (lw_k2 106 (by decide +kernel) (by decide +kernel)), 3, "HosieryPlant", rfl⟩
theorem kMX2_71 : okSN RX2 71 mX6_at 2 := ⟨kCX6_at, (lw_k2 126 (by decide +kernel) (by decide +kernel)), 4, "HosieryPlant", rfl⟩
theorem kMX2_79 : okSN RX2 79 mX6_lowestOf 1 := ⟨kCX6_lowestOf, (lw_k4 100 (by decide +kernel) (by decide +kernel)), 5, "HosieryPlant", rfl⟩
theorem kMX3_22 : okSN RX3 22 mX6_put 3 := ⟨kCX6_put, (lw_k2 106 (by decide +kernel) (by decide +kernel)), 6, "HosieryPlant", rfl⟩
theorem kMX3_26 : okSN RX3 26 mX6_at 2 := ⟨kCX6_at, (lw_k2 126 (by decide +kernel) (by decide +kernel)), 7, "HosieryPlant", rfl⟩
theorem kMX4_140 : okSN RX4 140 mX6_put 3 := ⟨kCX6_put, (lw_k2 106 (by decide +kernel) (by decide +kernel)), 8, "HosieryPlant", rfl⟩
theorem kMX4_193 : okSN RX4 193 mX6_isBetween 3 := ⟨kCX6_isBetween, (lw_k2 210 (by decide +kernel) (by decide +kernel)), 9, "HosieryPlant", rfl⟩
theorem kMX4_200 : okSN RX4 200 mX6_at 2 := ⟨kCX6_at, (lw_k2 126 (by decide +kernel) (by decide +kernel)), 10, "HosieryPlant", rfl⟩
theorem kMX4_204 : okSN RX4 204 mX6_indexOfName 3 := ⟨kCX6_indexOfName, (lw_k3 16 (by decide +kernel) (by decide +kernel)), 11, "HosieryPlant", rfl⟩
theorem kMX4_212 : okSN RX4 212 mX6_packName 3 := ⟨kCX6_packName, (lw_k3 7 (by decide +kernel) (by decide +kernel)), 12, "HosieryPlant", rfl⟩
theorem kMX4_234 : okSN RX4 234 mX6_isLetter 1 := ⟨kCX6_isLetter, (lw_k2 132 (by decide +kernel) (by decide +kernel)), 13, "HosieryPlant", rfl⟩
theorem kMX5_71 : okSN RX5 71 mX6_copyRow 2 := ⟨kCX6_copyRow, (lw_k3 69 (by decide +kernel) (by decide +kernel)), 15, "HosieryPlant", rfl⟩
theorem kMX5_75 : okSN RX5 75 mX6_put 3 := ⟨kCX6_put, (lw_k2 106 (by decide +kernel) (by decide +kernel)), 16, "HosieryPlant", rfl⟩
theorem kMX5_79 : okSN RX5 79 mX6_at 2 := ⟨kCX6_at, (lw_k2 126 (by decide +kernel) (by decide +kernel)), 17, "HosieryPlant", rfl⟩
theorem kMX5_125 : okSN RX5 125 mX6_lowestOf 1 := ⟨kCX6_lowestOf, (lw_k4 100 (by decide +kernel) (by decide +kernel)), 14, "HosieryPlant", rfl⟩
theorem kAI : Cond.arrayClass .int ∈ lw_g := (lw_k1 59 (by decide +kernel) (by decide +kernel))
theorem kAB : Cond.arrayClass .byte ∈ lw_g := (lw_k1 60 (by decide +kernel) (by decide +kernel))
theorem kAJ : Cond.arrayClass .long ∈ lw_g := (lw_k2 46 (by decide +kernel) (by decide +kernel))
