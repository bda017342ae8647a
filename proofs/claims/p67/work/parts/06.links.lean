/-! Methods as the abstract machine knows them, and what the tables say of each entry that names a method, a field or a class. -/
theorem lw_k1 {w : Cond} (j : Nat) (h0 : tables_1_1[j]? = some w) (hg : goodWord w = true) : w ∈ lw_g := have h : w ∈ tables_1_1 := List.mem_of_getElem? h0; lw_gm ⟨List.mem_append_right _ (List.mem_append_left _ h), hg⟩
theorem lw_k2 {w : Cond} (j : Nat) (h0 : tables_1_2[j]? = some w) (hg : goodWord w = true) : w ∈ lw_g := have h : w ∈ tables_1_2 := List.mem_of_getElem? h0; lw_gm ⟨List.mem_append_right _ (List.mem_append_right _ (List.mem_append_left _ h)), hg⟩
theorem lw_k3 {w : Cond} (j : Nat) (h0 : tables_1_3[j]? = some w) (hg : goodWord w = true) : w ∈ lw_g := have h : w ∈ tables_1_3 := List.mem_of_getElem? h0; lw_gm ⟨List.mem_append_right _ (List.mem_append_right _ (List.mem_append_right _ (List.mem_append_left _ h))), hg⟩
theorem lw_k4 {w : Cond} (j : Nat) (h0 : tables_1_4[j]? = some w) (hg : goodWord w = true) : w ∈ lw_g := have h : w ∈ tables_1_4 := List.mem_of_getElem? h0; lw_gm ⟨List.mem_append_right _ (List.mem_append_right _ (List.mem_append_right _ (List.mem_append_right _ (List.mem_append_left _ h)))), hg⟩
theorem lw_k5 {w : Cond} (j : Nat) (h0 : tables_1_5[j]? = some w) (hg : goodWord w = true) : w ∈ lw_g := have h : w ∈ tables_1_5 := List.mem_of_getElem? h0; lw_gm ⟨List.mem_append_right _ (List.mem_append_right _ (List.mem_append_right _ (List.mem_append_right _ (List.mem_append_right _ (List.mem_append_left _ h))))), hg⟩
theorem lw_k6 {w : Cond} (j : Nat) (h0 : tables_1_6[j]? = some w) (hg : goodWord w = true) : w ∈ lw_g := have h : w ∈ tables_1_6 := List.mem_of_getElem? h0; lw_gm ⟨List.mem_append_right _ (List.mem_append_right _ (List.mem_append_right _ (List.mem_append_right _ (List.mem_append_right _ (List.mem_append_right _ (h)))))), hg⟩
theorem inngJ4 : ∀ w ∈ wsJ40, w ∈ lw_g := fun w hw => lw_gm ⟨innJ4 w hw, (by decide +kernel : ∀ w ∈ wsJ40, goodWord w = true) w hw⟩
theorem inngX0 : ∀ w ∈ wsX00, w ∈ lw_g := fun w hw => lw_gm ⟨innX0 w hw, (by decide +kernel : ∀ w ∈ wsX00, goodWord w = true) w hw⟩
theorem inngX1 : ∀ w ∈ wsX10, w ∈ lw_g := fun w hw => lw_gm ⟨innX1 w hw, (by decide +kernel : ∀ w ∈ wsX10, goodWord w = true) w hw⟩
theorem inngX2 : ∀ w ∈ wsX20, w ∈ lw_g := fun w hw => lw_gm ⟨innX2 w hw, (by decide +kernel : ∀ w ∈ wsX20, goodWord w = true) w hw⟩
theorem inngX3 : ∀ w ∈ wsX30, w ∈ lw_g := fun w hw => lw_gm ⟨innX3 w hw, (by decide +kernel : ∀ w ∈ wsX30, goodWord w = true) w hw⟩
theorem inngX4 : ∀ w ∈ wsX40, w ∈ lw_g := fun w hw => lw_gm ⟨innX4 w hw, (by decide +kernel : ∀ w ∈ wsX40, goodWord w = true) w hw⟩
theorem inngX5 : ∀ w ∈ wsX50, w ∈ lw_g := fun w hw => lw_gm ⟨innX5 w hw, (by decide +kernel : ∀ w ∈ wsX50, goodWord w = true) w hw⟩
theorem inngX6 : ∀ w ∈ wsX60, w ∈ lw_g := fun w hw => lw_gm ⟨innX6 w hw, (by decide +kernel : ∀ w ∈ wsX60, goodWord w = true) w hw⟩
theorem inngJ0 : ∀ w ∈ wsJ00, w ∈ lw_g := fun w hw => lw_gm ⟨innJ0 w hw, (by decide +kernel : ∀ w ∈ wsJ00, goodWord w = true) w hw⟩
abbrev mX0_init : MD := (yX0_init, cX0_init, 1, none)
theorem kCX0_init : okC mX0_init 0 := ⟨(lw_k1 43 (by decide +kernel) (by decide +kernel)), ⟨by decide +kernel, by decide +kernel, by decide +kernel⟩, by decide +kernel, by decide, (lw_k1 4 (by decide +kernel) (by decide +kernel))⟩
abbrev mX0_takeAll : MD := (yX0_takeAll, cX0_takeAll, 2, none)
theorem kCX0_takeAll : okC mX0_takeAll 1 := ⟨(lw_k3 53 (by decide +kernel) (by decide +kernel)), ⟨by decide +kernel, by decide +kernel, by decide +kernel⟩, by decide +kernel, by decide, (lw_k1 4 (by decide +kernel) (by decide +kernel))⟩
abbrev mX1_init : MD := (yX1_init, cX1_init, 2, none)
theorem kCX1_init : okC mX1_init 0 := ⟨(lw_k2 11 (by decide +kernel) (by decide +kernel)), ⟨by decide +kernel, by decide +kernel, by decide +kernel⟩, by decide +kernel, by decide, (lw_k1 9 (by decide +kernel) (by decide +kernel))⟩
abbrev mX1_keep : MD := (yX1_keep, cX1_keep, 3, none)
theorem kCX1_keep : okC mX1_keep 1 := ⟨(lw_k3 41 (by decide +kernel) (by decide +kernel)), ⟨by decide +kernel, by decide +kernel, by decide +kernel⟩, by decide +kernel, by decide, (lw_k1 9 (by decide +kernel) (by decide +kernel))⟩
abbrev mX1_takeBack : MD := (yX1_takeBack, cX1_takeBack, 3, none)
theorem kCX1_takeBack : okC mX1_takeBack 1 := ⟨(lw_k5 201 (by decide +kernel) (by decide +kernel)), ⟨by decide +kernel, by decide +kernel, by decide +kernel⟩, by decide +kernel, by decide, (lw_k1 9 (by decide +kernel) (by decide +kernel))⟩
abbrev mX1_placeOf : MD := (yX1_placeOf, cX1_placeOf, 3, (some (.object "HosieryPlant$Plant")))
theorem kCX1_placeOf : okC mX1_placeOf 1 := ⟨(lw_k3 45 (by decide +kernel) (by decide +kernel)), ⟨by decide +kernel, by decide +kernel, by decide +kernel⟩, by decide +kernel, by decide, (lw_k1 9 (by decide +kernel) (by decide +kernel))⟩
abbrev mX2_init : MD := (yX2_init, cX2_init, 1, none)
theorem kCX2_init : okC mX2_init 0 := ⟨(lw_k2 31 (by decide +kernel) (by decide +kernel)), ⟨by decide +kernel, by decide +kernel, by decide +kernel⟩, by decide +kernel, by decide, (lw_k1 10 (by decide +kernel) (by decide +kernel))⟩
abbrev mX2_mostPairs : MD := (yX2_mostPairs, cX2_mostPairs, 3, (some .int))
theorem kCX2_mostPairs : okC mX2_mostPairs 1 := ⟨(lw_k4 24 (by decide +kernel) (by decide +kernel)), ⟨by decide +kernel, by decide +kernel, by decide +kernel⟩, by decide +kernel, by decide, (lw_k1 10 (by decide +kernel) (by decide +kernel))⟩
abbrev mX2_pairUp : MD := (yX2_pairUp, cX2_pairUp, 6, none)
theorem kCX2_pairUp : okC mX2_pairUp 2 := ⟨(lw_k3 188 (by decide +kernel) (by decide +kernel)), ⟨by decide +kernel, by decide +kernel, by decide +kernel⟩, by decide +kernel, by decide, (lw_k1 10 (by decide +kernel) (by decide +kernel))⟩
abbrev mX2_takeMatches : MD := (yX2_takeMatches, cX2_takeMatches, 7, (some .int))
theorem kCX2_takeMatches : okC mX2_takeMatches 2 := ⟨(lw_k3 192 (by decide +kernel) (by decide +kernel)), ⟨by decide +kernel, by decide +kernel, by decide +kernel⟩, by decide +kernel, by decide, (lw_k1 10 (by decide +kernel) (by decide +kernel))⟩
abbrev mX2_gapBetween : MD := (yX2_gapBetween, cX2_gapBetween, 3, (some .int))
theorem kCX2_gapBetween : okC mX2_gapBetween 2 := ⟨(lw_k3 234 (by decide +kernel) (by decide +kernel)), ⟨by decide +kernel, by decide +kernel, by decide +kernel⟩, by decide +kernel, by decide, (lw_k1 10 (by decide +kernel) (by decide +kernel))⟩
abbrev mX2_lowestPartner : MD := (yX2_lowestPartner, cX2_lowestPartner, 7, (some .int))
theorem kCX2_lowestPartner : okC mX2_lowestPartner 2 := ⟨(lw_k3 210 (by decide +kernel) (by decide +kernel)), ⟨by decide +kernel, by decide +kernel, by decide +kernel⟩, by decide +kernel, by decide, (lw_k1 10 (by decide +kernel) (by decide +kernel))⟩
abbrev mX2_worthOf : MD := (yX2_worthOf, cX2_worthOf, 10, (some .int))
theorem kCX2_worthOf : okC mX2_worthOf 3 := ⟨(lw_k3 213 (by decide +kernel) (by decide +kernel)), ⟨by decide +kernel, by decide +kernel, by decide +kernel⟩, by decide +kernel, by decide, (lw_k1 10 (by decide +kernel) (by decide +kernel))⟩
abbrev mX2_recall : MD := (yX2_recall, cX2_recall, 3, (some .int))
theorem kCX2_recall : okC mX2_recall 1 := ⟨(lw_k3 217 (by decide +kernel) (by decide +kernel)), ⟨by decide +kernel, by decide +kernel, by decide +kernel⟩, by decide +kernel, by decide, (lw_k1 10 (by decide +kernel) (by decide +kernel))⟩
abbrev mX2_remember : MD := (yX2_remember, cX2_remember, 4, none)
theorem kCX2_remember : okC mX2_remember 2 := ⟨(lw_k3 239 (by decide +kernel) (by decide +kernel)), ⟨by decide +kernel, by decide +kernel, by decide +kernel⟩, by decide +kernel, by decide, (lw_k1 10 (by decide +kernel) (by decide +kernel))⟩
abbrev mX3_init : MD := (yX3_init, cX3_init, 1, none)
theorem kCX3_init : okC mX3_init 0 := ⟨(lw_k2 51 (by decide +kernel) (by decide +kernel)), ⟨by decide +kernel, by decide +kernel, by decide +kernel⟩, by decide +kernel, by decide, (lw_k1 11 (by decide +kernel) (by decide +kernel))⟩
abbrev mX3_dissolve : MD := (yX3_dissolve, cX3_dissolve, 2, none)
theorem kCX3_dissolve : okC mX3_dissolve 0 := ⟨(lw_k3 202 (by decide +kernel) (by decide +kernel)), ⟨by decide +kernel, by decide +kernel, by decide +kernel⟩, by decide +kernel, by decide, (lw_k1 11 (by decide +kernel) (by decide +kernel))⟩
abbrev mX3_join : MD := (yX3_join, cX3_join, 4, none)
theorem kCX3_join : okC mX3_join 3 := ⟨(lw_k4 3 (by decide +kernel) (by decide +kernel)), ⟨by decide +kernel, by decide +kernel, by decide +kernel⟩, by decide +kernel, by decide, (lw_k1 11 (by decide +kernel) (by decide +kernel))⟩
abbrev mX3_lowerOf : MD := (yX3_lowerOf, cX3_lowerOf, 4, (some .int))
theorem kCX3_lowerOf : okC mX3_lowerOf 1 := ⟨(lw_k4 11 (by decide +kernel) (by decide +kernel)), ⟨by decide +kernel, by decide +kernel, by decide +kernel⟩, by decide +kernel, by decide, (lw_k1 11 (by decide +kernel) (by decide +kernel))⟩
abbrev mX4_init : MD := (yX4_init, cX4_init, 1, none)
theorem kCX4_init : okC mX4_init 0 := ⟨(lw_k1 31 (by decide +kernel) (by decide +kernel)), ⟨by decide +kernel, by decide +kernel, by decide +kernel⟩, by decide +kernel, by decide, (lw_k1 2 (by decide +kernel) (by decide +kernel))⟩
abbrev mX4_read : MD := (yX4_read, cX4_read, 3, (some .boolean))
theorem kCX4_read : okC mX4_read 1 := ⟨(lw_k2 103 (by decide +kernel) (by decide +kernel)), ⟨by decide +kernel, by decide +kernel, by decide +kernel⟩, by decide +kernel, by decide, (lw_k1 2 (by decide +kernel) (by decide +kernel))⟩
abbrev mX4_readTolerance : MD := (yX4_readTolerance, cX4_readTolerance, 1, none)
theorem kCX4_readTolerance : okC mX4_readTolerance 0 := ⟨(lw_k2 180 (by decide +kernel) (by decide +kernel)), ⟨by decide +kernel, by decide +kernel, by decide +kernel⟩, by decide +kernel, by decide, (lw_k1 2 (by decide +kernel) (by decide +kernel))⟩
abbrev mX4_readSteam : MD := (yX4_readSteam, cX4_readSteam, 1, none)
theorem kCX4_readSteam : okC mX4_readSteam 0 := ⟨(lw_k2 204 (by decide +kernel) (by decide +kernel)), ⟨by decide +kernel, by decide +kernel, by decide +kernel⟩, by decide +kernel, by decide, (lw_k1 2 (by decide +kernel) (by decide +kernel))⟩
abbrev mX4_readBox : MD := (yX4_readBox, cX4_readBox, 1, none)
theorem kCX4_readBox : okC mX4_readBox 0 := ⟨(lw_k2 209 (by decide +kernel) (by decide +kernel)), ⟨by decide +kernel, by decide +kernel, by decide +kernel⟩, by decide +kernel, by decide, (lw_k1 2 (by decide +kernel) (by decide +kernel))⟩
abbrev mX4_readYarn : MD := (yX4_readYarn, cX4_readYarn, 5, none)
theorem kCX4_readYarn : okC mX4_readYarn 1 := ⟨(lw_k2 214 (by decide +kernel) (by decide +kernel)), ⟨by decide +kernel, by decide +kernel, by decide +kernel⟩, by decide +kernel, by decide, (lw_k1 2 (by decide +kernel) (by decide +kernel))⟩
abbrev mX4_readShape : MD := (yX4_readShape, cX4_readShape, 4, none)
theorem kCX4_readShape : okC mX4_readShape 1 := ⟨(lw_k3 8 (by decide +kernel) (by decide +kernel)), ⟨by decide +kernel, by decide +kernel, by decide +kernel⟩, by decide +kernel, by decide, (lw_k1 2 (by decide +kernel) (by decide +kernel))⟩
abbrev mX4_readSize : MD := (yX4_readSize, cX4_readSize, 5, none)
theorem kCX4_readSize : okC mX4_readSize 1 := ⟨(lw_k3 12 (by decide +kernel) (by decide +kernel)), ⟨by decide +kernel, by decide +kernel, by decide +kernel⟩, by decide +kernel, by decide, (lw_k1 2 (by decide +kernel) (by decide +kernel))⟩
abbrev mX4_readPiece : MD := (yX4_readPiece, cX4_readPiece, 8, none)
theorem kCX4_readPiece : okC mX4_readPiece 1 := ⟨(lw_k3 16 (by decide +kernel) (by decide +kernel)), ⟨by decide +kernel, by decide +kernel, by decide +kernel⟩, by decide +kernel, by decide, (lw_k1 2 (by decide +kernel) (by decide +kernel))⟩
abbrev mX4_readTimes : MD := (yX4_readTimes, cX4_readTimes, 1, (some .int))
theorem kCX4_readTimes : okC mX4_readTimes 0 := ⟨(lw_k3 28 (by decide +kernel) (by decide +kernel)), ⟨by decide +kernel, by decide +kernel, by decide +kernel⟩, by decide +kernel, by decide, (lw_k1 2 (by decide +kernel) (by decide +kernel))⟩
abbrev mX4_startStatement : MD := (yX4_startStatement, cX4_startStatement, 3, none)
theorem kCX4_startStatement : okC mX4_startStatement 2 := ⟨(lw_k2 184 (by decide +kernel) (by decide +kernel)), ⟨by decide +kernel, by decide +kernel, by decide +kernel⟩, by decide +kernel, by decide, (lw_k1 2 (by decide +kernel) (by decide +kernel))⟩
abbrev mX4_endStatement : MD := (yX4_endStatement, cX4_endStatement, 1, none)
theorem kCX4_endStatement : okC mX4_endStatement 0 := ⟨(lw_k2 199 (by decide +kernel) (by decide +kernel)), ⟨by decide +kernel, by decide +kernel, by decide +kernel⟩, by decide +kernel, by decide, (lw_k1 2 (by decide +kernel) (by decide +kernel))⟩
abbrev mX4_readNumber : MD := (yX4_readNumber, cX4_readNumber, 4, (some .int))
theorem kCX4_readNumber : okC mX4_readNumber 2 := ⟨(lw_k2 192 (by decide +kernel) (by decide +kernel)), ⟨by decide +kernel, by decide +kernel, by decide +kernel⟩, by decide +kernel, by decide, (lw_k1 2 (by decide +kernel) (by decide +kernel))⟩
abbrev mX4_takeNewName : MD := (yX4_takeNewName, cX4_takeNewName, 4, (some .int))
theorem kCX4_takeNewName : okC mX4_takeNewName 3 := ⟨(lw_k2 238 (by decide +kernel) (by decide +kernel)), ⟨by decide +kernel, by decide +kernel, by decide +kernel⟩, by decide +kernel, by decide, (lw_k1 2 (by decide +kernel) (by decide +kernel))⟩
abbrev mX4_takeKnownYarn : MD := (yX4_takeKnownYarn, cX4_takeKnownYarn, 4, (some .int))
theorem kCX4_takeKnownYarn : okC mX4_takeKnownYarn 2 := ⟨(lw_k3 20 (by decide +kernel) (by decide +kernel)), ⟨by decide +kernel, by decide +kernel, by decide +kernel⟩, by decide +kernel, by decide, (lw_k1 2 (by decide +kernel) (by decide +kernel))⟩
abbrev mX4_nameHere : MD := (yX4_nameHere, cX4_nameHere, 1, (some .int))
theorem kCX4_nameHere : okC mX4_nameHere 0 := ⟨(lw_k2 218 (by decide +kernel) (by decide +kernel)), ⟨by decide +kernel, by decide +kernel, by decide +kernel⟩, by decide +kernel, by decide, (lw_k1 2 (by decide +kernel) (by decide +kernel))⟩
abbrev mX4_readKind : MD := (yX4_readKind, cX4_readKind, 2, (some .int))
theorem kCX4_readKind : okC mX4_readKind 0 := ⟨(lw_k3 24 (by decide +kernel) (by decide +kernel)), ⟨by decide +kernel, by decide +kernel, by decide +kernel⟩, by decide +kernel, by decide, (lw_k1 2 (by decide +kernel) (by decide +kernel))⟩
abbrev mX4_isKeyword : MD := (yX4_isKeyword, cX4_isKeyword, 1, (some .boolean))
theorem kCX4_isKeyword : okC mX4_isKeyword 0 := ⟨(lw_k2 222 (by decide +kernel) (by decide +kernel)), ⟨by decide +kernel, by decide +kernel, by decide +kernel⟩, by decide +kernel, by decide, (lw_k1 2 (by decide +kernel) (by decide +kernel))⟩
abbrev mX4_spells : MD := (yX4_spells, cX4_spells, 3, (some .boolean))
theorem kCX4_spells : okC mX4_spells 1 := ⟨(lw_k2 129 (by decide +kernel) (by decide +kernel)), ⟨by decide +kernel, by decide +kernel, by decide +kernel⟩, by decide +kernel, by decide, (lw_k1 2 (by decide +kernel) (by decide +kernel))⟩
abbrev mX4_refuse : MD := (yX4_refuse, cX4_refuse, 2, none)
theorem kCX4_refuse : okC mX4_refuse 1 := ⟨(lw_k2 188 (by decide +kernel) (by decide +kernel)), ⟨by decide +kernel, by decide +kernel, by decide +kernel⟩, by decide +kernel, by decide, (lw_k1 2 (by decide +kernel) (by decide +kernel))⟩
abbrev mX4_advance : MD := (yX4_advance, cX4_advance, 1, none)
theorem kCX4_advance : okC mX4_advance 0 := ⟨(lw_k2 108 (by decide +kernel) (by decide +kernel)), ⟨by decide +kernel, by decide +kernel, by decide +kernel⟩, by decide +kernel, by decide, (lw_k1 2 (by decide +kernel) (by decide +kernel))⟩
abbrev mX4_isBlank : MD := (yX4_isBlank, cX4_isBlank, 1, (some .boolean))
theorem kCX4_isBlank : okC mX4_isBlank 1 := ⟨(lw_k2 114 (by decide +kernel) (by decide +kernel)), ⟨by decide +kernel, by decide +kernel, by decide +kernel⟩, by decide +kernel, by decide, (lw_k1 2 (by decide +kernel) (by decide +kernel))⟩
abbrev mX4_isDigit : MD := (yX4_isDigit, cX4_isDigit, 1, (some .boolean))
theorem kCX4_isDigit : okC mX4_isDigit 1 := ⟨(lw_k2 120 (by decide +kernel) (by decide +kernel)), ⟨by decide +kernel, by decide +kernel, by decide +kernel⟩, by decide +kernel, by decide, (lw_k1 2 (by decide +kernel) (by decide +kernel))⟩
abbrev mX5_init : MD := (yX5_init, cX5_init, 1, none)
theorem kCX5_init : okC mX5_init 0 := ⟨(lw_k1 37 (by decide +kernel) (by decide +kernel)), ⟨by decide +kernel, by decide +kernel, by decide +kernel⟩, by decide +kernel, by decide, (lw_k1 3 (by decide +kernel) (by decide +kernel))⟩
abbrev mX5_makeEmpty : MD := (yX5_makeEmpty, cX5_makeEmpty, 1, none)
theorem kCX5_makeEmpty : okC mX5_makeEmpty 0 := ⟨(lw_k1 111 (by decide +kernel) (by decide +kernel)), ⟨by decide +kernel, by decide +kernel, by decide +kernel⟩, by decide +kernel, by decide, (lw_k1 3 (by decide +kernel) (by decide +kernel))⟩
abbrev mX5_copyFrom : MD := (yX5_copyFrom, cX5_copyFrom, 2, none)
theorem kCX5_copyFrom : okC mX5_copyFrom 1 := ⟨(lw_k3 49 (by decide +kernel) (by decide +kernel)), ⟨by decide +kernel, by decide +kernel, by decide +kernel⟩, by decide +kernel, by decide, (lw_k1 3 (by decide +kernel) (by decide +kernel))⟩
abbrev mX5_addPiece : MD := (yX5_addPiece, cX5_addPiece, 5, none)
theorem kCX5_addPiece : okC mX5_addPiece 4 := ⟨(lw_k3 32 (by decide +kernel) (by decide +kernel)), ⟨by decide +kernel, by decide +kernel, by decide +kernel⟩, by decide +kernel, by decide, (lw_k1 3 (by decide +kernel) (by decide +kernel))⟩
abbrev mX5_isBoarded : MD := (yX5_isBoarded, cX5_isBoarded, 2, (some .boolean))
theorem kCX5_isBoarded : okC mX5_isBoarded 1 := ⟨(lw_k3 144 (by decide +kernel) (by decide +kernel)), ⟨by decide +kernel, by decide +kernel, by decide +kernel⟩, by decide +kernel, by decide, (lw_k1 3 (by decide +kernel) (by decide +kernel))⟩
abbrev mX5_stretchOf : MD := (yX5_stretchOf, cX5_stretchOf, 4, (some .int))
theorem kCX5_stretchOf : okC mX5_stretchOf 1 := ⟨(lw_k3 129 (by decide +kernel) (by decide +kernel)), ⟨by decide +kernel, by decide +kernel, by decide +kernel⟩, by decide +kernel, by decide, (lw_k1 3 (by decide +kernel) (by decide +kernel))⟩
abbrev mX5_reachOf : MD := (yX5_reachOf, cX5_reachOf, 2, (some .int))
theorem kCX5_reachOf : okC mX5_reachOf 1 := ⟨(lw_k3 125 (by decide +kernel) (by decide +kernel)), ⟨by decide +kernel, by decide +kernel, by decide +kernel⟩, by decide +kernel, by decide, (lw_k1 3 (by decide +kernel) (by decide +kernel))⟩
abbrev mX5_lengthOn : MD := (yX5_lengthOn, cX5_lengthOn, 5, (some .int))
theorem kCX5_lengthOn : okC mX5_lengthOn 2 := ⟨(lw_k3 121 (by decide +kernel) (by decide +kernel)), ⟨by decide +kernel, by decide +kernel, by decide +kernel⟩, by decide +kernel, by decide, (lw_k1 3 (by decide +kernel) (by decide +kernel))⟩
abbrev mX5_boardOn : MD := (yX5_boardOn, cX5_boardOn, 4, (some .boolean))
theorem kCX5_boardOn : okC mX5_boardOn 2 := ⟨(lw_k3 117 (by decide +kernel) (by decide +kernel)), ⟨by decide +kernel, by decide +kernel, by decide +kernel⟩, by decide +kernel, by decide, (lw_k1 3 (by decide +kernel) (by decide +kernel))⟩
abbrev mX5_boardRaw : MD := (yX5_boardRaw, cX5_boardRaw, 4, (some .int))
theorem kCX5_boardRaw : okC mX5_boardRaw 1 := ⟨(lw_k3 112 (by decide +kernel) (by decide +kernel)), ⟨by decide +kernel, by decide +kernel, by decide +kernel⟩, by decide +kernel, by decide, (lw_k1 3 (by decide +kernel) (by decide +kernel))⟩
abbrev mX5_passDay : MD := (yX5_passDay, cX5_passDay, 6, (some .int))
theorem kCX5_passDay : okC mX5_passDay 0 := ⟨(lw_k3 140 (by decide +kernel) (by decide +kernel)), ⟨by decide +kernel, by decide +kernel, by decide +kernel⟩, by decide +kernel, by decide, (lw_k1 3 (by decide +kernel) (by decide +kernel))⟩
abbrev mX5_fits : MD := (yX5_fits, cX5_fits, 3, (some .boolean))
theorem kCX5_fits : okC mX5_fits 2 := ⟨(lw_k3 196 (by decide +kernel) (by decide +kernel)), ⟨by decide +kernel, by decide +kernel, by decide +kernel⟩, by decide +kernel, by decide, (lw_k1 3 (by decide +kernel) (by decide +kernel))⟩
abbrev mX5_gapOf : MD := (yX5_gapOf, cX5_gapOf, 3, (some .int))
theorem kCX5_gapOf : okC mX5_gapOf 2 := ⟨(lw_k3 173 (by decide +kernel) (by decide +kernel)), ⟨by decide +kernel, by decide +kernel, by decide +kernel⟩, by decide +kernel, by decide, (lw_k1 3 (by decide +kernel) (by decide +kernel))⟩
abbrev mX5_matchSet : MD := (yX5_matchSet, cX5_matchSet, 4, (some .int))
theorem kCX5_matchSet : okC mX5_matchSet 1 := ⟨(lw_k4 65 (by decide +kernel) (by decide +kernel)), ⟨by decide +kernel, by decide +kernel, by decide +kernel⟩, by decide +kernel, by decide, (lw_k1 3 (by decide +kernel) (by decide +kernel))⟩
abbrev mX6_init : MD := (yX6_init, cX6_init, 1, none)
theorem kCX6_init : okC mX6_init 0 := ⟨(lw_k1 23 (by decide +kernel) (by decide +kernel)), ⟨by decide +kernel, by decide +kernel, by decide +kernel⟩, by decide +kernel, by decide, (lw_k1 1 (by decide +kernel) (by decide +kernel))⟩
abbrev mX6_append : MD := (yX6_append, cX6_append, 6, (some .int))
theorem kCX6_append : okC mX6_append 5 := ⟨(lw_k4 104 (by decide +kernel) (by decide +kernel)), ⟨by decide +kernel, by decide +kernel, by decide +kernel⟩, by decide +kernel, by decide, (lw_k1 1 (by decide +kernel) (by decide +kernel))⟩
abbrev mX6_truncate : MD := (yX6_truncate, cX6_truncate, 2, (some .int))
theorem kCX6_truncate : okC mX6_truncate 1 := ⟨(lw_k4 112 (by decide +kernel) (by decide +kernel)), ⟨by decide +kernel, by decide +kernel, by decide +kernel⟩, by decide +kernel, by decide, (lw_k1 1 (by decide +kernel) (by decide +kernel))⟩
abbrev mX6_load : MD := (yX6_load, cX6_load, 2, (some .int))
theorem kCX6_load : okC mX6_load 0 := ⟨(lw_k2 99 (by decide +kernel) (by decide +kernel)), ⟨by decide +kernel, by decide +kernel, by decide +kernel⟩, by decide +kernel, by decide, (lw_k1 1 (by decide +kernel) (by decide +kernel))⟩
abbrev mX6_errorCode : MD := (yX6_errorCode, cX6_errorCode, 1, (some .int))
theorem kCX6_errorCode : okC mX6_errorCode 0 := ⟨(lw_k5 124 (by decide +kernel) (by decide +kernel)), ⟨by decide +kernel, by decide +kernel, by decide +kernel⟩, by decide +kernel, by decide, (lw_k1 1 (by decide +kernel) (by decide +kernel))⟩
abbrev mX6_errorPosition : MD := (yX6_errorPosition, cX6_errorPosition, 1, (some .int))
theorem kCX6_errorPosition : okC mX6_errorPosition 0 := ⟨(lw_k5 128 (by decide +kernel) (by decide +kernel)), ⟨by decide +kernel, by decide +kernel, by decide +kernel⟩, by decide +kernel, by decide, (lw_k1 1 (by decide +kernel) (by decide +kernel))⟩
abbrev mX6_find : MD := (yX6_find, cX6_find, 4, (some .int))
theorem kCX6_find : okC mX6_find 1 := ⟨(lw_k3 66 (by decide +kernel) (by decide +kernel)), ⟨by decide +kernel, by decide +kernel, by decide +kernel⟩, by decide +kernel, by decide, (lw_k1 1 (by decide +kernel) (by decide +kernel))⟩
abbrev mX6_pieceCount : MD := (yX6_pieceCount, cX6_pieceCount, 1, (some .int))
theorem kCX6_pieceCount : okC mX6_pieceCount 0 := ⟨(lw_k3 72 (by decide +kernel) (by decide +kernel)), ⟨by decide +kernel, by decide +kernel, by decide +kernel⟩, by decide +kernel, by decide, (lw_k1 1 (by decide +kernel) (by decide +kernel))⟩
abbrev mX6_days : MD := (yX6_days, cX6_days, 1, (some .int))
theorem kCX6_days : okC mX6_days 0 := ⟨(lw_k5 132 (by decide +kernel) (by decide +kernel)), ⟨by decide +kernel, by decide +kernel, by decide +kernel⟩, by decide +kernel, by decide, (lw_k1 1 (by decide +kernel) (by decide +kernel))⟩
abbrev mX6_undoCount : MD := (yX6_undoCount, cX6_undoCount, 1, (some .int))
theorem kCX6_undoCount : okC mX6_undoCount 0 := ⟨(lw_k5 139 (by decide +kernel) (by decide +kernel)), ⟨by decide +kernel, by decide +kernel, by decide +kernel⟩, by decide +kernel, by decide, (lw_k1 1 (by decide +kernel) (by decide +kernel))⟩
abbrev mX6_lengthTolerance : MD := (yX6_lengthTolerance, cX6_lengthTolerance, 1, (some .int))
theorem kCX6_lengthTolerance : okC mX6_lengthTolerance 0 := ⟨(lw_k3 76 (by decide +kernel) (by decide +kernel)), ⟨by decide +kernel, by decide +kernel, by decide +kernel⟩, by decide +kernel, by decide, (lw_k1 1 (by decide +kernel) (by decide +kernel))⟩
abbrev mX6_shadeTolerance : MD := (yX6_shadeTolerance, cX6_shadeTolerance, 1, (some .int))
theorem kCX6_shadeTolerance : okC mX6_shadeTolerance 0 := ⟨(lw_k3 80 (by decide +kernel) (by decide +kernel)), ⟨by decide +kernel, by decide +kernel, by decide +kernel⟩, by decide +kernel, by decide, (lw_k1 1 (by decide +kernel) (by decide +kernel))⟩
abbrev mX6_steam : MD := (yX6_steam, cX6_steam, 1, (some .int))
theorem kCX6_steam : okC mX6_steam 0 := ⟨(lw_k3 84 (by decide +kernel) (by decide +kernel)), ⟨by decide +kernel, by decide +kernel, by decide +kernel⟩, by decide +kernel, by decide, (lw_k1 1 (by decide +kernel) (by decide +kernel))⟩
abbrev mX6_shade : MD := (yX6_shade, cX6_shade, 2, (some .int))
theorem kCX6_shade : okC mX6_shade 1 := ⟨(lw_k3 88 (by decide +kernel) (by decide +kernel)), ⟨by decide +kernel, by decide +kernel, by decide +kernel⟩, by decide +kernel, by decide, (lw_k1 1 (by decide +kernel) (by decide +kernel))⟩
abbrev mX6_state : MD := (yX6_state, cX6_state, 2, (some .int))
theorem kCX6_state : okC mX6_state 1 := ⟨(lw_k3 96 (by decide +kernel) (by decide +kernel)), ⟨by decide +kernel, by decide +kernel, by decide +kernel⟩, by decide +kernel, by decide, (lw_k1 1 (by decide +kernel) (by decide +kernel))⟩
abbrev mX6_boardAll : MD := (yX6_boardAll, cX6_boardAll, 2, (some .int))
theorem kCX6_boardAll : okC mX6_boardAll 1 := ⟨(lw_k3 100 (by decide +kernel) (by decide +kernel)), ⟨by decide +kernel, by decide +kernel, by decide +kernel⟩, by decide +kernel, by decide, (lw_k1 1 (by decide +kernel) (by decide +kernel))⟩
abbrev mX6_day : MD := (yX6_day, cX6_day, 1, (some .int))
theorem kCX6_day : okC mX6_day 0 := ⟨(lw_k3 136 (by decide +kernel) (by decide +kernel)), ⟨by decide +kernel, by decide +kernel, by decide +kernel⟩, by decide +kernel, by decide, (lw_k1 1 (by decide +kernel) (by decide +kernel))⟩
abbrev mX6_dye : MD := (yX6_dye, cX6_dye, 4, (some .int))
theorem kCX6_dye : okC mX6_dye 2 := ⟨(lw_k3 148 (by decide +kernel) (by decide +kernel)), ⟨by decide +kernel, by decide +kernel, by decide +kernel⟩, by decide +kernel, by decide, (lw_k1 1 (by decide +kernel) (by decide +kernel))⟩
abbrev mX6_setTolerance : MD := (yX6_setTolerance, cX6_setTolerance, 4, (some .int))
theorem kCX6_setTolerance : okC mX6_setTolerance 2 := ⟨(lw_k3 154 (by decide +kernel) (by decide +kernel)), ⟨by decide +kernel, by decide +kernel, by decide +kernel⟩, by decide +kernel, by decide, (lw_k1 1 (by decide +kernel) (by decide +kernel))⟩
abbrev mX6_setSteam : MD := (yX6_setSteam, cX6_setSteam, 3, (some .int))
theorem kCX6_setSteam : okC mX6_setSteam 1 := ⟨(lw_k3 161 (by decide +kernel) (by decide +kernel)), ⟨by decide +kernel, by decide +kernel, by decide +kernel⟩, by decide +kernel, by decide, (lw_k1 1 (by decide +kernel) (by decide +kernel))⟩
abbrev mX6_undo : MD := (yX6_undo, cX6_undo, 1, (some .int))
theorem kCX6_undo : okC mX6_undo 0 := ⟨(lw_k5 197 (by decide +kernel) (by decide +kernel)), ⟨by decide +kernel, by decide +kernel, by decide +kernel⟩, by decide +kernel, by decide, (lw_k1 1 (by decide +kernel) (by decide +kernel))⟩
abbrev mX6_gap : MD := (yX6_gap, cX6_gap, 3, (some .int))
theorem kCX6_gap : okC mX6_gap 2 := ⟨(lw_k3 165 (by decide +kernel) (by decide +kernel)), ⟨by decide +kernel, by decide +kernel, by decide +kernel⟩, by decide +kernel, by decide, (lw_k1 1 (by decide +kernel) (by decide +kernel))⟩
abbrev mX6_pairCount : MD := (yX6_pairCount, cX6_pairCount, 1, (some .int))
theorem kCX6_pairCount : okC mX6_pairCount 0 := ⟨(lw_k3 180 (by decide +kernel) (by decide +kernel)), ⟨by decide +kernel, by decide +kernel, by decide +kernel⟩, by decide +kernel, by decide, (lw_k1 1 (by decide +kernel) (by decide +kernel))⟩
abbrev mX6_pair : MD := (yX6_pair, cX6_pair, 3, (some .int))
theorem kCX6_pair : okC mX6_pair 1 := ⟨(lw_k4 7 (by decide +kernel) (by decide +kernel)), ⟨by decide +kernel, by decide +kernel, by decide +kernel⟩, by decide +kernel, by decide, (lw_k1 1 (by decide +kernel) (by decide +kernel))⟩
abbrev mX6_worstPair : MD := (yX6_worstPair, cX6_worstPair, 6, (some .int))
theorem kCX6_worstPair : okC mX6_worstPair 0 := ⟨(lw_k4 16 (by decide +kernel) (by decide +kernel)), ⟨by decide +kernel, by decide +kernel, by decide +kernel⟩, by decide +kernel, by decide, (lw_k1 1 (by decide +kernel) (by decide +kernel))⟩
abbrev mX6_ifDays : MD := (yX6_ifDays, cX6_ifDays, 3, (some .int))
theorem kCX6_ifDays : okC mX6_ifDays 1 := ⟨(lw_k4 20 (by decide +kernel) (by decide +kernel)), ⟨by decide +kernel, by decide +kernel, by decide +kernel⟩, by decide +kernel, by decide, (lw_k1 1 (by decide +kernel) (by decide +kernel))⟩
abbrev mX6_bestDay : MD := (yX6_bestDay, cX6_bestDay, 6, (some .int))
theorem kCX6_bestDay : okC mX6_bestDay 1 := ⟨(lw_k4 28 (by decide +kernel) (by decide +kernel)), ⟨by decide +kernel, by decide +kernel, by decide +kernel⟩, by decide +kernel, by decide, (lw_k1 1 (by decide +kernel) (by decide +kernel))⟩
abbrev mX6_ifAllBoarded : MD := (yX6_ifAllBoarded, cX6_ifAllBoarded, 2, (some .int))
theorem kCX6_ifAllBoarded : okC mX6_ifAllBoarded 1 := ⟨(lw_k4 32 (by decide +kernel) (by decide +kernel)), ⟨by decide +kernel, by decide +kernel, by decide +kernel⟩, by decide +kernel, by decide, (lw_k1 1 (by decide +kernel) (by decide +kernel))⟩
abbrev mX6_bestShape : MD := (yX6_bestShape, cX6_bestShape, 5, (some .int))
theorem kCX6_bestShape : okC mX6_bestShape 0 := ⟨(lw_k4 40 (by decide +kernel) (by decide +kernel)), ⟨by decide +kernel, by decide +kernel, by decide +kernel⟩, by decide +kernel, by decide, (lw_k1 1 (by decide +kernel) (by decide +kernel))⟩
abbrev mX6_leastSteam : MD := (yX6_leastSteam, cX6_leastSteam, 4, (some .int))
theorem kCX6_leastSteam : okC mX6_leastSteam 2 := ⟨(lw_k4 44 (by decide +kernel) (by decide +kernel)), ⟨by decide +kernel, by decide +kernel, by decide +kernel⟩, by decide +kernel, by decide, (lw_k1 1 (by decide +kernel) (by decide +kernel))⟩
abbrev mX6_leastTolerance : MD := (yX6_leastTolerance, cX6_leastTolerance, 7, (some .int))
theorem kCX6_leastTolerance : okC mX6_leastTolerance 1 := ⟨(lw_k4 48 (by decide +kernel) (by decide +kernel)), ⟨by decide +kernel, by decide +kernel, by decide +kernel⟩, by decide +kernel, by decide, (lw_k1 1 (by decide +kernel) (by decide +kernel))⟩
abbrev mX6_ifTolerance : MD := (yX6_ifTolerance, cX6_ifTolerance, 3, (some .int))
theorem kCX6_ifTolerance : okC mX6_ifTolerance 2 := ⟨(lw_k4 56 (by decide +kernel) (by decide +kernel)), ⟨by decide +kernel, by decide +kernel, by decide +kernel⟩, by decide +kernel, by decide, (lw_k1 1 (by decide +kernel) (by decide +kernel))⟩
abbrev mX6_bestDye : MD := (yX6_bestDye, cX6_bestDye, 10, (some .int))
theorem kCX6_bestDye : okC mX6_bestDye 1 := ⟨(lw_k4 60 (by decide +kernel) (by decide +kernel)), ⟨by decide +kernel, by decide +kernel, by decide +kernel⟩, by decide +kernel, by decide, (lw_k1 1 (by decide +kernel) (by decide +kernel))⟩
abbrev mX6_writePlant : MD := (yX6_writePlant, cX6_writePlant, 2, (some .int))
theorem kCX6_writePlant : okC mX6_writePlant 0 := ⟨(lw_k5 146 (by decide +kernel) (by decide +kernel)), ⟨by decide +kernel, by decide +kernel, by decide +kernel⟩, by decide +kernel, by decide, (lw_k1 1 (by decide +kernel) (by decide +kernel))⟩
abbrev mX6_outputByte : MD := (yX6_outputByte, cX6_outputByte, 2, (some .int))
theorem kCX6_outputByte : okC mX6_outputByte 1 := ⟨(lw_k4 71 (by decide +kernel) (by decide +kernel)), ⟨by decide +kernel, by decide +kernel, by decide +kernel⟩, by decide +kernel, by decide, (lw_k1 1 (by decide +kernel) (by decide +kernel))⟩
abbrev mX6_appendBytes : MD := (yX6_appendBytes, cX6_appendBytes, 3, none)
theorem kCX6_appendBytes : okC mX6_appendBytes 1 := ⟨(lw_k4 108 (by decide +kernel) (by decide +kernel)), ⟨by decide +kernel, by decide +kernel, by decide +kernel⟩, by decide +kernel, by decide, (lw_k1 1 (by decide +kernel) (by decide +kernel))⟩
abbrev mX6_beforeChange : MD := (yX6_beforeChange, cX6_beforeChange, 1, none)
theorem kCX6_beforeChange : okC mX6_beforeChange 0 := ⟨(lw_k3 37 (by decide +kernel) (by decide +kernel)), ⟨by decide +kernel, by decide +kernel, by decide +kernel⟩, by decide +kernel, by decide, (lw_k1 1 (by decide +kernel) (by decide +kernel))⟩
abbrev mX6_findPairs : MD := (yX6_findPairs, cX6_findPairs, 1, none)
theorem kCX6_findPairs : okC mX6_findPairs 0 := ⟨(lw_k3 184 (by decide +kernel) (by decide +kernel)), ⟨by decide +kernel, by decide +kernel, by decide +kernel⟩, by decide +kernel, by decide, (lw_k1 1 (by decide +kernel) (by decide +kernel))⟩
abbrev mX6_isPiece : MD := (yX6_isPiece, cX6_isPiece, 2, (some .boolean))
theorem kCX6_isPiece : okC mX6_isPiece 1 := ⟨(lw_k3 92 (by decide +kernel) (by decide +kernel)), ⟨by decide +kernel, by decide +kernel, by decide +kernel⟩, by decide +kernel, by decide, (lw_k1 1 (by decide +kernel) (by decide +kernel))⟩
abbrev mX6_areTwoPieces : MD := (yX6_areTwoPieces, cX6_areTwoPieces, 3, (some .boolean))
theorem kCX6_areTwoPieces : okC mX6_areTwoPieces 2 := ⟨(lw_k3 169 (by decide +kernel) (by decide +kernel)), ⟨by decide +kernel, by decide +kernel, by decide +kernel⟩, by decide +kernel, by decide, (lw_k1 1 (by decide +kernel) (by decide +kernel))⟩
abbrev mX6_isShape : MD := (yX6_isShape, cX6_isShape, 2, (some .boolean))
theorem kCX6_isShape : okC mX6_isShape 1 := ⟨(lw_k3 104 (by decide +kernel) (by decide +kernel)), ⟨by decide +kernel, by decide +kernel, by decide +kernel⟩, by decide +kernel, by decide, (lw_k1 1 (by decide +kernel) (by decide +kernel))⟩
abbrev mX6_areTolerances : MD := (yX6_areTolerances, cX6_areTolerances, 2, (some .boolean))
theorem kCX6_areTolerances : okC mX6_areTolerances 2 := ⟨(lw_k3 157 (by decide +kernel) (by decide +kernel)), ⟨by decide +kernel, by decide +kernel, by decide +kernel⟩, by decide +kernel, by decide, (lw_k1 1 (by decide +kernel) (by decide +kernel))⟩
abbrev mX6_setWhere : MD := (yX6_setWhere, cX6_setWhere, 5, (some .int))
theorem kCX6_setWhere : okC mX6_setWhere 2 := ⟨(lw_k3 108 (by decide +kernel) (by decide +kernel)), ⟨by decide +kernel, by decide +kernel, by decide +kernel⟩, by decide +kernel, by decide, (lw_k1 1 (by decide +kernel) (by decide +kernel))⟩
abbrev mX6_pairsIfBoarded : MD := (yX6_pairsIfBoarded, cX6_pairsIfBoarded, 3, (some .int))
theorem kCX6_pairsIfBoarded : okC mX6_pairsIfBoarded 2 := ⟨(lw_k4 36 (by decide +kernel) (by decide +kernel)), ⟨by decide +kernel, by decide +kernel, by decide +kernel⟩, by decide +kernel, by decide, (lw_k1 1 (by decide +kernel) (by decide +kernel))⟩
abbrev mX6_pairsWithin : MD := (yX6_pairsWithin, cX6_pairsWithin, 3, (some .int))
theorem kCX6_pairsWithin : okC mX6_pairsWithin 2 := ⟨(lw_k4 52 (by decide +kernel) (by decide +kernel)), ⟨by decide +kernel, by decide +kernel, by decide +kernel⟩, by decide +kernel, by decide, (lw_k1 1 (by decide +kernel) (by decide +kernel))⟩
abbrev mX6_writeCatalogue : MD := (yX6_writeCatalogue, cX6_writeCatalogue, 3, none)
theorem kCX6_writeCatalogue : okC mX6_writeCatalogue 1 := ⟨(lw_k5 176 (by decide +kernel) (by decide +kernel)), ⟨by decide +kernel, by decide +kernel, by decide +kernel⟩, by decide +kernel, by decide, (lw_k1 1 (by decide +kernel) (by decide +kernel))⟩
abbrev mX6_writeName : MD := (yX6_writeName, cX6_writeName, 4, none)
theorem kCX6_writeName : okC mX6_writeName 1 := ⟨(lw_k5 181 (by decide +kernel) (by decide +kernel)), ⟨by decide +kernel, by decide +kernel, by decide +kernel⟩, by decide +kernel, by decide, (lw_k1 1 (by decide +kernel) (by decide +kernel))⟩
abbrev mX6_kindWord : MD := (yX6_kindWord, cX6_kindWord, 1, (some (.object "java/lang/String")))
theorem kCX6_kindWord : okC mX6_kindWord 1 := ⟨(lw_k5 187 (by decide +kernel) (by decide +kernel)), ⟨by decide +kernel, by decide +kernel, by decide +kernel⟩, by decide +kernel, by decide, (lw_k1 1 (by decide +kernel) (by decide +kernel))⟩
abbrev mX6_at : MD := (yX6_at, cX6_at, 2, (some .int))
theorem kCX6_at : okC mX6_at 2 := ⟨(lw_k2 111 (by decide +kernel) (by decide +kernel)), ⟨by decide +kernel, by decide +kernel, by decide +kernel⟩, by decide +kernel, by decide, (lw_k1 1 (by decide +kernel) (by decide +kernel))⟩
abbrev mX6_put : MD := (yX6_put, cX6_put, 3, none)
theorem kCX6_put : okC mX6_put 3 := ⟨(lw_k3 4 (by decide +kernel) (by decide +kernel)), ⟨by decide +kernel, by decide +kernel, by decide +kernel⟩, by decide +kernel, by decide, (lw_k1 1 (by decide +kernel) (by decide +kernel))⟩
abbrev mX6_copyRow : MD := (yX6_copyRow, cX6_copyRow, 2, none)
theorem kCX6_copyRow : okC mX6_copyRow 2 := ⟨(lw_k3 56 (by decide +kernel) (by decide +kernel)), ⟨by decide +kernel, by decide +kernel, by decide +kernel⟩, by decide +kernel, by decide, (lw_k1 1 (by decide +kernel) (by decide +kernel))⟩
abbrev mX6_isBetween : MD := (yX6_isBetween, cX6_isBetween, 3, (some .boolean))
theorem kCX6_isBetween : okC mX6_isBetween 3 := ⟨(lw_k2 195 (by decide +kernel) (by decide +kernel)), ⟨by decide +kernel, by decide +kernel, by decide +kernel⟩, by decide +kernel, by decide, (lw_k1 1 (by decide +kernel) (by decide +kernel))⟩
abbrev mX6_contains : MD := (yX6_contains, cX6_contains, 2, (some .boolean))
theorem kCX6_contains : okC mX6_contains 2 := ⟨(lw_k3 206 (by decide +kernel) (by decide +kernel)), ⟨by decide +kernel, by decide +kernel, by decide +kernel⟩, by decide +kernel, by decide, (lw_k1 1 (by decide +kernel) (by decide +kernel))⟩
abbrev mX6_lowestOf : MD := (yX6_lowestOf, cX6_lowestOf, 1, (some .int))
theorem kCX6_lowestOf : okC mX6_lowestOf 1 := ⟨(lw_k3 221 (by decide +kernel) (by decide +kernel)), ⟨by decide +kernel, by decide +kernel, by decide +kernel⟩, by decide +kernel, by decide, (lw_k1 1 (by decide +kernel) (by decide +kernel))⟩
abbrev mX6_isLetter : MD := (yX6_isLetter, cX6_isLetter, 1, (some .boolean))
theorem kCX6_isLetter : okC mX6_isLetter 1 := ⟨(lw_k2 117 (by decide +kernel) (by decide +kernel)), ⟨by decide +kernel, by decide +kernel, by decide +kernel⟩, by decide +kernel, by decide, (lw_k1 1 (by decide +kernel) (by decide +kernel))⟩
abbrev mX6_packName : MD := (yX6_packName, cX6_packName, 6, (some .int))
theorem kCX6_packName : okC mX6_packName 3 := ⟨(lw_k2 232 (by decide +kernel) (by decide +kernel)), ⟨by decide +kernel, by decide +kernel, by decide +kernel⟩, by decide +kernel, by decide, (lw_k1 1 (by decide +kernel) (by decide +kernel))⟩
abbrev mX6_indexOfName : MD := (yX6_indexOfName, cX6_indexOfName, 4, (some .int))
theorem kCX6_indexOfName : okC mX6_indexOfName 3 := ⟨(lw_k3 1 (by decide +kernel) (by decide +kernel)), ⟨by decide +kernel, by decide +kernel, by decide +kernel⟩, by decide +kernel, by decide, (lw_k1 1 (by decide +kernel) (by decide +kernel))⟩
abbrev mJ5_init_d00df : MD := (yJ5_init_d00df, cJ5_init_d00df, 2, none)
theorem kCJ5_init_d00df : okC mJ5_init_d00df 1 := ⟨(lw_k1 219 (by decide +kernel) (by decide +kernel)), ⟨by decide +kernel, by decide +kernel, by decide +kernel⟩, by decide +kernel, by decide, (lw_k1 5 (by decide +kernel) (by decide +kernel))⟩
abbrev mJ5_init_a7421 : MD := (yJ5_init_a7421, cJ5_init_a7421, 5, none)
theorem kCJ5_init_a7421 : okC mJ5_init_a7421 1 := ⟨(lw_k5 67 (by decide +kernel) (by decide +kernel)), ⟨by decide +kernel, by decide +kernel, by decide +kernel⟩, by decide +kernel, by decide, (lw_k1 5 (by decide +kernel) (by decide +kernel))⟩
abbrev mJ5_length_8abf5 : MD := (yJ5_length_8abf5, cJ5_length_8abf5, 1, (some .int))
theorem kCJ5_length_8abf5 : okC mJ5_length_8abf5 0 := ⟨(lw_k4 78 (by decide +kernel) (by decide +kernel)), ⟨by decide +kernel, by decide +kernel, by decide +kernel⟩, by decide +kernel, by decide, (lw_k1 5 (by decide +kernel) (by decide +kernel))⟩
abbrev mJ5_ensureCapacityInternal_d00df : MD := (yJ5_ensureCapacityInternal_d00df, cJ5_ensureCapacityInternal_d00df, 3, none)
theorem kCJ5_ensureCapacityInternal_d00df : okC mJ5_ensureCapacityInternal_d00df 1 := ⟨(lw_k4 139 (by decide +kernel) (by decide +kernel)), ⟨by decide +kernel, by decide +kernel, by decide +kernel⟩, by decide +kernel, by decide, (lw_k1 5 (by decide +kernel) (by decide +kernel))⟩
abbrev mJ5_newCapacity_0f7a4 : MD := (yJ5_newCapacity_0f7a4, cJ5_newCapacity_0f7a4, 6, (some .int))
theorem kCJ5_newCapacity_0f7a4 : okC mJ5_newCapacity_0f7a4 1 := ⟨(lw_k4 143 (by decide +kernel) (by decide +kernel)), ⟨by decide +kernel, by decide +kernel, by decide +kernel⟩, by decide +kernel, by decide, (lw_k1 5 (by decide +kernel) (by decide +kernel))⟩
abbrev mJ5_inflate_da8c8 : MD := (yJ5_inflate_da8c8, cJ5_inflate_da8c8, 2, none)
theorem kCJ5_inflate_da8c8 : okC mJ5_inflate_da8c8 0 := ⟨(lw_k4 198 (by decide +kernel) (by decide +kernel)), ⟨by decide +kernel, by decide +kernel, by decide +kernel⟩, by decide +kernel, by decide, (lw_k1 5 (by decide +kernel) (by decide +kernel))⟩
abbrev mJ5_setLength_d00df : MD := (yJ5_setLength_d00df, cJ5_setLength_d00df, 2, none)
theorem kCJ5_setLength_d00df : okC mJ5_setLength_d00df 1 := ⟨(lw_k5 153 (by decide +kernel) (by decide +kernel)), ⟨by decide +kernel, by decide +kernel, by decide +kernel⟩, by decide +kernel, by decide, (lw_k1 5 (by decide +kernel) (by decide +kernel))⟩
abbrev mJ5_charAt_5068e : MD := (yJ5_charAt_5068e, cJ5_charAt_5068e, 5, (some .char))
theorem kCJ5_charAt_5068e : okC mJ5_charAt_5068e 1 := ⟨(lw_k4 85 (by decide +kernel) (by decide +kernel)), ⟨by decide +kernel, by decide +kernel, by decide +kernel⟩, by decide +kernel, by decide, (lw_k1 5 (by decide +kernel) (by decide +kernel))⟩
abbrev mJ5_append_cf1ce : MD := (yJ5_append_cf1ce, cJ5_append_cf1ce, 3, (some (.object "java/lang/AbstractStringBuilder")))
theorem kCJ5_append_cf1ce : okC mJ5_append_cf1ce 1 := ⟨(lw_k4 131 (by decide +kernel) (by decide +kernel)), ⟨by decide +kernel, by decide +kernel, by decide +kernel⟩, by decide +kernel, by decide, (lw_k1 5 (by decide +kernel) (by decide +kernel))⟩
abbrev mJ5_appendNull_278bc : MD := (yJ5_appendNull_278bc, cJ5_appendNull_278bc, 3, (some (.object "java/lang/AbstractStringBuilder")))
theorem kCJ5_appendNull_278bc : okC mJ5_appendNull_278bc 0 := ⟨(lw_k4 135 (by decide +kernel) (by decide +kernel)), ⟨by decide +kernel, by decide +kernel, by decide +kernel⟩, by decide +kernel, by decide, (lw_k1 5 (by decide +kernel) (by decide +kernel))⟩
abbrev mJ5_append_3fe6f : MD := (yJ5_append_3fe6f, cJ5_append_3fe6f, 2, (some (.object "java/lang/AbstractStringBuilder")))
theorem kCJ5_append_3fe6f : okC mJ5_append_3fe6f 1 := ⟨(lw_k5 83 (by decide +kernel) (by decide +kernel)), ⟨by decide +kernel, by decide +kernel, by decide +kernel⟩, by decide +kernel, by decide, (lw_k1 5 (by decide +kernel) (by decide +kernel))⟩
abbrev mJ5_append_c97b9 : MD := (yJ5_append_c97b9, cJ5_append_c97b9, 4, (some (.object "java/lang/AbstractStringBuilder")))
theorem kCJ5_append_c97b9 : okC mJ5_append_c97b9 1 := ⟨(lw_k4 226 (by decide +kernel) (by decide +kernel)), ⟨by decide +kernel, by decide +kernel, by decide +kernel⟩, by decide +kernel, by decide, (lw_k1 5 (by decide +kernel) (by decide +kernel))⟩
abbrev mJ5_getValue_6d5f1 : MD := (yJ5_getValue_6d5f1, cJ5_getValue_6d5f1, 1, (some (.array .byte)))
theorem kCJ5_getValue_6d5f1 : okC mJ5_getValue_6d5f1 0 := ⟨(lw_k5 29 (by decide +kernel) (by decide +kernel)), ⟨by decide +kernel, by decide +kernel, by decide +kernel⟩, by decide +kernel, by decide, (lw_k1 5 (by decide +kernel) (by decide +kernel))⟩
abbrev mJ5_isLatin1_aae02 : MD := (yJ5_isLatin1_aae02, cJ5_isLatin1_aae02, 1, (some .boolean))
theorem kCJ5_isLatin1_aae02 : okC mJ5_isLatin1_aae02 0 := ⟨(lw_k4 169 (by decide +kernel) (by decide +kernel)), ⟨by decide +kernel, by decide +kernel, by decide +kernel⟩, by decide +kernel, by decide, (lw_k1 5 (by decide +kernel) (by decide +kernel))⟩
abbrev mJ5_inflateIfNeededFor_a7421 : MD := (yJ5_inflateIfNeededFor_a7421, cJ5_inflateIfNeededFor_a7421, 2, none)
theorem kCJ5_inflateIfNeededFor_a7421 : okC mJ5_inflateIfNeededFor_a7421 1 := ⟨(lw_k4 193 (by decide +kernel) (by decide +kernel)), ⟨by decide +kernel, by decide +kernel, by decide +kernel⟩, by decide +kernel, by decide, (lw_k1 5 (by decide +kernel) (by decide +kernel))⟩
abbrev mJ5_putStringAt_47b60 : MD := (yJ5_putStringAt_47b60, cJ5_putStringAt_47b60, 3, none)
theorem kCJ5_putStringAt_47b60 : okC mJ5_putStringAt_47b60 2 := ⟨(lw_k4 189 (by decide +kernel) (by decide +kernel)), ⟨by decide +kernel, by decide +kernel, by decide +kernel⟩, by decide +kernel, by decide, (lw_k1 5 (by decide +kernel) (by decide +kernel))⟩
abbrev mJ6_getChars_ba4f3 : MD := (yJ6_getChars_ba4f3, cJ6_getChars_ba4f3, 7, (some .int))
theorem kCJ6_getChars_ba4f3 : okC mJ6_getChars_ba4f3 3 := ⟨(lw_k4 232 (by decide +kernel) (by decide +kernel)), ⟨by decide +kernel, by decide +kernel, by decide +kernel⟩, by decide +kernel, by decide, (lw_k1 18 (by decide +kernel) (by decide +kernel))⟩
abbrev mJ6_stringSize_0f7a4 : MD := (yJ6_stringSize_0f7a4, cJ6_stringSize_0f7a4, 4, (some .int))
theorem kCJ6_stringSize_0f7a4 : okC mJ6_stringSize_0f7a4 1 := ⟨(lw_k4 229 (by decide +kernel) (by decide +kernel)), ⟨by decide +kernel, by decide +kernel, by decide +kernel⟩, by decide +kernel, by decide, (lw_k1 18 (by decide +kernel) (by decide +kernel))⟩
abbrev mJ6_bitCount_0f7a4 : MD := (yJ6_bitCount_0f7a4, cJ6_bitCount_0f7a4, 1, (some .int))
theorem kCJ6_bitCount_0f7a4 : okC mJ6_bitCount_0f7a4 1 := ⟨(lw_k3 224 (by decide +kernel) (by decide +kernel)), ⟨by decide +kernel, by decide +kernel, by decide +kernel⟩, by decide +kernel, by decide, (lw_k1 18 (by decide +kernel) (by decide +kernel))⟩
abbrev mJ0_init_81219 : MD := (yJ0_init_81219, cJ0_init_81219, 2, none)
theorem kCJ0_init_81219 : okC mJ0_init_81219 1 := ⟨(lw_k5 20 (by decide +kernel) (by decide +kernel)), ⟨by decide +kernel, by decide +kernel, by decide +kernel⟩, by decide +kernel, by decide, (lw_k1 7 (by decide +kernel) (by decide +kernel))⟩
abbrev mJ0_length_8abf5 : MD := (yJ0_length_8abf5, cJ0_length_8abf5, 1, (some .int))
theorem kCJ0_length_8abf5 : okC mJ0_length_8abf5 0 := ⟨(lw_k2 133 (by decide +kernel) (by decide +kernel)), ⟨by decide +kernel, by decide +kernel, by decide +kernel⟩, by decide +kernel, by decide, (lw_k1 7 (by decide +kernel) (by decide +kernel))⟩
abbrev mJ0_charAt_5068e : MD := (yJ0_charAt_5068e, cJ0_charAt_5068e, 2, (some .char))
theorem kCJ0_charAt_5068e : okC mJ0_charAt_5068e 1 := ⟨(lw_k2 142 (by decide +kernel) (by decide +kernel)), ⟨by decide +kernel, by decide +kernel, by decide +kernel⟩, by decide +kernel, by decide, (lw_k1 7 (by decide +kernel) (by decide +kernel))⟩
abbrev mJ0_equals_9ea2d : MD := (yJ0_equals_9ea2d, cJ0_equals_9ea2d, 3, (some .boolean))
theorem kCJ0_equals_9ea2d : okC mJ0_equals_9ea2d 1 := ⟨(lw_k5 206 (by decide +kernel) (by decide +kernel)), ⟨by decide +kernel, by decide +kernel, by decide +kernel⟩, by decide +kernel, by decide, (lw_k1 7 (by decide +kernel) (by decide +kernel))⟩
abbrev mJ0_getBytes_840e7 : MD := (yJ0_getBytes_840e7, cJ0_getBytes_840e7, 4, none)
theorem kCJ0_getBytes_840e7 : okC mJ0_getBytes_840e7 3 := ⟨(lw_k4 217 (by decide +kernel) (by decide +kernel)), ⟨by decide +kernel, by decide +kernel, by decide +kernel⟩, by decide +kernel, by decide, (lw_k1 7 (by decide +kernel) (by decide +kernel))⟩
abbrev mJ0_init_db425 : MD := (yJ0_init_db425, cJ0_init_db425, 5, none)
theorem kCJ0_init_db425 : okC mJ0_init_db425 2 := ⟨(lw_k5 23 (by decide +kernel) (by decide +kernel)), ⟨by decide +kernel, by decide +kernel, by decide +kernel⟩, by decide +kernel, by decide, (lw_k1 7 (by decide +kernel) (by decide +kernel))⟩
abbrev mJ0_coder_7d493 : MD := (yJ0_coder_7d493, cJ0_coder_7d493, 1, (some .byte))
theorem kCJ0_coder_7d493 : okC mJ0_coder_7d493 0 := ⟨(lw_k2 137 (by decide +kernel) (by decide +kernel)), ⟨by decide +kernel, by decide +kernel, by decide +kernel⟩, by decide +kernel, by decide, (lw_k1 7 (by decide +kernel) (by decide +kernel))⟩
abbrev mJ0_isLatin1_aae02 : MD := (yJ0_isLatin1_aae02, cJ0_isLatin1_aae02, 1, (some .boolean))
theorem kCJ0_isLatin1_aae02 : okC mJ0_isLatin1_aae02 0 := ⟨(lw_k2 146 (by decide +kernel) (by decide +kernel)), ⟨by decide +kernel, by decide +kernel, by decide +kernel⟩, by decide +kernel, by decide, (lw_k1 7 (by decide +kernel) (by decide +kernel))⟩
abbrev mJ0_checkIndex_df160 : MD := (yJ0_checkIndex_df160, cJ0_checkIndex_df160, 2, none)
theorem kCJ0_checkIndex_df160 : okC mJ0_checkIndex_df160 2 := ⟨(lw_k2 152 (by decide +kernel) (by decide +kernel)), ⟨by decide +kernel, by decide +kernel, by decide +kernel⟩, by decide +kernel, by decide, (lw_k1 7 (by decide +kernel) (by decide +kernel))⟩
abbrev mJ0_checkBoundsOffCount_cabcc : MD := (yJ0_checkBoundsOffCount_cabcc, cJ0_checkBoundsOffCount_cabcc, 3, (some .int))
theorem kCJ0_checkBoundsOffCount_cabcc : okC mJ0_checkBoundsOffCount_cabcc 3 := ⟨(lw_k4 210 (by decide +kernel) (by decide +kernel)), ⟨by decide +kernel, by decide +kernel, by decide +kernel⟩, by decide +kernel, by decide, (lw_k1 7 (by decide +kernel) (by decide +kernel))⟩
abbrev mJ0_checkBoundsBeginEnd_23922 : MD := (yJ0_checkBoundsBeginEnd_23922, cJ0_checkBoundsBeginEnd_23922, 3, none)
theorem kCJ0_checkBoundsBeginEnd_23922 : okC mJ0_checkBoundsBeginEnd_23922 3 := ⟨(lw_k4 178 (by decide +kernel) (by decide +kernel)), ⟨by decide +kernel, by decide +kernel, by decide +kernel⟩, by decide +kernel, by decide, (lw_k1 7 (by decide +kernel) (by decide +kernel))⟩
abbrev mJ4_init_da8c8 : MD := (yJ4_init_da8c8, cJ4_init_da8c8, 1, none)
theorem kCJ4_init_da8c8 : okC mJ4_init_da8c8 0 := ⟨(lw_k1 216 (by decide +kernel) (by decide +kernel)), ⟨by decide +kernel, by decide +kernel, by decide +kernel⟩, by decide +kernel, by decide, (lw_k1 6 (by decide +kernel) (by decide +kernel))⟩
abbrev mJ4_init_a7421 : MD := (yJ4_init_a7421, cJ4_init_a7421, 2, none)
theorem kCJ4_init_a7421 : okC mJ4_init_a7421 1 := ⟨(lw_k5 64 (by decide +kernel) (by decide +kernel)), ⟨by decide +kernel, by decide +kernel, by decide +kernel⟩, by decide +kernel, by decide, (lw_k1 6 (by decide +kernel) (by decide +kernel))⟩
abbrev mJ4_append_15ec4 : MD := (yJ4_append_15ec4, cJ4_append_15ec4, 2, (some (.object "java/lang/StringBuilder")))
theorem kCJ4_append_15ec4 : okC mJ4_append_15ec4 1 := ⟨(lw_k4 128 (by decide +kernel) (by decide +kernel)), ⟨by decide +kernel, by decide +kernel, by decide +kernel⟩, by decide +kernel, by decide, (lw_k1 6 (by decide +kernel) (by decide +kernel))⟩
abbrev mJ4_append_cf468 : MD := (yJ4_append_cf468, cJ4_append_cf468, 2, (some (.object "java/lang/StringBuilder")))
theorem kCJ4_append_cf468 : okC mJ4_append_cf468 1 := ⟨(lw_k5 80 (by decide +kernel) (by decide +kernel)), ⟨by decide +kernel, by decide +kernel, by decide +kernel⟩, by decide +kernel, by decide, (lw_k1 6 (by decide +kernel) (by decide +kernel))⟩
abbrev mJ4_append_bf812 : MD := (yJ4_append_bf812, cJ4_append_bf812, 2, (some (.object "java/lang/StringBuilder")))
theorem kCJ4_append_bf812 : okC mJ4_append_bf812 1 := ⟨(lw_k4 223 (by decide +kernel) (by decide +kernel)), ⟨by decide +kernel, by decide +kernel, by decide +kernel⟩, by decide +kernel, by decide, (lw_k1 6 (by decide +kernel) (by decide +kernel))⟩
abbrev mJ4_toString_0e30d : MD := (yJ4_toString_0e30d, cJ4_toString_0e30d, 1, (some (.object "java/lang/String")))
theorem kCJ4_toString_0e30d : okC mJ4_toString_0e30d 0 := ⟨(lw_k5 15 (by decide +kernel) (by decide +kernel)), ⟨by decide +kernel, by decide +kernel, by decide +kernel⟩, by decide +kernel, by decide, (lw_k1 6 (by decide +kernel) (by decide +kernel))⟩
abbrev mJ4_append_cf1ce : MD := (yJ4_append_cf1ce, cJ4_append_cf1ce, 2, (some (.object "java/lang/AbstractStringBuilder")))
theorem kCJ4_append_cf1ce : okC mJ4_append_cf1ce 1 := ⟨(lw_k5 71 (by decide +kernel) (by decide +kernel)), ⟨by decide +kernel, by decide +kernel, by decide +kernel⟩, by decide +kernel, by decide, (lw_k1 6 (by decide +kernel) (by decide +kernel))⟩
abbrev mJ4_charAt_5068e : MD := (yJ4_charAt_5068e, cJ4_charAt_5068e, 2, (some .char))
theorem kCJ4_charAt_5068e : okC mJ4_charAt_5068e 1 := ⟨(lw_k4 82 (by decide +kernel) (by decide +kernel)), ⟨by decide +kernel, by decide +kernel, by decide +kernel⟩, by decide +kernel, by decide, (lw_k1 6 (by decide +kernel) (by decide +kernel))⟩
abbrev mJ4_setLength_d00df : MD := (yJ4_setLength_d00df, cJ4_setLength_d00df, 2, none)
theorem kCJ4_setLength_d00df : okC mJ4_setLength_d00df 1 := ⟨(lw_k5 150 (by decide +kernel) (by decide +kernel)), ⟨by decide +kernel, by decide +kernel, by decide +kernel⟩, by decide +kernel, by decide, (lw_k1 6 (by decide +kernel) (by decide +kernel))⟩
abbrev mJ4_length_8abf5 : MD := (yJ4_length_8abf5, cJ4_length_8abf5, 1, (some .int))
theorem kCJ4_length_8abf5 : okC mJ4_length_8abf5 0 := ⟨(lw_k4 75 (by decide +kernel) (by decide +kernel)), ⟨by decide +kernel, by decide +kernel, by decide +kernel⟩, by decide +kernel, by decide, (lw_k1 6 (by decide +kernel) (by decide +kernel))⟩
abbrev mJ1_charAt_3b067 : MD := (yJ1_charAt_3b067, cJ1_charAt_3b067, 2, (some .char))
theorem kCJ1_charAt_3b067 : okC mJ1_charAt_3b067 2 := ⟨(lw_k2 149 (by decide +kernel) (by decide +kernel)), ⟨by decide +kernel, by decide +kernel, by decide +kernel⟩, by decide +kernel, by decide, (lw_k1 16 (by decide +kernel) (by decide +kernel))⟩
abbrev mJ1_canEncode_fc78d : MD := (yJ1_canEncode_fc78d, cJ1_canEncode_fc78d, 1, (some .boolean))
theorem kCJ1_canEncode_fc78d : okC mJ1_canEncode_fc78d 1 := ⟨(lw_k5 86 (by decide +kernel) (by decide +kernel)), ⟨by decide +kernel, by decide +kernel, by decide +kernel⟩, by decide +kernel, by decide, (lw_k1 16 (by decide +kernel) (by decide +kernel))⟩
abbrev mJ1_equals_b5fdf : MD := (yJ1_equals_b5fdf, cJ1_equals_b5fdf, 3, (some .boolean))
theorem kCJ1_equals_b5fdf : okC mJ1_equals_b5fdf 2 := ⟨(lw_k5 210 (by decide +kernel) (by decide +kernel)), ⟨by decide +kernel, by decide +kernel, by decide +kernel⟩, by decide +kernel, by decide, (lw_k1 16 (by decide +kernel) (by decide +kernel))⟩
abbrev mJ1_fillNull_b72d1 : MD := (yJ1_fillNull_b72d1, cJ1_fillNull_b72d1, 3, none)
theorem kCJ1_fillNull_b72d1 : okC mJ1_fillNull_b72d1 3 := ⟨(lw_k5 156 (by decide +kernel) (by decide +kernel)), ⟨by decide +kernel, by decide +kernel, by decide +kernel⟩, by decide +kernel, by decide, (lw_k1 16 (by decide +kernel) (by decide +kernel))⟩
abbrev mJ1_inflate_0e8fd : MD := (yJ1_inflate_0e8fd, cJ1_inflate_0e8fd, 5, none)
theorem kCJ1_inflate_0e8fd : okC mJ1_inflate_0e8fd 5 := ⟨(lw_k4 201 (by decide +kernel) (by decide +kernel)), ⟨by decide +kernel, by decide +kernel, by decide +kernel⟩, by decide +kernel, by decide, (lw_k1 16 (by decide +kernel) (by decide +kernel))⟩
abbrev mJ2_newBytesFor_77867 : MD := (yJ2_newBytesFor_77867, cJ2_newBytesFor_77867, 1, (some (.array .byte)))
theorem kCJ2_newBytesFor_77867 : okC mJ2_newBytesFor_77867 1 := ⟨(lw_k1 225 (by decide +kernel) (by decide +kernel)), ⟨by decide +kernel, by decide +kernel, by decide +kernel⟩, by decide +kernel, by decide, (lw_k1 8 (by decide +kernel) (by decide +kernel))⟩
abbrev mJ2_newBytesLength_0f7a4 : MD := (yJ2_newBytesLength_0f7a4, cJ2_newBytesLength_0f7a4, 1, (some .int))
theorem kCJ2_newBytesLength_0f7a4 : okC mJ2_newBytesLength_0f7a4 1 := ⟨(lw_k1 228 (by decide +kernel) (by decide +kernel)), ⟨by decide +kernel, by decide +kernel, by decide +kernel⟩, by decide +kernel, by decide, (lw_k1 8 (by decide +kernel) (by decide +kernel))⟩
abbrev mJ2_putChar_b72d1 : MD := (yJ2_putChar_b72d1, cJ2_putChar_b72d1, 3, none)
theorem kCJ2_putChar_b72d1 : okC mJ2_putChar_b72d1 3 := ⟨(lw_k4 184 (by decide +kernel) (by decide +kernel)), ⟨by decide +kernel, by decide +kernel, by decide +kernel⟩, by decide +kernel, by decide, (lw_k1 8 (by decide +kernel) (by decide +kernel))⟩
abbrev mJ2_getChar_3b067 : MD := (yJ2_getChar_3b067, cJ2_getChar_3b067, 2, (some .char))
theorem kCJ2_getChar_3b067 : okC mJ2_getChar_3b067 2 := ⟨(lw_k2 170 (by decide +kernel) (by decide +kernel)), ⟨by decide +kernel, by decide +kernel, by decide +kernel⟩, by decide +kernel, by decide, (lw_k1 8 (by decide +kernel) (by decide +kernel))⟩
abbrev mJ2_length_9d52b : MD := (yJ2_length_9d52b, cJ2_length_9d52b, 1, (some .int))
theorem kCJ2_length_9d52b : okC mJ2_length_9d52b 1 := ⟨(lw_k2 166 (by decide +kernel) (by decide +kernel)), ⟨by decide +kernel, by decide +kernel, by decide +kernel⟩, by decide +kernel, by decide, (lw_k1 8 (by decide +kernel) (by decide +kernel))⟩
abbrev mJ2_coderFromArrayLen_85cad : MD := (yJ2_coderFromArrayLen_85cad, cJ2_coderFromArrayLen_85cad, 2, (some .byte))
theorem kCJ2_coderFromArrayLen_85cad : okC mJ2_coderFromArrayLen_85cad 2 := ⟨(lw_k5 50 (by decide +kernel) (by decide +kernel)), ⟨by decide +kernel, by decide +kernel, by decide +kernel⟩, by decide +kernel, by decide, (lw_k1 8 (by decide +kernel) (by decide +kernel))⟩
abbrev mJ2_compress_39247 : MD := (yJ2_compress_39247, cJ2_compress_39247, 6, (some (.array .byte)))
theorem kCJ2_compress_39247 : okC mJ2_compress_39247 3 := ⟨(lw_k5 43 (by decide +kernel) (by decide +kernel)), ⟨by decide +kernel, by decide +kernel, by decide +kernel⟩, by decide +kernel, by decide, (lw_k1 8 (by decide +kernel) (by decide +kernel))⟩
abbrev mJ2_compress_5af95 : MD := (yJ2_compress_5af95, cJ2_compress_5af95, 7, (some .int))
theorem kCJ2_compress_5af95 : okC mJ2_compress_5af95 5 := ⟨(lw_k5 46 (by decide +kernel) (by decide +kernel)), ⟨by decide +kernel, by decide +kernel, by decide +kernel⟩, by decide +kernel, by decide, (lw_k1 8 (by decide +kernel) (by decide +kernel))⟩
abbrev mJ2_fillNull_b72d1 : MD := (yJ2_fillNull_b72d1, cJ2_fillNull_b72d1, 3, none)
theorem kCJ2_fillNull_b72d1 : okC mJ2_fillNull_b72d1 3 := ⟨(lw_k5 165 (by decide +kernel) (by decide +kernel)), ⟨by decide +kernel, by decide +kernel, by decide +kernel⟩, by decide +kernel, by decide, (lw_k1 8 (by decide +kernel) (by decide +kernel))⟩
abbrev mJ2_putCharSB_b72d1 : MD := (yJ2_putCharSB_b72d1, cJ2_putCharSB_b72d1, 3, none)
theorem kCJ2_putCharSB_b72d1 : okC mJ2_putCharSB_b72d1 3 := ⟨(lw_k5 89 (by decide +kernel) (by decide +kernel)), ⟨by decide +kernel, by decide +kernel, by decide +kernel⟩, by decide +kernel, by decide, (lw_k1 8 (by decide +kernel) (by decide +kernel))⟩
abbrev mJ2_getChars_46870 : MD := (yJ2_getChars_46870, cJ2_getChars_46870, 5, (some .int))
theorem kCJ2_getChars_46870 : okC mJ2_getChars_46870 4 := ⟨(lw_k4 239 (by decide +kernel) (by decide +kernel)), ⟨by decide +kernel, by decide +kernel, by decide +kernel⟩, by decide +kernel, by decide, (lw_k1 8 (by decide +kernel) (by decide +kernel))⟩
abbrev mJ2_putCharsAt_cd4e5 : MD := (yJ2_putCharsAt_cd4e5, cJ2_putCharsAt_cd4e5, 7, (some .int))
theorem kCJ2_putCharsAt_cd4e5 : okC mJ2_putCharsAt_cd4e5 6 := ⟨(lw_k4 172 (by decide +kernel) (by decide +kernel)), ⟨by decide +kernel, by decide +kernel, by decide +kernel⟩, by decide +kernel, by decide, (lw_k1 8 (by decide +kernel) (by decide +kernel))⟩
abbrev mJ2_charAt_3b067 : MD := (yJ2_charAt_3b067, cJ2_charAt_3b067, 2, (some .char))
theorem kCJ2_charAt_3b067 : okC mJ2_charAt_3b067 2 := ⟨(lw_k2 160 (by decide +kernel) (by decide +kernel)), ⟨by decide +kernel, by decide +kernel, by decide +kernel⟩, by decide +kernel, by decide, (lw_k1 8 (by decide +kernel) (by decide +kernel))⟩
abbrev mJ2_inflate_0e8fd : MD := (yJ2_inflate_0e8fd, cJ2_inflate_0e8fd, 6, none)
theorem kCJ2_inflate_0e8fd : okC mJ2_inflate_0e8fd 5 := ⟨(lw_k4 204 (by decide +kernel) (by decide +kernel)), ⟨by decide +kernel, by decide +kernel, by decide +kernel⟩, by decide +kernel, by decide, (lw_k1 8 (by decide +kernel) (by decide +kernel))⟩
abbrev mJ2_getChars_ba4f3 : MD := (yJ2_getChars_ba4f3, cJ2_getChars_ba4f3, 7, (some .int))
theorem kCJ2_getChars_ba4f3 : okC mJ2_getChars_ba4f3 3 := ⟨(lw_k5 2 (by decide +kernel) (by decide +kernel)), ⟨by decide +kernel, by decide +kernel, by decide +kernel⟩, by decide +kernel, by decide, (lw_k1 8 (by decide +kernel) (by decide +kernel))⟩
abbrev mJ2_checkIndex_2214a : MD := (yJ2_checkIndex_2214a, cJ2_checkIndex_2214a, 2, none)
theorem kCJ2_checkIndex_2214a : okC mJ2_checkIndex_2214a 2 := ⟨(lw_k2 163 (by decide +kernel) (by decide +kernel)), ⟨by decide +kernel, by decide +kernel, by decide +kernel⟩, by decide +kernel, by decide, (lw_k1 8 (by decide +kernel) (by decide +kernel))⟩
abbrev mJ2_checkBoundsBeginEnd_d044e : MD := (yJ2_checkBoundsBeginEnd_d044e, cJ2_checkBoundsBeginEnd_d044e, 3, none)
theorem kCJ2_checkBoundsBeginEnd_d044e : okC mJ2_checkBoundsBeginEnd_d044e 3 := ⟨(lw_k4 175 (by decide +kernel) (by decide +kernel)), ⟨by decide +kernel, by decide +kernel, by decide +kernel⟩, by decide +kernel, by decide, (lw_k1 8 (by decide +kernel) (by decide +kernel))⟩
abbrev mJ2_checkBoundsOffCount_d044e : MD := (yJ2_checkBoundsOffCount_d044e, cJ2_checkBoundsOffCount_d044e, 3, none)
theorem kCJ2_checkBoundsOffCount_d044e : okC mJ2_checkBoundsOffCount_d044e 3 := ⟨(lw_k4 207 (by decide +kernel) (by decide +kernel)), ⟨by decide +kernel, by decide +kernel, by decide +kernel⟩, by decide +kernel, by decide, (lw_k1 8 (by decide +kernel) (by decide +kernel))⟩
abbrev mJ7_rangeCheck_23922 : MD := (yJ7_rangeCheck_23922, cJ7_rangeCheck_23922, 3, none)
theorem kCJ7_rangeCheck_23922 : okC mJ7_rangeCheck_23922 3 := ⟨(lw_k5 162 (by decide +kernel) (by decide +kernel)), ⟨by decide +kernel, by decide +kernel, by decide +kernel⟩, by decide +kernel, by decide, (lw_k1 14 (by decide +kernel) (by decide +kernel))⟩
abbrev mJ7_fill_eb02e : MD := (yJ7_fill_eb02e, cJ7_fill_eb02e, 5, none)
theorem kCJ7_fill_eb02e : okC mJ7_fill_eb02e 4 := ⟨(lw_k5 159 (by decide +kernel) (by decide +kernel)), ⟨by decide +kernel, by decide +kernel, by decide +kernel⟩, by decide +kernel, by decide, (lw_k1 14 (by decide +kernel) (by decide +kernel))⟩
abbrev mJ7_copyOf_9075b : MD := (yJ7_copyOf_9075b, cJ7_copyOf_9075b, 3, (some (.array .byte)))
theorem kCJ7_copyOf_9075b : okC mJ7_copyOf_9075b 2 := ⟨(lw_k4 155 (by decide +kernel) (by decide +kernel)), ⟨by decide +kernel, by decide +kernel, by decide +kernel⟩, by decide +kernel, by decide, (lw_k1 14 (by decide +kernel) (by decide +kernel))⟩
abbrev mJ7_checkLength_df160 : MD := (yJ7_checkLength_df160, cJ7_checkLength_df160, 2, none)
theorem kCJ7_checkLength_df160 : okC mJ7_checkLength_df160 2 := ⟨(lw_k5 40 (by decide +kernel) (by decide +kernel)), ⟨by decide +kernel, by decide +kernel, by decide +kernel⟩, by decide +kernel, by decide, (lw_k1 14 (by decide +kernel) (by decide +kernel))⟩
abbrev mJ7_copyOfRange_39247 : MD := (yJ7_copyOfRange_39247, cJ7_copyOfRange_39247, 3, (some (.array .byte)))
theorem kCJ7_copyOfRange_39247 : okC mJ7_copyOfRange_39247 3 := ⟨(lw_k5 34 (by decide +kernel) (by decide +kernel)), ⟨by decide +kernel, by decide +kernel, by decide +kernel⟩, by decide +kernel, by decide, (lw_k1 14 (by decide +kernel) (by decide +kernel))⟩
abbrev mJ7_copyOfRangeByte_39247 : MD := (yJ7_copyOfRangeByte_39247, cJ7_copyOfRangeByte_39247, 5, (some (.array .byte)))
theorem kCJ7_copyOfRangeByte_39247 : okC mJ7_copyOfRangeByte_39247 3 := ⟨(lw_k5 37 (by decide +kernel) (by decide +kernel)), ⟨by decide +kernel, by decide +kernel, by decide +kernel⟩, by decide +kernel, by decide, (lw_k1 14 (by decide +kernel) (by decide +kernel))⟩
abbrev mJ8_newLength_cabcc : MD := (yJ8_newLength_cabcc, cJ8_newLength_cabcc, 4, (some .int))
theorem kCJ8_newLength_cabcc : okC mJ8_newLength_cabcc 3 := ⟨(lw_k4 146 (by decide +kernel) (by decide +kernel)), ⟨by decide +kernel, by decide +kernel, by decide +kernel⟩, by decide +kernel, by decide, (lw_k1 12 (by decide +kernel) (by decide +kernel))⟩
abbrev mJ8_hugeLength_7cf53 : MD := (yJ8_hugeLength_7cf53, cJ8_hugeLength_7cf53, 3, (some .int))
theorem kCJ8_hugeLength_7cf53 : okC mJ8_hugeLength_7cf53 2 := ⟨(lw_k4 151 (by decide +kernel) (by decide +kernel)), ⟨by decide +kernel, by decide +kernel, by decide +kernel⟩, by decide +kernel, by decide, (lw_k1 12 (by decide +kernel) (by decide +kernel))⟩
abbrev mJ3_checkIndex_8e157 : MD := (yJ3_checkIndex_8e157, cJ3_checkIndex_8e157, 3, (some .int))
theorem kCJ3_checkIndex_8e157 : okC mJ3_checkIndex_8e157 3 := ⟨(lw_k2 157 (by decide +kernel) (by decide +kernel)), ⟨by decide +kernel, by decide +kernel, by decide +kernel⟩, by decide +kernel, by decide, (lw_k1 17 (by decide +kernel) (by decide +kernel))⟩
abbrev mJ3_checkFromToIndex_8c36e : MD := (yJ3_checkFromToIndex_8c36e, cJ3_checkFromToIndex_8c36e, 4, (some .int))
theorem kCJ3_checkFromToIndex_8c36e : okC mJ3_checkFromToIndex_8c36e 4 := ⟨(lw_k4 181 (by decide +kernel) (by decide +kernel)), ⟨by decide +kernel, by decide +kernel, by decide +kernel⟩, by decide +kernel, by decide, (lw_k1 17 (by decide +kernel) (by decide +kernel))⟩
abbrev mJ3_checkFromIndexSize_8c36e : MD := (yJ3_checkFromIndexSize_8c36e, cJ3_checkFromIndexSize_8c36e, 4, (some .int))
theorem kCJ3_checkFromIndexSize_8c36e : okC mJ3_checkFromIndexSize_8c36e 4 := ⟨(lw_k4 213 (by decide +kernel) (by decide +kernel)), ⟨by decide +kernel, by decide +kernel, by decide +kernel⟩, by decide +kernel, by decide, (lw_k1 17 (by decide +kernel) (by decide +kernel))⟩
abbrev mL_draw : MD := (yL_draw, cL_draw, 3, (some .int))
theorem kCL_draw : okC mL_draw 3 := ⟨(lw_k4 91 (by decide +kernel) (by decide +kernel)), ⟨by decide +kernel, by decide +kernel, by decide +kernel⟩, by decide +kernel, by decide, (lw_k1 0 (by decide +kernel) (by decide +kernel))⟩
abbrev mL_four : MD := (yL_four, cL_four, 4, (some .int))
theorem kCL_four : okC mL_four 2 := ⟨(lw_k4 99 (by decide +kernel) (by decide +kernel)), ⟨by decide +kernel, by decide +kernel, by decide +kernel⟩, by decide +kernel, by decide, (lw_k1 0 (by decide +kernel) (by decide +kernel))⟩
abbrev mL_feed : MD := (yL_feed, cL_feed, 3, (some .boolean))
theorem kCL_feed : okC mL_feed 2 := ⟨(lw_k4 95 (by decide +kernel) (by decide +kernel)), ⟨by decide +kernel, by decide +kernel, by decide +kernel⟩, by decide +kernel, by decide, (lw_k1 0 (by decide +kernel) (by decide +kernel))⟩
abbrev mL_pieces : MD := (yL_pieces, cL_pieces, 1, (some .int))
theorem kCL_pieces : okC mL_pieces 1 := ⟨(lw_k4 115 (by decide +kernel) (by decide +kernel)), ⟨by decide +kernel, by decide +kernel, by decide +kernel⟩, by decide +kernel, by decide, (lw_k1 0 (by decide +kernel) (by decide +kernel))⟩
abbrev mL_shapes : MD := (yL_shapes, cL_shapes, 1, (some .int))
theorem kCL_shapes : okC mL_shapes 1 := ⟨(lw_k4 118 (by decide +kernel) (by decide +kernel)), ⟨by decide +kernel, by decide +kernel, by decide +kernel⟩, by decide +kernel, by decide, (lw_k1 0 (by decide +kernel) (by decide +kernel))⟩
abbrev mL_yarns : MD := (yL_yarns, cL_yarns, 1, (some .int))
theorem kCL_yarns : okC mL_yarns 1 := ⟨(lw_k5 75 (by decide +kernel) (by decide +kernel)), ⟨by decide +kernel, by decide +kernel, by decide +kernel⟩, by decide +kernel, by decide, (lw_k1 0 (by decide +kernel) (by decide +kernel))⟩
abbrev mL_steam : MD := (yL_steam, cL_steam, 1, (some .int))
theorem kCL_steam : okC mL_steam 1 := ⟨(lw_k5 9 (by decide +kernel) (by decide +kernel)), ⟨by decide +kernel, by decide +kernel, by decide +kernel⟩, by decide +kernel, by decide, (lw_k1 0 (by decide +kernel) (by decide +kernel))⟩
abbrev mL_shape : MD := (yL_shape, cL_shape, 2, (some .int))
theorem kCL_shape : okC mL_shape 2 := ⟨(lw_k5 99 (by decide +kernel) (by decide +kernel)), ⟨by decide +kernel, by decide +kernel, by decide +kernel⟩, by decide +kernel, by decide, (lw_k1 0 (by decide +kernel) (by decide +kernel))⟩
abbrev mL_stretch : MD := (yL_stretch, cL_stretch, 2, (some .int))
theorem kCL_stretch : okC mL_stretch 2 := ⟨(lw_k5 92 (by decide +kernel) (by decide +kernel)), ⟨by decide +kernel, by decide +kernel, by decide +kernel⟩, by decide +kernel, by decide, (lw_k1 0 (by decide +kernel) (by decide +kernel))⟩
abbrev mL_recovery : MD := (yL_recovery, cL_recovery, 2, (some .int))
theorem kCL_recovery : okC mL_recovery 2 := ⟨(lw_k5 95 (by decide +kernel) (by decide +kernel)), ⟨by decide +kernel, by decide +kernel, by decide +kernel⟩, by decide +kernel, by decide, (lw_k1 0 (by decide +kernel) (by decide +kernel))⟩
abbrev mL_yarn : MD := (yL_yarn, cL_yarn, 2, (some .int))
theorem kCL_yarn : okC mL_yarn 2 := ⟨(lw_k5 106 (by decide +kernel) (by decide +kernel)), ⟨by decide +kernel, by decide +kernel, by decide +kernel⟩, by decide +kernel, by decide, (lw_k1 0 (by decide +kernel) (by decide +kernel))⟩
abbrev mL_kind : MD := (yL_kind, cL_kind, 2, (some .int))
theorem kCL_kind : okC mL_kind 2 := ⟨(lw_k5 111 (by decide +kernel) (by decide +kernel)), ⟨by decide +kernel, by decide +kernel, by decide +kernel⟩, by decide +kernel, by decide, (lw_k1 0 (by decide +kernel) (by decide +kernel))⟩
abbrev mL_knitted : MD := (yL_knitted, cL_knitted, 2, (some .int))
theorem kCL_knitted : okC mL_knitted 2 := ⟨(lw_k5 114 (by decide +kernel) (by decide +kernel)), ⟨by decide +kernel, by decide +kernel, by decide +kernel⟩, by decide +kernel, by decide, (lw_k1 0 (by decide +kernel) (by decide +kernel))⟩
abbrev mL_shade : MD := (yL_shade, cL_shade, 2, (some .int))
theorem kCL_shade : okC mL_shade 2 := ⟨(lw_k5 117 (by decide +kernel) (by decide +kernel)), ⟨by decide +kernel, by decide +kernel, by decide +kernel⟩, by decide +kernel, by decide, (lw_k1 0 (by decide +kernel) (by decide +kernel))⟩
abbrev mL_plant : MD := (yL_plant, cL_plant, 3, (some (.object "java/lang/String")))
theorem kCL_plant : okC mL_plant 1 := ⟨(lw_k4 121 (by decide +kernel) (by decide +kernel)), ⟨by decide +kernel, by decide +kernel, by decide +kernel⟩, by decide +kernel, by decide, (lw_k1 0 (by decide +kernel) (by decide +kernel))⟩
abbrev mL_load : MD := (yL_load, cL_load, 2, (some .boolean))
theorem kCL_load : okC mL_load 2 := ⟨(lw_k5 120 (by decide +kernel) (by decide +kernel)), ⟨by decide +kernel, by decide +kernel, by decide +kernel⟩, by decide +kernel, by decide, (lw_k1 0 (by decide +kernel) (by decide +kernel))⟩
abbrev mL_fails : MD := (yL_fails, cL_fails, 5, (some .boolean))
theorem kCL_fails : okC mL_fails 4 := ⟨(lw_k5 135 (by decide +kernel) (by decide +kernel)), ⟨by decide +kernel, by decide +kernel, by decide +kernel⟩, by decide +kernel, by decide, (lw_k1 0 (by decide +kernel) (by decide +kernel))⟩
abbrev mL_written : MD := (yL_written, cL_written, 4, (some (.object "java/lang/String")))
theorem kCL_written : okC mL_written 1 := ⟨(lw_k5 142 (by decide +kernel) (by decide +kernel)), ⟨by decide +kernel, by decide +kernel, by decide +kernel⟩, by decide +kernel, by decide, (lw_k1 0 (by decide +kernel) (by decide +kernel))⟩
abbrev mL_tried : MD := (yL_tried, cL_tried, 4, (some .int))
theorem kCL_tried : okC mL_tried 2 := ⟨(lw_k5 193 (by decide +kernel) (by decide +kernel)), ⟨by decide +kernel, by decide +kernel, by decide +kernel⟩, by decide +kernel, by decide, (lw_k1 0 (by decide +kernel) (by decide +kernel))⟩
theorem kKX2_96 : Cond.constantLong RX2 96 (1048575) ∈ lw_g := (lw_k3 218 (by decide +kernel) (by decide +kernel))
theorem kLX6_7 : Cond.classLink RX6 7 RX4 ∈ lw_g := (lw_k1 27 (by decide +kernel) (by decide +kernel))
theorem kNX6_7 : okN RX6 7 5 12 [.null, .int 0, .int 0, .null, .int 0, .int 0, .int 0, .int 0, .int 0, .int 0, .int 0, .int 0] := ⟨RX4, TX4, tyX4, rfl, inngX4, tyX4_ok, kLX6_7, (lw_k1 28 (by decide +kernel) (by decide +kernel)), (lw_k1 2 (by decide +kernel) (by decide +kernel)), fun j hj => by rcases (show j = 0 ∨ j = 1 ∨ j = 2 ∨ j = 3 ∨ j = 4 ∨ j = 5 ∨ j = 6 ∨ j = 7 ∨ j = 8 ∨ j = 9 ∨ j = 10 ∨ j = 11 by omega) with rfl | rfl | rfl | rfl | rfl | rfl | rfl | rfl | rfl | rfl | rfl | rfl <;> rfl⟩
theorem kLX6_23 : Cond.classLink RX6 23 RJ4 ∈ lw_g := (lw_k1 212 (by decide +kernel) (by decide +kernel))
theorem kNX6_23 : okN RX6 23 0 4 [.null, .int 0, .int 0, .int 0] := ⟨RJ4, TJ4, tyJ4, rfl, inngJ4, tyJ4_ok, kLX6_23, (lw_k1 213 (by decide +kernel) (by decide +kernel)), (lw_k1 6 (by decide +kernel) (by decide +kernel)), fun j hj => by rcases (show j = 0 ∨ j = 1 ∨ j = 2 ∨ j = 3 by omega) with rfl | rfl | rfl | rfl <;> rfl⟩
theorem kLX6_30 : Cond.classLink RX6 30 RX5 ∈ lw_g := (lw_k2 5 (by decide +kernel) (by decide +kernel))
theorem kNX6_30 : okN RX6 30 6 13 [.null, .int 0, .int 0, .int 0, .int 0, .int 0, .int 0, .null, .null, .null, .null, .null, .null] := ⟨RX5, TX5, tyX5, rfl, inngX5, tyX5_ok, kLX6_30, (lw_k1 34 (by decide +kernel) (by decide +kernel)), (lw_k1 3 (by decide +kernel) (by decide +kernel)), fun j hj => by rcases (show j = 0 ∨ j = 1 ∨ j = 2 ∨ j = 3 ∨ j = 4 ∨ j = 5 ∨ j = 6 ∨ j = 7 ∨ j = 8 ∨ j = 9 ∨ j = 10 ∨ j = 11 ∨ j = 12 by omega) with rfl | rfl | rfl | rfl | rfl | rfl | rfl | rfl | rfl | rfl | rfl | rfl | rfl <;> rfl⟩
theorem kLX6_40 : Cond.classLink RX6 40 RX1 ∈ lw_g := (lw_k2 7 (by decide +kernel) (by decide +kernel))
theorem kNX6_40 : okN RX6 40 2 3 [.int 0, .int 0, .null] := ⟨RX1, TX1, tyX1, rfl, inngX1, tyX1_ok, kLX6_40, (lw_k2 8 (by decide +kernel) (by decide +kernel)), (lw_k1 9 (by decide +kernel) (by decide +kernel)), fun j hj => by rcases (show j = 0 ∨ j = 1 ∨ j = 2 by omega) with rfl | rfl | rfl <;> rfl⟩
theorem kLX6_47 : Cond.classLink RX6 47 RX2 ∈ lw_g := (lw_k2 27 (by decide +kernel) (by decide +kernel))
theorem kNX6_47 : okN RX6 47 3 4 [.null, .null, .null, .long 0] := ⟨RX2, TX2, tyX2, rfl, inngX2, tyX2_ok, kLX6_47, (lw_k2 28 (by decide +kernel) (by decide +kernel)), (lw_k1 10 (by decide +kernel) (by decide +kernel)), fun j hj => by rcases (show j = 0 ∨ j = 1 ∨ j = 2 ∨ j = 3 by omega) with rfl | rfl | rfl | rfl <;> rfl⟩
theorem kLX6_54 : Cond.classLink RX6 54 RX3 ∈ lw_g := (lw_k2 47 (by decide +kernel) (by decide +kernel))
theorem kNX6_54 : okN RX6 54 4 4 [.int 0, .int 0, .int 0, .null] := ⟨RX3, TX3, tyX3, rfl, inngX3, tyX3_ok, kLX6_54, (lw_k2 48 (by decide +kernel) (by decide +kernel)), (lw_k1 11 (by decide +kernel) (by decide +kernel)), fun j hj => by rcases (show j = 0 ∨ j = 1 ∨ j = 2 ∨ j = 3 by omega) with rfl | rfl | rfl | rfl <;> rfl⟩
theorem kLX1_9 : Cond.classLink RX1 9 RX5 ∈ lw_g := (lw_k2 13 (by decide +kernel) (by decide +kernel))
theorem kNX1_9 : okN RX1 9 6 13 [.null, .int 0, .int 0, .int 0, .int 0, .int 0, .int 0, .null, .null, .null, .null, .null, .null] := ⟨RX5, TX5, tyX5, rfl, inngX5, tyX5_ok, kLX1_9, (lw_k1 34 (by decide +kernel) (by decide +kernel)), (lw_k1 3 (by decide +kernel) (by decide +kernel)), fun j hj => by rcases (show j = 0 ∨ j = 1 ∨ j = 2 ∨ j = 3 ∨ j = 4 ∨ j = 5 ∨ j = 6 ∨ j = 7 ∨ j = 8 ∨ j = 9 ∨ j = 10 ∨ j = 11 ∨ j = 12 by omega) with rfl | rfl | rfl | rfl | rfl | rfl | rfl | rfl | rfl | rfl | rfl | rfl | rfl <;> rfl⟩
theorem kLX4_15 : Cond.classLink RX4 15 RX5 ∈ lw_g := (lw_k1 33 (by decide +kernel) (by decide +kernel))
theorem kNX4_15 : okN RX4 15 6 13 [.null, .int 0, .int 0, .int 0, .int 0, .int 0, .int 0, .null, .null, .null, .null, .null, .null] := ⟨RX5, TX5, tyX5, rfl, inngX5, tyX5_ok, kLX4_15, (lw_k1 34 (by decide +kernel) (by decide +kernel)), (lw_k1 3 (by decide +kernel) (by decide +kernel)), fun j hj => by rcases (show j = 0 ∨ j = 1 ∨ j = 2 ∨ j = 3 ∨ j = 4 ∨ j = 5 ∨ j = 6 ∨ j = 7 ∨ j = 8 ∨ j = 9 ∨ j = 10 ∨ j = 11 ∨ j = 12 by omega) with rfl | rfl | rfl | rfl | rfl | rfl | rfl | rfl | rfl | rfl | rfl | rfl | rfl <;> rfl⟩
theorem kLX5_9 : Cond.classLink RX5 9 RX0 ∈ lw_g := (lw_k1 39 (by decide +kernel) (by decide +kernel))
theorem kNX5_9 : okN RX5 9 1 11 [.int 0, .int 0, .int 0, .null, .null, .null, .null, .null, .null, .null, .null] := ⟨RX0, TX0, tyX0, rfl, inngX0, tyX0_ok, kLX5_9, (lw_k1 40 (by decide +kernel) (by decide +kernel)), (lw_k1 4 (by decide +kernel) (by decide +kernel)), fun j hj => by rcases (show j = 0 ∨ j = 1 ∨ j = 2 ∨ j = 3 ∨ j = 4 ∨ j = 5 ∨ j = 6 ∨ j = 7 ∨ j = 8 ∨ j = 9 ∨ j = 10 by omega) with rfl | rfl | rfl | rfl | rfl | rfl | rfl | rfl | rfl | rfl | rfl <;> rfl⟩
theorem kLL_25 : Cond.classLink RL 25 RX6 ∈ lw_g := (lw_k1 19 (by decide +kernel) (by decide +kernel))
theorem kNL_25 : okN RL 25 7 9 [.null, .int 0, .null, .null, .null, .null, .null, .null, .null] := ⟨RX6, TX6, tyX6, rfl, inngX6, tyX6_ok, kLL_25, (lw_k1 20 (by decide +kernel) (by decide +kernel)), (lw_k1 1 (by decide +kernel) (by decide +kernel)), fun j hj => by rcases (show j = 0 ∨ j = 1 ∨ j = 2 ∨ j = 3 ∨ j = 4 ∨ j = 5 ∨ j = 6 ∨ j = 7 ∨ j = 8 by omega) with rfl | rfl | rfl | rfl | rfl | rfl | rfl | rfl | rfl <;> rfl⟩
theorem kLL_42 : Cond.classLink RL 42 RJ4 ∈ lw_g := (lw_k4 122 (by decide +kernel) (by decide +kernel))
theorem kNL_42 : okN RL 42 0 4 [.null, .int 0, .int 0, .int 0] := ⟨RJ4, TJ4, tyJ4, rfl, inngJ4, tyJ4_ok, kLL_42, (lw_k1 213 (by decide +kernel) (by decide +kernel)), (lw_k1 6 (by decide +kernel) (by decide +kernel)), fun j hj => by rcases (show j = 0 ∨ j = 1 ∨ j = 2 ∨ j = 3 by omega) with rfl | rfl | rfl | rfl <;> rfl⟩
theorem kLJ0_10 : Cond.classLink RJ0 10 RJ0 ∈ lw_g := (lw_k5 207 (by decide +kernel) (by decide +kernel))
theorem kNJ0_10 : okN RJ0 10 8 4 [.null, .int 0, .int 0, .int 0] := ⟨RJ0, TJ0, tyJ0, rfl, inngJ0, tyJ0_ok, kLJ0_10, (lw_k5 17 (by decide +kernel) (by decide +kernel)), (lw_k1 7 (by decide +kernel) (by decide +kernel)), fun j hj => by rcases (show j = 0 ∨ j = 1 ∨ j = 2 ∨ j = 3 by omega) with rfl | rfl | rfl | rfl <;> rfl⟩
theorem kLJ4_18 : Cond.classLink RJ4 18 RJ0 ∈ lw_g := (lw_k5 16 (by decide +kernel) (by decide +kernel))
theorem kNJ4_18 : okN RJ4 18 8 4 [.null, .int 0, .int 0, .int 0] := ⟨RJ0, TJ0, tyJ0, rfl, inngJ0, tyJ0_ok, kLJ4_18, (lw_k5 17 (by decide +kernel) (by decide +kernel)), (lw_k1 7 (by decide +kernel) (by decide +kernel)), fun j hj => by rcases (show j = 0 ∨ j = 1 ∨ j = 2 ∨ j = 3 by omega) with rfl | rfl | rfl | rfl <;> rfl⟩
theorem kLJ7_311 : Cond.classLink RJ7 311 "[B" ∈ lw_g := (lw_k4 162 (by decide +kernel) (by decide +kernel))
theorem kGX6_10 : okG RX6 10 7 3 := ⟨RX6, TX6, 9, rfl, by decide, inngX6, (lw_k2 71 (by decide +kernel) (by decide +kernel))⟩
theorem kFX6_10 : okF RX6 10 7 3 (.object "HosieryPlant$Parser") true := ⟨RX6, TX6, 9, tyX6, rfl, by decide, inngX6, (lw_k2 71 (by decide +kernel) (by decide +kernel)), tyX6_ok, nmX6, rfl, rfl, fun _ => rfl⟩
theorem kGX6_16 : okG RX6 16 5 3 := ⟨RX4, TX4, 12, rfl, by decide, inngX4, (lw_k1 178 (by decide +kernel) (by decide +kernel))⟩
theorem kGX6_20 : okG RX6 20 7 0 := ⟨RX6, TX6, 9, rfl, by decide, inngX6, (lw_k2 68 (by decide +kernel) (by decide +kernel))⟩
theorem kFX6_20 : okF RX6 20 7 0 (.array .int) true := ⟨RX6, TX6, 9, tyX6, rfl, by decide, inngX6, (lw_k2 68 (by decide +kernel) (by decide +kernel)), tyX6_ok, nmX6, rfl, rfl, fun _ => rfl⟩
theorem kGX6_26 : okG RX6 26 7 2 := ⟨RX6, TX6, 9, rfl, by decide, inngX6, (lw_k2 70 (by decide +kernel) (by decide +kernel))⟩
theorem kFX6_26 : okF RX6 26 7 2 (.object "java/lang/StringBuilder") true := ⟨RX6, TX6, 9, tyX6, rfl, by decide, inngX6, (lw_k2 70 (by decide +kernel) (by decide +kernel)), tyX6_ok, nmX6, rfl, rfl, fun _ => rfl⟩
theorem kGX6_33 : okG RX6 33 7 4 := ⟨RX6, TX6, 9, rfl, by decide, inngX6, (lw_k2 72 (by decide +kernel) (by decide +kernel))⟩
theorem kFX6_33 : okF RX6 33 7 4 (.object "HosieryPlant$Plant") true := ⟨RX6, TX6, 9, tyX6, rfl, by decide, inngX6, (lw_k2 72 (by decide +kernel) (by decide +kernel)), tyX6_ok, nmX6, rfl, rfl, fun _ => rfl⟩
theorem kGX6_37 : okG RX6 37 7 5 := ⟨RX6, TX6, 9, rfl, by decide, inngX6, (lw_k2 73 (by decide +kernel) (by decide +kernel))⟩
theorem kFX6_37 : okF RX6 37 7 5 (.object "HosieryPlant$Plant") true := ⟨RX6, TX6, 9, tyX6, rfl, by decide, inngX6, (lw_k2 73 (by decide +kernel) (by decide +kernel)), tyX6_ok, nmX6, rfl, rfl, fun _ => rfl⟩
theorem kGX6_43 : okG RX6 43 7 6 := ⟨RX6, TX6, 9, rfl, by decide, inngX6, (lw_k2 74 (by decide +kernel) (by decide +kernel))⟩
theorem kFX6_43 : okF RX6 43 7 6 (.object "HosieryPlant$History") true := ⟨RX6, TX6, 9, tyX6, rfl, by decide, inngX6, (lw_k2 74 (by decide +kernel) (by decide +kernel)), tyX6_ok, nmX6, rfl, rfl, fun _ => rfl⟩
theorem kGX6_50 : okG RX6 50 7 7 := ⟨RX6, TX6, 9, rfl, by decide, inngX6, (lw_k2 75 (by decide +kernel) (by decide +kernel))⟩
theorem kFX6_50 : okF RX6 50 7 7 (.object "HosieryPlant$Matching") true := ⟨RX6, TX6, 9, tyX6, rfl, by decide, inngX6, (lw_k2 75 (by decide +kernel) (by decide +kernel)), tyX6_ok, nmX6, rfl, rfl, fun _ => rfl⟩
theorem kGX6_57 : okG RX6 57 7 8 := ⟨RX6, TX6, 9, rfl, by decide, inngX6, (lw_k2 76 (by decide +kernel) (by decide +kernel))⟩
theorem kFX6_57 : okF RX6 57 7 8 (.object "HosieryPlant$Pairing") true := ⟨RX6, TX6, 9, tyX6, rfl, by decide, inngX6, (lw_k2 76 (by decide +kernel) (by decide +kernel)), tyX6_ok, nmX6, rfl, rfl, fun _ => rfl⟩
theorem kGX6_61 : okG RX6 61 7 1 := ⟨RX6, TX6, 9, rfl, by decide, inngX6, (lw_k2 69 (by decide +kernel) (by decide +kernel))⟩
theorem kFX6_61 : okF RX6 61 7 1 .int false := ⟨RX6, TX6, 9, tyX6, rfl, by decide, inngX6, (lw_k2 69 (by decide +kernel) (by decide +kernel)), tyX6_ok, nmX6, rfl, rfl, fun q => absurd q (by decide)⟩
theorem kGX6_76 : okG RX6 76 5 0 := ⟨RX4, TX4, 12, rfl, by decide, inngX4, (lw_k1 172 (by decide +kernel) (by decide +kernel))⟩
theorem kGX6_83 : okG RX6 83 6 6 := ⟨RX5, TX5, 13, rfl, by decide, inngX5, (lw_k1 131 (by decide +kernel) (by decide +kernel))⟩
theorem kFX6_83 : okF RX6 83 6 6 .int false := ⟨RX5, TX5, 13, tyX5, rfl, by decide, inngX5, (lw_k1 131 (by decide +kernel) (by decide +kernel)), tyX5_ok, nmX5, rfl, rfl, fun q => absurd q (by decide)⟩
theorem kGX6_86 : okG RX6 86 5 1 := ⟨RX4, TX4, 12, rfl, by decide, inngX4, (lw_k1 174 (by decide +kernel) (by decide +kernel))⟩
theorem kFX6_86 : okF RX6 86 5 1 .int false := ⟨RX4, TX4, 12, tyX4, rfl, by decide, inngX4, (lw_k1 174 (by decide +kernel) (by decide +kernel)), tyX4_ok, nmX4, rfl, rfl, fun q => absurd q (by decide)⟩
theorem kGX6_89 : okG RX6 89 5 2 := ⟨RX4, TX4, 12, rfl, by decide, inngX4, (lw_k1 176 (by decide +kernel) (by decide +kernel))⟩
theorem kFX6_89 : okF RX6 89 5 2 .int false := ⟨RX4, TX4, 12, tyX4, rfl, by decide, inngX4, (lw_k1 176 (by decide +kernel) (by decide +kernel)), tyX4_ok, nmX4, rfl, rfl, fun q => absurd q (by decide)⟩
theorem kGX6_96 : okG RX6 96 6 0 := ⟨RX5, TX5, 13, rfl, by decide, inngX5, (lw_k1 114 (by decide +kernel) (by decide +kernel))⟩
theorem kGX6_100 : okG RX6 100 1 3 := ⟨RX0, TX0, 11, rfl, by decide, inngX0, (lw_k1 59 (by decide +kernel) (by decide +kernel))⟩
theorem kGX6_105 : okG RX6 105 1 0 := ⟨RX0, TX0, 11, rfl, by decide, inngX0, (lw_k1 48 (by decide +kernel) (by decide +kernel))⟩
theorem kFX6_105 : okF RX6 105 1 0 .int false := ⟨RX0, TX0, 11, tyX0, rfl, by decide, inngX0, (lw_k1 48 (by decide +kernel) (by decide +kernel)), tyX0_ok, nmX0, rfl, rfl, fun q => absurd q (by decide)⟩
theorem kGX6_111 : okG RX6 111 1 6 := ⟨RX0, TX0, 11, rfl, by decide, inngX0, (lw_k1 70 (by decide +kernel) (by decide +kernel))⟩
theorem kGX6_114 : okG RX6 114 1 1 := ⟨RX0, TX0, 11, rfl, by decide, inngX0, (lw_k1 52 (by decide +kernel) (by decide +kernel))⟩
theorem kFX6_114 : okF RX6 114 1 1 .int false := ⟨RX0, TX0, 11, tyX0, rfl, by decide, inngX0, (lw_k1 52 (by decide +kernel) (by decide +kernel)), tyX0_ok, nmX0, rfl, rfl, fun q => absurd q (by decide)⟩
theorem kGX6_117 : okG RX6 117 1 8 := ⟨RX0, TX0, 11, rfl, by decide, inngX0, (lw_k1 76 (by decide +kernel) (by decide +kernel))⟩
theorem kGX6_120 : okG RX6 120 1 2 := ⟨RX0, TX0, 11, rfl, by decide, inngX0, (lw_k1 55 (by decide +kernel) (by decide +kernel))⟩
theorem kFX6_120 : okF RX6 120 1 2 .int false := ⟨RX0, TX0, 11, tyX0, rfl, by decide, inngX0, (lw_k1 55 (by decide +kernel) (by decide +kernel)), tyX0_ok, nmX0, rfl, rfl, fun q => absurd q (by decide)⟩
theorem kGX6_123 : okG RX6 123 6 5 := ⟨RX5, TX5, 13, rfl, by decide, inngX5, (lw_k1 128 (by decide +kernel) (by decide +kernel))⟩
theorem kFX6_123 : okF RX6 123 6 5 .int false := ⟨RX5, TX5, 13, tyX5, rfl, by decide, inngX5, (lw_k1 128 (by decide +kernel) (by decide +kernel)), tyX5_ok, nmX5, rfl, rfl, fun q => absurd q (by decide)⟩
theorem kGX6_126 : okG RX6 126 2 0 := ⟨RX1, TX1, 3, rfl, by decide, inngX1, (lw_k2 17 (by decide +kernel) (by decide +kernel))⟩
theorem kFX6_126 : okF RX6 126 2 0 .int false := ⟨RX1, TX1, 3, tyX1, rfl, by decide, inngX1, (lw_k2 17 (by decide +kernel) (by decide +kernel)), tyX1_ok, nmX1, rfl, rfl, fun q => absurd q (by decide)⟩
theorem kGX6_129 : okG RX6 129 6 1 := ⟨RX5, TX5, 13, rfl, by decide, inngX5, (lw_k1 117 (by decide +kernel) (by decide +kernel))⟩
theorem kFX6_129 : okF RX6 129 6 1 .int false := ⟨RX5, TX5, 13, tyX5, rfl, by decide, inngX5, (lw_k1 117 (by decide +kernel) (by decide +kernel)), tyX5_ok, nmX5, rfl, rfl, fun q => absurd q (by decide)⟩
theorem kGX6_132 : okG RX6 132 6 2 := ⟨RX5, TX5, 13, rfl, by decide, inngX5, (lw_k1 120 (by decide +kernel) (by decide +kernel))⟩
theorem kFX6_132 : okF RX6 132 6 2 .int false := ⟨RX5, TX5, 13, tyX5, rfl, by decide, inngX5, (lw_k1 120 (by decide +kernel) (by decide +kernel)), tyX5_ok, nmX5, rfl, rfl, fun q => absurd q (by decide)⟩
theorem kGX6_135 : okG RX6 135 6 3 := ⟨RX5, TX5, 13, rfl, by decide, inngX5, (lw_k1 123 (by decide +kernel) (by decide +kernel))⟩
theorem kFX6_135 : okF RX6 135 6 3 .int false := ⟨RX5, TX5, 13, tyX5, rfl, by decide, inngX5, (lw_k1 123 (by decide +kernel) (by decide +kernel)), tyX5_ok, nmX5, rfl, rfl, fun q => absurd q (by decide)⟩
theorem kGX6_148 : okG RX6 148 6 9 := ⟨RX5, TX5, 13, rfl, by decide, inngX5, (lw_k1 138 (by decide +kernel) (by decide +kernel))⟩
theorem kGX6_151 : okG RX6 151 6 11 := ⟨RX5, TX5, 13, rfl, by decide, inngX5, (lw_k1 141 (by decide +kernel) (by decide +kernel))⟩
theorem kGX6_154 : okG RX6 154 6 7 := ⟨RX5, TX5, 13, rfl, by decide, inngX5, (lw_k1 134 (by decide +kernel) (by decide +kernel))⟩
theorem kGX6_156 : okG RX6 156 6 8 := ⟨RX5, TX5, 13, rfl, by decide, inngX5, (lw_k1 136 (by decide +kernel) (by decide +kernel))⟩
theorem kGX6_159 : okG RX6 159 6 12 := ⟨RX5, TX5, 13, rfl, by decide, inngX5, (lw_k1 143 (by decide +kernel) (by decide +kernel))⟩
theorem kGX6_242 : okG RX6 242 4 0 := ⟨RX3, TX3, 4, rfl, by decide, inngX3, (lw_k2 53 (by decide +kernel) (by decide +kernel))⟩
theorem kFX6_242 : okF RX6 242 4 0 .boolean false := ⟨RX3, TX3, 4, tyX3, rfl, by decide, inngX3, (lw_k2 53 (by decide +kernel) (by decide +kernel)), tyX3_ok, nmX3, rfl, rfl, fun q => absurd q (by decide)⟩
theorem kGX6_258 : okG RX6 258 4 1 := ⟨RX3, TX3, 4, rfl, by decide, inngX3, (lw_k2 55 (by decide +kernel) (by decide +kernel))⟩
theorem kFX6_258 : okF RX6 258 4 1 .int false := ⟨RX3, TX3, 4, tyX3, rfl, by decide, inngX3, (lw_k2 55 (by decide +kernel) (by decide +kernel)), tyX3_ok, nmX3, rfl, rfl, fun q => absurd q (by decide)⟩
theorem kGX6_264 : okG RX6 264 4 3 := ⟨RX3, TX3, 4, rfl, by decide, inngX3, (lw_k2 58 (by decide +kernel) (by decide +kernel))⟩
theorem kGX6_308 : okG RX6 308 6 4 := ⟨RX5, TX5, 13, rfl, by decide, inngX5, (lw_k1 126 (by decide +kernel) (by decide +kernel))⟩
theorem kFX6_308 : okF RX6 308 6 4 .int false := ⟨RX5, TX5, 13, tyX5, rfl, by decide, inngX5, (lw_k1 126 (by decide +kernel) (by decide +kernel)), tyX5_ok, nmX5, rfl, rfl, fun q => absurd q (by decide)⟩
theorem kGX6_353 : okG RX6 353 1 4 := ⟨RX0, TX0, 11, rfl, by decide, inngX0, (lw_k1 63 (by decide +kernel) (by decide +kernel))⟩
theorem kGX6_356 : okG RX6 356 1 5 := ⟨RX0, TX0, 11, rfl, by decide, inngX0, (lw_k1 67 (by decide +kernel) (by decide +kernel))⟩
theorem kGX6_361 : okG RX6 361 1 7 := ⟨RX0, TX0, 11, rfl, by decide, inngX0, (lw_k1 74 (by decide +kernel) (by decide +kernel))⟩
theorem kGX6_366 : okG RX6 366 1 9 := ⟨RX0, TX0, 11, rfl, by decide, inngX0, (lw_k1 80 (by decide +kernel) (by decide +kernel))⟩
theorem kGX6_369 : okG RX6 369 1 10 := ⟨RX0, TX0, 11, rfl, by decide, inngX0, (lw_k1 83 (by decide +kernel) (by decide +kernel))⟩
theorem kGX0_9 : okG RX0 9 1 3 := ⟨RX0, TX0, 11, rfl, by decide, inngX0, (lw_k1 57 (by decide +kernel) (by decide +kernel))⟩
theorem kFX0_9 : okF RX0 9 1 3 (.array .int) true := ⟨RX0, TX0, 11, tyX0, rfl, by decide, inngX0, (lw_k1 57 (by decide +kernel) (by decide +kernel)), tyX0_ok, nmX0, rfl, rfl, fun _ => rfl⟩
theorem kGX0_15 : okG RX0 15 1 4 := ⟨RX0, TX0, 11, rfl, by decide, inngX0, (lw_k1 60 (by decide +kernel) (by decide +kernel))⟩
theorem kFX0_15 : okF RX0 15 1 4 (.array .int) true := ⟨RX0, TX0, 11, tyX0, rfl, by decide, inngX0, (lw_k1 60 (by decide +kernel) (by decide +kernel)), tyX0_ok, nmX0, rfl, rfl, fun _ => rfl⟩
theorem kGX0_18 : okG RX0 18 1 5 := ⟨RX0, TX0, 11, rfl, by decide, inngX0, (lw_k1 64 (by decide +kernel) (by decide +kernel))⟩
theorem kFX0_18 : okF RX0 18 1 5 (.array .int) true := ⟨RX0, TX0, 11, tyX0, rfl, by decide, inngX0, (lw_k1 64 (by decide +kernel) (by decide +kernel)), tyX0_ok, nmX0, rfl, rfl, fun _ => rfl⟩
theorem kGX0_21 : okG RX0 21 1 6 := ⟨RX0, TX0, 11, rfl, by decide, inngX0, (lw_k1 68 (by decide +kernel) (by decide +kernel))⟩
theorem kFX0_21 : okF RX0 21 1 6 (.array .int) true := ⟨RX0, TX0, 11, tyX0, rfl, by decide, inngX0, (lw_k1 68 (by decide +kernel) (by decide +kernel)), tyX0_ok, nmX0, rfl, rfl, fun _ => rfl⟩
theorem kGX0_24 : okG RX0 24 1 7 := ⟨RX0, TX0, 11, rfl, by decide, inngX0, (lw_k1 71 (by decide +kernel) (by decide +kernel))⟩
theorem kFX0_24 : okF RX0 24 1 7 (.array .int) true := ⟨RX0, TX0, 11, tyX0, rfl, by decide, inngX0, (lw_k1 71 (by decide +kernel) (by decide +kernel)), tyX0_ok, nmX0, rfl, rfl, fun _ => rfl⟩
theorem kGX0_27 : okG RX0 27 1 8 := ⟨RX0, TX0, 11, rfl, by decide, inngX0, (lw_k1 75 (by decide +kernel) (by decide +kernel))⟩
theorem kFX0_27 : okF RX0 27 1 8 (.array .int) true := ⟨RX0, TX0, 11, tyX0, rfl, by decide, inngX0, (lw_k1 75 (by decide +kernel) (by decide +kernel)), tyX0_ok, nmX0, rfl, rfl, fun _ => rfl⟩
theorem kGX0_30 : okG RX0 30 1 9 := ⟨RX0, TX0, 11, rfl, by decide, inngX0, (lw_k1 78 (by decide +kernel) (by decide +kernel))⟩
theorem kFX0_30 : okF RX0 30 1 9 (.array .int) true := ⟨RX0, TX0, 11, tyX0, rfl, by decide, inngX0, (lw_k1 78 (by decide +kernel) (by decide +kernel)), tyX0_ok, nmX0, rfl, rfl, fun _ => rfl⟩
theorem kGX0_33 : okG RX0 33 1 10 := ⟨RX0, TX0, 11, rfl, by decide, inngX0, (lw_k1 81 (by decide +kernel) (by decide +kernel))⟩
theorem kFX0_33 : okF RX0 33 1 10 (.array .int) true := ⟨RX0, TX0, 11, tyX0, rfl, by decide, inngX0, (lw_k1 81 (by decide +kernel) (by decide +kernel)), tyX0_ok, nmX0, rfl, rfl, fun _ => rfl⟩
theorem kGX0_36 : okG RX0 36 1 0 := ⟨RX0, TX0, 11, rfl, by decide, inngX0, (lw_k1 45 (by decide +kernel) (by decide +kernel))⟩
theorem kFX0_36 : okF RX0 36 1 0 .int false := ⟨RX0, TX0, 11, tyX0, rfl, by decide, inngX0, (lw_k1 45 (by decide +kernel) (by decide +kernel)), tyX0_ok, nmX0, rfl, rfl, fun q => absurd q (by decide)⟩
theorem kGX0_40 : okG RX0 40 1 1 := ⟨RX0, TX0, 11, rfl, by decide, inngX0, (lw_k1 49 (by decide +kernel) (by decide +kernel))⟩
theorem kFX0_40 : okF RX0 40 1 1 .int false := ⟨RX0, TX0, 11, tyX0, rfl, by decide, inngX0, (lw_k1 49 (by decide +kernel) (by decide +kernel)), tyX0_ok, nmX0, rfl, rfl, fun q => absurd q (by decide)⟩
theorem kGX0_43 : okG RX0 43 1 2 := ⟨RX0, TX0, 11, rfl, by decide, inngX0, (lw_k1 53 (by decide +kernel) (by decide +kernel))⟩
theorem kFX0_43 : okF RX0 43 1 2 .int false := ⟨RX0, TX0, 11, tyX0, rfl, by decide, inngX0, (lw_k1 53 (by decide +kernel) (by decide +kernel)), tyX0_ok, nmX0, rfl, rfl, fun q => absurd q (by decide)⟩
theorem kGX1_11 : okG RX1 11 2 2 := ⟨RX1, TX1, 3, rfl, by decide, inngX1, (lw_k2 19 (by decide +kernel) (by decide +kernel))⟩
theorem kFX1_11 : okF RX1 11 2 2 (.array (.object "HosieryPlant$Plant")) true := ⟨RX1, TX1, 3, tyX1, rfl, by decide, inngX1, (lw_k2 19 (by decide +kernel) (by decide +kernel)), tyX1_ok, nmX1, rfl, rfl, fun _ => rfl⟩
theorem kGX1_18 : okG RX1 18 2 0 := ⟨RX1, TX1, 3, rfl, by decide, inngX1, (lw_k2 16 (by decide +kernel) (by decide +kernel))⟩
theorem kFX1_18 : okF RX1 18 2 0 .int false := ⟨RX1, TX1, 3, tyX1, rfl, by decide, inngX1, (lw_k2 16 (by decide +kernel) (by decide +kernel)), tyX1_ok, nmX1, rfl, rfl, fun q => absurd q (by decide)⟩
theorem kGX1_30 : okG RX1 30 2 1 := ⟨RX1, TX1, 3, rfl, by decide, inngX1, (lw_k2 18 (by decide +kernel) (by decide +kernel))⟩
theorem kFX1_30 : okF RX1 30 2 1 .int false := ⟨RX1, TX1, 3, tyX1, rfl, by decide, inngX1, (lw_k2 18 (by decide +kernel) (by decide +kernel)), tyX1_ok, nmX1, rfl, rfl, fun q => absurd q (by decide)⟩
theorem kGX2_9 : okG RX2 9 3 0 := ⟨RX2, TX2, 4, rfl, by decide, inngX2, (lw_k2 33 (by decide +kernel) (by decide +kernel))⟩
theorem kFX2_9 : okF RX2 9 3 0 (.array .int) true := ⟨RX2, TX2, 4, tyX2, rfl, by decide, inngX2, (lw_k2 33 (by decide +kernel) (by decide +kernel)), tyX2_ok, nmX2, rfl, rfl, fun _ => rfl⟩
theorem kGX2_15 : okG RX2 15 3 1 := ⟨RX2, TX2, 4, rfl, by decide, inngX2, (lw_k2 34 (by decide +kernel) (by decide +kernel))⟩
theorem kFX2_15 : okF RX2 15 3 1 (.array .int) true := ⟨RX2, TX2, 4, tyX2, rfl, by decide, inngX2, (lw_k2 34 (by decide +kernel) (by decide +kernel)), tyX2_ok, nmX2, rfl, rfl, fun _ => rfl⟩
theorem kGX2_18 : okG RX2 18 3 2 := ⟨RX2, TX2, 4, rfl, by decide, inngX2, (lw_k2 35 (by decide +kernel) (by decide +kernel))⟩
theorem kFX2_18 : okF RX2 18 3 2 (.array .long) true := ⟨RX2, TX2, 4, tyX2, rfl, by decide, inngX2, (lw_k2 35 (by decide +kernel) (by decide +kernel)), tyX2_ok, nmX2, rfl, rfl, fun _ => rfl⟩
theorem kGX2_51 : okG RX2 51 3 3 := ⟨RX2, TX2, 4, rfl, by decide, inngX2, (lw_k2 36 (by decide +kernel) (by decide +kernel))⟩
theorem kFX2_51 : okF RX2 51 3 3 .long false := ⟨RX2, TX2, 4, tyX2, rfl, by decide, inngX2, (lw_k2 36 (by decide +kernel) (by decide +kernel)), tyX2_ok, nmX2, rfl, rfl, fun q => absurd q (by decide)⟩
theorem kGX2_55 : okG RX2 55 6 6 := ⟨RX5, TX5, 13, rfl, by decide, inngX5, (lw_k1 130 (by decide +kernel) (by decide +kernel))⟩
theorem kFX2_55 : okF RX2 55 6 6 .int false := ⟨RX5, TX5, 13, tyX5, rfl, by decide, inngX5, (lw_k1 130 (by decide +kernel) (by decide +kernel)), tyX5_ok, nmX5, rfl, rfl, fun q => absurd q (by decide)⟩
theorem kGX3_9 : okG RX3 9 4 3 := ⟨RX3, TX3, 4, rfl, by decide, inngX3, (lw_k2 57 (by decide +kernel) (by decide +kernel))⟩
theorem kFX3_9 : okF RX3 9 4 3 (.array .int) true := ⟨RX3, TX3, 4, tyX3, rfl, by decide, inngX3, (lw_k2 57 (by decide +kernel) (by decide +kernel)), tyX3_ok, nmX3, rfl, rfl, fun _ => rfl⟩
theorem kGX3_15 : okG RX3 15 4 1 := ⟨RX3, TX3, 4, rfl, by decide, inngX3, (lw_k2 54 (by decide +kernel) (by decide +kernel))⟩
theorem kFX3_15 : okF RX3 15 4 1 .int false := ⟨RX3, TX3, 4, tyX3, rfl, by decide, inngX3, (lw_k2 54 (by decide +kernel) (by decide +kernel)), tyX3_ok, nmX3, rfl, rfl, fun q => absurd q (by decide)⟩
theorem kGX3_19 : okG RX3 19 4 2 := ⟨RX3, TX3, 4, rfl, by decide, inngX3, (lw_k2 56 (by decide +kernel) (by decide +kernel))⟩
theorem kFX3_19 : okF RX3 19 4 2 .int false := ⟨RX3, TX3, 4, tyX3, rfl, by decide, inngX3, (lw_k2 56 (by decide +kernel) (by decide +kernel)), tyX3_ok, nmX3, rfl, rfl, fun q => absurd q (by decide)⟩
theorem kGX4_9 : okG RX4 9 5 3 := ⟨RX4, TX4, 12, rfl, by decide, inngX4, (lw_k1 177 (by decide +kernel) (by decide +kernel))⟩
theorem kFX4_9 : okF RX4 9 5 3 (.array .int) true := ⟨RX4, TX4, 12, tyX4, rfl, by decide, inngX4, (lw_k1 177 (by decide +kernel) (by decide +kernel)), tyX4_ok, nmX4, rfl, rfl, fun _ => rfl⟩
theorem kGX4_18 : okG RX4 18 5 0 := ⟨RX4, TX4, 12, rfl, by decide, inngX4, (lw_k1 171 (by decide +kernel) (by decide +kernel))⟩
theorem kFX4_18 : okF RX4 18 5 0 (.object "HosieryPlant$Plant") true := ⟨RX4, TX4, 12, tyX4, rfl, by decide, inngX4, (lw_k1 171 (by decide +kernel) (by decide +kernel)), tyX4_ok, nmX4, rfl, rfl, fun _ => rfl⟩
theorem kGX4_22 : okG RX4 22 5 2 := ⟨RX4, TX4, 12, rfl, by decide, inngX4, (lw_k1 175 (by decide +kernel) (by decide +kernel))⟩
theorem kFX4_22 : okF RX4 22 5 2 .int false := ⟨RX4, TX4, 12, tyX4, rfl, by decide, inngX4, (lw_k1 175 (by decide +kernel) (by decide +kernel)), tyX4_ok, nmX4, rfl, rfl, fun q => absurd q (by decide)⟩
theorem kGX4_29 : okG RX4 29 5 1 := ⟨RX4, TX4, 12, rfl, by decide, inngX4, (lw_k1 173 (by decide +kernel) (by decide +kernel))⟩
theorem kFX4_29 : okF RX4 29 5 1 .int false := ⟨RX4, TX4, 12, tyX4, rfl, by decide, inngX4, (lw_k1 173 (by decide +kernel) (by decide +kernel)), tyX4_ok, nmX4, rfl, rfl, fun q => absurd q (by decide)⟩
theorem kGX4_32 : okG RX4 32 5 9 := ⟨RX4, TX4, 12, rfl, by decide, inngX4, (lw_k1 184 (by decide +kernel) (by decide +kernel))⟩
theorem kFX4_32 : okF RX4 32 5 9 .boolean false := ⟨RX4, TX4, 12, tyX4, rfl, by decide, inngX4, (lw_k1 184 (by decide +kernel) (by decide +kernel)), tyX4_ok, nmX4, rfl, rfl, fun q => absurd q (by decide)⟩
theorem kGX4_36 : okG RX4 36 5 10 := ⟨RX4, TX4, 12, rfl, by decide, inngX4, (lw_k1 185 (by decide +kernel) (by decide +kernel))⟩
theorem kFX4_36 : okF RX4 36 5 10 .boolean false := ⟨RX4, TX4, 12, tyX4, rfl, by decide, inngX4, (lw_k1 185 (by decide +kernel) (by decide +kernel)), tyX4_ok, nmX4, rfl, rfl, fun q => absurd q (by decide)⟩
theorem kGX4_39 : okG RX4 39 5 11 := ⟨RX4, TX4, 12, rfl, by decide, inngX4, (lw_k1 186 (by decide +kernel) (by decide +kernel))⟩
theorem kFX4_39 : okF RX4 39 5 11 .boolean false := ⟨RX4, TX4, 12, tyX4, rfl, by decide, inngX4, (lw_k1 186 (by decide +kernel) (by decide +kernel)), tyX4_ok, nmX4, rfl, rfl, fun q => absurd q (by decide)⟩
theorem kGX4_42 : okG RX4 42 5 4 := ⟨RX4, TX4, 12, rfl, by decide, inngX4, (lw_k1 179 (by decide +kernel) (by decide +kernel))⟩
theorem kFX4_42 : okF RX4 42 5 4 .int false := ⟨RX4, TX4, 12, tyX4, rfl, by decide, inngX4, (lw_k1 179 (by decide +kernel) (by decide +kernel)), tyX4_ok, nmX4, rfl, rfl, fun q => absurd q (by decide)⟩
theorem kGX4_45 : okG RX4 45 5 7 := ⟨RX4, TX4, 12, rfl, by decide, inngX4, (lw_k1 182 (by decide +kernel) (by decide +kernel))⟩
theorem kFX4_45 : okF RX4 45 5 7 .int false := ⟨RX4, TX4, 12, tyX4, rfl, by decide, inngX4, (lw_k1 182 (by decide +kernel) (by decide +kernel)), tyX4_ok, nmX4, rfl, rfl, fun q => absurd q (by decide)⟩
theorem kGX4_51 : okG RX4 51 5 5 := ⟨RX4, TX4, 12, rfl, by decide, inngX4, (lw_k1 180 (by decide +kernel) (by decide +kernel))⟩
theorem kFX4_51 : okF RX4 51 5 5 .int false := ⟨RX4, TX4, 12, tyX4, rfl, by decide, inngX4, (lw_k1 180 (by decide +kernel) (by decide +kernel)), tyX4_ok, nmX4, rfl, rfl, fun q => absurd q (by decide)⟩
theorem kGX4_75 : okG RX4 75 6 0 := ⟨RX5, TX5, 13, rfl, by decide, inngX5, (lw_k1 113 (by decide +kernel) (by decide +kernel))⟩
theorem kGX4_110 : okG RX4 110 6 1 := ⟨RX5, TX5, 13, rfl, by decide, inngX5, (lw_k1 116 (by decide +kernel) (by decide +kernel))⟩
theorem kFX4_110 : okF RX4 110 6 1 .int false := ⟨RX5, TX5, 13, tyX5, rfl, by decide, inngX5, (lw_k1 116 (by decide +kernel) (by decide +kernel)), tyX5_ok, nmX5, rfl, rfl, fun q => absurd q (by decide)⟩
theorem kGX4_113 : okG RX4 113 6 2 := ⟨RX5, TX5, 13, rfl, by decide, inngX5, (lw_k1 119 (by decide +kernel) (by decide +kernel))⟩
theorem kFX4_113 : okF RX4 113 6 2 .int false := ⟨RX5, TX5, 13, tyX5, rfl, by decide, inngX5, (lw_k1 119 (by decide +kernel) (by decide +kernel)), tyX5_ok, nmX5, rfl, rfl, fun q => absurd q (by decide)⟩
theorem kGX4_119 : okG RX4 119 6 3 := ⟨RX5, TX5, 13, rfl, by decide, inngX5, (lw_k1 122 (by decide +kernel) (by decide +kernel))⟩
theorem kFX4_119 : okF RX4 119 6 3 .int false := ⟨RX5, TX5, 13, tyX5, rfl, by decide, inngX5, (lw_k1 122 (by decide +kernel) (by decide +kernel)), tyX5_ok, nmX5, rfl, rfl, fun q => absurd q (by decide)⟩
theorem kGX4_122 : okG RX4 122 6 4 := ⟨RX5, TX5, 13, rfl, by decide, inngX5, (lw_k1 125 (by decide +kernel) (by decide +kernel))⟩
theorem kFX4_122 : okF RX4 122 6 4 .int false := ⟨RX5, TX5, 13, tyX5, rfl, by decide, inngX5, (lw_k1 125 (by decide +kernel) (by decide +kernel)), tyX5_ok, nmX5, rfl, rfl, fun q => absurd q (by decide)⟩
theorem kGX4_124 : okG RX4 124 1 0 := ⟨RX0, TX0, 11, rfl, by decide, inngX0, (lw_k1 47 (by decide +kernel) (by decide +kernel))⟩
theorem kFX4_124 : okF RX4 124 1 0 .int false := ⟨RX0, TX0, 11, tyX0, rfl, by decide, inngX0, (lw_k1 47 (by decide +kernel) (by decide +kernel)), tyX0_ok, nmX0, rfl, rfl, fun q => absurd q (by decide)⟩
theorem kGX4_133 : okG RX4 133 1 3 := ⟨RX0, TX0, 11, rfl, by decide, inngX0, (lw_k1 58 (by decide +kernel) (by decide +kernel))⟩
theorem kGX4_144 : okG RX4 144 1 4 := ⟨RX0, TX0, 11, rfl, by decide, inngX0, (lw_k1 61 (by decide +kernel) (by decide +kernel))⟩
theorem kGX4_147 : okG RX4 147 1 5 := ⟨RX0, TX0, 11, rfl, by decide, inngX0, (lw_k1 65 (by decide +kernel) (by decide +kernel))⟩
theorem kGX4_150 : okG RX4 150 1 1 := ⟨RX0, TX0, 11, rfl, by decide, inngX0, (lw_k1 51 (by decide +kernel) (by decide +kernel))⟩
theorem kFX4_150 : okF RX4 150 1 1 .int false := ⟨RX0, TX0, 11, tyX0, rfl, by decide, inngX0, (lw_k1 51 (by decide +kernel) (by decide +kernel)), tyX0_ok, nmX0, rfl, rfl, fun q => absurd q (by decide)⟩
theorem kGX4_153 : okG RX4 153 1 6 := ⟨RX0, TX0, 11, rfl, by decide, inngX0, (lw_k1 69 (by decide +kernel) (by decide +kernel))⟩
theorem kGX4_156 : okG RX4 156 1 7 := ⟨RX0, TX0, 11, rfl, by decide, inngX0, (lw_k1 72 (by decide +kernel) (by decide +kernel))⟩
theorem kGX4_159 : okG RX4 159 1 2 := ⟨RX0, TX0, 11, rfl, by decide, inngX0, (lw_k1 56 (by decide +kernel) (by decide +kernel))⟩
theorem kFX4_159 : okF RX4 159 1 2 .int false := ⟨RX0, TX0, 11, tyX0, rfl, by decide, inngX0, (lw_k1 56 (by decide +kernel) (by decide +kernel)), tyX0_ok, nmX0, rfl, rfl, fun q => absurd q (by decide)⟩
theorem kGX4_162 : okG RX4 162 1 8 := ⟨RX0, TX0, 11, rfl, by decide, inngX0, (lw_k1 77 (by decide +kernel) (by decide +kernel))⟩
theorem kGX4_165 : okG RX4 165 1 9 := ⟨RX0, TX0, 11, rfl, by decide, inngX0, (lw_k1 79 (by decide +kernel) (by decide +kernel))⟩
theorem kGX4_168 : okG RX4 168 1 10 := ⟨RX0, TX0, 11, rfl, by decide, inngX0, (lw_k1 82 (by decide +kernel) (by decide +kernel))⟩
theorem kGX4_171 : okG RX4 171 6 6 := ⟨RX5, TX5, 13, rfl, by decide, inngX5, (lw_k1 132 (by decide +kernel) (by decide +kernel))⟩
theorem kFX4_171 : okF RX4 171 6 6 .int false := ⟨RX5, TX5, 13, tyX5, rfl, by decide, inngX5, (lw_k1 132 (by decide +kernel) (by decide +kernel)), tyX5_ok, nmX5, rfl, rfl, fun q => absurd q (by decide)⟩
theorem kGX4_190 : okG RX4 190 5 8 := ⟨RX4, TX4, 12, rfl, by decide, inngX4, (lw_k1 183 (by decide +kernel) (by decide +kernel))⟩
theorem kFX4_190 : okF RX4 190 5 8 .int false := ⟨RX4, TX4, 12, tyX4, rfl, by decide, inngX4, (lw_k1 183 (by decide +kernel) (by decide +kernel)), tyX4_ok, nmX4, rfl, rfl, fun q => absurd q (by decide)⟩
theorem kGX4_197 : okG RX4 197 5 6 := ⟨RX4, TX4, 12, rfl, by decide, inngX4, (lw_k1 181 (by decide +kernel) (by decide +kernel))⟩
theorem kFX4_197 : okF RX4 197 5 6 .int false := ⟨RX4, TX4, 12, tyX4, rfl, by decide, inngX4, (lw_k1 181 (by decide +kernel) (by decide +kernel)), tyX4_ok, nmX4, rfl, rfl, fun q => absurd q (by decide)⟩
theorem kGX5_12 : okG RX5 12 6 0 := ⟨RX5, TX5, 13, rfl, by decide, inngX5, (lw_k1 112 (by decide +kernel) (by decide +kernel))⟩
theorem kFX5_12 : okF RX5 12 6 0 (.object "HosieryPlant$Catalogue") true := ⟨RX5, TX5, 13, tyX5, rfl, by decide, inngX5, (lw_k1 112 (by decide +kernel) (by decide +kernel)), tyX5_ok, nmX5, rfl, rfl, fun _ => rfl⟩
theorem kGX5_18 : okG RX5 18 6 7 := ⟨RX5, TX5, 13, rfl, by decide, inngX5, (lw_k1 133 (by decide +kernel) (by decide +kernel))⟩
theorem kFX5_18 : okF RX5 18 6 7 (.array .int) true := ⟨RX5, TX5, 13, tyX5, rfl, by decide, inngX5, (lw_k1 133 (by decide +kernel) (by decide +kernel)), tyX5_ok, nmX5, rfl, rfl, fun _ => rfl⟩
theorem kGX5_22 : okG RX5 22 6 8 := ⟨RX5, TX5, 13, rfl, by decide, inngX5, (lw_k1 135 (by decide +kernel) (by decide +kernel))⟩
theorem kFX5_22 : okF RX5 22 6 8 (.array .int) true := ⟨RX5, TX5, 13, tyX5, rfl, by decide, inngX5, (lw_k1 135 (by decide +kernel) (by decide +kernel)), tyX5_ok, nmX5, rfl, rfl, fun _ => rfl⟩
theorem kGX5_25 : okG RX5 25 6 9 := ⟨RX5, TX5, 13, rfl, by decide, inngX5, (lw_k1 137 (by decide +kernel) (by decide +kernel))⟩
theorem kFX5_25 : okF RX5 25 6 9 (.array .int) true := ⟨RX5, TX5, 13, tyX5, rfl, by decide, inngX5, (lw_k1 137 (by decide +kernel) (by decide +kernel)), tyX5_ok, nmX5, rfl, rfl, fun _ => rfl⟩
theorem kGX5_28 : okG RX5 28 6 10 := ⟨RX5, TX5, 13, rfl, by decide, inngX5, (lw_k1 139 (by decide +kernel) (by decide +kernel))⟩
theorem kFX5_28 : okF RX5 28 6 10 (.array .int) true := ⟨RX5, TX5, 13, tyX5, rfl, by decide, inngX5, (lw_k1 139 (by decide +kernel) (by decide +kernel)), tyX5_ok, nmX5, rfl, rfl, fun _ => rfl⟩
theorem kGX5_31 : okG RX5 31 6 11 := ⟨RX5, TX5, 13, rfl, by decide, inngX5, (lw_k1 140 (by decide +kernel) (by decide +kernel))⟩
theorem kFX5_31 : okF RX5 31 6 11 (.array .int) true := ⟨RX5, TX5, 13, tyX5, rfl, by decide, inngX5, (lw_k1 140 (by decide +kernel) (by decide +kernel)), tyX5_ok, nmX5, rfl, rfl, fun _ => rfl⟩
theorem kGX5_34 : okG RX5 34 6 12 := ⟨RX5, TX5, 13, rfl, by decide, inngX5, (lw_k1 142 (by decide +kernel) (by decide +kernel))⟩
theorem kFX5_34 : okF RX5 34 6 12 (.array .int) true := ⟨RX5, TX5, 13, tyX5, rfl, by decide, inngX5, (lw_k1 142 (by decide +kernel) (by decide +kernel)), tyX5_ok, nmX5, rfl, rfl, fun _ => rfl⟩
theorem kGX5_40 : okG RX5 40 1 0 := ⟨RX0, TX0, 11, rfl, by decide, inngX0, (lw_k1 46 (by decide +kernel) (by decide +kernel))⟩
theorem kFX5_40 : okF RX5 40 1 0 .int false := ⟨RX0, TX0, 11, tyX0, rfl, by decide, inngX0, (lw_k1 46 (by decide +kernel) (by decide +kernel)), tyX0_ok, nmX0, rfl, rfl, fun q => absurd q (by decide)⟩
theorem kGX5_43 : okG RX5 43 1 1 := ⟨RX0, TX0, 11, rfl, by decide, inngX0, (lw_k1 50 (by decide +kernel) (by decide +kernel))⟩
theorem kFX5_43 : okF RX5 43 1 1 .int false := ⟨RX0, TX0, 11, tyX0, rfl, by decide, inngX0, (lw_k1 50 (by decide +kernel) (by decide +kernel)), tyX0_ok, nmX0, rfl, rfl, fun q => absurd q (by decide)⟩
theorem kGX5_46 : okG RX5 46 1 2 := ⟨RX0, TX0, 11, rfl, by decide, inngX0, (lw_k1 54 (by decide +kernel) (by decide +kernel))⟩
theorem kFX5_46 : okF RX5 46 1 2 .int false := ⟨RX0, TX0, 11, tyX0, rfl, by decide, inngX0, (lw_k1 54 (by decide +kernel) (by decide +kernel)), tyX0_ok, nmX0, rfl, rfl, fun q => absurd q (by decide)⟩
theorem kGX5_49 : okG RX5 49 6 1 := ⟨RX5, TX5, 13, rfl, by decide, inngX5, (lw_k1 115 (by decide +kernel) (by decide +kernel))⟩
theorem kFX5_49 : okF RX5 49 6 1 .int false := ⟨RX5, TX5, 13, tyX5, rfl, by decide, inngX5, (lw_k1 115 (by decide +kernel) (by decide +kernel)), tyX5_ok, nmX5, rfl, rfl, fun q => absurd q (by decide)⟩
theorem kGX5_52 : okG RX5 52 6 2 := ⟨RX5, TX5, 13, rfl, by decide, inngX5, (lw_k1 118 (by decide +kernel) (by decide +kernel))⟩
theorem kFX5_52 : okF RX5 52 6 2 .int false := ⟨RX5, TX5, 13, tyX5, rfl, by decide, inngX5, (lw_k1 118 (by decide +kernel) (by decide +kernel)), tyX5_ok, nmX5, rfl, rfl, fun q => absurd q (by decide)⟩
theorem kGX5_55 : okG RX5 55 6 3 := ⟨RX5, TX5, 13, rfl, by decide, inngX5, (lw_k1 121 (by decide +kernel) (by decide +kernel))⟩
theorem kFX5_55 : okF RX5 55 6 3 .int false := ⟨RX5, TX5, 13, tyX5, rfl, by decide, inngX5, (lw_k1 121 (by decide +kernel) (by decide +kernel)), tyX5_ok, nmX5, rfl, rfl, fun q => absurd q (by decide)⟩
theorem kGX5_58 : okG RX5 58 6 4 := ⟨RX5, TX5, 13, rfl, by decide, inngX5, (lw_k1 124 (by decide +kernel) (by decide +kernel))⟩
theorem kFX5_58 : okF RX5 58 6 4 .int false := ⟨RX5, TX5, 13, tyX5, rfl, by decide, inngX5, (lw_k1 124 (by decide +kernel) (by decide +kernel)), tyX5_ok, nmX5, rfl, rfl, fun q => absurd q (by decide)⟩
theorem kGX5_61 : okG RX5 61 6 5 := ⟨RX5, TX5, 13, rfl, by decide, inngX5, (lw_k1 127 (by decide +kernel) (by decide +kernel))⟩
theorem kFX5_61 : okF RX5 61 6 5 .int false := ⟨RX5, TX5, 13, tyX5, rfl, by decide, inngX5, (lw_k1 127 (by decide +kernel) (by decide +kernel)), tyX5_ok, nmX5, rfl, rfl, fun q => absurd q (by decide)⟩
theorem kGX5_64 : okG RX5 64 6 6 := ⟨RX5, TX5, 13, rfl, by decide, inngX5, (lw_k1 129 (by decide +kernel) (by decide +kernel))⟩
theorem kFX5_64 : okF RX5 64 6 6 .int false := ⟨RX5, TX5, 13, tyX5, rfl, by decide, inngX5, (lw_k1 129 (by decide +kernel) (by decide +kernel)), tyX5_ok, nmX5, rfl, rfl, fun q => absurd q (by decide)⟩
theorem kGX5_83 : okG RX5 83 1 4 := ⟨RX0, TX0, 11, rfl, by decide, inngX0, (lw_k1 62 (by decide +kernel) (by decide +kernel))⟩
theorem kGX5_96 : okG RX5 96 1 7 := ⟨RX0, TX0, 11, rfl, by decide, inngX0, (lw_k1 73 (by decide +kernel) (by decide +kernel))⟩
theorem kGX5_109 : okG RX5 109 1 5 := ⟨RX0, TX0, 11, rfl, by decide, inngX0, (lw_k1 66 (by decide +kernel) (by decide +kernel))⟩
theorem kGJ5_15 : okG RJ5 15 0 0 := ⟨RJ4, TJ4, 4, rfl, by decide, inngJ4, (lw_k1 230 (by decide +kernel) (by decide +kernel))⟩
theorem kFJ5_15 : okF RJ5 15 0 0 (.array .byte) false := ⟨RJ4, TJ4, 4, tyJ4, rfl, by decide, inngJ4, (lw_k1 230 (by decide +kernel) (by decide +kernel)), tyJ4_ok, nmJ4, rfl, rfl, fun q => absurd q (by decide)⟩
theorem kGJ5_22 : okG RJ5 22 0 1 := ⟨RJ4, TJ4, 4, rfl, by decide, inngJ4, (lw_k1 231 (by decide +kernel) (by decide +kernel))⟩
theorem kFJ5_22 : okF RJ5 22 0 1 .byte false := ⟨RJ4, TJ4, 4, tyJ4, rfl, by decide, inngJ4, (lw_k1 231 (by decide +kernel) (by decide +kernel)), tyJ4_ok, nmJ4, rfl, rfl, fun q => absurd q (by decide)⟩
theorem kGJ5_73 : okG RJ5 73 0 2 := ⟨RJ4, TJ4, 4, rfl, by decide, inngJ4, (lw_k1 232 (by decide +kernel) (by decide +kernel))⟩
theorem kFJ5_73 : okF RJ5 73 0 2 .boolean false := ⟨RJ4, TJ4, 4, tyJ4, rfl, by decide, inngJ4, (lw_k1 232 (by decide +kernel) (by decide +kernel)), tyJ4_ok, nmJ4, rfl, rfl, fun q => absurd q (by decide)⟩
theorem kGJ5_79 : okG RJ5 79 0 3 := ⟨RJ4, TJ4, 4, rfl, by decide, inngJ4, (lw_k1 234 (by decide +kernel) (by decide +kernel))⟩
theorem kFJ5_79 : okF RJ5 79 0 3 .int false := ⟨RJ4, TJ4, 4, tyJ4, rfl, by decide, inngJ4, (lw_k1 234 (by decide +kernel) (by decide +kernel)), tyJ4_ok, nmJ4, rfl, rfl, fun q => absurd q (by decide)⟩
theorem kGJ0_9 : okG RJ0 9 8 0 := ⟨RJ0, TJ0, 4, rfl, by decide, inngJ0, (lw_k5 51 (by decide +kernel) (by decide +kernel))⟩
theorem kFJ0_9 : okF RJ0 9 8 0 (.array .byte) true := ⟨RJ0, TJ0, 4, tyJ0, rfl, by decide, inngJ0, (lw_k5 51 (by decide +kernel) (by decide +kernel)), tyJ0_ok, nmJ0, rfl, rfl, fun _ => rfl⟩
theorem kGJ0_15 : okG RJ0 15 8 1 := ⟨RJ0, TJ0, 4, rfl, by decide, inngJ0, (lw_k5 52 (by decide +kernel) (by decide +kernel))⟩
theorem kFJ0_15 : okF RJ0 15 8 1 .byte true := ⟨RJ0, TJ0, 4, tyJ0, rfl, by decide, inngJ0, (lw_k5 52 (by decide +kernel) (by decide +kernel)), tyJ0_ok, nmJ0, rfl, rfl, fun _ => rfl⟩
theorem kGJ0_1048 : okG RJ0 1048 0 2 := ⟨RJ4, TJ4, 4, rfl, by decide, inngJ4, (lw_k1 233 (by decide +kernel) (by decide +kernel))⟩
theorem kFJ0_1048 : okF RJ0 1048 0 2 .boolean false := ⟨RJ4, TJ4, 4, tyJ4, rfl, by decide, inngJ4, (lw_k1 233 (by decide +kernel) (by decide +kernel)), tyJ4_ok, nmJ4, rfl, rfl, fun q => absurd q (by decide)⟩
theorem kKX2_30 : Cond.constant RX2 30 (100000) ∈ lw_g := (lw_k3 229 (by decide +kernel) (by decide +kernel))
theorem kKX4_240 : Cond.constant RX4 240 (100000) ∈ lw_g := (lw_k2 121 (by decide +kernel) (by decide +kernel))
theorem kKL_7 : Cond.constant RL 7 (2147483647) ∈ lw_g := (lw_k4 92 (by decide +kernel) (by decide +kernel))
theorem kKJ5_38 : Cond.constant RJ5 38 (2147483631) ∈ lw_g := (lw_k5 68 (by decide +kernel) (by decide +kernel))
theorem kKJ5_39 : Cond.constant RJ5 39 (2147483647) ∈ lw_g := (lw_k4 152 (by decide +kernel) (by decide +kernel))
theorem kKJ6_265 : Cond.constant RJ6 265 (1431655765) ∈ lw_g := (lw_k3 225 (by decide +kernel) (by decide +kernel))
theorem kKJ6_266 : Cond.constant RJ6 266 (858993459) ∈ lw_g := (lw_k3 226 (by decide +kernel) (by decide +kernel))
theorem kKJ6_267 : Cond.constant RJ6 267 (252645135) ∈ lw_g := (lw_k3 227 (by decide +kernel) (by decide +kernel))
theorem kKJ2_20 : Cond.constant RJ2 20 (1073741823) ∈ lw_g := (lw_k1 229 (by decide +kernel) (by decide +kernel))
theorem kKJ8_200 : Cond.constant RJ8 200 (2147483639) ∈ lw_g := (lw_k4 148 (by decide +kernel) (by decide +kernel))
theorem kMX6_9 : okI RX6 9 mX4_init 0 := ⟨kCX4_init, (lw_k1 29 (by decide +kernel) (by decide +kernel)), (lw_k1 30 (by decide +kernel) (by decide +kernel)), rfl, rfl⟩
theorem kMX6_25 : okI RX6 25 mJ4_init_da8c8 0 := ⟨kCJ4_init_da8c8, (lw_k1 214 (by decide +kernel) (by decide +kernel)), (lw_k1 215 (by decide +kernel) (by decide +kernel)), rfl, rfl⟩
theorem kMX6_32 : okI RX6 32 mX5_init 0 := ⟨kCX5_init, (lw_k2 6 (by decide +kernel) (by decide +kernel)), (lw_k1 36 (by decide +kernel) (by decide +kernel)), rfl, rfl⟩
theorem kMX6_42 : okI RX6 42 mX1_init 0 := ⟨kCX1_init, (lw_k2 9 (by decide +kernel) (by decide +kernel)), (lw_k2 10 (by decide +kernel) (by decide +kernel)), rfl, rfl⟩
theorem kMX6_49 : okI RX6 49 mX2_init 0 := ⟨kCX2_init, (lw_k2 29 (by decide +kernel) (by decide +kernel)), (lw_k2 30 (by decide +kernel) (by decide +kernel)), rfl, rfl⟩
theorem kMX6_56 : okI RX6 56 mX3_init 0 := ⟨kCX3_init, (lw_k2 49 (by decide +kernel) (by decide +kernel)), (lw_k2 50 (by decide +kernel) (by decide +kernel)), rfl, rfl⟩
theorem kMX6_65 : okV RX6 65 mX6_appendBytes 1 := ⟨kCX6_appendBytes, (lw_k4 105 (by decide +kernel) (by decide +kernel)), (lw_k4 107 (by decide +kernel) (by decide +kernel)), (lw_mg 33 (by decide +kernel) (by decide +kernel))⟩
theorem kMX6_69 : okV RX6 69 mX4_read 1 := ⟨kCX4_read, (lw_k2 100 (by decide +kernel) (by decide +kernel)), (lw_k2 101 (by decide +kernel) (by decide +kernel)), (lw_k2 102 (by decide +kernel) (by decide +kernel))⟩
theorem kMX6_73 : okV RX6 73 mX6_beforeChange 0 := ⟨kCX6_beforeChange, (lw_k3 34 (by decide +kernel) (by decide +kernel)), (lw_k3 36 (by decide +kernel) (by decide +kernel)), (lw_mg 19 (by decide +kernel) (by decide +kernel))⟩
theorem kMX6_79 : okV RX6 79 mX5_copyFrom 1 := ⟨kCX5_copyFrom, (lw_k3 62 (by decide +kernel) (by decide +kernel)), (lw_k3 47 (by decide +kernel) (by decide +kernel)), (lw_k3 48 (by decide +kernel) (by decide +kernel))⟩
theorem kMX6_92 : okS RX6 92 mX6_packName 3 := ⟨kCX6_packName, (lw_k3 67 (by decide +kernel) (by decide +kernel)), (lw_k2 231 (by decide +kernel) (by decide +kernel))⟩
theorem kMX6_108 : okS RX6 108 mX6_indexOfName 3 := ⟨kCX6_indexOfName, (lw_k3 68 (by decide +kernel) (by decide +kernel)), (lw_k3 0 (by decide +kernel) (by decide +kernel))⟩
theorem kMX6_138 : okV RX6 138 mX6_isPiece 1 := ⟨kCX6_isPiece, (lw_k3 89 (by decide +kernel) (by decide +kernel)), (lw_k3 91 (by decide +kernel) (by decide +kernel)), (lw_mg 21 (by decide +kernel) (by decide +kernel))⟩
theorem kMX6_144 : okS RX6 144 mX6_at 2 := ⟨kCX6_at, (lw_k2 233 (by decide +kernel) (by decide +kernel)), (lw_k2 110 (by decide +kernel) (by decide +kernel))⟩
theorem kMX6_162 : okV RX6 162 mX6_setWhere 2 := ⟨kCX6_setWhere, (lw_k3 105 (by decide +kernel) (by decide +kernel)), (lw_k3 107 (by decide +kernel) (by decide +kernel)), (lw_mg 23 (by decide +kernel) (by decide +kernel))⟩
theorem kMX6_172 : okV RX6 172 mX6_isShape 1 := ⟨kCX6_isShape, (lw_k3 101 (by decide +kernel) (by decide +kernel)), (lw_k3 103 (by decide +kernel) (by decide +kernel)), (lw_mg 22 (by decide +kernel) (by decide +kernel))⟩
theorem kMX6_182 : okS RX6 182 mX6_isBetween 3 := ⟨kCX6_isBetween, (lw_k3 149 (by decide +kernel) (by decide +kernel)), (lw_k2 194 (by decide +kernel) (by decide +kernel))⟩
theorem kMX6_200 : okV RX6 200 mX5_isBoarded 1 := ⟨kCX5_isBoarded, (lw_k4 61 (by decide +kernel) (by decide +kernel)), (lw_k3 142 (by decide +kernel) (by decide +kernel)), (lw_k3 143 (by decide +kernel) (by decide +kernel))⟩
theorem kMX6_213 : okV RX6 213 mX5_boardRaw 1 := ⟨kCX5_boardRaw, (lw_k3 109 (by decide +kernel) (by decide +kernel)), (lw_k3 110 (by decide +kernel) (by decide +kernel)), (lw_k3 111 (by decide +kernel) (by decide +kernel))⟩
theorem kMX6_216 : okV RX6 216 mX5_passDay 0 := ⟨kCX5_passDay, (lw_k3 137 (by decide +kernel) (by decide +kernel)), (lw_k3 138 (by decide +kernel) (by decide +kernel)), (lw_k3 139 (by decide +kernel) (by decide +kernel))⟩
theorem kMX6_220 : okS RX6 220 mX6_put 3 := ⟨kCX6_put, (lw_k3 150 (by decide +kernel) (by decide +kernel)), (lw_k3 3 (by decide +kernel) (by decide +kernel))⟩
theorem kMX6_224 : okS RX6 224 mX6_areTolerances 2 := ⟨kCX6_areTolerances, (lw_k3 155 (by decide +kernel) (by decide +kernel)), (lw_k3 156 (by decide +kernel) (by decide +kernel))⟩
theorem kMX6_227 : okV RX6 227 mX6_findPairs 0 := ⟨kCX6_findPairs, (lw_k3 181 (by decide +kernel) (by decide +kernel)), (lw_k3 183 (by decide +kernel) (by decide +kernel)), (lw_mg 25 (by decide +kernel) (by decide +kernel))⟩
theorem kMX6_239 : okV RX6 239 mX1_takeBack 1 := ⟨kCX1_takeBack, (lw_k5 198 (by decide +kernel) (by decide +kernel)), (lw_k5 199 (by decide +kernel) (by decide +kernel)), (lw_k5 200 (by decide +kernel) (by decide +kernel))⟩
theorem kMX6_246 : okV RX6 246 mX6_areTwoPieces 2 := ⟨kCX6_areTwoPieces, (lw_k3 166 (by decide +kernel) (by decide +kernel)), (lw_k3 168 (by decide +kernel) (by decide +kernel)), (lw_mg 24 (by decide +kernel) (by decide +kernel))⟩
theorem kMX6_252 : okV RX6 252 mX5_gapOf 2 := ⟨kCX5_gapOf, (lw_k3 170 (by decide +kernel) (by decide +kernel)), (lw_k3 171 (by decide +kernel) (by decide +kernel)), (lw_k3 172 (by decide +kernel) (by decide +kernel))⟩
theorem kMX6_255 : okV RX6 255 mX5_matchSet 1 := ⟨kCX5_matchSet, (lw_k4 62 (by decide +kernel) (by decide +kernel)), (lw_k4 63 (by decide +kernel) (by decide +kernel)), (lw_k4 64 (by decide +kernel) (by decide +kernel))⟩
theorem kMX6_267 : okV RX6 267 mX3_lowerOf 1 := ⟨kCX3_lowerOf, (lw_k4 8 (by decide +kernel) (by decide +kernel)), (lw_k4 9 (by decide +kernel) (by decide +kernel)), (lw_k4 10 (by decide +kernel) (by decide +kernel))⟩
theorem kMX6_279 : okV RX6 279 mX2_mostPairs 1 := ⟨kCX2_mostPairs, (lw_k4 21 (by decide +kernel) (by decide +kernel)), (lw_k4 22 (by decide +kernel) (by decide +kernel)), (lw_k4 23 (by decide +kernel) (by decide +kernel))⟩
theorem kMX6_283 : okV RX6 283 mX6_pairsIfBoarded 2 := ⟨kCX6_pairsIfBoarded, (lw_k4 33 (by decide +kernel) (by decide +kernel)), (lw_k4 35 (by decide +kernel) (by decide +kernel)), (lw_mg 31 (by decide +kernel) (by decide +kernel))⟩
theorem kMX6_286 : okV RX6 286 mX6_pairsWithin 2 := ⟨kCX6_pairsWithin, (lw_k4 49 (by decide +kernel) (by decide +kernel)), (lw_k4 51 (by decide +kernel) (by decide +kernel)), (lw_mg 32 (by decide +kernel) (by decide +kernel))⟩
theorem kMX6_289 : okV RX6 289 mJ4_setLength_d00df 1 := ⟨kCJ4_setLength_d00df, (lw_k5 147 (by decide +kernel) (by decide +kernel)), (lw_k5 148 (by decide +kernel) (by decide +kernel)), (lw_k5 149 (by decide +kernel) (by decide +kernel))⟩
theorem kMX6_294 : okV RX6 294 mJ4_append_15ec4 1 := ⟨kCJ4_append_15ec4, (lw_k5 168 (by decide +kernel) (by decide +kernel)), (lw_k4 126 (by decide +kernel) (by decide +kernel)), (lw_k4 127 (by decide +kernel) (by decide +kernel))⟩
theorem kMX6_298 : okV RX6 298 mJ4_append_cf468 1 := ⟨kCJ4_append_cf468, (lw_k5 169 (by decide +kernel) (by decide +kernel)), (lw_k5 78 (by decide +kernel) (by decide +kernel)), (lw_k5 79 (by decide +kernel) (by decide +kernel))⟩
theorem kMX6_301 : okV RX6 301 mJ4_append_bf812 1 := ⟨kCJ4_append_bf812, (lw_k5 170 (by decide +kernel) (by decide +kernel)), (lw_k4 221 (by decide +kernel) (by decide +kernel)), (lw_k4 222 (by decide +kernel) (by decide +kernel))⟩
theorem kMX6_310 : okV RX6 310 mX6_writeCatalogue 1 := ⟨kCX6_writeCatalogue, (lw_k5 173 (by decide +kernel) (by decide +kernel)), (lw_k5 175 (by decide +kernel) (by decide +kernel)), (lw_mg 34 (by decide +kernel) (by decide +kernel))⟩
theorem kMX6_316 : okV RX6 316 mX6_writeName 1 := ⟨kCX6_writeName, (lw_k5 178 (by decide +kernel) (by decide +kernel)), (lw_k5 180 (by decide +kernel) (by decide +kernel)), (lw_mg 35 (by decide +kernel) (by decide +kernel))⟩
theorem kMX6_319 : okS RX6 319 mX6_kindWord 1 := ⟨kCX6_kindWord, (lw_k5 185 (by decide +kernel) (by decide +kernel)), (lw_k5 186 (by decide +kernel) (by decide +kernel))⟩
theorem kMX6_323 : okV RX6 323 mJ4_length_8abf5 0 := ⟨kCJ4_length_8abf5, (lw_k4 72 (by decide +kernel) (by decide +kernel)), (lw_k4 73 (by decide +kernel) (by decide +kernel)), (lw_k4 74 (by decide +kernel) (by decide +kernel))⟩
theorem kMX6_326 : okV RX6 326 mJ4_charAt_5068e 1 := ⟨kCJ4_charAt_5068e, (lw_k4 79 (by decide +kernel) (by decide +kernel)), (lw_k4 80 (by decide +kernel) (by decide +kernel)), (lw_k4 81 (by decide +kernel) (by decide +kernel))⟩
theorem kMX6_330 : okV RX6 330 mX1_keep 1 := ⟨kCX1_keep, (lw_k3 38 (by decide +kernel) (by decide +kernel)), (lw_k3 39 (by decide +kernel) (by decide +kernel)), (lw_k3 40 (by decide +kernel) (by decide +kernel))⟩
theorem kMX6_333 : okV RX6 333 mX2_pairUp 2 := ⟨kCX2_pairUp, (lw_k3 185 (by decide +kernel) (by decide +kernel)), (lw_k3 186 (by decide +kernel) (by decide +kernel)), (lw_k3 187 (by decide +kernel) (by decide +kernel))⟩
theorem kMX6_346 : okS RX6 346 mJ6_bitCount_0f7a4 1 := ⟨kCJ6_bitCount_0f7a4, (lw_k3 222 (by decide +kernel) (by decide +kernel)), (lw_k3 223 (by decide +kernel) (by decide +kernel))⟩
theorem kMX6_384 : okS RX6 384 mX6_isLetter 1 := ⟨kCX6_isLetter, (lw_k2 234 (by decide +kernel) (by decide +kernel)), (lw_k2 116 (by decide +kernel) (by decide +kernel))⟩
theorem kMX1_17 : okI RX1 17 mX5_init 0 := ⟨kCX5_init, (lw_k2 15 (by decide +kernel) (by decide +kernel)), (lw_k1 36 (by decide +kernel) (by decide +kernel)), rfl, rfl⟩
theorem kMX1_22 : okV RX1 22 mX1_placeOf 1 := ⟨kCX1_placeOf, (lw_k3 42 (by decide +kernel) (by decide +kernel)), (lw_k3 44 (by decide +kernel) (by decide +kernel)), (lw_mg 20 (by decide +kernel) (by decide +kernel))⟩
theorem kMX1_26 : okV RX1 26 mX5_copyFrom 1 := ⟨kCX5_copyFrom, (lw_k3 46 (by decide +kernel) (by decide +kernel)), (lw_k3 47 (by decide +kernel) (by decide +kernel)), (lw_k3 48 (by decide +kernel) (by decide +kernel))⟩
theorem kMX2_22 : okV RX2 22 mX2_takeMatches 2 := ⟨kCX2_takeMatches, (lw_k3 189 (by decide +kernel) (by decide +kernel)), (lw_k3 191 (by decide +kernel) (by decide +kernel)), (lw_mg 26 (by decide +kernel) (by decide +kernel))⟩
theorem kMX2_26 : okS RX2 26 mX2_worthOf 3 := ⟨kCX2_worthOf, (lw_k3 211 (by decide +kernel) (by decide +kernel)), (lw_k3 212 (by decide +kernel) (by decide +kernel))⟩
theorem kMX2_31 : okV RX2 31 mX3_dissolve 0 := ⟨kCX3_dissolve, (lw_k3 199 (by decide +kernel) (by decide +kernel)), (lw_k3 200 (by decide +kernel) (by decide +kernel)), (lw_k3 201 (by decide +kernel) (by decide +kernel))⟩
theorem kMX2_40 : okV RX2 40 mX2_lowestPartner 2 := ⟨kCX2_lowestPartner, (lw_k3 207 (by decide +kernel) (by decide +kernel)), (lw_k3 209 (by decide +kernel) (by decide +kernel)), (lw_mg 27 (by decide +kernel) (by decide +kernel))⟩
theorem kMX2_44 : okV RX2 44 mX2_gapBetween 2 := ⟨kCX2_gapBetween, (lw_k3 231 (by decide +kernel) (by decide +kernel)), (lw_k3 233 (by decide +kernel) (by decide +kernel)), (lw_mg 29 (by decide +kernel) (by decide +kernel))⟩
theorem kMX2_47 : okV RX2 47 mX3_join 3 := ⟨kCX3_join, (lw_k4 0 (by decide +kernel) (by decide +kernel)), (lw_k4 1 (by decide +kernel) (by decide +kernel)), (lw_k4 2 (by decide +kernel) (by decide +kernel))⟩
theorem kMX2_61 : okV RX2 61 mX5_fits 2 := ⟨kCX5_fits, (lw_k3 193 (by decide +kernel) (by decide +kernel)), (lw_k3 194 (by decide +kernel) (by decide +kernel)), (lw_k3 195 (by decide +kernel) (by decide +kernel))⟩
theorem kMX2_64 : okV RX2 64 mX5_gapOf 2 := ⟨kCX5_gapOf, (lw_k3 197 (by decide +kernel) (by decide +kernel)), (lw_k3 171 (by decide +kernel) (by decide +kernel)), (lw_k3 172 (by decide +kernel) (by decide +kernel))⟩
theorem kMX2_75 : okV RX2 75 mX2_recall 1 := ⟨kCX2_recall, (lw_k3 214 (by decide +kernel) (by decide +kernel)), (lw_k3 216 (by decide +kernel) (by decide +kernel)), (lw_mg 28 (by decide +kernel) (by decide +kernel))⟩
theorem kMX2_82 : okS RX2 82 mJ6_bitCount_0f7a4 1 := ⟨kCJ6_bitCount_0f7a4, (lw_k3 228 (by decide +kernel) (by decide +kernel)), (lw_k3 223 (by decide +kernel) (by decide +kernel))⟩
theorem kMX2_92 : okV RX2 92 mX2_remember 2 := ⟨kCX2_remember, (lw_k3 236 (by decide +kernel) (by decide +kernel)), (lw_k3 238 (by decide +kernel) (by decide +kernel)), (lw_mg 30 (by decide +kernel) (by decide +kernel))⟩
theorem kMX4_17 : okI RX4 17 mX5_init 0 := ⟨kCX5_init, (lw_k1 35 (by decide +kernel) (by decide +kernel)), (lw_k1 36 (by decide +kernel) (by decide +kernel)), rfl, rfl⟩
theorem kMX4_26 : okV RX4 26 mX5_makeEmpty 0 := ⟨kCX5_makeEmpty, (lw_k2 104 (by decide +kernel) (by decide +kernel)), (lw_k1 109 (by decide +kernel) (by decide +kernel)), (lw_k1 110 (by decide +kernel) (by decide +kernel))⟩
theorem kMX4_48 : okV RX4 48 mX4_advance 0 := ⟨kCX4_advance, (lw_k2 105 (by decide +kernel) (by decide +kernel)), (lw_k2 107 (by decide +kernel) (by decide +kernel)), (lw_mg 0 (by decide +kernel) (by decide +kernel))⟩
theorem kMX4_56 : okV RX4 56 mX4_spells 1 := ⟨kCX4_spells, (lw_k2 126 (by decide +kernel) (by decide +kernel)), (lw_k2 128 (by decide +kernel) (by decide +kernel)), (lw_mg 1 (by decide +kernel) (by decide +kernel))⟩
theorem kMX4_60 : okV RX4 60 mX4_readTolerance 0 := ⟨kCX4_readTolerance, (lw_k2 177 (by decide +kernel) (by decide +kernel)), (lw_k2 179 (by decide +kernel) (by decide +kernel)), (lw_mg 2 (by decide +kernel) (by decide +kernel))⟩
theorem kMX4_65 : okV RX4 65 mX4_readSteam 0 := ⟨kCX4_readSteam, (lw_k2 201 (by decide +kernel) (by decide +kernel)), (lw_k2 203 (by decide +kernel) (by decide +kernel)), (lw_mg 7 (by decide +kernel) (by decide +kernel))⟩
theorem kMX4_70 : okV RX4 70 mX4_readBox 0 := ⟨kCX4_readBox, (lw_k2 206 (by decide +kernel) (by decide +kernel)), (lw_k2 208 (by decide +kernel) (by decide +kernel)), (lw_mg 8 (by decide +kernel) (by decide +kernel))⟩
theorem kMX4_79 : okV RX4 79 mX4_readYarn 1 := ⟨kCX4_readYarn, (lw_k2 211 (by decide +kernel) (by decide +kernel)), (lw_k2 213 (by decide +kernel) (by decide +kernel)), (lw_mg 9 (by decide +kernel) (by decide +kernel))⟩
theorem kMX4_85 : okV RX4 85 mX4_readShape 1 := ⟨kCX4_readShape, (lw_k3 5 (by decide +kernel) (by decide +kernel)), (lw_k3 7 (by decide +kernel) (by decide +kernel)), (lw_mg 13 (by decide +kernel) (by decide +kernel))⟩
theorem kMX4_90 : okV RX4 90 mX4_readSize 1 := ⟨kCX4_readSize, (lw_k3 9 (by decide +kernel) (by decide +kernel)), (lw_k3 11 (by decide +kernel) (by decide +kernel)), (lw_mg 14 (by decide +kernel) (by decide +kernel))⟩
theorem kMX4_95 : okV RX4 95 mX4_readPiece 1 := ⟨kCX4_readPiece, (lw_k3 13 (by decide +kernel) (by decide +kernel)), (lw_k3 15 (by decide +kernel) (by decide +kernel)), (lw_mg 15 (by decide +kernel) (by decide +kernel))⟩
theorem kMX4_98 : okV RX4 98 mX4_refuse 1 := ⟨kCX4_refuse, (lw_k2 185 (by decide +kernel) (by decide +kernel)), (lw_k2 187 (by decide +kernel) (by decide +kernel)), (lw_mg 4 (by decide +kernel) (by decide +kernel))⟩
theorem kMX4_102 : okV RX4 102 mX4_startStatement 2 := ⟨kCX4_startStatement, (lw_k2 181 (by decide +kernel) (by decide +kernel)), (lw_k2 183 (by decide +kernel) (by decide +kernel)), (lw_mg 3 (by decide +kernel) (by decide +kernel))⟩
theorem kMX4_106 : okV RX4 106 mX4_readNumber 2 := ⟨kCX4_readNumber, (lw_k2 189 (by decide +kernel) (by decide +kernel)), (lw_k2 191 (by decide +kernel) (by decide +kernel)), (lw_mg 5 (by decide +kernel) (by decide +kernel))⟩
theorem kMX4_116 : okV RX4 116 mX4_endStatement 0 := ⟨kCX4_endStatement, (lw_k2 196 (by decide +kernel) (by decide +kernel)), (lw_k2 198 (by decide +kernel) (by decide +kernel)), (lw_mg 6 (by decide +kernel) (by decide +kernel))⟩
theorem kMX4_129 : okV RX4 129 mX4_nameHere 0 := ⟨kCX4_nameHere, (lw_k2 215 (by decide +kernel) (by decide +kernel)), (lw_k2 217 (by decide +kernel) (by decide +kernel)), (lw_mg 10 (by decide +kernel) (by decide +kernel))⟩
theorem kMX4_136 : okV RX4 136 mX4_takeNewName 3 := ⟨kCX4_takeNewName, (lw_k2 235 (by decide +kernel) (by decide +kernel)), (lw_k2 237 (by decide +kernel) (by decide +kernel)), (lw_mg 12 (by decide +kernel) (by decide +kernel))⟩
theorem kMX4_174 : okV RX4 174 mX4_takeKnownYarn 2 := ⟨kCX4_takeKnownYarn, (lw_k3 17 (by decide +kernel) (by decide +kernel)), (lw_k3 19 (by decide +kernel) (by decide +kernel)), (lw_mg 16 (by decide +kernel) (by decide +kernel))⟩
theorem kMX4_178 : okV RX4 178 mX4_readKind 0 := ⟨kCX4_readKind, (lw_k3 21 (by decide +kernel) (by decide +kernel)), (lw_k3 23 (by decide +kernel) (by decide +kernel)), (lw_mg 17 (by decide +kernel) (by decide +kernel))⟩
theorem kMX4_183 : okV RX4 183 mX4_readTimes 0 := ⟨kCX4_readTimes, (lw_k3 25 (by decide +kernel) (by decide +kernel)), (lw_k3 27 (by decide +kernel) (by decide +kernel)), (lw_mg 18 (by decide +kernel) (by decide +kernel))⟩
theorem kMX4_186 : okV RX4 186 mX5_addPiece 4 := ⟨kCX5_addPiece, (lw_k3 29 (by decide +kernel) (by decide +kernel)), (lw_k3 30 (by decide +kernel) (by decide +kernel)), (lw_k3 31 (by decide +kernel) (by decide +kernel))⟩
theorem kMX4_208 : okV RX4 208 mX4_isKeyword 0 := ⟨kCX4_isKeyword, (lw_k2 219 (by decide +kernel) (by decide +kernel)), (lw_k2 221 (by decide +kernel) (by decide +kernel)), (lw_mg 11 (by decide +kernel) (by decide +kernel))⟩
theorem kMX4_221 : okV RX4 221 mJ0_length_8abf5 0 := ⟨kCJ0_length_8abf5, (lw_k2 130 (by decide +kernel) (by decide +kernel)), (lw_k2 131 (by decide +kernel) (by decide +kernel)), (lw_k2 132 (by decide +kernel) (by decide +kernel))⟩
theorem kMX4_226 : okV RX4 226 mJ0_charAt_5068e 1 := ⟨kCJ0_charAt_5068e, (lw_k2 139 (by decide +kernel) (by decide +kernel)), (lw_k2 140 (by decide +kernel) (by decide +kernel)), (lw_k2 141 (by decide +kernel) (by decide +kernel))⟩
theorem kMX4_230 : okS RX4 230 mX4_isBlank 1 := ⟨kCX4_isBlank, (lw_k2 112 (by decide +kernel) (by decide +kernel)), (lw_k2 113 (by decide +kernel) (by decide +kernel))⟩
theorem kMX4_237 : okS RX4 237 mX4_isDigit 1 := ⟨kCX4_isDigit, (lw_k2 118 (by decide +kernel) (by decide +kernel)), (lw_k2 119 (by decide +kernel) (by decide +kernel))⟩
theorem kMX5_11 : okI RX5 11 mX0_init 0 := ⟨kCX0_init, (lw_k1 41 (by decide +kernel) (by decide +kernel)), (lw_k1 42 (by decide +kernel) (by decide +kernel)), rfl, rfl⟩
theorem kMX5_37 : okV RX5 37 mX5_makeEmpty 0 := ⟨kCX5_makeEmpty, (lw_k1 108 (by decide +kernel) (by decide +kernel)), (lw_k1 109 (by decide +kernel) (by decide +kernel)), (lw_k1 110 (by decide +kernel) (by decide +kernel))⟩
theorem kMX5_67 : okV RX5 67 mX0_takeAll 1 := ⟨kCX0_takeAll, (lw_k3 50 (by decide +kernel) (by decide +kernel)), (lw_k3 51 (by decide +kernel) (by decide +kernel)), (lw_k3 52 (by decide +kernel) (by decide +kernel))⟩
theorem kMX5_92 : okV RX5 92 mX5_stretchOf 1 := ⟨kCX5_stretchOf, (lw_k3 126 (by decide +kernel) (by decide +kernel)), (lw_k3 127 (by decide +kernel) (by decide +kernel)), (lw_k3 128 (by decide +kernel) (by decide +kernel))⟩
theorem kMX5_99 : okV RX5 99 mX5_reachOf 1 := ⟨kCX5_reachOf, (lw_k3 122 (by decide +kernel) (by decide +kernel)), (lw_k3 123 (by decide +kernel) (by decide +kernel)), (lw_k3 124 (by decide +kernel) (by decide +kernel))⟩
theorem kMX5_102 : okV RX5 102 mX5_lengthOn 2 := ⟨kCX5_lengthOn, (lw_k3 118 (by decide +kernel) (by decide +kernel)), (lw_k3 119 (by decide +kernel) (by decide +kernel)), (lw_k3 120 (by decide +kernel) (by decide +kernel))⟩
theorem kMX5_105 : okV RX5 105 mX5_boardOn 2 := ⟨kCX5_boardOn, (lw_k3 114 (by decide +kernel) (by decide +kernel)), (lw_k3 115 (by decide +kernel) (by decide +kernel)), (lw_k3 116 (by decide +kernel) (by decide +kernel))⟩
theorem kMX5_112 : okV RX5 112 mX5_isBoarded 1 := ⟨kCX5_isBoarded, (lw_k3 141 (by decide +kernel) (by decide +kernel)), (lw_k3 142 (by decide +kernel) (by decide +kernel)), (lw_k3 143 (by decide +kernel) (by decide +kernel))⟩
theorem kMX5_122 : okV RX5 122 mX5_fits 2 := ⟨kCX5_fits, (lw_k4 66 (by decide +kernel) (by decide +kernel)), (lw_k3 194 (by decide +kernel) (by decide +kernel)), (lw_k3 195 (by decide +kernel) (by decide +kernel))⟩
theorem kML_8 : okV RL 8 mJ0_length_8abf5 0 := ⟨kCJ0_length_8abf5, (lw_k4 96 (by decide +kernel) (by decide +kernel)), (lw_k2 131 (by decide +kernel) (by decide +kernel)), (lw_k2 132 (by decide +kernel) (by decide +kernel))⟩
theorem kML_14 : okV RL 14 mJ0_charAt_5068e 1 := ⟨kCJ0_charAt_5068e, (lw_k4 100 (by decide +kernel) (by decide +kernel)), (lw_k2 140 (by decide +kernel) (by decide +kernel)), (lw_k2 141 (by decide +kernel) (by decide +kernel))⟩
theorem kML_18 : okS RL 18 mL_four 2 := ⟨kCL_four, (lw_k4 97 (by decide +kernel) (by decide +kernel)), (lw_k4 98 (by decide +kernel) (by decide +kernel))⟩
theorem kML_24 : okV RL 24 mX6_append 5 := ⟨kCX6_append, (lw_k4 101 (by decide +kernel) (by decide +kernel)), (lw_k4 102 (by decide +kernel) (by decide +kernel)), (lw_k4 103 (by decide +kernel) (by decide +kernel))⟩
theorem kML_30 : okV RL 30 mX6_truncate 1 := ⟨kCX6_truncate, (lw_k4 109 (by decide +kernel) (by decide +kernel)), (lw_k4 110 (by decide +kernel) (by decide +kernel)), (lw_k4 111 (by decide +kernel) (by decide +kernel))⟩
theorem kML_34 : okS RL 34 mL_draw 3 := ⟨kCL_draw, (lw_k4 89 (by decide +kernel) (by decide +kernel)), (lw_k4 90 (by decide +kernel) (by decide +kernel))⟩
theorem kML_38 : okS RL 38 mL_yarns 1 := ⟨kCL_yarns, (lw_k5 73 (by decide +kernel) (by decide +kernel)), (lw_k5 74 (by decide +kernel) (by decide +kernel))⟩
theorem kML_44 : okI RL 44 mJ4_init_da8c8 0 := ⟨kCJ4_init_da8c8, (lw_k4 123 (by decide +kernel) (by decide +kernel)), (lw_k1 215 (by decide +kernel) (by decide +kernel)), rfl, rfl⟩
theorem kML_47 : okV RL 47 mJ4_append_15ec4 1 := ⟨kCJ4_append_15ec4, (lw_k4 125 (by decide +kernel) (by decide +kernel)), (lw_k4 126 (by decide +kernel) (by decide +kernel)), (lw_k4 127 (by decide +kernel) (by decide +kernel))⟩
theorem kML_50 : okV RL 50 mJ4_append_bf812 1 := ⟨kCJ4_append_bf812, (lw_k4 220 (by decide +kernel) (by decide +kernel)), (lw_k4 221 (by decide +kernel) (by decide +kernel)), (lw_k4 222 (by decide +kernel) (by decide +kernel))⟩
theorem kML_57 : okS RL 57 mL_steam 1 := ⟨kCL_steam, (lw_k5 7 (by decide +kernel) (by decide +kernel)), (lw_k5 8 (by decide +kernel) (by decide +kernel))⟩
theorem kML_64 : okV RL 64 mJ4_toString_0e30d 0 := ⟨kCJ4_toString_0e30d, (lw_k5 12 (by decide +kernel) (by decide +kernel)), (lw_k5 13 (by decide +kernel) (by decide +kernel)), (lw_k5 14 (by decide +kernel) (by decide +kernel))⟩
theorem kML_68 : okI RL 68 mJ4_init_a7421 1 := ⟨kCJ4_init_a7421, (lw_k5 62 (by decide +kernel) (by decide +kernel)), (lw_k5 63 (by decide +kernel) (by decide +kernel)), rfl, rfl⟩
theorem kML_73 : okV RL 73 mJ4_append_cf468 1 := ⟨kCJ4_append_cf468, (lw_k5 77 (by decide +kernel) (by decide +kernel)), (lw_k5 78 (by decide +kernel) (by decide +kernel)), (lw_k5 79 (by decide +kernel) (by decide +kernel))⟩
theorem kML_76 : okS RL 76 mL_stretch 2 := ⟨kCL_stretch, (lw_k5 90 (by decide +kernel) (by decide +kernel)), (lw_k5 91 (by decide +kernel) (by decide +kernel))⟩
theorem kML_80 : okS RL 80 mL_recovery 2 := ⟨kCL_recovery, (lw_k5 93 (by decide +kernel) (by decide +kernel)), (lw_k5 94 (by decide +kernel) (by decide +kernel))⟩
theorem kML_83 : okS RL 83 mL_shapes 1 := ⟨kCL_shapes, (lw_k4 116 (by decide +kernel) (by decide +kernel)), (lw_k4 117 (by decide +kernel) (by decide +kernel))⟩
theorem kML_88 : okS RL 88 mL_shape 2 := ⟨kCL_shape, (lw_k5 97 (by decide +kernel) (by decide +kernel)), (lw_k5 98 (by decide +kernel) (by decide +kernel))⟩
theorem kML_97 : okS RL 97 mL_pieces 1 := ⟨kCL_pieces, (lw_k4 113 (by decide +kernel) (by decide +kernel)), (lw_k4 114 (by decide +kernel) (by decide +kernel))⟩
theorem kML_102 : okS RL 102 mL_yarn 2 := ⟨kCL_yarn, (lw_k5 104 (by decide +kernel) (by decide +kernel)), (lw_k5 105 (by decide +kernel) (by decide +kernel))⟩
theorem kML_109 : okS RL 109 mL_kind 2 := ⟨kCL_kind, (lw_k5 109 (by decide +kernel) (by decide +kernel)), (lw_k5 110 (by decide +kernel) (by decide +kernel))⟩
theorem kML_112 : okS RL 112 mL_knitted 2 := ⟨kCL_knitted, (lw_k5 112 (by decide +kernel) (by decide +kernel)), (lw_k5 113 (by decide +kernel) (by decide +kernel))⟩
theorem kML_115 : okS RL 115 mL_shade 2 := ⟨kCL_shade, (lw_k5 115 (by decide +kernel) (by decide +kernel)), (lw_k5 116 (by decide +kernel) (by decide +kernel))⟩
theorem kML_118 : okS RL 118 mL_plant 1 := ⟨kCL_plant, (lw_k4 119 (by decide +kernel) (by decide +kernel)), (lw_k4 120 (by decide +kernel) (by decide +kernel))⟩
theorem kML_122 : okS RL 122 mL_feed 2 := ⟨kCL_feed, (lw_k4 93 (by decide +kernel) (by decide +kernel)), (lw_k4 94 (by decide +kernel) (by decide +kernel))⟩
theorem kML_126 : okV RL 126 mX6_load 0 := ⟨kCX6_load, (lw_k2 96 (by decide +kernel) (by decide +kernel)), (lw_k2 97 (by decide +kernel) (by decide +kernel)), (lw_k2 98 (by decide +kernel) (by decide +kernel))⟩
theorem kML_129 : okV RL 129 mX6_errorCode 0 := ⟨kCX6_errorCode, (lw_k5 121 (by decide +kernel) (by decide +kernel)), (lw_k5 122 (by decide +kernel) (by decide +kernel)), (lw_k5 123 (by decide +kernel) (by decide +kernel))⟩
theorem kML_132 : okV RL 132 mX6_errorPosition 0 := ⟨kCX6_errorPosition, (lw_k5 125 (by decide +kernel) (by decide +kernel)), (lw_k5 126 (by decide +kernel) (by decide +kernel)), (lw_k5 127 (by decide +kernel) (by decide +kernel))⟩
theorem kML_135 : okV RL 135 mX6_days 0 := ⟨kCX6_days, (lw_k5 129 (by decide +kernel) (by decide +kernel)), (lw_k5 130 (by decide +kernel) (by decide +kernel)), (lw_k5 131 (by decide +kernel) (by decide +kernel))⟩
theorem kML_138 : okV RL 138 mX6_pieceCount 0 := ⟨kCX6_pieceCount, (lw_k3 69 (by decide +kernel) (by decide +kernel)), (lw_k3 70 (by decide +kernel) (by decide +kernel)), (lw_k3 71 (by decide +kernel) (by decide +kernel))⟩
theorem kML_141 : okV RL 141 mX6_undoCount 0 := ⟨kCX6_undoCount, (lw_k5 136 (by decide +kernel) (by decide +kernel)), (lw_k5 137 (by decide +kernel) (by decide +kernel)), (lw_k5 138 (by decide +kernel) (by decide +kernel))⟩
theorem kML_144 : okV RL 144 mX6_writePlant 0 := ⟨kCX6_writePlant, (lw_k5 143 (by decide +kernel) (by decide +kernel)), (lw_k5 144 (by decide +kernel) (by decide +kernel)), (lw_k5 145 (by decide +kernel) (by decide +kernel))⟩
theorem kML_147 : okV RL 147 mX6_outputByte 1 := ⟨kCX6_outputByte, (lw_k4 68 (by decide +kernel) (by decide +kernel)), (lw_k4 69 (by decide +kernel) (by decide +kernel)), (lw_k4 70 (by decide +kernel) (by decide +kernel))⟩
theorem kML_150 : okV RL 150 mX6_boardAll 1 := ⟨kCX6_boardAll, (lw_k3 97 (by decide +kernel) (by decide +kernel)), (lw_k3 98 (by decide +kernel) (by decide +kernel)), (lw_k3 99 (by decide +kernel) (by decide +kernel))⟩
theorem kML_153 : okV RL 153 mX6_pairCount 0 := ⟨kCX6_pairCount, (lw_k3 177 (by decide +kernel) (by decide +kernel)), (lw_k3 178 (by decide +kernel) (by decide +kernel)), (lw_k3 179 (by decide +kernel) (by decide +kernel))⟩
theorem kML_156 : okV RL 156 mX6_undo 0 := ⟨kCX6_undo, (lw_k5 194 (by decide +kernel) (by decide +kernel)), (lw_k5 195 (by decide +kernel) (by decide +kernel)), (lw_k5 196 (by decide +kernel) (by decide +kernel))⟩
theorem kML_159 : okI RL 159 mX6_init 0 := ⟨kCX6_init, (lw_k1 21 (by decide +kernel) (by decide +kernel)), (lw_k1 22 (by decide +kernel) (by decide +kernel)), rfl, rfl⟩
theorem kML_160 : okS RL 160 mL_written 1 := ⟨kCL_written, (lw_k5 140 (by decide +kernel) (by decide +kernel)), (lw_k5 141 (by decide +kernel) (by decide +kernel))⟩
theorem kML_166 : okV RL 166 mJ0_equals_9ea2d 1 := ⟨kCJ0_equals_9ea2d, (lw_k5 203 (by decide +kernel) (by decide +kernel)), (lw_k5 204 (by decide +kernel) (by decide +kernel)), (lw_k5 205 (by decide +kernel) (by decide +kernel))⟩
theorem kML_170 : okS RL 170 mL_load 2 := ⟨kCL_load, (lw_k5 118 (by decide +kernel) (by decide +kernel)), (lw_k5 119 (by decide +kernel) (by decide +kernel))⟩
theorem kML_175 : okV RL 175 mX6_find 1 := ⟨kCX6_find, (lw_k3 63 (by decide +kernel) (by decide +kernel)), (lw_k3 64 (by decide +kernel) (by decide +kernel)), (lw_k3 65 (by decide +kernel) (by decide +kernel))⟩
theorem kML_184 : okV RL 184 mX6_bestShape 0 := ⟨kCX6_bestShape, (lw_k4 37 (by decide +kernel) (by decide +kernel)), (lw_k4 38 (by decide +kernel) (by decide +kernel)), (lw_k4 39 (by decide +kernel) (by decide +kernel))⟩
theorem kML_187 : okV RL 187 mX6_ifAllBoarded 1 := ⟨kCX6_ifAllBoarded, (lw_k4 29 (by decide +kernel) (by decide +kernel)), (lw_k4 30 (by decide +kernel) (by decide +kernel)), (lw_k4 31 (by decide +kernel) (by decide +kernel))⟩
theorem kML_190 : okS RL 190 mL_tried 2 := ⟨kCL_tried, (lw_k5 191 (by decide +kernel) (by decide +kernel)), (lw_k5 192 (by decide +kernel) (by decide +kernel))⟩
theorem kML_194 : okV RL 194 mX6_steam 0 := ⟨kCX6_steam, (lw_k3 81 (by decide +kernel) (by decide +kernel)), (lw_k3 82 (by decide +kernel) (by decide +kernel)), (lw_k3 83 (by decide +kernel) (by decide +kernel))⟩
theorem kML_196 : okV RL 196 mX6_leastSteam 2 := ⟨kCX6_leastSteam, (lw_k4 41 (by decide +kernel) (by decide +kernel)), (lw_k4 42 (by decide +kernel) (by decide +kernel)), (lw_k4 43 (by decide +kernel) (by decide +kernel))⟩
theorem kML_200 : okV RL 200 mX6_setSteam 1 := ⟨kCX6_setSteam, (lw_k3 158 (by decide +kernel) (by decide +kernel)), (lw_k3 159 (by decide +kernel) (by decide +kernel)), (lw_k3 160 (by decide +kernel) (by decide +kernel))⟩
theorem kML_203 : okV RL 203 mX6_bestDay 1 := ⟨kCX6_bestDay, (lw_k4 25 (by decide +kernel) (by decide +kernel)), (lw_k4 26 (by decide +kernel) (by decide +kernel)), (lw_k4 27 (by decide +kernel) (by decide +kernel))⟩
theorem kML_206 : okV RL 206 mX6_ifDays 1 := ⟨kCX6_ifDays, (lw_k4 17 (by decide +kernel) (by decide +kernel)), (lw_k4 18 (by decide +kernel) (by decide +kernel)), (lw_k4 19 (by decide +kernel) (by decide +kernel))⟩
theorem kML_209 : okV RL 209 mX6_day 0 := ⟨kCX6_day, (lw_k3 133 (by decide +kernel) (by decide +kernel)), (lw_k3 134 (by decide +kernel) (by decide +kernel)), (lw_k3 135 (by decide +kernel) (by decide +kernel))⟩
theorem kML_212 : okV RL 212 mX6_lengthTolerance 0 := ⟨kCX6_lengthTolerance, (lw_k3 73 (by decide +kernel) (by decide +kernel)), (lw_k3 74 (by decide +kernel) (by decide +kernel)), (lw_k3 75 (by decide +kernel) (by decide +kernel))⟩
theorem kML_215 : okV RL 215 mX6_shadeTolerance 0 := ⟨kCX6_shadeTolerance, (lw_k3 77 (by decide +kernel) (by decide +kernel)), (lw_k3 78 (by decide +kernel) (by decide +kernel)), (lw_k3 79 (by decide +kernel) (by decide +kernel))⟩
theorem kML_218 : okV RL 218 mX6_leastTolerance 1 := ⟨kCX6_leastTolerance, (lw_k4 45 (by decide +kernel) (by decide +kernel)), (lw_k4 46 (by decide +kernel) (by decide +kernel)), (lw_k4 47 (by decide +kernel) (by decide +kernel))⟩
theorem kML_221 : okV RL 221 mX6_setTolerance 2 := ⟨kCX6_setTolerance, (lw_k3 151 (by decide +kernel) (by decide +kernel)), (lw_k3 152 (by decide +kernel) (by decide +kernel)), (lw_k3 153 (by decide +kernel) (by decide +kernel))⟩
theorem kML_224 : okV RL 224 mX6_ifTolerance 2 := ⟨kCX6_ifTolerance, (lw_k4 53 (by decide +kernel) (by decide +kernel)), (lw_k4 54 (by decide +kernel) (by decide +kernel)), (lw_k4 55 (by decide +kernel) (by decide +kernel))⟩
theorem kML_227 : okV RL 227 mX6_worstPair 0 := ⟨kCX6_worstPair, (lw_k4 13 (by decide +kernel) (by decide +kernel)), (lw_k4 14 (by decide +kernel) (by decide +kernel)), (lw_k4 15 (by decide +kernel) (by decide +kernel))⟩
theorem kML_230 : okV RL 230 mX6_pair 1 := ⟨kCX6_pair, (lw_k4 4 (by decide +kernel) (by decide +kernel)), (lw_k4 5 (by decide +kernel) (by decide +kernel)), (lw_k4 6 (by decide +kernel) (by decide +kernel))⟩
theorem kML_233 : okV RL 233 mX6_gap 2 := ⟨kCX6_gap, (lw_k3 162 (by decide +kernel) (by decide +kernel)), (lw_k3 163 (by decide +kernel) (by decide +kernel)), (lw_k3 164 (by decide +kernel) (by decide +kernel))⟩
theorem kML_236 : okV RL 236 mX6_shade 1 := ⟨kCX6_shade, (lw_k3 85 (by decide +kernel) (by decide +kernel)), (lw_k3 86 (by decide +kernel) (by decide +kernel)), (lw_k3 87 (by decide +kernel) (by decide +kernel))⟩
theorem kML_238 : okV RL 238 mX6_bestDye 1 := ⟨kCX6_bestDye, (lw_k4 57 (by decide +kernel) (by decide +kernel)), (lw_k4 58 (by decide +kernel) (by decide +kernel)), (lw_k4 59 (by decide +kernel) (by decide +kernel))⟩
theorem kML_241 : okV RL 241 mX6_state 1 := ⟨kCX6_state, (lw_k3 93 (by decide +kernel) (by decide +kernel)), (lw_k3 94 (by decide +kernel) (by decide +kernel)), (lw_k3 95 (by decide +kernel) (by decide +kernel))⟩
theorem kML_244 : okV RL 244 mX6_dye 2 := ⟨kCX6_dye, (lw_k3 145 (by decide +kernel) (by decide +kernel)), (lw_k3 146 (by decide +kernel) (by decide +kernel)), (lw_k3 147 (by decide +kernel) (by decide +kernel))⟩
theorem kML_256 : okS RL 256 mL_fails 4 := ⟨kCL_fails, (lw_k5 133 (by decide +kernel) (by decide +kernel)), (lw_k5 134 (by decide +kernel) (by decide +kernel))⟩
theorem kMJ5_26 : okS RJ5 26 mJ2_newBytesFor_77867 1 := ⟨kCJ2_newBytesFor_77867, (lw_k1 223 (by decide +kernel) (by decide +kernel)), (lw_k1 224 (by decide +kernel) (by decide +kernel))⟩
theorem kMJ5_32 : okV RJ5 32 mJ0_length_8abf5 0 := ⟨kCJ0_length_8abf5, (lw_k4 185 (by decide +kernel) (by decide +kernel)), (lw_k2 131 (by decide +kernel) (by decide +kernel)), (lw_k2 132 (by decide +kernel) (by decide +kernel))⟩
theorem kMJ5_40 : okV RJ5 40 mJ0_coder_7d493 0 := ⟨kCJ0_coder_7d493, (lw_k4 194 (by decide +kernel) (by decide +kernel)), (lw_k2 135 (by decide +kernel) (by decide +kernel)), (lw_k2 136 (by decide +kernel) (by decide +kernel))⟩
theorem kMJ5_108 : okS RJ5 108 mJ7_copyOf_9075b 2 := ⟨kCJ7_copyOf_9075b, (lw_k4 153 (by decide +kernel) (by decide +kernel)), (lw_k4 154 (by decide +kernel) (by decide +kernel))⟩
theorem kMJ5_114 : okS RJ5 114 mJ8_newLength_cabcc 3 := ⟨kCJ8_newLength_cabcc, (lw_k4 144 (by decide +kernel) (by decide +kernel)), (lw_k4 145 (by decide +kernel) (by decide +kernel))⟩
theorem kMJ5_125 : okS RJ5 125 mJ1_inflate_0e8fd 5 := ⟨kCJ1_inflate_0e8fd, (lw_k4 199 (by decide +kernel) (by decide +kernel)), (lw_k4 200 (by decide +kernel) (by decide +kernel))⟩
theorem kMJ5_133 : okS RJ5 133 mJ1_fillNull_b72d1 3 := ⟨kCJ1_fillNull_b72d1, (lw_k5 154 (by decide +kernel) (by decide +kernel)), (lw_k5 155 (by decide +kernel) (by decide +kernel))⟩
theorem kMJ5_137 : okS RJ5 137 mJ2_fillNull_b72d1 3 := ⟨kCJ2_fillNull_b72d1, (lw_k5 163 (by decide +kernel) (by decide +kernel)), (lw_k5 164 (by decide +kernel) (by decide +kernel))⟩
theorem kMJ5_144 : okS RJ5 144 mJ0_checkIndex_df160 2 := ⟨kCJ0_checkIndex_df160, (lw_k4 87 (by decide +kernel) (by decide +kernel)), (lw_k2 151 (by decide +kernel) (by decide +kernel))⟩
theorem kMJ5_148 : okS RJ5 148 mJ2_getChar_3b067 2 := ⟨kCJ2_getChar_3b067, (lw_k4 88 (by decide +kernel) (by decide +kernel)), (lw_k2 169 (by decide +kernel) (by decide +kernel))⟩
theorem kMJ5_191 : okS RJ5 191 mJ1_canEncode_fc78d 1 := ⟨kCJ1_canEncode_fc78d, (lw_k5 84 (by decide +kernel) (by decide +kernel)), (lw_k5 85 (by decide +kernel) (by decide +kernel))⟩
theorem kMJ5_197 : okS RJ5 197 mJ2_putCharSB_b72d1 3 := ⟨kCJ2_putCharSB_b72d1, (lw_k5 87 (by decide +kernel) (by decide +kernel)), (lw_k5 88 (by decide +kernel) (by decide +kernel))⟩
theorem kMJ5_226 : okS RJ5 226 mJ2_putCharsAt_cd4e5 6 := ⟨kCJ2_putCharsAt_cd4e5, (lw_k4 170 (by decide +kernel) (by decide +kernel)), (lw_k4 171 (by decide +kernel) (by decide +kernel))⟩
theorem kMJ5_245 : okS RJ5 245 mJ6_stringSize_0f7a4 1 := ⟨kCJ6_stringSize_0f7a4, (lw_k4 227 (by decide +kernel) (by decide +kernel)), (lw_k4 228 (by decide +kernel) (by decide +kernel))⟩
theorem kMJ5_248 : okS RJ5 248 mJ6_getChars_ba4f3 3 := ⟨kCJ6_getChars_ba4f3, (lw_k4 230 (by decide +kernel) (by decide +kernel)), (lw_k4 231 (by decide +kernel) (by decide +kernel))⟩
theorem kMJ5_251 : okS RJ5 251 mJ2_getChars_46870 4 := ⟨kCJ2_getChars_46870, (lw_k4 237 (by decide +kernel) (by decide +kernel)), (lw_k4 238 (by decide +kernel) (by decide +kernel))⟩
theorem kMJ5_399 : okV RJ5 399 mJ0_getBytes_840e7 3 := ⟨kCJ0_getBytes_840e7, (lw_k4 214 (by decide +kernel) (by decide +kernel)), (lw_k4 215 (by decide +kernel) (by decide +kernel)), (lw_k4 216 (by decide +kernel) (by decide +kernel))⟩
theorem kMJ0_47 : okS RJ0 47 mJ2_coderFromArrayLen_85cad 2 := ⟨kCJ2_coderFromArrayLen_85cad, (lw_k5 48 (by decide +kernel) (by decide +kernel)), (lw_k5 49 (by decide +kernel) (by decide +kernel))⟩
theorem kMJ0_54 : okS RJ0 54 mJ7_copyOfRange_39247 3 := ⟨kCJ7_copyOfRange_39247, (lw_k5 32 (by decide +kernel) (by decide +kernel)), (lw_k5 33 (by decide +kernel) (by decide +kernel))⟩
theorem kMJ0_106 : okS RJ0 106 mJ1_inflate_0e8fd 5 := ⟨kCJ1_inflate_0e8fd, (lw_k4 219 (by decide +kernel) (by decide +kernel)), (lw_k4 200 (by decide +kernel) (by decide +kernel))⟩
theorem kMJ0_335 : okV RJ0 335 mJ0_coder_7d493 0 := ⟨kCJ0_coder_7d493, (lw_k2 134 (by decide +kernel) (by decide +kernel)), (lw_k2 135 (by decide +kernel) (by decide +kernel)), (lw_k2 136 (by decide +kernel) (by decide +kernel))⟩
theorem kMJ0_489 : okI RJ0 489 mJ0_init_db425 2 := ⟨kCJ0_init_db425, (lw_k5 21 (by decide +kernel) (by decide +kernel)), (lw_k5 22 (by decide +kernel) (by decide +kernel)), rfl, rfl⟩
theorem kMJ0_492 : okV RJ0 492 mJ0_isLatin1_aae02 0 := ⟨kCJ0_isLatin1_aae02, (lw_k2 143 (by decide +kernel) (by decide +kernel)), (lw_k2 144 (by decide +kernel) (by decide +kernel)), (lw_k2 145 (by decide +kernel) (by decide +kernel))⟩
theorem kMJ0_495 : okS RJ0 495 mJ1_charAt_3b067 2 := ⟨kCJ1_charAt_3b067, (lw_k2 147 (by decide +kernel) (by decide +kernel)), (lw_k2 148 (by decide +kernel) (by decide +kernel))⟩
theorem kMJ0_498 : okS RJ0 498 mJ2_charAt_3b067 2 := ⟨kCJ2_charAt_3b067, (lw_k2 158 (by decide +kernel) (by decide +kernel)), (lw_k2 159 (by decide +kernel) (by decide +kernel))⟩
theorem kMJ0_541 : okS RJ0 541 mJ1_equals_b5fdf 2 := ⟨kCJ1_equals_b5fdf, (lw_k5 208 (by decide +kernel) (by decide +kernel)), (lw_k5 209 (by decide +kernel) (by decide +kernel))⟩
theorem kMJ0_1051 : okS RJ0 1051 mJ2_compress_39247 3 := ⟨kCJ2_compress_39247, (lw_k5 41 (by decide +kernel) (by decide +kernel)), (lw_k5 42 (by decide +kernel) (by decide +kernel))⟩
theorem kMJ0_1059 : okS RJ0 1059 mJ3_checkIndex_8e157 3 := ⟨kCJ3_checkIndex_8e157, (lw_k2 155 (by decide +kernel) (by decide +kernel)), (lw_k2 156 (by decide +kernel) (by decide +kernel))⟩
theorem kMJ0_1062 : okS RJ0 1062 mJ3_checkFromToIndex_8c36e 4 := ⟨kCJ3_checkFromToIndex_8c36e, (lw_k4 179 (by decide +kernel) (by decide +kernel)), (lw_k4 180 (by decide +kernel) (by decide +kernel))⟩
theorem kMJ0_1065 : okS RJ0 1065 mJ3_checkFromIndexSize_8c36e 4 := ⟨kCJ3_checkFromIndexSize_8c36e, (lw_k4 211 (by decide +kernel) (by decide +kernel)), (lw_k4 212 (by decide +kernel) (by decide +kernel))⟩
theorem kMJ4_1 : okI RJ4 1 mJ5_init_d00df 1 := ⟨kCJ5_init_d00df, (lw_k1 217 (by decide +kernel) (by decide +kernel)), (lw_k1 218 (by decide +kernel) (by decide +kernel)), rfl, rfl⟩
theorem kMJ4_7 : okI RJ4 7 mJ5_init_a7421 1 := ⟨kCJ5_init_a7421, (lw_k5 65 (by decide +kernel) (by decide +kernel)), (lw_k5 66 (by decide +kernel) (by decide +kernel)), rfl, rfl⟩
theorem kMJ4_23 : okV RJ4 23 mJ4_append_15ec4 1 := ⟨kCJ4_append_15ec4, (lw_k5 72 (by decide +kernel) (by decide +kernel)), (lw_k4 126 (by decide +kernel) (by decide +kernel)), (lw_k4 127 (by decide +kernel) (by decide +kernel))⟩
theorem kMJ4_137 : okI RJ4 137 mJ0_init_81219 1 := ⟨kCJ0_init_81219, (lw_k5 18 (by decide +kernel) (by decide +kernel)), (lw_k5 19 (by decide +kernel) (by decide +kernel)), rfl, rfl⟩
theorem kMJ1_9 : okS RJ1 9 mJ0_checkIndex_df160 2 := ⟨kCJ0_checkIndex_df160, (lw_k2 150 (by decide +kernel) (by decide +kernel)), (lw_k2 151 (by decide +kernel) (by decide +kernel))⟩
theorem kMJ1_236 : okS RJ1 236 mJ7_fill_eb02e 4 := ⟨kCJ7_fill_eb02e, (lw_k5 157 (by decide +kernel) (by decide +kernel)), (lw_k5 158 (by decide +kernel) (by decide +kernel))⟩
theorem kMJ1_240 : okS RJ1 240 mJ2_inflate_0e8fd 5 := ⟨kCJ2_inflate_0e8fd, (lw_k4 202 (by decide +kernel) (by decide +kernel)), (lw_k4 203 (by decide +kernel) (by decide +kernel))⟩
theorem kMJ2_11 : okS RJ2 11 mJ2_newBytesLength_0f7a4 1 := ⟨kCJ2_newBytesLength_0f7a4, (lw_k1 226 (by decide +kernel) (by decide +kernel)), (lw_k1 227 (by decide +kernel) (by decide +kernel))⟩
theorem kMJ2_48 : okS RJ2 48 mJ2_length_9d52b 1 := ⟨kCJ2_length_9d52b, (lw_k2 164 (by decide +kernel) (by decide +kernel)), (lw_k2 165 (by decide +kernel) (by decide +kernel))⟩
theorem kMJ2_67 : okS RJ2 67 mJ2_checkIndex_2214a 2 := ⟨kCJ2_checkIndex_2214a, (lw_k2 161 (by decide +kernel) (by decide +kernel)), (lw_k2 162 (by decide +kernel) (by decide +kernel))⟩
theorem kMJ2_71 : okS RJ2 71 mJ2_getChar_3b067 2 := ⟨kCJ2_getChar_3b067, (lw_k2 168 (by decide +kernel) (by decide +kernel)), (lw_k2 169 (by decide +kernel) (by decide +kernel))⟩
theorem kMJ2_96 : okS RJ2 96 mJ2_checkBoundsBeginEnd_d044e 3 := ⟨kCJ2_checkBoundsBeginEnd_d044e, (lw_k4 173 (by decide +kernel) (by decide +kernel)), (lw_k4 174 (by decide +kernel) (by decide +kernel))⟩
theorem kMJ2_111 : okS RJ2 111 mJ2_putChar_b72d1 3 := ⟨kCJ2_putChar_b72d1, (lw_k4 182 (by decide +kernel) (by decide +kernel)), (lw_k4 183 (by decide +kernel) (by decide +kernel))⟩
theorem kMJ2_123 : okS RJ2 123 mJ2_compress_5af95 5 := ⟨kCJ2_compress_5af95, (lw_k5 44 (by decide +kernel) (by decide +kernel)), (lw_k5 45 (by decide +kernel) (by decide +kernel))⟩
theorem kMJ2_126 : okS RJ2 126 mJ7_copyOfRange_39247 3 := ⟨kCJ7_copyOfRange_39247, (lw_k5 47 (by decide +kernel) (by decide +kernel)), (lw_k5 33 (by decide +kernel) (by decide +kernel))⟩
theorem kMJ2_173 : okS RJ2 173 mJ2_checkBoundsOffCount_d044e 3 := ⟨kCJ2_checkBoundsOffCount_d044e, (lw_k4 205 (by decide +kernel) (by decide +kernel)), (lw_k4 206 (by decide +kernel) (by decide +kernel))⟩
theorem kMJ2_241 : okS RJ2 241 mJ0_checkBoundsBeginEnd_23922 3 := ⟨kCJ0_checkBoundsBeginEnd_23922, (lw_k4 176 (by decide +kernel) (by decide +kernel)), (lw_k4 177 (by decide +kernel) (by decide +kernel))⟩
theorem kMJ2_380 : okS RJ2 380 mJ7_fill_eb02e 4 := ⟨kCJ7_fill_eb02e, (lw_k5 166 (by decide +kernel) (by decide +kernel)), (lw_k5 158 (by decide +kernel) (by decide +kernel))⟩
theorem kMJ2_393 : okS RJ2 393 mJ2_getChars_ba4f3 3 := ⟨kCJ2_getChars_ba4f3, (lw_k5 0 (by decide +kernel) (by decide +kernel)), (lw_k5 1 (by decide +kernel) (by decide +kernel))⟩
theorem kMJ2_414 : okS RJ2 414 mJ0_checkIndex_df160 2 := ⟨kCJ0_checkIndex_df160, (lw_k2 167 (by decide +kernel) (by decide +kernel)), (lw_k2 151 (by decide +kernel) (by decide +kernel))⟩
theorem kMJ2_419 : okS RJ2 419 mJ0_checkBoundsOffCount_cabcc 3 := ⟨kCJ0_checkBoundsOffCount_cabcc, (lw_k4 208 (by decide +kernel) (by decide +kernel)), (lw_k4 209 (by decide +kernel) (by decide +kernel))⟩
theorem kMJ7_13 : okS RJ7 13 mJ7_rangeCheck_23922 3 := ⟨kCJ7_rangeCheck_23922, (lw_k5 160 (by decide +kernel) (by decide +kernel)), (lw_k5 161 (by decide +kernel) (by decide +kernel))⟩
theorem kMJ7_339 : okS RJ7 339 mJ7_copyOfRangeByte_39247 3 := ⟨kCJ7_copyOfRangeByte_39247, (lw_k5 35 (by decide +kernel) (by decide +kernel)), (lw_k5 36 (by decide +kernel) (by decide +kernel))⟩
theorem kMJ7_343 : okS RJ7 343 mJ7_checkLength_df160 2 := ⟨kCJ7_checkLength_df160, (lw_k5 38 (by decide +kernel) (by decide +kernel)), (lw_k5 39 (by decide +kernel) (by decide +kernel))⟩
theorem kMJ8_201 : okS RJ8 201 mJ8_hugeLength_7cf53 2 := ⟨kCJ8_hugeLength_7cf53, (lw_k4 149 (by decide +kernel) (by decide +kernel)), (lw_k4 150 (by decide +kernel) (by decide +kernel))⟩
theorem kMX0_46 : okSN RX0 46 mX6_copyRow 2 := ⟨kCX6_copyRow, (lw_k3 55 (by decide +kernel) (by decide +kernel)), 0, "HosieryPlant", rfl⟩
theorem kMX2_36 : okSN RX2 36 mX6_contains 2 := ⟨kCX6_contains, (lw_k3 205 (by decide +kernel) (by decide +kernel)), 1, "HosieryPlant", rfl⟩
theorem kMX2_67 : okSN RX2 67 mX6_put 3 := ⟨kCX6_put, (lw_k3 3 (by decide +kernel) (by decide +kernel)), 2, "HosieryPlant", rfl⟩
theorem kMX2_71 : okSN RX2 71 mX6_at 2 := ⟨kCX6_at, (lw_k2 110 (by decide +kernel) (by decide +kernel)), 3, "HosieryPlant", rfl⟩
theorem kMX2_79 : okSN RX2 79 mX6_lowestOf 1 := ⟨kCX6_lowestOf, (lw_k3 220 (by decide +kernel) (by decide +kernel)), 4, "HosieryPlant", rfl⟩
theorem kMX3_22 : okSN RX3 22 mX6_put 3 := ⟨kCX6_put, (lw_k3 3 (by decide +kernel) (by decide +kernel)), 5, "HosieryPlant", rfl⟩
theorem kMX3_26 : okSN RX3 26 mX6_at 2 := ⟨kCX6_at, (lw_k2 110 (by decide +kernel) (by decide +kernel)), 6, "HosieryPlant", rfl⟩
theorem kMX4_140 : okSN RX4 140 mX6_put 3 := ⟨kCX6_put, (lw_k3 3 (by decide +kernel) (by decide +kernel)), 7, "HosieryPlant", rfl⟩
theorem kMX4_193 : okSN RX4 193 mX6_isBetween 3 := ⟨kCX6_isBetween, (lw_k2 194 (by decide +kernel) (by decide +kernel)), 8, "HosieryPlant", rfl⟩
theorem kMX4_200 : okSN RX4 200 mX6_at 2 := ⟨kCX6_at, (lw_k2 110 (by decide +kernel) (by decide +kernel)), 9, "HosieryPlant", rfl⟩
theorem kMX4_204 : okSN RX4 204 mX6_indexOfName 3 := ⟨kCX6_indexOfName, (lw_k3 0 (by decide +kernel) (by decide +kernel)), 10, "HosieryPlant", rfl⟩
theorem kMX4_212 : okSN RX4 212 mX6_packName 3 := ⟨kCX6_packName, (lw_k2 231 (by decide +kernel) (by decide +kernel)), 11, "HosieryPlant", rfl⟩
theorem kMX4_234 : okSN RX4 234 mX6_isLetter 1 := ⟨kCX6_isLetter, (lw_k2 116 (by decide +kernel) (by decide +kernel)), 12, "HosieryPlant", rfl⟩
theorem kMX5_71 : okSN RX5 71 mX6_copyRow 2 := ⟨kCX6_copyRow, (lw_k3 55 (by decide +kernel) (by decide +kernel)), 13, "HosieryPlant", rfl⟩
theorem kMX5_75 : okSN RX5 75 mX6_put 3 := ⟨kCX6_put, (lw_k3 3 (by decide +kernel) (by decide +kernel)), 14, "HosieryPlant", rfl⟩
theorem kMX5_79 : okSN RX5 79 mX6_at 2 := ⟨kCX6_at, (lw_k2 110 (by decide +kernel) (by decide +kernel)), 15, "HosieryPlant", rfl⟩
theorem kAI : Cond.arrayClass .int ∈ lw_g := (lw_k1 107 (by decide +kernel) (by decide +kernel))
theorem kAB : Cond.arrayClass .byte ∈ lw_g := (lw_k2 4 (by decide +kernel) (by decide +kernel))
theorem kAJ : Cond.arrayClass .long ∈ lw_g := (lw_k2 46 (by decide +kernel) (by decide +kernel))
