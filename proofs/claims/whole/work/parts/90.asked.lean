/-! The sixty-four questions. -/
theorem st_append {l : Launch} {G : GM} {h : List va_E} {n : Nat} (H : HZ G h n) (hn : n ≤ 1000) (z1 z2 z3 z4 z5 : Int32) : St l G mX6_append mX7_append [.int z1, .int z2, .int z3, .int z4, .int z5] h n := by
  obtain ⟨w, m, hw, hm, hR⟩ := H
  obtain ⟨a, b, c⟩ := hp_append hR z1 z2 z3 z4 z5
  exact st_mm hm (by decide) (by decide) (ctX6_append hw z1 z2 z3 z4 z5) (fun h1 hm1 => ctX7_append hm1 z1 z2 z3 z4 z5 a) b (hz_Rup c (by omega))
theorem st_truncate {l : Launch} {G : GM} {h : List va_E} {n : Nat} (H : HZ G h n) (hn : n ≤ 1000) (z1 : Int32) : St l G mX6_truncate mX7_truncate [.int z1] h n := by
  obtain ⟨w, m, hw, hm, hR⟩ := H
  obtain ⟨b, c⟩ := hp_truncate hR z1
  exact st_mm hm (by decide) (by decide) (ctX6_truncate hw z1) (fun h1 hm1 => ctX7_truncate hm1 z1) b (hz_Rup c (by omega))
theorem st_load {l : Launch} {G : GM} {h : List va_E} {n : Nat} (H : HZ G h n) (hn : n ≤ 1000) : St l G mX6_load mX7_load [] h n := by
  obtain ⟨w, m, hw, hm, hR⟩ := H
  obtain ⟨a, b, c⟩ := hp_load hR
  exact st_mm hm (by decide) (by decide) (ctX6_load hw) (fun h1 hm1 => ctX7_load hm1 a) b c
theorem st_errorCode {l : Launch} {G : GM} {h : List va_E} {n : Nat} (H : HZ G h n) (hn : n ≤ 1000) : St l G mX6_errorCode mX7_errorCode [] h n := by
  obtain ⟨w, m, hw, hm, hR⟩ := H
  exact st_pp hw hm (by decide) (by decide) (ctX6_errorCode hw) (ctX7_errorCode hm) (hp_plain hR).1.symm hR
theorem st_errorPosition {l : Launch} {G : GM} {h : List va_E} {n : Nat} (H : HZ G h n) (hn : n ≤ 1000) : St l G mX6_errorPosition mX7_errorPosition [] h n := by
  obtain ⟨w, m, hw, hm, hR⟩ := H
  exact st_pp hw hm (by decide) (by decide) (ctX6_errorPosition hw) (ctX7_errorPosition hm) (hp_plain hR).2.1.symm hR
theorem st_yarnCount {l : Launch} {G : GM} {h : List va_E} {n : Nat} (H : HZ G h n) (hn : n ≤ 1000) : St l G mX6_yarnCount mX7_yarnCount [] h n := by
  obtain ⟨w, m, hw, hm, hR⟩ := H
  exact st_pp hw hm (by decide) (by decide) (ctX6_yarnCount hw) (ctX7_yarnCount hm) (hp_plain hR).2.2.1.symm hR
theorem st_shapeCount {l : Launch} {G : GM} {h : List va_E} {n : Nat} (H : HZ G h n) (hn : n ≤ 1000) : St l G mX6_shapeCount mX7_shapeCount [] h n := by
  obtain ⟨w, m, hw, hm, hR⟩ := H
  exact st_pp hw hm (by decide) (by decide) (ctX6_shapeCount hw) (ctX7_shapeCount hm) (hp_plain hR).2.2.2.1.symm hR
theorem st_sizeCount {l : Launch} {G : GM} {h : List va_E} {n : Nat} (H : HZ G h n) (hn : n ≤ 1000) : St l G mX6_sizeCount mX7_sizeCount [] h n := by
  obtain ⟨w, m, hw, hm, hR⟩ := H
  exact st_pp hw hm (by decide) (by decide) (ctX6_sizeCount hw) (ctX7_sizeCount hm) (hp_plain hR).2.2.2.2.1.symm hR
theorem st_pieceCount {l : Launch} {G : GM} {h : List va_E} {n : Nat} (H : HZ G h n) (hn : n ≤ 1000) : St l G mX6_pieceCount mX7_pieceCount [] h n := by
  obtain ⟨w, m, hw, hm, hR⟩ := H
  exact st_pp hw hm (by decide) (by decide) (ctX6_pieceCount hw) (ctX7_pieceCount hm) (hp_plain hR).2.2.2.2.2.1.symm hR
theorem st_days {l : Launch} {G : GM} {h : List va_E} {n : Nat} (H : HZ G h n) (hn : n ≤ 1000) : St l G mX6_days mX7_days [] h n := by
  obtain ⟨w, m, hw, hm, hR⟩ := H
  exact st_pp hw hm (by decide) (by decide) (ctX6_days hw) (ctX7_days hm) (hp_plain hR).2.2.2.2.2.2.1.symm hR
theorem st_undoCount {l : Launch} {G : GM} {h : List va_E} {n : Nat} (H : HZ G h n) (hn : n ≤ 1000) : St l G mX6_undoCount mX7_undoCount [] h n := by
  obtain ⟨w, m, hw, hm, hR⟩ := H
  exact st_pp hw hm (by decide) (by decide) (ctX6_undoCount hw) (ctX7_undoCount hm) (hp_undoCount hR) hR
theorem st_lengthTolerance {l : Launch} {G : GM} {h : List va_E} {n : Nat} (H : HZ G h n) (hn : n ≤ 1000) : St l G mX6_lengthTolerance mX7_lengthTolerance [] h n := by
  obtain ⟨w, m, hw, hm, hR⟩ := H
  exact st_pp hw hm (by decide) (by decide) (ctX6_lengthTolerance hw) (ctX7_lengthTolerance hm) (hp_plain hR).2.2.2.2.2.2.2.1.symm hR
theorem st_shadeTolerance {l : Launch} {G : GM} {h : List va_E} {n : Nat} (H : HZ G h n) (hn : n ≤ 1000) : St l G mX6_shadeTolerance mX7_shadeTolerance [] h n := by
  obtain ⟨w, m, hw, hm, hR⟩ := H
  exact st_pp hw hm (by decide) (by decide) (ctX6_shadeTolerance hw) (ctX7_shadeTolerance hm) (hp_plain hR).2.2.2.2.2.2.2.2.1.symm hR
theorem st_steam {l : Launch} {G : GM} {h : List va_E} {n : Nat} (H : HZ G h n) (hn : n ≤ 1000) : St l G mX6_steam mX7_steam [] h n := by
  obtain ⟨w, m, hw, hm, hR⟩ := H
  exact st_pp hw hm (by decide) (by decide) (ctX6_steam hw) (ctX7_steam hm) (hp_plain hR).2.2.2.2.2.2.2.2.2.symm hR
theorem st_find {l : Launch} {G : GM} {h : List va_E} {n : Nat} (H : HZ G h n) (hn : n ≤ 1000) (z1 : Int32) : St l G mX6_find mX7_find [.int z1] h n := by
  obtain ⟨w, m, hw, hm, hR⟩ := H
  obtain ⟨a, b, c⟩ := hp_find hR z1
  exact st_mm hm (by decide) (by decide) (ctX6_find hw z1) (fun h1 hm1 => ctX7_find hm1 z1 a) b (hz_Rup c (by omega))
theorem st_length {l : Launch} {G : GM} {h : List va_E} {n : Nat} (H : HZ G h n) (hn : n ≤ 1000) (z1 : Int32) : St l G mX6_length mX7_length [.int z1] h n := by
  obtain ⟨w, m, hw, hm, hR⟩ := H
  obtain ⟨_, _, _, _, _, hP, -⟩ := id hR
  obtain ⟨a, b⟩ := hq_length hP z1
  exact st_pp hw hm (by decide) (by decide) (ctX6_length hw z1) (ctX7_length hm z1 a) b hR
theorem st_knitted {l : Launch} {G : GM} {h : List va_E} {n : Nat} (H : HZ G h n) (hn : n ≤ 1000) (z1 : Int32) : St l G mX6_knitted mX7_knitted [.int z1] h n := by
  obtain ⟨w, m, hw, hm, hR⟩ := H
  obtain ⟨_, _, _, _, _, hP, -⟩ := id hR
  obtain ⟨a, b⟩ := hq_knitted hP z1
  exact st_pp hw hm (by decide) (by decide) (ctX6_knitted hw z1) (ctX7_knitted hm z1 a) b hR
theorem st_shade {l : Launch} {G : GM} {h : List va_E} {n : Nat} (H : HZ G h n) (hn : n ≤ 1000) (z1 : Int32) : St l G mX6_shade mX7_shade [.int z1] h n := by
  obtain ⟨w, m, hw, hm, hR⟩ := H
  obtain ⟨_, _, _, _, _, hP, -⟩ := id hR
  obtain ⟨a, b⟩ := hq_shade hP z1
  exact st_pp hw hm (by decide) (by decide) (ctX6_shade hw z1) (ctX7_shade hm z1 a) b hR
theorem st_yarnOf {l : Launch} {G : GM} {h : List va_E} {n : Nat} (H : HZ G h n) (hn : n ≤ 1000) (z1 : Int32) : St l G mX6_yarnOf mX7_yarnOf [.int z1] h n := by
  obtain ⟨w, m, hw, hm, hR⟩ := H
  obtain ⟨_, _, _, _, _, hP, -⟩ := id hR
  obtain ⟨a, b⟩ := hq_yarnOf hP z1
  exact st_pp hw hm (by decide) (by decide) (ctX6_yarnOf hw z1) (ctX7_yarnOf hm z1 a) b hR
theorem st_kindOf {l : Launch} {G : GM} {h : List va_E} {n : Nat} (H : HZ G h n) (hn : n ≤ 1000) (z1 : Int32) : St l G mX6_kindOf mX7_kindOf [.int z1] h n := by
  obtain ⟨w, m, hw, hm, hR⟩ := H
  obtain ⟨_, _, _, _, _, hP, -⟩ := id hR
  obtain ⟨a, b⟩ := hq_kindOf hP z1
  exact st_pp hw hm (by decide) (by decide) (ctX6_kindOf hw z1) (ctX7_kindOf hm z1 a) b hR
theorem st_state {l : Launch} {G : GM} {h : List va_E} {n : Nat} (H : HZ G h n) (hn : n ≤ 1000) (z1 : Int32) : St l G mX6_state mX7_state [.int z1] h n := by
  obtain ⟨w, m, hw, hm, hR⟩ := H
  obtain ⟨_, _, _, _, _, hP, -⟩ := id hR
  obtain ⟨a, b⟩ := hq_state hP z1
  exact st_pp hw hm (by decide) (by decide) (ctX6_state hw z1) (ctX7_state hm z1 a) b hR
theorem st_inState {l : Launch} {G : GM} {h : List va_E} {n : Nat} (H : HZ G h n) (hn : n ≤ 1000) (z1 : Int32) : St l G mX6_inState mX7_inState [.int z1] h n := by
  obtain ⟨w, m, hw, hm, hR⟩ := H
  obtain ⟨_, _, _, _, _, hP, -⟩ := id hR
  obtain ⟨a, b⟩ := hq_inState hP z1
  exact st_pp hw hm (by decide) (by decide) (ctX6_inState hw z1) (ctX7_inState hm z1 a) b hR
theorem st_stretchLimit {l : Launch} {G : GM} {h : List va_E} {n : Nat} (H : HZ G h n) (hn : n ≤ 1000) (z1 : Int32) : St l G mX6_stretchLimit mX7_stretchLimit [.int z1] h n := by
  obtain ⟨w, m, hw, hm, hR⟩ := H
  obtain ⟨_, _, _, _, _, hP, -⟩ := id hR
  obtain ⟨a, b⟩ := hq_stretchLimit hP z1
  exact st_pp hw hm (by decide) (by decide) (ctX6_stretchLimit hw z1) (ctX7_stretchLimit hm z1 a) b hR
theorem st_longestShape {l : Launch} {G : GM} {h : List va_E} {n : Nat} (H : HZ G h n) (hn : n ≤ 1000) (z1 : Int32) : St l G mX6_longestShape mX7_longestShape [.int z1] h n := by
  obtain ⟨w, m, hw, hm, hR⟩ := H
  obtain ⟨_, _, _, _, _, hP, -⟩ := id hR
  obtain ⟨a, b⟩ := hq_longestShape hP z1
  exact st_pp hw hm (by decide) (by decide) (ctX6_longestShape hw z1) (ctX7_longestShape hm z1 a) b hR
theorem st_ifBoarded {l : Launch} {G : GM} {h : List va_E} {n : Nat} (H : HZ G h n) (hn : n ≤ 1000) (z1 z2 : Int32) : St l G mX6_ifBoarded mX7_ifBoarded [.int z1, .int z2] h n := by
  obtain ⟨w, m, hw, hm, hR⟩ := H
  obtain ⟨_, _, _, _, _, hP, -⟩ := id hR
  obtain ⟨a, b⟩ := hq_ifBoarded hP z1 z2
  exact st_pp hw hm (by decide) (by decide) (ctX6_ifBoarded hw z1 z2) (ctX7_ifBoarded hm z1 z2 a) b hR
theorem st_sizeOf {l : Launch} {G : GM} {h : List va_E} {n : Nat} (H : HZ G h n) (hn : n ≤ 1000) (z1 : Int32) : St l G mX6_sizeOf mX7_sizeOf [.int z1] h n := by
  obtain ⟨w, m, hw, hm, hR⟩ := H
  obtain ⟨_, _, _, _, _, hP, -⟩ := id hR
  obtain ⟨a, b⟩ := hq_sizeOf hP z1
  exact st_pp hw hm (by decide) (by decide) (ctX6_sizeOf hw z1) (ctX7_sizeOf hm z1 a) b hR
theorem st_ofSize {l : Launch} {G : GM} {h : List va_E} {n : Nat} (H : HZ G h n) (hn : n ≤ 1000) (z1 : Int32) : St l G mX6_ofSize mX7_ofSize [.int z1] h n := by
  obtain ⟨w, m, hw, hm, hR⟩ := H
  obtain ⟨_, _, _, _, _, hP, -⟩ := id hR
  obtain ⟨a, b⟩ := hq_ofSize hP z1
  exact st_pp hw hm (by decide) (by decide) (ctX6_ofSize hw z1) (ctX7_ofSize hm z1 a) b hR
theorem st_sorted {l : Launch} {G : GM} {h : List va_E} {n : Nat} (H : HZ G h n) (hn : n ≤ 1000) (z1 : Int32) : St l G mX6_sorted mX7_sorted [.int z1] h n := by
  obtain ⟨w, m, hw, hm, hR⟩ := H
  obtain ⟨_, _, _, _, _, hP, -⟩ := id hR
  obtain ⟨a, b⟩ := hq_sorted hP z1
  exact st_pp hw hm (by decide) (by decide) (ctX6_sorted hw z1) (ctX7_sorted hm z1 a) b hR
theorem st_lengthRange {l : Launch} {G : GM} {h : List va_E} {n : Nat} (H : HZ G h n) (hn : n ≤ 1000) : St l G mX6_lengthRange mX7_lengthRange [] h n := by
  obtain ⟨w, m, hw, hm, hR⟩ := H
  obtain ⟨_, _, _, _, _, hP, -⟩ := id hR
  obtain ⟨a, b⟩ := hq_lengthRange hP
  exact st_pp hw hm (by decide) (by decide) (ctX6_lengthRange hw) (ctX7_lengthRange hm a) b hR
theorem st_board {l : Launch} {G : GM} {h : List va_E} {n : Nat} (H : HZ G h n) (hn : n ≤ 1000) (z1 z2 : Int32) : St l G mX6_board mX7_board [.int z1, .int z2] h n := by
  obtain ⟨w, m, hw, hm, hR⟩ := H
  obtain ⟨a, b, c⟩ := hp_board hR z1 z2
  exact st_mm hm (by decide) (by decide) (ctX6_board hw z1 z2) (fun h1 hm1 => ctX7_board hm1 z1 z2 a) b c
theorem st_boardAll {l : Launch} {G : GM} {h : List va_E} {n : Nat} (H : HZ G h n) (hn : n ≤ 1000) (z1 : Int32) : St l G mX6_boardAll mX7_boardAll [.int z1] h n := by
  obtain ⟨w, m, hw, hm, hR⟩ := H
  obtain ⟨a, b, c⟩ := hp_boardAll hR z1
  exact st_mm hm (by decide) (by decide) (ctX6_boardAll hw z1) (fun h1 hm1 => ctX7_boardAll hm1 z1 a) b c
theorem st_day {l : Launch} {G : GM} {h : List va_E} {n : Nat} (H : HZ G h n) (hn : n ≤ 1000) : St l G mX6_day mX7_day [] h n := by
  obtain ⟨w, m, hw, hm, hR⟩ := H
  obtain ⟨a, b, c⟩ := hp_day hR
  exact st_mm hm (by decide) (by decide) (ctX6_day hw) (fun h1 hm1 => ctX7_day hm1 a) b c
theorem st_dye {l : Launch} {G : GM} {h : List va_E} {n : Nat} (H : HZ G h n) (hn : n ≤ 1000) (z1 z2 : Int32) : St l G mX6_dye mX7_dye [.int z1, .int z2] h n := by
  obtain ⟨w, m, hw, hm, hR⟩ := H
  obtain ⟨a, b, c⟩ := hp_dye hR z1 z2
  exact st_mm hm (by decide) (by decide) (ctX6_dye hw z1 z2) (fun h1 hm1 => ctX7_dye hm1 z1 z2 a) b c
theorem st_setTolerance {l : Launch} {G : GM} {h : List va_E} {n : Nat} (H : HZ G h n) (hn : n ≤ 1000) (z1 z2 : Int32) : St l G mX6_setTolerance mX7_setTolerance [.int z1, .int z2] h n := by
  obtain ⟨w, m, hw, hm, hR⟩ := H
  obtain ⟨a, b, c⟩ := hp_setTolerance hR z1 z2
  exact st_mm hm (by decide) (by decide) (ctX6_setTolerance hw z1 z2) (fun h1 hm1 => ctX7_setTolerance hm1 z1 z2 a) b c
theorem st_setSteam {l : Launch} {G : GM} {h : List va_E} {n : Nat} (H : HZ G h n) (hn : n ≤ 1000) (z1 : Int32) : St l G mX6_setSteam mX7_setSteam [.int z1] h n := by
  obtain ⟨w, m, hw, hm, hR⟩ := H
  obtain ⟨a, b, c⟩ := hp_setSteam hR z1
  exact st_mm hm (by decide) (by decide) (ctX6_setSteam hw z1) (fun h1 hm1 => ctX7_setSteam hm1 z1 a) b c
theorem st_isMatch {l : Launch} {G : GM} {h : List va_E} {n : Nat} (H : HZ G h n) (hn : n ≤ 1000) (z1 z2 : Int32) : St l G mX6_isMatch mX7_isMatch [.int z1, .int z2] h n := by
  obtain ⟨w, m, hw, hm, hR⟩ := H
  obtain ⟨_, _, _, _, _, hP, -⟩ := id hR
  obtain ⟨a, b⟩ := hq_isMatch hP z1 z2
  exact st_pp hw hm (by decide) (by decide) (ctX6_isMatch hw z1 z2) (ctX7_isMatch hm z1 z2 a) b hR
theorem st_gap {l : Launch} {G : GM} {h : List va_E} {n : Nat} (H : HZ G h n) (hn : n ≤ 1000) (z1 z2 : Int32) : St l G mX6_gap mX7_gap [.int z1, .int z2] h n := by
  obtain ⟨w, m, hw, hm, hR⟩ := H
  obtain ⟨_, _, _, _, _, hP, -⟩ := id hR
  obtain ⟨a, b⟩ := hq_gap hP z1 z2
  exact st_pp hw hm (by decide) (by decide) (ctX6_gap hw z1 z2) (ctX7_gap hm z1 z2 a) b hR
theorem st_matches {l : Launch} {G : GM} {h : List va_E} {n : Nat} (H : HZ G h n) (hn : n ≤ 1000) (z1 : Int32) : St l G mX6_matches mX7_matches [.int z1] h n := by
  obtain ⟨w, m, hw, hm, hR⟩ := H
  obtain ⟨_, _, _, _, _, hP, -⟩ := id hR
  obtain ⟨a, b⟩ := hq_matches hP z1
  exact st_pp hw hm (by decide) (by decide) (ctX6_matches hw z1) (ctX7_matches hm z1 a) b hR
theorem st_nearest {l : Launch} {G : GM} {h : List va_E} {n : Nat} (H : HZ G h n) (hn : n ≤ 1000) (z1 : Int32) : St l G mX6_nearest mX7_nearest [.int z1] h n := by
  obtain ⟨w, m, hw, hm, hR⟩ := H
  obtain ⟨_, _, _, _, _, hP, -⟩ := id hR
  obtain ⟨a, b⟩ := hq_nearest hP z1
  exact st_pp hw hm (by decide) (by decide) (ctX6_nearest hw z1) (ctX7_nearest hm z1 a) b hR
theorem st_pairCount {l : Launch} {G : GM} {h : List va_E} {n : Nat} (H : HZ G h n) (hn : n ≤ 1000) : St l G mX6_pairCount mX7_pairCount [] h n := by
  obtain ⟨w, m, hw, hm, hR⟩ := H
  obtain ⟨a, b, c⟩ := hp_pairCount hn hR
  exact st_mm hm (by decide) (by decide) (ctX6_pairCount hw) (fun h1 hm1 => ctX7_pairCount hm1 a) b c
theorem st_pairGap {l : Launch} {G : GM} {h : List va_E} {n : Nat} (H : HZ G h n) (hn : n ≤ 1000) : St l G mX6_pairGap mX7_pairGap [] h n := by
  obtain ⟨w, m, hw, hm, hR⟩ := H
  obtain ⟨a, b, c⟩ := hp_pairGap hn hR
  exact st_mm hm (by decide) (by decide) (ctX6_pairGap hw) (fun h1 hm1 => ctX7_pairGap hm1 a) b c
theorem st_partner {l : Launch} {G : GM} {h : List va_E} {n : Nat} (H : HZ G h n) (hn : n ≤ 1000) (z1 : Int32) : St l G mX6_partner mX7_partner [.int z1] h n := by
  obtain ⟨w, m, hw, hm, hR⟩ := H
  obtain ⟨a, b, c⟩ := hp_partner hn hR z1
  exact st_mm hm (by decide) (by decide) (ctX6_partner hw z1) (fun h1 hm1 => ctX7_partner hm1 z1 a) b c
theorem st_pair {l : Launch} {G : GM} {h : List va_E} {n : Nat} (H : HZ G h n) (hn : n ≤ 1000) (z1 : Int32) : St l G mX6_pair mX7_pair [.int z1] h n := by
  obtain ⟨w, m, hw, hm, hR⟩ := H
  obtain ⟨a, b, c⟩ := hp_pair hn hR z1
  exact st_mm hm (by decide) (by decide) (ctX6_pair hw z1) (fun h1 hm1 => ctX7_pair hm1 z1 a) b c
theorem st_pairSize {l : Launch} {G : GM} {h : List va_E} {n : Nat} (H : HZ G h n) (hn : n ≤ 1000) (z1 : Int32) : St l G mX6_pairSize mX7_pairSize [.int z1] h n := by
  obtain ⟨w, m, hw, hm, hR⟩ := H
  obtain ⟨a, b, c⟩ := hp_pairSize hn hR z1
  exact st_mm hm (by decide) (by decide) (ctX6_pairSize hw z1) (fun h1 hm1 => ctX7_pairSize hm1 z1 a) b c
theorem st_seconds {l : Launch} {G : GM} {h : List va_E} {n : Nat} (H : HZ G h n) (hn : n ≤ 1000) : St l G mX6_seconds mX7_seconds [] h n := by
  obtain ⟨w, m, hw, hm, hR⟩ := H
  obtain ⟨a, b, c⟩ := hp_seconds hn hR
  exact st_mm hm (by decide) (by decide) (ctX6_seconds hw) (fun h1 hm1 => ctX7_seconds hm1 a) b c
theorem st_groupCount {l : Launch} {G : GM} {h : List va_E} {n : Nat} (H : HZ G h n) (hn : n ≤ 1000) : St l G mX6_groupCount mX7_groupCount [] h n := by
  obtain ⟨w, m, hw, hm, hR⟩ := H
  obtain ⟨_, _, _, _, _, hP, -⟩ := id hR
  obtain ⟨a, b⟩ := hq_groupCount hP
  exact st_pp hw hm (by decide) (by decide) (ctX6_groupCount hw) (ctX7_groupCount hm a) b hR
theorem st_groupOf {l : Launch} {G : GM} {h : List va_E} {n : Nat} (H : HZ G h n) (hn : n ≤ 1000) (z1 : Int32) : St l G mX6_groupOf mX7_groupOf [.int z1] h n := by
  obtain ⟨w, m, hw, hm, hR⟩ := H
  obtain ⟨_, _, _, _, _, hP, -⟩ := id hR
  obtain ⟨a, b⟩ := hq_groupOf hP z1
  exact st_pp hw hm (by decide) (by decide) (ctX6_groupOf hw z1) (ctX7_groupOf hm z1 a) b hR
theorem st_pack {l : Launch} {G : GM} {h : List va_E} {n : Nat} (H : HZ G h n) (hn : n ≤ 1000) : St l G mX6_pack mX7_pack [] h n := by
  obtain ⟨w, m, hw, hm, hR⟩ := H
  obtain ⟨a, b, c⟩ := hp_pack hn hR
  exact st_mm hm (by decide) (by decide) (ctX6_pack hw) (fun h1 hm1 => ctX7_pack hm1 a) b c
theorem st_boxCount {l : Launch} {G : GM} {h : List va_E} {n : Nat} (H : HZ G h n) (hn : n ≤ 1000) : St l G mX6_boxCount mX7_boxCount [] h n := by
  obtain ⟨w, m, hw, hm, hR⟩ := H
  obtain ⟨a, b, c⟩ := hp_boxCount hn hR
  exact st_mm hm (by decide) (by decide) (ctX6_boxCount hw) (fun h1 hm1 => ctX7_boxCount hm1 a) b c
theorem st_ifDays {l : Launch} {G : GM} {h : List va_E} {n : Nat} (H : HZ G h n) (hn : n ≤ 1000) (z1 : Int32) : St l G mX6_ifDays mX7_ifDays [.int z1] h n := by
  obtain ⟨w, m, hw, hm, hR⟩ := H
  obtain ⟨a, b, c⟩ := hp_ifDays hn hR z1
  exact st_mm hm (by decide) (by decide) (ctX6_ifDays hw z1) (fun h1 hm1 => ctX7_ifDays hm1 z1 a) b c
theorem st_bestDay {l : Launch} {G : GM} {h : List va_E} {n : Nat} (H : HZ G h n) (hn : n ≤ 1000) (z1 : Int32) : St l G mX6_bestDay mX7_bestDay [.int z1] h n := by
  obtain ⟨w, m, hw, hm, hR⟩ := H
  obtain ⟨a, b, c⟩ := hp_bestDay hn hR z1
  exact st_mm hm (by decide) (by decide) (ctX6_bestDay hw z1) (fun h1 hm1 => ctX7_bestDay hm1 z1 a) b c
theorem st_ifAllBoarded {l : Launch} {G : GM} {h : List va_E} {n : Nat} (H : HZ G h n) (hn : n ≤ 1000) (z1 : Int32) : St l G mX6_ifAllBoarded mX7_ifAllBoarded [.int z1] h n := by
  obtain ⟨w, m, hw, hm, hR⟩ := H
  obtain ⟨a, b, c⟩ := hp_ifAllBoarded hn hR z1
  exact st_mm hm (by decide) (by decide) (ctX6_ifAllBoarded hw z1) (fun h1 hm1 => ctX7_ifAllBoarded hm1 z1 a) b c
theorem st_bestShape {l : Launch} {G : GM} {h : List va_E} {n : Nat} (H : HZ G h n) (hn : n ≤ 1000) : St l G mX6_bestShape mX7_bestShape [] h n := by
  obtain ⟨w, m, hw, hm, hR⟩ := H
  obtain ⟨a, b, c⟩ := hp_bestShape hn hR
  exact st_mm hm (by decide) (by decide) (ctX6_bestShape hw) (fun h1 hm1 => ctX7_bestShape hm1 a) b c
theorem st_leastSteam {l : Launch} {G : GM} {h : List va_E} {n : Nat} (H : HZ G h n) (hn : n ≤ 1000) (z1 z2 : Int32) : St l G mX6_leastSteam mX7_leastSteam [.int z1, .int z2] h n := by
  obtain ⟨w, m, hw, hm, hR⟩ := H
  obtain ⟨a, b, c⟩ := hp_leastSteam hn hR z1 z2
  exact st_mm hm (by decide) (by decide) (ctX6_leastSteam hw z1 z2) (fun h1 hm1 => ctX7_leastSteam hm1 z1 z2 a) b c
theorem st_leastTolerance {l : Launch} {G : GM} {h : List va_E} {n : Nat} (H : HZ G h n) (hn : n ≤ 1000) (z1 : Int32) : St l G mX6_leastTolerance mX7_leastTolerance [.int z1] h n := by
  obtain ⟨w, m, hw, hm, hR⟩ := H
  obtain ⟨a, b, c⟩ := hp_leastTolerance hn hR z1
  exact st_mm hm (by decide) (by decide) (ctX6_leastTolerance hw z1) (fun h1 hm1 => ctX7_leastTolerance hm1 z1 a) b c
theorem st_bestDye {l : Launch} {G : GM} {h : List va_E} {n : Nat} (H : HZ G h n) (hn : n ≤ 1000) (z1 : Int32) : St l G mX6_bestDye mX7_bestDye [.int z1] h n := by
  obtain ⟨w, m, hw, hm, hR⟩ := H
  obtain ⟨a, b, c⟩ := hp_bestDye hn hR z1
  exact st_mm hm (by decide) (by decide) (ctX6_bestDye hw z1) (fun h1 hm1 => ctX7_bestDye hm1 z1 a) b c
theorem st_undo {l : Launch} {G : GM} {h : List va_E} {n : Nat} (H : HZ G h n) (hn : n ≤ 1000) : St l G mX6_undo mX7_undo [] h n := by
  obtain ⟨w, m, hw, hm, hR⟩ := H
  obtain ⟨a, b, c⟩ := hp_undo hR
  exact st_mm hm (by decide) (by decide) (ctX6_undo hw) (fun h1 hm1 => ctX7_undo hm1 a) b c
theorem st_writePlant {l : Launch} {G : GM} {h : List va_E} {n : Nat} (H : HZ G h n) (hn : n ≤ 1000) : St l G mX6_writePlant mX7_writePlant [] h n := by
  obtain ⟨w, m, hw, hm, hR⟩ := H
  exact st_wp hw hm hR
theorem st_outputByte {l : Launch} {G : GM} {h : List va_E} {n : Nat} (H : HZ G h n) (hn : n ≤ 1000) (z1 : Int32) : St l G mX6_outputByte mX7_outputByte [.int z1] h n := by
  obtain ⟨w, m, hw, hm, hR⟩ := H
  exact st_ob hw hm hR z1
theorem st_ifTolerance {l : Launch} {G : GM} {h : List va_E} {n : Nat} (H : HZ G h n) (hn : n ≤ 1000) (z1 z2 : Int32) : St l G mX6_ifTolerance mX7_ifTolerance [.int z1, .int z2] h n := by
  obtain ⟨w, m, hw, hm, hR⟩ := H
  obtain ⟨a, b, c⟩ := hp_ifTolerance hn hR z1 z2
  exact st_mm hm (by decide) (by decide) (ctX6_ifTolerance hw z1 z2) (fun h1 hm1 => ctX7_ifTolerance hm1 z1 z2 a) b c
theorem st_worstPair {l : Launch} {G : GM} {h : List va_E} {n : Nat} (H : HZ G h n) (hn : n ≤ 1000) : St l G mX6_worstPair mX7_worstPair [] h n := by
  obtain ⟨w, m, hw, hm, hR⟩ := H
  obtain ⟨a, b, c⟩ := hp_worstPair hn hR
  exact st_mm hm (by decide) (by decide) (ctX6_worstPair hw) (fun h1 hm1 => ctX7_worstPair hm1 a) b c
theorem st_ofYarn {l : Launch} {G : GM} {h : List va_E} {n : Nat} (H : HZ G h n) (hn : n ≤ 1000) (z1 : Int32) : St l G mX6_ofYarn mX7_ofYarn [.int z1] h n := by
  obtain ⟨w, m, hw, hm, hR⟩ := H
  obtain ⟨_, _, _, _, _, hP, -⟩ := id hR
  obtain ⟨a, b⟩ := hq_ofYarn hP z1
  exact st_pp hw hm (by decide) (by decide) (ctX6_ofYarn hw z1) (ctX7_ofYarn hm z1 a) b hR
theorem st_daysToSize {l : Launch} {G : GM} {h : List va_E} {n : Nat} (H : HZ G h n) (hn : n ≤ 1000) (z1 z2 : Int32) : St l G mX6_daysToSize mX7_daysToSize [.int z1, .int z2] h n := by
  obtain ⟨w, m, hw, hm, hR⟩ := H
  obtain ⟨a, b, c⟩ := hp_daysToSize hR z1 z2
  exact st_mm hm (by decide) (by decide) (ctX6_daysToSize hw z1 z2) (fun h1 hm1 => ctX7_daysToSize hm1 z1 z2 a) b c
theorem st_shapeFor {l : Launch} {G : GM} {h : List va_E} {n : Nat} (H : HZ G h n) (hn : n ≤ 1000) (z1 z2 : Int32) : St l G mX6_shapeFor mX7_shapeFor [.int z1, .int z2] h n := by
  obtain ⟨w, m, hw, hm, hR⟩ := H
  obtain ⟨_, _, _, _, _, hP, -⟩ := id hR
  obtain ⟨a, b⟩ := hq_shapeFor hP z1 z2
  exact st_pp hw hm (by decide) (by decide) (ctX6_shapeFor hw z1 z2) (ctX7_shapeFor hm z1 z2 a) b hR
