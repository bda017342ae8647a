/-! The class as one world: its numbers, rows, plants; what the heap is at it. -/
abbrev sq0 : String × Nat × String × List Int32 := ("HosieryPlant$Parser", 54, "tolerance", [116, 111, 108, 101, 114, 97, 110, 99, 101])
abbrev sq1 : String × Nat × String × List Int32 := ("HosieryPlant$Parser", 63, "steam", [115, 116, 101, 97, 109])
abbrev sq2 : String × Nat × String × List Int32 := ("HosieryPlant$Parser", 68, "box", [98, 111, 120])
abbrev sq3 : String × Nat × String × List Int32 := ("HosieryPlant$Parser", 73, "yarn", [121, 97, 114, 110])
abbrev sq4 : String × Nat × String × List Int32 := ("HosieryPlant$Parser", 83, "shape", [115, 104, 97, 112, 101])
abbrev sq5 : String × Nat × String × List Int32 := ("HosieryPlant$Parser", 88, "size", [115, 105, 122, 101])
abbrev sq6 : String × Nat × String × List Int32 := ("HosieryPlant$Parser", 93, "piece", [112, 105, 101, 99, 101])
abbrev sq7 : String × Nat × String × List Int32 := ("HosieryPlant$Parser", 219, "plain", [112, 108, 97, 105, 110])
abbrev sq8 : String × Nat × String × List Int32 := ("HosieryPlant$Parser", 215, "ribbed", [114, 105, 98, 98, 101, 100])
abbrev sq9 : String × Nat × String × List Int32 := ("HosieryPlant$Parser", 217, "lace", [108, 97, 99, 101])
abbrev sq10 : String × Nat × String × List Int32 := ("HosieryPlant$Parser", 181, "times", [116, 105, 109, 101, 115])
abbrev sq11 : String × Nat × String × List Int32 := ("HosieryPlant", 292, "tolerance", [116, 111, 108, 101, 114, 97, 110, 99, 101])
abbrev sq12 : String × Nat × String × List Int32 := ("HosieryPlant", 304, "steam", [115, 116, 101, 97, 109])
abbrev sq13 : String × Nat × String × List Int32 := ("HosieryPlant", 306, "box", [98, 111, 120])
abbrev sq14 : String × Nat × String × List Int32 := ("HosieryPlant", 351, "yarn", [121, 97, 114, 110])
abbrev sq15 : String × Nat × String × List Int32 := ("HosieryPlant", 359, "shape", [115, 104, 97, 112, 101])
abbrev sq16 : String × Nat × String × List Int32 := ("HosieryPlant", 364, "size", [115, 105, 122, 101])
abbrev sq17 : String × Nat × String × List Int32 := ("HosieryPlant", 314, "piece", [112, 105, 101, 99, 101])
abbrev sq18 : String × Nat × String × List Int32 := ("HosieryPlant", 372, "plain", [112, 108, 97, 105, 110])
abbrev sq19 : String × Nat × String × List Int32 := ("HosieryPlant", 374, "ribbed", [114, 105, 98, 98, 101, 100])
abbrev sq20 : String × Nat × String × List Int32 := ("HosieryPlant", 376, "lace", [108, 97, 99, 101])
abbrev sq21 : String × Nat × String × List Int32 := ("HosieryPlantLaw", 45, "tolerance ", [116, 111, 108, 101, 114, 97, 110, 99, 101, 32])
abbrev sq22 : String × Nat × String × List Int32 := ("HosieryPlantLaw", 53, " ", [32])
abbrev sq23 : String × Nat × String × List Int32 := ("HosieryPlantLaw", 55, ";steam ", [59, 115, 116, 101, 97, 109, 32])
abbrev sq24 : String × Nat × String × List Int32 := ("HosieryPlantLaw", 60, ";box ", [59, 98, 111, 120, 32])
abbrev sq25 : String × Nat × String × List Int32 := ("HosieryPlantLaw", 62, ";", [59])
abbrev sq26 : String × Nat × String × List Int32 := ("HosieryPlantLaw", 71, "yarn y", [121, 97, 114, 110, 32, 121])
abbrev sq27 : String × Nat × String × List Int32 := ("HosieryPlantLaw", 86, "shape s", [115, 104, 97, 112, 101, 32, 115])
abbrev sq28 : String × Nat × String × List Int32 := ("HosieryPlantLaw", 91, "size small 500 ", [115, 105, 122, 101, 32, 115, 109, 97, 108, 108, 32, 53, 48, 48, 32])
abbrev sq29 : String × Nat × String × List Int32 := ("HosieryPlantLaw", 93, ";size large ", [59, 115, 105, 122, 101, 32, 108, 97, 114, 103, 101, 32])
abbrev sq30 : String × Nat × String × List Int32 := ("HosieryPlantLaw", 95, " 9999;", [32, 57, 57, 57, 57, 59])
abbrev sq31 : String × Nat × String × List Int32 := ("HosieryPlantLaw", 100, "piece y", [112, 105, 101, 99, 101, 32, 121])
abbrev sq32 : String × Nat × String × List Int32 := ("HosieryPlantLaw", 164, "tolerance 30 6;steam 60;box 2;", [116, 111, 108, 101, 114, 97, 110, 99, 101, 32, 51, 48, 32, 54, 59, 115, 116, 101, 97, 109, 32, 54, 48, 59, 98, 111, 120, 32, 50, 59])
abbrev sq33 : String × Nat × String × List Int32 := ("HosieryPlantLaw", 173, "sa", [115, 97])
abbrev sq34 : String × Nat × String × List Int32 := ("HosieryPlantLaw", 178, "large", [108, 97, 114, 103, 101])
abbrev sq35 : String × Nat × String × List Int32 := ("HosieryPlantLaw", 180, "ya", [121, 97])
abbrev sq36 : String × Nat × String × List Int32 := ("HosieryPlantLaw", 182, "zz", [122, 122])
abbrev sq37 : String × Nat × String × List Int32 := ("HosieryPlantLaw", 252, "yarn y 20 5;", [121, 97, 114, 110, 32, 121, 32, 50, 48, 32, 53, 59])
abbrev sq38 : String × Nat × String × List Int32 := ("HosieryPlantLaw", 254, "tolerance 501 1;", [116, 111, 108, 101, 114, 97, 110, 99, 101, 32, 53, 48, 49, 32, 49, 59])
abbrev sq39 : String × Nat × String × List Int32 := ("HosieryPlantLaw", 260, "steam 5;steam 5;", [115, 116, 101, 97, 109, 32, 53, 59, 115, 116, 101, 97, 109, 32, 53, 59])
abbrev sq40 : String × Nat × String × List Int32 := ("HosieryPlantLaw", 262, "box 0;", [98, 111, 120, 32, 48, 59])
abbrev sq41 : String × Nat × String × List Int32 := ("HosieryPlantLaw", 264, "yarn lace 5 5;", [121, 97, 114, 110, 32, 108, 97, 99, 101, 32, 53, 32, 53, 59])
abbrev sq42 : String × Nat × String × List Int32 := ("HosieryPlantLaw", 266, "yarn z 0 5;", [121, 97, 114, 110, 32, 122, 32, 48, 32, 53, 59])
abbrev sq43 : String × Nat × String × List Int32 := ("HosieryPlantLaw", 268, "shape s 499;", [115, 104, 97, 112, 101, 32, 115, 32, 52, 57, 57, 59])
abbrev sq44 : String × Nat × String × List Int32 := ("HosieryPlantLaw", 270, "size s 600 599;", [115, 105, 122, 101, 32, 115, 32, 54, 48, 48, 32, 53, 57, 57, 59])
abbrev sq45 : String × Nat × String × List Int32 := ("HosieryPlantLaw", 272, "piece z plain 600 5;", [112, 105, 101, 99, 101, 32, 122, 32, 112, 108, 97, 105, 110, 32, 54, 48, 48, 32, 53, 59])
abbrev sq46 : String × Nat × String × List Int32 := ("HosieryPlantLaw", 274, "piece y wool 600 5;", [112, 105, 101, 99, 101, 32, 121, 32, 119, 111, 111, 108, 32, 54, 48, 48, 32, 53, 59])
abbrev sq47 : String × Nat × String × List Int32 := ("HosieryPlantLaw", 276, "piece y lace 600 256;", [112, 105, 101, 99, 101, 32, 121, 32, 108, 97, 99, 101, 32, 54, 48, 48, 32, 50, 53, 54, 59])
abbrev sq48 : String × Nat × String × List Int32 := ("HosieryPlantLaw", 278, "piece y lace 600 5 times 15;", [112, 105, 101, 99, 101, 32, 121, 32, 108, 97, 99, 101, 32, 54, 48, 48, 32, 53, 32, 116, 105, 109, 101, 115, 32, 49, 53, 59])
abbrev sq49 : String × Nat × String × List Int32 := ("HosieryPlantLaw", 280, "piece y lace 600 5 times 8;piece y lace 600 5 times 7;", [112, 105, 101, 99, 101, 32, 121, 32, 108, 97, 99, 101, 32, 54, 48, 48, 32, 53, 32, 116, 105, 109, 101, 115, 32, 56, 59, 112, 105, 101, 99, 101, 32, 121, 32, 108, 97, 99, 101, 32, 54, 48, 48, 32, 53, 32, 116, 105, 109, 101, 115, 32, 55, 59])
abbrev sq50 : String × Nat × String × List Int32 := ("HosieryPlantLaw", 282, "piece y lace 600 5 times 14;piece y lace 600 5;", [112, 105, 101, 99, 101, 32, 121, 32, 108, 97, 99, 101, 32, 54, 48, 48, 32, 53, 32, 116, 105, 109, 101, 115, 32, 49, 52, 59, 112, 105, 101, 99, 101, 32, 121, 32, 108, 97, 99, 101, 32, 54, 48, 48, 32, 53, 59])
abbrev sq51 : String × Nat × String × List Int32 := ("HosieryPlantLaw", 284, "shape s 600", [115, 104, 97, 112, 101, 32, 115, 32, 54, 48, 48])
abbrev sq52 : String × Nat × String × List Int32 := ("HosieryPlantLaw", 286, "colour 5;", [99, 111, 108, 111, 117, 114, 32, 53, 59])
abbrev sq53 : String × Nat × String × List Int32 := ("HosieryPlantLaw", 288, "plain", [112, 108, 97, 105, 110])
abbrev sq54 : String × Nat × String × List Int32 := ("HosieryPlantLaw", 290, "ribbed", [114, 105, 98, 98, 101, 100])
abbrev sq55 : String × Nat × String × List Int32 := ("HosieryPlantLaw", 292, "lace", [108, 97, 99, 101])
/-- numbers, rows, plants (0 draft, 1 plant, 2 trial, 3.. kept), kept worths, round, the text's row: place, length, bytes -/
abbrev Wd : Type := (Nat → Int32) × (Nat → Nat → Int32) × (Nat → Pl) × (Nat → Int64) × Int64 × (Nat × Nat × (Nat → Int32))
def wS (w : Wd) (k : Nat) (v : Int32) : Wd := (fun q => if q = k then v else w.1 q, w.2)
def wA (w : Wd) (k : Nat) (f : Nat → Int32) : Wd := (w.1, fun q => if q = k then f else w.2.1 q, w.2.2)
def wP (w : Wd) (k : Nat) (p : Pl) : Wd := (w.1, w.2.1, fun q => if q = k then p else w.2.2.1 q, w.2.2.2)
def wK (w : Wd) (f : Nat → Int64) : Wd := (w.1, w.2.1, w.2.2.1, f, w.2.2.2.2)
def wR (w : Wd) (v : Int64) : Wd := (w.1, w.2.1, w.2.2.1, w.2.2.2.1, v, w.2.2.2.2.2)
def wB (w : Wd) (b : Nat × Nat × (Nat → Int32)) : Wd := (w.1, w.2.1, w.2.2.1, w.2.2.2.1, w.2.2.2.2.1, b)
def pb (i : Nat) : Nat := 3 + 16 * i + 2 * min 1 i + 2 * min 1 (i / 3)
/-- the plants that are kept -/
def kpf (z : Nat) : Nat → Option Nat := fun i => if i < 10 then some (z + (55 + 16 * i)) else none
def HW (G : GM) (K : Nat → Option va_E) (h : List va_E) (w : Wd) : Prop :=
  (∀ i, i < 13 → PlantAt G h (pb i) (w.2.2.1 i)) ∧
  (h[0]? = some (.inr (7, [.ref (gz G + 2), .int (w.1 0), .ref (gz G + 19), .ref (gz G + 1), .ref (gz G + 21), .ref (gz G + 37), .ref (gz G + 53), .ref (gz G + 215), .ref (gz G + 219)])) ∧
   h[2]? = some (.inl (0, 1200, .inl (w.2.1 0))) ∧
   h[19]? = some (.inr (0, [.ref (gz G + w.2.2.2.2.2.1), .int 0, .int (w.1 17), .int (w.1 16)])) ∧
   h[1]? = some (.inr (5, [.ref (gz G + 3), .int (w.1 1), .int (w.1 2), .ref (gz G + 2), .int (w.1 3), .int (w.1 4), .int (w.1 5), .int (w.1 6), .int (w.1 7), .int (w.1 8), .int (w.1 9), .int (w.1 10)])) ∧
   h[53]? = some (.inr (2, [.int (w.1 11), .int (w.1 12), .ref (gz G + 54)])) ∧
   h[54]? = some (.inl (3, 10, .inr (.inr (.inr (.inr (kpf (gz G))))))) ∧
   h[215]? = some (.inr (3, [.ref (gz G + 216), .ref (gz G + 217), .ref (gz G + 218), .long w.2.2.2.2.1])) ∧
   h[216]? = some (.inl (0, 14, .inl (w.2.1 1))) ∧
   h[217]? = some (.inl (0, 196, .inl (w.2.1 2))) ∧
   h[218]? = some (.inl (2, 8192, .inr (.inl w.2.2.2.1))) ∧
   h[219]? = some (.inr (4, [.int (w.1 13), .int (w.1 14), .int (w.1 15), .ref (gz G + 220)])) ∧
   h[220]? = some (.inl (0, 14, .inl (w.2.1 3)))) ∧
  (h[w.2.2.2.2.2.1]? = some (.inl (1, w.2.2.2.2.2.2.1, .inl w.2.2.2.2.2.2.2)) ∧ (w.2.2.2.2.2.1 = 20 ∨ (221 ≤ w.2.2.2.2.2.1 ∧ K w.2.2.2.2.2.1 = none)) ∧ 16 ≤ w.2.2.2.2.2.2.1 ∧ w.2.2.2.2.2.2.1 ≤ 4096) ∧
  ((∀ a c, 221 ≤ a → K a = some c → h[a]? = some c) ∧ 221 ≤ h.length)
section HWS
variable {G : GM} {K : Nat → Option va_E} {h : List va_E} {w : Wd}
theorem hwc0 (hw : HW G K h w) : h[0]? = some (.inr (7, [.ref (gz G + 2), .int (w.1 0), .ref (gz G + 19), .ref (gz G + 1), .ref (gz G + 21), .ref (gz G + 37), .ref (gz G + 53), .ref (gz G + 215), .ref (gz G + 219)])) := hw.2.1.1
theorem hwc2 (hw : HW G K h w) : h[2]? = some (.inl (0, 1200, .inl (w.2.1 0))) := hw.2.1.2.1
theorem hwc19 (hw : HW G K h w) : h[19]? = some (.inr (0, [.ref (gz G + w.2.2.2.2.2.1), .int 0, .int (w.1 17), .int (w.1 16)])) := hw.2.1.2.2.1
theorem hwc1 (hw : HW G K h w) : h[1]? = some (.inr (5, [.ref (gz G + 3), .int (w.1 1), .int (w.1 2), .ref (gz G + 2), .int (w.1 3), .int (w.1 4), .int (w.1 5), .int (w.1 6), .int (w.1 7), .int (w.1 8), .int (w.1 9), .int (w.1 10)])) := hw.2.1.2.2.2.1
theorem hwc53 (hw : HW G K h w) : h[53]? = some (.inr (2, [.int (w.1 11), .int (w.1 12), .ref (gz G + 54)])) := hw.2.1.2.2.2.2.1
theorem hwc54 (hw : HW G K h w) : h[54]? = some (.inl (3, 10, .inr (.inr (.inr (.inr (kpf (gz G))))))) := hw.2.1.2.2.2.2.2.1
theorem hwc215 (hw : HW G K h w) : h[215]? = some (.inr (3, [.ref (gz G + 216), .ref (gz G + 217), .ref (gz G + 218), .long w.2.2.2.2.1])) := hw.2.1.2.2.2.2.2.2.1
theorem hwc216 (hw : HW G K h w) : h[216]? = some (.inl (0, 14, .inl (w.2.1 1))) := hw.2.1.2.2.2.2.2.2.2.1
theorem hwc217 (hw : HW G K h w) : h[217]? = some (.inl (0, 196, .inl (w.2.1 2))) := hw.2.1.2.2.2.2.2.2.2.2.1
theorem hwc218 (hw : HW G K h w) : h[218]? = some (.inl (2, 8192, .inr (.inl w.2.2.2.1))) := hw.2.1.2.2.2.2.2.2.2.2.2.1
theorem hwc219 (hw : HW G K h w) : h[219]? = some (.inr (4, [.int (w.1 13), .int (w.1 14), .int (w.1 15), .ref (gz G + 220)])) := hw.2.1.2.2.2.2.2.2.2.2.2.2.1
theorem hwc220 (hw : HW G K h w) : h[220]? = some (.inl (0, 14, .inl (w.2.1 3))) := hw.2.1.2.2.2.2.2.2.2.2.2.2.2
theorem hwB (hw : HW G K h w) : h[w.2.2.2.2.2.1]? = some (.inl (1, w.2.2.2.2.2.2.1, .inl w.2.2.2.2.2.2.2)) := hw.2.2.1.1
theorem hwP0 (hw : HW G K h w) : PlantAt G h 3 (w.2.2.1 0) := hw.1 0 (by decide)
theorem hwP1 (hw : HW G K h w) : PlantAt G h 21 (w.2.2.1 1) := hw.1 1 (by decide)
theorem hwP2 (hw : HW G K h w) : PlantAt G h 37 (w.2.2.1 2) := hw.1 2 (by decide)
theorem hw_eq {w2 : Wd} (e : w = w2) (hw : HW G K h w) : HW G K h w2 := e ▸ hw
theorem pb_lo (i : Nat) : 3 ≤ pb i := by unfold pb; omega
theorem pb_hi {i : Nat} (hi : i < 13) : pb i + 16 ≤ 215 := by unfold pb; omega
theorem hwS0 (hw : HW G K h w) (v : Int32) : HW G K (h.set 0 (.inr (7, [.ref (gz G + 2), .int v, .ref (gz G + 19), .ref (gz G + 1), .ref (gz G + 21), .ref (gz G + 37), .ref (gz G + 53), .ref (gz G + 215), .ref (gz G + 219)]))) (wS w 0 v) := by
  obtain ⟨hp, ⟨c0, c2, c19, c1, c53, c54, c215, c216, c217, c218, c219, c220⟩, ⟨b1, b2, b3, b4⟩, kk, kl⟩ := hw
  have z : 0 ≠ w.2.2.2.2.2.1 := by omega
  refine ⟨fun i hi => (hp i hi).keep (by unfold pb; omega), ⟨hs_self c0, hs_ne c2 (by decide), hs_ne c19 (by decide), hs_ne c1 (by decide), hs_ne c53 (by decide), hs_ne c54 (by decide), hs_ne c215 (by decide), hs_ne c216 (by decide), hs_ne c217 (by decide), hs_ne c218 (by decide), hs_ne c219 (by decide), hs_ne c220 (by decide)⟩, ⟨hs_ne b1 z, b2, b3, b4⟩, fun a c h1 h2 => hs_ne (kk a c h1 h2) (by omega), by rw [List.length_set]; exact kl⟩
theorem hwA0 (hw : HW G K h w) (f : Nat → Int32) : HW G K (h.set 2 (.inl (0, 1200, .inl f))) (wA w 0 f) := by
  obtain ⟨hp, ⟨c0, c2, c19, c1, c53, c54, c215, c216, c217, c218, c219, c220⟩, ⟨b1, b2, b3, b4⟩, kk, kl⟩ := hw
  have z : 2 ≠ w.2.2.2.2.2.1 := by omega
  refine ⟨fun i hi => (hp i hi).keep (by unfold pb; omega), ⟨hs_ne c0 (by decide), hs_self c2, hs_ne c19 (by decide), hs_ne c1 (by decide), hs_ne c53 (by decide), hs_ne c54 (by decide), hs_ne c215 (by decide), hs_ne c216 (by decide), hs_ne c217 (by decide), hs_ne c218 (by decide), hs_ne c219 (by decide), hs_ne c220 (by decide)⟩, ⟨hs_ne b1 z, b2, b3, b4⟩, fun a c h1 h2 => hs_ne (kk a c h1 h2) (by omega), by rw [List.length_set]; exact kl⟩
theorem hwS17 (hw : HW G K h w) (v : Int32) : HW G K (h.set 19 (.inr (0, [.ref (gz G + w.2.2.2.2.2.1), .int 0, .int v, .int (w.1 16)]))) (wS w 17 v) := by
  obtain ⟨hp, ⟨c0, c2, c19, c1, c53, c54, c215, c216, c217, c218, c219, c220⟩, ⟨b1, b2, b3, b4⟩, kk, kl⟩ := hw
  have z : 19 ≠ w.2.2.2.2.2.1 := by omega
  refine ⟨fun i hi => (hp i hi).keep (by unfold pb; omega), ⟨hs_ne c0 (by decide), hs_ne c2 (by decide), hs_self c19, hs_ne c1 (by decide), hs_ne c53 (by decide), hs_ne c54 (by decide), hs_ne c215 (by decide), hs_ne c216 (by decide), hs_ne c217 (by decide), hs_ne c218 (by decide), hs_ne c219 (by decide), hs_ne c220 (by decide)⟩, ⟨hs_ne b1 z, b2, b3, b4⟩, fun a c h1 h2 => hs_ne (kk a c h1 h2) (by omega), by rw [List.length_set]; exact kl⟩
theorem hwS16 (hw : HW G K h w) (v : Int32) : HW G K (h.set 19 (.inr (0, [.ref (gz G + w.2.2.2.2.2.1), .int 0, .int (w.1 17), .int v]))) (wS w 16 v) := by
  obtain ⟨hp, ⟨c0, c2, c19, c1, c53, c54, c215, c216, c217, c218, c219, c220⟩, ⟨b1, b2, b3, b4⟩, kk, kl⟩ := hw
  have z : 19 ≠ w.2.2.2.2.2.1 := by omega
  refine ⟨fun i hi => (hp i hi).keep (by unfold pb; omega), ⟨hs_ne c0 (by decide), hs_ne c2 (by decide), hs_self c19, hs_ne c1 (by decide), hs_ne c53 (by decide), hs_ne c54 (by decide), hs_ne c215 (by decide), hs_ne c216 (by decide), hs_ne c217 (by decide), hs_ne c218 (by decide), hs_ne c219 (by decide), hs_ne c220 (by decide)⟩, ⟨hs_ne b1 z, b2, b3, b4⟩, fun a c h1 h2 => hs_ne (kk a c h1 h2) (by omega), by rw [List.length_set]; exact kl⟩
theorem hwS1 (hw : HW G K h w) (v : Int32) : HW G K (h.set 1 (.inr (5, [.ref (gz G + 3), .int v, .int (w.1 2), .ref (gz G + 2), .int (w.1 3), .int (w.1 4), .int (w.1 5), .int (w.1 6), .int (w.1 7), .int (w.1 8), .int (w.1 9), .int (w.1 10)]))) (wS w 1 v) := by
  obtain ⟨hp, ⟨c0, c2, c19, c1, c53, c54, c215, c216, c217, c218, c219, c220⟩, ⟨b1, b2, b3, b4⟩, kk, kl⟩ := hw
  have z : 1 ≠ w.2.2.2.2.2.1 := by omega
  refine ⟨fun i hi => (hp i hi).keep (by unfold pb; omega), ⟨hs_ne c0 (by decide), hs_ne c2 (by decide), hs_ne c19 (by decide), hs_self c1, hs_ne c53 (by decide), hs_ne c54 (by decide), hs_ne c215 (by decide), hs_ne c216 (by decide), hs_ne c217 (by decide), hs_ne c218 (by decide), hs_ne c219 (by decide), hs_ne c220 (by decide)⟩, ⟨hs_ne b1 z, b2, b3, b4⟩, fun a c h1 h2 => hs_ne (kk a c h1 h2) (by omega), by rw [List.length_set]; exact kl⟩
theorem hwS2 (hw : HW G K h w) (v : Int32) : HW G K (h.set 1 (.inr (5, [.ref (gz G + 3), .int (w.1 1), .int v, .ref (gz G + 2), .int (w.1 3), .int (w.1 4), .int (w.1 5), .int (w.1 6), .int (w.1 7), .int (w.1 8), .int (w.1 9), .int (w.1 10)]))) (wS w 2 v) := by
  obtain ⟨hp, ⟨c0, c2, c19, c1, c53, c54, c215, c216, c217, c218, c219, c220⟩, ⟨b1, b2, b3, b4⟩, kk, kl⟩ := hw
  have z : 1 ≠ w.2.2.2.2.2.1 := by omega
  refine ⟨fun i hi => (hp i hi).keep (by unfold pb; omega), ⟨hs_ne c0 (by decide), hs_ne c2 (by decide), hs_ne c19 (by decide), hs_self c1, hs_ne c53 (by decide), hs_ne c54 (by decide), hs_ne c215 (by decide), hs_ne c216 (by decide), hs_ne c217 (by decide), hs_ne c218 (by decide), hs_ne c219 (by decide), hs_ne c220 (by decide)⟩, ⟨hs_ne b1 z, b2, b3, b4⟩, fun a c h1 h2 => hs_ne (kk a c h1 h2) (by omega), by rw [List.length_set]; exact kl⟩
theorem hwS3 (hw : HW G K h w) (v : Int32) : HW G K (h.set 1 (.inr (5, [.ref (gz G + 3), .int (w.1 1), .int (w.1 2), .ref (gz G + 2), .int v, .int (w.1 4), .int (w.1 5), .int (w.1 6), .int (w.1 7), .int (w.1 8), .int (w.1 9), .int (w.1 10)]))) (wS w 3 v) := by
  obtain ⟨hp, ⟨c0, c2, c19, c1, c53, c54, c215, c216, c217, c218, c219, c220⟩, ⟨b1, b2, b3, b4⟩, kk, kl⟩ := hw
  have z : 1 ≠ w.2.2.2.2.2.1 := by omega
  refine ⟨fun i hi => (hp i hi).keep (by unfold pb; omega), ⟨hs_ne c0 (by decide), hs_ne c2 (by decide), hs_ne c19 (by decide), hs_self c1, hs_ne c53 (by decide), hs_ne c54 (by decide), hs_ne c215 (by decide), hs_ne c216 (by decide), hs_ne c217 (by decide), hs_ne c218 (by decide), hs_ne c219 (by decide), hs_ne c220 (by decide)⟩, ⟨hs_ne b1 z, b2, b3, b4⟩, fun a c h1 h2 => hs_ne (kk a c h1 h2) (by omega), by rw [List.length_set]; exact kl⟩
theorem hwS4 (hw : HW G K h w) (v : Int32) : HW G K (h.set 1 (.inr (5, [.ref (gz G + 3), .int (w.1 1), .int (w.1 2), .ref (gz G + 2), .int (w.1 3), .int v, .int (w.1 5), .int (w.1 6), .int (w.1 7), .int (w.1 8), .int (w.1 9), .int (w.1 10)]))) (wS w 4 v) := by
  obtain ⟨hp, ⟨c0, c2, c19, c1, c53, c54, c215, c216, c217, c218, c219, c220⟩, ⟨b1, b2, b3, b4⟩, kk, kl⟩ := hw
  have z : 1 ≠ w.2.2.2.2.2.1 := by omega
  refine ⟨fun i hi => (hp i hi).keep (by unfold pb; omega), ⟨hs_ne c0 (by decide), hs_ne c2 (by decide), hs_ne c19 (by decide), hs_self c1, hs_ne c53 (by decide), hs_ne c54 (by decide), hs_ne c215 (by decide), hs_ne c216 (by decide), hs_ne c217 (by decide), hs_ne c218 (by decide), hs_ne c219 (by decide), hs_ne c220 (by decide)⟩, ⟨hs_ne b1 z, b2, b3, b4⟩, fun a c h1 h2 => hs_ne (kk a c h1 h2) (by omega), by rw [List.length_set]; exact kl⟩
theorem hwS5 (hw : HW G K h w) (v : Int32) : HW G K (h.set 1 (.inr (5, [.ref (gz G + 3), .int (w.1 1), .int (w.1 2), .ref (gz G + 2), .int (w.1 3), .int (w.1 4), .int v, .int (w.1 6), .int (w.1 7), .int (w.1 8), .int (w.1 9), .int (w.1 10)]))) (wS w 5 v) := by
  obtain ⟨hp, ⟨c0, c2, c19, c1, c53, c54, c215, c216, c217, c218, c219, c220⟩, ⟨b1, b2, b3, b4⟩, kk, kl⟩ := hw
  have z : 1 ≠ w.2.2.2.2.2.1 := by omega
  refine ⟨fun i hi => (hp i hi).keep (by unfold pb; omega), ⟨hs_ne c0 (by decide), hs_ne c2 (by decide), hs_ne c19 (by decide), hs_self c1, hs_ne c53 (by decide), hs_ne c54 (by decide), hs_ne c215 (by decide), hs_ne c216 (by decide), hs_ne c217 (by decide), hs_ne c218 (by decide), hs_ne c219 (by decide), hs_ne c220 (by decide)⟩, ⟨hs_ne b1 z, b2, b3, b4⟩, fun a c h1 h2 => hs_ne (kk a c h1 h2) (by omega), by rw [List.length_set]; exact kl⟩
theorem hwS6 (hw : HW G K h w) (v : Int32) : HW G K (h.set 1 (.inr (5, [.ref (gz G + 3), .int (w.1 1), .int (w.1 2), .ref (gz G + 2), .int (w.1 3), .int (w.1 4), .int (w.1 5), .int v, .int (w.1 7), .int (w.1 8), .int (w.1 9), .int (w.1 10)]))) (wS w 6 v) := by
  obtain ⟨hp, ⟨c0, c2, c19, c1, c53, c54, c215, c216, c217, c218, c219, c220⟩, ⟨b1, b2, b3, b4⟩, kk, kl⟩ := hw
  have z : 1 ≠ w.2.2.2.2.2.1 := by omega
  refine ⟨fun i hi => (hp i hi).keep (by unfold pb; omega), ⟨hs_ne c0 (by decide), hs_ne c2 (by decide), hs_ne c19 (by decide), hs_self c1, hs_ne c53 (by decide), hs_ne c54 (by decide), hs_ne c215 (by decide), hs_ne c216 (by decide), hs_ne c217 (by decide), hs_ne c218 (by decide), hs_ne c219 (by decide), hs_ne c220 (by decide)⟩, ⟨hs_ne b1 z, b2, b3, b4⟩, fun a c h1 h2 => hs_ne (kk a c h1 h2) (by omega), by rw [List.length_set]; exact kl⟩
theorem hwS7 (hw : HW G K h w) (v : Int32) : HW G K (h.set 1 (.inr (5, [.ref (gz G + 3), .int (w.1 1), .int (w.1 2), .ref (gz G + 2), .int (w.1 3), .int (w.1 4), .int (w.1 5), .int (w.1 6), .int v, .int (w.1 8), .int (w.1 9), .int (w.1 10)]))) (wS w 7 v) := by
  obtain ⟨hp, ⟨c0, c2, c19, c1, c53, c54, c215, c216, c217, c218, c219, c220⟩, ⟨b1, b2, b3, b4⟩, kk, kl⟩ := hw
  have z : 1 ≠ w.2.2.2.2.2.1 := by omega
  refine ⟨fun i hi => (hp i hi).keep (by unfold pb; omega), ⟨hs_ne c0 (by decide), hs_ne c2 (by decide), hs_ne c19 (by decide), hs_self c1, hs_ne c53 (by decide), hs_ne c54 (by decide), hs_ne c215 (by decide), hs_ne c216 (by decide), hs_ne c217 (by decide), hs_ne c218 (by decide), hs_ne c219 (by decide), hs_ne c220 (by decide)⟩, ⟨hs_ne b1 z, b2, b3, b4⟩, fun a c h1 h2 => hs_ne (kk a c h1 h2) (by omega), by rw [List.length_set]; exact kl⟩
theorem hwS8 (hw : HW G K h w) (v : Int32) : HW G K (h.set 1 (.inr (5, [.ref (gz G + 3), .int (w.1 1), .int (w.1 2), .ref (gz G + 2), .int (w.1 3), .int (w.1 4), .int (w.1 5), .int (w.1 6), .int (w.1 7), .int v, .int (w.1 9), .int (w.1 10)]))) (wS w 8 v) := by
  obtain ⟨hp, ⟨c0, c2, c19, c1, c53, c54, c215, c216, c217, c218, c219, c220⟩, ⟨b1, b2, b3, b4⟩, kk, kl⟩ := hw
  have z : 1 ≠ w.2.2.2.2.2.1 := by omega
  refine ⟨fun i hi => (hp i hi).keep (by unfold pb; omega), ⟨hs_ne c0 (by decide), hs_ne c2 (by decide), hs_ne c19 (by decide), hs_self c1, hs_ne c53 (by decide), hs_ne c54 (by decide), hs_ne c215 (by decide), hs_ne c216 (by decide), hs_ne c217 (by decide), hs_ne c218 (by decide), hs_ne c219 (by decide), hs_ne c220 (by decide)⟩, ⟨hs_ne b1 z, b2, b3, b4⟩, fun a c h1 h2 => hs_ne (kk a c h1 h2) (by omega), by rw [List.length_set]; exact kl⟩
theorem hwS9 (hw : HW G K h w) (v : Int32) : HW G K (h.set 1 (.inr (5, [.ref (gz G + 3), .int (w.1 1), .int (w.1 2), .ref (gz G + 2), .int (w.1 3), .int (w.1 4), .int (w.1 5), .int (w.1 6), .int (w.1 7), .int (w.1 8), .int v, .int (w.1 10)]))) (wS w 9 v) := by
  obtain ⟨hp, ⟨c0, c2, c19, c1, c53, c54, c215, c216, c217, c218, c219, c220⟩, ⟨b1, b2, b3, b4⟩, kk, kl⟩ := hw
  have z : 1 ≠ w.2.2.2.2.2.1 := by omega
  refine ⟨fun i hi => (hp i hi).keep (by unfold pb; omega), ⟨hs_ne c0 (by decide), hs_ne c2 (by decide), hs_ne c19 (by decide), hs_self c1, hs_ne c53 (by decide), hs_ne c54 (by decide), hs_ne c215 (by decide), hs_ne c216 (by decide), hs_ne c217 (by decide), hs_ne c218 (by decide), hs_ne c219 (by decide), hs_ne c220 (by decide)⟩, ⟨hs_ne b1 z, b2, b3, b4⟩, fun a c h1 h2 => hs_ne (kk a c h1 h2) (by omega), by rw [List.length_set]; exact kl⟩
theorem hwS10 (hw : HW G K h w) (v : Int32) : HW G K (h.set 1 (.inr (5, [.ref (gz G + 3), .int (w.1 1), .int (w.1 2), .ref (gz G + 2), .int (w.1 3), .int (w.1 4), .int (w.1 5), .int (w.1 6), .int (w.1 7), .int (w.1 8), .int (w.1 9), .int v]))) (wS w 10 v) := by
  obtain ⟨hp, ⟨c0, c2, c19, c1, c53, c54, c215, c216, c217, c218, c219, c220⟩, ⟨b1, b2, b3, b4⟩, kk, kl⟩ := hw
  have z : 1 ≠ w.2.2.2.2.2.1 := by omega
  refine ⟨fun i hi => (hp i hi).keep (by unfold pb; omega), ⟨hs_ne c0 (by decide), hs_ne c2 (by decide), hs_ne c19 (by decide), hs_self c1, hs_ne c53 (by decide), hs_ne c54 (by decide), hs_ne c215 (by decide), hs_ne c216 (by decide), hs_ne c217 (by decide), hs_ne c218 (by decide), hs_ne c219 (by decide), hs_ne c220 (by decide)⟩, ⟨hs_ne b1 z, b2, b3, b4⟩, fun a c h1 h2 => hs_ne (kk a c h1 h2) (by omega), by rw [List.length_set]; exact kl⟩
theorem hwS11 (hw : HW G K h w) (v : Int32) : HW G K (h.set 53 (.inr (2, [.int v, .int (w.1 12), .ref (gz G + 54)]))) (wS w 11 v) := by
  obtain ⟨hp, ⟨c0, c2, c19, c1, c53, c54, c215, c216, c217, c218, c219, c220⟩, ⟨b1, b2, b3, b4⟩, kk, kl⟩ := hw
  have z : 53 ≠ w.2.2.2.2.2.1 := by omega
  refine ⟨fun i hi => (hp i hi).keep (by unfold pb; omega), ⟨hs_ne c0 (by decide), hs_ne c2 (by decide), hs_ne c19 (by decide), hs_ne c1 (by decide), hs_self c53, hs_ne c54 (by decide), hs_ne c215 (by decide), hs_ne c216 (by decide), hs_ne c217 (by decide), hs_ne c218 (by decide), hs_ne c219 (by decide), hs_ne c220 (by decide)⟩, ⟨hs_ne b1 z, b2, b3, b4⟩, fun a c h1 h2 => hs_ne (kk a c h1 h2) (by omega), by rw [List.length_set]; exact kl⟩
theorem hwS12 (hw : HW G K h w) (v : Int32) : HW G K (h.set 53 (.inr (2, [.int (w.1 11), .int v, .ref (gz G + 54)]))) (wS w 12 v) := by
  obtain ⟨hp, ⟨c0, c2, c19, c1, c53, c54, c215, c216, c217, c218, c219, c220⟩, ⟨b1, b2, b3, b4⟩, kk, kl⟩ := hw
  have z : 53 ≠ w.2.2.2.2.2.1 := by omega
  refine ⟨fun i hi => (hp i hi).keep (by unfold pb; omega), ⟨hs_ne c0 (by decide), hs_ne c2 (by decide), hs_ne c19 (by decide), hs_ne c1 (by decide), hs_self c53, hs_ne c54 (by decide), hs_ne c215 (by decide), hs_ne c216 (by decide), hs_ne c217 (by decide), hs_ne c218 (by decide), hs_ne c219 (by decide), hs_ne c220 (by decide)⟩, ⟨hs_ne b1 z, b2, b3, b4⟩, fun a c h1 h2 => hs_ne (kk a c h1 h2) (by omega), by rw [List.length_set]; exact kl⟩
theorem hwR (hw : HW G K h w) (v : Int64) : HW G K (h.set 215 (.inr (3, [.ref (gz G + 216), .ref (gz G + 217), .ref (gz G + 218), .long v]))) (wR w v) := by
  obtain ⟨hp, ⟨c0, c2, c19, c1, c53, c54, c215, c216, c217, c218, c219, c220⟩, ⟨b1, b2, b3, b4⟩, kk, kl⟩ := hw
  have z : 215 ≠ w.2.2.2.2.2.1 := by omega
  refine ⟨fun i hi => (hp i hi).keep (by unfold pb; omega), ⟨hs_ne c0 (by decide), hs_ne c2 (by decide), hs_ne c19 (by decide), hs_ne c1 (by decide), hs_ne c53 (by decide), hs_ne c54 (by decide), hs_self c215, hs_ne c216 (by decide), hs_ne c217 (by decide), hs_ne c218 (by decide), hs_ne c219 (by decide), hs_ne c220 (by decide)⟩, ⟨hs_ne b1 z, b2, b3, b4⟩, fun a c h1 h2 => hs_ne (kk a c h1 h2) (by omega), by rw [List.length_set]; exact kl⟩
theorem hwA1 (hw : HW G K h w) (f : Nat → Int32) : HW G K (h.set 216 (.inl (0, 14, .inl f))) (wA w 1 f) := by
  obtain ⟨hp, ⟨c0, c2, c19, c1, c53, c54, c215, c216, c217, c218, c219, c220⟩, ⟨b1, b2, b3, b4⟩, kk, kl⟩ := hw
  have z : 216 ≠ w.2.2.2.2.2.1 := by omega
  refine ⟨fun i hi => (hp i hi).keep (by unfold pb; omega), ⟨hs_ne c0 (by decide), hs_ne c2 (by decide), hs_ne c19 (by decide), hs_ne c1 (by decide), hs_ne c53 (by decide), hs_ne c54 (by decide), hs_ne c215 (by decide), hs_self c216, hs_ne c217 (by decide), hs_ne c218 (by decide), hs_ne c219 (by decide), hs_ne c220 (by decide)⟩, ⟨hs_ne b1 z, b2, b3, b4⟩, fun a c h1 h2 => hs_ne (kk a c h1 h2) (by omega), by rw [List.length_set]; exact kl⟩
theorem hwA2 (hw : HW G K h w) (f : Nat → Int32) : HW G K (h.set 217 (.inl (0, 196, .inl f))) (wA w 2 f) := by
  obtain ⟨hp, ⟨c0, c2, c19, c1, c53, c54, c215, c216, c217, c218, c219, c220⟩, ⟨b1, b2, b3, b4⟩, kk, kl⟩ := hw
  have z : 217 ≠ w.2.2.2.2.2.1 := by omega
  refine ⟨fun i hi => (hp i hi).keep (by unfold pb; omega), ⟨hs_ne c0 (by decide), hs_ne c2 (by decide), hs_ne c19 (by decide), hs_ne c1 (by decide), hs_ne c53 (by decide), hs_ne c54 (by decide), hs_ne c215 (by decide), hs_ne c216 (by decide), hs_self c217, hs_ne c218 (by decide), hs_ne c219 (by decide), hs_ne c220 (by decide)⟩, ⟨hs_ne b1 z, b2, b3, b4⟩, fun a c h1 h2 => hs_ne (kk a c h1 h2) (by omega), by rw [List.length_set]; exact kl⟩
theorem hwK (hw : HW G K h w) (f : Nat → Int64) : HW G K (h.set 218 (.inl (2, 8192, .inr (.inl f)))) (wK w f) := by
  obtain ⟨hp, ⟨c0, c2, c19, c1, c53, c54, c215, c216, c217, c218, c219, c220⟩, ⟨b1, b2, b3, b4⟩, kk, kl⟩ := hw
  have z : 218 ≠ w.2.2.2.2.2.1 := by omega
  refine ⟨fun i hi => (hp i hi).keep (by unfold pb; omega), ⟨hs_ne c0 (by decide), hs_ne c2 (by decide), hs_ne c19 (by decide), hs_ne c1 (by decide), hs_ne c53 (by decide), hs_ne c54 (by decide), hs_ne c215 (by decide), hs_ne c216 (by decide), hs_ne c217 (by decide), hs_self c218, hs_ne c219 (by decide), hs_ne c220 (by decide)⟩, ⟨hs_ne b1 z, b2, b3, b4⟩, fun a c h1 h2 => hs_ne (kk a c h1 h2) (by omega), by rw [List.length_set]; exact kl⟩
theorem hwS13 (hw : HW G K h w) (v : Int32) : HW G K (h.set 219 (.inr (4, [.int v, .int (w.1 14), .int (w.1 15), .ref (gz G + 220)]))) (wS w 13 v) := by
  obtain ⟨hp, ⟨c0, c2, c19, c1, c53, c54, c215, c216, c217, c218, c219, c220⟩, ⟨b1, b2, b3, b4⟩, kk, kl⟩ := hw
  have z : 219 ≠ w.2.2.2.2.2.1 := by omega
  refine ⟨fun i hi => (hp i hi).keep (by unfold pb; omega), ⟨hs_ne c0 (by decide), hs_ne c2 (by decide), hs_ne c19 (by decide), hs_ne c1 (by decide), hs_ne c53 (by decide), hs_ne c54 (by decide), hs_ne c215 (by decide), hs_ne c216 (by decide), hs_ne c217 (by decide), hs_ne c218 (by decide), hs_self c219, hs_ne c220 (by decide)⟩, ⟨hs_ne b1 z, b2, b3, b4⟩, fun a c h1 h2 => hs_ne (kk a c h1 h2) (by omega), by rw [List.length_set]; exact kl⟩
theorem hwS14 (hw : HW G K h w) (v : Int32) : HW G K (h.set 219 (.inr (4, [.int (w.1 13), .int v, .int (w.1 15), .ref (gz G + 220)]))) (wS w 14 v) := by
  obtain ⟨hp, ⟨c0, c2, c19, c1, c53, c54, c215, c216, c217, c218, c219, c220⟩, ⟨b1, b2, b3, b4⟩, kk, kl⟩ := hw
  have z : 219 ≠ w.2.2.2.2.2.1 := by omega
  refine ⟨fun i hi => (hp i hi).keep (by unfold pb; omega), ⟨hs_ne c0 (by decide), hs_ne c2 (by decide), hs_ne c19 (by decide), hs_ne c1 (by decide), hs_ne c53 (by decide), hs_ne c54 (by decide), hs_ne c215 (by decide), hs_ne c216 (by decide), hs_ne c217 (by decide), hs_ne c218 (by decide), hs_self c219, hs_ne c220 (by decide)⟩, ⟨hs_ne b1 z, b2, b3, b4⟩, fun a c h1 h2 => hs_ne (kk a c h1 h2) (by omega), by rw [List.length_set]; exact kl⟩
theorem hwS15 (hw : HW G K h w) (v : Int32) : HW G K (h.set 219 (.inr (4, [.int (w.1 13), .int (w.1 14), .int v, .ref (gz G + 220)]))) (wS w 15 v) := by
  obtain ⟨hp, ⟨c0, c2, c19, c1, c53, c54, c215, c216, c217, c218, c219, c220⟩, ⟨b1, b2, b3, b4⟩, kk, kl⟩ := hw
  have z : 219 ≠ w.2.2.2.2.2.1 := by omega
  refine ⟨fun i hi => (hp i hi).keep (by unfold pb; omega), ⟨hs_ne c0 (by decide), hs_ne c2 (by decide), hs_ne c19 (by decide), hs_ne c1 (by decide), hs_ne c53 (by decide), hs_ne c54 (by decide), hs_ne c215 (by decide), hs_ne c216 (by decide), hs_ne c217 (by decide), hs_ne c218 (by decide), hs_self c219, hs_ne c220 (by decide)⟩, ⟨hs_ne b1 z, b2, b3, b4⟩, fun a c h1 h2 => hs_ne (kk a c h1 h2) (by omega), by rw [List.length_set]; exact kl⟩
theorem hwA3 (hw : HW G K h w) (f : Nat → Int32) : HW G K (h.set 220 (.inl (0, 14, .inl f))) (wA w 3 f) := by
  obtain ⟨hp, ⟨c0, c2, c19, c1, c53, c54, c215, c216, c217, c218, c219, c220⟩, ⟨b1, b2, b3, b4⟩, kk, kl⟩ := hw
  have z : 220 ≠ w.2.2.2.2.2.1 := by omega
  refine ⟨fun i hi => (hp i hi).keep (by unfold pb; omega), ⟨hs_ne c0 (by decide), hs_ne c2 (by decide), hs_ne c19 (by decide), hs_ne c1 (by decide), hs_ne c53 (by decide), hs_ne c54 (by decide), hs_ne c215 (by decide), hs_ne c216 (by decide), hs_ne c217 (by decide), hs_ne c218 (by decide), hs_ne c219 (by decide), hs_self c220⟩, ⟨hs_ne b1 z, b2, b3, b4⟩, fun a c h1 h2 => hs_ne (kk a c h1 h2) (by omega), by rw [List.length_set]; exact kl⟩
theorem hwPu (hw : HW G K h w) {i : Nat} (hi : i < 13) {h1 : List va_E} {p : Pl} {S : Nat → Prop} (hp1 : PlantAt G h1 (pb i) p) (hF : Fr S h h1) (hS : ∀ a, S a → pb i ≤ a ∧ a < pb i + 16 := by exact fun _ z => z) : HW G K h1 (wP w i p) := by
  obtain ⟨hp, ⟨c0, c2, c19, c1, c53, c54, c215, c216, c217, c218, c219, c220⟩, ⟨b1, b2, b3, b4⟩, kk, kl⟩ := hw
  have hb1 := pb_lo i
  have hb2 := pb_hi hi
  have ou : ∀ a, (a < pb i ∨ pb i + 16 ≤ a) → h1[a]? = h[a]? := fun a ha => hF.2 a (fun z => by have := hS a z; omega)
  refine ⟨fun j hj => ?_, ⟨(ou 0 (by unfold pb; omega)).trans c0, (ou 2 (by unfold pb; omega)).trans c2, (ou 19 (by unfold pb; omega)).trans c19, (ou 1 (by unfold pb; omega)).trans c1, (ou 53 (by unfold pb; omega)).trans c53, (ou 54 (by unfold pb; omega)).trans c54, (ou 215 (by unfold pb; omega)).trans c215, (ou 216 (by unfold pb; omega)).trans c216, (ou 217 (by unfold pb; omega)).trans c217, (ou 218 (by unfold pb; omega)).trans c218, (ou 219 (by unfold pb; omega)).trans c219, (ou 220 (by unfold pb; omega)).trans c220⟩, ⟨(ou w.2.2.2.2.2.1 (by unfold pb; omega)).trans b1, b2, b3, b4⟩, fun a c q1 q2 => (ou a (by unfold pb; omega)).trans (kk a c q1 q2), by rw [hF.1]; exact kl⟩
  show PlantAt G h1 (pb j) (if j = i then p else w.2.2.1 j)
  by_cases hji : j = i
  · rw [if_pos hji, hji]; exact hp1
  · rw [if_neg hji]
    exact (hp j hj).fr hF (fun k hk z => by have hz := hS _ z; unfold pb at hz; omega)
end HWS
