/-! The model as one world. -/
abbrev mq21 : String × Nat × String × List Int32 := ("HosieryPlantModel", 282, "tolerance", [116, 111, 108, 101, 114, 97, 110, 99, 101])
abbrev mq22 : String × Nat × String × List Int32 := ("HosieryPlantModel", 284, "steam", [115, 116, 101, 97, 109])
abbrev mq23 : String × Nat × String × List Int32 := ("HosieryPlantModel", 286, "box", [98, 111, 120])
abbrev mq24 : String × Nat × String × List Int32 := ("HosieryPlantModel", 288, "yarn", [121, 97, 114, 110])
abbrev mq25 : String × Nat × String × List Int32 := ("HosieryPlantModel", 290, "shape", [115, 104, 97, 112, 101])
abbrev mq26 : String × Nat × String × List Int32 := ("HosieryPlantModel", 292, "size", [115, 105, 122, 101])
abbrev mq27 : String × Nat × String × List Int32 := ("HosieryPlantModel", 293, "piece", [112, 105, 101, 99, 101])
abbrev mq28 : String × Nat × String × List Int32 := ("HosieryPlantModel", 272, "plain", [112, 108, 97, 105, 110])
abbrev mq29 : String × Nat × String × List Int32 := ("HosieryPlantModel", 278, "ribbed", [114, 105, 98, 98, 101, 100])
abbrev mq30 : String × Nat × String × List Int32 := ("HosieryPlantModel", 280, "lace", [108, 97, 99, 101])
abbrev mq31 : String × Nat × String × List Int32 := ("HosieryPlantModel", 298, "times", [116, 105, 109, 101, 115])
abbrev mq32 : String × Nat × String × List Int32 := ("HosieryPlantModel", 387, " plain", [32, 112, 108, 97, 105, 110])
abbrev mq33 : String × Nat × String × List Int32 := ("HosieryPlantModel", 389, " ribbed", [32, 114, 105, 98, 98, 101, 100])
abbrev mq34 : String × Nat × String × List Int32 := ("HosieryPlantModel", 391, " lace", [32, 108, 97, 99, 101])
theorem bnd_p {α : Type} {x r : α} {k : α → Prop} (h : x = r) (h2 : bnd x k) : k r := by subst h; exact h2
theorem ifp {α : Type} {c : Prop} [Decidable c] {a b y : α} (h : c) (t : a = y) : (if c then a else b) = y := (if_pos h).trans t
theorem ifn {α : Type} {c : Prop} [Decidable c] {a b y : α} (h : ¬ c) (t : b = y) : (if c then a else b) = y := (if_neg h).trans t
/-- numbers, rows (0 plant, 1 draft, 2 copy, 3 worth, 4 match, 5 partners, 6 history, 7 input, 8 output), which of the first three is now -/
abbrev Md : Type := (Nat → Int32) × (Nat → Nat → Int32) × Nat
def mS (m : Md) (k : Nat) (v : Int32) : Md := (fun q => if q = k then v else m.1 q, m.2)
def mA (m : Md) (k : Nat) (f : Nat → Int32) : Md := (m.1, fun q => if q = k then f else m.2.1 q, m.2.2)
def mN (m : Md) (k : Nat) : Md := (m.1, m.2.1, k)

section HMS
variable {G : GM} {K : Nat → Option va_E} {h : List va_E} {m : Md}
theorem hm_nw {m : Md} (hn : m.2.2 ≤ 2) : m.2.2 = 0 ∨ m.2.2 = 1 ∨ m.2.2 = 2 := by omega
end HMS
section LDW
variable {l : Launch} {G : GM} {M : MD} {d k u pc : Nat} {lv lv' : List (Nat × Value)} {rest : List Value} {h : List va_E} {Q : Option Value → List va_E → Prop}
theorem am_ldcwS {index j : Nat} {tx : String} {bs : List Int32} (hd : decode M.2.1 pc = .ok (.ldc_w index, 3)) (hj : strTab[j]? = some (M.1.cls, index, tx, bs)) (k1 : Tr l G M d k u (pc + 3) lv (.ref (gS G j) :: rest) h Q) : Tr l G M d k u pc lv rest h Q := by
  intro p e R s m args below meth c H locs cells slots mc ms ls F
  have k2 := k1 p e R s m args below meth c H locs cells slots mc ms ls F
  have hZ := (F.2.2.2.2.2.2.2.1 j _ hj).1
  have hb := F.1.2.1
  intro T hT X
  obtain ⟨t, a1, b1⟩ := k2 T hT X
  exact ⟨t, X.ldcStringW F.1.1 F.1.2.2.2.1 (text := tx) (a := gS G j) hZ.1 hZ.2 (g := F0 m pc ls rest) rfl (by rw [hb]; exact hd) t a1, b1⟩
end LDW

