/-! An abstract machine over the kit's judgement W: a heap is a list of cells, the cell at place i has the address z + i; a method's run is told by Tr. -/
abbrev GM : Type := Nat × (Nat → ClassId) × va_G × (Nat → Nat) × (Nat → Nat) × ((Nat × Nat × Nat × Nat) × Nat × Nat × (Nat → Int32))
abbrev MD : Type := MethodName × ByteArray × Nat × Option FieldType
def gz (G : GM) : Nat := G.1
def gA (G : GM) : Nat → Prop := fun q => G.1 ≤ q
def gc (G : GM) : Nat → ClassId := G.2.1
def gD (G : GM) : va_G := G.2.2.1
def gS (G : GM) : Nat → Nat := G.2.2.2.1
def gV (G : GM) : Nat → Nat := G.2.2.2.2.1
def gO (G : GM) : Nat := G.2.2.2.2.2.1.1
def gT (G : GM) : Nat := G.2.2.2.2.2.1.2.1
def gF (G : GM) : Value := if G.2.2.2.2.2.1.2.2.1 = 0 then .null else .ref (G.2.2.2.2.2.1.2.2.1 - 1)
def gK (G : GM) : Nat := G.2.2.2.2.2.1.2.2.2
def gB (G : GM) : Nat := G.2.2.2.2.2.2.1
def gL (G : GM) : Nat := G.2.2.2.2.2.2.2.1
def gX (G : GM) : Nat → Int32 := G.2.2.2.2.2.2.2.2
def tyOf (k : Nat) : FieldType := if k = 0 then .int else if k = 1 then .byte else if k = 2 then .long else .object RX5
abbrev tysOf (c : Nat → ClassId) : List (ClassId × FieldType) := [(c 0, .int), (c 1, .byte), (c 2, .long), (c 3, .object RX5)]
def cvE (c : Nat → ClassId) (x : va_E) : va_E := match x with
  | .inl a => .inl (c a.1, a.2)
  | .inr o => .inr o
def wz (c : Nat → ClassId) : Nat → List va_E → va_W
  | _, [] => []
  | z, e :: r => (z, cvE c e) :: wz c (z + 1) r
theorem wz_get (c : Nat → ClassId) : ∀ (h : List va_E) (z i : Nat), (wz c z h)[i]? = (h[i]?).map (fun e => (z + i, cvE c e))
  | [], z, i => by simp [wz]
  | e :: r, z, 0 => by simp [wz]
  | e :: r, z, i + 1 => by
    have ih := wz_get c r (z + 1) i
    simp only [wz, List.getElem?_cons_succ, ih]
    congr 1
    funext x
    rw [Nat.add_right_comm z 1 i, Nat.add_assoc z i 1]
theorem wz_set (c : Nat → ClassId) : ∀ (h : List va_E) (z i : Nat) (e : va_E), wz c z (h.set i e) = (wz c z h).set i (z + i, cvE c e)
  | [], z, i, e => by simp [wz]
  | x :: r, z, 0, e => by simp [wz]
  | x :: r, z, i + 1, e => by
    simp only [wz, List.set_cons_succ, wz_set c r (z + 1) i e]
    rw [show z + 1 + i = z + (i + 1) by omega]
theorem wz_app (c : Nat → ClassId) : ∀ (h : List va_E) (z : Nat) (e : va_E), wz c z (h ++ [e]) = wz c z h ++ [(z + h.length, cvE c e)]
  | [], z, e => by simp [wz]
  | x :: r, z, e => by
    simp only [wz, List.cons_append, wz_app c r (z + 1) e, List.length_cons]
    rw [show z + 1 + r.length = z + (r.length + 1) by omega]
theorem wz_at {c : Nat → ClassId} {h : List va_E} {z k : Nat} {q : Nat × va_E} (hk : (wz c z h)[k]? = some q) : q.1 = z + k ∧ k < h.length := by
  rw [wz_get] at hk
  obtain ⟨e, h1, h2⟩ := Option.map_eq_some_iff.mp hk
  exact ⟨by rw [← h2], (List.getElem?_eq_some_iff.mp h1).1⟩
theorem wz_D {c : Nat → ClassId} {h : List va_E} {z : Nat} : va_D (fun q => z ≤ q) (wz c z h) := by
  refine ⟨fun i j p q hp hq e => ?_, fun k q hk => ?_⟩
  · have h1 := (wz_at hp).1
    have h2 := (wz_at hq).1
    omega
  · have h1 := (wz_at hk).1
    show z ≤ q.1
    omega
/-- the cells -/
def Rep (G : GM) (h : List va_E) (H : Heap) : Prop := va_P (gD G) vwCl (wz (gc G) (gz G) h) H ∧ H.size = gz G + h.length
def KK (G : GM) (U : State) : Prop := va_K (gD G) vwCl (tysOf (gc G)) U
theorem wz_i {G : GM} {h : List va_E} {i : Nat} {e : va_E} (he : h[i]? = some e) : (wz (gc G) (gz G) h)[i]? = some (gz G + i, cvE (gc G) e) := by
  rw [wz_get, he]; rfl
theorem Rep.put {G : GM} {h : List va_E} {H H1 : Heap} {i : Nat} {e0 e : va_E} (hR : Rep G h H) (hi : h[i]? = some e0) (he : va_at (gD G) vwCl (gz G + i, cvE (gc G) e) H1) (hz : H1.size = H.size) (oq : ∀ q : Nat, q ≠ gz G + i → H1[q]? = H[q]?) : Rep G (h.set i e) H1 := by
  refine ⟨?_, ?_⟩
  · rw [wz_set]
    exact hR.1.set (wz_D (z := gz G)) (wz_i hi) he oq
  · rw [hz, hR.2, List.length_set]
theorem Rep.push {G : GM} {h : List va_E} {H H1 : Heap} {e : va_E} (hR : Rep G h H) (he : va_at (gD G) vwCl (H.size, cvE (gc G) e) H1) (hz : H1.size = H.size + 1) (oq : ∀ q : Nat, q < H.size → H1[q]? = H[q]?) : Rep G (h ++ [e]) H1 := by
  refine ⟨?_, ?_⟩
  · rw [wz_app]
    refine (hR.1.kept (fun k q hk => oq q.1 ?_)).app (fun k x hx => ?_)
    · have := wz_at hk
      have := hR.2
      omega
    · have hk : k < 1 := (List.getElem?_eq_some_iff.mp hx).1
      rw [show k = 0 by omega] at hx
      cases hx
      rw [← hR.2]
      exact he
  · rw [hz, hR.2, List.length_append]
    rfl
/-- the String constants: class, entry, text, bytes -/
abbrev strT : Type := List (String × Nat × String × List Int32)
def strTab : strT := [("HosieryPlant$Parser", 54, "tolerance", [116, 111, 108, 101, 114, 97, 110, 99, 101]), ("HosieryPlant$Parser", 63, "steam", [115, 116, 101, 97, 109]), ("HosieryPlant$Parser", 68, "box", [98, 111, 120]), ("HosieryPlant$Parser", 73, "yarn", [121, 97, 114, 110]), ("HosieryPlant$Parser", 83, "shape", [115, 104, 97, 112, 101]), ("HosieryPlant$Parser", 88, "size", [115, 105, 122, 101]), ("HosieryPlant$Parser", 93, "piece", [112, 105, 101, 99, 101]), ("HosieryPlant$Parser", 219, "plain", [112, 108, 97, 105, 110]), ("HosieryPlant$Parser", 215, "ribbed", [114, 105, 98, 98, 101, 100]), ("HosieryPlant$Parser", 217, "lace", [108, 97, 99, 101]), ("HosieryPlant$Parser", 181, "times", [116, 105, 109, 101, 115]), ("HosieryPlant", 292, "tolerance", [116, 111, 108, 101, 114, 97, 110, 99, 101]), ("HosieryPlant", 304, "steam", [115, 116, 101, 97, 109]), ("HosieryPlant", 306, "box", [98, 111, 120]), ("HosieryPlant", 351, "yarn", [121, 97, 114, 110]), ("HosieryPlant", 359, "shape", [115, 104, 97, 112, 101]), ("HosieryPlant", 364, "size", [115, 105, 122, 101]), ("HosieryPlant", 314, "piece", [112, 105, 101, 99, 101]), ("HosieryPlant", 372, "plain", [112, 108, 97, 105, 110]), ("HosieryPlant", 374, "ribbed", [114, 105, 98, 98, 101, 100]), ("HosieryPlant", 376, "lace", [108, 97, 99, 101]), ("HosieryPlantLaw", 45, "tolerance ", [116, 111, 108, 101, 114, 97, 110, 99, 101, 32]), ("HosieryPlantLaw", 53, " ", [32]), ("HosieryPlantLaw", 55, ";steam ", [59, 115, 116, 101, 97, 109, 32]), ("HosieryPlantLaw", 60, ";box ", [59, 98, 111, 120, 32]), ("HosieryPlantLaw", 62, ";", [59]), ("HosieryPlantLaw", 71, "yarn y", [121, 97, 114, 110, 32, 121]), ("HosieryPlantLaw", 86, "shape s", [115, 104, 97, 112, 101, 32, 115]), ("HosieryPlantLaw", 91, "size small 500 ", [115, 105, 122, 101, 32, 115, 109, 97, 108, 108, 32, 53, 48, 48, 32]), ("HosieryPlantLaw", 93, ";size large ", [59, 115, 105, 122, 101, 32, 108, 97, 114, 103, 101, 32]), ("HosieryPlantLaw", 95, " 9999;", [32, 57, 57, 57, 57, 59]), ("HosieryPlantLaw", 100, "piece y", [112, 105, 101, 99, 101, 32, 121]), ("HosieryPlantLaw", 164, "tolerance 30 6;steam 60;box 2;", [116, 111, 108, 101, 114, 97, 110, 99, 101, 32, 51, 48, 32, 54, 59, 115, 116, 101, 97, 109, 32, 54, 48, 59, 98, 111, 120, 32, 50, 59]), ("HosieryPlantLaw", 173, "sa", [115, 97]), ("HosieryPlantLaw", 178, "large", [108, 97, 114, 103, 101]), ("HosieryPlantLaw", 180, "ya", [121, 97]), ("HosieryPlantLaw", 182, "zz", [122, 122]), ("HosieryPlantLaw", 252, "yarn y 20 5;", [121, 97, 114, 110, 32, 121, 32, 50, 48, 32, 53, 59]), ("HosieryPlantLaw", 254, "tolerance 501 1;", [116, 111, 108, 101, 114, 97, 110, 99, 101, 32, 53, 48, 49, 32, 49, 59]), ("HosieryPlantLaw", 260, "steam 5;steam 5;", [115, 116, 101, 97, 109, 32, 53, 59, 115, 116, 101, 97, 109, 32, 53, 59]), ("HosieryPlantLaw", 262, "box 0;", [98, 111, 120, 32, 48, 59]), ("HosieryPlantLaw", 264, "yarn lace 5 5;", [121, 97, 114, 110, 32, 108, 97, 99, 101, 32, 53, 32, 53, 59]), ("HosieryPlantLaw", 266, "yarn z 0 5;", [121, 97, 114, 110, 32, 122, 32, 48, 32, 53, 59]), ("HosieryPlantLaw", 268, "shape s 499;", [115, 104, 97, 112, 101, 32, 115, 32, 52, 57, 57, 59]), ("HosieryPlantLaw", 270, "size s 600 599;", [115, 105, 122, 101, 32, 115, 32, 54, 48, 48, 32, 53, 57, 57, 59]), ("HosieryPlantLaw", 272, "piece z plain 600 5;", [112, 105, 101, 99, 101, 32, 122, 32, 112, 108, 97, 105, 110, 32, 54, 48, 48, 32, 53, 59]), ("HosieryPlantLaw", 274, "piece y wool 600 5;", [112, 105, 101, 99, 101, 32, 121, 32, 119, 111, 111, 108, 32, 54, 48, 48, 32, 53, 59]), ("HosieryPlantLaw", 276, "piece y lace 600 256;", [112, 105, 101, 99, 101, 32, 121, 32, 108, 97, 99, 101, 32, 54, 48, 48, 32, 50, 53, 54, 59]), ("HosieryPlantLaw", 278, "piece y lace 600 5 times 15;", [112, 105, 101, 99, 101, 32, 121, 32, 108, 97, 99, 101, 32, 54, 48, 48, 32, 53, 32, 116, 105, 109, 101, 115, 32, 49, 53, 59]), ("HosieryPlantLaw", 280, "piece y lace 600 5 times 8;piece y lace 600 5 times 7;", [112, 105, 101, 99, 101, 32, 121, 32, 108, 97, 99, 101, 32, 54, 48, 48, 32, 53, 32, 116, 105, 109, 101, 115, 32, 56, 59, 112, 105, 101, 99, 101, 32, 121, 32, 108, 97, 99, 101, 32, 54, 48, 48, 32, 53, 32, 116, 105, 109, 101, 115, 32, 55, 59]), ("HosieryPlantLaw", 282, "piece y lace 600 5 times 14;piece y lace 600 5;", [112, 105, 101, 99, 101, 32, 121, 32, 108, 97, 99, 101, 32, 54, 48, 48, 32, 53, 32, 116, 105, 109, 101, 115, 32, 49, 52, 59, 112, 105, 101, 99, 101, 32, 121, 32, 108, 97, 99, 101, 32, 54, 48, 48, 32, 53, 59]), ("HosieryPlantLaw", 284, "shape s 600", [115, 104, 97, 112, 101, 32, 115, 32, 54, 48, 48]), ("HosieryPlantLaw", 286, "colour 5;", [99, 111, 108, 111, 117, 114, 32, 53, 59]), ("HosieryPlantLaw", 288, "plain", [112, 108, 97, 105, 110]), ("HosieryPlantLaw", 290, "ribbed", [114, 105, 98, 98, 101, 100]), ("HosieryPlantLaw", 292, "lace", [108, 97, 99, 101])]

/-- calls of a private static method of another class of the nest: own class, entry, method, host -/
def nestTab : List (String × Nat × MethodName × String) := [("HosieryPlant$Catalogue", 46, ⟨"HosieryPlant", "copyRow", "([I[I)V"⟩, "HosieryPlant"), ("HosieryPlant$Matching", 36, ⟨"HosieryPlant", "contains", "(II)Z"⟩, "HosieryPlant"), ("HosieryPlant$Matching", 67, ⟨"HosieryPlant", "put", "([III)V"⟩, "HosieryPlant"), ("HosieryPlant$Matching", 71, ⟨"HosieryPlant", "at", "([II)I"⟩, "HosieryPlant"), ("HosieryPlant$Matching", 79, ⟨"HosieryPlant", "lowestOf", "(I)I"⟩, "HosieryPlant"), ("HosieryPlant$Pairing", 22, ⟨"HosieryPlant", "put", "([III)V"⟩, "HosieryPlant"), ("HosieryPlant$Pairing", 26, ⟨"HosieryPlant", "at", "([II)I"⟩, "HosieryPlant"), ("HosieryPlant$Parser", 140, ⟨"HosieryPlant", "put", "([III)V"⟩, "HosieryPlant"), ("HosieryPlant$Parser", 193, ⟨"HosieryPlant", "isBetween", "(III)Z"⟩, "HosieryPlant"), ("HosieryPlant$Parser", 200, ⟨"HosieryPlant", "at", "([II)I"⟩, "HosieryPlant"), ("HosieryPlant$Parser", 204, ⟨"HosieryPlant", "indexOfName", "([III)I"⟩, "HosieryPlant"), ("HosieryPlant$Parser", 212, ⟨"HosieryPlant", "packName", "([III)I"⟩, "HosieryPlant"), ("HosieryPlant$Parser", 234, ⟨"HosieryPlant", "isLetter", "(I)Z"⟩, "HosieryPlant"), ("HosieryPlant$Plant", 71, ⟨"HosieryPlant", "copyRow", "([I[I)V"⟩, "HosieryPlant"), ("HosieryPlant$Plant", 75, ⟨"HosieryPlant", "put", "([III)V"⟩, "HosieryPlant"), ("HosieryPlant$Plant", 79, ⟨"HosieryPlant", "at", "([II)I"⟩, "HosieryPlant")]
/-- the law's row of kinds -/
def KX (G : GM) (U : State) (H : Heap) : Prop := va_Z "HosieryPlantLaw" "KINDS" "[Ljava/lang/String;" (.ref (gK G)) (gA G) U H ∧ va_T (.object "java/lang/String") (gK G) 3 (fun i => .ref (gS G (53 + i))) (gA G) U H ∧ va_Nw (.castable "[B" "java/lang/Cloneable") U
theorem cz_move {s U : State} {a b : String} (hA : s.vm.Alike U.vm) (h : va_Nw (.castable a b) s) : va_Nw (.castable a b) U := by
  simp only [va_Nw, Cond.before, Cond.holds, Cond.value, hA.findClass, hA.assignable] at h ⊢
  exact h
/-- what never changes: String constants, the digits' tables, a few statics, the script -/
def CX (G : GM) (U : State) (H : Heap) : Prop :=
  (∀ (j : Nat) (q : String × Nat × String × List Int32), strTab[j]? = some q → vk_R q.1 q.2.1 q.2.2.1 (gS G j) U ∧ va_O "java/lang/String" (gS G j) (gA G) U H ∧ va_OF "java/lang/String" "coder" "B" (.int 0) (gS G j) (gA G) U H ∧ va_OF "java/lang/String" "value" "[B" (.ref (gV G j)) (gS G j) (gA G) U H ∧ va_T .byte (gV G j) q.2.2.2.length (fun i => .int (q.2.2.2.getD i 0)) (gA G) U H) ∧
  (va_Z "java/lang/String" "COMPACT_STRINGS" "Z" (.int 1) (gA G) U H ∧ va_Z "java/lang/Integer" "DigitOnes" "[B" (.ref (gO G)) (gA G) U H ∧ va_T .byte (gO G) 100 (fun i => .int (48 + Int32.ofNat (i % 10))) (gA G) U H ∧ va_Z "java/lang/Integer" "DigitTens" "[B" (.ref (gT G)) (gA G) U H ∧ va_T .byte (gT G) 100 (fun i => .int (48 + Int32.ofNat (i / 10))) (gA G) U H ∧ va_Z "jdk/internal/util/Preconditions" "SIOOBE_FORMATTER" "Ljava/util/function/BiFunction;" (gF G) (gA G) U H) ∧
  va_X (gB G) (gL G) (gX G) U H ∧ gB G < gz G ∧ (∀ (j : Nat) (q : String × Nat × MethodName × String), nestTab[j]? = some q → va_Nw (.methodLinkNest q.1 q.2.1 q.2.2.1 q.2.2.2) U) ∧ va_AO RX5 U ∧ KX G U H
theorem CX.kept {G : GM} {U : State} {H H1 : Heap} (h : CX G U H) (hq : ∀ a : Nat, a < H.size → ¬ gA G a → H1[a]? = H[a]?) : CX G U H1 := by
  obtain ⟨h1, ⟨h2, h3, h4, h5, h6, h7⟩, h8, h9, h10, h11, h12⟩ := h
  refine ⟨fun j q hj => ?_, ⟨h2.kept hq, h3.kept hq, h4.kept hq, h5.kept hq, h6.kept hq, h7.kept hq⟩, ?_, h9, h10, h11, h12.1.kept hq, h12.2.1.kept hq, h12.2.2⟩
  · obtain ⟨a1, a2, a3, a4, a5⟩ := h1 j q hj
    exact ⟨a1, a2.kept hq, a3.kept hq, a4.kept hq, a5.kept hq⟩
  · obtain ⟨scr, b1, b2⟩ := h8
    exact ⟨scr, by rw [hq _ (Array.getElem?_eq_some_iff.mp b1).1 (by unfold gA; unfold gz at h9; omega)]; exact b1, b2⟩
theorem CX.warm {G : GM} {s U : State} {H : Heap} (hW : s.WarmedH U.vm) (h : CX G s H) : CX G U H := by
  obtain ⟨h1, ⟨h2, h3, h4, h5, h6, h7⟩, h8, h9, h10, h11, h12⟩ := h
  refine ⟨fun j q hj => ?_, ⟨h2.moved hW.alike, h3.moved hW.alike, h4.moved hW.alike, h5.moved hW.alike, h6.moved hW.alike, h7.moved hW.alike⟩, h8.moved hW.alike, h9, fun j q hj => (h10 j q hj).warmM hW, h11.moved hW.alike, h12.1.moved hW.alike, h12.2.1.moved hW.alike, cz_move hW.alike h12.2.2⟩
  obtain ⟨a1, a2, a3, a4, a5⟩ := h1 j q hj
  exact ⟨a1.warm hW, a2.moved hW.alike, a3.moved hW.alike, a4.moved hW.alike, a5.moved hW.alike⟩
theorem CX.same {G : GM} {s U : State} {H : Heap} (hv : U.vm = s.vm) (h : CX G s H) : CX G U H := by
  have hA : s.vm.Alike U.vm := by rw [hv]; exact Vm.Alike.refl s.vm
  obtain ⟨h1, ⟨h2, h3, h4, h5, h6, h7⟩, h8, h9, h10, h11, h12⟩ := h
  refine ⟨fun j q hj => ?_, ⟨h2.moved hA, h3.moved hA, h4.moved hA, h5.moved hA, h6.moved hA, h7.moved hA⟩, h8.moved hA, h9, fun j q hj => (h10 j q hj).same rfl hv.symm, h11.moved hA, h12.1.moved hA, h12.2.1.moved hA, cz_move hA h12.2.2⟩
  obtain ⟨a1, a2, a3, a4, a5⟩ := h1 j q hj
  exact ⟨a1.same hv, a2.moved hA, a3.moved hA, a4.moved hA, a5.moved hA⟩
theorem cz_of {G : GM} {U : State} {H : Heap} {args : Array Value} (h : CX G U H) : (Cond.castable "[B" "java/lang/Cloneable").before args U = true := by
  have h1 := h.2.2.2.2.2.2.2.2
  simp only [va_Nw, Cond.before, Cond.holds, Cond.value] at h1 ⊢
  exact h1
abbrev wsM (M : MD) : List Cond := Cond.code M.1 M.2.1 M.2.2.1 M.2.2.2 :: lw_g
/-- the place where a walk stands -/
def Fx (l : Launch) (G : GM) (M : MD) (d k u : Nat) (lv : List (Nat × Value)) (h : List va_E) (p : Program) (e : Env) (R : Room) (s : State) (m : MethodId) (args : Array Value) (meth : Method) (c : Code) (H : Heap) (locs : List Loc) (cells slots mc ms : Nat) (ls : Array Slot) : Prop :=
  (p.tables.exec = Jvm.exec ∧ c.code = M.2.1 ∧ c.maxLocals = M.2.2.1 ∧ s.vm.findClass M.1.cls = some m.cls ∧ ∀ w ∈ wsM M, w.before args s = true) ∧
  (meth.sig.returnType = M.2.2.2 ∧ meth.locks = false ∧ meth.name = M.1.name) ∧
  (d ≤ R.frames ∧ 40 * d ≤ R.locals ∧ R.cells = mc ∧ R.slots = ms ∧ cells + k ≤ mc ∧ slots + u ≤ ms) ∧
  lv_has ls M.2.2.1 lv ∧ Rep G h H ∧ KK G s ∧ va_S (gA G) s.heap H locs ∧ CX G s s.heap
def QcG (G : GM) (Q : Option Value → List va_E → Prop) : Array Value → State → Outcome → State → Prop := fun _ st oc t => (∃ (v : Option Value) (h1 : List va_E), oc = .returned v ∧ Q v h1 ∧ Rep G h1 t.heap) ∧ va_F (gA G) st t
/-- from this place, with d calls deep left, k cells and u slots to make, the method ends so that Q holds of its answer and of the cells -/
def Tr (l : Launch) (G : GM) (M : MD) (d k u pc : Nat) (lv : List (Nat × Value)) (st : List Value) (h : List va_E) (Q : Option Value → List va_E → Prop) : Prop :=
  ∀ (p : Program) (e : Env) (R : Room) (s : State) (m : MethodId) (args : Array Value) (below : List Frame) (meth : Method) (c : Code) (H : Heap) (locs : List Loc) (cells slots mc ms : Nat) (ls : Array Slot),
    Fx l G M d k u lv h p e R s m args meth c H locs cells slots mc ms ls → W p l e R s m args below meth c H locs cells slots (MQ below (QcG G Q) args s mc ms (gA G)) (F0 m pc ls st)
/-- a method's contract at these arguments -/
def Ct (l : Launch) (G : GM) (M : MD) (d k u : Nat) (As : List Value) (h : List va_E) (Q : Option Value → List va_E → Prop) : Prop := Tr l G M d k u 0 (lv_args 0 As) [] h Q
def PcG (G : GM) (As : List Value) (h : List va_E) : Array Value → State → Prop := va_Pc As (fun U => Rep G h U.heap ∧ KK G U ∧ CX G U U.heap)
theorem PcG.blind {G : GM} {As : List Value} {h : List va_E} : FrameBlind (PcG G As h) := by
  intro a U g mk hq
  obtain ⟨q1, q2, q3, q4⟩ := hq
  exact ⟨q1, q2, va_K.moved (u := U) (U := U.calling g mk a) (Vm.Alike.refl U.vm) q3, CX.same (s := U) (U := U.calling g mk a) rfl q4⟩
theorem met_of {l : Launch} {G : GM} {M : MD} {d k u : Nat} {As : List Value} {h : List va_E} {Q : Option Value → List va_E → Prop} (hc : Ct l G M d k u As h Q) (hy : plainName M.1.cls = true) (hlen : (lg_sl As).length ≤ M.2.2.1) : Met l M.1 (wsM M) ({ frames := d, cells := k, slots := u, locals := 40 * d }) (PcG G As h) (QcG G Q) k u (gA G) := by
  refine Met.ofW (cc := M.2.1) (maxL := M.2.2.1) (ret := M.2.2.2) hy rfl ?_
  intro p e s m args below meth c s₁ B hml hv
  obtain ⟨rfl, hR, hK, hC⟩ := hv
  have hl := lv_entry As hlen
  have h1 := hc p e (headSpec (wsM M) { frames := d, cells := k, slots := u, locals := 40 * d }).room s m As.toArray below meth c s.heap [] 0 0 k u _ ⟨⟨B.exec, B.bytes, hml, findClass_of_methodNamed B.named, atoms_spec (ws := wsM M) B.pre⟩, ⟨B.returns, B.notSynchronized, (name_of_methodNamed B.named B.method).1⟩, ⟨Nat.le_refl _, Nat.le_refl _, rfl, rfl, by omega, by omega⟩, hl, hR, hK, va_S.rf, hC⟩
  rw [lg_entry_eq]
  exact h1
theorem ws_good {M : MD} (hm : Cond.code M.1 M.2.1 M.2.2.1 M.2.2.2 ∈ lw_g) (M1 : MD) : GoodIn (wsM M1) (wsM M) := by
  intro w hw
  have hw2 : w ∈ lw_g := by
    rcases List.mem_cons.mp hw with h | h
    · rw [h]; exact hm
    · exact h
  exact ⟨List.mem_cons_of_mem _ hw2, good_of_word (lw_good hw2)⟩
/-- behind a call -/
theorem am_after {l : Launch} {G : GM} {M : MD} {d k u k2 u2 pc : Nat} {lv : List (Nat × Value)} {h : List va_E} {Q Q2 : Option Value → List va_E → Prop} {st0 rest : List Value} {a2 : Array Value}
    (p : Program) (e : Env) (R : Room) (s : State) (m : MethodId) (args : Array Value) (below : List Frame) (meth : Method) (c : Code) (H : Heap) (locs : List Loc) (cells slots mc ms : Nat) (ls : Array Slot)
    (F : Fx l G M d k u lv h p e R s m args meth c H locs cells slots mc ms ls) (hk2 : k2 ≤ k) (hu2 : u2 ≤ u)
    (hr : va_Run p l e R s m args below meth c H locs cells slots k2 u2 (F0 m pc ls st0) rest (QcG G Q2 a2) (gA G))
    (kk : ∀ (v : Option Value) (h1 : List va_E), Q2 v h1 → Tr l G M d (k - k2) (u - u2) (pc + 3) lv (v.toList ++ rest) h1 Q) :
    W p l e R s m args below meth c H locs cells slots (MQ below (QcG G Q) args s mc ms (gA G)) (F0 m pc ls st0) := by
  obtain ⟨hF, hM, ⟨r1, r2, r3, r4, r5, r6⟩, hl, hR, hK, hS, hC⟩ := F
  intro T hT X
  obtain ⟨v, st₀, t, T', L, h0, X', hL, e1, e2, ⟨⟨v', h', hv, hq, hrep⟩, hz, hkp⟩, st⟩ := hr T hT X
  cases hv
  rw [h0] at hz hkp
  have hS' : va_S (gA G) s.heap T'.heap (locs ++ L) := ⟨Nat.le_trans hS.1 (by rw [e1]; exact hz), fun q h1 h2 => by rw [e1, hkp q (Nat.lt_of_lt_of_le h1 hS.1) h2]; exact hS.2.1 q h1 h2, fun q hq => by
    rcases List.mem_append.mp hq with h | h
    · exact hS.2.2 q h
    · exact hL q h⟩
  obtain ⟨t2, a1, b1⟩ := kk v h' hq p e R s m args below meth c T'.heap (locs ++ L) (cells + k2) (slots + u2) mc ms ls ⟨hF, hM, ⟨r1, r2, r3, r4, by omega, by omega⟩, hl, by rw [e1]; exact hrep, hK, hS', hC⟩ T' rfl X'
  exact ⟨t2, st t2 a1, b1⟩
