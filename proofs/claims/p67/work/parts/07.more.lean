/-! Math.max, min, abs; System.arraycopy between int rows; small facts on lists and ints. -/
section TRE
variable {l : Launch} {G : GM} {M : MD} {d k u pc idx : Nat} {lv : List (Nat × Value)} {rest : List Value} {h : List va_E} {Q : Option Value → List va_E → Prop}
def imx (x y : Int32) : Int32 := if x < y then y else x
def imn (x y : Int32) : Int32 := if y < x then y else x
def iab (x : Int32) : Int32 := if 0 ≤ x then x else 0 - x
theorem kMa1 : Cond.static Lib.Math.max.name ∈ lw_g ∧ Cond.initialized "java/lang/Math" ∈ lw_g ∧ Cond.code Lib.Math.max.name Lib.Math.max.code 2 (some .int) ∈ lw_g := ⟨(lw_k3 131 (by decide +kernel) (by decide +kernel)), (lw_k1 13 (by decide +kernel) (by decide +kernel)), (lw_k3 132 (by decide +kernel) (by decide +kernel))⟩
theorem kMi1 : Cond.static Lib.Math.min.name ∈ lw_g ∧ Cond.initialized "java/lang/Math" ∈ lw_g ∧ Cond.code Lib.Math.min.name Lib.Math.min.code 2 (some .int) ∈ lw_g := ⟨(lw_k2 123 (by decide +kernel) (by decide +kernel)), (lw_k1 13 (by decide +kernel) (by decide +kernel)), (lw_k2 124 (by decide +kernel) (by decide +kernel))⟩
theorem kAb1 : Cond.static Lib.Math.abs.name ∈ lw_g ∧ Cond.initialized "java/lang/Math" ∈ lw_g ∧ Cond.code Lib.Math.abs.name Lib.Math.abs.code 1 (some .int) ∈ lw_g := ⟨(lw_k3 175 (by decide +kernel) (by decide +kernel)), (lw_k1 13 (by decide +kernel) (by decide +kernel)), (lw_k3 176 (by decide +kernel) (by decide +kernel))⟩
theorem am_mmax {x y : Int32} (hd : decode M.2.1 pc = .ok (.invokestatic idx, 3)) (hl : Cond.methodLink M.1.cls idx Lib.Math.max.name ∈ lw_g) (hw : (rest.map fun v => v.category).sum ≤ 8) (hd1 : 1 ≤ d) (k1 : Tr l G M d k u (pc + 3) lv (.int (imx x y) :: rest) h Q) : Tr l G M d k u pc lv (.int y :: .int x :: rest) h Q := by
  intro p e R s m args below meth c H locs cells slots mc ms ls F
  have hts : ∀ w ∈ lw_g, w.before args s = true := fun w hw => F.1.2.2.2.2 w (List.mem_cons_of_mem _ hw)
  obtain ⟨r1, r2, r3, r4, r5, r6⟩ := F.2.2.1
  exact va_mmax F.1.1 F.1.2.1 (F.1.2.2.1.trans F.2.2.2.1.1.symm) F.1.2.2.2.1 (hts _ hl) (hts _ kMa1.1) (hts _ kMa1.2.1) (hts _ kMa1.2.2) (by omega) (by omega) (by omega) (by omega) hd (k1 p e R s m args below meth c H locs cells slots mc ms ls F)
theorem am_mmin {x y : Int32} (hd : decode M.2.1 pc = .ok (.invokestatic idx, 3)) (hl : Cond.methodLink M.1.cls idx Lib.Math.min.name ∈ lw_g) (hw : (rest.map fun v => v.category).sum ≤ 8) (hd1 : 1 ≤ d) (k1 : Tr l G M d k u (pc + 3) lv (.int (imn x y) :: rest) h Q) : Tr l G M d k u pc lv (.int y :: .int x :: rest) h Q := by
  intro p e R s m args below meth c H locs cells slots mc ms ls F
  have hts : ∀ w ∈ lw_g, w.before args s = true := fun w hw => F.1.2.2.2.2 w (List.mem_cons_of_mem _ hw)
  obtain ⟨r1, r2, r3, r4, r5, r6⟩ := F.2.2.1
  exact va_mmin F.1.1 F.1.2.1 (F.1.2.2.1.trans F.2.2.2.1.1.symm) F.1.2.2.2.1 (hts _ hl) (hts _ kMi1.1) (hts _ kMi1.2.1) (hts _ kMi1.2.2) (by omega) (by omega) (by omega) (by omega) hd (k1 p e R s m args below meth c H locs cells slots mc ms ls F)
theorem am_mabs {x : Int32} (hd : decode M.2.1 pc = .ok (.invokestatic idx, 3)) (hl : Cond.methodLink M.1.cls idx Lib.Math.abs.name ∈ lw_g) (hw : (rest.map fun v => v.category).sum ≤ 8) (hd1 : 1 ≤ d) (k1 : Tr l G M d k u (pc + 3) lv (.int (iab x) :: rest) h Q) : Tr l G M d k u pc lv (.int x :: rest) h Q := by
  intro p e R s m args below meth c H locs cells slots mc ms ls F
  have hts : ∀ w ∈ lw_g, w.before args s = true := fun w hw => F.1.2.2.2.2 w (List.mem_cons_of_mem _ hw)
  obtain ⟨r1, r2, r3, r4, r5, r6⟩ := F.2.2.1
  exact va_mabs F.1.1 F.1.2.1 (F.1.2.2.1.trans F.2.2.2.1.1.symm) F.1.2.2.2.1 (hts _ hl) (hts _ kAb1.1) (hts _ kAb1.2.1) (hts _ kAb1.2.2) (by omega) (by omega) (by omega) (by omega) hd (k1 p e R s m args below meth c H locs cells slots mc ms ls F)
theorem kAc1 : Cond.native arraycopyName ∈ lw_g ∧ Cond.static arraycopyName ∈ lw_g ∧ Cond.initialized "java/lang/System" ∈ lw_g := ⟨(lw_k3 60 (by decide +kernel) (by decide +kernel)), (lw_k3 59 (by decide +kernel) (by decide +kernel)), (lw_k1 15 (by decide +kernel) (by decide +kernel))⟩
theorem i32nn {z : Int32} (hz : ¬ z < 0) : z.toInt = (z.toNatClampNeg : Int) := by
  have hz0 : (0 : Int) ≤ z.toInt := by
    have := Int32.not_lt.mp hz
    simpa using Int32.le_iff_toInt_le.mp this
  show z.toInt = ((z.toInt.toNat : Nat) : Int)
  omega
theorem am_copyi {i j n0 n1 : Nat} {f g : Nat → Int32} {sp dp n : Int32} (hd : decode M.2.1 pc = .ok (.invokestatic idx, 3)) (hl : Cond.methodLink M.1.cls idx arraycopyName ∈ lw_g) (hi : h[i]? = some (.inl (0, n0, .inl f))) (hj : h[j]? = some (.inl (0, n1, .inl g))) (a1 : ¬ sp < 0) (a2 : ¬ dp < 0) (a3 : ¬ n < 0) (a4 : sp.toNatClampNeg + n.toNatClampNeg ≤ n0) (a5 : dp.toNatClampNeg + n.toNatClampNeg ≤ n1) (hw : (rest.map fun v => v.category).sum ≤ 8) (hd1 : 1 ≤ d)
    (k1 : Tr l G M d k u (pc + 3) lv rest (h.set j (.inl (0, n1, .inl (va_cpy f g sp.toNatClampNeg dp.toNatClampNeg n.toNatClampNeg)))) Q) : Tr l G M d k u pc lv (.int n :: .int dp :: .ref (gz G + j) :: .int sp :: .ref (gz G + i) :: rest) h Q := by
  intro p e R s m args below meth c H locs cells slots mc ms ls F
  have F0' := F
  obtain ⟨⟨hx, hb, hml, hown, hts0⟩, hM, ⟨r1, r2, r3, r4, r5, r6⟩, hls, hR, hK, hS, hC⟩ := F
  have hts : ∀ w ∈ lw_g, w.before args s = true := fun w hw => hts0 w (List.mem_cons_of_mem _ hw)
  have hc0 : H[gz G + i]? = some (vp_cell (gc G 0) (n0, .inl f)) := hR.1 i _ (wz_i (G := G) hi)
  have hc1 : H[gz G + j]? = some (vp_cell (gc G 0) (n1, .inl g)) := hR.1 j _ (wz_i (G := G) hj)
  obtain ⟨-, k0, hk0, cm0, hkk0⟩ := (hK.2 0 _ rfl).1 n0 (fun j => .int (f j))
  intro T hT X
  have hNW : nativeFrameWords "java/lang/System" "arraycopy" 5 + 11 ≤ 32 := by decide
  obtain ⟨vm', X', step⟩ := X.arraycopy hx hown (hts _ hl) (hts _ kAc1.1) (hts _ kAc1.2.1) (hts _ kAc1.2.2) (src := gz G + i) (dst := gz G + j) (cs := vp_cell (gc G 0) (n0, .inl f)) (cd := vp_cell (gc G 0) (n1, .inl g)) (srcPos := sp) (destPos := dp) (n := n) (by rw [hT]; exact hc0) (by rw [hT]; exact hc1)
    (fun _ h => by cases h) (fun _ h => by cases h) (fun h => by cases h) (fun h => by cases h) hk0 hk0 hkk0 hkk0 rfl a1 a2 a3
    (by rw [i32nn a1, i32nn a3]; show ¬ _ > ((arrV (gc G 0) n0 (fun j => .int (f j))).slots.size : Int); rw [arrV_size]; omega)
    (by rw [i32nn a2, i32nn a3]; show ¬ _ > ((arrV (gc G 0) n1 (fun j => .int (g j))).slots.size : Int); rw [arrV_size]; omega)
    (fun vm₁ _ i hi => by
      have e : (vp_cell (gc G 0) (n0, .inl f)).slots.getD (sp.toNatClampNeg + i) .null = .int (f (sp.toNatClampNeg + i)) := by
        show (arrV (gc G 0) n0 (fun j => .int (f j))).slots.getD _ _ = _
        rw [Array.getD_eq_getD_getElem?, arrV_read _ _ (by omega)]
        rfl
      refine ⟨?_, ?_⟩
      · rw [e]
        rfl
      · rw [e]
        exact trivial)
    (g := F0 m pc ls (.int n :: .int dp :: .ref (gz G + j) :: .int sp :: .ref (gz G + i) :: rest)) rfl (by rw [hml]; exact hls.1) (rest := rest) rfl (by rw [hb]; exact hd) (by omega) (by show 2 * 0 + _ + _ ≤ _; omega)
  have e1 : copied (vp_cell (gc G 0) (n0, .inl f)) (vp_cell (gc G 0) (n1, .inl g)) sp dp n = vp_cell (gc G 0) (n1, .inl (va_cpy f g sp.toNatClampNeg dp.toNatClampNeg n.toNatClampNeg)) := va_copied (fun z => .int z) (gc G 0) (gc G 0) f g a4
  rw [e1] at X' step
  have hlt : gz G + j < H.size := (Array.getElem?_eq_some_iff.mp hc1).1
  have hheap : ((T.setVm vm').setCell (gz G + j) (vp_cell (gc G 0) (n1, .inl (va_cpy f g sp.toNatClampNeg dp.toNatClampNeg n.toNatClampNeg)))).heap = H.setIfInBounds (gz G + j) (vp_cell (gc G 0) (n1, .inl (va_cpy f g sp.toNatClampNeg dp.toNatClampNeg n.toNatClampNeg))) := by rw [← hT]; rfl
  have oq : ∀ q : Nat, q ≠ gz G + j → (H.setIfInBounds (gz G + j) (vp_cell (gc G 0) (n1, .inl (va_cpy f g sp.toNatClampNeg dp.toNatClampNeg n.toNatClampNeg))))[q]? = H[q]? := fun q hq => by simp [Array.getElem?_setIfInBounds, Ne.symm hq]
  have hS' : ∀ L : List Loc, (∀ q ∈ L, q.base = gz G + j) → va_S (gA G) s.heap (H.setIfInBounds (gz G + j) (vp_cell (gc G 0) (n1, .inl (va_cpy f g sp.toNatClampNeg dp.toNatClampNeg n.toNatClampNeg)))) (locs ++ L) := fun L hL => ⟨by simp; exact hS.1, fun q g1 g2 => by
      rw [oq q (fun e => g2 (by rw [e]; exact Nat.le_add_right _ _))]
      exact hS.2.1 q g1 g2, fun q hq => by
      rcases List.mem_append.mp hq with h | h
      · exact hS.2.2 q h
      · rw [hL q h]
        exact Nat.le_add_right _ _⟩
  have hR' : Rep G (h.set j (.inl (0, n1, .inl (va_cpy f g sp.toNatClampNeg dp.toNatClampNeg n.toNatClampNeg)))) (H.setIfInBounds (gz G + j) (vp_cell (gc G 0) (n1, .inl (va_cpy f g sp.toNatClampNeg dp.toNatClampNeg n.toNatClampNeg)))) := hR.put hj (show (H.setIfInBounds (gz G + j) _)[gz G + j]? = some _ by simp [Array.getElem?_setIfInBounds, hlt]) (by simp) oq
  obtain ⟨t, b1, b2⟩ := k1 p e R s m args below meth c _ _ cells slots mc ms ls ⟨⟨hx, hb, hml, hown, hts0⟩, hM, ⟨r1, r2, r3, r4, r5, r6⟩, hls, hR', hK, hS' _ (fun q hq => by obtain ⟨z, -, hz⟩ := List.mem_map.mp hq; rw [← hz]), hC⟩ _ hheap X'
  exact ⟨t, step t b1, b2⟩
theorem hs_self {h : List va_E} {a : Nat} {c0 c1 : va_E} (h0 : h[a]? = some c0) : (h.set a c1)[a]? = some c1 := by
  have hl := (List.getElem?_eq_some_iff.mp h0).1
  simp [hl]
theorem hs_ne {h : List va_E} {a b : Nat} {c1 : va_E} {x : Option va_E} (hb : h[b]? = x) (hne : a ≠ b) : (h.set a c1)[b]? = x := by
  rw [List.getElem?_set_ne hne]; exact hb
theorem vp_in2 {x : Int32} {n : Nat} (h1 : ¬ x < 0) (h2 : ¬ nI n ≤ x) (hn : n < 2147483648) : vp_in x n := by
  rcases pk_ix x (n := n) (by omega) with h | h | ⟨j, hj, rfl⟩
  · exact absurd h h1
  · exact absurd h h2
  · exact vp_in_nI hj (by omega)
/-- the cells outside some places stay -/
def Fr (S : Nat → Prop) (h h1 : List va_E) : Prop := h1.length = h.length ∧ ∀ a : Nat, ¬ S a → h1[a]? = h[a]?
theorem Fr.rf {S : Nat → Prop} {h : List va_E} : Fr S h h := ⟨rfl, fun _ _ => rfl⟩
theorem Fr.set {S : Nat → Prop} {h h1 : List va_E} {a : Nat} {c : va_E} (hF : Fr S h h1) (ha : S a) : Fr S h (h1.set a c) :=
  ⟨by rw [List.length_set]; exact hF.1, fun q hq => by rw [List.getElem?_set_ne (fun e => hq (by rw [← e]; exact ha))]; exact hF.2 q hq⟩
theorem Fr.trans {S S1 : Nat → Prop} {h h1 h2 : List va_E} (hF : Fr S h h1) (hG : Fr S1 h1 h2) (hS : ∀ a, S1 a → S a) : Fr S h h2 :=
  ⟨hG.1.trans hF.1, fun q hq => (hG.2 q (fun z => hq (hS q z))).trans (hF.2 q hq)⟩
end TRE
theorem kOi : Cond.instanceMethod objectInit ∈ lw_g ∧ Cond.code objectInit ⟨#[0xb1]⟩ 1 none ∈ lw_g := ⟨(lw_k1 25 (by decide +kernel) (by decide +kernel)), (lw_k1 26 (by decide +kernel) (by decide +kernel))⟩
