/-! Rows that the law and String's methods want: an overridden method, a row's copy, a cast to String, the law's row of kinds; more room than is wanted. -/
section TRE
variable {l : Launch} {G : GM} {M M2 X : MD} {d k u pc d2 k2 u2 n idx : Nat} {lv lv' : List (Nat × Value)} {As rest st1 : List Value} {h : List va_E} {Q Q2 : Option Value → List va_E → Prop}
theorem am_room {st : List Value} {k1 u1 : Nat} (t : Tr l G M d k1 u1 pc lv st h Q) (hk : k1 ≤ k) (hu : u1 ≤ u) : Tr l G M d k u pc lv st h Q := by
  intro p e R s m args below meth c H locs cells slots mc ms ls F
  obtain ⟨hF, hM, ⟨r1, r2, r3, r4, r5, r6⟩, hl, hR, hK, hS, hC⟩ := F
  exact t p e R s m args below meth c H locs cells slots mc ms ls ⟨hF, hM, ⟨r1, r2, r3, r4, by omega, by omega⟩, hl, hR, hK, hS, hC⟩
theorem ct_room {k1 u1 : Nat} (t : Ct l G M d k1 u1 As h Q) (hk : k1 ≤ k) (hu : u1 ≤ u) : Ct l G M d k u As h Q := am_room t hk hu
def okW (own C : String) (idx : Nat) (X M2 : MD) (n : Nat) : Prop := okC M2 n ∧ okC X n ∧ Cond.methodLink own idx X.1 ∈ lw_g ∧ Cond.sameMethod X.1.cls X.1.cls X.1.name X.1.desc ∈ lw_g ∧ Cond.instanceMethod X.1 ∈ lw_g ∧ Cond.selects C X.1 M2.1 ∈ lw_g ∧ Cond.instanceMethod M2.1 ∈ lw_g
theorem am_callW {i ci : Nat} {C : String} {fs : List Value} (hd : decode M.2.1 pc = .ok (.invokevirtual idx, 3)) (hM : okW M.1.cls C idx X M2 n) (hn : As.length = n) (hh : h[i]? = some (.inr (ci, fs))) (hcl : (vwCl[ci]?).map (fun q => q.1) = some C) (hst : st1 = As.reverse ++ .ref (gz G + i) :: rest) (hw : (rest.map fun v => v.category).sum ≤ 8) (hd2 : d2 + 1 ≤ d) (hk2 : k2 ≤ k) (hu2 : u2 ≤ u) (hlen : (lg_sl (.ref (gz G + i) :: As)).length ≤ M2.2.2.1) (hC2 : Ct l G M2 d2 k2 u2 (.ref (gz G + i) :: As) h Q2)
    (kk : ∀ (v : Option Value) (h1 : List va_E), Q2 v h1 → Tr l G M d (k - k2) (u - u2) (pc + 3) lv (v.toList ++ rest) h1 Q) : Tr l G M d k u pc lv st1 h Q := by
  intro p e R s m args below meth c H locs cells slots mc ms ls F
  obtain ⟨⟨m5, m6, m7, m8, m4⟩, ⟨x5, x6, x7, x8, x4⟩, m1, m2, m9, m10, m11⟩ := hM
  have hts : ∀ w ∈ lw_g, w.before args s = true := fun w hw => F.1.2.2.2.2 w (List.mem_cons_of_mem _ hw)
  obtain ⟨r1, r2, r3, r4, r5, r6⟩ := F.2.2.1
  obtain ⟨q, hq1, hq2⟩ := Option.map_eq_some_iff.mp hcl
  have hrv := va_recv F.2.2.2.2.2.1 F.2.2.2.2.1.1 hq1 (wz_i (G := G) hh)
  rw [hq2] at hrv
  subst hst
  have hsel : (Cond.selects C X.1 M2.1).before args s = true := hts _ m10
  exact am_after p e R s m args below meth c H locs cells slots mc ms ls F hk2 hu2 (va_runU (C := C) (owner := X.1.cls) (x := X.1) (y := M2.1) F.1 (met_of hC2 m7 hlen) ⟨⟨rfl, rfl, by show d2 + 1 ≤ R.frames; omega, by show 8 + (M2.2.2.1 + 11) + 40 * d2 ≤ R.locals; omega, pay_in F.1.2.2.2.2 (ws_good m5 M), List.mem_cons_self⟩, hts _ m5, hts _ m4, ⟨x6.1, x6.2.1⟩, fun sig h => by
    have h2 := x6.2.2
    rw [h] at h2
    exact (Option.some.inj h2).symm, hts _ m1, hts _ m2, va_Decl.of (hts _ m9) (hts _ x5), hsel, hts _ m11⟩ ⟨PcG.blind, hrv, pc_pre F _⟩ rfl hn F.2.2.2.1.1 rfl (lv_room hw) hd ⟨by omega, by omega⟩) kk
theorem am_kin (hd : decode M.2.1 pc = .ok (.getstatic idx, 3)) (hl : Cond.fieldLink M.1.cls idx "HosieryPlantLaw" "KINDS" "[Ljava/lang/String;" ∈ lw_g) (k1 : Tr l G M d k u (pc + 3) lv (.ref (gK G) :: rest) h Q) : Tr l G M d k u pc lv rest h Q := by
  intro p e R s m args below meth c H locs cells slots mc ms ls F
  exact va_gets F.1.1 F.1.2.1 F.2.2.2.2.2.2.2.2.2.2.2.2.2.1 F.2.2.2.2.2.2.1 F.1.2.2.2.1 (F.1.2.2.2.2 _ (List.mem_cons_of_mem _ hl)) (fun _ z => z) hd (k1 p e R s m args below meth c H locs cells slots mc ms ls F)
theorem am_kinld {x : Int32} (hd : decode M.2.1 pc = .ok (.aaload, 1)) (hin : vp_in x 3) (k1 : Tr l G M d k u (pc + 1) lv (.ref (gS G (53 + x.toNatClampNeg)) :: rest) h Q) : Tr l G M d k u pc lv (.int x :: .ref (gK G) :: rest) h Q := by
  intro p e R s m args below meth c H locs cells slots mc ms ls F
  exact vb_tq F.1.1 F.1.2.1 F.2.2.2.2.2.2.2.2.2.2.2.2.2.2.1 F.2.2.2.2.2.2.1 hin rfl hd (k1 p e R s m args below meth c H locs cells slots mc ms ls F)
theorem am_acmpne {a b : Nat} {off : Int} {tgt : Nat} (hd : decode M.2.1 pc = .ok (.if_acmp .ne off, 3)) (ht : (pc : Int) + off = (tgt : Int)) (k1 : ¬ a = b → Tr l G M d k u tgt lv rest h Q) (k2 : a = b → Tr l G M d k u (pc + 3) lv rest h Q) : Tr l G M d k u pc lv (.ref b :: .ref a :: rest) h Q := by
  intro p e R s m args below meth c H locs cells slots mc ms ls F
  by_cases hab : a = b
  · exact lv_acmp_ne (rx := some a) (ry := some b) F.1.1 F.1.2.1 hd ht (fun z => absurd (by rw [hab]) z) (fun _ => k2 hab p e R s m args below meth c H locs cells slots mc ms ls F)
  · exact lv_acmp_ne (rx := some a) (ry := some b) F.1.1 F.1.2.1 hd ht (fun _ => k1 hab p e R s m args below meth c H locs cells slots mc ms ls F) (fun z => absurd (Option.some.inj z) hab)
/-- an object of class String, here or a constant -/
theorem rcv_D {p : Program} {e : Env} {R : Room} {s : State} {m : MethodId} {args : Array Value} {meth : Method} {c : Code} {H : Heap} {locs : List Loc} {cells slots mc ms : Nat} {ls : Array Slot} (F : Fx l G M d k u lv h p e R s m args meth c H locs cells slots mc ms ls) {i : Nat} {fs : List Value} (hh : h[i]? = some (.inr (8, fs))) : ∃ cell : Cell, H[gz G + i]? = some cell ∧ cell.vm.isStatics = false ∧ s.vm.findClass RJ0 = some cell.cls :=
  va_recv (q := (RJ0, TJ0, 4)) F.2.2.2.2.2.1 F.2.2.2.2.1.1 rfl (wz_i (G := G) hh)
theorem rcv_S {p : Program} {e : Env} {R : Room} {s : State} {m : MethodId} {args : Array Value} {meth : Method} {c : Code} {H : Heap} {locs : List Loc} {cells slots mc ms : Nat} {ls : Array Slot} (F : Fx l G M d k u lv h p e R s m args meth c H locs cells slots mc ms ls) {j : Nat} {q : String × Nat × String × List Int32} (hj : strTab[j]? = some q) : ∃ cell : Cell, H[gS G j]? = some cell ∧ cell.vm.isStatics = false ∧ s.vm.findClass RJ0 = some cell.cls := by
  obtain ⟨cell, c1, c2, c3, -⟩ := (F.2.2.2.2.2.2.2.1 j q hj).2.1.kept F.2.2.2.2.2.2.1.2.1
  exact ⟨cell, c1, c2, c3⟩
theorem cls_J0 {s : State} (hK : KK G s) : ClassAt s RJ0 ((gD G).1 8) := (hK.1 8 (RJ0, TJ0, 4) rfl).2
theorem am_castD {i : Nat} {fs : List Value} (hd : decode M.2.1 pc = .ok (.checkcast idx, 3)) (hl : Cond.classLink M.1.cls idx RJ0 ∈ lw_g) (hh : h[i]? = some (.inr (8, fs))) (k1 : Tr l G M d k u (pc + 3) lv (.ref (gz G + i) :: rest) h Q) : Tr l G M d k u pc lv (.ref (gz G + i) :: rest) h Q := by
  intro p e R s m args below meth c H locs cells slots mc ms ls F
  exact va_castS F.1.1 F.1.2.1 F.1.2.2.2.1 (F.1.2.2.2.2 _ (List.mem_cons_of_mem _ hl)) (cls_J0 F.2.2.2.2.2.1) (rcv_D F hh) hd (k1 p e R s m args below meth c H locs cells slots mc ms ls F)
theorem am_castK {j : Nat} {q : String × Nat × String × List Int32} (hd : decode M.2.1 pc = .ok (.checkcast idx, 3)) (hl : Cond.classLink M.1.cls idx RJ0 ∈ lw_g) (hj : strTab[j]? = some q) (k1 : Tr l G M d k u (pc + 3) lv (.ref (gS G j) :: rest) h Q) : Tr l G M d k u pc lv (.ref (gS G j) :: rest) h Q := by
  intro p e R s m args below meth c H locs cells slots mc ms ls F
  exact va_castS F.1.1 F.1.2.1 F.1.2.2.2.1 (F.1.2.2.2.2 _ (List.mem_cons_of_mem _ hl)) (cls_J0 F.2.2.2.2.2.1) (rcv_S F hj) hd (k1 p e R s m args below meth c H locs cells slots mc ms ls F)
theorem am_instD {i : Nat} {fs : List Value} (hd : decode M.2.1 pc = .ok (.instanceof idx, 3)) (hl : Cond.classLink M.1.cls idx RJ0 ∈ lw_g) (hh : h[i]? = some (.inr (8, fs))) (k1 : Tr l G M d k u (pc + 3) lv (.int 1 :: rest) h Q) : Tr l G M d k u pc lv (.ref (gz G + i) :: rest) h Q := by
  intro p e R s m args below meth c H locs cells slots mc ms ls F
  exact va_instS F.1.1 F.1.2.1 F.1.2.2.2.1 (F.1.2.2.2.2 _ (List.mem_cons_of_mem _ hl)) (cls_J0 F.2.2.2.2.2.1) (rcv_D F hh) hd (k1 p e R s m args below meth c H locs cells slots mc ms ls F)
theorem am_instK {j : Nat} {q : String × Nat × String × List Int32} (hd : decode M.2.1 pc = .ok (.instanceof idx, 3)) (hl : Cond.classLink M.1.cls idx RJ0 ∈ lw_g) (hj : strTab[j]? = some q) (k1 : Tr l G M d k u (pc + 3) lv (.int 1 :: rest) h Q) : Tr l G M d k u pc lv (.ref (gS G j) :: rest) h Q := by
  intro p e R s m args below meth c H locs cells slots mc ms ls F
  exact va_instS F.1.1 F.1.2.1 F.1.2.2.2.1 (F.1.2.2.2.2 _ (List.mem_cons_of_mem _ hl)) (cls_J0 F.2.2.2.2.2.1) (rcv_S F hj) hd (k1 p e R s m args below meth c H locs cells slots mc ms ls F)
theorem am_castB {i n : Nat} {f : Nat → Int32} (hd : decode M.2.1 pc = .ok (.checkcast idx, 3)) (hl : Cond.classLink M.1.cls idx "[B" ∈ lw_g) (hh : h[i]? = some (.inl (1, n, .inl f))) (k1 : Tr l G M d k u (pc + 3) lv (.ref (gz G + i) :: rest) h Q) : Tr l G M d k u pc lv (.ref (gz G + i) :: rest) h Q := by
  intro p e R s m args below meth c H locs cells slots mc ms ls F
  exact va_castA F.1.1 F.1.2.1 F.1.2.2.2.1 (F.1.2.2.2.2 _ (List.mem_cons_of_mem _ hl)) F.2.2.2.2.1.1 i (cA := gc G 1) (x := (n, .inl f)) (wz_i (G := G) hh) (F.2.2.2.2.2.1.2 1 _ rfl).2 hd (k1 p e R s m args below meth c H locs cells slots mc ms ls F)
theorem am_cloneb {i n k1 u1 : Nat} {f : Nat → Int32} (hd : decode M.2.1 pc = .ok (.invokevirtual idx, 3)) (w1 : Cond.methodLink M.1.cls idx ⟨"[B", "clone", "()Ljava/lang/Object;"⟩ ∈ lw_g) (w2 : Cond.sameMethod "[B" "java/lang/Object" "clone" "()Ljava/lang/Object;" ∈ lw_g) (w3 : Cond.native ⟨"java/lang/Object", "clone", "()Ljava/lang/Object;"⟩ ∈ lw_g) (w4 : Cond.instanceMethod ⟨"java/lang/Object", "clone", "()Ljava/lang/Object;"⟩ ∈ lw_g) (w5 : Cond.selects "[B" ⟨"[B", "clone", "()Ljava/lang/Object;"⟩ ⟨"java/lang/Object", "clone", "()Ljava/lang/Object;"⟩ ∈ lw_g) (hh : h[i]? = some (.inl (1, n, .inl f))) (hf : hz_fit f) (hw : (rest.map fun v => v.category).sum ≤ 8) (hd1 : 1 ≤ d) (hk : k1 + 1 ≤ k) (hu : u1 + n ≤ u) (k2 : Tr l G M d k1 u1 (pc + 3) lv (.ref (gz G + h.length) :: rest) (h ++ [.inl (1, n, .inl f)]) Q) : Tr l G M d k u pc lv (.ref (gz G + i) :: rest) h Q := by
  intro p e R s m args below meth c H locs cells slots mc ms ls F
  obtain ⟨⟨hx, hb, hml, hown, hts0⟩, hM, ⟨r1, r2, r3, r4, r5, r6⟩, hls, hR, hK, hS, hC⟩ := F
  have hts : ∀ w ∈ lw_g, w.before args s = true := fun w hw => hts0 w (List.mem_cons_of_mem _ hw)
  have hnm : s.vm.findClass "[B" = some (gc G 1) := (hK.2 1 _ rfl).2
  obtain ⟨c0, t0', f1, f2, f3⟩ := Cond.castable_spec (cz_of (args := args) hC)
  cases hnm.symm.trans f1
  intro T hT X
  have hcell : H[gz G + i]? = some (vp_cell (gc G 1) (n, .inl f)) := hR.1 i (gz G + i, .inl (gc G 1, n, .inl f)) (wz_i (G := G) hh)
  have hcellT : T.heap[gz G + i]? = some (vp_cell (gc G 1) (n, .inl f)) := by rw [hT]; exact hcell
  have hsz : (vp_cell (gc G 1) (n, .inl f)).slots.size = n := arrV_size _ _ _
  obtain ⟨-, kA, hkA, comp, hkind⟩ := State.isArrayOf_alike X.warmed.alike ((hK.2 1 _ rfl).1 0 (fun _ => .null))
  obtain ⟨-, kS, hkS, compS, hkindS⟩ := (hK.2 1 _ rfl).1 0 (fun _ => .null)
  obtain ⟨vm', X', st⟩ := X.cloneArray hx hown (hts _ w1) (hts _ w2) (hts _ w3) (hts _ w4) (hts _ w5) (a := gz G + i) (cell := vp_cell (gc G 1) (n, .inl f)) hcellT (fun k h => by cases h) (fun h => by cases h) hnm f2 f3
    (fun j v hv => by
      have hk' : T.vm.classes[(vp_cell (gc G 1) (n, .inl f)).cls]? = some kA := hkA
      have hv2 : fits .byte v = true := by
        have hj : j < n := by
          have := (Array.getElem?_eq_some_iff.mp hv).1
          omega
        have e2 : (vp_cell (gc G 1) (n, .inl f)).slots[j]? = some (.int (f j)) := arrV_read _ _ hj
        rw [hv] at e2
        cases e2
        exact hf j
      simpa [State.fitsSlot, State.slotType?, hk', hkind] using hv2)
    (g := F0 m pc ls (.ref (gz G + i) :: rest)) rfl (by rw [hml]; exact hls.1) rfl (by rw [hb]; exact hd) (by omega) (by show 2 * 0 + _ + 14 ≤ _; omega) (by omega) (by rw [hsz]; omega) (hloader := Vm.clonesLoader_of_array hkS hkindS)
  have hcellE : ({ cls := (vp_cell (gc G 1) (n, .inl f)).cls, slots := (vp_cell (gc G 1) (n, .inl f)).slots } : Cell) = vp_cell (gc G 1) (n, .inl f) := rfl
  rw [hcellE, hsz] at X'
  have hz : H.size = gz G + h.length := hR.2
  generalize hH1 : H.push (vp_cell (gc G 1) (n, .inl f)) = H1
  have z1 : H1.size = H.size + 1 := by rw [← hH1, Array.size_push]
  have e1 : H1[H.size]? = some (vp_cell (gc G 1) (n, .inl f)) := by rw [← hH1, Array.getElem?_push_size]
  have o1 : ∀ q : Nat, q < H.size → H1[q]? = H[q]? := fun q hq => by rw [← hH1, Array.getElem?_push, if_neg (Nat.ne_of_lt hq)]
  have g1 : va_S (gA G) s.heap H1 locs := ⟨Nat.le_trans hS.1 (by omega), fun x h1 h2 => (o1 x (Nat.lt_of_lt_of_le h1 hS.1)).trans (hS.2.1 x h1 h2), hS.2.2⟩
  obtain ⟨t, b1, b2⟩ := k2 p e R s m args below meth c H1 locs (cells + 1) (slots + n) mc ms ls ⟨⟨hx, hb, hml, hown, hts0⟩, hM, ⟨r1, r2, r3, r4, by omega, by omega⟩, hls, hR.push (e := .inl (1, n, .inl f)) e1 z1 o1, hK, g1, hC⟩ ((T.setVm vm').pushCell (vp_cell (gc G 1) (n, .inl f))) (by rw [← hH1, ← hT]; rfl) X'
  refine ⟨t, st t ?_, b2⟩
  rw [hcellE, hT, hz]
  exact b1
end TRE
