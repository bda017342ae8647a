/-! Rows for the JDK's StringBuilder: super's methods, inherited and private methods, bytes copied, the digits' tables. -/
section TRS
variable {l : Launch} {G : GM} {M M2 : MD} {d k u pc d2 k2 u2 n idx : Nat} {lv lv' : List (Nat × Value)} {As rest st1 : List Value} {h : List va_E} {Q Q2 : Option Value → List va_E → Prop}
def okSU (own : String) (idx : Nat) (M2 : MD) (n : Nat) : Prop := okC M2 n ∧ Cond.methodLink own idx M2.1 ∈ lw_g ∧ Cond.sameMethod M2.1.cls M2.1.cls M2.1.name M2.1.desc ∈ lw_g ∧ Cond.superclass own M2.1.cls ∈ lw_g ∧ Cond.instanceMethod M2.1 ∈ lw_g ∧ M2.1.name ≠ "<init>"
def okU (own C : String) (idx : Nat) (M2 : MD) (n : Nat) : Prop := okC M2 n ∧ Cond.methodLink own idx M2.1 ∈ lw_g ∧ Cond.sameMethod M2.1.cls M2.1.cls M2.1.name M2.1.desc ∈ lw_g ∧ Cond.instanceMethod M2.1 ∈ lw_g ∧ Cond.selects C M2.1 M2.1 ∈ lw_g
theorem sb_selP {y z : MethodName} {C : String} {s : State} {args : Array Value} {nn : Nat} (hy : y.cls ≠ "java/lang/invoke/MethodHandle" ∧ y.cls ≠ "java/lang/invoke/VarHandle") (hins : (Cond.instantiable C nn).before args s = true) (hpriv : (Cond.privateMethod y).before args s = true) (hinst : (Cond.instanceMethod y).before args s = true) (hz : (Cond.selects C z z).before args s = true) (hzc : z.cls = y.cls) : (Cond.selects C y y).before args s = true := by
  obtain ⟨c, k, hc, hk, -, hniab, -, -⟩ := Cond.instantiable_spec hins
  obtain ⟨mk, methM, hnamed, hmethM, -, -⟩ := Cond.instanceMethod_spec hinst
  have hfound : s.methodFound? y.cls y.name y.desc = some mk := State.methodFound?_of_named hnamed hy
  have hsel : selectMethod {} s.vm c mk = .method mk := selectMethod_private hmethM (Cond.privateMethod_at hpriv mk methM hnamed hmethM)
  obtain ⟨c2, r2, m2, q1, q2, q3, q4, kP, hkP, hkPi⟩ := Cond.selects_spec hz
  have hcls : mk.cls = m2.cls := by
    have a := findClass_of_methodNamed hnamed
    have b := findClass_of_methodNamed q3
    rw [hzc] at b
    exact Option.some.inj (a.symm.trans b)
  simp only [Cond.before, Cond.holds, Cond.value, hc, hfound, hnamed, hsel, hcls, hkP]
  simp; exact hkPi
theorem am_callSU {i ci : Nat} {C : String} {fs : List Value} (hd : decode M.2.1 pc = .ok (.invokespecial idx, 3)) (hM : okSU M.1.cls idx M2 n) (hn : As.length = n) (hh : h[i]? = some (.inr (ci, fs))) (hcl : (vwCl[ci]?).map (fun q => q.1) = some C) (hst : st1 = As.reverse ++ .ref (gz G + i) :: rest) (hw : (rest.map fun v => v.category).sum ≤ 8) (hd2 : d2 + 1 ≤ d) (hk2 : k2 ≤ k) (hu2 : u2 ≤ u) (hlen : (lg_sl (.ref (gz G + i) :: As)).length ≤ M2.2.2.1) (hC2 : Ct l G M2 d2 k2 u2 (.ref (gz G + i) :: As) h Q2)
    (kk : ∀ (v : Option Value) (h1 : List va_E), Q2 v h1 → Tr l G M d (k - k2) (u - u2) (pc + 3) lv (v.toList ++ rest) h1 Q) : Tr l G M d k u pc lv st1 h Q := by
  intro p e R s m args below meth c H locs cells slots mc ms ls F
  obtain ⟨⟨m5, m6, m7, m8, m4⟩, m1, m2, m3, m9, m10⟩ := hM
  have hts : ∀ w ∈ lw_g, w.before args s = true := fun w hw => F.1.2.2.2.2 w (List.mem_cons_of_mem _ hw)
  obtain ⟨r1, r2, r3, r4, r5, r6⟩ := F.2.2.1
  obtain ⟨q, hq1, hq2⟩ := Option.map_eq_some_iff.mp hcl
  have hrv := va_recv F.2.2.2.2.2.1 F.2.2.2.2.1.1 hq1 (wz_i (G := G) hh)
  obtain ⟨hS0, hfc, kC, hkC, hkind⟩ := F.2.2.2.2.2.1.1 ci _ hq1
  rw [hq2] at hrv hfc
  subst hst
  exact am_after p e R s m args below meth c H locs cells slots mc ms ls F hk2 hu2 (va_runSU (C := C) ⟨hfc, kC, hkC, hkind⟩ F.1 (met_of hC2 m7 hlen) ⟨⟨rfl, rfl, by show d2 + 1 ≤ R.frames; omega, by show 8 + (M2.2.2.1 + 11) + 40 * d2 ≤ R.locals; omega, pay_in F.1.2.2.2.2 (ws_good m5 M), List.mem_cons_self⟩, hts _ m1, hts _ m2, hts _ m3, hts _ m9, hts _ m4, hts _ m5, m10, fun sig h => by
    have h2 := m6.2.2
    rw [h] at h2
    exact (Option.some.inj h2).symm⟩ ⟨PcG.blind, hrv, pc_pre F _⟩ rfl hn F.2.2.2.1.1 rfl (lv_room hw) hd ⟨by omega, by omega⟩) kk
theorem am_callU {i ci : Nat} {C : String} {fs : List Value} (hd : decode M.2.1 pc = .ok (.invokevirtual idx, 3)) (hM : okU M.1.cls C idx M2 n) (hn : As.length = n) (hh : h[i]? = some (.inr (ci, fs))) (hcl : (vwCl[ci]?).map (fun q => q.1) = some C) (hst : st1 = As.reverse ++ .ref (gz G + i) :: rest) (hw : (rest.map fun v => v.category).sum ≤ 8) (hd2 : d2 + 1 ≤ d) (hk2 : k2 ≤ k) (hu2 : u2 ≤ u) (hlen : (lg_sl (.ref (gz G + i) :: As)).length ≤ M2.2.2.1) (hC2 : Ct l G M2 d2 k2 u2 (.ref (gz G + i) :: As) h Q2)
    (kk : ∀ (v : Option Value) (h1 : List va_E), Q2 v h1 → Tr l G M d (k - k2) (u - u2) (pc + 3) lv (v.toList ++ rest) h1 Q) : Tr l G M d k u pc lv st1 h Q := by
  intro p e R s m args below meth c H locs cells slots mc ms ls F
  obtain ⟨⟨m5, m6, m7, m8, m4⟩, m1, m2, m9, m10⟩ := hM
  have hts : ∀ w ∈ lw_g, w.before args s = true := fun w hw => F.1.2.2.2.2 w (List.mem_cons_of_mem _ hw)
  obtain ⟨r1, r2, r3, r4, r5, r6⟩ := F.2.2.1
  obtain ⟨q, hq1, hq2⟩ := Option.map_eq_some_iff.mp hcl
  have hrv := va_recv F.2.2.2.2.2.1 F.2.2.2.2.1.1 hq1 (wz_i (G := G) hh)
  rw [hq2] at hrv
  subst hst
  have hsel : (Cond.selects C M2.1 M2.1).before args s = true := hts _ m10
  exact am_after p e R s m args below meth c H locs cells slots mc ms ls F hk2 hu2 (va_runU (C := C) (owner := M2.1.cls) (x := M2.1) (y := M2.1) F.1 (met_of hC2 m7 hlen) ⟨⟨rfl, rfl, by show d2 + 1 ≤ R.frames; omega, by show 8 + (M2.2.2.1 + 11) + 40 * d2 ≤ R.locals; omega, pay_in F.1.2.2.2.2 (ws_good m5 M), List.mem_cons_self⟩, hts _ m5, hts _ m4, ⟨m6.1, m6.2.1⟩, fun sig h => by
    have h2 := m6.2.2
    rw [h] at h2
    exact (Option.some.inj h2).symm, hts _ m1, hts _ m2, va_Decl.of (hts _ m9) (hts _ m5), hsel, hts _ m9⟩ ⟨PcG.blind, hrv, pc_pre F _⟩ rfl hn F.2.2.2.1.1 rfl (lv_room hw) hd ⟨by omega, by omega⟩) kk
theorem am_digO (hd : decode M.2.1 pc = .ok (.getstatic idx, 3)) (hl : Cond.fieldLink M.1.cls idx "java/lang/Integer" "DigitOnes" "[B" ∈ lw_g) (k1 : Tr l G M d k u (pc + 3) lv (.ref (gO G) :: rest) h Q) : Tr l G M d k u pc lv rest h Q := by
  intro p e R s m args below meth c H locs cells slots mc ms ls F
  exact va_gets F.1.1 F.1.2.1 F.2.2.2.2.2.2.2.2.1.2.1 F.2.2.2.2.2.2.1 F.1.2.2.2.1 (F.1.2.2.2.2 _ (List.mem_cons_of_mem _ hl)) (fun _ z => z) hd (k1 p e R s m args below meth c H locs cells slots mc ms ls F)
theorem am_digT (hd : decode M.2.1 pc = .ok (.getstatic idx, 3)) (hl : Cond.fieldLink M.1.cls idx "java/lang/Integer" "DigitTens" "[B" ∈ lw_g) (k1 : Tr l G M d k u (pc + 3) lv (.ref (gT G) :: rest) h Q) : Tr l G M d k u pc lv rest h Q := by
  intro p e R s m args below meth c H locs cells slots mc ms ls F
  exact va_gets F.1.1 F.1.2.1 F.2.2.2.2.2.2.2.2.1.2.2.2.1 F.2.2.2.2.2.2.1 F.1.2.2.2.1 (F.1.2.2.2.2 _ (List.mem_cons_of_mem _ hl)) (fun _ z => z) hd (k1 p e R s m args below meth c H locs cells slots mc ms ls F)
theorem am_baldO {x : Int32} (hd : decode M.2.1 pc = .ok (.baload, 1)) (hin : vp_in x 100) (k1 : Tr l G M d k u (pc + 1) lv (.int (48 + Int32.ofNat (x.toNatClampNeg % 10)) :: rest) h Q) : Tr l G M d k u pc lv (.int x :: .ref (gO G) :: rest) h Q := by
  intro p e R s m args below meth c H locs cells slots mc ms ls F
  exact va_tb F.1.1 F.1.2.1 F.2.2.2.2.2.2.2.2.1.2.2.1 F.2.2.2.2.2.2.1 hin rfl hd (k1 p e R s m args below meth c H locs cells slots mc ms ls F)
theorem am_baldT {x : Int32} (hd : decode M.2.1 pc = .ok (.baload, 1)) (hin : vp_in x 100) (k1 : Tr l G M d k u (pc + 1) lv (.int (48 + Int32.ofNat (x.toNatClampNeg / 10)) :: rest) h Q) : Tr l G M d k u pc lv (.int x :: .ref (gT G) :: rest) h Q := by
  intro p e R s m args below meth c H locs cells slots mc ms ls F
  exact va_tb F.1.1 F.1.2.1 F.2.2.2.2.2.2.2.2.1.2.2.2.2.1 F.2.2.2.2.2.2.1 hin rfl hd (k1 p e R s m args below meth c H locs cells slots mc ms ls F)
theorem am_copyb {i j n0 n1 : Nat} {f g : Nat → Int32} {sp dp n : Int32} (hd : decode M.2.1 pc = .ok (.invokestatic idx, 3)) (hl : Cond.methodLink M.1.cls idx arraycopyName ∈ lw_g) (hi : h[i]? = some (.inl (1, n0, .inl f))) (hj : h[j]? = some (.inl (1, n1, .inl g))) (a1 : ¬ sp < 0) (a2 : ¬ dp < 0) (a3 : ¬ n < 0) (a4 : sp.toNatClampNeg + n.toNatClampNeg ≤ n0) (a5 : dp.toNatClampNeg + n.toNatClampNeg ≤ n1) (a6 : ∀ j, fits .byte (.int (f j)) = true) (hw : (rest.map fun v => v.category).sum ≤ 8) (hd1 : 1 ≤ d)
    (k1 : Tr l G M d k u (pc + 3) lv rest (h.set j (.inl (1, n1, .inl (va_cpy f g sp.toNatClampNeg dp.toNatClampNeg n.toNatClampNeg)))) Q) : Tr l G M d k u pc lv (.int n :: .int dp :: .ref (gz G + j) :: .int sp :: .ref (gz G + i) :: rest) h Q := by
  intro p e R s m args below meth c H locs cells slots mc ms ls F
  have F0' := F
  obtain ⟨⟨hx, hb, hml, hown, hts0⟩, hM, ⟨r1, r2, r3, r4, r5, r6⟩, hls, hR, hK, hS, hC⟩ := F
  have hts : ∀ w ∈ lw_g, w.before args s = true := fun w hw => hts0 w (List.mem_cons_of_mem _ hw)
  have hc0 : H[gz G + i]? = some (vp_cell (gc G 1) (n0, .inl f)) := hR.1 i _ (wz_i (G := G) hi)
  have hc1 : H[gz G + j]? = some (vp_cell (gc G 1) (n1, .inl g)) := hR.1 j _ (wz_i (G := G) hj)
  obtain ⟨-, k0, hk0, cm0, hkk0⟩ := (hK.2 1 _ rfl).1 n0 (fun j => .int (f j))
  intro T hT X
  have hNW : nativeFrameWords "java/lang/System" "arraycopy" 5 + 11 ≤ 32 := by decide
  obtain ⟨vm', X', step⟩ := X.arraycopy hx hown (hts _ hl) (hts _ kAc1.1) (hts _ kAc1.2.1) (hts _ kAc1.2.2) (src := gz G + i) (dst := gz G + j) (cs := vp_cell (gc G 1) (n0, .inl f)) (cd := vp_cell (gc G 1) (n1, .inl g)) (srcPos := sp) (destPos := dp) (n := n) (by rw [hT]; exact hc0) (by rw [hT]; exact hc1)
    (fun _ h => by cases h) (fun _ h => by cases h) (fun h => by cases h) (fun h => by cases h) hk0 hk0 hkk0 hkk0 rfl a1 a2 a3
    (by rw [i32nn a1, i32nn a3]; show ¬ _ > ((arrV (gc G 1) n0 (fun j => .int (f j))).slots.size : Int); rw [arrV_size]; omega)
    (by rw [i32nn a2, i32nn a3]; show ¬ _ > ((arrV (gc G 1) n1 (fun j => .int (g j))).slots.size : Int); rw [arrV_size]; omega)
    (fun vm₁ _ i hi => by
      have e : (vp_cell (gc G 1) (n0, .inl f)).slots.getD (sp.toNatClampNeg + i) .null = .int (f (sp.toNatClampNeg + i)) := by
        show (arrV (gc G 1) n0 (fun j => .int (f j))).slots.getD _ _ = _
        rw [Array.getD_eq_getD_getElem?, arrV_read _ _ (by omega)]
        rfl
      refine ⟨?_, ?_⟩
      · rw [e]
        exact a6 _
      · rw [e]
        exact trivial)
    (g := F0 m pc ls (.int n :: .int dp :: .ref (gz G + j) :: .int sp :: .ref (gz G + i) :: rest)) rfl (by rw [hml]; exact hls.1) (rest := rest) rfl (by rw [hb]; exact hd) (by omega) (by show 2 * 0 + _ + _ ≤ _; omega)
  have e1 : copied (vp_cell (gc G 1) (n0, .inl f)) (vp_cell (gc G 1) (n1, .inl g)) sp dp n = vp_cell (gc G 1) (n1, .inl (va_cpy f g sp.toNatClampNeg dp.toNatClampNeg n.toNatClampNeg)) := va_copied (fun z => .int z) (gc G 1) (gc G 1) f g a4
  rw [e1] at X' step
  have hlt : gz G + j < H.size := (Array.getElem?_eq_some_iff.mp hc1).1
  have hheap : ((T.setVm vm').setCell (gz G + j) (vp_cell (gc G 1) (n1, .inl (va_cpy f g sp.toNatClampNeg dp.toNatClampNeg n.toNatClampNeg)))).heap = H.setIfInBounds (gz G + j) (vp_cell (gc G 1) (n1, .inl (va_cpy f g sp.toNatClampNeg dp.toNatClampNeg n.toNatClampNeg))) := by rw [← hT]; rfl
  have oq : ∀ q : Nat, q ≠ gz G + j → (H.setIfInBounds (gz G + j) (vp_cell (gc G 1) (n1, .inl (va_cpy f g sp.toNatClampNeg dp.toNatClampNeg n.toNatClampNeg))))[q]? = H[q]? := fun q hq => by simp [Array.getElem?_setIfInBounds, Ne.symm hq]
  have hS' : ∀ L : List Loc, (∀ q ∈ L, q.base = gz G + j) → va_S (gA G) s.heap (H.setIfInBounds (gz G + j) (vp_cell (gc G 1) (n1, .inl (va_cpy f g sp.toNatClampNeg dp.toNatClampNeg n.toNatClampNeg)))) (locs ++ L) := fun L hL => ⟨by simp; exact hS.1, fun q g1 g2 => by
      rw [oq q (fun e => g2 (by rw [e]; exact Nat.le_add_right _ _))]
      exact hS.2.1 q g1 g2, fun q hq => by
      rcases List.mem_append.mp hq with h | h
      · exact hS.2.2 q h
      · rw [hL q h]
        exact Nat.le_add_right _ _⟩
  have hR' : Rep G (h.set j (.inl (1, n1, .inl (va_cpy f g sp.toNatClampNeg dp.toNatClampNeg n.toNatClampNeg)))) (H.setIfInBounds (gz G + j) (vp_cell (gc G 1) (n1, .inl (va_cpy f g sp.toNatClampNeg dp.toNatClampNeg n.toNatClampNeg)))) := hR.put hj (show (H.setIfInBounds (gz G + j) _)[gz G + j]? = some _ by simp [Array.getElem?_setIfInBounds, hlt]) (by simp) oq
  obtain ⟨t, b1, b2⟩ := k1 p e R s m args below meth c _ _ cells slots mc ms ls ⟨⟨hx, hb, hml, hown, hts0⟩, hM, ⟨r1, r2, r3, r4, r5, r6⟩, hls, hR', hK, hS' _ (fun q hq => by obtain ⟨z, -, hz⟩ := List.mem_map.mp hq; rw [← hz]), hC⟩ _ hheap X'
  exact ⟨t, step t b1, b2⟩
theorem am_copyS {j jq n1 : Nat} {qs : String × Nat × String × List Int32} {g : Nat → Int32} {sp dp n : Int32} (hd : decode M.2.1 pc = .ok (.invokestatic idx, 3)) (hl : Cond.methodLink M.1.cls idx arraycopyName ∈ lw_g) (hq : strTab[jq]? = some qs) (hj : h[j]? = some (.inl (1, n1, .inl g))) (a1 : ¬ sp < 0) (a2 : ¬ dp < 0) (a3 : ¬ n < 0) (a4 : sp.toNatClampNeg + n.toNatClampNeg ≤ qs.2.2.2.length) (a5 : dp.toNatClampNeg + n.toNatClampNeg ≤ n1) (a6 : ∀ j, fits .byte (.int (qs.2.2.2.getD j 0)) = true) (hw : (rest.map fun v => v.category).sum ≤ 8) (hd1 : 1 ≤ d)
    (k1 : Tr l G M d k u (pc + 3) lv rest (h.set j (.inl (1, n1, .inl (va_cpy (fun i => qs.2.2.2.getD i 0) g sp.toNatClampNeg dp.toNatClampNeg n.toNatClampNeg)))) Q) : Tr l G M d k u pc lv (.int n :: .int dp :: .ref (gz G + j) :: .int sp :: .ref (gV G jq) :: rest) h Q := by
  intro p e R s m args below meth c H locs cells slots mc ms ls F
  have F0' := F
  obtain ⟨⟨hx, hb, hml, hown, hts0⟩, hM, ⟨r1, r2, r3, r4, r5, r6⟩, hls, hR, hK, hS, hC⟩ := F
  have hts : ∀ w ∈ lw_g, w.before args s = true := fun w hw => hts0 w (List.mem_cons_of_mem _ hw)
  obtain ⟨cs, t1, ⟨t2, k9, hk9, cm9, hkk9⟩, t3, t4, t5, t6, t7⟩ := (F0'.2.2.2.2.2.2.2.1 jq qs hq).2.2.2.2
  have hc0 : H[gV G jq]? = some cs := by rw [hS.2.1 _ (Array.getElem?_eq_some_iff.mp t1).1 t7]; exact t1
  have hc1 : H[gz G + j]? = some (vp_cell (gc G 1) (n1, .inl g)) := hR.1 j _ (wz_i (G := G) hj)
  obtain ⟨-, k0, hk0, cm0, hkk0⟩ := (hK.2 1 _ rfl).1 n1 (fun j => .int (g j))
  intro T hT X
  have hNW : nativeFrameWords "java/lang/System" "arraycopy" 5 + 11 ≤ 32 := by decide
  obtain ⟨vm', X', step⟩ := X.arraycopy hx hown (hts _ hl) (hts _ kAc1.1) (hts _ kAc1.2.1) (hts _ kAc1.2.2) (src := gV G jq) (dst := gz G + j) (cs := cs) (cd := vp_cell (gc G 1) (n1, .inl g)) (srcPos := sp) (destPos := dp) (n := n) (by rw [hT]; exact hc0) (by rw [hT]; exact hc1)
    t2 (fun _ h => by cases h) t3 (fun h => by cases h) hk9 hk0 hkk9 hkk0 (by simp [refKind]) a1 a2 a3
    (by rw [i32nn a1, i32nn a3]; omega)
    (by rw [i32nn a2, i32nn a3]; show ¬ _ > ((arrV (gc G 1) n1 (fun j => .int (g j))).slots.size : Int); rw [arrV_size]; omega)
    (fun vm₁ _ i hi => by
      have e : cs.slots.getD (sp.toNatClampNeg + i) .null = .int (qs.2.2.2.getD (sp.toNatClampNeg + i) 0) := by
        rw [Array.getD_eq_getD_getElem?, t6 _ (by omega)]
        rfl
      refine ⟨?_, ?_⟩
      · rw [e]
        exact a6 _
      · rw [e]
        exact trivial)
    (g := F0 m pc ls (.int n :: .int dp :: .ref (gz G + j) :: .int sp :: .ref (gV G jq) :: rest)) rfl (by rw [hml]; exact hls.1) (rest := rest) rfl (by rw [hb]; exact hd) (by omega) (by show 2 * 0 + _ + _ ≤ _; omega)
  have e1 : copied cs (vp_cell (gc G 1) (n1, .inl g)) sp dp n = vp_cell (gc G 1) (n1, .inl (va_cpy (fun i => qs.2.2.2.getD i 0) g sp.toNatClampNeg dp.toNatClampNeg n.toNatClampNeg)) := va_copiedX (fun z => .int z) cs (gc G 1) (fun i => qs.2.2.2.getD i 0) g t6 a4
  rw [e1] at X' step
  have hlt : gz G + j < H.size := (Array.getElem?_eq_some_iff.mp hc1).1
  have hheap : ((T.setVm vm').setCell (gz G + j) (vp_cell (gc G 1) (n1, .inl (va_cpy (fun i => qs.2.2.2.getD i 0) g sp.toNatClampNeg dp.toNatClampNeg n.toNatClampNeg)))).heap = H.setIfInBounds (gz G + j) (vp_cell (gc G 1) (n1, .inl (va_cpy (fun i => qs.2.2.2.getD i 0) g sp.toNatClampNeg dp.toNatClampNeg n.toNatClampNeg))) := by rw [← hT]; rfl
  have oq : ∀ q : Nat, q ≠ gz G + j → (H.setIfInBounds (gz G + j) (vp_cell (gc G 1) (n1, .inl (va_cpy (fun i => qs.2.2.2.getD i 0) g sp.toNatClampNeg dp.toNatClampNeg n.toNatClampNeg))))[q]? = H[q]? := fun q hq => by simp [Array.getElem?_setIfInBounds, Ne.symm hq]
  have hS' : ∀ L : List Loc, (∀ q ∈ L, q.base = gz G + j) → va_S (gA G) s.heap (H.setIfInBounds (gz G + j) (vp_cell (gc G 1) (n1, .inl (va_cpy (fun i => qs.2.2.2.getD i 0) g sp.toNatClampNeg dp.toNatClampNeg n.toNatClampNeg)))) (locs ++ L) := fun L hL => ⟨by simp; exact hS.1, fun q g1 g2 => by
      rw [oq q (fun e => g2 (by rw [e]; exact Nat.le_add_right _ _))]
      exact hS.2.1 q g1 g2, fun q hq => by
      rcases List.mem_append.mp hq with h | h
      · exact hS.2.2 q h
      · rw [hL q h]
        exact Nat.le_add_right _ _⟩
  have hR' : Rep G (h.set j (.inl (1, n1, .inl (va_cpy (fun i => qs.2.2.2.getD i 0) g sp.toNatClampNeg dp.toNatClampNeg n.toNatClampNeg)))) (H.setIfInBounds (gz G + j) (vp_cell (gc G 1) (n1, .inl (va_cpy (fun i => qs.2.2.2.getD i 0) g sp.toNatClampNeg dp.toNatClampNeg n.toNatClampNeg)))) := hR.put hj (show (H.setIfInBounds (gz G + j) _)[gz G + j]? = some _ by simp [Array.getElem?_setIfInBounds, hlt]) (by simp) oq
  obtain ⟨t, b1, b2⟩ := k1 p e R s m args below meth c _ _ cells slots mc ms ls ⟨⟨hx, hb, hml, hown, hts0⟩, hM, ⟨r1, r2, r3, r4, r5, r6⟩, hls, hR', hK, hS' _ (fun q hq => by obtain ⟨z, -, hz⟩ := List.mem_map.mp hq; rw [← hz]), hC⟩ _ hheap X'
  exact ⟨t, step t b1, b2⟩
end TRS
