/-! The rows of Tr for calls, for what never changes, for arraycopy. -/
section TRD
variable {l : Launch} {G : GM} {M M2 : MD} {d k u pc d2 k2 u2 n idx : Nat} {lv lv' : List (Nat × Value)} {As rest st1 : List Value} {h : List va_E} {Q Q2 : Option Value → List va_E → Prop}
def okC (M2 : MD) (n : Nat) : Prop := Cond.code M2.1 M2.2.1 M2.2.2.1 M2.2.2.2 ∈ lw_g ∧ (M2.1.cls ≠ "java/lang/invoke/MethodHandle" ∧ M2.1.cls ≠ "java/lang/invoke/VarHandle" ∧ (parseMethodDescriptor M2.1.desc).map (fun d => d.parameters.length) = some n) ∧ plainName M2.1.cls = true ∧ M2.2.2.1 ≤ 20 ∧ Cond.initialized M2.1.cls ∈ lw_g
def okV (own : String) (idx : Nat) (M2 : MD) (n : Nat) : Prop := okC M2 n ∧ Cond.methodLink own idx M2.1 ∈ lw_g ∧ Cond.instanceMethod M2.1 ∈ lw_g ∧ Cond.selects M2.1.cls M2.1 M2.1 ∈ lw_g
def okS (own : String) (idx : Nat) (M2 : MD) (n : Nat) : Prop := okC M2 n ∧ Cond.methodLink own idx M2.1 ∈ lw_g ∧ Cond.static M2.1 ∈ lw_g
def okSN (own : String) (idx : Nat) (M2 : MD) (n : Nat) : Prop := okC M2 n ∧ Cond.static M2.1 ∈ lw_g ∧ ∃ (j : Nat) (host : String), nestTab[j]? = some (own, idx, M2.1, host)
def okI (own : String) (idx : Nat) (M2 : MD) (n : Nat) : Prop := okC M2 n ∧ Cond.methodLink own idx M2.1 ∈ lw_g ∧ Cond.instanceMethod M2.1 ∈ lw_g ∧ M2.1.name = "<init>" ∧ M2.2.2.2 = none
theorem pc_pre {p : Program} {e : Env} {R : Room} {s : State} {m : MethodId} {args : Array Value} {meth : Method} {c : Code} {H : Heap} {locs : List Loc} {cells slots mc ms : Nat} {ls : Array Slot} (F : Fx l G M d k u lv h p e R s m args meth c H locs cells slots mc ms ls) (As : List Value) : ∀ U : State, U.heap = H → s.WarmedH U.vm → PcG G As h As.toArray U := by
  intro U hU hW
  obtain ⟨hF, hM, hr, hls, hR, hK, hS, hC⟩ := F
  exact ⟨rfl, by rw [hU]; exact hR, va_K.moved hW.alike hK, CX.warm hW (by rw [hU]; exact hC.kept hS.2.1)⟩
theorem am_callV {i ci : Nat} {fs : List Value} (hd : decode M.2.1 pc = .ok (.invokevirtual idx, 3)) (hM : okV M.1.cls idx M2 n) (hn : As.length = n) (hh : h[i]? = some (.inr (ci, fs))) (hcl : (vwCl[ci]?).map (fun q => q.1) = some M2.1.cls) (hst : st1 = As.reverse ++ .ref (gz G + i) :: rest) (hw : (rest.map fun v => v.category).sum ≤ 8) (hd2 : d2 + 1 ≤ d) (hk2 : k2 ≤ k) (hu2 : u2 ≤ u) (hlen : (lg_sl (.ref (gz G + i) :: As)).length ≤ M2.2.2.1) (hC2 : Ct l G M2 d2 k2 u2 (.ref (gz G + i) :: As) h Q2)
    (kk : ∀ (v : Option Value) (h1 : List va_E), Q2 v h1 → Tr l G M d (k - k2) (u - u2) (pc + 3) lv (v.toList ++ rest) h1 Q) : Tr l G M d k u pc lv st1 h Q := by
  intro p e R s m args below meth c H locs cells slots mc ms ls F
  obtain ⟨⟨m5, m6, m7, m8, m4⟩, m1, m2, m3⟩ := hM
  have hts : ∀ w ∈ lw_g, w.before args s = true := fun w hw => F.1.2.2.2.2 w (List.mem_cons_of_mem _ hw)
  obtain ⟨r1, r2, r3, r4, r5, r6⟩ := F.2.2.1
  obtain ⟨q, hq1, hq2⟩ := Option.map_eq_some_iff.mp hcl
  have hrv := va_recv F.2.2.2.2.2.1 F.2.2.2.2.1.1 hq1 (wz_i (G := G) hh)
  rw [hq2] at hrv
  subst hst
  exact am_after p e R s m args below meth c H locs cells slots mc ms ls F hk2 hu2 (va_runV (C := M2.1.cls) (n := n) (As := As) F.1 (met_of hC2 m7 hlen) ⟨callB_of n F.1.2.2.2.2 (ws_good m5 M) rfl rfl rfl (hts _ m4) (hts _ m1) m6 ⟨by show d2 + 1 ≤ R.frames; omega, by show 8 + (M2.2.2.1 + 11) + 40 * d2 ≤ R.locals; omega⟩, hts _ m2, hts _ m3⟩ ⟨PcG.blind, hrv, pc_pre F _⟩ rfl hn F.2.2.2.1.1 rfl (lv_room hw) hd ⟨by omega, by omega⟩) kk
theorem am_callS (hd : decode M.2.1 pc = .ok (.invokestatic idx, 3)) (hM : okS M.1.cls idx M2 n) (hn : As.length = n) (hst : st1 = As.reverse ++ rest) (hw : (rest.map fun v => v.category).sum ≤ 8) (hd2 : d2 + 1 ≤ d) (hk2 : k2 ≤ k) (hu2 : u2 ≤ u) (hlen : (lg_sl As).length ≤ M2.2.2.1) (hC2 : Ct l G M2 d2 k2 u2 As h Q2)
    (kk : ∀ (v : Option Value) (h1 : List va_E), Q2 v h1 → Tr l G M d (k - k2) (u - u2) (pc + 3) lv (v.toList ++ rest) h1 Q) : Tr l G M d k u pc lv st1 h Q := by
  intro p e R s m args below meth c H locs cells slots mc ms ls F
  obtain ⟨⟨m5, m6, m7, m8, m4⟩, m1, m2⟩ := hM
  have hts : ∀ w ∈ lw_g, w.before args s = true := fun w hw => F.1.2.2.2.2 w (List.mem_cons_of_mem _ hw)
  obtain ⟨r1, r2, r3, r4, r5, r6⟩ := F.2.2.1
  subst hst
  exact am_after p e R s m args below meth c H locs cells slots mc ms ls F hk2 hu2 (va_runS (n := n) (As := As) F.1 (met_of hC2 m7 hlen) ⟨callB_of n F.1.2.2.2.2 (ws_good m5 M) rfl rfl rfl (hts _ m4) (hts _ m1) m6 ⟨by show d2 + 1 ≤ R.frames; omega, by show 8 + (M2.2.2.1 + 11) + 40 * d2 ≤ R.locals; omega⟩, hts _ m2⟩ ⟨PcG.blind, pc_pre F _⟩ rfl hn F.2.2.2.1.1 rfl (lv_room hw) hd ⟨by omega, by omega⟩) kk
theorem am_callSN (hd : decode M.2.1 pc = .ok (.invokestatic idx, 3)) (hM : okSN M.1.cls idx M2 n) (hn : As.length = n) (hst : st1 = As.reverse ++ rest) (hw : (rest.map fun v => v.category).sum ≤ 8) (hd2 : d2 + 1 ≤ d) (hk2 : k2 ≤ k) (hu2 : u2 ≤ u) (hlen : (lg_sl As).length ≤ M2.2.2.1) (hC2 : Ct l G M2 d2 k2 u2 As h Q2)
    (kk : ∀ (v : Option Value) (h1 : List va_E), Q2 v h1 → Tr l G M d (k - k2) (u - u2) (pc + 3) lv (v.toList ++ rest) h1 Q) : Tr l G M d k u pc lv st1 h Q := by
  intro p e R s m args below meth c H locs cells slots mc ms ls F
  obtain ⟨⟨m5, m6, m7, m8, m4⟩, m2, j, host, hj⟩ := hM
  have hts : ∀ w ∈ lw_g, w.before args s = true := fun w hw => F.1.2.2.2.2 w (List.mem_cons_of_mem _ hw)
  have hnw := F.2.2.2.2.2.2.2.2.2.2.2.1 j _ hj
  obtain ⟨r1, r2, r3, r4, r5, r6⟩ := F.2.2.1
  subst hst
  exact am_after p e R s m args below meth c H locs cells slots mc ms ls F hk2 hu2 (va_runSN (n := n) (As := As) F.1 (met_of hC2 m7 hlen) ⟨va_cnB n F.1.2.2.2.2 (ws_good m5 M) rfl rfl rfl hnw (hts _ m4) m6 ⟨by show d2 + 1 ≤ R.frames; omega, by show 8 + (M2.2.2.1 + 11) + 40 * d2 ≤ R.locals; omega⟩, hts _ m2, trivial⟩ ⟨PcG.blind, pc_pre F _⟩ rfl hn F.2.2.2.1.1 rfl (lv_room hw) hd ⟨by omega, by omega⟩) kk
theorem am_callI {a : Nat} (hd : decode M.2.1 pc = .ok (.invokespecial idx, 3)) (hM : okI M.1.cls idx M2 n) (hn : As.length = n) (hst : st1 = As.reverse ++ .ref a :: rest) (hw : (rest.map fun v => v.category).sum ≤ 8) (hd2 : d2 + 1 ≤ d) (hk2 : k2 ≤ k) (hu2 : u2 ≤ u) (hlen : (lg_sl (.ref a :: As)).length ≤ M2.2.2.1) (hC2 : Ct l G M2 d2 k2 u2 (.ref a :: As) h Q2)
    (kk : ∀ (v : Option Value) (h1 : List va_E), Q2 v h1 → Tr l G M d (k - k2) (u - u2) (pc + 3) lv (v.toList ++ rest) h1 Q) : Tr l G M d k u pc lv st1 h Q := by
  intro p e R s m args below meth c H locs cells slots mc ms ls F
  obtain ⟨⟨m5, m6, m7, m8, m4⟩, m1, m2, m3, m9⟩ := hM
  have hts : ∀ w ∈ lw_g, w.before args s = true := fun w hw => F.1.2.2.2.2 w (List.mem_cons_of_mem _ hw)
  obtain ⟨r1, r2, r3, r4, r5, r6⟩ := F.2.2.1
  subst hst
  have hmet := met_of hC2 m7 hlen
  exact am_after p e R s m args below meth c H locs cells slots mc ms ls F hk2 hu2 (va_runI (bytes := M2.2.1) (maxL := M2.2.2.1) (n := n) (As := As) F.1 hmet ⟨callB_of n F.1.2.2.2.2 (ws_good m5 M) (show wsM M2 = Cond.code M2.1 M2.2.1 M2.2.2.1 none :: lw_g by rw [← m9]) rfl rfl (hts _ m4) (hts _ m1) m6 ⟨by show d2 + 1 ≤ R.frames; omega, by show 8 + (M2.2.2.1 + 11) + 40 * d2 ≤ R.locals; omega⟩, m3, hts _ m2⟩ ⟨PcG.blind, pc_pre F _⟩ rfl hn F.2.2.2.1.1 rfl (lv_room hw) hd ⟨by omega, by omega⟩) kk
theorem am_objInit {a : Nat} (hd : decode M.2.1 pc = .ok (.invokespecial idx, 3)) (h1 : Cond.methodLink M.1.cls idx objectInit ∈ lw_g) (h2 : Cond.instanceMethod objectInit ∈ lw_g) (h3 : Cond.code objectInit ⟨#[0xb1]⟩ 1 none ∈ lw_g) (hw : (rest.map fun v => v.category).sum ≤ 8) (hd1 : 1 ≤ d) (k1 : Tr l G M d k u (pc + 3) lv rest h Q) : Tr l G M d k u pc lv (.ref a :: rest) h Q := by
  intro p e R s m args below meth c H locs cells slots mc ms ls F
  have hts : ∀ w ∈ lw_g, w.before args s = true := fun w hw => F.1.2.2.2.2 w (List.mem_cons_of_mem _ hw)
  obtain ⟨r1, r2, r3, r4, r5, r6⟩ := F.2.2.1
  exact W.objInit F.1.1 F.1.2.1 F.1.2.2.2.1 (hts _ h1) (hts _ h2) (hts _ h3) rfl (by rw [F.1.2.2.1]; exact F.2.2.2.1.1) rfl hd (by omega) (by have := lv_room (m := m) (pc := pc) (ls := ls) (rest := .ref a :: rest) hw; omega) (k1 p e R s m args below meth c H locs cells slots mc ms ls F)
/-- a String constant's own methods -/
theorem am_callK {j : Nat} {q : String × Nat × String × List Int32} (hd : decode M.2.1 pc = .ok (.invokevirtual idx, 3)) (hM : okV M.1.cls idx M2 n) (hn : As.length = n) (hj : strTab[j]? = some q) (hcl : M2.1.cls = "java/lang/String") (hst : st1 = As.reverse ++ .ref (gS G j) :: rest) (hw : (rest.map fun v => v.category).sum ≤ 8) (hd2 : d2 + 1 ≤ d) (hk2 : k2 ≤ k) (hu2 : u2 ≤ u) (hlen : (lg_sl (.ref (gS G j) :: As)).length ≤ M2.2.2.1) (hC2 : Ct l G M2 d2 k2 u2 (.ref (gS G j) :: As) h Q2)
    (kk : ∀ (v : Option Value) (h1 : List va_E), Q2 v h1 → Tr l G M d (k - k2) (u - u2) (pc + 3) lv (v.toList ++ rest) h1 Q) : Tr l G M d k u pc lv st1 h Q := by
  intro p e R s m args below meth c H locs cells slots mc ms ls F
  obtain ⟨⟨m5, m6, m7, m8, m4⟩, m1, m2, m3⟩ := hM
  have hts : ∀ w ∈ lw_g, w.before args s = true := fun w hw => F.1.2.2.2.2 w (List.mem_cons_of_mem _ hw)
  have hst2 := (F.2.2.2.2.2.2.2.1 j q hj).2.1.kept F.2.2.2.2.2.2.1.2.1
  obtain ⟨cell, c1, c2, c3, -⟩ := hst2
  obtain ⟨r1, r2, r3, r4, r5, r6⟩ := F.2.2.1
  subst hst
  exact am_after p e R s m args below meth c H locs cells slots mc ms ls F hk2 hu2 (va_runV (C := M2.1.cls) (n := n) (As := As) F.1 (met_of hC2 m7 hlen) ⟨callB_of n F.1.2.2.2.2 (ws_good m5 M) rfl rfl rfl (hts _ m4) (hts _ m1) m6 ⟨by show d2 + 1 ≤ R.frames; omega, by show 8 + (M2.2.2.1 + 11) + 40 * d2 ≤ R.locals; omega⟩, hts _ m2, hts _ m3⟩ ⟨PcG.blind, ⟨cell, c1, c2, by rw [hcl]; exact c3⟩, pc_pre F _⟩ rfl hn F.2.2.2.1.1 rfl (lv_room hw) hd ⟨by omega, by omega⟩) kk
theorem am_getSv {j : Nat} {q : String × Nat × String × List Int32} (hd : decode M.2.1 pc = .ok (.getfield idx, 3)) (hj : strTab[j]? = some q) (hl : Cond.fieldLink M.1.cls idx "java/lang/String" "value" "[B" ∈ lw_g) (k1 : Tr l G M d k u (pc + 3) lv (.ref (gV G j) :: rest) h Q) : Tr l G M d k u pc lv (.ref (gS G j) :: rest) h Q := by
  intro p e R s m args below meth c H locs cells slots mc ms ls F
  exact vk_getf F.1.1 F.1.2.1 (F.2.2.2.2.2.2.2.1 j q hj).2.2.2.1 F.2.2.2.2.2.2.1 F.1.2.2.2.1 (F.1.2.2.2.2 _ (List.mem_cons_of_mem _ hl)) (fun _ z => z) hd (k1 p e R s m args below meth c H locs cells slots mc ms ls F)
theorem am_getSc {j : Nat} {q : String × Nat × String × List Int32} (hd : decode M.2.1 pc = .ok (.getfield idx, 3)) (hj : strTab[j]? = some q) (hl : Cond.fieldLink M.1.cls idx "java/lang/String" "coder" "B" ∈ lw_g) (k1 : Tr l G M d k u (pc + 3) lv (.int 0 :: rest) h Q) : Tr l G M d k u pc lv (.ref (gS G j) :: rest) h Q := by
  intro p e R s m args below meth c H locs cells slots mc ms ls F
  exact vk_getf F.1.1 F.1.2.1 (F.2.2.2.2.2.2.2.1 j q hj).2.2.1 F.2.2.2.2.2.2.1 F.1.2.2.2.1 (F.1.2.2.2.2 _ (List.mem_cons_of_mem _ hl)) (fun _ z => z) hd (k1 p e R s m args below meth c H locs cells slots mc ms ls F)
theorem am_alenS {j : Nat} {q : String × Nat × String × List Int32} {v : Int32} (hd : decode M.2.1 pc = .ok (.arraylength, 1)) (hj : strTab[j]? = some q) (hv : Int32.ofNat q.2.2.2.length = v) (k1 : Tr l G M d k u (pc + 1) lv (.int v :: rest) h Q) : Tr l G M d k u pc lv (.ref (gV G j) :: rest) h Q := by
  intro p e R s m args below meth c H locs cells slots mc ms ls F
  exact va_tlen F.1.1 F.1.2.1 (F.2.2.2.2.2.2.2.1 j q hj).2.2.2.2 F.2.2.2.2.2.2.1 hv hd (k1 p e R s m args below meth c H locs cells slots mc ms ls F)
theorem am_baldS {j : Nat} {q : String × Nat × String × List Int32} {x : Int32} (hd : decode M.2.1 pc = .ok (.baload, 1)) (hj : strTab[j]? = some q) (hin : vp_in x q.2.2.2.length) (k1 : Tr l G M d k u (pc + 1) lv (.int (q.2.2.2.getD x.toNatClampNeg 0) :: rest) h Q) : Tr l G M d k u pc lv (.int x :: .ref (gV G j) :: rest) h Q := by
  intro p e R s m args below meth c H locs cells slots mc ms ls F
  exact va_tb F.1.1 F.1.2.1 (F.2.2.2.2.2.2.2.1 j q hj).2.2.2.2 F.2.2.2.2.2.2.1 hin rfl hd (k1 p e R s m args below meth c H locs cells slots mc ms ls F)
theorem am_compact (hd : decode M.2.1 pc = .ok (.getstatic idx, 3)) (hl : Cond.fieldLink M.1.cls idx "java/lang/String" "COMPACT_STRINGS" "Z" ∈ lw_g) (k1 : Tr l G M d k u (pc + 3) lv (.int 1 :: rest) h Q) : Tr l G M d k u pc lv rest h Q := by
  intro p e R s m args below meth c H locs cells slots mc ms ls F
  exact va_gets F.1.1 F.1.2.1 F.2.2.2.2.2.2.2.2.1.1 F.2.2.2.2.2.2.1 F.1.2.2.2.1 (F.1.2.2.2.2 _ (List.mem_cons_of_mem _ hl)) (fun _ z => z) hd (k1 p e R s m args below meth c H locs cells slots mc ms ls F)
theorem am_formatter (hd : decode M.2.1 pc = .ok (.getstatic idx, 3)) (hl : Cond.fieldLink M.1.cls idx "jdk/internal/util/Preconditions" "SIOOBE_FORMATTER" "Ljava/util/function/BiFunction;" ∈ lw_g) (k1 : Tr l G M d k u (pc + 3) lv (gF G :: rest) h Q) : Tr l G M d k u pc lv rest h Q := by
  intro p e R s m args below meth c H locs cells slots mc ms ls F
  exact va_gets F.1.1 F.1.2.1 F.2.2.2.2.2.2.2.2.1.2.2.2.2.2 F.2.2.2.2.2.2.1 F.1.2.2.2.1 (F.1.2.2.2.2 _ (List.mem_cons_of_mem _ hl)) (fun _ z => z) hd (k1 p e R s m args below meth c H locs cells slots mc ms ls F)
/-- the script -/
theorem am_sld {x : Int32} (hd : decode M.2.1 pc = .ok (.iaload, 1)) (hin : vp_in x (gL G)) (k1 : Tr l G M d k u (pc + 1) lv (.int (gX G x.toNatClampNeg) :: rest) h Q) : Tr l G M d k u pc lv (.int x :: .ref (gB G) :: rest) h Q := by
  intro p e R s m args below meth c H locs cells slots mc ms ls F
  have hb9 := F.2.2.2.2.2.2.2.2.2.2.1
  have hX := F.2.2.2.2.2.2.2.2.2.1
  have hb8 : gB G < s.heap.size := by
    obtain ⟨scr, b1, b2⟩ := hX
    exact (Array.getElem?_eq_some_iff.mp b1).1
  exact va_sld F.1.1 F.1.2.1 hX hb8 (by unfold gA; unfold gz at hb9; omega) F.2.2.2.2.2.2.1 hin hd (k1 p e R s m args below meth c H locs cells slots mc ms ls F)
theorem am_slen (hd : decode M.2.1 pc = .ok (.arraylength, 1)) (k1 : Tr l G M d k u (pc + 1) lv (.int (nI (gL G)) :: rest) h Q) : Tr l G M d k u pc lv (.ref (gB G) :: rest) h Q := by
  intro p e R s m args below meth c H locs cells slots mc ms ls F
  have hb9 := F.2.2.2.2.2.2.2.2.2.2.1
  have hX := F.2.2.2.2.2.2.2.2.2.1
  have hb8 : gB G < s.heap.size := by
    obtain ⟨scr, b1, b2⟩ := hX
    exact (Array.getElem?_eq_some_iff.mp b1).1
  exact va_slen F.1.1 F.1.2.1 hX hb8 (by unfold gA; unfold gz at hb9; omega) F.2.2.2.2.2.2.1 hd (k1 p e R s m args below meth c H locs cells slots mc ms ls F)
end TRD
