/-! The call rows over contracts as a caller sees them. -/
section MMC
variable {l : Launch} {G : GM} {M M2 : MD} {d k u pc d2 k2 u2 n idx : Nat} {lv lv' : List (Nat × Value)} {As rest st1 : List Value} {h : List va_E} {Q Q2 : Option Value → List va_E → Prop}
theorem mm_callV {i ci : Nat} {fs : List Value} (hd : decode M.2.1 pc = .ok (.invokevirtual idx, 3)) (hM : okV M.1.cls idx M2 n) (hn : As.length = n) (hh : h[i]? = some (.inr (ci, fs))) (hcl : (vwCl[ci]?).map (fun q => q.1) = some M2.1.cls) (hst : st1 = As.reverse ++ .ref (gz G + i) :: rest) (hw : (rest.map fun v => v.category).sum ≤ 8) (hd2 : d2 + 1 ≤ d) (hk2 : k2 ≤ k) (hu2 : u2 ≤ u) (hC2 : Cm l G M2 d2 k2 u2 (.ref (gz G + i) :: As) h Q2)
    (kk : ∀ (v : Option Value) (h1 : List va_E), Q2 v h1 → Tr l G M d (k - k2) (u - u2) (pc + 3) lv (v.toList ++ rest) h1 Q) : Tr l G M d k u pc lv st1 h Q := by
  intro p e R s m args below meth c H locs cells slots mc ms ls F
  obtain ⟨⟨m5, m6, m7, m8, m4⟩, m1, m2, m3⟩ := hM
  have hts : ∀ w ∈ lw_g, w.before args s = true := fun w hw => F.1.2.2.2.2 w (List.mem_cons_of_mem _ hw)
  obtain ⟨r1, r2, r3, r4, r5, r6⟩ := F.2.2.1
  obtain ⟨q, hq1, hq2⟩ := Option.map_eq_some_iff.mp hcl
  have hrv := va_recv F.2.2.2.2.2.1 F.2.2.2.2.1.1 hq1 (wz_i (G := G) hh)
  rw [hq2] at hrv
  subst hst
  exact am_after p e R s m args below meth c H locs cells slots mc ms ls F hk2 hu2 (va_runV (C := M2.1.cls) (n := n) (As := As) F.1 hC2 ⟨callB_of n F.1.2.2.2.2 (ws_good m5 M) rfl rfl rfl (hts _ m4) (hts _ m1) m6 ⟨by show d2 + 1 ≤ R.frames; omega, by show 8 + (M2.2.2.1 + 11) + 40 * d2 ≤ R.locals; omega⟩, hts _ m2, hts _ m3⟩ ⟨PcG.blind, hrv, pc_pre F _⟩ rfl hn F.2.2.2.1.1 rfl (lv_room hw) hd ⟨by omega, by omega⟩) kk
theorem mm_callS (hd : decode M.2.1 pc = .ok (.invokestatic idx, 3)) (hM : okS M.1.cls idx M2 n) (hn : As.length = n) (hst : st1 = As.reverse ++ rest) (hw : (rest.map fun v => v.category).sum ≤ 8) (hd2 : d2 + 1 ≤ d) (hk2 : k2 ≤ k) (hu2 : u2 ≤ u) (hC2 : Cm l G M2 d2 k2 u2 As h Q2)
    (kk : ∀ (v : Option Value) (h1 : List va_E), Q2 v h1 → Tr l G M d (k - k2) (u - u2) (pc + 3) lv (v.toList ++ rest) h1 Q) : Tr l G M d k u pc lv st1 h Q := by
  intro p e R s m args below meth c H locs cells slots mc ms ls F
  obtain ⟨⟨m5, m6, m7, m8, m4⟩, m1, m2⟩ := hM
  have hts : ∀ w ∈ lw_g, w.before args s = true := fun w hw => F.1.2.2.2.2 w (List.mem_cons_of_mem _ hw)
  obtain ⟨r1, r2, r3, r4, r5, r6⟩ := F.2.2.1
  subst hst
  exact am_after p e R s m args below meth c H locs cells slots mc ms ls F hk2 hu2 (va_runS (n := n) (As := As) F.1 hC2 ⟨callB_of n F.1.2.2.2.2 (ws_good m5 M) rfl rfl rfl (hts _ m4) (hts _ m1) m6 ⟨by show d2 + 1 ≤ R.frames; omega, by show 8 + (M2.2.2.1 + 11) + 40 * d2 ≤ R.locals; omega⟩, hts _ m2⟩ ⟨PcG.blind, pc_pre F _⟩ rfl hn F.2.2.2.1.1 rfl (lv_room hw) hd ⟨by omega, by omega⟩) kk
theorem mm_callSN (hd : decode M.2.1 pc = .ok (.invokestatic idx, 3)) (hM : okSN M.1.cls idx M2 n) (hn : As.length = n) (hst : st1 = As.reverse ++ rest) (hw : (rest.map fun v => v.category).sum ≤ 8) (hd2 : d2 + 1 ≤ d) (hk2 : k2 ≤ k) (hu2 : u2 ≤ u) (hC2 : Cm l G M2 d2 k2 u2 As h Q2)
    (kk : ∀ (v : Option Value) (h1 : List va_E), Q2 v h1 → Tr l G M d (k - k2) (u - u2) (pc + 3) lv (v.toList ++ rest) h1 Q) : Tr l G M d k u pc lv st1 h Q := by
  intro p e R s m args below meth c H locs cells slots mc ms ls F
  obtain ⟨⟨m5, m6, m7, m8, m4⟩, m2, j, host, hj⟩ := hM
  have hts : ∀ w ∈ lw_g, w.before args s = true := fun w hw => F.1.2.2.2.2 w (List.mem_cons_of_mem _ hw)
  have hnw := F.2.2.2.2.2.2.2.2.2.2.2.1 j _ hj
  obtain ⟨r1, r2, r3, r4, r5, r6⟩ := F.2.2.1
  subst hst
  exact am_after p e R s m args below meth c H locs cells slots mc ms ls F hk2 hu2 (va_runSN (n := n) (As := As) F.1 hC2 ⟨va_cnB n F.1.2.2.2.2 (ws_good m5 M) rfl rfl rfl hnw (hts _ m4) m6 ⟨by show d2 + 1 ≤ R.frames; omega, by show 8 + (M2.2.2.1 + 11) + 40 * d2 ≤ R.locals; omega⟩, hts _ m2, trivial⟩ ⟨PcG.blind, pc_pre F _⟩ rfl hn F.2.2.2.1.1 rfl (lv_room hw) hd ⟨by omega, by omega⟩) kk
theorem mm_callI {a : Nat} (hd : decode M.2.1 pc = .ok (.invokespecial idx, 3)) (hM : okI M.1.cls idx M2 n) (hn : As.length = n) (hst : st1 = As.reverse ++ .ref a :: rest) (hw : (rest.map fun v => v.category).sum ≤ 8) (hd2 : d2 + 1 ≤ d) (hk2 : k2 ≤ k) (hu2 : u2 ≤ u) (hC2 : Cm l G M2 d2 k2 u2 (.ref a :: As) h Q2)
    (kk : ∀ (v : Option Value) (h1 : List va_E), Q2 v h1 → Tr l G M d (k - k2) (u - u2) (pc + 3) lv (v.toList ++ rest) h1 Q) : Tr l G M d k u pc lv st1 h Q := by
  intro p e R s m args below meth c H locs cells slots mc ms ls F
  obtain ⟨⟨m5, m6, m7, m8, m4⟩, m1, m2, m3, m9⟩ := hM
  have hts : ∀ w ∈ lw_g, w.before args s = true := fun w hw => F.1.2.2.2.2 w (List.mem_cons_of_mem _ hw)
  obtain ⟨r1, r2, r3, r4, r5, r6⟩ := F.2.2.1
  subst hst
  have hmet := hC2
  exact am_after p e R s m args below meth c H locs cells slots mc ms ls F hk2 hu2 (va_runI (bytes := M2.2.1) (maxL := M2.2.2.1) (n := n) (As := As) F.1 hmet ⟨callB_of n F.1.2.2.2.2 (ws_good m5 M) (show wsM M2 = Cond.code M2.1 M2.2.1 M2.2.2.1 none :: lw_g by rw [← m9]) rfl rfl (hts _ m4) (hts _ m1) m6 ⟨by show d2 + 1 ≤ R.frames; omega, by show 8 + (M2.2.2.1 + 11) + 40 * d2 ≤ R.locals; omega⟩, m3, hts _ m2⟩ ⟨PcG.blind, pc_pre F _⟩ rfl hn F.2.2.2.1.1 rfl (lv_room hw) hd ⟨by omega, by omega⟩) kk
theorem mm_callK {j : Nat} {q : String × Nat × String × List Int32} (hd : decode M.2.1 pc = .ok (.invokevirtual idx, 3)) (hM : okV M.1.cls idx M2 n) (hn : As.length = n) (hj : strTab[j]? = some q) (hcl : M2.1.cls = "java/lang/String") (hst : st1 = As.reverse ++ .ref (gS G j) :: rest) (hw : (rest.map fun v => v.category).sum ≤ 8) (hd2 : d2 + 1 ≤ d) (hk2 : k2 ≤ k) (hu2 : u2 ≤ u) (hC2 : Cm l G M2 d2 k2 u2 (.ref (gS G j) :: As) h Q2)
    (kk : ∀ (v : Option Value) (h1 : List va_E), Q2 v h1 → Tr l G M d (k - k2) (u - u2) (pc + 3) lv (v.toList ++ rest) h1 Q) : Tr l G M d k u pc lv st1 h Q := by
  intro p e R s m args below meth c H locs cells slots mc ms ls F
  obtain ⟨⟨m5, m6, m7, m8, m4⟩, m1, m2, m3⟩ := hM
  have hts : ∀ w ∈ lw_g, w.before args s = true := fun w hw => F.1.2.2.2.2 w (List.mem_cons_of_mem _ hw)
  have hst2 := (F.2.2.2.2.2.2.2.1 j q hj).2.1.kept F.2.2.2.2.2.2.1.2.1
  obtain ⟨cell, c1, c2, c3, -⟩ := hst2
  obtain ⟨r1, r2, r3, r4, r5, r6⟩ := F.2.2.1
  subst hst
  exact am_after p e R s m args below meth c H locs cells slots mc ms ls F hk2 hu2 (va_runV (C := M2.1.cls) (n := n) (As := As) F.1 hC2 ⟨callB_of n F.1.2.2.2.2 (ws_good m5 M) rfl rfl rfl (hts _ m4) (hts _ m1) m6 ⟨by show d2 + 1 ≤ R.frames; omega, by show 8 + (M2.2.2.1 + 11) + 40 * d2 ≤ R.locals; omega⟩, hts _ m2, hts _ m3⟩ ⟨PcG.blind, ⟨cell, c1, c2, by rw [hcl]; exact c3⟩, pc_pre F _⟩ rfl hn F.2.2.2.1.1 rfl (lv_room hw) hd ⟨by omega, by omega⟩) kk
theorem mm_callSU {i ci : Nat} {C : String} {fs : List Value} (hd : decode M.2.1 pc = .ok (.invokespecial idx, 3)) (hM : okSU M.1.cls idx M2 n) (hn : As.length = n) (hh : h[i]? = some (.inr (ci, fs))) (hcl : (vwCl[ci]?).map (fun q => q.1) = some C) (hst : st1 = As.reverse ++ .ref (gz G + i) :: rest) (hw : (rest.map fun v => v.category).sum ≤ 8) (hd2 : d2 + 1 ≤ d) (hk2 : k2 ≤ k) (hu2 : u2 ≤ u) (hC2 : Cm l G M2 d2 k2 u2 (.ref (gz G + i) :: As) h Q2)
    (kk : ∀ (v : Option Value) (h1 : List va_E), Q2 v h1 → Tr l G M d (k - k2) (u - u2) (pc + 3) lv (v.toList ++ rest) h1 Q) : Tr l G M d k u pc lv st1 h Q := by
  intro p e R s m args below meth c H locs cells slots mc ms ls F
  obtain ⟨⟨m5, m6, m7, m8, m4⟩, m1, m2, m3, m9, m10⟩ := hM
  have hts : ∀ w ∈ lw_g, w.before args s = true := fun w hw => F.1.2.2.2.2 w (List.mem_cons_of_mem _ hw)
  obtain ⟨r1, r2, r3, r4, r5, r6⟩ := F.2.2.1
  obtain ⟨q, hq1, hq2⟩ := Option.map_eq_some_iff.mp hcl
  have hrv := va_recv F.2.2.2.2.2.1 F.2.2.2.2.1.1 hq1 (wz_i (G := G) hh)
  obtain ⟨hS0, hfc, kC, hkC, hkind⟩ := F.2.2.2.2.2.1.1 ci _ hq1
  rw [hq2] at hrv hfc
  subst hst
  exact am_after p e R s m args below meth c H locs cells slots mc ms ls F hk2 hu2 (va_runSU (C := C) ⟨hfc, kC, hkC, hkind⟩ F.1 hC2 ⟨⟨rfl, rfl, by show d2 + 1 ≤ R.frames; omega, by show 8 + (M2.2.2.1 + 11) + 40 * d2 ≤ R.locals; omega, pay_in F.1.2.2.2.2 (ws_good m5 M), List.mem_cons_self⟩, hts _ m1, hts _ m2, hts _ m3, hts _ m9, hts _ m4, hts _ m5, m10, fun sig h => by
    have h2 := m6.2.2
    rw [h] at h2
    exact (Option.some.inj h2).symm⟩ ⟨PcG.blind, hrv, pc_pre F _⟩ rfl hn F.2.2.2.1.1 rfl (lv_room hw) hd ⟨by omega, by omega⟩) kk
theorem mm_callU {i ci : Nat} {C : String} {fs : List Value} (hd : decode M.2.1 pc = .ok (.invokevirtual idx, 3)) (hM : okU M.1.cls C idx M2 n) (hn : As.length = n) (hh : h[i]? = some (.inr (ci, fs))) (hcl : (vwCl[ci]?).map (fun q => q.1) = some C) (hst : st1 = As.reverse ++ .ref (gz G + i) :: rest) (hw : (rest.map fun v => v.category).sum ≤ 8) (hd2 : d2 + 1 ≤ d) (hk2 : k2 ≤ k) (hu2 : u2 ≤ u) (hC2 : Cm l G M2 d2 k2 u2 (.ref (gz G + i) :: As) h Q2)
    (kk : ∀ (v : Option Value) (h1 : List va_E), Q2 v h1 → Tr l G M d (k - k2) (u - u2) (pc + 3) lv (v.toList ++ rest) h1 Q) : Tr l G M d k u pc lv st1 h Q := by
  intro p e R s m args below meth c H locs cells slots mc ms ls F
  obtain ⟨⟨m5, m6, m7, m8, m4⟩, m1, m2, m9, m10⟩ := hM
  have hts : ∀ w ∈ lw_g, w.before args s = true := fun w hw => F.1.2.2.2.2 w (List.mem_cons_of_mem _ hw)
  obtain ⟨r1, r2, r3, r4, r5, r6⟩ := F.2.2.1
  obtain ⟨q, hq1, hq2⟩ := Option.map_eq_some_iff.mp hcl
  have hrv := va_recv F.2.2.2.2.2.1 F.2.2.2.2.1.1 hq1 (wz_i (G := G) hh)
  rw [hq2] at hrv
  subst hst
  have hsel : (Cond.selects C M2.1 M2.1).before args s = true := hts _ m10
  exact am_after p e R s m args below meth c H locs cells slots mc ms ls F hk2 hu2 (va_runU (C := C) (owner := M2.1.cls) (x := M2.1) (y := M2.1) F.1 hC2 ⟨⟨rfl, rfl, by show d2 + 1 ≤ R.frames; omega, by show 8 + (M2.2.2.1 + 11) + 40 * d2 ≤ R.locals; omega, pay_in F.1.2.2.2.2 (ws_good m5 M), List.mem_cons_self⟩, hts _ m5, hts _ m4, ⟨m6.1, m6.2.1⟩, fun sig h => by
    have h2 := m6.2.2
    rw [h] at h2
    exact (Option.some.inj h2).symm, hts _ m1, hts _ m2, va_Decl.of (hts _ m9) (hts _ m5), hsel, hts _ m9⟩ ⟨PcG.blind, hrv, pc_pre F _⟩ rfl hn F.2.2.2.1.1 rfl (lv_room hw) hd ⟨by omega, by omega⟩) kk
end MMC
