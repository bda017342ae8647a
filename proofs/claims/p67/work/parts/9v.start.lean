/-! The law, to where the first object is loaded. -/
abbrev mL_law : MD := (yL_law, cL_law, 28, (some .boolean))
theorem ci_tF {n a b c d : Nat} {w w1 : Wd} {f : Nat → Int32} (h : CI n w f a b c d) (k : hz_tF w w1) : CI n w1 f a b c d := by
  obtain ⟨x1, ⟨r, r1, r2⟩, x3, ⟨cnt, old, d1, d2, d3, d4, d5⟩, L, l1, l2⟩ := h
  obtain ⟨k1, k2, k3, k4, k5⟩ := k
  refine ⟨by rw [k3]; exact x1, ⟨r, r1, by unfold hz_mo at r2 ⊢; rw [k4, k5]; exact r2⟩, ?_, ⟨cnt, old, d1, d2, (k1 11 (by decide) (by decide)).trans d3, (k1 12 (by decide) (by decide)).trans d4, fun i hi => by rw [k3]; exact d5 i hi⟩, L, l1, (k1 0 (by decide) (by decide)).trans l2⟩
  rcases x3 with z | ⟨z1, z2, z3, z4⟩
  · exact Or.inl ((k1 13 (by decide) (by decide)).trans z)
  · refine Or.inr ⟨by rw [k1 13 (by decide) (by decide)]; exact z1, ?_⟩
    rw [k3]
    exact ⟨fun j hj => by rw [k2]; exact z2 j hj, by rw [k1 14 (by decide) (by decide)]; exact z3, by rw [k1 15 (by decide) (by decide)]; exact z4⟩
theorem vt_E : VT plE 0 0 0 0 := ⟨⟨by decide, by decide, by decide, by decide⟩, ⟨vn_I (a := 30) (by decide) (by decide) (by decide), vn_I (a := 6) (by decide) (by decide) (by decide), vn_I (a := 60) (by decide) (by decide) (by decide), vn_I (a := 2) (by decide) (by decide) (by decide), rfl⟩, fun i hi => absurd hi (Nat.not_lt_zero i), fun i hi => absurd hi (Nat.not_lt_zero i), fun i hi => absurd hi (Nat.not_lt_zero i), fun i hi => absurd hi (Nat.not_lt_zero i)⟩
theorem ag_E : AG plE plE 0 0 0 0 := ⟨⟨rfl, rfl, rfl, rfl⟩, ⟨rfl, rfl, rfl, rfl, rfl⟩, fun i hi => absurd hi (Nat.not_lt_zero i), fun i hi => absurd hi (Nat.not_lt_zero i), fun i hi => absurd hi (Nat.not_lt_zero i), fun i hi => absurd hi (Nat.not_lt_zero i)⟩
theorem wt_E : wtB plE 0 0 0 0 = sq32.2.2.2 := by decide +kernel
theorem c_max {X n : Nat} (hX : X ≤ 2000) (h1 : 16 ≤ n) (h2 : n ≤ 4096) : cK X n ≤ 112 ∧ cU X n ≤ 12200 := by
  have L := c_bd hX X n h1 (by omega)
  omega
theorem sd_eqK {l : Launch} {G : GM} {h : List va_E} {lo si j : Nat} {T : List Int32} {q : String × Nat × String × List Int32} (s : SD G lo h si T) (hj : strTab[j]? = some q) (e : q.2.2.2 = T) : Ct l G mJ0_equals_9ea2d 1 0 0 [.ref (gz G + si), .ref (gS G j)] h (fun r h1 => r = some (.int 1) ∧ h1 = h) := by
  obtain ⟨sr, f, -, -, s3, s4⟩ := s
  exact ctJ0_eqK s3 hj (by rw [e]) (fun i hi => by rw [e]; exact s4 i hi)
theorem sd_eqD {l : Launch} {G : GM} {h : List va_E} {lo lo2 si sj : Nat} {T : List Int32} (s : SD G lo h si T) (t : SD G lo2 h sj T) : Ct l G mJ0_equals_9ea2d 1 0 0 [.ref (gz G + si), .ref (gz G + sj)] h (fun r h1 => r = some (.int 1) ∧ h1 = h) := by
  obtain ⟨sr, f, -, -, s3, s4⟩ := s
  obtain ⟨tr, g, -, -, t3, t4⟩ := t
  exact ctJ0_eqD s3 t3 (fun i hi => by rw [s4 i hi, t4 i hi])
theorem sd_at {G : GM} {h : List va_E} {lo si : Nat} {T : List Int32} (s : SD G lo h si T) : ∃ fs, h[si]? = some (.inr (8, fs)) := by
  obtain ⟨sr, f, -, -, s3, -⟩ := s
  exact ⟨_, s3.1⟩
section LAW
variable {l : Launch} {G : GM} {d : Nat} {Q : Option Value → List va_E → Prop}
theorem dL_law_0 : decode cL_law 0 = .ok (.new 25, 3) := by decide +kernel
theorem dL_law_3 : decode cL_law 3 = .ok (.dup, 1) := by decide +kernel
theorem dL_law_4 : decode cL_law 4 = .ok (.invokespecial 159, 3) := by decide +kernel
theorem dL_law_7 : decode cL_law 7 = .ok (.astore_n 1, 1) := by decide +kernel
theorem dL_law_8 : decode cL_law 8 = .ok (.aload_n 1, 1) := by decide +kernel
theorem dL_law_9 : decode cL_law 9 = .ok (.invokestatic 160, 3) := by decide +kernel
theorem dL_law_12 : decode cL_law 12 = .ok (.ldc 164, 2) := by decide +kernel
theorem dL_law_14 : decode cL_law 14 = .ok (.invokevirtual 166, 3) := by decide +kernel
theorem dL_law_17 : decode cL_law 17 = .ok (.ifCond .eq 11, 3) := by decide +kernel
theorem dL_law_20 : decode cL_law 20 = .ok (.aload_n 1, 1) := by decide +kernel
theorem dL_law_21 : decode cL_law 21 = .ok (.aload_n 0, 1) := by decide +kernel
theorem dL_law_22 : decode cL_law 22 = .ok (.invokestatic 170, 3) := by decide +kernel
theorem dL_law_25 : decode cL_law 25 = .ok (.ifCond .ne 5, 3) := by decide +kernel
set_option maxRecDepth 20000 in
theorem sg_A (hL : gL G ≤ 260) {k0 u0 : Nat} (hd : 23 ≤ d) (kk : ∀ h1 w1 m, OB G h1 0 w1 → LD G 0 w1 → WT w1 (wtB plE 0 0 0 0) m → Tr l G mL_law d k0 u0 30 [(1, .ref (gz G + 0)), (0, .ref (gB G))] [] h1 Q) : Tr l G mL_law d (k0 + 600) (u0 + 340000) 0 [(0, .ref (gB G))] [] [] Q := by
  refine am_newL (n := 0) rfl (k1 := k0 + 599) (u1 := u0 + 339991) dL_law_0 kNL_25 (by omega) (by omega) ?_
  refine am_dup dL_law_3 rfl ?_
  refine mm_callI (As := []) (rest := [.ref (gz G + 0)]) dL_law_4 kML_159 rfl rfl (Nat.le_of_ble_eq_true rfl) (d2 := 4) (by omega) (k2 := 220) (by omega) (u2 := 11749) (by omega) (om_init (B := 0) rfl rfl) (fun r1 h1 q3 => ?_)
  obtain ⟨rfl, n1, -, o1⟩ := q3
  refine am_astore_n dL_law_7 (by decide) (lv' := [(1, .ref (gz G + 0)), (0, .ref (gB G))]) rfl ?_
  refine am_aload_n dL_law_8 0 rfl ?_
  have C0 := ci_0
  have cm := c_max (X := (wtB plE 0 0 0 0).length) (n := 16) (by rw [wt_E]; decide) (by decide) (by decide)
  have wl : (wtB plE 0 0 0 0).length = 30 := by rw [wt_E]; rfl
  have tE : TA (wtB plE 0 0 0 0) := tc_ta (wt_tc vt_E)
  refine am_callS (As := [.ref (gz G + 0)]) (rest := []) dL_law_9 kML_160 rfl rfl (Nat.le_of_ble_eq_true rfl) (d2 := 10) (by omega) (k2 := (cK (wtB plE 0 0 0 0).length 16 + (2 + 1 * (wtB plE 0 0 0 0).length + 2))) (by omega) (u2 := (cU (wtB plE 0 0 0 0).length 16 + (20 + 2000 * (wtB plE 0 0 0 0).length + (4 + (wtB plE 0 0 0 0).length)))) (by omega) (Nat.le_of_ble_eq_true rfl) (ctL_written o1 wt_0 vt_E ag_E tE (by omega)) (fun r1 h2 q3 => ?_)
  obtain ⟨si, w1, rfl, o2, g2, f2, t2, s2, n2⟩ := q3
  refine am_room (k1 := k0 + 123) (u1 := u0 + 233324) ?_ (by omega) (by omega)
  refine am_ldcS (j := 32) dL_law_12 rfl ?_
  obtain ⟨fs, hfs⟩ := sd_at s2
  refine am_callV (As := [.ref (gS G 32)]) (rest := []) dL_law_14 kML_166 rfl hfs rfl rfl (Nat.le_of_ble_eq_true rfl) (d2 := 1) (by omega) (k2 := 0) (Nat.zero_le _) (u2 := 0) (Nat.zero_le _) (Nat.le_of_ble_eq_true rfl) (sd_eqK (q := sq32) s2 rfl wt_E.symm) (fun r1 h3 q3 => ?_)
  obtain ⟨rfl, e0⟩ := q3
  subst e0
  refine am_if_eq dL_law_17 (by decide : ((17 : Nat) : Int) + (11) = ((28 : Nat) : Int)) (fun zq => absurd zq (by decide)) (fun _ => ?_)
  refine am_aload_n dL_law_20 0 rfl ?_
  refine am_aload_n dL_law_21 1 rfl ?_
  refine am_callS (As := [.ref (gz G + 0), .ref (gB G)]) (rest := []) dL_law_22 kML_170 rfl rfl (Nat.le_of_ble_eq_true rfl) (d2 := 10) (by omega) (k2 := 123) (by omega) (u2 := 233324) (by omega) (Nat.le_of_ble_eq_true rfl) (ctL_load hL o2 (ci_tF C0 f2) ((f2.1 0 (by decide) (by decide)).trans rfl)) (fun r1 h4 q3 => ?_)
  obtain ⟨rfl, w2, o4, g4, L4, x4, y4⟩ := q3
  refine am_if_ne dL_law_25 (by decide : ((25 : Nat) : Int) + (5) = ((30 : Nat) : Int)) (fun _ => ?_) (fun zq => absurd zq (by decide))
  exact am_room (kk h4 w2 _ o4 L4 (wt_wi t2 x4 y4)) (by omega) (by omega)
end LAW
