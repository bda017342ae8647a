/-! The JDK's StringBuilder: appending an int, setLength(0), charAt; the class itself. -/
theorem sb_set1 {G : GM} {h h1 : List va_E} {v n C C1 : Nat} {f : Nat → Int32} {ml ml1 : Int32} (hb : SBc G h v n C f ml) (hC : C1 ≤ n) (e : h1 = h.set 19 (.inr (0, [.ref (gz G + v), .int 0, .int ml1, .int (nI C1)]))) : SBc G h1 v n C1 f ml1 ∧ SBf h h1 v v := by
  obtain ⟨b1, b2, b3, b4, b5, b6, b7, b8⟩ := hb
  subst e
  refine ⟨⟨hs_self b1, hs_ne b2 (by omega), b3, by rw [List.length_set]; exact b4, b5, hC, b7, b8⟩, by rw [List.length_set]; exact Nat.le_refl _, fun a ha h2 h3 => ?_, Or.inl rfl⟩
  rw [List.getElem?_set_ne (by omega)]
theorem sb_set0 {G : GM} {h : List va_E} {v n C : Nat} {f : Nat → Int32} {ml ml1 : Int32} (hb : SBc G h v n C f ml) : SBc G (h.set 19 (.inr (0, [.ref (gz G + v), .int 0, .int ml1, .int 0]))) v n 0 f ml1 ∧ SBf h (h.set 19 (.inr (0, [.ref (gz G + v), .int 0, .int ml1, .int 0]))) v v := by
  have h := sb_set1 (ml1 := ml1) (C1 := 0) hb (by omega) rfl
  rw [nI_0] at h
  exact h
def sbW (z : Nat) : Nat := if z < 10 then 1 else if z < 100 then 2 else if z < 1000 then 3 else 4
theorem sbW_le (z : Nat) : 1 ≤ sbW z ∧ sbW z ≤ 4 := by
  unfold sbW
  by_cases c1 : z < 10
  · rw [if_pos c1]; omega
  · rw [if_neg c1]
    by_cases c2 : z < 100
    · rw [if_pos c2]; omega
    · rw [if_neg c2]
      by_cases c3 : z < 1000
      · rw [if_pos c3]; omega
      · rw [if_neg c3]; omega
theorem ctJ6_size {l : Launch} {G : GM} {h : List va_E} {z : Nat} (hz : z < 10000) : Ct l G mJ6_stringSize_0f7a4 0 0 0 [.int (nI z)] h (fun r h1 => r = some (.int (nI (sbW z))) ∧ h1 = h) := by
  unfold sbW
  by_cases c1 : z < 10
  · rw [if_pos c1]; exact ctJ6_size1 c1
  · by_cases c2 : z < 100
    · rw [if_neg c1, if_pos c2]; exact ctJ6_size2 ⟨by omega, c2⟩
    · by_cases c3 : z < 1000
      · rw [if_neg c1, if_neg c2, if_pos c3]; exact ctJ6_size3 ⟨by omega, c3⟩
      · rw [if_neg c1, if_neg c2, if_neg c3]; exact ctJ6_size4 ⟨by omega, hz⟩
theorem ctJ6_chars {l : Launch} {G : GM} {h : List va_E} {v n e z : Nat} {f : Nat → Int32} (hv : h[v]? = some (.inl (1, n, .inl f))) (hf : hz_fit f) (hz : z < 10000) (h1 : sbW z ≤ e) (h2 : e ≤ n) (h3 : n ≤ 4096) : Ct l G mJ6_getChars_ba4f3 0 0 0 [.int (nI z), .int (nI e), .ref (gz G + v)] h (fun r h1 => r = some (.int (nI (e - sbW z))) ∧ ∃ g, h1 = h.set v (.inl (1, n, .inl g)) ∧ hz_fit g ∧ (∀ j, j < e - sbW z → g j = f j) ∧ ∀ i, i < sbW z → g (e - sbW z + i) = nI (48 + z / 10 ^ (sbW z - 1 - i) % 10)) := by
  unfold sbW at *
  by_cases c1 : z < 10
  · rw [if_pos c1] at h1 ⊢; exact ctJ6_chars1 hv hf c1 h1 h2 h3
  · by_cases c2 : z < 100
    · rw [if_neg c1, if_pos c2] at h1 ⊢; exact ctJ6_chars2 hv hf ⟨by omega, c2⟩ h1 h2 h3
    · by_cases c3 : z < 1000
      · rw [if_neg c1, if_neg c2, if_pos c3] at h1 ⊢; exact ctJ6_chars3 hv hf ⟨by omega, c3⟩ h1 h2 h3
      · rw [if_neg c1, if_neg c2, if_neg c3] at h1 ⊢; exact ctJ6_chars4 hv hf ⟨by omega, hz⟩ h1 h2 h3
theorem dJ5_append_c97b9_0 : decode cJ5_append_c97b9 0 = .ok (.aload_n 0, 1) := by decide +kernel
theorem dJ5_append_c97b9_1 : decode cJ5_append_c97b9 1 = .ok (.getfield 79, 3) := by decide +kernel
theorem dJ5_append_c97b9_4 : decode cJ5_append_c97b9 4 = .ok (.istore_n 2, 1) := by decide +kernel
theorem dJ5_append_c97b9_5 : decode cJ5_append_c97b9 5 = .ok (.iload_n 2, 1) := by decide +kernel
theorem dJ5_append_c97b9_6 : decode cJ5_append_c97b9 6 = .ok (.iload_n 1, 1) := by decide +kernel
theorem dJ5_append_c97b9_7 : decode cJ5_append_c97b9 7 = .ok (.invokestatic 245, 3) := by decide +kernel
theorem dJ5_append_c97b9_10 : decode cJ5_append_c97b9 10 = .ok (.iadd, 1) := by decide +kernel
theorem dJ5_append_c97b9_11 : decode cJ5_append_c97b9 11 = .ok (.istore_n 3, 1) := by decide +kernel
theorem dJ5_append_c97b9_12 : decode cJ5_append_c97b9 12 = .ok (.aload_n 0, 1) := by decide +kernel
theorem dJ5_append_c97b9_13 : decode cJ5_append_c97b9 13 = .ok (.iload_n 3, 1) := by decide +kernel
theorem dJ5_append_c97b9_14 : decode cJ5_append_c97b9 14 = .ok (.invokevirtual 100, 3) := by decide +kernel
theorem dJ5_append_c97b9_17 : decode cJ5_append_c97b9 17 = .ok (.aload_n 0, 1) := by decide +kernel
theorem dJ5_append_c97b9_18 : decode cJ5_append_c97b9 18 = .ok (.invokevirtual 83, 3) := by decide +kernel
theorem dJ5_append_c97b9_21 : decode cJ5_append_c97b9 21 = .ok (.ifCond .eq 16, 3) := by decide +kernel
theorem dJ5_append_c97b9_24 : decode cJ5_append_c97b9 24 = .ok (.iload_n 1, 1) := by decide +kernel
theorem dJ5_append_c97b9_25 : decode cJ5_append_c97b9 25 = .ok (.iload_n 3, 1) := by decide +kernel
theorem dJ5_append_c97b9_26 : decode cJ5_append_c97b9 26 = .ok (.aload_n 0, 1) := by decide +kernel
theorem dJ5_append_c97b9_27 : decode cJ5_append_c97b9 27 = .ok (.getfield 15, 3) := by decide +kernel
theorem dJ5_append_c97b9_30 : decode cJ5_append_c97b9 30 = .ok (.invokestatic 248, 3) := by decide +kernel
theorem dJ5_append_c97b9_33 : decode cJ5_append_c97b9 33 = .ok (.pop, 1) := by decide +kernel
theorem dJ5_append_c97b9_34 : decode cJ5_append_c97b9 34 = .ok (.goto 14, 3) := by decide +kernel
theorem dJ5_append_c97b9_48 : decode cJ5_append_c97b9 48 = .ok (.aload_n 0, 1) := by decide +kernel
theorem dJ5_append_c97b9_49 : decode cJ5_append_c97b9 49 = .ok (.iload_n 3, 1) := by decide +kernel
theorem dJ5_append_c97b9_50 : decode cJ5_append_c97b9 50 = .ok (.putfield 79, 3) := by decide +kernel
theorem dJ5_append_c97b9_53 : decode cJ5_append_c97b9 53 = .ok (.aload_n 0, 1) := by decide +kernel
theorem dJ5_append_c97b9_54 : decode cJ5_append_c97b9 54 = .ok (.areturn, 1) := by decide +kernel
set_option maxRecDepth 20000 in
theorem ctJ5_appendI {l : Launch} {G : GM} {h : List va_E} {v n C : Nat} {f : Nat → Int32} {ml : Int32} (hb : SBc G h v n C f ml) {z : Nat} (hz : z < 10000) (hC : C + sbW z ≤ 2000) : Ct l G mJ5_append_c97b9 4 (sbK (C + sbW z) n) (sbU (C + sbW z) n) [.ref (gz G + 19), .int (nI z)] h (fun r h1 => r = some (.ref (gz G + 19)) ∧ ∃ v1 n1 f1, SBc G h1 v1 n1 (C + sbW z) f1 ml ∧ SBf h h1 v v1 ∧ n1 = sbN (C + sbW z) n ∧ (∀ j, j < C → f1 j = f j) ∧ ∀ i, i < sbW z → f1 (C + i) = nI (48 + z / 10 ^ (sbW z - 1 - i) % 10)) := by
  show Tr l G mJ5_append_c97b9 4 (sbK (C + sbW z) n) (sbU (C + sbW z) n) 0 [(0, .ref (gz G + 19)), (1, .int (nI z))] [] h _
  have hCn := hb.2.2.2.2.2.1
  have hn16 := hb.2.2.2.2.2.2.1
  have hsw := sbW_le z
  refine am_aload_n dJ5_append_c97b9_0 0 rfl ?_
  refine am_get dJ5_append_c97b9_1 kGJ5_79 hb.1 rfl ?_
  refine am_istore_n dJ5_append_c97b9_4 (by decide) (lv' := [(2, .int (nI C)), (0, .ref (gz G + 19)), (1, .int (nI z))]) rfl ?_
  refine am_iload_n dJ5_append_c97b9_5 0 rfl ?_
  refine am_iload_n dJ5_append_c97b9_6 2 rfl ?_
  refine am_callS (As := [.int (nI z)]) (rest := [.int (nI C)]) dJ5_append_c97b9_7 kMJ5_245 rfl rfl (Nat.le_of_ble_eq_true rfl) (d2 := 0) (by decide) (k2 := 0) (Nat.zero_le _) (u2 := 0) (Nat.zero_le _) (Nat.le_of_ble_eq_true rfl) (ctJ6_size hz) (fun r3 h3 q3 => ?_)
  obtain ⟨rfl, rfl⟩ := q3
  refine am_iadd dJ5_append_c97b9_10 ?_
  rw [nI_add]
  refine am_istore_n dJ5_append_c97b9_11 (by decide) (lv' := [(3, .int (nI (C + sbW z))), (2, .int (nI C)), (0, .ref (gz G + 19)), (1, .int (nI z))]) rfl ?_
  refine am_aload_n dJ5_append_c97b9_12 2 rfl ?_
  refine am_iload_n dJ5_append_c97b9_13 0 rfl ?_
  refine am_callU (As := [.int (nI (C + sbW z))]) (rest := []) dJ5_append_c97b9_14 kUJ5_100 rfl hb.1 rfl rfl (Nat.le_of_ble_eq_true rfl) (d2 := 3) (by decide) (k2 := sbK (C + sbW z) n) (Nat.le_refl _) (u2 := sbU (C + sbW z) n) (Nat.le_refl _) (Nat.le_of_ble_eq_true rfl) (ctJ5_ens hb (q := C + sbW z) (by omega) hC) (fun r1 h1 q3 => ?_)
  obtain ⟨rfl, v1, n1, f1, hb1, hF1, hn1, hk1⟩ := q3
  have hv1 := hb1.2.2.1
  have hn4 := hb1.2.2.2.2.2.2.2
  have hq1 : C + sbW z ≤ n1 := by rw [hn1]; exact sbN_ge _ _
  refine am_aload_n dJ5_append_c97b9_17 2 rfl ?_
  refine am_callU (As := []) (rest := []) dJ5_append_c97b9_18 kUJ5_83 rfl hb1.1 rfl rfl (Nat.le_of_ble_eq_true rfl) (d2 := 0) (by decide) (k2 := 0) (Nat.zero_le _) (u2 := 0) (Nat.zero_le _) (Nat.le_of_ble_eq_true rfl) (ctJ5_isLatin1 hb1) (fun r2 h2 q3 => ?_)
  obtain ⟨rfl, rfl⟩ := q3
  refine am_if_eq dJ5_append_c97b9_21 (by decide : ((21 : Nat) : Int) + (16) = ((37 : Nat) : Int)) (fun zq => absurd zq (by decide)) (fun _ => ?_)
  refine am_iload_n dJ5_append_c97b9_24 3 rfl ?_
  refine am_iload_n dJ5_append_c97b9_25 0 rfl ?_
  refine am_aload_n dJ5_append_c97b9_26 2 rfl ?_
  refine am_get dJ5_append_c97b9_27 kGJ5_15 hb1.1 rfl ?_
  refine am_callS (As := [.int (nI z), .int (nI (C + sbW z)), .ref (gz G + v1)]) (rest := []) dJ5_append_c97b9_30 kMJ5_248 rfl rfl (Nat.le_of_ble_eq_true rfl) (d2 := 0) (by decide) (k2 := 0) (Nat.zero_le _) (u2 := 0) (Nat.zero_le _) (Nat.le_of_ble_eq_true rfl) (ctJ6_chars hb1.2.1 hb1.2.2.2.2.1 hz (by omega) hq1 hb1.2.2.2.2.2.2.2) (fun r3 h3 q3 => ?_)
  obtain ⟨rfl, g, rfl, hg1, hg2, hg3⟩ := q3
  have hb2 := hs_ne (c1 := (.inl (1, n1, .inl g) : va_E)) hb1.1 (fun z => hv1 z)
  refine am_pop dJ5_append_c97b9_33 rfl ?_
  refine am_goto dJ5_append_c97b9_34 (by decide : ((34 : Nat) : Int) + (14) = ((48 : Nat) : Int)) ?_
  refine am_aload_n dJ5_append_c97b9_48 2 rfl ?_
  refine am_iload_n dJ5_append_c97b9_49 0 rfl ?_
  refine am_put dJ5_append_c97b9_50 kFJ5_79 hb2 (Nat.le_of_ble_eq_true rfl) rfl rfl ?_
  refine am_aload_n dJ5_append_c97b9_53 2 rfl ?_
  have hx := sb_set hb1 (g := g) hg1 hq1 (sb_comm hv1)
  rw [show C + sbW z - sbW z = C by omega] at hg2 hg3
  exact am_areturn dJ5_append_c97b9_54 rfl (Or.inl ⟨_, rfl⟩) ⟨rfl, v1, n1, g, hx.1, sbfT hF1 hx.2, hn1, fun j hj => (hg2 j hj).trans (hk1 j (by omega)), hg3⟩
theorem dJ5_setLength_d00df_0 : decode cJ5_setLength_d00df 0 = .ok (.iload_n 1, 1) := by decide +kernel
theorem dJ5_setLength_d00df_1 : decode cJ5_setLength_d00df 1 = .ok (.ifCond .ge 12, 3) := by decide +kernel
theorem dJ5_setLength_d00df_13 : decode cJ5_setLength_d00df 13 = .ok (.aload_n 0, 1) := by decide +kernel
theorem dJ5_setLength_d00df_14 : decode cJ5_setLength_d00df 14 = .ok (.iload_n 1, 1) := by decide +kernel
theorem dJ5_setLength_d00df_15 : decode cJ5_setLength_d00df 15 = .ok (.invokevirtual 100, 3) := by decide +kernel
theorem dJ5_setLength_d00df_18 : decode cJ5_setLength_d00df 18 = .ok (.aload_n 0, 1) := by decide +kernel
theorem dJ5_setLength_d00df_19 : decode cJ5_setLength_d00df 19 = .ok (.getfield 79, 3) := by decide +kernel
theorem dJ5_setLength_d00df_22 : decode cJ5_setLength_d00df 22 = .ok (.iload_n 1, 1) := by decide +kernel
theorem dJ5_setLength_d00df_23 : decode cJ5_setLength_d00df 23 = .ok (.if_icmp .ge 40, 3) := by decide +kernel
theorem dJ5_setLength_d00df_63 : decode cJ5_setLength_d00df 63 = .ok (.aload_n 0, 1) := by decide +kernel
theorem dJ5_setLength_d00df_64 : decode cJ5_setLength_d00df 64 = .ok (.getfield 79, 3) := by decide +kernel
theorem dJ5_setLength_d00df_67 : decode cJ5_setLength_d00df 67 = .ok (.iload_n 1, 1) := by decide +kernel
theorem dJ5_setLength_d00df_68 : decode cJ5_setLength_d00df 68 = .ok (.if_icmp .le 8, 3) := by decide +kernel
theorem dJ5_setLength_d00df_76 : decode cJ5_setLength_d00df 76 = .ok (.aload_n 0, 1) := by decide +kernel
theorem dJ5_setLength_d00df_77 : decode cJ5_setLength_d00df 77 = .ok (.iload_n 1, 1) := by decide +kernel
theorem dJ5_setLength_d00df_78 : decode cJ5_setLength_d00df 78 = .ok (.putfield 79, 3) := by decide +kernel
theorem dJ5_setLength_d00df_81 : decode cJ5_setLength_d00df 81 = .ok (.return_, 1) := by decide +kernel
set_option maxRecDepth 20000 in
theorem ctJ5_setLen0 {l : Launch} {G : GM} {h : List va_E} {v n C : Nat} {f : Nat → Int32} {ml : Int32} (hb : SBc G h v n C f ml) (hc : C = 0) : Ct l G mJ5_setLength_d00df 4 0 0 [.ref (gz G + 19), .int 0] h (fun r h1 => r = none ∧ ∃ ml1, SBc G h1 v n 0 f ml1 ∧ SBf h h1 v v) := by
  show Tr l G mJ5_setLength_d00df 4 0 0 0 [(0, .ref (gz G + 19)), (1, .int 0)] [] h _
  have hn := hb.2.2.2.2.2.2.2
  have hCn := hb.2.2.2.2.2.1
  have he0 := ctJ5_ens0 (l := l) hb (q := 0) (by omega)
  rw [nI_0] at he0
  refine am_iload_n dJ5_setLength_d00df_0 1 rfl ?_
  refine am_if_ge dJ5_setLength_d00df_1 (by decide : ((1 : Nat) : Int) + (12) = ((13 : Nat) : Int)) (fun _ => ?_) (fun zq => absurd (by decide) zq)
  refine am_aload_n dJ5_setLength_d00df_13 0 rfl ?_
  refine am_iload_n dJ5_setLength_d00df_14 1 rfl ?_
  refine am_callU (As := [.int 0]) (rest := []) dJ5_setLength_d00df_15 kUJ5_100 rfl hb.1 rfl rfl (Nat.le_of_ble_eq_true rfl) (d2 := 3) (by decide) (k2 := 0) (Nat.zero_le _) (u2 := 0) (Nat.zero_le _) (Nat.le_of_ble_eq_true rfl) he0 (fun r1 h1 q3 => ?_)
  obtain ⟨rfl, rfl⟩ := q3
  refine am_aload_n dJ5_setLength_d00df_18 0 rfl ?_
  refine am_get dJ5_setLength_d00df_19 kGJ5_79 hb.1 rfl ?_
  refine am_iload_n dJ5_setLength_d00df_22 1 rfl ?_
  refine am_icmp_ge dJ5_setLength_d00df_23 (by decide : ((23 : Nat) : Int) + (40) = ((63 : Nat) : Int)) (fun _ => ?_) (fun zq => absurd (nI_pos' (by omega)) zq)
  refine am_aload_n dJ5_setLength_d00df_63 0 rfl ?_
  refine am_get dJ5_setLength_d00df_64 kGJ5_79 hb.1 rfl ?_
  refine am_iload_n dJ5_setLength_d00df_67 1 rfl ?_
  refine am_icmp_le dJ5_setLength_d00df_68 (by decide : ((68 : Nat) : Int) + (8) = ((76 : Nat) : Int)) (fun _ => ?_) (fun zq => absurd (by rw [hc]; decide) zq)
  refine am_aload_n dJ5_setLength_d00df_76 0 rfl ?_
  refine am_iload_n dJ5_setLength_d00df_77 1 rfl ?_
  refine am_put dJ5_setLength_d00df_78 kFJ5_79 hb.1 (Nat.le_of_ble_eq_true rfl) rfl rfl ?_
  have hx := sb_set0 (ml1 := ml) hb
  exact am_return dJ5_setLength_d00df_81 rfl ⟨rfl, ml, hx.1, hx.2⟩
theorem dJ5_setLength_d00df_71 : decode cJ5_setLength_d00df 71 = .ok (.aload_n 0, 1) := by decide +kernel
theorem dJ5_setLength_d00df_72 : decode cJ5_setLength_d00df 72 = .ok (.iconst 1, 1) := by decide +kernel
theorem dJ5_setLength_d00df_73 : decode cJ5_setLength_d00df 73 = .ok (.putfield 73, 3) := by decide +kernel
set_option maxRecDepth 20000 in
theorem ctJ5_setLen1 {l : Launch} {G : GM} {h : List va_E} {v n C : Nat} {f : Nat → Int32} {ml : Int32} (hb : SBc G h v n C f ml) (hc : ¬ C = 0) : Ct l G mJ5_setLength_d00df 4 0 0 [.ref (gz G + 19), .int 0] h (fun r h1 => r = none ∧ ∃ ml1, SBc G h1 v n 0 f ml1 ∧ SBf h h1 v v) := by
  show Tr l G mJ5_setLength_d00df 4 0 0 0 [(0, .ref (gz G + 19)), (1, .int 0)] [] h _
  have hn := hb.2.2.2.2.2.2.2
  have hCn := hb.2.2.2.2.2.1
  have he0 := ctJ5_ens0 (l := l) hb (q := 0) (by omega)
  rw [nI_0] at he0
  refine am_iload_n dJ5_setLength_d00df_0 1 rfl ?_
  refine am_if_ge dJ5_setLength_d00df_1 (by decide : ((1 : Nat) : Int) + (12) = ((13 : Nat) : Int)) (fun _ => ?_) (fun zq => absurd (by decide) zq)
  refine am_aload_n dJ5_setLength_d00df_13 0 rfl ?_
  refine am_iload_n dJ5_setLength_d00df_14 1 rfl ?_
  refine am_callU (As := [.int 0]) (rest := []) dJ5_setLength_d00df_15 kUJ5_100 rfl hb.1 rfl rfl (Nat.le_of_ble_eq_true rfl) (d2 := 3) (by decide) (k2 := 0) (Nat.zero_le _) (u2 := 0) (Nat.zero_le _) (Nat.le_of_ble_eq_true rfl) he0 (fun r1 h1 q3 => ?_)
  obtain ⟨rfl, rfl⟩ := q3
  refine am_aload_n dJ5_setLength_d00df_18 0 rfl ?_
  refine am_get dJ5_setLength_d00df_19 kGJ5_79 hb.1 rfl ?_
  refine am_iload_n dJ5_setLength_d00df_22 1 rfl ?_
  refine am_icmp_ge dJ5_setLength_d00df_23 (by decide : ((23 : Nat) : Int) + (40) = ((63 : Nat) : Int)) (fun _ => ?_) (fun zq => absurd (nI_pos' (by omega)) zq)
  refine am_aload_n dJ5_setLength_d00df_63 0 rfl ?_
  refine am_get dJ5_setLength_d00df_64 kGJ5_79 hb.1 rfl ?_
  refine am_iload_n dJ5_setLength_d00df_67 1 rfl ?_
  refine am_icmp_le dJ5_setLength_d00df_68 (by decide : ((68 : Nat) : Int) + (8) = ((76 : Nat) : Int)) (fun zq => absurd zq (sb_pos (m := C) (by omega) (by omega))) (fun _ => ?_)
  refine am_aload_n dJ5_setLength_d00df_71 0 rfl ?_
  refine am_iconst (v := 1) dJ5_setLength_d00df_72 (by decide) ?_
  refine am_put dJ5_setLength_d00df_73 kFJ5_73 hb.1 (Nat.le_of_ble_eq_true rfl) rfl rfl ?_
  have w1 := hs_self (c1 := (.inr (0, [.ref (gz G + v), .int 0, .int 1, .int (nI C)]) : va_E)) hb.1
  refine am_aload_n dJ5_setLength_d00df_76 0 rfl ?_
  refine am_iload_n dJ5_setLength_d00df_77 1 rfl ?_
  refine am_put dJ5_setLength_d00df_78 kFJ5_79 w1 (Nat.le_of_ble_eq_true rfl) rfl rfl ?_
  rw [List.set_set]
  have hx := sb_set0 (ml1 := 1) hb
  exact am_return dJ5_setLength_d00df_81 rfl ⟨rfl, 1, hx.1, hx.2⟩
theorem ctJ5_setLen {l : Launch} {G : GM} {h : List va_E} {v n C : Nat} {f : Nat → Int32} {ml : Int32} (hb : SBc G h v n C f ml) : Ct l G mJ5_setLength_d00df 4 0 0 [.ref (gz G + 19), .int 0] h (fun r h1 => r = none ∧ ∃ ml1, SBc G h1 v n 0 f ml1 ∧ SBf h h1 v v) := by
  by_cases hc : C = 0
  · exact ctJ5_setLen0 hb hc
  · exact ctJ5_setLen1 hb hc
theorem dJ5_charAt_5068e_0 : decode cJ5_charAt_5068e 0 = .ok (.aload_n 0, 1) := by decide +kernel
theorem dJ5_charAt_5068e_1 : decode cJ5_charAt_5068e 1 = .ok (.getfield 22, 3) := by decide +kernel
theorem dJ5_charAt_5068e_4 : decode cJ5_charAt_5068e 4 = .ok (.istore_n 2, 1) := by decide +kernel
theorem dJ5_charAt_5068e_5 : decode cJ5_charAt_5068e 5 = .ok (.aload_n 0, 1) := by decide +kernel
theorem dJ5_charAt_5068e_6 : decode cJ5_charAt_5068e 6 = .ok (.getfield 15, 3) := by decide +kernel
theorem dJ5_charAt_5068e_9 : decode cJ5_charAt_5068e 9 = .ok (.astore_n 3, 1) := by decide +kernel
theorem dJ5_charAt_5068e_10 : decode cJ5_charAt_5068e 10 = .ok (.aload_n 0, 1) := by decide +kernel
theorem dJ5_charAt_5068e_11 : decode cJ5_charAt_5068e 11 = .ok (.getfield 79, 3) := by decide +kernel
theorem dJ5_charAt_5068e_14 : decode cJ5_charAt_5068e 14 = .ok (.aload_n 3, 1) := by decide +kernel
theorem dJ5_charAt_5068e_15 : decode cJ5_charAt_5068e 15 = .ok (.arraylength, 1) := by decide +kernel
theorem dJ5_charAt_5068e_16 : decode cJ5_charAt_5068e 16 = .ok (.iload_n 2, 1) := by decide +kernel
theorem dJ5_charAt_5068e_17 : decode cJ5_charAt_5068e 17 = .ok (.ishr, 1) := by decide +kernel
theorem dJ5_charAt_5068e_18 : decode cJ5_charAt_5068e 18 = .ok (.invokestatic 138, 3) := by decide +kernel
theorem dJ5_charAt_5068e_21 : decode cJ5_charAt_5068e 21 = .ok (.istore 4, 2) := by decide +kernel
theorem dJ5_charAt_5068e_23 : decode cJ5_charAt_5068e 23 = .ok (.iload_n 1, 1) := by decide +kernel
theorem dJ5_charAt_5068e_24 : decode cJ5_charAt_5068e 24 = .ok (.iload 4, 2) := by decide +kernel
theorem dJ5_charAt_5068e_26 : decode cJ5_charAt_5068e 26 = .ok (.invokestatic 144, 3) := by decide +kernel
theorem dJ5_charAt_5068e_29 : decode cJ5_charAt_5068e 29 = .ok (.iload_n 2, 1) := by decide +kernel
theorem dJ5_charAt_5068e_30 : decode cJ5_charAt_5068e 30 = .ok (.ifCond .ne 12, 3) := by decide +kernel
theorem dJ5_charAt_5068e_33 : decode cJ5_charAt_5068e 33 = .ok (.aload_n 3, 1) := by decide +kernel
theorem dJ5_charAt_5068e_34 : decode cJ5_charAt_5068e 34 = .ok (.iload_n 1, 1) := by decide +kernel
theorem dJ5_charAt_5068e_35 : decode cJ5_charAt_5068e 35 = .ok (.baload, 1) := by decide +kernel
theorem dJ5_charAt_5068e_36 : decode cJ5_charAt_5068e 36 = .ok (.sipush 255, 3) := by decide +kernel
theorem dJ5_charAt_5068e_39 : decode cJ5_charAt_5068e 39 = .ok (.iand, 1) := by decide +kernel
theorem dJ5_charAt_5068e_40 : decode cJ5_charAt_5068e 40 = .ok (.i2c, 1) := by decide +kernel
theorem dJ5_charAt_5068e_41 : decode cJ5_charAt_5068e 41 = .ok (.ireturn, 1) := by decide +kernel
set_option maxRecDepth 20000 in
theorem ctJ5_charAt {l : Launch} {G : GM} {h : List va_E} {v n C : Nat} {f : Nat → Int32} {ml : Int32} (hb : SBc G h v n C f ml) {i b : Nat} (hi : i < C) (hf : f i = nI b) (hb8 : b < 128) : Ct l G mJ5_charAt_5068e 2 0 0 [.ref (gz G + 19), .int (nI i)] h (fun r h1 => r = some (.int (nI b)) ∧ h1 = h) := by
  show Tr l G mJ5_charAt_5068e 2 0 0 0 [(0, .ref (gz G + 19)), (1, .int (nI i))] [] h _
  have hn := hb.2.2.2.2.2.2.2
  have hCn := hb.2.2.2.2.2.1
  refine am_aload_n dJ5_charAt_5068e_0 0 rfl ?_
  refine am_get dJ5_charAt_5068e_1 kGJ5_22 hb.1 rfl ?_
  refine am_istore_n dJ5_charAt_5068e_4 (by decide) (lv' := [(2, .int 0), (0, .ref (gz G + 19)), (1, .int (nI i))]) rfl ?_
  refine am_aload_n dJ5_charAt_5068e_5 1 rfl ?_
  refine am_get dJ5_charAt_5068e_6 kGJ5_15 hb.1 rfl ?_
  refine am_astore_n dJ5_charAt_5068e_9 (by decide) (lv' := [(3, .ref (gz G + v)), (2, .int 0), (0, .ref (gz G + 19)), (1, .int (nI i))]) rfl ?_
  refine am_aload_n dJ5_charAt_5068e_10 2 rfl ?_
  refine am_get dJ5_charAt_5068e_11 kGJ5_79 hb.1 rfl ?_
  refine am_aload_n dJ5_charAt_5068e_14 0 rfl ?_
  refine am_alen (v := (nI n)) dJ5_charAt_5068e_15 hb.2.1 rfl rfl ?_
  refine am_iload_n dJ5_charAt_5068e_16 1 rfl ?_
  refine am_ishr dJ5_charAt_5068e_17 ?_
  rw [sh0r (nI n)]
  refine am_mmin dJ5_charAt_5068e_18 (lw_k4 86 (by decide +kernel) (by decide +kernel)) (Nat.le_of_ble_eq_true rfl) (by decide) ?_
  rw [sb_mn (show C ≤ n by omega) (by omega)]
  refine am_istore dJ5_charAt_5068e_21 (by decide) (lv' := [(4, .int (nI C)), (3, .ref (gz G + v)), (2, .int 0), (0, .ref (gz G + 19)), (1, .int (nI i))]) rfl ?_
  refine am_iload_n dJ5_charAt_5068e_23 4 rfl ?_
  refine am_iload dJ5_charAt_5068e_24 0 rfl ?_
  refine am_callS (As := [.int (nI i), .int (nI C)]) (rest := []) dJ5_charAt_5068e_26 kMJ5_144 rfl rfl (Nat.le_of_ble_eq_true rfl) (d2 := 1) (by decide) (k2 := 0) (Nat.zero_le _) (u2 := 0) (Nat.zero_le _) (Nat.le_of_ble_eq_true rfl) (ctJ0_checkIndex_df160 (nI_pos (by omega)) (by rw [nI_ltI (by omega) (by omega)]; exact hi)) (fun r3 h3 q3 => ?_)
  obtain ⟨rfl, rfl⟩ := q3
  refine am_iload_n dJ5_charAt_5068e_29 2 rfl ?_
  refine am_if_ne dJ5_charAt_5068e_30 (by decide : ((30 : Nat) : Int) + (12) = ((42 : Nat) : Int)) (fun zq => absurd zq (fun z1 => z1 rfl)) (fun _ => ?_)
  refine am_aload_n dJ5_charAt_5068e_33 1 rfl ?_
  refine am_iload_n dJ5_charAt_5068e_34 4 rfl ?_
  refine am_bald dJ5_charAt_5068e_35 hb.2.1 (vp_in_nI (by omega) (by omega)) ?_
  rw [nI_clamp (n := i) (by omega), hf]
  refine am_sipush (v := 255) dJ5_charAt_5068e_36 (by decide) ?_
  refine am_iand dJ5_charAt_5068e_39 ?_
  refine am_i2c (v := ichr (nI b &&& 255)) dJ5_charAt_5068e_40 rfl ?_
  rw [hz_ic b hb8]
  exact am_ireturn dJ5_charAt_5068e_41 rfl (by rw [← hz_ic b hb8]; exact nar_chr _) ⟨rfl, rfl⟩
theorem dJ4_append_cf468_0 : decode cJ4_append_cf468 0 = .ok (.aload_n 0, 1) := by decide +kernel
theorem dJ4_append_cf468_1 : decode cJ4_append_cf468 1 = .ok (.iload_n 1, 1) := by decide +kernel
theorem dJ4_append_cf468_2 : decode cJ4_append_cf468 2 = .ok (.invokespecial 50, 3) := by decide +kernel
theorem dJ4_append_cf468_5 : decode cJ4_append_cf468 5 = .ok (.pop, 1) := by decide +kernel
theorem dJ4_append_cf468_6 : decode cJ4_append_cf468 6 = .ok (.aload_n 0, 1) := by decide +kernel
theorem dJ4_append_cf468_7 : decode cJ4_append_cf468 7 = .ok (.areturn, 1) := by decide +kernel
set_option maxRecDepth 20000 in
theorem ctJ4_appendC {l : Launch} {G : GM} {h : List va_E} {v n C : Nat} {f : Nat → Int32} {ml : Int32} (hb : SBc G h v n C f ml) {c : Int32} (hc : ¬ 255 < c) (hC : C + 1 ≤ 2000) : Ct l G mJ4_append_cf468 5 (sbK (C + 1) n) (sbU (C + 1) n) [.ref (gz G + 19), .int c] h (fun r h1 => r = some (.ref (gz G + 19)) ∧ ∃ v1 n1 f1, SBc G h1 v1 n1 (C + 1) f1 ml ∧ SBf h h1 v v1 ∧ n1 = sbN (C + 1) n ∧ (∀ j, j < C → f1 j = f j) ∧ f1 C = c.toInt8.toInt32.toInt8.toInt32) := by
  show Tr l G mJ4_append_cf468 5 (sbK (C + 1) n) (sbU (C + 1) n) 0 [(0, .ref (gz G + 19)), (1, .int c)] [] h _
  refine am_aload_n dJ4_append_cf468_0 0 rfl ?_
  refine am_iload_n dJ4_append_cf468_1 1 rfl ?_
  refine am_callSU (As := [.int c]) (rest := []) dJ4_append_cf468_2 kTJ4_50 rfl hb.1 rfl rfl (Nat.le_of_ble_eq_true rfl) (d2 := 4) (by decide) (k2 := (sbK (C + 1) n)) (Nat.le_refl _) (u2 := (sbU (C + 1) n)) (Nat.le_refl _) (Nat.le_of_ble_eq_true rfl) (ctJ5_appendC hb hc hC) (fun r1 h1 q3 => ?_)
  obtain ⟨rfl, q4⟩ := q3
  refine am_pop dJ4_append_cf468_5 rfl ?_
  refine am_aload_n dJ4_append_cf468_6 0 rfl ?_
  exact am_areturn dJ4_append_cf468_7 rfl (Or.inl ⟨_, rfl⟩) ⟨rfl, q4⟩
theorem dJ4_append_15ec4_0 : decode cJ4_append_15ec4 0 = .ok (.aload_n 0, 1) := by decide +kernel
theorem dJ4_append_15ec4_1 : decode cJ4_append_15ec4 1 = .ok (.aload_n 1, 1) := by decide +kernel
theorem dJ4_append_15ec4_2 : decode cJ4_append_15ec4 2 = .ok (.invokespecial 29, 3) := by decide +kernel
theorem dJ4_append_15ec4_5 : decode cJ4_append_15ec4 5 = .ok (.pop, 1) := by decide +kernel
theorem dJ4_append_15ec4_6 : decode cJ4_append_15ec4 6 = .ok (.aload_n 0, 1) := by decide +kernel
theorem dJ4_append_15ec4_7 : decode cJ4_append_15ec4 7 = .ok (.areturn, 1) := by decide +kernel
set_option maxRecDepth 20000 in
theorem ctJ4_appendS {l : Launch} {G : GM} {h : List va_E} {v n C : Nat} {f : Nat → Int32} {ml : Int32} (hb : SBc G h v n C f ml) {j : Nat} {qs : String × Nat × String × List Int32} (hj : strTab[j]? = some qs) (h21 : j < 21) (hC : C + qs.2.2.2.length ≤ 2000) : Ct l G mJ4_append_15ec4 5 (sbK (C + qs.2.2.2.length) n) (sbU (C + qs.2.2.2.length) n) [.ref (gz G + 19), .ref (gS G j)] h (fun r h1 => r = some (.ref (gz G + 19)) ∧ ∃ v1 n1 f1, SBc G h1 v1 n1 (C + qs.2.2.2.length) f1 ml ∧ SBf h h1 v v1 ∧ n1 = sbN (C + qs.2.2.2.length) n ∧ (∀ j, j < C → f1 j = f j) ∧ ∀ i, i < qs.2.2.2.length → f1 (C + i) = qs.2.2.2.getD i 0) := by
  show Tr l G mJ4_append_15ec4 5 (sbK (C + qs.2.2.2.length) n) (sbU (C + qs.2.2.2.length) n) 0 [(0, .ref (gz G + 19)), (1, .ref (gS G j))] [] h _
  refine am_aload_n dJ4_append_15ec4_0 0 rfl ?_
  refine am_aload_n dJ4_append_15ec4_1 1 rfl ?_
  refine am_callSU (As := [.ref (gS G j)]) (rest := []) dJ4_append_15ec4_2 kTJ4_29 rfl hb.1 rfl rfl (Nat.le_of_ble_eq_true rfl) (d2 := 4) (by decide) (k2 := (sbK (C + qs.2.2.2.length) n)) (Nat.le_refl _) (u2 := (sbU (C + qs.2.2.2.length) n)) (Nat.le_refl _) (Nat.le_of_ble_eq_true rfl) (ctJ5_appendS hb hj h21 hC) (fun r1 h1 q3 => ?_)
  obtain ⟨rfl, q4⟩ := q3
  refine am_pop dJ4_append_15ec4_5 rfl ?_
  refine am_aload_n dJ4_append_15ec4_6 0 rfl ?_
  exact am_areturn dJ4_append_15ec4_7 rfl (Or.inl ⟨_, rfl⟩) ⟨rfl, q4⟩
theorem dJ4_append_bf812_0 : decode cJ4_append_bf812 0 = .ok (.aload_n 0, 1) := by decide +kernel
theorem dJ4_append_bf812_1 : decode cJ4_append_bf812 1 = .ok (.iload_n 1, 1) := by decide +kernel
theorem dJ4_append_bf812_2 : decode cJ4_append_bf812 2 = .ok (.invokespecial 53, 3) := by decide +kernel
theorem dJ4_append_bf812_5 : decode cJ4_append_bf812 5 = .ok (.pop, 1) := by decide +kernel
theorem dJ4_append_bf812_6 : decode cJ4_append_bf812 6 = .ok (.aload_n 0, 1) := by decide +kernel
theorem dJ4_append_bf812_7 : decode cJ4_append_bf812 7 = .ok (.areturn, 1) := by decide +kernel
set_option maxRecDepth 20000 in
theorem ctJ4_appendI {l : Launch} {G : GM} {h : List va_E} {v n C : Nat} {f : Nat → Int32} {ml : Int32} (hb : SBc G h v n C f ml) {z : Nat} (hz : z < 10000) (hC : C + sbW z ≤ 2000) : Ct l G mJ4_append_bf812 5 (sbK (C + sbW z) n) (sbU (C + sbW z) n) [.ref (gz G + 19), .int (nI z)] h (fun r h1 => r = some (.ref (gz G + 19)) ∧ ∃ v1 n1 f1, SBc G h1 v1 n1 (C + sbW z) f1 ml ∧ SBf h h1 v v1 ∧ n1 = sbN (C + sbW z) n ∧ (∀ j, j < C → f1 j = f j) ∧ ∀ i, i < sbW z → f1 (C + i) = nI (48 + z / 10 ^ (sbW z - 1 - i) % 10)) := by
  show Tr l G mJ4_append_bf812 5 (sbK (C + sbW z) n) (sbU (C + sbW z) n) 0 [(0, .ref (gz G + 19)), (1, .int (nI z))] [] h _
  refine am_aload_n dJ4_append_bf812_0 0 rfl ?_
  refine am_iload_n dJ4_append_bf812_1 1 rfl ?_
  refine am_callSU (As := [.int (nI z)]) (rest := []) dJ4_append_bf812_2 kTJ4_53 rfl hb.1 rfl rfl (Nat.le_of_ble_eq_true rfl) (d2 := 4) (by decide) (k2 := (sbK (C + sbW z) n)) (Nat.le_refl _) (u2 := (sbU (C + sbW z) n)) (Nat.le_refl _) (Nat.le_of_ble_eq_true rfl) (ctJ5_appendI hb hz hC) (fun r1 h1 q3 => ?_)
  obtain ⟨rfl, q4⟩ := q3
  refine am_pop dJ4_append_bf812_5 rfl ?_
  refine am_aload_n dJ4_append_bf812_6 0 rfl ?_
  exact am_areturn dJ4_append_bf812_7 rfl (Or.inl ⟨_, rfl⟩) ⟨rfl, q4⟩
theorem dJ4_length_8abf5_0 : decode cJ4_length_8abf5 0 = .ok (.aload_n 0, 1) := by decide +kernel
theorem dJ4_length_8abf5_1 : decode cJ4_length_8abf5 1 = .ok (.invokespecial 343, 3) := by decide +kernel
theorem dJ4_length_8abf5_4 : decode cJ4_length_8abf5 4 = .ok (.ireturn, 1) := by decide +kernel
set_option maxRecDepth 20000 in
theorem ctJ4_length {l : Launch} {G : GM} {h : List va_E} {v n C : Nat} {f : Nat → Int32} {ml : Int32} (hb : SBc G h v n C f ml) : Ct l G mJ4_length_8abf5 1 0 0 [.ref (gz G + 19)] h (fun r h1 => r = some (.int (nI C)) ∧ h1 = h) := by
  show Tr l G mJ4_length_8abf5 1 0 0 0 [(0, .ref (gz G + 19))] [] h _
  refine am_aload_n dJ4_length_8abf5_0 0 rfl ?_
  refine am_callSU (As := []) (rest := []) dJ4_length_8abf5_1 kTJ4_343 rfl hb.1 rfl rfl (Nat.le_of_ble_eq_true rfl) (d2 := 0) (by decide) (k2 := 0) (Nat.zero_le _) (u2 := 0) (Nat.zero_le _) (Nat.le_of_ble_eq_true rfl) (ctJ5_length hb) (fun r1 h1 q3 => ?_)
  obtain ⟨rfl, rfl⟩ := q3
  exact am_ireturn dJ4_length_8abf5_4 rfl rfl ⟨rfl, rfl⟩
theorem dJ4_charAt_5068e_0 : decode cJ4_charAt_5068e 0 = .ok (.aload_n 0, 1) := by decide +kernel
theorem dJ4_charAt_5068e_1 : decode cJ4_charAt_5068e 1 = .ok (.iload_n 1, 1) := by decide +kernel
theorem dJ4_charAt_5068e_2 : decode cJ4_charAt_5068e 2 = .ok (.invokespecial 329, 3) := by decide +kernel
theorem dJ4_charAt_5068e_5 : decode cJ4_charAt_5068e 5 = .ok (.ireturn, 1) := by decide +kernel
set_option maxRecDepth 20000 in
theorem ctJ4_charAt {l : Launch} {G : GM} {h : List va_E} {v n C : Nat} {f : Nat → Int32} {ml : Int32} (hb : SBc G h v n C f ml) {i b : Nat} (hi : i < C) (hf : f i = nI b) (hb8 : b < 128) : Ct l G mJ4_charAt_5068e 3 0 0 [.ref (gz G + 19), .int (nI i)] h (fun r h1 => r = some (.int (nI b)) ∧ h1 = h) := by
  show Tr l G mJ4_charAt_5068e 3 0 0 0 [(0, .ref (gz G + 19)), (1, .int (nI i))] [] h _
  refine am_aload_n dJ4_charAt_5068e_0 0 rfl ?_
  refine am_iload_n dJ4_charAt_5068e_1 1 rfl ?_
  refine am_callSU (As := [.int (nI i)]) (rest := []) dJ4_charAt_5068e_2 kTJ4_329 rfl hb.1 rfl rfl (Nat.le_of_ble_eq_true rfl) (d2 := 2) (by decide) (k2 := 0) (Nat.zero_le _) (u2 := 0) (Nat.zero_le _) (Nat.le_of_ble_eq_true rfl) (ctJ5_charAt hb hi hf hb8) (fun r1 h1 q3 => ?_)
  obtain ⟨rfl, rfl⟩ := q3
  exact am_ireturn dJ4_charAt_5068e_5 rfl (by rw [← hz_ic b hb8]; exact nar_chr _) ⟨rfl, rfl⟩
theorem dJ4_setLength_d00df_0 : decode cJ4_setLength_d00df 0 = .ok (.aload_n 0, 1) := by decide +kernel
theorem dJ4_setLength_d00df_1 : decode cJ4_setLength_d00df 1 = .ok (.iload_n 1, 1) := by decide +kernel
theorem dJ4_setLength_d00df_2 : decode cJ4_setLength_d00df 2 = .ok (.invokespecial 333, 3) := by decide +kernel
theorem dJ4_setLength_d00df_5 : decode cJ4_setLength_d00df 5 = .ok (.return_, 1) := by decide +kernel
set_option maxRecDepth 20000 in
theorem ctJ4_setLen {l : Launch} {G : GM} {h : List va_E} {v n C : Nat} {f : Nat → Int32} {ml : Int32} (hb : SBc G h v n C f ml) : Ct l G mJ4_setLength_d00df 5 0 0 [.ref (gz G + 19), .int 0] h (fun r h1 => r = none ∧ ∃ ml1, SBc G h1 v n 0 f ml1 ∧ SBf h h1 v v) := by
  show Tr l G mJ4_setLength_d00df 5 0 0 0 [(0, .ref (gz G + 19)), (1, .int 0)] [] h _
  refine am_aload_n dJ4_setLength_d00df_0 0 rfl ?_
  refine am_iload_n dJ4_setLength_d00df_1 1 rfl ?_
  refine am_callSU (As := [.int 0]) (rest := []) dJ4_setLength_d00df_2 kTJ4_333 rfl hb.1 rfl rfl (Nat.le_of_ble_eq_true rfl) (d2 := 4) (by decide) (k2 := 0) (Nat.zero_le _) (u2 := 0) (Nat.zero_le _) (Nat.le_of_ble_eq_true rfl) (ctJ5_setLen hb) (fun r1 h1 q3 => ?_)
  obtain ⟨rfl, q4⟩ := q3
  exact am_return dJ4_setLength_d00df_5 rfl ⟨rfl, q4⟩
