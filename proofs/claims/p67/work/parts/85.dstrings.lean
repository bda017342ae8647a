/-! Strings that the law made: the same methods on them. -/
def DSt (G : GM) (h : List va_E) (si sr : Nat) (sf : Nat → Int32) (sN : Nat) : Prop := h[si]? = some (.inr (8, [.ref (gz G + sr), .int 0, .int 0, .int 0])) ∧ h[sr]? = some (.inl (1, sN, .inl sf)) ∧ sN ≤ 4096 ∧ hz_fit sf
set_option maxRecDepth 20000 in
theorem ctJ0_coderD {l : Launch} {G : GM} {h : List va_E} {si sr sN : Nat} {sf : Nat → Int32} (hj : DSt G h si sr sf sN)  : Ct l G mJ0_coder_7d493 0 0 0 [.ref (gz G + si)] h (fun v h1 => v = some (.int 0) ∧ h1 = h) := by
  show Tr l G mJ0_coder_7d493 0 0 0 0 [(0, .ref (gz G + si))] [] h _
  refine am_compact dJ0_coder_7d493_0 (lw_k2 138 (by decide +kernel) (by decide +kernel)) ?_
  refine am_if_eq dJ0_coder_7d493_3 (by decide : ((3 : Nat) : Int) + (10) = ((13 : Nat) : Int)) (fun q => absurd q (by decide)) (fun _ => ?_)
  refine am_aload_n dJ0_coder_7d493_6 0 rfl ?_
  refine am_get dJ0_coder_7d493_7 kGJ0_15 hj.1 rfl ?_
  refine am_goto dJ0_coder_7d493_10 (by decide : ((10 : Nat) : Int) + (4) = ((14 : Nat) : Int)) ?_
  exact am_ireturn dJ0_coder_7d493_14 rfl rfl ⟨rfl, rfl⟩
set_option maxRecDepth 20000 in
theorem ctJ0_isLatin1D {l : Launch} {G : GM} {h : List va_E} {si sr sN : Nat} {sf : Nat → Int32} (hj : DSt G h si sr sf sN)  : Ct l G mJ0_isLatin1_aae02 0 0 0 [.ref (gz G + si)] h (fun v h1 => v = some (.int 1) ∧ h1 = h) := by
  show Tr l G mJ0_isLatin1_aae02 0 0 0 0 [(0, .ref (gz G + si))] [] h _
  refine am_compact dJ0_isLatin1_aae02_0 (lw_k2 138 (by decide +kernel) (by decide +kernel)) ?_
  refine am_if_eq dJ0_isLatin1_aae02_3 (by decide : ((3 : Nat) : Int) + (14) = ((17 : Nat) : Int)) (fun q => absurd q (by decide)) (fun _ => ?_)
  refine am_aload_n dJ0_isLatin1_aae02_6 0 rfl ?_
  refine am_get dJ0_isLatin1_aae02_7 kGJ0_15 hj.1 rfl ?_
  refine am_if_ne dJ0_isLatin1_aae02_10 (by decide : ((10 : Nat) : Int) + (7) = ((17 : Nat) : Int)) (fun q => absurd q (by decide)) (fun _ => ?_)
  refine am_iconst (v := 1) dJ0_isLatin1_aae02_13 (by decide) ?_
  refine am_goto dJ0_isLatin1_aae02_14 (by decide : ((14 : Nat) : Int) + (4) = ((18 : Nat) : Int)) ?_
  exact am_ireturn dJ0_isLatin1_aae02_18 rfl rfl ⟨rfl, rfl⟩
set_option maxRecDepth 20000 in
theorem ctJ0_lengthD {l : Launch} {G : GM} {h : List va_E} {si sr sN : Nat} {sf : Nat → Int32} (hj : DSt G h si sr sf sN)  : Ct l G mJ0_length_8abf5 1 0 0 [.ref (gz G + si)] h (fun v h1 => v = some (.int (nI sN)) ∧ h1 = h) := by
  show Tr l G mJ0_length_8abf5 1 0 0 0 [(0, .ref (gz G + si))] [] h _
  refine am_aload_n dJ0_length_8abf5_0 0 rfl ?_
  refine am_get dJ0_length_8abf5_1 kGJ0_9 hj.1 rfl ?_
  refine am_alen (v := nI sN) dJ0_length_8abf5_4 hj.2.1 rfl rfl ?_
  refine am_aload_n dJ0_length_8abf5_5 0 rfl ?_
  refine am_callV (As := []) (rest := [.int (nI sN)]) dJ0_length_8abf5_6 kMJ0_335 rfl hj.1 rfl rfl (Nat.le_of_ble_eq_true rfl) (d2 := 0) (by decide) (k2 := 0) (Nat.zero_le _) (u2 := 0) (Nat.zero_le _) (Nat.le_of_ble_eq_true rfl) (ctJ0_coderD hj) (fun v1 h2 q3 => ?_)
  obtain ⟨rfl, rfl⟩ := q3
  refine am_ishr dJ0_length_8abf5_9 ?_
  rw [sh0r (nI sN)]
  exact am_ireturn dJ0_length_8abf5_10 rfl rfl ⟨rfl, rfl⟩
set_option maxRecDepth 20000 in
theorem ctJ1_charAtD {l : Launch} {G : GM} {h : List va_E} {si sr sN : Nat} {sf : Nat → Int32} (hj : DSt G h si sr sf sN) {z2 : Int32} (p1 : ¬ z2 < 0) (p2 : ¬ nI sN ≤ z2) : Ct l G mJ1_charAt_3b067 2 0 0 [.ref (gz G + sr), .int z2] h (fun v h1 => v = some (.int (ichr ((sf z2.toNatClampNeg) &&& 255))) ∧ h1 = h) := by
  show Tr l G mJ1_charAt_3b067 2 0 0 0 [(0, .ref (gz G + sr)), (1, .int z2)] [] h _
  refine am_iload_n dJ1_charAt_3b067_0 1 rfl ?_
  refine am_aload_n dJ1_charAt_3b067_1 0 rfl ?_
  refine am_alen (v := nI sN) dJ1_charAt_3b067_2 hj.2.1 rfl rfl ?_
  refine am_callS (As := [.int z2, .int (nI sN)]) (rest := []) dJ1_charAt_3b067_3 kMJ1_9 rfl  rfl (Nat.le_of_ble_eq_true rfl) (d2 := 1) (by decide) (k2 := 0) (Nat.zero_le _) (u2 := 0) (Nat.zero_le _) (Nat.le_of_ble_eq_true rfl) (ctJ0_checkIndex_df160 p1 (Int32.not_le.mp p2)) (fun v1 h2 q3 => ?_)
  obtain ⟨rfl, rfl⟩ := q3
  refine am_aload_n dJ1_charAt_3b067_6 0 rfl ?_
  refine am_iload_n dJ1_charAt_3b067_7 1 rfl ?_
  refine am_bald dJ1_charAt_3b067_8 hj.2.1 (vp_in2 p1 p2 (by have := hj.2.2.1; omega)) ?_
  refine am_sipush (v := 255) dJ1_charAt_3b067_9 (by decide) ?_
  refine am_iand dJ1_charAt_3b067_12 ?_
  refine am_i2c (v := (ichr ((sf z2.toNatClampNeg) &&& 255))) dJ1_charAt_3b067_13 rfl ?_
  exact am_ireturn dJ1_charAt_3b067_14 rfl (nar_chr _) ⟨rfl, rfl⟩
set_option maxRecDepth 20000 in
theorem ctJ0_charAtD {l : Launch} {G : GM} {h : List va_E} {si sr sN : Nat} {sf : Nat → Int32} (hj : DSt G h si sr sf sN) {z1 : Int32} (p1 : ¬ z1 < 0) (p2 : ¬ nI sN ≤ z1) : Ct l G mJ0_charAt_5068e 3 0 0 [.ref (gz G + si), .int z1] h (fun v h1 => v = some (.int (ichr ((sf z1.toNatClampNeg) &&& 255))) ∧ h1 = h) := by
  show Tr l G mJ0_charAt_5068e 3 0 0 0 [(0, .ref (gz G + si)), (1, .int z1)] [] h _
  refine am_aload_n dJ0_charAt_5068e_0 0 rfl ?_
  refine am_callV (As := []) (rest := []) dJ0_charAt_5068e_1 kMJ0_492 rfl hj.1 rfl rfl (Nat.le_of_ble_eq_true rfl) (d2 := 0) (by decide) (k2 := 0) (Nat.zero_le _) (u2 := 0) (Nat.zero_le _) (Nat.le_of_ble_eq_true rfl) (ctJ0_isLatin1D hj) (fun v1 h2 q3 => ?_)
  obtain ⟨rfl, rfl⟩ := q3
  refine am_if_eq dJ0_charAt_5068e_4 (by decide : ((4 : Nat) : Int) + (12) = ((16 : Nat) : Int)) (fun q => absurd q (by decide)) (fun _ => ?_)
  refine am_aload_n dJ0_charAt_5068e_7 0 rfl ?_
  refine am_get dJ0_charAt_5068e_8 kGJ0_9 hj.1 rfl ?_
  refine am_iload_n dJ0_charAt_5068e_11 1 rfl ?_
  refine am_callS (As := [.ref (gz G + sr), .int z1]) (rest := []) dJ0_charAt_5068e_12 kMJ0_495 rfl  rfl (Nat.le_of_ble_eq_true rfl) (d2 := 2) (by decide) (k2 := 0) (Nat.zero_le _) (u2 := 0) (Nat.zero_le _) (Nat.le_of_ble_eq_true rfl) (ctJ1_charAtD hj p1 p2) (fun v5 h6 q7 => ?_)
  obtain ⟨rfl, rfl⟩ := q7
  exact am_ireturn dJ0_charAt_5068e_15 rfl (nar_chr _) ⟨rfl, rfl⟩
/-! The JDK's StringBuilder: appending a char, a String. -/
set_option maxRecDepth 20000 in
theorem ctJ5_inflIfD {l : Launch} {G : GM} {h : List va_E} {v n C : Nat} {f : Nat → Int32} {ml : Int32} (hb : SBc G h v n C f ml) {si sr sN : Nat} {sf : Nat → Int32} (hj : DSt G h si sr sf sN) : Ct l G mJ5_inflateIfNeededFor_a7421 1 0 0 [.ref (gz G + 19), .ref (gz G + si)] h (fun r h1 => r = none ∧ h1 = h) := by
  show Tr l G mJ5_inflateIfNeededFor_a7421 1 0 0 0 [(0, .ref (gz G + 19)), (1, .ref (gz G + si))] [] h _
  refine am_compact dJ5_inflateIfNeededFor_a7421_0 (lw_k1 221 (by decide +kernel) (by decide +kernel)) ?_
  refine am_if_eq dJ5_inflateIfNeededFor_a7421_3 (by decide : ((3 : Nat) : Int) + (18) = ((21 : Nat) : Int)) (fun zq => absurd zq (by decide)) (fun _ => ?_)
  refine am_aload_n dJ5_inflateIfNeededFor_a7421_6 0 rfl ?_
  refine am_get dJ5_inflateIfNeededFor_a7421_7 kGJ5_22 hb.1 rfl ?_
  refine am_aload_n dJ5_inflateIfNeededFor_a7421_10 1 rfl ?_
  refine am_callV (As := []) (rest := [.int 0]) dJ5_inflateIfNeededFor_a7421_11 kMJ5_40 rfl hj.1 rfl rfl (Nat.le_of_ble_eq_true rfl) (d2 := 0) (by decide) (k2 := 0) (Nat.zero_le _) (u2 := 0) (Nat.zero_le _) (Nat.le_of_ble_eq_true rfl) (ctJ0_coderD hj) (fun v1 h2 q3 => ?_)
  obtain ⟨rfl, rfl⟩ := q3
  refine am_icmp_eq dJ5_inflateIfNeededFor_a7421_14 (by decide : ((14 : Nat) : Int) + (7) = ((21 : Nat) : Int)) (fun _ => ?_) (fun zq => absurd rfl zq)
  exact am_return dJ5_inflateIfNeededFor_a7421_21 rfl ⟨rfl, rfl⟩
set_option maxRecDepth 20000 in
theorem ctJ0_getBytesD {l : Launch} {G : GM} {h : List va_E} {v n C : Nat} {f : Nat → Int32} (hv : h[v]? = some (.inl (1, n, .inl f))) {si sr sN : Nat} {sf : Nat → Int32} (hj : DSt G h si sr sf sN) (h1 : C + sN ≤ n) (h2 : n ≤ 4096) : Ct l G mJ0_getBytes_840e7 1 0 0 [.ref (gz G + si), .ref (gz G + v), .int (nI C), .int 0] h (fun r h1 => r = none ∧ h1 = h.set v (.inl (1, n, .inl (va_cpy sf f 0 C sN)))) := by
  show Tr l G mJ0_getBytes_840e7 1 0 0 0 [(0, .ref (gz G + si)), (1, .ref (gz G + v)), (2, .int (nI C)), (3, .int 0)] [] h _
  refine am_aload_n dJ0_getBytes_840e7_0 0 rfl ?_
  refine am_callV (As := []) (rest := []) dJ0_getBytes_840e7_1 kMJ0_335 rfl hj.1 rfl rfl (Nat.le_of_ble_eq_true rfl) (d2 := 0) (by decide) (k2 := 0) (Nat.zero_le _) (u2 := 0) (Nat.zero_le _) (Nat.le_of_ble_eq_true rfl) (ctJ0_coderD hj) (fun v1 h2 q3 => ?_)
  obtain ⟨rfl, rfl⟩ := q3
  refine am_iload_n dJ0_getBytes_840e7_4 3 rfl ?_
  refine am_icmp_ne dJ0_getBytes_840e7_5 (by decide : ((5 : Nat) : Int) + (23) = ((28 : Nat) : Int)) (fun zq => absurd zq (fun z => z rfl)) (fun _ => ?_)
  refine am_aload_n dJ0_getBytes_840e7_8 0 rfl ?_
  refine am_get dJ0_getBytes_840e7_9 kGJ0_9 hj.1 rfl ?_
  refine am_iconst (v := 0) dJ0_getBytes_840e7_12 (by decide) ?_
  refine am_aload_n dJ0_getBytes_840e7_13 1 rfl ?_
  refine am_iload_n dJ0_getBytes_840e7_14 2 rfl ?_
  refine am_iload_n dJ0_getBytes_840e7_15 3 rfl ?_
  refine am_ishl dJ0_getBytes_840e7_16 ?_
  rw [sh0l (nI C)]
  refine am_aload_n dJ0_getBytes_840e7_17 0 rfl ?_
  refine am_get dJ0_getBytes_840e7_18 kGJ0_9 hj.1 rfl ?_
  refine am_alen (v := nI sN) dJ0_getBytes_840e7_21 hj.2.1 rfl rfl ?_
  refine am_copyb (f := sf) (g := f) dJ0_getBytes_840e7_22 (lw_k4 218 (by decide +kernel) (by decide +kernel)) hj.2.1 hv (by decide) (nI_pos (by omega)) (nI_pos (by omega)) (by rw [nI_clamp (by omega)]; show 0 + _ ≤ _; omega) (by rw [nI_clamp (by omega), nI_clamp (by omega)]; omega) hj.2.2.2 (Nat.le_of_ble_eq_true rfl) (by decide) ?_
  rw [nI_clamp (n := C) (by omega), nI_clamp (n := sN) (by omega)]
  refine am_goto dJ0_getBytes_840e7_25 (by decide : ((25 : Nat) : Int) + (18) = ((43 : Nat) : Int)) ?_
  exact am_return dJ0_getBytes_840e7_43 rfl ⟨rfl, rfl⟩
theorem sb_mx2 {a b : Nat} (h : b ≤ a) (ha : a < 2147483648) : imx (nI a) (nI b) = nI a := by
  unfold imx
  by_cases c : a < b
  · omega
  · rw [if_neg (by rw [nI_ltI (by omega) (by omega)]; exact c)]
set_option maxRecDepth 20000 in
theorem ctJ8_newLength2 {l : Launch} {G : GM} {h : List va_E} {n a : Nat} (hn : n ≤ 4096) (ha : n + 2 ≤ a) (ha2 : a ≤ 4096) : Ct l G mJ8_newLength_cabcc 1 0 0 [.int (nI n), .int (nI a), .int (nI (n + 2))] h (fun r h1 => r = some (.int (nI (n + a))) ∧ h1 = h) := by
  show Tr l G mJ8_newLength_cabcc 1 0 0 0 [(0, .int (nI n)), (1, .int (nI a)), (2, .int (nI (n + 2)))] [] h _
  refine am_iload_n dJ8_newLength_cabcc_0 0 rfl ?_
  refine am_iload_n dJ8_newLength_cabcc_1 1 rfl ?_
  refine am_iload_n dJ8_newLength_cabcc_2 2 rfl ?_
  refine am_mmax dJ8_newLength_cabcc_3 (lw_k4 147 (by decide +kernel) (by decide +kernel)) (Nat.le_of_ble_eq_true rfl) (by decide) ?_
  rw [sb_mx2 (show n + 2 ≤ a by omega) (by omega)]
  refine am_iadd dJ8_newLength_cabcc_6 ?_
  rw [nI_add]
  refine am_istore_n dJ8_newLength_cabcc_7 (by decide) (lv' := [(3, .int (nI (n + a))), (0, .int (nI n)), (1, .int (nI a)), (2, .int (nI (n + 2)))]) rfl ?_
  refine am_iconst (v := 0) dJ8_newLength_cabcc_8 (by decide) ?_
  refine am_iload_n dJ8_newLength_cabcc_9 0 rfl ?_
  refine am_icmp_ge dJ8_newLength_cabcc_10 (by decide : ((10 : Nat) : Int) + (11) = ((21 : Nat) : Int)) (fun zq => absurd zq (sb_pos (m := n + a) (by omega) (by omega))) (fun _ => ?_)
  refine am_iload_n dJ8_newLength_cabcc_13 0 rfl ?_
  refine am_ldc (v := 2147483639) dJ8_newLength_cabcc_14 kKJ8_200 ?_
  refine am_icmp_gt dJ8_newLength_cabcc_16 (by decide : ((16 : Nat) : Int) + (5) = ((21 : Nat) : Int)) (fun zq => absurd zq (sb_big (m := n + a) (by omega))) (fun _ => ?_)
  refine am_iload_n dJ8_newLength_cabcc_19 0 rfl ?_
  exact am_ireturn dJ8_newLength_cabcc_20 rfl rfl ⟨rfl, rfl⟩
set_option maxRecDepth 20000 in
theorem ctJ5_newCapacity2 {l : Launch} {G : GM} {h : List va_E} {v n C : Nat} {f : Nat → Int32} {ml : Int32} (hb : SBc G h v n C f ml) {q : Nat} (h1 : n < q) (h2 : 2 * n + 2 ≤ q) (h3 : q ≤ 4096) : Ct l G mJ5_newCapacity_0f7a4 2 0 0 [.ref (gz G + 19), .int (nI q)] h (fun r h1 => r = some (.int (nI (n + (q - n)))) ∧ h1 = h) := by
  have hn := hb.2.2.2.2.2.2.2
  show Tr l G mJ5_newCapacity_0f7a4 2 0 0 0 [(0, .ref (gz G + 19)), (1, .int (nI q))] [] h _
  refine am_aload_n dJ5_newCapacity_0f7a4_0 0 rfl ?_
  refine am_get dJ5_newCapacity_0f7a4_1 kGJ5_15 hb.1 rfl ?_
  refine am_alen (v := (nI n)) dJ5_newCapacity_0f7a4_4 hb.2.1 rfl rfl ?_
  refine am_istore_n dJ5_newCapacity_0f7a4_5 (by decide) (lv' := [(2, .int (nI n)), (0, .ref (gz G + 19)), (1, .int (nI q))]) rfl ?_
  refine am_iload_n dJ5_newCapacity_0f7a4_6 2 rfl ?_
  refine am_aload_n dJ5_newCapacity_0f7a4_7 1 rfl ?_
  refine am_get dJ5_newCapacity_0f7a4_8 kGJ5_22 hb.1 rfl ?_
  refine am_ishl dJ5_newCapacity_0f7a4_11 ?_
  rw [sh0l (nI q)]
  refine am_istore_n dJ5_newCapacity_0f7a4_12 (by decide) (lv' := [(3, .int (nI q)), (2, .int (nI n)), (0, .ref (gz G + 19)), (1, .int (nI q))]) rfl ?_
  refine am_iload_n dJ5_newCapacity_0f7a4_13 0 rfl ?_
  refine am_iload_n dJ5_newCapacity_0f7a4_14 1 rfl ?_
  refine am_isub dJ5_newCapacity_0f7a4_15 ?_
  rw [show nI q - nI n = nI (q - n) from pk_sub (by omega)]
  refine am_istore dJ5_newCapacity_0f7a4_16 (by decide) (lv' := [(4, .int (nI (q - n))), (3, .int (nI q)), (2, .int (nI n)), (0, .ref (gz G + 19)), (1, .int (nI q))]) rfl ?_
  refine am_iload_n dJ5_newCapacity_0f7a4_18 2 rfl ?_
  refine am_iload dJ5_newCapacity_0f7a4_19 0 rfl ?_
  refine am_iload_n dJ5_newCapacity_0f7a4_21 2 rfl ?_
  refine am_iconst (v := 2) dJ5_newCapacity_0f7a4_22 (by decide) ?_
  refine am_aload_n dJ5_newCapacity_0f7a4_23 3 rfl ?_
  refine am_get dJ5_newCapacity_0f7a4_24 kGJ5_22 hb.1 rfl ?_
  refine am_ishl dJ5_newCapacity_0f7a4_27 ?_
  rw [sh0l 2]
  refine am_iadd dJ5_newCapacity_0f7a4_28 ?_
  rw [show nI n + 2 = nI (n + 2) from nI_add n 2]
  refine am_callS (As := [.int (nI n), .int (nI (q - n)), .int (nI (n + 2))]) (rest := []) dJ5_newCapacity_0f7a4_29 kMJ5_114 rfl rfl (Nat.le_of_ble_eq_true rfl) (d2 := 1) (by decide) (k2 := 0) (Nat.zero_le _) (u2 := 0) (Nat.zero_le _) (Nat.le_of_ble_eq_true rfl) (ctJ8_newLength2 hn (show n + 2 ≤ q - n by omega) (by omega)) (fun v1 h2 q3 => ?_)
  obtain ⟨rfl, rfl⟩ := q3
  refine am_istore dJ5_newCapacity_0f7a4_32 (by decide) (lv' := [(5, .int (nI (n + (q - n)))), (4, .int (nI (q - n))), (3, .int (nI q)), (2, .int (nI n)), (0, .ref (gz G + 19)), (1, .int (nI q))]) rfl ?_
  refine am_iload dJ5_newCapacity_0f7a4_34 0 rfl ?_
  refine am_ldc (v := 2147483647) dJ5_newCapacity_0f7a4_36 kKJ5_39 ?_
  refine am_icmp_ne dJ5_newCapacity_0f7a4_38 (by decide : ((38 : Nat) : Int) + (13) = ((51 : Nat) : Int)) (fun _ => ?_) (fun zq => absurd zq (sb_ne (m := n + (q - n)) (by omega)))
  refine am_iload dJ5_newCapacity_0f7a4_51 0 rfl ?_
  refine am_aload_n dJ5_newCapacity_0f7a4_53 4 rfl ?_
  refine am_get dJ5_newCapacity_0f7a4_54 kGJ5_22 hb.1 rfl ?_
  refine am_ishr dJ5_newCapacity_0f7a4_57 ?_
  rw [sh0r (nI (n + (q - n)))]
  exact am_ireturn dJ5_newCapacity_0f7a4_58 rfl rfl ⟨rfl, rfl⟩
set_option maxRecDepth 20000 in
theorem ctJ5_ens2 {l : Launch} {G : GM} {h : List va_E} {v n C : Nat} {f : Nat → Int32} {ml : Int32} (hb : SBc G h v n C f ml) {q : Nat} (h1 : n < q) (h2 : 2 * n + 2 ≤ q) (h3 : q ≤ 4096) : Ct l G mJ5_ensureCapacityInternal_d00df 3 1 (n + (q - n)) [.ref (gz G + 19), .int (nI q)] h (fun r h1 => r = none ∧ h1 = (h ++ [(.inl (1, n + (q - n), .inl (va_cpy f (fun _ => 0) 0 0 n)) : va_E)]).set 19 (.inr (0, [.ref (gz G + h.length), .int 0, .int ml, .int (nI C)]))) := by
  show Tr l G mJ5_ensureCapacityInternal_d00df 3 1 (n + (q - n)) 0 [(0, .ref (gz G + 19)), (1, .int (nI q))] [] h _
  have hn := hb.2.2.2.2.2.2.2
  refine am_aload_n dJ5_ensureCapacityInternal_d00df_0 0 rfl ?_
  refine am_get dJ5_ensureCapacityInternal_d00df_1 kGJ5_15 hb.1 rfl ?_
  refine am_alen (v := (nI n)) dJ5_ensureCapacityInternal_d00df_4 hb.2.1 rfl rfl ?_
  refine am_aload_n dJ5_ensureCapacityInternal_d00df_5 0 rfl ?_
  refine am_get dJ5_ensureCapacityInternal_d00df_6 kGJ5_22 hb.1 rfl ?_
  refine am_ishr dJ5_ensureCapacityInternal_d00df_9 ?_
  rw [sh0r (nI n)]
  refine am_istore_n dJ5_ensureCapacityInternal_d00df_10 (by decide) (lv' := [(2, .int (nI n)), (0, .ref (gz G + 19)), (1, .int (nI q))]) rfl ?_
  refine am_iload_n dJ5_ensureCapacityInternal_d00df_11 2 rfl ?_
  refine am_iload_n dJ5_ensureCapacityInternal_d00df_12 0 rfl ?_
  refine am_isub dJ5_ensureCapacityInternal_d00df_13 ?_
  refine am_if_le dJ5_ensureCapacityInternal_d00df_14 (by decide : ((14 : Nat) : Int) + (24) = ((38 : Nat) : Int)) (fun zq => absurd zq (sb_snle (a := q) (b := n) h1 (by omega))) (fun _ => ?_)
  refine am_aload_n dJ5_ensureCapacityInternal_d00df_17 1 rfl ?_
  refine am_aload_n dJ5_ensureCapacityInternal_d00df_18 1 rfl ?_
  refine am_get dJ5_ensureCapacityInternal_d00df_19 kGJ5_15 hb.1 rfl ?_
  refine am_aload_n dJ5_ensureCapacityInternal_d00df_22 1 rfl ?_
  refine am_iload_n dJ5_ensureCapacityInternal_d00df_23 2 rfl ?_
  refine am_callU (As := [.int (nI q)]) (rest := [.ref (gz G + v), .ref (gz G + 19)]) dJ5_ensureCapacityInternal_d00df_24 kUJ5_104 rfl hb.1 rfl rfl (Nat.le_of_ble_eq_true rfl) (d2 := 2) (by decide) (k2 := 0) (Nat.zero_le _) (u2 := 0) (Nat.zero_le _) (Nat.le_of_ble_eq_true rfl) (ctJ5_newCapacity2 hb h1 h2 h3) (fun v1 h2 q3 => ?_)
  obtain ⟨rfl, rfl⟩ := q3
  refine am_aload_n dJ5_ensureCapacityInternal_d00df_27 1 rfl ?_
  refine am_get dJ5_ensureCapacityInternal_d00df_28 kGJ5_22 hb.1 rfl ?_
  refine am_ishl dJ5_ensureCapacityInternal_d00df_31 ?_
  rw [sh0l (nI (n + (q - n)))]
  refine am_callS (As := [.ref (gz G + v), .int (nI (n + (q - n)))]) (rest := [.ref (gz G + 19)]) dJ5_ensureCapacityInternal_d00df_32 kMJ5_108 rfl rfl (Nat.le_of_ble_eq_true rfl) (d2 := 1) (by decide) (k2 := 1) (by omega) (u2 := n + (q - n)) (by omega) (Nat.le_of_ble_eq_true rfl) (ctJ7_copyOf hb.2.1 hb.2.2.2.2.1 (by omega) (by omega)) (fun v1 h3 q3 => ?_)
  obtain ⟨rfl, rfl⟩ := q3
  refine am_put dJ5_ensureCapacityInternal_d00df_35 kFJ5_15 (hs_push hb.1) (Nat.le_of_ble_eq_true rfl) rfl rfl ?_
  exact am_return dJ5_ensureCapacityInternal_d00df_38 rfl ⟨rfl, rfl⟩
/-! length and charAt of a String constant. -/
def sbU2 (q n : Nat) : Nat := if q ≤ n then 0 else if q ≤ 2 * n + 2 then n + (n + 2) else n + (q - n)
def sbN2 (q n : Nat) : Nat := if q ≤ n then n else if q ≤ 2 * n + 2 then n + (n + 2) else n + (q - n)
theorem sbN2_ge (q n : Nat) : q ≤ sbN2 q n := by
  unfold sbN2
  split
  · assumption
  · split <;> omega
theorem ctJ5_ensL {l : Launch} {G : GM} {h : List va_E} {v n C : Nat} {f : Nat → Int32} {ml : Int32} (hb : SBc G h v n C f ml) {q : Nat} (h2 : q ≤ 2000) : Ct l G mJ5_ensureCapacityInternal_d00df 3 (sbK q n) (sbU2 q n) [.ref (gz G + 19), .int (nI q)] h (fun r h1 => r = none ∧ ∃ v1 n1 f1, SBc G h1 v1 n1 C f1 ml ∧ SBf h h1 v v1 ∧ n1 = sbN2 q n ∧ ∀ j, j < n → f1 j = f j) := by
  by_cases c : q ≤ 2 * n + 2
  · have e := ctJ5_ens (l := l) hb c h2
    have e1 : sbU q n = sbU2 q n := by unfold sbU sbU2; rw [if_pos c]
    have e2 : sbN q n = sbN2 q n := by unfold sbN sbN2; rw [if_pos c]
    rw [← e1, ← e2]; exact e
  · have c0 : ¬ q ≤ n := by omega
    unfold sbK sbU2 sbN2
    rw [if_neg c0, if_neg c0, if_neg c0, if_neg c]
    refine sb_ctW (ctJ5_ens2 hb (by omega) (by omega) (by omega)) (fun r h3 hq => ?_)
    obtain ⟨rfl, rfl⟩ := hq
    obtain ⟨x1, x2⟩ := sb_grow hb (show n + (q - n) ≤ 4096 by omega)
    exact ⟨rfl, h.length, n + (q - n), va_cpy f (fun _ => 0) 0 0 n, x1, x2, rfl, fun j hj => by rw [pk_cpy_in (by omega) (by omega)]; congr 1; omega⟩
set_option maxRecDepth 20000 in
theorem ctJ5_appendSL {l : Launch} {G : GM} {h : List va_E} {v n C : Nat} {f : Nat → Int32} {ml : Int32} (hb : SBc G h v n C f ml) {j : Nat} {qs : String × Nat × String × List Int32} (hj : strTab[j]? = some qs) (hC : C + qs.2.2.2.length ≤ 2000) : Ct l G mJ5_append_cf1ce 4 (sbK (C + qs.2.2.2.length) n) (sbU2 (C + qs.2.2.2.length) n) [.ref (gz G + 19), .ref (gS G j)] h (fun r h1 => r = some (.ref (gz G + 19)) ∧ ∃ v1 n1 f1, SBc G h1 v1 n1 (C + qs.2.2.2.length) f1 ml ∧ SBf h h1 v v1 ∧ n1 = sbN2 (C + qs.2.2.2.length) n ∧ (∀ j, j < C → f1 j = f j) ∧ ∀ i, i < qs.2.2.2.length → f1 (C + i) = qs.2.2.2.getD i 0) := by
  show Tr l G mJ5_append_cf1ce 4 (sbK (C + qs.2.2.2.length) n) (sbU2 (C + qs.2.2.2.length) n) 0 [(0, .ref (gz G + 19)), (1, .ref (gS G j))] [] h _
  have hCn := hb.2.2.2.2.2.1
  have hn16 := hb.2.2.2.2.2.2.1
  refine am_aload_n dJ5_append_cf1ce_0 1 rfl ?_
  refine am_ifnonnull dJ5_append_cf1ce_1 (by decide : ((1 : Nat) : Int) + (8) = ((9 : Nat) : Int)) ?_
  refine am_aload_n dJ5_append_cf1ce_9 1 rfl ?_
  refine am_callK (As := []) (rest := []) dJ5_append_cf1ce_10 kMJ5_32 rfl (q := qs) hj rfl rfl (Nat.le_of_ble_eq_true rfl) (d2 := 1) (by decide) (k2 := 0) (Nat.zero_le _) (u2 := 0) (Nat.zero_le _) (Nat.le_of_ble_eq_true rfl) (ctJ0_length_8abf5 hj) (fun v1 h2 q3 => ?_)
  obtain ⟨rfl, rfl⟩ := q3
  refine am_istore_n dJ5_append_cf1ce_13 (by decide) (lv' := [(2, .int (nI qs.2.2.2.length)), (0, .ref (gz G + 19)), (1, .ref (gS G j))]) rfl ?_
  refine am_aload_n dJ5_append_cf1ce_14 1 rfl ?_
  refine am_aload_n dJ5_append_cf1ce_15 1 rfl ?_
  refine am_get dJ5_append_cf1ce_16 kGJ5_79 hb.1 rfl ?_
  refine am_iload_n dJ5_append_cf1ce_19 0 rfl ?_
  refine am_iadd dJ5_append_cf1ce_20 ?_
  rw [nI_add]
  refine am_callU (As := [.int (nI (C + qs.2.2.2.length))]) (rest := []) dJ5_append_cf1ce_21 kUJ5_100 rfl hb.1 rfl rfl (Nat.le_of_ble_eq_true rfl) (d2 := 3) (by decide) (k2 := sbK (C + qs.2.2.2.length) n) (Nat.le_refl _) (u2 := sbU2 (C + qs.2.2.2.length) n) (Nat.le_refl _) (Nat.le_of_ble_eq_true rfl) (ctJ5_ensL hb (q := C + qs.2.2.2.length) hC) (fun r1 h1 q3 => ?_)
  obtain ⟨rfl, v1, n1, f1, hb1, hF1, hn1, hk1⟩ := q3
  have hv1 := hb1.2.2.1
  have hn4 := hb1.2.2.2.2.2.2.2
  have hq1 : C + qs.2.2.2.length ≤ n1 := by rw [hn1]; exact sbN2_ge _ _
  refine am_aload_n dJ5_append_cf1ce_24 1 rfl ?_
  refine am_aload_n dJ5_append_cf1ce_25 1 rfl ?_
  refine am_get dJ5_append_cf1ce_26 kGJ5_79 hb1.1 rfl ?_
  refine am_aload_n dJ5_append_cf1ce_29 2 rfl ?_
  refine am_callU (As := [.int (nI C), .ref (gS G j)]) (rest := []) dJ5_append_cf1ce_30 kUJ5_208 rfl hb1.1 rfl rfl (Nat.le_of_ble_eq_true rfl) (d2 := 2) (by decide) (k2 := 0) (Nat.zero_le _) (u2 := 0) (Nat.zero_le _) (Nat.le_of_ble_eq_true rfl) (ctJ5_putStr hb1 hj hq1) (fun v9 h9 q3 => ?_)
  obtain ⟨rfl, rfl⟩ := q3
  have hb2 := hs_ne (c1 := (.inl (1, n1, .inl (va_cpy (fun i => qs.2.2.2.getD i 0) f1 0 C qs.2.2.2.length)) : va_E)) hb1.1 (fun z => hv1 z)
  refine am_aload_n dJ5_append_cf1ce_33 1 rfl ?_
  refine am_dup dJ5_append_cf1ce_34 rfl ?_
  refine am_get dJ5_append_cf1ce_35 kGJ5_79 hb2 rfl ?_
  refine am_iload_n dJ5_append_cf1ce_38 0 rfl ?_
  refine am_iadd dJ5_append_cf1ce_39 ?_
  rw [nI_add]
  refine am_put dJ5_append_cf1ce_40 kFJ5_79 hb2 (Nat.le_of_ble_eq_true rfl) rfl rfl ?_
  refine am_aload_n dJ5_append_cf1ce_43 1 rfl ?_
  have hx := sb_set hb1 (g := va_cpy (fun i => qs.2.2.2.getD i 0) f1 0 C qs.2.2.2.length) (bb_fitC (sq_fit hj) hb1.2.2.2.2.1 0 C _) hq1 (sb_comm hv1)
  exact am_areturn dJ5_append_cf1ce_44 rfl (Or.inl ⟨_, rfl⟩) ⟨rfl, v1, n1, _, hx.1, sbfT hF1 hx.2, hn1, fun j hj => by rw [pk_cpy_out (by omega)]; exact hk1 j (by omega), fun i hi => by rw [pk_cpy_in (by omega) (by omega)]; congr 1; omega⟩
/-! The JDK's StringBuilder: appending an int, setLength(0), charAt; the class itself. -/
set_option maxRecDepth 20000 in
theorem ctJ4_appendSL {l : Launch} {G : GM} {h : List va_E} {v n C : Nat} {f : Nat → Int32} {ml : Int32} (hb : SBc G h v n C f ml) {j : Nat} {qs : String × Nat × String × List Int32} (hj : strTab[j]? = some qs) (hC : C + qs.2.2.2.length ≤ 2000) : Ct l G mJ4_append_15ec4 5 (sbK (C + qs.2.2.2.length) n) (sbU2 (C + qs.2.2.2.length) n) [.ref (gz G + 19), .ref (gS G j)] h (fun r h1 => r = some (.ref (gz G + 19)) ∧ ∃ v1 n1 f1, SBc G h1 v1 n1 (C + qs.2.2.2.length) f1 ml ∧ SBf h h1 v v1 ∧ n1 = sbN2 (C + qs.2.2.2.length) n ∧ (∀ j, j < C → f1 j = f j) ∧ ∀ i, i < qs.2.2.2.length → f1 (C + i) = qs.2.2.2.getD i 0) := by
  show Tr l G mJ4_append_15ec4 5 (sbK (C + qs.2.2.2.length) n) (sbU2 (C + qs.2.2.2.length) n) 0 [(0, .ref (gz G + 19)), (1, .ref (gS G j))] [] h _
  refine am_aload_n dJ4_append_15ec4_0 0 rfl ?_
  refine am_aload_n dJ4_append_15ec4_1 1 rfl ?_
  refine am_callSU (As := [.ref (gS G j)]) (rest := []) dJ4_append_15ec4_2 kTJ4_29 rfl hb.1 rfl rfl (Nat.le_of_ble_eq_true rfl) (d2 := 4) (by decide) (k2 := (sbK (C + qs.2.2.2.length) n)) (Nat.le_refl _) (u2 := (sbU2 (C + qs.2.2.2.length) n)) (Nat.le_refl _) (Nat.le_of_ble_eq_true rfl) (ctJ5_appendSL hb hj hC) (fun r1 h1 q3 => ?_)
  obtain ⟨rfl, q4⟩ := q3
  refine am_pop dJ4_append_15ec4_5 rfl ?_
  refine am_aload_n dJ4_append_15ec4_6 0 rfl ?_
  exact am_areturn dJ4_append_15ec4_7 rfl (Or.inl ⟨_, rfl⟩) ⟨rfl, q4⟩
set_option maxRecDepth 20000 in
theorem ctJ5_putStrD {l : Launch} {G : GM} {h : List va_E} {v n C : Nat} {f : Nat → Int32} {ml : Int32} (hb : SBc G h v n C f ml) {si sr sN : Nat} {sf : Nat → Int32} (hj : DSt G h si sr sf sN) (h1 : C + sN ≤ n) : Ct l G mJ5_putStringAt_47b60 2 0 0 [.ref (gz G + 19), .int (nI C), .ref (gz G + si)] h (fun r h1 => r = none ∧ h1 = h.set v (.inl (1, n, .inl (va_cpy sf f 0 C sN)))) := by
  show Tr l G mJ5_putStringAt_47b60 2 0 0 0 [(0, .ref (gz G + 19)), (1, .int (nI C)), (2, .ref (gz G + si))] [] h _
  refine am_aload_n dJ5_putStringAt_47b60_0 0 rfl ?_
  refine am_aload_n dJ5_putStringAt_47b60_1 2 rfl ?_
  refine am_callU (As := [.ref (gz G + si)]) (rest := []) dJ5_putStringAt_47b60_2 kUJ5_397 rfl hb.1 rfl rfl (Nat.le_of_ble_eq_true rfl) (d2 := 1) (by decide) (k2 := 0) (Nat.zero_le _) (u2 := 0) (Nat.zero_le _) (Nat.le_of_ble_eq_true rfl) (ctJ5_inflIfD hb hj) (fun v1 h2 q3 => ?_)
  obtain ⟨rfl, rfl⟩ := q3
  refine am_aload_n dJ5_putStringAt_47b60_5 2 rfl ?_
  refine am_aload_n dJ5_putStringAt_47b60_6 0 rfl ?_
  refine am_get dJ5_putStringAt_47b60_7 kGJ5_15 hb.1 rfl ?_
  refine am_iload_n dJ5_putStringAt_47b60_10 1 rfl ?_
  refine am_aload_n dJ5_putStringAt_47b60_11 0 rfl ?_
  refine am_get dJ5_putStringAt_47b60_12 kGJ5_22 hb.1 rfl ?_
  refine am_callV (As := [.ref (gz G + v), .int (nI C), .int 0]) (rest := []) dJ5_putStringAt_47b60_15 kMJ5_399 rfl hj.1 rfl rfl (Nat.le_of_ble_eq_true rfl) (d2 := 1) (by decide) (k2 := 0) (Nat.zero_le _) (u2 := 0) (Nat.zero_le _) (Nat.le_of_ble_eq_true rfl) (ctJ0_getBytesD hb.2.1 hj h1 hb.2.2.2.2.2.2.2) (fun v1 h2 q3 => ?_)
  obtain ⟨rfl, rfl⟩ := q3
  exact am_return dJ5_putStringAt_47b60_18 rfl ⟨rfl, rfl⟩
theorem DSt.fr {G : GM} {h h1 : List va_E} {si sr sN v v1 : Nat} {sf : Nat → Int32} {fs : List Value} {b : va_E} (hj : DSt G h si sr sf sN) (hF : SBf h h1 v v1) (h19 : h[19]? = some (.inr (0, fs))) (hv : h[v]? = some b) (hbv : ∀ o, b ≠ .inr o) (hne : ¬ sr = v) : DSt G h1 si sr sf sN := by
  obtain ⟨j1, j2, j3, j4⟩ := hj
  have l1 := (List.getElem?_eq_some_iff.mp j1).1
  have l2 := (List.getElem?_eq_some_iff.mp j2).1
  have n1 : ¬ si = 19 := fun e => by rw [e, h19] at j1; cases j1
  have n2 : ¬ si = v := fun e => by rw [e, hv] at j1; exact hbv _ (Option.some.inj j1)
  have n3 : ¬ sr = 19 := fun e => by rw [e, h19] at j2; cases j2
  exact ⟨(hF.2.1 si l1 n1 n2).trans j1, (hF.2.1 sr l2 n3 hne).trans j2, j3, j4⟩
set_option maxRecDepth 20000 in
theorem ctJ5_appendSD {l : Launch} {G : GM} {h : List va_E} {v n C : Nat} {f : Nat → Int32} {ml : Int32} (hb : SBc G h v n C f ml) {si sr sN : Nat} {sf : Nat → Int32} (hj : DSt G h si sr sf sN) (hne : ¬ sr = v) (hC : C + sN ≤ 2000) : Ct l G mJ5_append_cf1ce 4 (sbK (C + sN) n) (sbU2 (C + sN) n) [.ref (gz G + 19), .ref (gz G + si)] h (fun r h1 => r = some (.ref (gz G + 19)) ∧ ∃ v1 n1 f1, SBc G h1 v1 n1 (C + sN) f1 ml ∧ SBf h h1 v v1 ∧ n1 = sbN2 (C + sN) n ∧ (∀ j, j < C → f1 j = f j) ∧ ∀ i, i < sN → f1 (C + i) = sf i) := by
  show Tr l G mJ5_append_cf1ce 4 (sbK (C + sN) n) (sbU2 (C + sN) n) 0 [(0, .ref (gz G + 19)), (1, .ref (gz G + si))] [] h _
  have hCn := hb.2.2.2.2.2.1
  have hn16 := hb.2.2.2.2.2.2.1
  refine am_aload_n dJ5_append_cf1ce_0 1 rfl ?_
  refine am_ifnonnull dJ5_append_cf1ce_1 (by decide : ((1 : Nat) : Int) + (8) = ((9 : Nat) : Int)) ?_
  refine am_aload_n dJ5_append_cf1ce_9 1 rfl ?_
  refine am_callV (As := []) (rest := []) dJ5_append_cf1ce_10 kMJ5_32 rfl hj.1 rfl rfl (Nat.le_of_ble_eq_true rfl) (d2 := 1) (by decide) (k2 := 0) (Nat.zero_le _) (u2 := 0) (Nat.zero_le _) (Nat.le_of_ble_eq_true rfl) (ctJ0_lengthD hj) (fun v1 h2 q3 => ?_)
  obtain ⟨rfl, rfl⟩ := q3
  refine am_istore_n dJ5_append_cf1ce_13 (by decide) (lv' := [(2, .int (nI sN)), (0, .ref (gz G + 19)), (1, .ref (gz G + si))]) rfl ?_
  refine am_aload_n dJ5_append_cf1ce_14 1 rfl ?_
  refine am_aload_n dJ5_append_cf1ce_15 1 rfl ?_
  refine am_get dJ5_append_cf1ce_16 kGJ5_79 hb.1 rfl ?_
  refine am_iload_n dJ5_append_cf1ce_19 0 rfl ?_
  refine am_iadd dJ5_append_cf1ce_20 ?_
  rw [nI_add]
  refine am_callU (As := [.int (nI (C + sN))]) (rest := []) dJ5_append_cf1ce_21 kUJ5_100 rfl hb.1 rfl rfl (Nat.le_of_ble_eq_true rfl) (d2 := 3) (by decide) (k2 := sbK (C + sN) n) (Nat.le_refl _) (u2 := sbU2 (C + sN) n) (Nat.le_refl _) (Nat.le_of_ble_eq_true rfl) (ctJ5_ensL hb (q := C + sN) hC) (fun r1 h1 q3 => ?_)
  obtain ⟨rfl, v1, n1, f1, hb1, hF1, hn1, hk1⟩ := q3
  have hv1 := hb1.2.2.1
  have hj1 := hj.fr hF1 hb.1 hb.2.1 (fun o z => by cases z) hne
  have hn4 := hb1.2.2.2.2.2.2.2
  have hq1 : C + sN ≤ n1 := by rw [hn1]; exact sbN2_ge _ _
  refine am_aload_n dJ5_append_cf1ce_24 1 rfl ?_
  refine am_aload_n dJ5_append_cf1ce_25 1 rfl ?_
  refine am_get dJ5_append_cf1ce_26 kGJ5_79 hb1.1 rfl ?_
  refine am_aload_n dJ5_append_cf1ce_29 2 rfl ?_
  refine am_callU (As := [.int (nI C), .ref (gz G + si)]) (rest := []) dJ5_append_cf1ce_30 kUJ5_208 rfl hb1.1 rfl rfl (Nat.le_of_ble_eq_true rfl) (d2 := 2) (by decide) (k2 := 0) (Nat.zero_le _) (u2 := 0) (Nat.zero_le _) (Nat.le_of_ble_eq_true rfl) (ctJ5_putStrD hb1 hj1 hq1) (fun v9 h9 q3 => ?_)
  obtain ⟨rfl, rfl⟩ := q3
  have hb2 := hs_ne (c1 := (.inl (1, n1, .inl (va_cpy sf f1 0 C sN)) : va_E)) hb1.1 (fun z => hv1 z)
  refine am_aload_n dJ5_append_cf1ce_33 1 rfl ?_
  refine am_dup dJ5_append_cf1ce_34 rfl ?_
  refine am_get dJ5_append_cf1ce_35 kGJ5_79 hb2 rfl ?_
  refine am_iload_n dJ5_append_cf1ce_38 0 rfl ?_
  refine am_iadd dJ5_append_cf1ce_39 ?_
  rw [nI_add]
  refine am_put dJ5_append_cf1ce_40 kFJ5_79 hb2 (Nat.le_of_ble_eq_true rfl) rfl rfl ?_
  refine am_aload_n dJ5_append_cf1ce_43 1 rfl ?_
  have hx := sb_set hb1 (g := va_cpy sf f1 0 C sN) (bb_fitC hj1.2.2.2 hb1.2.2.2.2.1 0 C _) hq1 (sb_comm hv1)
  exact am_areturn dJ5_append_cf1ce_44 rfl (Or.inl ⟨_, rfl⟩) ⟨rfl, v1, n1, _, hx.1, sbfT hF1 hx.2, hn1, fun j hj => by rw [pk_cpy_out (by omega)]; exact hk1 j (by omega), fun i hi => by rw [pk_cpy_in (by omega) (by omega)]; congr 1; omega⟩
/-! The JDK's StringBuilder: appending an int, setLength(0), charAt; the class itself. -/
set_option maxRecDepth 20000 in
theorem ctJ4_appendSD {l : Launch} {G : GM} {h : List va_E} {v n C : Nat} {f : Nat → Int32} {ml : Int32} (hb : SBc G h v n C f ml) {si sr sN : Nat} {sf : Nat → Int32} (hj : DSt G h si sr sf sN) (hne : ¬ sr = v) (hC : C + sN ≤ 2000) : Ct l G mJ4_append_15ec4 5 (sbK (C + sN) n) (sbU2 (C + sN) n) [.ref (gz G + 19), .ref (gz G + si)] h (fun r h1 => r = some (.ref (gz G + 19)) ∧ ∃ v1 n1 f1, SBc G h1 v1 n1 (C + sN) f1 ml ∧ SBf h h1 v v1 ∧ n1 = sbN2 (C + sN) n ∧ (∀ j, j < C → f1 j = f j) ∧ ∀ i, i < sN → f1 (C + i) = sf i) := by
  show Tr l G mJ4_append_15ec4 5 (sbK (C + sN) n) (sbU2 (C + sN) n) 0 [(0, .ref (gz G + 19)), (1, .ref (gz G + si))] [] h _
  refine am_aload_n dJ4_append_15ec4_0 0 rfl ?_
  refine am_aload_n dJ4_append_15ec4_1 1 rfl ?_
  refine am_callSU (As := [.ref (gz G + si)]) (rest := []) dJ4_append_15ec4_2 kTJ4_29 rfl hb.1 rfl rfl (Nat.le_of_ble_eq_true rfl) (d2 := 4) (by decide) (k2 := (sbK (C + sN) n)) (Nat.le_refl _) (u2 := (sbU2 (C + sN) n)) (Nat.le_refl _) (Nat.le_of_ble_eq_true rfl) (ctJ5_appendSD hb hj hne hC) (fun r1 h1 q3 => ?_)
  obtain ⟨rfl, q4⟩ := q3
  refine am_pop dJ4_append_15ec4_5 rfl ?_
  refine am_aload_n dJ4_append_15ec4_6 0 rfl ?_
  exact am_areturn dJ4_append_15ec4_7 rfl (Or.inl ⟨_, rfl⟩) ⟨rfl, q4⟩
