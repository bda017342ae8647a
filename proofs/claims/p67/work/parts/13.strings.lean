/-! length and charAt of a String constant. -/
theorem sh0l (x : Int32) : x <<< ((0 : Int32) &&& 31) = x := by simp
theorem sh0r (x : Int32) : x >>> ((0 : Int32) &&& 31) = x := by simp
theorem sq_len {j : Nat} {q : String × Nat × String × List Int32} (hj : strTab[j]? = some q) : q.2.2.2.length < 2147483648 :=
  (by decide : ∀ q ∈ strTab, q.2.2.2.length < 2147483648) q (List.mem_of_getElem? hj)
theorem nar_chr (x : Int32) : narrow .char (.int (ichr x)) = .int (ichr x) := pk_nc x
theorem dJ0_coder_7d493_0 : decode cJ0_coder_7d493 0 = .ok (.getstatic 38, 3) := by decide +kernel
theorem dJ0_coder_7d493_3 : decode cJ0_coder_7d493 3 = .ok (.ifCond .eq 10, 3) := by decide +kernel
theorem dJ0_coder_7d493_6 : decode cJ0_coder_7d493 6 = .ok (.aload_n 0, 1) := by decide +kernel
theorem dJ0_coder_7d493_7 : decode cJ0_coder_7d493 7 = .ok (.getfield 15, 3) := by decide +kernel
theorem dJ0_coder_7d493_10 : decode cJ0_coder_7d493 10 = .ok (.goto 4, 3) := by decide +kernel
theorem dJ0_coder_7d493_14 : decode cJ0_coder_7d493 14 = .ok (.ireturn, 1) := by decide +kernel
set_option maxRecDepth 20000 in
theorem ctJ0_coder_7d493 {l : Launch} {G : GM} {h : List va_E} {j : Nat} {q : String × Nat × String × List Int32} (hj : strTab[j]? = some q)  : Ct l G mJ0_coder_7d493 0 0 0 [.ref (gS G j)] h (fun v h1 => v = some (.int 0) ∧ h1 = h) := by
  show Tr l G mJ0_coder_7d493 0 0 0 0 [(0, .ref (gS G j))] [] h _
  refine am_compact dJ0_coder_7d493_0 (lw_k2 138 (by decide +kernel) (by decide +kernel)) ?_
  refine am_if_eq dJ0_coder_7d493_3 (by decide : ((3 : Nat) : Int) + (10) = ((13 : Nat) : Int)) (fun q => absurd q (by decide)) (fun _ => ?_)
  refine am_aload_n dJ0_coder_7d493_6 0 rfl ?_
  refine am_getSc dJ0_coder_7d493_7 hj (lw_k5 52 (by decide +kernel) (by decide +kernel)) ?_
  refine am_goto dJ0_coder_7d493_10 (by decide : ((10 : Nat) : Int) + (4) = ((14 : Nat) : Int)) ?_
  exact am_ireturn dJ0_coder_7d493_14 rfl rfl ⟨rfl, rfl⟩

theorem dJ0_isLatin1_aae02_0 : decode cJ0_isLatin1_aae02 0 = .ok (.getstatic 38, 3) := by decide +kernel
theorem dJ0_isLatin1_aae02_3 : decode cJ0_isLatin1_aae02 3 = .ok (.ifCond .eq 14, 3) := by decide +kernel
theorem dJ0_isLatin1_aae02_6 : decode cJ0_isLatin1_aae02 6 = .ok (.aload_n 0, 1) := by decide +kernel
theorem dJ0_isLatin1_aae02_7 : decode cJ0_isLatin1_aae02 7 = .ok (.getfield 15, 3) := by decide +kernel
theorem dJ0_isLatin1_aae02_10 : decode cJ0_isLatin1_aae02 10 = .ok (.ifCond .ne 7, 3) := by decide +kernel
theorem dJ0_isLatin1_aae02_13 : decode cJ0_isLatin1_aae02 13 = .ok (.iconst 1, 1) := by decide +kernel
theorem dJ0_isLatin1_aae02_14 : decode cJ0_isLatin1_aae02 14 = .ok (.goto 4, 3) := by decide +kernel
theorem dJ0_isLatin1_aae02_18 : decode cJ0_isLatin1_aae02 18 = .ok (.ireturn, 1) := by decide +kernel
set_option maxRecDepth 20000 in
theorem ctJ0_isLatin1_aae02 {l : Launch} {G : GM} {h : List va_E} {j : Nat} {q : String × Nat × String × List Int32} (hj : strTab[j]? = some q)  : Ct l G mJ0_isLatin1_aae02 0 0 0 [.ref (gS G j)] h (fun v h1 => v = some (.int 1) ∧ h1 = h) := by
  show Tr l G mJ0_isLatin1_aae02 0 0 0 0 [(0, .ref (gS G j))] [] h _
  refine am_compact dJ0_isLatin1_aae02_0 (lw_k2 138 (by decide +kernel) (by decide +kernel)) ?_
  refine am_if_eq dJ0_isLatin1_aae02_3 (by decide : ((3 : Nat) : Int) + (14) = ((17 : Nat) : Int)) (fun q => absurd q (by decide)) (fun _ => ?_)
  refine am_aload_n dJ0_isLatin1_aae02_6 0 rfl ?_
  refine am_getSc dJ0_isLatin1_aae02_7 hj (lw_k5 52 (by decide +kernel) (by decide +kernel)) ?_
  refine am_if_ne dJ0_isLatin1_aae02_10 (by decide : ((10 : Nat) : Int) + (7) = ((17 : Nat) : Int)) (fun q => absurd q (by decide)) (fun _ => ?_)
  refine am_iconst (v := 1) dJ0_isLatin1_aae02_13 (by decide) ?_
  refine am_goto dJ0_isLatin1_aae02_14 (by decide : ((14 : Nat) : Int) + (4) = ((18 : Nat) : Int)) ?_
  exact am_ireturn dJ0_isLatin1_aae02_18 rfl rfl ⟨rfl, rfl⟩

theorem dJ0_length_8abf5_0 : decode cJ0_length_8abf5 0 = .ok (.aload_n 0, 1) := by decide +kernel
theorem dJ0_length_8abf5_1 : decode cJ0_length_8abf5 1 = .ok (.getfield 9, 3) := by decide +kernel
theorem dJ0_length_8abf5_4 : decode cJ0_length_8abf5 4 = .ok (.arraylength, 1) := by decide +kernel
theorem dJ0_length_8abf5_5 : decode cJ0_length_8abf5 5 = .ok (.aload_n 0, 1) := by decide +kernel
theorem dJ0_length_8abf5_6 : decode cJ0_length_8abf5 6 = .ok (.invokevirtual 335, 3) := by decide +kernel
theorem dJ0_length_8abf5_9 : decode cJ0_length_8abf5 9 = .ok (.ishr, 1) := by decide +kernel
theorem dJ0_length_8abf5_10 : decode cJ0_length_8abf5 10 = .ok (.ireturn, 1) := by decide +kernel
set_option maxRecDepth 20000 in
theorem ctJ0_length_8abf5 {l : Launch} {G : GM} {h : List va_E} {j : Nat} {q : String × Nat × String × List Int32} (hj : strTab[j]? = some q)  : Ct l G mJ0_length_8abf5 1 0 0 [.ref (gS G j)] h (fun v h1 => v = some (.int (nI q.2.2.2.length)) ∧ h1 = h) := by
  show Tr l G mJ0_length_8abf5 1 0 0 0 [(0, .ref (gS G j))] [] h _
  refine am_aload_n dJ0_length_8abf5_0 0 rfl ?_
  refine am_getSv dJ0_length_8abf5_1 hj (lw_k5 51 (by decide +kernel) (by decide +kernel)) ?_
  refine am_alenS dJ0_length_8abf5_4 hj rfl ?_
  refine am_aload_n dJ0_length_8abf5_5 0 rfl ?_
  refine am_callK (As := []) (rest := [.int (nI q.2.2.2.length)]) dJ0_length_8abf5_6 kMJ0_335 rfl (q := q) hj rfl rfl (Nat.le_of_ble_eq_true rfl) (d2 := 0) (by decide) (k2 := 0) (Nat.zero_le _) (u2 := 0) (Nat.zero_le _) (Nat.le_of_ble_eq_true rfl) (ctJ0_coder_7d493 hj) (fun v1 h2 q3 => ?_)
  obtain ⟨rfl, rfl⟩ := q3
  refine am_ishr dJ0_length_8abf5_9 ?_
  rw [sh0r (nI q.2.2.2.length)]
  exact am_ireturn dJ0_length_8abf5_10 rfl rfl ⟨rfl, rfl⟩

theorem dJ3_checkIndex_8e157_0 : decode cJ3_checkIndex_8e157 0 = .ok (.iload_n 0, 1) := by decide +kernel
theorem dJ3_checkIndex_8e157_1 : decode cJ3_checkIndex_8e157 1 = .ok (.ifCond .lt 8, 3) := by decide +kernel
theorem dJ3_checkIndex_8e157_4 : decode cJ3_checkIndex_8e157 4 = .ok (.iload_n 0, 1) := by decide +kernel
theorem dJ3_checkIndex_8e157_5 : decode cJ3_checkIndex_8e157 5 = .ok (.iload_n 1, 1) := by decide +kernel
theorem dJ3_checkIndex_8e157_6 : decode cJ3_checkIndex_8e157 6 = .ok (.if_icmp .lt 10, 3) := by decide +kernel
theorem dJ3_checkIndex_8e157_16 : decode cJ3_checkIndex_8e157 16 = .ok (.iload_n 0, 1) := by decide +kernel
theorem dJ3_checkIndex_8e157_17 : decode cJ3_checkIndex_8e157 17 = .ok (.ireturn, 1) := by decide +kernel
set_option maxRecDepth 20000 in
theorem ctJ3_checkIndex_8e157 {l : Launch} {G : GM} {h : List va_E} {z1 z2 : Int32} (p1 : ¬ z1 < 0) (p2 : z1 < z2) : Ct l G mJ3_checkIndex_8e157 0 0 0 [.int z1, .int z2, gF G] h (fun v h1 => v = some (.int z1) ∧ h1 = h) := by
  show Tr l G mJ3_checkIndex_8e157 0 0 0 0 [(0, .int z1), (1, .int z2), (2, gF G)] [] h _
  refine am_iload_n dJ3_checkIndex_8e157_0 0 rfl ?_
  refine am_if_lt dJ3_checkIndex_8e157_1 (by decide : ((1 : Nat) : Int) + (8) = ((9 : Nat) : Int)) (fun q => absurd q p1) (fun _ => ?_)
  refine am_iload_n dJ3_checkIndex_8e157_4 0 rfl ?_
  refine am_iload_n dJ3_checkIndex_8e157_5 1 rfl ?_
  refine am_icmp_lt dJ3_checkIndex_8e157_6 (by decide : ((6 : Nat) : Int) + (10) = ((16 : Nat) : Int)) (fun _ => ?_) (fun q => absurd p2 q)
  refine am_iload_n dJ3_checkIndex_8e157_16 0 rfl ?_
  exact am_ireturn dJ3_checkIndex_8e157_17 rfl rfl ⟨rfl, rfl⟩

theorem dJ0_checkIndex_df160_0 : decode cJ0_checkIndex_df160 0 = .ok (.iload_n 0, 1) := by decide +kernel
theorem dJ0_checkIndex_df160_1 : decode cJ0_checkIndex_df160 1 = .ok (.iload_n 1, 1) := by decide +kernel
theorem dJ0_checkIndex_df160_2 : decode cJ0_checkIndex_df160 2 = .ok (.getstatic 1053, 3) := by decide +kernel
theorem dJ0_checkIndex_df160_5 : decode cJ0_checkIndex_df160 5 = .ok (.invokestatic 1059, 3) := by decide +kernel
theorem dJ0_checkIndex_df160_8 : decode cJ0_checkIndex_df160 8 = .ok (.pop, 1) := by decide +kernel
theorem dJ0_checkIndex_df160_9 : decode cJ0_checkIndex_df160 9 = .ok (.return_, 1) := by decide +kernel
theorem gF_len (G : GM) (z1 z2 : Int32) : (lg_sl [.int z1, .int z2, gF G]).length = 3 := by
  unfold gF
  by_cases h : G.2.2.2.2.2.1.2.2.1 = 0
  · rw [if_pos h]; rfl
  · rw [if_neg h]; rfl
set_option maxRecDepth 20000 in
theorem ctJ0_checkIndex_df160 {l : Launch} {G : GM} {h : List va_E} {z1 z2 : Int32} (p1 : ¬ z1 < 0) (p2 : z1 < z2) : Ct l G mJ0_checkIndex_df160 1 0 0 [.int z1, .int z2] h (fun v h1 => v = none ∧ h1 = h) := by
  show Tr l G mJ0_checkIndex_df160 1 0 0 0 [(0, .int z1), (1, .int z2)] [] h _
  refine am_iload_n dJ0_checkIndex_df160_0 0 rfl ?_
  refine am_iload_n dJ0_checkIndex_df160_1 1 rfl ?_
  refine am_formatter dJ0_checkIndex_df160_2 (lw_k2 153 (by decide +kernel) (by decide +kernel)) ?_
  refine am_callS (As := [.int z1, .int z2, gF G]) (rest := []) dJ0_checkIndex_df160_5 kMJ0_1059 rfl  rfl (Nat.le_of_ble_eq_true rfl) (d2 := 0) (by decide) (k2 := 0) (Nat.zero_le _) (u2 := 0) (Nat.zero_le _) (by rw [gF_len]; exact Nat.le_of_ble_eq_true rfl) (ctJ3_checkIndex_8e157 p1 p2) (fun v1 h2 q3 => ?_)
  obtain ⟨rfl, rfl⟩ := q3
  refine am_pop dJ0_checkIndex_df160_8 rfl ?_
  exact am_return dJ0_checkIndex_df160_9 rfl ⟨rfl, rfl⟩

theorem dJ1_charAt_3b067_0 : decode cJ1_charAt_3b067 0 = .ok (.iload_n 1, 1) := by decide +kernel
theorem dJ1_charAt_3b067_1 : decode cJ1_charAt_3b067 1 = .ok (.aload_n 0, 1) := by decide +kernel
theorem dJ1_charAt_3b067_2 : decode cJ1_charAt_3b067 2 = .ok (.arraylength, 1) := by decide +kernel
theorem dJ1_charAt_3b067_3 : decode cJ1_charAt_3b067 3 = .ok (.invokestatic 9, 3) := by decide +kernel
theorem dJ1_charAt_3b067_6 : decode cJ1_charAt_3b067 6 = .ok (.aload_n 0, 1) := by decide +kernel
theorem dJ1_charAt_3b067_7 : decode cJ1_charAt_3b067 7 = .ok (.iload_n 1, 1) := by decide +kernel
theorem dJ1_charAt_3b067_8 : decode cJ1_charAt_3b067 8 = .ok (.baload, 1) := by decide +kernel
theorem dJ1_charAt_3b067_9 : decode cJ1_charAt_3b067 9 = .ok (.sipush 255, 3) := by decide +kernel
theorem dJ1_charAt_3b067_12 : decode cJ1_charAt_3b067 12 = .ok (.iand, 1) := by decide +kernel
theorem dJ1_charAt_3b067_13 : decode cJ1_charAt_3b067 13 = .ok (.i2c, 1) := by decide +kernel
theorem dJ1_charAt_3b067_14 : decode cJ1_charAt_3b067 14 = .ok (.ireturn, 1) := by decide +kernel
set_option maxRecDepth 20000 in
theorem ctJ1_charAt_3b067 {l : Launch} {G : GM} {h : List va_E} {j : Nat} {q : String × Nat × String × List Int32} (hj : strTab[j]? = some q) {z2 : Int32} (p1 : ¬ z2 < 0) (p2 : ¬ nI q.2.2.2.length ≤ z2) : Ct l G mJ1_charAt_3b067 2 0 0 [.ref (gV G j), .int z2] h (fun v h1 => v = some (.int (ichr ((q.2.2.2.getD z2.toNatClampNeg 0) &&& 255))) ∧ h1 = h) := by
  show Tr l G mJ1_charAt_3b067 2 0 0 0 [(0, .ref (gV G j)), (1, .int z2)] [] h _
  refine am_iload_n dJ1_charAt_3b067_0 1 rfl ?_
  refine am_aload_n dJ1_charAt_3b067_1 0 rfl ?_
  refine am_alenS dJ1_charAt_3b067_2 hj rfl ?_
  refine am_callS (As := [.int z2, .int (nI q.2.2.2.length)]) (rest := []) dJ1_charAt_3b067_3 kMJ1_9 rfl  rfl (Nat.le_of_ble_eq_true rfl) (d2 := 1) (by decide) (k2 := 0) (Nat.zero_le _) (u2 := 0) (Nat.zero_le _) (Nat.le_of_ble_eq_true rfl) (ctJ0_checkIndex_df160 p1 (Int32.not_le.mp p2)) (fun v1 h2 q3 => ?_)
  obtain ⟨rfl, rfl⟩ := q3
  refine am_aload_n dJ1_charAt_3b067_6 0 rfl ?_
  refine am_iload_n dJ1_charAt_3b067_7 1 rfl ?_
  refine am_baldS dJ1_charAt_3b067_8 hj (vp_in2 p1 p2 (sq_len hj)) ?_
  refine am_sipush (v := 255) dJ1_charAt_3b067_9 (by decide) ?_
  refine am_iand dJ1_charAt_3b067_12 ?_
  refine am_i2c (v := (ichr ((q.2.2.2.getD z2.toNatClampNeg 0) &&& 255))) dJ1_charAt_3b067_13 rfl ?_
  exact am_ireturn dJ1_charAt_3b067_14 rfl (nar_chr _) ⟨rfl, rfl⟩

theorem dJ0_charAt_5068e_0 : decode cJ0_charAt_5068e 0 = .ok (.aload_n 0, 1) := by decide +kernel
theorem dJ0_charAt_5068e_1 : decode cJ0_charAt_5068e 1 = .ok (.invokevirtual 492, 3) := by decide +kernel
theorem dJ0_charAt_5068e_4 : decode cJ0_charAt_5068e 4 = .ok (.ifCond .eq 12, 3) := by decide +kernel
theorem dJ0_charAt_5068e_7 : decode cJ0_charAt_5068e 7 = .ok (.aload_n 0, 1) := by decide +kernel
theorem dJ0_charAt_5068e_8 : decode cJ0_charAt_5068e 8 = .ok (.getfield 9, 3) := by decide +kernel
theorem dJ0_charAt_5068e_11 : decode cJ0_charAt_5068e 11 = .ok (.iload_n 1, 1) := by decide +kernel
theorem dJ0_charAt_5068e_12 : decode cJ0_charAt_5068e 12 = .ok (.invokestatic 495, 3) := by decide +kernel
theorem dJ0_charAt_5068e_15 : decode cJ0_charAt_5068e 15 = .ok (.ireturn, 1) := by decide +kernel
set_option maxRecDepth 20000 in
theorem ctJ0_charAt_5068e {l : Launch} {G : GM} {h : List va_E} {j : Nat} {q : String × Nat × String × List Int32} (hj : strTab[j]? = some q) {z1 : Int32} (p1 : ¬ z1 < 0) (p2 : ¬ nI q.2.2.2.length ≤ z1) : Ct l G mJ0_charAt_5068e 3 0 0 [.ref (gS G j), .int z1] h (fun v h1 => v = some (.int (ichr ((q.2.2.2.getD z1.toNatClampNeg 0) &&& 255))) ∧ h1 = h) := by
  show Tr l G mJ0_charAt_5068e 3 0 0 0 [(0, .ref (gS G j)), (1, .int z1)] [] h _
  refine am_aload_n dJ0_charAt_5068e_0 0 rfl ?_
  refine am_callK (As := []) (rest := []) dJ0_charAt_5068e_1 kMJ0_492 rfl (q := q) hj rfl rfl (Nat.le_of_ble_eq_true rfl) (d2 := 0) (by decide) (k2 := 0) (Nat.zero_le _) (u2 := 0) (Nat.zero_le _) (Nat.le_of_ble_eq_true rfl) (ctJ0_isLatin1_aae02 hj) (fun v1 h2 q3 => ?_)
  obtain ⟨rfl, rfl⟩ := q3
  refine am_if_eq dJ0_charAt_5068e_4 (by decide : ((4 : Nat) : Int) + (12) = ((16 : Nat) : Int)) (fun q => absurd q (by decide)) (fun _ => ?_)
  refine am_aload_n dJ0_charAt_5068e_7 0 rfl ?_
  refine am_getSv dJ0_charAt_5068e_8 hj (lw_k5 51 (by decide +kernel) (by decide +kernel)) ?_
  refine am_iload_n dJ0_charAt_5068e_11 1 rfl ?_
  refine am_callS (As := [.ref (gV G j), .int z1]) (rest := []) dJ0_charAt_5068e_12 kMJ0_495 rfl  rfl (Nat.le_of_ble_eq_true rfl) (d2 := 2) (by decide) (k2 := 0) (Nat.zero_le _) (u2 := 0) (Nat.zero_le _) (Nat.le_of_ble_eq_true rfl) (ctJ1_charAt_3b067 hj p1 p2) (fun v5 h6 q7 => ?_)
  obtain ⟨rfl, rfl⟩ := q7
  exact am_ireturn dJ0_charAt_5068e_15 rfl (nar_chr _) ⟨rfl, rfl⟩
