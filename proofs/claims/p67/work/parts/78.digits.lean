/-! The JDK's digits. -/
theorem sb_negI {z : Nat} (h : z < 1000000) : (-(nI z)).toInt = -(z : Int) := by
  have e : -(nI z) = 0 - nI z := (Int32.zero_sub _).symm
  rw [e, hz_sub (by rw [nI_toInt (by omega), show (0 : Int32).toInt = 0 from rfl]; omega) (by rw [nI_toInt (by omega), show (0 : Int32).toInt = 0 from rfl]; omega), nI_toInt (by omega), show (0 : Int32).toInt = 0 from rfl]
  omega
theorem sb_t1 {z : Nat} (h : z < 1000000) : -(nI z) ≤ (-10) ↔ 10 ≤ z := by
  rw [hz_le, sb_negI h, show (-10 : Int32).toInt = -10 from rfl]; omega
theorem sb_t2 {z : Nat} (h : z < 1000000) : -(nI z) ≤ (-100) ↔ 100 ≤ z := by
  rw [hz_le, sb_negI h, show (-100 : Int32).toInt = -100 from rfl]; omega
theorem sb_t3 {z : Nat} (h : z < 1000000) : -(nI z) ≤ (-1000) ↔ 1000 ≤ z := by
  rw [hz_le, sb_negI h, show (-1000 : Int32).toInt = -1000 from rfl]; omega
theorem sb_t4 {z : Nat} (h : z < 1000000) : -(nI z) ≤ (-10000) ↔ 10000 ≤ z := by
  rw [hz_le, sb_negI h, show (-10000 : Int32).toInt = -10000 from rfl]; omega
theorem sb_gt100 {z : Nat} (h : z < 1000000) : (-100) < -(nI z) ↔ z < 100 := by
  rw [hz_lt, sb_negI h, show (-100 : Int32).toInt = -100 from rfl]; omega
theorem sb_ge9 {z : Nat} (h : z < 1000000) : (-9) ≤ -(nI z) ↔ z < 10 := by
  rw [hz_le, sb_negI h, show (-9 : Int32).toInt = -9 from rfl]; omega
theorem sb_div {z : Nat} (h : z < 1000000) : -(nI z) / 100 = -(nI (z / 100)) := by
  rw [hz_inj, Int32.toInt_div_of_ne_right _ _ (by decide), sb_negI h, sb_negI (by omega), show (100 : Int32).toInt = 100 from rfl, Int.neg_tdiv, Int.tdiv_eq_ediv_of_nonneg (by omega)]
  omega
theorem sb_rem {z : Nat} (h : z < 1000000) : -(nI (z / 100)) * 100 - -(nI z) = nI (z % 100) := by
  have e1 : (-(nI (z / 100)) * 100).toInt = -((z / 100 : Nat) : Int) * 100 := by
    rw [hz_mul (by rw [sb_negI (by omega), show (100 : Int32).toInt = 100 from rfl]; omega) (by rw [sb_negI (by omega), show (100 : Int32).toInt = 100 from rfl]; omega), sb_negI (by omega)]
    rfl
  rw [hz_inj, hz_sub (by rw [e1, sb_negI h]; omega) (by rw [e1, sb_negI h]; omega), e1, sb_negI h, nI_toInt (by omega)]
  omega
theorem bb_dec {a b c : Nat} (hc : 1 ≤ c) (h : b = a - (c - 1) ∧ c ≤ a ∧ a < 1000000 := by omega) : nI b + Int32.ofInt (-1) = nI (a - c) := by
  obtain ⟨h1, h2, h3⟩ := h
  subst h1
  rw [show a - (c - 1) = (a - c) + 1 by omega, nI_succ, Int32.add_assoc, show (1 : Int32) + Int32.ofInt (-1) = 0 by decide, Int32.add_zero]
theorem bb_dg : ∀ {d : Nat}, d < 10 → (48 + Int32.ofNat d).toInt8.toInt32 = nI (48 + d) := by decide
theorem bb_fit1 {f : Nat → Int32} (hf : hz_fit f) {i d : Nat} (h : d < 10) : hz_fit (upd f i (nI (48 + d))) := by
  rw [← bb_dg h]
  exact bb_fitU hf _ _
theorem dJ6_stringSize_0f7a4_0 : decode cJ6_stringSize_0f7a4 0 = .ok (.iconst 1, 1) := by decide +kernel
theorem dJ6_stringSize_0f7a4_1 : decode cJ6_stringSize_0f7a4 1 = .ok (.istore_n 1, 1) := by decide +kernel
theorem dJ6_stringSize_0f7a4_2 : decode cJ6_stringSize_0f7a4 2 = .ok (.iload_n 0, 1) := by decide +kernel
theorem dJ6_stringSize_0f7a4_3 : decode cJ6_stringSize_0f7a4 3 = .ok (.ifCond .lt 8, 3) := by decide +kernel
theorem dJ6_stringSize_0f7a4_6 : decode cJ6_stringSize_0f7a4 6 = .ok (.iconst 0, 1) := by decide +kernel
theorem dJ6_stringSize_0f7a4_7 : decode cJ6_stringSize_0f7a4 7 = .ok (.istore_n 1, 1) := by decide +kernel
theorem dJ6_stringSize_0f7a4_8 : decode cJ6_stringSize_0f7a4 8 = .ok (.iload_n 0, 1) := by decide +kernel
theorem dJ6_stringSize_0f7a4_9 : decode cJ6_stringSize_0f7a4 9 = .ok (.ineg, 1) := by decide +kernel
theorem dJ6_stringSize_0f7a4_10 : decode cJ6_stringSize_0f7a4 10 = .ok (.istore_n 0, 1) := by decide +kernel
theorem dJ6_stringSize_0f7a4_11 : decode cJ6_stringSize_0f7a4 11 = .ok (.bipush (-10), 2) := by decide +kernel
theorem dJ6_stringSize_0f7a4_13 : decode cJ6_stringSize_0f7a4 13 = .ok (.istore_n 2, 1) := by decide +kernel
theorem dJ6_stringSize_0f7a4_14 : decode cJ6_stringSize_0f7a4 14 = .ok (.iconst 1, 1) := by decide +kernel
theorem dJ6_stringSize_0f7a4_15 : decode cJ6_stringSize_0f7a4 15 = .ok (.istore_n 3, 1) := by decide +kernel
theorem dJ6_stringSize_0f7a4_16 : decode cJ6_stringSize_0f7a4 16 = .ok (.iload_n 3, 1) := by decide +kernel
theorem dJ6_stringSize_0f7a4_17 : decode cJ6_stringSize_0f7a4 17 = .ok (.bipush 10, 2) := by decide +kernel
theorem dJ6_stringSize_0f7a4_19 : decode cJ6_stringSize_0f7a4 19 = .ok (.if_icmp .ge 23, 3) := by decide +kernel
theorem dJ6_stringSize_0f7a4_22 : decode cJ6_stringSize_0f7a4 22 = .ok (.iload_n 0, 1) := by decide +kernel
theorem dJ6_stringSize_0f7a4_23 : decode cJ6_stringSize_0f7a4 23 = .ok (.iload_n 2, 1) := by decide +kernel
theorem dJ6_stringSize_0f7a4_24 : decode cJ6_stringSize_0f7a4 24 = .ok (.if_icmp .le 7, 3) := by decide +kernel
theorem dJ6_stringSize_0f7a4_27 : decode cJ6_stringSize_0f7a4 27 = .ok (.iload_n 3, 1) := by decide +kernel
theorem dJ6_stringSize_0f7a4_28 : decode cJ6_stringSize_0f7a4 28 = .ok (.iload_n 1, 1) := by decide +kernel
theorem dJ6_stringSize_0f7a4_29 : decode cJ6_stringSize_0f7a4 29 = .ok (.iadd, 1) := by decide +kernel
theorem dJ6_stringSize_0f7a4_30 : decode cJ6_stringSize_0f7a4 30 = .ok (.ireturn, 1) := by decide +kernel
set_option maxRecDepth 20000 in
theorem ctJ6_size1 {l : Launch} {G : GM} {h : List va_E} {z : Nat} (hz : z < 10) : Ct l G mJ6_stringSize_0f7a4 0 0 0 [.int (nI z)] h (fun r h1 => r = some (.int (nI 1)) ∧ h1 = h) := by
  show Tr l G mJ6_stringSize_0f7a4 0 0 0 0 [(0, .int (nI z))] [] h _
  refine am_iconst (v := 1) dJ6_stringSize_0f7a4_0 (by decide) ?_
  refine am_istore_n dJ6_stringSize_0f7a4_1 (by decide) (lv' := [(1, .int 1), (0, .int (nI z))]) rfl ?_
  refine am_iload_n dJ6_stringSize_0f7a4_2 1 rfl ?_
  refine am_if_lt dJ6_stringSize_0f7a4_3 (by decide : ((3 : Nat) : Int) + (8) = ((11 : Nat) : Int)) (fun zq => absurd zq (nI_pos (by omega))) (fun _ => ?_)
  refine am_iconst (v := 0) dJ6_stringSize_0f7a4_6 (by decide) ?_
  refine am_istore_n dJ6_stringSize_0f7a4_7 (by decide) (lv' := [(1, .int 0), (0, .int (nI z))]) rfl ?_
  refine am_iload_n dJ6_stringSize_0f7a4_8 1 rfl ?_
  refine am_ineg dJ6_stringSize_0f7a4_9 ?_
  refine am_istore_n dJ6_stringSize_0f7a4_10 (by decide) (lv' := [(0, .int (-(nI z))), (1, .int 0)]) rfl ?_
  refine am_bipush (v := (-10)) dJ6_stringSize_0f7a4_11 (by decide) ?_
  refine am_istore_n dJ6_stringSize_0f7a4_13 (by decide) (lv' := [(2, .int (-10)), (0, .int (-(nI z))), (1, .int 0)]) rfl ?_
  refine am_iconst (v := 1) dJ6_stringSize_0f7a4_14 (by decide) ?_
  refine am_istore_n dJ6_stringSize_0f7a4_15 (by decide) (lv' := [(3, .int 1), (2, .int (-10)), (0, .int (-(nI z))), (1, .int 0)]) rfl ?_
  refine am_iload_n dJ6_stringSize_0f7a4_16 0 rfl ?_
  refine am_bipush (v := 10) dJ6_stringSize_0f7a4_17 (by decide) ?_
  refine am_icmp_ge dJ6_stringSize_0f7a4_19 (by decide : ((19 : Nat) : Int) + (23) = ((42 : Nat) : Int)) (fun zq => absurd zq (by decide)) (fun _ => ?_)
  refine am_iload_n dJ6_stringSize_0f7a4_22 2 rfl ?_
  refine am_iload_n dJ6_stringSize_0f7a4_23 1 rfl ?_
  refine am_icmp_le dJ6_stringSize_0f7a4_24 (by decide : ((24 : Nat) : Int) + (7) = ((31 : Nat) : Int)) (fun zq => absurd zq (fun z1 => by have := (sb_t1 (z := z) (by omega)).1 z1; omega)) (fun _ => ?_)
  refine am_iload_n dJ6_stringSize_0f7a4_27 0 rfl ?_
  refine am_iload_n dJ6_stringSize_0f7a4_28 3 rfl ?_
  refine am_iadd dJ6_stringSize_0f7a4_29 ?_
  rw [show (1 : Int32) + 0 = 1 from by decide]
  exact am_ireturn dJ6_stringSize_0f7a4_30 rfl rfl ⟨rfl, rfl⟩
theorem dJ6_stringSize_0f7a4_31 : decode cJ6_stringSize_0f7a4 31 = .ok (.bipush 10, 2) := by decide +kernel
theorem dJ6_stringSize_0f7a4_33 : decode cJ6_stringSize_0f7a4 33 = .ok (.iload_n 2, 1) := by decide +kernel
theorem dJ6_stringSize_0f7a4_34 : decode cJ6_stringSize_0f7a4 34 = .ok (.imul, 1) := by decide +kernel
theorem dJ6_stringSize_0f7a4_35 : decode cJ6_stringSize_0f7a4 35 = .ok (.istore_n 2, 1) := by decide +kernel
theorem dJ6_stringSize_0f7a4_36 : decode cJ6_stringSize_0f7a4 36 = .ok (.iinc 3 1, 3) := by decide +kernel
theorem dJ6_stringSize_0f7a4_39 : decode cJ6_stringSize_0f7a4 39 = .ok (.goto (-23), 3) := by decide +kernel
set_option maxRecDepth 20000 in
theorem ctJ6_size2 {l : Launch} {G : GM} {h : List va_E} {z : Nat} (hz : 10 ≤ z ∧ z < 100) : Ct l G mJ6_stringSize_0f7a4 0 0 0 [.int (nI z)] h (fun r h1 => r = some (.int (nI 2)) ∧ h1 = h) := by
  show Tr l G mJ6_stringSize_0f7a4 0 0 0 0 [(0, .int (nI z))] [] h _
  refine am_iconst (v := 1) dJ6_stringSize_0f7a4_0 (by decide) ?_
  refine am_istore_n dJ6_stringSize_0f7a4_1 (by decide) (lv' := [(1, .int 1), (0, .int (nI z))]) rfl ?_
  refine am_iload_n dJ6_stringSize_0f7a4_2 1 rfl ?_
  refine am_if_lt dJ6_stringSize_0f7a4_3 (by decide : ((3 : Nat) : Int) + (8) = ((11 : Nat) : Int)) (fun zq => absurd zq (nI_pos (by omega))) (fun _ => ?_)
  refine am_iconst (v := 0) dJ6_stringSize_0f7a4_6 (by decide) ?_
  refine am_istore_n dJ6_stringSize_0f7a4_7 (by decide) (lv' := [(1, .int 0), (0, .int (nI z))]) rfl ?_
  refine am_iload_n dJ6_stringSize_0f7a4_8 1 rfl ?_
  refine am_ineg dJ6_stringSize_0f7a4_9 ?_
  refine am_istore_n dJ6_stringSize_0f7a4_10 (by decide) (lv' := [(0, .int (-(nI z))), (1, .int 0)]) rfl ?_
  refine am_bipush (v := (-10)) dJ6_stringSize_0f7a4_11 (by decide) ?_
  refine am_istore_n dJ6_stringSize_0f7a4_13 (by decide) (lv' := [(2, .int (-10)), (0, .int (-(nI z))), (1, .int 0)]) rfl ?_
  refine am_iconst (v := 1) dJ6_stringSize_0f7a4_14 (by decide) ?_
  refine am_istore_n dJ6_stringSize_0f7a4_15 (by decide) (lv' := [(3, .int 1), (2, .int (-10)), (0, .int (-(nI z))), (1, .int 0)]) rfl ?_
  refine am_iload_n dJ6_stringSize_0f7a4_16 0 rfl ?_
  refine am_bipush (v := 10) dJ6_stringSize_0f7a4_17 (by decide) ?_
  refine am_icmp_ge dJ6_stringSize_0f7a4_19 (by decide : ((19 : Nat) : Int) + (23) = ((42 : Nat) : Int)) (fun zq => absurd zq (by decide)) (fun _ => ?_)
  refine am_iload_n dJ6_stringSize_0f7a4_22 2 rfl ?_
  refine am_iload_n dJ6_stringSize_0f7a4_23 1 rfl ?_
  refine am_icmp_le dJ6_stringSize_0f7a4_24 (by decide : ((24 : Nat) : Int) + (7) = ((31 : Nat) : Int)) (fun _ => ?_) (fun zq => absurd ((sb_t1 (z := z) (by omega)).2 (by omega)) zq)
  refine am_bipush (v := 10) dJ6_stringSize_0f7a4_31 (by decide) ?_
  refine am_iload_n dJ6_stringSize_0f7a4_33 1 rfl ?_
  refine am_imul dJ6_stringSize_0f7a4_34 ?_
  rw [show (10 : Int32) * (-10) = (-100) from by decide]
  refine am_istore_n dJ6_stringSize_0f7a4_35 (by decide) (lv' := [(2, .int (-100)), (3, .int 1), (0, .int (-(nI z))), (1, .int 0)]) rfl ?_
  refine am_iinc (v := 2) dJ6_stringSize_0f7a4_36 1 rfl (by decide) (by decide) (lv' := [(3, .int 2), (2, .int (-100)), (0, .int (-(nI z))), (1, .int 0)]) rfl ?_
  refine am_goto dJ6_stringSize_0f7a4_39 (by decide : ((39 : Nat) : Int) + (-23) = ((16 : Nat) : Int)) ?_
  refine am_iload_n dJ6_stringSize_0f7a4_16 0 rfl ?_
  refine am_bipush (v := 10) dJ6_stringSize_0f7a4_17 (by decide) ?_
  refine am_icmp_ge dJ6_stringSize_0f7a4_19 (by decide : ((19 : Nat) : Int) + (23) = ((42 : Nat) : Int)) (fun zq => absurd zq (by decide)) (fun _ => ?_)
  refine am_iload_n dJ6_stringSize_0f7a4_22 2 rfl ?_
  refine am_iload_n dJ6_stringSize_0f7a4_23 1 rfl ?_
  refine am_icmp_le dJ6_stringSize_0f7a4_24 (by decide : ((24 : Nat) : Int) + (7) = ((31 : Nat) : Int)) (fun zq => absurd zq (fun z1 => by have := (sb_t2 (z := z) (by omega)).1 z1; omega)) (fun _ => ?_)
  refine am_iload_n dJ6_stringSize_0f7a4_27 0 rfl ?_
  refine am_iload_n dJ6_stringSize_0f7a4_28 3 rfl ?_
  refine am_iadd dJ6_stringSize_0f7a4_29 ?_
  rw [show (2 : Int32) + 0 = 2 from by decide]
  exact am_ireturn dJ6_stringSize_0f7a4_30 rfl rfl ⟨rfl, rfl⟩
set_option maxRecDepth 20000 in
theorem ctJ6_size3 {l : Launch} {G : GM} {h : List va_E} {z : Nat} (hz : 100 ≤ z ∧ z < 1000) : Ct l G mJ6_stringSize_0f7a4 0 0 0 [.int (nI z)] h (fun r h1 => r = some (.int (nI 3)) ∧ h1 = h) := by
  show Tr l G mJ6_stringSize_0f7a4 0 0 0 0 [(0, .int (nI z))] [] h _
  refine am_iconst (v := 1) dJ6_stringSize_0f7a4_0 (by decide) ?_
  refine am_istore_n dJ6_stringSize_0f7a4_1 (by decide) (lv' := [(1, .int 1), (0, .int (nI z))]) rfl ?_
  refine am_iload_n dJ6_stringSize_0f7a4_2 1 rfl ?_
  refine am_if_lt dJ6_stringSize_0f7a4_3 (by decide : ((3 : Nat) : Int) + (8) = ((11 : Nat) : Int)) (fun zq => absurd zq (nI_pos (by omega))) (fun _ => ?_)
  refine am_iconst (v := 0) dJ6_stringSize_0f7a4_6 (by decide) ?_
  refine am_istore_n dJ6_stringSize_0f7a4_7 (by decide) (lv' := [(1, .int 0), (0, .int (nI z))]) rfl ?_
  refine am_iload_n dJ6_stringSize_0f7a4_8 1 rfl ?_
  refine am_ineg dJ6_stringSize_0f7a4_9 ?_
  refine am_istore_n dJ6_stringSize_0f7a4_10 (by decide) (lv' := [(0, .int (-(nI z))), (1, .int 0)]) rfl ?_
  refine am_bipush (v := (-10)) dJ6_stringSize_0f7a4_11 (by decide) ?_
  refine am_istore_n dJ6_stringSize_0f7a4_13 (by decide) (lv' := [(2, .int (-10)), (0, .int (-(nI z))), (1, .int 0)]) rfl ?_
  refine am_iconst (v := 1) dJ6_stringSize_0f7a4_14 (by decide) ?_
  refine am_istore_n dJ6_stringSize_0f7a4_15 (by decide) (lv' := [(3, .int 1), (2, .int (-10)), (0, .int (-(nI z))), (1, .int 0)]) rfl ?_
  refine am_iload_n dJ6_stringSize_0f7a4_16 0 rfl ?_
  refine am_bipush (v := 10) dJ6_stringSize_0f7a4_17 (by decide) ?_
  refine am_icmp_ge dJ6_stringSize_0f7a4_19 (by decide : ((19 : Nat) : Int) + (23) = ((42 : Nat) : Int)) (fun zq => absurd zq (by decide)) (fun _ => ?_)
  refine am_iload_n dJ6_stringSize_0f7a4_22 2 rfl ?_
  refine am_iload_n dJ6_stringSize_0f7a4_23 1 rfl ?_
  refine am_icmp_le dJ6_stringSize_0f7a4_24 (by decide : ((24 : Nat) : Int) + (7) = ((31 : Nat) : Int)) (fun _ => ?_) (fun zq => absurd ((sb_t1 (z := z) (by omega)).2 (by omega)) zq)
  refine am_bipush (v := 10) dJ6_stringSize_0f7a4_31 (by decide) ?_
  refine am_iload_n dJ6_stringSize_0f7a4_33 1 rfl ?_
  refine am_imul dJ6_stringSize_0f7a4_34 ?_
  rw [show (10 : Int32) * (-10) = (-100) from by decide]
  refine am_istore_n dJ6_stringSize_0f7a4_35 (by decide) (lv' := [(2, .int (-100)), (3, .int 1), (0, .int (-(nI z))), (1, .int 0)]) rfl ?_
  refine am_iinc (v := 2) dJ6_stringSize_0f7a4_36 1 rfl (by decide) (by decide) (lv' := [(3, .int 2), (2, .int (-100)), (0, .int (-(nI z))), (1, .int 0)]) rfl ?_
  refine am_goto dJ6_stringSize_0f7a4_39 (by decide : ((39 : Nat) : Int) + (-23) = ((16 : Nat) : Int)) ?_
  refine am_iload_n dJ6_stringSize_0f7a4_16 0 rfl ?_
  refine am_bipush (v := 10) dJ6_stringSize_0f7a4_17 (by decide) ?_
  refine am_icmp_ge dJ6_stringSize_0f7a4_19 (by decide : ((19 : Nat) : Int) + (23) = ((42 : Nat) : Int)) (fun zq => absurd zq (by decide)) (fun _ => ?_)
  refine am_iload_n dJ6_stringSize_0f7a4_22 2 rfl ?_
  refine am_iload_n dJ6_stringSize_0f7a4_23 1 rfl ?_
  refine am_icmp_le dJ6_stringSize_0f7a4_24 (by decide : ((24 : Nat) : Int) + (7) = ((31 : Nat) : Int)) (fun _ => ?_) (fun zq => absurd ((sb_t2 (z := z) (by omega)).2 (by omega)) zq)
  refine am_bipush (v := 10) dJ6_stringSize_0f7a4_31 (by decide) ?_
  refine am_iload_n dJ6_stringSize_0f7a4_33 1 rfl ?_
  refine am_imul dJ6_stringSize_0f7a4_34 ?_
  rw [show (10 : Int32) * (-100) = (-1000) from by decide]
  refine am_istore_n dJ6_stringSize_0f7a4_35 (by decide) (lv' := [(2, .int (-1000)), (3, .int 2), (0, .int (-(nI z))), (1, .int 0)]) rfl ?_
  refine am_iinc (v := 3) dJ6_stringSize_0f7a4_36 1 rfl (by decide) (by decide) (lv' := [(3, .int 3), (2, .int (-1000)), (0, .int (-(nI z))), (1, .int 0)]) rfl ?_
  refine am_goto dJ6_stringSize_0f7a4_39 (by decide : ((39 : Nat) : Int) + (-23) = ((16 : Nat) : Int)) ?_
  refine am_iload_n dJ6_stringSize_0f7a4_16 0 rfl ?_
  refine am_bipush (v := 10) dJ6_stringSize_0f7a4_17 (by decide) ?_
  refine am_icmp_ge dJ6_stringSize_0f7a4_19 (by decide : ((19 : Nat) : Int) + (23) = ((42 : Nat) : Int)) (fun zq => absurd zq (by decide)) (fun _ => ?_)
  refine am_iload_n dJ6_stringSize_0f7a4_22 2 rfl ?_
  refine am_iload_n dJ6_stringSize_0f7a4_23 1 rfl ?_
  refine am_icmp_le dJ6_stringSize_0f7a4_24 (by decide : ((24 : Nat) : Int) + (7) = ((31 : Nat) : Int)) (fun zq => absurd zq (fun z1 => by have := (sb_t3 (z := z) (by omega)).1 z1; omega)) (fun _ => ?_)
  refine am_iload_n dJ6_stringSize_0f7a4_27 0 rfl ?_
  refine am_iload_n dJ6_stringSize_0f7a4_28 3 rfl ?_
  refine am_iadd dJ6_stringSize_0f7a4_29 ?_
  rw [show (3 : Int32) + 0 = 3 from by decide]
  exact am_ireturn dJ6_stringSize_0f7a4_30 rfl rfl ⟨rfl, rfl⟩
set_option maxRecDepth 20000 in
theorem ctJ6_size4 {l : Launch} {G : GM} {h : List va_E} {z : Nat} (hz : 1000 ≤ z ∧ z < 10000) : Ct l G mJ6_stringSize_0f7a4 0 0 0 [.int (nI z)] h (fun r h1 => r = some (.int (nI 4)) ∧ h1 = h) := by
  show Tr l G mJ6_stringSize_0f7a4 0 0 0 0 [(0, .int (nI z))] [] h _
  refine am_iconst (v := 1) dJ6_stringSize_0f7a4_0 (by decide) ?_
  refine am_istore_n dJ6_stringSize_0f7a4_1 (by decide) (lv' := [(1, .int 1), (0, .int (nI z))]) rfl ?_
  refine am_iload_n dJ6_stringSize_0f7a4_2 1 rfl ?_
  refine am_if_lt dJ6_stringSize_0f7a4_3 (by decide : ((3 : Nat) : Int) + (8) = ((11 : Nat) : Int)) (fun zq => absurd zq (nI_pos (by omega))) (fun _ => ?_)
  refine am_iconst (v := 0) dJ6_stringSize_0f7a4_6 (by decide) ?_
  refine am_istore_n dJ6_stringSize_0f7a4_7 (by decide) (lv' := [(1, .int 0), (0, .int (nI z))]) rfl ?_
  refine am_iload_n dJ6_stringSize_0f7a4_8 1 rfl ?_
  refine am_ineg dJ6_stringSize_0f7a4_9 ?_
  refine am_istore_n dJ6_stringSize_0f7a4_10 (by decide) (lv' := [(0, .int (-(nI z))), (1, .int 0)]) rfl ?_
  refine am_bipush (v := (-10)) dJ6_stringSize_0f7a4_11 (by decide) ?_
  refine am_istore_n dJ6_stringSize_0f7a4_13 (by decide) (lv' := [(2, .int (-10)), (0, .int (-(nI z))), (1, .int 0)]) rfl ?_
  refine am_iconst (v := 1) dJ6_stringSize_0f7a4_14 (by decide) ?_
  refine am_istore_n dJ6_stringSize_0f7a4_15 (by decide) (lv' := [(3, .int 1), (2, .int (-10)), (0, .int (-(nI z))), (1, .int 0)]) rfl ?_
  refine am_iload_n dJ6_stringSize_0f7a4_16 0 rfl ?_
  refine am_bipush (v := 10) dJ6_stringSize_0f7a4_17 (by decide) ?_
  refine am_icmp_ge dJ6_stringSize_0f7a4_19 (by decide : ((19 : Nat) : Int) + (23) = ((42 : Nat) : Int)) (fun zq => absurd zq (by decide)) (fun _ => ?_)
  refine am_iload_n dJ6_stringSize_0f7a4_22 2 rfl ?_
  refine am_iload_n dJ6_stringSize_0f7a4_23 1 rfl ?_
  refine am_icmp_le dJ6_stringSize_0f7a4_24 (by decide : ((24 : Nat) : Int) + (7) = ((31 : Nat) : Int)) (fun _ => ?_) (fun zq => absurd ((sb_t1 (z := z) (by omega)).2 (by omega)) zq)
  refine am_bipush (v := 10) dJ6_stringSize_0f7a4_31 (by decide) ?_
  refine am_iload_n dJ6_stringSize_0f7a4_33 1 rfl ?_
  refine am_imul dJ6_stringSize_0f7a4_34 ?_
  rw [show (10 : Int32) * (-10) = (-100) from by decide]
  refine am_istore_n dJ6_stringSize_0f7a4_35 (by decide) (lv' := [(2, .int (-100)), (3, .int 1), (0, .int (-(nI z))), (1, .int 0)]) rfl ?_
  refine am_iinc (v := 2) dJ6_stringSize_0f7a4_36 1 rfl (by decide) (by decide) (lv' := [(3, .int 2), (2, .int (-100)), (0, .int (-(nI z))), (1, .int 0)]) rfl ?_
  refine am_goto dJ6_stringSize_0f7a4_39 (by decide : ((39 : Nat) : Int) + (-23) = ((16 : Nat) : Int)) ?_
  refine am_iload_n dJ6_stringSize_0f7a4_16 0 rfl ?_
  refine am_bipush (v := 10) dJ6_stringSize_0f7a4_17 (by decide) ?_
  refine am_icmp_ge dJ6_stringSize_0f7a4_19 (by decide : ((19 : Nat) : Int) + (23) = ((42 : Nat) : Int)) (fun zq => absurd zq (by decide)) (fun _ => ?_)
  refine am_iload_n dJ6_stringSize_0f7a4_22 2 rfl ?_
  refine am_iload_n dJ6_stringSize_0f7a4_23 1 rfl ?_
  refine am_icmp_le dJ6_stringSize_0f7a4_24 (by decide : ((24 : Nat) : Int) + (7) = ((31 : Nat) : Int)) (fun _ => ?_) (fun zq => absurd ((sb_t2 (z := z) (by omega)).2 (by omega)) zq)
  refine am_bipush (v := 10) dJ6_stringSize_0f7a4_31 (by decide) ?_
  refine am_iload_n dJ6_stringSize_0f7a4_33 1 rfl ?_
  refine am_imul dJ6_stringSize_0f7a4_34 ?_
  rw [show (10 : Int32) * (-100) = (-1000) from by decide]
  refine am_istore_n dJ6_stringSize_0f7a4_35 (by decide) (lv' := [(2, .int (-1000)), (3, .int 2), (0, .int (-(nI z))), (1, .int 0)]) rfl ?_
  refine am_iinc (v := 3) dJ6_stringSize_0f7a4_36 1 rfl (by decide) (by decide) (lv' := [(3, .int 3), (2, .int (-1000)), (0, .int (-(nI z))), (1, .int 0)]) rfl ?_
  refine am_goto dJ6_stringSize_0f7a4_39 (by decide : ((39 : Nat) : Int) + (-23) = ((16 : Nat) : Int)) ?_
  refine am_iload_n dJ6_stringSize_0f7a4_16 0 rfl ?_
  refine am_bipush (v := 10) dJ6_stringSize_0f7a4_17 (by decide) ?_
  refine am_icmp_ge dJ6_stringSize_0f7a4_19 (by decide : ((19 : Nat) : Int) + (23) = ((42 : Nat) : Int)) (fun zq => absurd zq (by decide)) (fun _ => ?_)
  refine am_iload_n dJ6_stringSize_0f7a4_22 2 rfl ?_
  refine am_iload_n dJ6_stringSize_0f7a4_23 1 rfl ?_
  refine am_icmp_le dJ6_stringSize_0f7a4_24 (by decide : ((24 : Nat) : Int) + (7) = ((31 : Nat) : Int)) (fun _ => ?_) (fun zq => absurd ((sb_t3 (z := z) (by omega)).2 (by omega)) zq)
  refine am_bipush (v := 10) dJ6_stringSize_0f7a4_31 (by decide) ?_
  refine am_iload_n dJ6_stringSize_0f7a4_33 1 rfl ?_
  refine am_imul dJ6_stringSize_0f7a4_34 ?_
  rw [show (10 : Int32) * (-1000) = (-10000) from by decide]
  refine am_istore_n dJ6_stringSize_0f7a4_35 (by decide) (lv' := [(2, .int (-10000)), (3, .int 3), (0, .int (-(nI z))), (1, .int 0)]) rfl ?_
  refine am_iinc (v := 4) dJ6_stringSize_0f7a4_36 1 rfl (by decide) (by decide) (lv' := [(3, .int 4), (2, .int (-10000)), (0, .int (-(nI z))), (1, .int 0)]) rfl ?_
  refine am_goto dJ6_stringSize_0f7a4_39 (by decide : ((39 : Nat) : Int) + (-23) = ((16 : Nat) : Int)) ?_
  refine am_iload_n dJ6_stringSize_0f7a4_16 0 rfl ?_
  refine am_bipush (v := 10) dJ6_stringSize_0f7a4_17 (by decide) ?_
  refine am_icmp_ge dJ6_stringSize_0f7a4_19 (by decide : ((19 : Nat) : Int) + (23) = ((42 : Nat) : Int)) (fun zq => absurd zq (by decide)) (fun _ => ?_)
  refine am_iload_n dJ6_stringSize_0f7a4_22 2 rfl ?_
  refine am_iload_n dJ6_stringSize_0f7a4_23 1 rfl ?_
  refine am_icmp_le dJ6_stringSize_0f7a4_24 (by decide : ((24 : Nat) : Int) + (7) = ((31 : Nat) : Int)) (fun zq => absurd zq (fun z1 => by have := (sb_t4 (z := z) (by omega)).1 z1; omega)) (fun _ => ?_)
  refine am_iload_n dJ6_stringSize_0f7a4_27 0 rfl ?_
  refine am_iload_n dJ6_stringSize_0f7a4_28 3 rfl ?_
  refine am_iadd dJ6_stringSize_0f7a4_29 ?_
  rw [show (4 : Int32) + 0 = 4 from by decide]
  exact am_ireturn dJ6_stringSize_0f7a4_30 rfl rfl ⟨rfl, rfl⟩
theorem dJ6_getChars_ba4f3_0 : decode cJ6_getChars_ba4f3 0 = .ok (.iload_n 1, 1) := by decide +kernel
theorem dJ6_getChars_ba4f3_1 : decode cJ6_getChars_ba4f3 1 = .ok (.istore 5, 2) := by decide +kernel
theorem dJ6_getChars_ba4f3_3 : decode cJ6_getChars_ba4f3 3 = .ok (.iload_n 0, 1) := by decide +kernel
theorem dJ6_getChars_ba4f3_4 : decode cJ6_getChars_ba4f3 4 = .ok (.ifCond .ge 7, 3) := by decide +kernel
theorem dJ6_getChars_ba4f3_11 : decode cJ6_getChars_ba4f3 11 = .ok (.iconst 0, 1) := by decide +kernel
theorem dJ6_getChars_ba4f3_12 : decode cJ6_getChars_ba4f3 12 = .ok (.istore 6, 2) := by decide +kernel
theorem dJ6_getChars_ba4f3_14 : decode cJ6_getChars_ba4f3 14 = .ok (.iload 6, 2) := by decide +kernel
theorem dJ6_getChars_ba4f3_16 : decode cJ6_getChars_ba4f3 16 = .ok (.ifCond .ne 6, 3) := by decide +kernel
theorem dJ6_getChars_ba4f3_19 : decode cJ6_getChars_ba4f3 19 = .ok (.iload_n 0, 1) := by decide +kernel
theorem dJ6_getChars_ba4f3_20 : decode cJ6_getChars_ba4f3 20 = .ok (.ineg, 1) := by decide +kernel
theorem dJ6_getChars_ba4f3_21 : decode cJ6_getChars_ba4f3 21 = .ok (.istore_n 0, 1) := by decide +kernel
theorem dJ6_getChars_ba4f3_22 : decode cJ6_getChars_ba4f3 22 = .ok (.iload_n 0, 1) := by decide +kernel
theorem dJ6_getChars_ba4f3_23 : decode cJ6_getChars_ba4f3 23 = .ok (.bipush (-100), 2) := by decide +kernel
theorem dJ6_getChars_ba4f3_25 : decode cJ6_getChars_ba4f3 25 = .ok (.if_icmp .gt 47, 3) := by decide +kernel
theorem dJ6_getChars_ba4f3_72 : decode cJ6_getChars_ba4f3 72 = .ok (.aload_n 2, 1) := by decide +kernel
theorem dJ6_getChars_ba4f3_73 : decode cJ6_getChars_ba4f3 73 = .ok (.iinc 5 (-1), 3) := by decide +kernel
theorem dJ6_getChars_ba4f3_76 : decode cJ6_getChars_ba4f3 76 = .ok (.iload 5, 2) := by decide +kernel
theorem dJ6_getChars_ba4f3_78 : decode cJ6_getChars_ba4f3 78 = .ok (.getstatic 83, 3) := by decide +kernel
theorem dJ6_getChars_ba4f3_81 : decode cJ6_getChars_ba4f3 81 = .ok (.iload_n 0, 1) := by decide +kernel
theorem dJ6_getChars_ba4f3_82 : decode cJ6_getChars_ba4f3 82 = .ok (.ineg, 1) := by decide +kernel
theorem dJ6_getChars_ba4f3_83 : decode cJ6_getChars_ba4f3 83 = .ok (.baload, 1) := by decide +kernel
theorem dJ6_getChars_ba4f3_84 : decode cJ6_getChars_ba4f3 84 = .ok (.bastore, 1) := by decide +kernel
theorem dJ6_getChars_ba4f3_85 : decode cJ6_getChars_ba4f3 85 = .ok (.iload_n 0, 1) := by decide +kernel
theorem dJ6_getChars_ba4f3_86 : decode cJ6_getChars_ba4f3 86 = .ok (.bipush (-9), 2) := by decide +kernel
theorem dJ6_getChars_ba4f3_88 : decode cJ6_getChars_ba4f3 88 = .ok (.if_icmp .ge 16, 3) := by decide +kernel
theorem dJ6_getChars_ba4f3_104 : decode cJ6_getChars_ba4f3 104 = .ok (.iload 6, 2) := by decide +kernel
theorem dJ6_getChars_ba4f3_106 : decode cJ6_getChars_ba4f3 106 = .ok (.ifCond .eq 12, 3) := by decide +kernel
theorem dJ6_getChars_ba4f3_118 : decode cJ6_getChars_ba4f3 118 = .ok (.iload 5, 2) := by decide +kernel
theorem dJ6_getChars_ba4f3_120 : decode cJ6_getChars_ba4f3 120 = .ok (.ireturn, 1) := by decide +kernel
set_option maxRecDepth 20000 in
theorem ctJ6_chars1 {l : Launch} {G : GM} {h : List va_E} {v n e z : Nat} {f : Nat → Int32} (hv : h[v]? = some (.inl (1, n, .inl f))) (hf : hz_fit f) (hz : z < 10) (h1 : 1 ≤ e) (h2 : e ≤ n) (h3 : n ≤ 4096) : Ct l G mJ6_getChars_ba4f3 0 0 0 [.int (nI z), .int (nI e), .ref (gz G + v)] h (fun r h1 => r = some (.int (nI (e - 1))) ∧ ∃ g, h1 = h.set v (.inl (1, n, .inl g)) ∧ hz_fit g ∧ (∀ j, j < e - 1 → g j = f j) ∧ ∀ i, i < 1 → g (e - 1 + i) = nI (48 + z / 10 ^ (1 - 1 - i) % 10)) := by
  show Tr l G mJ6_getChars_ba4f3 0 0 0 0 [(0, .int (nI z)), (1, .int (nI e)), (2, .ref (gz G + v))] [] h _
  refine am_iload_n dJ6_getChars_ba4f3_0 1 rfl ?_
  refine am_istore dJ6_getChars_ba4f3_1 (by decide) (lv' := [(5, .int (nI e)), (0, .int (nI z)), (1, .int (nI e)), (2, .ref (gz G + v))]) rfl ?_
  refine am_iload_n dJ6_getChars_ba4f3_3 1 rfl ?_
  refine am_if_ge dJ6_getChars_ba4f3_4 (by decide : ((4 : Nat) : Int) + (7) = ((11 : Nat) : Int)) (fun _ => ?_) (fun zq => absurd (nI_pos' (by omega)) zq)
  refine am_iconst (v := 0) dJ6_getChars_ba4f3_11 (by decide) ?_
  refine am_istore dJ6_getChars_ba4f3_12 (by decide) (lv' := [(6, .int 0), (5, .int (nI e)), (0, .int (nI z)), (1, .int (nI e)), (2, .ref (gz G + v))]) rfl ?_
  refine am_iload dJ6_getChars_ba4f3_14 0 rfl ?_
  refine am_if_ne dJ6_getChars_ba4f3_16 (by decide : ((16 : Nat) : Int) + (6) = ((22 : Nat) : Int)) (fun zq => absurd zq (fun z1 => z1 rfl)) (fun _ => ?_)
  refine am_iload_n dJ6_getChars_ba4f3_19 2 rfl ?_
  refine am_ineg dJ6_getChars_ba4f3_20 ?_
  refine am_istore_n dJ6_getChars_ba4f3_21 (by decide) (lv' := [(0, .int (-(nI z))), (6, .int 0), (5, .int (nI e)), (1, .int (nI e)), (2, .ref (gz G + v))]) rfl ?_
  refine am_iload_n dJ6_getChars_ba4f3_22 0 rfl ?_
  refine am_bipush (v := (-100)) dJ6_getChars_ba4f3_23 (by decide) ?_
  refine am_icmp_gt dJ6_getChars_ba4f3_25 (by decide : ((25 : Nat) : Int) + (47) = ((72 : Nat) : Int)) (fun _ => ?_) (fun zq => absurd ((sb_gt100 (z := z) (by omega)).2 (by omega)) zq)
  refine am_aload_n dJ6_getChars_ba4f3_72 4 rfl ?_
  refine am_iinc (v := (nI (e - 1))) dJ6_getChars_ba4f3_73 2 rfl (bb_dec (a := e) (b := e - 0) (c := 1) (by omega) (by omega)) (by decide) (lv' := [(5, .int (nI (e - 1))), (0, .int (-(nI z))), (6, .int 0), (1, .int (nI e)), (2, .ref (gz G + v))]) rfl ?_
  refine am_iload dJ6_getChars_ba4f3_76 0 rfl ?_
  refine am_digO dJ6_getChars_ba4f3_78 (lw_k4 233 (by decide +kernel) (by decide +kernel)) ?_
  refine am_iload_n dJ6_getChars_ba4f3_81 1 rfl ?_
  refine am_ineg dJ6_getChars_ba4f3_82 ?_
  rw [Int32.neg_neg]
  refine am_baldO dJ6_getChars_ba4f3_83 (vp_in_nI (by omega) (by decide)) ?_
  rw [nI_clamp (by omega)]
  refine am_bast (n := n) (f := f) dJ6_getChars_ba4f3_84 hv (vp_in_nI (by omega) (by omega)) ?_
  rw [nI_clamp (n := e - 1) (by omega), bb_dg (d := z % 10) (by omega)]
  refine am_iload_n dJ6_getChars_ba4f3_85 1 rfl ?_
  refine am_bipush (v := (-9)) dJ6_getChars_ba4f3_86 (by decide) ?_
  refine am_icmp_ge dJ6_getChars_ba4f3_88 (by decide : ((88 : Nat) : Int) + (16) = ((104 : Nat) : Int)) (fun _ => ?_) (fun zq => absurd ((sb_ge9 (z := z) (by omega)).2 (by omega)) zq)
  refine am_iload dJ6_getChars_ba4f3_104 2 rfl ?_
  refine am_if_eq dJ6_getChars_ba4f3_106 (by decide : ((106 : Nat) : Int) + (12) = ((118 : Nat) : Int)) (fun _ => ?_) (fun zq => absurd rfl zq)
  refine am_iload dJ6_getChars_ba4f3_118 0 rfl ?_
  refine am_ireturn dJ6_getChars_ba4f3_120 rfl rfl ⟨rfl, (upd f (e - 1) (nI (48 + z % 10))), by simp only [List.set_set], ?_, fun j hj => ?_, fun i hi => ?_⟩
  · exact bb_fit1 (hf) (by omega)
  · rw [pk_un (by omega)]
  · obtain rfl : i = 0 := by omega
    rw [show e - 1 + 0 = e - 1 by omega, pk_us]
    exact congrArg (fun x => nI (48 + x)) (show z % 10 = z / 1 % 10 by omega)
theorem dJ6_getChars_ba4f3_91 : decode cJ6_getChars_ba4f3 91 = .ok (.aload_n 2, 1) := by decide +kernel
theorem dJ6_getChars_ba4f3_92 : decode cJ6_getChars_ba4f3 92 = .ok (.iinc 5 (-1), 3) := by decide +kernel
theorem dJ6_getChars_ba4f3_95 : decode cJ6_getChars_ba4f3 95 = .ok (.iload 5, 2) := by decide +kernel
theorem dJ6_getChars_ba4f3_97 : decode cJ6_getChars_ba4f3 97 = .ok (.getstatic 87, 3) := by decide +kernel
theorem dJ6_getChars_ba4f3_100 : decode cJ6_getChars_ba4f3 100 = .ok (.iload_n 0, 1) := by decide +kernel
theorem dJ6_getChars_ba4f3_101 : decode cJ6_getChars_ba4f3 101 = .ok (.ineg, 1) := by decide +kernel
theorem dJ6_getChars_ba4f3_102 : decode cJ6_getChars_ba4f3 102 = .ok (.baload, 1) := by decide +kernel
theorem dJ6_getChars_ba4f3_103 : decode cJ6_getChars_ba4f3 103 = .ok (.bastore, 1) := by decide +kernel
set_option maxRecDepth 20000 in
theorem ctJ6_chars2 {l : Launch} {G : GM} {h : List va_E} {v n e z : Nat} {f : Nat → Int32} (hv : h[v]? = some (.inl (1, n, .inl f))) (hf : hz_fit f) (hz : 10 ≤ z ∧ z < 100) (h1 : 2 ≤ e) (h2 : e ≤ n) (h3 : n ≤ 4096) : Ct l G mJ6_getChars_ba4f3 0 0 0 [.int (nI z), .int (nI e), .ref (gz G + v)] h (fun r h1 => r = some (.int (nI (e - 2))) ∧ ∃ g, h1 = h.set v (.inl (1, n, .inl g)) ∧ hz_fit g ∧ (∀ j, j < e - 2 → g j = f j) ∧ ∀ i, i < 2 → g (e - 2 + i) = nI (48 + z / 10 ^ (2 - 1 - i) % 10)) := by
  show Tr l G mJ6_getChars_ba4f3 0 0 0 0 [(0, .int (nI z)), (1, .int (nI e)), (2, .ref (gz G + v))] [] h _
  refine am_iload_n dJ6_getChars_ba4f3_0 1 rfl ?_
  refine am_istore dJ6_getChars_ba4f3_1 (by decide) (lv' := [(5, .int (nI e)), (0, .int (nI z)), (1, .int (nI e)), (2, .ref (gz G + v))]) rfl ?_
  refine am_iload_n dJ6_getChars_ba4f3_3 1 rfl ?_
  refine am_if_ge dJ6_getChars_ba4f3_4 (by decide : ((4 : Nat) : Int) + (7) = ((11 : Nat) : Int)) (fun _ => ?_) (fun zq => absurd (nI_pos' (by omega)) zq)
  refine am_iconst (v := 0) dJ6_getChars_ba4f3_11 (by decide) ?_
  refine am_istore dJ6_getChars_ba4f3_12 (by decide) (lv' := [(6, .int 0), (5, .int (nI e)), (0, .int (nI z)), (1, .int (nI e)), (2, .ref (gz G + v))]) rfl ?_
  refine am_iload dJ6_getChars_ba4f3_14 0 rfl ?_
  refine am_if_ne dJ6_getChars_ba4f3_16 (by decide : ((16 : Nat) : Int) + (6) = ((22 : Nat) : Int)) (fun zq => absurd zq (fun z1 => z1 rfl)) (fun _ => ?_)
  refine am_iload_n dJ6_getChars_ba4f3_19 2 rfl ?_
  refine am_ineg dJ6_getChars_ba4f3_20 ?_
  refine am_istore_n dJ6_getChars_ba4f3_21 (by decide) (lv' := [(0, .int (-(nI z))), (6, .int 0), (5, .int (nI e)), (1, .int (nI e)), (2, .ref (gz G + v))]) rfl ?_
  refine am_iload_n dJ6_getChars_ba4f3_22 0 rfl ?_
  refine am_bipush (v := (-100)) dJ6_getChars_ba4f3_23 (by decide) ?_
  refine am_icmp_gt dJ6_getChars_ba4f3_25 (by decide : ((25 : Nat) : Int) + (47) = ((72 : Nat) : Int)) (fun _ => ?_) (fun zq => absurd ((sb_gt100 (z := z) (by omega)).2 (by omega)) zq)
  refine am_aload_n dJ6_getChars_ba4f3_72 4 rfl ?_
  refine am_iinc (v := (nI (e - 1))) dJ6_getChars_ba4f3_73 2 rfl (bb_dec (a := e) (b := e - 0) (c := 1) (by omega) (by omega)) (by decide) (lv' := [(5, .int (nI (e - 1))), (0, .int (-(nI z))), (6, .int 0), (1, .int (nI e)), (2, .ref (gz G + v))]) rfl ?_
  refine am_iload dJ6_getChars_ba4f3_76 0 rfl ?_
  refine am_digO dJ6_getChars_ba4f3_78 (lw_k4 233 (by decide +kernel) (by decide +kernel)) ?_
  refine am_iload_n dJ6_getChars_ba4f3_81 1 rfl ?_
  refine am_ineg dJ6_getChars_ba4f3_82 ?_
  rw [Int32.neg_neg]
  refine am_baldO dJ6_getChars_ba4f3_83 (vp_in_nI (by omega) (by decide)) ?_
  rw [nI_clamp (by omega)]
  refine am_bast (n := n) (f := f) dJ6_getChars_ba4f3_84 hv (vp_in_nI (by omega) (by omega)) ?_
  rw [nI_clamp (n := e - 1) (by omega), bb_dg (d := z % 10) (by omega)]
  refine am_iload_n dJ6_getChars_ba4f3_85 1 rfl ?_
  refine am_bipush (v := (-9)) dJ6_getChars_ba4f3_86 (by decide) ?_
  refine am_icmp_ge dJ6_getChars_ba4f3_88 (by decide : ((88 : Nat) : Int) + (16) = ((104 : Nat) : Int)) (fun zq => absurd zq (fun z1 => by have := (sb_ge9 (z := z) (by omega)).1 z1; omega)) (fun _ => ?_)
  refine am_aload_n dJ6_getChars_ba4f3_91 4 rfl ?_
  refine am_iinc (v := (nI (e - 2))) dJ6_getChars_ba4f3_92 0 rfl (bb_dec (a := e) (b := e - 1) (c := 2) (by omega) (by omega)) (by decide) (lv' := [(5, .int (nI (e - 2))), (0, .int (-(nI z))), (6, .int 0), (1, .int (nI e)), (2, .ref (gz G + v))]) rfl ?_
  refine am_iload dJ6_getChars_ba4f3_95 0 rfl ?_
  refine am_digT dJ6_getChars_ba4f3_97 (lw_k4 235 (by decide +kernel) (by decide +kernel)) ?_
  refine am_iload_n dJ6_getChars_ba4f3_100 1 rfl ?_
  refine am_ineg dJ6_getChars_ba4f3_101 ?_
  rw [Int32.neg_neg]
  refine am_baldT dJ6_getChars_ba4f3_102 (vp_in_nI (by omega) (by decide)) ?_
  rw [nI_clamp (by omega)]
  refine am_bast (n := n) (f := (upd f (e - 1) (nI (48 + z % 10)))) dJ6_getChars_ba4f3_103 (hs_self hv) (vp_in_nI (by omega) (by omega)) ?_
  rw [nI_clamp (n := e - 2) (by omega), bb_dg (d := z / 10) (by omega)]
  refine am_iload dJ6_getChars_ba4f3_104 2 rfl ?_
  refine am_if_eq dJ6_getChars_ba4f3_106 (by decide : ((106 : Nat) : Int) + (12) = ((118 : Nat) : Int)) (fun _ => ?_) (fun zq => absurd rfl zq)
  refine am_iload dJ6_getChars_ba4f3_118 0 rfl ?_
  refine am_ireturn dJ6_getChars_ba4f3_120 rfl rfl ⟨rfl, (upd (upd f (e - 1) (nI (48 + z % 10))) (e - 2) (nI (48 + z / 10))), by simp only [List.set_set], ?_, fun j hj => ?_, fun i hi => ?_⟩
  · exact bb_fit1 (bb_fit1 (hf) (by omega)) (by omega)
  · rw [pk_un (by omega), pk_un (by omega)]
  · rcases (show i = 0 ∨ i = 1 by omega) with rfl | rfl
    · rw [show e - 2 + 0 = e - 2 by omega, pk_us]
      exact congrArg (fun x => nI (48 + x)) (show z / 10 = z / 10 % 10 by omega)
    · rw [show e - 2 + 1 = e - 1 by omega, pk_un (by omega), pk_us]
      exact congrArg (fun x => nI (48 + x)) (show z % 10 = z / 1 % 10 by omega)
theorem dJ6_getChars_ba4f3_28 : decode cJ6_getChars_ba4f3 28 = .ok (.iload_n 0, 1) := by decide +kernel
theorem dJ6_getChars_ba4f3_29 : decode cJ6_getChars_ba4f3 29 = .ok (.bipush 100, 2) := by decide +kernel
theorem dJ6_getChars_ba4f3_31 : decode cJ6_getChars_ba4f3 31 = .ok (.idiv, 1) := by decide +kernel
theorem dJ6_getChars_ba4f3_32 : decode cJ6_getChars_ba4f3 32 = .ok (.istore_n 3, 1) := by decide +kernel
theorem dJ6_getChars_ba4f3_33 : decode cJ6_getChars_ba4f3 33 = .ok (.iload_n 3, 1) := by decide +kernel
theorem dJ6_getChars_ba4f3_34 : decode cJ6_getChars_ba4f3 34 = .ok (.bipush 100, 2) := by decide +kernel
theorem dJ6_getChars_ba4f3_36 : decode cJ6_getChars_ba4f3 36 = .ok (.imul, 1) := by decide +kernel
theorem dJ6_getChars_ba4f3_37 : decode cJ6_getChars_ba4f3 37 = .ok (.iload_n 0, 1) := by decide +kernel
theorem dJ6_getChars_ba4f3_38 : decode cJ6_getChars_ba4f3 38 = .ok (.isub, 1) := by decide +kernel
theorem dJ6_getChars_ba4f3_39 : decode cJ6_getChars_ba4f3 39 = .ok (.istore 4, 2) := by decide +kernel
theorem dJ6_getChars_ba4f3_41 : decode cJ6_getChars_ba4f3 41 = .ok (.iload_n 3, 1) := by decide +kernel
theorem dJ6_getChars_ba4f3_42 : decode cJ6_getChars_ba4f3 42 = .ok (.istore_n 0, 1) := by decide +kernel
theorem dJ6_getChars_ba4f3_43 : decode cJ6_getChars_ba4f3 43 = .ok (.aload_n 2, 1) := by decide +kernel
theorem dJ6_getChars_ba4f3_44 : decode cJ6_getChars_ba4f3 44 = .ok (.iinc 5 (-1), 3) := by decide +kernel
theorem dJ6_getChars_ba4f3_47 : decode cJ6_getChars_ba4f3 47 = .ok (.iload 5, 2) := by decide +kernel
theorem dJ6_getChars_ba4f3_49 : decode cJ6_getChars_ba4f3 49 = .ok (.getstatic 83, 3) := by decide +kernel
theorem dJ6_getChars_ba4f3_52 : decode cJ6_getChars_ba4f3 52 = .ok (.iload 4, 2) := by decide +kernel
theorem dJ6_getChars_ba4f3_54 : decode cJ6_getChars_ba4f3 54 = .ok (.baload, 1) := by decide +kernel
theorem dJ6_getChars_ba4f3_55 : decode cJ6_getChars_ba4f3 55 = .ok (.bastore, 1) := by decide +kernel
theorem dJ6_getChars_ba4f3_56 : decode cJ6_getChars_ba4f3 56 = .ok (.aload_n 2, 1) := by decide +kernel
theorem dJ6_getChars_ba4f3_57 : decode cJ6_getChars_ba4f3 57 = .ok (.iinc 5 (-1), 3) := by decide +kernel
theorem dJ6_getChars_ba4f3_60 : decode cJ6_getChars_ba4f3 60 = .ok (.iload 5, 2) := by decide +kernel
theorem dJ6_getChars_ba4f3_62 : decode cJ6_getChars_ba4f3 62 = .ok (.getstatic 87, 3) := by decide +kernel
theorem dJ6_getChars_ba4f3_65 : decode cJ6_getChars_ba4f3 65 = .ok (.iload 4, 2) := by decide +kernel
theorem dJ6_getChars_ba4f3_67 : decode cJ6_getChars_ba4f3 67 = .ok (.baload, 1) := by decide +kernel
theorem dJ6_getChars_ba4f3_68 : decode cJ6_getChars_ba4f3 68 = .ok (.bastore, 1) := by decide +kernel
theorem dJ6_getChars_ba4f3_69 : decode cJ6_getChars_ba4f3 69 = .ok (.goto (-47), 3) := by decide +kernel
set_option maxRecDepth 20000 in
theorem ctJ6_chars3 {l : Launch} {G : GM} {h : List va_E} {v n e z : Nat} {f : Nat → Int32} (hv : h[v]? = some (.inl (1, n, .inl f))) (hf : hz_fit f) (hz : 100 ≤ z ∧ z < 1000) (h1 : 3 ≤ e) (h2 : e ≤ n) (h3 : n ≤ 4096) : Ct l G mJ6_getChars_ba4f3 0 0 0 [.int (nI z), .int (nI e), .ref (gz G + v)] h (fun r h1 => r = some (.int (nI (e - 3))) ∧ ∃ g, h1 = h.set v (.inl (1, n, .inl g)) ∧ hz_fit g ∧ (∀ j, j < e - 3 → g j = f j) ∧ ∀ i, i < 3 → g (e - 3 + i) = nI (48 + z / 10 ^ (3 - 1 - i) % 10)) := by
  show Tr l G mJ6_getChars_ba4f3 0 0 0 0 [(0, .int (nI z)), (1, .int (nI e)), (2, .ref (gz G + v))] [] h _
  refine am_iload_n dJ6_getChars_ba4f3_0 1 rfl ?_
  refine am_istore dJ6_getChars_ba4f3_1 (by decide) (lv' := [(5, .int (nI e)), (0, .int (nI z)), (1, .int (nI e)), (2, .ref (gz G + v))]) rfl ?_
  refine am_iload_n dJ6_getChars_ba4f3_3 1 rfl ?_
  refine am_if_ge dJ6_getChars_ba4f3_4 (by decide : ((4 : Nat) : Int) + (7) = ((11 : Nat) : Int)) (fun _ => ?_) (fun zq => absurd (nI_pos' (by omega)) zq)
  refine am_iconst (v := 0) dJ6_getChars_ba4f3_11 (by decide) ?_
  refine am_istore dJ6_getChars_ba4f3_12 (by decide) (lv' := [(6, .int 0), (5, .int (nI e)), (0, .int (nI z)), (1, .int (nI e)), (2, .ref (gz G + v))]) rfl ?_
  refine am_iload dJ6_getChars_ba4f3_14 0 rfl ?_
  refine am_if_ne dJ6_getChars_ba4f3_16 (by decide : ((16 : Nat) : Int) + (6) = ((22 : Nat) : Int)) (fun zq => absurd zq (fun z1 => z1 rfl)) (fun _ => ?_)
  refine am_iload_n dJ6_getChars_ba4f3_19 2 rfl ?_
  refine am_ineg dJ6_getChars_ba4f3_20 ?_
  refine am_istore_n dJ6_getChars_ba4f3_21 (by decide) (lv' := [(0, .int (-(nI z))), (6, .int 0), (5, .int (nI e)), (1, .int (nI e)), (2, .ref (gz G + v))]) rfl ?_
  refine am_iload_n dJ6_getChars_ba4f3_22 0 rfl ?_
  refine am_bipush (v := (-100)) dJ6_getChars_ba4f3_23 (by decide) ?_
  refine am_icmp_gt dJ6_getChars_ba4f3_25 (by decide : ((25 : Nat) : Int) + (47) = ((72 : Nat) : Int)) (fun zq => absurd zq (fun z1 => by have := (sb_gt100 (z := z) (by omega)).1 z1; omega)) (fun _ => ?_)
  refine am_iload_n dJ6_getChars_ba4f3_28 0 rfl ?_
  refine am_bipush (v := 100) dJ6_getChars_ba4f3_29 (by decide) ?_
  refine am_idiv dJ6_getChars_ba4f3_31 (by decide) ?_
  rw [sb_div (z := z) (by omega)]
  refine am_istore_n dJ6_getChars_ba4f3_32 (by decide) (lv' := [(3, .int (-(nI (z / 100)))), (0, .int (-(nI z))), (6, .int 0), (5, .int (nI e)), (1, .int (nI e)), (2, .ref (gz G + v))]) rfl ?_
  refine am_iload_n dJ6_getChars_ba4f3_33 0 rfl ?_
  refine am_bipush (v := 100) dJ6_getChars_ba4f3_34 (by decide) ?_
  refine am_imul dJ6_getChars_ba4f3_36 ?_
  refine am_iload_n dJ6_getChars_ba4f3_37 1 rfl ?_
  refine am_isub dJ6_getChars_ba4f3_38 ?_
  rw [sb_rem (z := z) (by omega)]
  refine am_istore dJ6_getChars_ba4f3_39 (by decide) (lv' := [(4, .int (nI (z % 100))), (3, .int (-(nI (z / 100)))), (0, .int (-(nI z))), (6, .int 0), (5, .int (nI e)), (1, .int (nI e)), (2, .ref (gz G + v))]) rfl ?_
  refine am_iload_n dJ6_getChars_ba4f3_41 1 rfl ?_
  refine am_istore_n dJ6_getChars_ba4f3_42 (by decide) (lv' := [(0, .int (-(nI (z / 100)))), (4, .int (nI (z % 100))), (3, .int (-(nI (z / 100)))), (6, .int 0), (5, .int (nI e)), (1, .int (nI e)), (2, .ref (gz G + v))]) rfl ?_
  refine am_aload_n dJ6_getChars_ba4f3_43 6 rfl ?_
  refine am_iinc (v := (nI (e - 1))) dJ6_getChars_ba4f3_44 4 rfl (bb_dec (a := e) (b := e - 0) (c := 1) (by omega) (by omega)) (by decide) (lv' := [(5, .int (nI (e - 1))), (0, .int (-(nI (z / 100)))), (4, .int (nI (z % 100))), (3, .int (-(nI (z / 100)))), (6, .int 0), (1, .int (nI e)), (2, .ref (gz G + v))]) rfl ?_
  refine am_iload dJ6_getChars_ba4f3_47 0 rfl ?_
  refine am_digO dJ6_getChars_ba4f3_49 (lw_k4 233 (by decide +kernel) (by decide +kernel)) ?_
  refine am_iload dJ6_getChars_ba4f3_52 2 rfl ?_
  refine am_baldO dJ6_getChars_ba4f3_54 (vp_in_nI (by omega) (by decide)) ?_
  rw [nI_clamp (by omega)]
  refine am_bast (n := n) (f := f) dJ6_getChars_ba4f3_55 hv (vp_in_nI (by omega) (by omega)) ?_
  rw [nI_clamp (n := e - 1) (by omega), bb_dg (d := (z % 100) % 10) (by omega)]
  refine am_aload_n dJ6_getChars_ba4f3_56 6 rfl ?_
  refine am_iinc (v := (nI (e - 2))) dJ6_getChars_ba4f3_57 0 rfl (bb_dec (a := e) (b := e - 1) (c := 2) (by omega) (by omega)) (by decide) (lv' := [(5, .int (nI (e - 2))), (0, .int (-(nI (z / 100)))), (4, .int (nI (z % 100))), (3, .int (-(nI (z / 100)))), (6, .int 0), (1, .int (nI e)), (2, .ref (gz G + v))]) rfl ?_
  refine am_iload dJ6_getChars_ba4f3_60 0 rfl ?_
  refine am_digT dJ6_getChars_ba4f3_62 (lw_k4 235 (by decide +kernel) (by decide +kernel)) ?_
  refine am_iload dJ6_getChars_ba4f3_65 2 rfl ?_
  refine am_baldT dJ6_getChars_ba4f3_67 (vp_in_nI (by omega) (by decide)) ?_
  rw [nI_clamp (by omega)]
  refine am_bast (n := n) (f := (upd f (e - 1) (nI (48 + (z % 100) % 10)))) dJ6_getChars_ba4f3_68 (hs_self hv) (vp_in_nI (by omega) (by omega)) ?_
  rw [nI_clamp (n := e - 2) (by omega), bb_dg (d := (z % 100) / 10) (by omega)]
  refine am_goto dJ6_getChars_ba4f3_69 (by decide : ((69 : Nat) : Int) + (-47) = ((22 : Nat) : Int)) ?_
  refine am_iload_n dJ6_getChars_ba4f3_22 1 rfl ?_
  refine am_bipush (v := (-100)) dJ6_getChars_ba4f3_23 (by decide) ?_
  refine am_icmp_gt dJ6_getChars_ba4f3_25 (by decide : ((25 : Nat) : Int) + (47) = ((72 : Nat) : Int)) (fun _ => ?_) (fun zq => absurd ((sb_gt100 (z := (z / 100)) (by omega)).2 (by omega)) zq)
  refine am_aload_n dJ6_getChars_ba4f3_72 6 rfl ?_
  refine am_iinc (v := (nI (e - 3))) dJ6_getChars_ba4f3_73 0 rfl (bb_dec (a := e) (b := e - 2) (c := 3) (by omega) (by omega)) (by decide) (lv' := [(5, .int (nI (e - 3))), (0, .int (-(nI (z / 100)))), (4, .int (nI (z % 100))), (3, .int (-(nI (z / 100)))), (6, .int 0), (1, .int (nI e)), (2, .ref (gz G + v))]) rfl ?_
  refine am_iload dJ6_getChars_ba4f3_76 0 rfl ?_
  refine am_digO dJ6_getChars_ba4f3_78 (lw_k4 233 (by decide +kernel) (by decide +kernel)) ?_
  refine am_iload_n dJ6_getChars_ba4f3_81 1 rfl ?_
  refine am_ineg dJ6_getChars_ba4f3_82 ?_
  rw [Int32.neg_neg]
  refine am_baldO dJ6_getChars_ba4f3_83 (vp_in_nI (by omega) (by decide)) ?_
  rw [nI_clamp (by omega)]
  refine am_bast (n := n) (f := (upd (upd f (e - 1) (nI (48 + (z % 100) % 10))) (e - 2) (nI (48 + (z % 100) / 10)))) dJ6_getChars_ba4f3_84 (hs_self (hs_self hv)) (vp_in_nI (by omega) (by omega)) ?_
  rw [nI_clamp (n := e - 3) (by omega), bb_dg (d := (z / 100) % 10) (by omega)]
  refine am_iload_n dJ6_getChars_ba4f3_85 1 rfl ?_
  refine am_bipush (v := (-9)) dJ6_getChars_ba4f3_86 (by decide) ?_
  refine am_icmp_ge dJ6_getChars_ba4f3_88 (by decide : ((88 : Nat) : Int) + (16) = ((104 : Nat) : Int)) (fun _ => ?_) (fun zq => absurd ((sb_ge9 (z := (z / 100)) (by omega)).2 (by omega)) zq)
  refine am_iload dJ6_getChars_ba4f3_104 4 rfl ?_
  refine am_if_eq dJ6_getChars_ba4f3_106 (by decide : ((106 : Nat) : Int) + (12) = ((118 : Nat) : Int)) (fun _ => ?_) (fun zq => absurd rfl zq)
  refine am_iload dJ6_getChars_ba4f3_118 0 rfl ?_
  refine am_ireturn dJ6_getChars_ba4f3_120 rfl rfl ⟨rfl, (upd (upd (upd f (e - 1) (nI (48 + (z % 100) % 10))) (e - 2) (nI (48 + (z % 100) / 10))) (e - 3) (nI (48 + (z / 100) % 10))), by simp only [List.set_set], ?_, fun j hj => ?_, fun i hi => ?_⟩
  · exact bb_fit1 (bb_fit1 (bb_fit1 (hf) (by omega)) (by omega)) (by omega)
  · rw [pk_un (by omega), pk_un (by omega), pk_un (by omega)]
  · rcases (show i = 0 ∨ i = 1 ∨ i = 2 by omega) with rfl | rfl | rfl
    · rw [show e - 3 + 0 = e - 3 by omega, pk_us]
    · rw [show e - 3 + 1 = e - 2 by omega, pk_un (by omega), pk_us]
      exact congrArg (fun x => nI (48 + x)) (show (z % 100) / 10 = z / 10 % 10 by omega)
    · rw [show e - 3 + 2 = e - 1 by omega, pk_un (by omega), pk_un (by omega), pk_us]
      exact congrArg (fun x => nI (48 + x)) (show (z % 100) % 10 = z / 1 % 10 by omega)
set_option maxRecDepth 20000 in
theorem ctJ6_chars4 {l : Launch} {G : GM} {h : List va_E} {v n e z : Nat} {f : Nat → Int32} (hv : h[v]? = some (.inl (1, n, .inl f))) (hf : hz_fit f) (hz : 1000 ≤ z ∧ z < 10000) (h1 : 4 ≤ e) (h2 : e ≤ n) (h3 : n ≤ 4096) : Ct l G mJ6_getChars_ba4f3 0 0 0 [.int (nI z), .int (nI e), .ref (gz G + v)] h (fun r h1 => r = some (.int (nI (e - 4))) ∧ ∃ g, h1 = h.set v (.inl (1, n, .inl g)) ∧ hz_fit g ∧ (∀ j, j < e - 4 → g j = f j) ∧ ∀ i, i < 4 → g (e - 4 + i) = nI (48 + z / 10 ^ (4 - 1 - i) % 10)) := by
  show Tr l G mJ6_getChars_ba4f3 0 0 0 0 [(0, .int (nI z)), (1, .int (nI e)), (2, .ref (gz G + v))] [] h _
  refine am_iload_n dJ6_getChars_ba4f3_0 1 rfl ?_
  refine am_istore dJ6_getChars_ba4f3_1 (by decide) (lv' := [(5, .int (nI e)), (0, .int (nI z)), (1, .int (nI e)), (2, .ref (gz G + v))]) rfl ?_
  refine am_iload_n dJ6_getChars_ba4f3_3 1 rfl ?_
  refine am_if_ge dJ6_getChars_ba4f3_4 (by decide : ((4 : Nat) : Int) + (7) = ((11 : Nat) : Int)) (fun _ => ?_) (fun zq => absurd (nI_pos' (by omega)) zq)
  refine am_iconst (v := 0) dJ6_getChars_ba4f3_11 (by decide) ?_
  refine am_istore dJ6_getChars_ba4f3_12 (by decide) (lv' := [(6, .int 0), (5, .int (nI e)), (0, .int (nI z)), (1, .int (nI e)), (2, .ref (gz G + v))]) rfl ?_
  refine am_iload dJ6_getChars_ba4f3_14 0 rfl ?_
  refine am_if_ne dJ6_getChars_ba4f3_16 (by decide : ((16 : Nat) : Int) + (6) = ((22 : Nat) : Int)) (fun zq => absurd zq (fun z1 => z1 rfl)) (fun _ => ?_)
  refine am_iload_n dJ6_getChars_ba4f3_19 2 rfl ?_
  refine am_ineg dJ6_getChars_ba4f3_20 ?_
  refine am_istore_n dJ6_getChars_ba4f3_21 (by decide) (lv' := [(0, .int (-(nI z))), (6, .int 0), (5, .int (nI e)), (1, .int (nI e)), (2, .ref (gz G + v))]) rfl ?_
  refine am_iload_n dJ6_getChars_ba4f3_22 0 rfl ?_
  refine am_bipush (v := (-100)) dJ6_getChars_ba4f3_23 (by decide) ?_
  refine am_icmp_gt dJ6_getChars_ba4f3_25 (by decide : ((25 : Nat) : Int) + (47) = ((72 : Nat) : Int)) (fun zq => absurd zq (fun z1 => by have := (sb_gt100 (z := z) (by omega)).1 z1; omega)) (fun _ => ?_)
  refine am_iload_n dJ6_getChars_ba4f3_28 0 rfl ?_
  refine am_bipush (v := 100) dJ6_getChars_ba4f3_29 (by decide) ?_
  refine am_idiv dJ6_getChars_ba4f3_31 (by decide) ?_
  rw [sb_div (z := z) (by omega)]
  refine am_istore_n dJ6_getChars_ba4f3_32 (by decide) (lv' := [(3, .int (-(nI (z / 100)))), (0, .int (-(nI z))), (6, .int 0), (5, .int (nI e)), (1, .int (nI e)), (2, .ref (gz G + v))]) rfl ?_
  refine am_iload_n dJ6_getChars_ba4f3_33 0 rfl ?_
  refine am_bipush (v := 100) dJ6_getChars_ba4f3_34 (by decide) ?_
  refine am_imul dJ6_getChars_ba4f3_36 ?_
  refine am_iload_n dJ6_getChars_ba4f3_37 1 rfl ?_
  refine am_isub dJ6_getChars_ba4f3_38 ?_
  rw [sb_rem (z := z) (by omega)]
  refine am_istore dJ6_getChars_ba4f3_39 (by decide) (lv' := [(4, .int (nI (z % 100))), (3, .int (-(nI (z / 100)))), (0, .int (-(nI z))), (6, .int 0), (5, .int (nI e)), (1, .int (nI e)), (2, .ref (gz G + v))]) rfl ?_
  refine am_iload_n dJ6_getChars_ba4f3_41 1 rfl ?_
  refine am_istore_n dJ6_getChars_ba4f3_42 (by decide) (lv' := [(0, .int (-(nI (z / 100)))), (4, .int (nI (z % 100))), (3, .int (-(nI (z / 100)))), (6, .int 0), (5, .int (nI e)), (1, .int (nI e)), (2, .ref (gz G + v))]) rfl ?_
  refine am_aload_n dJ6_getChars_ba4f3_43 6 rfl ?_
  refine am_iinc (v := (nI (e - 1))) dJ6_getChars_ba4f3_44 4 rfl (bb_dec (a := e) (b := e - 0) (c := 1) (by omega) (by omega)) (by decide) (lv' := [(5, .int (nI (e - 1))), (0, .int (-(nI (z / 100)))), (4, .int (nI (z % 100))), (3, .int (-(nI (z / 100)))), (6, .int 0), (1, .int (nI e)), (2, .ref (gz G + v))]) rfl ?_
  refine am_iload dJ6_getChars_ba4f3_47 0 rfl ?_
  refine am_digO dJ6_getChars_ba4f3_49 (lw_k4 233 (by decide +kernel) (by decide +kernel)) ?_
  refine am_iload dJ6_getChars_ba4f3_52 2 rfl ?_
  refine am_baldO dJ6_getChars_ba4f3_54 (vp_in_nI (by omega) (by decide)) ?_
  rw [nI_clamp (by omega)]
  refine am_bast (n := n) (f := f) dJ6_getChars_ba4f3_55 hv (vp_in_nI (by omega) (by omega)) ?_
  rw [nI_clamp (n := e - 1) (by omega), bb_dg (d := (z % 100) % 10) (by omega)]
  refine am_aload_n dJ6_getChars_ba4f3_56 6 rfl ?_
  refine am_iinc (v := (nI (e - 2))) dJ6_getChars_ba4f3_57 0 rfl (bb_dec (a := e) (b := e - 1) (c := 2) (by omega) (by omega)) (by decide) (lv' := [(5, .int (nI (e - 2))), (0, .int (-(nI (z / 100)))), (4, .int (nI (z % 100))), (3, .int (-(nI (z / 100)))), (6, .int 0), (1, .int (nI e)), (2, .ref (gz G + v))]) rfl ?_
  refine am_iload dJ6_getChars_ba4f3_60 0 rfl ?_
  refine am_digT dJ6_getChars_ba4f3_62 (lw_k4 235 (by decide +kernel) (by decide +kernel)) ?_
  refine am_iload dJ6_getChars_ba4f3_65 2 rfl ?_
  refine am_baldT dJ6_getChars_ba4f3_67 (vp_in_nI (by omega) (by decide)) ?_
  rw [nI_clamp (by omega)]
  refine am_bast (n := n) (f := (upd f (e - 1) (nI (48 + (z % 100) % 10)))) dJ6_getChars_ba4f3_68 (hs_self hv) (vp_in_nI (by omega) (by omega)) ?_
  rw [nI_clamp (n := e - 2) (by omega), bb_dg (d := (z % 100) / 10) (by omega)]
  refine am_goto dJ6_getChars_ba4f3_69 (by decide : ((69 : Nat) : Int) + (-47) = ((22 : Nat) : Int)) ?_
  refine am_iload_n dJ6_getChars_ba4f3_22 1 rfl ?_
  refine am_bipush (v := (-100)) dJ6_getChars_ba4f3_23 (by decide) ?_
  refine am_icmp_gt dJ6_getChars_ba4f3_25 (by decide : ((25 : Nat) : Int) + (47) = ((72 : Nat) : Int)) (fun _ => ?_) (fun zq => absurd ((sb_gt100 (z := (z / 100)) (by omega)).2 (by omega)) zq)
  refine am_aload_n dJ6_getChars_ba4f3_72 6 rfl ?_
  refine am_iinc (v := (nI (e - 3))) dJ6_getChars_ba4f3_73 0 rfl (bb_dec (a := e) (b := e - 2) (c := 3) (by omega) (by omega)) (by decide) (lv' := [(5, .int (nI (e - 3))), (0, .int (-(nI (z / 100)))), (4, .int (nI (z % 100))), (3, .int (-(nI (z / 100)))), (6, .int 0), (1, .int (nI e)), (2, .ref (gz G + v))]) rfl ?_
  refine am_iload dJ6_getChars_ba4f3_76 0 rfl ?_
  refine am_digO dJ6_getChars_ba4f3_78 (lw_k4 233 (by decide +kernel) (by decide +kernel)) ?_
  refine am_iload_n dJ6_getChars_ba4f3_81 1 rfl ?_
  refine am_ineg dJ6_getChars_ba4f3_82 ?_
  rw [Int32.neg_neg]
  refine am_baldO dJ6_getChars_ba4f3_83 (vp_in_nI (by omega) (by decide)) ?_
  rw [nI_clamp (by omega)]
  refine am_bast (n := n) (f := (upd (upd f (e - 1) (nI (48 + (z % 100) % 10))) (e - 2) (nI (48 + (z % 100) / 10)))) dJ6_getChars_ba4f3_84 (hs_self (hs_self hv)) (vp_in_nI (by omega) (by omega)) ?_
  rw [nI_clamp (n := e - 3) (by omega), bb_dg (d := (z / 100) % 10) (by omega)]
  refine am_iload_n dJ6_getChars_ba4f3_85 1 rfl ?_
  refine am_bipush (v := (-9)) dJ6_getChars_ba4f3_86 (by decide) ?_
  refine am_icmp_ge dJ6_getChars_ba4f3_88 (by decide : ((88 : Nat) : Int) + (16) = ((104 : Nat) : Int)) (fun zq => absurd zq (fun z1 => by have := (sb_ge9 (z := (z / 100)) (by omega)).1 z1; omega)) (fun _ => ?_)
  refine am_aload_n dJ6_getChars_ba4f3_91 6 rfl ?_
  refine am_iinc (v := (nI (e - 4))) dJ6_getChars_ba4f3_92 0 rfl (bb_dec (a := e) (b := e - 3) (c := 4) (by omega) (by omega)) (by decide) (lv' := [(5, .int (nI (e - 4))), (0, .int (-(nI (z / 100)))), (4, .int (nI (z % 100))), (3, .int (-(nI (z / 100)))), (6, .int 0), (1, .int (nI e)), (2, .ref (gz G + v))]) rfl ?_
  refine am_iload dJ6_getChars_ba4f3_95 0 rfl ?_
  refine am_digT dJ6_getChars_ba4f3_97 (lw_k4 235 (by decide +kernel) (by decide +kernel)) ?_
  refine am_iload_n dJ6_getChars_ba4f3_100 1 rfl ?_
  refine am_ineg dJ6_getChars_ba4f3_101 ?_
  rw [Int32.neg_neg]
  refine am_baldT dJ6_getChars_ba4f3_102 (vp_in_nI (by omega) (by decide)) ?_
  rw [nI_clamp (by omega)]
  refine am_bast (n := n) (f := (upd (upd (upd f (e - 1) (nI (48 + (z % 100) % 10))) (e - 2) (nI (48 + (z % 100) / 10))) (e - 3) (nI (48 + (z / 100) % 10)))) dJ6_getChars_ba4f3_103 (hs_self (hs_self (hs_self hv))) (vp_in_nI (by omega) (by omega)) ?_
  rw [nI_clamp (n := e - 4) (by omega), bb_dg (d := (z / 100) / 10) (by omega)]
  refine am_iload dJ6_getChars_ba4f3_104 4 rfl ?_
  refine am_if_eq dJ6_getChars_ba4f3_106 (by decide : ((106 : Nat) : Int) + (12) = ((118 : Nat) : Int)) (fun _ => ?_) (fun zq => absurd rfl zq)
  refine am_iload dJ6_getChars_ba4f3_118 0 rfl ?_
  refine am_ireturn dJ6_getChars_ba4f3_120 rfl rfl ⟨rfl, (upd (upd (upd (upd f (e - 1) (nI (48 + (z % 100) % 10))) (e - 2) (nI (48 + (z % 100) / 10))) (e - 3) (nI (48 + (z / 100) % 10))) (e - 4) (nI (48 + (z / 100) / 10))), by simp only [List.set_set], ?_, fun j hj => ?_, fun i hi => ?_⟩
  · exact bb_fit1 (bb_fit1 (bb_fit1 (bb_fit1 (hf) (by omega)) (by omega)) (by omega)) (by omega)
  · rw [pk_un (by omega), pk_un (by omega), pk_un (by omega), pk_un (by omega)]
  · rcases (show i = 0 ∨ i = 1 ∨ i = 2 ∨ i = 3 by omega) with rfl | rfl | rfl | rfl
    · rw [show e - 4 + 0 = e - 4 by omega, pk_us]
      exact congrArg (fun x => nI (48 + x)) (show (z / 100) / 10 = z / 1000 % 10 by omega)
    · rw [show e - 4 + 1 = e - 3 by omega, pk_un (by omega), pk_us]
    · rw [show e - 4 + 2 = e - 2 by omega, pk_un (by omega), pk_un (by omega), pk_us]
      exact congrArg (fun x => nI (48 + x)) (show (z % 100) / 10 = z / 10 % 10 by omega)
    · rw [show e - 4 + 3 = e - 1 by omega, pk_un (by omega), pk_un (by omega), pk_un (by omega), pk_us]
      exact congrArg (fun x => nI (48 + x)) (show (z % 100) % 10 = z / 1 % 10 by omega)
