/-! The JDK's StringBuilder: capacity. -/
/-- the builder: its row's place v, length n, bytes f; its count C -/
def SBc (G : GM) (h : List va_E) (v n C : Nat) (f : Nat → Int32) (ml : Int32) : Prop := h[19]? = some (.inr (0, [.ref (gz G + v), .int 0, .int ml, .int (nI C)])) ∧ h[v]? = some (.inl (1, n, .inl f)) ∧ ¬ v = 19 ∧ (20 ≤ h.length ∧ (v = 20 ∨ 20 ≤ v)) ∧ hz_fit f ∧ C ≤ n ∧ 16 ≤ n ∧ n ≤ 4096
theorem sb_mx {a b : Nat} (h : a ≤ b) (hb : b < 2147483648) : imx (nI a) (nI b) = nI b := by
  unfold imx
  by_cases c : a < b
  · rw [if_pos (by rw [nI_ltI (by omega) (by omega)]; exact c)]
  · rw [if_neg (by rw [nI_ltI (by omega) (by omega)]; exact c), show a = b by omega]
theorem sb_mn {a b : Nat} (h : a ≤ b) (hb : b < 2147483648) : imn (nI a) (nI b) = nI a := by
  unfold imn
  rw [if_neg (by rw [nI_ltI (by omega) (by omega)]; omega)]
theorem sb_pos {m : Nat} (h : 0 < m) (h2 : m < 1000000) : ¬ nI m ≤ 0 := by
  show ¬ nI m ≤ nI 0
  rw [nI_leI (by omega) (by omega)]; omega
theorem sb_big {m : Nat} (h2 : m < 1000000) : ¬ (2147483639 : Int32) < nI m := by
  rw [hz_lt, nI_toInt (by omega), show (2147483639 : Int32).toInt = 2147483639 from rfl]
  omega
theorem sb_ne {m : Nat} (h2 : m < 1000000) : ¬ nI m = 2147483647 := by
  rw [hz_inj, nI_toInt (by omega), show (2147483647 : Int32).toInt = 2147483647 from rfl]
  omega
theorem sb_sle {a b : Nat} (h : a ≤ b) (h2 : b < 1000000) : nI a - nI b ≤ 0 := by
  rw [hz_le, pk_sub_toInt (by omega) (by omega), show (0 : Int32).toInt = 0 from rfl]
  omega
theorem sb_snle {a b : Nat} (h : b < a) (h2 : a < 1000000) : ¬ nI a - nI b ≤ 0 := by
  rw [hz_le, pk_sub_toInt (by omega) (by omega), show (0 : Int32).toInt = 0 from rfl]
  omega
theorem sb_setL {h : List va_E} {x y : va_E} : (h ++ [x]).set h.length y = h ++ [y] := by
  rw [List.set_append_right _ _ (Nat.le_refl _), Nat.sub_self]
  rfl
theorem kUJ5_104 : okU RJ5 RJ4 104 mJ5_newCapacity_0f7a4 1 := ⟨kCJ5_newCapacity_0f7a4, (lw_k4 140 (by decide +kernel) (by decide +kernel)), (lw_k5 237 (by decide +kernel) (by decide +kernel)), (lw_k4 142 (by decide +kernel) (by decide +kernel)), (lw_sb (by decide +kernel))⟩
theorem kUJ5_100 : okU RJ5 RJ4 100 mJ5_ensureCapacityInternal_d00df 1 := ⟨kCJ5_ensureCapacityInternal_d00df, (lw_k4 136 (by decide +kernel) (by decide +kernel)), (lw_k5 236 (by decide +kernel) (by decide +kernel)), (lw_k4 138 (by decide +kernel) (by decide +kernel)), (lw_sb (by decide +kernel))⟩
theorem kUJ5_83 : okU RJ5 RJ4 83 mJ5_isLatin1_aae02 0 := ⟨kCJ5_isLatin1_aae02, (lw_k4 165 (by decide +kernel) (by decide +kernel)), (lw_k4 167 (by decide +kernel) (by decide +kernel)), (lw_k4 166 (by decide +kernel) (by decide +kernel)), (lw_k4 168 (by decide +kernel) (by decide +kernel))⟩
theorem kUJ5_208 : okU RJ5 RJ4 208 mJ5_putStringAt_47b60 2 := ⟨kCJ5_putStringAt_47b60, (lw_k4 186 (by decide +kernel) (by decide +kernel)), (lw_k5 238 (by decide +kernel) (by decide +kernel)), (lw_k4 188 (by decide +kernel) (by decide +kernel)), (lw_sb (by decide +kernel))⟩
theorem kUJ5_397 : okU RJ5 RJ4 397 mJ5_inflateIfNeededFor_a7421 1 := ⟨kCJ5_inflateIfNeededFor_a7421, (lw_k4 190 (by decide +kernel) (by decide +kernel)), (lw_k5 239 (by decide +kernel) (by decide +kernel)), (lw_k4 192 (by decide +kernel) (by decide +kernel)), (lw_sb (by decide +kernel))⟩
theorem kTJ4_50 : okSU RJ4 50 mJ5_append_3fe6f 1 := ⟨kCJ5_append_3fe6f, (lw_k5 81 (by decide +kernel) (by decide +kernel)), (lw_k6 4 (by decide +kernel) (by decide +kernel)), (lw_k2 3 (by decide +kernel) (by decide +kernel)), (lw_k5 82 (by decide +kernel) (by decide +kernel)), by decide⟩
theorem kTJ4_53 : okSU RJ4 53 mJ5_append_c97b9 1 := ⟨kCJ5_append_c97b9, (lw_k4 224 (by decide +kernel) (by decide +kernel)), (lw_k6 1 (by decide +kernel) (by decide +kernel)), (lw_k2 3 (by decide +kernel) (by decide +kernel)), (lw_k4 225 (by decide +kernel) (by decide +kernel)), by decide⟩
theorem kTJ4_29 : okSU RJ4 29 mJ5_append_cf1ce 1 := ⟨kCJ5_append_cf1ce, (lw_k4 129 (by decide +kernel) (by decide +kernel)), (lw_k5 234 (by decide +kernel) (by decide +kernel)), (lw_k2 3 (by decide +kernel) (by decide +kernel)), (lw_k4 130 (by decide +kernel) (by decide +kernel)), by decide⟩
theorem kTJ4_329 : okSU RJ4 329 mJ5_charAt_5068e 1 := ⟨kCJ5_charAt_5068e, (lw_k4 83 (by decide +kernel) (by decide +kernel)), (lw_k5 233 (by decide +kernel) (by decide +kernel)), (lw_k2 3 (by decide +kernel) (by decide +kernel)), (lw_k4 84 (by decide +kernel) (by decide +kernel)), by decide⟩
theorem kTJ4_343 : okSU RJ4 343 mJ5_length_8abf5 0 := ⟨kCJ5_length_8abf5, (lw_k4 76 (by decide +kernel) (by decide +kernel)), (lw_k5 232 (by decide +kernel) (by decide +kernel)), (lw_k2 3 (by decide +kernel) (by decide +kernel)), (lw_k4 77 (by decide +kernel) (by decide +kernel)), by decide⟩
theorem kTJ4_333 : okSU RJ4 333 mJ5_setLength_d00df 1 := ⟨kCJ5_setLength_d00df, (lw_k5 151 (by decide +kernel) (by decide +kernel)), (lw_k6 5 (by decide +kernel) (by decide +kernel)), (lw_k2 3 (by decide +kernel) (by decide +kernel)), (lw_k5 152 (by decide +kernel) (by decide +kernel)), by decide⟩
theorem dJ5_isLatin1_aae02_0 : decode cJ5_isLatin1_aae02 0 = .ok (.getstatic 18, 3) := by decide +kernel
theorem dJ5_isLatin1_aae02_3 : decode cJ5_isLatin1_aae02 3 = .ok (.ifCond .eq 14, 3) := by decide +kernel
theorem dJ5_isLatin1_aae02_6 : decode cJ5_isLatin1_aae02 6 = .ok (.aload_n 0, 1) := by decide +kernel
theorem dJ5_isLatin1_aae02_7 : decode cJ5_isLatin1_aae02 7 = .ok (.getfield 22, 3) := by decide +kernel
theorem dJ5_isLatin1_aae02_10 : decode cJ5_isLatin1_aae02 10 = .ok (.ifCond .ne 7, 3) := by decide +kernel
theorem dJ5_isLatin1_aae02_13 : decode cJ5_isLatin1_aae02 13 = .ok (.iconst 1, 1) := by decide +kernel
theorem dJ5_isLatin1_aae02_14 : decode cJ5_isLatin1_aae02 14 = .ok (.goto 4, 3) := by decide +kernel
theorem dJ5_isLatin1_aae02_18 : decode cJ5_isLatin1_aae02 18 = .ok (.ireturn, 1) := by decide +kernel
set_option maxRecDepth 20000 in
theorem ctJ5_isLatin1 {l : Launch} {G : GM} {h : List va_E} {v n C : Nat} {f : Nat → Int32} {ml : Int32} (hb : SBc G h v n C f ml) : Ct l G mJ5_isLatin1_aae02 0 0 0 [.ref (gz G + 19)] h (fun r h1 => r = some (.int 1) ∧ h1 = h) := by
  show Tr l G mJ5_isLatin1_aae02 0 0 0 0 [(0, .ref (gz G + 19))] [] h _
  refine am_compact dJ5_isLatin1_aae02_0 (lw_k1 221 (by decide +kernel) (by decide +kernel)) ?_
  refine am_if_eq dJ5_isLatin1_aae02_3 (by decide : ((3 : Nat) : Int) + (14) = ((17 : Nat) : Int)) (fun zq => absurd zq (by decide)) (fun _ => ?_)
  refine am_aload_n dJ5_isLatin1_aae02_6 0 rfl ?_
  refine am_get dJ5_isLatin1_aae02_7 kGJ5_22 hb.1 rfl ?_
  refine am_if_ne dJ5_isLatin1_aae02_10 (by decide : ((10 : Nat) : Int) + (7) = ((17 : Nat) : Int)) (fun zq => absurd zq (fun z => z rfl)) (fun _ => ?_)
  refine am_iconst (v := 1) dJ5_isLatin1_aae02_13 (by decide) ?_
  refine am_goto dJ5_isLatin1_aae02_14 (by decide : ((14 : Nat) : Int) + (4) = ((18 : Nat) : Int)) ?_
  exact am_ireturn dJ5_isLatin1_aae02_18 rfl rfl ⟨rfl, rfl⟩
theorem dJ5_length_8abf5_0 : decode cJ5_length_8abf5 0 = .ok (.aload_n 0, 1) := by decide +kernel
theorem dJ5_length_8abf5_1 : decode cJ5_length_8abf5 1 = .ok (.getfield 79, 3) := by decide +kernel
theorem dJ5_length_8abf5_4 : decode cJ5_length_8abf5 4 = .ok (.ireturn, 1) := by decide +kernel
set_option maxRecDepth 20000 in
theorem ctJ5_length {l : Launch} {G : GM} {h : List va_E} {v n C : Nat} {f : Nat → Int32} {ml : Int32} (hb : SBc G h v n C f ml) : Ct l G mJ5_length_8abf5 0 0 0 [.ref (gz G + 19)] h (fun r h1 => r = some (.int (nI C)) ∧ h1 = h) := by
  show Tr l G mJ5_length_8abf5 0 0 0 0 [(0, .ref (gz G + 19))] [] h _
  refine am_aload_n dJ5_length_8abf5_0 0 rfl ?_
  refine am_get dJ5_length_8abf5_1 kGJ5_79 hb.1 rfl ?_
  exact am_ireturn dJ5_length_8abf5_4 rfl rfl ⟨rfl, rfl⟩
theorem dJ8_newLength_cabcc_0 : decode cJ8_newLength_cabcc 0 = .ok (.iload_n 0, 1) := by decide +kernel
theorem dJ8_newLength_cabcc_1 : decode cJ8_newLength_cabcc 1 = .ok (.iload_n 1, 1) := by decide +kernel
theorem dJ8_newLength_cabcc_2 : decode cJ8_newLength_cabcc 2 = .ok (.iload_n 2, 1) := by decide +kernel
theorem dJ8_newLength_cabcc_3 : decode cJ8_newLength_cabcc 3 = .ok (.invokestatic 194, 3) := by decide +kernel
theorem dJ8_newLength_cabcc_6 : decode cJ8_newLength_cabcc 6 = .ok (.iadd, 1) := by decide +kernel
theorem dJ8_newLength_cabcc_7 : decode cJ8_newLength_cabcc 7 = .ok (.istore_n 3, 1) := by decide +kernel
theorem dJ8_newLength_cabcc_8 : decode cJ8_newLength_cabcc 8 = .ok (.iconst 0, 1) := by decide +kernel
theorem dJ8_newLength_cabcc_9 : decode cJ8_newLength_cabcc 9 = .ok (.iload_n 3, 1) := by decide +kernel
theorem dJ8_newLength_cabcc_10 : decode cJ8_newLength_cabcc 10 = .ok (.if_icmp .ge 11, 3) := by decide +kernel
theorem dJ8_newLength_cabcc_13 : decode cJ8_newLength_cabcc 13 = .ok (.iload_n 3, 1) := by decide +kernel
theorem dJ8_newLength_cabcc_14 : decode cJ8_newLength_cabcc 14 = .ok (.ldc 200, 2) := by decide +kernel
theorem dJ8_newLength_cabcc_16 : decode cJ8_newLength_cabcc 16 = .ok (.if_icmp .gt 5, 3) := by decide +kernel
theorem dJ8_newLength_cabcc_19 : decode cJ8_newLength_cabcc 19 = .ok (.iload_n 3, 1) := by decide +kernel
theorem dJ8_newLength_cabcc_20 : decode cJ8_newLength_cabcc 20 = .ok (.ireturn, 1) := by decide +kernel
set_option maxRecDepth 20000 in
theorem ctJ8_newLength {l : Launch} {G : GM} {h : List va_E} {n a : Nat} (hn : n ≤ 4096) (ha : a ≤ n + 2) : Ct l G mJ8_newLength_cabcc 1 0 0 [.int (nI n), .int (nI a), .int (nI (n + 2))] h (fun r h1 => r = some (.int (nI (n + (n + 2)))) ∧ h1 = h) := by
  show Tr l G mJ8_newLength_cabcc 1 0 0 0 [(0, .int (nI n)), (1, .int (nI a)), (2, .int (nI (n + 2)))] [] h _
  refine am_iload_n dJ8_newLength_cabcc_0 0 rfl ?_
  refine am_iload_n dJ8_newLength_cabcc_1 1 rfl ?_
  refine am_iload_n dJ8_newLength_cabcc_2 2 rfl ?_
  refine am_mmax dJ8_newLength_cabcc_3 (lw_k4 147 (by decide +kernel) (by decide +kernel)) (Nat.le_of_ble_eq_true rfl) (by decide) ?_
  rw [sb_mx (show a ≤ n + 2 by omega) (by omega)]
  refine am_iadd dJ8_newLength_cabcc_6 ?_
  rw [nI_add]
  refine am_istore_n dJ8_newLength_cabcc_7 (by decide) (lv' := [(3, .int (nI (n + (n + 2)))), (0, .int (nI n)), (1, .int (nI a)), (2, .int (nI (n + 2)))]) rfl ?_
  refine am_iconst (v := 0) dJ8_newLength_cabcc_8 (by decide) ?_
  refine am_iload_n dJ8_newLength_cabcc_9 0 rfl ?_
  refine am_icmp_ge dJ8_newLength_cabcc_10 (by decide : ((10 : Nat) : Int) + (11) = ((21 : Nat) : Int)) (fun zq => absurd zq (sb_pos (m := n + (n + 2)) (by omega) (by omega))) (fun _ => ?_)
  refine am_iload_n dJ8_newLength_cabcc_13 0 rfl ?_
  refine am_ldc (v := 2147483639) dJ8_newLength_cabcc_14 kKJ8_200 ?_
  refine am_icmp_gt dJ8_newLength_cabcc_16 (by decide : ((16 : Nat) : Int) + (5) = ((21 : Nat) : Int)) (fun zq => absurd zq (sb_big (m := n + (n + 2)) (by omega))) (fun _ => ?_)
  refine am_iload_n dJ8_newLength_cabcc_19 0 rfl ?_
  exact am_ireturn dJ8_newLength_cabcc_20 rfl rfl ⟨rfl, rfl⟩
theorem dJ5_newCapacity_0f7a4_0 : decode cJ5_newCapacity_0f7a4 0 = .ok (.aload_n 0, 1) := by decide +kernel
theorem dJ5_newCapacity_0f7a4_1 : decode cJ5_newCapacity_0f7a4 1 = .ok (.getfield 15, 3) := by decide +kernel
theorem dJ5_newCapacity_0f7a4_4 : decode cJ5_newCapacity_0f7a4 4 = .ok (.arraylength, 1) := by decide +kernel
theorem dJ5_newCapacity_0f7a4_5 : decode cJ5_newCapacity_0f7a4 5 = .ok (.istore_n 2, 1) := by decide +kernel
theorem dJ5_newCapacity_0f7a4_6 : decode cJ5_newCapacity_0f7a4 6 = .ok (.iload_n 1, 1) := by decide +kernel
theorem dJ5_newCapacity_0f7a4_7 : decode cJ5_newCapacity_0f7a4 7 = .ok (.aload_n 0, 1) := by decide +kernel
theorem dJ5_newCapacity_0f7a4_8 : decode cJ5_newCapacity_0f7a4 8 = .ok (.getfield 22, 3) := by decide +kernel
theorem dJ5_newCapacity_0f7a4_11 : decode cJ5_newCapacity_0f7a4 11 = .ok (.ishl, 1) := by decide +kernel
theorem dJ5_newCapacity_0f7a4_12 : decode cJ5_newCapacity_0f7a4 12 = .ok (.istore_n 3, 1) := by decide +kernel
theorem dJ5_newCapacity_0f7a4_13 : decode cJ5_newCapacity_0f7a4 13 = .ok (.iload_n 3, 1) := by decide +kernel
theorem dJ5_newCapacity_0f7a4_14 : decode cJ5_newCapacity_0f7a4 14 = .ok (.iload_n 2, 1) := by decide +kernel
theorem dJ5_newCapacity_0f7a4_15 : decode cJ5_newCapacity_0f7a4 15 = .ok (.isub, 1) := by decide +kernel
theorem dJ5_newCapacity_0f7a4_16 : decode cJ5_newCapacity_0f7a4 16 = .ok (.istore 4, 2) := by decide +kernel
theorem dJ5_newCapacity_0f7a4_18 : decode cJ5_newCapacity_0f7a4 18 = .ok (.iload_n 2, 1) := by decide +kernel
theorem dJ5_newCapacity_0f7a4_19 : decode cJ5_newCapacity_0f7a4 19 = .ok (.iload 4, 2) := by decide +kernel
theorem dJ5_newCapacity_0f7a4_21 : decode cJ5_newCapacity_0f7a4 21 = .ok (.iload_n 2, 1) := by decide +kernel
theorem dJ5_newCapacity_0f7a4_22 : decode cJ5_newCapacity_0f7a4 22 = .ok (.iconst 2, 1) := by decide +kernel
theorem dJ5_newCapacity_0f7a4_23 : decode cJ5_newCapacity_0f7a4 23 = .ok (.aload_n 0, 1) := by decide +kernel
theorem dJ5_newCapacity_0f7a4_24 : decode cJ5_newCapacity_0f7a4 24 = .ok (.getfield 22, 3) := by decide +kernel
theorem dJ5_newCapacity_0f7a4_27 : decode cJ5_newCapacity_0f7a4 27 = .ok (.ishl, 1) := by decide +kernel
theorem dJ5_newCapacity_0f7a4_28 : decode cJ5_newCapacity_0f7a4 28 = .ok (.iadd, 1) := by decide +kernel
theorem dJ5_newCapacity_0f7a4_29 : decode cJ5_newCapacity_0f7a4 29 = .ok (.invokestatic 114, 3) := by decide +kernel
theorem dJ5_newCapacity_0f7a4_32 : decode cJ5_newCapacity_0f7a4 32 = .ok (.istore 5, 2) := by decide +kernel
theorem dJ5_newCapacity_0f7a4_34 : decode cJ5_newCapacity_0f7a4 34 = .ok (.iload 5, 2) := by decide +kernel
theorem dJ5_newCapacity_0f7a4_36 : decode cJ5_newCapacity_0f7a4 36 = .ok (.ldc 39, 2) := by decide +kernel
theorem dJ5_newCapacity_0f7a4_38 : decode cJ5_newCapacity_0f7a4 38 = .ok (.if_icmp .ne 13, 3) := by decide +kernel
theorem dJ5_newCapacity_0f7a4_51 : decode cJ5_newCapacity_0f7a4 51 = .ok (.iload 5, 2) := by decide +kernel
theorem dJ5_newCapacity_0f7a4_53 : decode cJ5_newCapacity_0f7a4 53 = .ok (.aload_n 0, 1) := by decide +kernel
theorem dJ5_newCapacity_0f7a4_54 : decode cJ5_newCapacity_0f7a4 54 = .ok (.getfield 22, 3) := by decide +kernel
theorem dJ5_newCapacity_0f7a4_57 : decode cJ5_newCapacity_0f7a4 57 = .ok (.ishr, 1) := by decide +kernel
theorem dJ5_newCapacity_0f7a4_58 : decode cJ5_newCapacity_0f7a4 58 = .ok (.ireturn, 1) := by decide +kernel
set_option maxRecDepth 20000 in
theorem ctJ5_newCapacity {l : Launch} {G : GM} {h : List va_E} {v n C : Nat} {f : Nat → Int32} {ml : Int32} (hb : SBc G h v n C f ml) {q : Nat} (h1 : n < q) (h2 : q ≤ 2 * n + 2) : Ct l G mJ5_newCapacity_0f7a4 2 0 0 [.ref (gz G + 19), .int (nI q)] h (fun r h1 => r = some (.int (nI (n + (n + 2)))) ∧ h1 = h) := by
  have hn := hb.2.2.2.2.2.2.2
  show Tr l G mJ5_newCapacity_0f7a4 2 0 0 0 [(0, .ref (gz G + 19)), (1, .int (nI q))] [] h _
  refine am_aload_n dJ5_newCapacity_0f7a4_0 0 rfl ?_
  refine am_get dJ5_newCapacity_0f7a4_1 kGJ5_15 hb.1 rfl ?_
  refine am_alen (v := (nI n)) dJ5_newCapacity_0f7a4_4 hb.2.1 rfl rfl ?_
  refine am_istore_n dJ5_newCapacity_0f7a4_5 (by decide) (lv' := [(2, .int (nI n)), (0, .ref (gz G + 19)), (1, .int (nI q))]) rfl ?_
  refine am_iload_n dJ5_newCapacity_0f7a4_6 2 rfl ?_
  refine am_aload_n dJ5_newCapacity_0f7a4_7 1 rfl ?_
  refine am_get dJ5_newCapacity_0f7a4_8 kGJ5_22 hb.1 rfl ?_
  refine am_ishl dJ5_newCapacity_0f7a4_11 ?_
  rw [sh0l (nI q)]
  refine am_istore_n dJ5_newCapacity_0f7a4_12 (by decide) (lv' := [(3, .int (nI q)), (2, .int (nI n)), (0, .ref (gz G + 19)), (1, .int (nI q))]) rfl ?_
  refine am_iload_n dJ5_newCapacity_0f7a4_13 0 rfl ?_
  refine am_iload_n dJ5_newCapacity_0f7a4_14 1 rfl ?_
  refine am_isub dJ5_newCapacity_0f7a4_15 ?_
  rw [show nI q - nI n = nI (q - n) from pk_sub (by omega)]
  refine am_istore dJ5_newCapacity_0f7a4_16 (by decide) (lv' := [(4, .int (nI (q - n))), (3, .int (nI q)), (2, .int (nI n)), (0, .ref (gz G + 19)), (1, .int (nI q))]) rfl ?_
  refine am_iload_n dJ5_newCapacity_0f7a4_18 2 rfl ?_
  refine am_iload dJ5_newCapacity_0f7a4_19 0 rfl ?_
  refine am_iload_n dJ5_newCapacity_0f7a4_21 2 rfl ?_
  refine am_iconst (v := 2) dJ5_newCapacity_0f7a4_22 (by decide) ?_
  refine am_aload_n dJ5_newCapacity_0f7a4_23 3 rfl ?_
  refine am_get dJ5_newCapacity_0f7a4_24 kGJ5_22 hb.1 rfl ?_
  refine am_ishl dJ5_newCapacity_0f7a4_27 ?_
  rw [sh0l 2]
  refine am_iadd dJ5_newCapacity_0f7a4_28 ?_
  rw [show nI n + 2 = nI (n + 2) from nI_add n 2]
  refine am_callS (As := [.int (nI n), .int (nI (q - n)), .int (nI (n + 2))]) (rest := []) dJ5_newCapacity_0f7a4_29 kMJ5_114 rfl rfl (Nat.le_of_ble_eq_true rfl) (d2 := 1) (by decide) (k2 := 0) (Nat.zero_le _) (u2 := 0) (Nat.zero_le _) (Nat.le_of_ble_eq_true rfl) (ctJ8_newLength hn (show q - n ≤ n + 2 by omega)) (fun v1 h2 q3 => ?_)
  obtain ⟨rfl, rfl⟩ := q3
  refine am_istore dJ5_newCapacity_0f7a4_32 (by decide) (lv' := [(5, .int (nI (n + (n + 2)))), (4, .int (nI (q - n))), (3, .int (nI q)), (2, .int (nI n)), (0, .ref (gz G + 19)), (1, .int (nI q))]) rfl ?_
  refine am_iload dJ5_newCapacity_0f7a4_34 0 rfl ?_
  refine am_ldc (v := 2147483647) dJ5_newCapacity_0f7a4_36 kKJ5_39 ?_
  refine am_icmp_ne dJ5_newCapacity_0f7a4_38 (by decide : ((38 : Nat) : Int) + (13) = ((51 : Nat) : Int)) (fun _ => ?_) (fun zq => absurd zq (sb_ne (m := n + (n + 2)) (by omega)))
  refine am_iload dJ5_newCapacity_0f7a4_51 0 rfl ?_
  refine am_aload_n dJ5_newCapacity_0f7a4_53 4 rfl ?_
  refine am_get dJ5_newCapacity_0f7a4_54 kGJ5_22 hb.1 rfl ?_
  refine am_ishr dJ5_newCapacity_0f7a4_57 ?_
  rw [sh0r (nI (n + (n + 2)))]
  exact am_ireturn dJ5_newCapacity_0f7a4_58 rfl rfl ⟨rfl, rfl⟩
theorem dJ7_copyOf_9075b_0 : decode cJ7_copyOf_9075b 0 = .ok (.iload_n 1, 1) := by decide +kernel
theorem dJ7_copyOf_9075b_1 : decode cJ7_copyOf_9075b 1 = .ok (.aload_n 0, 1) := by decide +kernel
theorem dJ7_copyOf_9075b_2 : decode cJ7_copyOf_9075b 2 = .ok (.arraylength, 1) := by decide +kernel
theorem dJ7_copyOf_9075b_3 : decode cJ7_copyOf_9075b 3 = .ok (.if_icmp .ne 11, 3) := by decide +kernel
theorem dJ7_copyOf_9075b_14 : decode cJ7_copyOf_9075b 14 = .ok (.iload_n 1, 1) := by decide +kernel
theorem dJ7_copyOf_9075b_15 : decode cJ7_copyOf_9075b 15 = .ok (.newarray .byte, 2) := by decide +kernel
theorem dJ7_copyOf_9075b_17 : decode cJ7_copyOf_9075b 17 = .ok (.astore_n 2, 1) := by decide +kernel
theorem dJ7_copyOf_9075b_18 : decode cJ7_copyOf_9075b 18 = .ok (.aload_n 0, 1) := by decide +kernel
theorem dJ7_copyOf_9075b_19 : decode cJ7_copyOf_9075b 19 = .ok (.iconst 0, 1) := by decide +kernel
theorem dJ7_copyOf_9075b_20 : decode cJ7_copyOf_9075b 20 = .ok (.aload_n 2, 1) := by decide +kernel
theorem dJ7_copyOf_9075b_21 : decode cJ7_copyOf_9075b 21 = .ok (.iconst 0, 1) := by decide +kernel
theorem dJ7_copyOf_9075b_22 : decode cJ7_copyOf_9075b 22 = .ok (.aload_n 0, 1) := by decide +kernel
theorem dJ7_copyOf_9075b_23 : decode cJ7_copyOf_9075b 23 = .ok (.arraylength, 1) := by decide +kernel
theorem dJ7_copyOf_9075b_24 : decode cJ7_copyOf_9075b 24 = .ok (.iload_n 1, 1) := by decide +kernel
theorem dJ7_copyOf_9075b_25 : decode cJ7_copyOf_9075b 25 = .ok (.invokestatic 304, 3) := by decide +kernel
theorem dJ7_copyOf_9075b_28 : decode cJ7_copyOf_9075b 28 = .ok (.invokestatic 150, 3) := by decide +kernel
theorem dJ7_copyOf_9075b_31 : decode cJ7_copyOf_9075b 31 = .ok (.aload_n 2, 1) := by decide +kernel
theorem dJ7_copyOf_9075b_32 : decode cJ7_copyOf_9075b 32 = .ok (.areturn, 1) := by decide +kernel
set_option maxRecDepth 20000 in
theorem ctJ7_copyOf {l : Launch} {G : GM} {h : List va_E} {v n N : Nat} {f : Nat → Int32} (hv : h[v]? = some (.inl (1, n, .inl f))) (hf : hz_fit f) (h1 : n < N) (h2 : N ≤ 100000) : Ct l G mJ7_copyOf_9075b 1 1 N [.ref (gz G + v), .int (nI N)] h (fun r h1 => r = some (.ref (gz G + h.length)) ∧ h1 = h ++ [.inl (1, N, .inl (va_cpy f (fun _ => 0) 0 0 n))]) := by
  show Tr l G mJ7_copyOf_9075b 1 1 N 0 [(0, .ref (gz G + v)), (1, .int (nI N))] [] h _
  have hv2 : ¬ v = h.length := by have := (List.getElem?_eq_some_iff.mp hv).1; omega
  refine am_iload_n dJ7_copyOf_9075b_0 1 rfl ?_
  refine am_aload_n dJ7_copyOf_9075b_1 0 rfl ?_
  refine am_alen (v := (nI n)) dJ7_copyOf_9075b_2 hv rfl rfl ?_
  refine am_icmp_ne dJ7_copyOf_9075b_3 (by decide : ((3 : Nat) : Int) + (11) = ((14 : Nat) : Int)) (fun _ => ?_) (fun zq => absurd zq (fun z => by have := hz_nIi (by omega) (by omega) z; omega))
  refine am_iload_n dJ7_copyOf_9075b_14 1 rfl ?_
  refine am_newb (N := N) (k1 := 0) (u1 := 0) dJ7_copyOf_9075b_15 kAB (nI_pos (by omega)) (nI_clamp (by omega)) (by omega) (by omega) (by omega) ?_
  have w1 := hs_push hv (e := .inl (1, N, .inl (fun _ => 0)))
  have w2 : (h ++ [(.inl (1, N, .inl (fun _ => 0)) : va_E)])[h.length]? = some (.inl (1, N, .inl (fun _ => 0))) := hs_newc rfl
  refine am_astore_n dJ7_copyOf_9075b_17 (by decide) (lv' := [(2, .ref (gz G + h.length)), (0, .ref (gz G + v)), (1, .int (nI N))]) rfl ?_
  refine am_aload_n dJ7_copyOf_9075b_18 1 rfl ?_
  refine am_iconst (v := 0) dJ7_copyOf_9075b_19 (by decide) ?_
  refine am_aload_n dJ7_copyOf_9075b_20 0 rfl ?_
  refine am_iconst (v := 0) dJ7_copyOf_9075b_21 (by decide) ?_
  refine am_aload_n dJ7_copyOf_9075b_22 1 rfl ?_
  refine am_alen (v := (nI n)) dJ7_copyOf_9075b_23 w1 rfl rfl ?_
  refine am_iload_n dJ7_copyOf_9075b_24 2 rfl ?_
  refine am_mmin dJ7_copyOf_9075b_25 (lw_k4 163 (by decide +kernel) (by decide +kernel)) (Nat.le_of_ble_eq_true rfl) (by decide) ?_
  rw [sb_mn (show n ≤ N by omega) (by omega)]
  refine am_copyb (f := f) (g := fun _ => 0) dJ7_copyOf_9075b_28 (lw_k4 164 (by decide +kernel) (by decide +kernel)) w1 w2 (by decide) (by decide) (nI_pos (by omega)) (by rw [nI_clamp (by omega)]; show 0 + n ≤ n; omega) (by rw [nI_clamp (by omega)]; show 0 + n ≤ N; omega) hf (Nat.le_of_ble_eq_true rfl) (by decide) ?_
  rw [nI_clamp (show n < 2147483648 by omega), sb_setL]
  refine am_aload_n dJ7_copyOf_9075b_31 0 rfl ?_
  exact am_areturn dJ7_copyOf_9075b_32 rfl (Or.inr ⟨_, rfl⟩) ⟨rfl, rfl⟩
theorem dJ5_ensureCapacityInternal_d00df_0 : decode cJ5_ensureCapacityInternal_d00df 0 = .ok (.aload_n 0, 1) := by decide +kernel
theorem dJ5_ensureCapacityInternal_d00df_1 : decode cJ5_ensureCapacityInternal_d00df 1 = .ok (.getfield 15, 3) := by decide +kernel
theorem dJ5_ensureCapacityInternal_d00df_4 : decode cJ5_ensureCapacityInternal_d00df 4 = .ok (.arraylength, 1) := by decide +kernel
theorem dJ5_ensureCapacityInternal_d00df_5 : decode cJ5_ensureCapacityInternal_d00df 5 = .ok (.aload_n 0, 1) := by decide +kernel
theorem dJ5_ensureCapacityInternal_d00df_6 : decode cJ5_ensureCapacityInternal_d00df 6 = .ok (.getfield 22, 3) := by decide +kernel
theorem dJ5_ensureCapacityInternal_d00df_9 : decode cJ5_ensureCapacityInternal_d00df 9 = .ok (.ishr, 1) := by decide +kernel
theorem dJ5_ensureCapacityInternal_d00df_10 : decode cJ5_ensureCapacityInternal_d00df 10 = .ok (.istore_n 2, 1) := by decide +kernel
theorem dJ5_ensureCapacityInternal_d00df_11 : decode cJ5_ensureCapacityInternal_d00df 11 = .ok (.iload_n 1, 1) := by decide +kernel
theorem dJ5_ensureCapacityInternal_d00df_12 : decode cJ5_ensureCapacityInternal_d00df 12 = .ok (.iload_n 2, 1) := by decide +kernel
theorem dJ5_ensureCapacityInternal_d00df_13 : decode cJ5_ensureCapacityInternal_d00df 13 = .ok (.isub, 1) := by decide +kernel
theorem dJ5_ensureCapacityInternal_d00df_14 : decode cJ5_ensureCapacityInternal_d00df 14 = .ok (.ifCond .le 24, 3) := by decide +kernel
theorem dJ5_ensureCapacityInternal_d00df_38 : decode cJ5_ensureCapacityInternal_d00df 38 = .ok (.return_, 1) := by decide +kernel
set_option maxRecDepth 20000 in
theorem ctJ5_ens0 {l : Launch} {G : GM} {h : List va_E} {v n C : Nat} {f : Nat → Int32} {ml : Int32} (hb : SBc G h v n C f ml) {q : Nat} (hq : q ≤ n) : Ct l G mJ5_ensureCapacityInternal_d00df 3 0 0 [.ref (gz G + 19), .int (nI q)] h (fun r h1 => r = none ∧ h1 = h) := by
  show Tr l G mJ5_ensureCapacityInternal_d00df 3 0 0 0 [(0, .ref (gz G + 19)), (1, .int (nI q))] [] h _
  have hn := hb.2.2.2.2.2.2.2
  refine am_aload_n dJ5_ensureCapacityInternal_d00df_0 0 rfl ?_
  refine am_get dJ5_ensureCapacityInternal_d00df_1 kGJ5_15 hb.1 rfl ?_
  refine am_alen (v := (nI n)) dJ5_ensureCapacityInternal_d00df_4 hb.2.1 rfl rfl ?_
  refine am_aload_n dJ5_ensureCapacityInternal_d00df_5 0 rfl ?_
  refine am_get dJ5_ensureCapacityInternal_d00df_6 kGJ5_22 hb.1 rfl ?_
  refine am_ishr dJ5_ensureCapacityInternal_d00df_9 ?_
  rw [sh0r (nI n)]
  refine am_istore_n dJ5_ensureCapacityInternal_d00df_10 (by decide) (lv' := [(2, .int (nI n)), (0, .ref (gz G + 19)), (1, .int (nI q))]) rfl ?_
  refine am_iload_n dJ5_ensureCapacityInternal_d00df_11 2 rfl ?_
  refine am_iload_n dJ5_ensureCapacityInternal_d00df_12 0 rfl ?_
  refine am_isub dJ5_ensureCapacityInternal_d00df_13 ?_
  refine am_if_le dJ5_ensureCapacityInternal_d00df_14 (by decide : ((14 : Nat) : Int) + (24) = ((38 : Nat) : Int)) (fun _ => ?_) (fun zq => absurd (sb_sle (a := q) (b := n) hq (by omega)) zq)
  exact am_return dJ5_ensureCapacityInternal_d00df_38 rfl ⟨rfl, rfl⟩
theorem dJ5_ensureCapacityInternal_d00df_17 : decode cJ5_ensureCapacityInternal_d00df 17 = .ok (.aload_n 0, 1) := by decide +kernel
theorem dJ5_ensureCapacityInternal_d00df_18 : decode cJ5_ensureCapacityInternal_d00df 18 = .ok (.aload_n 0, 1) := by decide +kernel
theorem dJ5_ensureCapacityInternal_d00df_19 : decode cJ5_ensureCapacityInternal_d00df 19 = .ok (.getfield 15, 3) := by decide +kernel
theorem dJ5_ensureCapacityInternal_d00df_22 : decode cJ5_ensureCapacityInternal_d00df 22 = .ok (.aload_n 0, 1) := by decide +kernel
theorem dJ5_ensureCapacityInternal_d00df_23 : decode cJ5_ensureCapacityInternal_d00df 23 = .ok (.iload_n 1, 1) := by decide +kernel
theorem dJ5_ensureCapacityInternal_d00df_24 : decode cJ5_ensureCapacityInternal_d00df 24 = .ok (.invokevirtual 104, 3) := by decide +kernel
theorem dJ5_ensureCapacityInternal_d00df_27 : decode cJ5_ensureCapacityInternal_d00df 27 = .ok (.aload_n 0, 1) := by decide +kernel
theorem dJ5_ensureCapacityInternal_d00df_28 : decode cJ5_ensureCapacityInternal_d00df 28 = .ok (.getfield 22, 3) := by decide +kernel
theorem dJ5_ensureCapacityInternal_d00df_31 : decode cJ5_ensureCapacityInternal_d00df 31 = .ok (.ishl, 1) := by decide +kernel
theorem dJ5_ensureCapacityInternal_d00df_32 : decode cJ5_ensureCapacityInternal_d00df 32 = .ok (.invokestatic 108, 3) := by decide +kernel
theorem dJ5_ensureCapacityInternal_d00df_35 : decode cJ5_ensureCapacityInternal_d00df 35 = .ok (.putfield 15, 3) := by decide +kernel
set_option maxRecDepth 20000 in
theorem ctJ5_ens1 {l : Launch} {G : GM} {h : List va_E} {v n C : Nat} {f : Nat → Int32} {ml : Int32} (hb : SBc G h v n C f ml) {q : Nat} (h1 : n < q) (h2 : q ≤ 2 * n + 2) : Ct l G mJ5_ensureCapacityInternal_d00df 3 1 (n + (n + 2)) [.ref (gz G + 19), .int (nI q)] h (fun r h1 => r = none ∧ h1 = (h ++ [(.inl (1, n + (n + 2), .inl (va_cpy f (fun _ => 0) 0 0 n)) : va_E)]).set 19 (.inr (0, [.ref (gz G + h.length), .int 0, .int ml, .int (nI C)]))) := by
  show Tr l G mJ5_ensureCapacityInternal_d00df 3 1 (n + (n + 2)) 0 [(0, .ref (gz G + 19)), (1, .int (nI q))] [] h _
  have hn := hb.2.2.2.2.2.2.2
  refine am_aload_n dJ5_ensureCapacityInternal_d00df_0 0 rfl ?_
  refine am_get dJ5_ensureCapacityInternal_d00df_1 kGJ5_15 hb.1 rfl ?_
  refine am_alen (v := (nI n)) dJ5_ensureCapacityInternal_d00df_4 hb.2.1 rfl rfl ?_
  refine am_aload_n dJ5_ensureCapacityInternal_d00df_5 0 rfl ?_
  refine am_get dJ5_ensureCapacityInternal_d00df_6 kGJ5_22 hb.1 rfl ?_
  refine am_ishr dJ5_ensureCapacityInternal_d00df_9 ?_
  rw [sh0r (nI n)]
  refine am_istore_n dJ5_ensureCapacityInternal_d00df_10 (by decide) (lv' := [(2, .int (nI n)), (0, .ref (gz G + 19)), (1, .int (nI q))]) rfl ?_
  refine am_iload_n dJ5_ensureCapacityInternal_d00df_11 2 rfl ?_
  refine am_iload_n dJ5_ensureCapacityInternal_d00df_12 0 rfl ?_
  refine am_isub dJ5_ensureCapacityInternal_d00df_13 ?_
  refine am_if_le dJ5_ensureCapacityInternal_d00df_14 (by decide : ((14 : Nat) : Int) + (24) = ((38 : Nat) : Int)) (fun zq => absurd zq (sb_snle (a := q) (b := n) h1 (by omega))) (fun _ => ?_)
  refine am_aload_n dJ5_ensureCapacityInternal_d00df_17 1 rfl ?_
  refine am_aload_n dJ5_ensureCapacityInternal_d00df_18 1 rfl ?_
  refine am_get dJ5_ensureCapacityInternal_d00df_19 kGJ5_15 hb.1 rfl ?_
  refine am_aload_n dJ5_ensureCapacityInternal_d00df_22 1 rfl ?_
  refine am_iload_n dJ5_ensureCapacityInternal_d00df_23 2 rfl ?_
  refine am_callU (As := [.int (nI q)]) (rest := [.ref (gz G + v), .ref (gz G + 19)]) dJ5_ensureCapacityInternal_d00df_24 kUJ5_104 rfl hb.1 rfl rfl (Nat.le_of_ble_eq_true rfl) (d2 := 2) (by decide) (k2 := 0) (Nat.zero_le _) (u2 := 0) (Nat.zero_le _) (Nat.le_of_ble_eq_true rfl) (ctJ5_newCapacity hb h1 h2) (fun v1 h2 q3 => ?_)
  obtain ⟨rfl, rfl⟩ := q3
  refine am_aload_n dJ5_ensureCapacityInternal_d00df_27 1 rfl ?_
  refine am_get dJ5_ensureCapacityInternal_d00df_28 kGJ5_22 hb.1 rfl ?_
  refine am_ishl dJ5_ensureCapacityInternal_d00df_31 ?_
  rw [sh0l (nI (n + (n + 2)))]
  refine am_callS (As := [.ref (gz G + v), .int (nI (n + (n + 2)))]) (rest := [.ref (gz G + 19)]) dJ5_ensureCapacityInternal_d00df_32 kMJ5_108 rfl rfl (Nat.le_of_ble_eq_true rfl) (d2 := 1) (by decide) (k2 := 1) (by omega) (u2 := n + (n + 2)) (by omega) (Nat.le_of_ble_eq_true rfl) (ctJ7_copyOf hb.2.1 hb.2.2.2.2.1 (by omega) (by omega)) (fun v1 h3 q3 => ?_)
  obtain ⟨rfl, rfl⟩ := q3
  refine am_put dJ5_ensureCapacityInternal_d00df_35 kFJ5_15 (hs_push hb.1) (Nat.le_of_ble_eq_true rfl) rfl rfl ?_
  exact am_return dJ5_ensureCapacityInternal_d00df_38 rfl ⟨rfl, rfl⟩
