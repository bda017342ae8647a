/-! StringBuilder(String), toString, equals. -/
theorem kXJ0_1 : Cond.methodLink RJ0 1 objectInit ∈ lw_g := (lw_mg 1020 (by decide +kernel) (by decide +kernel))
theorem kUJ0_552 : okU RJ0 RJ4 552 mJ5_getValue_6d5f1 0 := ⟨kCJ5_getValue_6d5f1, (lw_mg 1021 (by decide +kernel) (by decide +kernel)), (lw_mg 1023 (by decide +kernel) (by decide +kernel)), (lw_mg 1022 (by decide +kernel) (by decide +kernel)), (lw_mg 1024 (by decide +kernel) (by decide +kernel))⟩
theorem kUJ0_1047 : okU RJ0 RJ4 1047 mJ5_isLatin1_aae02 0 := ⟨kCJ5_isLatin1_aae02, (lw_mg 1027 (by decide +kernel) (by decide +kernel)), (lw_mg 923 (by decide +kernel) (by decide +kernel)), (lw_mg 922 (by decide +kernel) (by decide +kernel)), (lw_mg 924 (by decide +kernel) (by decide +kernel))⟩
theorem kWJ0_549 : okW RJ0 RJ4 549 mJ5_length_8abf5 mJ4_length_8abf5 0 := ⟨kCJ4_length_8abf5, kCJ5_length_8abf5, (lw_mg 1026 (by decide +kernel) (by decide +kernel)), (lw_mg 1228 (by decide +kernel) (by decide +kernel)), (lw_mg 833 (by decide +kernel) (by decide +kernel)), (lw_mg 1238 (by decide +kernel) (by decide +kernel)), (lw_mg 829 (by decide +kernel) (by decide +kernel))⟩
theorem kWJ5_43 : okW RJ5 RJ4 43 mJ5_append_cf1ce mJ4_append_cf1ce 1 := ⟨kCJ4_append_cf1ce, kCJ5_append_cf1ce, (lw_mg 1065 (by decide +kernel) (by decide +kernel)), (lw_mg 1230 (by decide +kernel) (by decide +kernel)), (lw_mg 886 (by decide +kernel) (by decide +kernel)), (lw_mg 1239 (by decide +kernel) (by decide +kernel)), (lw_mg 1066 (by decide +kernel) (by decide +kernel))⟩
theorem dJ5_getValue_6d5f1_0 : decode cJ5_getValue_6d5f1 0 = .ok (.aload_n 0, 1) := by decide +kernel
theorem dJ5_getValue_6d5f1_1 : decode cJ5_getValue_6d5f1 1 = .ok (.getfield 15, 3) := by decide +kernel
theorem dJ5_getValue_6d5f1_4 : decode cJ5_getValue_6d5f1 4 = .ok (.areturn, 1) := by decide +kernel
set_option maxRecDepth 20000 in
theorem ctJ5_getValue {l : Launch} {G : GM} {h : List va_E} {v n C : Nat} {f : Nat → Int32} {ml : Int32} (hb : SBc G h v n C f ml) : Ct l G mJ5_getValue_6d5f1 0 0 0 [.ref (gz G + 19)] h (fun r h1 => r = some (.ref (gz G + v)) ∧ h1 = h) := by
  show Tr l G mJ5_getValue_6d5f1 0 0 0 0 [(0, .ref (gz G + 19))] [] h _
  refine am_aload_n dJ5_getValue_6d5f1_0 0 rfl ?_
  refine am_get dJ5_getValue_6d5f1_1 kGJ5_15 hb.1 rfl ?_
  exact am_areturn dJ5_getValue_6d5f1_4 rfl (Or.inr ⟨_, rfl⟩) ⟨rfl, rfl⟩
theorem dJ7_checkLength_df160_0 : decode cJ7_checkLength_df160 0 = .ok (.iload_n 1, 1) := by decide +kernel
theorem dJ7_checkLength_df160_1 : decode cJ7_checkLength_df160 1 = .ok (.iload_n 0, 1) := by decide +kernel
theorem dJ7_checkLength_df160_2 : decode cJ7_checkLength_df160 2 = .ok (.if_icmp .ge 35, 3) := by decide +kernel
theorem dJ7_checkLength_df160_37 : decode cJ7_checkLength_df160 37 = .ok (.return_, 1) := by decide +kernel
set_option maxRecDepth 20000 in
theorem ctJ7_checkLen {l : Launch} {G : GM} {h : List va_E} {a b : Nat} (h1 : a ≤ b) (h2 : b < 2 ^ 31) : Ct l G mJ7_checkLength_df160 0 0 0 [.int (nI a), .int (nI b)] h (fun r h1 => r = none ∧ h1 = h) := by
  show Tr l G mJ7_checkLength_df160 0 0 0 0 [(0, .int (nI a)), (1, .int (nI b))] [] h _
  refine am_iload_n dJ7_checkLength_df160_0 1 rfl ?_
  refine am_iload_n dJ7_checkLength_df160_1 0 rfl ?_
  refine am_icmp_ge dJ7_checkLength_df160_2 (by decide : ((2 : Nat) : Int) + (35) = ((37 : Nat) : Int)) (fun _ => ?_) (fun zq => absurd (nI_le h1 h2) zq)
  exact am_return dJ7_checkLength_df160_37 rfl ⟨rfl, rfl⟩
theorem sb_mn2 {a b : Nat} (h : a ≤ b) (hb : b < 2147483648) : imn (nI b) (nI a) = nI a := by
  unfold imn
  by_cases c : b < a
  · omega
  · by_cases c2 : b = a
    · rw [c2]; split <;> rfl
    · rw [if_pos (by rw [nI_ltI (by omega) (by omega)]; omega)]
theorem dJ7_copyOfRangeByte_39247_0 : decode cJ7_copyOfRangeByte_39247 0 = .ok (.iload_n 1, 1) := by decide +kernel
theorem dJ7_copyOfRangeByte_39247_1 : decode cJ7_copyOfRangeByte_39247 1 = .ok (.iload_n 2, 1) := by decide +kernel
theorem dJ7_copyOfRangeByte_39247_2 : decode cJ7_copyOfRangeByte_39247 2 = .ok (.invokestatic 343, 3) := by decide +kernel
theorem dJ7_copyOfRangeByte_39247_5 : decode cJ7_copyOfRangeByte_39247 5 = .ok (.iload_n 2, 1) := by decide +kernel
theorem dJ7_copyOfRangeByte_39247_6 : decode cJ7_copyOfRangeByte_39247 6 = .ok (.iload_n 1, 1) := by decide +kernel
theorem dJ7_copyOfRangeByte_39247_7 : decode cJ7_copyOfRangeByte_39247 7 = .ok (.isub, 1) := by decide +kernel
theorem dJ7_copyOfRangeByte_39247_8 : decode cJ7_copyOfRangeByte_39247 8 = .ok (.istore_n 3, 1) := by decide +kernel
theorem dJ7_copyOfRangeByte_39247_9 : decode cJ7_copyOfRangeByte_39247 9 = .ok (.iload_n 3, 1) := by decide +kernel
theorem dJ7_copyOfRangeByte_39247_10 : decode cJ7_copyOfRangeByte_39247 10 = .ok (.newarray .byte, 2) := by decide +kernel
theorem dJ7_copyOfRangeByte_39247_12 : decode cJ7_copyOfRangeByte_39247 12 = .ok (.astore 4, 2) := by decide +kernel
theorem dJ7_copyOfRangeByte_39247_14 : decode cJ7_copyOfRangeByte_39247 14 = .ok (.aload_n 0, 1) := by decide +kernel
theorem dJ7_copyOfRangeByte_39247_15 : decode cJ7_copyOfRangeByte_39247 15 = .ok (.iload_n 1, 1) := by decide +kernel
theorem dJ7_copyOfRangeByte_39247_16 : decode cJ7_copyOfRangeByte_39247 16 = .ok (.aload 4, 2) := by decide +kernel
theorem dJ7_copyOfRangeByte_39247_18 : decode cJ7_copyOfRangeByte_39247 18 = .ok (.iconst 0, 1) := by decide +kernel
theorem dJ7_copyOfRangeByte_39247_19 : decode cJ7_copyOfRangeByte_39247 19 = .ok (.aload_n 0, 1) := by decide +kernel
theorem dJ7_copyOfRangeByte_39247_20 : decode cJ7_copyOfRangeByte_39247 20 = .ok (.arraylength, 1) := by decide +kernel
theorem dJ7_copyOfRangeByte_39247_21 : decode cJ7_copyOfRangeByte_39247 21 = .ok (.iload_n 1, 1) := by decide +kernel
theorem dJ7_copyOfRangeByte_39247_22 : decode cJ7_copyOfRangeByte_39247 22 = .ok (.isub, 1) := by decide +kernel
theorem dJ7_copyOfRangeByte_39247_23 : decode cJ7_copyOfRangeByte_39247 23 = .ok (.iload_n 3, 1) := by decide +kernel
theorem dJ7_copyOfRangeByte_39247_24 : decode cJ7_copyOfRangeByte_39247 24 = .ok (.invokestatic 304, 3) := by decide +kernel
theorem dJ7_copyOfRangeByte_39247_27 : decode cJ7_copyOfRangeByte_39247 27 = .ok (.invokestatic 150, 3) := by decide +kernel
theorem dJ7_copyOfRangeByte_39247_30 : decode cJ7_copyOfRangeByte_39247 30 = .ok (.aload 4, 2) := by decide +kernel
theorem dJ7_copyOfRangeByte_39247_32 : decode cJ7_copyOfRangeByte_39247 32 = .ok (.areturn, 1) := by decide +kernel
set_option maxRecDepth 20000 in
theorem ctJ7_rangeB {l : Launch} {G : GM} {h : List va_E} {v n C : Nat} {f : Nat → Int32} (hv : h[v]? = some (.inl (1, n, .inl f))) (hf : hz_fit f) (h1 : C ≤ n) (h2 : n ≤ 100000) : Ct l G mJ7_copyOfRangeByte_39247 1 1 C [.ref (gz G + v), .int 0, .int (nI C)] h (fun r h1 => r = some (.ref (gz G + h.length)) ∧ h1 = h ++ [.inl (1, C, .inl (va_cpy f (fun _ => 0) 0 0 C))]) := by
  show Tr l G mJ7_copyOfRangeByte_39247 1 1 C 0 [(0, .ref (gz G + v)), (1, .int 0), (2, .int (nI C))] [] h _
  have hv2 : ¬ v = h.length := by have := (List.getElem?_eq_some_iff.mp hv).1; omega
  refine am_iload_n dJ7_copyOfRangeByte_39247_0 1 rfl ?_
  refine am_iload_n dJ7_copyOfRangeByte_39247_1 2 rfl ?_
  refine am_callS (As := [.int 0, .int (nI C)]) (rest := []) dJ7_copyOfRangeByte_39247_2 kMJ7_343 rfl rfl (Nat.le_of_ble_eq_true rfl) (d2 := 0) (by decide) (k2 := 0) (Nat.zero_le _) (u2 := 0) (Nat.zero_le _) (Nat.le_of_ble_eq_true rfl) (ctJ7_checkLen (a := 0) (Nat.zero_le _) (by omega)) (fun r1 h q3 => ?_)
  obtain ⟨rfl, rfl⟩ := q3
  refine am_iload_n dJ7_copyOfRangeByte_39247_5 2 rfl ?_
  refine am_iload_n dJ7_copyOfRangeByte_39247_6 1 rfl ?_
  refine am_isub dJ7_copyOfRangeByte_39247_7 ?_
  rw [show nI C - 0 = nI C from Int32.sub_zero _]
  refine am_istore_n dJ7_copyOfRangeByte_39247_8 (by decide) (lv' := [(3, .int (nI C)), (0, .ref (gz G + v)), (1, .int 0), (2, .int (nI C))]) rfl ?_
  refine am_iload_n dJ7_copyOfRangeByte_39247_9 0 rfl ?_
  refine am_newb (N := C) (k1 := 0) (u1 := 0) dJ7_copyOfRangeByte_39247_10 kAB (nI_pos (by omega)) (nI_clamp (by omega)) (by omega) (by omega) (by omega) ?_
  have w1 := hs_push hv (e := .inl (1, C, .inl (fun _ => 0)))
  have w2 : (h ++ [(.inl (1, C, .inl (fun _ => 0)) : va_E)])[h.length]? = some (.inl (1, C, .inl (fun _ => 0))) := hs_newc rfl
  refine am_astore dJ7_copyOfRangeByte_39247_12 (by decide) (lv' := [(4, .ref (gz G + h.length)), (3, .int (nI C)), (0, .ref (gz G + v)), (1, .int 0), (2, .int (nI C))]) rfl ?_
  refine am_aload_n dJ7_copyOfRangeByte_39247_14 2 rfl ?_
  refine am_iload_n dJ7_copyOfRangeByte_39247_15 3 rfl ?_
  refine am_aload dJ7_copyOfRangeByte_39247_16 0 rfl ?_
  refine am_iconst (v := 0) dJ7_copyOfRangeByte_39247_18 (by decide) ?_
  refine am_aload_n dJ7_copyOfRangeByte_39247_19 2 rfl ?_
  refine am_alen (v := (nI n)) dJ7_copyOfRangeByte_39247_20 w1 rfl rfl ?_
  refine am_iload_n dJ7_copyOfRangeByte_39247_21 3 rfl ?_
  refine am_isub dJ7_copyOfRangeByte_39247_22 ?_
  rw [show nI n - 0 = nI n from Int32.sub_zero _]
  refine am_iload_n dJ7_copyOfRangeByte_39247_23 1 rfl ?_
  refine am_mmin dJ7_copyOfRangeByte_39247_24 (lw_mg 919 (by decide +kernel) (by decide +kernel)) (Nat.le_of_ble_eq_true rfl) (by decide) ?_
  rw [sb_mn2 (show C ≤ n by omega) (by omega)]
  refine am_copyb (f := f) (g := fun _ => 0) dJ7_copyOfRangeByte_39247_27 (lw_mg 920 (by decide +kernel) (by decide +kernel)) w1 w2 (by decide) (by decide) (nI_pos (by omega)) (by rw [nI_clamp (by omega)]; show 0 + C ≤ n; omega) (by rw [nI_clamp (by omega)]; show 0 + C ≤ C; omega) hf (Nat.le_of_ble_eq_true rfl) (by decide) ?_
  rw [nI_clamp (show C < 2147483648 by omega), sb_setL]
  refine am_aload dJ7_copyOfRangeByte_39247_30 0 rfl ?_
  exact am_areturn dJ7_copyOfRangeByte_39247_32 rfl (Or.inr ⟨_, rfl⟩) ⟨rfl, rfl⟩
theorem dJ7_copyOfRange_39247_0 : decode cJ7_copyOfRange_39247 0 = .ok (.iload_n 1, 1) := by decide +kernel
theorem dJ7_copyOfRange_39247_1 : decode cJ7_copyOfRange_39247 1 = .ok (.ifCond .ne 9, 3) := by decide +kernel
theorem dJ7_copyOfRange_39247_4 : decode cJ7_copyOfRange_39247 4 = .ok (.iload_n 2, 1) := by decide +kernel
theorem dJ7_copyOfRange_39247_5 : decode cJ7_copyOfRange_39247 5 = .ok (.aload_n 0, 1) := by decide +kernel
theorem dJ7_copyOfRange_39247_6 : decode cJ7_copyOfRange_39247 6 = .ok (.arraylength, 1) := by decide +kernel
theorem dJ7_copyOfRange_39247_7 : decode cJ7_copyOfRange_39247 7 = .ok (.if_icmp .eq 10, 3) := by decide +kernel
theorem dJ7_copyOfRange_39247_10 : decode cJ7_copyOfRange_39247 10 = .ok (.aload_n 0, 1) := by decide +kernel
theorem dJ7_copyOfRange_39247_11 : decode cJ7_copyOfRange_39247 11 = .ok (.iload_n 1, 1) := by decide +kernel
theorem dJ7_copyOfRange_39247_12 : decode cJ7_copyOfRange_39247 12 = .ok (.iload_n 2, 1) := by decide +kernel
theorem dJ7_copyOfRange_39247_13 : decode cJ7_copyOfRange_39247 13 = .ok (.invokestatic 339, 3) := by decide +kernel
theorem dJ7_copyOfRange_39247_16 : decode cJ7_copyOfRange_39247 16 = .ok (.areturn, 1) := by decide +kernel
theorem dJ7_copyOfRange_39247_17 : decode cJ7_copyOfRange_39247 17 = .ok (.aload_n 0, 1) := by decide +kernel
theorem dJ7_copyOfRange_39247_18 : decode cJ7_copyOfRange_39247 18 = .ok (.invokevirtual 310, 3) := by decide +kernel
theorem dJ7_copyOfRange_39247_21 : decode cJ7_copyOfRange_39247 21 = .ok (.checkcast 311, 3) := by decide +kernel
theorem dJ7_copyOfRange_39247_24 : decode cJ7_copyOfRange_39247 24 = .ok (.areturn, 1) := by decide +kernel
set_option maxRecDepth 20000 in
theorem ctJ7_range {l : Launch} {G : GM} {h : List va_E} {v n C : Nat} {f : Nat → Int32} (hv : h[v]? = some (.inl (1, n, .inl f))) (hf : hz_fit f) (h1 : C ≤ n) (h2 : n ≤ 100000) : Ct l G mJ7_copyOfRange_39247 2 1 C [.ref (gz G + v), .int 0, .int (nI C)] h (fun r h1 => r = some (.ref (gz G + h.length)) ∧ ∃ g, h1 = h ++ [.inl (1, C, .inl g)] ∧ hz_fit g ∧ ∀ j, j < C → g j = f j) := by
  show Tr l G mJ7_copyOfRange_39247 2 1 C 0 [(0, .ref (gz G + v)), (1, .int 0), (2, .int (nI C))] [] h _
  refine am_iload_n dJ7_copyOfRange_39247_0 1 rfl ?_
  refine am_if_ne dJ7_copyOfRange_39247_1 (by decide : ((1 : Nat) : Int) + (9) = ((10 : Nat) : Int)) (fun zq => absurd zq (fun z => z rfl)) (fun _ => ?_)
  refine am_iload_n dJ7_copyOfRange_39247_4 2 rfl ?_
  refine am_aload_n dJ7_copyOfRange_39247_5 0 rfl ?_
  refine am_alen (v := (nI n)) dJ7_copyOfRange_39247_6 hv rfl rfl ?_
  by_cases hCn : C = n
  · subst hCn
    refine am_icmp_eq dJ7_copyOfRange_39247_7 (by decide : ((7 : Nat) : Int) + (10) = ((17 : Nat) : Int)) (fun _ => ?_) (fun zq => absurd rfl zq)
    refine am_aload_n dJ7_copyOfRange_39247_17 0 rfl ?_
    refine am_cloneb dJ7_copyOfRange_39247_18 (lw_mg 912 (by decide +kernel) (by decide +kernel)) (lw_mg 913 (by decide +kernel) (by decide +kernel)) (lw_mg 914 (by decide +kernel) (by decide +kernel)) (lw_mg 915 (by decide +kernel) (by decide +kernel)) (lw_mg 916 (by decide +kernel) (by decide +kernel)) hv hf (Nat.le_of_ble_eq_true rfl) (by decide) (k1 := 0) (by omega) (u1 := 0) (by omega) ?_
    have w2 : (h ++ [(.inl (1, C, .inl f) : va_E)])[h.length]? = some (.inl (1, C, .inl f)) := hs_newc rfl
    refine am_castB dJ7_copyOfRange_39247_21 kLJ7_311 w2 ?_
    exact am_areturn dJ7_copyOfRange_39247_24 rfl (Or.inr ⟨_, rfl⟩) ⟨rfl, f, rfl, hf, fun _ _ => rfl⟩
  · refine am_icmp_eq dJ7_copyOfRange_39247_7 (by decide : ((7 : Nat) : Int) + (10) = ((17 : Nat) : Int)) (fun zq => absurd zq (fun z => hCn (hz_nIi (by omega) (by omega) z))) (fun _ => ?_)
    refine am_aload_n dJ7_copyOfRange_39247_10 0 rfl ?_
    refine am_iload_n dJ7_copyOfRange_39247_11 1 rfl ?_
    refine am_iload_n dJ7_copyOfRange_39247_12 2 rfl ?_
    refine am_callS (As := [.ref (gz G + v), .int 0, .int (nI C)]) (rest := []) dJ7_copyOfRange_39247_13 kMJ7_339 rfl rfl (Nat.le_of_ble_eq_true rfl) (d2 := 1) (by decide) (k2 := 1) (Nat.le_refl _) (u2 := C) (Nat.le_refl _) (Nat.le_of_ble_eq_true rfl) (ctJ7_rangeB hv hf h1 h2) (fun r1 h3 q3 => ?_)
    obtain ⟨rfl, rfl⟩ := q3
    exact am_areturn dJ7_copyOfRange_39247_16 rfl (Or.inr ⟨_, rfl⟩) ⟨rfl, _, rfl, bb_fitC hf bb_fit0 _ _ _, fun j hj => by rw [pk_cpy_in (by omega) (by omega)]; congr 1; omega⟩
theorem hs_same {h : List va_E} {a : Nat} {c : va_E} (e : h[a]? = some c) : h.set a c = h := by
  apply List.ext_getElem?
  intro i
  by_cases c1 : a = i
  · subst c1
    rw [hs_self e, e]
  · rw [List.getElem?_set_ne c1]
theorem dJ0_init_db425_0 : decode cJ0_init_db425 0 = .ok (.aload_n 0, 1) := by decide +kernel
theorem dJ0_init_db425_1 : decode cJ0_init_db425 1 = .ok (.invokespecial 1, 3) := by decide +kernel
theorem dJ0_init_db425_4 : decode cJ0_init_db425 4 = .ok (.aload_n 1, 1) := by decide +kernel
theorem dJ0_init_db425_5 : decode cJ0_init_db425 5 = .ok (.invokevirtual 552, 3) := by decide +kernel
theorem dJ0_init_db425_8 : decode cJ0_init_db425 8 = .ok (.astore_n 3, 1) := by decide +kernel
theorem dJ0_init_db425_9 : decode cJ0_init_db425 9 = .ok (.aload_n 1, 1) := by decide +kernel
theorem dJ0_init_db425_10 : decode cJ0_init_db425 10 = .ok (.invokevirtual 549, 3) := by decide +kernel
theorem dJ0_init_db425_13 : decode cJ0_init_db425 13 = .ok (.istore 4, 2) := by decide +kernel
theorem dJ0_init_db425_15 : decode cJ0_init_db425 15 = .ok (.aload_n 1, 1) := by decide +kernel
theorem dJ0_init_db425_16 : decode cJ0_init_db425 16 = .ok (.invokevirtual 1047, 3) := by decide +kernel
theorem dJ0_init_db425_19 : decode cJ0_init_db425 19 = .ok (.ifCond .eq 22, 3) := by decide +kernel
theorem dJ0_init_db425_22 : decode cJ0_init_db425 22 = .ok (.aload_n 0, 1) := by decide +kernel
theorem dJ0_init_db425_23 : decode cJ0_init_db425 23 = .ok (.iconst 0, 1) := by decide +kernel
theorem dJ0_init_db425_24 : decode cJ0_init_db425 24 = .ok (.putfield 15, 3) := by decide +kernel
theorem dJ0_init_db425_27 : decode cJ0_init_db425 27 = .ok (.aload_n 0, 1) := by decide +kernel
theorem dJ0_init_db425_28 : decode cJ0_init_db425 28 = .ok (.aload_n 3, 1) := by decide +kernel
theorem dJ0_init_db425_29 : decode cJ0_init_db425 29 = .ok (.iconst 0, 1) := by decide +kernel
theorem dJ0_init_db425_30 : decode cJ0_init_db425 30 = .ok (.iload 4, 2) := by decide +kernel
theorem dJ0_init_db425_32 : decode cJ0_init_db425 32 = .ok (.invokestatic 54, 3) := by decide +kernel
theorem dJ0_init_db425_35 : decode cJ0_init_db425 35 = .ok (.putfield 9, 3) := by decide +kernel
theorem dJ0_init_db425_38 : decode cJ0_init_db425 38 = .ok (.goto 59, 3) := by decide +kernel
theorem dJ0_init_db425_97 : decode cJ0_init_db425 97 = .ok (.return_, 1) := by decide +kernel
set_option maxRecDepth 20000 in
theorem ctJ0_initA {l : Launch} {G : GM} {h : List va_E} {v n C : Nat} {f : Nat → Int32} {ml : Int32} (hb : SBc G h v n C f ml) {si : Nat} (hs : h[si]? = some (.inr (8, [.null, .int 0, .int 0, .int 0]))) : Ct l G mJ0_init_db425 3 1 C [.ref (gz G + si), .ref (gz G + 19), .null] h (fun r h1 => r = none ∧ ∃ g, h1 = (h ++ [(.inl (1, C, .inl g) : va_E)]).set si (.inr (8, [.ref (gz G + h.length), .int 0, .int 0, .int 0])) ∧ hz_fit g ∧ ∀ j, j < C → g j = f j) := by
  show Tr l G mJ0_init_db425 3 1 C 0 [(0, .ref (gz G + si)), (1, .ref (gz G + 19)), (2, .null)] [] h _
  have hCn := hb.2.2.2.2.2.1
  have hn4 := hb.2.2.2.2.2.2.2
  refine am_aload_n dJ0_init_db425_0 0 rfl ?_
  refine am_objInit dJ0_init_db425_1 kXJ0_1 kOi.1 kOi.2 (Nat.le_of_ble_eq_true rfl) (by decide) ?_
  refine am_aload_n dJ0_init_db425_4 1 rfl ?_
  refine am_callU (As := []) (rest := []) dJ0_init_db425_5 kUJ0_552 rfl hb.1 rfl rfl (Nat.le_of_ble_eq_true rfl) (d2 := 0) (by decide) (k2 := 0) (by omega) (u2 := 0) (by omega) (Nat.le_of_ble_eq_true rfl) (ctJ5_getValue hb) (fun r1 h1 q3 => ?_)
  obtain ⟨rfl, rfl⟩ := q3
  refine am_astore_n dJ0_init_db425_8 (by decide) (lv' := [(3, .ref (gz G + v)), (0, .ref (gz G + si)), (1, .ref (gz G + 19)), (2, .null)]) rfl ?_
  refine am_aload_n dJ0_init_db425_9 2 rfl ?_
  refine am_callW (As := []) (rest := []) dJ0_init_db425_10 kWJ0_549 rfl hb.1 rfl rfl (Nat.le_of_ble_eq_true rfl) (d2 := 1) (by decide) (k2 := 0) (by omega) (u2 := 0) (by omega) (Nat.le_of_ble_eq_true rfl) (ctJ4_length hb) (fun r1 h1 q3 => ?_)
  obtain ⟨rfl, rfl⟩ := q3
  refine am_istore dJ0_init_db425_13 (by decide) (lv' := [(4, .int (nI C)), (3, .ref (gz G + v)), (0, .ref (gz G + si)), (1, .ref (gz G + 19)), (2, .null)]) rfl ?_
  refine am_aload_n dJ0_init_db425_15 3 rfl ?_
  refine am_callU (As := []) (rest := []) dJ0_init_db425_16 kUJ0_1047 rfl hb.1 rfl rfl (Nat.le_of_ble_eq_true rfl) (d2 := 0) (by decide) (k2 := 0) (by omega) (u2 := 0) (by omega) (Nat.le_of_ble_eq_true rfl) (ctJ5_isLatin1 hb) (fun r1 h1 q3 => ?_)
  obtain ⟨rfl, rfl⟩ := q3
  refine am_if_eq dJ0_init_db425_19 (by decide : ((19 : Nat) : Int) + (22) = ((41 : Nat) : Int)) (fun zq => absurd zq (by decide)) (fun _ => ?_)
  refine am_aload_n dJ0_init_db425_22 2 rfl ?_
  refine am_iconst (v := 0) dJ0_init_db425_23 (by decide) ?_
  refine am_putF dJ0_init_db425_24 kFJ0_15 rfl hs (Nat.le_of_ble_eq_true rfl) rfl rfl ?_
  simp only [List.set_cons_zero, List.set_cons_succ]
  rw [hs_same hs]
  refine am_aload_n dJ0_init_db425_27 2 rfl ?_
  refine am_aload_n dJ0_init_db425_28 1 rfl ?_
  refine am_iconst (v := 0) dJ0_init_db425_29 (by decide) ?_
  refine am_iload dJ0_init_db425_30 0 rfl ?_
  refine am_callS (As := [.ref (gz G + v), .int 0, .int (nI C)]) (rest := [.ref (gz G + si)]) dJ0_init_db425_32 kMJ0_54 rfl rfl (Nat.le_of_ble_eq_true rfl) (d2 := 2) (by decide) (k2 := 1) (Nat.le_refl _) (u2 := C) (Nat.le_refl _) (Nat.le_of_ble_eq_true rfl) (ctJ7_range hb.2.1 hb.2.2.2.2.1 hCn (by omega)) (fun r1 h3 q3 => ?_)
  obtain ⟨rfl, g, rfl, g1, g2⟩ := q3
  refine am_putF dJ0_init_db425_35 kFJ0_9 rfl (hs_push hs) (Nat.le_of_ble_eq_true rfl) rfl rfl ?_
  refine am_goto dJ0_init_db425_38 (by decide : ((38 : Nat) : Int) + (59) = ((97 : Nat) : Int)) ?_
  exact am_return dJ0_init_db425_97 rfl ⟨rfl, g, rfl, g1, g2⟩
theorem dJ0_init_81219_0 : decode cJ0_init_81219 0 = .ok (.aload_n 0, 1) := by decide +kernel
theorem dJ0_init_81219_1 : decode cJ0_init_81219 1 = .ok (.aload_n 1, 1) := by decide +kernel
theorem dJ0_init_81219_2 : decode cJ0_init_81219 2 = .ok (.aconst_null, 1) := by decide +kernel
theorem dJ0_init_81219_3 : decode cJ0_init_81219 3 = .ok (.invokespecial 489, 3) := by decide +kernel
theorem dJ0_init_81219_6 : decode cJ0_init_81219 6 = .ok (.return_, 1) := by decide +kernel
set_option maxRecDepth 20000 in
theorem ctJ0_initB {l : Launch} {G : GM} {h : List va_E} {v n C : Nat} {f : Nat → Int32} {ml : Int32} (hb : SBc G h v n C f ml) {si : Nat} (hs : h[si]? = some (.inr (8, [.null, .int 0, .int 0, .int 0]))) : Ct l G mJ0_init_81219 4 1 C [.ref (gz G + si), .ref (gz G + 19)] h (fun r h1 => r = none ∧ ∃ g, h1 = (h ++ [(.inl (1, C, .inl g) : va_E)]).set si (.inr (8, [.ref (gz G + h.length), .int 0, .int 0, .int 0])) ∧ hz_fit g ∧ ∀ j, j < C → g j = f j) := by
  show Tr l G mJ0_init_81219 4 1 C 0 [(0, .ref (gz G + si)), (1, .ref (gz G + 19))] [] h _
  refine am_aload_n dJ0_init_81219_0 0 rfl ?_
  refine am_aload_n dJ0_init_81219_1 1 rfl ?_
  refine am_null dJ0_init_81219_2 ?_
  refine am_callI (As := [.ref (gz G + 19), .null]) (rest := []) dJ0_init_81219_3 kMJ0_489 rfl rfl (Nat.le_of_ble_eq_true rfl) (d2 := 3) (by decide) (k2 := 1) (Nat.le_refl _) (u2 := C) (Nat.le_refl _) (Nat.le_of_ble_eq_true rfl) (ctJ0_initA hb hs) (fun r1 h3 q3 => ?_)
  obtain ⟨rfl, q4⟩ := q3
  exact am_return dJ0_init_81219_6 rfl ⟨rfl, q4⟩
theorem sb_push {G : GM} {h : List va_E} {v n C : Nat} {f : Nat → Int32} {ml : Int32} (hb : SBc G h v n C f ml) {e : va_E} : SBc G (h ++ [e]) v n C f ml := by
  obtain ⟨b1, b2, b3, ⟨b4, b5⟩, b6⟩ := hb
  exact ⟨hs_push b1, hs_push b2, b3, ⟨by rw [List.length_append]; omega, b5⟩, b6⟩
theorem dJ4_toString_0e30d_0 : decode cJ4_toString_0e30d 0 = .ok (.new 18, 3) := by decide +kernel
theorem dJ4_toString_0e30d_3 : decode cJ4_toString_0e30d 3 = .ok (.dup, 1) := by decide +kernel
theorem dJ4_toString_0e30d_4 : decode cJ4_toString_0e30d 4 = .ok (.aload_n 0, 1) := by decide +kernel
theorem dJ4_toString_0e30d_5 : decode cJ4_toString_0e30d 5 = .ok (.invokespecial 137, 3) := by decide +kernel
theorem dJ4_toString_0e30d_8 : decode cJ4_toString_0e30d 8 = .ok (.areturn, 1) := by decide +kernel
set_option maxRecDepth 20000 in
theorem ctJ4_toString {l : Launch} {G : GM} {h : List va_E} {v n C : Nat} {f : Nat → Int32} {ml : Int32} (hb : SBc G h v n C f ml) : Ct l G mJ4_toString_0e30d 5 2 (4 + C) [.ref (gz G + 19)] h (fun r h1 => r = some (.ref (gz G + h.length)) ∧ ∃ g, h1 = ((h ++ [(.inr (8, [.null, .int 0, .int 0, .int 0]) : va_E)]) ++ [(.inl (1, C, .inl g) : va_E)]).set h.length (.inr (8, [.ref (gz G + (h ++ [(.inr (8, [.null, .int 0, .int 0, .int 0]) : va_E)]).length), .int 0, .int 0, .int 0])) ∧ DSt G h1 h.length (h ++ [(.inr (8, [.null, .int 0, .int 0, .int 0]) : va_E)]).length g C ∧ ∀ j, j < C → g j = f j) := by
  show Tr l G mJ4_toString_0e30d 5 2 (4 + C) 0 [(0, .ref (gz G + 19))] [] h _
  have hCn : C ≤ 4096 := by have := hb.2.2.2.2.2.1; have := hb.2.2.2.2.2.2.2; omega
  refine am_newL rfl (k1 := 1) (u1 := C) dJ4_toString_0e30d_0 kNJ4_18 (by decide) (by omega) ?_
  have hs : (h ++ [(.inr (8, [.null, .int 0, .int 0, .int 0]) : va_E)])[h.length]? = some (.inr (8, [.null, .int 0, .int 0, .int 0])) := hs_newc rfl
  have hl := (List.getElem?_eq_some_iff.mp hb.1).1
  have hb1 := sb_push hb (e := .inr (8, [.null, .int 0, .int 0, .int 0]))
  refine am_dup dJ4_toString_0e30d_3 rfl ?_
  refine am_aload_n dJ4_toString_0e30d_4 0 rfl ?_
  refine am_callI (As := [.ref (gz G + 19)]) (rest := [.ref (gz G + h.length)]) dJ4_toString_0e30d_5 kMJ4_137 rfl rfl (Nat.le_of_ble_eq_true rfl) (d2 := 4) (by decide) (k2 := 1) (Nat.le_refl _) (u2 := C) (Nat.le_refl _) (Nat.le_of_ble_eq_true rfl) (ctJ0_initB hb1 hs) (fun r1 h3 q3 => ?_)
  obtain ⟨rfl, g, rfl, g1, g2⟩ := q3
  exact am_areturn dJ4_toString_0e30d_8 rfl (Or.inl ⟨_, rfl⟩) (by
    refine ⟨rfl, g, rfl, ⟨hs_self (hs_push hs), ?_, hCn, g1⟩, g2⟩
    exact hs_ne (hs_newc (by first | rfl | (rw [List.length_append]; rfl))) (by rw [List.length_append]; exact Nat.ne_of_lt (Nat.lt_succ_self _)))
theorem dJ4_append_cf1ce_0 : decode cJ4_append_cf1ce 0 = .ok (.aload_n 0, 1) := by decide +kernel
theorem dJ4_append_cf1ce_1 : decode cJ4_append_cf1ce 1 = .ok (.aload_n 1, 1) := by decide +kernel
theorem dJ4_append_cf1ce_2 : decode cJ4_append_cf1ce 2 = .ok (.invokevirtual 23, 3) := by decide +kernel
theorem dJ4_append_cf1ce_5 : decode cJ4_append_cf1ce 5 = .ok (.areturn, 1) := by decide +kernel
set_option maxRecDepth 20000 in
theorem ctJ4_bridgeD {l : Launch} {G : GM} {h : List va_E} {v n C : Nat} {f : Nat → Int32} {ml : Int32} (hb : SBc G h v n C f ml) {si sr sN : Nat} {sf : Nat → Int32} (hj : DSt G h si sr sf sN) (hne : ¬ sr = v) (hC : C + sN ≤ 2000) : Ct l G mJ4_append_cf1ce 6 (sbK (C + sN) n) (sbU2 (C + sN) n) [.ref (gz G + 19), .ref (gz G + si)] h (fun r h1 => r = some (.ref (gz G + 19)) ∧ ∃ v1 n1 f1, SBc G h1 v1 n1 (C + sN) f1 ml ∧ SBf h h1 v v1 ∧ n1 = sbN2 (C + sN) n ∧ (∀ j, j < C → f1 j = f j) ∧ ∀ i, i < sN → f1 (C + i) = sf i) := by
  show Tr l G mJ4_append_cf1ce 6 (sbK (C + sN) n) (sbU2 (C + sN) n) 0 [(0, .ref (gz G + 19)), (1, .ref (gz G + si))] [] h _
  refine am_aload_n dJ4_append_cf1ce_0 0 rfl ?_
  refine am_aload_n dJ4_append_cf1ce_1 1 rfl ?_
  refine am_callV (As := [.ref (gz G + si)]) (rest := []) dJ4_append_cf1ce_2 kMJ4_23 rfl hb.1 rfl rfl (Nat.le_of_ble_eq_true rfl) (d2 := 5) (by decide) (k2 := (sbK (C + sN) n)) (Nat.le_refl _) (u2 := (sbU2 (C + sN) n)) (Nat.le_refl _) (Nat.le_of_ble_eq_true rfl) (ctJ4_appendSD hb hj hne hC) (fun r1 h1 q3 => ?_)
  obtain ⟨rfl, q4⟩ := q3
  exact am_areturn dJ4_append_cf1ce_5 rfl (Or.inl ⟨_, rfl⟩) ⟨rfl, q4⟩
theorem ts_cap {a : Nat} (h : a ≤ 100000) : ¬ (2147483631 : Int32) ≤ nI a := by
  rw [hz_le, nI_toInt (by omega)]
  show ¬ (2147483631 : Int) ≤ (a : Int)
  omega
theorem dJ5_init_a7421_0 : decode cJ5_init_a7421 0 = .ok (.aload_n 0, 1) := by decide +kernel
theorem dJ5_init_a7421_1 : decode cJ5_init_a7421 1 = .ok (.invokespecial 3, 3) := by decide +kernel
theorem dJ5_init_a7421_4 : decode cJ5_init_a7421 4 = .ok (.aload_n 1, 1) := by decide +kernel
theorem dJ5_init_a7421_5 : decode cJ5_init_a7421 5 = .ok (.invokevirtual 32, 3) := by decide +kernel
theorem dJ5_init_a7421_8 : decode cJ5_init_a7421 8 = .ok (.istore_n 2, 1) := by decide +kernel
theorem dJ5_init_a7421_9 : decode cJ5_init_a7421 9 = .ok (.iload_n 2, 1) := by decide +kernel
theorem dJ5_init_a7421_10 : decode cJ5_init_a7421 10 = .ok (.ldc 38, 2) := by decide +kernel
theorem dJ5_init_a7421_12 : decode cJ5_init_a7421 12 = .ok (.if_icmp .ge 10, 3) := by decide +kernel
theorem dJ5_init_a7421_15 : decode cJ5_init_a7421 15 = .ok (.iload_n 2, 1) := by decide +kernel
theorem dJ5_init_a7421_16 : decode cJ5_init_a7421 16 = .ok (.bipush 16, 2) := by decide +kernel
theorem dJ5_init_a7421_18 : decode cJ5_init_a7421 18 = .ok (.iadd, 1) := by decide +kernel
theorem dJ5_init_a7421_19 : decode cJ5_init_a7421 19 = .ok (.goto 5, 3) := by decide +kernel
theorem dJ5_init_a7421_24 : decode cJ5_init_a7421 24 = .ok (.istore_n 3, 1) := by decide +kernel
theorem dJ5_init_a7421_25 : decode cJ5_init_a7421 25 = .ok (.aload_n 1, 1) := by decide +kernel
theorem dJ5_init_a7421_26 : decode cJ5_init_a7421 26 = .ok (.invokevirtual 40, 3) := by decide +kernel
theorem dJ5_init_a7421_29 : decode cJ5_init_a7421 29 = .ok (.istore 4, 2) := by decide +kernel
theorem dJ5_init_a7421_31 : decode cJ5_init_a7421 31 = .ok (.aload_n 0, 1) := by decide +kernel
theorem dJ5_init_a7421_32 : decode cJ5_init_a7421 32 = .ok (.iload 4, 2) := by decide +kernel
theorem dJ5_init_a7421_34 : decode cJ5_init_a7421 34 = .ok (.putfield 22, 3) := by decide +kernel
theorem dJ5_init_a7421_37 : decode cJ5_init_a7421 37 = .ok (.aload_n 0, 1) := by decide +kernel
theorem dJ5_init_a7421_38 : decode cJ5_init_a7421 38 = .ok (.iload 4, 2) := by decide +kernel
theorem dJ5_init_a7421_40 : decode cJ5_init_a7421 40 = .ok (.ifCond .ne 9, 3) := by decide +kernel
theorem dJ5_init_a7421_43 : decode cJ5_init_a7421 43 = .ok (.iload_n 3, 1) := by decide +kernel
theorem dJ5_init_a7421_44 : decode cJ5_init_a7421 44 = .ok (.newarray .byte, 2) := by decide +kernel
theorem dJ5_init_a7421_46 : decode cJ5_init_a7421 46 = .ok (.goto 7, 3) := by decide +kernel
theorem dJ5_init_a7421_53 : decode cJ5_init_a7421 53 = .ok (.putfield 15, 3) := by decide +kernel
theorem dJ5_init_a7421_56 : decode cJ5_init_a7421 56 = .ok (.aload_n 0, 1) := by decide +kernel
theorem dJ5_init_a7421_57 : decode cJ5_init_a7421 57 = .ok (.aload_n 1, 1) := by decide +kernel
theorem dJ5_init_a7421_58 : decode cJ5_init_a7421 58 = .ok (.invokevirtual 43, 3) := by decide +kernel
theorem dJ5_init_a7421_61 : decode cJ5_init_a7421 61 = .ok (.pop, 1) := by decide +kernel
theorem dJ5_init_a7421_62 : decode cJ5_init_a7421 62 = .ok (.return_, 1) := by decide +kernel
set_option maxRecDepth 20000 in
theorem ctJ5_initS {l : Launch} {G : GM} {h : List va_E} (hc : h[19]? = some (.inr (0, [.null, .int 0, .int 0, .int 0]))) {si sr sN : Nat} {sf : Nat → Int32} (hj : DSt G h si sr sf sN) (hsN : sN ≤ 1000) : Ct l G mJ5_init_a7421 7 1 (sN + 16) [.ref (gz G + 19), .ref (gz G + si)] h (fun r h1 => r = none ∧ ∃ v1 n1 f1, SBc G h1 v1 n1 sN f1 0 ∧ h.length + 1 ≤ h1.length ∧ h.length ≤ v1 ∧ (∀ a, a < h.length → ¬ a = 19 → h1[a]? = h[a]?) ∧ ∀ i, i < sN → f1 i = sf i) := by
  show Tr l G mJ5_init_a7421 7 1 (sN + 16) 0 [(0, .ref (gz G + 19)), (1, .ref (gz G + si))] [] h _
  have h19 : 19 < h.length := (List.getElem?_eq_some_iff.mp hc).1
  have hsr := (List.getElem?_eq_some_iff.mp hj.2.1).1
  refine am_aload_n dJ5_init_a7421_0 0 rfl ?_
  refine am_objInit dJ5_init_a7421_1 kXJ5_3 kOi.1 kOi.2 (Nat.le_of_ble_eq_true rfl) (by decide) ?_
  refine am_aload_n dJ5_init_a7421_4 1 rfl ?_
  refine am_callV (As := []) (rest := []) dJ5_init_a7421_5 kMJ5_32 rfl hj.1 rfl rfl (Nat.le_of_ble_eq_true rfl) (d2 := 1) (by decide) (k2 := 0) (by omega) (u2 := 0) (by omega) (Nat.le_of_ble_eq_true rfl) (ctJ0_lengthD hj) (fun r1 h q3 => ?_)
  obtain ⟨rfl, rfl⟩ := q3
  refine am_istore_n dJ5_init_a7421_8 (by decide) (lv' := [(2, .int (nI sN)), (0, .ref (gz G + 19)), (1, .ref (gz G + si))]) rfl ?_
  refine am_iload_n dJ5_init_a7421_9 0 rfl ?_
  refine am_ldc (v := 2147483631) dJ5_init_a7421_10 kKJ5_38 ?_
  refine am_icmp_ge dJ5_init_a7421_12 (by decide : ((12 : Nat) : Int) + (10) = ((22 : Nat) : Int)) (fun zq => absurd zq (ts_cap (by omega))) (fun _ => ?_)
  refine am_iload_n dJ5_init_a7421_15 0 rfl ?_
  refine am_bipush (v := 16) dJ5_init_a7421_16 (by decide) ?_
  refine am_iadd dJ5_init_a7421_18 ?_
  rw [show nI sN + 16 = nI (sN + 16) from nI_add sN 16]
  refine am_goto dJ5_init_a7421_19 (by decide : ((19 : Nat) : Int) + (5) = ((24 : Nat) : Int)) ?_
  refine am_istore_n dJ5_init_a7421_24 (by decide) (lv' := [(3, .int (nI (sN + 16))), (2, .int (nI sN)), (0, .ref (gz G + 19)), (1, .ref (gz G + si))]) rfl ?_
  refine am_aload_n dJ5_init_a7421_25 3 rfl ?_
  refine am_callV (As := []) (rest := []) dJ5_init_a7421_26 kMJ5_40 rfl hj.1 rfl rfl (Nat.le_of_ble_eq_true rfl) (d2 := 0) (by decide) (k2 := 0) (by omega) (u2 := 0) (by omega) (Nat.le_of_ble_eq_true rfl) (ctJ0_coderD hj) (fun r1 h q3 => ?_)
  obtain ⟨rfl, rfl⟩ := q3
  refine am_istore dJ5_init_a7421_29 (by decide) (lv' := [(4, .int 0), (3, .int (nI (sN + 16))), (2, .int (nI sN)), (0, .ref (gz G + 19)), (1, .ref (gz G + si))]) rfl ?_
  refine am_aload_n dJ5_init_a7421_31 3 rfl ?_
  refine am_iload dJ5_init_a7421_32 0 rfl ?_
  refine am_put dJ5_init_a7421_34 kFJ5_22 hc (Nat.le_of_ble_eq_true rfl) rfl rfl ?_
  simp only [List.set_cons_zero, List.set_cons_succ]
  rw [hs_same hc]
  refine am_aload_n dJ5_init_a7421_37 3 rfl ?_
  refine am_iload dJ5_init_a7421_38 0 rfl ?_
  refine am_if_ne dJ5_init_a7421_40 (by decide : ((40 : Nat) : Int) + (9) = ((49 : Nat) : Int)) (fun zq => absurd zq (fun z => z rfl)) (fun _ => ?_)
  refine am_iload_n dJ5_init_a7421_43 1 rfl ?_
  refine am_newb (N := sN + 16) (k1 := 0) (u1 := 0) dJ5_init_a7421_44 kAB (nI_pos (by have := hj.2.2.1; omega)) (nI_clamp (by have := hj.2.2.1; omega)) (by have := hj.2.2.1; omega) (by omega) (by omega) ?_
  refine am_goto dJ5_init_a7421_46 (by decide : ((46 : Nat) : Int) + (7) = ((53 : Nat) : Int)) ?_
  refine am_put dJ5_init_a7421_53 kFJ5_15 (hs_push hc) (Nat.le_of_ble_eq_true rfl) rfl rfl ?_
  have hb : SBc G ((h ++ [(.inl (1, sN + 16, .inl (fun _ => 0)) : va_E)]).set 19 (.inr (0, [.ref (gz G + h.length), .int 0, .int 0, .int 0]))) h.length (sN + 16) 0 (fun _ => 0) 0 := ⟨hs_self (hs_push hc), hs_ne (hs_newc rfl) (by omega), by omega, ⟨by rw [List.length_set, List.length_append]; show 20 ≤ h.length + 1; omega, by omega⟩, bb_fit0, by omega, by omega, by have := hj.2.2.1; omega⟩
  have hj1 : DSt G ((h ++ [(.inl (1, sN + 16, .inl (fun _ => 0)) : va_E)]).set 19 (.inr (0, [.ref (gz G + h.length), .int 0, .int 0, .int 0]))) si sr sf sN := ⟨hs_ne (hs_push hj.1) (fun e => by have e1 := hj.1; rw [← e, hc] at e1; cases e1), hs_ne (hs_push hj.2.1) (fun e => by have e1 := hj.2.1; rw [← e, hc] at e1; cases e1), hj.2.2⟩
  refine am_aload_n dJ5_init_a7421_56 3 rfl ?_
  refine am_aload_n dJ5_init_a7421_57 4 rfl ?_
  refine am_callW (As := [.ref (gz G + si)]) (rest := []) dJ5_init_a7421_58 kWJ5_43 rfl hb.1 rfl rfl (Nat.le_of_ble_eq_true rfl) (d2 := 6) (by decide) (k2 := sbK (0 + sN) (sN + 16)) (by unfold sbK; rw [if_pos (by omega)]; exact Nat.zero_le _) (u2 := sbU2 (0 + sN) (sN + 16)) (by unfold sbU2; rw [if_pos (by omega)]; exact Nat.zero_le _) (Nat.le_of_ble_eq_true rfl) (ctJ4_bridgeD hb hj1 (by omega) (by omega)) (fun r1 h3 q3 => ?_)
  obtain ⟨rfl, v1, n1, f1, b1, b2, b3, b4, b5⟩ := q3
  refine am_pop dJ5_init_a7421_61 rfl ?_
  exact am_return dJ5_init_a7421_62 rfl (by
    rw [Nat.zero_add] at b1
    have hl : ((h ++ [(.inl (1, sN + 16, .inl (fun _ => 0)) : va_E)]).set 19 (.inr (0, [.ref (gz G + h.length), .int 0, .int 0, .int 0]))).length = h.length + 1 := by rw [List.length_set, List.length_append]; rfl
    refine ⟨rfl, v1, n1, f1, b1, ?_, ?_, fun a ha hne => ?_, fun i hi => ?_⟩
    · have := b2.1; omega
    · have := b2.2.2; omega
    · rw [b2.2.1 a (by omega) hne (by omega), List.getElem?_set_ne (by omega), List.getElem?_append_left ha]
    · rw [← b5 i hi, Nat.zero_add])
theorem dJ4_init_a7421_0 : decode cJ4_init_a7421 0 = .ok (.aload_n 0, 1) := by decide +kernel
theorem dJ4_init_a7421_1 : decode cJ4_init_a7421 1 = .ok (.aload_n 1, 1) := by decide +kernel
theorem dJ4_init_a7421_2 : decode cJ4_init_a7421 2 = .ok (.invokespecial 7, 3) := by decide +kernel
theorem dJ4_init_a7421_5 : decode cJ4_init_a7421 5 = .ok (.return_, 1) := by decide +kernel
set_option maxRecDepth 20000 in
theorem ctJ4_initS {l : Launch} {G : GM} {h : List va_E} (hc : h[19]? = some (.inr (0, [.null, .int 0, .int 0, .int 0]))) {si sr sN : Nat} {sf : Nat → Int32} (hj : DSt G h si sr sf sN) (hsN : sN ≤ 1000) : Ct l G mJ4_init_a7421 8 1 (sN + 16) [.ref (gz G + 19), .ref (gz G + si)] h (fun r h1 => r = none ∧ ∃ v1 n1 f1, SBc G h1 v1 n1 sN f1 0 ∧ h.length + 1 ≤ h1.length ∧ h.length ≤ v1 ∧ (∀ a, a < h.length → ¬ a = 19 → h1[a]? = h[a]?) ∧ ∀ i, i < sN → f1 i = sf i) := by
  show Tr l G mJ4_init_a7421 8 1 (sN + 16) 0 [(0, .ref (gz G + 19)), (1, .ref (gz G + si))] [] h _
  refine am_aload_n dJ4_init_a7421_0 0 rfl ?_
  refine am_aload_n dJ4_init_a7421_1 1 rfl ?_
  refine am_callI (As := [.ref (gz G + si)]) (rest := []) dJ4_init_a7421_2 kMJ4_7 rfl rfl (Nat.le_of_ble_eq_true rfl) (d2 := 7) (by decide) (k2 := 1) (Nat.le_refl _) (u2 := sN + 16) (Nat.le_refl _) (Nat.le_of_ble_eq_true rfl) (ctJ5_initS hc hj hsN) (fun r1 h1 q3 => ?_)
  obtain ⟨rfl, q4⟩ := q3
  exact am_return dJ4_init_a7421_5 rfl ⟨rfl, q4⟩
theorem dJ1_equals_b5fdf_9 : decode cJ1_equals_b5fdf 9 = .ok (.iload_n 2, 1) := by decide +kernel
theorem dJ1_equals_b5fdf_10 : decode cJ1_equals_b5fdf 10 = .ok (.aload_n 0, 1) := by decide +kernel
theorem dJ1_equals_b5fdf_11 : decode cJ1_equals_b5fdf 11 = .ok (.arraylength, 1) := by decide +kernel
theorem dJ1_equals_b5fdf_12 : decode cJ1_equals_b5fdf 12 = .ok (.if_icmp .ge 20, 3) := by decide +kernel
theorem dJ1_equals_b5fdf_15 : decode cJ1_equals_b5fdf 15 = .ok (.aload_n 0, 1) := by decide +kernel
theorem dJ1_equals_b5fdf_16 : decode cJ1_equals_b5fdf 16 = .ok (.iload_n 2, 1) := by decide +kernel
theorem dJ1_equals_b5fdf_17 : decode cJ1_equals_b5fdf 17 = .ok (.baload, 1) := by decide +kernel
theorem dJ1_equals_b5fdf_18 : decode cJ1_equals_b5fdf 18 = .ok (.aload_n 1, 1) := by decide +kernel
theorem dJ1_equals_b5fdf_19 : decode cJ1_equals_b5fdf 19 = .ok (.iload_n 2, 1) := by decide +kernel
theorem dJ1_equals_b5fdf_20 : decode cJ1_equals_b5fdf 20 = .ok (.baload, 1) := by decide +kernel
theorem dJ1_equals_b5fdf_21 : decode cJ1_equals_b5fdf 21 = .ok (.if_icmp .eq 5, 3) := by decide +kernel
theorem dJ1_equals_b5fdf_26 : decode cJ1_equals_b5fdf 26 = .ok (.iinc 2 1, 3) := by decide +kernel
theorem dJ1_equals_b5fdf_29 : decode cJ1_equals_b5fdf 29 = .ok (.goto (-20), 3) := by decide +kernel
theorem dJ1_equals_b5fdf_32 : decode cJ1_equals_b5fdf 32 = .ok (.iconst 1, 1) := by decide +kernel
theorem dJ1_equals_b5fdf_33 : decode cJ1_equals_b5fdf 33 = .ok (.ireturn, 1) := by decide +kernel
set_option maxRecDepth 20000 in
theorem ctJ1_eqLD {l : Launch} {G : GM} {h : List va_E} {N r1 r2 : Nat} {f g : Nat → Int32} (hv1 : h[r1]? = some (.inl (1, N, .inl f))) (hv2 : h[r2]? = some (.inl (1, N, .inl g))) (hN : N ≤ 4096) (he : ∀ i, i < N → f i = g i) : ∀ (fu i : Nat), i + fu = N → Tr l G mJ1_equals_b5fdf 0 0 0 9 [(2, .int (nI i)), (0, .ref (gz G + r1)), (1, .ref (gz G + r2))] [] h (fun r h1 => r = some (.int 1) ∧ h1 = h) := by
  intro fu
  induction fu with
  | zero =>
    intro i hf
    have hiN : i = N := by omega
    subst hiN
    refine am_iload_n dJ1_equals_b5fdf_9 0 rfl ?_
    refine am_aload_n dJ1_equals_b5fdf_10 1 rfl ?_
    refine am_alen (v := (nI i)) dJ1_equals_b5fdf_11 hv1 rfl rfl ?_
    refine am_icmp_ge dJ1_equals_b5fdf_12 (by decide : ((12 : Nat) : Int) + (20) = ((32 : Nat) : Int)) (fun _ => ?_) (fun zq => absurd (Int32.le_refl _) zq)
    refine am_iconst (v := 1) dJ1_equals_b5fdf_32 (by decide) ?_
    exact am_ireturn dJ1_equals_b5fdf_33 rfl rfl ⟨rfl, rfl⟩
  | succ fu ih =>
    intro i hf
    have hi2 : ¬ nI N ≤ nI i := by rw [nI_leI (by omega) (by omega)]; omega
    have hi : i < N := by omega
    have hN31 : N < 2 ^ 31 := by omega
    refine am_iload_n dJ1_equals_b5fdf_9 0 rfl ?_
    refine am_aload_n dJ1_equals_b5fdf_10 1 rfl ?_
    refine am_alen (v := (nI N)) dJ1_equals_b5fdf_11 hv1 rfl rfl ?_
    refine am_icmp_ge dJ1_equals_b5fdf_12 (by decide : ((12 : Nat) : Int) + (20) = ((32 : Nat) : Int)) (fun zq => absurd zq hi2) (fun _ => ?_)
    refine am_aload_n dJ1_equals_b5fdf_15 1 rfl ?_
    refine am_iload_n dJ1_equals_b5fdf_16 0 rfl ?_
    refine am_bald (f := f) dJ1_equals_b5fdf_17 hv1 (nI_in hi hN31) ?_
    refine am_aload_n dJ1_equals_b5fdf_18 2 rfl ?_
    refine am_iload_n dJ1_equals_b5fdf_19 0 rfl ?_
    refine am_bald (f := g) dJ1_equals_b5fdf_20 hv2 (nI_in hi hN31) ?_
    rw [nI_clamp (show i < 2 ^ 31 by omega)]
    refine am_icmp_eq dJ1_equals_b5fdf_21 (by decide : ((21 : Nat) : Int) + (5) = ((26 : Nat) : Int)) (fun _ => ?_) (fun zq => absurd (he i hi) zq)
    refine am_iinc (v := (nI (i + 1))) dJ1_equals_b5fdf_26 0 rfl (nI_1 i) (by decide) (lv' := [(2, .int (nI (i + 1))), (0, .ref (gz G + r1)), (1, .ref (gz G + r2))]) rfl ?_
    refine am_goto dJ1_equals_b5fdf_29 (by decide : ((29 : Nat) : Int) + (-20) = ((9 : Nat) : Int)) ?_
    exact ih (i + 1) (by omega)
theorem dJ1_equals_b5fdf_0 : decode cJ1_equals_b5fdf 0 = .ok (.aload_n 0, 1) := by decide +kernel
theorem dJ1_equals_b5fdf_1 : decode cJ1_equals_b5fdf 1 = .ok (.arraylength, 1) := by decide +kernel
theorem dJ1_equals_b5fdf_2 : decode cJ1_equals_b5fdf 2 = .ok (.aload_n 1, 1) := by decide +kernel
theorem dJ1_equals_b5fdf_3 : decode cJ1_equals_b5fdf 3 = .ok (.arraylength, 1) := by decide +kernel
theorem dJ1_equals_b5fdf_4 : decode cJ1_equals_b5fdf 4 = .ok (.if_icmp .ne 30, 3) := by decide +kernel
theorem dJ1_equals_b5fdf_7 : decode cJ1_equals_b5fdf 7 = .ok (.iconst 0, 1) := by decide +kernel
theorem dJ1_equals_b5fdf_8 : decode cJ1_equals_b5fdf 8 = .ok (.istore_n 2, 1) := by decide +kernel
set_option maxRecDepth 20000 in
theorem ctJ1_eqD {l : Launch} {G : GM} {h : List va_E} {N r1 r2 : Nat} {f g : Nat → Int32} (hv1 : h[r1]? = some (.inl (1, N, .inl f))) (hv2 : h[r2]? = some (.inl (1, N, .inl g))) (hN : N ≤ 4096) (he : ∀ i, i < N → f i = g i) : Ct l G mJ1_equals_b5fdf 0 0 0 [.ref (gz G + r1), .ref (gz G + r2)] h (fun r h1 => r = some (.int 1) ∧ h1 = h) := by
  show Tr l G mJ1_equals_b5fdf 0 0 0 0 [(0, .ref (gz G + r1)), (1, .ref (gz G + r2))] [] h _
  refine am_aload_n dJ1_equals_b5fdf_0 0 rfl ?_
  refine am_alen (v := (nI N)) dJ1_equals_b5fdf_1 hv1 rfl rfl ?_
  refine am_aload_n dJ1_equals_b5fdf_2 1 rfl ?_
  refine am_alen (v := (nI N)) dJ1_equals_b5fdf_3 hv2 rfl rfl ?_
  refine am_icmp_ne dJ1_equals_b5fdf_4 (by decide : ((4 : Nat) : Int) + (30) = ((34 : Nat) : Int)) (fun zq => absurd zq (fun z => z rfl)) (fun _ => ?_)
  refine am_iconst (v := 0) dJ1_equals_b5fdf_7 (by decide) ?_
  refine am_istore_n dJ1_equals_b5fdf_8 (by decide) (lv' := [(2, .int 0), (0, .ref (gz G + r1)), (1, .ref (gz G + r2))]) rfl ?_
  exact ctJ1_eqLD hv1 hv2 hN he N 0 (Nat.zero_add _)
theorem dJ0_equals_9ea2d_0 : decode cJ0_equals_9ea2d 0 = .ok (.aload_n 0, 1) := by decide +kernel
theorem dJ0_equals_9ea2d_1 : decode cJ0_equals_9ea2d 1 = .ok (.aload_n 1, 1) := by decide +kernel
theorem dJ0_equals_9ea2d_2 : decode cJ0_equals_9ea2d 2 = .ok (.if_acmp .ne 5, 3) := by decide +kernel
theorem dJ0_equals_9ea2d_5 : decode cJ0_equals_9ea2d 5 = .ok (.iconst 1, 1) := by decide +kernel
theorem dJ0_equals_9ea2d_6 : decode cJ0_equals_9ea2d 6 = .ok (.ireturn, 1) := by decide +kernel
theorem dJ0_equals_9ea2d_7 : decode cJ0_equals_9ea2d 7 = .ok (.aload_n 1, 1) := by decide +kernel
theorem dJ0_equals_9ea2d_8 : decode cJ0_equals_9ea2d 8 = .ok (.instanceof 10, 3) := by decide +kernel
theorem dJ0_equals_9ea2d_11 : decode cJ0_equals_9ea2d 11 = .ok (.ifCond .eq 43, 3) := by decide +kernel
theorem dJ0_equals_9ea2d_14 : decode cJ0_equals_9ea2d 14 = .ok (.aload_n 1, 1) := by decide +kernel
theorem dJ0_equals_9ea2d_15 : decode cJ0_equals_9ea2d 15 = .ok (.checkcast 10, 3) := by decide +kernel
theorem dJ0_equals_9ea2d_18 : decode cJ0_equals_9ea2d 18 = .ok (.astore_n 2, 1) := by decide +kernel
theorem dJ0_equals_9ea2d_19 : decode cJ0_equals_9ea2d 19 = .ok (.getstatic 38, 3) := by decide +kernel
theorem dJ0_equals_9ea2d_22 : decode cJ0_equals_9ea2d 22 = .ok (.ifCond .eq 14, 3) := by decide +kernel
theorem dJ0_equals_9ea2d_25 : decode cJ0_equals_9ea2d 25 = .ok (.aload_n 0, 1) := by decide +kernel
theorem dJ0_equals_9ea2d_26 : decode cJ0_equals_9ea2d 26 = .ok (.getfield 15, 3) := by decide +kernel
theorem dJ0_equals_9ea2d_29 : decode cJ0_equals_9ea2d 29 = .ok (.aload_n 2, 1) := by decide +kernel
theorem dJ0_equals_9ea2d_30 : decode cJ0_equals_9ea2d 30 = .ok (.getfield 15, 3) := by decide +kernel
theorem dJ0_equals_9ea2d_33 : decode cJ0_equals_9ea2d 33 = .ok (.if_icmp .ne 21, 3) := by decide +kernel
theorem dJ0_equals_9ea2d_36 : decode cJ0_equals_9ea2d 36 = .ok (.aload_n 0, 1) := by decide +kernel
theorem dJ0_equals_9ea2d_37 : decode cJ0_equals_9ea2d 37 = .ok (.getfield 9, 3) := by decide +kernel
theorem dJ0_equals_9ea2d_40 : decode cJ0_equals_9ea2d 40 = .ok (.aload_n 2, 1) := by decide +kernel
theorem dJ0_equals_9ea2d_41 : decode cJ0_equals_9ea2d 41 = .ok (.getfield 9, 3) := by decide +kernel
theorem dJ0_equals_9ea2d_44 : decode cJ0_equals_9ea2d 44 = .ok (.invokestatic 541, 3) := by decide +kernel
theorem dJ0_equals_9ea2d_47 : decode cJ0_equals_9ea2d 47 = .ok (.ifCond .eq 7, 3) := by decide +kernel
theorem dJ0_equals_9ea2d_50 : decode cJ0_equals_9ea2d 50 = .ok (.iconst 1, 1) := by decide +kernel
theorem dJ0_equals_9ea2d_51 : decode cJ0_equals_9ea2d 51 = .ok (.goto 4, 3) := by decide +kernel
theorem dJ0_equals_9ea2d_55 : decode cJ0_equals_9ea2d 55 = .ok (.ireturn, 1) := by decide +kernel
set_option maxRecDepth 20000 in
theorem ctJ0_eqD {l : Launch} {G : GM} {h : List va_E} {N s1 s2 r1 r2 : Nat} {f g : Nat → Int32} (hj1 : DSt G h s1 r1 f N) (hj2 : DSt G h s2 r2 g N) (he : ∀ i, i < N → f i = g i) : Ct l G mJ0_equals_9ea2d 1 0 0 [.ref (gz G + s1), .ref (gz G + s2)] h (fun r h1 => r = some (.int 1) ∧ h1 = h) := by
  show Tr l G mJ0_equals_9ea2d 1 0 0 0 [(0, .ref (gz G + s1)), (1, .ref (gz G + s2))] [] h _
  refine am_aload_n dJ0_equals_9ea2d_0 0 rfl ?_
  refine am_aload_n dJ0_equals_9ea2d_1 1 rfl ?_
  refine am_acmpne dJ0_equals_9ea2d_2 (by decide : ((2 : Nat) : Int) + (5) = ((7 : Nat) : Int)) (fun _ => ?_) (fun _ => ?_)
  · refine am_aload_n dJ0_equals_9ea2d_7 1 rfl ?_
    refine am_instD dJ0_equals_9ea2d_8 kLJ0_10 hj2.1 ?_
    refine am_if_eq dJ0_equals_9ea2d_11 (by decide : ((11 : Nat) : Int) + (43) = ((54 : Nat) : Int)) (fun zq => absurd zq (by decide)) (fun _ => ?_)
    refine am_aload_n dJ0_equals_9ea2d_14 1 rfl ?_
    refine am_castD dJ0_equals_9ea2d_15 kLJ0_10 hj2.1 ?_
    refine am_astore_n dJ0_equals_9ea2d_18 (by decide) (lv' := [(2, .ref (gz G + s2)), (0, .ref (gz G + s1)), (1, .ref (gz G + s2))]) rfl ?_
    refine am_compact dJ0_equals_9ea2d_19 (lw_mg 414 (by decide +kernel) (by decide +kernel)) ?_
    refine am_if_eq dJ0_equals_9ea2d_22 (by decide : ((22 : Nat) : Int) + (14) = ((36 : Nat) : Int)) (fun zq => absurd zq (by decide)) (fun _ => ?_)
    refine am_aload_n dJ0_equals_9ea2d_25 1 rfl ?_
    refine am_get dJ0_equals_9ea2d_26 kGJ0_15 hj1.1 rfl ?_
    refine am_aload_n dJ0_equals_9ea2d_29 0 rfl ?_
    refine am_get dJ0_equals_9ea2d_30 kGJ0_15 hj2.1 rfl ?_
    refine am_icmp_ne dJ0_equals_9ea2d_33 (by decide : ((33 : Nat) : Int) + (21) = ((54 : Nat) : Int)) (fun zq => absurd zq (fun z => z rfl)) (fun _ => ?_)
    refine am_aload_n dJ0_equals_9ea2d_36 1 rfl ?_
    refine am_get dJ0_equals_9ea2d_37 kGJ0_9 hj1.1 rfl ?_
    refine am_aload_n dJ0_equals_9ea2d_40 0 rfl ?_
    refine am_get dJ0_equals_9ea2d_41 kGJ0_9 hj2.1 rfl ?_
    refine am_callS (As := [.ref (gz G + r1), .ref (gz G + r2)]) (rest := []) dJ0_equals_9ea2d_44 kMJ0_541 rfl rfl (Nat.le_of_ble_eq_true rfl) (d2 := 0) (by decide) (k2 := 0) (Nat.zero_le _) (u2 := 0) (Nat.zero_le _) (Nat.le_of_ble_eq_true rfl) (ctJ1_eqD hj1.2.1 hj2.2.1 hj1.2.2.1 he) (fun r1 h3 q3 => ?_)
    obtain ⟨rfl, rfl⟩ := q3
    refine am_if_eq dJ0_equals_9ea2d_47 (by decide : ((47 : Nat) : Int) + (7) = ((54 : Nat) : Int)) (fun zq => absurd zq (by decide)) (fun _ => ?_)
    refine am_iconst (v := 1) dJ0_equals_9ea2d_50 (by decide) ?_
    refine am_goto dJ0_equals_9ea2d_51 (by decide : ((51 : Nat) : Int) + (4) = ((55 : Nat) : Int)) ?_
    exact am_ireturn dJ0_equals_9ea2d_55 rfl rfl ⟨rfl, rfl⟩
  · refine am_iconst (v := 1) dJ0_equals_9ea2d_5 (by decide) ?_
    exact am_ireturn dJ0_equals_9ea2d_6 rfl rfl ⟨rfl, rfl⟩
set_option maxRecDepth 20000 in
theorem ctJ1_eqLK {l : Launch} {G : GM} {h : List va_E} {N r1 : Nat} {f : Nat → Int32} (hv1 : h[r1]? = some (.inl (1, N, .inl f))) {j : Nat} {q : String × Nat × String × List Int32} (hj : strTab[j]? = some q) (hl : q.2.2.2.length = N) (hN : N ≤ 4096) (he : ∀ i, i < N → f i = q.2.2.2.getD i 0) : ∀ (fu i : Nat), i + fu = N → Tr l G mJ1_equals_b5fdf 0 0 0 9 [(2, .int (nI i)), (0, .ref (gz G + r1)), (1, .ref (gV G j))] [] h (fun r h1 => r = some (.int 1) ∧ h1 = h) := by
  intro fu
  induction fu with
  | zero =>
    intro i hf
    have hiN : i = N := by omega
    subst hiN
    refine am_iload_n dJ1_equals_b5fdf_9 0 rfl ?_
    refine am_aload_n dJ1_equals_b5fdf_10 1 rfl ?_
    refine am_alen (v := (nI i)) dJ1_equals_b5fdf_11 hv1 rfl rfl ?_
    refine am_icmp_ge dJ1_equals_b5fdf_12 (by decide : ((12 : Nat) : Int) + (20) = ((32 : Nat) : Int)) (fun _ => ?_) (fun zq => absurd (Int32.le_refl _) zq)
    refine am_iconst (v := 1) dJ1_equals_b5fdf_32 (by decide) ?_
    exact am_ireturn dJ1_equals_b5fdf_33 rfl rfl ⟨rfl, rfl⟩
  | succ fu ih =>
    intro i hf
    have hi2 : ¬ nI N ≤ nI i := by rw [nI_leI (by omega) (by omega)]; omega
    have hi : i < N := by omega
    have hN31 : N < 2 ^ 31 := by omega
    refine am_iload_n dJ1_equals_b5fdf_9 0 rfl ?_
    refine am_aload_n dJ1_equals_b5fdf_10 1 rfl ?_
    refine am_alen (v := (nI N)) dJ1_equals_b5fdf_11 hv1 rfl rfl ?_
    refine am_icmp_ge dJ1_equals_b5fdf_12 (by decide : ((12 : Nat) : Int) + (20) = ((32 : Nat) : Int)) (fun zq => absurd zq hi2) (fun _ => ?_)
    refine am_aload_n dJ1_equals_b5fdf_15 1 rfl ?_
    refine am_iload_n dJ1_equals_b5fdf_16 0 rfl ?_
    refine am_bald (f := f) dJ1_equals_b5fdf_17 hv1 (nI_in hi hN31) ?_
    refine am_aload_n dJ1_equals_b5fdf_18 2 rfl ?_
    refine am_iload_n dJ1_equals_b5fdf_19 0 rfl ?_
    refine am_baldS dJ1_equals_b5fdf_20 hj (nI_in (by rw [hl]; exact hi) (by rw [hl]; exact hN31)) ?_
    rw [nI_clamp (show i < 2 ^ 31 by omega)]
    refine am_icmp_eq dJ1_equals_b5fdf_21 (by decide : ((21 : Nat) : Int) + (5) = ((26 : Nat) : Int)) (fun _ => ?_) (fun zq => absurd (he i hi) zq)
    refine am_iinc (v := (nI (i + 1))) dJ1_equals_b5fdf_26 0 rfl (nI_1 i) (by decide) (lv' := [(2, .int (nI (i + 1))), (0, .ref (gz G + r1)), (1, .ref (gV G j))]) rfl ?_
    refine am_goto dJ1_equals_b5fdf_29 (by decide : ((29 : Nat) : Int) + (-20) = ((9 : Nat) : Int)) ?_
    exact ih (i + 1) (by omega)
set_option maxRecDepth 20000 in
theorem ctJ1_eqK {l : Launch} {G : GM} {h : List va_E} {N r1 : Nat} {f : Nat → Int32} (hv1 : h[r1]? = some (.inl (1, N, .inl f))) {j : Nat} {q : String × Nat × String × List Int32} (hj : strTab[j]? = some q) (hl : q.2.2.2.length = N) (hN : N ≤ 4096) (he : ∀ i, i < N → f i = q.2.2.2.getD i 0) : Ct l G mJ1_equals_b5fdf 0 0 0 [.ref (gz G + r1), .ref (gV G j)] h (fun r h1 => r = some (.int 1) ∧ h1 = h) := by
  show Tr l G mJ1_equals_b5fdf 0 0 0 0 [(0, .ref (gz G + r1)), (1, .ref (gV G j))] [] h _
  refine am_aload_n dJ1_equals_b5fdf_0 0 rfl ?_
  refine am_alen (v := (nI N)) dJ1_equals_b5fdf_1 hv1 rfl rfl ?_
  refine am_aload_n dJ1_equals_b5fdf_2 1 rfl ?_
  refine am_alenS (v := nI N) dJ1_equals_b5fdf_3 hj (by rw [hl]; rfl) ?_
  refine am_icmp_ne dJ1_equals_b5fdf_4 (by decide : ((4 : Nat) : Int) + (30) = ((34 : Nat) : Int)) (fun zq => absurd zq (fun z => z rfl)) (fun _ => ?_)
  refine am_iconst (v := 0) dJ1_equals_b5fdf_7 (by decide) ?_
  refine am_istore_n dJ1_equals_b5fdf_8 (by decide) (lv' := [(2, .int 0), (0, .ref (gz G + r1)), (1, .ref (gV G j))]) rfl ?_
  exact ctJ1_eqLK hv1 hj hl hN he N 0 (Nat.zero_add _)
set_option maxRecDepth 20000 in
theorem ctJ0_eqK {l : Launch} {G : GM} {h : List va_E} {N s1 r1 : Nat} {f : Nat → Int32} (hj1 : DSt G h s1 r1 f N) {j : Nat} {q : String × Nat × String × List Int32} (hj : strTab[j]? = some q) (hl : q.2.2.2.length = N) (he : ∀ i, i < N → f i = q.2.2.2.getD i 0) : Ct l G mJ0_equals_9ea2d 1 0 0 [.ref (gz G + s1), .ref (gS G j)] h (fun r h1 => r = some (.int 1) ∧ h1 = h) := by
  show Tr l G mJ0_equals_9ea2d 1 0 0 0 [(0, .ref (gz G + s1)), (1, .ref (gS G j))] [] h _
  refine am_aload_n dJ0_equals_9ea2d_0 0 rfl ?_
  refine am_aload_n dJ0_equals_9ea2d_1 1 rfl ?_
  refine am_acmpne dJ0_equals_9ea2d_2 (by decide : ((2 : Nat) : Int) + (5) = ((7 : Nat) : Int)) (fun _ => ?_) (fun _ => ?_)
  · refine am_aload_n dJ0_equals_9ea2d_7 1 rfl ?_
    refine am_instK dJ0_equals_9ea2d_8 kLJ0_10 hj ?_
    refine am_if_eq dJ0_equals_9ea2d_11 (by decide : ((11 : Nat) : Int) + (43) = ((54 : Nat) : Int)) (fun zq => absurd zq (by decide)) (fun _ => ?_)
    refine am_aload_n dJ0_equals_9ea2d_14 1 rfl ?_
    refine am_castK dJ0_equals_9ea2d_15 kLJ0_10 hj ?_
    refine am_astore_n dJ0_equals_9ea2d_18 (by decide) (lv' := [(2, .ref (gS G j)), (0, .ref (gz G + s1)), (1, .ref (gS G j))]) rfl ?_
    refine am_compact dJ0_equals_9ea2d_19 (lw_mg 414 (by decide +kernel) (by decide +kernel)) ?_
    refine am_if_eq dJ0_equals_9ea2d_22 (by decide : ((22 : Nat) : Int) + (14) = ((36 : Nat) : Int)) (fun zq => absurd zq (by decide)) (fun _ => ?_)
    refine am_aload_n dJ0_equals_9ea2d_25 1 rfl ?_
    refine am_get dJ0_equals_9ea2d_26 kGJ0_15 hj1.1 rfl ?_
    refine am_aload_n dJ0_equals_9ea2d_29 0 rfl ?_
    refine am_getSc dJ0_equals_9ea2d_30 hj (lw_mg 1048 (by decide +kernel) (by decide +kernel)) ?_
    refine am_icmp_ne dJ0_equals_9ea2d_33 (by decide : ((33 : Nat) : Int) + (21) = ((54 : Nat) : Int)) (fun zq => absurd zq (fun z => z rfl)) (fun _ => ?_)
    refine am_aload_n dJ0_equals_9ea2d_36 1 rfl ?_
    refine am_get dJ0_equals_9ea2d_37 kGJ0_9 hj1.1 rfl ?_
    refine am_aload_n dJ0_equals_9ea2d_40 0 rfl ?_
    refine am_getSv dJ0_equals_9ea2d_41 hj (lw_mg 1047 (by decide +kernel) (by decide +kernel)) ?_
    refine am_callS (As := [.ref (gz G + r1), .ref (gV G j)]) (rest := []) dJ0_equals_9ea2d_44 kMJ0_541 rfl rfl (Nat.le_of_ble_eq_true rfl) (d2 := 0) (by decide) (k2 := 0) (Nat.zero_le _) (u2 := 0) (Nat.zero_le _) (Nat.le_of_ble_eq_true rfl) (ctJ1_eqK hj1.2.1 hj hl hj1.2.2.1 he) (fun r1 h3 q3 => ?_)
    obtain ⟨rfl, rfl⟩ := q3
    refine am_if_eq dJ0_equals_9ea2d_47 (by decide : ((47 : Nat) : Int) + (7) = ((54 : Nat) : Int)) (fun zq => absurd zq (by decide)) (fun _ => ?_)
    refine am_iconst (v := 1) dJ0_equals_9ea2d_50 (by decide) ?_
    refine am_goto dJ0_equals_9ea2d_51 (by decide : ((51 : Nat) : Int) + (4) = ((55 : Nat) : Int)) ?_
    exact am_ireturn dJ0_equals_9ea2d_55 rfl rfl ⟨rfl, rfl⟩
  · refine am_iconst (v := 1) dJ0_equals_9ea2d_5 (by decide) ?_
    exact am_ireturn dJ0_equals_9ea2d_6 rfl rfl ⟨rfl, rfl⟩
