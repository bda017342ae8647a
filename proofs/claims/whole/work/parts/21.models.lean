/-! The model's methods (by program). -/
theorem dX7_parseShape_0 : decode cX7_parseShape 0 = .ok (.aload_n 0, 1) := by decide +kernel
theorem dX7_parseShape_1 : decode cX7_parseShape 1 = .ok (.bipush 6, 2) := by decide +kernel
theorem dX7_parseShape_3 : decode cX7_parseShape 3 = .ok (.bipush 8, 2) := by decide +kernel
theorem dX7_parseShape_5 : decode cX7_parseShape 5 = .ok (.invokevirtual 325, 3) := by decide +kernel
theorem dX7_parseShape_8 : decode cX7_parseShape 8 = .ok (.aload_n 0, 1) := by decide +kernel
theorem dX7_parseShape_9 : decode cX7_parseShape 9 = .ok (.invokevirtual 229, 3) := by decide +kernel
theorem dX7_parseShape_12 : decode cX7_parseShape 12 = .ok (.ifCond .ne 4, 3) := by decide +kernel
theorem dX7_parseShape_15 : decode cX7_parseShape 15 = .ok (.return_, 1) := by decide +kernel
theorem dX7_parseShape_16 : decode cX7_parseShape 16 = .ok (.aload_n 0, 1) := by decide +kernel
theorem dX7_parseShape_17 : decode cX7_parseShape 17 = .ok (.bipush 28, 2) := by decide +kernel
theorem dX7_parseShape_19 : decode cX7_parseShape 19 = .ok (.iconst 2, 1) := by decide +kernel
theorem dX7_parseShape_20 : decode cX7_parseShape 20 = .ok (.bipush 6, 2) := by decide +kernel
theorem dX7_parseShape_22 : decode cX7_parseShape 22 = .ok (.invokevirtual 329, 3) := by decide +kernel
theorem dX7_parseShape_25 : decode cX7_parseShape 25 = .ok (.istore_n 1, 1) := by decide +kernel
theorem dX7_parseShape_26 : decode cX7_parseShape 26 = .ok (.aload_n 0, 1) := by decide +kernel
theorem dX7_parseShape_27 : decode cX7_parseShape 27 = .ok (.getfield 23, 3) := by decide +kernel
theorem dX7_parseShape_30 : decode cX7_parseShape 30 = .ok (.iload_n 1, 1) := by decide +kernel
theorem dX7_parseShape_31 : decode cX7_parseShape 31 = .ok (.iconst 1, 1) := by decide +kernel
theorem dX7_parseShape_32 : decode cX7_parseShape 32 = .ok (.iadd, 1) := by decide +kernel
theorem dX7_parseShape_33 : decode cX7_parseShape 33 = .ok (.aload_n 0, 1) := by decide +kernel
theorem dX7_parseShape_34 : decode cX7_parseShape 34 = .ok (.sipush 500, 3) := by decide +kernel
theorem dX7_parseShape_37 : decode cX7_parseShape 37 = .ok (.invokevirtual 332, 3) := by decide +kernel
theorem dX7_parseShape_40 : decode cX7_parseShape 40 = .ok (.iastore, 1) := by decide +kernel
theorem dX7_parseShape_41 : decode cX7_parseShape 41 = .ok (.aload_n 0, 1) := by decide +kernel
theorem dX7_parseShape_42 : decode cX7_parseShape 42 = .ok (.getfield 23, 3) := by decide +kernel
theorem dX7_parseShape_45 : decode cX7_parseShape 45 = .ok (.bipush 6, 2) := by decide +kernel
theorem dX7_parseShape_47 : decode cX7_parseShape 47 = .ok (.dup2, 1) := by decide +kernel
theorem dX7_parseShape_48 : decode cX7_parseShape 48 = .ok (.iaload, 1) := by decide +kernel
theorem dX7_parseShape_49 : decode cX7_parseShape 49 = .ok (.iconst 1, 1) := by decide +kernel
theorem dX7_parseShape_50 : decode cX7_parseShape 50 = .ok (.iadd, 1) := by decide +kernel
theorem dX7_parseShape_51 : decode cX7_parseShape 51 = .ok (.iastore, 1) := by decide +kernel
theorem dX7_parseShape_52 : decode cX7_parseShape 52 = .ok (.return_, 1) := by decide +kernel
def fX7_parseShape (m : Md)  : Md := (bnd (fX7_enter m 6 8) (fun r5 => (if (fX7_good r5 ) = 0 then r5 else (bnd (fX7_newName r5 28 2 6) (fun r16 => (bnd (fX7_someLength r16.2 500) (fun r23 => (bnd (mA r23.2 (r16.2.2.2) (upd (r23.2.2.1 (r16.2.2.2)) (r16.1 + 1).toNatClampNeg r23.1)) (fun r29 => (bnd (mA r29 (r29.2.2) (upd (r29.2.1 (r29.2.2)) 6 (((r29.2.1 (r29.2.2)) 6) + 1))) (fun r33 => r33)))))))))))
def sX7_parseShape (m : Md)  : Prop := ((sX7_enter m 6 8) ∧ (bnd (fX7_enter m 6 8) (fun r5 => (((fX7_good r5 ) = 0 → True) ∧ (¬ (fX7_good r5 ) = 0 → ((sX7_newName r5 28 2 6) ∧ (bnd (fX7_newName r5 28 2 6) (fun r16 => ((sX7_someLength r16.2 500) ∧ (bnd (fX7_someLength r16.2 500) (fun r23 => ((r23.2.2.2) = (r16.2.2.2) ∧ (vp_in (r16.1 + 1) 146 ∧ (bnd (mA r23.2 (r16.2.2.2) (upd (r23.2.2.1 (r16.2.2.2)) (r16.1 + 1).toNatClampNeg r23.1)) (fun r29 => (bnd (mA r29 (r29.2.2) (upd (r29.2.1 (r29.2.2)) 6 (((r29.2.1 (r29.2.2)) 6) + 1))) (fun r33 => True)))))))))))))))))
set_option maxRecDepth 20000 in
theorem ctX7_parseShape {l : Launch} {G : GM} {K : Nat → Option va_E} {h : List va_E} {m : Md} (hm : HM G K h m)  (hs : sX7_parseShape m ) : Ct l G mX7_parseShape 9 0 0 [.ref (gz G + 221)] h (fun v h1 => ∃ r, (fX7_parseShape m ) = r ∧ v = none ∧ HM G K h1 r) := by
  show Tr l G mX7_parseShape 9 0 0 0 [(0, .ref (gz G + 221))] [] h _
  unfold sX7_parseShape at hs
  refine am_aload_n dX7_parseShape_0 0 rfl ?_
  refine am_bipush (v := 6) dX7_parseShape_1 (by decide) ?_
  refine am_bipush (v := 8) dX7_parseShape_3 (by decide) ?_
  obtain ⟨i1, hs⟩ := hs
  refine am_callV (As := [.int 6, .int 8]) (rest := []) dX7_parseShape_5 kMX7_325 rfl (hmc221 (m := m) hm) rfl rfl (Nat.le_of_ble_eq_true rfl) (d2 := 3) (by decide) (k2 := 0) (Nat.zero_le _) (u2 := 0) (Nat.zero_le _) (Nat.le_of_ble_eq_true rfl) (ctX7_enter (m := m) hm 6 8 i1) (fun v2 h3 q4 => ?_)
  obtain ⟨r5, e6, rfl, w7⟩ := q4
  have hs := bnd_p e6 hs
  refine am_aload_n dX7_parseShape_8 0 rfl ?_
  refine am_callV (As := []) (rest := []) dX7_parseShape_9 kMX7_229 rfl (hmc221 (m := r5) w7) rfl rfl (Nat.le_of_ble_eq_true rfl) (d2 := 0) (by decide) (k2 := 0) (Nat.zero_le _) (u2 := 0) (Nat.zero_le _) (Nat.le_of_ble_eq_true rfl) (ctX7_good (m := r5) w7  ) (fun v8 h9 q10 => ?_)
  obtain ⟨rfl, rfl⟩ := q10
  refine am_if_ne dX7_parseShape_12 (by decide : ((12 : Nat) : Int) + (4) = ((16 : Nat) : Int)) (fun c11 => ?_) (fun c11 => ?_)
  · have hs := hs.2 c11
    refine am_aload_n dX7_parseShape_16 0 rfl ?_
    refine am_bipush (v := 28) dX7_parseShape_17 (by decide) ?_
    refine am_iconst (v := 2) dX7_parseShape_19 (by decide) ?_
    refine am_bipush (v := 6) dX7_parseShape_20 (by decide) ?_
    obtain ⟨i12, hs⟩ := hs
    refine am_callV (As := [.int 28, .int 2, .int 6]) (rest := []) dX7_parseShape_22 kMX7_329 rfl (hmc221 (m := r5) w7) rfl rfl (Nat.le_of_ble_eq_true rfl) (d2 := 8) (by decide) (k2 := 0) (Nat.zero_le _) (u2 := 0) (Nat.zero_le _) (Nat.le_of_ble_eq_true rfl) (ctX7_newName (m := r5) w7 28 2 6 i12) (fun v13 h14 q15 => ?_)
    obtain ⟨r16, e17, rfl, w18⟩ := q15
    have hs := bnd_p e17 hs
    refine am_istore_n dX7_parseShape_25 (by decide) (lv' := [(1, .int r16.1), (0, .ref (gz G + 221))]) rfl ?_
    refine am_aload_n dX7_parseShape_26 1 rfl ?_
    refine am_get (v := .ref (gz G + (222 + (r16.2.2.2)))) dX7_parseShape_27 kGX7_23 (hmc221 (m := r16.2) w18) rfl ?_
    refine am_iload_n dX7_parseShape_30 0 rfl ?_
    refine am_iconst (v := 1) dX7_parseShape_31 (by decide) ?_
    refine am_iadd dX7_parseShape_32 ?_
    refine am_aload_n dX7_parseShape_33 1 rfl ?_
    refine am_sipush (v := 500) dX7_parseShape_34 (by decide) ?_
    obtain ⟨i19, hs⟩ := hs
    refine am_callV (As := [.int 500]) (rest := [.int (r16.1 + 1), .ref (gz G + (222 + (r16.2.2.2)))]) dX7_parseShape_37 kMX7_332 rfl (hmc221 (m := r16.2) w18) rfl rfl (Nat.le_of_ble_eq_true rfl) (d2 := 4) (by decide) (k2 := 0) (Nat.zero_le _) (u2 := 0) (Nat.zero_le _) (Nat.le_of_ble_eq_true rfl) (ctX7_someLength (m := r16.2) w18 500 i19) (fun v20 h21 q22 => ?_)
    obtain ⟨r23, e24, rfl, w25⟩ := q22
    have hs := bnd_p e24 hs
    obtain ⟨i26, hs⟩ := hs
    obtain ⟨i27, hs⟩ := hs
    refine am_iast (f := (r23.2.2.1 (r16.2.2.2))) dX7_parseShape_40 (hmNe (m := r23.2) w25 i26) i27 ?_
    have w28 := hmNwe w25 i26 (upd (r23.2.2.1 (r16.2.2.2)) (r16.1 + 1).toNatClampNeg r23.1)
    obtain ⟨r29, e30⟩ : ∃ x, (mA r23.2 (r16.2.2.2) (upd (r23.2.2.1 (r16.2.2.2)) (r16.1 + 1).toNatClampNeg r23.1)) = x := ⟨_, rfl⟩
    have w31 := hm_eq e30 w28
    have hs := bnd_p e30 hs
    refine am_aload_n dX7_parseShape_41 1 rfl ?_
    refine am_get (v := .ref (gz G + (222 + (r29.2.2)))) dX7_parseShape_42 kGX7_23 (hmc221 (m := r29) w31) rfl ?_
    refine am_bipush (v := 6) dX7_parseShape_45 (by decide) ?_
    refine am_dup2 dX7_parseShape_47 rfl rfl ?_
    refine am_iald (f := (r29.2.1 (r29.2.2))) dX7_parseShape_48 (hmN (m := r29) w31) (vp_lit (by decide)) ?_
    rw [tl6]
    refine am_iconst (v := 1) dX7_parseShape_49 (by decide) ?_
    refine am_iadd dX7_parseShape_50 ?_
    refine am_iast (f := (r29.2.1 (r29.2.2))) dX7_parseShape_51 (hmN (m := r29) w31) (vp_lit (by decide)) ?_
    rw [tl6]
    have w32 := hmNw w31 (upd (r29.2.1 (r29.2.2)) 6 (((r29.2.1 (r29.2.2)) 6) + 1))
    obtain ⟨r33, e34⟩ : ∃ x, (mA r29 (r29.2.2) (upd (r29.2.1 (r29.2.2)) 6 (((r29.2.1 (r29.2.2)) 6) + 1))) = x := ⟨_, rfl⟩
    have w35 := hm_eq e34 w32
    have hs := bnd_p e34 hs
    exact am_return dX7_parseShape_52 rfl ⟨_, bnd_eq e6 (ifn c11 (bnd_eq e17 (bnd_eq e24 (bnd_eq e30 (bnd_eq e34 (rfl)))))), rfl, w35⟩
  · have hs := hs.1 c11
    exact am_return dX7_parseShape_15 rfl ⟨_, bnd_eq e6 (ifp c11 (rfl)), rfl, w7⟩

theorem dX7_parseSize_0 : decode cX7_parseSize 0 = .ok (.aload_n 0, 1) := by decide +kernel
theorem dX7_parseSize_1 : decode cX7_parseSize 1 = .ok (.bipush 7, 2) := by decide +kernel
theorem dX7_parseSize_3 : decode cX7_parseSize 3 = .ok (.bipush 6, 2) := by decide +kernel
theorem dX7_parseSize_5 : decode cX7_parseSize 5 = .ok (.invokevirtual 325, 3) := by decide +kernel
theorem dX7_parseSize_8 : decode cX7_parseSize 8 = .ok (.aload_n 0, 1) := by decide +kernel
theorem dX7_parseSize_9 : decode cX7_parseSize 9 = .ok (.invokevirtual 229, 3) := by decide +kernel
theorem dX7_parseSize_12 : decode cX7_parseSize 12 = .ok (.ifCond .ne 4, 3) := by decide +kernel
theorem dX7_parseSize_15 : decode cX7_parseSize 15 = .ok (.return_, 1) := by decide +kernel
theorem dX7_parseSize_16 : decode cX7_parseSize 16 = .ok (.aload_n 0, 1) := by decide +kernel
theorem dX7_parseSize_17 : decode cX7_parseSize 17 = .ok (.bipush 44, 2) := by decide +kernel
theorem dX7_parseSize_19 : decode cX7_parseSize 19 = .ok (.iconst 3, 1) := by decide +kernel
theorem dX7_parseSize_20 : decode cX7_parseSize 20 = .ok (.bipush 7, 2) := by decide +kernel
theorem dX7_parseSize_22 : decode cX7_parseSize 22 = .ok (.invokevirtual 329, 3) := by decide +kernel
theorem dX7_parseSize_25 : decode cX7_parseSize 25 = .ok (.istore_n 1, 1) := by decide +kernel
theorem dX7_parseSize_26 : decode cX7_parseSize 26 = .ok (.aload_n 0, 1) := by decide +kernel
theorem dX7_parseSize_27 : decode cX7_parseSize 27 = .ok (.getfield 23, 3) := by decide +kernel
theorem dX7_parseSize_30 : decode cX7_parseSize 30 = .ok (.iload_n 1, 1) := by decide +kernel
theorem dX7_parseSize_31 : decode cX7_parseSize 31 = .ok (.iconst 1, 1) := by decide +kernel
theorem dX7_parseSize_32 : decode cX7_parseSize 32 = .ok (.iadd, 1) := by decide +kernel
theorem dX7_parseSize_33 : decode cX7_parseSize 33 = .ok (.aload_n 0, 1) := by decide +kernel
theorem dX7_parseSize_34 : decode cX7_parseSize 34 = .ok (.sipush 500, 3) := by decide +kernel
theorem dX7_parseSize_37 : decode cX7_parseSize 37 = .ok (.invokevirtual 332, 3) := by decide +kernel
theorem dX7_parseSize_40 : decode cX7_parseSize 40 = .ok (.iastore, 1) := by decide +kernel
theorem dX7_parseSize_41 : decode cX7_parseSize 41 = .ok (.aload_n 0, 1) := by decide +kernel
theorem dX7_parseSize_42 : decode cX7_parseSize 42 = .ok (.getfield 23, 3) := by decide +kernel
theorem dX7_parseSize_45 : decode cX7_parseSize 45 = .ok (.iload_n 1, 1) := by decide +kernel
theorem dX7_parseSize_46 : decode cX7_parseSize 46 = .ok (.iconst 2, 1) := by decide +kernel
theorem dX7_parseSize_47 : decode cX7_parseSize 47 = .ok (.iadd, 1) := by decide +kernel
theorem dX7_parseSize_48 : decode cX7_parseSize 48 = .ok (.aload_n 0, 1) := by decide +kernel
theorem dX7_parseSize_49 : decode cX7_parseSize 49 = .ok (.aload_n 0, 1) := by decide +kernel
theorem dX7_parseSize_50 : decode cX7_parseSize 50 = .ok (.getfield 23, 3) := by decide +kernel
theorem dX7_parseSize_53 : decode cX7_parseSize 53 = .ok (.iload_n 1, 1) := by decide +kernel
theorem dX7_parseSize_54 : decode cX7_parseSize 54 = .ok (.iconst 1, 1) := by decide +kernel
theorem dX7_parseSize_55 : decode cX7_parseSize 55 = .ok (.iadd, 1) := by decide +kernel
theorem dX7_parseSize_56 : decode cX7_parseSize 56 = .ok (.iaload, 1) := by decide +kernel
theorem dX7_parseSize_57 : decode cX7_parseSize 57 = .ok (.invokevirtual 332, 3) := by decide +kernel
theorem dX7_parseSize_60 : decode cX7_parseSize 60 = .ok (.iastore, 1) := by decide +kernel
theorem dX7_parseSize_61 : decode cX7_parseSize 61 = .ok (.aload_n 0, 1) := by decide +kernel
theorem dX7_parseSize_62 : decode cX7_parseSize 62 = .ok (.getfield 23, 3) := by decide +kernel
theorem dX7_parseSize_65 : decode cX7_parseSize 65 = .ok (.bipush 7, 2) := by decide +kernel
theorem dX7_parseSize_67 : decode cX7_parseSize 67 = .ok (.dup2, 1) := by decide +kernel
theorem dX7_parseSize_68 : decode cX7_parseSize 68 = .ok (.iaload, 1) := by decide +kernel
theorem dX7_parseSize_69 : decode cX7_parseSize 69 = .ok (.iconst 1, 1) := by decide +kernel
theorem dX7_parseSize_70 : decode cX7_parseSize 70 = .ok (.iadd, 1) := by decide +kernel
theorem dX7_parseSize_71 : decode cX7_parseSize 71 = .ok (.iastore, 1) := by decide +kernel
theorem dX7_parseSize_72 : decode cX7_parseSize 72 = .ok (.return_, 1) := by decide +kernel
def fX7_parseSize (m : Md)  : Md := (bnd (fX7_enter m 7 6) (fun r5 => (if (fX7_good r5 ) = 0 then r5 else (bnd (fX7_newName r5 44 3 7) (fun r16 => (bnd (fX7_someLength r16.2 500) (fun r23 => (bnd (mA r23.2 (r16.2.2.2) (upd (r23.2.2.1 (r16.2.2.2)) (r16.1 + 1).toNatClampNeg r23.1)) (fun r29 => (bnd (fX7_someLength r29 ((r29.2.1 (r29.2.2)) (r16.1 + 1).toNatClampNeg)) (fun r37 => (bnd (mA r37.2 (r29.2.2) (upd (r37.2.2.1 (r29.2.2)) (r16.1 + 2).toNatClampNeg r37.1)) (fun r43 => (bnd (mA r43 (r43.2.2) (upd (r43.2.1 (r43.2.2)) 7 (((r43.2.1 (r43.2.2)) 7) + 1))) (fun r47 => r47)))))))))))))))
def sX7_parseSize (m : Md)  : Prop := ((sX7_enter m 7 6) ∧ (bnd (fX7_enter m 7 6) (fun r5 => (((fX7_good r5 ) = 0 → True) ∧ (¬ (fX7_good r5 ) = 0 → ((sX7_newName r5 44 3 7) ∧ (bnd (fX7_newName r5 44 3 7) (fun r16 => ((sX7_someLength r16.2 500) ∧ (bnd (fX7_someLength r16.2 500) (fun r23 => ((r23.2.2.2) = (r16.2.2.2) ∧ (vp_in (r16.1 + 1) 146 ∧ (bnd (mA r23.2 (r16.2.2.2) (upd (r23.2.2.1 (r16.2.2.2)) (r16.1 + 1).toNatClampNeg r23.1)) (fun r29 => (vp_in (r16.1 + 1) 146 ∧ ((sX7_someLength r29 ((r29.2.1 (r29.2.2)) (r16.1 + 1).toNatClampNeg)) ∧ (bnd (fX7_someLength r29 ((r29.2.1 (r29.2.2)) (r16.1 + 1).toNatClampNeg)) (fun r37 => ((r37.2.2.2) = (r29.2.2) ∧ (vp_in (r16.1 + 2) 146 ∧ (bnd (mA r37.2 (r29.2.2) (upd (r37.2.2.1 (r29.2.2)) (r16.1 + 2).toNatClampNeg r37.1)) (fun r43 => (bnd (mA r43 (r43.2.2) (upd (r43.2.1 (r43.2.2)) 7 (((r43.2.1 (r43.2.2)) 7) + 1))) (fun r47 => True)))))))))))))))))))))))))
set_option maxRecDepth 20000 in
theorem ctX7_parseSize {l : Launch} {G : GM} {K : Nat → Option va_E} {h : List va_E} {m : Md} (hm : HM G K h m)  (hs : sX7_parseSize m ) : Ct l G mX7_parseSize 9 0 0 [.ref (gz G + 221)] h (fun v h1 => ∃ r, (fX7_parseSize m ) = r ∧ v = none ∧ HM G K h1 r) := by
  show Tr l G mX7_parseSize 9 0 0 0 [(0, .ref (gz G + 221))] [] h _
  unfold sX7_parseSize at hs
  refine am_aload_n dX7_parseSize_0 0 rfl ?_
  refine am_bipush (v := 7) dX7_parseSize_1 (by decide) ?_
  refine am_bipush (v := 6) dX7_parseSize_3 (by decide) ?_
  obtain ⟨i1, hs⟩ := hs
  refine am_callV (As := [.int 7, .int 6]) (rest := []) dX7_parseSize_5 kMX7_325 rfl (hmc221 (m := m) hm) rfl rfl (Nat.le_of_ble_eq_true rfl) (d2 := 3) (by decide) (k2 := 0) (Nat.zero_le _) (u2 := 0) (Nat.zero_le _) (Nat.le_of_ble_eq_true rfl) (ctX7_enter (m := m) hm 7 6 i1) (fun v2 h3 q4 => ?_)
  obtain ⟨r5, e6, rfl, w7⟩ := q4
  have hs := bnd_p e6 hs
  refine am_aload_n dX7_parseSize_8 0 rfl ?_
  refine am_callV (As := []) (rest := []) dX7_parseSize_9 kMX7_229 rfl (hmc221 (m := r5) w7) rfl rfl (Nat.le_of_ble_eq_true rfl) (d2 := 0) (by decide) (k2 := 0) (Nat.zero_le _) (u2 := 0) (Nat.zero_le _) (Nat.le_of_ble_eq_true rfl) (ctX7_good (m := r5) w7  ) (fun v8 h9 q10 => ?_)
  obtain ⟨rfl, rfl⟩ := q10
  refine am_if_ne dX7_parseSize_12 (by decide : ((12 : Nat) : Int) + (4) = ((16 : Nat) : Int)) (fun c11 => ?_) (fun c11 => ?_)
  · have hs := hs.2 c11
    refine am_aload_n dX7_parseSize_16 0 rfl ?_
    refine am_bipush (v := 44) dX7_parseSize_17 (by decide) ?_
    refine am_iconst (v := 3) dX7_parseSize_19 (by decide) ?_
    refine am_bipush (v := 7) dX7_parseSize_20 (by decide) ?_
    obtain ⟨i12, hs⟩ := hs
    refine am_callV (As := [.int 44, .int 3, .int 7]) (rest := []) dX7_parseSize_22 kMX7_329 rfl (hmc221 (m := r5) w7) rfl rfl (Nat.le_of_ble_eq_true rfl) (d2 := 8) (by decide) (k2 := 0) (Nat.zero_le _) (u2 := 0) (Nat.zero_le _) (Nat.le_of_ble_eq_true rfl) (ctX7_newName (m := r5) w7 44 3 7 i12) (fun v13 h14 q15 => ?_)
    obtain ⟨r16, e17, rfl, w18⟩ := q15
    have hs := bnd_p e17 hs
    refine am_istore_n dX7_parseSize_25 (by decide) (lv' := [(1, .int r16.1), (0, .ref (gz G + 221))]) rfl ?_
    refine am_aload_n dX7_parseSize_26 1 rfl ?_
    refine am_get (v := .ref (gz G + (222 + (r16.2.2.2)))) dX7_parseSize_27 kGX7_23 (hmc221 (m := r16.2) w18) rfl ?_
    refine am_iload_n dX7_parseSize_30 0 rfl ?_
    refine am_iconst (v := 1) dX7_parseSize_31 (by decide) ?_
    refine am_iadd dX7_parseSize_32 ?_
    refine am_aload_n dX7_parseSize_33 1 rfl ?_
    refine am_sipush (v := 500) dX7_parseSize_34 (by decide) ?_
    obtain ⟨i19, hs⟩ := hs
    refine am_callV (As := [.int 500]) (rest := [.int (r16.1 + 1), .ref (gz G + (222 + (r16.2.2.2)))]) dX7_parseSize_37 kMX7_332 rfl (hmc221 (m := r16.2) w18) rfl rfl (Nat.le_of_ble_eq_true rfl) (d2 := 4) (by decide) (k2 := 0) (Nat.zero_le _) (u2 := 0) (Nat.zero_le _) (Nat.le_of_ble_eq_true rfl) (ctX7_someLength (m := r16.2) w18 500 i19) (fun v20 h21 q22 => ?_)
    obtain ⟨r23, e24, rfl, w25⟩ := q22
    have hs := bnd_p e24 hs
    obtain ⟨i26, hs⟩ := hs
    obtain ⟨i27, hs⟩ := hs
    refine am_iast (f := (r23.2.2.1 (r16.2.2.2))) dX7_parseSize_40 (hmNe (m := r23.2) w25 i26) i27 ?_
    have w28 := hmNwe w25 i26 (upd (r23.2.2.1 (r16.2.2.2)) (r16.1 + 1).toNatClampNeg r23.1)
    obtain ⟨r29, e30⟩ : ∃ x, (mA r23.2 (r16.2.2.2) (upd (r23.2.2.1 (r16.2.2.2)) (r16.1 + 1).toNatClampNeg r23.1)) = x := ⟨_, rfl⟩
    have w31 := hm_eq e30 w28
    have hs := bnd_p e30 hs
    refine am_aload_n dX7_parseSize_41 1 rfl ?_
    refine am_get (v := .ref (gz G + (222 + (r29.2.2)))) dX7_parseSize_42 kGX7_23 (hmc221 (m := r29) w31) rfl ?_
    refine am_iload_n dX7_parseSize_45 0 rfl ?_
    refine am_iconst (v := 2) dX7_parseSize_46 (by decide) ?_
    refine am_iadd dX7_parseSize_47 ?_
    refine am_aload_n dX7_parseSize_48 1 rfl ?_
    refine am_aload_n dX7_parseSize_49 1 rfl ?_
    refine am_get (v := .ref (gz G + (222 + (r29.2.2)))) dX7_parseSize_50 kGX7_23 (hmc221 (m := r29) w31) rfl ?_
    refine am_iload_n dX7_parseSize_53 0 rfl ?_
    refine am_iconst (v := 1) dX7_parseSize_54 (by decide) ?_
    refine am_iadd dX7_parseSize_55 ?_
    obtain ⟨i32, hs⟩ := hs
    refine am_iald (f := (r29.2.1 (r29.2.2))) dX7_parseSize_56 (hmN (m := r29) w31) i32 ?_
    obtain ⟨i33, hs⟩ := hs
    refine am_callV (As := [.int ((r29.2.1 (r29.2.2)) (r16.1 + 1).toNatClampNeg)]) (rest := [.int (r16.1 + 2), .ref (gz G + (222 + (r29.2.2)))]) dX7_parseSize_57 kMX7_332 rfl (hmc221 (m := r29) w31) rfl rfl (Nat.le_of_ble_eq_true rfl) (d2 := 4) (by decide) (k2 := 0) (Nat.zero_le _) (u2 := 0) (Nat.zero_le _) (Nat.le_of_ble_eq_true rfl) (ctX7_someLength (m := r29) w31 ((r29.2.1 (r29.2.2)) (r16.1 + 1).toNatClampNeg) i33) (fun v34 h35 q36 => ?_)
    obtain ⟨r37, e38, rfl, w39⟩ := q36
    have hs := bnd_p e38 hs
    obtain ⟨i40, hs⟩ := hs
    obtain ⟨i41, hs⟩ := hs
    refine am_iast (f := (r37.2.2.1 (r29.2.2))) dX7_parseSize_60 (hmNe (m := r37.2) w39 i40) i41 ?_
    have w42 := hmNwe w39 i40 (upd (r37.2.2.1 (r29.2.2)) (r16.1 + 2).toNatClampNeg r37.1)
    obtain ⟨r43, e44⟩ : ∃ x, (mA r37.2 (r29.2.2) (upd (r37.2.2.1 (r29.2.2)) (r16.1 + 2).toNatClampNeg r37.1)) = x := ⟨_, rfl⟩
    have w45 := hm_eq e44 w42
    have hs := bnd_p e44 hs
    refine am_aload_n dX7_parseSize_61 1 rfl ?_
    refine am_get (v := .ref (gz G + (222 + (r43.2.2)))) dX7_parseSize_62 kGX7_23 (hmc221 (m := r43) w45) rfl ?_
    refine am_bipush (v := 7) dX7_parseSize_65 (by decide) ?_
    refine am_dup2 dX7_parseSize_67 rfl rfl ?_
    refine am_iald (f := (r43.2.1 (r43.2.2))) dX7_parseSize_68 (hmN (m := r43) w45) (vp_lit (by decide)) ?_
    rw [tl7]
    refine am_iconst (v := 1) dX7_parseSize_69 (by decide) ?_
    refine am_iadd dX7_parseSize_70 ?_
    refine am_iast (f := (r43.2.1 (r43.2.2))) dX7_parseSize_71 (hmN (m := r43) w45) (vp_lit (by decide)) ?_
    rw [tl7]
    have w46 := hmNw w45 (upd (r43.2.1 (r43.2.2)) 7 (((r43.2.1 (r43.2.2)) 7) + 1))
    obtain ⟨r47, e48⟩ : ∃ x, (mA r43 (r43.2.2) (upd (r43.2.1 (r43.2.2)) 7 (((r43.2.1 (r43.2.2)) 7) + 1))) = x := ⟨_, rfl⟩
    have w49 := hm_eq e48 w46
    have hs := bnd_p e48 hs
    exact am_return dX7_parseSize_72 rfl ⟨_, bnd_eq e6 (ifn c11 (bnd_eq e17 (bnd_eq e24 (bnd_eq e30 (bnd_eq e38 (bnd_eq e44 (bnd_eq e48 (rfl)))))))), rfl, w49⟩
  · have hs := hs.1 c11
    exact am_return dX7_parseSize_15 rfl ⟨_, bnd_eq e6 (ifp c11 (rfl)), rfl, w7⟩

theorem dX7_add_0 : decode cX7_add 0 = .ok (.aload_n 0, 1) := by decide +kernel
theorem dX7_add_1 : decode cX7_add 1 = .ok (.getfield 23, 3) := by decide +kernel
theorem dX7_add_4 : decode cX7_add 4 = .ok (.bipush 8, 2) := by decide +kernel
theorem dX7_add_6 : decode cX7_add 6 = .ok (.iaload, 1) := by decide +kernel
theorem dX7_add_7 : decode cX7_add 7 = .ok (.istore 5, 2) := by decide +kernel
theorem dX7_add_9 : decode cX7_add 9 = .ok (.aload_n 0, 1) := by decide +kernel
theorem dX7_add_10 : decode cX7_add 10 = .ok (.getfield 23, 3) := by decide +kernel
theorem dX7_add_13 : decode cX7_add 13 = .ok (.iload 5, 2) := by decide +kernel
theorem dX7_add_15 : decode cX7_add 15 = .ok (.iconst 0, 1) := by decide +kernel
theorem dX7_add_16 : decode cX7_add 16 = .ok (.invokestatic 52, 3) := by decide +kernel
theorem dX7_add_19 : decode cX7_add 19 = .ok (.iload_n 1, 1) := by decide +kernel
theorem dX7_add_20 : decode cX7_add 20 = .ok (.iastore, 1) := by decide +kernel
theorem dX7_add_21 : decode cX7_add 21 = .ok (.aload_n 0, 1) := by decide +kernel
theorem dX7_add_22 : decode cX7_add 22 = .ok (.getfield 23, 3) := by decide +kernel
theorem dX7_add_25 : decode cX7_add 25 = .ok (.iload 5, 2) := by decide +kernel
theorem dX7_add_27 : decode cX7_add 27 = .ok (.iconst 1, 1) := by decide +kernel
theorem dX7_add_28 : decode cX7_add 28 = .ok (.invokestatic 52, 3) := by decide +kernel
theorem dX7_add_31 : decode cX7_add 31 = .ok (.iload_n 2, 1) := by decide +kernel
theorem dX7_add_32 : decode cX7_add 32 = .ok (.iastore, 1) := by decide +kernel
theorem dX7_add_33 : decode cX7_add 33 = .ok (.aload_n 0, 1) := by decide +kernel
theorem dX7_add_34 : decode cX7_add 34 = .ok (.getfield 23, 3) := by decide +kernel
theorem dX7_add_37 : decode cX7_add 37 = .ok (.iload 5, 2) := by decide +kernel
theorem dX7_add_39 : decode cX7_add 39 = .ok (.iconst 2, 1) := by decide +kernel
theorem dX7_add_40 : decode cX7_add 40 = .ok (.invokestatic 52, 3) := by decide +kernel
theorem dX7_add_43 : decode cX7_add 43 = .ok (.iload_n 3, 1) := by decide +kernel
theorem dX7_add_44 : decode cX7_add 44 = .ok (.iastore, 1) := by decide +kernel
theorem dX7_add_45 : decode cX7_add 45 = .ok (.aload_n 0, 1) := by decide +kernel
theorem dX7_add_46 : decode cX7_add 46 = .ok (.getfield 23, 3) := by decide +kernel
theorem dX7_add_49 : decode cX7_add 49 = .ok (.iload 5, 2) := by decide +kernel
theorem dX7_add_51 : decode cX7_add 51 = .ok (.iconst 3, 1) := by decide +kernel
theorem dX7_add_52 : decode cX7_add 52 = .ok (.invokestatic 52, 3) := by decide +kernel
theorem dX7_add_55 : decode cX7_add 55 = .ok (.iload_n 3, 1) := by decide +kernel
theorem dX7_add_56 : decode cX7_add 56 = .ok (.iastore, 1) := by decide +kernel
theorem dX7_add_57 : decode cX7_add 57 = .ok (.aload_n 0, 1) := by decide +kernel
theorem dX7_add_58 : decode cX7_add 58 = .ok (.getfield 23, 3) := by decide +kernel
theorem dX7_add_61 : decode cX7_add 61 = .ok (.iload 5, 2) := by decide +kernel
theorem dX7_add_63 : decode cX7_add 63 = .ok (.iconst 4, 1) := by decide +kernel
theorem dX7_add_64 : decode cX7_add 64 = .ok (.invokestatic 52, 3) := by decide +kernel
theorem dX7_add_67 : decode cX7_add 67 = .ok (.iload 4, 2) := by decide +kernel
theorem dX7_add_69 : decode cX7_add 69 = .ok (.iastore, 1) := by decide +kernel
theorem dX7_add_70 : decode cX7_add 70 = .ok (.aload_n 0, 1) := by decide +kernel
theorem dX7_add_71 : decode cX7_add 71 = .ok (.getfield 23, 3) := by decide +kernel
theorem dX7_add_74 : decode cX7_add 74 = .ok (.iload 5, 2) := by decide +kernel
theorem dX7_add_76 : decode cX7_add 76 = .ok (.iconst 5, 1) := by decide +kernel
theorem dX7_add_77 : decode cX7_add 77 = .ok (.invokestatic 52, 3) := by decide +kernel
theorem dX7_add_80 : decode cX7_add 80 = .ok (.iconst 0, 1) := by decide +kernel
theorem dX7_add_81 : decode cX7_add 81 = .ok (.iastore, 1) := by decide +kernel
theorem dX7_add_82 : decode cX7_add 82 = .ok (.aload_n 0, 1) := by decide +kernel
theorem dX7_add_83 : decode cX7_add 83 = .ok (.getfield 23, 3) := by decide +kernel
theorem dX7_add_86 : decode cX7_add 86 = .ok (.bipush 8, 2) := by decide +kernel
theorem dX7_add_88 : decode cX7_add 88 = .ok (.dup2, 1) := by decide +kernel
theorem dX7_add_89 : decode cX7_add 89 = .ok (.iaload, 1) := by decide +kernel
theorem dX7_add_90 : decode cX7_add 90 = .ok (.iconst 1, 1) := by decide +kernel
theorem dX7_add_91 : decode cX7_add 91 = .ok (.iadd, 1) := by decide +kernel
theorem dX7_add_92 : decode cX7_add 92 = .ok (.iastore, 1) := by decide +kernel
theorem dX7_add_93 : decode cX7_add 93 = .ok (.return_, 1) := by decide +kernel
def fX7_add (m : Md) (z1 : Int32) (z2 : Int32) (z3 : Int32) (z4 : Int32) : Md := (bnd (mA m (m.2.2) (upd (m.2.1 (m.2.2)) (fX7_at ((m.2.1 (m.2.2)) 8) 0).toNatClampNeg z1)) (fun r6 => (bnd (mA r6 (r6.2.2) (upd (r6.2.1 (r6.2.2)) (fX7_at ((m.2.1 (m.2.2)) 8) 1).toNatClampNeg z2)) (fun r14 => (bnd (mA r14 (r14.2.2) (upd (r14.2.1 (r14.2.2)) (fX7_at ((m.2.1 (m.2.2)) 8) 2).toNatClampNeg z3)) (fun r22 => (bnd (mA r22 (r22.2.2) (upd (r22.2.1 (r22.2.2)) (fX7_at ((m.2.1 (m.2.2)) 8) 3).toNatClampNeg z3)) (fun r30 => (bnd (mA r30 (r30.2.2) (upd (r30.2.1 (r30.2.2)) (fX7_at ((m.2.1 (m.2.2)) 8) 4).toNatClampNeg z4)) (fun r38 => (bnd (mA r38 (r38.2.2) (upd (r38.2.1 (r38.2.2)) (fX7_at ((m.2.1 (m.2.2)) 8) 5).toNatClampNeg 0)) (fun r46 => (bnd (mA r46 (r46.2.2) (upd (r46.2.1 (r46.2.2)) 8 (((r46.2.1 (r46.2.2)) 8) + 1))) (fun r50 => r50))))))))))))))
def sX7_add (m : Md) (z1 : Int32) (z2 : Int32) (z3 : Int32) (z4 : Int32) : Prop := (vp_in (fX7_at ((m.2.1 (m.2.2)) 8) 0) 146 ∧ (bnd (mA m (m.2.2) (upd (m.2.1 (m.2.2)) (fX7_at ((m.2.1 (m.2.2)) 8) 0).toNatClampNeg z1)) (fun r6 => (vp_in (fX7_at ((m.2.1 (m.2.2)) 8) 1) 146 ∧ (bnd (mA r6 (r6.2.2) (upd (r6.2.1 (r6.2.2)) (fX7_at ((m.2.1 (m.2.2)) 8) 1).toNatClampNeg z2)) (fun r14 => (vp_in (fX7_at ((m.2.1 (m.2.2)) 8) 2) 146 ∧ (bnd (mA r14 (r14.2.2) (upd (r14.2.1 (r14.2.2)) (fX7_at ((m.2.1 (m.2.2)) 8) 2).toNatClampNeg z3)) (fun r22 => (vp_in (fX7_at ((m.2.1 (m.2.2)) 8) 3) 146 ∧ (bnd (mA r22 (r22.2.2) (upd (r22.2.1 (r22.2.2)) (fX7_at ((m.2.1 (m.2.2)) 8) 3).toNatClampNeg z3)) (fun r30 => (vp_in (fX7_at ((m.2.1 (m.2.2)) 8) 4) 146 ∧ (bnd (mA r30 (r30.2.2) (upd (r30.2.1 (r30.2.2)) (fX7_at ((m.2.1 (m.2.2)) 8) 4).toNatClampNeg z4)) (fun r38 => (vp_in (fX7_at ((m.2.1 (m.2.2)) 8) 5) 146 ∧ (bnd (mA r38 (r38.2.2) (upd (r38.2.1 (r38.2.2)) (fX7_at ((m.2.1 (m.2.2)) 8) 5).toNatClampNeg 0)) (fun r46 => (bnd (mA r46 (r46.2.2) (upd (r46.2.1 (r46.2.2)) 8 (((r46.2.1 (r46.2.2)) 8) + 1))) (fun r50 => True))))))))))))))))))))
set_option maxRecDepth 20000 in
theorem ctX7_add {l : Launch} {G : GM} {K : Nat → Option va_E} {h : List va_E} {m : Md} (hm : HM G K h m) (z1 : Int32) (z2 : Int32) (z3 : Int32) (z4 : Int32) (hs : sX7_add m z1 z2 z3 z4) : Ct l G mX7_add 1 0 0 [.ref (gz G + 221), .int z1, .int z2, .int z3, .int z4] h (fun v h1 => ∃ r, (fX7_add m z1 z2 z3 z4) = r ∧ v = none ∧ HM G K h1 r) := by
  show Tr l G mX7_add 1 0 0 0 [(0, .ref (gz G + 221)), (1, .int z1), (2, .int z2), (3, .int z3), (4, .int z4)] [] h _
  unfold sX7_add at hs
  refine am_aload_n dX7_add_0 0 rfl ?_
  refine am_get (v := .ref (gz G + (222 + (m.2.2)))) dX7_add_1 kGX7_23 (hmc221 (m := m) hm) rfl ?_
  refine am_bipush (v := 8) dX7_add_4 (by decide) ?_
  refine am_iald (f := (m.2.1 (m.2.2))) dX7_add_6 (hmN (m := m) hm) (vp_lit (by decide)) ?_
  rw [tl8]
  refine am_istore dX7_add_7 (by decide) (lv' := [(5, .int ((m.2.1 (m.2.2)) 8)), (0, .ref (gz G + 221)), (1, .int z1), (2, .int z2), (3, .int z3), (4, .int z4)]) rfl ?_
  refine am_aload_n dX7_add_9 1 rfl ?_
  refine am_get (v := .ref (gz G + (222 + (m.2.2)))) dX7_add_10 kGX7_23 (hmc221 (m := m) hm) rfl ?_
  refine am_iload dX7_add_13 0 rfl ?_
  refine am_iconst (v := 0) dX7_add_15 (by decide) ?_
  refine am_callS (As := [.int ((m.2.1 (m.2.2)) 8), .int 0]) (rest := [.ref (gz G + (222 + (m.2.2)))]) dX7_add_16 kMX7_52 rfl  rfl (Nat.le_of_ble_eq_true rfl) (d2 := 0) (by decide) (k2 := 0) (Nat.zero_le _) (u2 := 0) (Nat.zero_le _) (Nat.le_of_ble_eq_true rfl) (ctX7_at  ((m.2.1 (m.2.2)) 8) 0 ) (fun v1 h2 q3 => ?_)
  obtain ⟨rfl, rfl⟩ := q3
  refine am_iload_n dX7_add_19 2 rfl ?_
  obtain ⟨i4, hs⟩ := hs
  refine am_iast (f := (m.2.1 (m.2.2))) dX7_add_20 (hmN (m := m) hm) i4 ?_
  have w5 := hmNw hm (upd (m.2.1 (m.2.2)) (fX7_at ((m.2.1 (m.2.2)) 8) 0).toNatClampNeg z1)
  obtain ⟨r6, e7⟩ : ∃ x, (mA m (m.2.2) (upd (m.2.1 (m.2.2)) (fX7_at ((m.2.1 (m.2.2)) 8) 0).toNatClampNeg z1)) = x := ⟨_, rfl⟩
  have w8 := hm_eq e7 w5
  have hs := bnd_p e7 hs
  refine am_aload_n dX7_add_21 1 rfl ?_
  refine am_get (v := .ref (gz G + (222 + (r6.2.2)))) dX7_add_22 kGX7_23 (hmc221 (m := r6) w8) rfl ?_
  refine am_iload dX7_add_25 0 rfl ?_
  refine am_iconst (v := 1) dX7_add_27 (by decide) ?_
  refine am_callS (As := [.int ((m.2.1 (m.2.2)) 8), .int 1]) (rest := [.ref (gz G + (222 + (r6.2.2)))]) dX7_add_28 kMX7_52 rfl  rfl (Nat.le_of_ble_eq_true rfl) (d2 := 0) (by decide) (k2 := 0) (Nat.zero_le _) (u2 := 0) (Nat.zero_le _) (Nat.le_of_ble_eq_true rfl) (ctX7_at  ((m.2.1 (m.2.2)) 8) 1 ) (fun v9 h10 q11 => ?_)
  obtain ⟨rfl, rfl⟩ := q11
  refine am_iload_n dX7_add_31 3 rfl ?_
  obtain ⟨i12, hs⟩ := hs
  refine am_iast (f := (r6.2.1 (r6.2.2))) dX7_add_32 (hmN (m := r6) w8) i12 ?_
  have w13 := hmNw w8 (upd (r6.2.1 (r6.2.2)) (fX7_at ((m.2.1 (m.2.2)) 8) 1).toNatClampNeg z2)
  obtain ⟨r14, e15⟩ : ∃ x, (mA r6 (r6.2.2) (upd (r6.2.1 (r6.2.2)) (fX7_at ((m.2.1 (m.2.2)) 8) 1).toNatClampNeg z2)) = x := ⟨_, rfl⟩
  have w16 := hm_eq e15 w13
  have hs := bnd_p e15 hs
  refine am_aload_n dX7_add_33 1 rfl ?_
  refine am_get (v := .ref (gz G + (222 + (r14.2.2)))) dX7_add_34 kGX7_23 (hmc221 (m := r14) w16) rfl ?_
  refine am_iload dX7_add_37 0 rfl ?_
  refine am_iconst (v := 2) dX7_add_39 (by decide) ?_
  refine am_callS (As := [.int ((m.2.1 (m.2.2)) 8), .int 2]) (rest := [.ref (gz G + (222 + (r14.2.2)))]) dX7_add_40 kMX7_52 rfl  rfl (Nat.le_of_ble_eq_true rfl) (d2 := 0) (by decide) (k2 := 0) (Nat.zero_le _) (u2 := 0) (Nat.zero_le _) (Nat.le_of_ble_eq_true rfl) (ctX7_at  ((m.2.1 (m.2.2)) 8) 2 ) (fun v17 h18 q19 => ?_)
  obtain ⟨rfl, rfl⟩ := q19
  refine am_iload_n dX7_add_43 4 rfl ?_
  obtain ⟨i20, hs⟩ := hs
  refine am_iast (f := (r14.2.1 (r14.2.2))) dX7_add_44 (hmN (m := r14) w16) i20 ?_
  have w21 := hmNw w16 (upd (r14.2.1 (r14.2.2)) (fX7_at ((m.2.1 (m.2.2)) 8) 2).toNatClampNeg z3)
  obtain ⟨r22, e23⟩ : ∃ x, (mA r14 (r14.2.2) (upd (r14.2.1 (r14.2.2)) (fX7_at ((m.2.1 (m.2.2)) 8) 2).toNatClampNeg z3)) = x := ⟨_, rfl⟩
  have w24 := hm_eq e23 w21
  have hs := bnd_p e23 hs
  refine am_aload_n dX7_add_45 1 rfl ?_
  refine am_get (v := .ref (gz G + (222 + (r22.2.2)))) dX7_add_46 kGX7_23 (hmc221 (m := r22) w24) rfl ?_
  refine am_iload dX7_add_49 0 rfl ?_
  refine am_iconst (v := 3) dX7_add_51 (by decide) ?_
  refine am_callS (As := [.int ((m.2.1 (m.2.2)) 8), .int 3]) (rest := [.ref (gz G + (222 + (r22.2.2)))]) dX7_add_52 kMX7_52 rfl  rfl (Nat.le_of_ble_eq_true rfl) (d2 := 0) (by decide) (k2 := 0) (Nat.zero_le _) (u2 := 0) (Nat.zero_le _) (Nat.le_of_ble_eq_true rfl) (ctX7_at  ((m.2.1 (m.2.2)) 8) 3 ) (fun v25 h26 q27 => ?_)
  obtain ⟨rfl, rfl⟩ := q27
  refine am_iload_n dX7_add_55 4 rfl ?_
  obtain ⟨i28, hs⟩ := hs
  refine am_iast (f := (r22.2.1 (r22.2.2))) dX7_add_56 (hmN (m := r22) w24) i28 ?_
  have w29 := hmNw w24 (upd (r22.2.1 (r22.2.2)) (fX7_at ((m.2.1 (m.2.2)) 8) 3).toNatClampNeg z3)
  obtain ⟨r30, e31⟩ : ∃ x, (mA r22 (r22.2.2) (upd (r22.2.1 (r22.2.2)) (fX7_at ((m.2.1 (m.2.2)) 8) 3).toNatClampNeg z3)) = x := ⟨_, rfl⟩
  have w32 := hm_eq e31 w29
  have hs := bnd_p e31 hs
  refine am_aload_n dX7_add_57 1 rfl ?_
  refine am_get (v := .ref (gz G + (222 + (r30.2.2)))) dX7_add_58 kGX7_23 (hmc221 (m := r30) w32) rfl ?_
  refine am_iload dX7_add_61 0 rfl ?_
  refine am_iconst (v := 4) dX7_add_63 (by decide) ?_
  refine am_callS (As := [.int ((m.2.1 (m.2.2)) 8), .int 4]) (rest := [.ref (gz G + (222 + (r30.2.2)))]) dX7_add_64 kMX7_52 rfl  rfl (Nat.le_of_ble_eq_true rfl) (d2 := 0) (by decide) (k2 := 0) (Nat.zero_le _) (u2 := 0) (Nat.zero_le _) (Nat.le_of_ble_eq_true rfl) (ctX7_at  ((m.2.1 (m.2.2)) 8) 4 ) (fun v33 h34 q35 => ?_)
  obtain ⟨rfl, rfl⟩ := q35
  refine am_iload dX7_add_67 5 rfl ?_
  obtain ⟨i36, hs⟩ := hs
  refine am_iast (f := (r30.2.1 (r30.2.2))) dX7_add_69 (hmN (m := r30) w32) i36 ?_
  have w37 := hmNw w32 (upd (r30.2.1 (r30.2.2)) (fX7_at ((m.2.1 (m.2.2)) 8) 4).toNatClampNeg z4)
  obtain ⟨r38, e39⟩ : ∃ x, (mA r30 (r30.2.2) (upd (r30.2.1 (r30.2.2)) (fX7_at ((m.2.1 (m.2.2)) 8) 4).toNatClampNeg z4)) = x := ⟨_, rfl⟩
  have w40 := hm_eq e39 w37
  have hs := bnd_p e39 hs
  refine am_aload_n dX7_add_70 1 rfl ?_
  refine am_get (v := .ref (gz G + (222 + (r38.2.2)))) dX7_add_71 kGX7_23 (hmc221 (m := r38) w40) rfl ?_
  refine am_iload dX7_add_74 0 rfl ?_
  refine am_iconst (v := 5) dX7_add_76 (by decide) ?_
  refine am_callS (As := [.int ((m.2.1 (m.2.2)) 8), .int 5]) (rest := [.ref (gz G + (222 + (r38.2.2)))]) dX7_add_77 kMX7_52 rfl  rfl (Nat.le_of_ble_eq_true rfl) (d2 := 0) (by decide) (k2 := 0) (Nat.zero_le _) (u2 := 0) (Nat.zero_le _) (Nat.le_of_ble_eq_true rfl) (ctX7_at  ((m.2.1 (m.2.2)) 8) 5 ) (fun v41 h42 q43 => ?_)
  obtain ⟨rfl, rfl⟩ := q43
  refine am_iconst (v := 0) dX7_add_80 (by decide) ?_
  obtain ⟨i44, hs⟩ := hs
  refine am_iast (f := (r38.2.1 (r38.2.2))) dX7_add_81 (hmN (m := r38) w40) i44 ?_
  have w45 := hmNw w40 (upd (r38.2.1 (r38.2.2)) (fX7_at ((m.2.1 (m.2.2)) 8) 5).toNatClampNeg 0)
  obtain ⟨r46, e47⟩ : ∃ x, (mA r38 (r38.2.2) (upd (r38.2.1 (r38.2.2)) (fX7_at ((m.2.1 (m.2.2)) 8) 5).toNatClampNeg 0)) = x := ⟨_, rfl⟩
  have w48 := hm_eq e47 w45
  have hs := bnd_p e47 hs
  refine am_aload_n dX7_add_82 1 rfl ?_
  refine am_get (v := .ref (gz G + (222 + (r46.2.2)))) dX7_add_83 kGX7_23 (hmc221 (m := r46) w48) rfl ?_
  refine am_bipush (v := 8) dX7_add_86 (by decide) ?_
  refine am_dup2 dX7_add_88 rfl rfl ?_
  refine am_iald (f := (r46.2.1 (r46.2.2))) dX7_add_89 (hmN (m := r46) w48) (vp_lit (by decide)) ?_
  rw [tl8]
  refine am_iconst (v := 1) dX7_add_90 (by decide) ?_
  refine am_iadd dX7_add_91 ?_
  refine am_iast (f := (r46.2.1 (r46.2.2))) dX7_add_92 (hmN (m := r46) w48) (vp_lit (by decide)) ?_
  rw [tl8]
  have w49 := hmNw w48 (upd (r46.2.1 (r46.2.2)) 8 (((r46.2.1 (r46.2.2)) 8) + 1))
  obtain ⟨r50, e51⟩ : ∃ x, (mA r46 (r46.2.2) (upd (r46.2.1 (r46.2.2)) 8 (((r46.2.1 (r46.2.2)) 8) + 1))) = x := ⟨_, rfl⟩
  have w52 := hm_eq e51 w49
  have hs := bnd_p e51 hs
  exact am_return dX7_add_93 rfl ⟨_, bnd_eq e7 (bnd_eq e15 (bnd_eq e23 (bnd_eq e31 (bnd_eq e39 (bnd_eq e47 (bnd_eq e51 (rfl))))))), rfl, w52⟩

theorem dX7_times_0 : decode cX7_times 0 = .ok (.aload_n 0, 1) := by decide +kernel
theorem dX7_times_1 : decode cX7_times 1 = .ok (.invokevirtual 229, 3) := by decide +kernel
theorem dX7_times_4 : decode cX7_times 4 = .ok (.ifCond .eq 48, 3) := by decide +kernel
theorem dX7_times_7 : decode cX7_times 7 = .ok (.aload_n 0, 1) := by decide +kernel
theorem dX7_times_8 : decode cX7_times 8 = .ok (.getfield 245, 3) := by decide +kernel
theorem dX7_times_11 : decode cX7_times 11 = .ok (.iconst 2, 1) := by decide +kernel
theorem dX7_times_12 : decode cX7_times 12 = .ok (.if_icmp .ne 40, 3) := by decide +kernel
theorem dX7_times_15 : decode cX7_times 15 = .ok (.aload_n 0, 1) := by decide +kernel
theorem dX7_times_16 : decode cX7_times 16 = .ok (.getfield 256, 3) := by decide +kernel
theorem dX7_times_19 : decode cX7_times 19 = .ok (.i2l, 1) := by decide +kernel
theorem dX7_times_20 : decode cX7_times 20 = .ok (.lconst 1, 1) := by decide +kernel
theorem dX7_times_21 : decode cX7_times 21 = .ok (.ldc2_w 341, 3) := by decide +kernel
theorem dX7_times_24 : decode cX7_times 24 = .ok (.invokestatic 56, 3) := by decide +kernel
theorem dX7_times_27 : decode cX7_times 27 = .ok (.ifCond .eq 25, 3) := by decide +kernel
theorem dX7_times_30 : decode cX7_times 30 = .ok (.aload_n 0, 1) := by decide +kernel
theorem dX7_times_31 : decode cX7_times 31 = .ok (.getfield 23, 3) := by decide +kernel
theorem dX7_times_34 : decode cX7_times 34 = .ok (.bipush 8, 2) := by decide +kernel
theorem dX7_times_36 : decode cX7_times 36 = .ok (.iaload, 1) := by decide +kernel
theorem dX7_times_37 : decode cX7_times 37 = .ok (.aload_n 0, 1) := by decide +kernel
theorem dX7_times_38 : decode cX7_times 38 = .ok (.getfield 256, 3) := by decide +kernel
theorem dX7_times_41 : decode cX7_times 41 = .ok (.iadd, 1) := by decide +kernel
theorem dX7_times_42 : decode cX7_times 42 = .ok (.bipush 14, 2) := by decide +kernel
theorem dX7_times_44 : decode cX7_times 44 = .ok (.if_icmp .le 8, 3) := by decide +kernel
theorem dX7_times_47 : decode cX7_times 47 = .ok (.aload_n 0, 1) := by decide +kernel
theorem dX7_times_48 : decode cX7_times 48 = .ok (.iconst 5, 1) := by decide +kernel
theorem dX7_times_49 : decode cX7_times 49 = .ok (.invokevirtual 300, 3) := by decide +kernel
theorem dX7_times_52 : decode cX7_times 52 = .ok (.aload_n 0, 1) := by decide +kernel
theorem dX7_times_53 : decode cX7_times 53 = .ok (.iconst 1, 1) := by decide +kernel
theorem dX7_times_54 : decode cX7_times 54 = .ok (.bipush 14, 2) := by decide +kernel
theorem dX7_times_56 : decode cX7_times 56 = .ok (.invokevirtual 322, 3) := by decide +kernel
theorem dX7_times_59 : decode cX7_times 59 = .ok (.ireturn, 1) := by decide +kernel
def fX7_times (m : Md)  : Int32 × Md := (if (fX7_good m ) = 0 then (bnd (fX7_number m 1 14) (fun r9 => (r9.1, r9.2))) else (if (m.1 7) = 2 then (if (fX7_in ((m.1 8).toInt64) 1 14) = 0 then (bnd (fX7_number m 1 14) (fun r28 => (r28.1, r28.2))) else (if (((m.2.1 (m.2.2)) 8) + (m.1 8)) ≤ 14 then (bnd (fX7_number m 1 14) (fun r36 => (r36.1, r36.2))) else (bnd (fX7_fail m 5) (fun r42 => (bnd (fX7_number r42 1 14) (fun r49 => (r49.1, r49.2))))))) else (bnd (fX7_number m 1 14) (fun r17 => (r17.1, r17.2)))))
def sX7_times (m : Md)  : Prop := (((fX7_good m ) = 0 → ((sX7_number m 1 14) ∧ (bnd (fX7_number m 1 14) (fun r9 => True)))) ∧ (¬ (fX7_good m ) = 0 → (((m.1 7) = 2 → (((fX7_in ((m.1 8).toInt64) 1 14) = 0 → ((sX7_number m 1 14) ∧ (bnd (fX7_number m 1 14) (fun r28 => True)))) ∧ (¬ (fX7_in ((m.1 8).toInt64) 1 14) = 0 → (((((m.2.1 (m.2.2)) 8) + (m.1 8)) ≤ 14 → ((sX7_number m 1 14) ∧ (bnd (fX7_number m 1 14) (fun r36 => True)))) ∧ (¬ (((m.2.1 (m.2.2)) 8) + (m.1 8)) ≤ 14 → (bnd (fX7_fail m 5) (fun r42 => ((sX7_number r42 1 14) ∧ (bnd (fX7_number r42 1 14) (fun r49 => True)))))))))) ∧ (¬ (m.1 7) = 2 → ((sX7_number m 1 14) ∧ (bnd (fX7_number m 1 14) (fun r17 => True)))))))
set_option maxRecDepth 20000 in
theorem ctX7_times {l : Launch} {G : GM} {K : Nat → Option va_E} {h : List va_E} {m : Md} (hm : HM G K h m)  (hs : sX7_times m ) : Ct l G mX7_times 4 0 0 [.ref (gz G + 221)] h (fun v h1 => ∃ r, (fX7_times m ) = r ∧ v = some (.int r.1) ∧ HM G K h1 r.2) := by
  show Tr l G mX7_times 4 0 0 0 [(0, .ref (gz G + 221))] [] h _
  unfold sX7_times at hs
  refine am_aload_n dX7_times_0 0 rfl ?_
  refine am_callV (As := []) (rest := []) dX7_times_1 kMX7_229 rfl (hmc221 (m := m) hm) rfl rfl (Nat.le_of_ble_eq_true rfl) (d2 := 0) (by decide) (k2 := 0) (Nat.zero_le _) (u2 := 0) (Nat.zero_le _) (Nat.le_of_ble_eq_true rfl) (ctX7_good (m := m) hm  ) (fun v1 h2 q3 => ?_)
  obtain ⟨rfl, rfl⟩ := q3
  refine am_if_eq dX7_times_4 (by decide : ((4 : Nat) : Int) + (48) = ((52 : Nat) : Int)) (fun c4 => ?_) (fun c4 => ?_)
  · have hs := hs.1 c4
    refine am_aload_n dX7_times_52 0 rfl ?_
    refine am_iconst (v := 1) dX7_times_53 (by decide) ?_
    refine am_bipush (v := 14) dX7_times_54 (by decide) ?_
    obtain ⟨i5, hs⟩ := hs
    refine am_callV (As := [.int 1, .int 14]) (rest := []) dX7_times_56 kMX7_322 rfl (hmc221 (m := m) hm) rfl rfl (Nat.le_of_ble_eq_true rfl) (d2 := 3) (by decide) (k2 := 0) (Nat.zero_le _) (u2 := 0) (Nat.zero_le _) (Nat.le_of_ble_eq_true rfl) (ctX7_number (m := m) hm 1 14 i5) (fun v6 h7 q8 => ?_)
    obtain ⟨r9, e10, rfl, w11⟩ := q8
    have hs := bnd_p e10 hs
    exact am_ireturn dX7_times_59 rfl rfl ⟨_, ifp c4 (bnd_eq e10 (rfl)), rfl, w11⟩
  · have hs := hs.2 c4
    refine am_aload_n dX7_times_7 0 rfl ?_
    refine am_get (v := .int (m.1 7)) dX7_times_8 kGX7_245 (hmc221 (m := m) hm) rfl ?_
    refine am_iconst (v := 2) dX7_times_11 (by decide) ?_
    refine am_icmp_ne dX7_times_12 (by decide : ((12 : Nat) : Int) + (40) = ((52 : Nat) : Int)) (fun c12 => ?_) (fun c12 => ?_)
    · have hs := hs.2 c12
      refine am_aload_n dX7_times_52 0 rfl ?_
      refine am_iconst (v := 1) dX7_times_53 (by decide) ?_
      refine am_bipush (v := 14) dX7_times_54 (by decide) ?_
      obtain ⟨i13, hs⟩ := hs
      refine am_callV (As := [.int 1, .int 14]) (rest := []) dX7_times_56 kMX7_322 rfl (hmc221 (m := m) hm) rfl rfl (Nat.le_of_ble_eq_true rfl) (d2 := 3) (by decide) (k2 := 0) (Nat.zero_le _) (u2 := 0) (Nat.zero_le _) (Nat.le_of_ble_eq_true rfl) (ctX7_number (m := m) hm 1 14 i13) (fun v14 h15 q16 => ?_)
      obtain ⟨r17, e18, rfl, w19⟩ := q16
      have hs := bnd_p e18 hs
      exact am_ireturn dX7_times_59 rfl rfl ⟨_, ifn c4 (ifn c12 (bnd_eq e18 (rfl))), rfl, w19⟩
    · have hs := hs.1 c12
      refine am_aload_n dX7_times_15 0 rfl ?_
      refine am_get (v := .int (m.1 8)) dX7_times_16 kGX7_256 (hmc221 (m := m) hm) rfl ?_
      refine am_i2l (v := (m.1 8).toInt64) dX7_times_19 rfl ?_
      refine am_lconst (v := 1) dX7_times_20 (by decide) ?_
      refine am_ldc2 (v := 14) dX7_times_21 kKX7_341 ?_
      refine am_callS (As := [.long ((m.1 8).toInt64), .long 1, .long 14]) (rest := []) dX7_times_24 kMX7_56 rfl  rfl (Nat.le_of_ble_eq_true rfl) (d2 := 0) (by decide) (k2 := 0) (Nat.zero_le _) (u2 := 0) (Nat.zero_le _) (Nat.le_of_ble_eq_true rfl) (ctX7_in  ((m.1 8).toInt64) 1 14 ) (fun v20 h21 q22 => ?_)
      obtain ⟨rfl, rfl⟩ := q22
      refine am_if_eq dX7_times_27 (by decide : ((27 : Nat) : Int) + (25) = ((52 : Nat) : Int)) (fun c23 => ?_) (fun c23 => ?_)
      · have hs := hs.1 c23
        refine am_aload_n dX7_times_52 0 rfl ?_
        refine am_iconst (v := 1) dX7_times_53 (by decide) ?_
        refine am_bipush (v := 14) dX7_times_54 (by decide) ?_
        obtain ⟨i24, hs⟩ := hs
        refine am_callV (As := [.int 1, .int 14]) (rest := []) dX7_times_56 kMX7_322 rfl (hmc221 (m := m) hm) rfl rfl (Nat.le_of_ble_eq_true rfl) (d2 := 3) (by decide) (k2 := 0) (Nat.zero_le _) (u2 := 0) (Nat.zero_le _) (Nat.le_of_ble_eq_true rfl) (ctX7_number (m := m) hm 1 14 i24) (fun v25 h26 q27 => ?_)
        obtain ⟨r28, e29, rfl, w30⟩ := q27
        have hs := bnd_p e29 hs
        exact am_ireturn dX7_times_59 rfl rfl ⟨_, ifn c4 (ifp c12 (ifp c23 (bnd_eq e29 (rfl)))), rfl, w30⟩
      · have hs := hs.2 c23
        refine am_aload_n dX7_times_30 0 rfl ?_
        refine am_get (v := .ref (gz G + (222 + (m.2.2)))) dX7_times_31 kGX7_23 (hmc221 (m := m) hm) rfl ?_
        refine am_bipush (v := 8) dX7_times_34 (by decide) ?_
        refine am_iald (f := (m.2.1 (m.2.2))) dX7_times_36 (hmN (m := m) hm) (vp_lit (by decide)) ?_
        rw [tl8]
        refine am_aload_n dX7_times_37 0 rfl ?_
        refine am_get (v := .int (m.1 8)) dX7_times_38 kGX7_256 (hmc221 (m := m) hm) rfl ?_
        refine am_iadd dX7_times_41 ?_
        refine am_bipush (v := 14) dX7_times_42 (by decide) ?_
        refine am_icmp_le dX7_times_44 (by decide : ((44 : Nat) : Int) + (8) = ((52 : Nat) : Int)) (fun c31 => ?_) (fun c31 => ?_)
        · have hs := hs.1 c31
          refine am_aload_n dX7_times_52 0 rfl ?_
          refine am_iconst (v := 1) dX7_times_53 (by decide) ?_
          refine am_bipush (v := 14) dX7_times_54 (by decide) ?_
          obtain ⟨i32, hs⟩ := hs
          refine am_callV (As := [.int 1, .int 14]) (rest := []) dX7_times_56 kMX7_322 rfl (hmc221 (m := m) hm) rfl rfl (Nat.le_of_ble_eq_true rfl) (d2 := 3) (by decide) (k2 := 0) (Nat.zero_le _) (u2 := 0) (Nat.zero_le _) (Nat.le_of_ble_eq_true rfl) (ctX7_number (m := m) hm 1 14 i32) (fun v33 h34 q35 => ?_)
          obtain ⟨r36, e37, rfl, w38⟩ := q35
          have hs := bnd_p e37 hs
          exact am_ireturn dX7_times_59 rfl rfl ⟨_, ifn c4 (ifp c12 (ifn c23 (ifp c31 (bnd_eq e37 (rfl))))), rfl, w38⟩
        · have hs := hs.2 c31
          refine am_aload_n dX7_times_47 0 rfl ?_
          refine am_iconst (v := 5) dX7_times_48 (by decide) ?_
          refine am_callV (As := [.int 5]) (rest := []) dX7_times_49 kMX7_300 rfl (hmc221 (m := m) hm) rfl rfl (Nat.le_of_ble_eq_true rfl) (d2 := 1) (by decide) (k2 := 0) (Nat.zero_le _) (u2 := 0) (Nat.zero_le _) (Nat.le_of_ble_eq_true rfl) (ctX7_fail (m := m) hm 5 ) (fun v39 h40 q41 => ?_)
          obtain ⟨r42, e43, rfl, w44⟩ := q41
          have hs := bnd_p e43 hs
          refine am_aload_n dX7_times_52 0 rfl ?_
          refine am_iconst (v := 1) dX7_times_53 (by decide) ?_
          refine am_bipush (v := 14) dX7_times_54 (by decide) ?_
          obtain ⟨i45, hs⟩ := hs
          refine am_callV (As := [.int 1, .int 14]) (rest := []) dX7_times_56 kMX7_322 rfl (hmc221 (m := r42) w44) rfl rfl (Nat.le_of_ble_eq_true rfl) (d2 := 3) (by decide) (k2 := 0) (Nat.zero_le _) (u2 := 0) (Nat.zero_le _) (Nat.le_of_ble_eq_true rfl) (ctX7_number (m := r42) w44 1 14 i45) (fun v46 h47 q48 => ?_)
          obtain ⟨r49, e50, rfl, w51⟩ := q48
          have hs := bnd_p e50 hs
          exact am_ireturn dX7_times_59 rfl rfl ⟨_, ifn c4 (ifp c12 (ifn c23 (ifn c31 (bnd_eq e43 (bnd_eq e50 (rfl)))))), rfl, w51⟩

theorem dX7_parsePiece_0 : decode cX7_parsePiece 0 = .ok (.aload_n 0, 1) := by decide +kernel
theorem dX7_parsePiece_1 : decode cX7_parsePiece 1 = .ok (.bipush 8, 2) := by decide +kernel
theorem dX7_parsePiece_3 : decode cX7_parsePiece 3 = .ok (.bipush 14, 2) := by decide +kernel
theorem dX7_parsePiece_5 : decode cX7_parsePiece 5 = .ok (.invokevirtual 325, 3) := by decide +kernel
theorem dX7_parsePiece_8 : decode cX7_parsePiece 8 = .ok (.aload_n 0, 1) := by decide +kernel
theorem dX7_parsePiece_9 : decode cX7_parsePiece 9 = .ok (.bipush 10, 2) := by decide +kernel
theorem dX7_parsePiece_11 : decode cX7_parsePiece 11 = .ok (.iconst 3, 1) := by decide +kernel
theorem dX7_parsePiece_12 : decode cX7_parsePiece 12 = .ok (.aload_n 0, 1) := by decide +kernel
theorem dX7_parsePiece_13 : decode cX7_parsePiece 13 = .ok (.getfield 23, 3) := by decide +kernel
theorem dX7_parsePiece_16 : decode cX7_parsePiece 16 = .ok (.iconst 5, 1) := by decide +kernel
theorem dX7_parsePiece_17 : decode cX7_parsePiece 17 = .ok (.iaload, 1) := by decide +kernel
theorem dX7_parsePiece_18 : decode cX7_parsePiece 18 = .ok (.aload_n 0, 1) := by decide +kernel
theorem dX7_parsePiece_19 : decode cX7_parsePiece 19 = .ok (.invokevirtual 312, 3) := by decide +kernel
theorem dX7_parsePiece_22 : decode cX7_parsePiece 22 = .ok (.invokevirtual 315, 3) := by decide +kernel
theorem dX7_parsePiece_25 : decode cX7_parsePiece 25 = .ok (.istore_n 1, 1) := by decide +kernel
theorem dX7_parsePiece_26 : decode cX7_parsePiece 26 = .ok (.aload_n 0, 1) := by decide +kernel
theorem dX7_parsePiece_27 : decode cX7_parsePiece 27 = .ok (.invokevirtual 229, 3) := by decide +kernel
theorem dX7_parsePiece_30 : decode cX7_parsePiece 30 = .ok (.ifCond .eq 13, 3) := by decide +kernel
theorem dX7_parsePiece_33 : decode cX7_parsePiece 33 = .ok (.iload_n 1, 1) := by decide +kernel
theorem dX7_parsePiece_34 : decode cX7_parsePiece 34 = .ok (.iconst (-1), 1) := by decide +kernel
theorem dX7_parsePiece_35 : decode cX7_parsePiece 35 = .ok (.if_icmp .ne 8, 3) := by decide +kernel
theorem dX7_parsePiece_38 : decode cX7_parsePiece 38 = .ok (.aload_n 0, 1) := by decide +kernel
theorem dX7_parsePiece_39 : decode cX7_parsePiece 39 = .ok (.iconst 4, 1) := by decide +kernel
theorem dX7_parsePiece_40 : decode cX7_parsePiece 40 = .ok (.invokevirtual 300, 3) := by decide +kernel
theorem dX7_parsePiece_43 : decode cX7_parsePiece 43 = .ok (.aload_n 0, 1) := by decide +kernel
theorem dX7_parsePiece_44 : decode cX7_parsePiece 44 = .ok (.invokevirtual 303, 3) := by decide +kernel
theorem dX7_parsePiece_47 : decode cX7_parsePiece 47 = .ok (.aload_n 0, 1) := by decide +kernel
theorem dX7_parsePiece_48 : decode cX7_parsePiece 48 = .ok (.invokevirtual 295, 3) := by decide +kernel
theorem dX7_parsePiece_51 : decode cX7_parsePiece 51 = .ok (.istore_n 2, 1) := by decide +kernel
theorem dX7_parsePiece_52 : decode cX7_parsePiece 52 = .ok (.aload_n 0, 1) := by decide +kernel
theorem dX7_parsePiece_53 : decode cX7_parsePiece 53 = .ok (.invokevirtual 229, 3) := by decide +kernel
theorem dX7_parsePiece_56 : decode cX7_parsePiece 56 = .ok (.ifCond .eq 13, 3) := by decide +kernel
theorem dX7_parsePiece_59 : decode cX7_parsePiece 59 = .ok (.iload_n 2, 1) := by decide +kernel
theorem dX7_parsePiece_60 : decode cX7_parsePiece 60 = .ok (.iconst (-1), 1) := by decide +kernel
theorem dX7_parsePiece_61 : decode cX7_parsePiece 61 = .ok (.if_icmp .ne 8, 3) := by decide +kernel
theorem dX7_parsePiece_64 : decode cX7_parsePiece 64 = .ok (.aload_n 0, 1) := by decide +kernel
theorem dX7_parsePiece_65 : decode cX7_parsePiece 65 = .ok (.iconst 1, 1) := by decide +kernel
theorem dX7_parsePiece_66 : decode cX7_parsePiece 66 = .ok (.invokevirtual 300, 3) := by decide +kernel
theorem dX7_parsePiece_69 : decode cX7_parsePiece 69 = .ok (.aload_n 0, 1) := by decide +kernel
theorem dX7_parsePiece_70 : decode cX7_parsePiece 70 = .ok (.invokevirtual 303, 3) := by decide +kernel
theorem dX7_parsePiece_73 : decode cX7_parsePiece 73 = .ok (.aload_n 0, 1) := by decide +kernel
theorem dX7_parsePiece_74 : decode cX7_parsePiece 74 = .ok (.sipush 500, 3) := by decide +kernel
theorem dX7_parsePiece_77 : decode cX7_parsePiece 77 = .ok (.invokevirtual 332, 3) := by decide +kernel
theorem dX7_parsePiece_80 : decode cX7_parsePiece 80 = .ok (.istore_n 3, 1) := by decide +kernel
theorem dX7_parsePiece_81 : decode cX7_parsePiece 81 = .ok (.aload_n 0, 1) := by decide +kernel
theorem dX7_parsePiece_82 : decode cX7_parsePiece 82 = .ok (.iconst 0, 1) := by decide +kernel
theorem dX7_parsePiece_83 : decode cX7_parsePiece 83 = .ok (.sipush 255, 3) := by decide +kernel
theorem dX7_parsePiece_86 : decode cX7_parsePiece 86 = .ok (.invokevirtual 322, 3) := by decide +kernel
theorem dX7_parsePiece_89 : decode cX7_parsePiece 89 = .ok (.istore 4, 2) := by decide +kernel
theorem dX7_parsePiece_91 : decode cX7_parsePiece 91 = .ok (.iconst 1, 1) := by decide +kernel
theorem dX7_parsePiece_92 : decode cX7_parsePiece 92 = .ok (.istore 5, 2) := by decide +kernel
theorem dX7_parsePiece_94 : decode cX7_parsePiece 94 = .ok (.aload_n 0, 1) := by decide +kernel
theorem dX7_parsePiece_95 : decode cX7_parsePiece 95 = .ok (.ldc_w 298, 3) := by decide +kernel
theorem dX7_parsePiece_98 : decode cX7_parsePiece 98 = .ok (.invokevirtual 274, 3) := by decide +kernel
theorem dX7_parsePiece_101 : decode cX7_parsePiece 101 = .ok (.ifCond .eq 13, 3) := by decide +kernel
theorem dX7_parsePiece_104 : decode cX7_parsePiece 104 = .ok (.aload_n 0, 1) := by decide +kernel
theorem dX7_parsePiece_105 : decode cX7_parsePiece 105 = .ok (.invokevirtual 260, 3) := by decide +kernel
theorem dX7_parsePiece_108 : decode cX7_parsePiece 108 = .ok (.aload_n 0, 1) := by decide +kernel
theorem dX7_parsePiece_109 : decode cX7_parsePiece 109 = .ok (.invokevirtual 335, 3) := by decide +kernel
theorem dX7_parsePiece_112 : decode cX7_parsePiece 112 = .ok (.istore 5, 2) := by decide +kernel
theorem dX7_parsePiece_114 : decode cX7_parsePiece 114 = .ok (.iconst 0, 1) := by decide +kernel
theorem dX7_parsePiece_115 : decode cX7_parsePiece 115 = .ok (.istore 6, 2) := by decide +kernel
theorem dX7_parsePiece_117 : decode cX7_parsePiece 117 = .ok (.iload 6, 2) := by decide +kernel
theorem dX7_parsePiece_119 : decode cX7_parsePiece 119 = .ok (.iload 5, 2) := by decide +kernel
theorem dX7_parsePiece_121 : decode cX7_parsePiece 121 = .ok (.if_icmp .ge 25, 3) := by decide +kernel
theorem dX7_parsePiece_124 : decode cX7_parsePiece 124 = .ok (.aload_n 0, 1) := by decide +kernel
theorem dX7_parsePiece_125 : decode cX7_parsePiece 125 = .ok (.invokevirtual 229, 3) := by decide +kernel
theorem dX7_parsePiece_128 : decode cX7_parsePiece 128 = .ok (.ifCond .eq 18, 3) := by decide +kernel
theorem dX7_parsePiece_131 : decode cX7_parsePiece 131 = .ok (.aload_n 0, 1) := by decide +kernel
theorem dX7_parsePiece_132 : decode cX7_parsePiece 132 = .ok (.iload_n 1, 1) := by decide +kernel
theorem dX7_parsePiece_133 : decode cX7_parsePiece 133 = .ok (.iload_n 2, 1) := by decide +kernel
theorem dX7_parsePiece_134 : decode cX7_parsePiece 134 = .ok (.iload_n 3, 1) := by decide +kernel
theorem dX7_parsePiece_135 : decode cX7_parsePiece 135 = .ok (.iload 4, 2) := by decide +kernel
theorem dX7_parsePiece_137 : decode cX7_parsePiece 137 = .ok (.invokevirtual 337, 3) := by decide +kernel
theorem dX7_parsePiece_140 : decode cX7_parsePiece 140 = .ok (.iinc 6 1, 3) := by decide +kernel
theorem dX7_parsePiece_143 : decode cX7_parsePiece 143 = .ok (.goto (-26), 3) := by decide +kernel
theorem dX7_parsePiece_146 : decode cX7_parsePiece 146 = .ok (.return_, 1) := by decide +kernel
def fX7_parsePiece_117  (o5 : Int32) (o4 : Int32) (o3 : Int32) (o2 : Int32) (o1 : Int32) : Nat → Int32 → Md → Int32 × Md
  | 0, x6, y => (x6, y)
  | fu + 1, x6, y => (if o5 ≤ x6 then (x6, y) else (if (fX7_good y ) = 0 then (x6, y) else (bnd (fX7_add y o1 o2 o3 o4) (fun r73 => (fX7_parsePiece_117  o5 o4 o3 o2 o1  fu (x6 + 1) r73)))))
def sX7_parsePiece_117  (o5 : Int32) (o4 : Int32) (o3 : Int32) (o2 : Int32) (o1 : Int32) : Nat → Int32 → Md → Prop
  | 0, _, _ => True
  | fu + 1, x6, y => ((o5 ≤ x6 → True) ∧ (¬ o5 ≤ x6 → (((fX7_good y ) = 0 → True) ∧ (¬ (fX7_good y ) = 0 → ((sX7_add y o1 o2 o3 o4) ∧ (bnd (fX7_add y o1 o2 o3 o4) (fun r73 => (sX7_parsePiece_117  o5 o4 o3 o2 o1  fu (x6 + 1) r73))))))))
set_option maxRecDepth 20000 in
theorem wX7_parsePiece_117 {l : Launch} {G : GM} {K : Nat → Option va_E}  (o5 : Int32) (o4 : Int32) (o3 : Int32) (o2 : Int32) (o1 : Int32)  {Q : Option Value → List va_E → Prop} : ∀ (fu : Nat) (x6 : Int32) (y : Md) (iv : ivU o5 x6 fu) (hs : sX7_parsePiece_117  o5 o4 o3 o2 o1  fu x6 y) {h : List va_E} (gy : HM G K h y) (kx : ∀ (h1 : List va_E) (r : Int32 × Md), (fX7_parsePiece_117  o5 o4 o3 o2 o1  fu x6 y) = r → HM G K h1 r.2 → Tr l G mX7_parsePiece 8 0 0 146 [(6, .int r.1), (5, .int o5), (4, .int o4), (3, .int o3), (2, .int o2), (1, .int o1), (0, .ref (gz G + 221))] [] h1 Q), Tr l G mX7_parsePiece 8 0 0 117 [(6, .int x6), (5, .int o5), (4, .int o4), (3, .int o3), (2, .int o2), (1, .int o1), (0, .ref (gz G + 221))] [] h Q := by
  intro fu
  induction fu with
  | zero => intro x6 y iv; intros; exact absurd iv ivU_0
  | succ fu ih =>
    intro x6 y iv hs  h gy  kx
    rw [sX7_parsePiece_117] at hs
    refine am_iload dX7_parsePiece_117 0 rfl ?_
    refine am_iload dX7_parsePiece_119 1 rfl ?_
    refine am_icmp_ge dX7_parsePiece_121 (by decide : ((121 : Nat) : Int) + (25) = ((146 : Nat) : Int)) (fun c64 => ?_) (fun c64 => ?_)
    · have hs := hs.1 c64
      exact kx _ _ (ifp c64 (rfl)) gy 
    · have hs := hs.2 c64
      refine am_aload_n dX7_parsePiece_124 6 rfl ?_
      refine am_callV (As := []) (rest := []) dX7_parsePiece_125 kMX7_229 rfl (hmc221 (m := y) gy) rfl rfl (Nat.le_of_ble_eq_true rfl) (d2 := 0) (by decide) (k2 := 0) (Nat.zero_le _) (u2 := 0) (Nat.zero_le _) (Nat.le_of_ble_eq_true rfl) (ctX7_good (m := y) gy  ) (fun v65 h66 q67 => ?_)
      obtain ⟨rfl, rfl⟩ := q67
      refine am_if_eq dX7_parsePiece_128 (by decide : ((128 : Nat) : Int) + (18) = ((146 : Nat) : Int)) (fun c68 => ?_) (fun c68 => ?_)
      · have hs := hs.1 c68
        exact kx _ _ (ifn c64 (ifp c68 (rfl))) gy 
      · have hs := hs.2 c68
        refine am_aload_n dX7_parsePiece_131 6 rfl ?_
        refine am_iload_n dX7_parsePiece_132 5 rfl ?_
        refine am_iload_n dX7_parsePiece_133 4 rfl ?_
        refine am_iload_n dX7_parsePiece_134 3 rfl ?_
        refine am_iload dX7_parsePiece_135 2 rfl ?_
        obtain ⟨i69, hs⟩ := hs
        refine am_callV (As := [.int o1, .int o2, .int o3, .int o4]) (rest := []) dX7_parsePiece_137 kMX7_337 rfl (hmc221 (m := y) gy) rfl rfl (Nat.le_of_ble_eq_true rfl) (d2 := 1) (by decide) (k2 := 0) (Nat.zero_le _) (u2 := 0) (Nat.zero_le _) (Nat.le_of_ble_eq_true rfl) (ctX7_add (m := y) gy o1 o2 o3 o4 i69) (fun v70 h71 q72 => ?_)
        obtain ⟨r73, e74, rfl, w75⟩ := q72
        have hs := bnd_p e74 hs
        refine am_iinc (v := (x6 + 1)) dX7_parsePiece_140 0 rfl rfl (by decide) (lv' := [(6, .int (x6 + 1)), (5, .int o5), (4, .int o4), (3, .int o3), (2, .int o2), (1, .int o1), (0, .ref (gz G + 221))]) rfl ?_
        refine am_goto dX7_parsePiece_143 (by decide : ((143 : Nat) : Int) + (-26) = ((117 : Nat) : Int)) ?_
        exact ih (x6 + 1) r73 (ivU_s c64 iv) hs w75  (fun h1 r e => kx h1 r (Eq.trans (ifn c64 (ifn c68 (bnd_eq e74 (rfl)))) e))
def fX7_parsePiece (m : Md)  : Md := (bnd (fX7_enter m 8 14) (fun r5 => (bnd (fX7_nameHere r5 ) (fun r12 => (if (fX7_good r12.2 ) = 0 then (bnd (fX7_goOn r12.2 ) (fun r27 => (if (fX7_good r27 ) = 0 then (bnd (fX7_goOn r27 ) (fun r42 => (bnd (fX7_someLength r42 500) (fun r49 => (bnd (fX7_number r49.2 0 255) (fun r56 => (if (fX7_isText r56.2 sq31) = 0 then (bnd (fX7_parsePiece_117  1 r56.1 r49.1 (fX7_kindHere r27 ) (fX7_findIn r12.2 10 3 ((r5.2.1 (r5.2.2)) 5) r12.1)  (fuU 1 0) 0 r56.2) (fun r77 => r77.2)) else (bnd (fX7_advance r56.2 ) (fun r85 => (bnd (fX7_times r85 ) (fun r92 => (bnd (fX7_parsePiece_117  r92.1 r56.1 r49.1 (fX7_kindHere r27 ) (fX7_findIn r12.2 10 3 ((r5.2.1 (r5.2.2)) 5) r12.1)  (fuU r92.1 0) 0 r92.2) (fun r96 => r96.2))))))))))))) else (if (fX7_kindHere r27 ) = (-1) then (bnd (fX7_fail r27 1) (fun r154 => (bnd (fX7_goOn r154 ) (fun r161 => (bnd (fX7_someLength r161 500) (fun r168 => (bnd (fX7_number r168.2 0 255) (fun r175 => (if (fX7_isText r175.2 sq31) = 0 then (bnd (fX7_parsePiece_117  1 r175.1 r168.1 (fX7_kindHere r27 ) (fX7_findIn r12.2 10 3 ((r5.2.1 (r5.2.2)) 5) r12.1)  (fuU 1 0) 0 r175.2) (fun r184 => r184.2)) else (bnd (fX7_advance r175.2 ) (fun r192 => (bnd (fX7_times r192 ) (fun r199 => (bnd (fX7_parsePiece_117  r199.1 r175.1 r168.1 (fX7_kindHere r27 ) (fX7_findIn r12.2 10 3 ((r5.2.1 (r5.2.2)) 5) r12.1)  (fuU r199.1 0) 0 r199.2) (fun r203 => r203.2))))))))))))))) else (bnd (fX7_goOn r27 ) (fun r105 => (bnd (fX7_someLength r105 500) (fun r112 => (bnd (fX7_number r112.2 0 255) (fun r119 => (if (fX7_isText r119.2 sq31) = 0 then (bnd (fX7_parsePiece_117  1 r119.1 r112.1 (fX7_kindHere r27 ) (fX7_findIn r12.2 10 3 ((r5.2.1 (r5.2.2)) 5) r12.1)  (fuU 1 0) 0 r119.2) (fun r128 => r128.2)) else (bnd (fX7_advance r119.2 ) (fun r136 => (bnd (fX7_times r136 ) (fun r143 => (bnd (fX7_parsePiece_117  r143.1 r119.1 r112.1 (fX7_kindHere r27 ) (fX7_findIn r12.2 10 3 ((r5.2.1 (r5.2.2)) 5) r12.1)  (fuU r143.1 0) 0 r143.2) (fun r147 => r147.2))))))))))))))))) else (if (fX7_findIn r12.2 10 3 ((r5.2.1 (r5.2.2)) 5) r12.1) = (-1) then (bnd (fX7_fail r12.2 4) (fun r383 => (bnd (fX7_goOn r383 ) (fun r390 => (if (fX7_good r390 ) = 0 then (bnd (fX7_goOn r390 ) (fun r405 => (bnd (fX7_someLength r405 500) (fun r412 => (bnd (fX7_number r412.2 0 255) (fun r419 => (if (fX7_isText r419.2 sq31) = 0 then (bnd (fX7_parsePiece_117  1 r419.1 r412.1 (fX7_kindHere r390 ) (fX7_findIn r12.2 10 3 ((r5.2.1 (r5.2.2)) 5) r12.1)  (fuU 1 0) 0 r419.2) (fun r428 => r428.2)) else (bnd (fX7_advance r419.2 ) (fun r436 => (bnd (fX7_times r436 ) (fun r443 => (bnd (fX7_parsePiece_117  r443.1 r419.1 r412.1 (fX7_kindHere r390 ) (fX7_findIn r12.2 10 3 ((r5.2.1 (r5.2.2)) 5) r12.1)  (fuU r443.1 0) 0 r443.2) (fun r447 => r447.2))))))))))))) else (if (fX7_kindHere r390 ) = (-1) then (bnd (fX7_fail r390 1) (fun r505 => (bnd (fX7_goOn r505 ) (fun r512 => (bnd (fX7_someLength r512 500) (fun r519 => (bnd (fX7_number r519.2 0 255) (fun r526 => (if (fX7_isText r526.2 sq31) = 0 then (bnd (fX7_parsePiece_117  1 r526.1 r519.1 (fX7_kindHere r390 ) (fX7_findIn r12.2 10 3 ((r5.2.1 (r5.2.2)) 5) r12.1)  (fuU 1 0) 0 r526.2) (fun r535 => r535.2)) else (bnd (fX7_advance r526.2 ) (fun r543 => (bnd (fX7_times r543 ) (fun r550 => (bnd (fX7_parsePiece_117  r550.1 r526.1 r519.1 (fX7_kindHere r390 ) (fX7_findIn r12.2 10 3 ((r5.2.1 (r5.2.2)) 5) r12.1)  (fuU r550.1 0) 0 r550.2) (fun r554 => r554.2))))))))))))))) else (bnd (fX7_goOn r390 ) (fun r456 => (bnd (fX7_someLength r456 500) (fun r463 => (bnd (fX7_number r463.2 0 255) (fun r470 => (if (fX7_isText r470.2 sq31) = 0 then (bnd (fX7_parsePiece_117  1 r470.1 r463.1 (fX7_kindHere r390 ) (fX7_findIn r12.2 10 3 ((r5.2.1 (r5.2.2)) 5) r12.1)  (fuU 1 0) 0 r470.2) (fun r479 => r479.2)) else (bnd (fX7_advance r470.2 ) (fun r487 => (bnd (fX7_times r487 ) (fun r494 => (bnd (fX7_parsePiece_117  r494.1 r470.1 r463.1 (fX7_kindHere r390 ) (fX7_findIn r12.2 10 3 ((r5.2.1 (r5.2.2)) 5) r12.1)  (fuU r494.1 0) 0 r494.2) (fun r498 => r498.2))))))))))))))))))) else (bnd (fX7_goOn r12.2 ) (fun r212 => (if (fX7_good r212 ) = 0 then (bnd (fX7_goOn r212 ) (fun r227 => (bnd (fX7_someLength r227 500) (fun r234 => (bnd (fX7_number r234.2 0 255) (fun r241 => (if (fX7_isText r241.2 sq31) = 0 then (bnd (fX7_parsePiece_117  1 r241.1 r234.1 (fX7_kindHere r212 ) (fX7_findIn r12.2 10 3 ((r5.2.1 (r5.2.2)) 5) r12.1)  (fuU 1 0) 0 r241.2) (fun r250 => r250.2)) else (bnd (fX7_advance r241.2 ) (fun r258 => (bnd (fX7_times r258 ) (fun r265 => (bnd (fX7_parsePiece_117  r265.1 r241.1 r234.1 (fX7_kindHere r212 ) (fX7_findIn r12.2 10 3 ((r5.2.1 (r5.2.2)) 5) r12.1)  (fuU r265.1 0) 0 r265.2) (fun r269 => r269.2))))))))))))) else (if (fX7_kindHere r212 ) = (-1) then (bnd (fX7_fail r212 1) (fun r327 => (bnd (fX7_goOn r327 ) (fun r334 => (bnd (fX7_someLength r334 500) (fun r341 => (bnd (fX7_number r341.2 0 255) (fun r348 => (if (fX7_isText r348.2 sq31) = 0 then (bnd (fX7_parsePiece_117  1 r348.1 r341.1 (fX7_kindHere r212 ) (fX7_findIn r12.2 10 3 ((r5.2.1 (r5.2.2)) 5) r12.1)  (fuU 1 0) 0 r348.2) (fun r357 => r357.2)) else (bnd (fX7_advance r348.2 ) (fun r365 => (bnd (fX7_times r365 ) (fun r372 => (bnd (fX7_parsePiece_117  r372.1 r348.1 r341.1 (fX7_kindHere r212 ) (fX7_findIn r12.2 10 3 ((r5.2.1 (r5.2.2)) 5) r12.1)  (fuU r372.1 0) 0 r372.2) (fun r376 => r376.2))))))))))))))) else (bnd (fX7_goOn r212 ) (fun r278 => (bnd (fX7_someLength r278 500) (fun r285 => (bnd (fX7_number r285.2 0 255) (fun r292 => (if (fX7_isText r292.2 sq31) = 0 then (bnd (fX7_parsePiece_117  1 r292.1 r285.1 (fX7_kindHere r212 ) (fX7_findIn r12.2 10 3 ((r5.2.1 (r5.2.2)) 5) r12.1)  (fuU 1 0) 0 r292.2) (fun r301 => r301.2)) else (bnd (fX7_advance r292.2 ) (fun r309 => (bnd (fX7_times r309 ) (fun r316 => (bnd (fX7_parsePiece_117  r316.1 r292.1 r285.1 (fX7_kindHere r212 ) (fX7_findIn r12.2 10 3 ((r5.2.1 (r5.2.2)) 5) r12.1)  (fuU r316.1 0) 0 r316.2) (fun r320 => r320.2)))))))))))))))))))))))
def sX7_parsePiece (m : Md)  : Prop := ((sX7_enter m 8 14) ∧ (bnd (fX7_enter m 8 14) (fun r5 => ((sX7_nameHere r5 ) ∧ (bnd (fX7_nameHere r5 ) (fun r12 => ((sX7_findIn r12.2 10 3 ((r5.2.1 (r5.2.2)) 5) r12.1) ∧ (((fX7_good r12.2 ) = 0 → ((sX7_goOn r12.2 ) ∧ (bnd (fX7_goOn r12.2 ) (fun r27 => ((sX7_kindHere r27 ) ∧ (((fX7_good r27 ) = 0 → ((sX7_goOn r27 ) ∧ (bnd (fX7_goOn r27 ) (fun r42 => ((sX7_someLength r42 500) ∧ (bnd (fX7_someLength r42 500) (fun r49 => ((sX7_number r49.2 0 255) ∧ (bnd (fX7_number r49.2 0 255) (fun r56 => ((sX7_isText r56.2 sq31) ∧ (((fX7_isText r56.2 sq31) = 0 → ((sX7_parsePiece_117  1 r56.1 r49.1 (fX7_kindHere r27 ) (fX7_findIn r12.2 10 3 ((r5.2.1 (r5.2.2)) 5) r12.1)  (fuU 1 0) 0 r56.2) ∧ bnd (fX7_parsePiece_117  1 r56.1 r49.1 (fX7_kindHere r27 ) (fX7_findIn r12.2 10 3 ((r5.2.1 (r5.2.2)) 5) r12.1)  (fuU 1 0) 0 r56.2) (fun r77 => True))) ∧ (¬ (fX7_isText r56.2 sq31) = 0 → ((sX7_advance r56.2 ) ∧ (bnd (fX7_advance r56.2 ) (fun r85 => ((sX7_times r85 ) ∧ (bnd (fX7_times r85 ) (fun r92 => ((sX7_parsePiece_117  r92.1 r56.1 r49.1 (fX7_kindHere r27 ) (fX7_findIn r12.2 10 3 ((r5.2.1 (r5.2.2)) 5) r12.1)  (fuU r92.1 0) 0 r92.2) ∧ bnd (fX7_parsePiece_117  r92.1 r56.1 r49.1 (fX7_kindHere r27 ) (fX7_findIn r12.2 10 3 ((r5.2.1 (r5.2.2)) 5) r12.1)  (fuU r92.1 0) 0 r92.2) (fun r96 => True))))))))))))))))))))) ∧ (¬ (fX7_good r27 ) = 0 → (((fX7_kindHere r27 ) = (-1) → (bnd (fX7_fail r27 1) (fun r154 => ((sX7_goOn r154 ) ∧ (bnd (fX7_goOn r154 ) (fun r161 => ((sX7_someLength r161 500) ∧ (bnd (fX7_someLength r161 500) (fun r168 => ((sX7_number r168.2 0 255) ∧ (bnd (fX7_number r168.2 0 255) (fun r175 => ((sX7_isText r175.2 sq31) ∧ (((fX7_isText r175.2 sq31) = 0 → ((sX7_parsePiece_117  1 r175.1 r168.1 (fX7_kindHere r27 ) (fX7_findIn r12.2 10 3 ((r5.2.1 (r5.2.2)) 5) r12.1)  (fuU 1 0) 0 r175.2) ∧ bnd (fX7_parsePiece_117  1 r175.1 r168.1 (fX7_kindHere r27 ) (fX7_findIn r12.2 10 3 ((r5.2.1 (r5.2.2)) 5) r12.1)  (fuU 1 0) 0 r175.2) (fun r184 => True))) ∧ (¬ (fX7_isText r175.2 sq31) = 0 → ((sX7_advance r175.2 ) ∧ (bnd (fX7_advance r175.2 ) (fun r192 => ((sX7_times r192 ) ∧ (bnd (fX7_times r192 ) (fun r199 => ((sX7_parsePiece_117  r199.1 r175.1 r168.1 (fX7_kindHere r27 ) (fX7_findIn r12.2 10 3 ((r5.2.1 (r5.2.2)) 5) r12.1)  (fuU r199.1 0) 0 r199.2) ∧ bnd (fX7_parsePiece_117  r199.1 r175.1 r168.1 (fX7_kindHere r27 ) (fX7_findIn r12.2 10 3 ((r5.2.1 (r5.2.2)) 5) r12.1)  (fuU r199.1 0) 0 r199.2) (fun r203 => True))))))))))))))))))))))) ∧ (¬ (fX7_kindHere r27 ) = (-1) → ((sX7_goOn r27 ) ∧ (bnd (fX7_goOn r27 ) (fun r105 => ((sX7_someLength r105 500) ∧ (bnd (fX7_someLength r105 500) (fun r112 => ((sX7_number r112.2 0 255) ∧ (bnd (fX7_number r112.2 0 255) (fun r119 => ((sX7_isText r119.2 sq31) ∧ (((fX7_isText r119.2 sq31) = 0 → ((sX7_parsePiece_117  1 r119.1 r112.1 (fX7_kindHere r27 ) (fX7_findIn r12.2 10 3 ((r5.2.1 (r5.2.2)) 5) r12.1)  (fuU 1 0) 0 r119.2) ∧ bnd (fX7_parsePiece_117  1 r119.1 r112.1 (fX7_kindHere r27 ) (fX7_findIn r12.2 10 3 ((r5.2.1 (r5.2.2)) 5) r12.1)  (fuU 1 0) 0 r119.2) (fun r128 => True))) ∧ (¬ (fX7_isText r119.2 sq31) = 0 → ((sX7_advance r119.2 ) ∧ (bnd (fX7_advance r119.2 ) (fun r136 => ((sX7_times r136 ) ∧ (bnd (fX7_times r136 ) (fun r143 => ((sX7_parsePiece_117  r143.1 r119.1 r112.1 (fX7_kindHere r27 ) (fX7_findIn r12.2 10 3 ((r5.2.1 (r5.2.2)) 5) r12.1)  (fuU r143.1 0) 0 r143.2) ∧ bnd (fX7_parsePiece_117  r143.1 r119.1 r112.1 (fX7_kindHere r27 ) (fX7_findIn r12.2 10 3 ((r5.2.1 (r5.2.2)) 5) r12.1)  (fuU r143.1 0) 0 r143.2) (fun r147 => True))))))))))))))))))))))))))))) ∧ (¬ (fX7_good r12.2 ) = 0 → (((fX7_findIn r12.2 10 3 ((r5.2.1 (r5.2.2)) 5) r12.1) = (-1) → (bnd (fX7_fail r12.2 4) (fun r383 => ((sX7_goOn r383 ) ∧ (bnd (fX7_goOn r383 ) (fun r390 => ((sX7_kindHere r390 ) ∧ (((fX7_good r390 ) = 0 → ((sX7_goOn r390 ) ∧ (bnd (fX7_goOn r390 ) (fun r405 => ((sX7_someLength r405 500) ∧ (bnd (fX7_someLength r405 500) (fun r412 => ((sX7_number r412.2 0 255) ∧ (bnd (fX7_number r412.2 0 255) (fun r419 => ((sX7_isText r419.2 sq31) ∧ (((fX7_isText r419.2 sq31) = 0 → ((sX7_parsePiece_117  1 r419.1 r412.1 (fX7_kindHere r390 ) (fX7_findIn r12.2 10 3 ((r5.2.1 (r5.2.2)) 5) r12.1)  (fuU 1 0) 0 r419.2) ∧ bnd (fX7_parsePiece_117  1 r419.1 r412.1 (fX7_kindHere r390 ) (fX7_findIn r12.2 10 3 ((r5.2.1 (r5.2.2)) 5) r12.1)  (fuU 1 0) 0 r419.2) (fun r428 => True))) ∧ (¬ (fX7_isText r419.2 sq31) = 0 → ((sX7_advance r419.2 ) ∧ (bnd (fX7_advance r419.2 ) (fun r436 => ((sX7_times r436 ) ∧ (bnd (fX7_times r436 ) (fun r443 => ((sX7_parsePiece_117  r443.1 r419.1 r412.1 (fX7_kindHere r390 ) (fX7_findIn r12.2 10 3 ((r5.2.1 (r5.2.2)) 5) r12.1)  (fuU r443.1 0) 0 r443.2) ∧ bnd (fX7_parsePiece_117  r443.1 r419.1 r412.1 (fX7_kindHere r390 ) (fX7_findIn r12.2 10 3 ((r5.2.1 (r5.2.2)) 5) r12.1)  (fuU r443.1 0) 0 r443.2) (fun r447 => True))))))))))))))))))))) ∧ (¬ (fX7_good r390 ) = 0 → (((fX7_kindHere r390 ) = (-1) → (bnd (fX7_fail r390 1) (fun r505 => ((sX7_goOn r505 ) ∧ (bnd (fX7_goOn r505 ) (fun r512 => ((sX7_someLength r512 500) ∧ (bnd (fX7_someLength r512 500) (fun r519 => ((sX7_number r519.2 0 255) ∧ (bnd (fX7_number r519.2 0 255) (fun r526 => ((sX7_isText r526.2 sq31) ∧ (((fX7_isText r526.2 sq31) = 0 → ((sX7_parsePiece_117  1 r526.1 r519.1 (fX7_kindHere r390 ) (fX7_findIn r12.2 10 3 ((r5.2.1 (r5.2.2)) 5) r12.1)  (fuU 1 0) 0 r526.2) ∧ bnd (fX7_parsePiece_117  1 r526.1 r519.1 (fX7_kindHere r390 ) (fX7_findIn r12.2 10 3 ((r5.2.1 (r5.2.2)) 5) r12.1)  (fuU 1 0) 0 r526.2) (fun r535 => True))) ∧ (¬ (fX7_isText r526.2 sq31) = 0 → ((sX7_advance r526.2 ) ∧ (bnd (fX7_advance r526.2 ) (fun r543 => ((sX7_times r543 ) ∧ (bnd (fX7_times r543 ) (fun r550 => ((sX7_parsePiece_117  r550.1 r526.1 r519.1 (fX7_kindHere r390 ) (fX7_findIn r12.2 10 3 ((r5.2.1 (r5.2.2)) 5) r12.1)  (fuU r550.1 0) 0 r550.2) ∧ bnd (fX7_parsePiece_117  r550.1 r526.1 r519.1 (fX7_kindHere r390 ) (fX7_findIn r12.2 10 3 ((r5.2.1 (r5.2.2)) 5) r12.1)  (fuU r550.1 0) 0 r550.2) (fun r554 => True))))))))))))))))))))))) ∧ (¬ (fX7_kindHere r390 ) = (-1) → ((sX7_goOn r390 ) ∧ (bnd (fX7_goOn r390 ) (fun r456 => ((sX7_someLength r456 500) ∧ (bnd (fX7_someLength r456 500) (fun r463 => ((sX7_number r463.2 0 255) ∧ (bnd (fX7_number r463.2 0 255) (fun r470 => ((sX7_isText r470.2 sq31) ∧ (((fX7_isText r470.2 sq31) = 0 → ((sX7_parsePiece_117  1 r470.1 r463.1 (fX7_kindHere r390 ) (fX7_findIn r12.2 10 3 ((r5.2.1 (r5.2.2)) 5) r12.1)  (fuU 1 0) 0 r470.2) ∧ bnd (fX7_parsePiece_117  1 r470.1 r463.1 (fX7_kindHere r390 ) (fX7_findIn r12.2 10 3 ((r5.2.1 (r5.2.2)) 5) r12.1)  (fuU 1 0) 0 r470.2) (fun r479 => True))) ∧ (¬ (fX7_isText r470.2 sq31) = 0 → ((sX7_advance r470.2 ) ∧ (bnd (fX7_advance r470.2 ) (fun r487 => ((sX7_times r487 ) ∧ (bnd (fX7_times r487 ) (fun r494 => ((sX7_parsePiece_117  r494.1 r470.1 r463.1 (fX7_kindHere r390 ) (fX7_findIn r12.2 10 3 ((r5.2.1 (r5.2.2)) 5) r12.1)  (fuU r494.1 0) 0 r494.2) ∧ bnd (fX7_parsePiece_117  r494.1 r470.1 r463.1 (fX7_kindHere r390 ) (fX7_findIn r12.2 10 3 ((r5.2.1 (r5.2.2)) 5) r12.1)  (fuU r494.1 0) 0 r494.2) (fun r498 => True))))))))))))))))))))))))))))))) ∧ (¬ (fX7_findIn r12.2 10 3 ((r5.2.1 (r5.2.2)) 5) r12.1) = (-1) → ((sX7_goOn r12.2 ) ∧ (bnd (fX7_goOn r12.2 ) (fun r212 => ((sX7_kindHere r212 ) ∧ (((fX7_good r212 ) = 0 → ((sX7_goOn r212 ) ∧ (bnd (fX7_goOn r212 ) (fun r227 => ((sX7_someLength r227 500) ∧ (bnd (fX7_someLength r227 500) (fun r234 => ((sX7_number r234.2 0 255) ∧ (bnd (fX7_number r234.2 0 255) (fun r241 => ((sX7_isText r241.2 sq31) ∧ (((fX7_isText r241.2 sq31) = 0 → ((sX7_parsePiece_117  1 r241.1 r234.1 (fX7_kindHere r212 ) (fX7_findIn r12.2 10 3 ((r5.2.1 (r5.2.2)) 5) r12.1)  (fuU 1 0) 0 r241.2) ∧ bnd (fX7_parsePiece_117  1 r241.1 r234.1 (fX7_kindHere r212 ) (fX7_findIn r12.2 10 3 ((r5.2.1 (r5.2.2)) 5) r12.1)  (fuU 1 0) 0 r241.2) (fun r250 => True))) ∧ (¬ (fX7_isText r241.2 sq31) = 0 → ((sX7_advance r241.2 ) ∧ (bnd (fX7_advance r241.2 ) (fun r258 => ((sX7_times r258 ) ∧ (bnd (fX7_times r258 ) (fun r265 => ((sX7_parsePiece_117  r265.1 r241.1 r234.1 (fX7_kindHere r212 ) (fX7_findIn r12.2 10 3 ((r5.2.1 (r5.2.2)) 5) r12.1)  (fuU r265.1 0) 0 r265.2) ∧ bnd (fX7_parsePiece_117  r265.1 r241.1 r234.1 (fX7_kindHere r212 ) (fX7_findIn r12.2 10 3 ((r5.2.1 (r5.2.2)) 5) r12.1)  (fuU r265.1 0) 0 r265.2) (fun r269 => True))))))))))))))))))))) ∧ (¬ (fX7_good r212 ) = 0 → (((fX7_kindHere r212 ) = (-1) → (bnd (fX7_fail r212 1) (fun r327 => ((sX7_goOn r327 ) ∧ (bnd (fX7_goOn r327 ) (fun r334 => ((sX7_someLength r334 500) ∧ (bnd (fX7_someLength r334 500) (fun r341 => ((sX7_number r341.2 0 255) ∧ (bnd (fX7_number r341.2 0 255) (fun r348 => ((sX7_isText r348.2 sq31) ∧ (((fX7_isText r348.2 sq31) = 0 → ((sX7_parsePiece_117  1 r348.1 r341.1 (fX7_kindHere r212 ) (fX7_findIn r12.2 10 3 ((r5.2.1 (r5.2.2)) 5) r12.1)  (fuU 1 0) 0 r348.2) ∧ bnd (fX7_parsePiece_117  1 r348.1 r341.1 (fX7_kindHere r212 ) (fX7_findIn r12.2 10 3 ((r5.2.1 (r5.2.2)) 5) r12.1)  (fuU 1 0) 0 r348.2) (fun r357 => True))) ∧ (¬ (fX7_isText r348.2 sq31) = 0 → ((sX7_advance r348.2 ) ∧ (bnd (fX7_advance r348.2 ) (fun r365 => ((sX7_times r365 ) ∧ (bnd (fX7_times r365 ) (fun r372 => ((sX7_parsePiece_117  r372.1 r348.1 r341.1 (fX7_kindHere r212 ) (fX7_findIn r12.2 10 3 ((r5.2.1 (r5.2.2)) 5) r12.1)  (fuU r372.1 0) 0 r372.2) ∧ bnd (fX7_parsePiece_117  r372.1 r348.1 r341.1 (fX7_kindHere r212 ) (fX7_findIn r12.2 10 3 ((r5.2.1 (r5.2.2)) 5) r12.1)  (fuU r372.1 0) 0 r372.2) (fun r376 => True))))))))))))))))))))))) ∧ (¬ (fX7_kindHere r212 ) = (-1) → ((sX7_goOn r212 ) ∧ (bnd (fX7_goOn r212 ) (fun r278 => ((sX7_someLength r278 500) ∧ (bnd (fX7_someLength r278 500) (fun r285 => ((sX7_number r285.2 0 255) ∧ (bnd (fX7_number r285.2 0 255) (fun r292 => ((sX7_isText r292.2 sq31) ∧ (((fX7_isText r292.2 sq31) = 0 → ((sX7_parsePiece_117  1 r292.1 r285.1 (fX7_kindHere r212 ) (fX7_findIn r12.2 10 3 ((r5.2.1 (r5.2.2)) 5) r12.1)  (fuU 1 0) 0 r292.2) ∧ bnd (fX7_parsePiece_117  1 r292.1 r285.1 (fX7_kindHere r212 ) (fX7_findIn r12.2 10 3 ((r5.2.1 (r5.2.2)) 5) r12.1)  (fuU 1 0) 0 r292.2) (fun r301 => True))) ∧ (¬ (fX7_isText r292.2 sq31) = 0 → ((sX7_advance r292.2 ) ∧ (bnd (fX7_advance r292.2 ) (fun r309 => ((sX7_times r309 ) ∧ (bnd (fX7_times r309 ) (fun r316 => ((sX7_parsePiece_117  r316.1 r292.1 r285.1 (fX7_kindHere r212 ) (fX7_findIn r12.2 10 3 ((r5.2.1 (r5.2.2)) 5) r12.1)  (fuU r316.1 0) 0 r316.2) ∧ bnd (fX7_parsePiece_117  r316.1 r292.1 r285.1 (fX7_kindHere r212 ) (fX7_findIn r12.2 10 3 ((r5.2.1 (r5.2.2)) 5) r12.1)  (fuU r316.1 0) 0 r316.2) (fun r320 => True)))))))))))))))))))))))))))))))))))))))
set_option maxRecDepth 20000 in
theorem ctX7_parsePiece {l : Launch} {G : GM} {K : Nat → Option va_E} {h : List va_E} {m : Md} (hm : HM G K h m)  (hs : sX7_parsePiece m ) : Ct l G mX7_parsePiece 8 0 0 [.ref (gz G + 221)] h (fun v h1 => ∃ r, (fX7_parsePiece m ) = r ∧ v = none ∧ HM G K h1 r) := by
  show Tr l G mX7_parsePiece 8 0 0 0 [(0, .ref (gz G + 221))] [] h _
  unfold sX7_parsePiece at hs
  refine am_aload_n dX7_parsePiece_0 0 rfl ?_
  refine am_bipush (v := 8) dX7_parsePiece_1 (by decide) ?_
  refine am_bipush (v := 14) dX7_parsePiece_3 (by decide) ?_
  obtain ⟨i1, hs⟩ := hs
  refine am_callV (As := [.int 8, .int 14]) (rest := []) dX7_parsePiece_5 kMX7_325 rfl (hmc221 (m := m) hm) rfl rfl (Nat.le_of_ble_eq_true rfl) (d2 := 3) (by decide) (k2 := 0) (Nat.zero_le _) (u2 := 0) (Nat.zero_le _) (Nat.le_of_ble_eq_true rfl) (ctX7_enter (m := m) hm 8 14 i1) (fun v2 h3 q4 => ?_)
  obtain ⟨r5, e6, rfl, w7⟩ := q4
  have hs := bnd_p e6 hs
  refine am_aload_n dX7_parsePiece_8 0 rfl ?_
  refine am_bipush (v := 10) dX7_parsePiece_9 (by decide) ?_
  refine am_iconst (v := 3) dX7_parsePiece_11 (by decide) ?_
  refine am_aload_n dX7_parsePiece_12 0 rfl ?_
  refine am_get (v := .ref (gz G + (222 + (r5.2.2)))) dX7_parsePiece_13 kGX7_23 (hmc221 (m := r5) w7) rfl ?_
  refine am_iconst (v := 5) dX7_parsePiece_16 (by decide) ?_
  refine am_iald (f := (r5.2.1 (r5.2.2))) dX7_parsePiece_17 (hmN (m := r5) w7) (vp_lit (by decide)) ?_
  rw [tl5]
  refine am_aload_n dX7_parsePiece_18 0 rfl ?_
  obtain ⟨i8, hs⟩ := hs
  refine am_callV (As := []) (rest := [.int ((r5.2.1 (r5.2.2)) 5), .int 3, .int 10, .ref (gz G + 221)]) dX7_parsePiece_19 kMX7_312 rfl (hmc221 (m := r5) w7) rfl rfl (Nat.le_of_ble_eq_true rfl) (d2 := 7) (by decide) (k2 := 0) (Nat.zero_le _) (u2 := 0) (Nat.zero_le _) (Nat.le_of_ble_eq_true rfl) (ctX7_nameHere (m := r5) w7  i8) (fun v9 h10 q11 => ?_)
  obtain ⟨r12, e13, rfl, w14⟩ := q11
  have hs := bnd_p e13 hs
  obtain ⟨i15, hs⟩ := hs
  refine am_callV (As := [.int 10, .int 3, .int ((r5.2.1 (r5.2.2)) 5), .int r12.1]) (rest := []) dX7_parsePiece_22 kMX7_315 rfl (hmc221 (m := r12.2) w14) rfl rfl (Nat.le_of_ble_eq_true rfl) (d2 := 0) (by decide) (k2 := 0) (Nat.zero_le _) (u2 := 0) (Nat.zero_le _) (Nat.le_of_ble_eq_true rfl) (ctX7_findIn (m := r12.2) w14 10 3 ((r5.2.1 (r5.2.2)) 5) r12.1 i15) (fun v16 h17 q18 => ?_)
  obtain ⟨rfl, rfl⟩ := q18
  refine am_istore_n dX7_parsePiece_25 (by decide) (lv' := [(1, .int (fX7_findIn r12.2 10 3 ((r5.2.1 (r5.2.2)) 5) r12.1)), (0, .ref (gz G + 221))]) rfl ?_
  refine am_aload_n dX7_parsePiece_26 1 rfl ?_
  refine am_callV (As := []) (rest := []) dX7_parsePiece_27 kMX7_229 rfl (hmc221 (m := r12.2) w14) rfl rfl (Nat.le_of_ble_eq_true rfl) (d2 := 0) (by decide) (k2 := 0) (Nat.zero_le _) (u2 := 0) (Nat.zero_le _) (Nat.le_of_ble_eq_true rfl) (ctX7_good (m := r12.2) w14  ) (fun v19 h20 q21 => ?_)
  obtain ⟨rfl, rfl⟩ := q21
  refine am_if_eq dX7_parsePiece_30 (by decide : ((30 : Nat) : Int) + (13) = ((43 : Nat) : Int)) (fun c22 => ?_) (fun c22 => ?_)
  · have hs := hs.1 c22
    refine am_aload_n dX7_parsePiece_43 1 rfl ?_
    obtain ⟨i23, hs⟩ := hs
    refine am_callV (As := []) (rest := []) dX7_parsePiece_44 kMX7_303 rfl (hmc221 (m := r12.2) w14) rfl rfl (Nat.le_of_ble_eq_true rfl) (d2 := 2) (by decide) (k2 := 0) (Nat.zero_le _) (u2 := 0) (Nat.zero_le _) (Nat.le_of_ble_eq_true rfl) (ctX7_goOn (m := r12.2) w14  i23) (fun v24 h25 q26 => ?_)
    obtain ⟨r27, e28, rfl, w29⟩ := q26
    have hs := bnd_p e28 hs
    refine am_aload_n dX7_parsePiece_47 1 rfl ?_
    obtain ⟨i30, hs⟩ := hs
    refine am_callV (As := []) (rest := []) dX7_parsePiece_48 kMX7_295 rfl (hmc221 (m := r27) w29) rfl rfl (Nat.le_of_ble_eq_true rfl) (d2 := 5) (by decide) (k2 := 0) (Nat.zero_le _) (u2 := 0) (Nat.zero_le _) (Nat.le_of_ble_eq_true rfl) (ctX7_kindHere (m := r27) w29  i30) (fun v31 h32 q33 => ?_)
    obtain ⟨rfl, rfl⟩ := q33
    refine am_istore_n dX7_parsePiece_51 (by decide) (lv' := [(2, .int (fX7_kindHere r27 )), (1, .int (fX7_findIn r12.2 10 3 ((r5.2.1 (r5.2.2)) 5) r12.1)), (0, .ref (gz G + 221))]) rfl ?_
    refine am_aload_n dX7_parsePiece_52 2 rfl ?_
    refine am_callV (As := []) (rest := []) dX7_parsePiece_53 kMX7_229 rfl (hmc221 (m := r27) w29) rfl rfl (Nat.le_of_ble_eq_true rfl) (d2 := 0) (by decide) (k2 := 0) (Nat.zero_le _) (u2 := 0) (Nat.zero_le _) (Nat.le_of_ble_eq_true rfl) (ctX7_good (m := r27) w29  ) (fun v34 h35 q36 => ?_)
    obtain ⟨rfl, rfl⟩ := q36
    refine am_if_eq dX7_parsePiece_56 (by decide : ((56 : Nat) : Int) + (13) = ((69 : Nat) : Int)) (fun c37 => ?_) (fun c37 => ?_)
    · have hs := hs.1 c37
      refine am_aload_n dX7_parsePiece_69 2 rfl ?_
      obtain ⟨i38, hs⟩ := hs
      refine am_callV (As := []) (rest := []) dX7_parsePiece_70 kMX7_303 rfl (hmc221 (m := r27) w29) rfl rfl (Nat.le_of_ble_eq_true rfl) (d2 := 2) (by decide) (k2 := 0) (Nat.zero_le _) (u2 := 0) (Nat.zero_le _) (Nat.le_of_ble_eq_true rfl) (ctX7_goOn (m := r27) w29  i38) (fun v39 h40 q41 => ?_)
      obtain ⟨r42, e43, rfl, w44⟩ := q41
      have hs := bnd_p e43 hs
      refine am_aload_n dX7_parsePiece_73 2 rfl ?_
      refine am_sipush (v := 500) dX7_parsePiece_74 (by decide) ?_
      obtain ⟨i45, hs⟩ := hs
      refine am_callV (As := [.int 500]) (rest := []) dX7_parsePiece_77 kMX7_332 rfl (hmc221 (m := r42) w44) rfl rfl (Nat.le_of_ble_eq_true rfl) (d2 := 4) (by decide) (k2 := 0) (Nat.zero_le _) (u2 := 0) (Nat.zero_le _) (Nat.le_of_ble_eq_true rfl) (ctX7_someLength (m := r42) w44 500 i45) (fun v46 h47 q48 => ?_)
      obtain ⟨r49, e50, rfl, w51⟩ := q48
      have hs := bnd_p e50 hs
      refine am_istore_n dX7_parsePiece_80 (by decide) (lv' := [(3, .int r49.1), (2, .int (fX7_kindHere r27 )), (1, .int (fX7_findIn r12.2 10 3 ((r5.2.1 (r5.2.2)) 5) r12.1)), (0, .ref (gz G + 221))]) rfl ?_
      refine am_aload_n dX7_parsePiece_81 3 rfl ?_
      refine am_iconst (v := 0) dX7_parsePiece_82 (by decide) ?_
      refine am_sipush (v := 255) dX7_parsePiece_83 (by decide) ?_
      obtain ⟨i52, hs⟩ := hs
      refine am_callV (As := [.int 0, .int 255]) (rest := []) dX7_parsePiece_86 kMX7_322 rfl (hmc221 (m := r49.2) w51) rfl rfl (Nat.le_of_ble_eq_true rfl) (d2 := 3) (by decide) (k2 := 0) (Nat.zero_le _) (u2 := 0) (Nat.zero_le _) (Nat.le_of_ble_eq_true rfl) (ctX7_number (m := r49.2) w51 0 255 i52) (fun v53 h54 q55 => ?_)
      obtain ⟨r56, e57, rfl, w58⟩ := q55
      have hs := bnd_p e57 hs
      refine am_istore dX7_parsePiece_89 (by decide) (lv' := [(4, .int r56.1), (3, .int r49.1), (2, .int (fX7_kindHere r27 )), (1, .int (fX7_findIn r12.2 10 3 ((r5.2.1 (r5.2.2)) 5) r12.1)), (0, .ref (gz G + 221))]) rfl ?_
      refine am_iconst (v := 1) dX7_parsePiece_91 (by decide) ?_
      refine am_istore dX7_parsePiece_92 (by decide) (lv' := [(5, .int 1), (4, .int r56.1), (3, .int r49.1), (2, .int (fX7_kindHere r27 )), (1, .int (fX7_findIn r12.2 10 3 ((r5.2.1 (r5.2.2)) 5) r12.1)), (0, .ref (gz G + 221))]) rfl ?_
      refine am_aload_n dX7_parsePiece_94 5 rfl ?_
      refine am_ldcwS (j := 31) dX7_parsePiece_95 rfl ?_
      obtain ⟨i59, hs⟩ := hs
      refine am_callV (As := [.ref (gS G 31)]) (rest := []) dX7_parsePiece_98 kMX7_274 rfl (hmc221 (m := r56.2) w58) rfl rfl (Nat.le_of_ble_eq_true rfl) (d2 := 4) (by decide) (k2 := 0) (Nat.zero_le _) (u2 := 0) (Nat.zero_le _) (Nat.le_of_ble_eq_true rfl) (ctX7_isText (m := r56.2) w58 (j := 31) (q := sq31) rfl i59) (fun v60 h61 q62 => ?_)
      obtain ⟨rfl, rfl⟩ := q62
      refine am_if_eq dX7_parsePiece_101 (by decide : ((101 : Nat) : Int) + (13) = ((114 : Nat) : Int)) (fun c63 => ?_) (fun c63 => ?_)
      · have hs := hs.1 c63
        refine am_iconst (v := 0) dX7_parsePiece_114 (by decide) ?_
        refine am_istore dX7_parsePiece_115 (by decide) (lv' := [(6, .int 0), (5, .int 1), (4, .int r56.1), (3, .int r49.1), (2, .int (fX7_kindHere r27 )), (1, .int (fX7_findIn r12.2 10 3 ((r5.2.1 (r5.2.2)) 5) r12.1)), (0, .ref (gz G + 221))]) rfl ?_
        obtain ⟨i76, hs⟩ := hs
        refine wX7_parsePiece_117  1 r56.1 r49.1 (fX7_kindHere r27 ) (fX7_findIn r12.2 10 3 ((r5.2.1 (r5.2.2)) 5) r12.1)  (fuU 1 0) 0 r56.2 ivU_i i76 w58  (fun h79 r77 e78 w80  => ?_)
        have hs := bnd_p e78 hs
        exact am_return dX7_parsePiece_146 rfl ⟨_, bnd_eq e6 (bnd_eq e13 (ifp c22 (bnd_eq e28 (ifp c37 (bnd_eq e43 (bnd_eq e50 (bnd_eq e57 (ifp c63 (bnd_eq e78 (rfl)))))))))), rfl, w80⟩
      · have hs := hs.2 c63
        refine am_aload_n dX7_parsePiece_104 5 rfl ?_
        obtain ⟨i81, hs⟩ := hs
        refine am_callV (As := []) (rest := []) dX7_parsePiece_105 kMX7_260 rfl (hmc221 (m := r56.2) w58) rfl rfl (Nat.le_of_ble_eq_true rfl) (d2 := 1) (by decide) (k2 := 0) (Nat.zero_le _) (u2 := 0) (Nat.zero_le _) (Nat.le_of_ble_eq_true rfl) (ctX7_advance (m := r56.2) w58  i81) (fun v82 h83 q84 => ?_)
        obtain ⟨r85, e86, rfl, w87⟩ := q84
        have hs := bnd_p e86 hs
        refine am_aload_n dX7_parsePiece_108 5 rfl ?_
        obtain ⟨i88, hs⟩ := hs
        refine am_callV (As := []) (rest := []) dX7_parsePiece_109 kMX7_335 rfl (hmc221 (m := r85) w87) rfl rfl (Nat.le_of_ble_eq_true rfl) (d2 := 4) (by decide) (k2 := 0) (Nat.zero_le _) (u2 := 0) (Nat.zero_le _) (Nat.le_of_ble_eq_true rfl) (ctX7_times (m := r85) w87  i88) (fun v89 h90 q91 => ?_)
        obtain ⟨r92, e93, rfl, w94⟩ := q91
        have hs := bnd_p e93 hs
        refine am_istore dX7_parsePiece_112 (by decide) (lv' := [(5, .int r92.1), (4, .int r56.1), (3, .int r49.1), (2, .int (fX7_kindHere r27 )), (1, .int (fX7_findIn r12.2 10 3 ((r5.2.1 (r5.2.2)) 5) r12.1)), (0, .ref (gz G + 221))]) rfl ?_
        refine am_iconst (v := 0) dX7_parsePiece_114 (by decide) ?_
        refine am_istore dX7_parsePiece_115 (by decide) (lv' := [(6, .int 0), (5, .int r92.1), (4, .int r56.1), (3, .int r49.1), (2, .int (fX7_kindHere r27 )), (1, .int (fX7_findIn r12.2 10 3 ((r5.2.1 (r5.2.2)) 5) r12.1)), (0, .ref (gz G + 221))]) rfl ?_
        obtain ⟨i95, hs⟩ := hs
        refine wX7_parsePiece_117  r92.1 r56.1 r49.1 (fX7_kindHere r27 ) (fX7_findIn r12.2 10 3 ((r5.2.1 (r5.2.2)) 5) r12.1)  (fuU r92.1 0) 0 r92.2 ivU_i i95 w94  (fun h98 r96 e97 w99  => ?_)
        have hs := bnd_p e97 hs
        exact am_return dX7_parsePiece_146 rfl ⟨_, bnd_eq e6 (bnd_eq e13 (ifp c22 (bnd_eq e28 (ifp c37 (bnd_eq e43 (bnd_eq e50 (bnd_eq e57 (ifn c63 (bnd_eq e86 (bnd_eq e93 (bnd_eq e97 (rfl)))))))))))), rfl, w99⟩
    · have hs := hs.2 c37
      refine am_iload_n dX7_parsePiece_59 0 rfl ?_
      refine am_iconst (v := (-1)) dX7_parsePiece_60 (by decide) ?_
      refine am_icmp_ne dX7_parsePiece_61 (by decide : ((61 : Nat) : Int) + (8) = ((69 : Nat) : Int)) (fun c100 => ?_) (fun c100 => ?_)
      · have hs := hs.2 c100
        refine am_aload_n dX7_parsePiece_69 2 rfl ?_
        obtain ⟨i101, hs⟩ := hs
        refine am_callV (As := []) (rest := []) dX7_parsePiece_70 kMX7_303 rfl (hmc221 (m := r27) w29) rfl rfl (Nat.le_of_ble_eq_true rfl) (d2 := 2) (by decide) (k2 := 0) (Nat.zero_le _) (u2 := 0) (Nat.zero_le _) (Nat.le_of_ble_eq_true rfl) (ctX7_goOn (m := r27) w29  i101) (fun v102 h103 q104 => ?_)
        obtain ⟨r105, e106, rfl, w107⟩ := q104
        have hs := bnd_p e106 hs
        refine am_aload_n dX7_parsePiece_73 2 rfl ?_
        refine am_sipush (v := 500) dX7_parsePiece_74 (by decide) ?_
        obtain ⟨i108, hs⟩ := hs
        refine am_callV (As := [.int 500]) (rest := []) dX7_parsePiece_77 kMX7_332 rfl (hmc221 (m := r105) w107) rfl rfl (Nat.le_of_ble_eq_true rfl) (d2 := 4) (by decide) (k2 := 0) (Nat.zero_le _) (u2 := 0) (Nat.zero_le _) (Nat.le_of_ble_eq_true rfl) (ctX7_someLength (m := r105) w107 500 i108) (fun v109 h110 q111 => ?_)
        obtain ⟨r112, e113, rfl, w114⟩ := q111
        have hs := bnd_p e113 hs
        refine am_istore_n dX7_parsePiece_80 (by decide) (lv' := [(3, .int r112.1), (2, .int (fX7_kindHere r27 )), (1, .int (fX7_findIn r12.2 10 3 ((r5.2.1 (r5.2.2)) 5) r12.1)), (0, .ref (gz G + 221))]) rfl ?_
        refine am_aload_n dX7_parsePiece_81 3 rfl ?_
        refine am_iconst (v := 0) dX7_parsePiece_82 (by decide) ?_
        refine am_sipush (v := 255) dX7_parsePiece_83 (by decide) ?_
        obtain ⟨i115, hs⟩ := hs
        refine am_callV (As := [.int 0, .int 255]) (rest := []) dX7_parsePiece_86 kMX7_322 rfl (hmc221 (m := r112.2) w114) rfl rfl (Nat.le_of_ble_eq_true rfl) (d2 := 3) (by decide) (k2 := 0) (Nat.zero_le _) (u2 := 0) (Nat.zero_le _) (Nat.le_of_ble_eq_true rfl) (ctX7_number (m := r112.2) w114 0 255 i115) (fun v116 h117 q118 => ?_)
        obtain ⟨r119, e120, rfl, w121⟩ := q118
        have hs := bnd_p e120 hs
        refine am_istore dX7_parsePiece_89 (by decide) (lv' := [(4, .int r119.1), (3, .int r112.1), (2, .int (fX7_kindHere r27 )), (1, .int (fX7_findIn r12.2 10 3 ((r5.2.1 (r5.2.2)) 5) r12.1)), (0, .ref (gz G + 221))]) rfl ?_
        refine am_iconst (v := 1) dX7_parsePiece_91 (by decide) ?_
        refine am_istore dX7_parsePiece_92 (by decide) (lv' := [(5, .int 1), (4, .int r119.1), (3, .int r112.1), (2, .int (fX7_kindHere r27 )), (1, .int (fX7_findIn r12.2 10 3 ((r5.2.1 (r5.2.2)) 5) r12.1)), (0, .ref (gz G + 221))]) rfl ?_
        refine am_aload_n dX7_parsePiece_94 5 rfl ?_
        refine am_ldcwS (j := 31) dX7_parsePiece_95 rfl ?_
        obtain ⟨i122, hs⟩ := hs
        refine am_callV (As := [.ref (gS G 31)]) (rest := []) dX7_parsePiece_98 kMX7_274 rfl (hmc221 (m := r119.2) w121) rfl rfl (Nat.le_of_ble_eq_true rfl) (d2 := 4) (by decide) (k2 := 0) (Nat.zero_le _) (u2 := 0) (Nat.zero_le _) (Nat.le_of_ble_eq_true rfl) (ctX7_isText (m := r119.2) w121 (j := 31) (q := sq31) rfl i122) (fun v123 h124 q125 => ?_)
        obtain ⟨rfl, rfl⟩ := q125
        refine am_if_eq dX7_parsePiece_101 (by decide : ((101 : Nat) : Int) + (13) = ((114 : Nat) : Int)) (fun c126 => ?_) (fun c126 => ?_)
        · have hs := hs.1 c126
          refine am_iconst (v := 0) dX7_parsePiece_114 (by decide) ?_
          refine am_istore dX7_parsePiece_115 (by decide) (lv' := [(6, .int 0), (5, .int 1), (4, .int r119.1), (3, .int r112.1), (2, .int (fX7_kindHere r27 )), (1, .int (fX7_findIn r12.2 10 3 ((r5.2.1 (r5.2.2)) 5) r12.1)), (0, .ref (gz G + 221))]) rfl ?_
          obtain ⟨i127, hs⟩ := hs
          refine wX7_parsePiece_117  1 r119.1 r112.1 (fX7_kindHere r27 ) (fX7_findIn r12.2 10 3 ((r5.2.1 (r5.2.2)) 5) r12.1)  (fuU 1 0) 0 r119.2 ivU_i i127 w121  (fun h130 r128 e129 w131  => ?_)
          have hs := bnd_p e129 hs
          exact am_return dX7_parsePiece_146 rfl ⟨_, bnd_eq e6 (bnd_eq e13 (ifp c22 (bnd_eq e28 (ifn c37 (ifn c100 (bnd_eq e106 (bnd_eq e113 (bnd_eq e120 (ifp c126 (bnd_eq e129 (rfl))))))))))), rfl, w131⟩
        · have hs := hs.2 c126
          refine am_aload_n dX7_parsePiece_104 5 rfl ?_
          obtain ⟨i132, hs⟩ := hs
          refine am_callV (As := []) (rest := []) dX7_parsePiece_105 kMX7_260 rfl (hmc221 (m := r119.2) w121) rfl rfl (Nat.le_of_ble_eq_true rfl) (d2 := 1) (by decide) (k2 := 0) (Nat.zero_le _) (u2 := 0) (Nat.zero_le _) (Nat.le_of_ble_eq_true rfl) (ctX7_advance (m := r119.2) w121  i132) (fun v133 h134 q135 => ?_)
          obtain ⟨r136, e137, rfl, w138⟩ := q135
          have hs := bnd_p e137 hs
          refine am_aload_n dX7_parsePiece_108 5 rfl ?_
          obtain ⟨i139, hs⟩ := hs
          refine am_callV (As := []) (rest := []) dX7_parsePiece_109 kMX7_335 rfl (hmc221 (m := r136) w138) rfl rfl (Nat.le_of_ble_eq_true rfl) (d2 := 4) (by decide) (k2 := 0) (Nat.zero_le _) (u2 := 0) (Nat.zero_le _) (Nat.le_of_ble_eq_true rfl) (ctX7_times (m := r136) w138  i139) (fun v140 h141 q142 => ?_)
          obtain ⟨r143, e144, rfl, w145⟩ := q142
          have hs := bnd_p e144 hs
          refine am_istore dX7_parsePiece_112 (by decide) (lv' := [(5, .int r143.1), (4, .int r119.1), (3, .int r112.1), (2, .int (fX7_kindHere r27 )), (1, .int (fX7_findIn r12.2 10 3 ((r5.2.1 (r5.2.2)) 5) r12.1)), (0, .ref (gz G + 221))]) rfl ?_
          refine am_iconst (v := 0) dX7_parsePiece_114 (by decide) ?_
          refine am_istore dX7_parsePiece_115 (by decide) (lv' := [(6, .int 0), (5, .int r143.1), (4, .int r119.1), (3, .int r112.1), (2, .int (fX7_kindHere r27 )), (1, .int (fX7_findIn r12.2 10 3 ((r5.2.1 (r5.2.2)) 5) r12.1)), (0, .ref (gz G + 221))]) rfl ?_
          obtain ⟨i146, hs⟩ := hs
          refine wX7_parsePiece_117  r143.1 r119.1 r112.1 (fX7_kindHere r27 ) (fX7_findIn r12.2 10 3 ((r5.2.1 (r5.2.2)) 5) r12.1)  (fuU r143.1 0) 0 r143.2 ivU_i i146 w145  (fun h149 r147 e148 w150  => ?_)
          have hs := bnd_p e148 hs
          exact am_return dX7_parsePiece_146 rfl ⟨_, bnd_eq e6 (bnd_eq e13 (ifp c22 (bnd_eq e28 (ifn c37 (ifn c100 (bnd_eq e106 (bnd_eq e113 (bnd_eq e120 (ifn c126 (bnd_eq e137 (bnd_eq e144 (bnd_eq e148 (rfl))))))))))))), rfl, w150⟩
      · have hs := hs.1 c100
        refine am_aload_n dX7_parsePiece_64 2 rfl ?_
        refine am_iconst (v := 1) dX7_parsePiece_65 (by decide) ?_
        refine am_callV (As := [.int 1]) (rest := []) dX7_parsePiece_66 kMX7_300 rfl (hmc221 (m := r27) w29) rfl rfl (Nat.le_of_ble_eq_true rfl) (d2 := 1) (by decide) (k2 := 0) (Nat.zero_le _) (u2 := 0) (Nat.zero_le _) (Nat.le_of_ble_eq_true rfl) (ctX7_fail (m := r27) w29 1 ) (fun v151 h152 q153 => ?_)
        obtain ⟨r154, e155, rfl, w156⟩ := q153
        have hs := bnd_p e155 hs
        refine am_aload_n dX7_parsePiece_69 2 rfl ?_
        obtain ⟨i157, hs⟩ := hs
        refine am_callV (As := []) (rest := []) dX7_parsePiece_70 kMX7_303 rfl (hmc221 (m := r154) w156) rfl rfl (Nat.le_of_ble_eq_true rfl) (d2 := 2) (by decide) (k2 := 0) (Nat.zero_le _) (u2 := 0) (Nat.zero_le _) (Nat.le_of_ble_eq_true rfl) (ctX7_goOn (m := r154) w156  i157) (fun v158 h159 q160 => ?_)
        obtain ⟨r161, e162, rfl, w163⟩ := q160
        have hs := bnd_p e162 hs
        refine am_aload_n dX7_parsePiece_73 2 rfl ?_
        refine am_sipush (v := 500) dX7_parsePiece_74 (by decide) ?_
        obtain ⟨i164, hs⟩ := hs
        refine am_callV (As := [.int 500]) (rest := []) dX7_parsePiece_77 kMX7_332 rfl (hmc221 (m := r161) w163) rfl rfl (Nat.le_of_ble_eq_true rfl) (d2 := 4) (by decide) (k2 := 0) (Nat.zero_le _) (u2 := 0) (Nat.zero_le _) (Nat.le_of_ble_eq_true rfl) (ctX7_someLength (m := r161) w163 500 i164) (fun v165 h166 q167 => ?_)
        obtain ⟨r168, e169, rfl, w170⟩ := q167
        have hs := bnd_p e169 hs
        refine am_istore_n dX7_parsePiece_80 (by decide) (lv' := [(3, .int r168.1), (2, .int (fX7_kindHere r27 )), (1, .int (fX7_findIn r12.2 10 3 ((r5.2.1 (r5.2.2)) 5) r12.1)), (0, .ref (gz G + 221))]) rfl ?_
        refine am_aload_n dX7_parsePiece_81 3 rfl ?_
        refine am_iconst (v := 0) dX7_parsePiece_82 (by decide) ?_
        refine am_sipush (v := 255) dX7_parsePiece_83 (by decide) ?_
        obtain ⟨i171, hs⟩ := hs
        refine am_callV (As := [.int 0, .int 255]) (rest := []) dX7_parsePiece_86 kMX7_322 rfl (hmc221 (m := r168.2) w170) rfl rfl (Nat.le_of_ble_eq_true rfl) (d2 := 3) (by decide) (k2 := 0) (Nat.zero_le _) (u2 := 0) (Nat.zero_le _) (Nat.le_of_ble_eq_true rfl) (ctX7_number (m := r168.2) w170 0 255 i171) (fun v172 h173 q174 => ?_)
        obtain ⟨r175, e176, rfl, w177⟩ := q174
        have hs := bnd_p e176 hs
        refine am_istore dX7_parsePiece_89 (by decide) (lv' := [(4, .int r175.1), (3, .int r168.1), (2, .int (fX7_kindHere r27 )), (1, .int (fX7_findIn r12.2 10 3 ((r5.2.1 (r5.2.2)) 5) r12.1)), (0, .ref (gz G + 221))]) rfl ?_
        refine am_iconst (v := 1) dX7_parsePiece_91 (by decide) ?_
        refine am_istore dX7_parsePiece_92 (by decide) (lv' := [(5, .int 1), (4, .int r175.1), (3, .int r168.1), (2, .int (fX7_kindHere r27 )), (1, .int (fX7_findIn r12.2 10 3 ((r5.2.1 (r5.2.2)) 5) r12.1)), (0, .ref (gz G + 221))]) rfl ?_
        refine am_aload_n dX7_parsePiece_94 5 rfl ?_
        refine am_ldcwS (j := 31) dX7_parsePiece_95 rfl ?_
        obtain ⟨i178, hs⟩ := hs
        refine am_callV (As := [.ref (gS G 31)]) (rest := []) dX7_parsePiece_98 kMX7_274 rfl (hmc221 (m := r175.2) w177) rfl rfl (Nat.le_of_ble_eq_true rfl) (d2 := 4) (by decide) (k2 := 0) (Nat.zero_le _) (u2 := 0) (Nat.zero_le _) (Nat.le_of_ble_eq_true rfl) (ctX7_isText (m := r175.2) w177 (j := 31) (q := sq31) rfl i178) (fun v179 h180 q181 => ?_)
        obtain ⟨rfl, rfl⟩ := q181
        refine am_if_eq dX7_parsePiece_101 (by decide : ((101 : Nat) : Int) + (13) = ((114 : Nat) : Int)) (fun c182 => ?_) (fun c182 => ?_)
        · have hs := hs.1 c182
          refine am_iconst (v := 0) dX7_parsePiece_114 (by decide) ?_
          refine am_istore dX7_parsePiece_115 (by decide) (lv' := [(6, .int 0), (5, .int 1), (4, .int r175.1), (3, .int r168.1), (2, .int (fX7_kindHere r27 )), (1, .int (fX7_findIn r12.2 10 3 ((r5.2.1 (r5.2.2)) 5) r12.1)), (0, .ref (gz G + 221))]) rfl ?_
          obtain ⟨i183, hs⟩ := hs
          refine wX7_parsePiece_117  1 r175.1 r168.1 (fX7_kindHere r27 ) (fX7_findIn r12.2 10 3 ((r5.2.1 (r5.2.2)) 5) r12.1)  (fuU 1 0) 0 r175.2 ivU_i i183 w177  (fun h186 r184 e185 w187  => ?_)
          have hs := bnd_p e185 hs
          exact am_return dX7_parsePiece_146 rfl ⟨_, bnd_eq e6 (bnd_eq e13 (ifp c22 (bnd_eq e28 (ifn c37 (ifp c100 (bnd_eq e155 (bnd_eq e162 (bnd_eq e169 (bnd_eq e176 (ifp c182 (bnd_eq e185 (rfl)))))))))))), rfl, w187⟩
        · have hs := hs.2 c182
          refine am_aload_n dX7_parsePiece_104 5 rfl ?_
          obtain ⟨i188, hs⟩ := hs
          refine am_callV (As := []) (rest := []) dX7_parsePiece_105 kMX7_260 rfl (hmc221 (m := r175.2) w177) rfl rfl (Nat.le_of_ble_eq_true rfl) (d2 := 1) (by decide) (k2 := 0) (Nat.zero_le _) (u2 := 0) (Nat.zero_le _) (Nat.le_of_ble_eq_true rfl) (ctX7_advance (m := r175.2) w177  i188) (fun v189 h190 q191 => ?_)
          obtain ⟨r192, e193, rfl, w194⟩ := q191
          have hs := bnd_p e193 hs
          refine am_aload_n dX7_parsePiece_108 5 rfl ?_
          obtain ⟨i195, hs⟩ := hs
          refine am_callV (As := []) (rest := []) dX7_parsePiece_109 kMX7_335 rfl (hmc221 (m := r192) w194) rfl rfl (Nat.le_of_ble_eq_true rfl) (d2 := 4) (by decide) (k2 := 0) (Nat.zero_le _) (u2 := 0) (Nat.zero_le _) (Nat.le_of_ble_eq_true rfl) (ctX7_times (m := r192) w194  i195) (fun v196 h197 q198 => ?_)
          obtain ⟨r199, e200, rfl, w201⟩ := q198
          have hs := bnd_p e200 hs
          refine am_istore dX7_parsePiece_112 (by decide) (lv' := [(5, .int r199.1), (4, .int r175.1), (3, .int r168.1), (2, .int (fX7_kindHere r27 )), (1, .int (fX7_findIn r12.2 10 3 ((r5.2.1 (r5.2.2)) 5) r12.1)), (0, .ref (gz G + 221))]) rfl ?_
          refine am_iconst (v := 0) dX7_parsePiece_114 (by decide) ?_
          refine am_istore dX7_parsePiece_115 (by decide) (lv' := [(6, .int 0), (5, .int r199.1), (4, .int r175.1), (3, .int r168.1), (2, .int (fX7_kindHere r27 )), (1, .int (fX7_findIn r12.2 10 3 ((r5.2.1 (r5.2.2)) 5) r12.1)), (0, .ref (gz G + 221))]) rfl ?_
          obtain ⟨i202, hs⟩ := hs
          refine wX7_parsePiece_117  r199.1 r175.1 r168.1 (fX7_kindHere r27 ) (fX7_findIn r12.2 10 3 ((r5.2.1 (r5.2.2)) 5) r12.1)  (fuU r199.1 0) 0 r199.2 ivU_i i202 w201  (fun h205 r203 e204 w206  => ?_)
          have hs := bnd_p e204 hs
          exact am_return dX7_parsePiece_146 rfl ⟨_, bnd_eq e6 (bnd_eq e13 (ifp c22 (bnd_eq e28 (ifn c37 (ifp c100 (bnd_eq e155 (bnd_eq e162 (bnd_eq e169 (bnd_eq e176 (ifn c182 (bnd_eq e193 (bnd_eq e200 (bnd_eq e204 (rfl)))))))))))))), rfl, w206⟩
  · have hs := hs.2 c22
    refine am_iload_n dX7_parsePiece_33 0 rfl ?_
    refine am_iconst (v := (-1)) dX7_parsePiece_34 (by decide) ?_
    refine am_icmp_ne dX7_parsePiece_35 (by decide : ((35 : Nat) : Int) + (8) = ((43 : Nat) : Int)) (fun c207 => ?_) (fun c207 => ?_)
    · have hs := hs.2 c207
      refine am_aload_n dX7_parsePiece_43 1 rfl ?_
      obtain ⟨i208, hs⟩ := hs
      refine am_callV (As := []) (rest := []) dX7_parsePiece_44 kMX7_303 rfl (hmc221 (m := r12.2) w14) rfl rfl (Nat.le_of_ble_eq_true rfl) (d2 := 2) (by decide) (k2 := 0) (Nat.zero_le _) (u2 := 0) (Nat.zero_le _) (Nat.le_of_ble_eq_true rfl) (ctX7_goOn (m := r12.2) w14  i208) (fun v209 h210 q211 => ?_)
      obtain ⟨r212, e213, rfl, w214⟩ := q211
      have hs := bnd_p e213 hs
      refine am_aload_n dX7_parsePiece_47 1 rfl ?_
      obtain ⟨i215, hs⟩ := hs
      refine am_callV (As := []) (rest := []) dX7_parsePiece_48 kMX7_295 rfl (hmc221 (m := r212) w214) rfl rfl (Nat.le_of_ble_eq_true rfl) (d2 := 5) (by decide) (k2 := 0) (Nat.zero_le _) (u2 := 0) (Nat.zero_le _) (Nat.le_of_ble_eq_true rfl) (ctX7_kindHere (m := r212) w214  i215) (fun v216 h217 q218 => ?_)
      obtain ⟨rfl, rfl⟩ := q218
      refine am_istore_n dX7_parsePiece_51 (by decide) (lv' := [(2, .int (fX7_kindHere r212 )), (1, .int (fX7_findIn r12.2 10 3 ((r5.2.1 (r5.2.2)) 5) r12.1)), (0, .ref (gz G + 221))]) rfl ?_
      refine am_aload_n dX7_parsePiece_52 2 rfl ?_
      refine am_callV (As := []) (rest := []) dX7_parsePiece_53 kMX7_229 rfl (hmc221 (m := r212) w214) rfl rfl (Nat.le_of_ble_eq_true rfl) (d2 := 0) (by decide) (k2 := 0) (Nat.zero_le _) (u2 := 0) (Nat.zero_le _) (Nat.le_of_ble_eq_true rfl) (ctX7_good (m := r212) w214  ) (fun v219 h220 q221 => ?_)
      obtain ⟨rfl, rfl⟩ := q221
      refine am_if_eq dX7_parsePiece_56 (by decide : ((56 : Nat) : Int) + (13) = ((69 : Nat) : Int)) (fun c222 => ?_) (fun c222 => ?_)
      · have hs := hs.1 c222
        refine am_aload_n dX7_parsePiece_69 2 rfl ?_
        obtain ⟨i223, hs⟩ := hs
        refine am_callV (As := []) (rest := []) dX7_parsePiece_70 kMX7_303 rfl (hmc221 (m := r212) w214) rfl rfl (Nat.le_of_ble_eq_true rfl) (d2 := 2) (by decide) (k2 := 0) (Nat.zero_le _) (u2 := 0) (Nat.zero_le _) (Nat.le_of_ble_eq_true rfl) (ctX7_goOn (m := r212) w214  i223) (fun v224 h225 q226 => ?_)
        obtain ⟨r227, e228, rfl, w229⟩ := q226
        have hs := bnd_p e228 hs
        refine am_aload_n dX7_parsePiece_73 2 rfl ?_
        refine am_sipush (v := 500) dX7_parsePiece_74 (by decide) ?_
        obtain ⟨i230, hs⟩ := hs
        refine am_callV (As := [.int 500]) (rest := []) dX7_parsePiece_77 kMX7_332 rfl (hmc221 (m := r227) w229) rfl rfl (Nat.le_of_ble_eq_true rfl) (d2 := 4) (by decide) (k2 := 0) (Nat.zero_le _) (u2 := 0) (Nat.zero_le _) (Nat.le_of_ble_eq_true rfl) (ctX7_someLength (m := r227) w229 500 i230) (fun v231 h232 q233 => ?_)
        obtain ⟨r234, e235, rfl, w236⟩ := q233
        have hs := bnd_p e235 hs
        refine am_istore_n dX7_parsePiece_80 (by decide) (lv' := [(3, .int r234.1), (2, .int (fX7_kindHere r212 )), (1, .int (fX7_findIn r12.2 10 3 ((r5.2.1 (r5.2.2)) 5) r12.1)), (0, .ref (gz G + 221))]) rfl ?_
        refine am_aload_n dX7_parsePiece_81 3 rfl ?_
        refine am_iconst (v := 0) dX7_parsePiece_82 (by decide) ?_
        refine am_sipush (v := 255) dX7_parsePiece_83 (by decide) ?_
        obtain ⟨i237, hs⟩ := hs
        refine am_callV (As := [.int 0, .int 255]) (rest := []) dX7_parsePiece_86 kMX7_322 rfl (hmc221 (m := r234.2) w236) rfl rfl (Nat.le_of_ble_eq_true rfl) (d2 := 3) (by decide) (k2 := 0) (Nat.zero_le _) (u2 := 0) (Nat.zero_le _) (Nat.le_of_ble_eq_true rfl) (ctX7_number (m := r234.2) w236 0 255 i237) (fun v238 h239 q240 => ?_)
        obtain ⟨r241, e242, rfl, w243⟩ := q240
        have hs := bnd_p e242 hs
        refine am_istore dX7_parsePiece_89 (by decide) (lv' := [(4, .int r241.1), (3, .int r234.1), (2, .int (fX7_kindHere r212 )), (1, .int (fX7_findIn r12.2 10 3 ((r5.2.1 (r5.2.2)) 5) r12.1)), (0, .ref (gz G + 221))]) rfl ?_
        refine am_iconst (v := 1) dX7_parsePiece_91 (by decide) ?_
        refine am_istore dX7_parsePiece_92 (by decide) (lv' := [(5, .int 1), (4, .int r241.1), (3, .int r234.1), (2, .int (fX7_kindHere r212 )), (1, .int (fX7_findIn r12.2 10 3 ((r5.2.1 (r5.2.2)) 5) r12.1)), (0, .ref (gz G + 221))]) rfl ?_
        refine am_aload_n dX7_parsePiece_94 5 rfl ?_
        refine am_ldcwS (j := 31) dX7_parsePiece_95 rfl ?_
        obtain ⟨i244, hs⟩ := hs
        refine am_callV (As := [.ref (gS G 31)]) (rest := []) dX7_parsePiece_98 kMX7_274 rfl (hmc221 (m := r241.2) w243) rfl rfl (Nat.le_of_ble_eq_true rfl) (d2 := 4) (by decide) (k2 := 0) (Nat.zero_le _) (u2 := 0) (Nat.zero_le _) (Nat.le_of_ble_eq_true rfl) (ctX7_isText (m := r241.2) w243 (j := 31) (q := sq31) rfl i244) (fun v245 h246 q247 => ?_)
        obtain ⟨rfl, rfl⟩ := q247
        refine am_if_eq dX7_parsePiece_101 (by decide : ((101 : Nat) : Int) + (13) = ((114 : Nat) : Int)) (fun c248 => ?_) (fun c248 => ?_)
        · have hs := hs.1 c248
          refine am_iconst (v := 0) dX7_parsePiece_114 (by decide) ?_
          refine am_istore dX7_parsePiece_115 (by decide) (lv' := [(6, .int 0), (5, .int 1), (4, .int r241.1), (3, .int r234.1), (2, .int (fX7_kindHere r212 )), (1, .int (fX7_findIn r12.2 10 3 ((r5.2.1 (r5.2.2)) 5) r12.1)), (0, .ref (gz G + 221))]) rfl ?_
          obtain ⟨i249, hs⟩ := hs
          refine wX7_parsePiece_117  1 r241.1 r234.1 (fX7_kindHere r212 ) (fX7_findIn r12.2 10 3 ((r5.2.1 (r5.2.2)) 5) r12.1)  (fuU 1 0) 0 r241.2 ivU_i i249 w243  (fun h252 r250 e251 w253  => ?_)
          have hs := bnd_p e251 hs
          exact am_return dX7_parsePiece_146 rfl ⟨_, bnd_eq e6 (bnd_eq e13 (ifn c22 (ifn c207 (bnd_eq e213 (ifp c222 (bnd_eq e228 (bnd_eq e235 (bnd_eq e242 (ifp c248 (bnd_eq e251 (rfl))))))))))), rfl, w253⟩
        · have hs := hs.2 c248
          refine am_aload_n dX7_parsePiece_104 5 rfl ?_
          obtain ⟨i254, hs⟩ := hs
          refine am_callV (As := []) (rest := []) dX7_parsePiece_105 kMX7_260 rfl (hmc221 (m := r241.2) w243) rfl rfl (Nat.le_of_ble_eq_true rfl) (d2 := 1) (by decide) (k2 := 0) (Nat.zero_le _) (u2 := 0) (Nat.zero_le _) (Nat.le_of_ble_eq_true rfl) (ctX7_advance (m := r241.2) w243  i254) (fun v255 h256 q257 => ?_)
          obtain ⟨r258, e259, rfl, w260⟩ := q257
          have hs := bnd_p e259 hs
          refine am_aload_n dX7_parsePiece_108 5 rfl ?_
          obtain ⟨i261, hs⟩ := hs
          refine am_callV (As := []) (rest := []) dX7_parsePiece_109 kMX7_335 rfl (hmc221 (m := r258) w260) rfl rfl (Nat.le_of_ble_eq_true rfl) (d2 := 4) (by decide) (k2 := 0) (Nat.zero_le _) (u2 := 0) (Nat.zero_le _) (Nat.le_of_ble_eq_true rfl) (ctX7_times (m := r258) w260  i261) (fun v262 h263 q264 => ?_)
          obtain ⟨r265, e266, rfl, w267⟩ := q264
          have hs := bnd_p e266 hs
          refine am_istore dX7_parsePiece_112 (by decide) (lv' := [(5, .int r265.1), (4, .int r241.1), (3, .int r234.1), (2, .int (fX7_kindHere r212 )), (1, .int (fX7_findIn r12.2 10 3 ((r5.2.1 (r5.2.2)) 5) r12.1)), (0, .ref (gz G + 221))]) rfl ?_
          refine am_iconst (v := 0) dX7_parsePiece_114 (by decide) ?_
          refine am_istore dX7_parsePiece_115 (by decide) (lv' := [(6, .int 0), (5, .int r265.1), (4, .int r241.1), (3, .int r234.1), (2, .int (fX7_kindHere r212 )), (1, .int (fX7_findIn r12.2 10 3 ((r5.2.1 (r5.2.2)) 5) r12.1)), (0, .ref (gz G + 221))]) rfl ?_
          obtain ⟨i268, hs⟩ := hs
          refine wX7_parsePiece_117  r265.1 r241.1 r234.1 (fX7_kindHere r212 ) (fX7_findIn r12.2 10 3 ((r5.2.1 (r5.2.2)) 5) r12.1)  (fuU r265.1 0) 0 r265.2 ivU_i i268 w267  (fun h271 r269 e270 w272  => ?_)
          have hs := bnd_p e270 hs
          exact am_return dX7_parsePiece_146 rfl ⟨_, bnd_eq e6 (bnd_eq e13 (ifn c22 (ifn c207 (bnd_eq e213 (ifp c222 (bnd_eq e228 (bnd_eq e235 (bnd_eq e242 (ifn c248 (bnd_eq e259 (bnd_eq e266 (bnd_eq e270 (rfl))))))))))))), rfl, w272⟩
      · have hs := hs.2 c222
        refine am_iload_n dX7_parsePiece_59 0 rfl ?_
        refine am_iconst (v := (-1)) dX7_parsePiece_60 (by decide) ?_
        refine am_icmp_ne dX7_parsePiece_61 (by decide : ((61 : Nat) : Int) + (8) = ((69 : Nat) : Int)) (fun c273 => ?_) (fun c273 => ?_)
        · have hs := hs.2 c273
          refine am_aload_n dX7_parsePiece_69 2 rfl ?_
          obtain ⟨i274, hs⟩ := hs
          refine am_callV (As := []) (rest := []) dX7_parsePiece_70 kMX7_303 rfl (hmc221 (m := r212) w214) rfl rfl (Nat.le_of_ble_eq_true rfl) (d2 := 2) (by decide) (k2 := 0) (Nat.zero_le _) (u2 := 0) (Nat.zero_le _) (Nat.le_of_ble_eq_true rfl) (ctX7_goOn (m := r212) w214  i274) (fun v275 h276 q277 => ?_)
          obtain ⟨r278, e279, rfl, w280⟩ := q277
          have hs := bnd_p e279 hs
          refine am_aload_n dX7_parsePiece_73 2 rfl ?_
          refine am_sipush (v := 500) dX7_parsePiece_74 (by decide) ?_
          obtain ⟨i281, hs⟩ := hs
          refine am_callV (As := [.int 500]) (rest := []) dX7_parsePiece_77 kMX7_332 rfl (hmc221 (m := r278) w280) rfl rfl (Nat.le_of_ble_eq_true rfl) (d2 := 4) (by decide) (k2 := 0) (Nat.zero_le _) (u2 := 0) (Nat.zero_le _) (Nat.le_of_ble_eq_true rfl) (ctX7_someLength (m := r278) w280 500 i281) (fun v282 h283 q284 => ?_)
          obtain ⟨r285, e286, rfl, w287⟩ := q284
          have hs := bnd_p e286 hs
          refine am_istore_n dX7_parsePiece_80 (by decide) (lv' := [(3, .int r285.1), (2, .int (fX7_kindHere r212 )), (1, .int (fX7_findIn r12.2 10 3 ((r5.2.1 (r5.2.2)) 5) r12.1)), (0, .ref (gz G + 221))]) rfl ?_
          refine am_aload_n dX7_parsePiece_81 3 rfl ?_
          refine am_iconst (v := 0) dX7_parsePiece_82 (by decide) ?_
          refine am_sipush (v := 255) dX7_parsePiece_83 (by decide) ?_
          obtain ⟨i288, hs⟩ := hs
          refine am_callV (As := [.int 0, .int 255]) (rest := []) dX7_parsePiece_86 kMX7_322 rfl (hmc221 (m := r285.2) w287) rfl rfl (Nat.le_of_ble_eq_true rfl) (d2 := 3) (by decide) (k2 := 0) (Nat.zero_le _) (u2 := 0) (Nat.zero_le _) (Nat.le_of_ble_eq_true rfl) (ctX7_number (m := r285.2) w287 0 255 i288) (fun v289 h290 q291 => ?_)
          obtain ⟨r292, e293, rfl, w294⟩ := q291
          have hs := bnd_p e293 hs
          refine am_istore dX7_parsePiece_89 (by decide) (lv' := [(4, .int r292.1), (3, .int r285.1), (2, .int (fX7_kindHere r212 )), (1, .int (fX7_findIn r12.2 10 3 ((r5.2.1 (r5.2.2)) 5) r12.1)), (0, .ref (gz G + 221))]) rfl ?_
          refine am_iconst (v := 1) dX7_parsePiece_91 (by decide) ?_
          refine am_istore dX7_parsePiece_92 (by decide) (lv' := [(5, .int 1), (4, .int r292.1), (3, .int r285.1), (2, .int (fX7_kindHere r212 )), (1, .int (fX7_findIn r12.2 10 3 ((r5.2.1 (r5.2.2)) 5) r12.1)), (0, .ref (gz G + 221))]) rfl ?_
          refine am_aload_n dX7_parsePiece_94 5 rfl ?_
          refine am_ldcwS (j := 31) dX7_parsePiece_95 rfl ?_
          obtain ⟨i295, hs⟩ := hs
          refine am_callV (As := [.ref (gS G 31)]) (rest := []) dX7_parsePiece_98 kMX7_274 rfl (hmc221 (m := r292.2) w294) rfl rfl (Nat.le_of_ble_eq_true rfl) (d2 := 4) (by decide) (k2 := 0) (Nat.zero_le _) (u2 := 0) (Nat.zero_le _) (Nat.le_of_ble_eq_true rfl) (ctX7_isText (m := r292.2) w294 (j := 31) (q := sq31) rfl i295) (fun v296 h297 q298 => ?_)
          obtain ⟨rfl, rfl⟩ := q298
          refine am_if_eq dX7_parsePiece_101 (by decide : ((101 : Nat) : Int) + (13) = ((114 : Nat) : Int)) (fun c299 => ?_) (fun c299 => ?_)
          · have hs := hs.1 c299
            refine am_iconst (v := 0) dX7_parsePiece_114 (by decide) ?_
            refine am_istore dX7_parsePiece_115 (by decide) (lv' := [(6, .int 0), (5, .int 1), (4, .int r292.1), (3, .int r285.1), (2, .int (fX7_kindHere r212 )), (1, .int (fX7_findIn r12.2 10 3 ((r5.2.1 (r5.2.2)) 5) r12.1)), (0, .ref (gz G + 221))]) rfl ?_
            obtain ⟨i300, hs⟩ := hs
            refine wX7_parsePiece_117  1 r292.1 r285.1 (fX7_kindHere r212 ) (fX7_findIn r12.2 10 3 ((r5.2.1 (r5.2.2)) 5) r12.1)  (fuU 1 0) 0 r292.2 ivU_i i300 w294  (fun h303 r301 e302 w304  => ?_)
            have hs := bnd_p e302 hs
            exact am_return dX7_parsePiece_146 rfl ⟨_, bnd_eq e6 (bnd_eq e13 (ifn c22 (ifn c207 (bnd_eq e213 (ifn c222 (ifn c273 (bnd_eq e279 (bnd_eq e286 (bnd_eq e293 (ifp c299 (bnd_eq e302 (rfl)))))))))))), rfl, w304⟩
          · have hs := hs.2 c299
            refine am_aload_n dX7_parsePiece_104 5 rfl ?_
            obtain ⟨i305, hs⟩ := hs
            refine am_callV (As := []) (rest := []) dX7_parsePiece_105 kMX7_260 rfl (hmc221 (m := r292.2) w294) rfl rfl (Nat.le_of_ble_eq_true rfl) (d2 := 1) (by decide) (k2 := 0) (Nat.zero_le _) (u2 := 0) (Nat.zero_le _) (Nat.le_of_ble_eq_true rfl) (ctX7_advance (m := r292.2) w294  i305) (fun v306 h307 q308 => ?_)
            obtain ⟨r309, e310, rfl, w311⟩ := q308
            have hs := bnd_p e310 hs
            refine am_aload_n dX7_parsePiece_108 5 rfl ?_
            obtain ⟨i312, hs⟩ := hs
            refine am_callV (As := []) (rest := []) dX7_parsePiece_109 kMX7_335 rfl (hmc221 (m := r309) w311) rfl rfl (Nat.le_of_ble_eq_true rfl) (d2 := 4) (by decide) (k2 := 0) (Nat.zero_le _) (u2 := 0) (Nat.zero_le _) (Nat.le_of_ble_eq_true rfl) (ctX7_times (m := r309) w311  i312) (fun v313 h314 q315 => ?_)
            obtain ⟨r316, e317, rfl, w318⟩ := q315
            have hs := bnd_p e317 hs
            refine am_istore dX7_parsePiece_112 (by decide) (lv' := [(5, .int r316.1), (4, .int r292.1), (3, .int r285.1), (2, .int (fX7_kindHere r212 )), (1, .int (fX7_findIn r12.2 10 3 ((r5.2.1 (r5.2.2)) 5) r12.1)), (0, .ref (gz G + 221))]) rfl ?_
            refine am_iconst (v := 0) dX7_parsePiece_114 (by decide) ?_
            refine am_istore dX7_parsePiece_115 (by decide) (lv' := [(6, .int 0), (5, .int r316.1), (4, .int r292.1), (3, .int r285.1), (2, .int (fX7_kindHere r212 )), (1, .int (fX7_findIn r12.2 10 3 ((r5.2.1 (r5.2.2)) 5) r12.1)), (0, .ref (gz G + 221))]) rfl ?_
            obtain ⟨i319, hs⟩ := hs
            refine wX7_parsePiece_117  r316.1 r292.1 r285.1 (fX7_kindHere r212 ) (fX7_findIn r12.2 10 3 ((r5.2.1 (r5.2.2)) 5) r12.1)  (fuU r316.1 0) 0 r316.2 ivU_i i319 w318  (fun h322 r320 e321 w323  => ?_)
            have hs := bnd_p e321 hs
            exact am_return dX7_parsePiece_146 rfl ⟨_, bnd_eq e6 (bnd_eq e13 (ifn c22 (ifn c207 (bnd_eq e213 (ifn c222 (ifn c273 (bnd_eq e279 (bnd_eq e286 (bnd_eq e293 (ifn c299 (bnd_eq e310 (bnd_eq e317 (bnd_eq e321 (rfl)))))))))))))), rfl, w323⟩
        · have hs := hs.1 c273
          refine am_aload_n dX7_parsePiece_64 2 rfl ?_
          refine am_iconst (v := 1) dX7_parsePiece_65 (by decide) ?_
          refine am_callV (As := [.int 1]) (rest := []) dX7_parsePiece_66 kMX7_300 rfl (hmc221 (m := r212) w214) rfl rfl (Nat.le_of_ble_eq_true rfl) (d2 := 1) (by decide) (k2 := 0) (Nat.zero_le _) (u2 := 0) (Nat.zero_le _) (Nat.le_of_ble_eq_true rfl) (ctX7_fail (m := r212) w214 1 ) (fun v324 h325 q326 => ?_)
          obtain ⟨r327, e328, rfl, w329⟩ := q326
          have hs := bnd_p e328 hs
          refine am_aload_n dX7_parsePiece_69 2 rfl ?_
          obtain ⟨i330, hs⟩ := hs
          refine am_callV (As := []) (rest := []) dX7_parsePiece_70 kMX7_303 rfl (hmc221 (m := r327) w329) rfl rfl (Nat.le_of_ble_eq_true rfl) (d2 := 2) (by decide) (k2 := 0) (Nat.zero_le _) (u2 := 0) (Nat.zero_le _) (Nat.le_of_ble_eq_true rfl) (ctX7_goOn (m := r327) w329  i330) (fun v331 h332 q333 => ?_)
          obtain ⟨r334, e335, rfl, w336⟩ := q333
          have hs := bnd_p e335 hs
          refine am_aload_n dX7_parsePiece_73 2 rfl ?_
          refine am_sipush (v := 500) dX7_parsePiece_74 (by decide) ?_
          obtain ⟨i337, hs⟩ := hs
          refine am_callV (As := [.int 500]) (rest := []) dX7_parsePiece_77 kMX7_332 rfl (hmc221 (m := r334) w336) rfl rfl (Nat.le_of_ble_eq_true rfl) (d2 := 4) (by decide) (k2 := 0) (Nat.zero_le _) (u2 := 0) (Nat.zero_le _) (Nat.le_of_ble_eq_true rfl) (ctX7_someLength (m := r334) w336 500 i337) (fun v338 h339 q340 => ?_)
          obtain ⟨r341, e342, rfl, w343⟩ := q340
          have hs := bnd_p e342 hs
          refine am_istore_n dX7_parsePiece_80 (by decide) (lv' := [(3, .int r341.1), (2, .int (fX7_kindHere r212 )), (1, .int (fX7_findIn r12.2 10 3 ((r5.2.1 (r5.2.2)) 5) r12.1)), (0, .ref (gz G + 221))]) rfl ?_
          refine am_aload_n dX7_parsePiece_81 3 rfl ?_
          refine am_iconst (v := 0) dX7_parsePiece_82 (by decide) ?_
          refine am_sipush (v := 255) dX7_parsePiece_83 (by decide) ?_
          obtain ⟨i344, hs⟩ := hs
          refine am_callV (As := [.int 0, .int 255]) (rest := []) dX7_parsePiece_86 kMX7_322 rfl (hmc221 (m := r341.2) w343) rfl rfl (Nat.le_of_ble_eq_true rfl) (d2 := 3) (by decide) (k2 := 0) (Nat.zero_le _) (u2 := 0) (Nat.zero_le _) (Nat.le_of_ble_eq_true rfl) (ctX7_number (m := r341.2) w343 0 255 i344) (fun v345 h346 q347 => ?_)
          obtain ⟨r348, e349, rfl, w350⟩ := q347
          have hs := bnd_p e349 hs
          refine am_istore dX7_parsePiece_89 (by decide) (lv' := [(4, .int r348.1), (3, .int r341.1), (2, .int (fX7_kindHere r212 )), (1, .int (fX7_findIn r12.2 10 3 ((r5.2.1 (r5.2.2)) 5) r12.1)), (0, .ref (gz G + 221))]) rfl ?_
          refine am_iconst (v := 1) dX7_parsePiece_91 (by decide) ?_
          refine am_istore dX7_parsePiece_92 (by decide) (lv' := [(5, .int 1), (4, .int r348.1), (3, .int r341.1), (2, .int (fX7_kindHere r212 )), (1, .int (fX7_findIn r12.2 10 3 ((r5.2.1 (r5.2.2)) 5) r12.1)), (0, .ref (gz G + 221))]) rfl ?_
          refine am_aload_n dX7_parsePiece_94 5 rfl ?_
          refine am_ldcwS (j := 31) dX7_parsePiece_95 rfl ?_
          obtain ⟨i351, hs⟩ := hs
          refine am_callV (As := [.ref (gS G 31)]) (rest := []) dX7_parsePiece_98 kMX7_274 rfl (hmc221 (m := r348.2) w350) rfl rfl (Nat.le_of_ble_eq_true rfl) (d2 := 4) (by decide) (k2 := 0) (Nat.zero_le _) (u2 := 0) (Nat.zero_le _) (Nat.le_of_ble_eq_true rfl) (ctX7_isText (m := r348.2) w350 (j := 31) (q := sq31) rfl i351) (fun v352 h353 q354 => ?_)
          obtain ⟨rfl, rfl⟩ := q354
          refine am_if_eq dX7_parsePiece_101 (by decide : ((101 : Nat) : Int) + (13) = ((114 : Nat) : Int)) (fun c355 => ?_) (fun c355 => ?_)
          · have hs := hs.1 c355
            refine am_iconst (v := 0) dX7_parsePiece_114 (by decide) ?_
            refine am_istore dX7_parsePiece_115 (by decide) (lv' := [(6, .int 0), (5, .int 1), (4, .int r348.1), (3, .int r341.1), (2, .int (fX7_kindHere r212 )), (1, .int (fX7_findIn r12.2 10 3 ((r5.2.1 (r5.2.2)) 5) r12.1)), (0, .ref (gz G + 221))]) rfl ?_
            obtain ⟨i356, hs⟩ := hs
            refine wX7_parsePiece_117  1 r348.1 r341.1 (fX7_kindHere r212 ) (fX7_findIn r12.2 10 3 ((r5.2.1 (r5.2.2)) 5) r12.1)  (fuU 1 0) 0 r348.2 ivU_i i356 w350  (fun h359 r357 e358 w360  => ?_)
            have hs := bnd_p e358 hs
            exact am_return dX7_parsePiece_146 rfl ⟨_, bnd_eq e6 (bnd_eq e13 (ifn c22 (ifn c207 (bnd_eq e213 (ifn c222 (ifp c273 (bnd_eq e328 (bnd_eq e335 (bnd_eq e342 (bnd_eq e349 (ifp c355 (bnd_eq e358 (rfl))))))))))))), rfl, w360⟩
          · have hs := hs.2 c355
            refine am_aload_n dX7_parsePiece_104 5 rfl ?_
            obtain ⟨i361, hs⟩ := hs
            refine am_callV (As := []) (rest := []) dX7_parsePiece_105 kMX7_260 rfl (hmc221 (m := r348.2) w350) rfl rfl (Nat.le_of_ble_eq_true rfl) (d2 := 1) (by decide) (k2 := 0) (Nat.zero_le _) (u2 := 0) (Nat.zero_le _) (Nat.le_of_ble_eq_true rfl) (ctX7_advance (m := r348.2) w350  i361) (fun v362 h363 q364 => ?_)
            obtain ⟨r365, e366, rfl, w367⟩ := q364
            have hs := bnd_p e366 hs
            refine am_aload_n dX7_parsePiece_108 5 rfl ?_
            obtain ⟨i368, hs⟩ := hs
            refine am_callV (As := []) (rest := []) dX7_parsePiece_109 kMX7_335 rfl (hmc221 (m := r365) w367) rfl rfl (Nat.le_of_ble_eq_true rfl) (d2 := 4) (by decide) (k2 := 0) (Nat.zero_le _) (u2 := 0) (Nat.zero_le _) (Nat.le_of_ble_eq_true rfl) (ctX7_times (m := r365) w367  i368) (fun v369 h370 q371 => ?_)
            obtain ⟨r372, e373, rfl, w374⟩ := q371
            have hs := bnd_p e373 hs
            refine am_istore dX7_parsePiece_112 (by decide) (lv' := [(5, .int r372.1), (4, .int r348.1), (3, .int r341.1), (2, .int (fX7_kindHere r212 )), (1, .int (fX7_findIn r12.2 10 3 ((r5.2.1 (r5.2.2)) 5) r12.1)), (0, .ref (gz G + 221))]) rfl ?_
            refine am_iconst (v := 0) dX7_parsePiece_114 (by decide) ?_
            refine am_istore dX7_parsePiece_115 (by decide) (lv' := [(6, .int 0), (5, .int r372.1), (4, .int r348.1), (3, .int r341.1), (2, .int (fX7_kindHere r212 )), (1, .int (fX7_findIn r12.2 10 3 ((r5.2.1 (r5.2.2)) 5) r12.1)), (0, .ref (gz G + 221))]) rfl ?_
            obtain ⟨i375, hs⟩ := hs
            refine wX7_parsePiece_117  r372.1 r348.1 r341.1 (fX7_kindHere r212 ) (fX7_findIn r12.2 10 3 ((r5.2.1 (r5.2.2)) 5) r12.1)  (fuU r372.1 0) 0 r372.2 ivU_i i375 w374  (fun h378 r376 e377 w379  => ?_)
            have hs := bnd_p e377 hs
            exact am_return dX7_parsePiece_146 rfl ⟨_, bnd_eq e6 (bnd_eq e13 (ifn c22 (ifn c207 (bnd_eq e213 (ifn c222 (ifp c273 (bnd_eq e328 (bnd_eq e335 (bnd_eq e342 (bnd_eq e349 (ifn c355 (bnd_eq e366 (bnd_eq e373 (bnd_eq e377 (rfl))))))))))))))), rfl, w379⟩
    · have hs := hs.1 c207
      refine am_aload_n dX7_parsePiece_38 1 rfl ?_
      refine am_iconst (v := 4) dX7_parsePiece_39 (by decide) ?_
      refine am_callV (As := [.int 4]) (rest := []) dX7_parsePiece_40 kMX7_300 rfl (hmc221 (m := r12.2) w14) rfl rfl (Nat.le_of_ble_eq_true rfl) (d2 := 1) (by decide) (k2 := 0) (Nat.zero_le _) (u2 := 0) (Nat.zero_le _) (Nat.le_of_ble_eq_true rfl) (ctX7_fail (m := r12.2) w14 4 ) (fun v380 h381 q382 => ?_)
      obtain ⟨r383, e384, rfl, w385⟩ := q382
      have hs := bnd_p e384 hs
      refine am_aload_n dX7_parsePiece_43 1 rfl ?_
      obtain ⟨i386, hs⟩ := hs
      refine am_callV (As := []) (rest := []) dX7_parsePiece_44 kMX7_303 rfl (hmc221 (m := r383) w385) rfl rfl (Nat.le_of_ble_eq_true rfl) (d2 := 2) (by decide) (k2 := 0) (Nat.zero_le _) (u2 := 0) (Nat.zero_le _) (Nat.le_of_ble_eq_true rfl) (ctX7_goOn (m := r383) w385  i386) (fun v387 h388 q389 => ?_)
      obtain ⟨r390, e391, rfl, w392⟩ := q389
      have hs := bnd_p e391 hs
      refine am_aload_n dX7_parsePiece_47 1 rfl ?_
      obtain ⟨i393, hs⟩ := hs
      refine am_callV (As := []) (rest := []) dX7_parsePiece_48 kMX7_295 rfl (hmc221 (m := r390) w392) rfl rfl (Nat.le_of_ble_eq_true rfl) (d2 := 5) (by decide) (k2 := 0) (Nat.zero_le _) (u2 := 0) (Nat.zero_le _) (Nat.le_of_ble_eq_true rfl) (ctX7_kindHere (m := r390) w392  i393) (fun v394 h395 q396 => ?_)
      obtain ⟨rfl, rfl⟩ := q396
      refine am_istore_n dX7_parsePiece_51 (by decide) (lv' := [(2, .int (fX7_kindHere r390 )), (1, .int (fX7_findIn r12.2 10 3 ((r5.2.1 (r5.2.2)) 5) r12.1)), (0, .ref (gz G + 221))]) rfl ?_
      refine am_aload_n dX7_parsePiece_52 2 rfl ?_
      refine am_callV (As := []) (rest := []) dX7_parsePiece_53 kMX7_229 rfl (hmc221 (m := r390) w392) rfl rfl (Nat.le_of_ble_eq_true rfl) (d2 := 0) (by decide) (k2 := 0) (Nat.zero_le _) (u2 := 0) (Nat.zero_le _) (Nat.le_of_ble_eq_true rfl) (ctX7_good (m := r390) w392  ) (fun v397 h398 q399 => ?_)
      obtain ⟨rfl, rfl⟩ := q399
      refine am_if_eq dX7_parsePiece_56 (by decide : ((56 : Nat) : Int) + (13) = ((69 : Nat) : Int)) (fun c400 => ?_) (fun c400 => ?_)
      · have hs := hs.1 c400
        refine am_aload_n dX7_parsePiece_69 2 rfl ?_
        obtain ⟨i401, hs⟩ := hs
        refine am_callV (As := []) (rest := []) dX7_parsePiece_70 kMX7_303 rfl (hmc221 (m := r390) w392) rfl rfl (Nat.le_of_ble_eq_true rfl) (d2 := 2) (by decide) (k2 := 0) (Nat.zero_le _) (u2 := 0) (Nat.zero_le _) (Nat.le_of_ble_eq_true rfl) (ctX7_goOn (m := r390) w392  i401) (fun v402 h403 q404 => ?_)
        obtain ⟨r405, e406, rfl, w407⟩ := q404
        have hs := bnd_p e406 hs
        refine am_aload_n dX7_parsePiece_73 2 rfl ?_
        refine am_sipush (v := 500) dX7_parsePiece_74 (by decide) ?_
        obtain ⟨i408, hs⟩ := hs
        refine am_callV (As := [.int 500]) (rest := []) dX7_parsePiece_77 kMX7_332 rfl (hmc221 (m := r405) w407) rfl rfl (Nat.le_of_ble_eq_true rfl) (d2 := 4) (by decide) (k2 := 0) (Nat.zero_le _) (u2 := 0) (Nat.zero_le _) (Nat.le_of_ble_eq_true rfl) (ctX7_someLength (m := r405) w407 500 i408) (fun v409 h410 q411 => ?_)
        obtain ⟨r412, e413, rfl, w414⟩ := q411
        have hs := bnd_p e413 hs
        refine am_istore_n dX7_parsePiece_80 (by decide) (lv' := [(3, .int r412.1), (2, .int (fX7_kindHere r390 )), (1, .int (fX7_findIn r12.2 10 3 ((r5.2.1 (r5.2.2)) 5) r12.1)), (0, .ref (gz G + 221))]) rfl ?_
        refine am_aload_n dX7_parsePiece_81 3 rfl ?_
        refine am_iconst (v := 0) dX7_parsePiece_82 (by decide) ?_
        refine am_sipush (v := 255) dX7_parsePiece_83 (by decide) ?_
        obtain ⟨i415, hs⟩ := hs
        refine am_callV (As := [.int 0, .int 255]) (rest := []) dX7_parsePiece_86 kMX7_322 rfl (hmc221 (m := r412.2) w414) rfl rfl (Nat.le_of_ble_eq_true rfl) (d2 := 3) (by decide) (k2 := 0) (Nat.zero_le _) (u2 := 0) (Nat.zero_le _) (Nat.le_of_ble_eq_true rfl) (ctX7_number (m := r412.2) w414 0 255 i415) (fun v416 h417 q418 => ?_)
        obtain ⟨r419, e420, rfl, w421⟩ := q418
        have hs := bnd_p e420 hs
        refine am_istore dX7_parsePiece_89 (by decide) (lv' := [(4, .int r419.1), (3, .int r412.1), (2, .int (fX7_kindHere r390 )), (1, .int (fX7_findIn r12.2 10 3 ((r5.2.1 (r5.2.2)) 5) r12.1)), (0, .ref (gz G + 221))]) rfl ?_
        refine am_iconst (v := 1) dX7_parsePiece_91 (by decide) ?_
        refine am_istore dX7_parsePiece_92 (by decide) (lv' := [(5, .int 1), (4, .int r419.1), (3, .int r412.1), (2, .int (fX7_kindHere r390 )), (1, .int (fX7_findIn r12.2 10 3 ((r5.2.1 (r5.2.2)) 5) r12.1)), (0, .ref (gz G + 221))]) rfl ?_
        refine am_aload_n dX7_parsePiece_94 5 rfl ?_
        refine am_ldcwS (j := 31) dX7_parsePiece_95 rfl ?_
        obtain ⟨i422, hs⟩ := hs
        refine am_callV (As := [.ref (gS G 31)]) (rest := []) dX7_parsePiece_98 kMX7_274 rfl (hmc221 (m := r419.2) w421) rfl rfl (Nat.le_of_ble_eq_true rfl) (d2 := 4) (by decide) (k2 := 0) (Nat.zero_le _) (u2 := 0) (Nat.zero_le _) (Nat.le_of_ble_eq_true rfl) (ctX7_isText (m := r419.2) w421 (j := 31) (q := sq31) rfl i422) (fun v423 h424 q425 => ?_)
        obtain ⟨rfl, rfl⟩ := q425
        refine am_if_eq dX7_parsePiece_101 (by decide : ((101 : Nat) : Int) + (13) = ((114 : Nat) : Int)) (fun c426 => ?_) (fun c426 => ?_)
        · have hs := hs.1 c426
          refine am_iconst (v := 0) dX7_parsePiece_114 (by decide) ?_
          refine am_istore dX7_parsePiece_115 (by decide) (lv' := [(6, .int 0), (5, .int 1), (4, .int r419.1), (3, .int r412.1), (2, .int (fX7_kindHere r390 )), (1, .int (fX7_findIn r12.2 10 3 ((r5.2.1 (r5.2.2)) 5) r12.1)), (0, .ref (gz G + 221))]) rfl ?_
          obtain ⟨i427, hs⟩ := hs
          refine wX7_parsePiece_117  1 r419.1 r412.1 (fX7_kindHere r390 ) (fX7_findIn r12.2 10 3 ((r5.2.1 (r5.2.2)) 5) r12.1)  (fuU 1 0) 0 r419.2 ivU_i i427 w421  (fun h430 r428 e429 w431  => ?_)
          have hs := bnd_p e429 hs
          exact am_return dX7_parsePiece_146 rfl ⟨_, bnd_eq e6 (bnd_eq e13 (ifn c22 (ifp c207 (bnd_eq e384 (bnd_eq e391 (ifp c400 (bnd_eq e406 (bnd_eq e413 (bnd_eq e420 (ifp c426 (bnd_eq e429 (rfl)))))))))))), rfl, w431⟩
        · have hs := hs.2 c426
          refine am_aload_n dX7_parsePiece_104 5 rfl ?_
          obtain ⟨i432, hs⟩ := hs
          refine am_callV (As := []) (rest := []) dX7_parsePiece_105 kMX7_260 rfl (hmc221 (m := r419.2) w421) rfl rfl (Nat.le_of_ble_eq_true rfl) (d2 := 1) (by decide) (k2 := 0) (Nat.zero_le _) (u2 := 0) (Nat.zero_le _) (Nat.le_of_ble_eq_true rfl) (ctX7_advance (m := r419.2) w421  i432) (fun v433 h434 q435 => ?_)
          obtain ⟨r436, e437, rfl, w438⟩ := q435
          have hs := bnd_p e437 hs
          refine am_aload_n dX7_parsePiece_108 5 rfl ?_
          obtain ⟨i439, hs⟩ := hs
          refine am_callV (As := []) (rest := []) dX7_parsePiece_109 kMX7_335 rfl (hmc221 (m := r436) w438) rfl rfl (Nat.le_of_ble_eq_true rfl) (d2 := 4) (by decide) (k2 := 0) (Nat.zero_le _) (u2 := 0) (Nat.zero_le _) (Nat.le_of_ble_eq_true rfl) (ctX7_times (m := r436) w438  i439) (fun v440 h441 q442 => ?_)
          obtain ⟨r443, e444, rfl, w445⟩ := q442
          have hs := bnd_p e444 hs
          refine am_istore dX7_parsePiece_112 (by decide) (lv' := [(5, .int r443.1), (4, .int r419.1), (3, .int r412.1), (2, .int (fX7_kindHere r390 )), (1, .int (fX7_findIn r12.2 10 3 ((r5.2.1 (r5.2.2)) 5) r12.1)), (0, .ref (gz G + 221))]) rfl ?_
          refine am_iconst (v := 0) dX7_parsePiece_114 (by decide) ?_
          refine am_istore dX7_parsePiece_115 (by decide) (lv' := [(6, .int 0), (5, .int r443.1), (4, .int r419.1), (3, .int r412.1), (2, .int (fX7_kindHere r390 )), (1, .int (fX7_findIn r12.2 10 3 ((r5.2.1 (r5.2.2)) 5) r12.1)), (0, .ref (gz G + 221))]) rfl ?_
          obtain ⟨i446, hs⟩ := hs
          refine wX7_parsePiece_117  r443.1 r419.1 r412.1 (fX7_kindHere r390 ) (fX7_findIn r12.2 10 3 ((r5.2.1 (r5.2.2)) 5) r12.1)  (fuU r443.1 0) 0 r443.2 ivU_i i446 w445  (fun h449 r447 e448 w450  => ?_)
          have hs := bnd_p e448 hs
          exact am_return dX7_parsePiece_146 rfl ⟨_, bnd_eq e6 (bnd_eq e13 (ifn c22 (ifp c207 (bnd_eq e384 (bnd_eq e391 (ifp c400 (bnd_eq e406 (bnd_eq e413 (bnd_eq e420 (ifn c426 (bnd_eq e437 (bnd_eq e444 (bnd_eq e448 (rfl)))))))))))))), rfl, w450⟩
      · have hs := hs.2 c400
        refine am_iload_n dX7_parsePiece_59 0 rfl ?_
        refine am_iconst (v := (-1)) dX7_parsePiece_60 (by decide) ?_
        refine am_icmp_ne dX7_parsePiece_61 (by decide : ((61 : Nat) : Int) + (8) = ((69 : Nat) : Int)) (fun c451 => ?_) (fun c451 => ?_)
        · have hs := hs.2 c451
          refine am_aload_n dX7_parsePiece_69 2 rfl ?_
          obtain ⟨i452, hs⟩ := hs
          refine am_callV (As := []) (rest := []) dX7_parsePiece_70 kMX7_303 rfl (hmc221 (m := r390) w392) rfl rfl (Nat.le_of_ble_eq_true rfl) (d2 := 2) (by decide) (k2 := 0) (Nat.zero_le _) (u2 := 0) (Nat.zero_le _) (Nat.le_of_ble_eq_true rfl) (ctX7_goOn (m := r390) w392  i452) (fun v453 h454 q455 => ?_)
          obtain ⟨r456, e457, rfl, w458⟩ := q455
          have hs := bnd_p e457 hs
          refine am_aload_n dX7_parsePiece_73 2 rfl ?_
          refine am_sipush (v := 500) dX7_parsePiece_74 (by decide) ?_
          obtain ⟨i459, hs⟩ := hs
          refine am_callV (As := [.int 500]) (rest := []) dX7_parsePiece_77 kMX7_332 rfl (hmc221 (m := r456) w458) rfl rfl (Nat.le_of_ble_eq_true rfl) (d2 := 4) (by decide) (k2 := 0) (Nat.zero_le _) (u2 := 0) (Nat.zero_le _) (Nat.le_of_ble_eq_true rfl) (ctX7_someLength (m := r456) w458 500 i459) (fun v460 h461 q462 => ?_)
          obtain ⟨r463, e464, rfl, w465⟩ := q462
          have hs := bnd_p e464 hs
          refine am_istore_n dX7_parsePiece_80 (by decide) (lv' := [(3, .int r463.1), (2, .int (fX7_kindHere r390 )), (1, .int (fX7_findIn r12.2 10 3 ((r5.2.1 (r5.2.2)) 5) r12.1)), (0, .ref (gz G + 221))]) rfl ?_
          refine am_aload_n dX7_parsePiece_81 3 rfl ?_
          refine am_iconst (v := 0) dX7_parsePiece_82 (by decide) ?_
          refine am_sipush (v := 255) dX7_parsePiece_83 (by decide) ?_
          obtain ⟨i466, hs⟩ := hs
          refine am_callV (As := [.int 0, .int 255]) (rest := []) dX7_parsePiece_86 kMX7_322 rfl (hmc221 (m := r463.2) w465) rfl rfl (Nat.le_of_ble_eq_true rfl) (d2 := 3) (by decide) (k2 := 0) (Nat.zero_le _) (u2 := 0) (Nat.zero_le _) (Nat.le_of_ble_eq_true rfl) (ctX7_number (m := r463.2) w465 0 255 i466) (fun v467 h468 q469 => ?_)
          obtain ⟨r470, e471, rfl, w472⟩ := q469
          have hs := bnd_p e471 hs
          refine am_istore dX7_parsePiece_89 (by decide) (lv' := [(4, .int r470.1), (3, .int r463.1), (2, .int (fX7_kindHere r390 )), (1, .int (fX7_findIn r12.2 10 3 ((r5.2.1 (r5.2.2)) 5) r12.1)), (0, .ref (gz G + 221))]) rfl ?_
          refine am_iconst (v := 1) dX7_parsePiece_91 (by decide) ?_
          refine am_istore dX7_parsePiece_92 (by decide) (lv' := [(5, .int 1), (4, .int r470.1), (3, .int r463.1), (2, .int (fX7_kindHere r390 )), (1, .int (fX7_findIn r12.2 10 3 ((r5.2.1 (r5.2.2)) 5) r12.1)), (0, .ref (gz G + 221))]) rfl ?_
          refine am_aload_n dX7_parsePiece_94 5 rfl ?_
          refine am_ldcwS (j := 31) dX7_parsePiece_95 rfl ?_
          obtain ⟨i473, hs⟩ := hs
          refine am_callV (As := [.ref (gS G 31)]) (rest := []) dX7_parsePiece_98 kMX7_274 rfl (hmc221 (m := r470.2) w472) rfl rfl (Nat.le_of_ble_eq_true rfl) (d2 := 4) (by decide) (k2 := 0) (Nat.zero_le _) (u2 := 0) (Nat.zero_le _) (Nat.le_of_ble_eq_true rfl) (ctX7_isText (m := r470.2) w472 (j := 31) (q := sq31) rfl i473) (fun v474 h475 q476 => ?_)
          obtain ⟨rfl, rfl⟩ := q476
          refine am_if_eq dX7_parsePiece_101 (by decide : ((101 : Nat) : Int) + (13) = ((114 : Nat) : Int)) (fun c477 => ?_) (fun c477 => ?_)
          · have hs := hs.1 c477
            refine am_iconst (v := 0) dX7_parsePiece_114 (by decide) ?_
            refine am_istore dX7_parsePiece_115 (by decide) (lv' := [(6, .int 0), (5, .int 1), (4, .int r470.1), (3, .int r463.1), (2, .int (fX7_kindHere r390 )), (1, .int (fX7_findIn r12.2 10 3 ((r5.2.1 (r5.2.2)) 5) r12.1)), (0, .ref (gz G + 221))]) rfl ?_
            obtain ⟨i478, hs⟩ := hs
            refine wX7_parsePiece_117  1 r470.1 r463.1 (fX7_kindHere r390 ) (fX7_findIn r12.2 10 3 ((r5.2.1 (r5.2.2)) 5) r12.1)  (fuU 1 0) 0 r470.2 ivU_i i478 w472  (fun h481 r479 e480 w482  => ?_)
            have hs := bnd_p e480 hs
            exact am_return dX7_parsePiece_146 rfl ⟨_, bnd_eq e6 (bnd_eq e13 (ifn c22 (ifp c207 (bnd_eq e384 (bnd_eq e391 (ifn c400 (ifn c451 (bnd_eq e457 (bnd_eq e464 (bnd_eq e471 (ifp c477 (bnd_eq e480 (rfl))))))))))))), rfl, w482⟩
          · have hs := hs.2 c477
            refine am_aload_n dX7_parsePiece_104 5 rfl ?_
            obtain ⟨i483, hs⟩ := hs
            refine am_callV (As := []) (rest := []) dX7_parsePiece_105 kMX7_260 rfl (hmc221 (m := r470.2) w472) rfl rfl (Nat.le_of_ble_eq_true rfl) (d2 := 1) (by decide) (k2 := 0) (Nat.zero_le _) (u2 := 0) (Nat.zero_le _) (Nat.le_of_ble_eq_true rfl) (ctX7_advance (m := r470.2) w472  i483) (fun v484 h485 q486 => ?_)
            obtain ⟨r487, e488, rfl, w489⟩ := q486
            have hs := bnd_p e488 hs
            refine am_aload_n dX7_parsePiece_108 5 rfl ?_
            obtain ⟨i490, hs⟩ := hs
            refine am_callV (As := []) (rest := []) dX7_parsePiece_109 kMX7_335 rfl (hmc221 (m := r487) w489) rfl rfl (Nat.le_of_ble_eq_true rfl) (d2 := 4) (by decide) (k2 := 0) (Nat.zero_le _) (u2 := 0) (Nat.zero_le _) (Nat.le_of_ble_eq_true rfl) (ctX7_times (m := r487) w489  i490) (fun v491 h492 q493 => ?_)
            obtain ⟨r494, e495, rfl, w496⟩ := q493
            have hs := bnd_p e495 hs
            refine am_istore dX7_parsePiece_112 (by decide) (lv' := [(5, .int r494.1), (4, .int r470.1), (3, .int r463.1), (2, .int (fX7_kindHere r390 )), (1, .int (fX7_findIn r12.2 10 3 ((r5.2.1 (r5.2.2)) 5) r12.1)), (0, .ref (gz G + 221))]) rfl ?_
            refine am_iconst (v := 0) dX7_parsePiece_114 (by decide) ?_
            refine am_istore dX7_parsePiece_115 (by decide) (lv' := [(6, .int 0), (5, .int r494.1), (4, .int r470.1), (3, .int r463.1), (2, .int (fX7_kindHere r390 )), (1, .int (fX7_findIn r12.2 10 3 ((r5.2.1 (r5.2.2)) 5) r12.1)), (0, .ref (gz G + 221))]) rfl ?_
            obtain ⟨i497, hs⟩ := hs
            refine wX7_parsePiece_117  r494.1 r470.1 r463.1 (fX7_kindHere r390 ) (fX7_findIn r12.2 10 3 ((r5.2.1 (r5.2.2)) 5) r12.1)  (fuU r494.1 0) 0 r494.2 ivU_i i497 w496  (fun h500 r498 e499 w501  => ?_)
            have hs := bnd_p e499 hs
            exact am_return dX7_parsePiece_146 rfl ⟨_, bnd_eq e6 (bnd_eq e13 (ifn c22 (ifp c207 (bnd_eq e384 (bnd_eq e391 (ifn c400 (ifn c451 (bnd_eq e457 (bnd_eq e464 (bnd_eq e471 (ifn c477 (bnd_eq e488 (bnd_eq e495 (bnd_eq e499 (rfl))))))))))))))), rfl, w501⟩
        · have hs := hs.1 c451
          refine am_aload_n dX7_parsePiece_64 2 rfl ?_
          refine am_iconst (v := 1) dX7_parsePiece_65 (by decide) ?_
          refine am_callV (As := [.int 1]) (rest := []) dX7_parsePiece_66 kMX7_300 rfl (hmc221 (m := r390) w392) rfl rfl (Nat.le_of_ble_eq_true rfl) (d2 := 1) (by decide) (k2 := 0) (Nat.zero_le _) (u2 := 0) (Nat.zero_le _) (Nat.le_of_ble_eq_true rfl) (ctX7_fail (m := r390) w392 1 ) (fun v502 h503 q504 => ?_)
          obtain ⟨r505, e506, rfl, w507⟩ := q504
          have hs := bnd_p e506 hs
          refine am_aload_n dX7_parsePiece_69 2 rfl ?_
          obtain ⟨i508, hs⟩ := hs
          refine am_callV (As := []) (rest := []) dX7_parsePiece_70 kMX7_303 rfl (hmc221 (m := r505) w507) rfl rfl (Nat.le_of_ble_eq_true rfl) (d2 := 2) (by decide) (k2 := 0) (Nat.zero_le _) (u2 := 0) (Nat.zero_le _) (Nat.le_of_ble_eq_true rfl) (ctX7_goOn (m := r505) w507  i508) (fun v509 h510 q511 => ?_)
          obtain ⟨r512, e513, rfl, w514⟩ := q511
          have hs := bnd_p e513 hs
          refine am_aload_n dX7_parsePiece_73 2 rfl ?_
          refine am_sipush (v := 500) dX7_parsePiece_74 (by decide) ?_
          obtain ⟨i515, hs⟩ := hs
          refine am_callV (As := [.int 500]) (rest := []) dX7_parsePiece_77 kMX7_332 rfl (hmc221 (m := r512) w514) rfl rfl (Nat.le_of_ble_eq_true rfl) (d2 := 4) (by decide) (k2 := 0) (Nat.zero_le _) (u2 := 0) (Nat.zero_le _) (Nat.le_of_ble_eq_true rfl) (ctX7_someLength (m := r512) w514 500 i515) (fun v516 h517 q518 => ?_)
          obtain ⟨r519, e520, rfl, w521⟩ := q518
          have hs := bnd_p e520 hs
          refine am_istore_n dX7_parsePiece_80 (by decide) (lv' := [(3, .int r519.1), (2, .int (fX7_kindHere r390 )), (1, .int (fX7_findIn r12.2 10 3 ((r5.2.1 (r5.2.2)) 5) r12.1)), (0, .ref (gz G + 221))]) rfl ?_
          refine am_aload_n dX7_parsePiece_81 3 rfl ?_
          refine am_iconst (v := 0) dX7_parsePiece_82 (by decide) ?_
          refine am_sipush (v := 255) dX7_parsePiece_83 (by decide) ?_
          obtain ⟨i522, hs⟩ := hs
          refine am_callV (As := [.int 0, .int 255]) (rest := []) dX7_parsePiece_86 kMX7_322 rfl (hmc221 (m := r519.2) w521) rfl rfl (Nat.le_of_ble_eq_true rfl) (d2 := 3) (by decide) (k2 := 0) (Nat.zero_le _) (u2 := 0) (Nat.zero_le _) (Nat.le_of_ble_eq_true rfl) (ctX7_number (m := r519.2) w521 0 255 i522) (fun v523 h524 q525 => ?_)
          obtain ⟨r526, e527, rfl, w528⟩ := q525
          have hs := bnd_p e527 hs
          refine am_istore dX7_parsePiece_89 (by decide) (lv' := [(4, .int r526.1), (3, .int r519.1), (2, .int (fX7_kindHere r390 )), (1, .int (fX7_findIn r12.2 10 3 ((r5.2.1 (r5.2.2)) 5) r12.1)), (0, .ref (gz G + 221))]) rfl ?_
          refine am_iconst (v := 1) dX7_parsePiece_91 (by decide) ?_
          refine am_istore dX7_parsePiece_92 (by decide) (lv' := [(5, .int 1), (4, .int r526.1), (3, .int r519.1), (2, .int (fX7_kindHere r390 )), (1, .int (fX7_findIn r12.2 10 3 ((r5.2.1 (r5.2.2)) 5) r12.1)), (0, .ref (gz G + 221))]) rfl ?_
          refine am_aload_n dX7_parsePiece_94 5 rfl ?_
          refine am_ldcwS (j := 31) dX7_parsePiece_95 rfl ?_
          obtain ⟨i529, hs⟩ := hs
          refine am_callV (As := [.ref (gS G 31)]) (rest := []) dX7_parsePiece_98 kMX7_274 rfl (hmc221 (m := r526.2) w528) rfl rfl (Nat.le_of_ble_eq_true rfl) (d2 := 4) (by decide) (k2 := 0) (Nat.zero_le _) (u2 := 0) (Nat.zero_le _) (Nat.le_of_ble_eq_true rfl) (ctX7_isText (m := r526.2) w528 (j := 31) (q := sq31) rfl i529) (fun v530 h531 q532 => ?_)
          obtain ⟨rfl, rfl⟩ := q532
          refine am_if_eq dX7_parsePiece_101 (by decide : ((101 : Nat) : Int) + (13) = ((114 : Nat) : Int)) (fun c533 => ?_) (fun c533 => ?_)
          · have hs := hs.1 c533
            refine am_iconst (v := 0) dX7_parsePiece_114 (by decide) ?_
            refine am_istore dX7_parsePiece_115 (by decide) (lv' := [(6, .int 0), (5, .int 1), (4, .int r526.1), (3, .int r519.1), (2, .int (fX7_kindHere r390 )), (1, .int (fX7_findIn r12.2 10 3 ((r5.2.1 (r5.2.2)) 5) r12.1)), (0, .ref (gz G + 221))]) rfl ?_
            obtain ⟨i534, hs⟩ := hs
            refine wX7_parsePiece_117  1 r526.1 r519.1 (fX7_kindHere r390 ) (fX7_findIn r12.2 10 3 ((r5.2.1 (r5.2.2)) 5) r12.1)  (fuU 1 0) 0 r526.2 ivU_i i534 w528  (fun h537 r535 e536 w538  => ?_)
            have hs := bnd_p e536 hs
            exact am_return dX7_parsePiece_146 rfl ⟨_, bnd_eq e6 (bnd_eq e13 (ifn c22 (ifp c207 (bnd_eq e384 (bnd_eq e391 (ifn c400 (ifp c451 (bnd_eq e506 (bnd_eq e513 (bnd_eq e520 (bnd_eq e527 (ifp c533 (bnd_eq e536 (rfl)))))))))))))), rfl, w538⟩
          · have hs := hs.2 c533
            refine am_aload_n dX7_parsePiece_104 5 rfl ?_
            obtain ⟨i539, hs⟩ := hs
            refine am_callV (As := []) (rest := []) dX7_parsePiece_105 kMX7_260 rfl (hmc221 (m := r526.2) w528) rfl rfl (Nat.le_of_ble_eq_true rfl) (d2 := 1) (by decide) (k2 := 0) (Nat.zero_le _) (u2 := 0) (Nat.zero_le _) (Nat.le_of_ble_eq_true rfl) (ctX7_advance (m := r526.2) w528  i539) (fun v540 h541 q542 => ?_)
            obtain ⟨r543, e544, rfl, w545⟩ := q542
            have hs := bnd_p e544 hs
            refine am_aload_n dX7_parsePiece_108 5 rfl ?_
            obtain ⟨i546, hs⟩ := hs
            refine am_callV (As := []) (rest := []) dX7_parsePiece_109 kMX7_335 rfl (hmc221 (m := r543) w545) rfl rfl (Nat.le_of_ble_eq_true rfl) (d2 := 4) (by decide) (k2 := 0) (Nat.zero_le _) (u2 := 0) (Nat.zero_le _) (Nat.le_of_ble_eq_true rfl) (ctX7_times (m := r543) w545  i546) (fun v547 h548 q549 => ?_)
            obtain ⟨r550, e551, rfl, w552⟩ := q549
            have hs := bnd_p e551 hs
            refine am_istore dX7_parsePiece_112 (by decide) (lv' := [(5, .int r550.1), (4, .int r526.1), (3, .int r519.1), (2, .int (fX7_kindHere r390 )), (1, .int (fX7_findIn r12.2 10 3 ((r5.2.1 (r5.2.2)) 5) r12.1)), (0, .ref (gz G + 221))]) rfl ?_
            refine am_iconst (v := 0) dX7_parsePiece_114 (by decide) ?_
            refine am_istore dX7_parsePiece_115 (by decide) (lv' := [(6, .int 0), (5, .int r550.1), (4, .int r526.1), (3, .int r519.1), (2, .int (fX7_kindHere r390 )), (1, .int (fX7_findIn r12.2 10 3 ((r5.2.1 (r5.2.2)) 5) r12.1)), (0, .ref (gz G + 221))]) rfl ?_
            obtain ⟨i553, hs⟩ := hs
            refine wX7_parsePiece_117  r550.1 r526.1 r519.1 (fX7_kindHere r390 ) (fX7_findIn r12.2 10 3 ((r5.2.1 (r5.2.2)) 5) r12.1)  (fuU r550.1 0) 0 r550.2 ivU_i i553 w552  (fun h556 r554 e555 w557  => ?_)
            have hs := bnd_p e555 hs
            exact am_return dX7_parsePiece_146 rfl ⟨_, bnd_eq e6 (bnd_eq e13 (ifn c22 (ifp c207 (bnd_eq e384 (bnd_eq e391 (ifn c400 (ifp c451 (bnd_eq e506 (bnd_eq e513 (bnd_eq e520 (bnd_eq e527 (ifn c533 (bnd_eq e544 (bnd_eq e551 (bnd_eq e555 (rfl)))))))))))))))), rfl, w557⟩

theorem dX7_parseStatement_0 : decode cX7_parseStatement 0 = .ok (.aload_n 0, 1) := by decide +kernel
theorem dX7_parseStatement_1 : decode cX7_parseStatement 1 = .ok (.ldc_w 282, 3) := by decide +kernel
theorem dX7_parseStatement_4 : decode cX7_parseStatement 4 = .ok (.invokevirtual 274, 3) := by decide +kernel
theorem dX7_parseStatement_7 : decode cX7_parseStatement 7 = .ok (.ifCond .eq 39, 3) := by decide +kernel
theorem dX7_parseStatement_10 : decode cX7_parseStatement 10 = .ok (.aload_n 0, 1) := by decide +kernel
theorem dX7_parseStatement_11 : decode cX7_parseStatement 11 = .ok (.iconst 0, 1) := by decide +kernel
theorem dX7_parseStatement_12 : decode cX7_parseStatement 12 = .ok (.invokevirtual 343, 3) := by decide +kernel
theorem dX7_parseStatement_15 : decode cX7_parseStatement 15 = .ok (.aload_n 0, 1) := by decide +kernel
theorem dX7_parseStatement_16 : decode cX7_parseStatement 16 = .ok (.getfield 23, 3) := by decide +kernel
theorem dX7_parseStatement_19 : decode cX7_parseStatement 19 = .ok (.iconst 0, 1) := by decide +kernel
theorem dX7_parseStatement_20 : decode cX7_parseStatement 20 = .ok (.aload_n 0, 1) := by decide +kernel
theorem dX7_parseStatement_21 : decode cX7_parseStatement 21 = .ok (.iconst 0, 1) := by decide +kernel
theorem dX7_parseStatement_22 : decode cX7_parseStatement 22 = .ok (.sipush 500, 3) := by decide +kernel
theorem dX7_parseStatement_25 : decode cX7_parseStatement 25 = .ok (.invokevirtual 322, 3) := by decide +kernel
theorem dX7_parseStatement_28 : decode cX7_parseStatement 28 = .ok (.iastore, 1) := by decide +kernel
theorem dX7_parseStatement_29 : decode cX7_parseStatement 29 = .ok (.aload_n 0, 1) := by decide +kernel
theorem dX7_parseStatement_30 : decode cX7_parseStatement 30 = .ok (.getfield 23, 3) := by decide +kernel
theorem dX7_parseStatement_33 : decode cX7_parseStatement 33 = .ok (.iconst 1, 1) := by decide +kernel
theorem dX7_parseStatement_34 : decode cX7_parseStatement 34 = .ok (.aload_n 0, 1) := by decide +kernel
theorem dX7_parseStatement_35 : decode cX7_parseStatement 35 = .ok (.iconst 0, 1) := by decide +kernel
theorem dX7_parseStatement_36 : decode cX7_parseStatement 36 = .ok (.sipush 255, 3) := by decide +kernel
theorem dX7_parseStatement_39 : decode cX7_parseStatement 39 = .ok (.invokevirtual 322, 3) := by decide +kernel
theorem dX7_parseStatement_42 : decode cX7_parseStatement 42 = .ok (.iastore, 1) := by decide +kernel
theorem dX7_parseStatement_43 : decode cX7_parseStatement 43 = .ok (.goto 138, 3) := by decide +kernel
theorem dX7_parseStatement_46 : decode cX7_parseStatement 46 = .ok (.aload_n 0, 1) := by decide +kernel
theorem dX7_parseStatement_47 : decode cX7_parseStatement 47 = .ok (.ldc_w 284, 3) := by decide +kernel
theorem dX7_parseStatement_50 : decode cX7_parseStatement 50 = .ok (.invokevirtual 274, 3) := by decide +kernel
theorem dX7_parseStatement_53 : decode cX7_parseStatement 53 = .ok (.ifCond .eq 24, 3) := by decide +kernel
theorem dX7_parseStatement_56 : decode cX7_parseStatement 56 = .ok (.aload_n 0, 1) := by decide +kernel
theorem dX7_parseStatement_57 : decode cX7_parseStatement 57 = .ok (.iconst 1, 1) := by decide +kernel
theorem dX7_parseStatement_58 : decode cX7_parseStatement 58 = .ok (.invokevirtual 343, 3) := by decide +kernel
theorem dX7_parseStatement_61 : decode cX7_parseStatement 61 = .ok (.aload_n 0, 1) := by decide +kernel
theorem dX7_parseStatement_62 : decode cX7_parseStatement 62 = .ok (.getfield 23, 3) := by decide +kernel
theorem dX7_parseStatement_65 : decode cX7_parseStatement 65 = .ok (.iconst 2, 1) := by decide +kernel
theorem dX7_parseStatement_66 : decode cX7_parseStatement 66 = .ok (.aload_n 0, 1) := by decide +kernel
theorem dX7_parseStatement_67 : decode cX7_parseStatement 67 = .ok (.iconst 0, 1) := by decide +kernel
theorem dX7_parseStatement_68 : decode cX7_parseStatement 68 = .ok (.bipush 100, 2) := by decide +kernel
theorem dX7_parseStatement_70 : decode cX7_parseStatement 70 = .ok (.invokevirtual 322, 3) := by decide +kernel
theorem dX7_parseStatement_73 : decode cX7_parseStatement 73 = .ok (.iastore, 1) := by decide +kernel
theorem dX7_parseStatement_74 : decode cX7_parseStatement 74 = .ok (.goto 107, 3) := by decide +kernel
theorem dX7_parseStatement_77 : decode cX7_parseStatement 77 = .ok (.aload_n 0, 1) := by decide +kernel
theorem dX7_parseStatement_78 : decode cX7_parseStatement 78 = .ok (.ldc_w 286, 3) := by decide +kernel
theorem dX7_parseStatement_81 : decode cX7_parseStatement 81 = .ok (.invokevirtual 274, 3) := by decide +kernel
theorem dX7_parseStatement_84 : decode cX7_parseStatement 84 = .ok (.ifCond .eq 24, 3) := by decide +kernel
theorem dX7_parseStatement_87 : decode cX7_parseStatement 87 = .ok (.aload_n 0, 1) := by decide +kernel
theorem dX7_parseStatement_88 : decode cX7_parseStatement 88 = .ok (.iconst 2, 1) := by decide +kernel
theorem dX7_parseStatement_89 : decode cX7_parseStatement 89 = .ok (.invokevirtual 343, 3) := by decide +kernel
theorem dX7_parseStatement_92 : decode cX7_parseStatement 92 = .ok (.aload_n 0, 1) := by decide +kernel
theorem dX7_parseStatement_93 : decode cX7_parseStatement 93 = .ok (.getfield 23, 3) := by decide +kernel
theorem dX7_parseStatement_96 : decode cX7_parseStatement 96 = .ok (.iconst 3, 1) := by decide +kernel
theorem dX7_parseStatement_97 : decode cX7_parseStatement 97 = .ok (.aload_n 0, 1) := by decide +kernel
theorem dX7_parseStatement_98 : decode cX7_parseStatement 98 = .ok (.iconst 1, 1) := by decide +kernel
theorem dX7_parseStatement_99 : decode cX7_parseStatement 99 = .ok (.bipush 6, 2) := by decide +kernel
theorem dX7_parseStatement_101 : decode cX7_parseStatement 101 = .ok (.invokevirtual 322, 3) := by decide +kernel
theorem dX7_parseStatement_104 : decode cX7_parseStatement 104 = .ok (.iastore, 1) := by decide +kernel
theorem dX7_parseStatement_105 : decode cX7_parseStatement 105 = .ok (.goto 76, 3) := by decide +kernel
theorem dX7_parseStatement_108 : decode cX7_parseStatement 108 = .ok (.aload_n 0, 1) := by decide +kernel
theorem dX7_parseStatement_109 : decode cX7_parseStatement 109 = .ok (.ldc_w 288, 3) := by decide +kernel
theorem dX7_parseStatement_112 : decode cX7_parseStatement 112 = .ok (.invokevirtual 274, 3) := by decide +kernel
theorem dX7_parseStatement_115 : decode cX7_parseStatement 115 = .ok (.ifCond .eq 10, 3) := by decide +kernel
theorem dX7_parseStatement_118 : decode cX7_parseStatement 118 = .ok (.aload_n 0, 1) := by decide +kernel
theorem dX7_parseStatement_119 : decode cX7_parseStatement 119 = .ok (.invokevirtual 346, 3) := by decide +kernel
theorem dX7_parseStatement_122 : decode cX7_parseStatement 122 = .ok (.goto 59, 3) := by decide +kernel
theorem dX7_parseStatement_125 : decode cX7_parseStatement 125 = .ok (.aload_n 0, 1) := by decide +kernel
theorem dX7_parseStatement_126 : decode cX7_parseStatement 126 = .ok (.ldc_w 290, 3) := by decide +kernel
theorem dX7_parseStatement_129 : decode cX7_parseStatement 129 = .ok (.invokevirtual 274, 3) := by decide +kernel
theorem dX7_parseStatement_132 : decode cX7_parseStatement 132 = .ok (.ifCond .eq 10, 3) := by decide +kernel
theorem dX7_parseStatement_135 : decode cX7_parseStatement 135 = .ok (.aload_n 0, 1) := by decide +kernel
theorem dX7_parseStatement_136 : decode cX7_parseStatement 136 = .ok (.invokevirtual 349, 3) := by decide +kernel
theorem dX7_parseStatement_139 : decode cX7_parseStatement 139 = .ok (.goto 42, 3) := by decide +kernel
theorem dX7_parseStatement_142 : decode cX7_parseStatement 142 = .ok (.aload_n 0, 1) := by decide +kernel
theorem dX7_parseStatement_143 : decode cX7_parseStatement 143 = .ok (.ldc_w 292, 3) := by decide +kernel
theorem dX7_parseStatement_146 : decode cX7_parseStatement 146 = .ok (.invokevirtual 274, 3) := by decide +kernel
theorem dX7_parseStatement_149 : decode cX7_parseStatement 149 = .ok (.ifCond .eq 10, 3) := by decide +kernel
theorem dX7_parseStatement_152 : decode cX7_parseStatement 152 = .ok (.aload_n 0, 1) := by decide +kernel
theorem dX7_parseStatement_153 : decode cX7_parseStatement 153 = .ok (.invokevirtual 352, 3) := by decide +kernel
theorem dX7_parseStatement_156 : decode cX7_parseStatement 156 = .ok (.goto 25, 3) := by decide +kernel
theorem dX7_parseStatement_159 : decode cX7_parseStatement 159 = .ok (.aload_n 0, 1) := by decide +kernel
theorem dX7_parseStatement_160 : decode cX7_parseStatement 160 = .ok (.ldc_w 293, 3) := by decide +kernel
theorem dX7_parseStatement_163 : decode cX7_parseStatement 163 = .ok (.invokevirtual 274, 3) := by decide +kernel
theorem dX7_parseStatement_166 : decode cX7_parseStatement 166 = .ok (.ifCond .eq 10, 3) := by decide +kernel
theorem dX7_parseStatement_169 : decode cX7_parseStatement 169 = .ok (.aload_n 0, 1) := by decide +kernel
theorem dX7_parseStatement_170 : decode cX7_parseStatement 170 = .ok (.invokevirtual 355, 3) := by decide +kernel
theorem dX7_parseStatement_173 : decode cX7_parseStatement 173 = .ok (.goto 8, 3) := by decide +kernel
theorem dX7_parseStatement_176 : decode cX7_parseStatement 176 = .ok (.aload_n 0, 1) := by decide +kernel
theorem dX7_parseStatement_177 : decode cX7_parseStatement 177 = .ok (.iconst 1, 1) := by decide +kernel
theorem dX7_parseStatement_178 : decode cX7_parseStatement 178 = .ok (.invokevirtual 300, 3) := by decide +kernel
theorem dX7_parseStatement_181 : decode cX7_parseStatement 181 = .ok (.aload_n 0, 1) := by decide +kernel
theorem dX7_parseStatement_182 : decode cX7_parseStatement 182 = .ok (.invokevirtual 229, 3) := by decide +kernel
theorem dX7_parseStatement_185 : decode cX7_parseStatement 185 = .ok (.ifCond .eq 25, 3) := by decide +kernel
theorem dX7_parseStatement_188 : decode cX7_parseStatement 188 = .ok (.aload_n 0, 1) := by decide +kernel
theorem dX7_parseStatement_189 : decode cX7_parseStatement 189 = .ok (.getfield 245, 3) := by decide +kernel
theorem dX7_parseStatement_192 : decode cX7_parseStatement 192 = .ok (.iconst 3, 1) := by decide +kernel
theorem dX7_parseStatement_193 : decode cX7_parseStatement 193 = .ok (.if_icmp .ne 12, 3) := by decide +kernel
theorem dX7_parseStatement_196 : decode cX7_parseStatement 196 = .ok (.aload_n 0, 1) := by decide +kernel
theorem dX7_parseStatement_197 : decode cX7_parseStatement 197 = .ok (.getfield 256, 3) := by decide +kernel
theorem dX7_parseStatement_200 : decode cX7_parseStatement 200 = .ok (.bipush 59, 2) := by decide +kernel
theorem dX7_parseStatement_202 : decode cX7_parseStatement 202 = .ok (.if_icmp .eq 8, 3) := by decide +kernel
theorem dX7_parseStatement_205 : decode cX7_parseStatement 205 = .ok (.aload_n 0, 1) := by decide +kernel
theorem dX7_parseStatement_206 : decode cX7_parseStatement 206 = .ok (.iconst 1, 1) := by decide +kernel
theorem dX7_parseStatement_207 : decode cX7_parseStatement 207 = .ok (.invokevirtual 300, 3) := by decide +kernel
theorem dX7_parseStatement_210 : decode cX7_parseStatement 210 = .ok (.aload_n 0, 1) := by decide +kernel
theorem dX7_parseStatement_211 : decode cX7_parseStatement 211 = .ok (.invokevirtual 303, 3) := by decide +kernel
theorem dX7_parseStatement_214 : decode cX7_parseStatement 214 = .ok (.return_, 1) := by decide +kernel
def fX7_parseStatement (m : Md)  : Md := (if (fX7_isText m sq21) = 0 then (if (fX7_isText m sq22) = 0 then (if (fX7_isText m sq23) = 0 then (if (fX7_isText m sq24) = 0 then (if (fX7_isText m sq25) = 0 then (if (fX7_isText m sq26) = 0 then (if (fX7_isText m sq27) = 0 then (bnd (fX7_fail m 1) (fun r39 => (if (fX7_good r39 ) = 0 then (bnd (fX7_goOn r39 ) (fun r50 => r50)) else (if (r39.1 7) = 3 then (if (r39.1 8) = 59 then (bnd (fX7_goOn r39 ) (fun r72 => r72)) else (bnd (fX7_fail r39 1) (fun r78 => (bnd (fX7_goOn r78 ) (fun r85 => r85))))) else (bnd (fX7_fail r39 1) (fun r57 => (bnd (fX7_goOn r57 ) (fun r64 => r64)))))))) else (bnd (fX7_parsePiece m ) (fun r92 => (if (fX7_good r92 ) = 0 then (bnd (fX7_goOn r92 ) (fun r103 => r103)) else (if (r92.1 7) = 3 then (if (r92.1 8) = 59 then (bnd (fX7_goOn r92 ) (fun r125 => r125)) else (bnd (fX7_fail r92 1) (fun r131 => (bnd (fX7_goOn r131 ) (fun r138 => r138))))) else (bnd (fX7_fail r92 1) (fun r110 => (bnd (fX7_goOn r110 ) (fun r117 => r117))))))))) else (bnd (fX7_parseSize m ) (fun r145 => (if (fX7_good r145 ) = 0 then (bnd (fX7_goOn r145 ) (fun r156 => r156)) else (if (r145.1 7) = 3 then (if (r145.1 8) = 59 then (bnd (fX7_goOn r145 ) (fun r178 => r178)) else (bnd (fX7_fail r145 1) (fun r184 => (bnd (fX7_goOn r184 ) (fun r191 => r191))))) else (bnd (fX7_fail r145 1) (fun r163 => (bnd (fX7_goOn r163 ) (fun r170 => r170))))))))) else (bnd (fX7_parseShape m ) (fun r198 => (if (fX7_good r198 ) = 0 then (bnd (fX7_goOn r198 ) (fun r209 => r209)) else (if (r198.1 7) = 3 then (if (r198.1 8) = 59 then (bnd (fX7_goOn r198 ) (fun r231 => r231)) else (bnd (fX7_fail r198 1) (fun r237 => (bnd (fX7_goOn r237 ) (fun r244 => r244))))) else (bnd (fX7_fail r198 1) (fun r216 => (bnd (fX7_goOn r216 ) (fun r223 => r223))))))))) else (bnd (fX7_parseYarn m ) (fun r251 => (if (fX7_good r251 ) = 0 then (bnd (fX7_goOn r251 ) (fun r262 => r262)) else (if (r251.1 7) = 3 then (if (r251.1 8) = 59 then (bnd (fX7_goOn r251 ) (fun r284 => r284)) else (bnd (fX7_fail r251 1) (fun r290 => (bnd (fX7_goOn r290 ) (fun r297 => r297))))) else (bnd (fX7_fail r251 1) (fun r269 => (bnd (fX7_goOn r269 ) (fun r276 => r276))))))))) else (bnd (fX7_once m 2) (fun r304 => (bnd (fX7_number r304 1 6) (fun r311 => (bnd (mA r311.2 (r304.2.2) (upd (r311.2.2.1 (r304.2.2)) 3 r311.1)) (fun r316 => (if (fX7_good r316 ) = 0 then (bnd (fX7_goOn r316 ) (fun r327 => r327)) else (if (r316.1 7) = 3 then (if (r316.1 8) = 59 then (bnd (fX7_goOn r316 ) (fun r349 => r349)) else (bnd (fX7_fail r316 1) (fun r355 => (bnd (fX7_goOn r355 ) (fun r362 => r362))))) else (bnd (fX7_fail r316 1) (fun r334 => (bnd (fX7_goOn r334 ) (fun r341 => r341))))))))))))) else (bnd (fX7_once m 1) (fun r369 => (bnd (fX7_number r369 0 100) (fun r376 => (bnd (mA r376.2 (r369.2.2) (upd (r376.2.2.1 (r369.2.2)) 2 r376.1)) (fun r381 => (if (fX7_good r381 ) = 0 then (bnd (fX7_goOn r381 ) (fun r392 => r392)) else (if (r381.1 7) = 3 then (if (r381.1 8) = 59 then (bnd (fX7_goOn r381 ) (fun r414 => r414)) else (bnd (fX7_fail r381 1) (fun r420 => (bnd (fX7_goOn r420 ) (fun r427 => r427))))) else (bnd (fX7_fail r381 1) (fun r399 => (bnd (fX7_goOn r399 ) (fun r406 => r406))))))))))))) else (bnd (fX7_once m 0) (fun r434 => (bnd (fX7_number r434 0 500) (fun r441 => (bnd (mA r441.2 (r434.2.2) (upd (r441.2.2.1 (r434.2.2)) 0 r441.1)) (fun r446 => (bnd (fX7_number r446 0 255) (fun r453 => (bnd (mA r453.2 (r446.2.2) (upd (r453.2.2.1 (r446.2.2)) 1 r453.1)) (fun r458 => (if (fX7_good r458 ) = 0 then (bnd (fX7_goOn r458 ) (fun r469 => r469)) else (if (r458.1 7) = 3 then (if (r458.1 8) = 59 then (bnd (fX7_goOn r458 ) (fun r491 => r491)) else (bnd (fX7_fail r458 1) (fun r497 => (bnd (fX7_goOn r497 ) (fun r504 => r504))))) else (bnd (fX7_fail r458 1) (fun r476 => (bnd (fX7_goOn r476 ) (fun r483 => r483)))))))))))))))))
def sX7_parseStatement (m : Md)  : Prop := ((sX7_isText m sq21) ∧ (((fX7_isText m sq21) = 0 → ((sX7_isText m sq22) ∧ (((fX7_isText m sq22) = 0 → ((sX7_isText m sq23) ∧ (((fX7_isText m sq23) = 0 → ((sX7_isText m sq24) ∧ (((fX7_isText m sq24) = 0 → ((sX7_isText m sq25) ∧ (((fX7_isText m sq25) = 0 → ((sX7_isText m sq26) ∧ (((fX7_isText m sq26) = 0 → ((sX7_isText m sq27) ∧ (((fX7_isText m sq27) = 0 → (bnd (fX7_fail m 1) (fun r39 => (((fX7_good r39 ) = 0 → ((sX7_goOn r39 ) ∧ (bnd (fX7_goOn r39 ) (fun r50 => True)))) ∧ (¬ (fX7_good r39 ) = 0 → (((r39.1 7) = 3 → (((r39.1 8) = 59 → ((sX7_goOn r39 ) ∧ (bnd (fX7_goOn r39 ) (fun r72 => True)))) ∧ (¬ (r39.1 8) = 59 → (bnd (fX7_fail r39 1) (fun r78 => ((sX7_goOn r78 ) ∧ (bnd (fX7_goOn r78 ) (fun r85 => True)))))))) ∧ (¬ (r39.1 7) = 3 → (bnd (fX7_fail r39 1) (fun r57 => ((sX7_goOn r57 ) ∧ (bnd (fX7_goOn r57 ) (fun r64 => True)))))))))))) ∧ (¬ (fX7_isText m sq27) = 0 → ((sX7_parsePiece m ) ∧ (bnd (fX7_parsePiece m ) (fun r92 => (((fX7_good r92 ) = 0 → ((sX7_goOn r92 ) ∧ (bnd (fX7_goOn r92 ) (fun r103 => True)))) ∧ (¬ (fX7_good r92 ) = 0 → (((r92.1 7) = 3 → (((r92.1 8) = 59 → ((sX7_goOn r92 ) ∧ (bnd (fX7_goOn r92 ) (fun r125 => True)))) ∧ (¬ (r92.1 8) = 59 → (bnd (fX7_fail r92 1) (fun r131 => ((sX7_goOn r131 ) ∧ (bnd (fX7_goOn r131 ) (fun r138 => True)))))))) ∧ (¬ (r92.1 7) = 3 → (bnd (fX7_fail r92 1) (fun r110 => ((sX7_goOn r110 ) ∧ (bnd (fX7_goOn r110 ) (fun r117 => True)))))))))))))))) ∧ (¬ (fX7_isText m sq26) = 0 → ((sX7_parseSize m ) ∧ (bnd (fX7_parseSize m ) (fun r145 => (((fX7_good r145 ) = 0 → ((sX7_goOn r145 ) ∧ (bnd (fX7_goOn r145 ) (fun r156 => True)))) ∧ (¬ (fX7_good r145 ) = 0 → (((r145.1 7) = 3 → (((r145.1 8) = 59 → ((sX7_goOn r145 ) ∧ (bnd (fX7_goOn r145 ) (fun r178 => True)))) ∧ (¬ (r145.1 8) = 59 → (bnd (fX7_fail r145 1) (fun r184 => ((sX7_goOn r184 ) ∧ (bnd (fX7_goOn r184 ) (fun r191 => True)))))))) ∧ (¬ (r145.1 7) = 3 → (bnd (fX7_fail r145 1) (fun r163 => ((sX7_goOn r163 ) ∧ (bnd (fX7_goOn r163 ) (fun r170 => True)))))))))))))))) ∧ (¬ (fX7_isText m sq25) = 0 → ((sX7_parseShape m ) ∧ (bnd (fX7_parseShape m ) (fun r198 => (((fX7_good r198 ) = 0 → ((sX7_goOn r198 ) ∧ (bnd (fX7_goOn r198 ) (fun r209 => True)))) ∧ (¬ (fX7_good r198 ) = 0 → (((r198.1 7) = 3 → (((r198.1 8) = 59 → ((sX7_goOn r198 ) ∧ (bnd (fX7_goOn r198 ) (fun r231 => True)))) ∧ (¬ (r198.1 8) = 59 → (bnd (fX7_fail r198 1) (fun r237 => ((sX7_goOn r237 ) ∧ (bnd (fX7_goOn r237 ) (fun r244 => True)))))))) ∧ (¬ (r198.1 7) = 3 → (bnd (fX7_fail r198 1) (fun r216 => ((sX7_goOn r216 ) ∧ (bnd (fX7_goOn r216 ) (fun r223 => True)))))))))))))))) ∧ (¬ (fX7_isText m sq24) = 0 → ((sX7_parseYarn m ) ∧ (bnd (fX7_parseYarn m ) (fun r251 => (((fX7_good r251 ) = 0 → ((sX7_goOn r251 ) ∧ (bnd (fX7_goOn r251 ) (fun r262 => True)))) ∧ (¬ (fX7_good r251 ) = 0 → (((r251.1 7) = 3 → (((r251.1 8) = 59 → ((sX7_goOn r251 ) ∧ (bnd (fX7_goOn r251 ) (fun r284 => True)))) ∧ (¬ (r251.1 8) = 59 → (bnd (fX7_fail r251 1) (fun r290 => ((sX7_goOn r290 ) ∧ (bnd (fX7_goOn r290 ) (fun r297 => True)))))))) ∧ (¬ (r251.1 7) = 3 → (bnd (fX7_fail r251 1) (fun r269 => ((sX7_goOn r269 ) ∧ (bnd (fX7_goOn r269 ) (fun r276 => True)))))))))))))))) ∧ (¬ (fX7_isText m sq23) = 0 → ((sX7_once m 2) ∧ (bnd (fX7_once m 2) (fun r304 => ((sX7_number r304 1 6) ∧ (bnd (fX7_number r304 1 6) (fun r311 => ((r311.2.2.2) = (r304.2.2) ∧ (bnd (mA r311.2 (r304.2.2) (upd (r311.2.2.1 (r304.2.2)) 3 r311.1)) (fun r316 => (((fX7_good r316 ) = 0 → ((sX7_goOn r316 ) ∧ (bnd (fX7_goOn r316 ) (fun r327 => True)))) ∧ (¬ (fX7_good r316 ) = 0 → (((r316.1 7) = 3 → (((r316.1 8) = 59 → ((sX7_goOn r316 ) ∧ (bnd (fX7_goOn r316 ) (fun r349 => True)))) ∧ (¬ (r316.1 8) = 59 → (bnd (fX7_fail r316 1) (fun r355 => ((sX7_goOn r355 ) ∧ (bnd (fX7_goOn r355 ) (fun r362 => True)))))))) ∧ (¬ (r316.1 7) = 3 → (bnd (fX7_fail r316 1) (fun r334 => ((sX7_goOn r334 ) ∧ (bnd (fX7_goOn r334 ) (fun r341 => True)))))))))))))))))))))) ∧ (¬ (fX7_isText m sq22) = 0 → ((sX7_once m 1) ∧ (bnd (fX7_once m 1) (fun r369 => ((sX7_number r369 0 100) ∧ (bnd (fX7_number r369 0 100) (fun r376 => ((r376.2.2.2) = (r369.2.2) ∧ (bnd (mA r376.2 (r369.2.2) (upd (r376.2.2.1 (r369.2.2)) 2 r376.1)) (fun r381 => (((fX7_good r381 ) = 0 → ((sX7_goOn r381 ) ∧ (bnd (fX7_goOn r381 ) (fun r392 => True)))) ∧ (¬ (fX7_good r381 ) = 0 → (((r381.1 7) = 3 → (((r381.1 8) = 59 → ((sX7_goOn r381 ) ∧ (bnd (fX7_goOn r381 ) (fun r414 => True)))) ∧ (¬ (r381.1 8) = 59 → (bnd (fX7_fail r381 1) (fun r420 => ((sX7_goOn r420 ) ∧ (bnd (fX7_goOn r420 ) (fun r427 => True)))))))) ∧ (¬ (r381.1 7) = 3 → (bnd (fX7_fail r381 1) (fun r399 => ((sX7_goOn r399 ) ∧ (bnd (fX7_goOn r399 ) (fun r406 => True)))))))))))))))))))))) ∧ (¬ (fX7_isText m sq21) = 0 → ((sX7_once m 0) ∧ (bnd (fX7_once m 0) (fun r434 => ((sX7_number r434 0 500) ∧ (bnd (fX7_number r434 0 500) (fun r441 => ((r441.2.2.2) = (r434.2.2) ∧ (bnd (mA r441.2 (r434.2.2) (upd (r441.2.2.1 (r434.2.2)) 0 r441.1)) (fun r446 => ((sX7_number r446 0 255) ∧ (bnd (fX7_number r446 0 255) (fun r453 => ((r453.2.2.2) = (r446.2.2) ∧ (bnd (mA r453.2 (r446.2.2) (upd (r453.2.2.1 (r446.2.2)) 1 r453.1)) (fun r458 => (((fX7_good r458 ) = 0 → ((sX7_goOn r458 ) ∧ (bnd (fX7_goOn r458 ) (fun r469 => True)))) ∧ (¬ (fX7_good r458 ) = 0 → (((r458.1 7) = 3 → (((r458.1 8) = 59 → ((sX7_goOn r458 ) ∧ (bnd (fX7_goOn r458 ) (fun r491 => True)))) ∧ (¬ (r458.1 8) = 59 → (bnd (fX7_fail r458 1) (fun r497 => ((sX7_goOn r497 ) ∧ (bnd (fX7_goOn r497 ) (fun r504 => True)))))))) ∧ (¬ (r458.1 7) = 3 → (bnd (fX7_fail r458 1) (fun r476 => ((sX7_goOn r476 ) ∧ (bnd (fX7_goOn r476 ) (fun r483 => True)))))))))))))))))))))))))))
set_option maxRecDepth 20000 in
theorem ctX7_parseStatement {l : Launch} {G : GM} {K : Nat → Option va_E} {h : List va_E} {m : Md} (hm : HM G K h m)  (hs : sX7_parseStatement m ) : Ct l G mX7_parseStatement 10 0 0 [.ref (gz G + 221)] h (fun v h1 => ∃ r, (fX7_parseStatement m ) = r ∧ v = none ∧ HM G K h1 r) := by
  show Tr l G mX7_parseStatement 10 0 0 0 [(0, .ref (gz G + 221))] [] h _
  unfold sX7_parseStatement at hs
  refine am_aload_n dX7_parseStatement_0 0 rfl ?_
  refine am_ldcwS (j := 21) dX7_parseStatement_1 rfl ?_
  obtain ⟨i1, hs⟩ := hs
  refine am_callV (As := [.ref (gS G 21)]) (rest := []) dX7_parseStatement_4 kMX7_274 rfl (hmc221 (m := m) hm) rfl rfl (Nat.le_of_ble_eq_true rfl) (d2 := 4) (by decide) (k2 := 0) (Nat.zero_le _) (u2 := 0) (Nat.zero_le _) (Nat.le_of_ble_eq_true rfl) (ctX7_isText (m := m) hm (j := 21) (q := sq21) rfl i1) (fun v2 h3 q4 => ?_)
  obtain ⟨rfl, rfl⟩ := q4
  refine am_if_eq dX7_parseStatement_7 (by decide : ((7 : Nat) : Int) + (39) = ((46 : Nat) : Int)) (fun c5 => ?_) (fun c5 => ?_)
  · have hs := hs.1 c5
    refine am_aload_n dX7_parseStatement_46 0 rfl ?_
    refine am_ldcwS (j := 22) dX7_parseStatement_47 rfl ?_
    obtain ⟨i6, hs⟩ := hs
    refine am_callV (As := [.ref (gS G 22)]) (rest := []) dX7_parseStatement_50 kMX7_274 rfl (hmc221 (m := m) hm) rfl rfl (Nat.le_of_ble_eq_true rfl) (d2 := 4) (by decide) (k2 := 0) (Nat.zero_le _) (u2 := 0) (Nat.zero_le _) (Nat.le_of_ble_eq_true rfl) (ctX7_isText (m := m) hm (j := 22) (q := sq22) rfl i6) (fun v7 h8 q9 => ?_)
    obtain ⟨rfl, rfl⟩ := q9
    refine am_if_eq dX7_parseStatement_53 (by decide : ((53 : Nat) : Int) + (24) = ((77 : Nat) : Int)) (fun c10 => ?_) (fun c10 => ?_)
    · have hs := hs.1 c10
      refine am_aload_n dX7_parseStatement_77 0 rfl ?_
      refine am_ldcwS (j := 23) dX7_parseStatement_78 rfl ?_
      obtain ⟨i11, hs⟩ := hs
      refine am_callV (As := [.ref (gS G 23)]) (rest := []) dX7_parseStatement_81 kMX7_274 rfl (hmc221 (m := m) hm) rfl rfl (Nat.le_of_ble_eq_true rfl) (d2 := 4) (by decide) (k2 := 0) (Nat.zero_le _) (u2 := 0) (Nat.zero_le _) (Nat.le_of_ble_eq_true rfl) (ctX7_isText (m := m) hm (j := 23) (q := sq23) rfl i11) (fun v12 h13 q14 => ?_)
      obtain ⟨rfl, rfl⟩ := q14
      refine am_if_eq dX7_parseStatement_84 (by decide : ((84 : Nat) : Int) + (24) = ((108 : Nat) : Int)) (fun c15 => ?_) (fun c15 => ?_)
      · have hs := hs.1 c15
        refine am_aload_n dX7_parseStatement_108 0 rfl ?_
        refine am_ldcwS (j := 24) dX7_parseStatement_109 rfl ?_
        obtain ⟨i16, hs⟩ := hs
        refine am_callV (As := [.ref (gS G 24)]) (rest := []) dX7_parseStatement_112 kMX7_274 rfl (hmc221 (m := m) hm) rfl rfl (Nat.le_of_ble_eq_true rfl) (d2 := 4) (by decide) (k2 := 0) (Nat.zero_le _) (u2 := 0) (Nat.zero_le _) (Nat.le_of_ble_eq_true rfl) (ctX7_isText (m := m) hm (j := 24) (q := sq24) rfl i16) (fun v17 h18 q19 => ?_)
        obtain ⟨rfl, rfl⟩ := q19
        refine am_if_eq dX7_parseStatement_115 (by decide : ((115 : Nat) : Int) + (10) = ((125 : Nat) : Int)) (fun c20 => ?_) (fun c20 => ?_)
        · have hs := hs.1 c20
          refine am_aload_n dX7_parseStatement_125 0 rfl ?_
          refine am_ldcwS (j := 25) dX7_parseStatement_126 rfl ?_
          obtain ⟨i21, hs⟩ := hs
          refine am_callV (As := [.ref (gS G 25)]) (rest := []) dX7_parseStatement_129 kMX7_274 rfl (hmc221 (m := m) hm) rfl rfl (Nat.le_of_ble_eq_true rfl) (d2 := 4) (by decide) (k2 := 0) (Nat.zero_le _) (u2 := 0) (Nat.zero_le _) (Nat.le_of_ble_eq_true rfl) (ctX7_isText (m := m) hm (j := 25) (q := sq25) rfl i21) (fun v22 h23 q24 => ?_)
          obtain ⟨rfl, rfl⟩ := q24
          refine am_if_eq dX7_parseStatement_132 (by decide : ((132 : Nat) : Int) + (10) = ((142 : Nat) : Int)) (fun c25 => ?_) (fun c25 => ?_)
          · have hs := hs.1 c25
            refine am_aload_n dX7_parseStatement_142 0 rfl ?_
            refine am_ldcwS (j := 26) dX7_parseStatement_143 rfl ?_
            obtain ⟨i26, hs⟩ := hs
            refine am_callV (As := [.ref (gS G 26)]) (rest := []) dX7_parseStatement_146 kMX7_274 rfl (hmc221 (m := m) hm) rfl rfl (Nat.le_of_ble_eq_true rfl) (d2 := 4) (by decide) (k2 := 0) (Nat.zero_le _) (u2 := 0) (Nat.zero_le _) (Nat.le_of_ble_eq_true rfl) (ctX7_isText (m := m) hm (j := 26) (q := sq26) rfl i26) (fun v27 h28 q29 => ?_)
            obtain ⟨rfl, rfl⟩ := q29
            refine am_if_eq dX7_parseStatement_149 (by decide : ((149 : Nat) : Int) + (10) = ((159 : Nat) : Int)) (fun c30 => ?_) (fun c30 => ?_)
            · have hs := hs.1 c30
              refine am_aload_n dX7_parseStatement_159 0 rfl ?_
              refine am_ldcwS (j := 27) dX7_parseStatement_160 rfl ?_
              obtain ⟨i31, hs⟩ := hs
              refine am_callV (As := [.ref (gS G 27)]) (rest := []) dX7_parseStatement_163 kMX7_274 rfl (hmc221 (m := m) hm) rfl rfl (Nat.le_of_ble_eq_true rfl) (d2 := 4) (by decide) (k2 := 0) (Nat.zero_le _) (u2 := 0) (Nat.zero_le _) (Nat.le_of_ble_eq_true rfl) (ctX7_isText (m := m) hm (j := 27) (q := sq27) rfl i31) (fun v32 h33 q34 => ?_)
              obtain ⟨rfl, rfl⟩ := q34
              refine am_if_eq dX7_parseStatement_166 (by decide : ((166 : Nat) : Int) + (10) = ((176 : Nat) : Int)) (fun c35 => ?_) (fun c35 => ?_)
              · have hs := hs.1 c35
                refine am_aload_n dX7_parseStatement_176 0 rfl ?_
                refine am_iconst (v := 1) dX7_parseStatement_177 (by decide) ?_
                refine am_callV (As := [.int 1]) (rest := []) dX7_parseStatement_178 kMX7_300 rfl (hmc221 (m := m) hm) rfl rfl (Nat.le_of_ble_eq_true rfl) (d2 := 1) (by decide) (k2 := 0) (Nat.zero_le _) (u2 := 0) (Nat.zero_le _) (Nat.le_of_ble_eq_true rfl) (ctX7_fail (m := m) hm 1 ) (fun v36 h37 q38 => ?_)
                obtain ⟨r39, e40, rfl, w41⟩ := q38
                have hs := bnd_p e40 hs
                refine am_aload_n dX7_parseStatement_181 0 rfl ?_
                refine am_callV (As := []) (rest := []) dX7_parseStatement_182 kMX7_229 rfl (hmc221 (m := r39) w41) rfl rfl (Nat.le_of_ble_eq_true rfl) (d2 := 0) (by decide) (k2 := 0) (Nat.zero_le _) (u2 := 0) (Nat.zero_le _) (Nat.le_of_ble_eq_true rfl) (ctX7_good (m := r39) w41  ) (fun v42 h43 q44 => ?_)
                obtain ⟨rfl, rfl⟩ := q44
                refine am_if_eq dX7_parseStatement_185 (by decide : ((185 : Nat) : Int) + (25) = ((210 : Nat) : Int)) (fun c45 => ?_) (fun c45 => ?_)
                · have hs := hs.1 c45
                  refine am_aload_n dX7_parseStatement_210 0 rfl ?_
                  obtain ⟨i46, hs⟩ := hs
                  refine am_callV (As := []) (rest := []) dX7_parseStatement_211 kMX7_303 rfl (hmc221 (m := r39) w41) rfl rfl (Nat.le_of_ble_eq_true rfl) (d2 := 2) (by decide) (k2 := 0) (Nat.zero_le _) (u2 := 0) (Nat.zero_le _) (Nat.le_of_ble_eq_true rfl) (ctX7_goOn (m := r39) w41  i46) (fun v47 h48 q49 => ?_)
                  obtain ⟨r50, e51, rfl, w52⟩ := q49
                  have hs := bnd_p e51 hs
                  exact am_return dX7_parseStatement_214 rfl ⟨_, ifp c5 (ifp c10 (ifp c15 (ifp c20 (ifp c25 (ifp c30 (ifp c35 (bnd_eq e40 (ifp c45 (bnd_eq e51 (rfl)))))))))), rfl, w52⟩
                · have hs := hs.2 c45
                  refine am_aload_n dX7_parseStatement_188 0 rfl ?_
                  refine am_get (v := .int (r39.1 7)) dX7_parseStatement_189 kGX7_245 (hmc221 (m := r39) w41) rfl ?_
                  refine am_iconst (v := 3) dX7_parseStatement_192 (by decide) ?_
                  refine am_icmp_ne dX7_parseStatement_193 (by decide : ((193 : Nat) : Int) + (12) = ((205 : Nat) : Int)) (fun c53 => ?_) (fun c53 => ?_)
                  · have hs := hs.2 c53
                    refine am_aload_n dX7_parseStatement_205 0 rfl ?_
                    refine am_iconst (v := 1) dX7_parseStatement_206 (by decide) ?_
                    refine am_callV (As := [.int 1]) (rest := []) dX7_parseStatement_207 kMX7_300 rfl (hmc221 (m := r39) w41) rfl rfl (Nat.le_of_ble_eq_true rfl) (d2 := 1) (by decide) (k2 := 0) (Nat.zero_le _) (u2 := 0) (Nat.zero_le _) (Nat.le_of_ble_eq_true rfl) (ctX7_fail (m := r39) w41 1 ) (fun v54 h55 q56 => ?_)
                    obtain ⟨r57, e58, rfl, w59⟩ := q56
                    have hs := bnd_p e58 hs
                    refine am_aload_n dX7_parseStatement_210 0 rfl ?_
                    obtain ⟨i60, hs⟩ := hs
                    refine am_callV (As := []) (rest := []) dX7_parseStatement_211 kMX7_303 rfl (hmc221 (m := r57) w59) rfl rfl (Nat.le_of_ble_eq_true rfl) (d2 := 2) (by decide) (k2 := 0) (Nat.zero_le _) (u2 := 0) (Nat.zero_le _) (Nat.le_of_ble_eq_true rfl) (ctX7_goOn (m := r57) w59  i60) (fun v61 h62 q63 => ?_)
                    obtain ⟨r64, e65, rfl, w66⟩ := q63
                    have hs := bnd_p e65 hs
                    exact am_return dX7_parseStatement_214 rfl ⟨_, ifp c5 (ifp c10 (ifp c15 (ifp c20 (ifp c25 (ifp c30 (ifp c35 (bnd_eq e40 (ifn c45 (ifn c53 (bnd_eq e58 (bnd_eq e65 (rfl)))))))))))), rfl, w66⟩
                  · have hs := hs.1 c53
                    refine am_aload_n dX7_parseStatement_196 0 rfl ?_
                    refine am_get (v := .int (r39.1 8)) dX7_parseStatement_197 kGX7_256 (hmc221 (m := r39) w41) rfl ?_
                    refine am_bipush (v := 59) dX7_parseStatement_200 (by decide) ?_
                    refine am_icmp_eq dX7_parseStatement_202 (by decide : ((202 : Nat) : Int) + (8) = ((210 : Nat) : Int)) (fun c67 => ?_) (fun c67 => ?_)
                    · have hs := hs.1 c67
                      refine am_aload_n dX7_parseStatement_210 0 rfl ?_
                      obtain ⟨i68, hs⟩ := hs
                      refine am_callV (As := []) (rest := []) dX7_parseStatement_211 kMX7_303 rfl (hmc221 (m := r39) w41) rfl rfl (Nat.le_of_ble_eq_true rfl) (d2 := 2) (by decide) (k2 := 0) (Nat.zero_le _) (u2 := 0) (Nat.zero_le _) (Nat.le_of_ble_eq_true rfl) (ctX7_goOn (m := r39) w41  i68) (fun v69 h70 q71 => ?_)
                      obtain ⟨r72, e73, rfl, w74⟩ := q71
                      have hs := bnd_p e73 hs
                      exact am_return dX7_parseStatement_214 rfl ⟨_, ifp c5 (ifp c10 (ifp c15 (ifp c20 (ifp c25 (ifp c30 (ifp c35 (bnd_eq e40 (ifn c45 (ifp c53 (ifp c67 (bnd_eq e73 (rfl)))))))))))), rfl, w74⟩
                    · have hs := hs.2 c67
                      refine am_aload_n dX7_parseStatement_205 0 rfl ?_
                      refine am_iconst (v := 1) dX7_parseStatement_206 (by decide) ?_
                      refine am_callV (As := [.int 1]) (rest := []) dX7_parseStatement_207 kMX7_300 rfl (hmc221 (m := r39) w41) rfl rfl (Nat.le_of_ble_eq_true rfl) (d2 := 1) (by decide) (k2 := 0) (Nat.zero_le _) (u2 := 0) (Nat.zero_le _) (Nat.le_of_ble_eq_true rfl) (ctX7_fail (m := r39) w41 1 ) (fun v75 h76 q77 => ?_)
                      obtain ⟨r78, e79, rfl, w80⟩ := q77
                      have hs := bnd_p e79 hs
                      refine am_aload_n dX7_parseStatement_210 0 rfl ?_
                      obtain ⟨i81, hs⟩ := hs
                      refine am_callV (As := []) (rest := []) dX7_parseStatement_211 kMX7_303 rfl (hmc221 (m := r78) w80) rfl rfl (Nat.le_of_ble_eq_true rfl) (d2 := 2) (by decide) (k2 := 0) (Nat.zero_le _) (u2 := 0) (Nat.zero_le _) (Nat.le_of_ble_eq_true rfl) (ctX7_goOn (m := r78) w80  i81) (fun v82 h83 q84 => ?_)
                      obtain ⟨r85, e86, rfl, w87⟩ := q84
                      have hs := bnd_p e86 hs
                      exact am_return dX7_parseStatement_214 rfl ⟨_, ifp c5 (ifp c10 (ifp c15 (ifp c20 (ifp c25 (ifp c30 (ifp c35 (bnd_eq e40 (ifn c45 (ifp c53 (ifn c67 (bnd_eq e79 (bnd_eq e86 (rfl))))))))))))), rfl, w87⟩
              · have hs := hs.2 c35
                refine am_aload_n dX7_parseStatement_169 0 rfl ?_
                obtain ⟨i88, hs⟩ := hs
                refine am_callV (As := []) (rest := []) dX7_parseStatement_170 kMX7_355 rfl (hmc221 (m := m) hm) rfl rfl (Nat.le_of_ble_eq_true rfl) (d2 := 8) (by decide) (k2 := 0) (Nat.zero_le _) (u2 := 0) (Nat.zero_le _) (Nat.le_of_ble_eq_true rfl) (ctX7_parsePiece (m := m) hm  i88) (fun v89 h90 q91 => ?_)
                obtain ⟨r92, e93, rfl, w94⟩ := q91
                have hs := bnd_p e93 hs
                refine am_goto dX7_parseStatement_173 (by decide : ((173 : Nat) : Int) + (8) = ((181 : Nat) : Int)) ?_
                refine am_aload_n dX7_parseStatement_181 0 rfl ?_
                refine am_callV (As := []) (rest := []) dX7_parseStatement_182 kMX7_229 rfl (hmc221 (m := r92) w94) rfl rfl (Nat.le_of_ble_eq_true rfl) (d2 := 0) (by decide) (k2 := 0) (Nat.zero_le _) (u2 := 0) (Nat.zero_le _) (Nat.le_of_ble_eq_true rfl) (ctX7_good (m := r92) w94  ) (fun v95 h96 q97 => ?_)
                obtain ⟨rfl, rfl⟩ := q97
                refine am_if_eq dX7_parseStatement_185 (by decide : ((185 : Nat) : Int) + (25) = ((210 : Nat) : Int)) (fun c98 => ?_) (fun c98 => ?_)
                · have hs := hs.1 c98
                  refine am_aload_n dX7_parseStatement_210 0 rfl ?_
                  obtain ⟨i99, hs⟩ := hs
                  refine am_callV (As := []) (rest := []) dX7_parseStatement_211 kMX7_303 rfl (hmc221 (m := r92) w94) rfl rfl (Nat.le_of_ble_eq_true rfl) (d2 := 2) (by decide) (k2 := 0) (Nat.zero_le _) (u2 := 0) (Nat.zero_le _) (Nat.le_of_ble_eq_true rfl) (ctX7_goOn (m := r92) w94  i99) (fun v100 h101 q102 => ?_)
                  obtain ⟨r103, e104, rfl, w105⟩ := q102
                  have hs := bnd_p e104 hs
                  exact am_return dX7_parseStatement_214 rfl ⟨_, ifp c5 (ifp c10 (ifp c15 (ifp c20 (ifp c25 (ifp c30 (ifn c35 (bnd_eq e93 (ifp c98 (bnd_eq e104 (rfl)))))))))), rfl, w105⟩
                · have hs := hs.2 c98
                  refine am_aload_n dX7_parseStatement_188 0 rfl ?_
                  refine am_get (v := .int (r92.1 7)) dX7_parseStatement_189 kGX7_245 (hmc221 (m := r92) w94) rfl ?_
                  refine am_iconst (v := 3) dX7_parseStatement_192 (by decide) ?_
                  refine am_icmp_ne dX7_parseStatement_193 (by decide : ((193 : Nat) : Int) + (12) = ((205 : Nat) : Int)) (fun c106 => ?_) (fun c106 => ?_)
                  · have hs := hs.2 c106
                    refine am_aload_n dX7_parseStatement_205 0 rfl ?_
                    refine am_iconst (v := 1) dX7_parseStatement_206 (by decide) ?_
                    refine am_callV (As := [.int 1]) (rest := []) dX7_parseStatement_207 kMX7_300 rfl (hmc221 (m := r92) w94) rfl rfl (Nat.le_of_ble_eq_true rfl) (d2 := 1) (by decide) (k2 := 0) (Nat.zero_le _) (u2 := 0) (Nat.zero_le _) (Nat.le_of_ble_eq_true rfl) (ctX7_fail (m := r92) w94 1 ) (fun v107 h108 q109 => ?_)
                    obtain ⟨r110, e111, rfl, w112⟩ := q109
                    have hs := bnd_p e111 hs
                    refine am_aload_n dX7_parseStatement_210 0 rfl ?_
                    obtain ⟨i113, hs⟩ := hs
                    refine am_callV (As := []) (rest := []) dX7_parseStatement_211 kMX7_303 rfl (hmc221 (m := r110) w112) rfl rfl (Nat.le_of_ble_eq_true rfl) (d2 := 2) (by decide) (k2 := 0) (Nat.zero_le _) (u2 := 0) (Nat.zero_le _) (Nat.le_of_ble_eq_true rfl) (ctX7_goOn (m := r110) w112  i113) (fun v114 h115 q116 => ?_)
                    obtain ⟨r117, e118, rfl, w119⟩ := q116
                    have hs := bnd_p e118 hs
                    exact am_return dX7_parseStatement_214 rfl ⟨_, ifp c5 (ifp c10 (ifp c15 (ifp c20 (ifp c25 (ifp c30 (ifn c35 (bnd_eq e93 (ifn c98 (ifn c106 (bnd_eq e111 (bnd_eq e118 (rfl)))))))))))), rfl, w119⟩
                  · have hs := hs.1 c106
                    refine am_aload_n dX7_parseStatement_196 0 rfl ?_
                    refine am_get (v := .int (r92.1 8)) dX7_parseStatement_197 kGX7_256 (hmc221 (m := r92) w94) rfl ?_
                    refine am_bipush (v := 59) dX7_parseStatement_200 (by decide) ?_
                    refine am_icmp_eq dX7_parseStatement_202 (by decide : ((202 : Nat) : Int) + (8) = ((210 : Nat) : Int)) (fun c120 => ?_) (fun c120 => ?_)
                    · have hs := hs.1 c120
                      refine am_aload_n dX7_parseStatement_210 0 rfl ?_
                      obtain ⟨i121, hs⟩ := hs
                      refine am_callV (As := []) (rest := []) dX7_parseStatement_211 kMX7_303 rfl (hmc221 (m := r92) w94) rfl rfl (Nat.le_of_ble_eq_true rfl) (d2 := 2) (by decide) (k2 := 0) (Nat.zero_le _) (u2 := 0) (Nat.zero_le _) (Nat.le_of_ble_eq_true rfl) (ctX7_goOn (m := r92) w94  i121) (fun v122 h123 q124 => ?_)
                      obtain ⟨r125, e126, rfl, w127⟩ := q124
                      have hs := bnd_p e126 hs
                      exact am_return dX7_parseStatement_214 rfl ⟨_, ifp c5 (ifp c10 (ifp c15 (ifp c20 (ifp c25 (ifp c30 (ifn c35 (bnd_eq e93 (ifn c98 (ifp c106 (ifp c120 (bnd_eq e126 (rfl)))))))))))), rfl, w127⟩
                    · have hs := hs.2 c120
                      refine am_aload_n dX7_parseStatement_205 0 rfl ?_
                      refine am_iconst (v := 1) dX7_parseStatement_206 (by decide) ?_
                      refine am_callV (As := [.int 1]) (rest := []) dX7_parseStatement_207 kMX7_300 rfl (hmc221 (m := r92) w94) rfl rfl (Nat.le_of_ble_eq_true rfl) (d2 := 1) (by decide) (k2 := 0) (Nat.zero_le _) (u2 := 0) (Nat.zero_le _) (Nat.le_of_ble_eq_true rfl) (ctX7_fail (m := r92) w94 1 ) (fun v128 h129 q130 => ?_)
                      obtain ⟨r131, e132, rfl, w133⟩ := q130
                      have hs := bnd_p e132 hs
                      refine am_aload_n dX7_parseStatement_210 0 rfl ?_
                      obtain ⟨i134, hs⟩ := hs
                      refine am_callV (As := []) (rest := []) dX7_parseStatement_211 kMX7_303 rfl (hmc221 (m := r131) w133) rfl rfl (Nat.le_of_ble_eq_true rfl) (d2 := 2) (by decide) (k2 := 0) (Nat.zero_le _) (u2 := 0) (Nat.zero_le _) (Nat.le_of_ble_eq_true rfl) (ctX7_goOn (m := r131) w133  i134) (fun v135 h136 q137 => ?_)
                      obtain ⟨r138, e139, rfl, w140⟩ := q137
                      have hs := bnd_p e139 hs
                      exact am_return dX7_parseStatement_214 rfl ⟨_, ifp c5 (ifp c10 (ifp c15 (ifp c20 (ifp c25 (ifp c30 (ifn c35 (bnd_eq e93 (ifn c98 (ifp c106 (ifn c120 (bnd_eq e132 (bnd_eq e139 (rfl))))))))))))), rfl, w140⟩
            · have hs := hs.2 c30
              refine am_aload_n dX7_parseStatement_152 0 rfl ?_
              obtain ⟨i141, hs⟩ := hs
              refine am_callV (As := []) (rest := []) dX7_parseStatement_153 kMX7_352 rfl (hmc221 (m := m) hm) rfl rfl (Nat.le_of_ble_eq_true rfl) (d2 := 9) (by decide) (k2 := 0) (Nat.zero_le _) (u2 := 0) (Nat.zero_le _) (Nat.le_of_ble_eq_true rfl) (ctX7_parseSize (m := m) hm  i141) (fun v142 h143 q144 => ?_)
              obtain ⟨r145, e146, rfl, w147⟩ := q144
              have hs := bnd_p e146 hs
              refine am_goto dX7_parseStatement_156 (by decide : ((156 : Nat) : Int) + (25) = ((181 : Nat) : Int)) ?_
              refine am_aload_n dX7_parseStatement_181 0 rfl ?_
              refine am_callV (As := []) (rest := []) dX7_parseStatement_182 kMX7_229 rfl (hmc221 (m := r145) w147) rfl rfl (Nat.le_of_ble_eq_true rfl) (d2 := 0) (by decide) (k2 := 0) (Nat.zero_le _) (u2 := 0) (Nat.zero_le _) (Nat.le_of_ble_eq_true rfl) (ctX7_good (m := r145) w147  ) (fun v148 h149 q150 => ?_)
              obtain ⟨rfl, rfl⟩ := q150
              refine am_if_eq dX7_parseStatement_185 (by decide : ((185 : Nat) : Int) + (25) = ((210 : Nat) : Int)) (fun c151 => ?_) (fun c151 => ?_)
              · have hs := hs.1 c151
                refine am_aload_n dX7_parseStatement_210 0 rfl ?_
                obtain ⟨i152, hs⟩ := hs
                refine am_callV (As := []) (rest := []) dX7_parseStatement_211 kMX7_303 rfl (hmc221 (m := r145) w147) rfl rfl (Nat.le_of_ble_eq_true rfl) (d2 := 2) (by decide) (k2 := 0) (Nat.zero_le _) (u2 := 0) (Nat.zero_le _) (Nat.le_of_ble_eq_true rfl) (ctX7_goOn (m := r145) w147  i152) (fun v153 h154 q155 => ?_)
                obtain ⟨r156, e157, rfl, w158⟩ := q155
                have hs := bnd_p e157 hs
                exact am_return dX7_parseStatement_214 rfl ⟨_, ifp c5 (ifp c10 (ifp c15 (ifp c20 (ifp c25 (ifn c30 (bnd_eq e146 (ifp c151 (bnd_eq e157 (rfl))))))))), rfl, w158⟩
              · have hs := hs.2 c151
                refine am_aload_n dX7_parseStatement_188 0 rfl ?_
                refine am_get (v := .int (r145.1 7)) dX7_parseStatement_189 kGX7_245 (hmc221 (m := r145) w147) rfl ?_
                refine am_iconst (v := 3) dX7_parseStatement_192 (by decide) ?_
                refine am_icmp_ne dX7_parseStatement_193 (by decide : ((193 : Nat) : Int) + (12) = ((205 : Nat) : Int)) (fun c159 => ?_) (fun c159 => ?_)
                · have hs := hs.2 c159
                  refine am_aload_n dX7_parseStatement_205 0 rfl ?_
                  refine am_iconst (v := 1) dX7_parseStatement_206 (by decide) ?_
                  refine am_callV (As := [.int 1]) (rest := []) dX7_parseStatement_207 kMX7_300 rfl (hmc221 (m := r145) w147) rfl rfl (Nat.le_of_ble_eq_true rfl) (d2 := 1) (by decide) (k2 := 0) (Nat.zero_le _) (u2 := 0) (Nat.zero_le _) (Nat.le_of_ble_eq_true rfl) (ctX7_fail (m := r145) w147 1 ) (fun v160 h161 q162 => ?_)
                  obtain ⟨r163, e164, rfl, w165⟩ := q162
                  have hs := bnd_p e164 hs
                  refine am_aload_n dX7_parseStatement_210 0 rfl ?_
                  obtain ⟨i166, hs⟩ := hs
                  refine am_callV (As := []) (rest := []) dX7_parseStatement_211 kMX7_303 rfl (hmc221 (m := r163) w165) rfl rfl (Nat.le_of_ble_eq_true rfl) (d2 := 2) (by decide) (k2 := 0) (Nat.zero_le _) (u2 := 0) (Nat.zero_le _) (Nat.le_of_ble_eq_true rfl) (ctX7_goOn (m := r163) w165  i166) (fun v167 h168 q169 => ?_)
                  obtain ⟨r170, e171, rfl, w172⟩ := q169
                  have hs := bnd_p e171 hs
                  exact am_return dX7_parseStatement_214 rfl ⟨_, ifp c5 (ifp c10 (ifp c15 (ifp c20 (ifp c25 (ifn c30 (bnd_eq e146 (ifn c151 (ifn c159 (bnd_eq e164 (bnd_eq e171 (rfl))))))))))), rfl, w172⟩
                · have hs := hs.1 c159
                  refine am_aload_n dX7_parseStatement_196 0 rfl ?_
                  refine am_get (v := .int (r145.1 8)) dX7_parseStatement_197 kGX7_256 (hmc221 (m := r145) w147) rfl ?_
                  refine am_bipush (v := 59) dX7_parseStatement_200 (by decide) ?_
                  refine am_icmp_eq dX7_parseStatement_202 (by decide : ((202 : Nat) : Int) + (8) = ((210 : Nat) : Int)) (fun c173 => ?_) (fun c173 => ?_)
                  · have hs := hs.1 c173
                    refine am_aload_n dX7_parseStatement_210 0 rfl ?_
                    obtain ⟨i174, hs⟩ := hs
                    refine am_callV (As := []) (rest := []) dX7_parseStatement_211 kMX7_303 rfl (hmc221 (m := r145) w147) rfl rfl (Nat.le_of_ble_eq_true rfl) (d2 := 2) (by decide) (k2 := 0) (Nat.zero_le _) (u2 := 0) (Nat.zero_le _) (Nat.le_of_ble_eq_true rfl) (ctX7_goOn (m := r145) w147  i174) (fun v175 h176 q177 => ?_)
                    obtain ⟨r178, e179, rfl, w180⟩ := q177
                    have hs := bnd_p e179 hs
                    exact am_return dX7_parseStatement_214 rfl ⟨_, ifp c5 (ifp c10 (ifp c15 (ifp c20 (ifp c25 (ifn c30 (bnd_eq e146 (ifn c151 (ifp c159 (ifp c173 (bnd_eq e179 (rfl))))))))))), rfl, w180⟩
                  · have hs := hs.2 c173
                    refine am_aload_n dX7_parseStatement_205 0 rfl ?_
                    refine am_iconst (v := 1) dX7_parseStatement_206 (by decide) ?_
                    refine am_callV (As := [.int 1]) (rest := []) dX7_parseStatement_207 kMX7_300 rfl (hmc221 (m := r145) w147) rfl rfl (Nat.le_of_ble_eq_true rfl) (d2 := 1) (by decide) (k2 := 0) (Nat.zero_le _) (u2 := 0) (Nat.zero_le _) (Nat.le_of_ble_eq_true rfl) (ctX7_fail (m := r145) w147 1 ) (fun v181 h182 q183 => ?_)
                    obtain ⟨r184, e185, rfl, w186⟩ := q183
                    have hs := bnd_p e185 hs
                    refine am_aload_n dX7_parseStatement_210 0 rfl ?_
                    obtain ⟨i187, hs⟩ := hs
                    refine am_callV (As := []) (rest := []) dX7_parseStatement_211 kMX7_303 rfl (hmc221 (m := r184) w186) rfl rfl (Nat.le_of_ble_eq_true rfl) (d2 := 2) (by decide) (k2 := 0) (Nat.zero_le _) (u2 := 0) (Nat.zero_le _) (Nat.le_of_ble_eq_true rfl) (ctX7_goOn (m := r184) w186  i187) (fun v188 h189 q190 => ?_)
                    obtain ⟨r191, e192, rfl, w193⟩ := q190
                    have hs := bnd_p e192 hs
                    exact am_return dX7_parseStatement_214 rfl ⟨_, ifp c5 (ifp c10 (ifp c15 (ifp c20 (ifp c25 (ifn c30 (bnd_eq e146 (ifn c151 (ifp c159 (ifn c173 (bnd_eq e185 (bnd_eq e192 (rfl)))))))))))), rfl, w193⟩
          · have hs := hs.2 c25
            refine am_aload_n dX7_parseStatement_135 0 rfl ?_
            obtain ⟨i194, hs⟩ := hs
            refine am_callV (As := []) (rest := []) dX7_parseStatement_136 kMX7_349 rfl (hmc221 (m := m) hm) rfl rfl (Nat.le_of_ble_eq_true rfl) (d2 := 9) (by decide) (k2 := 0) (Nat.zero_le _) (u2 := 0) (Nat.zero_le _) (Nat.le_of_ble_eq_true rfl) (ctX7_parseShape (m := m) hm  i194) (fun v195 h196 q197 => ?_)
            obtain ⟨r198, e199, rfl, w200⟩ := q197
            have hs := bnd_p e199 hs
            refine am_goto dX7_parseStatement_139 (by decide : ((139 : Nat) : Int) + (42) = ((181 : Nat) : Int)) ?_
            refine am_aload_n dX7_parseStatement_181 0 rfl ?_
            refine am_callV (As := []) (rest := []) dX7_parseStatement_182 kMX7_229 rfl (hmc221 (m := r198) w200) rfl rfl (Nat.le_of_ble_eq_true rfl) (d2 := 0) (by decide) (k2 := 0) (Nat.zero_le _) (u2 := 0) (Nat.zero_le _) (Nat.le_of_ble_eq_true rfl) (ctX7_good (m := r198) w200  ) (fun v201 h202 q203 => ?_)
            obtain ⟨rfl, rfl⟩ := q203
            refine am_if_eq dX7_parseStatement_185 (by decide : ((185 : Nat) : Int) + (25) = ((210 : Nat) : Int)) (fun c204 => ?_) (fun c204 => ?_)
            · have hs := hs.1 c204
              refine am_aload_n dX7_parseStatement_210 0 rfl ?_
              obtain ⟨i205, hs⟩ := hs
              refine am_callV (As := []) (rest := []) dX7_parseStatement_211 kMX7_303 rfl (hmc221 (m := r198) w200) rfl rfl (Nat.le_of_ble_eq_true rfl) (d2 := 2) (by decide) (k2 := 0) (Nat.zero_le _) (u2 := 0) (Nat.zero_le _) (Nat.le_of_ble_eq_true rfl) (ctX7_goOn (m := r198) w200  i205) (fun v206 h207 q208 => ?_)
              obtain ⟨r209, e210, rfl, w211⟩ := q208
              have hs := bnd_p e210 hs
              exact am_return dX7_parseStatement_214 rfl ⟨_, ifp c5 (ifp c10 (ifp c15 (ifp c20 (ifn c25 (bnd_eq e199 (ifp c204 (bnd_eq e210 (rfl)))))))), rfl, w211⟩
            · have hs := hs.2 c204
              refine am_aload_n dX7_parseStatement_188 0 rfl ?_
              refine am_get (v := .int (r198.1 7)) dX7_parseStatement_189 kGX7_245 (hmc221 (m := r198) w200) rfl ?_
              refine am_iconst (v := 3) dX7_parseStatement_192 (by decide) ?_
              refine am_icmp_ne dX7_parseStatement_193 (by decide : ((193 : Nat) : Int) + (12) = ((205 : Nat) : Int)) (fun c212 => ?_) (fun c212 => ?_)
              · have hs := hs.2 c212
                refine am_aload_n dX7_parseStatement_205 0 rfl ?_
                refine am_iconst (v := 1) dX7_parseStatement_206 (by decide) ?_
                refine am_callV (As := [.int 1]) (rest := []) dX7_parseStatement_207 kMX7_300 rfl (hmc221 (m := r198) w200) rfl rfl (Nat.le_of_ble_eq_true rfl) (d2 := 1) (by decide) (k2 := 0) (Nat.zero_le _) (u2 := 0) (Nat.zero_le _) (Nat.le_of_ble_eq_true rfl) (ctX7_fail (m := r198) w200 1 ) (fun v213 h214 q215 => ?_)
                obtain ⟨r216, e217, rfl, w218⟩ := q215
                have hs := bnd_p e217 hs
                refine am_aload_n dX7_parseStatement_210 0 rfl ?_
                obtain ⟨i219, hs⟩ := hs
                refine am_callV (As := []) (rest := []) dX7_parseStatement_211 kMX7_303 rfl (hmc221 (m := r216) w218) rfl rfl (Nat.le_of_ble_eq_true rfl) (d2 := 2) (by decide) (k2 := 0) (Nat.zero_le _) (u2 := 0) (Nat.zero_le _) (Nat.le_of_ble_eq_true rfl) (ctX7_goOn (m := r216) w218  i219) (fun v220 h221 q222 => ?_)
                obtain ⟨r223, e224, rfl, w225⟩ := q222
                have hs := bnd_p e224 hs
                exact am_return dX7_parseStatement_214 rfl ⟨_, ifp c5 (ifp c10 (ifp c15 (ifp c20 (ifn c25 (bnd_eq e199 (ifn c204 (ifn c212 (bnd_eq e217 (bnd_eq e224 (rfl)))))))))), rfl, w225⟩
              · have hs := hs.1 c212
                refine am_aload_n dX7_parseStatement_196 0 rfl ?_
                refine am_get (v := .int (r198.1 8)) dX7_parseStatement_197 kGX7_256 (hmc221 (m := r198) w200) rfl ?_
                refine am_bipush (v := 59) dX7_parseStatement_200 (by decide) ?_
                refine am_icmp_eq dX7_parseStatement_202 (by decide : ((202 : Nat) : Int) + (8) = ((210 : Nat) : Int)) (fun c226 => ?_) (fun c226 => ?_)
                · have hs := hs.1 c226
                  refine am_aload_n dX7_parseStatement_210 0 rfl ?_
                  obtain ⟨i227, hs⟩ := hs
                  refine am_callV (As := []) (rest := []) dX7_parseStatement_211 kMX7_303 rfl (hmc221 (m := r198) w200) rfl rfl (Nat.le_of_ble_eq_true rfl) (d2 := 2) (by decide) (k2 := 0) (Nat.zero_le _) (u2 := 0) (Nat.zero_le _) (Nat.le_of_ble_eq_true rfl) (ctX7_goOn (m := r198) w200  i227) (fun v228 h229 q230 => ?_)
                  obtain ⟨r231, e232, rfl, w233⟩ := q230
                  have hs := bnd_p e232 hs
                  exact am_return dX7_parseStatement_214 rfl ⟨_, ifp c5 (ifp c10 (ifp c15 (ifp c20 (ifn c25 (bnd_eq e199 (ifn c204 (ifp c212 (ifp c226 (bnd_eq e232 (rfl)))))))))), rfl, w233⟩
                · have hs := hs.2 c226
                  refine am_aload_n dX7_parseStatement_205 0 rfl ?_
                  refine am_iconst (v := 1) dX7_parseStatement_206 (by decide) ?_
                  refine am_callV (As := [.int 1]) (rest := []) dX7_parseStatement_207 kMX7_300 rfl (hmc221 (m := r198) w200) rfl rfl (Nat.le_of_ble_eq_true rfl) (d2 := 1) (by decide) (k2 := 0) (Nat.zero_le _) (u2 := 0) (Nat.zero_le _) (Nat.le_of_ble_eq_true rfl) (ctX7_fail (m := r198) w200 1 ) (fun v234 h235 q236 => ?_)
                  obtain ⟨r237, e238, rfl, w239⟩ := q236
                  have hs := bnd_p e238 hs
                  refine am_aload_n dX7_parseStatement_210 0 rfl ?_
                  obtain ⟨i240, hs⟩ := hs
                  refine am_callV (As := []) (rest := []) dX7_parseStatement_211 kMX7_303 rfl (hmc221 (m := r237) w239) rfl rfl (Nat.le_of_ble_eq_true rfl) (d2 := 2) (by decide) (k2 := 0) (Nat.zero_le _) (u2 := 0) (Nat.zero_le _) (Nat.le_of_ble_eq_true rfl) (ctX7_goOn (m := r237) w239  i240) (fun v241 h242 q243 => ?_)
                  obtain ⟨r244, e245, rfl, w246⟩ := q243
                  have hs := bnd_p e245 hs
                  exact am_return dX7_parseStatement_214 rfl ⟨_, ifp c5 (ifp c10 (ifp c15 (ifp c20 (ifn c25 (bnd_eq e199 (ifn c204 (ifp c212 (ifn c226 (bnd_eq e238 (bnd_eq e245 (rfl))))))))))), rfl, w246⟩
        · have hs := hs.2 c20
          refine am_aload_n dX7_parseStatement_118 0 rfl ?_
          obtain ⟨i247, hs⟩ := hs
          refine am_callV (As := []) (rest := []) dX7_parseStatement_119 kMX7_346 rfl (hmc221 (m := m) hm) rfl rfl (Nat.le_of_ble_eq_true rfl) (d2 := 9) (by decide) (k2 := 0) (Nat.zero_le _) (u2 := 0) (Nat.zero_le _) (Nat.le_of_ble_eq_true rfl) (ctX7_parseYarn (m := m) hm  i247) (fun v248 h249 q250 => ?_)
          obtain ⟨r251, e252, rfl, w253⟩ := q250
          have hs := bnd_p e252 hs
          refine am_goto dX7_parseStatement_122 (by decide : ((122 : Nat) : Int) + (59) = ((181 : Nat) : Int)) ?_
          refine am_aload_n dX7_parseStatement_181 0 rfl ?_
          refine am_callV (As := []) (rest := []) dX7_parseStatement_182 kMX7_229 rfl (hmc221 (m := r251) w253) rfl rfl (Nat.le_of_ble_eq_true rfl) (d2 := 0) (by decide) (k2 := 0) (Nat.zero_le _) (u2 := 0) (Nat.zero_le _) (Nat.le_of_ble_eq_true rfl) (ctX7_good (m := r251) w253  ) (fun v254 h255 q256 => ?_)
          obtain ⟨rfl, rfl⟩ := q256
          refine am_if_eq dX7_parseStatement_185 (by decide : ((185 : Nat) : Int) + (25) = ((210 : Nat) : Int)) (fun c257 => ?_) (fun c257 => ?_)
          · have hs := hs.1 c257
            refine am_aload_n dX7_parseStatement_210 0 rfl ?_
            obtain ⟨i258, hs⟩ := hs
            refine am_callV (As := []) (rest := []) dX7_parseStatement_211 kMX7_303 rfl (hmc221 (m := r251) w253) rfl rfl (Nat.le_of_ble_eq_true rfl) (d2 := 2) (by decide) (k2 := 0) (Nat.zero_le _) (u2 := 0) (Nat.zero_le _) (Nat.le_of_ble_eq_true rfl) (ctX7_goOn (m := r251) w253  i258) (fun v259 h260 q261 => ?_)
            obtain ⟨r262, e263, rfl, w264⟩ := q261
            have hs := bnd_p e263 hs
            exact am_return dX7_parseStatement_214 rfl ⟨_, ifp c5 (ifp c10 (ifp c15 (ifn c20 (bnd_eq e252 (ifp c257 (bnd_eq e263 (rfl))))))), rfl, w264⟩
          · have hs := hs.2 c257
            refine am_aload_n dX7_parseStatement_188 0 rfl ?_
            refine am_get (v := .int (r251.1 7)) dX7_parseStatement_189 kGX7_245 (hmc221 (m := r251) w253) rfl ?_
            refine am_iconst (v := 3) dX7_parseStatement_192 (by decide) ?_
            refine am_icmp_ne dX7_parseStatement_193 (by decide : ((193 : Nat) : Int) + (12) = ((205 : Nat) : Int)) (fun c265 => ?_) (fun c265 => ?_)
            · have hs := hs.2 c265
              refine am_aload_n dX7_parseStatement_205 0 rfl ?_
              refine am_iconst (v := 1) dX7_parseStatement_206 (by decide) ?_
              refine am_callV (As := [.int 1]) (rest := []) dX7_parseStatement_207 kMX7_300 rfl (hmc221 (m := r251) w253) rfl rfl (Nat.le_of_ble_eq_true rfl) (d2 := 1) (by decide) (k2 := 0) (Nat.zero_le _) (u2 := 0) (Nat.zero_le _) (Nat.le_of_ble_eq_true rfl) (ctX7_fail (m := r251) w253 1 ) (fun v266 h267 q268 => ?_)
              obtain ⟨r269, e270, rfl, w271⟩ := q268
              have hs := bnd_p e270 hs
              refine am_aload_n dX7_parseStatement_210 0 rfl ?_
              obtain ⟨i272, hs⟩ := hs
              refine am_callV (As := []) (rest := []) dX7_parseStatement_211 kMX7_303 rfl (hmc221 (m := r269) w271) rfl rfl (Nat.le_of_ble_eq_true rfl) (d2 := 2) (by decide) (k2 := 0) (Nat.zero_le _) (u2 := 0) (Nat.zero_le _) (Nat.le_of_ble_eq_true rfl) (ctX7_goOn (m := r269) w271  i272) (fun v273 h274 q275 => ?_)
              obtain ⟨r276, e277, rfl, w278⟩ := q275
              have hs := bnd_p e277 hs
              exact am_return dX7_parseStatement_214 rfl ⟨_, ifp c5 (ifp c10 (ifp c15 (ifn c20 (bnd_eq e252 (ifn c257 (ifn c265 (bnd_eq e270 (bnd_eq e277 (rfl))))))))), rfl, w278⟩
            · have hs := hs.1 c265
              refine am_aload_n dX7_parseStatement_196 0 rfl ?_
              refine am_get (v := .int (r251.1 8)) dX7_parseStatement_197 kGX7_256 (hmc221 (m := r251) w253) rfl ?_
              refine am_bipush (v := 59) dX7_parseStatement_200 (by decide) ?_
              refine am_icmp_eq dX7_parseStatement_202 (by decide : ((202 : Nat) : Int) + (8) = ((210 : Nat) : Int)) (fun c279 => ?_) (fun c279 => ?_)
              · have hs := hs.1 c279
                refine am_aload_n dX7_parseStatement_210 0 rfl ?_
                obtain ⟨i280, hs⟩ := hs
                refine am_callV (As := []) (rest := []) dX7_parseStatement_211 kMX7_303 rfl (hmc221 (m := r251) w253) rfl rfl (Nat.le_of_ble_eq_true rfl) (d2 := 2) (by decide) (k2 := 0) (Nat.zero_le _) (u2 := 0) (Nat.zero_le _) (Nat.le_of_ble_eq_true rfl) (ctX7_goOn (m := r251) w253  i280) (fun v281 h282 q283 => ?_)
                obtain ⟨r284, e285, rfl, w286⟩ := q283
                have hs := bnd_p e285 hs
                exact am_return dX7_parseStatement_214 rfl ⟨_, ifp c5 (ifp c10 (ifp c15 (ifn c20 (bnd_eq e252 (ifn c257 (ifp c265 (ifp c279 (bnd_eq e285 (rfl))))))))), rfl, w286⟩
              · have hs := hs.2 c279
                refine am_aload_n dX7_parseStatement_205 0 rfl ?_
                refine am_iconst (v := 1) dX7_parseStatement_206 (by decide) ?_
                refine am_callV (As := [.int 1]) (rest := []) dX7_parseStatement_207 kMX7_300 rfl (hmc221 (m := r251) w253) rfl rfl (Nat.le_of_ble_eq_true rfl) (d2 := 1) (by decide) (k2 := 0) (Nat.zero_le _) (u2 := 0) (Nat.zero_le _) (Nat.le_of_ble_eq_true rfl) (ctX7_fail (m := r251) w253 1 ) (fun v287 h288 q289 => ?_)
                obtain ⟨r290, e291, rfl, w292⟩ := q289
                have hs := bnd_p e291 hs
                refine am_aload_n dX7_parseStatement_210 0 rfl ?_
                obtain ⟨i293, hs⟩ := hs
                refine am_callV (As := []) (rest := []) dX7_parseStatement_211 kMX7_303 rfl (hmc221 (m := r290) w292) rfl rfl (Nat.le_of_ble_eq_true rfl) (d2 := 2) (by decide) (k2 := 0) (Nat.zero_le _) (u2 := 0) (Nat.zero_le _) (Nat.le_of_ble_eq_true rfl) (ctX7_goOn (m := r290) w292  i293) (fun v294 h295 q296 => ?_)
                obtain ⟨r297, e298, rfl, w299⟩ := q296
                have hs := bnd_p e298 hs
                exact am_return dX7_parseStatement_214 rfl ⟨_, ifp c5 (ifp c10 (ifp c15 (ifn c20 (bnd_eq e252 (ifn c257 (ifp c265 (ifn c279 (bnd_eq e291 (bnd_eq e298 (rfl)))))))))), rfl, w299⟩
      · have hs := hs.2 c15
        refine am_aload_n dX7_parseStatement_87 0 rfl ?_
        refine am_iconst (v := 2) dX7_parseStatement_88 (by decide) ?_
        obtain ⟨i300, hs⟩ := hs
        refine am_callV (As := [.int 2]) (rest := []) dX7_parseStatement_89 kMX7_343 rfl (hmc221 (m := m) hm) rfl rfl (Nat.le_of_ble_eq_true rfl) (d2 := 3) (by decide) (k2 := 0) (Nat.zero_le _) (u2 := 0) (Nat.zero_le _) (Nat.le_of_ble_eq_true rfl) (ctX7_once (m := m) hm 2 i300) (fun v301 h302 q303 => ?_)
        obtain ⟨r304, e305, rfl, w306⟩ := q303
        have hs := bnd_p e305 hs
        refine am_aload_n dX7_parseStatement_92 0 rfl ?_
        refine am_get (v := .ref (gz G + (222 + (r304.2.2)))) dX7_parseStatement_93 kGX7_23 (hmc221 (m := r304) w306) rfl ?_
        refine am_iconst (v := 3) dX7_parseStatement_96 (by decide) ?_
        refine am_aload_n dX7_parseStatement_97 0 rfl ?_
        refine am_iconst (v := 1) dX7_parseStatement_98 (by decide) ?_
        refine am_bipush (v := 6) dX7_parseStatement_99 (by decide) ?_
        obtain ⟨i307, hs⟩ := hs
        refine am_callV (As := [.int 1, .int 6]) (rest := [.int 3, .ref (gz G + (222 + (r304.2.2)))]) dX7_parseStatement_101 kMX7_322 rfl (hmc221 (m := r304) w306) rfl rfl (Nat.le_of_ble_eq_true rfl) (d2 := 3) (by decide) (k2 := 0) (Nat.zero_le _) (u2 := 0) (Nat.zero_le _) (Nat.le_of_ble_eq_true rfl) (ctX7_number (m := r304) w306 1 6 i307) (fun v308 h309 q310 => ?_)
        obtain ⟨r311, e312, rfl, w313⟩ := q310
        have hs := bnd_p e312 hs
        obtain ⟨i314, hs⟩ := hs
        refine am_iast (f := (r311.2.2.1 (r304.2.2))) dX7_parseStatement_104 (hmNe (m := r311.2) w313 i314) (vp_lit (by decide)) ?_
        rw [tl3]
        have w315 := hmNwe w313 i314 (upd (r311.2.2.1 (r304.2.2)) 3 r311.1)
        obtain ⟨r316, e317⟩ : ∃ x, (mA r311.2 (r304.2.2) (upd (r311.2.2.1 (r304.2.2)) 3 r311.1)) = x := ⟨_, rfl⟩
        have w318 := hm_eq e317 w315
        have hs := bnd_p e317 hs
        refine am_goto dX7_parseStatement_105 (by decide : ((105 : Nat) : Int) + (76) = ((181 : Nat) : Int)) ?_
        refine am_aload_n dX7_parseStatement_181 0 rfl ?_
        refine am_callV (As := []) (rest := []) dX7_parseStatement_182 kMX7_229 rfl (hmc221 (m := r316) w318) rfl rfl (Nat.le_of_ble_eq_true rfl) (d2 := 0) (by decide) (k2 := 0) (Nat.zero_le _) (u2 := 0) (Nat.zero_le _) (Nat.le_of_ble_eq_true rfl) (ctX7_good (m := r316) w318  ) (fun v319 h320 q321 => ?_)
        obtain ⟨rfl, rfl⟩ := q321
        refine am_if_eq dX7_parseStatement_185 (by decide : ((185 : Nat) : Int) + (25) = ((210 : Nat) : Int)) (fun c322 => ?_) (fun c322 => ?_)
        · have hs := hs.1 c322
          refine am_aload_n dX7_parseStatement_210 0 rfl ?_
          obtain ⟨i323, hs⟩ := hs
          refine am_callV (As := []) (rest := []) dX7_parseStatement_211 kMX7_303 rfl (hmc221 (m := r316) w318) rfl rfl (Nat.le_of_ble_eq_true rfl) (d2 := 2) (by decide) (k2 := 0) (Nat.zero_le _) (u2 := 0) (Nat.zero_le _) (Nat.le_of_ble_eq_true rfl) (ctX7_goOn (m := r316) w318  i323) (fun v324 h325 q326 => ?_)
          obtain ⟨r327, e328, rfl, w329⟩ := q326
          have hs := bnd_p e328 hs
          exact am_return dX7_parseStatement_214 rfl ⟨_, ifp c5 (ifp c10 (ifn c15 (bnd_eq e305 (bnd_eq e312 (bnd_eq e317 (ifp c322 (bnd_eq e328 (rfl)))))))), rfl, w329⟩
        · have hs := hs.2 c322
          refine am_aload_n dX7_parseStatement_188 0 rfl ?_
          refine am_get (v := .int (r316.1 7)) dX7_parseStatement_189 kGX7_245 (hmc221 (m := r316) w318) rfl ?_
          refine am_iconst (v := 3) dX7_parseStatement_192 (by decide) ?_
          refine am_icmp_ne dX7_parseStatement_193 (by decide : ((193 : Nat) : Int) + (12) = ((205 : Nat) : Int)) (fun c330 => ?_) (fun c330 => ?_)
          · have hs := hs.2 c330
            refine am_aload_n dX7_parseStatement_205 0 rfl ?_
            refine am_iconst (v := 1) dX7_parseStatement_206 (by decide) ?_
            refine am_callV (As := [.int 1]) (rest := []) dX7_parseStatement_207 kMX7_300 rfl (hmc221 (m := r316) w318) rfl rfl (Nat.le_of_ble_eq_true rfl) (d2 := 1) (by decide) (k2 := 0) (Nat.zero_le _) (u2 := 0) (Nat.zero_le _) (Nat.le_of_ble_eq_true rfl) (ctX7_fail (m := r316) w318 1 ) (fun v331 h332 q333 => ?_)
            obtain ⟨r334, e335, rfl, w336⟩ := q333
            have hs := bnd_p e335 hs
            refine am_aload_n dX7_parseStatement_210 0 rfl ?_
            obtain ⟨i337, hs⟩ := hs
            refine am_callV (As := []) (rest := []) dX7_parseStatement_211 kMX7_303 rfl (hmc221 (m := r334) w336) rfl rfl (Nat.le_of_ble_eq_true rfl) (d2 := 2) (by decide) (k2 := 0) (Nat.zero_le _) (u2 := 0) (Nat.zero_le _) (Nat.le_of_ble_eq_true rfl) (ctX7_goOn (m := r334) w336  i337) (fun v338 h339 q340 => ?_)
            obtain ⟨r341, e342, rfl, w343⟩ := q340
            have hs := bnd_p e342 hs
            exact am_return dX7_parseStatement_214 rfl ⟨_, ifp c5 (ifp c10 (ifn c15 (bnd_eq e305 (bnd_eq e312 (bnd_eq e317 (ifn c322 (ifn c330 (bnd_eq e335 (bnd_eq e342 (rfl)))))))))), rfl, w343⟩
          · have hs := hs.1 c330
            refine am_aload_n dX7_parseStatement_196 0 rfl ?_
            refine am_get (v := .int (r316.1 8)) dX7_parseStatement_197 kGX7_256 (hmc221 (m := r316) w318) rfl ?_
            refine am_bipush (v := 59) dX7_parseStatement_200 (by decide) ?_
            refine am_icmp_eq dX7_parseStatement_202 (by decide : ((202 : Nat) : Int) + (8) = ((210 : Nat) : Int)) (fun c344 => ?_) (fun c344 => ?_)
            · have hs := hs.1 c344
              refine am_aload_n dX7_parseStatement_210 0 rfl ?_
              obtain ⟨i345, hs⟩ := hs
              refine am_callV (As := []) (rest := []) dX7_parseStatement_211 kMX7_303 rfl (hmc221 (m := r316) w318) rfl rfl (Nat.le_of_ble_eq_true rfl) (d2 := 2) (by decide) (k2 := 0) (Nat.zero_le _) (u2 := 0) (Nat.zero_le _) (Nat.le_of_ble_eq_true rfl) (ctX7_goOn (m := r316) w318  i345) (fun v346 h347 q348 => ?_)
              obtain ⟨r349, e350, rfl, w351⟩ := q348
              have hs := bnd_p e350 hs
              exact am_return dX7_parseStatement_214 rfl ⟨_, ifp c5 (ifp c10 (ifn c15 (bnd_eq e305 (bnd_eq e312 (bnd_eq e317 (ifn c322 (ifp c330 (ifp c344 (bnd_eq e350 (rfl)))))))))), rfl, w351⟩
            · have hs := hs.2 c344
              refine am_aload_n dX7_parseStatement_205 0 rfl ?_
              refine am_iconst (v := 1) dX7_parseStatement_206 (by decide) ?_
              refine am_callV (As := [.int 1]) (rest := []) dX7_parseStatement_207 kMX7_300 rfl (hmc221 (m := r316) w318) rfl rfl (Nat.le_of_ble_eq_true rfl) (d2 := 1) (by decide) (k2 := 0) (Nat.zero_le _) (u2 := 0) (Nat.zero_le _) (Nat.le_of_ble_eq_true rfl) (ctX7_fail (m := r316) w318 1 ) (fun v352 h353 q354 => ?_)
              obtain ⟨r355, e356, rfl, w357⟩ := q354
              have hs := bnd_p e356 hs
              refine am_aload_n dX7_parseStatement_210 0 rfl ?_
              obtain ⟨i358, hs⟩ := hs
              refine am_callV (As := []) (rest := []) dX7_parseStatement_211 kMX7_303 rfl (hmc221 (m := r355) w357) rfl rfl (Nat.le_of_ble_eq_true rfl) (d2 := 2) (by decide) (k2 := 0) (Nat.zero_le _) (u2 := 0) (Nat.zero_le _) (Nat.le_of_ble_eq_true rfl) (ctX7_goOn (m := r355) w357  i358) (fun v359 h360 q361 => ?_)
              obtain ⟨r362, e363, rfl, w364⟩ := q361
              have hs := bnd_p e363 hs
              exact am_return dX7_parseStatement_214 rfl ⟨_, ifp c5 (ifp c10 (ifn c15 (bnd_eq e305 (bnd_eq e312 (bnd_eq e317 (ifn c322 (ifp c330 (ifn c344 (bnd_eq e356 (bnd_eq e363 (rfl))))))))))), rfl, w364⟩
    · have hs := hs.2 c10
      refine am_aload_n dX7_parseStatement_56 0 rfl ?_
      refine am_iconst (v := 1) dX7_parseStatement_57 (by decide) ?_
      obtain ⟨i365, hs⟩ := hs
      refine am_callV (As := [.int 1]) (rest := []) dX7_parseStatement_58 kMX7_343 rfl (hmc221 (m := m) hm) rfl rfl (Nat.le_of_ble_eq_true rfl) (d2 := 3) (by decide) (k2 := 0) (Nat.zero_le _) (u2 := 0) (Nat.zero_le _) (Nat.le_of_ble_eq_true rfl) (ctX7_once (m := m) hm 1 i365) (fun v366 h367 q368 => ?_)
      obtain ⟨r369, e370, rfl, w371⟩ := q368
      have hs := bnd_p e370 hs
      refine am_aload_n dX7_parseStatement_61 0 rfl ?_
      refine am_get (v := .ref (gz G + (222 + (r369.2.2)))) dX7_parseStatement_62 kGX7_23 (hmc221 (m := r369) w371) rfl ?_
      refine am_iconst (v := 2) dX7_parseStatement_65 (by decide) ?_
      refine am_aload_n dX7_parseStatement_66 0 rfl ?_
      refine am_iconst (v := 0) dX7_parseStatement_67 (by decide) ?_
      refine am_bipush (v := 100) dX7_parseStatement_68 (by decide) ?_
      obtain ⟨i372, hs⟩ := hs
      refine am_callV (As := [.int 0, .int 100]) (rest := [.int 2, .ref (gz G + (222 + (r369.2.2)))]) dX7_parseStatement_70 kMX7_322 rfl (hmc221 (m := r369) w371) rfl rfl (Nat.le_of_ble_eq_true rfl) (d2 := 3) (by decide) (k2 := 0) (Nat.zero_le _) (u2 := 0) (Nat.zero_le _) (Nat.le_of_ble_eq_true rfl) (ctX7_number (m := r369) w371 0 100 i372) (fun v373 h374 q375 => ?_)
      obtain ⟨r376, e377, rfl, w378⟩ := q375
      have hs := bnd_p e377 hs
      obtain ⟨i379, hs⟩ := hs
      refine am_iast (f := (r376.2.2.1 (r369.2.2))) dX7_parseStatement_73 (hmNe (m := r376.2) w378 i379) (vp_lit (by decide)) ?_
      rw [tl2]
      have w380 := hmNwe w378 i379 (upd (r376.2.2.1 (r369.2.2)) 2 r376.1)
      obtain ⟨r381, e382⟩ : ∃ x, (mA r376.2 (r369.2.2) (upd (r376.2.2.1 (r369.2.2)) 2 r376.1)) = x := ⟨_, rfl⟩
      have w383 := hm_eq e382 w380
      have hs := bnd_p e382 hs
      refine am_goto dX7_parseStatement_74 (by decide : ((74 : Nat) : Int) + (107) = ((181 : Nat) : Int)) ?_
      refine am_aload_n dX7_parseStatement_181 0 rfl ?_
      refine am_callV (As := []) (rest := []) dX7_parseStatement_182 kMX7_229 rfl (hmc221 (m := r381) w383) rfl rfl (Nat.le_of_ble_eq_true rfl) (d2 := 0) (by decide) (k2 := 0) (Nat.zero_le _) (u2 := 0) (Nat.zero_le _) (Nat.le_of_ble_eq_true rfl) (ctX7_good (m := r381) w383  ) (fun v384 h385 q386 => ?_)
      obtain ⟨rfl, rfl⟩ := q386
      refine am_if_eq dX7_parseStatement_185 (by decide : ((185 : Nat) : Int) + (25) = ((210 : Nat) : Int)) (fun c387 => ?_) (fun c387 => ?_)
      · have hs := hs.1 c387
        refine am_aload_n dX7_parseStatement_210 0 rfl ?_
        obtain ⟨i388, hs⟩ := hs
        refine am_callV (As := []) (rest := []) dX7_parseStatement_211 kMX7_303 rfl (hmc221 (m := r381) w383) rfl rfl (Nat.le_of_ble_eq_true rfl) (d2 := 2) (by decide) (k2 := 0) (Nat.zero_le _) (u2 := 0) (Nat.zero_le _) (Nat.le_of_ble_eq_true rfl) (ctX7_goOn (m := r381) w383  i388) (fun v389 h390 q391 => ?_)
        obtain ⟨r392, e393, rfl, w394⟩ := q391
        have hs := bnd_p e393 hs
        exact am_return dX7_parseStatement_214 rfl ⟨_, ifp c5 (ifn c10 (bnd_eq e370 (bnd_eq e377 (bnd_eq e382 (ifp c387 (bnd_eq e393 (rfl))))))), rfl, w394⟩
      · have hs := hs.2 c387
        refine am_aload_n dX7_parseStatement_188 0 rfl ?_
        refine am_get (v := .int (r381.1 7)) dX7_parseStatement_189 kGX7_245 (hmc221 (m := r381) w383) rfl ?_
        refine am_iconst (v := 3) dX7_parseStatement_192 (by decide) ?_
        refine am_icmp_ne dX7_parseStatement_193 (by decide : ((193 : Nat) : Int) + (12) = ((205 : Nat) : Int)) (fun c395 => ?_) (fun c395 => ?_)
        · have hs := hs.2 c395
          refine am_aload_n dX7_parseStatement_205 0 rfl ?_
          refine am_iconst (v := 1) dX7_parseStatement_206 (by decide) ?_
          refine am_callV (As := [.int 1]) (rest := []) dX7_parseStatement_207 kMX7_300 rfl (hmc221 (m := r381) w383) rfl rfl (Nat.le_of_ble_eq_true rfl) (d2 := 1) (by decide) (k2 := 0) (Nat.zero_le _) (u2 := 0) (Nat.zero_le _) (Nat.le_of_ble_eq_true rfl) (ctX7_fail (m := r381) w383 1 ) (fun v396 h397 q398 => ?_)
          obtain ⟨r399, e400, rfl, w401⟩ := q398
          have hs := bnd_p e400 hs
          refine am_aload_n dX7_parseStatement_210 0 rfl ?_
          obtain ⟨i402, hs⟩ := hs
          refine am_callV (As := []) (rest := []) dX7_parseStatement_211 kMX7_303 rfl (hmc221 (m := r399) w401) rfl rfl (Nat.le_of_ble_eq_true rfl) (d2 := 2) (by decide) (k2 := 0) (Nat.zero_le _) (u2 := 0) (Nat.zero_le _) (Nat.le_of_ble_eq_true rfl) (ctX7_goOn (m := r399) w401  i402) (fun v403 h404 q405 => ?_)
          obtain ⟨r406, e407, rfl, w408⟩ := q405
          have hs := bnd_p e407 hs
          exact am_return dX7_parseStatement_214 rfl ⟨_, ifp c5 (ifn c10 (bnd_eq e370 (bnd_eq e377 (bnd_eq e382 (ifn c387 (ifn c395 (bnd_eq e400 (bnd_eq e407 (rfl))))))))), rfl, w408⟩
        · have hs := hs.1 c395
          refine am_aload_n dX7_parseStatement_196 0 rfl ?_
          refine am_get (v := .int (r381.1 8)) dX7_parseStatement_197 kGX7_256 (hmc221 (m := r381) w383) rfl ?_
          refine am_bipush (v := 59) dX7_parseStatement_200 (by decide) ?_
          refine am_icmp_eq dX7_parseStatement_202 (by decide : ((202 : Nat) : Int) + (8) = ((210 : Nat) : Int)) (fun c409 => ?_) (fun c409 => ?_)
          · have hs := hs.1 c409
            refine am_aload_n dX7_parseStatement_210 0 rfl ?_
            obtain ⟨i410, hs⟩ := hs
            refine am_callV (As := []) (rest := []) dX7_parseStatement_211 kMX7_303 rfl (hmc221 (m := r381) w383) rfl rfl (Nat.le_of_ble_eq_true rfl) (d2 := 2) (by decide) (k2 := 0) (Nat.zero_le _) (u2 := 0) (Nat.zero_le _) (Nat.le_of_ble_eq_true rfl) (ctX7_goOn (m := r381) w383  i410) (fun v411 h412 q413 => ?_)
            obtain ⟨r414, e415, rfl, w416⟩ := q413
            have hs := bnd_p e415 hs
            exact am_return dX7_parseStatement_214 rfl ⟨_, ifp c5 (ifn c10 (bnd_eq e370 (bnd_eq e377 (bnd_eq e382 (ifn c387 (ifp c395 (ifp c409 (bnd_eq e415 (rfl))))))))), rfl, w416⟩
          · have hs := hs.2 c409
            refine am_aload_n dX7_parseStatement_205 0 rfl ?_
            refine am_iconst (v := 1) dX7_parseStatement_206 (by decide) ?_
            refine am_callV (As := [.int 1]) (rest := []) dX7_parseStatement_207 kMX7_300 rfl (hmc221 (m := r381) w383) rfl rfl (Nat.le_of_ble_eq_true rfl) (d2 := 1) (by decide) (k2 := 0) (Nat.zero_le _) (u2 := 0) (Nat.zero_le _) (Nat.le_of_ble_eq_true rfl) (ctX7_fail (m := r381) w383 1 ) (fun v417 h418 q419 => ?_)
            obtain ⟨r420, e421, rfl, w422⟩ := q419
            have hs := bnd_p e421 hs
            refine am_aload_n dX7_parseStatement_210 0 rfl ?_
            obtain ⟨i423, hs⟩ := hs
            refine am_callV (As := []) (rest := []) dX7_parseStatement_211 kMX7_303 rfl (hmc221 (m := r420) w422) rfl rfl (Nat.le_of_ble_eq_true rfl) (d2 := 2) (by decide) (k2 := 0) (Nat.zero_le _) (u2 := 0) (Nat.zero_le _) (Nat.le_of_ble_eq_true rfl) (ctX7_goOn (m := r420) w422  i423) (fun v424 h425 q426 => ?_)
            obtain ⟨r427, e428, rfl, w429⟩ := q426
            have hs := bnd_p e428 hs
            exact am_return dX7_parseStatement_214 rfl ⟨_, ifp c5 (ifn c10 (bnd_eq e370 (bnd_eq e377 (bnd_eq e382 (ifn c387 (ifp c395 (ifn c409 (bnd_eq e421 (bnd_eq e428 (rfl)))))))))), rfl, w429⟩
  · have hs := hs.2 c5
    refine am_aload_n dX7_parseStatement_10 0 rfl ?_
    refine am_iconst (v := 0) dX7_parseStatement_11 (by decide) ?_
    obtain ⟨i430, hs⟩ := hs
    refine am_callV (As := [.int 0]) (rest := []) dX7_parseStatement_12 kMX7_343 rfl (hmc221 (m := m) hm) rfl rfl (Nat.le_of_ble_eq_true rfl) (d2 := 3) (by decide) (k2 := 0) (Nat.zero_le _) (u2 := 0) (Nat.zero_le _) (Nat.le_of_ble_eq_true rfl) (ctX7_once (m := m) hm 0 i430) (fun v431 h432 q433 => ?_)
    obtain ⟨r434, e435, rfl, w436⟩ := q433
    have hs := bnd_p e435 hs
    refine am_aload_n dX7_parseStatement_15 0 rfl ?_
    refine am_get (v := .ref (gz G + (222 + (r434.2.2)))) dX7_parseStatement_16 kGX7_23 (hmc221 (m := r434) w436) rfl ?_
    refine am_iconst (v := 0) dX7_parseStatement_19 (by decide) ?_
    refine am_aload_n dX7_parseStatement_20 0 rfl ?_
    refine am_iconst (v := 0) dX7_parseStatement_21 (by decide) ?_
    refine am_sipush (v := 500) dX7_parseStatement_22 (by decide) ?_
    obtain ⟨i437, hs⟩ := hs
    refine am_callV (As := [.int 0, .int 500]) (rest := [.int 0, .ref (gz G + (222 + (r434.2.2)))]) dX7_parseStatement_25 kMX7_322 rfl (hmc221 (m := r434) w436) rfl rfl (Nat.le_of_ble_eq_true rfl) (d2 := 3) (by decide) (k2 := 0) (Nat.zero_le _) (u2 := 0) (Nat.zero_le _) (Nat.le_of_ble_eq_true rfl) (ctX7_number (m := r434) w436 0 500 i437) (fun v438 h439 q440 => ?_)
    obtain ⟨r441, e442, rfl, w443⟩ := q440
    have hs := bnd_p e442 hs
    obtain ⟨i444, hs⟩ := hs
    refine am_iast (f := (r441.2.2.1 (r434.2.2))) dX7_parseStatement_28 (hmNe (m := r441.2) w443 i444) (vp_lit (by decide)) ?_
    rw [tl0]
    have w445 := hmNwe w443 i444 (upd (r441.2.2.1 (r434.2.2)) 0 r441.1)
    obtain ⟨r446, e447⟩ : ∃ x, (mA r441.2 (r434.2.2) (upd (r441.2.2.1 (r434.2.2)) 0 r441.1)) = x := ⟨_, rfl⟩
    have w448 := hm_eq e447 w445
    have hs := bnd_p e447 hs
    refine am_aload_n dX7_parseStatement_29 0 rfl ?_
    refine am_get (v := .ref (gz G + (222 + (r446.2.2)))) dX7_parseStatement_30 kGX7_23 (hmc221 (m := r446) w448) rfl ?_
    refine am_iconst (v := 1) dX7_parseStatement_33 (by decide) ?_
    refine am_aload_n dX7_parseStatement_34 0 rfl ?_
    refine am_iconst (v := 0) dX7_parseStatement_35 (by decide) ?_
    refine am_sipush (v := 255) dX7_parseStatement_36 (by decide) ?_
    obtain ⟨i449, hs⟩ := hs
    refine am_callV (As := [.int 0, .int 255]) (rest := [.int 1, .ref (gz G + (222 + (r446.2.2)))]) dX7_parseStatement_39 kMX7_322 rfl (hmc221 (m := r446) w448) rfl rfl (Nat.le_of_ble_eq_true rfl) (d2 := 3) (by decide) (k2 := 0) (Nat.zero_le _) (u2 := 0) (Nat.zero_le _) (Nat.le_of_ble_eq_true rfl) (ctX7_number (m := r446) w448 0 255 i449) (fun v450 h451 q452 => ?_)
    obtain ⟨r453, e454, rfl, w455⟩ := q452
    have hs := bnd_p e454 hs
    obtain ⟨i456, hs⟩ := hs
    refine am_iast (f := (r453.2.2.1 (r446.2.2))) dX7_parseStatement_42 (hmNe (m := r453.2) w455 i456) (vp_lit (by decide)) ?_
    rw [tl1]
    have w457 := hmNwe w455 i456 (upd (r453.2.2.1 (r446.2.2)) 1 r453.1)
    obtain ⟨r458, e459⟩ : ∃ x, (mA r453.2 (r446.2.2) (upd (r453.2.2.1 (r446.2.2)) 1 r453.1)) = x := ⟨_, rfl⟩
    have w460 := hm_eq e459 w457
    have hs := bnd_p e459 hs
    refine am_goto dX7_parseStatement_43 (by decide : ((43 : Nat) : Int) + (138) = ((181 : Nat) : Int)) ?_
    refine am_aload_n dX7_parseStatement_181 0 rfl ?_
    refine am_callV (As := []) (rest := []) dX7_parseStatement_182 kMX7_229 rfl (hmc221 (m := r458) w460) rfl rfl (Nat.le_of_ble_eq_true rfl) (d2 := 0) (by decide) (k2 := 0) (Nat.zero_le _) (u2 := 0) (Nat.zero_le _) (Nat.le_of_ble_eq_true rfl) (ctX7_good (m := r458) w460  ) (fun v461 h462 q463 => ?_)
    obtain ⟨rfl, rfl⟩ := q463
    refine am_if_eq dX7_parseStatement_185 (by decide : ((185 : Nat) : Int) + (25) = ((210 : Nat) : Int)) (fun c464 => ?_) (fun c464 => ?_)
    · have hs := hs.1 c464
      refine am_aload_n dX7_parseStatement_210 0 rfl ?_
      obtain ⟨i465, hs⟩ := hs
      refine am_callV (As := []) (rest := []) dX7_parseStatement_211 kMX7_303 rfl (hmc221 (m := r458) w460) rfl rfl (Nat.le_of_ble_eq_true rfl) (d2 := 2) (by decide) (k2 := 0) (Nat.zero_le _) (u2 := 0) (Nat.zero_le _) (Nat.le_of_ble_eq_true rfl) (ctX7_goOn (m := r458) w460  i465) (fun v466 h467 q468 => ?_)
      obtain ⟨r469, e470, rfl, w471⟩ := q468
      have hs := bnd_p e470 hs
      exact am_return dX7_parseStatement_214 rfl ⟨_, ifn c5 (bnd_eq e435 (bnd_eq e442 (bnd_eq e447 (bnd_eq e454 (bnd_eq e459 (ifp c464 (bnd_eq e470 (rfl)))))))), rfl, w471⟩
    · have hs := hs.2 c464
      refine am_aload_n dX7_parseStatement_188 0 rfl ?_
      refine am_get (v := .int (r458.1 7)) dX7_parseStatement_189 kGX7_245 (hmc221 (m := r458) w460) rfl ?_
      refine am_iconst (v := 3) dX7_parseStatement_192 (by decide) ?_
      refine am_icmp_ne dX7_parseStatement_193 (by decide : ((193 : Nat) : Int) + (12) = ((205 : Nat) : Int)) (fun c472 => ?_) (fun c472 => ?_)
      · have hs := hs.2 c472
        refine am_aload_n dX7_parseStatement_205 0 rfl ?_
        refine am_iconst (v := 1) dX7_parseStatement_206 (by decide) ?_
        refine am_callV (As := [.int 1]) (rest := []) dX7_parseStatement_207 kMX7_300 rfl (hmc221 (m := r458) w460) rfl rfl (Nat.le_of_ble_eq_true rfl) (d2 := 1) (by decide) (k2 := 0) (Nat.zero_le _) (u2 := 0) (Nat.zero_le _) (Nat.le_of_ble_eq_true rfl) (ctX7_fail (m := r458) w460 1 ) (fun v473 h474 q475 => ?_)
        obtain ⟨r476, e477, rfl, w478⟩ := q475
        have hs := bnd_p e477 hs
        refine am_aload_n dX7_parseStatement_210 0 rfl ?_
        obtain ⟨i479, hs⟩ := hs
        refine am_callV (As := []) (rest := []) dX7_parseStatement_211 kMX7_303 rfl (hmc221 (m := r476) w478) rfl rfl (Nat.le_of_ble_eq_true rfl) (d2 := 2) (by decide) (k2 := 0) (Nat.zero_le _) (u2 := 0) (Nat.zero_le _) (Nat.le_of_ble_eq_true rfl) (ctX7_goOn (m := r476) w478  i479) (fun v480 h481 q482 => ?_)
        obtain ⟨r483, e484, rfl, w485⟩ := q482
        have hs := bnd_p e484 hs
        exact am_return dX7_parseStatement_214 rfl ⟨_, ifn c5 (bnd_eq e435 (bnd_eq e442 (bnd_eq e447 (bnd_eq e454 (bnd_eq e459 (ifn c464 (ifn c472 (bnd_eq e477 (bnd_eq e484 (rfl)))))))))), rfl, w485⟩
      · have hs := hs.1 c472
        refine am_aload_n dX7_parseStatement_196 0 rfl ?_
        refine am_get (v := .int (r458.1 8)) dX7_parseStatement_197 kGX7_256 (hmc221 (m := r458) w460) rfl ?_
        refine am_bipush (v := 59) dX7_parseStatement_200 (by decide) ?_
        refine am_icmp_eq dX7_parseStatement_202 (by decide : ((202 : Nat) : Int) + (8) = ((210 : Nat) : Int)) (fun c486 => ?_) (fun c486 => ?_)
        · have hs := hs.1 c486
          refine am_aload_n dX7_parseStatement_210 0 rfl ?_
          obtain ⟨i487, hs⟩ := hs
          refine am_callV (As := []) (rest := []) dX7_parseStatement_211 kMX7_303 rfl (hmc221 (m := r458) w460) rfl rfl (Nat.le_of_ble_eq_true rfl) (d2 := 2) (by decide) (k2 := 0) (Nat.zero_le _) (u2 := 0) (Nat.zero_le _) (Nat.le_of_ble_eq_true rfl) (ctX7_goOn (m := r458) w460  i487) (fun v488 h489 q490 => ?_)
          obtain ⟨r491, e492, rfl, w493⟩ := q490
          have hs := bnd_p e492 hs
          exact am_return dX7_parseStatement_214 rfl ⟨_, ifn c5 (bnd_eq e435 (bnd_eq e442 (bnd_eq e447 (bnd_eq e454 (bnd_eq e459 (ifn c464 (ifp c472 (ifp c486 (bnd_eq e492 (rfl)))))))))), rfl, w493⟩
        · have hs := hs.2 c486
          refine am_aload_n dX7_parseStatement_205 0 rfl ?_
          refine am_iconst (v := 1) dX7_parseStatement_206 (by decide) ?_
          refine am_callV (As := [.int 1]) (rest := []) dX7_parseStatement_207 kMX7_300 rfl (hmc221 (m := r458) w460) rfl rfl (Nat.le_of_ble_eq_true rfl) (d2 := 1) (by decide) (k2 := 0) (Nat.zero_le _) (u2 := 0) (Nat.zero_le _) (Nat.le_of_ble_eq_true rfl) (ctX7_fail (m := r458) w460 1 ) (fun v494 h495 q496 => ?_)
          obtain ⟨r497, e498, rfl, w499⟩ := q496
          have hs := bnd_p e498 hs
          refine am_aload_n dX7_parseStatement_210 0 rfl ?_
          obtain ⟨i500, hs⟩ := hs
          refine am_callV (As := []) (rest := []) dX7_parseStatement_211 kMX7_303 rfl (hmc221 (m := r497) w499) rfl rfl (Nat.le_of_ble_eq_true rfl) (d2 := 2) (by decide) (k2 := 0) (Nat.zero_le _) (u2 := 0) (Nat.zero_le _) (Nat.le_of_ble_eq_true rfl) (ctX7_goOn (m := r497) w499  i500) (fun v501 h502 q503 => ?_)
          obtain ⟨r504, e505, rfl, w506⟩ := q503
          have hs := bnd_p e505 hs
          exact am_return dX7_parseStatement_214 rfl ⟨_, ifn c5 (bnd_eq e435 (bnd_eq e442 (bnd_eq e447 (bnd_eq e454 (bnd_eq e459 (ifn c464 (ifp c472 (ifn c486 (bnd_eq e498 (bnd_eq e505 (rfl))))))))))), rfl, w506⟩

theorem dX7_clear_0 : decode cX7_clear 0 = .ok (.iconst 0, 1) := by decide +kernel
theorem dX7_clear_1 : decode cX7_clear 1 = .ok (.istore_n 1, 1) := by decide +kernel
theorem dX7_clear_2 : decode cX7_clear 2 = .ok (.iload_n 1, 1) := by decide +kernel
theorem dX7_clear_3 : decode cX7_clear 3 = .ok (.sipush 146, 3) := by decide +kernel
theorem dX7_clear_6 : decode cX7_clear 6 = .ok (.if_icmp .ge 13, 3) := by decide +kernel
theorem dX7_clear_9 : decode cX7_clear 9 = .ok (.aload_n 0, 1) := by decide +kernel
theorem dX7_clear_10 : decode cX7_clear 10 = .ok (.iload_n 1, 1) := by decide +kernel
theorem dX7_clear_11 : decode cX7_clear 11 = .ok (.iconst 0, 1) := by decide +kernel
theorem dX7_clear_12 : decode cX7_clear 12 = .ok (.iastore, 1) := by decide +kernel
theorem dX7_clear_13 : decode cX7_clear 13 = .ok (.iinc 1 1, 3) := by decide +kernel
theorem dX7_clear_16 : decode cX7_clear 16 = .ok (.goto (-14), 3) := by decide +kernel
theorem dX7_clear_19 : decode cX7_clear 19 = .ok (.aload_n 0, 1) := by decide +kernel
theorem dX7_clear_20 : decode cX7_clear 20 = .ok (.iconst 0, 1) := by decide +kernel
theorem dX7_clear_21 : decode cX7_clear 21 = .ok (.bipush 30, 2) := by decide +kernel
theorem dX7_clear_23 : decode cX7_clear 23 = .ok (.iastore, 1) := by decide +kernel
theorem dX7_clear_24 : decode cX7_clear 24 = .ok (.aload_n 0, 1) := by decide +kernel
theorem dX7_clear_25 : decode cX7_clear 25 = .ok (.iconst 1, 1) := by decide +kernel
theorem dX7_clear_26 : decode cX7_clear 26 = .ok (.bipush 6, 2) := by decide +kernel
theorem dX7_clear_28 : decode cX7_clear 28 = .ok (.iastore, 1) := by decide +kernel
theorem dX7_clear_29 : decode cX7_clear 29 = .ok (.aload_n 0, 1) := by decide +kernel
theorem dX7_clear_30 : decode cX7_clear 30 = .ok (.iconst 2, 1) := by decide +kernel
theorem dX7_clear_31 : decode cX7_clear 31 = .ok (.bipush 60, 2) := by decide +kernel
theorem dX7_clear_33 : decode cX7_clear 33 = .ok (.iastore, 1) := by decide +kernel
theorem dX7_clear_34 : decode cX7_clear 34 = .ok (.aload_n 0, 1) := by decide +kernel
theorem dX7_clear_35 : decode cX7_clear 35 = .ok (.iconst 3, 1) := by decide +kernel
theorem dX7_clear_36 : decode cX7_clear 36 = .ok (.iconst 2, 1) := by decide +kernel
theorem dX7_clear_37 : decode cX7_clear 37 = .ok (.iastore, 1) := by decide +kernel
theorem dX7_clear_38 : decode cX7_clear 38 = .ok (.return_, 1) := by decide +kernel
def fX7_clear_223_2   : Nat → Int32 → Md → Int32 × Md
  | 0, x1, y => (x1, y)
  | fu + 1, x1, y => (if 146 ≤ x1 then (x1, y) else (bnd (mA y 1 (upd (y.2.1 1) x1.toNatClampNeg 0)) (fun r4 => (fX7_clear_223_2    fu (x1 + 1) r4))))
def sX7_clear_223_2   : Nat → Int32 → Md → Prop
  | 0, _, _ => True
  | fu + 1, x1, y => ((146 ≤ x1 → True) ∧ (¬ 146 ≤ x1 → (vp_in x1 146 ∧ (bnd (mA y 1 (upd (y.2.1 1) x1.toNatClampNeg 0)) (fun r4 => (sX7_clear_223_2    fu (x1 + 1) r4))))))
set_option maxRecDepth 20000 in
theorem wX7_clear_223_2 {l : Launch} {G : GM} {K : Nat → Option va_E}    {Q : Option Value → List va_E → Prop} : ∀ (fu : Nat) (x1 : Int32) (y : Md) (iv : ivU 146 x1 fu) (hs : sX7_clear_223_2    fu x1 y) {h : List va_E} (gy : HM G K h y) (kx : ∀ (h1 : List va_E) (r : Int32 × Md), (fX7_clear_223_2    fu x1 y) = r → HM G K h1 r.2 → Tr l G mX7_clear 0 0 0 19 [(1, .int r.1), (0, .ref (gz G + 223))] [] h1 Q), Tr l G mX7_clear 0 0 0 2 [(1, .int x1), (0, .ref (gz G + 223))] [] h Q := by
  intro fu
  induction fu with
  | zero => intro x1 y iv; intros; exact absurd iv ivU_0
  | succ fu ih =>
    intro x1 y iv hs  h gy  kx
    rw [sX7_clear_223_2] at hs
    refine am_iload_n dX7_clear_2 0 rfl ?_
    refine am_sipush (v := 146) dX7_clear_3 (by decide) ?_
    refine am_icmp_ge dX7_clear_6 (by decide : ((6 : Nat) : Int) + (13) = ((19 : Nat) : Int)) (fun c1 => ?_) (fun c1 => ?_)
    · have hs := hs.1 c1
      exact kx _ _ (ifp c1 (rfl)) gy 
    · have hs := hs.2 c1
      refine am_aload_n dX7_clear_9 1 rfl ?_
      refine am_iload_n dX7_clear_10 0 rfl ?_
      refine am_iconst (v := 0) dX7_clear_11 (by decide) ?_
      obtain ⟨i2, hs⟩ := hs
      refine am_iast (f := (y.2.1 1)) dX7_clear_12 (hmc223 (m := y) gy) i2 ?_
      have w3 := hmA1 gy (upd (y.2.1 1) x1.toNatClampNeg 0)
      obtain ⟨r4, e5⟩ : ∃ x, (mA y 1 (upd (y.2.1 1) x1.toNatClampNeg 0)) = x := ⟨_, rfl⟩
      have w6 := hm_eq e5 w3
      have hs := bnd_p e5 hs
      refine am_iinc (v := (x1 + 1)) dX7_clear_13 0 rfl rfl (by decide) (lv' := [(1, .int (x1 + 1)), (0, .ref (gz G + 223))]) rfl ?_
      refine am_goto dX7_clear_16 (by decide : ((16 : Nat) : Int) + (-14) = ((2 : Nat) : Int)) ?_
      exact ih (x1 + 1) r4 (ivU_s c1 iv) hs w6  (fun h1 r e => kx h1 r (Eq.trans (ifn c1 (bnd_eq e5 (rfl))) e))
def fX7_clear_223 (m : Md)  : Md := (bnd (fX7_clear_223_2    (fuU 146 0) 0 m) (fun r8 => (bnd (mA r8.2 1 (upd (r8.2.2.1 1) 0 30)) (fun r13 => (bnd (mA r13 1 (upd (r13.2.1 1) 1 6)) (fun r17 => (bnd (mA r17 1 (upd (r17.2.1 1) 2 60)) (fun r21 => (bnd (mA r21 1 (upd (r21.2.1 1) 3 2)) (fun r25 => r25))))))))))
def sX7_clear_223 (m : Md)  : Prop := ((sX7_clear_223_2    (fuU 146 0) 0 m) ∧ bnd (fX7_clear_223_2    (fuU 146 0) 0 m) (fun r8 => (bnd (mA r8.2 1 (upd (r8.2.2.1 1) 0 30)) (fun r13 => (bnd (mA r13 1 (upd (r13.2.1 1) 1 6)) (fun r17 => (bnd (mA r17 1 (upd (r17.2.1 1) 2 60)) (fun r21 => (bnd (mA r21 1 (upd (r21.2.1 1) 3 2)) (fun r25 => True))))))))))
set_option maxRecDepth 20000 in
theorem ctX7_clear_223 {l : Launch} {G : GM} {K : Nat → Option va_E} {h : List va_E} {m : Md} (hm : HM G K h m)  (hs : sX7_clear_223 m ) : Ct l G mX7_clear 0 0 0 [.ref (gz G + 223)] h (fun v h1 => ∃ r, (fX7_clear_223 m ) = r ∧ v = none ∧ HM G K h1 r) := by
  show Tr l G mX7_clear 0 0 0 0 [(0, .ref (gz G + 223))] [] h _
  unfold sX7_clear_223 at hs
  refine am_iconst (v := 0) dX7_clear_0 (by decide) ?_
  refine am_istore_n dX7_clear_1 (by decide) (lv' := [(1, .int 0), (0, .ref (gz G + 223))]) rfl ?_
  obtain ⟨i7, hs⟩ := hs
  refine wX7_clear_223_2    (fuU 146 0) 0 m ivU_i i7 hm  (fun h10 r8 e9 w11  => ?_)
  have hs := bnd_p e9 hs
  refine am_aload_n dX7_clear_19 1 rfl ?_
  refine am_iconst (v := 0) dX7_clear_20 (by decide) ?_
  refine am_bipush (v := 30) dX7_clear_21 (by decide) ?_
  refine am_iast (f := (r8.2.2.1 1)) dX7_clear_23 (hmc223 (m := r8.2) w11) (vp_lit (by decide)) ?_
  rw [tl0]
  have w12 := hmA1 w11 (upd (r8.2.2.1 1) 0 30)
  obtain ⟨r13, e14⟩ : ∃ x, (mA r8.2 1 (upd (r8.2.2.1 1) 0 30)) = x := ⟨_, rfl⟩
  have w15 := hm_eq e14 w12
  have hs := bnd_p e14 hs
  refine am_aload_n dX7_clear_24 1 rfl ?_
  refine am_iconst (v := 1) dX7_clear_25 (by decide) ?_
  refine am_bipush (v := 6) dX7_clear_26 (by decide) ?_
  refine am_iast (f := (r13.2.1 1)) dX7_clear_28 (hmc223 (m := r13) w15) (vp_lit (by decide)) ?_
  rw [tl1]
  have w16 := hmA1 w15 (upd (r13.2.1 1) 1 6)
  obtain ⟨r17, e18⟩ : ∃ x, (mA r13 1 (upd (r13.2.1 1) 1 6)) = x := ⟨_, rfl⟩
  have w19 := hm_eq e18 w16
  have hs := bnd_p e18 hs
  refine am_aload_n dX7_clear_29 1 rfl ?_
  refine am_iconst (v := 2) dX7_clear_30 (by decide) ?_
  refine am_bipush (v := 60) dX7_clear_31 (by decide) ?_
  refine am_iast (f := (r17.2.1 1)) dX7_clear_33 (hmc223 (m := r17) w19) (vp_lit (by decide)) ?_
  rw [tl2]
  have w20 := hmA1 w19 (upd (r17.2.1 1) 2 60)
  obtain ⟨r21, e22⟩ : ∃ x, (mA r17 1 (upd (r17.2.1 1) 2 60)) = x := ⟨_, rfl⟩
  have w23 := hm_eq e22 w20
  have hs := bnd_p e22 hs
  refine am_aload_n dX7_clear_34 1 rfl ?_
  refine am_iconst (v := 3) dX7_clear_35 (by decide) ?_
  refine am_iconst (v := 2) dX7_clear_36 (by decide) ?_
  refine am_iast (f := (r21.2.1 1)) dX7_clear_37 (hmc223 (m := r21) w23) (vp_lit (by decide)) ?_
  rw [tl3]
  have w24 := hmA1 w23 (upd (r21.2.1 1) 3 2)
  obtain ⟨r25, e26⟩ : ∃ x, (mA r21 1 (upd (r21.2.1 1) 3 2)) = x := ⟨_, rfl⟩
  have w27 := hm_eq e26 w24
  have hs := bnd_p e26 hs
  exact am_return dX7_clear_38 rfl ⟨_, bnd_eq e9 (bnd_eq e14 (bnd_eq e18 (bnd_eq e22 (bnd_eq e26 (rfl))))), rfl, w27⟩

theorem dX7_load_0 : decode cX7_load 0 = .ok (.aload_n 0, 1) := by decide +kernel
theorem dX7_load_1 : decode cX7_load 1 = .ok (.aload_n 0, 1) := by decide +kernel
theorem dX7_load_2 : decode cX7_load 2 = .ok (.getfield 219, 3) := by decide +kernel
theorem dX7_load_5 : decode cX7_load 5 = .ok (.putfield 236, 3) := by decide +kernel
theorem dX7_load_8 : decode cX7_load 8 = .ok (.aload_n 0, 1) := by decide +kernel
theorem dX7_load_9 : decode cX7_load 9 = .ok (.iconst 0, 1) := by decide +kernel
theorem dX7_load_10 : decode cX7_load 10 = .ok (.putfield 219, 3) := by decide +kernel
theorem dX7_load_13 : decode cX7_load 13 = .ok (.aload_n 0, 1) := by decide +kernel
theorem dX7_load_14 : decode cX7_load 14 = .ok (.iconst 0, 1) := by decide +kernel
theorem dX7_load_15 : decode cX7_load 15 = .ok (.putfield 239, 3) := by decide +kernel
theorem dX7_load_18 : decode cX7_load 18 = .ok (.aload_n 0, 1) := by decide +kernel
theorem dX7_load_19 : decode cX7_load 19 = .ok (.iconst 0, 1) := by decide +kernel
theorem dX7_load_20 : decode cX7_load 20 = .ok (.putfield 226, 3) := by decide +kernel
theorem dX7_load_23 : decode cX7_load 23 = .ok (.aload_n 0, 1) := by decide +kernel
theorem dX7_load_24 : decode cX7_load 24 = .ok (.iconst (-1), 1) := by decide +kernel
theorem dX7_load_25 : decode cX7_load 25 = .ok (.putfield 42, 3) := by decide +kernel
theorem dX7_load_28 : decode cX7_load 28 = .ok (.aload_n 0, 1) := by decide +kernel
theorem dX7_load_29 : decode cX7_load 29 = .ok (.iconst 0, 1) := by decide +kernel
theorem dX7_load_30 : decode cX7_load 30 = .ok (.putfield 319, 3) := by decide +kernel
theorem dX7_load_33 : decode cX7_load 33 = .ok (.aload_n 0, 1) := by decide +kernel
theorem dX7_load_34 : decode cX7_load 34 = .ok (.aload_n 0, 1) := by decide +kernel
theorem dX7_load_35 : decode cX7_load 35 = .ok (.getfield 17, 3) := by decide +kernel
theorem dX7_load_38 : decode cX7_load 38 = .ok (.putfield 23, 3) := by decide +kernel
theorem dX7_load_41 : decode cX7_load 41 = .ok (.aload_n 0, 1) := by decide +kernel
theorem dX7_load_42 : decode cX7_load 42 = .ok (.getfield 17, 3) := by decide +kernel
theorem dX7_load_45 : decode cX7_load 45 = .ok (.invokestatic 48, 3) := by decide +kernel
theorem dX7_load_48 : decode cX7_load 48 = .ok (.aload_n 0, 1) := by decide +kernel
theorem dX7_load_49 : decode cX7_load 49 = .ok (.invokevirtual 260, 3) := by decide +kernel
theorem dX7_load_52 : decode cX7_load 52 = .ok (.aload_n 0, 1) := by decide +kernel
theorem dX7_load_53 : decode cX7_load 53 = .ok (.invokevirtual 229, 3) := by decide +kernel
theorem dX7_load_56 : decode cX7_load 56 = .ok (.ifCond .eq 17, 3) := by decide +kernel
theorem dX7_load_59 : decode cX7_load 59 = .ok (.aload_n 0, 1) := by decide +kernel
theorem dX7_load_60 : decode cX7_load 60 = .ok (.getfield 245, 3) := by decide +kernel
theorem dX7_load_63 : decode cX7_load 63 = .ok (.ifCond .eq 10, 3) := by decide +kernel
theorem dX7_load_66 : decode cX7_load 66 = .ok (.aload_n 0, 1) := by decide +kernel
theorem dX7_load_67 : decode cX7_load 67 = .ok (.invokevirtual 358, 3) := by decide +kernel
theorem dX7_load_70 : decode cX7_load 70 = .ok (.goto (-18), 3) := by decide +kernel
theorem dX7_load_73 : decode cX7_load 73 = .ok (.aload_n 0, 1) := by decide +kernel
theorem dX7_load_74 : decode cX7_load 74 = .ok (.aload_n 0, 1) := by decide +kernel
theorem dX7_load_75 : decode cX7_load 75 = .ok (.getfield 13, 3) := by decide +kernel
theorem dX7_load_78 : decode cX7_load 78 = .ok (.putfield 23, 3) := by decide +kernel
theorem dX7_load_81 : decode cX7_load 81 = .ok (.aload_n 0, 1) := by decide +kernel
theorem dX7_load_82 : decode cX7_load 82 = .ok (.invokevirtual 229, 3) := by decide +kernel
theorem dX7_load_85 : decode cX7_load 85 = .ok (.ifCond .ne 6, 3) := by decide +kernel
theorem dX7_load_88 : decode cX7_load 88 = .ok (.bipush (-4), 2) := by decide +kernel
theorem dX7_load_90 : decode cX7_load 90 = .ok (.ireturn, 1) := by decide +kernel
theorem dX7_load_91 : decode cX7_load 91 = .ok (.aload_n 0, 1) := by decide +kernel
theorem dX7_load_92 : decode cX7_load 92 = .ok (.invokevirtual 209, 3) := by decide +kernel
theorem dX7_load_95 : decode cX7_load 95 = .ok (.iconst 0, 1) := by decide +kernel
theorem dX7_load_96 : decode cX7_load 96 = .ok (.istore_n 1, 1) := by decide +kernel
theorem dX7_load_97 : decode cX7_load 97 = .ok (.iload_n 1, 1) := by decide +kernel
theorem dX7_load_98 : decode cX7_load 98 = .ok (.sipush 146, 3) := by decide +kernel
theorem dX7_load_101 : decode cX7_load 101 = .ok (.if_icmp .ge 21, 3) := by decide +kernel
theorem dX7_load_104 : decode cX7_load 104 = .ok (.aload_n 0, 1) := by decide +kernel
theorem dX7_load_105 : decode cX7_load 105 = .ok (.getfield 13, 3) := by decide +kernel
theorem dX7_load_108 : decode cX7_load 108 = .ok (.iload_n 1, 1) := by decide +kernel
theorem dX7_load_109 : decode cX7_load 109 = .ok (.aload_n 0, 1) := by decide +kernel
theorem dX7_load_110 : decode cX7_load 110 = .ok (.getfield 17, 3) := by decide +kernel
theorem dX7_load_113 : decode cX7_load 113 = .ok (.iload_n 1, 1) := by decide +kernel
theorem dX7_load_114 : decode cX7_load 114 = .ok (.iaload, 1) := by decide +kernel
theorem dX7_load_115 : decode cX7_load 115 = .ok (.iastore, 1) := by decide +kernel
theorem dX7_load_116 : decode cX7_load 116 = .ok (.iinc 1 1, 3) := by decide +kernel
theorem dX7_load_119 : decode cX7_load 119 = .ok (.goto (-22), 3) := by decide +kernel
theorem dX7_load_122 : decode cX7_load 122 = .ok (.aload_n 0, 1) := by decide +kernel
theorem dX7_load_123 : decode cX7_load 123 = .ok (.getfield 13, 3) := by decide +kernel
theorem dX7_load_126 : decode cX7_load 126 = .ok (.bipush 8, 2) := by decide +kernel
theorem dX7_load_128 : decode cX7_load 128 = .ok (.iaload, 1) := by decide +kernel
theorem dX7_load_129 : decode cX7_load 129 = .ok (.ireturn, 1) := by decide +kernel
def fX7_load_52   : Nat → Md → Md
  | 0, y => y
  | fu + 1, y => (if (fX7_good y ) = 0 then y else (if (y.1 7) = 0 then y else (bnd (fX7_parseStatement y ) (fun r31 => (fX7_load_52    fu  r31)))))
def sX7_load_52   : Nat → Md → Prop
  | 0, _ => False
  | fu + 1, y => (((fX7_good y ) = 0 → True) ∧ (¬ (fX7_good y ) = 0 → (((y.1 7) = 0 → True) ∧ (¬ (y.1 7) = 0 → ((sX7_parseStatement y ) ∧ (bnd (fX7_parseStatement y ) (fun r31 => (sX7_load_52    fu  r31))))))))
set_option maxRecDepth 20000 in
theorem wX7_load_52 {l : Launch} {G : GM} {K : Nat → Option va_E}    {Q : Option Value → List va_E → Prop} : ∀ (fu : Nat)  (y : Md) (hs : sX7_load_52    fu  y) {h : List va_E} (gy : HM G K h y) (kx : ∀ (h1 : List va_E) (r : Md), (fX7_load_52    fu  y) = r → HM G K h1 r → Tr l G mX7_load 11 0 0 73 [(0, .ref (gz G + 221))] [] h1 Q), Tr l G mX7_load 11 0 0 52 [(0, .ref (gz G + 221))] [] h Q := by
  intro fu
  induction fu with
  | zero => intro  y hs; intros; exact (show False from hs).elim
  | succ fu ih =>
    intro  y  hs  h gy  kx
    rw [sX7_load_52] at hs
    refine am_aload_n dX7_load_52 0 rfl ?_
    refine am_callV (As := []) (rest := []) dX7_load_53 kMX7_229 rfl (hmc221 (m := y) gy) rfl rfl (Nat.le_of_ble_eq_true rfl) (d2 := 0) (by decide) (k2 := 0) (Nat.zero_le _) (u2 := 0) (Nat.zero_le _) (Nat.le_of_ble_eq_true rfl) (ctX7_good (m := y) gy  ) (fun v22 h23 q24 => ?_)
    obtain ⟨rfl, rfl⟩ := q24
    refine am_if_eq dX7_load_56 (by decide : ((56 : Nat) : Int) + (17) = ((73 : Nat) : Int)) (fun c25 => ?_) (fun c25 => ?_)
    · have hs := hs.1 c25
      exact kx _ _ (ifp c25 (rfl)) gy 
    · have hs := hs.2 c25
      refine am_aload_n dX7_load_59 0 rfl ?_
      refine am_get (v := .int (y.1 7)) dX7_load_60 kGX7_245 (hmc221 (m := y) gy) rfl ?_
      refine am_if_eq dX7_load_63 (by decide : ((63 : Nat) : Int) + (10) = ((73 : Nat) : Int)) (fun c26 => ?_) (fun c26 => ?_)
      · have hs := hs.1 c26
        exact kx _ _ (ifn c25 (ifp c26 (rfl))) gy 
      · have hs := hs.2 c26
        refine am_aload_n dX7_load_66 0 rfl ?_
        obtain ⟨i27, hs⟩ := hs
        refine am_callV (As := []) (rest := []) dX7_load_67 kMX7_358 rfl (hmc221 (m := y) gy) rfl rfl (Nat.le_of_ble_eq_true rfl) (d2 := 10) (by decide) (k2 := 0) (Nat.zero_le _) (u2 := 0) (Nat.zero_le _) (Nat.le_of_ble_eq_true rfl) (ctX7_parseStatement (m := y) gy  i27) (fun v28 h29 q30 => ?_)
        obtain ⟨r31, e32, rfl, w33⟩ := q30
        have hs := bnd_p e32 hs
        refine am_goto dX7_load_70 (by decide : ((70 : Nat) : Int) + (-18) = ((52 : Nat) : Int)) ?_
        exact ih  r31  hs w33  (fun h1 r e => kx h1 r (Eq.trans (ifn c25 (ifn c26 (bnd_eq e32 (rfl)))) e))
def fX7_load_97   : Nat → Int32 → Md → Int32 × Md
  | 0, x1, y => (x1, y)
  | fu + 1, x1, y => (if 146 ≤ x1 then (x1, y) else (bnd (mA y 0 (upd (y.2.1 0) x1.toNatClampNeg ((y.2.1 1) x1.toNatClampNeg))) (fun r55 => (fX7_load_97    fu (x1 + 1) r55))))
def sX7_load_97   : Nat → Int32 → Md → Prop
  | 0, _, _ => True
  | fu + 1, x1, y => ((146 ≤ x1 → True) ∧ (¬ 146 ≤ x1 → (vp_in x1 146 ∧ (vp_in x1 146 ∧ (bnd (mA y 0 (upd (y.2.1 0) x1.toNatClampNeg ((y.2.1 1) x1.toNatClampNeg))) (fun r55 => (sX7_load_97    fu (x1 + 1) r55)))))))
set_option maxRecDepth 20000 in
theorem wX7_load_97 {l : Launch} {G : GM} {K : Nat → Option va_E}    {Q : Option Value → List va_E → Prop} : ∀ (fu : Nat) (x1 : Int32) (y : Md) (iv : ivU 146 x1 fu) (hs : sX7_load_97    fu x1 y) {h : List va_E} (gy : HM G K h y) (kx : ∀ (h1 : List va_E) (r : Int32 × Md), (fX7_load_97    fu x1 y) = r → HM G K h1 r.2 → Tr l G mX7_load 11 0 0 122 [(1, .int r.1), (0, .ref (gz G + 221))] [] h1 Q), Tr l G mX7_load 11 0 0 97 [(1, .int x1), (0, .ref (gz G + 221))] [] h Q := by
  intro fu
  induction fu with
  | zero => intro x1 y iv; intros; exact absurd iv ivU_0
  | succ fu ih =>
    intro x1 y iv hs  h gy  kx
    rw [sX7_load_97] at hs
    refine am_iload_n dX7_load_97 0 rfl ?_
    refine am_sipush (v := 146) dX7_load_98 (by decide) ?_
    refine am_icmp_ge dX7_load_101 (by decide : ((101 : Nat) : Int) + (21) = ((122 : Nat) : Int)) (fun c51 => ?_) (fun c51 => ?_)
    · have hs := hs.1 c51
      exact kx _ _ (ifp c51 (rfl)) gy 
    · have hs := hs.2 c51
      refine am_aload_n dX7_load_104 1 rfl ?_
      refine am_get (v := .ref (gz G + 222)) dX7_load_105 kGX7_13 (hmc221 (m := y) gy) rfl ?_
      refine am_iload_n dX7_load_108 0 rfl ?_
      refine am_aload_n dX7_load_109 1 rfl ?_
      refine am_get (v := .ref (gz G + 223)) dX7_load_110 kGX7_17 (hmc221 (m := y) gy) rfl ?_
      refine am_iload_n dX7_load_113 0 rfl ?_
      obtain ⟨i52, hs⟩ := hs
      refine am_iald (f := (y.2.1 1)) dX7_load_114 (hmc223 (m := y) gy) i52 ?_
      obtain ⟨i53, hs⟩ := hs
      refine am_iast (f := (y.2.1 0)) dX7_load_115 (hmc222 (m := y) gy) i53 ?_
      have w54 := hmA0 gy (upd (y.2.1 0) x1.toNatClampNeg ((y.2.1 1) x1.toNatClampNeg))
      obtain ⟨r55, e56⟩ : ∃ x, (mA y 0 (upd (y.2.1 0) x1.toNatClampNeg ((y.2.1 1) x1.toNatClampNeg))) = x := ⟨_, rfl⟩
      have w57 := hm_eq e56 w54
      have hs := bnd_p e56 hs
      refine am_iinc (v := (x1 + 1)) dX7_load_116 0 rfl rfl (by decide) (lv' := [(1, .int (x1 + 1)), (0, .ref (gz G + 221))]) rfl ?_
      refine am_goto dX7_load_119 (by decide : ((119 : Nat) : Int) + (-22) = ((97 : Nat) : Int)) ?_
      exact ih (x1 + 1) r55 (ivU_s c51 iv) hs w57  (fun h1 r e => kx h1 r (Eq.trans (ifn c51 (bnd_eq e56 (rfl))) e))
def fX7_load (m : Md)  : Int32 × Md := (bnd (fX7_clear_223 (mN (mS (mS (mS (mS (mS (mS m 4 (m.1 3)) 3 0) 5 0) 9 0) 10 (-1)) 11 0) 1) ) (fun r12 => (bnd (fX7_advance r12 ) (fun r19 => (bnd (fX7_load_52    1300  r19) (fun r35 => (if (fX7_good (mN r35 0) ) = 0 then ((-4), (mN r35 0)) else (bnd (fX7_remember (mN r35 0) ) (fun r48 => (bnd (fX7_load_97    (fuU 146 0) 0 r48) (fun r59 => (((r59.2.2.1 0) 8), r59.2))))))))))))
def sX7_load (m : Md)  : Prop := ((sX7_clear_223 (mN (mS (mS (mS (mS (mS (mS m 4 (m.1 3)) 3 0) 5 0) 9 0) 10 (-1)) 11 0) 1) ) ∧ (bnd (fX7_clear_223 (mN (mS (mS (mS (mS (mS (mS m 4 (m.1 3)) 3 0) 5 0) 9 0) 10 (-1)) 11 0) 1) ) (fun r12 => ((sX7_advance r12 ) ∧ (bnd (fX7_advance r12 ) (fun r19 => ((sX7_load_52    1300  r19) ∧ bnd (fX7_load_52    1300  r19) (fun r35 => (((fX7_good (mN r35 0) ) = 0 → True) ∧ (¬ (fX7_good (mN r35 0) ) = 0 → ((sX7_remember (mN r35 0) ) ∧ (bnd (fX7_remember (mN r35 0) ) (fun r48 => ((sX7_load_97    (fuU 146 0) 0 r48) ∧ bnd (fX7_load_97    (fuU 146 0) 0 r48) (fun r59 => True)))))))))))))))
set_option maxRecDepth 20000 in
theorem ctX7_load {l : Launch} {G : GM} {K : Nat → Option va_E} {h : List va_E} {m : Md} (hm : HM G K h m)  (hs : sX7_load m ) : Ct l G mX7_load 11 0 0 [.ref (gz G + 221)] h (fun v h1 => ∃ r, (fX7_load m ) = r ∧ v = some (.int r.1) ∧ HM G K h1 r.2) := by
  show Tr l G mX7_load 11 0 0 0 [(0, .ref (gz G + 221))] [] h _
  unfold sX7_load at hs
  refine am_aload_n dX7_load_0 0 rfl ?_
  refine am_aload_n dX7_load_1 0 rfl ?_
  refine am_get (v := .int (m.1 3)) dX7_load_2 kGX7_219 (hmc221 (m := m) hm) rfl ?_
  refine am_put dX7_load_5 kFX7_236 (hmc221 (m := m) hm) (Nat.le_of_ble_eq_true rfl) rfl rfl ?_
  have w1 := hmS4 hm (m.1 3)
  refine am_aload_n dX7_load_8 0 rfl ?_
  refine am_iconst (v := 0) dX7_load_9 (by decide) ?_
  refine am_put dX7_load_10 kFX7_219 (hmc221 (m := (mS m 4 (m.1 3))) w1) (Nat.le_of_ble_eq_true rfl) rfl rfl ?_
  have w2 := hmS3 w1 0
  refine am_aload_n dX7_load_13 0 rfl ?_
  refine am_iconst (v := 0) dX7_load_14 (by decide) ?_
  refine am_put dX7_load_15 kFX7_239 (hmc221 (m := (mS (mS m 4 (m.1 3)) 3 0)) w2) (Nat.le_of_ble_eq_true rfl) rfl rfl ?_
  have w3 := hmS5 w2 0
  refine am_aload_n dX7_load_18 0 rfl ?_
  refine am_iconst (v := 0) dX7_load_19 (by decide) ?_
  refine am_put dX7_load_20 kFX7_226 (hmc221 (m := (mS (mS (mS m 4 (m.1 3)) 3 0) 5 0)) w3) (Nat.le_of_ble_eq_true rfl) rfl rfl ?_
  have w4 := hmS9 w3 0
  refine am_aload_n dX7_load_23 0 rfl ?_
  refine am_iconst (v := (-1)) dX7_load_24 (by decide) ?_
  refine am_put dX7_load_25 kFX7_42 (hmc221 (m := (mS (mS (mS (mS m 4 (m.1 3)) 3 0) 5 0) 9 0)) w4) (Nat.le_of_ble_eq_true rfl) rfl rfl ?_
  have w5 := hmS10 w4 (-1)
  refine am_aload_n dX7_load_28 0 rfl ?_
  refine am_iconst (v := 0) dX7_load_29 (by decide) ?_
  refine am_put dX7_load_30 kFX7_319 (hmc221 (m := (mS (mS (mS (mS (mS m 4 (m.1 3)) 3 0) 5 0) 9 0) 10 (-1))) w5) (Nat.le_of_ble_eq_true rfl) rfl rfl ?_
  have w6 := hmS11 w5 0
  refine am_aload_n dX7_load_33 0 rfl ?_
  refine am_aload_n dX7_load_34 0 rfl ?_
  refine am_get (v := .ref (gz G + 223)) dX7_load_35 kGX7_17 (hmc221 (m := (mS (mS (mS (mS (mS (mS m 4 (m.1 3)) 3 0) 5 0) 9 0) 10 (-1)) 11 0)) w6) rfl ?_
  refine am_put dX7_load_38 kFX7_23 (hmc221 (m := (mS (mS (mS (mS (mS (mS m 4 (m.1 3)) 3 0) 5 0) 9 0) 10 (-1)) 11 0)) w6) (Nat.le_of_ble_eq_true rfl) rfl rfl ?_
  have w7 := hmNs w6 1 (by decide)
  refine am_aload_n dX7_load_41 0 rfl ?_
  refine am_get (v := .ref (gz G + 223)) dX7_load_42 kGX7_17 (hmc221 (m := (mN (mS (mS (mS (mS (mS (mS m 4 (m.1 3)) 3 0) 5 0) 9 0) 10 (-1)) 11 0) 1)) w7) rfl ?_
  obtain ⟨i8, hs⟩ := hs
  refine am_callS (As := [.ref (gz G + 223)]) (rest := []) dX7_load_45 kMX7_48 rfl  rfl (Nat.le_of_ble_eq_true rfl) (d2 := 0) (by decide) (k2 := 0) (Nat.zero_le _) (u2 := 0) (Nat.zero_le _) (Nat.le_of_ble_eq_true rfl) (ctX7_clear_223 (m := (mN (mS (mS (mS (mS (mS (mS m 4 (m.1 3)) 3 0) 5 0) 9 0) 10 (-1)) 11 0) 1)) w7  i8) (fun v9 h10 q11 => ?_)
  obtain ⟨r12, e13, rfl, w14⟩ := q11
  have hs := bnd_p e13 hs
  refine am_aload_n dX7_load_48 0 rfl ?_
  obtain ⟨i15, hs⟩ := hs
  refine am_callV (As := []) (rest := []) dX7_load_49 kMX7_260 rfl (hmc221 (m := r12) w14) rfl rfl (Nat.le_of_ble_eq_true rfl) (d2 := 1) (by decide) (k2 := 0) (Nat.zero_le _) (u2 := 0) (Nat.zero_le _) (Nat.le_of_ble_eq_true rfl) (ctX7_advance (m := r12) w14  i15) (fun v16 h17 q18 => ?_)
  obtain ⟨r19, e20, rfl, w21⟩ := q18
  have hs := bnd_p e20 hs
  obtain ⟨i34, hs⟩ := hs
  refine wX7_load_52    1300  r19  i34 w21  (fun h37 r35 e36 w38  => ?_)
  have hs := bnd_p e36 hs
  refine am_aload_n dX7_load_73 0 rfl ?_
  refine am_aload_n dX7_load_74 0 rfl ?_
  refine am_get (v := .ref (gz G + 222)) dX7_load_75 kGX7_13 (hmc221 (m := r35) w38) rfl ?_
  refine am_put dX7_load_78 kFX7_23 (hmc221 (m := r35) w38) (Nat.le_of_ble_eq_true rfl) rfl rfl ?_
  have w39 := hmNs w38 0 (by decide)
  refine am_aload_n dX7_load_81 0 rfl ?_
  refine am_callV (As := []) (rest := []) dX7_load_82 kMX7_229 rfl (hmc221 (m := (mN r35 0)) w39) rfl rfl (Nat.le_of_ble_eq_true rfl) (d2 := 0) (by decide) (k2 := 0) (Nat.zero_le _) (u2 := 0) (Nat.zero_le _) (Nat.le_of_ble_eq_true rfl) (ctX7_good (m := (mN r35 0)) w39  ) (fun v40 h41 q42 => ?_)
  obtain ⟨rfl, rfl⟩ := q42
  refine am_if_ne dX7_load_85 (by decide : ((85 : Nat) : Int) + (6) = ((91 : Nat) : Int)) (fun c43 => ?_) (fun c43 => ?_)
  · have hs := hs.2 c43
    refine am_aload_n dX7_load_91 0 rfl ?_
    obtain ⟨i44, hs⟩ := hs
    refine am_callV (As := []) (rest := []) dX7_load_92 kMX7_209 rfl (hmc221 (m := (mN r35 0)) w39) rfl rfl (Nat.le_of_ble_eq_true rfl) (d2 := 0) (by decide) (k2 := 0) (Nat.zero_le _) (u2 := 0) (Nat.zero_le _) (Nat.le_of_ble_eq_true rfl) (ctX7_remember (m := (mN r35 0)) w39  i44) (fun v45 h46 q47 => ?_)
    obtain ⟨r48, e49, rfl, w50⟩ := q47
    have hs := bnd_p e49 hs
    refine am_iconst (v := 0) dX7_load_95 (by decide) ?_
    refine am_istore_n dX7_load_96 (by decide) (lv' := [(1, .int 0), (0, .ref (gz G + 221))]) rfl ?_
    obtain ⟨i58, hs⟩ := hs
    refine wX7_load_97    (fuU 146 0) 0 r48 ivU_i i58 w50  (fun h61 r59 e60 w62  => ?_)
    have hs := bnd_p e60 hs
    refine am_aload_n dX7_load_122 1 rfl ?_
    refine am_get (v := .ref (gz G + 222)) dX7_load_123 kGX7_13 (hmc221 (m := r59.2) w62) rfl ?_
    refine am_bipush (v := 8) dX7_load_126 (by decide) ?_
    refine am_iald (f := (r59.2.2.1 0)) dX7_load_128 (hmc222 (m := r59.2) w62) (vp_lit (by decide)) ?_
    rw [tl8]
    exact am_ireturn dX7_load_129 rfl rfl ⟨_, bnd_eq e13 (bnd_eq e20 (bnd_eq e36 (ifn c43 (bnd_eq e49 (bnd_eq e60 (rfl)))))), rfl, w62⟩
  · have hs := hs.1 c43
    refine am_bipush (v := (-4)) dX7_load_88 (by decide) ?_
    exact am_ireturn dX7_load_90 rfl rfl ⟨_, bnd_eq e13 (bnd_eq e20 (bnd_eq e36 (ifp c43 (rfl)))), rfl, w39⟩

theorem dX7_errorCode_0 : decode cX7_errorCode 0 = .ok (.aload_n 0, 1) := by decide +kernel
theorem dX7_errorCode_1 : decode cX7_errorCode 1 = .ok (.getfield 226, 3) := by decide +kernel
theorem dX7_errorCode_4 : decode cX7_errorCode 4 = .ok (.ireturn, 1) := by decide +kernel
def fX7_errorCode (m : Md)  : Int32 := (m.1 9)
set_option maxRecDepth 20000 in
theorem ctX7_errorCode {l : Launch} {G : GM} {K : Nat → Option va_E} {h : List va_E} {m : Md} (hm : HM G K h m)  : Ct l G mX7_errorCode 0 0 0 [.ref (gz G + 221)] h (fun v h1 => v = some (.int (fX7_errorCode m )) ∧ h1 = h) := by
  show Tr l G mX7_errorCode 0 0 0 0 [(0, .ref (gz G + 221))] [] h _
  refine am_aload_n dX7_errorCode_0 0 rfl ?_
  refine am_get (v := .int (m.1 9)) dX7_errorCode_1 kGX7_226 (hmc221 (m := m) hm) rfl ?_
  rw [show (fX7_errorCode m ) = (m.1 9) from rfl]
  exact am_ireturn dX7_errorCode_4 rfl rfl ⟨rfl, rfl⟩

theorem dX7_errorPosition_0 : decode cX7_errorPosition 0 = .ok (.aload_n 0, 1) := by decide +kernel
theorem dX7_errorPosition_1 : decode cX7_errorPosition 1 = .ok (.getfield 42, 3) := by decide +kernel
theorem dX7_errorPosition_4 : decode cX7_errorPosition 4 = .ok (.ireturn, 1) := by decide +kernel
def fX7_errorPosition (m : Md)  : Int32 := (m.1 10)
set_option maxRecDepth 20000 in
theorem ctX7_errorPosition {l : Launch} {G : GM} {K : Nat → Option va_E} {h : List va_E} {m : Md} (hm : HM G K h m)  : Ct l G mX7_errorPosition 0 0 0 [.ref (gz G + 221)] h (fun v h1 => v = some (.int (fX7_errorPosition m )) ∧ h1 = h) := by
  show Tr l G mX7_errorPosition 0 0 0 0 [(0, .ref (gz G + 221))] [] h _
  refine am_aload_n dX7_errorPosition_0 0 rfl ?_
  refine am_get (v := .int (m.1 10)) dX7_errorPosition_1 kGX7_42 (hmc221 (m := m) hm) rfl ?_
  rw [show (fX7_errorPosition m ) = (m.1 10) from rfl]
  exact am_ireturn dX7_errorPosition_4 rfl rfl ⟨rfl, rfl⟩

theorem dX7_find_0 : decode cX7_find 0 = .ok (.iload_n 1, 1) := by decide +kernel
theorem dX7_find_1 : decode cX7_find 1 = .ok (.i2l, 1) := by decide +kernel
theorem dX7_find_2 : decode cX7_find 2 = .ok (.lconst 0, 1) := by decide +kernel
theorem dX7_find_3 : decode cX7_find 3 = .ok (.ldc2_w 361, 3) := by decide +kernel
theorem dX7_find_6 : decode cX7_find 6 = .ok (.invokestatic 56, 3) := by decide +kernel
theorem dX7_find_9 : decode cX7_find 9 = .ok (.ifCond .ne 6, 3) := by decide +kernel
theorem dX7_find_12 : decode cX7_find 12 = .ok (.bipush (-2), 2) := by decide +kernel
theorem dX7_find_14 : decode cX7_find 14 = .ok (.ireturn, 1) := by decide +kernel
theorem dX7_find_15 : decode cX7_find 15 = .ok (.aload_n 0, 1) := by decide +kernel
theorem dX7_find_16 : decode cX7_find 16 = .ok (.getfield 219, 3) := by decide +kernel
theorem dX7_find_19 : decode cX7_find 19 = .ok (.istore_n 2, 1) := by decide +kernel
theorem dX7_find_20 : decode cX7_find 20 = .ok (.aload_n 0, 1) := by decide +kernel
theorem dX7_find_21 : decode cX7_find 21 = .ok (.iconst 0, 1) := by decide +kernel
theorem dX7_find_22 : decode cX7_find 22 = .ok (.putfield 219, 3) := by decide +kernel
theorem dX7_find_25 : decode cX7_find 25 = .ok (.iload_n 2, 1) := by decide +kernel
theorem dX7_find_26 : decode cX7_find 26 = .ok (.i2l, 1) := by decide +kernel
theorem dX7_find_27 : decode cX7_find 27 = .ok (.lconst 1, 1) := by decide +kernel
theorem dX7_find_28 : decode cX7_find 28 = .ok (.ldc2_w 363, 3) := by decide +kernel
theorem dX7_find_31 : decode cX7_find 31 = .ok (.invokestatic 56, 3) := by decide +kernel
theorem dX7_find_34 : decode cX7_find 34 = .ok (.istore_n 3, 1) := by decide +kernel
theorem dX7_find_35 : decode cX7_find 35 = .ok (.iconst 0, 1) := by decide +kernel
theorem dX7_find_36 : decode cX7_find 36 = .ok (.istore 4, 2) := by decide +kernel
theorem dX7_find_38 : decode cX7_find 38 = .ok (.iconst 0, 1) := by decide +kernel
theorem dX7_find_39 : decode cX7_find 39 = .ok (.istore 5, 2) := by decide +kernel
theorem dX7_find_41 : decode cX7_find 41 = .ok (.iload 5, 2) := by decide +kernel
theorem dX7_find_43 : decode cX7_find 43 = .ok (.iload_n 2, 1) := by decide +kernel
theorem dX7_find_44 : decode cX7_find 44 = .ok (.if_icmp .ge 31, 3) := by decide +kernel
theorem dX7_find_47 : decode cX7_find 47 = .ok (.iload_n 3, 1) := by decide +kernel
theorem dX7_find_48 : decode cX7_find 48 = .ok (.ifCond .eq 27, 3) := by decide +kernel
theorem dX7_find_51 : decode cX7_find 51 = .ok (.aload_n 0, 1) := by decide +kernel
theorem dX7_find_52 : decode cX7_find 52 = .ok (.getfield 38, 3) := by decide +kernel
theorem dX7_find_55 : decode cX7_find 55 = .ok (.iload 5, 2) := by decide +kernel
theorem dX7_find_57 : decode cX7_find 57 = .ok (.baload, 1) := by decide +kernel
theorem dX7_find_58 : decode cX7_find 58 = .ok (.i2l, 1) := by decide +kernel
theorem dX7_find_59 : decode cX7_find 59 = .ok (.ldc2_w 248, 3) := by decide +kernel
theorem dX7_find_62 : decode cX7_find 62 = .ok (.ldc2_w 250, 3) := by decide +kernel
theorem dX7_find_65 : decode cX7_find 65 = .ok (.invokestatic 56, 3) := by decide +kernel
theorem dX7_find_68 : decode cX7_find 68 = .ok (.istore_n 3, 1) := by decide +kernel
theorem dX7_find_69 : decode cX7_find 69 = .ok (.iinc 5 1, 3) := by decide +kernel
theorem dX7_find_72 : decode cX7_find 72 = .ok (.goto (-31), 3) := by decide +kernel
theorem dX7_find_75 : decode cX7_find 75 = .ok (.iconst 0, 1) := by decide +kernel
theorem dX7_find_76 : decode cX7_find 76 = .ok (.istore 5, 2) := by decide +kernel
theorem dX7_find_78 : decode cX7_find 78 = .ok (.iload 5, 2) := by decide +kernel
theorem dX7_find_80 : decode cX7_find 80 = .ok (.bipush 6, 2) := by decide +kernel
theorem dX7_find_82 : decode cX7_find 82 = .ok (.if_icmp .ge 43, 3) := by decide +kernel
theorem dX7_find_85 : decode cX7_find 85 = .ok (.iload_n 3, 1) := by decide +kernel
theorem dX7_find_86 : decode cX7_find 86 = .ok (.ifCond .eq 39, 3) := by decide +kernel
theorem dX7_find_89 : decode cX7_find 89 = .ok (.bipush 27, 2) := by decide +kernel
theorem dX7_find_91 : decode cX7_find 91 = .ok (.iload 4, 2) := by decide +kernel
theorem dX7_find_93 : decode cX7_find 93 = .ok (.imul, 1) := by decide +kernel
theorem dX7_find_94 : decode cX7_find 94 = .ok (.iload 5, 2) := by decide +kernel
theorem dX7_find_96 : decode cX7_find 96 = .ok (.iload_n 2, 1) := by decide +kernel
theorem dX7_find_97 : decode cX7_find 97 = .ok (.if_icmp .ge 18, 3) := by decide +kernel
theorem dX7_find_100 : decode cX7_find 100 = .ok (.aload_n 0, 1) := by decide +kernel
theorem dX7_find_101 : decode cX7_find 101 = .ok (.getfield 38, 3) := by decide +kernel
theorem dX7_find_104 : decode cX7_find 104 = .ok (.iload 5, 2) := by decide +kernel
theorem dX7_find_106 : decode cX7_find 106 = .ok (.baload, 1) := by decide +kernel
theorem dX7_find_107 : decode cX7_find 107 = .ok (.bipush 97, 2) := by decide +kernel
theorem dX7_find_109 : decode cX7_find 109 = .ok (.isub, 1) := by decide +kernel
theorem dX7_find_110 : decode cX7_find 110 = .ok (.iconst 1, 1) := by decide +kernel
theorem dX7_find_111 : decode cX7_find 111 = .ok (.iadd, 1) := by decide +kernel
theorem dX7_find_112 : decode cX7_find 112 = .ok (.goto 4, 3) := by decide +kernel
theorem dX7_find_115 : decode cX7_find 115 = .ok (.iconst 0, 1) := by decide +kernel
theorem dX7_find_116 : decode cX7_find 116 = .ok (.iadd, 1) := by decide +kernel
theorem dX7_find_117 : decode cX7_find 117 = .ok (.istore 4, 2) := by decide +kernel
theorem dX7_find_119 : decode cX7_find 119 = .ok (.iinc 5 1, 3) := by decide +kernel
theorem dX7_find_122 : decode cX7_find 122 = .ok (.goto (-44), 3) := by decide +kernel
theorem dX7_find_125 : decode cX7_find 125 = .ok (.iload_n 3, 1) := by decide +kernel
theorem dX7_find_126 : decode cX7_find 126 = .ok (.ifCond .ne 6, 3) := by decide +kernel
theorem dX7_find_129 : decode cX7_find 129 = .ok (.bipush (-4), 2) := by decide +kernel
theorem dX7_find_131 : decode cX7_find 131 = .ok (.ireturn, 1) := by decide +kernel
theorem dX7_find_132 : decode cX7_find 132 = .ok (.iload_n 1, 1) := by decide +kernel
theorem dX7_find_133 : decode cX7_find 133 = .ok (.ifCond .ne 21, 3) := by decide +kernel
theorem dX7_find_136 : decode cX7_find 136 = .ok (.aload_n 0, 1) := by decide +kernel
theorem dX7_find_137 : decode cX7_find 137 = .ok (.bipush 10, 2) := by decide +kernel
theorem dX7_find_139 : decode cX7_find 139 = .ok (.iconst 3, 1) := by decide +kernel
theorem dX7_find_140 : decode cX7_find 140 = .ok (.aload_n 0, 1) := by decide +kernel
theorem dX7_find_141 : decode cX7_find 141 = .ok (.getfield 13, 3) := by decide +kernel
theorem dX7_find_144 : decode cX7_find 144 = .ok (.iconst 5, 1) := by decide +kernel
theorem dX7_find_145 : decode cX7_find 145 = .ok (.iaload, 1) := by decide +kernel
theorem dX7_find_146 : decode cX7_find 146 = .ok (.iload 4, 2) := by decide +kernel
theorem dX7_find_148 : decode cX7_find 148 = .ok (.invokevirtual 315, 3) := by decide +kernel
theorem dX7_find_151 : decode cX7_find 151 = .ok (.goto 43, 3) := by decide +kernel
theorem dX7_find_154 : decode cX7_find 154 = .ok (.iload_n 1, 1) := by decide +kernel
theorem dX7_find_155 : decode cX7_find 155 = .ok (.iconst 1, 1) := by decide +kernel
theorem dX7_find_156 : decode cX7_find 156 = .ok (.if_icmp .ne 22, 3) := by decide +kernel
theorem dX7_find_159 : decode cX7_find 159 = .ok (.aload_n 0, 1) := by decide +kernel
theorem dX7_find_160 : decode cX7_find 160 = .ok (.bipush 28, 2) := by decide +kernel
theorem dX7_find_162 : decode cX7_find 162 = .ok (.iconst 2, 1) := by decide +kernel
theorem dX7_find_163 : decode cX7_find 163 = .ok (.aload_n 0, 1) := by decide +kernel
theorem dX7_find_164 : decode cX7_find 164 = .ok (.getfield 13, 3) := by decide +kernel
theorem dX7_find_167 : decode cX7_find 167 = .ok (.bipush 6, 2) := by decide +kernel
theorem dX7_find_169 : decode cX7_find 169 = .ok (.iaload, 1) := by decide +kernel
theorem dX7_find_170 : decode cX7_find 170 = .ok (.iload 4, 2) := by decide +kernel
theorem dX7_find_172 : decode cX7_find 172 = .ok (.invokevirtual 315, 3) := by decide +kernel
theorem dX7_find_175 : decode cX7_find 175 = .ok (.goto 19, 3) := by decide +kernel
theorem dX7_find_178 : decode cX7_find 178 = .ok (.aload_n 0, 1) := by decide +kernel
theorem dX7_find_179 : decode cX7_find 179 = .ok (.bipush 44, 2) := by decide +kernel
theorem dX7_find_181 : decode cX7_find 181 = .ok (.iconst 3, 1) := by decide +kernel
theorem dX7_find_182 : decode cX7_find 182 = .ok (.aload_n 0, 1) := by decide +kernel
theorem dX7_find_183 : decode cX7_find 183 = .ok (.getfield 13, 3) := by decide +kernel
theorem dX7_find_186 : decode cX7_find 186 = .ok (.bipush 7, 2) := by decide +kernel
theorem dX7_find_188 : decode cX7_find 188 = .ok (.iaload, 1) := by decide +kernel
theorem dX7_find_189 : decode cX7_find 189 = .ok (.iload 4, 2) := by decide +kernel
theorem dX7_find_191 : decode cX7_find 191 = .ok (.invokevirtual 315, 3) := by decide +kernel
theorem dX7_find_194 : decode cX7_find 194 = .ok (.ireturn, 1) := by decide +kernel
def fX7_find_41 (z1 : Int32) (o4 : Int32) (o2 : Int32) (m : Md) : Nat → Int32 → Int32 → Int32 × Int32
  | 0, x5, x3 => (x5, x3)
  | fu + 1, x5, x3 => (if o2 ≤ x5 then (x5, x3) else (if x3 = 0 then (x5, x3) else (fX7_find_41 z1 o4 o2 m fu (x5 + 1) (fX7_in (((m.2.1 7) x5.toNatClampNeg).toInt64) 97 122) )))
def sX7_find_41 (z1 : Int32) (o4 : Int32) (o2 : Int32) (m : Md) : Nat → Int32 → Int32 → Prop
  | 0, _, _ => True
  | fu + 1, x5, x3 => ((o2 ≤ x5 → True) ∧ (¬ o2 ≤ x5 → ((x3 = 0 → True) ∧ (¬ x3 = 0 → (vp_in x5 1200 ∧ (sX7_find_41 z1 o4 o2 m fu (x5 + 1) (fX7_in (((m.2.1 7) x5.toNatClampNeg).toInt64) 97 122) ))))))
set_option maxRecDepth 20000 in
theorem wX7_find_41 {l : Launch} {G : GM} {K : Nat → Option va_E} (z1 : Int32) (o4 : Int32) (o2 : Int32)  {h : List va_E} {m : Md} (hm : HM G K h m) {Q : Option Value → List va_E → Prop} : ∀ (fu : Nat) (x5 x3 : Int32) (iv : ivU o2 x5 fu) (hs : sX7_find_41 z1 o4 o2 m fu x5 x3 ) (kx : ∀ (r : Int32 × Int32), (fX7_find_41 z1 o4 o2 m fu x5 x3 ) = r → Tr l G mX7_find 1 0 0 75 [(5, .int r.1), (4, .int o4), (3, .int r.2), (2, .int o2), (0, .ref (gz G + 221)), (1, .int z1)] [] h Q), Tr l G mX7_find 1 0 0 41 [(5, .int x5), (4, .int o4), (3, .int x3), (2, .int o2), (0, .ref (gz G + 221)), (1, .int z1)] [] h Q := by
  intro fu
  induction fu with
  | zero => intro x5 x3 iv; intros; exact absurd iv ivU_0
  | succ fu ih =>
    intro x5 x3 iv hs    kx
    rw [sX7_find_41] at hs
    refine am_iload dX7_find_41 0 rfl ?_
    refine am_iload_n dX7_find_43 3 rfl ?_
    refine am_icmp_ge dX7_find_44 (by decide : ((44 : Nat) : Int) + (31) = ((75 : Nat) : Int)) (fun c9 => ?_) (fun c9 => ?_)
    · have hs := hs.1 c9
      exact kx _ (ifp c9 (rfl))
    · have hs := hs.2 c9
      refine am_iload_n dX7_find_47 2 rfl ?_
      refine am_if_eq dX7_find_48 (by decide : ((48 : Nat) : Int) + (27) = ((75 : Nat) : Int)) (fun c10 => ?_) (fun c10 => ?_)
      · have hs := hs.1 c10
        exact kx _ (ifn c9 (ifp c10 (rfl)))
      · have hs := hs.2 c10
        refine am_aload_n dX7_find_51 4 rfl ?_
        refine am_get (v := .ref (gz G + 229)) dX7_find_52 kGX7_38 (hmc221 (m := m) hm) rfl ?_
        refine am_iload dX7_find_55 0 rfl ?_
        obtain ⟨i11, hs⟩ := hs
        refine am_bald (f := (m.2.1 7)) dX7_find_57 (hmc229 (m := m) hm) i11 ?_
        refine am_i2l (v := ((m.2.1 7) x5.toNatClampNeg).toInt64) dX7_find_58 rfl ?_
        refine am_ldc2 (v := 97) dX7_find_59 kKX7_248 ?_
        refine am_ldc2 (v := 122) dX7_find_62 kKX7_250 ?_
        refine am_callS (As := [.long (((m.2.1 7) x5.toNatClampNeg).toInt64), .long 97, .long 122]) (rest := []) dX7_find_65 kMX7_56 rfl  rfl (Nat.le_of_ble_eq_true rfl) (d2 := 0) (by decide) (k2 := 0) (Nat.zero_le _) (u2 := 0) (Nat.zero_le _) (Nat.le_of_ble_eq_true rfl) (ctX7_in  (((m.2.1 7) x5.toNatClampNeg).toInt64) 97 122 ) (fun v12 h13 q14 => ?_)
        obtain ⟨rfl, rfl⟩ := q14
        refine am_istore_n dX7_find_68 (by decide) (lv' := [(3, .int (fX7_in (((m.2.1 7) x5.toNatClampNeg).toInt64) 97 122)), (5, .int x5), (4, .int o4), (2, .int o2), (0, .ref (gz G + 221)), (1, .int z1)]) rfl ?_
        refine am_iinc (v := (x5 + 1)) dX7_find_69 1 rfl rfl (by decide) (lv' := [(5, .int (x5 + 1)), (3, .int (fX7_in (((m.2.1 7) x5.toNatClampNeg).toInt64) 97 122)), (4, .int o4), (2, .int o2), (0, .ref (gz G + 221)), (1, .int z1)]) rfl ?_
        refine am_goto dX7_find_72 (by decide : ((72 : Nat) : Int) + (-31) = ((41 : Nat) : Int)) ?_
        refine am_lv (lv' := [(5, .int (x5 + 1)), (4, .int o4), (3, .int (fX7_in (((m.2.1 7) x5.toNatClampNeg).toInt64) 97 122)), (2, .int o2), (0, .ref (gz G + 221)), (1, .int z1)]) [0, 2, 1, 3, 4, 5] rfl ?_
        exact ih (x5 + 1) (fX7_in (((m.2.1 7) x5.toNatClampNeg).toInt64) 97 122) (ivU_s c9 iv) hs (fun r e => kx r (Eq.trans (ifn c9 (ifn c10 (rfl))) e))
def fX7_find_78 (z1 : Int32) (o3 : Int32) (o2 : Int32) (m : Md) : Nat → Int32 → Int32 → Int32 × Int32
  | 0, x5, x4 => (x5, x4)
  | fu + 1, x5, x4 => (if 6 ≤ x5 then (x5, x4) else (if o3 = 0 then (x5, x4) else (if o2 ≤ x5 then (fX7_find_78 z1 o3 o2 m fu (x5 + 1) (((27 : Int32) * x4) + 0) ) else (fX7_find_78 z1 o3 o2 m fu (x5 + 1) (((27 : Int32) * x4) + ((((m.2.1 7) x5.toNatClampNeg) - 97) + 1)) ))))
def sX7_find_78 (z1 : Int32) (o3 : Int32) (o2 : Int32) (m : Md) : Nat → Int32 → Int32 → Prop
  | 0, _, _ => True
  | fu + 1, x5, x4 => ((6 ≤ x5 → True) ∧ (¬ 6 ≤ x5 → ((o3 = 0 → True) ∧ (¬ o3 = 0 → ((o2 ≤ x5 → (sX7_find_78 z1 o3 o2 m fu (x5 + 1) (((27 : Int32) * x4) + 0) )) ∧ (¬ o2 ≤ x5 → (vp_in x5 1200 ∧ (sX7_find_78 z1 o3 o2 m fu (x5 + 1) (((27 : Int32) * x4) + ((((m.2.1 7) x5.toNatClampNeg) - 97) + 1)) ))))))))
set_option maxRecDepth 20000 in
theorem wX7_find_78 {l : Launch} {G : GM} {K : Nat → Option va_E} (z1 : Int32) (o3 : Int32) (o2 : Int32)  {h : List va_E} {m : Md} (hm : HM G K h m) {Q : Option Value → List va_E → Prop} : ∀ (fu : Nat) (x5 x4 : Int32) (iv : ivU 6 x5 fu) (hs : sX7_find_78 z1 o3 o2 m fu x5 x4 ) (kx : ∀ (r : Int32 × Int32), (fX7_find_78 z1 o3 o2 m fu x5 x4 ) = r → Tr l G mX7_find 1 0 0 125 [(5, .int r.1), (4, .int r.2), (3, .int o3), (2, .int o2), (0, .ref (gz G + 221)), (1, .int z1)] [] h Q), Tr l G mX7_find 1 0 0 78 [(5, .int x5), (4, .int x4), (3, .int o3), (2, .int o2), (0, .ref (gz G + 221)), (1, .int z1)] [] h Q := by
  intro fu
  induction fu with
  | zero => intro x5 x4 iv; intros; exact absurd iv ivU_0
  | succ fu ih =>
    intro x5 x4 iv hs    kx
    rw [sX7_find_78] at hs
    refine am_iload dX7_find_78 0 rfl ?_
    refine am_bipush (v := 6) dX7_find_80 (by decide) ?_
    refine am_icmp_ge dX7_find_82 (by decide : ((82 : Nat) : Int) + (43) = ((125 : Nat) : Int)) (fun c18 => ?_) (fun c18 => ?_)
    · have hs := hs.1 c18
      exact kx _ (ifp c18 (rfl))
    · have hs := hs.2 c18
      refine am_iload_n dX7_find_85 2 rfl ?_
      refine am_if_eq dX7_find_86 (by decide : ((86 : Nat) : Int) + (39) = ((125 : Nat) : Int)) (fun c19 => ?_) (fun c19 => ?_)
      · have hs := hs.1 c19
        exact kx _ (ifn c18 (ifp c19 (rfl)))
      · have hs := hs.2 c19
        refine am_bipush (v := 27) dX7_find_89 (by decide) ?_
        refine am_iload dX7_find_91 1 rfl ?_
        refine am_imul dX7_find_93 ?_
        refine am_iload dX7_find_94 0 rfl ?_
        refine am_iload_n dX7_find_96 3 rfl ?_
        refine am_icmp_ge dX7_find_97 (by decide : ((97 : Nat) : Int) + (18) = ((115 : Nat) : Int)) (fun c20 => ?_) (fun c20 => ?_)
        · have hs := hs.1 c20
          refine am_iconst (v := 0) dX7_find_115 (by decide) ?_
          refine am_iadd dX7_find_116 ?_
          refine am_istore dX7_find_117 (by decide) (lv' := [(4, .int (((27 : Int32) * x4) + 0)), (5, .int x5), (3, .int o3), (2, .int o2), (0, .ref (gz G + 221)), (1, .int z1)]) rfl ?_
          refine am_iinc (v := (x5 + 1)) dX7_find_119 1 rfl rfl (by decide) (lv' := [(5, .int (x5 + 1)), (4, .int (((27 : Int32) * x4) + 0)), (3, .int o3), (2, .int o2), (0, .ref (gz G + 221)), (1, .int z1)]) rfl ?_
          refine am_goto dX7_find_122 (by decide : ((122 : Nat) : Int) + (-44) = ((78 : Nat) : Int)) ?_
          exact ih (x5 + 1) (((27 : Int32) * x4) + 0) (ivU_s c18 iv) hs (fun r e => kx r (Eq.trans (ifn c18 (ifn c19 (ifp c20 (rfl)))) e))
        · have hs := hs.2 c20
          refine am_aload_n dX7_find_100 4 rfl ?_
          refine am_get (v := .ref (gz G + 229)) dX7_find_101 kGX7_38 (hmc221 (m := m) hm) rfl ?_
          refine am_iload dX7_find_104 0 rfl ?_
          obtain ⟨i21, hs⟩ := hs
          refine am_bald (f := (m.2.1 7)) dX7_find_106 (hmc229 (m := m) hm) i21 ?_
          refine am_bipush (v := 97) dX7_find_107 (by decide) ?_
          refine am_isub dX7_find_109 ?_
          refine am_iconst (v := 1) dX7_find_110 (by decide) ?_
          refine am_iadd dX7_find_111 ?_
          refine am_goto dX7_find_112 (by decide : ((112 : Nat) : Int) + (4) = ((116 : Nat) : Int)) ?_
          refine am_iadd dX7_find_116 ?_
          refine am_istore dX7_find_117 (by decide) (lv' := [(4, .int (((27 : Int32) * x4) + ((((m.2.1 7) x5.toNatClampNeg) - 97) + 1))), (5, .int x5), (3, .int o3), (2, .int o2), (0, .ref (gz G + 221)), (1, .int z1)]) rfl ?_
          refine am_iinc (v := (x5 + 1)) dX7_find_119 1 rfl rfl (by decide) (lv' := [(5, .int (x5 + 1)), (4, .int (((27 : Int32) * x4) + ((((m.2.1 7) x5.toNatClampNeg) - 97) + 1))), (3, .int o3), (2, .int o2), (0, .ref (gz G + 221)), (1, .int z1)]) rfl ?_
          refine am_goto dX7_find_122 (by decide : ((122 : Nat) : Int) + (-44) = ((78 : Nat) : Int)) ?_
          exact ih (x5 + 1) (((27 : Int32) * x4) + ((((m.2.1 7) x5.toNatClampNeg) - 97) + 1)) (ivU_s c18 iv) hs (fun r e => kx r (Eq.trans (ifn c18 (ifn c19 (ifn c20 (rfl)))) e))
def fX7_find (m : Md) (z1 : Int32) : Int32 × Md := (if (fX7_in (z1.toInt64) 0 2) = 0 then ((-2), m) else (bnd (fX7_find_41 z1 0 (m.1 3) (mS m 3 0) (fuU (m.1 3) 0) 0 (fX7_in ((m.1 3).toInt64) 1 6) ) (fun r16 => (bnd (fX7_find_78 z1 r16.2 (m.1 3) (mS m 3 0) (fuU 6 0) 0 0 ) (fun r23 => (if r16.2 = 0 then ((-4), (mS m 3 0)) else (if z1 = 0 then ((fX7_findIn (mS m 3 0) 10 3 ((m.2.1 0) 5) r23.2), (mS m 3 0)) else (if z1 = 1 then ((fX7_findIn (mS m 3 0) 28 2 ((m.2.1 0) 6) r23.2), (mS m 3 0)) else ((fX7_findIn (mS m 3 0) 44 3 ((m.2.1 0) 7) r23.2), (mS m 3 0))))))))))
def sX7_find (m : Md) (z1 : Int32) : Prop := (((fX7_in (z1.toInt64) 0 2) = 0 → True) ∧ (¬ (fX7_in (z1.toInt64) 0 2) = 0 → ((sX7_find_41 z1 0 (m.1 3) (mS m 3 0) (fuU (m.1 3) 0) 0 (fX7_in ((m.1 3).toInt64) 1 6) ) ∧ bnd (fX7_find_41 z1 0 (m.1 3) (mS m 3 0) (fuU (m.1 3) 0) 0 (fX7_in ((m.1 3).toInt64) 1 6) ) (fun r16 => ((sX7_find_78 z1 r16.2 (m.1 3) (mS m 3 0) (fuU 6 0) 0 0 ) ∧ bnd (fX7_find_78 z1 r16.2 (m.1 3) (mS m 3 0) (fuU 6 0) 0 0 ) (fun r23 => ((r16.2 = 0 → True) ∧ (¬ r16.2 = 0 → ((z1 = 0 → ((sX7_findIn (mS m 3 0) 10 3 ((m.2.1 0) 5) r23.2) ∧ True)) ∧ (¬ z1 = 0 → ((z1 = 1 → ((sX7_findIn (mS m 3 0) 28 2 ((m.2.1 0) 6) r23.2) ∧ True)) ∧ (¬ z1 = 1 → ((sX7_findIn (mS m 3 0) 44 3 ((m.2.1 0) 7) r23.2) ∧ True)))))))))))))
set_option maxRecDepth 20000 in
theorem ctX7_find {l : Launch} {G : GM} {K : Nat → Option va_E} {h : List va_E} {m : Md} (hm : HM G K h m) (z1 : Int32) (hs : sX7_find m z1) : Ct l G mX7_find 1 0 0 [.ref (gz G + 221), .int z1] h (fun v h1 => ∃ r, (fX7_find m z1) = r ∧ v = some (.int r.1) ∧ HM G K h1 r.2) := by
  show Tr l G mX7_find 1 0 0 0 [(0, .ref (gz G + 221)), (1, .int z1)] [] h _
  unfold sX7_find at hs
  refine am_iload_n dX7_find_0 1 rfl ?_
  refine am_i2l (v := z1.toInt64) dX7_find_1 rfl ?_
  refine am_lconst (v := 0) dX7_find_2 (by decide) ?_
  refine am_ldc2 (v := 2) dX7_find_3 kKX7_361 ?_
  refine am_callS (As := [.long (z1.toInt64), .long 0, .long 2]) (rest := []) dX7_find_6 kMX7_56 rfl  rfl (Nat.le_of_ble_eq_true rfl) (d2 := 0) (by decide) (k2 := 0) (Nat.zero_le _) (u2 := 0) (Nat.zero_le _) (Nat.le_of_ble_eq_true rfl) (ctX7_in  (z1.toInt64) 0 2 ) (fun v1 h2 q3 => ?_)
  obtain ⟨rfl, rfl⟩ := q3
  refine am_if_ne dX7_find_9 (by decide : ((9 : Nat) : Int) + (6) = ((15 : Nat) : Int)) (fun c4 => ?_) (fun c4 => ?_)
  · have hs := hs.2 c4
    refine am_aload_n dX7_find_15 0 rfl ?_
    refine am_get (v := .int (m.1 3)) dX7_find_16 kGX7_219 (hmc221 (m := m) hm) rfl ?_
    refine am_istore_n dX7_find_19 (by decide) (lv' := [(2, .int (m.1 3)), (0, .ref (gz G + 221)), (1, .int z1)]) rfl ?_
    refine am_aload_n dX7_find_20 1 rfl ?_
    refine am_iconst (v := 0) dX7_find_21 (by decide) ?_
    refine am_put dX7_find_22 kFX7_219 (hmc221 (m := m) hm) (Nat.le_of_ble_eq_true rfl) rfl rfl ?_
    have w5 := hmS3 hm 0
    refine am_iload_n dX7_find_25 0 rfl ?_
    refine am_i2l (v := (m.1 3).toInt64) dX7_find_26 rfl ?_
    refine am_lconst (v := 1) dX7_find_27 (by decide) ?_
    refine am_ldc2 (v := 6) dX7_find_28 kKX7_363 ?_
    refine am_callS (As := [.long ((m.1 3).toInt64), .long 1, .long 6]) (rest := []) dX7_find_31 kMX7_56 rfl  rfl (Nat.le_of_ble_eq_true rfl) (d2 := 0) (by decide) (k2 := 0) (Nat.zero_le _) (u2 := 0) (Nat.zero_le _) (Nat.le_of_ble_eq_true rfl) (ctX7_in  ((m.1 3).toInt64) 1 6 ) (fun v6 h7 q8 => ?_)
    obtain ⟨rfl, rfl⟩ := q8
    refine am_istore_n dX7_find_34 (by decide) (lv' := [(3, .int (fX7_in ((m.1 3).toInt64) 1 6)), (2, .int (m.1 3)), (0, .ref (gz G + 221)), (1, .int z1)]) rfl ?_
    refine am_iconst (v := 0) dX7_find_35 (by decide) ?_
    refine am_istore dX7_find_36 (by decide) (lv' := [(4, .int 0), (3, .int (fX7_in ((m.1 3).toInt64) 1 6)), (2, .int (m.1 3)), (0, .ref (gz G + 221)), (1, .int z1)]) rfl ?_
    refine am_iconst (v := 0) dX7_find_38 (by decide) ?_
    refine am_istore dX7_find_39 (by decide) (lv' := [(5, .int 0), (4, .int 0), (3, .int (fX7_in ((m.1 3).toInt64) 1 6)), (2, .int (m.1 3)), (0, .ref (gz G + 221)), (1, .int z1)]) rfl ?_
    obtain ⟨i15, hs⟩ := hs
    refine wX7_find_41 z1 0 (m.1 3)  w5 (fuU (m.1 3) 0) 0 (fX7_in ((m.1 3).toInt64) 1 6) ivU_i i15 (fun r16 e17 => ?_)
    have hs := bnd_p e17 hs
    refine am_iconst (v := 0) dX7_find_75 (by decide) ?_
    refine am_istore dX7_find_76 (by decide) (lv' := [(5, .int 0), (4, .int 0), (3, .int r16.2), (2, .int (m.1 3)), (0, .ref (gz G + 221)), (1, .int z1)]) rfl ?_
    obtain ⟨i22, hs⟩ := hs
    refine wX7_find_78 z1 r16.2 (m.1 3)  w5 (fuU 6 0) 0 0 ivU_i i22 (fun r23 e24 => ?_)
    have hs := bnd_p e24 hs
    refine am_iload_n dX7_find_125 2 rfl ?_
    refine am_if_ne dX7_find_126 (by decide : ((126 : Nat) : Int) + (6) = ((132 : Nat) : Int)) (fun c25 => ?_) (fun c25 => ?_)
    · have hs := hs.2 c25
      refine am_iload_n dX7_find_132 5 rfl ?_
      refine am_if_ne dX7_find_133 (by decide : ((133 : Nat) : Int) + (21) = ((154 : Nat) : Int)) (fun c26 => ?_) (fun c26 => ?_)
      · have hs := hs.2 c26
        refine am_iload_n dX7_find_154 5 rfl ?_
        refine am_iconst (v := 1) dX7_find_155 (by decide) ?_
        refine am_icmp_ne dX7_find_156 (by decide : ((156 : Nat) : Int) + (22) = ((178 : Nat) : Int)) (fun c27 => ?_) (fun c27 => ?_)
        · have hs := hs.2 c27
          refine am_aload_n dX7_find_178 4 rfl ?_
          refine am_bipush (v := 44) dX7_find_179 (by decide) ?_
          refine am_iconst (v := 3) dX7_find_181 (by decide) ?_
          refine am_aload_n dX7_find_182 4 rfl ?_
          refine am_get (v := .ref (gz G + 222)) dX7_find_183 kGX7_13 (hmc221 (m := (mS m 3 0)) w5) rfl ?_
          refine am_bipush (v := 7) dX7_find_186 (by decide) ?_
          refine am_iald (f := (m.2.1 0)) dX7_find_188 (hmc222 (m := (mS m 3 0)) w5) (vp_lit (by decide)) ?_
          rw [tl7]
          refine am_iload dX7_find_189 1 rfl ?_
          obtain ⟨i28, hs⟩ := hs
          refine am_callV (As := [.int 44, .int 3, .int ((m.2.1 0) 7), .int r23.2]) (rest := []) dX7_find_191 kMX7_315 rfl (hmc221 (m := (mS m 3 0)) w5) rfl rfl (Nat.le_of_ble_eq_true rfl) (d2 := 0) (by decide) (k2 := 0) (Nat.zero_le _) (u2 := 0) (Nat.zero_le _) (Nat.le_of_ble_eq_true rfl) (ctX7_findIn (m := (mS m 3 0)) w5 44 3 ((m.2.1 0) 7) r23.2 i28) (fun v29 h30 q31 => ?_)
          obtain ⟨rfl, rfl⟩ := q31
          exact am_ireturn dX7_find_194 rfl rfl ⟨_, ifn c4 (bnd_eq e17 (bnd_eq e24 (ifn c25 (ifn c26 (ifn c27 (rfl)))))), rfl, w5⟩
        · have hs := hs.1 c27
          refine am_aload_n dX7_find_159 4 rfl ?_
          refine am_bipush (v := 28) dX7_find_160 (by decide) ?_
          refine am_iconst (v := 2) dX7_find_162 (by decide) ?_
          refine am_aload_n dX7_find_163 4 rfl ?_
          refine am_get (v := .ref (gz G + 222)) dX7_find_164 kGX7_13 (hmc221 (m := (mS m 3 0)) w5) rfl ?_
          refine am_bipush (v := 6) dX7_find_167 (by decide) ?_
          refine am_iald (f := (m.2.1 0)) dX7_find_169 (hmc222 (m := (mS m 3 0)) w5) (vp_lit (by decide)) ?_
          rw [tl6]
          refine am_iload dX7_find_170 1 rfl ?_
          obtain ⟨i32, hs⟩ := hs
          refine am_callV (As := [.int 28, .int 2, .int ((m.2.1 0) 6), .int r23.2]) (rest := []) dX7_find_172 kMX7_315 rfl (hmc221 (m := (mS m 3 0)) w5) rfl rfl (Nat.le_of_ble_eq_true rfl) (d2 := 0) (by decide) (k2 := 0) (Nat.zero_le _) (u2 := 0) (Nat.zero_le _) (Nat.le_of_ble_eq_true rfl) (ctX7_findIn (m := (mS m 3 0)) w5 28 2 ((m.2.1 0) 6) r23.2 i32) (fun v33 h34 q35 => ?_)
          obtain ⟨rfl, rfl⟩ := q35
          refine am_goto dX7_find_175 (by decide : ((175 : Nat) : Int) + (19) = ((194 : Nat) : Int)) ?_
          exact am_ireturn dX7_find_194 rfl rfl ⟨_, ifn c4 (bnd_eq e17 (bnd_eq e24 (ifn c25 (ifn c26 (ifp c27 (rfl)))))), rfl, w5⟩
      · have hs := hs.1 c26
        refine am_aload_n dX7_find_136 4 rfl ?_
        refine am_bipush (v := 10) dX7_find_137 (by decide) ?_
        refine am_iconst (v := 3) dX7_find_139 (by decide) ?_
        refine am_aload_n dX7_find_140 4 rfl ?_
        refine am_get (v := .ref (gz G + 222)) dX7_find_141 kGX7_13 (hmc221 (m := (mS m 3 0)) w5) rfl ?_
        refine am_iconst (v := 5) dX7_find_144 (by decide) ?_
        refine am_iald (f := (m.2.1 0)) dX7_find_145 (hmc222 (m := (mS m 3 0)) w5) (vp_lit (by decide)) ?_
        rw [tl5]
        refine am_iload dX7_find_146 1 rfl ?_
        obtain ⟨i36, hs⟩ := hs
        refine am_callV (As := [.int 10, .int 3, .int ((m.2.1 0) 5), .int r23.2]) (rest := []) dX7_find_148 kMX7_315 rfl (hmc221 (m := (mS m 3 0)) w5) rfl rfl (Nat.le_of_ble_eq_true rfl) (d2 := 0) (by decide) (k2 := 0) (Nat.zero_le _) (u2 := 0) (Nat.zero_le _) (Nat.le_of_ble_eq_true rfl) (ctX7_findIn (m := (mS m 3 0)) w5 10 3 ((m.2.1 0) 5) r23.2 i36) (fun v37 h38 q39 => ?_)
        obtain ⟨rfl, rfl⟩ := q39
        refine am_goto dX7_find_151 (by decide : ((151 : Nat) : Int) + (43) = ((194 : Nat) : Int)) ?_
        exact am_ireturn dX7_find_194 rfl rfl ⟨_, ifn c4 (bnd_eq e17 (bnd_eq e24 (ifn c25 (ifp c26 (rfl))))), rfl, w5⟩
    · have hs := hs.1 c25
      refine am_bipush (v := (-4)) dX7_find_129 (by decide) ?_
      exact am_ireturn dX7_find_131 rfl rfl ⟨_, ifn c4 (bnd_eq e17 (bnd_eq e24 (ifp c25 (rfl)))), rfl, w5⟩
  · have hs := hs.1 c4
    refine am_bipush (v := (-2)) dX7_find_12 (by decide) ?_
    exact am_ireturn dX7_find_14 rfl rfl ⟨_, ifp c4 (rfl), rfl, hm⟩

theorem dX7_write_0 : decode cX7_write 0 = .ok (.aload_n 0, 1) := by decide +kernel
theorem dX7_write_1 : decode cX7_write 1 = .ok (.getfield 45, 3) := by decide +kernel
theorem dX7_write_4 : decode cX7_write 4 = .ok (.aload_n 0, 1) := by decide +kernel
theorem dX7_write_5 : decode cX7_write 5 = .ok (.getfield 365, 3) := by decide +kernel
theorem dX7_write_8 : decode cX7_write 8 = .ok (.iload_n 1, 1) := by decide +kernel
theorem dX7_write_9 : decode cX7_write 9 = .ok (.i2b, 1) := by decide +kernel
theorem dX7_write_10 : decode cX7_write 10 = .ok (.bastore, 1) := by decide +kernel
theorem dX7_write_11 : decode cX7_write 11 = .ok (.aload_n 0, 1) := by decide +kernel
theorem dX7_write_12 : decode cX7_write 12 = .ok (.dup, 1) := by decide +kernel
theorem dX7_write_13 : decode cX7_write 13 = .ok (.getfield 365, 3) := by decide +kernel
theorem dX7_write_16 : decode cX7_write 16 = .ok (.iconst 1, 1) := by decide +kernel
theorem dX7_write_17 : decode cX7_write 17 = .ok (.iadd, 1) := by decide +kernel
theorem dX7_write_18 : decode cX7_write 18 = .ok (.putfield 365, 3) := by decide +kernel
theorem dX7_write_21 : decode cX7_write 21 = .ok (.return_, 1) := by decide +kernel
def fX7_write (m : Md) (z1 : Int32) : Md := (bnd (mA m 8 (upd (m.2.1 8) (m.1 12).toNatClampNeg (z1.toInt8.toInt32).toInt8.toInt32)) (fun r3 => (mS r3 12 ((r3.1 12) + 1))))
def sX7_write (m : Md) (z1 : Int32) : Prop := (vp_in (m.1 12) 2000 ∧ (bnd (mA m 8 (upd (m.2.1 8) (m.1 12).toNatClampNeg (z1.toInt8.toInt32).toInt8.toInt32)) (fun r3 => True)))
set_option maxRecDepth 20000 in
theorem ctX7_write {l : Launch} {G : GM} {K : Nat → Option va_E} {h : List va_E} {m : Md} (hm : HM G K h m) (z1 : Int32) (hs : sX7_write m z1) : Ct l G mX7_write 0 0 0 [.ref (gz G + 221), .int z1] h (fun v h1 => ∃ r, (fX7_write m z1) = r ∧ v = none ∧ HM G K h1 r) := by
  show Tr l G mX7_write 0 0 0 0 [(0, .ref (gz G + 221)), (1, .int z1)] [] h _
  unfold sX7_write at hs
  refine am_aload_n dX7_write_0 0 rfl ?_
  refine am_get (v := .ref (gz G + 230)) dX7_write_1 kGX7_45 (hmc221 (m := m) hm) rfl ?_
  refine am_aload_n dX7_write_4 0 rfl ?_
  refine am_get (v := .int (m.1 12)) dX7_write_5 kGX7_365 (hmc221 (m := m) hm) rfl ?_
  refine am_iload_n dX7_write_8 1 rfl ?_
  refine am_i2b (v := z1.toInt8.toInt32) dX7_write_9 rfl ?_
  obtain ⟨i1, hs⟩ := hs
  refine am_bast (f := (m.2.1 8)) dX7_write_10 (hmc230 (m := m) hm) i1 ?_
  have w2 := hmA8 hm (upd (m.2.1 8) (m.1 12).toNatClampNeg (z1.toInt8.toInt32).toInt8.toInt32)
  obtain ⟨r3, e4⟩ : ∃ x, (mA m 8 (upd (m.2.1 8) (m.1 12).toNatClampNeg (z1.toInt8.toInt32).toInt8.toInt32)) = x := ⟨_, rfl⟩
  have w5 := hm_eq e4 w2
  have hs := bnd_p e4 hs
  refine am_aload_n dX7_write_11 0 rfl ?_
  refine am_dup dX7_write_12 rfl ?_
  refine am_get (v := .int (r3.1 12)) dX7_write_13 kGX7_365 (hmc221 (m := r3) w5) rfl ?_
  refine am_iconst (v := 1) dX7_write_16 (by decide) ?_
  refine am_iadd dX7_write_17 ?_
  refine am_put dX7_write_18 kFX7_365 (hmc221 (m := r3) w5) (Nat.le_of_ble_eq_true rfl) rfl rfl ?_
  have w6 := hmS12 w5 ((r3.1 12) + 1)
  exact am_return dX7_write_21 rfl ⟨_, bnd_eq e4 (rfl), rfl, w6⟩

theorem dX7_writeNumber_0 : decode cX7_writeNumber 0 = .ok (.aload_n 0, 1) := by decide +kernel
theorem dX7_writeNumber_1 : decode cX7_writeNumber 1 = .ok (.bipush 32, 2) := by decide +kernel
theorem dX7_writeNumber_3 : decode cX7_writeNumber 3 = .ok (.invokevirtual 368, 3) := by decide +kernel
theorem dX7_writeNumber_6 : decode cX7_writeNumber 6 = .ok (.iconst 1, 1) := by decide +kernel
theorem dX7_writeNumber_7 : decode cX7_writeNumber 7 = .ok (.istore_n 2, 1) := by decide +kernel
theorem dX7_writeNumber_8 : decode cX7_writeNumber 8 = .ok (.iload_n 1, 1) := by decide +kernel
theorem dX7_writeNumber_9 : decode cX7_writeNumber 9 = .ok (.iload_n 2, 1) := by decide +kernel
theorem dX7_writeNumber_10 : decode cX7_writeNumber 10 = .ok (.idiv, 1) := by decide +kernel
theorem dX7_writeNumber_11 : decode cX7_writeNumber 11 = .ok (.bipush 10, 2) := by decide +kernel
theorem dX7_writeNumber_13 : decode cX7_writeNumber 13 = .ok (.if_icmp .lt 11, 3) := by decide +kernel
theorem dX7_writeNumber_16 : decode cX7_writeNumber 16 = .ok (.iload_n 2, 1) := by decide +kernel
theorem dX7_writeNumber_17 : decode cX7_writeNumber 17 = .ok (.bipush 10, 2) := by decide +kernel
theorem dX7_writeNumber_19 : decode cX7_writeNumber 19 = .ok (.imul, 1) := by decide +kernel
theorem dX7_writeNumber_20 : decode cX7_writeNumber 20 = .ok (.istore_n 2, 1) := by decide +kernel
theorem dX7_writeNumber_21 : decode cX7_writeNumber 21 = .ok (.goto (-13), 3) := by decide +kernel
theorem dX7_writeNumber_24 : decode cX7_writeNumber 24 = .ok (.iload_n 2, 1) := by decide +kernel
theorem dX7_writeNumber_25 : decode cX7_writeNumber 25 = .ok (.istore_n 3, 1) := by decide +kernel
theorem dX7_writeNumber_26 : decode cX7_writeNumber 26 = .ok (.iload_n 3, 1) := by decide +kernel
theorem dX7_writeNumber_27 : decode cX7_writeNumber 27 = .ok (.ifCond .le 24, 3) := by decide +kernel
theorem dX7_writeNumber_30 : decode cX7_writeNumber 30 = .ok (.aload_n 0, 1) := by decide +kernel
theorem dX7_writeNumber_31 : decode cX7_writeNumber 31 = .ok (.bipush 48, 2) := by decide +kernel
theorem dX7_writeNumber_33 : decode cX7_writeNumber 33 = .ok (.iload_n 1, 1) := by decide +kernel
theorem dX7_writeNumber_34 : decode cX7_writeNumber 34 = .ok (.iload_n 3, 1) := by decide +kernel
theorem dX7_writeNumber_35 : decode cX7_writeNumber 35 = .ok (.idiv, 1) := by decide +kernel
theorem dX7_writeNumber_36 : decode cX7_writeNumber 36 = .ok (.bipush 10, 2) := by decide +kernel
theorem dX7_writeNumber_38 : decode cX7_writeNumber 38 = .ok (.irem, 1) := by decide +kernel
theorem dX7_writeNumber_39 : decode cX7_writeNumber 39 = .ok (.iadd, 1) := by decide +kernel
theorem dX7_writeNumber_40 : decode cX7_writeNumber 40 = .ok (.invokevirtual 368, 3) := by decide +kernel
theorem dX7_writeNumber_43 : decode cX7_writeNumber 43 = .ok (.iload_n 3, 1) := by decide +kernel
theorem dX7_writeNumber_44 : decode cX7_writeNumber 44 = .ok (.bipush 10, 2) := by decide +kernel
theorem dX7_writeNumber_46 : decode cX7_writeNumber 46 = .ok (.idiv, 1) := by decide +kernel
theorem dX7_writeNumber_47 : decode cX7_writeNumber 47 = .ok (.istore_n 3, 1) := by decide +kernel
theorem dX7_writeNumber_48 : decode cX7_writeNumber 48 = .ok (.goto (-22), 3) := by decide +kernel
theorem dX7_writeNumber_51 : decode cX7_writeNumber 51 = .ok (.return_, 1) := by decide +kernel
def fX7_writeNumber_8 (z1 : Int32)  (m : Md) : Nat → Int32 → Int32
  | 0, x2 => x2
  | fu + 1, x2 => (if (z1 / x2) < 10 then x2 else (fX7_writeNumber_8 z1  m fu (x2 * 10) ))
def sX7_writeNumber_8 (z1 : Int32)  (m : Md) : Nat → Int32 → Prop
  | 0, _ => False
  | fu + 1, x2 => (¬ x2 = 0 ∧ (((z1 / x2) < 10 → True) ∧ (¬ (z1 / x2) < 10 → (sX7_writeNumber_8 z1  m fu (x2 * 10) ))))
set_option maxRecDepth 20000 in
theorem wX7_writeNumber_8 {l : Launch} {G : GM} {K : Nat → Option va_E} (z1 : Int32)   {h : List va_E} {m : Md} (hm : HM G K h m) {Q : Option Value → List va_E → Prop} : ∀ (fu : Nat) (x2 : Int32) (hs : sX7_writeNumber_8 z1  m fu x2 ) (kx : ∀ (r : Int32), (fX7_writeNumber_8 z1  m fu x2 ) = r → Tr l G mX7_writeNumber 1 0 0 24 [(2, .int r), (0, .ref (gz G + 221)), (1, .int z1)] [] h Q), Tr l G mX7_writeNumber 1 0 0 8 [(2, .int x2), (0, .ref (gz G + 221)), (1, .int z1)] [] h Q := by
  intro fu
  induction fu with
  | zero => intro x2 hs; intros; exact (show False from hs).elim
  | succ fu ih =>
    intro x2  hs    kx
    rw [sX7_writeNumber_8] at hs
    refine am_iload_n dX7_writeNumber_8 2 rfl ?_
    refine am_iload_n dX7_writeNumber_9 0 rfl ?_
    obtain ⟨i8, hs⟩ := hs
    refine am_idiv dX7_writeNumber_10 i8 ?_
    refine am_bipush (v := 10) dX7_writeNumber_11 (by decide) ?_
    refine am_icmp_lt dX7_writeNumber_13 (by decide : ((13 : Nat) : Int) + (11) = ((24 : Nat) : Int)) (fun c9 => ?_) (fun c9 => ?_)
    · have hs := hs.1 c9
      exact kx _ (ifp c9 (rfl))
    · have hs := hs.2 c9
      refine am_iload_n dX7_writeNumber_16 0 rfl ?_
      refine am_bipush (v := 10) dX7_writeNumber_17 (by decide) ?_
      refine am_imul dX7_writeNumber_19 ?_
      refine am_istore_n dX7_writeNumber_20 (by decide) (lv' := [(2, .int (x2 * 10)), (0, .ref (gz G + 221)), (1, .int z1)]) rfl ?_
      refine am_goto dX7_writeNumber_21 (by decide : ((21 : Nat) : Int) + (-13) = ((8 : Nat) : Int)) ?_
      exact ih (x2 * 10)  hs (fun r e => kx r (Eq.trans (ifn c9 (rfl)) e))
def fX7_writeNumber_26 (z1 : Int32)  : Nat → Int32 → Md → Int32 × Md
  | 0, x3, y => (x3, y)
  | fu + 1, x3, y => (if x3 ≤ 0 then (x3, y) else (bnd (fX7_write y ((48 : Int32) + ((z1 / x3) - (z1 / x3) / 10 * 10))) (fun r18 => (fX7_writeNumber_26 z1   fu (x3 / 10) r18))))
def sX7_writeNumber_26 (z1 : Int32)  : Nat → Int32 → Md → Prop
  | 0, _, _ => False
  | fu + 1, x3, y => ((x3 ≤ 0 → True) ∧ (¬ x3 ≤ 0 → ((sX7_write y ((48 : Int32) + ((z1 / x3) - (z1 / x3) / 10 * 10))) ∧ (bnd (fX7_write y ((48 : Int32) + ((z1 / x3) - (z1 / x3) / 10 * 10))) (fun r18 => (sX7_writeNumber_26 z1   fu (x3 / 10) r18))))))
set_option maxRecDepth 20000 in
theorem wX7_writeNumber_26 {l : Launch} {G : GM} {K : Nat → Option va_E} (z1 : Int32)   {Q : Option Value → List va_E → Prop} : ∀ (fu : Nat) (x3 : Int32) (y : Md) (hs : sX7_writeNumber_26 z1   fu x3 y) {h : List va_E} (gy : HM G K h y) (kx : ∀ (h1 : List va_E) (r : Int32 × Md), (fX7_writeNumber_26 z1   fu x3 y) = r → HM G K h1 r.2 → Tr l G mX7_writeNumber 1 0 0 51 [(3, .int r.1), (0, .ref (gz G + 221)), (1, .int z1)] [] h1 Q), Tr l G mX7_writeNumber 1 0 0 26 [(3, .int x3), (0, .ref (gz G + 221)), (1, .int z1)] [] h Q := by
  intro fu
  induction fu with
  | zero => intro x3 y hs; intros; exact (show False from hs).elim
  | succ fu ih =>
    intro x3 y  hs  h gy  kx
    rw [sX7_writeNumber_26] at hs
    refine am_iload_n dX7_writeNumber_26 0 rfl ?_
    refine am_if_le dX7_writeNumber_27 (by decide : ((27 : Nat) : Int) + (24) = ((51 : Nat) : Int)) (fun c13 => ?_) (fun c13 => ?_)
    · have hs := hs.1 c13
      exact kx _ _ (ifp c13 (rfl)) gy 
    · have hs := hs.2 c13
      refine am_aload_n dX7_writeNumber_30 1 rfl ?_
      refine am_bipush (v := 48) dX7_writeNumber_31 (by decide) ?_
      refine am_iload_n dX7_writeNumber_33 2 rfl ?_
      refine am_iload_n dX7_writeNumber_34 0 rfl ?_
      refine am_idiv dX7_writeNumber_35 (nz_of c13) ?_
      refine am_bipush (v := 10) dX7_writeNumber_36 (by decide) ?_
      refine am_irem dX7_writeNumber_38 (by decide) ?_
      refine am_iadd dX7_writeNumber_39 ?_
      obtain ⟨i14, hs⟩ := hs
      refine am_callV (As := [.int ((48 : Int32) + ((z1 / x3) - (z1 / x3) / 10 * 10))]) (rest := []) dX7_writeNumber_40 kMX7_368 rfl (hmc221 (m := y) gy) rfl rfl (Nat.le_of_ble_eq_true rfl) (d2 := 0) (by decide) (k2 := 0) (Nat.zero_le _) (u2 := 0) (Nat.zero_le _) (Nat.le_of_ble_eq_true rfl) (ctX7_write (m := y) gy ((48 : Int32) + ((z1 / x3) - (z1 / x3) / 10 * 10)) i14) (fun v15 h16 q17 => ?_)
      obtain ⟨r18, e19, rfl, w20⟩ := q17
      have hs := bnd_p e19 hs
      refine am_iload_n dX7_writeNumber_43 0 rfl ?_
      refine am_bipush (v := 10) dX7_writeNumber_44 (by decide) ?_
      refine am_idiv dX7_writeNumber_46 (by decide) ?_
      refine am_istore_n dX7_writeNumber_47 (by decide) (lv' := [(3, .int (x3 / 10)), (0, .ref (gz G + 221)), (1, .int z1)]) rfl ?_
      refine am_goto dX7_writeNumber_48 (by decide : ((48 : Nat) : Int) + (-22) = ((26 : Nat) : Int)) ?_
      exact ih (x3 / 10) r18  hs w20  (fun h1 r e => kx h1 r (Eq.trans (ifn c13 (bnd_eq e19 (rfl))) e))
def fX7_writeNumber (m : Md) (z1 : Int32) : Md := (bnd (fX7_write m 32) (fun r5 => (bnd (fX7_writeNumber_8 z1  r5 14 1 ) (fun r11 => (bnd (fX7_writeNumber_26 z1   14 r11 r5) (fun r22 => r22.2))))))
def sX7_writeNumber (m : Md) (z1 : Int32) : Prop := ((sX7_write m 32) ∧ (bnd (fX7_write m 32) (fun r5 => ((sX7_writeNumber_8 z1  r5 14 1 ) ∧ bnd (fX7_writeNumber_8 z1  r5 14 1 ) (fun r11 => ((sX7_writeNumber_26 z1   14 r11 r5) ∧ bnd (fX7_writeNumber_26 z1   14 r11 r5) (fun r22 => True)))))))
set_option maxRecDepth 20000 in
theorem ctX7_writeNumber {l : Launch} {G : GM} {K : Nat → Option va_E} {h : List va_E} {m : Md} (hm : HM G K h m) (z1 : Int32) (hs : sX7_writeNumber m z1) : Ct l G mX7_writeNumber 1 0 0 [.ref (gz G + 221), .int z1] h (fun v h1 => ∃ r, (fX7_writeNumber m z1) = r ∧ v = none ∧ HM G K h1 r) := by
  show Tr l G mX7_writeNumber 1 0 0 0 [(0, .ref (gz G + 221)), (1, .int z1)] [] h _
  unfold sX7_writeNumber at hs
  refine am_aload_n dX7_writeNumber_0 0 rfl ?_
  refine am_bipush (v := 32) dX7_writeNumber_1 (by decide) ?_
  obtain ⟨i1, hs⟩ := hs
  refine am_callV (As := [.int 32]) (rest := []) dX7_writeNumber_3 kMX7_368 rfl (hmc221 (m := m) hm) rfl rfl (Nat.le_of_ble_eq_true rfl) (d2 := 0) (by decide) (k2 := 0) (Nat.zero_le _) (u2 := 0) (Nat.zero_le _) (Nat.le_of_ble_eq_true rfl) (ctX7_write (m := m) hm 32 i1) (fun v2 h3 q4 => ?_)
  obtain ⟨r5, e6, rfl, w7⟩ := q4
  have hs := bnd_p e6 hs
  refine am_iconst (v := 1) dX7_writeNumber_6 (by decide) ?_
  refine am_istore_n dX7_writeNumber_7 (by decide) (lv' := [(2, .int 1), (0, .ref (gz G + 221)), (1, .int z1)]) rfl ?_
  obtain ⟨i10, hs⟩ := hs
  refine wX7_writeNumber_8 z1   w7 14 1  i10 (fun r11 e12 => ?_)
  have hs := bnd_p e12 hs
  refine am_iload_n dX7_writeNumber_24 0 rfl ?_
  refine am_istore_n dX7_writeNumber_25 (by decide) (lv' := [(3, .int r11), (2, .int r11), (0, .ref (gz G + 221)), (1, .int z1)]) rfl ?_
  refine am_lv (lv' := [(3, .int r11), (0, .ref (gz G + 221)), (1, .int z1)]) [0, 2, 3] rfl ?_
  obtain ⟨i21, hs⟩ := hs
  refine wX7_writeNumber_26 z1   14 r11 r5  i21 w7  (fun h24 r22 e23 w25  => ?_)
  have hs := bnd_p e23 hs
  exact am_return dX7_writeNumber_51 rfl ⟨_, bnd_eq e6 (bnd_eq e12 (bnd_eq e23 (rfl))), rfl, w25⟩

theorem dX7_letterOf_0 : decode cX7_letterOf 0 = .ok (.iload_n 0, 1) := by decide +kernel
theorem dX7_letterOf_1 : decode cX7_letterOf 1 = .ok (.istore_n 2, 1) := by decide +kernel
theorem dX7_letterOf_2 : decode cX7_letterOf 2 = .ok (.iload_n 1, 1) := by decide +kernel
theorem dX7_letterOf_3 : decode cX7_letterOf 3 = .ok (.istore_n 3, 1) := by decide +kernel
theorem dX7_letterOf_4 : decode cX7_letterOf 4 = .ok (.iload_n 3, 1) := by decide +kernel
theorem dX7_letterOf_5 : decode cX7_letterOf 5 = .ok (.iconst 5, 1) := by decide +kernel
theorem dX7_letterOf_6 : decode cX7_letterOf 6 = .ok (.if_icmp .ge 14, 3) := by decide +kernel
theorem dX7_letterOf_9 : decode cX7_letterOf 9 = .ok (.iload_n 2, 1) := by decide +kernel
theorem dX7_letterOf_10 : decode cX7_letterOf 10 = .ok (.bipush 27, 2) := by decide +kernel
theorem dX7_letterOf_12 : decode cX7_letterOf 12 = .ok (.idiv, 1) := by decide +kernel
theorem dX7_letterOf_13 : decode cX7_letterOf 13 = .ok (.istore_n 2, 1) := by decide +kernel
theorem dX7_letterOf_14 : decode cX7_letterOf 14 = .ok (.iinc 3 1, 3) := by decide +kernel
theorem dX7_letterOf_17 : decode cX7_letterOf 17 = .ok (.goto (-13), 3) := by decide +kernel
theorem dX7_letterOf_20 : decode cX7_letterOf 20 = .ok (.iload_n 2, 1) := by decide +kernel
theorem dX7_letterOf_21 : decode cX7_letterOf 21 = .ok (.bipush 27, 2) := by decide +kernel
theorem dX7_letterOf_23 : decode cX7_letterOf 23 = .ok (.irem, 1) := by decide +kernel
theorem dX7_letterOf_24 : decode cX7_letterOf 24 = .ok (.ireturn, 1) := by decide +kernel
def fX7_letterOf_4 (z1 : Int32) (z2 : Int32)  : Nat → Int32 → Int32 → Int32 × Int32
  | 0, x3, x2 => (x3, x2)
  | fu + 1, x3, x2 => (if 5 ≤ x3 then (x3, x2) else (fX7_letterOf_4 z1 z2   fu (x3 + 1) (x2 / 27) ))
set_option maxRecDepth 20000 in
theorem wX7_letterOf_4 {l : Launch} {G : GM} {h : List va_E} (z1 : Int32) (z2 : Int32)    {Q : Option Value → List va_E → Prop} : ∀ (fu : Nat) (x3 x2 : Int32) (iv : ivU 5 x3 fu) (kx : ∀ (r : Int32 × Int32), (fX7_letterOf_4 z1 z2   fu x3 x2 ) = r → Tr l G mX7_letterOf 0 0 0 20 [(3, .int r.1), (2, .int r.2)] [] h Q), Tr l G mX7_letterOf 0 0 0 4 [(3, .int x3), (2, .int x2)] [] h Q := by
  intro fu
  induction fu with
  | zero => intro x3 x2 iv; intros; exact absurd iv ivU_0
  | succ fu ih =>
    intro x3 x2 iv     kx
    refine am_iload_n dX7_letterOf_4 0 rfl ?_
    refine am_iconst (v := 5) dX7_letterOf_5 (by decide) ?_
    refine am_icmp_ge dX7_letterOf_6 (by decide : ((6 : Nat) : Int) + (14) = ((20 : Nat) : Int)) (fun c1 => ?_) (fun c1 => ?_)
    · exact kx _ (Eq.trans (if_pos c1) (rfl))
    · refine am_iload_n dX7_letterOf_9 1 rfl ?_
      refine am_bipush (v := 27) dX7_letterOf_10 (by decide) ?_
      refine am_idiv dX7_letterOf_12 (by decide) ?_
      refine am_istore_n dX7_letterOf_13 (by decide) (lv' := [(2, .int (x2 / 27)), (3, .int x3)]) rfl ?_
      refine am_iinc (v := (x3 + 1)) dX7_letterOf_14 1 rfl rfl (by decide) (lv' := [(3, .int (x3 + 1)), (2, .int (x2 / 27))]) rfl ?_
      refine am_goto dX7_letterOf_17 (by decide : ((17 : Nat) : Int) + (-13) = ((4 : Nat) : Int)) ?_
      exact ih (x3 + 1) (x2 / 27) (ivU_s c1 iv) (fun r e => kx r (Eq.trans (Eq.trans (if_neg c1) (rfl)) e))
def fX7_letterOf (z1 : Int32) (z2 : Int32) : Int32 := (bnd (fX7_letterOf_4 z1 z2   (fuU 5 z2) z2 z1 ) (fun r2 => (r2.2 - r2.2 / 27 * 27)))
set_option maxRecDepth 20000 in
theorem ctX7_letterOf {l : Launch} {G : GM} {h : List va_E} (z1 : Int32) (z2 : Int32) : Ct l G mX7_letterOf 0 0 0 [.int z1, .int z2] h (fun v h1 => v = some (.int (fX7_letterOf z1 z2)) ∧ h1 = h) := by
  show Tr l G mX7_letterOf 0 0 0 0 [(0, .int z1), (1, .int z2)] [] h _
  refine am_iload_n dX7_letterOf_0 0 rfl ?_
  refine am_istore_n dX7_letterOf_1 (by decide) (lv' := [(2, .int z1), (0, .int z1), (1, .int z2)]) rfl ?_
  refine am_iload_n dX7_letterOf_2 2 rfl ?_
  refine am_istore_n dX7_letterOf_3 (by decide) (lv' := [(3, .int z2), (2, .int z1), (0, .int z1), (1, .int z2)]) rfl ?_
  refine am_lv (lv' := [(3, .int z2), (2, .int z1)]) [0, 1] rfl ?_
  refine wX7_letterOf_4 z1 z2    (fuU 5 z2) z2 z1 ivU_i (fun r2 e3 => ?_)
  refine am_iload_n dX7_letterOf_20 1 rfl ?_
  refine am_bipush (v := 27) dX7_letterOf_21 (by decide) ?_
  refine am_irem dX7_letterOf_23 (by decide) ?_
  rw [show (fX7_letterOf z1 z2) = (r2.2 - r2.2 / 27 * 27) from bnd_eq e3 (rfl)]
  exact am_ireturn dX7_letterOf_24 rfl rfl ⟨rfl, rfl⟩

theorem dX7_writeName_0 : decode cX7_writeName 0 = .ok (.aload_n 0, 1) := by decide +kernel
theorem dX7_writeName_1 : decode cX7_writeName 1 = .ok (.bipush 32, 2) := by decide +kernel
theorem dX7_writeName_3 : decode cX7_writeName 3 = .ok (.invokevirtual 368, 3) := by decide +kernel
theorem dX7_writeName_6 : decode cX7_writeName 6 = .ok (.iconst 0, 1) := by decide +kernel
theorem dX7_writeName_7 : decode cX7_writeName 7 = .ok (.istore_n 2, 1) := by decide +kernel
theorem dX7_writeName_8 : decode cX7_writeName 8 = .ok (.iload_n 2, 1) := by decide +kernel
theorem dX7_writeName_9 : decode cX7_writeName 9 = .ok (.bipush 6, 2) := by decide +kernel
theorem dX7_writeName_11 : decode cX7_writeName 11 = .ok (.if_icmp .ge 31, 3) := by decide +kernel
theorem dX7_writeName_14 : decode cX7_writeName 14 = .ok (.iload_n 1, 1) := by decide +kernel
theorem dX7_writeName_15 : decode cX7_writeName 15 = .ok (.iload_n 2, 1) := by decide +kernel
theorem dX7_writeName_16 : decode cX7_writeName 16 = .ok (.invokestatic 371, 3) := by decide +kernel
theorem dX7_writeName_19 : decode cX7_writeName 19 = .ok (.ifCond .le 17, 3) := by decide +kernel
theorem dX7_writeName_22 : decode cX7_writeName 22 = .ok (.aload_n 0, 1) := by decide +kernel
theorem dX7_writeName_23 : decode cX7_writeName 23 = .ok (.bipush 97, 2) := by decide +kernel
theorem dX7_writeName_25 : decode cX7_writeName 25 = .ok (.iload_n 1, 1) := by decide +kernel
theorem dX7_writeName_26 : decode cX7_writeName 26 = .ok (.iload_n 2, 1) := by decide +kernel
theorem dX7_writeName_27 : decode cX7_writeName 27 = .ok (.invokestatic 371, 3) := by decide +kernel
theorem dX7_writeName_30 : decode cX7_writeName 30 = .ok (.iadd, 1) := by decide +kernel
theorem dX7_writeName_31 : decode cX7_writeName 31 = .ok (.iconst 1, 1) := by decide +kernel
theorem dX7_writeName_32 : decode cX7_writeName 32 = .ok (.isub, 1) := by decide +kernel
theorem dX7_writeName_33 : decode cX7_writeName 33 = .ok (.invokevirtual 368, 3) := by decide +kernel
theorem dX7_writeName_36 : decode cX7_writeName 36 = .ok (.iinc 2 1, 3) := by decide +kernel
theorem dX7_writeName_39 : decode cX7_writeName 39 = .ok (.goto (-31), 3) := by decide +kernel
theorem dX7_writeName_42 : decode cX7_writeName 42 = .ok (.return_, 1) := by decide +kernel
def fX7_writeName_8 (z1 : Int32)  : Nat → Int32 → Md → Int32 × Md
  | 0, x2, y => (x2, y)
  | fu + 1, x2, y => (if 6 ≤ x2 then (x2, y) else (if (fX7_letterOf z1 x2) ≤ 0 then (fX7_writeName_8 z1   fu (x2 + 1) y) else (bnd (fX7_write y (((97 : Int32) + (fX7_letterOf z1 x2)) - 1)) (fun r20 => (fX7_writeName_8 z1   fu (x2 + 1) r20)))))
def sX7_writeName_8 (z1 : Int32)  : Nat → Int32 → Md → Prop
  | 0, _, _ => True
  | fu + 1, x2, y => ((6 ≤ x2 → True) ∧ (¬ 6 ≤ x2 → (((fX7_letterOf z1 x2) ≤ 0 → (sX7_writeName_8 z1   fu (x2 + 1) y)) ∧ (¬ (fX7_letterOf z1 x2) ≤ 0 → ((sX7_write y (((97 : Int32) + (fX7_letterOf z1 x2)) - 1)) ∧ (bnd (fX7_write y (((97 : Int32) + (fX7_letterOf z1 x2)) - 1)) (fun r20 => (sX7_writeName_8 z1   fu (x2 + 1) r20))))))))
set_option maxRecDepth 20000 in
theorem wX7_writeName_8 {l : Launch} {G : GM} {K : Nat → Option va_E} (z1 : Int32)   {Q : Option Value → List va_E → Prop} : ∀ (fu : Nat) (x2 : Int32) (y : Md) (iv : ivU 6 x2 fu) (hs : sX7_writeName_8 z1   fu x2 y) {h : List va_E} (gy : HM G K h y) (kx : ∀ (h1 : List va_E) (r : Int32 × Md), (fX7_writeName_8 z1   fu x2 y) = r → HM G K h1 r.2 → Tr l G mX7_writeName 1 0 0 42 [(2, .int r.1), (0, .ref (gz G + 221)), (1, .int z1)] [] h1 Q), Tr l G mX7_writeName 1 0 0 8 [(2, .int x2), (0, .ref (gz G + 221)), (1, .int z1)] [] h Q := by
  intro fu
  induction fu with
  | zero => intro x2 y iv; intros; exact absurd iv ivU_0
  | succ fu ih =>
    intro x2 y iv hs  h gy  kx
    rw [sX7_writeName_8] at hs
    refine am_iload_n dX7_writeName_8 0 rfl ?_
    refine am_bipush (v := 6) dX7_writeName_9 (by decide) ?_
    refine am_icmp_ge dX7_writeName_11 (by decide : ((11 : Nat) : Int) + (31) = ((42 : Nat) : Int)) (fun c8 => ?_) (fun c8 => ?_)
    · have hs := hs.1 c8
      exact kx _ _ (ifp c8 (rfl)) gy 
    · have hs := hs.2 c8
      refine am_iload_n dX7_writeName_14 2 rfl ?_
      refine am_iload_n dX7_writeName_15 0 rfl ?_
      refine am_callS (As := [.int z1, .int x2]) (rest := []) dX7_writeName_16 kMX7_371 rfl  rfl (Nat.le_of_ble_eq_true rfl) (d2 := 0) (by decide) (k2 := 0) (Nat.zero_le _) (u2 := 0) (Nat.zero_le _) (Nat.le_of_ble_eq_true rfl) (ctX7_letterOf  z1 x2 ) (fun v9 h10 q11 => ?_)
      obtain ⟨rfl, rfl⟩ := q11
      refine am_if_le dX7_writeName_19 (by decide : ((19 : Nat) : Int) + (17) = ((36 : Nat) : Int)) (fun c12 => ?_) (fun c12 => ?_)
      · have hs := hs.1 c12
        refine am_iinc (v := (x2 + 1)) dX7_writeName_36 0 rfl rfl (by decide) (lv' := [(2, .int (x2 + 1)), (0, .ref (gz G + 221)), (1, .int z1)]) rfl ?_
        refine am_goto dX7_writeName_39 (by decide : ((39 : Nat) : Int) + (-31) = ((8 : Nat) : Int)) ?_
        exact ih (x2 + 1) y (ivU_s c8 iv) hs gy  (fun h1 r e => kx h1 r (Eq.trans (ifn c8 (ifp c12 (rfl))) e))
      · have hs := hs.2 c12
        refine am_aload_n dX7_writeName_22 1 rfl ?_
        refine am_bipush (v := 97) dX7_writeName_23 (by decide) ?_
        refine am_iload_n dX7_writeName_25 2 rfl ?_
        refine am_iload_n dX7_writeName_26 0 rfl ?_
        refine am_callS (As := [.int z1, .int x2]) (rest := [.int 97, .ref (gz G + 221)]) dX7_writeName_27 kMX7_371 rfl  rfl (Nat.le_of_ble_eq_true rfl) (d2 := 0) (by decide) (k2 := 0) (Nat.zero_le _) (u2 := 0) (Nat.zero_le _) (Nat.le_of_ble_eq_true rfl) (ctX7_letterOf  z1 x2 ) (fun v13 h14 q15 => ?_)
        obtain ⟨rfl, rfl⟩ := q15
        refine am_iadd dX7_writeName_30 ?_
        refine am_iconst (v := 1) dX7_writeName_31 (by decide) ?_
        refine am_isub dX7_writeName_32 ?_
        obtain ⟨i16, hs⟩ := hs
        refine am_callV (As := [.int (((97 : Int32) + (fX7_letterOf z1 x2)) - 1)]) (rest := []) dX7_writeName_33 kMX7_368 rfl (hmc221 (m := y) gy) rfl rfl (Nat.le_of_ble_eq_true rfl) (d2 := 0) (by decide) (k2 := 0) (Nat.zero_le _) (u2 := 0) (Nat.zero_le _) (Nat.le_of_ble_eq_true rfl) (ctX7_write (m := y) gy (((97 : Int32) + (fX7_letterOf z1 x2)) - 1) i16) (fun v17 h18 q19 => ?_)
        obtain ⟨r20, e21, rfl, w22⟩ := q19
        have hs := bnd_p e21 hs
        refine am_iinc (v := (x2 + 1)) dX7_writeName_36 0 rfl rfl (by decide) (lv' := [(2, .int (x2 + 1)), (0, .ref (gz G + 221)), (1, .int z1)]) rfl ?_
        refine am_goto dX7_writeName_39 (by decide : ((39 : Nat) : Int) + (-31) = ((8 : Nat) : Int)) ?_
        exact ih (x2 + 1) r20 (ivU_s c8 iv) hs w22  (fun h1 r e => kx h1 r (Eq.trans (ifn c8 (ifn c12 (bnd_eq e21 (rfl)))) e))
def fX7_writeName (m : Md) (z1 : Int32) : Md := (bnd (fX7_write m 32) (fun r5 => (bnd (fX7_writeName_8 z1   (fuU 6 0) 0 r5) (fun r24 => r24.2))))
def sX7_writeName (m : Md) (z1 : Int32) : Prop := ((sX7_write m 32) ∧ (bnd (fX7_write m 32) (fun r5 => ((sX7_writeName_8 z1   (fuU 6 0) 0 r5) ∧ bnd (fX7_writeName_8 z1   (fuU 6 0) 0 r5) (fun r24 => True)))))
set_option maxRecDepth 20000 in
theorem ctX7_writeName {l : Launch} {G : GM} {K : Nat → Option va_E} {h : List va_E} {m : Md} (hm : HM G K h m) (z1 : Int32) (hs : sX7_writeName m z1) : Ct l G mX7_writeName 1 0 0 [.ref (gz G + 221), .int z1] h (fun v h1 => ∃ r, (fX7_writeName m z1) = r ∧ v = none ∧ HM G K h1 r) := by
  show Tr l G mX7_writeName 1 0 0 0 [(0, .ref (gz G + 221)), (1, .int z1)] [] h _
  unfold sX7_writeName at hs
  refine am_aload_n dX7_writeName_0 0 rfl ?_
  refine am_bipush (v := 32) dX7_writeName_1 (by decide) ?_
  obtain ⟨i1, hs⟩ := hs
  refine am_callV (As := [.int 32]) (rest := []) dX7_writeName_3 kMX7_368 rfl (hmc221 (m := m) hm) rfl rfl (Nat.le_of_ble_eq_true rfl) (d2 := 0) (by decide) (k2 := 0) (Nat.zero_le _) (u2 := 0) (Nat.zero_le _) (Nat.le_of_ble_eq_true rfl) (ctX7_write (m := m) hm 32 i1) (fun v2 h3 q4 => ?_)
  obtain ⟨r5, e6, rfl, w7⟩ := q4
  have hs := bnd_p e6 hs
  refine am_iconst (v := 0) dX7_writeName_6 (by decide) ?_
  refine am_istore_n dX7_writeName_7 (by decide) (lv' := [(2, .int 0), (0, .ref (gz G + 221)), (1, .int z1)]) rfl ?_
  obtain ⟨i23, hs⟩ := hs
  refine wX7_writeName_8 z1   (fuU 6 0) 0 r5 ivU_i i23 w7  (fun h26 r24 e25 w27  => ?_)
  have hs := bnd_p e25 hs
  exact am_return dX7_writeName_42 rfl ⟨_, bnd_eq e6 (bnd_eq e25 (rfl)), rfl, w27⟩

theorem dX7_writeNumbers_0 : decode cX7_writeNumbers 0 = .ok (.iconst 0, 1) := by decide +kernel
theorem dX7_writeNumbers_1 : decode cX7_writeNumbers 1 = .ok (.istore_n 3, 1) := by decide +kernel
theorem dX7_writeNumbers_2 : decode cX7_writeNumbers 2 = .ok (.iload_n 3, 1) := by decide +kernel
theorem dX7_writeNumbers_3 : decode cX7_writeNumbers 3 = .ok (.iload_n 2, 1) := by decide +kernel
theorem dX7_writeNumbers_4 : decode cX7_writeNumbers 4 = .ok (.if_icmp .ge 21, 3) := by decide +kernel
theorem dX7_writeNumbers_7 : decode cX7_writeNumbers 7 = .ok (.aload_n 0, 1) := by decide +kernel
theorem dX7_writeNumbers_8 : decode cX7_writeNumbers 8 = .ok (.aload_n 0, 1) := by decide +kernel
theorem dX7_writeNumbers_9 : decode cX7_writeNumbers 9 = .ok (.getfield 13, 3) := by decide +kernel
theorem dX7_writeNumbers_12 : decode cX7_writeNumbers 12 = .ok (.iload_n 1, 1) := by decide +kernel
theorem dX7_writeNumbers_13 : decode cX7_writeNumbers 13 = .ok (.iload_n 3, 1) := by decide +kernel
theorem dX7_writeNumbers_14 : decode cX7_writeNumbers 14 = .ok (.iadd, 1) := by decide +kernel
theorem dX7_writeNumbers_15 : decode cX7_writeNumbers 15 = .ok (.iaload, 1) := by decide +kernel
theorem dX7_writeNumbers_16 : decode cX7_writeNumbers 16 = .ok (.invokevirtual 374, 3) := by decide +kernel
theorem dX7_writeNumbers_19 : decode cX7_writeNumbers 19 = .ok (.iinc 3 1, 3) := by decide +kernel
theorem dX7_writeNumbers_22 : decode cX7_writeNumbers 22 = .ok (.goto (-20), 3) := by decide +kernel
theorem dX7_writeNumbers_25 : decode cX7_writeNumbers 25 = .ok (.aload_n 0, 1) := by decide +kernel
theorem dX7_writeNumbers_26 : decode cX7_writeNumbers 26 = .ok (.bipush 59, 2) := by decide +kernel
theorem dX7_writeNumbers_28 : decode cX7_writeNumbers 28 = .ok (.invokevirtual 368, 3) := by decide +kernel
theorem dX7_writeNumbers_31 : decode cX7_writeNumbers 31 = .ok (.return_, 1) := by decide +kernel
def fX7_writeNumbers_2 (z1 : Int32) (z2 : Int32)  : Nat → Int32 → Md → Int32 × Md
  | 0, x3, y => (x3, y)
  | fu + 1, x3, y => (if z2 ≤ x3 then (x3, y) else (bnd (fX7_writeNumber y ((y.2.1 0) (z1 + x3).toNatClampNeg)) (fun r7 => (fX7_writeNumbers_2 z1 z2   fu (x3 + 1) r7))))
def sX7_writeNumbers_2 (z1 : Int32) (z2 : Int32)  : Nat → Int32 → Md → Prop
  | 0, _, _ => True
  | fu + 1, x3, y => ((z2 ≤ x3 → True) ∧ (¬ z2 ≤ x3 → (vp_in (z1 + x3) 146 ∧ ((sX7_writeNumber y ((y.2.1 0) (z1 + x3).toNatClampNeg)) ∧ (bnd (fX7_writeNumber y ((y.2.1 0) (z1 + x3).toNatClampNeg)) (fun r7 => (sX7_writeNumbers_2 z1 z2   fu (x3 + 1) r7)))))))
set_option maxRecDepth 20000 in
theorem wX7_writeNumbers_2 {l : Launch} {G : GM} {K : Nat → Option va_E} (z1 : Int32) (z2 : Int32)   {Q : Option Value → List va_E → Prop} : ∀ (fu : Nat) (x3 : Int32) (y : Md) (iv : ivU z2 x3 fu) (hs : sX7_writeNumbers_2 z1 z2   fu x3 y) {h : List va_E} (gy : HM G K h y) (kx : ∀ (h1 : List va_E) (r : Int32 × Md), (fX7_writeNumbers_2 z1 z2   fu x3 y) = r → HM G K h1 r.2 → Tr l G mX7_writeNumbers 2 0 0 25 [(3, .int r.1), (0, .ref (gz G + 221)), (1, .int z1), (2, .int z2)] [] h1 Q), Tr l G mX7_writeNumbers 2 0 0 2 [(3, .int x3), (0, .ref (gz G + 221)), (1, .int z1), (2, .int z2)] [] h Q := by
  intro fu
  induction fu with
  | zero => intro x3 y iv; intros; exact absurd iv ivU_0
  | succ fu ih =>
    intro x3 y iv hs  h gy  kx
    rw [sX7_writeNumbers_2] at hs
    refine am_iload_n dX7_writeNumbers_2 0 rfl ?_
    refine am_iload_n dX7_writeNumbers_3 3 rfl ?_
    refine am_icmp_ge dX7_writeNumbers_4 (by decide : ((4 : Nat) : Int) + (21) = ((25 : Nat) : Int)) (fun c1 => ?_) (fun c1 => ?_)
    · have hs := hs.1 c1
      exact kx _ _ (ifp c1 (rfl)) gy 
    · have hs := hs.2 c1
      refine am_aload_n dX7_writeNumbers_7 1 rfl ?_
      refine am_aload_n dX7_writeNumbers_8 1 rfl ?_
      refine am_get (v := .ref (gz G + 222)) dX7_writeNumbers_9 kGX7_13 (hmc221 (m := y) gy) rfl ?_
      refine am_iload_n dX7_writeNumbers_12 2 rfl ?_
      refine am_iload_n dX7_writeNumbers_13 0 rfl ?_
      refine am_iadd dX7_writeNumbers_14 ?_
      obtain ⟨i2, hs⟩ := hs
      refine am_iald (f := (y.2.1 0)) dX7_writeNumbers_15 (hmc222 (m := y) gy) i2 ?_
      obtain ⟨i3, hs⟩ := hs
      refine am_callV (As := [.int ((y.2.1 0) (z1 + x3).toNatClampNeg)]) (rest := []) dX7_writeNumbers_16 kMX7_374 rfl (hmc221 (m := y) gy) rfl rfl (Nat.le_of_ble_eq_true rfl) (d2 := 1) (by decide) (k2 := 0) (Nat.zero_le _) (u2 := 0) (Nat.zero_le _) (Nat.le_of_ble_eq_true rfl) (ctX7_writeNumber (m := y) gy ((y.2.1 0) (z1 + x3).toNatClampNeg) i3) (fun v4 h5 q6 => ?_)
      obtain ⟨r7, e8, rfl, w9⟩ := q6
      have hs := bnd_p e8 hs
      refine am_iinc (v := (x3 + 1)) dX7_writeNumbers_19 0 rfl rfl (by decide) (lv' := [(3, .int (x3 + 1)), (0, .ref (gz G + 221)), (1, .int z1), (2, .int z2)]) rfl ?_
      refine am_goto dX7_writeNumbers_22 (by decide : ((22 : Nat) : Int) + (-20) = ((2 : Nat) : Int)) ?_
      exact ih (x3 + 1) r7 (ivU_s c1 iv) hs w9  (fun h1 r e => kx h1 r (Eq.trans (ifn c1 (bnd_eq e8 (rfl))) e))
def fX7_writeNumbers (m : Md) (z1 : Int32) (z2 : Int32) : Md := (bnd (fX7_writeNumbers_2 z1 z2   (fuU z2 0) 0 m) (fun r11 => (bnd (fX7_write r11.2 59) (fun r19 => r19))))
def sX7_writeNumbers (m : Md) (z1 : Int32) (z2 : Int32) : Prop := ((sX7_writeNumbers_2 z1 z2   (fuU z2 0) 0 m) ∧ bnd (fX7_writeNumbers_2 z1 z2   (fuU z2 0) 0 m) (fun r11 => ((sX7_write r11.2 59) ∧ (bnd (fX7_write r11.2 59) (fun r19 => True)))))
set_option maxRecDepth 20000 in
theorem ctX7_writeNumbers {l : Launch} {G : GM} {K : Nat → Option va_E} {h : List va_E} {m : Md} (hm : HM G K h m) (z1 : Int32) (z2 : Int32) (hs : sX7_writeNumbers m z1 z2) : Ct l G mX7_writeNumbers 2 0 0 [.ref (gz G + 221), .int z1, .int z2] h (fun v h1 => ∃ r, (fX7_writeNumbers m z1 z2) = r ∧ v = none ∧ HM G K h1 r) := by
  show Tr l G mX7_writeNumbers 2 0 0 0 [(0, .ref (gz G + 221)), (1, .int z1), (2, .int z2)] [] h _
  unfold sX7_writeNumbers at hs
  refine am_iconst (v := 0) dX7_writeNumbers_0 (by decide) ?_
  refine am_istore_n dX7_writeNumbers_1 (by decide) (lv' := [(3, .int 0), (0, .ref (gz G + 221)), (1, .int z1), (2, .int z2)]) rfl ?_
  obtain ⟨i10, hs⟩ := hs
  refine wX7_writeNumbers_2 z1 z2   (fuU z2 0) 0 m ivU_i i10 hm  (fun h13 r11 e12 w14  => ?_)
  have hs := bnd_p e12 hs
  refine am_aload_n dX7_writeNumbers_25 1 rfl ?_
  refine am_bipush (v := 59) dX7_writeNumbers_26 (by decide) ?_
  obtain ⟨i15, hs⟩ := hs
  refine am_callV (As := [.int 59]) (rest := []) dX7_writeNumbers_28 kMX7_368 rfl (hmc221 (m := r11.2) w14) rfl rfl (Nat.le_of_ble_eq_true rfl) (d2 := 0) (by decide) (k2 := 0) (Nat.zero_le _) (u2 := 0) (Nat.zero_le _) (Nat.le_of_ble_eq_true rfl) (ctX7_write (m := r11.2) w14 59 i15) (fun v16 h17 q18 => ?_)
  obtain ⟨r19, e20, rfl, w21⟩ := q18
  have hs := bnd_p e20 hs
  exact am_return dX7_writeNumbers_31 rfl ⟨_, bnd_eq e12 (bnd_eq e20 (rfl)), rfl, w21⟩

theorem dX7_writeText_0 : decode cX7_writeText 0 = .ok (.iconst 0, 1) := by decide +kernel
theorem dX7_writeText_1 : decode cX7_writeText 1 = .ok (.istore_n 2, 1) := by decide +kernel
theorem dX7_writeText_2 : decode cX7_writeText 2 = .ok (.iload_n 2, 1) := by decide +kernel
theorem dX7_writeText_3 : decode cX7_writeText 3 = .ok (.aload_n 1, 1) := by decide +kernel
theorem dX7_writeText_4 : decode cX7_writeText 4 = .ok (.invokevirtual 263, 3) := by decide +kernel
theorem dX7_writeText_7 : decode cX7_writeText 7 = .ok (.if_icmp .ge 18, 3) := by decide +kernel
theorem dX7_writeText_10 : decode cX7_writeText 10 = .ok (.aload_n 0, 1) := by decide +kernel
theorem dX7_writeText_11 : decode cX7_writeText 11 = .ok (.aload_n 1, 1) := by decide +kernel
theorem dX7_writeText_12 : decode cX7_writeText 12 = .ok (.iload_n 2, 1) := by decide +kernel
theorem dX7_writeText_13 : decode cX7_writeText 13 = .ok (.invokevirtual 268, 3) := by decide +kernel
theorem dX7_writeText_16 : decode cX7_writeText 16 = .ok (.invokevirtual 368, 3) := by decide +kernel
theorem dX7_writeText_19 : decode cX7_writeText 19 = .ok (.iinc 2 1, 3) := by decide +kernel
theorem dX7_writeText_22 : decode cX7_writeText 22 = .ok (.goto (-20), 3) := by decide +kernel
theorem dX7_writeText_25 : decode cX7_writeText 25 = .ok (.return_, 1) := by decide +kernel
def fX7_writeText_2 (q : String × Nat × String × List Int32)   : Nat → Int32 → Md → Int32 × Md
  | 0, x2, y => (x2, y)
  | fu + 1, x2, y => (if (nI q.2.2.2.length) ≤ x2 then (x2, y) else (bnd (fX7_write y (ichr ((q.2.2.2.getD x2.toNatClampNeg 0) &&& 255))) (fun r13 => (fX7_writeText_2 q    fu (x2 + 1) r13))))
def sX7_writeText_2 (q : String × Nat × String × List Int32)   : Nat → Int32 → Md → Prop
  | 0, _, _ => True
  | fu + 1, x2, y => (((nI q.2.2.2.length) ≤ x2 → True) ∧ (¬ (nI q.2.2.2.length) ≤ x2 → (¬ x2 < 0 ∧ ((sX7_write y (ichr ((q.2.2.2.getD x2.toNatClampNeg 0) &&& 255))) ∧ (bnd (fX7_write y (ichr ((q.2.2.2.getD x2.toNatClampNeg 0) &&& 255))) (fun r13 => (sX7_writeText_2 q    fu (x2 + 1) r13)))))))
set_option maxRecDepth 20000 in
theorem wX7_writeText_2 {l : Launch} {G : GM} {K : Nat → Option va_E} {j : Nat} {q : String × Nat × String × List Int32} (hj : strTab[j]? = some q)    {Q : Option Value → List va_E → Prop} : ∀ (fu : Nat) (x2 : Int32) (y : Md) (iv : ivU (nI q.2.2.2.length) x2 fu) (hs : sX7_writeText_2 q    fu x2 y) {h : List va_E} (gy : HM G K h y) (kx : ∀ (h1 : List va_E) (r : Int32 × Md), (fX7_writeText_2 q    fu x2 y) = r → HM G K h1 r.2 → Tr l G mX7_writeText 4 0 0 25 [(2, .int r.1), (0, .ref (gz G + 221)), (1, .ref (gS G j))] [] h1 Q), Tr l G mX7_writeText 4 0 0 2 [(2, .int x2), (0, .ref (gz G + 221)), (1, .ref (gS G j))] [] h Q := by
  intro fu
  induction fu with
  | zero => intro x2 y iv; intros; exact absurd iv ivU_0
  | succ fu ih =>
    intro x2 y iv hs  h gy  kx
    rw [sX7_writeText_2] at hs
    refine am_iload_n dX7_writeText_2 0 rfl ?_
    refine am_aload_n dX7_writeText_3 2 rfl ?_
    refine am_callK (As := []) (rest := [.int x2]) dX7_writeText_4 kMX7_263 rfl (q := q) hj rfl rfl (Nat.le_of_ble_eq_true rfl) (d2 := 1) (by decide) (k2 := 0) (Nat.zero_le _) (u2 := 0) (Nat.zero_le _) (Nat.le_of_ble_eq_true rfl) (ctJ0_length_8abf5 hj) (fun v1 h2 q3 => ?_)
    obtain ⟨rfl, rfl⟩ := q3
    refine am_icmp_ge dX7_writeText_7 (by decide : ((7 : Nat) : Int) + (18) = ((25 : Nat) : Int)) (fun c4 => ?_) (fun c4 => ?_)
    · have hs := hs.1 c4
      exact kx _ _ (ifp c4 (rfl)) gy 
    · have hs := hs.2 c4
      refine am_aload_n dX7_writeText_10 1 rfl ?_
      refine am_aload_n dX7_writeText_11 2 rfl ?_
      refine am_iload_n dX7_writeText_12 0 rfl ?_
      obtain ⟨i5, hs⟩ := hs
      refine am_callK (As := [.int x2]) (rest := [.ref (gz G + 221)]) dX7_writeText_13 kMX7_268 rfl (q := q) hj rfl rfl (Nat.le_of_ble_eq_true rfl) (d2 := 3) (by decide) (k2 := 0) (Nat.zero_le _) (u2 := 0) (Nat.zero_le _) (Nat.le_of_ble_eq_true rfl) (ctJ0_charAt_5068e hj i5 c4) (fun v6 h7 q8 => ?_)
      obtain ⟨rfl, rfl⟩ := q8
      obtain ⟨i9, hs⟩ := hs
      refine am_callV (As := [.int (ichr ((q.2.2.2.getD x2.toNatClampNeg 0) &&& 255))]) (rest := []) dX7_writeText_16 kMX7_368 rfl (hmc221 (m := y) gy) rfl rfl (Nat.le_of_ble_eq_true rfl) (d2 := 0) (by decide) (k2 := 0) (Nat.zero_le _) (u2 := 0) (Nat.zero_le _) (Nat.le_of_ble_eq_true rfl) (ctX7_write (m := y) gy (ichr ((q.2.2.2.getD x2.toNatClampNeg 0) &&& 255)) i9) (fun v10 h11 q12 => ?_)
      obtain ⟨r13, e14, rfl, w15⟩ := q12
      have hs := bnd_p e14 hs
      refine am_iinc (v := (x2 + 1)) dX7_writeText_19 0 rfl rfl (by decide) (lv' := [(2, .int (x2 + 1)), (0, .ref (gz G + 221)), (1, .ref (gS G j))]) rfl ?_
      refine am_goto dX7_writeText_22 (by decide : ((22 : Nat) : Int) + (-20) = ((2 : Nat) : Int)) ?_
      exact ih (x2 + 1) r13 (ivU_s c4 iv) hs w15  (fun h1 r e => kx h1 r (Eq.trans (ifn c4 (bnd_eq e14 (rfl))) e))
def fX7_writeText (m : Md) (q : String × Nat × String × List Int32)  : Md := (bnd (fX7_writeText_2 q    (fuU (nI q.2.2.2.length) 0) 0 m) (fun r17 => r17.2))
def sX7_writeText (m : Md) (q : String × Nat × String × List Int32)  : Prop := ((sX7_writeText_2 q    (fuU (nI q.2.2.2.length) 0) 0 m) ∧ bnd (fX7_writeText_2 q    (fuU (nI q.2.2.2.length) 0) 0 m) (fun r17 => True))
set_option maxRecDepth 20000 in
theorem ctX7_writeText {l : Launch} {G : GM} {K : Nat → Option va_E} {h : List va_E} {m : Md} (hm : HM G K h m) {j : Nat} {q : String × Nat × String × List Int32} (hj : strTab[j]? = some q)  (hs : sX7_writeText m q ) : Ct l G mX7_writeText 4 0 0 [.ref (gz G + 221), .ref (gS G j)] h (fun v h1 => ∃ r, (fX7_writeText m q ) = r ∧ v = none ∧ HM G K h1 r) := by
  show Tr l G mX7_writeText 4 0 0 0 [(0, .ref (gz G + 221)), (1, .ref (gS G j))] [] h _
  unfold sX7_writeText at hs
  refine am_iconst (v := 0) dX7_writeText_0 (by decide) ?_
  refine am_istore_n dX7_writeText_1 (by decide) (lv' := [(2, .int 0), (0, .ref (gz G + 221)), (1, .ref (gS G j))]) rfl ?_
  obtain ⟨i16, hs⟩ := hs
  refine wX7_writeText_2 hj    (fuU (nI q.2.2.2.length) 0) 0 m ivU_i i16 hm  (fun h19 r17 e18 w20  => ?_)
  have hs := bnd_p e18 hs
  exact am_return dX7_writeText_25 rfl ⟨_, bnd_eq e18 (rfl), rfl, w20⟩

theorem dX7_writePiece_0 : decode cX7_writePiece 0 = .ok (.aload_n 0, 1) := by decide +kernel
theorem dX7_writePiece_1 : decode cX7_writePiece 1 = .ok (.ldc_w 293, 3) := by decide +kernel
theorem dX7_writePiece_4 : decode cX7_writePiece 4 = .ok (.invokevirtual 377, 3) := by decide +kernel
theorem dX7_writePiece_7 : decode cX7_writePiece 7 = .ok (.aload_n 0, 1) := by decide +kernel
theorem dX7_writePiece_8 : decode cX7_writePiece 8 = .ok (.aload_n 0, 1) := by decide +kernel
theorem dX7_writePiece_9 : decode cX7_writePiece 9 = .ok (.getfield 13, 3) := by decide +kernel
theorem dX7_writePiece_12 : decode cX7_writePiece 12 = .ok (.bipush 10, 2) := by decide +kernel
theorem dX7_writePiece_14 : decode cX7_writePiece 14 = .ok (.iconst 3, 1) := by decide +kernel
theorem dX7_writePiece_15 : decode cX7_writePiece 15 = .ok (.aload_n 0, 1) := by decide +kernel
theorem dX7_writePiece_16 : decode cX7_writePiece 16 = .ok (.iload_n 1, 1) := by decide +kernel
theorem dX7_writePiece_17 : decode cX7_writePiece 17 = .ok (.iconst 0, 1) := by decide +kernel
theorem dX7_writePiece_18 : decode cX7_writePiece 18 = .ok (.invokevirtual 60, 3) := by decide +kernel
theorem dX7_writePiece_21 : decode cX7_writePiece 21 = .ok (.imul, 1) := by decide +kernel
theorem dX7_writePiece_22 : decode cX7_writePiece 22 = .ok (.iadd, 1) := by decide +kernel
theorem dX7_writePiece_23 : decode cX7_writePiece 23 = .ok (.iaload, 1) := by decide +kernel
theorem dX7_writePiece_24 : decode cX7_writePiece 24 = .ok (.invokevirtual 381, 3) := by decide +kernel
theorem dX7_writePiece_27 : decode cX7_writePiece 27 = .ok (.aload_n 0, 1) := by decide +kernel
theorem dX7_writePiece_28 : decode cX7_writePiece 28 = .ok (.iload_n 1, 1) := by decide +kernel
theorem dX7_writePiece_29 : decode cX7_writePiece 29 = .ok (.iconst 1, 1) := by decide +kernel
theorem dX7_writePiece_30 : decode cX7_writePiece 30 = .ok (.invokevirtual 60, 3) := by decide +kernel
theorem dX7_writePiece_33 : decode cX7_writePiece 33 = .ok (.istore_n 2, 1) := by decide +kernel
theorem dX7_writePiece_34 : decode cX7_writePiece 34 = .ok (.aload_n 0, 1) := by decide +kernel
theorem dX7_writePiece_35 : decode cX7_writePiece 35 = .ok (.iload_n 2, 1) := by decide +kernel
theorem dX7_writePiece_36 : decode cX7_writePiece 36 = .ok (.ifCond .ne 9, 3) := by decide +kernel
theorem dX7_writePiece_39 : decode cX7_writePiece 39 = .ok (.ldc_w 387, 3) := by decide +kernel
theorem dX7_writePiece_42 : decode cX7_writePiece 42 = .ok (.goto 17, 3) := by decide +kernel
theorem dX7_writePiece_45 : decode cX7_writePiece 45 = .ok (.iload_n 2, 1) := by decide +kernel
theorem dX7_writePiece_46 : decode cX7_writePiece 46 = .ok (.iconst 1, 1) := by decide +kernel
theorem dX7_writePiece_47 : decode cX7_writePiece 47 = .ok (.if_icmp .ne 9, 3) := by decide +kernel
theorem dX7_writePiece_50 : decode cX7_writePiece 50 = .ok (.ldc_w 389, 3) := by decide +kernel
theorem dX7_writePiece_53 : decode cX7_writePiece 53 = .ok (.goto 6, 3) := by decide +kernel
theorem dX7_writePiece_56 : decode cX7_writePiece 56 = .ok (.ldc_w 391, 3) := by decide +kernel
theorem dX7_writePiece_59 : decode cX7_writePiece 59 = .ok (.invokevirtual 377, 3) := by decide +kernel
theorem dX7_writePiece_62 : decode cX7_writePiece 62 = .ok (.aload_n 0, 1) := by decide +kernel
theorem dX7_writePiece_63 : decode cX7_writePiece 63 = .ok (.aload_n 0, 1) := by decide +kernel
theorem dX7_writePiece_64 : decode cX7_writePiece 64 = .ok (.iload_n 1, 1) := by decide +kernel
theorem dX7_writePiece_65 : decode cX7_writePiece 65 = .ok (.iconst 2, 1) := by decide +kernel
theorem dX7_writePiece_66 : decode cX7_writePiece 66 = .ok (.invokevirtual 60, 3) := by decide +kernel
theorem dX7_writePiece_69 : decode cX7_writePiece 69 = .ok (.invokevirtual 374, 3) := by decide +kernel
theorem dX7_writePiece_72 : decode cX7_writePiece 72 = .ok (.aload_n 0, 1) := by decide +kernel
theorem dX7_writePiece_73 : decode cX7_writePiece 73 = .ok (.aload_n 0, 1) := by decide +kernel
theorem dX7_writePiece_74 : decode cX7_writePiece 74 = .ok (.iload_n 1, 1) := by decide +kernel
theorem dX7_writePiece_75 : decode cX7_writePiece 75 = .ok (.iconst 4, 1) := by decide +kernel
theorem dX7_writePiece_76 : decode cX7_writePiece 76 = .ok (.invokevirtual 60, 3) := by decide +kernel
theorem dX7_writePiece_79 : decode cX7_writePiece 79 = .ok (.invokevirtual 374, 3) := by decide +kernel
theorem dX7_writePiece_82 : decode cX7_writePiece 82 = .ok (.aload_n 0, 1) := by decide +kernel
theorem dX7_writePiece_83 : decode cX7_writePiece 83 = .ok (.bipush 59, 2) := by decide +kernel
theorem dX7_writePiece_85 : decode cX7_writePiece 85 = .ok (.invokevirtual 368, 3) := by decide +kernel
theorem dX7_writePiece_88 : decode cX7_writePiece 88 = .ok (.return_, 1) := by decide +kernel
def fX7_writePiece (m : Md) (z1 : Int32) : Md := (bnd (fX7_writeText m sq27) (fun r5 => (bnd (fX7_writeName r5 ((r5.2.1 0) ((10 : Int32) + ((3 : Int32) * (fX7_field r5 z1 0))).toNatClampNeg)) (fun r17 => (if (fX7_field r17 z1 1) = 0 then (bnd (fX7_writeText r17 sq32) (fun r102 => (bnd (fX7_writeNumber r102 (fX7_field r102 z1 2)) (fun r113 => (bnd (fX7_writeNumber r113 (fX7_field r113 z1 4)) (fun r124 => (bnd (fX7_write r124 59) (fun r131 => r131)))))))) else (if (fX7_field r17 z1 1) = 1 then (bnd (fX7_writeText r17 sq33) (fun r66 => (bnd (fX7_writeNumber r66 (fX7_field r66 z1 2)) (fun r77 => (bnd (fX7_writeNumber r77 (fX7_field r77 z1 4)) (fun r88 => (bnd (fX7_write r88 59) (fun r95 => r95)))))))) else (bnd (fX7_writeText r17 sq34) (fun r30 => (bnd (fX7_writeNumber r30 (fX7_field r30 z1 2)) (fun r41 => (bnd (fX7_writeNumber r41 (fX7_field r41 z1 4)) (fun r52 => (bnd (fX7_write r52 59) (fun r59 => r59))))))))))))))
def sX7_writePiece (m : Md) (z1 : Int32) : Prop := ((sX7_writeText m sq27) ∧ (bnd (fX7_writeText m sq27) (fun r5 => ((sX7_field r5 z1 0) ∧ (vp_in ((10 : Int32) + ((3 : Int32) * (fX7_field r5 z1 0))) 146 ∧ ((sX7_writeName r5 ((r5.2.1 0) ((10 : Int32) + ((3 : Int32) * (fX7_field r5 z1 0))).toNatClampNeg)) ∧ (bnd (fX7_writeName r5 ((r5.2.1 0) ((10 : Int32) + ((3 : Int32) * (fX7_field r5 z1 0))).toNatClampNeg)) (fun r17 => ((sX7_field r17 z1 1) ∧ (((fX7_field r17 z1 1) = 0 → ((sX7_writeText r17 sq32) ∧ (bnd (fX7_writeText r17 sq32) (fun r102 => ((sX7_field r102 z1 2) ∧ ((sX7_writeNumber r102 (fX7_field r102 z1 2)) ∧ (bnd (fX7_writeNumber r102 (fX7_field r102 z1 2)) (fun r113 => ((sX7_field r113 z1 4) ∧ ((sX7_writeNumber r113 (fX7_field r113 z1 4)) ∧ (bnd (fX7_writeNumber r113 (fX7_field r113 z1 4)) (fun r124 => ((sX7_write r124 59) ∧ (bnd (fX7_write r124 59) (fun r131 => True))))))))))))))) ∧ (¬ (fX7_field r17 z1 1) = 0 → (((fX7_field r17 z1 1) = 1 → ((sX7_writeText r17 sq33) ∧ (bnd (fX7_writeText r17 sq33) (fun r66 => ((sX7_field r66 z1 2) ∧ ((sX7_writeNumber r66 (fX7_field r66 z1 2)) ∧ (bnd (fX7_writeNumber r66 (fX7_field r66 z1 2)) (fun r77 => ((sX7_field r77 z1 4) ∧ ((sX7_writeNumber r77 (fX7_field r77 z1 4)) ∧ (bnd (fX7_writeNumber r77 (fX7_field r77 z1 4)) (fun r88 => ((sX7_write r88 59) ∧ (bnd (fX7_write r88 59) (fun r95 => True))))))))))))))) ∧ (¬ (fX7_field r17 z1 1) = 1 → ((sX7_writeText r17 sq34) ∧ (bnd (fX7_writeText r17 sq34) (fun r30 => ((sX7_field r30 z1 2) ∧ ((sX7_writeNumber r30 (fX7_field r30 z1 2)) ∧ (bnd (fX7_writeNumber r30 (fX7_field r30 z1 2)) (fun r41 => ((sX7_field r41 z1 4) ∧ ((sX7_writeNumber r41 (fX7_field r41 z1 4)) ∧ (bnd (fX7_writeNumber r41 (fX7_field r41 z1 4)) (fun r52 => ((sX7_write r52 59) ∧ (bnd (fX7_write r52 59) (fun r59 => True)))))))))))))))))))))))))))
set_option maxRecDepth 20000 in
theorem ctX7_writePiece {l : Launch} {G : GM} {K : Nat → Option va_E} {h : List va_E} {m : Md} (hm : HM G K h m) (z1 : Int32) (hs : sX7_writePiece m z1) : Ct l G mX7_writePiece 5 0 0 [.ref (gz G + 221), .int z1] h (fun v h1 => ∃ r, (fX7_writePiece m z1) = r ∧ v = none ∧ HM G K h1 r) := by
  show Tr l G mX7_writePiece 5 0 0 0 [(0, .ref (gz G + 221)), (1, .int z1)] [] h _
  unfold sX7_writePiece at hs
  refine am_aload_n dX7_writePiece_0 0 rfl ?_
  refine am_ldcwS (j := 27) dX7_writePiece_1 rfl ?_
  obtain ⟨i1, hs⟩ := hs
  refine am_callV (As := [.ref (gS G 27)]) (rest := []) dX7_writePiece_4 kMX7_377 rfl (hmc221 (m := m) hm) rfl rfl (Nat.le_of_ble_eq_true rfl) (d2 := 4) (by decide) (k2 := 0) (Nat.zero_le _) (u2 := 0) (Nat.zero_le _) (Nat.le_of_ble_eq_true rfl) (ctX7_writeText (m := m) hm (j := 27) (q := sq27) rfl i1) (fun v2 h3 q4 => ?_)
  obtain ⟨r5, e6, rfl, w7⟩ := q4
  have hs := bnd_p e6 hs
  refine am_aload_n dX7_writePiece_7 0 rfl ?_
  refine am_aload_n dX7_writePiece_8 0 rfl ?_
  refine am_get (v := .ref (gz G + 222)) dX7_writePiece_9 kGX7_13 (hmc221 (m := r5) w7) rfl ?_
  refine am_bipush (v := 10) dX7_writePiece_12 (by decide) ?_
  refine am_iconst (v := 3) dX7_writePiece_14 (by decide) ?_
  refine am_aload_n dX7_writePiece_15 0 rfl ?_
  refine am_iload_n dX7_writePiece_16 1 rfl ?_
  refine am_iconst (v := 0) dX7_writePiece_17 (by decide) ?_
  obtain ⟨i8, hs⟩ := hs
  refine am_callV (As := [.int z1, .int 0]) (rest := [.int 3, .int 10, .ref (gz G + 222), .ref (gz G + 221)]) dX7_writePiece_18 kMX7_60 rfl (hmc221 (m := r5) w7) rfl rfl (Nat.le_of_ble_eq_true rfl) (d2 := 1) (by decide) (k2 := 0) (Nat.zero_le _) (u2 := 0) (Nat.zero_le _) (Nat.le_of_ble_eq_true rfl) (ctX7_field (m := r5) w7 z1 0 i8) (fun v9 h10 q11 => ?_)
  obtain ⟨rfl, rfl⟩ := q11
  refine am_imul dX7_writePiece_21 ?_
  refine am_iadd dX7_writePiece_22 ?_
  obtain ⟨i12, hs⟩ := hs
  refine am_iald (f := (r5.2.1 0)) dX7_writePiece_23 (hmc222 (m := r5) w7) i12 ?_
  obtain ⟨i13, hs⟩ := hs
  refine am_callV (As := [.int ((r5.2.1 0) ((10 : Int32) + ((3 : Int32) * (fX7_field r5 z1 0))).toNatClampNeg)]) (rest := []) dX7_writePiece_24 kMX7_381 rfl (hmc221 (m := r5) w7) rfl rfl (Nat.le_of_ble_eq_true rfl) (d2 := 1) (by decide) (k2 := 0) (Nat.zero_le _) (u2 := 0) (Nat.zero_le _) (Nat.le_of_ble_eq_true rfl) (ctX7_writeName (m := r5) w7 ((r5.2.1 0) ((10 : Int32) + ((3 : Int32) * (fX7_field r5 z1 0))).toNatClampNeg) i13) (fun v14 h15 q16 => ?_)
  obtain ⟨r17, e18, rfl, w19⟩ := q16
  have hs := bnd_p e18 hs
  refine am_aload_n dX7_writePiece_27 0 rfl ?_
  refine am_iload_n dX7_writePiece_28 1 rfl ?_
  refine am_iconst (v := 1) dX7_writePiece_29 (by decide) ?_
  obtain ⟨i20, hs⟩ := hs
  refine am_callV (As := [.int z1, .int 1]) (rest := []) dX7_writePiece_30 kMX7_60 rfl (hmc221 (m := r17) w19) rfl rfl (Nat.le_of_ble_eq_true rfl) (d2 := 1) (by decide) (k2 := 0) (Nat.zero_le _) (u2 := 0) (Nat.zero_le _) (Nat.le_of_ble_eq_true rfl) (ctX7_field (m := r17) w19 z1 1 i20) (fun v21 h22 q23 => ?_)
  obtain ⟨rfl, rfl⟩ := q23
  refine am_istore_n dX7_writePiece_33 (by decide) (lv' := [(2, .int (fX7_field r17 z1 1)), (0, .ref (gz G + 221)), (1, .int z1)]) rfl ?_
  refine am_aload_n dX7_writePiece_34 1 rfl ?_
  refine am_iload_n dX7_writePiece_35 0 rfl ?_
  refine am_if_ne dX7_writePiece_36 (by decide : ((36 : Nat) : Int) + (9) = ((45 : Nat) : Int)) (fun c24 => ?_) (fun c24 => ?_)
  · have hs := hs.2 c24
    refine am_iload_n dX7_writePiece_45 0 rfl ?_
    refine am_iconst (v := 1) dX7_writePiece_46 (by decide) ?_
    refine am_icmp_ne dX7_writePiece_47 (by decide : ((47 : Nat) : Int) + (9) = ((56 : Nat) : Int)) (fun c25 => ?_) (fun c25 => ?_)
    · have hs := hs.2 c25
      refine am_ldcwS (j := 34) dX7_writePiece_56 rfl ?_
      obtain ⟨i26, hs⟩ := hs
      refine am_callV (As := [.ref (gS G 34)]) (rest := []) dX7_writePiece_59 kMX7_377 rfl (hmc221 (m := r17) w19) rfl rfl (Nat.le_of_ble_eq_true rfl) (d2 := 4) (by decide) (k2 := 0) (Nat.zero_le _) (u2 := 0) (Nat.zero_le _) (Nat.le_of_ble_eq_true rfl) (ctX7_writeText (m := r17) w19 (j := 34) (q := sq34) rfl i26) (fun v27 h28 q29 => ?_)
      obtain ⟨r30, e31, rfl, w32⟩ := q29
      have hs := bnd_p e31 hs
      refine am_aload_n dX7_writePiece_62 1 rfl ?_
      refine am_aload_n dX7_writePiece_63 1 rfl ?_
      refine am_iload_n dX7_writePiece_64 2 rfl ?_
      refine am_iconst (v := 2) dX7_writePiece_65 (by decide) ?_
      obtain ⟨i33, hs⟩ := hs
      refine am_callV (As := [.int z1, .int 2]) (rest := [.ref (gz G + 221)]) dX7_writePiece_66 kMX7_60 rfl (hmc221 (m := r30) w32) rfl rfl (Nat.le_of_ble_eq_true rfl) (d2 := 1) (by decide) (k2 := 0) (Nat.zero_le _) (u2 := 0) (Nat.zero_le _) (Nat.le_of_ble_eq_true rfl) (ctX7_field (m := r30) w32 z1 2 i33) (fun v34 h35 q36 => ?_)
      obtain ⟨rfl, rfl⟩ := q36
      obtain ⟨i37, hs⟩ := hs
      refine am_callV (As := [.int (fX7_field r30 z1 2)]) (rest := []) dX7_writePiece_69 kMX7_374 rfl (hmc221 (m := r30) w32) rfl rfl (Nat.le_of_ble_eq_true rfl) (d2 := 1) (by decide) (k2 := 0) (Nat.zero_le _) (u2 := 0) (Nat.zero_le _) (Nat.le_of_ble_eq_true rfl) (ctX7_writeNumber (m := r30) w32 (fX7_field r30 z1 2) i37) (fun v38 h39 q40 => ?_)
      obtain ⟨r41, e42, rfl, w43⟩ := q40
      have hs := bnd_p e42 hs
      refine am_aload_n dX7_writePiece_72 1 rfl ?_
      refine am_aload_n dX7_writePiece_73 1 rfl ?_
      refine am_iload_n dX7_writePiece_74 2 rfl ?_
      refine am_iconst (v := 4) dX7_writePiece_75 (by decide) ?_
      obtain ⟨i44, hs⟩ := hs
      refine am_callV (As := [.int z1, .int 4]) (rest := [.ref (gz G + 221)]) dX7_writePiece_76 kMX7_60 rfl (hmc221 (m := r41) w43) rfl rfl (Nat.le_of_ble_eq_true rfl) (d2 := 1) (by decide) (k2 := 0) (Nat.zero_le _) (u2 := 0) (Nat.zero_le _) (Nat.le_of_ble_eq_true rfl) (ctX7_field (m := r41) w43 z1 4 i44) (fun v45 h46 q47 => ?_)
      obtain ⟨rfl, rfl⟩ := q47
      obtain ⟨i48, hs⟩ := hs
      refine am_callV (As := [.int (fX7_field r41 z1 4)]) (rest := []) dX7_writePiece_79 kMX7_374 rfl (hmc221 (m := r41) w43) rfl rfl (Nat.le_of_ble_eq_true rfl) (d2 := 1) (by decide) (k2 := 0) (Nat.zero_le _) (u2 := 0) (Nat.zero_le _) (Nat.le_of_ble_eq_true rfl) (ctX7_writeNumber (m := r41) w43 (fX7_field r41 z1 4) i48) (fun v49 h50 q51 => ?_)
      obtain ⟨r52, e53, rfl, w54⟩ := q51
      have hs := bnd_p e53 hs
      refine am_aload_n dX7_writePiece_82 1 rfl ?_
      refine am_bipush (v := 59) dX7_writePiece_83 (by decide) ?_
      obtain ⟨i55, hs⟩ := hs
      refine am_callV (As := [.int 59]) (rest := []) dX7_writePiece_85 kMX7_368 rfl (hmc221 (m := r52) w54) rfl rfl (Nat.le_of_ble_eq_true rfl) (d2 := 0) (by decide) (k2 := 0) (Nat.zero_le _) (u2 := 0) (Nat.zero_le _) (Nat.le_of_ble_eq_true rfl) (ctX7_write (m := r52) w54 59 i55) (fun v56 h57 q58 => ?_)
      obtain ⟨r59, e60, rfl, w61⟩ := q58
      have hs := bnd_p e60 hs
      exact am_return dX7_writePiece_88 rfl ⟨_, bnd_eq e6 (bnd_eq e18 (ifn c24 (ifn c25 (bnd_eq e31 (bnd_eq e42 (bnd_eq e53 (bnd_eq e60 (rfl)))))))), rfl, w61⟩
    · have hs := hs.1 c25
      refine am_ldcwS (j := 33) dX7_writePiece_50 rfl ?_
      refine am_goto dX7_writePiece_53 (by decide : ((53 : Nat) : Int) + (6) = ((59 : Nat) : Int)) ?_
      obtain ⟨i62, hs⟩ := hs
      refine am_callV (As := [.ref (gS G 33)]) (rest := []) dX7_writePiece_59 kMX7_377 rfl (hmc221 (m := r17) w19) rfl rfl (Nat.le_of_ble_eq_true rfl) (d2 := 4) (by decide) (k2 := 0) (Nat.zero_le _) (u2 := 0) (Nat.zero_le _) (Nat.le_of_ble_eq_true rfl) (ctX7_writeText (m := r17) w19 (j := 33) (q := sq33) rfl i62) (fun v63 h64 q65 => ?_)
      obtain ⟨r66, e67, rfl, w68⟩ := q65
      have hs := bnd_p e67 hs
      refine am_aload_n dX7_writePiece_62 1 rfl ?_
      refine am_aload_n dX7_writePiece_63 1 rfl ?_
      refine am_iload_n dX7_writePiece_64 2 rfl ?_
      refine am_iconst (v := 2) dX7_writePiece_65 (by decide) ?_
      obtain ⟨i69, hs⟩ := hs
      refine am_callV (As := [.int z1, .int 2]) (rest := [.ref (gz G + 221)]) dX7_writePiece_66 kMX7_60 rfl (hmc221 (m := r66) w68) rfl rfl (Nat.le_of_ble_eq_true rfl) (d2 := 1) (by decide) (k2 := 0) (Nat.zero_le _) (u2 := 0) (Nat.zero_le _) (Nat.le_of_ble_eq_true rfl) (ctX7_field (m := r66) w68 z1 2 i69) (fun v70 h71 q72 => ?_)
      obtain ⟨rfl, rfl⟩ := q72
      obtain ⟨i73, hs⟩ := hs
      refine am_callV (As := [.int (fX7_field r66 z1 2)]) (rest := []) dX7_writePiece_69 kMX7_374 rfl (hmc221 (m := r66) w68) rfl rfl (Nat.le_of_ble_eq_true rfl) (d2 := 1) (by decide) (k2 := 0) (Nat.zero_le _) (u2 := 0) (Nat.zero_le _) (Nat.le_of_ble_eq_true rfl) (ctX7_writeNumber (m := r66) w68 (fX7_field r66 z1 2) i73) (fun v74 h75 q76 => ?_)
      obtain ⟨r77, e78, rfl, w79⟩ := q76
      have hs := bnd_p e78 hs
      refine am_aload_n dX7_writePiece_72 1 rfl ?_
      refine am_aload_n dX7_writePiece_73 1 rfl ?_
      refine am_iload_n dX7_writePiece_74 2 rfl ?_
      refine am_iconst (v := 4) dX7_writePiece_75 (by decide) ?_
      obtain ⟨i80, hs⟩ := hs
      refine am_callV (As := [.int z1, .int 4]) (rest := [.ref (gz G + 221)]) dX7_writePiece_76 kMX7_60 rfl (hmc221 (m := r77) w79) rfl rfl (Nat.le_of_ble_eq_true rfl) (d2 := 1) (by decide) (k2 := 0) (Nat.zero_le _) (u2 := 0) (Nat.zero_le _) (Nat.le_of_ble_eq_true rfl) (ctX7_field (m := r77) w79 z1 4 i80) (fun v81 h82 q83 => ?_)
      obtain ⟨rfl, rfl⟩ := q83
      obtain ⟨i84, hs⟩ := hs
      refine am_callV (As := [.int (fX7_field r77 z1 4)]) (rest := []) dX7_writePiece_79 kMX7_374 rfl (hmc221 (m := r77) w79) rfl rfl (Nat.le_of_ble_eq_true rfl) (d2 := 1) (by decide) (k2 := 0) (Nat.zero_le _) (u2 := 0) (Nat.zero_le _) (Nat.le_of_ble_eq_true rfl) (ctX7_writeNumber (m := r77) w79 (fX7_field r77 z1 4) i84) (fun v85 h86 q87 => ?_)
      obtain ⟨r88, e89, rfl, w90⟩ := q87
      have hs := bnd_p e89 hs
      refine am_aload_n dX7_writePiece_82 1 rfl ?_
      refine am_bipush (v := 59) dX7_writePiece_83 (by decide) ?_
      obtain ⟨i91, hs⟩ := hs
      refine am_callV (As := [.int 59]) (rest := []) dX7_writePiece_85 kMX7_368 rfl (hmc221 (m := r88) w90) rfl rfl (Nat.le_of_ble_eq_true rfl) (d2 := 0) (by decide) (k2 := 0) (Nat.zero_le _) (u2 := 0) (Nat.zero_le _) (Nat.le_of_ble_eq_true rfl) (ctX7_write (m := r88) w90 59 i91) (fun v92 h93 q94 => ?_)
      obtain ⟨r95, e96, rfl, w97⟩ := q94
      have hs := bnd_p e96 hs
      exact am_return dX7_writePiece_88 rfl ⟨_, bnd_eq e6 (bnd_eq e18 (ifn c24 (ifp c25 (bnd_eq e67 (bnd_eq e78 (bnd_eq e89 (bnd_eq e96 (rfl)))))))), rfl, w97⟩
  · have hs := hs.1 c24
    refine am_ldcwS (j := 32) dX7_writePiece_39 rfl ?_
    refine am_goto dX7_writePiece_42 (by decide : ((42 : Nat) : Int) + (17) = ((59 : Nat) : Int)) ?_
    obtain ⟨i98, hs⟩ := hs
    refine am_callV (As := [.ref (gS G 32)]) (rest := []) dX7_writePiece_59 kMX7_377 rfl (hmc221 (m := r17) w19) rfl rfl (Nat.le_of_ble_eq_true rfl) (d2 := 4) (by decide) (k2 := 0) (Nat.zero_le _) (u2 := 0) (Nat.zero_le _) (Nat.le_of_ble_eq_true rfl) (ctX7_writeText (m := r17) w19 (j := 32) (q := sq32) rfl i98) (fun v99 h100 q101 => ?_)
    obtain ⟨r102, e103, rfl, w104⟩ := q101
    have hs := bnd_p e103 hs
    refine am_aload_n dX7_writePiece_62 1 rfl ?_
    refine am_aload_n dX7_writePiece_63 1 rfl ?_
    refine am_iload_n dX7_writePiece_64 2 rfl ?_
    refine am_iconst (v := 2) dX7_writePiece_65 (by decide) ?_
    obtain ⟨i105, hs⟩ := hs
    refine am_callV (As := [.int z1, .int 2]) (rest := [.ref (gz G + 221)]) dX7_writePiece_66 kMX7_60 rfl (hmc221 (m := r102) w104) rfl rfl (Nat.le_of_ble_eq_true rfl) (d2 := 1) (by decide) (k2 := 0) (Nat.zero_le _) (u2 := 0) (Nat.zero_le _) (Nat.le_of_ble_eq_true rfl) (ctX7_field (m := r102) w104 z1 2 i105) (fun v106 h107 q108 => ?_)
    obtain ⟨rfl, rfl⟩ := q108
    obtain ⟨i109, hs⟩ := hs
    refine am_callV (As := [.int (fX7_field r102 z1 2)]) (rest := []) dX7_writePiece_69 kMX7_374 rfl (hmc221 (m := r102) w104) rfl rfl (Nat.le_of_ble_eq_true rfl) (d2 := 1) (by decide) (k2 := 0) (Nat.zero_le _) (u2 := 0) (Nat.zero_le _) (Nat.le_of_ble_eq_true rfl) (ctX7_writeNumber (m := r102) w104 (fX7_field r102 z1 2) i109) (fun v110 h111 q112 => ?_)
    obtain ⟨r113, e114, rfl, w115⟩ := q112
    have hs := bnd_p e114 hs
    refine am_aload_n dX7_writePiece_72 1 rfl ?_
    refine am_aload_n dX7_writePiece_73 1 rfl ?_
    refine am_iload_n dX7_writePiece_74 2 rfl ?_
    refine am_iconst (v := 4) dX7_writePiece_75 (by decide) ?_
    obtain ⟨i116, hs⟩ := hs
    refine am_callV (As := [.int z1, .int 4]) (rest := [.ref (gz G + 221)]) dX7_writePiece_76 kMX7_60 rfl (hmc221 (m := r113) w115) rfl rfl (Nat.le_of_ble_eq_true rfl) (d2 := 1) (by decide) (k2 := 0) (Nat.zero_le _) (u2 := 0) (Nat.zero_le _) (Nat.le_of_ble_eq_true rfl) (ctX7_field (m := r113) w115 z1 4 i116) (fun v117 h118 q119 => ?_)
    obtain ⟨rfl, rfl⟩ := q119
    obtain ⟨i120, hs⟩ := hs
    refine am_callV (As := [.int (fX7_field r113 z1 4)]) (rest := []) dX7_writePiece_79 kMX7_374 rfl (hmc221 (m := r113) w115) rfl rfl (Nat.le_of_ble_eq_true rfl) (d2 := 1) (by decide) (k2 := 0) (Nat.zero_le _) (u2 := 0) (Nat.zero_le _) (Nat.le_of_ble_eq_true rfl) (ctX7_writeNumber (m := r113) w115 (fX7_field r113 z1 4) i120) (fun v121 h122 q123 => ?_)
    obtain ⟨r124, e125, rfl, w126⟩ := q123
    have hs := bnd_p e125 hs
    refine am_aload_n dX7_writePiece_82 1 rfl ?_
    refine am_bipush (v := 59) dX7_writePiece_83 (by decide) ?_
    obtain ⟨i127, hs⟩ := hs
    refine am_callV (As := [.int 59]) (rest := []) dX7_writePiece_85 kMX7_368 rfl (hmc221 (m := r124) w126) rfl rfl (Nat.le_of_ble_eq_true rfl) (d2 := 0) (by decide) (k2 := 0) (Nat.zero_le _) (u2 := 0) (Nat.zero_le _) (Nat.le_of_ble_eq_true rfl) (ctX7_write (m := r124) w126 59 i127) (fun v128 h129 q130 => ?_)
    obtain ⟨r131, e132, rfl, w133⟩ := q130
    have hs := bnd_p e132 hs
    exact am_return dX7_writePiece_88 rfl ⟨_, bnd_eq e6 (bnd_eq e18 (ifp c24 (bnd_eq e103 (bnd_eq e114 (bnd_eq e125 (bnd_eq e132 (rfl))))))), rfl, w133⟩

theorem dX7_writeTable_0 : decode cX7_writeTable 0 = .ok (.iconst 0, 1) := by decide +kernel
theorem dX7_writeTable_1 : decode cX7_writeTable 1 = .ok (.istore 5, 2) := by decide +kernel
theorem dX7_writeTable_3 : decode cX7_writeTable 3 = .ok (.iload 5, 2) := by decide +kernel
theorem dX7_writeTable_5 : decode cX7_writeTable 5 = .ok (.iload 4, 2) := by decide +kernel
theorem dX7_writeTable_7 : decode cX7_writeTable 7 = .ok (.if_icmp .ge 44, 3) := by decide +kernel
theorem dX7_writeTable_10 : decode cX7_writeTable 10 = .ok (.aload_n 0, 1) := by decide +kernel
theorem dX7_writeTable_11 : decode cX7_writeTable 11 = .ok (.aload_n 1, 1) := by decide +kernel
theorem dX7_writeTable_12 : decode cX7_writeTable 12 = .ok (.invokevirtual 377, 3) := by decide +kernel
theorem dX7_writeTable_15 : decode cX7_writeTable 15 = .ok (.aload_n 0, 1) := by decide +kernel
theorem dX7_writeTable_16 : decode cX7_writeTable 16 = .ok (.aload_n 0, 1) := by decide +kernel
theorem dX7_writeTable_17 : decode cX7_writeTable 17 = .ok (.getfield 13, 3) := by decide +kernel
theorem dX7_writeTable_20 : decode cX7_writeTable 20 = .ok (.iload_n 2, 1) := by decide +kernel
theorem dX7_writeTable_21 : decode cX7_writeTable 21 = .ok (.iload_n 3, 1) := by decide +kernel
theorem dX7_writeTable_22 : decode cX7_writeTable 22 = .ok (.iload 5, 2) := by decide +kernel
theorem dX7_writeTable_24 : decode cX7_writeTable 24 = .ok (.imul, 1) := by decide +kernel
theorem dX7_writeTable_25 : decode cX7_writeTable 25 = .ok (.iadd, 1) := by decide +kernel
theorem dX7_writeTable_26 : decode cX7_writeTable 26 = .ok (.iaload, 1) := by decide +kernel
theorem dX7_writeTable_27 : decode cX7_writeTable 27 = .ok (.invokevirtual 381, 3) := by decide +kernel
theorem dX7_writeTable_30 : decode cX7_writeTable 30 = .ok (.aload_n 0, 1) := by decide +kernel
theorem dX7_writeTable_31 : decode cX7_writeTable 31 = .ok (.iload_n 2, 1) := by decide +kernel
theorem dX7_writeTable_32 : decode cX7_writeTable 32 = .ok (.iload_n 3, 1) := by decide +kernel
theorem dX7_writeTable_33 : decode cX7_writeTable 33 = .ok (.iload 5, 2) := by decide +kernel
theorem dX7_writeTable_35 : decode cX7_writeTable 35 = .ok (.imul, 1) := by decide +kernel
theorem dX7_writeTable_36 : decode cX7_writeTable 36 = .ok (.iadd, 1) := by decide +kernel
theorem dX7_writeTable_37 : decode cX7_writeTable 37 = .ok (.iconst 1, 1) := by decide +kernel
theorem dX7_writeTable_38 : decode cX7_writeTable 38 = .ok (.iadd, 1) := by decide +kernel
theorem dX7_writeTable_39 : decode cX7_writeTable 39 = .ok (.iload_n 3, 1) := by decide +kernel
theorem dX7_writeTable_40 : decode cX7_writeTable 40 = .ok (.iconst 1, 1) := by decide +kernel
theorem dX7_writeTable_41 : decode cX7_writeTable 41 = .ok (.isub, 1) := by decide +kernel
theorem dX7_writeTable_42 : decode cX7_writeTable 42 = .ok (.invokevirtual 384, 3) := by decide +kernel
theorem dX7_writeTable_45 : decode cX7_writeTable 45 = .ok (.iinc 5 1, 3) := by decide +kernel
theorem dX7_writeTable_48 : decode cX7_writeTable 48 = .ok (.goto (-45), 3) := by decide +kernel
theorem dX7_writeTable_51 : decode cX7_writeTable 51 = .ok (.return_, 1) := by decide +kernel
def fX7_writeTable_3 (q : String × Nat × String × List Int32) (z2 : Int32) (z3 : Int32) (z4 : Int32)  : Nat → Int32 → Md → Int32 × Md
  | 0, x5, y => (x5, y)
  | fu + 1, x5, y => (if z4 ≤ x5 then (x5, y) else (bnd (fX7_writeText y q) (fun r6 => (bnd (fX7_writeName r6 ((r6.2.1 0) (z2 + (z3 * x5)).toNatClampNeg)) (fun r14 => (bnd (fX7_writeNumbers r14 ((z2 + (z3 * x5)) + 1) (z3 - 1)) (fun r21 => (fX7_writeTable_3 q z2 z3 z4   fu (x5 + 1) r21))))))))
def sX7_writeTable_3 (q : String × Nat × String × List Int32) (z2 : Int32) (z3 : Int32) (z4 : Int32)  : Nat → Int32 → Md → Prop
  | 0, _, _ => True
  | fu + 1, x5, y => ((z4 ≤ x5 → True) ∧ (¬ z4 ≤ x5 → ((sX7_writeText y q) ∧ (bnd (fX7_writeText y q) (fun r6 => (vp_in (z2 + (z3 * x5)) 146 ∧ ((sX7_writeName r6 ((r6.2.1 0) (z2 + (z3 * x5)).toNatClampNeg)) ∧ (bnd (fX7_writeName r6 ((r6.2.1 0) (z2 + (z3 * x5)).toNatClampNeg)) (fun r14 => ((sX7_writeNumbers r14 ((z2 + (z3 * x5)) + 1) (z3 - 1)) ∧ (bnd (fX7_writeNumbers r14 ((z2 + (z3 * x5)) + 1) (z3 - 1)) (fun r21 => (sX7_writeTable_3 q z2 z3 z4   fu (x5 + 1) r21)))))))))))))
set_option maxRecDepth 20000 in
theorem wX7_writeTable_3 {l : Launch} {G : GM} {K : Nat → Option va_E} {j : Nat} {q : String × Nat × String × List Int32} (hj : strTab[j]? = some q) (z2 : Int32) (z3 : Int32) (z4 : Int32)   {Q : Option Value → List va_E → Prop} : ∀ (fu : Nat) (x5 : Int32) (y : Md) (iv : ivU z4 x5 fu) (hs : sX7_writeTable_3 q z2 z3 z4   fu x5 y) {h : List va_E} (gy : HM G K h y) (kx : ∀ (h1 : List va_E) (r : Int32 × Md), (fX7_writeTable_3 q z2 z3 z4   fu x5 y) = r → HM G K h1 r.2 → Tr l G mX7_writeTable 5 0 0 51 [(5, .int r.1), (0, .ref (gz G + 221)), (1, .ref (gS G j)), (2, .int z2), (3, .int z3), (4, .int z4)] [] h1 Q), Tr l G mX7_writeTable 5 0 0 3 [(5, .int x5), (0, .ref (gz G + 221)), (1, .ref (gS G j)), (2, .int z2), (3, .int z3), (4, .int z4)] [] h Q := by
  intro fu
  induction fu with
  | zero => intro x5 y iv; intros; exact absurd iv ivU_0
  | succ fu ih =>
    intro x5 y iv hs  h gy  kx
    rw [sX7_writeTable_3] at hs
    refine am_iload dX7_writeTable_3 0 rfl ?_
    refine am_iload dX7_writeTable_5 5 rfl ?_
    refine am_icmp_ge dX7_writeTable_7 (by decide : ((7 : Nat) : Int) + (44) = ((51 : Nat) : Int)) (fun c1 => ?_) (fun c1 => ?_)
    · have hs := hs.1 c1
      exact kx _ _ (ifp c1 (rfl)) gy 
    · have hs := hs.2 c1
      refine am_aload_n dX7_writeTable_10 1 rfl ?_
      refine am_aload_n dX7_writeTable_11 2 rfl ?_
      obtain ⟨i2, hs⟩ := hs
      refine am_callV (As := [.ref (gS G j)]) (rest := []) dX7_writeTable_12 kMX7_377 rfl (hmc221 (m := y) gy) rfl rfl (Nat.le_of_ble_eq_true rfl) (d2 := 4) (by decide) (k2 := 0) (Nat.zero_le _) (u2 := 0) (Nat.zero_le _) (Nat.le_of_ble_eq_true rfl) (ctX7_writeText (m := y) gy hj i2) (fun v3 h4 q5 => ?_)
      obtain ⟨r6, e7, rfl, w8⟩ := q5
      have hs := bnd_p e7 hs
      refine am_aload_n dX7_writeTable_15 1 rfl ?_
      refine am_aload_n dX7_writeTable_16 1 rfl ?_
      refine am_get (v := .ref (gz G + 222)) dX7_writeTable_17 kGX7_13 (hmc221 (m := r6) w8) rfl ?_
      refine am_iload_n dX7_writeTable_20 3 rfl ?_
      refine am_iload_n dX7_writeTable_21 4 rfl ?_
      refine am_iload dX7_writeTable_22 0 rfl ?_
      refine am_imul dX7_writeTable_24 ?_
      refine am_iadd dX7_writeTable_25 ?_
      obtain ⟨i9, hs⟩ := hs
      refine am_iald (f := (r6.2.1 0)) dX7_writeTable_26 (hmc222 (m := r6) w8) i9 ?_
      obtain ⟨i10, hs⟩ := hs
      refine am_callV (As := [.int ((r6.2.1 0) (z2 + (z3 * x5)).toNatClampNeg)]) (rest := []) dX7_writeTable_27 kMX7_381 rfl (hmc221 (m := r6) w8) rfl rfl (Nat.le_of_ble_eq_true rfl) (d2 := 1) (by decide) (k2 := 0) (Nat.zero_le _) (u2 := 0) (Nat.zero_le _) (Nat.le_of_ble_eq_true rfl) (ctX7_writeName (m := r6) w8 ((r6.2.1 0) (z2 + (z3 * x5)).toNatClampNeg) i10) (fun v11 h12 q13 => ?_)
      obtain ⟨r14, e15, rfl, w16⟩ := q13
      have hs := bnd_p e15 hs
      refine am_aload_n dX7_writeTable_30 1 rfl ?_
      refine am_iload_n dX7_writeTable_31 3 rfl ?_
      refine am_iload_n dX7_writeTable_32 4 rfl ?_
      refine am_iload dX7_writeTable_33 0 rfl ?_
      refine am_imul dX7_writeTable_35 ?_
      refine am_iadd dX7_writeTable_36 ?_
      refine am_iconst (v := 1) dX7_writeTable_37 (by decide) ?_
      refine am_iadd dX7_writeTable_38 ?_
      refine am_iload_n dX7_writeTable_39 4 rfl ?_
      refine am_iconst (v := 1) dX7_writeTable_40 (by decide) ?_
      refine am_isub dX7_writeTable_41 ?_
      obtain ⟨i17, hs⟩ := hs
      refine am_callV (As := [.int ((z2 + (z3 * x5)) + 1), .int (z3 - 1)]) (rest := []) dX7_writeTable_42 kMX7_384 rfl (hmc221 (m := r14) w16) rfl rfl (Nat.le_of_ble_eq_true rfl) (d2 := 2) (by decide) (k2 := 0) (Nat.zero_le _) (u2 := 0) (Nat.zero_le _) (Nat.le_of_ble_eq_true rfl) (ctX7_writeNumbers (m := r14) w16 ((z2 + (z3 * x5)) + 1) (z3 - 1) i17) (fun v18 h19 q20 => ?_)
      obtain ⟨r21, e22, rfl, w23⟩ := q20
      have hs := bnd_p e22 hs
      refine am_iinc (v := (x5 + 1)) dX7_writeTable_45 0 rfl rfl (by decide) (lv' := [(5, .int (x5 + 1)), (0, .ref (gz G + 221)), (1, .ref (gS G j)), (2, .int z2), (3, .int z3), (4, .int z4)]) rfl ?_
      refine am_goto dX7_writeTable_48 (by decide : ((48 : Nat) : Int) + (-45) = ((3 : Nat) : Int)) ?_
      exact ih (x5 + 1) r21 (ivU_s c1 iv) hs w23  (fun h1 r e => kx h1 r (Eq.trans (ifn c1 (bnd_eq e7 (bnd_eq e15 (bnd_eq e22 (rfl))))) e))
def fX7_writeTable (m : Md) (q : String × Nat × String × List Int32) (z2 : Int32) (z3 : Int32) (z4 : Int32) : Md := (bnd (fX7_writeTable_3 q z2 z3 z4   (fuU z4 0) 0 m) (fun r25 => r25.2))
def sX7_writeTable (m : Md) (q : String × Nat × String × List Int32) (z2 : Int32) (z3 : Int32) (z4 : Int32) : Prop := ((sX7_writeTable_3 q z2 z3 z4   (fuU z4 0) 0 m) ∧ bnd (fX7_writeTable_3 q z2 z3 z4   (fuU z4 0) 0 m) (fun r25 => True))
set_option maxRecDepth 20000 in
theorem ctX7_writeTable {l : Launch} {G : GM} {K : Nat → Option va_E} {h : List va_E} {m : Md} (hm : HM G K h m) {j : Nat} {q : String × Nat × String × List Int32} (hj : strTab[j]? = some q) (z2 : Int32) (z3 : Int32) (z4 : Int32) (hs : sX7_writeTable m q z2 z3 z4) : Ct l G mX7_writeTable 5 0 0 [.ref (gz G + 221), .ref (gS G j), .int z2, .int z3, .int z4] h (fun v h1 => ∃ r, (fX7_writeTable m q z2 z3 z4) = r ∧ v = none ∧ HM G K h1 r) := by
  show Tr l G mX7_writeTable 5 0 0 0 [(0, .ref (gz G + 221)), (1, .ref (gS G j)), (2, .int z2), (3, .int z3), (4, .int z4)] [] h _
  unfold sX7_writeTable at hs
  refine am_iconst (v := 0) dX7_writeTable_0 (by decide) ?_
  refine am_istore dX7_writeTable_1 (by decide) (lv' := [(5, .int 0), (0, .ref (gz G + 221)), (1, .ref (gS G j)), (2, .int z2), (3, .int z3), (4, .int z4)]) rfl ?_
  obtain ⟨i24, hs⟩ := hs
  refine wX7_writeTable_3 hj z2 z3 z4   (fuU z4 0) 0 m ivU_i i24 hm  (fun h27 r25 e26 w28  => ?_)
  have hs := bnd_p e26 hs
  exact am_return dX7_writeTable_51 rfl ⟨_, bnd_eq e26 (rfl), rfl, w28⟩

theorem dX7_writePlant_0 : decode cX7_writePlant 0 = .ok (.aload_n 0, 1) := by decide +kernel
theorem dX7_writePlant_1 : decode cX7_writePlant 1 = .ok (.iconst 0, 1) := by decide +kernel
theorem dX7_writePlant_2 : decode cX7_writePlant 2 = .ok (.putfield 365, 3) := by decide +kernel
theorem dX7_writePlant_5 : decode cX7_writePlant 5 = .ok (.aload_n 0, 1) := by decide +kernel
theorem dX7_writePlant_6 : decode cX7_writePlant 6 = .ok (.ldc_w 282, 3) := by decide +kernel
theorem dX7_writePlant_9 : decode cX7_writePlant 9 = .ok (.invokevirtual 377, 3) := by decide +kernel
theorem dX7_writePlant_12 : decode cX7_writePlant 12 = .ok (.aload_n 0, 1) := by decide +kernel
theorem dX7_writePlant_13 : decode cX7_writePlant 13 = .ok (.iconst 0, 1) := by decide +kernel
theorem dX7_writePlant_14 : decode cX7_writePlant 14 = .ok (.iconst 2, 1) := by decide +kernel
theorem dX7_writePlant_15 : decode cX7_writePlant 15 = .ok (.invokevirtual 384, 3) := by decide +kernel
theorem dX7_writePlant_18 : decode cX7_writePlant 18 = .ok (.aload_n 0, 1) := by decide +kernel
theorem dX7_writePlant_19 : decode cX7_writePlant 19 = .ok (.ldc_w 284, 3) := by decide +kernel
theorem dX7_writePlant_22 : decode cX7_writePlant 22 = .ok (.invokevirtual 377, 3) := by decide +kernel
theorem dX7_writePlant_25 : decode cX7_writePlant 25 = .ok (.aload_n 0, 1) := by decide +kernel
theorem dX7_writePlant_26 : decode cX7_writePlant 26 = .ok (.iconst 2, 1) := by decide +kernel
theorem dX7_writePlant_27 : decode cX7_writePlant 27 = .ok (.iconst 1, 1) := by decide +kernel
theorem dX7_writePlant_28 : decode cX7_writePlant 28 = .ok (.invokevirtual 384, 3) := by decide +kernel
theorem dX7_writePlant_31 : decode cX7_writePlant 31 = .ok (.aload_n 0, 1) := by decide +kernel
theorem dX7_writePlant_32 : decode cX7_writePlant 32 = .ok (.ldc_w 286, 3) := by decide +kernel
theorem dX7_writePlant_35 : decode cX7_writePlant 35 = .ok (.invokevirtual 377, 3) := by decide +kernel
theorem dX7_writePlant_38 : decode cX7_writePlant 38 = .ok (.aload_n 0, 1) := by decide +kernel
theorem dX7_writePlant_39 : decode cX7_writePlant 39 = .ok (.iconst 3, 1) := by decide +kernel
theorem dX7_writePlant_40 : decode cX7_writePlant 40 = .ok (.iconst 1, 1) := by decide +kernel
theorem dX7_writePlant_41 : decode cX7_writePlant 41 = .ok (.invokevirtual 384, 3) := by decide +kernel
theorem dX7_writePlant_44 : decode cX7_writePlant 44 = .ok (.aload_n 0, 1) := by decide +kernel
theorem dX7_writePlant_45 : decode cX7_writePlant 45 = .ok (.ldc_w 288, 3) := by decide +kernel
theorem dX7_writePlant_48 : decode cX7_writePlant 48 = .ok (.bipush 10, 2) := by decide +kernel
theorem dX7_writePlant_50 : decode cX7_writePlant 50 = .ok (.iconst 3, 1) := by decide +kernel
theorem dX7_writePlant_51 : decode cX7_writePlant 51 = .ok (.aload_n 0, 1) := by decide +kernel
theorem dX7_writePlant_52 : decode cX7_writePlant 52 = .ok (.getfield 13, 3) := by decide +kernel
theorem dX7_writePlant_55 : decode cX7_writePlant 55 = .ok (.iconst 5, 1) := by decide +kernel
theorem dX7_writePlant_56 : decode cX7_writePlant 56 = .ok (.iaload, 1) := by decide +kernel
theorem dX7_writePlant_57 : decode cX7_writePlant 57 = .ok (.invokevirtual 393, 3) := by decide +kernel
theorem dX7_writePlant_60 : decode cX7_writePlant 60 = .ok (.aload_n 0, 1) := by decide +kernel
theorem dX7_writePlant_61 : decode cX7_writePlant 61 = .ok (.ldc_w 290, 3) := by decide +kernel
theorem dX7_writePlant_64 : decode cX7_writePlant 64 = .ok (.bipush 28, 2) := by decide +kernel
theorem dX7_writePlant_66 : decode cX7_writePlant 66 = .ok (.iconst 2, 1) := by decide +kernel
theorem dX7_writePlant_67 : decode cX7_writePlant 67 = .ok (.aload_n 0, 1) := by decide +kernel
theorem dX7_writePlant_68 : decode cX7_writePlant 68 = .ok (.getfield 13, 3) := by decide +kernel
theorem dX7_writePlant_71 : decode cX7_writePlant 71 = .ok (.bipush 6, 2) := by decide +kernel
theorem dX7_writePlant_73 : decode cX7_writePlant 73 = .ok (.iaload, 1) := by decide +kernel
theorem dX7_writePlant_74 : decode cX7_writePlant 74 = .ok (.invokevirtual 393, 3) := by decide +kernel
theorem dX7_writePlant_77 : decode cX7_writePlant 77 = .ok (.aload_n 0, 1) := by decide +kernel
theorem dX7_writePlant_78 : decode cX7_writePlant 78 = .ok (.ldc_w 292, 3) := by decide +kernel
theorem dX7_writePlant_81 : decode cX7_writePlant 81 = .ok (.bipush 44, 2) := by decide +kernel
theorem dX7_writePlant_83 : decode cX7_writePlant 83 = .ok (.iconst 3, 1) := by decide +kernel
theorem dX7_writePlant_84 : decode cX7_writePlant 84 = .ok (.aload_n 0, 1) := by decide +kernel
theorem dX7_writePlant_85 : decode cX7_writePlant 85 = .ok (.getfield 13, 3) := by decide +kernel
theorem dX7_writePlant_88 : decode cX7_writePlant 88 = .ok (.bipush 7, 2) := by decide +kernel
theorem dX7_writePlant_90 : decode cX7_writePlant 90 = .ok (.iaload, 1) := by decide +kernel
theorem dX7_writePlant_91 : decode cX7_writePlant 91 = .ok (.invokevirtual 393, 3) := by decide +kernel
theorem dX7_writePlant_94 : decode cX7_writePlant 94 = .ok (.iconst 0, 1) := by decide +kernel
theorem dX7_writePlant_95 : decode cX7_writePlant 95 = .ok (.istore_n 1, 1) := by decide +kernel
theorem dX7_writePlant_96 : decode cX7_writePlant 96 = .ok (.iload_n 1, 1) := by decide +kernel
theorem dX7_writePlant_97 : decode cX7_writePlant 97 = .ok (.aload_n 0, 1) := by decide +kernel
theorem dX7_writePlant_98 : decode cX7_writePlant 98 = .ok (.getfield 13, 3) := by decide +kernel
theorem dX7_writePlant_101 : decode cX7_writePlant 101 = .ok (.bipush 8, 2) := by decide +kernel
theorem dX7_writePlant_103 : decode cX7_writePlant 103 = .ok (.iaload, 1) := by decide +kernel
theorem dX7_writePlant_104 : decode cX7_writePlant 104 = .ok (.if_icmp .ge 14, 3) := by decide +kernel
theorem dX7_writePlant_107 : decode cX7_writePlant 107 = .ok (.aload_n 0, 1) := by decide +kernel
theorem dX7_writePlant_108 : decode cX7_writePlant 108 = .ok (.iload_n 1, 1) := by decide +kernel
theorem dX7_writePlant_109 : decode cX7_writePlant 109 = .ok (.invokevirtual 397, 3) := by decide +kernel
theorem dX7_writePlant_112 : decode cX7_writePlant 112 = .ok (.iinc 1 1, 3) := by decide +kernel
theorem dX7_writePlant_115 : decode cX7_writePlant 115 = .ok (.goto (-19), 3) := by decide +kernel
theorem dX7_writePlant_118 : decode cX7_writePlant 118 = .ok (.aload_n 0, 1) := by decide +kernel
theorem dX7_writePlant_119 : decode cX7_writePlant 119 = .ok (.getfield 365, 3) := by decide +kernel
theorem dX7_writePlant_122 : decode cX7_writePlant 122 = .ok (.ireturn, 1) := by decide +kernel
def fX7_writePlant_96   : Nat → Int32 → Md → Int32 × Md
  | 0, x1, y => (x1, y)
  | fu + 1, x1, y => (if ((y.2.1 0) 8) ≤ x1 then (x1, y) else (bnd (fX7_writePiece y x1) (fun r70 => (fX7_writePlant_96    fu (x1 + 1) r70))))
def sX7_writePlant_96   : Nat → Int32 → Md → Prop
  | 0, _, _ => True
  | fu + 1, x1, y => ((((y.2.1 0) 8) ≤ x1 → True) ∧ (¬ ((y.2.1 0) 8) ≤ x1 → ((sX7_writePiece y x1) ∧ (bnd (fX7_writePiece y x1) (fun r70 => (sX7_writePlant_96    fu (x1 + 1) r70))))))
set_option maxRecDepth 20000 in
theorem wX7_writePlant_96 {l : Launch} {G : GM} {K : Nat → Option va_E}    {Q : Option Value → List va_E → Prop} : ∀ (fu : Nat) (x1 : Int32) (y : Md) (iv : ivU 2147483647 x1 fu) (hs : sX7_writePlant_96    fu x1 y) {h : List va_E} (gy : HM G K h y) (kx : ∀ (h1 : List va_E) (r : Int32 × Md), (fX7_writePlant_96    fu x1 y) = r → HM G K h1 r.2 → Tr l G mX7_writePlant 6 0 0 118 [(1, .int r.1), (0, .ref (gz G + 221))] [] h1 Q), Tr l G mX7_writePlant 6 0 0 96 [(1, .int x1), (0, .ref (gz G + 221))] [] h Q := by
  intro fu
  induction fu with
  | zero => intro x1 y iv; intros; exact absurd iv ivU_0
  | succ fu ih =>
    intro x1 y iv hs  h gy  kx
    rw [sX7_writePlant_96] at hs
    refine am_iload_n dX7_writePlant_96 0 rfl ?_
    refine am_aload_n dX7_writePlant_97 1 rfl ?_
    refine am_get (v := .ref (gz G + 222)) dX7_writePlant_98 kGX7_13 (hmc221 (m := y) gy) rfl ?_
    refine am_bipush (v := 8) dX7_writePlant_101 (by decide) ?_
    refine am_iald (f := (y.2.1 0)) dX7_writePlant_103 (hmc222 (m := y) gy) (vp_lit (by decide)) ?_
    rw [tl8]
    refine am_icmp_ge dX7_writePlant_104 (by decide : ((104 : Nat) : Int) + (14) = ((118 : Nat) : Int)) (fun c65 => ?_) (fun c65 => ?_)
    · have hs := hs.1 c65
      exact kx _ _ (ifp c65 (rfl)) gy 
    · have hs := hs.2 c65
      refine am_aload_n dX7_writePlant_107 1 rfl ?_
      refine am_iload_n dX7_writePlant_108 0 rfl ?_
      obtain ⟨i66, hs⟩ := hs
      refine am_callV (As := [.int x1]) (rest := []) dX7_writePlant_109 kMX7_397 rfl (hmc221 (m := y) gy) rfl rfl (Nat.le_of_ble_eq_true rfl) (d2 := 5) (by decide) (k2 := 0) (Nat.zero_le _) (u2 := 0) (Nat.zero_le _) (Nat.le_of_ble_eq_true rfl) (ctX7_writePiece (m := y) gy x1 i66) (fun v67 h68 q69 => ?_)
      obtain ⟨r70, e71, rfl, w72⟩ := q69
      have hs := bnd_p e71 hs
      refine am_iinc (v := (x1 + 1)) dX7_writePlant_112 0 rfl rfl (by decide) (lv' := [(1, .int (x1 + 1)), (0, .ref (gz G + 221))]) rfl ?_
      refine am_goto dX7_writePlant_115 (by decide : ((115 : Nat) : Int) + (-19) = ((96 : Nat) : Int)) ?_
      exact ih (x1 + 1) r70 (ivU_s (iv_top c65) iv) hs w72  (fun h1 r e => kx h1 r (Eq.trans (ifn c65 (bnd_eq e71 (rfl))) e))
def fX7_writePlant (m : Md)  : Int32 × Md := (bnd (fX7_writeText (mS m 12 0) sq21) (fun r6 => (bnd (fX7_writeNumbers r6 0 2) (fun r13 => (bnd (fX7_writeText r13 sq22) (fun r20 => (bnd (fX7_writeNumbers r20 2 1) (fun r27 => (bnd (fX7_writeText r27 sq23) (fun r34 => (bnd (fX7_writeNumbers r34 3 1) (fun r41 => (bnd (fX7_writeTable r41 sq24 10 3 ((r41.2.1 0) 5)) (fun r48 => (bnd (fX7_writeTable r48 sq25 28 2 ((r48.2.1 0) 6)) (fun r55 => (bnd (fX7_writeTable r55 sq26 44 3 ((r55.2.1 0) 7)) (fun r62 => (bnd (fX7_writePlant_96    (fuU 2147483647 0) 0 r62) (fun r74 => ((r74.2.1 12), r74.2)))))))))))))))))))))
def sX7_writePlant (m : Md)  : Prop := ((sX7_writeText (mS m 12 0) sq21) ∧ (bnd (fX7_writeText (mS m 12 0) sq21) (fun r6 => ((sX7_writeNumbers r6 0 2) ∧ (bnd (fX7_writeNumbers r6 0 2) (fun r13 => ((sX7_writeText r13 sq22) ∧ (bnd (fX7_writeText r13 sq22) (fun r20 => ((sX7_writeNumbers r20 2 1) ∧ (bnd (fX7_writeNumbers r20 2 1) (fun r27 => ((sX7_writeText r27 sq23) ∧ (bnd (fX7_writeText r27 sq23) (fun r34 => ((sX7_writeNumbers r34 3 1) ∧ (bnd (fX7_writeNumbers r34 3 1) (fun r41 => ((sX7_writeTable r41 sq24 10 3 ((r41.2.1 0) 5)) ∧ (bnd (fX7_writeTable r41 sq24 10 3 ((r41.2.1 0) 5)) (fun r48 => ((sX7_writeTable r48 sq25 28 2 ((r48.2.1 0) 6)) ∧ (bnd (fX7_writeTable r48 sq25 28 2 ((r48.2.1 0) 6)) (fun r55 => ((sX7_writeTable r55 sq26 44 3 ((r55.2.1 0) 7)) ∧ (bnd (fX7_writeTable r55 sq26 44 3 ((r55.2.1 0) 7)) (fun r62 => ((sX7_writePlant_96    (fuU 2147483647 0) 0 r62) ∧ bnd (fX7_writePlant_96    (fuU 2147483647 0) 0 r62) (fun r74 => True)))))))))))))))))))))))))))))
set_option maxRecDepth 20000 in
theorem ctX7_writePlant {l : Launch} {G : GM} {K : Nat → Option va_E} {h : List va_E} {m : Md} (hm : HM G K h m)  (hs : sX7_writePlant m ) : Ct l G mX7_writePlant 6 0 0 [.ref (gz G + 221)] h (fun v h1 => ∃ r, (fX7_writePlant m ) = r ∧ v = some (.int r.1) ∧ HM G K h1 r.2) := by
  show Tr l G mX7_writePlant 6 0 0 0 [(0, .ref (gz G + 221))] [] h _
  unfold sX7_writePlant at hs
  refine am_aload_n dX7_writePlant_0 0 rfl ?_
  refine am_iconst (v := 0) dX7_writePlant_1 (by decide) ?_
  refine am_put dX7_writePlant_2 kFX7_365 (hmc221 (m := m) hm) (Nat.le_of_ble_eq_true rfl) rfl rfl ?_
  have w1 := hmS12 hm 0
  refine am_aload_n dX7_writePlant_5 0 rfl ?_
  refine am_ldcwS (j := 21) dX7_writePlant_6 rfl ?_
  obtain ⟨i2, hs⟩ := hs
  refine am_callV (As := [.ref (gS G 21)]) (rest := []) dX7_writePlant_9 kMX7_377 rfl (hmc221 (m := (mS m 12 0)) w1) rfl rfl (Nat.le_of_ble_eq_true rfl) (d2 := 4) (by decide) (k2 := 0) (Nat.zero_le _) (u2 := 0) (Nat.zero_le _) (Nat.le_of_ble_eq_true rfl) (ctX7_writeText (m := (mS m 12 0)) w1 (j := 21) (q := sq21) rfl i2) (fun v3 h4 q5 => ?_)
  obtain ⟨r6, e7, rfl, w8⟩ := q5
  have hs := bnd_p e7 hs
  refine am_aload_n dX7_writePlant_12 0 rfl ?_
  refine am_iconst (v := 0) dX7_writePlant_13 (by decide) ?_
  refine am_iconst (v := 2) dX7_writePlant_14 (by decide) ?_
  obtain ⟨i9, hs⟩ := hs
  refine am_callV (As := [.int 0, .int 2]) (rest := []) dX7_writePlant_15 kMX7_384 rfl (hmc221 (m := r6) w8) rfl rfl (Nat.le_of_ble_eq_true rfl) (d2 := 2) (by decide) (k2 := 0) (Nat.zero_le _) (u2 := 0) (Nat.zero_le _) (Nat.le_of_ble_eq_true rfl) (ctX7_writeNumbers (m := r6) w8 0 2 i9) (fun v10 h11 q12 => ?_)
  obtain ⟨r13, e14, rfl, w15⟩ := q12
  have hs := bnd_p e14 hs
  refine am_aload_n dX7_writePlant_18 0 rfl ?_
  refine am_ldcwS (j := 22) dX7_writePlant_19 rfl ?_
  obtain ⟨i16, hs⟩ := hs
  refine am_callV (As := [.ref (gS G 22)]) (rest := []) dX7_writePlant_22 kMX7_377 rfl (hmc221 (m := r13) w15) rfl rfl (Nat.le_of_ble_eq_true rfl) (d2 := 4) (by decide) (k2 := 0) (Nat.zero_le _) (u2 := 0) (Nat.zero_le _) (Nat.le_of_ble_eq_true rfl) (ctX7_writeText (m := r13) w15 (j := 22) (q := sq22) rfl i16) (fun v17 h18 q19 => ?_)
  obtain ⟨r20, e21, rfl, w22⟩ := q19
  have hs := bnd_p e21 hs
  refine am_aload_n dX7_writePlant_25 0 rfl ?_
  refine am_iconst (v := 2) dX7_writePlant_26 (by decide) ?_
  refine am_iconst (v := 1) dX7_writePlant_27 (by decide) ?_
  obtain ⟨i23, hs⟩ := hs
  refine am_callV (As := [.int 2, .int 1]) (rest := []) dX7_writePlant_28 kMX7_384 rfl (hmc221 (m := r20) w22) rfl rfl (Nat.le_of_ble_eq_true rfl) (d2 := 2) (by decide) (k2 := 0) (Nat.zero_le _) (u2 := 0) (Nat.zero_le _) (Nat.le_of_ble_eq_true rfl) (ctX7_writeNumbers (m := r20) w22 2 1 i23) (fun v24 h25 q26 => ?_)
  obtain ⟨r27, e28, rfl, w29⟩ := q26
  have hs := bnd_p e28 hs
  refine am_aload_n dX7_writePlant_31 0 rfl ?_
  refine am_ldcwS (j := 23) dX7_writePlant_32 rfl ?_
  obtain ⟨i30, hs⟩ := hs
  refine am_callV (As := [.ref (gS G 23)]) (rest := []) dX7_writePlant_35 kMX7_377 rfl (hmc221 (m := r27) w29) rfl rfl (Nat.le_of_ble_eq_true rfl) (d2 := 4) (by decide) (k2 := 0) (Nat.zero_le _) (u2 := 0) (Nat.zero_le _) (Nat.le_of_ble_eq_true rfl) (ctX7_writeText (m := r27) w29 (j := 23) (q := sq23) rfl i30) (fun v31 h32 q33 => ?_)
  obtain ⟨r34, e35, rfl, w36⟩ := q33
  have hs := bnd_p e35 hs
  refine am_aload_n dX7_writePlant_38 0 rfl ?_
  refine am_iconst (v := 3) dX7_writePlant_39 (by decide) ?_
  refine am_iconst (v := 1) dX7_writePlant_40 (by decide) ?_
  obtain ⟨i37, hs⟩ := hs
  refine am_callV (As := [.int 3, .int 1]) (rest := []) dX7_writePlant_41 kMX7_384 rfl (hmc221 (m := r34) w36) rfl rfl (Nat.le_of_ble_eq_true rfl) (d2 := 2) (by decide) (k2 := 0) (Nat.zero_le _) (u2 := 0) (Nat.zero_le _) (Nat.le_of_ble_eq_true rfl) (ctX7_writeNumbers (m := r34) w36 3 1 i37) (fun v38 h39 q40 => ?_)
  obtain ⟨r41, e42, rfl, w43⟩ := q40
  have hs := bnd_p e42 hs
  refine am_aload_n dX7_writePlant_44 0 rfl ?_
  refine am_ldcwS (j := 24) dX7_writePlant_45 rfl ?_
  refine am_bipush (v := 10) dX7_writePlant_48 (by decide) ?_
  refine am_iconst (v := 3) dX7_writePlant_50 (by decide) ?_
  refine am_aload_n dX7_writePlant_51 0 rfl ?_
  refine am_get (v := .ref (gz G + 222)) dX7_writePlant_52 kGX7_13 (hmc221 (m := r41) w43) rfl ?_
  refine am_iconst (v := 5) dX7_writePlant_55 (by decide) ?_
  refine am_iald (f := (r41.2.1 0)) dX7_writePlant_56 (hmc222 (m := r41) w43) (vp_lit (by decide)) ?_
  rw [tl5]
  obtain ⟨i44, hs⟩ := hs
  refine am_callV (As := [.ref (gS G 24), .int 10, .int 3, .int ((r41.2.1 0) 5)]) (rest := []) dX7_writePlant_57 kMX7_393 rfl (hmc221 (m := r41) w43) rfl rfl (Nat.le_of_ble_eq_true rfl) (d2 := 5) (by decide) (k2 := 0) (Nat.zero_le _) (u2 := 0) (Nat.zero_le _) (Nat.le_of_ble_eq_true rfl) (ctX7_writeTable (m := r41) w43 (j := 24) (q := sq24) rfl 10 3 ((r41.2.1 0) 5) i44) (fun v45 h46 q47 => ?_)
  obtain ⟨r48, e49, rfl, w50⟩ := q47
  have hs := bnd_p e49 hs
  refine am_aload_n dX7_writePlant_60 0 rfl ?_
  refine am_ldcwS (j := 25) dX7_writePlant_61 rfl ?_
  refine am_bipush (v := 28) dX7_writePlant_64 (by decide) ?_
  refine am_iconst (v := 2) dX7_writePlant_66 (by decide) ?_
  refine am_aload_n dX7_writePlant_67 0 rfl ?_
  refine am_get (v := .ref (gz G + 222)) dX7_writePlant_68 kGX7_13 (hmc221 (m := r48) w50) rfl ?_
  refine am_bipush (v := 6) dX7_writePlant_71 (by decide) ?_
  refine am_iald (f := (r48.2.1 0)) dX7_writePlant_73 (hmc222 (m := r48) w50) (vp_lit (by decide)) ?_
  rw [tl6]
  obtain ⟨i51, hs⟩ := hs
  refine am_callV (As := [.ref (gS G 25), .int 28, .int 2, .int ((r48.2.1 0) 6)]) (rest := []) dX7_writePlant_74 kMX7_393 rfl (hmc221 (m := r48) w50) rfl rfl (Nat.le_of_ble_eq_true rfl) (d2 := 5) (by decide) (k2 := 0) (Nat.zero_le _) (u2 := 0) (Nat.zero_le _) (Nat.le_of_ble_eq_true rfl) (ctX7_writeTable (m := r48) w50 (j := 25) (q := sq25) rfl 28 2 ((r48.2.1 0) 6) i51) (fun v52 h53 q54 => ?_)
  obtain ⟨r55, e56, rfl, w57⟩ := q54
  have hs := bnd_p e56 hs
  refine am_aload_n dX7_writePlant_77 0 rfl ?_
  refine am_ldcwS (j := 26) dX7_writePlant_78 rfl ?_
  refine am_bipush (v := 44) dX7_writePlant_81 (by decide) ?_
  refine am_iconst (v := 3) dX7_writePlant_83 (by decide) ?_
  refine am_aload_n dX7_writePlant_84 0 rfl ?_
  refine am_get (v := .ref (gz G + 222)) dX7_writePlant_85 kGX7_13 (hmc221 (m := r55) w57) rfl ?_
  refine am_bipush (v := 7) dX7_writePlant_88 (by decide) ?_
  refine am_iald (f := (r55.2.1 0)) dX7_writePlant_90 (hmc222 (m := r55) w57) (vp_lit (by decide)) ?_
  rw [tl7]
  obtain ⟨i58, hs⟩ := hs
  refine am_callV (As := [.ref (gS G 26), .int 44, .int 3, .int ((r55.2.1 0) 7)]) (rest := []) dX7_writePlant_91 kMX7_393 rfl (hmc221 (m := r55) w57) rfl rfl (Nat.le_of_ble_eq_true rfl) (d2 := 5) (by decide) (k2 := 0) (Nat.zero_le _) (u2 := 0) (Nat.zero_le _) (Nat.le_of_ble_eq_true rfl) (ctX7_writeTable (m := r55) w57 (j := 26) (q := sq26) rfl 44 3 ((r55.2.1 0) 7) i58) (fun v59 h60 q61 => ?_)
  obtain ⟨r62, e63, rfl, w64⟩ := q61
  have hs := bnd_p e63 hs
  refine am_iconst (v := 0) dX7_writePlant_94 (by decide) ?_
  refine am_istore_n dX7_writePlant_95 (by decide) (lv' := [(1, .int 0), (0, .ref (gz G + 221))]) rfl ?_
  obtain ⟨i73, hs⟩ := hs
  refine wX7_writePlant_96    (fuU 2147483647 0) 0 r62 ivU_i i73 w64  (fun h76 r74 e75 w77  => ?_)
  have hs := bnd_p e75 hs
  refine am_aload_n dX7_writePlant_118 1 rfl ?_
  refine am_get (v := .int (r74.2.1 12)) dX7_writePlant_119 kGX7_365 (hmc221 (m := r74.2) w77) rfl ?_
  exact am_ireturn dX7_writePlant_122 rfl rfl ⟨_, bnd_eq e7 (bnd_eq e14 (bnd_eq e21 (bnd_eq e28 (bnd_eq e35 (bnd_eq e42 (bnd_eq e49 (bnd_eq e56 (bnd_eq e63 (bnd_eq e75 (rfl)))))))))), rfl, w77⟩

theorem dX7_outputByte_0 : decode cX7_outputByte 0 = .ok (.iload_n 1, 1) := by decide +kernel
theorem dX7_outputByte_1 : decode cX7_outputByte 1 = .ok (.i2l, 1) := by decide +kernel
theorem dX7_outputByte_2 : decode cX7_outputByte 2 = .ok (.lconst 0, 1) := by decide +kernel
theorem dX7_outputByte_3 : decode cX7_outputByte 3 = .ok (.aload_n 0, 1) := by decide +kernel
theorem dX7_outputByte_4 : decode cX7_outputByte 4 = .ok (.getfield 365, 3) := by decide +kernel
theorem dX7_outputByte_7 : decode cX7_outputByte 7 = .ok (.iconst 1, 1) := by decide +kernel
theorem dX7_outputByte_8 : decode cX7_outputByte 8 = .ok (.isub, 1) := by decide +kernel
theorem dX7_outputByte_9 : decode cX7_outputByte 9 = .ok (.i2l, 1) := by decide +kernel
theorem dX7_outputByte_10 : decode cX7_outputByte 10 = .ok (.invokestatic 56, 3) := by decide +kernel
theorem dX7_outputByte_13 : decode cX7_outputByte 13 = .ok (.ifCond .eq 12, 3) := by decide +kernel
theorem dX7_outputByte_16 : decode cX7_outputByte 16 = .ok (.aload_n 0, 1) := by decide +kernel
theorem dX7_outputByte_17 : decode cX7_outputByte 17 = .ok (.getfield 45, 3) := by decide +kernel
theorem dX7_outputByte_20 : decode cX7_outputByte 20 = .ok (.iload_n 1, 1) := by decide +kernel
theorem dX7_outputByte_21 : decode cX7_outputByte 21 = .ok (.baload, 1) := by decide +kernel
theorem dX7_outputByte_22 : decode cX7_outputByte 22 = .ok (.goto 4, 3) := by decide +kernel
theorem dX7_outputByte_25 : decode cX7_outputByte 25 = .ok (.iconst (-1), 1) := by decide +kernel
theorem dX7_outputByte_26 : decode cX7_outputByte 26 = .ok (.ireturn, 1) := by decide +kernel
def fX7_outputByte (m : Md) (z1 : Int32) : Int32 := (if (fX7_in (z1.toInt64) 0 (((m.1 12) - 1).toInt64)) = 0 then (-1) else ((m.2.1 8) z1.toNatClampNeg))
def sX7_outputByte (m : Md) (z1 : Int32) : Prop := (((fX7_in (z1.toInt64) 0 (((m.1 12) - 1).toInt64)) = 0 → True) ∧ (¬ (fX7_in (z1.toInt64) 0 (((m.1 12) - 1).toInt64)) = 0 → (vp_in z1 2000 ∧ True)))
set_option maxRecDepth 20000 in
theorem ctX7_outputByte {l : Launch} {G : GM} {K : Nat → Option va_E} {h : List va_E} {m : Md} (hm : HM G K h m) (z1 : Int32) (hs : sX7_outputByte m z1) : Ct l G mX7_outputByte 1 0 0 [.ref (gz G + 221), .int z1] h (fun v h1 => v = some (.int (fX7_outputByte m z1)) ∧ h1 = h) := by
  show Tr l G mX7_outputByte 1 0 0 0 [(0, .ref (gz G + 221)), (1, .int z1)] [] h _
  unfold sX7_outputByte at hs
  refine am_iload_n dX7_outputByte_0 1 rfl ?_
  refine am_i2l (v := z1.toInt64) dX7_outputByte_1 rfl ?_
  refine am_lconst (v := 0) dX7_outputByte_2 (by decide) ?_
  refine am_aload_n dX7_outputByte_3 0 rfl ?_
  refine am_get (v := .int (m.1 12)) dX7_outputByte_4 kGX7_365 (hmc221 (m := m) hm) rfl ?_
  refine am_iconst (v := 1) dX7_outputByte_7 (by decide) ?_
  refine am_isub dX7_outputByte_8 ?_
  refine am_i2l (v := ((m.1 12) - 1).toInt64) dX7_outputByte_9 rfl ?_
  refine am_callS (As := [.long (z1.toInt64), .long 0, .long (((m.1 12) - 1).toInt64)]) (rest := []) dX7_outputByte_10 kMX7_56 rfl  rfl (Nat.le_of_ble_eq_true rfl) (d2 := 0) (by decide) (k2 := 0) (Nat.zero_le _) (u2 := 0) (Nat.zero_le _) (Nat.le_of_ble_eq_true rfl) (ctX7_in  (z1.toInt64) 0 (((m.1 12) - 1).toInt64) ) (fun v1 h2 q3 => ?_)
  obtain ⟨rfl, rfl⟩ := q3
  refine am_if_eq dX7_outputByte_13 (by decide : ((13 : Nat) : Int) + (12) = ((25 : Nat) : Int)) (fun c4 => ?_) (fun c4 => ?_)
  · have hs := hs.1 c4
    refine am_iconst (v := (-1)) dX7_outputByte_25 (by decide) ?_
    rw [show (fX7_outputByte m z1) = (-1) from ifp c4 (rfl)]
    exact am_ireturn dX7_outputByte_26 rfl rfl ⟨rfl, rfl⟩
  · have hs := hs.2 c4
    refine am_aload_n dX7_outputByte_16 0 rfl ?_
    refine am_get (v := .ref (gz G + 230)) dX7_outputByte_17 kGX7_45 (hmc221 (m := m) hm) rfl ?_
    refine am_iload_n dX7_outputByte_20 1 rfl ?_
    obtain ⟨i5, hs⟩ := hs
    refine am_bald (f := (m.2.1 8)) dX7_outputByte_21 (hmc230 (m := m) hm) i5 ?_
    refine am_goto dX7_outputByte_22 (by decide : ((22 : Nat) : Int) + (4) = ((26 : Nat) : Int)) ?_
    rw [show (fX7_outputByte m z1) = ((m.2.1 8) z1.toNatClampNeg) from ifn c4 (rfl)]
    exact am_ireturn dX7_outputByte_26 rfl rfl ⟨rfl, rfl⟩

theorem dX7_ifTolerance_0 : decode cX7_ifTolerance 0 = .ok (.iload_n 1, 1) := by decide +kernel
theorem dX7_ifTolerance_1 : decode cX7_ifTolerance 1 = .ok (.i2l, 1) := by decide +kernel
theorem dX7_ifTolerance_2 : decode cX7_ifTolerance 2 = .ok (.lconst 0, 1) := by decide +kernel
theorem dX7_ifTolerance_3 : decode cX7_ifTolerance 3 = .ok (.ldc2_w 215, 3) := by decide +kernel
theorem dX7_ifTolerance_6 : decode cX7_ifTolerance 6 = .ok (.invokestatic 56, 3) := by decide +kernel
theorem dX7_ifTolerance_9 : decode cX7_ifTolerance 9 = .ok (.ifCond .eq 15, 3) := by decide +kernel
theorem dX7_ifTolerance_12 : decode cX7_ifTolerance 12 = .ok (.iload_n 2, 1) := by decide +kernel
theorem dX7_ifTolerance_13 : decode cX7_ifTolerance 13 = .ok (.i2l, 1) := by decide +kernel
theorem dX7_ifTolerance_14 : decode cX7_ifTolerance 14 = .ok (.lconst 0, 1) := by decide +kernel
theorem dX7_ifTolerance_15 : decode cX7_ifTolerance 15 = .ok (.ldc2_w 201, 3) := by decide +kernel
theorem dX7_ifTolerance_18 : decode cX7_ifTolerance 18 = .ok (.invokestatic 56, 3) := by decide +kernel
theorem dX7_ifTolerance_21 : decode cX7_ifTolerance 21 = .ok (.ifCond .ne 6, 3) := by decide +kernel
theorem dX7_ifTolerance_24 : decode cX7_ifTolerance 24 = .ok (.bipush (-2), 2) := by decide +kernel
theorem dX7_ifTolerance_26 : decode cX7_ifTolerance 26 = .ok (.ireturn, 1) := by decide +kernel
theorem dX7_ifTolerance_27 : decode cX7_ifTolerance 27 = .ok (.aload_n 0, 1) := by decide +kernel
theorem dX7_ifTolerance_28 : decode cX7_ifTolerance 28 = .ok (.invokevirtual 181, 3) := by decide +kernel
theorem dX7_ifTolerance_31 : decode cX7_ifTolerance 31 = .ok (.aload_n 0, 1) := by decide +kernel
theorem dX7_ifTolerance_32 : decode cX7_ifTolerance 32 = .ok (.getfield 23, 3) := by decide +kernel
theorem dX7_ifTolerance_35 : decode cX7_ifTolerance 35 = .ok (.iconst 0, 1) := by decide +kernel
theorem dX7_ifTolerance_36 : decode cX7_ifTolerance 36 = .ok (.iload_n 1, 1) := by decide +kernel
theorem dX7_ifTolerance_37 : decode cX7_ifTolerance 37 = .ok (.iastore, 1) := by decide +kernel
theorem dX7_ifTolerance_38 : decode cX7_ifTolerance 38 = .ok (.aload_n 0, 1) := by decide +kernel
theorem dX7_ifTolerance_39 : decode cX7_ifTolerance 39 = .ok (.getfield 23, 3) := by decide +kernel
theorem dX7_ifTolerance_42 : decode cX7_ifTolerance 42 = .ok (.iconst 1, 1) := by decide +kernel
theorem dX7_ifTolerance_43 : decode cX7_ifTolerance 43 = .ok (.iload_n 2, 1) := by decide +kernel
theorem dX7_ifTolerance_44 : decode cX7_ifTolerance 44 = .ok (.iastore, 1) := by decide +kernel
theorem dX7_ifTolerance_45 : decode cX7_ifTolerance 45 = .ok (.aload_n 0, 1) := by decide +kernel
theorem dX7_ifTolerance_46 : decode cX7_ifTolerance 46 = .ok (.invokevirtual 124, 3) := by decide +kernel
theorem dX7_ifTolerance_49 : decode cX7_ifTolerance 49 = .ok (.istore_n 3, 1) := by decide +kernel
theorem dX7_ifTolerance_50 : decode cX7_ifTolerance 50 = .ok (.aload_n 0, 1) := by decide +kernel
theorem dX7_ifTolerance_51 : decode cX7_ifTolerance 51 = .ok (.aload_n 0, 1) := by decide +kernel
theorem dX7_ifTolerance_52 : decode cX7_ifTolerance 52 = .ok (.getfield 13, 3) := by decide +kernel
theorem dX7_ifTolerance_55 : decode cX7_ifTolerance 55 = .ok (.putfield 23, 3) := by decide +kernel
theorem dX7_ifTolerance_58 : decode cX7_ifTolerance 58 = .ok (.iload_n 3, 1) := by decide +kernel
theorem dX7_ifTolerance_59 : decode cX7_ifTolerance 59 = .ok (.ireturn, 1) := by decide +kernel
def fX7_ifTolerance (m : Md) (z1 : Int32) (z2 : Int32) : Int32 × Md := (if (fX7_in (z1.toInt64) 0 500) = 0 then ((-2), m) else (if (fX7_in (z2.toInt64) 0 255) = 0 then ((-2), m) else (bnd (fX7_startPrediction m ) (fun r13 => (bnd (mA r13 (r13.2.2) (upd (r13.2.1 (r13.2.2)) 0 z1)) (fun r17 => (bnd (mA r17 (r17.2.2) (upd (r17.2.1 (r17.2.2)) 1 z2)) (fun r21 => (bnd (fX7_countPairs r21 ) (fun r28 => (r28.1, (mN r28.2 0))))))))))))
def sX7_ifTolerance (m : Md) (z1 : Int32) (z2 : Int32) : Prop := (((fX7_in (z1.toInt64) 0 500) = 0 → True) ∧ (¬ (fX7_in (z1.toInt64) 0 500) = 0 → (((fX7_in (z2.toInt64) 0 255) = 0 → True) ∧ (¬ (fX7_in (z2.toInt64) 0 255) = 0 → ((sX7_startPrediction m ) ∧ (bnd (fX7_startPrediction m ) (fun r13 => (bnd (mA r13 (r13.2.2) (upd (r13.2.1 (r13.2.2)) 0 z1)) (fun r17 => (bnd (mA r17 (r17.2.2) (upd (r17.2.1 (r17.2.2)) 1 z2)) (fun r21 => ((sX7_countPairs r21 ) ∧ (bnd (fX7_countPairs r21 ) (fun r28 => True))))))))))))))
set_option maxRecDepth 20000 in
theorem ctX7_ifTolerance {l : Launch} {G : GM} {K : Nat → Option va_E} {h : List va_E} {m : Md} (hm : HM G K h m) (z1 : Int32) (z2 : Int32) (hs : sX7_ifTolerance m z1 z2) : Ct l G mX7_ifTolerance 7 0 0 [.ref (gz G + 221), .int z1, .int z2] h (fun v h1 => ∃ r, (fX7_ifTolerance m z1 z2) = r ∧ v = some (.int r.1) ∧ HM G K h1 r.2) := by
  show Tr l G mX7_ifTolerance 7 0 0 0 [(0, .ref (gz G + 221)), (1, .int z1), (2, .int z2)] [] h _
  unfold sX7_ifTolerance at hs
  refine am_iload_n dX7_ifTolerance_0 1 rfl ?_
  refine am_i2l (v := z1.toInt64) dX7_ifTolerance_1 rfl ?_
  refine am_lconst (v := 0) dX7_ifTolerance_2 (by decide) ?_
  refine am_ldc2 (v := 500) dX7_ifTolerance_3 kKX7_215 ?_
  refine am_callS (As := [.long (z1.toInt64), .long 0, .long 500]) (rest := []) dX7_ifTolerance_6 kMX7_56 rfl  rfl (Nat.le_of_ble_eq_true rfl) (d2 := 0) (by decide) (k2 := 0) (Nat.zero_le _) (u2 := 0) (Nat.zero_le _) (Nat.le_of_ble_eq_true rfl) (ctX7_in  (z1.toInt64) 0 500 ) (fun v1 h2 q3 => ?_)
  obtain ⟨rfl, rfl⟩ := q3
  refine am_if_eq dX7_ifTolerance_9 (by decide : ((9 : Nat) : Int) + (15) = ((24 : Nat) : Int)) (fun c4 => ?_) (fun c4 => ?_)
  · have hs := hs.1 c4
    refine am_bipush (v := (-2)) dX7_ifTolerance_24 (by decide) ?_
    exact am_ireturn dX7_ifTolerance_26 rfl rfl ⟨_, ifp c4 (rfl), rfl, hm⟩
  · have hs := hs.2 c4
    refine am_iload_n dX7_ifTolerance_12 2 rfl ?_
    refine am_i2l (v := z2.toInt64) dX7_ifTolerance_13 rfl ?_
    refine am_lconst (v := 0) dX7_ifTolerance_14 (by decide) ?_
    refine am_ldc2 (v := 255) dX7_ifTolerance_15 kKX7_201 ?_
    refine am_callS (As := [.long (z2.toInt64), .long 0, .long 255]) (rest := []) dX7_ifTolerance_18 kMX7_56 rfl  rfl (Nat.le_of_ble_eq_true rfl) (d2 := 0) (by decide) (k2 := 0) (Nat.zero_le _) (u2 := 0) (Nat.zero_le _) (Nat.le_of_ble_eq_true rfl) (ctX7_in  (z2.toInt64) 0 255 ) (fun v5 h6 q7 => ?_)
    obtain ⟨rfl, rfl⟩ := q7
    refine am_if_ne dX7_ifTolerance_21 (by decide : ((21 : Nat) : Int) + (6) = ((27 : Nat) : Int)) (fun c8 => ?_) (fun c8 => ?_)
    · have hs := hs.2 c8
      refine am_aload_n dX7_ifTolerance_27 0 rfl ?_
      obtain ⟨i9, hs⟩ := hs
      refine am_callV (As := []) (rest := []) dX7_ifTolerance_28 kMX7_181 rfl (hmc221 (m := m) hm) rfl rfl (Nat.le_of_ble_eq_true rfl) (d2 := 0) (by decide) (k2 := 0) (Nat.zero_le _) (u2 := 0) (Nat.zero_le _) (Nat.le_of_ble_eq_true rfl) (ctX7_startPrediction (m := m) hm  i9) (fun v10 h11 q12 => ?_)
      obtain ⟨r13, e14, rfl, w15⟩ := q12
      have hs := bnd_p e14 hs
      refine am_aload_n dX7_ifTolerance_31 0 rfl ?_
      refine am_get (v := .ref (gz G + (222 + (r13.2.2)))) dX7_ifTolerance_32 kGX7_23 (hmc221 (m := r13) w15) rfl ?_
      refine am_iconst (v := 0) dX7_ifTolerance_35 (by decide) ?_
      refine am_iload_n dX7_ifTolerance_36 1 rfl ?_
      refine am_iast (f := (r13.2.1 (r13.2.2))) dX7_ifTolerance_37 (hmN (m := r13) w15) (vp_lit (by decide)) ?_
      rw [tl0]
      have w16 := hmNw w15 (upd (r13.2.1 (r13.2.2)) 0 z1)
      obtain ⟨r17, e18⟩ : ∃ x, (mA r13 (r13.2.2) (upd (r13.2.1 (r13.2.2)) 0 z1)) = x := ⟨_, rfl⟩
      have w19 := hm_eq e18 w16
      have hs := bnd_p e18 hs
      refine am_aload_n dX7_ifTolerance_38 0 rfl ?_
      refine am_get (v := .ref (gz G + (222 + (r17.2.2)))) dX7_ifTolerance_39 kGX7_23 (hmc221 (m := r17) w19) rfl ?_
      refine am_iconst (v := 1) dX7_ifTolerance_42 (by decide) ?_
      refine am_iload_n dX7_ifTolerance_43 2 rfl ?_
      refine am_iast (f := (r17.2.1 (r17.2.2))) dX7_ifTolerance_44 (hmN (m := r17) w19) (vp_lit (by decide)) ?_
      rw [tl1]
      have w20 := hmNw w19 (upd (r17.2.1 (r17.2.2)) 1 z2)
      obtain ⟨r21, e22⟩ : ∃ x, (mA r17 (r17.2.2) (upd (r17.2.1 (r17.2.2)) 1 z2)) = x := ⟨_, rfl⟩
      have w23 := hm_eq e22 w20
      have hs := bnd_p e22 hs
      refine am_aload_n dX7_ifTolerance_45 0 rfl ?_
      obtain ⟨i24, hs⟩ := hs
      refine am_callV (As := []) (rest := []) dX7_ifTolerance_46 kMX7_124 rfl (hmc221 (m := r21) w23) rfl rfl (Nat.le_of_ble_eq_true rfl) (d2 := 6) (by decide) (k2 := 0) (Nat.zero_le _) (u2 := 0) (Nat.zero_le _) (Nat.le_of_ble_eq_true rfl) (ctX7_countPairs (m := r21) w23  i24) (fun v25 h26 q27 => ?_)
      obtain ⟨r28, e29, rfl, w30⟩ := q27
      have hs := bnd_p e29 hs
      refine am_istore_n dX7_ifTolerance_49 (by decide) (lv' := [(3, .int r28.1), (0, .ref (gz G + 221)), (1, .int z1), (2, .int z2)]) rfl ?_
      refine am_aload_n dX7_ifTolerance_50 1 rfl ?_
      refine am_aload_n dX7_ifTolerance_51 1 rfl ?_
      refine am_get (v := .ref (gz G + 222)) dX7_ifTolerance_52 kGX7_13 (hmc221 (m := r28.2) w30) rfl ?_
      refine am_put dX7_ifTolerance_55 kFX7_23 (hmc221 (m := r28.2) w30) (Nat.le_of_ble_eq_true rfl) rfl rfl ?_
      have w31 := hmNs w30 0 (by decide)
      refine am_iload_n dX7_ifTolerance_58 0 rfl ?_
      exact am_ireturn dX7_ifTolerance_59 rfl rfl ⟨_, ifn c4 (ifn c8 (bnd_eq e14 (bnd_eq e18 (bnd_eq e22 (bnd_eq e29 (rfl)))))), rfl, w31⟩
    · have hs := hs.1 c8
      refine am_bipush (v := (-2)) dX7_ifTolerance_24 (by decide) ?_
      exact am_ireturn dX7_ifTolerance_26 rfl rfl ⟨_, ifn c4 (ifp c8 (rfl)), rfl, hm⟩

theorem dX7_worstPair_0 : decode cX7_worstPair 0 = .ok (.aload_n 0, 1) := by decide +kernel
theorem dX7_worstPair_1 : decode cX7_worstPair 1 = .ok (.invokevirtual 140, 3) := by decide +kernel
theorem dX7_worstPair_4 : decode cX7_worstPair 4 = .ok (.istore_n 1, 1) := by decide +kernel
theorem dX7_worstPair_5 : decode cX7_worstPair 5 = .ok (.iconst (-1), 1) := by decide +kernel
theorem dX7_worstPair_6 : decode cX7_worstPair 6 = .ok (.istore_n 2, 1) := by decide +kernel
theorem dX7_worstPair_7 : decode cX7_worstPair 7 = .ok (.iconst (-1), 1) := by decide +kernel
theorem dX7_worstPair_8 : decode cX7_worstPair 8 = .ok (.istore_n 3, 1) := by decide +kernel
theorem dX7_worstPair_9 : decode cX7_worstPair 9 = .ok (.iconst 0, 1) := by decide +kernel
theorem dX7_worstPair_10 : decode cX7_worstPair 10 = .ok (.istore 4, 2) := by decide +kernel
theorem dX7_worstPair_12 : decode cX7_worstPair 12 = .ok (.iload 4, 2) := by decide +kernel
theorem dX7_worstPair_14 : decode cX7_worstPair 14 = .ok (.iload_n 1, 1) := by decide +kernel
theorem dX7_worstPair_15 : decode cX7_worstPair 15 = .ok (.if_icmp .ge 47, 3) := by decide +kernel
theorem dX7_worstPair_18 : decode cX7_worstPair 18 = .ok (.aload_n 0, 1) := by decide +kernel
theorem dX7_worstPair_19 : decode cX7_worstPair 19 = .ok (.iload 4, 2) := by decide +kernel
theorem dX7_worstPair_21 : decode cX7_worstPair 21 = .ok (.invokevirtual 170, 3) := by decide +kernel
theorem dX7_worstPair_24 : decode cX7_worstPair 24 = .ok (.istore 5, 2) := by decide +kernel
theorem dX7_worstPair_26 : decode cX7_worstPair 26 = .ok (.aload_n 0, 1) := by decide +kernel
theorem dX7_worstPair_27 : decode cX7_worstPair 27 = .ok (.iload 5, 2) := by decide +kernel
theorem dX7_worstPair_29 : decode cX7_worstPair 29 = .ok (.aload_n 0, 1) := by decide +kernel
theorem dX7_worstPair_30 : decode cX7_worstPair 30 = .ok (.getfield 32, 3) := by decide +kernel
theorem dX7_worstPair_33 : decode cX7_worstPair 33 = .ok (.iload 5, 2) := by decide +kernel
theorem dX7_worstPair_35 : decode cX7_worstPair 35 = .ok (.iaload, 1) := by decide +kernel
theorem dX7_worstPair_36 : decode cX7_worstPair 36 = .ok (.invokevirtual 118, 3) := by decide +kernel
theorem dX7_worstPair_39 : decode cX7_worstPair 39 = .ok (.istore 6, 2) := by decide +kernel
theorem dX7_worstPair_41 : decode cX7_worstPair 41 = .ok (.iload 6, 2) := by decide +kernel
theorem dX7_worstPair_43 : decode cX7_worstPair 43 = .ok (.iload_n 3, 1) := by decide +kernel
theorem dX7_worstPair_44 : decode cX7_worstPair 44 = .ok (.if_icmp .gt 6, 3) := by decide +kernel
theorem dX7_worstPair_47 : decode cX7_worstPair 47 = .ok (.goto 9, 3) := by decide +kernel
theorem dX7_worstPair_50 : decode cX7_worstPair 50 = .ok (.iload 6, 2) := by decide +kernel
theorem dX7_worstPair_52 : decode cX7_worstPair 52 = .ok (.istore_n 3, 1) := by decide +kernel
theorem dX7_worstPair_53 : decode cX7_worstPair 53 = .ok (.iload 4, 2) := by decide +kernel
theorem dX7_worstPair_55 : decode cX7_worstPair 55 = .ok (.istore_n 2, 1) := by decide +kernel
theorem dX7_worstPair_56 : decode cX7_worstPair 56 = .ok (.iinc 4 1, 3) := by decide +kernel
theorem dX7_worstPair_59 : decode cX7_worstPair 59 = .ok (.goto (-47), 3) := by decide +kernel
theorem dX7_worstPair_62 : decode cX7_worstPair 62 = .ok (.iload_n 2, 1) := by decide +kernel
theorem dX7_worstPair_63 : decode cX7_worstPair 63 = .ok (.ireturn, 1) := by decide +kernel
def fX7_worstPair_12  (o1 : Int32) (m : Md) : Nat → Int32 → Int32 → Int32 → Int32 × Int32 × Int32
  | 0, x4, x3, x2 => (x4, x3, x2)
  | fu + 1, x4, x3, x2 => (if o1 ≤ x4 then (x4, x3, x2) else (if x3 < (fX7_gapOf m (fX7_pairAt m x4) ((m.2.1 5) (fX7_pairAt m x4).toNatClampNeg)) then (fX7_worstPair_12  o1 m fu (x4 + 1) (fX7_gapOf m (fX7_pairAt m x4) ((m.2.1 5) (fX7_pairAt m x4).toNatClampNeg)) x4 ) else (fX7_worstPair_12  o1 m fu (x4 + 1) x3 x2 )))
def sX7_worstPair_12  (o1 : Int32) (m : Md) : Nat → Int32 → Int32 → Int32 → Prop
  | 0, _, _, _ => True
  | fu + 1, x4, x3, x2 => ((o1 ≤ x4 → True) ∧ (¬ o1 ≤ x4 → ((sX7_pairAt m x4) ∧ (vp_in (fX7_pairAt m x4) 14 ∧ ((sX7_gapOf m (fX7_pairAt m x4) ((m.2.1 5) (fX7_pairAt m x4).toNatClampNeg)) ∧ ((x3 < (fX7_gapOf m (fX7_pairAt m x4) ((m.2.1 5) (fX7_pairAt m x4).toNatClampNeg)) → (sX7_worstPair_12  o1 m fu (x4 + 1) (fX7_gapOf m (fX7_pairAt m x4) ((m.2.1 5) (fX7_pairAt m x4).toNatClampNeg)) x4 )) ∧ (¬ x3 < (fX7_gapOf m (fX7_pairAt m x4) ((m.2.1 5) (fX7_pairAt m x4).toNatClampNeg)) → (sX7_worstPair_12  o1 m fu (x4 + 1) x3 x2 ))))))))
set_option maxRecDepth 20000 in
theorem wX7_worstPair_12 {l : Launch} {G : GM} {K : Nat → Option va_E}  (o1 : Int32)  {h : List va_E} {m : Md} (hm : HM G K h m) {Q : Option Value → List va_E → Prop} : ∀ (fu : Nat) (x4 x3 x2 : Int32) (iv : ivU o1 x4 fu) (hs : sX7_worstPair_12  o1 m fu x4 x3 x2 ) (kx : ∀ (r : Int32 × Int32 × Int32), (fX7_worstPair_12  o1 m fu x4 x3 x2 ) = r → Tr l G mX7_worstPair 8 0 0 62 [(4, .int r.1), (3, .int r.2.1), (2, .int r.2.2), (1, .int o1), (0, .ref (gz G + 221))] [] h Q), Tr l G mX7_worstPair 8 0 0 12 [(4, .int x4), (3, .int x3), (2, .int x2), (1, .int o1), (0, .ref (gz G + 221))] [] h Q := by
  intro fu
  induction fu with
  | zero => intro x4 x3 x2 iv; intros; exact absurd iv ivU_0
  | succ fu ih =>
    intro x4 x3 x2 iv hs    kx
    rw [sX7_worstPair_12] at hs
    refine am_iload dX7_worstPair_12 0 rfl ?_
    refine am_iload_n dX7_worstPair_14 3 rfl ?_
    refine am_icmp_ge dX7_worstPair_15 (by decide : ((15 : Nat) : Int) + (47) = ((62 : Nat) : Int)) (fun c8 => ?_) (fun c8 => ?_)
    · have hs := hs.1 c8
      exact kx _ (ifp c8 (rfl))
    · have hs := hs.2 c8
      refine am_aload_n dX7_worstPair_18 4 rfl ?_
      refine am_iload dX7_worstPair_19 0 rfl ?_
      obtain ⟨i9, hs⟩ := hs
      refine am_callV (As := [.int x4]) (rest := []) dX7_worstPair_21 kMX7_170 rfl (hmc221 (m := m) hm) rfl rfl (Nat.le_of_ble_eq_true rfl) (d2 := 1) (by decide) (k2 := 0) (Nat.zero_le _) (u2 := 0) (Nat.zero_le _) (Nat.le_of_ble_eq_true rfl) (ctX7_pairAt (m := m) hm x4 i9) (fun v10 h11 q12 => ?_)
      obtain ⟨rfl, rfl⟩ := q12
      refine am_istore dX7_worstPair_24 (by decide) (lv' := [(5, .int (fX7_pairAt m x4)), (4, .int x4), (3, .int x3), (2, .int x2), (1, .int o1), (0, .ref (gz G + 221))]) rfl ?_
      refine am_aload_n dX7_worstPair_26 5 rfl ?_
      refine am_iload dX7_worstPair_27 0 rfl ?_
      refine am_aload_n dX7_worstPair_29 5 rfl ?_
      refine am_get (v := .ref (gz G + 227)) dX7_worstPair_30 kGX7_32 (hmc221 (m := m) hm) rfl ?_
      refine am_iload dX7_worstPair_33 0 rfl ?_
      obtain ⟨i13, hs⟩ := hs
      refine am_iald (f := (m.2.1 5)) dX7_worstPair_35 (hmc227 (m := m) hm) i13 ?_
      obtain ⟨i14, hs⟩ := hs
      refine am_callV (As := [.int (fX7_pairAt m x4), .int ((m.2.1 5) (fX7_pairAt m x4).toNatClampNeg)]) (rest := []) dX7_worstPair_36 kMX7_118 rfl (hmc221 (m := m) hm) rfl rfl (Nat.le_of_ble_eq_true rfl) (d2 := 2) (by decide) (k2 := 0) (Nat.zero_le _) (u2 := 0) (Nat.zero_le _) (Nat.le_of_ble_eq_true rfl) (ctX7_gapOf (m := m) hm (fX7_pairAt m x4) ((m.2.1 5) (fX7_pairAt m x4).toNatClampNeg) i14) (fun v15 h16 q17 => ?_)
      obtain ⟨rfl, rfl⟩ := q17
      refine am_istore dX7_worstPair_39 (by decide) (lv' := [(6, .int (fX7_gapOf m (fX7_pairAt m x4) ((m.2.1 5) (fX7_pairAt m x4).toNatClampNeg))), (5, .int (fX7_pairAt m x4)), (4, .int x4), (3, .int x3), (2, .int x2), (1, .int o1), (0, .ref (gz G + 221))]) rfl ?_
      refine am_iload dX7_worstPair_41 0 rfl ?_
      refine am_iload_n dX7_worstPair_43 3 rfl ?_
      refine am_icmp_gt dX7_worstPair_44 (by decide : ((44 : Nat) : Int) + (6) = ((50 : Nat) : Int)) (fun c18 => ?_) (fun c18 => ?_)
      · have hs := hs.1 c18
        refine am_iload dX7_worstPair_50 0 rfl ?_
        refine am_istore_n dX7_worstPair_52 (by decide) (lv' := [(3, .int (fX7_gapOf m (fX7_pairAt m x4) ((m.2.1 5) (fX7_pairAt m x4).toNatClampNeg))), (6, .int (fX7_gapOf m (fX7_pairAt m x4) ((m.2.1 5) (fX7_pairAt m x4).toNatClampNeg))), (5, .int (fX7_pairAt m x4)), (4, .int x4), (2, .int x2), (1, .int o1), (0, .ref (gz G + 221))]) rfl ?_
        refine am_iload dX7_worstPair_53 3 rfl ?_
        refine am_istore_n dX7_worstPair_55 (by decide) (lv' := [(2, .int x4), (3, .int (fX7_gapOf m (fX7_pairAt m x4) ((m.2.1 5) (fX7_pairAt m x4).toNatClampNeg))), (6, .int (fX7_gapOf m (fX7_pairAt m x4) ((m.2.1 5) (fX7_pairAt m x4).toNatClampNeg))), (5, .int (fX7_pairAt m x4)), (4, .int x4), (1, .int o1), (0, .ref (gz G + 221))]) rfl ?_
        refine am_iinc (v := (x4 + 1)) dX7_worstPair_56 4 rfl rfl (by decide) (lv' := [(4, .int (x4 + 1)), (2, .int x4), (3, .int (fX7_gapOf m (fX7_pairAt m x4) ((m.2.1 5) (fX7_pairAt m x4).toNatClampNeg))), (6, .int (fX7_gapOf m (fX7_pairAt m x4) ((m.2.1 5) (fX7_pairAt m x4).toNatClampNeg))), (5, .int (fX7_pairAt m x4)), (1, .int o1), (0, .ref (gz G + 221))]) rfl ?_
        refine am_goto dX7_worstPair_59 (by decide : ((59 : Nat) : Int) + (-47) = ((12 : Nat) : Int)) ?_
        refine am_lv (lv' := [(4, .int (x4 + 1)), (3, .int (fX7_gapOf m (fX7_pairAt m x4) ((m.2.1 5) (fX7_pairAt m x4).toNatClampNeg))), (2, .int x4), (1, .int o1), (0, .ref (gz G + 221))]) [0, 2, 1, 5, 6] rfl ?_
        exact ih (x4 + 1) (fX7_gapOf m (fX7_pairAt m x4) ((m.2.1 5) (fX7_pairAt m x4).toNatClampNeg)) x4 (ivU_s c8 iv) hs (fun r e => kx r (Eq.trans (ifn c8 (ifp c18 (rfl))) e))
      · have hs := hs.2 c18
        refine am_goto dX7_worstPair_47 (by decide : ((47 : Nat) : Int) + (9) = ((56 : Nat) : Int)) ?_
        refine am_iinc (v := (x4 + 1)) dX7_worstPair_56 2 rfl rfl (by decide) (lv' := [(4, .int (x4 + 1)), (6, .int (fX7_gapOf m (fX7_pairAt m x4) ((m.2.1 5) (fX7_pairAt m x4).toNatClampNeg))), (5, .int (fX7_pairAt m x4)), (3, .int x3), (2, .int x2), (1, .int o1), (0, .ref (gz G + 221))]) rfl ?_
        refine am_goto dX7_worstPair_59 (by decide : ((59 : Nat) : Int) + (-47) = ((12 : Nat) : Int)) ?_
        refine am_lv (lv' := [(4, .int (x4 + 1)), (3, .int x3), (2, .int x2), (1, .int o1), (0, .ref (gz G + 221))]) [0, 3, 4, 5, 6] rfl ?_
        exact ih (x4 + 1) x3 x2 (ivU_s c8 iv) hs (fun r e => kx r (Eq.trans (ifn c8 (ifn c18 (rfl))) e))
def fX7_worstPair (m : Md)  : Int32 × Md := (bnd (fX7_layPartners m ) (fun r5 => (bnd (fX7_worstPair_12  r5.1 r5.2 (fuU r5.1 0) 0 (-1) (-1) ) (fun r20 => (r20.2.2, r5.2)))))
def sX7_worstPair (m : Md)  : Prop := ((sX7_layPartners m ) ∧ (bnd (fX7_layPartners m ) (fun r5 => ((sX7_worstPair_12  r5.1 r5.2 (fuU r5.1 0) 0 (-1) (-1) ) ∧ bnd (fX7_worstPair_12  r5.1 r5.2 (fuU r5.1 0) 0 (-1) (-1) ) (fun r20 => True)))))
set_option maxRecDepth 20000 in
theorem ctX7_worstPair {l : Launch} {G : GM} {K : Nat → Option va_E} {h : List va_E} {m : Md} (hm : HM G K h m)  (hs : sX7_worstPair m ) : Ct l G mX7_worstPair 8 0 0 [.ref (gz G + 221)] h (fun v h1 => ∃ r, (fX7_worstPair m ) = r ∧ v = some (.int r.1) ∧ HM G K h1 r.2) := by
  show Tr l G mX7_worstPair 8 0 0 0 [(0, .ref (gz G + 221))] [] h _
  unfold sX7_worstPair at hs
  refine am_aload_n dX7_worstPair_0 0 rfl ?_
  obtain ⟨i1, hs⟩ := hs
  refine am_callV (As := []) (rest := []) dX7_worstPair_1 kMX7_140 rfl (hmc221 (m := m) hm) rfl rfl (Nat.le_of_ble_eq_true rfl) (d2 := 7) (by decide) (k2 := 0) (Nat.zero_le _) (u2 := 0) (Nat.zero_le _) (Nat.le_of_ble_eq_true rfl) (ctX7_layPartners (m := m) hm  i1) (fun v2 h3 q4 => ?_)
  obtain ⟨r5, e6, rfl, w7⟩ := q4
  have hs := bnd_p e6 hs
  refine am_istore_n dX7_worstPair_4 (by decide) (lv' := [(1, .int r5.1), (0, .ref (gz G + 221))]) rfl ?_
  refine am_iconst (v := (-1)) dX7_worstPair_5 (by decide) ?_
  refine am_istore_n dX7_worstPair_6 (by decide) (lv' := [(2, .int (-1)), (1, .int r5.1), (0, .ref (gz G + 221))]) rfl ?_
  refine am_iconst (v := (-1)) dX7_worstPair_7 (by decide) ?_
  refine am_istore_n dX7_worstPair_8 (by decide) (lv' := [(3, .int (-1)), (2, .int (-1)), (1, .int r5.1), (0, .ref (gz G + 221))]) rfl ?_
  refine am_iconst (v := 0) dX7_worstPair_9 (by decide) ?_
  refine am_istore dX7_worstPair_10 (by decide) (lv' := [(4, .int 0), (3, .int (-1)), (2, .int (-1)), (1, .int r5.1), (0, .ref (gz G + 221))]) rfl ?_
  obtain ⟨i19, hs⟩ := hs
  refine wX7_worstPair_12  r5.1  w7 (fuU r5.1 0) 0 (-1) (-1) ivU_i i19 (fun r20 e21 => ?_)
  have hs := bnd_p e21 hs
  refine am_iload_n dX7_worstPair_62 2 rfl ?_
  exact am_ireturn dX7_worstPair_63 rfl rfl ⟨_, bnd_eq e6 (bnd_eq e21 (rfl)), rfl, w7⟩

theorem dX7_ofYarn_0 : decode cX7_ofYarn 0 = .ok (.iload_n 1, 1) := by decide +kernel
theorem dX7_ofYarn_1 : decode cX7_ofYarn 1 = .ok (.i2l, 1) := by decide +kernel
theorem dX7_ofYarn_2 : decode cX7_ofYarn 2 = .ok (.lconst 0, 1) := by decide +kernel
theorem dX7_ofYarn_3 : decode cX7_ofYarn 3 = .ok (.aload_n 0, 1) := by decide +kernel
theorem dX7_ofYarn_4 : decode cX7_ofYarn 4 = .ok (.getfield 13, 3) := by decide +kernel
theorem dX7_ofYarn_7 : decode cX7_ofYarn 7 = .ok (.iconst 5, 1) := by decide +kernel
theorem dX7_ofYarn_8 : decode cX7_ofYarn 8 = .ok (.iaload, 1) := by decide +kernel
theorem dX7_ofYarn_9 : decode cX7_ofYarn 9 = .ok (.iconst 1, 1) := by decide +kernel
theorem dX7_ofYarn_10 : decode cX7_ofYarn 10 = .ok (.isub, 1) := by decide +kernel
theorem dX7_ofYarn_11 : decode cX7_ofYarn 11 = .ok (.i2l, 1) := by decide +kernel
theorem dX7_ofYarn_12 : decode cX7_ofYarn 12 = .ok (.invokestatic 56, 3) := by decide +kernel
theorem dX7_ofYarn_15 : decode cX7_ofYarn 15 = .ok (.ifCond .ne 6, 3) := by decide +kernel
theorem dX7_ofYarn_18 : decode cX7_ofYarn 18 = .ok (.bipush (-2), 2) := by decide +kernel
theorem dX7_ofYarn_20 : decode cX7_ofYarn 20 = .ok (.ireturn, 1) := by decide +kernel
theorem dX7_ofYarn_21 : decode cX7_ofYarn 21 = .ok (.iconst 0, 1) := by decide +kernel
theorem dX7_ofYarn_22 : decode cX7_ofYarn 22 = .ok (.istore_n 2, 1) := by decide +kernel
theorem dX7_ofYarn_23 : decode cX7_ofYarn 23 = .ok (.iconst 0, 1) := by decide +kernel
theorem dX7_ofYarn_24 : decode cX7_ofYarn 24 = .ok (.istore_n 3, 1) := by decide +kernel
theorem dX7_ofYarn_25 : decode cX7_ofYarn 25 = .ok (.iload_n 3, 1) := by decide +kernel
theorem dX7_ofYarn_26 : decode cX7_ofYarn 26 = .ok (.aload_n 0, 1) := by decide +kernel
theorem dX7_ofYarn_27 : decode cX7_ofYarn 27 = .ok (.invokevirtual 85, 3) := by decide +kernel
theorem dX7_ofYarn_30 : decode cX7_ofYarn 30 = .ok (.if_icmp .ge 29, 3) := by decide +kernel
theorem dX7_ofYarn_33 : decode cX7_ofYarn 33 = .ok (.iload_n 2, 1) := by decide +kernel
theorem dX7_ofYarn_34 : decode cX7_ofYarn 34 = .ok (.aload_n 0, 1) := by decide +kernel
theorem dX7_ofYarn_35 : decode cX7_ofYarn 35 = .ok (.iload_n 3, 1) := by decide +kernel
theorem dX7_ofYarn_36 : decode cX7_ofYarn 36 = .ok (.iconst 0, 1) := by decide +kernel
theorem dX7_ofYarn_37 : decode cX7_ofYarn 37 = .ok (.invokevirtual 60, 3) := by decide +kernel
theorem dX7_ofYarn_40 : decode cX7_ofYarn 40 = .ok (.iload_n 1, 1) := by decide +kernel
theorem dX7_ofYarn_41 : decode cX7_ofYarn 41 = .ok (.if_icmp .ne 9, 3) := by decide +kernel
theorem dX7_ofYarn_44 : decode cX7_ofYarn 44 = .ok (.iconst 1, 1) := by decide +kernel
theorem dX7_ofYarn_45 : decode cX7_ofYarn 45 = .ok (.iload_n 3, 1) := by decide +kernel
theorem dX7_ofYarn_46 : decode cX7_ofYarn 46 = .ok (.ishl, 1) := by decide +kernel
theorem dX7_ofYarn_47 : decode cX7_ofYarn 47 = .ok (.goto 4, 3) := by decide +kernel
theorem dX7_ofYarn_50 : decode cX7_ofYarn 50 = .ok (.iconst 0, 1) := by decide +kernel
theorem dX7_ofYarn_51 : decode cX7_ofYarn 51 = .ok (.ior, 1) := by decide +kernel
theorem dX7_ofYarn_52 : decode cX7_ofYarn 52 = .ok (.istore_n 2, 1) := by decide +kernel
theorem dX7_ofYarn_53 : decode cX7_ofYarn 53 = .ok (.iinc 3 1, 3) := by decide +kernel
theorem dX7_ofYarn_56 : decode cX7_ofYarn 56 = .ok (.goto (-31), 3) := by decide +kernel
theorem dX7_ofYarn_59 : decode cX7_ofYarn 59 = .ok (.iload_n 2, 1) := by decide +kernel
theorem dX7_ofYarn_60 : decode cX7_ofYarn 60 = .ok (.ireturn, 1) := by decide +kernel
def fX7_ofYarn_25 (z1 : Int32)  (m : Md) : Nat → Int32 → Int32 → Int32 × Int32
  | 0, x3, x2 => (x3, x2)
  | fu + 1, x3, x2 => (if (fX7_count m ) ≤ x3 then (x3, x2) else (if (fX7_field m x3 0) = z1 then (fX7_ofYarn_25 z1  m fu (x3 + 1) (x2 ||| ((1 : Int32) <<< (x3 &&& 31))) ) else (fX7_ofYarn_25 z1  m fu (x3 + 1) (x2 ||| 0) )))
def sX7_ofYarn_25 (z1 : Int32)  (m : Md) : Nat → Int32 → Int32 → Prop
  | 0, _, _ => True
  | fu + 1, x3, x2 => (((fX7_count m ) ≤ x3 → True) ∧ (¬ (fX7_count m ) ≤ x3 → ((sX7_field m x3 0) ∧ (((fX7_field m x3 0) = z1 → (sX7_ofYarn_25 z1  m fu (x3 + 1) (x2 ||| ((1 : Int32) <<< (x3 &&& 31))) )) ∧ (¬ (fX7_field m x3 0) = z1 → (sX7_ofYarn_25 z1  m fu (x3 + 1) (x2 ||| 0) ))))))
set_option maxRecDepth 20000 in
theorem wX7_ofYarn_25 {l : Launch} {G : GM} {K : Nat → Option va_E} (z1 : Int32)   {h : List va_E} {m : Md} (hm : HM G K h m) {Q : Option Value → List va_E → Prop} : ∀ (fu : Nat) (x3 x2 : Int32) (iv : ivU (fX7_count m ) x3 fu) (hs : sX7_ofYarn_25 z1  m fu x3 x2 ) (kx : ∀ (r : Int32 × Int32), (fX7_ofYarn_25 z1  m fu x3 x2 ) = r → Tr l G mX7_ofYarn 2 0 0 59 [(3, .int r.1), (2, .int r.2), (0, .ref (gz G + 221)), (1, .int z1)] [] h Q), Tr l G mX7_ofYarn 2 0 0 25 [(3, .int x3), (2, .int x2), (0, .ref (gz G + 221)), (1, .int z1)] [] h Q := by
  intro fu
  induction fu with
  | zero => intro x3 x2 iv; intros; exact absurd iv ivU_0
  | succ fu ih =>
    intro x3 x2 iv hs    kx
    rw [sX7_ofYarn_25] at hs
    refine am_iload_n dX7_ofYarn_25 0 rfl ?_
    refine am_aload_n dX7_ofYarn_26 2 rfl ?_
    refine am_callV (As := []) (rest := [.int x3]) dX7_ofYarn_27 kMX7_85 rfl (hmc221 (m := m) hm) rfl rfl (Nat.le_of_ble_eq_true rfl) (d2 := 0) (by decide) (k2 := 0) (Nat.zero_le _) (u2 := 0) (Nat.zero_le _) (Nat.le_of_ble_eq_true rfl) (ctX7_count (m := m) hm  ) (fun v5 h6 q7 => ?_)
    obtain ⟨rfl, rfl⟩ := q7
    refine am_icmp_ge dX7_ofYarn_30 (by decide : ((30 : Nat) : Int) + (29) = ((59 : Nat) : Int)) (fun c8 => ?_) (fun c8 => ?_)
    · have hs := hs.1 c8
      exact kx _ (ifp c8 (rfl))
    · have hs := hs.2 c8
      refine am_iload_n dX7_ofYarn_33 1 rfl ?_
      refine am_aload_n dX7_ofYarn_34 2 rfl ?_
      refine am_iload_n dX7_ofYarn_35 0 rfl ?_
      refine am_iconst (v := 0) dX7_ofYarn_36 (by decide) ?_
      obtain ⟨i9, hs⟩ := hs
      refine am_callV (As := [.int x3, .int 0]) (rest := [.int x2]) dX7_ofYarn_37 kMX7_60 rfl (hmc221 (m := m) hm) rfl rfl (Nat.le_of_ble_eq_true rfl) (d2 := 1) (by decide) (k2 := 0) (Nat.zero_le _) (u2 := 0) (Nat.zero_le _) (Nat.le_of_ble_eq_true rfl) (ctX7_field (m := m) hm x3 0 i9) (fun v10 h11 q12 => ?_)
      obtain ⟨rfl, rfl⟩ := q12
      refine am_iload_n dX7_ofYarn_40 3 rfl ?_
      refine am_icmp_ne dX7_ofYarn_41 (by decide : ((41 : Nat) : Int) + (9) = ((50 : Nat) : Int)) (fun c13 => ?_) (fun c13 => ?_)
      · have hs := hs.2 c13
        refine am_iconst (v := 0) dX7_ofYarn_50 (by decide) ?_
        refine am_ior dX7_ofYarn_51 ?_
        refine am_istore_n dX7_ofYarn_52 (by decide) (lv' := [(2, .int (x2 ||| 0)), (3, .int x3), (0, .ref (gz G + 221)), (1, .int z1)]) rfl ?_
        refine am_iinc (v := (x3 + 1)) dX7_ofYarn_53 1 rfl rfl (by decide) (lv' := [(3, .int (x3 + 1)), (2, .int (x2 ||| 0)), (0, .ref (gz G + 221)), (1, .int z1)]) rfl ?_
        refine am_goto dX7_ofYarn_56 (by decide : ((56 : Nat) : Int) + (-31) = ((25 : Nat) : Int)) ?_
        exact ih (x3 + 1) (x2 ||| 0) (ivU_s c8 iv) hs (fun r e => kx r (Eq.trans (ifn c8 (ifn c13 (rfl))) e))
      · have hs := hs.1 c13
        refine am_iconst (v := 1) dX7_ofYarn_44 (by decide) ?_
        refine am_iload_n dX7_ofYarn_45 0 rfl ?_
        refine am_ishl dX7_ofYarn_46 ?_
        refine am_goto dX7_ofYarn_47 (by decide : ((47 : Nat) : Int) + (4) = ((51 : Nat) : Int)) ?_
        refine am_ior dX7_ofYarn_51 ?_
        refine am_istore_n dX7_ofYarn_52 (by decide) (lv' := [(2, .int (x2 ||| ((1 : Int32) <<< (x3 &&& 31)))), (3, .int x3), (0, .ref (gz G + 221)), (1, .int z1)]) rfl ?_
        refine am_iinc (v := (x3 + 1)) dX7_ofYarn_53 1 rfl rfl (by decide) (lv' := [(3, .int (x3 + 1)), (2, .int (x2 ||| ((1 : Int32) <<< (x3 &&& 31)))), (0, .ref (gz G + 221)), (1, .int z1)]) rfl ?_
        refine am_goto dX7_ofYarn_56 (by decide : ((56 : Nat) : Int) + (-31) = ((25 : Nat) : Int)) ?_
        exact ih (x3 + 1) (x2 ||| ((1 : Int32) <<< (x3 &&& 31))) (ivU_s c8 iv) hs (fun r e => kx r (Eq.trans (ifn c8 (ifp c13 (rfl))) e))
def fX7_ofYarn (m : Md) (z1 : Int32) : Int32 := (if (fX7_in (z1.toInt64) 0 ((((m.2.1 0) 5) - 1).toInt64)) = 0 then (-2) else (bnd (fX7_ofYarn_25 z1  m (fuU (fX7_count m ) 0) 0 0 ) (fun r15 => r15.2)))
def sX7_ofYarn (m : Md) (z1 : Int32) : Prop := (((fX7_in (z1.toInt64) 0 ((((m.2.1 0) 5) - 1).toInt64)) = 0 → True) ∧ (¬ (fX7_in (z1.toInt64) 0 ((((m.2.1 0) 5) - 1).toInt64)) = 0 → ((sX7_ofYarn_25 z1  m (fuU (fX7_count m ) 0) 0 0 ) ∧ bnd (fX7_ofYarn_25 z1  m (fuU (fX7_count m ) 0) 0 0 ) (fun r15 => True))))
set_option maxRecDepth 20000 in
theorem ctX7_ofYarn {l : Launch} {G : GM} {K : Nat → Option va_E} {h : List va_E} {m : Md} (hm : HM G K h m) (z1 : Int32) (hs : sX7_ofYarn m z1) : Ct l G mX7_ofYarn 2 0 0 [.ref (gz G + 221), .int z1] h (fun v h1 => v = some (.int (fX7_ofYarn m z1)) ∧ h1 = h) := by
  show Tr l G mX7_ofYarn 2 0 0 0 [(0, .ref (gz G + 221)), (1, .int z1)] [] h _
  unfold sX7_ofYarn at hs
  refine am_iload_n dX7_ofYarn_0 1 rfl ?_
  refine am_i2l (v := z1.toInt64) dX7_ofYarn_1 rfl ?_
  refine am_lconst (v := 0) dX7_ofYarn_2 (by decide) ?_
  refine am_aload_n dX7_ofYarn_3 0 rfl ?_
  refine am_get (v := .ref (gz G + 222)) dX7_ofYarn_4 kGX7_13 (hmc221 (m := m) hm) rfl ?_
  refine am_iconst (v := 5) dX7_ofYarn_7 (by decide) ?_
  refine am_iald (f := (m.2.1 0)) dX7_ofYarn_8 (hmc222 (m := m) hm) (vp_lit (by decide)) ?_
  rw [tl5]
  refine am_iconst (v := 1) dX7_ofYarn_9 (by decide) ?_
  refine am_isub dX7_ofYarn_10 ?_
  refine am_i2l (v := (((m.2.1 0) 5) - 1).toInt64) dX7_ofYarn_11 rfl ?_
  refine am_callS (As := [.long (z1.toInt64), .long 0, .long ((((m.2.1 0) 5) - 1).toInt64)]) (rest := []) dX7_ofYarn_12 kMX7_56 rfl  rfl (Nat.le_of_ble_eq_true rfl) (d2 := 0) (by decide) (k2 := 0) (Nat.zero_le _) (u2 := 0) (Nat.zero_le _) (Nat.le_of_ble_eq_true rfl) (ctX7_in  (z1.toInt64) 0 ((((m.2.1 0) 5) - 1).toInt64) ) (fun v1 h2 q3 => ?_)
  obtain ⟨rfl, rfl⟩ := q3
  refine am_if_ne dX7_ofYarn_15 (by decide : ((15 : Nat) : Int) + (6) = ((21 : Nat) : Int)) (fun c4 => ?_) (fun c4 => ?_)
  · have hs := hs.2 c4
    refine am_iconst (v := 0) dX7_ofYarn_21 (by decide) ?_
    refine am_istore_n dX7_ofYarn_22 (by decide) (lv' := [(2, .int 0), (0, .ref (gz G + 221)), (1, .int z1)]) rfl ?_
    refine am_iconst (v := 0) dX7_ofYarn_23 (by decide) ?_
    refine am_istore_n dX7_ofYarn_24 (by decide) (lv' := [(3, .int 0), (2, .int 0), (0, .ref (gz G + 221)), (1, .int z1)]) rfl ?_
    obtain ⟨i14, hs⟩ := hs
    refine wX7_ofYarn_25 z1   hm (fuU (fX7_count m ) 0) 0 0 ivU_i i14 (fun r15 e16 => ?_)
    have hs := bnd_p e16 hs
    refine am_iload_n dX7_ofYarn_59 1 rfl ?_
    rw [show (fX7_ofYarn m z1) = r15.2 from ifn c4 (bnd_eq e16 (rfl))]
    exact am_ireturn dX7_ofYarn_60 rfl rfl ⟨rfl, rfl⟩
  · have hs := hs.1 c4
    refine am_bipush (v := (-2)) dX7_ofYarn_18 (by decide) ?_
    rw [show (fX7_ofYarn m z1) = (-2) from ifp c4 (rfl)]
    exact am_ireturn dX7_ofYarn_20 rfl rfl ⟨rfl, rfl⟩

theorem dX7_daysToSize_0 : decode cX7_daysToSize 0 = .ok (.aload_n 0, 1) := by decide +kernel
theorem dX7_daysToSize_1 : decode cX7_daysToSize 1 = .ok (.iload_n 1, 1) := by decide +kernel
theorem dX7_daysToSize_2 : decode cX7_daysToSize 2 = .ok (.invokevirtual 150, 3) := by decide +kernel
theorem dX7_daysToSize_5 : decode cX7_daysToSize 5 = .ok (.ifCond .eq 22, 3) := by decide +kernel
theorem dX7_daysToSize_8 : decode cX7_daysToSize 8 = .ok (.iload_n 2, 1) := by decide +kernel
theorem dX7_daysToSize_9 : decode cX7_daysToSize 9 = .ok (.i2l, 1) := by decide +kernel
theorem dX7_daysToSize_10 : decode cX7_daysToSize 10 = .ok (.lconst 0, 1) := by decide +kernel
theorem dX7_daysToSize_11 : decode cX7_daysToSize 11 = .ok (.aload_n 0, 1) := by decide +kernel
theorem dX7_daysToSize_12 : decode cX7_daysToSize 12 = .ok (.getfield 13, 3) := by decide +kernel
theorem dX7_daysToSize_15 : decode cX7_daysToSize 15 = .ok (.bipush 7, 2) := by decide +kernel
theorem dX7_daysToSize_17 : decode cX7_daysToSize 17 = .ok (.iaload, 1) := by decide +kernel
theorem dX7_daysToSize_18 : decode cX7_daysToSize 18 = .ok (.iconst 1, 1) := by decide +kernel
theorem dX7_daysToSize_19 : decode cX7_daysToSize 19 = .ok (.isub, 1) := by decide +kernel
theorem dX7_daysToSize_20 : decode cX7_daysToSize 20 = .ok (.i2l, 1) := by decide +kernel
theorem dX7_daysToSize_21 : decode cX7_daysToSize 21 = .ok (.invokestatic 56, 3) := by decide +kernel
theorem dX7_daysToSize_24 : decode cX7_daysToSize 24 = .ok (.ifCond .ne 6, 3) := by decide +kernel
theorem dX7_daysToSize_27 : decode cX7_daysToSize 27 = .ok (.bipush (-2), 2) := by decide +kernel
theorem dX7_daysToSize_29 : decode cX7_daysToSize 29 = .ok (.ireturn, 1) := by decide +kernel
theorem dX7_daysToSize_30 : decode cX7_daysToSize 30 = .ok (.aload_n 0, 1) := by decide +kernel
theorem dX7_daysToSize_31 : decode cX7_daysToSize 31 = .ok (.invokevirtual 181, 3) := by decide +kernel
theorem dX7_daysToSize_34 : decode cX7_daysToSize 34 = .ok (.iconst (-1), 1) := by decide +kernel
theorem dX7_daysToSize_35 : decode cX7_daysToSize 35 = .ok (.istore_n 3, 1) := by decide +kernel
theorem dX7_daysToSize_36 : decode cX7_daysToSize 36 = .ok (.iconst 0, 1) := by decide +kernel
theorem dX7_daysToSize_37 : decode cX7_daysToSize 37 = .ok (.istore 4, 2) := by decide +kernel
theorem dX7_daysToSize_39 : decode cX7_daysToSize 39 = .ok (.iload 4, 2) := by decide +kernel
theorem dX7_daysToSize_41 : decode cX7_daysToSize 41 = .ok (.bipush 60, 2) := by decide +kernel
theorem dX7_daysToSize_43 : decode cX7_daysToSize 43 = .ok (.if_icmp .gt 32, 3) := by decide +kernel
theorem dX7_daysToSize_46 : decode cX7_daysToSize 46 = .ok (.iload_n 3, 1) := by decide +kernel
theorem dX7_daysToSize_47 : decode cX7_daysToSize 47 = .ok (.iconst (-1), 1) := by decide +kernel
theorem dX7_daysToSize_48 : decode cX7_daysToSize 48 = .ok (.if_icmp .ne 27, 3) := by decide +kernel
theorem dX7_daysToSize_51 : decode cX7_daysToSize 51 = .ok (.aload_n 0, 1) := by decide +kernel
theorem dX7_daysToSize_52 : decode cX7_daysToSize 52 = .ok (.iload_n 1, 1) := by decide +kernel
theorem dX7_daysToSize_53 : decode cX7_daysToSize 53 = .ok (.invokevirtual 161, 3) := by decide +kernel
theorem dX7_daysToSize_56 : decode cX7_daysToSize 56 = .ok (.iload_n 2, 1) := by decide +kernel
theorem dX7_daysToSize_57 : decode cX7_daysToSize 57 = .ok (.if_icmp .ne 6, 3) := by decide +kernel
theorem dX7_daysToSize_60 : decode cX7_daysToSize 60 = .ok (.iload 4, 2) := by decide +kernel
theorem dX7_daysToSize_62 : decode cX7_daysToSize 62 = .ok (.istore_n 3, 1) := by decide +kernel
theorem dX7_daysToSize_63 : decode cX7_daysToSize 63 = .ok (.aload_n 0, 1) := by decide +kernel
theorem dX7_daysToSize_64 : decode cX7_daysToSize 64 = .ok (.invokevirtual 184, 3) := by decide +kernel
theorem dX7_daysToSize_67 : decode cX7_daysToSize 67 = .ok (.istore 5, 2) := by decide +kernel
theorem dX7_daysToSize_69 : decode cX7_daysToSize 69 = .ok (.iinc 4 1, 3) := by decide +kernel
theorem dX7_daysToSize_72 : decode cX7_daysToSize 72 = .ok (.goto (-33), 3) := by decide +kernel
theorem dX7_daysToSize_75 : decode cX7_daysToSize 75 = .ok (.aload_n 0, 1) := by decide +kernel
theorem dX7_daysToSize_76 : decode cX7_daysToSize 76 = .ok (.aload_n 0, 1) := by decide +kernel
theorem dX7_daysToSize_77 : decode cX7_daysToSize 77 = .ok (.getfield 13, 3) := by decide +kernel
theorem dX7_daysToSize_80 : decode cX7_daysToSize 80 = .ok (.putfield 23, 3) := by decide +kernel
theorem dX7_daysToSize_83 : decode cX7_daysToSize 83 = .ok (.iload_n 3, 1) := by decide +kernel
theorem dX7_daysToSize_84 : decode cX7_daysToSize 84 = .ok (.ireturn, 1) := by decide +kernel
def fX7_daysToSize_39 (z1 : Int32) (z2 : Int32)  : Nat → Int32 → Int32 → Md → Int32 × Int32 × Md
  | 0, x4, x3, y => (x4, x3, y)
  | fu + 1, x4, x3, y => (if 60 < x4 then (x4, x3, y) else (if x3 = (-1) then (if (fX7_sizeOfPiece y z1) = z2 then (bnd (fX7_pass y ) (fun r35 => (fX7_daysToSize_39 z1 z2   fu (x4 + 1) x4 r35.2))) else (bnd (fX7_pass y ) (fun r28 => (fX7_daysToSize_39 z1 z2   fu (x4 + 1) x3 r28.2)))) else (x4, x3, y)))
def sX7_daysToSize_39 (z1 : Int32) (z2 : Int32)  : Nat → Int32 → Int32 → Md → Prop
  | 0, _, _, _ => True
  | fu + 1, x4, x3, y => ((60 < x4 → True) ∧ (¬ 60 < x4 → ((x3 = (-1) → ((sX7_sizeOfPiece y z1) ∧ (((fX7_sizeOfPiece y z1) = z2 → ((sX7_pass y ) ∧ (bnd (fX7_pass y ) (fun r35 => (sX7_daysToSize_39 z1 z2   fu (x4 + 1) x4 r35.2))))) ∧ (¬ (fX7_sizeOfPiece y z1) = z2 → ((sX7_pass y ) ∧ (bnd (fX7_pass y ) (fun r28 => (sX7_daysToSize_39 z1 z2   fu (x4 + 1) x3 r28.2)))))))) ∧ (¬ x3 = (-1) → True))))
set_option maxRecDepth 20000 in
theorem wX7_daysToSize_39 {l : Launch} {G : GM} {K : Nat → Option va_E} (z1 : Int32) (z2 : Int32)   {Q : Option Value → List va_E → Prop} : ∀ (fu : Nat) (x4 x3 : Int32) (y : Md) (iv : ivL 60 x4 fu) (hs : sX7_daysToSize_39 z1 z2   fu x4 x3 y) {h : List va_E} (gy : HM G K h y) (kx : ∀ (h1 : List va_E) (r : Int32 × Int32 × Md), (fX7_daysToSize_39 z1 z2   fu x4 x3 y) = r → HM G K h1 r.2.2 → Tr l G mX7_daysToSize 4 0 0 75 [(4, .int r.1), (3, .int r.2.1), (0, .ref (gz G + 221)), (1, .int z1), (2, .int z2)] [] h1 Q), Tr l G mX7_daysToSize 4 0 0 39 [(4, .int x4), (3, .int x3), (0, .ref (gz G + 221)), (1, .int z1), (2, .int z2)] [] h Q := by
  intro fu
  induction fu with
  | zero => intro x4 x3 y iv; intros; exact absurd iv ivL_0
  | succ fu ih =>
    intro x4 x3 y iv hs  h gy  kx
    rw [sX7_daysToSize_39] at hs
    refine am_iload dX7_daysToSize_39 0 rfl ?_
    refine am_bipush (v := 60) dX7_daysToSize_41 (by decide) ?_
    refine am_icmp_gt dX7_daysToSize_43 (by decide : ((43 : Nat) : Int) + (32) = ((75 : Nat) : Int)) (fun c17 => ?_) (fun c17 => ?_)
    · have hs := hs.1 c17
      exact kx _ _ (ifp c17 (rfl)) gy 
    · have hs := hs.2 c17
      refine am_iload_n dX7_daysToSize_46 1 rfl ?_
      refine am_iconst (v := (-1)) dX7_daysToSize_47 (by decide) ?_
      refine am_icmp_ne dX7_daysToSize_48 (by decide : ((48 : Nat) : Int) + (27) = ((75 : Nat) : Int)) (fun c18 => ?_) (fun c18 => ?_)
      · have hs := hs.2 c18
        exact kx _ _ (ifn c17 (ifn c18 (rfl))) gy 
      · have hs := hs.1 c18
        refine am_aload_n dX7_daysToSize_51 2 rfl ?_
        refine am_iload_n dX7_daysToSize_52 3 rfl ?_
        obtain ⟨i19, hs⟩ := hs
        refine am_callV (As := [.int z1]) (rest := []) dX7_daysToSize_53 kMX7_161 rfl (hmc221 (m := y) gy) rfl rfl (Nat.le_of_ble_eq_true rfl) (d2 := 2) (by decide) (k2 := 0) (Nat.zero_le _) (u2 := 0) (Nat.zero_le _) (Nat.le_of_ble_eq_true rfl) (ctX7_sizeOfPiece (m := y) gy z1 i19) (fun v20 h21 q22 => ?_)
        obtain ⟨rfl, rfl⟩ := q22
        refine am_iload_n dX7_daysToSize_56 4 rfl ?_
        refine am_icmp_ne dX7_daysToSize_57 (by decide : ((57 : Nat) : Int) + (6) = ((63 : Nat) : Int)) (fun c23 => ?_) (fun c23 => ?_)
        · have hs := hs.2 c23
          refine am_aload_n dX7_daysToSize_63 2 rfl ?_
          obtain ⟨i24, hs⟩ := hs
          refine am_callV (As := []) (rest := []) dX7_daysToSize_64 kMX7_184 rfl (hmc221 (m := y) gy) rfl rfl (Nat.le_of_ble_eq_true rfl) (d2 := 3) (by decide) (k2 := 0) (Nat.zero_le _) (u2 := 0) (Nat.zero_le _) (Nat.le_of_ble_eq_true rfl) (ctX7_pass (m := y) gy  i24) (fun v25 h26 q27 => ?_)
          obtain ⟨r28, e29, rfl, w30⟩ := q27
          have hs := bnd_p e29 hs
          refine am_istore dX7_daysToSize_67 (by decide) (lv' := [(5, .int r28.1), (4, .int x4), (3, .int x3), (0, .ref (gz G + 221)), (1, .int z1), (2, .int z2)]) rfl ?_
          refine am_iinc (v := (x4 + 1)) dX7_daysToSize_69 1 rfl rfl (by decide) (lv' := [(4, .int (x4 + 1)), (5, .int r28.1), (3, .int x3), (0, .ref (gz G + 221)), (1, .int z1), (2, .int z2)]) rfl ?_
          refine am_goto dX7_daysToSize_72 (by decide : ((72 : Nat) : Int) + (-33) = ((39 : Nat) : Int)) ?_
          refine am_lv (lv' := [(4, .int (x4 + 1)), (3, .int x3), (0, .ref (gz G + 221)), (1, .int z1), (2, .int z2)]) [0, 2, 3, 4, 5] rfl ?_
          exact ih (x4 + 1) x3 r28.2 (ivL_s c17 (by decide) iv) hs w30  (fun h1 r e => kx h1 r (Eq.trans (ifn c17 (ifp c18 (ifn c23 (bnd_eq e29 (rfl))))) e))
        · have hs := hs.1 c23
          refine am_iload dX7_daysToSize_60 0 rfl ?_
          refine am_istore_n dX7_daysToSize_62 (by decide) (lv' := [(3, .int x4), (4, .int x4), (0, .ref (gz G + 221)), (1, .int z1), (2, .int z2)]) rfl ?_
          refine am_aload_n dX7_daysToSize_63 2 rfl ?_
          obtain ⟨i31, hs⟩ := hs
          refine am_callV (As := []) (rest := []) dX7_daysToSize_64 kMX7_184 rfl (hmc221 (m := y) gy) rfl rfl (Nat.le_of_ble_eq_true rfl) (d2 := 3) (by decide) (k2 := 0) (Nat.zero_le _) (u2 := 0) (Nat.zero_le _) (Nat.le_of_ble_eq_true rfl) (ctX7_pass (m := y) gy  i31) (fun v32 h33 q34 => ?_)
          obtain ⟨r35, e36, rfl, w37⟩ := q34
          have hs := bnd_p e36 hs
          refine am_istore dX7_daysToSize_67 (by decide) (lv' := [(5, .int r35.1), (3, .int x4), (4, .int x4), (0, .ref (gz G + 221)), (1, .int z1), (2, .int z2)]) rfl ?_
          refine am_iinc (v := (x4 + 1)) dX7_daysToSize_69 2 rfl rfl (by decide) (lv' := [(4, .int (x4 + 1)), (5, .int r35.1), (3, .int x4), (0, .ref (gz G + 221)), (1, .int z1), (2, .int z2)]) rfl ?_
          refine am_goto dX7_daysToSize_72 (by decide : ((72 : Nat) : Int) + (-33) = ((39 : Nat) : Int)) ?_
          refine am_lv (lv' := [(4, .int (x4 + 1)), (3, .int x4), (0, .ref (gz G + 221)), (1, .int z1), (2, .int z2)]) [0, 2, 3, 4, 5] rfl ?_
          exact ih (x4 + 1) x4 r35.2 (ivL_s c17 (by decide) iv) hs w37  (fun h1 r e => kx h1 r (Eq.trans (ifn c17 (ifp c18 (ifp c23 (bnd_eq e36 (rfl))))) e))
def fX7_daysToSize (m : Md) (z1 : Int32) (z2 : Int32) : Int32 × Md := (if (fX7_isPiece m z1) = 0 then ((-2), m) else (if (fX7_in (z2.toInt64) 0 ((((m.2.1 0) 7) - 1).toInt64)) = 0 then ((-2), m) else (bnd (fX7_startPrediction m ) (fun r14 => (bnd (fX7_daysToSize_39 z1 z2   (fuL 60 0) 0 (-1) r14) (fun r39 => (r39.2.1, (mN r39.2.2 0))))))))
def sX7_daysToSize (m : Md) (z1 : Int32) (z2 : Int32) : Prop := ((sX7_isPiece m z1) ∧ (((fX7_isPiece m z1) = 0 → True) ∧ (¬ (fX7_isPiece m z1) = 0 → (((fX7_in (z2.toInt64) 0 ((((m.2.1 0) 7) - 1).toInt64)) = 0 → True) ∧ (¬ (fX7_in (z2.toInt64) 0 ((((m.2.1 0) 7) - 1).toInt64)) = 0 → ((sX7_startPrediction m ) ∧ (bnd (fX7_startPrediction m ) (fun r14 => ((sX7_daysToSize_39 z1 z2   (fuL 60 0) 0 (-1) r14) ∧ bnd (fX7_daysToSize_39 z1 z2   (fuL 60 0) 0 (-1) r14) (fun r39 => True))))))))))
set_option maxRecDepth 20000 in
theorem ctX7_daysToSize {l : Launch} {G : GM} {K : Nat → Option va_E} {h : List va_E} {m : Md} (hm : HM G K h m) (z1 : Int32) (z2 : Int32) (hs : sX7_daysToSize m z1 z2) : Ct l G mX7_daysToSize 4 0 0 [.ref (gz G + 221), .int z1, .int z2] h (fun v h1 => ∃ r, (fX7_daysToSize m z1 z2) = r ∧ v = some (.int r.1) ∧ HM G K h1 r.2) := by
  show Tr l G mX7_daysToSize 4 0 0 0 [(0, .ref (gz G + 221)), (1, .int z1), (2, .int z2)] [] h _
  unfold sX7_daysToSize at hs
  refine am_aload_n dX7_daysToSize_0 0 rfl ?_
  refine am_iload_n dX7_daysToSize_1 1 rfl ?_
  obtain ⟨i1, hs⟩ := hs
  refine am_callV (As := [.int z1]) (rest := []) dX7_daysToSize_2 kMX7_150 rfl (hmc221 (m := m) hm) rfl rfl (Nat.le_of_ble_eq_true rfl) (d2 := 1) (by decide) (k2 := 0) (Nat.zero_le _) (u2 := 0) (Nat.zero_le _) (Nat.le_of_ble_eq_true rfl) (ctX7_isPiece (m := m) hm z1 i1) (fun v2 h3 q4 => ?_)
  obtain ⟨rfl, rfl⟩ := q4
  refine am_if_eq dX7_daysToSize_5 (by decide : ((5 : Nat) : Int) + (22) = ((27 : Nat) : Int)) (fun c5 => ?_) (fun c5 => ?_)
  · have hs := hs.1 c5
    refine am_bipush (v := (-2)) dX7_daysToSize_27 (by decide) ?_
    exact am_ireturn dX7_daysToSize_29 rfl rfl ⟨_, ifp c5 (rfl), rfl, hm⟩
  · have hs := hs.2 c5
    refine am_iload_n dX7_daysToSize_8 2 rfl ?_
    refine am_i2l (v := z2.toInt64) dX7_daysToSize_9 rfl ?_
    refine am_lconst (v := 0) dX7_daysToSize_10 (by decide) ?_
    refine am_aload_n dX7_daysToSize_11 0 rfl ?_
    refine am_get (v := .ref (gz G + 222)) dX7_daysToSize_12 kGX7_13 (hmc221 (m := m) hm) rfl ?_
    refine am_bipush (v := 7) dX7_daysToSize_15 (by decide) ?_
    refine am_iald (f := (m.2.1 0)) dX7_daysToSize_17 (hmc222 (m := m) hm) (vp_lit (by decide)) ?_
    rw [tl7]
    refine am_iconst (v := 1) dX7_daysToSize_18 (by decide) ?_
    refine am_isub dX7_daysToSize_19 ?_
    refine am_i2l (v := (((m.2.1 0) 7) - 1).toInt64) dX7_daysToSize_20 rfl ?_
    refine am_callS (As := [.long (z2.toInt64), .long 0, .long ((((m.2.1 0) 7) - 1).toInt64)]) (rest := []) dX7_daysToSize_21 kMX7_56 rfl  rfl (Nat.le_of_ble_eq_true rfl) (d2 := 0) (by decide) (k2 := 0) (Nat.zero_le _) (u2 := 0) (Nat.zero_le _) (Nat.le_of_ble_eq_true rfl) (ctX7_in  (z2.toInt64) 0 ((((m.2.1 0) 7) - 1).toInt64) ) (fun v6 h7 q8 => ?_)
    obtain ⟨rfl, rfl⟩ := q8
    refine am_if_ne dX7_daysToSize_24 (by decide : ((24 : Nat) : Int) + (6) = ((30 : Nat) : Int)) (fun c9 => ?_) (fun c9 => ?_)
    · have hs := hs.2 c9
      refine am_aload_n dX7_daysToSize_30 0 rfl ?_
      obtain ⟨i10, hs⟩ := hs
      refine am_callV (As := []) (rest := []) dX7_daysToSize_31 kMX7_181 rfl (hmc221 (m := m) hm) rfl rfl (Nat.le_of_ble_eq_true rfl) (d2 := 0) (by decide) (k2 := 0) (Nat.zero_le _) (u2 := 0) (Nat.zero_le _) (Nat.le_of_ble_eq_true rfl) (ctX7_startPrediction (m := m) hm  i10) (fun v11 h12 q13 => ?_)
      obtain ⟨r14, e15, rfl, w16⟩ := q13
      have hs := bnd_p e15 hs
      refine am_iconst (v := (-1)) dX7_daysToSize_34 (by decide) ?_
      refine am_istore_n dX7_daysToSize_35 (by decide) (lv' := [(3, .int (-1)), (0, .ref (gz G + 221)), (1, .int z1), (2, .int z2)]) rfl ?_
      refine am_iconst (v := 0) dX7_daysToSize_36 (by decide) ?_
      refine am_istore dX7_daysToSize_37 (by decide) (lv' := [(4, .int 0), (3, .int (-1)), (0, .ref (gz G + 221)), (1, .int z1), (2, .int z2)]) rfl ?_
      obtain ⟨i38, hs⟩ := hs
      refine wX7_daysToSize_39 z1 z2   (fuL 60 0) 0 (-1) r14 ivL_i i38 w16  (fun h41 r39 e40 w42  => ?_)
      have hs := bnd_p e40 hs
      refine am_aload_n dX7_daysToSize_75 2 rfl ?_
      refine am_aload_n dX7_daysToSize_76 2 rfl ?_
      refine am_get (v := .ref (gz G + 222)) dX7_daysToSize_77 kGX7_13 (hmc221 (m := r39.2.2) w42) rfl ?_
      refine am_put dX7_daysToSize_80 kFX7_23 (hmc221 (m := r39.2.2) w42) (Nat.le_of_ble_eq_true rfl) rfl rfl ?_
      have w43 := hmNs w42 0 (by decide)
      refine am_iload_n dX7_daysToSize_83 1 rfl ?_
      exact am_ireturn dX7_daysToSize_84 rfl rfl ⟨_, ifn c5 (ifn c9 (bnd_eq e15 (bnd_eq e40 (rfl)))), rfl, w43⟩
    · have hs := hs.1 c9
      refine am_bipush (v := (-2)) dX7_daysToSize_27 (by decide) ?_
      exact am_ireturn dX7_daysToSize_29 rfl rfl ⟨_, ifn c5 (ifp c9 (rfl)), rfl, hm⟩

theorem dX7_shapeFor_0 : decode cX7_shapeFor 0 = .ok (.aload_n 0, 1) := by decide +kernel
theorem dX7_shapeFor_1 : decode cX7_shapeFor 1 = .ok (.iload_n 1, 1) := by decide +kernel
theorem dX7_shapeFor_2 : decode cX7_shapeFor 2 = .ok (.invokevirtual 150, 3) := by decide +kernel
theorem dX7_shapeFor_5 : decode cX7_shapeFor 5 = .ok (.ifCond .eq 17, 3) := by decide +kernel
theorem dX7_shapeFor_8 : decode cX7_shapeFor 8 = .ok (.iload_n 2, 1) := by decide +kernel
theorem dX7_shapeFor_9 : decode cX7_shapeFor 9 = .ok (.i2l, 1) := by decide +kernel
theorem dX7_shapeFor_10 : decode cX7_shapeFor 10 = .ok (.ldc2_w 215, 3) := by decide +kernel
theorem dX7_shapeFor_13 : decode cX7_shapeFor 13 = .ok (.ldc2_w 400, 3) := by decide +kernel
theorem dX7_shapeFor_16 : decode cX7_shapeFor 16 = .ok (.invokestatic 56, 3) := by decide +kernel
theorem dX7_shapeFor_19 : decode cX7_shapeFor 19 = .ok (.ifCond .ne 6, 3) := by decide +kernel
theorem dX7_shapeFor_22 : decode cX7_shapeFor 22 = .ok (.bipush (-2), 2) := by decide +kernel
theorem dX7_shapeFor_24 : decode cX7_shapeFor 24 = .ok (.ireturn, 1) := by decide +kernel
theorem dX7_shapeFor_25 : decode cX7_shapeFor 25 = .ok (.aload_n 0, 1) := by decide +kernel
theorem dX7_shapeFor_26 : decode cX7_shapeFor 26 = .ok (.iload_n 1, 1) := by decide +kernel
theorem dX7_shapeFor_27 : decode cX7_shapeFor 27 = .ok (.invokevirtual 158, 3) := by decide +kernel
theorem dX7_shapeFor_30 : decode cX7_shapeFor 30 = .ok (.ifCond .eq 6, 3) := by decide +kernel
theorem dX7_shapeFor_33 : decode cX7_shapeFor 33 = .ok (.bipush (-6), 2) := by decide +kernel
theorem dX7_shapeFor_35 : decode cX7_shapeFor 35 = .ok (.ireturn, 1) := by decide +kernel
theorem dX7_shapeFor_36 : decode cX7_shapeFor 36 = .ok (.iconst (-1), 1) := by decide +kernel
theorem dX7_shapeFor_37 : decode cX7_shapeFor 37 = .ok (.istore_n 3, 1) := by decide +kernel
theorem dX7_shapeFor_38 : decode cX7_shapeFor 38 = .ok (.iconst 0, 1) := by decide +kernel
theorem dX7_shapeFor_39 : decode cX7_shapeFor 39 = .ok (.istore 4, 2) := by decide +kernel
theorem dX7_shapeFor_41 : decode cX7_shapeFor 41 = .ok (.iconst 0, 1) := by decide +kernel
theorem dX7_shapeFor_42 : decode cX7_shapeFor 42 = .ok (.istore 5, 2) := by decide +kernel
theorem dX7_shapeFor_44 : decode cX7_shapeFor 44 = .ok (.iload 5, 2) := by decide +kernel
theorem dX7_shapeFor_46 : decode cX7_shapeFor 46 = .ok (.aload_n 0, 1) := by decide +kernel
theorem dX7_shapeFor_47 : decode cX7_shapeFor 47 = .ok (.getfield 13, 3) := by decide +kernel
theorem dX7_shapeFor_50 : decode cX7_shapeFor 50 = .ok (.bipush 6, 2) := by decide +kernel
theorem dX7_shapeFor_52 : decode cX7_shapeFor 52 = .ok (.iaload, 1) := by decide +kernel
theorem dX7_shapeFor_53 : decode cX7_shapeFor 53 = .ok (.if_icmp .ge 58, 3) := by decide +kernel
theorem dX7_shapeFor_56 : decode cX7_shapeFor 56 = .ok (.aload_n 0, 1) := by decide +kernel
theorem dX7_shapeFor_57 : decode cX7_shapeFor 57 = .ok (.iload_n 1, 1) := by decide +kernel
theorem dX7_shapeFor_58 : decode cX7_shapeFor 58 = .ok (.iload 5, 2) := by decide +kernel
theorem dX7_shapeFor_60 : decode cX7_shapeFor 60 = .ok (.invokevirtual 78, 3) := by decide +kernel
theorem dX7_shapeFor_63 : decode cX7_shapeFor 63 = .ok (.ifCond .eq 6, 3) := by decide +kernel
theorem dX7_shapeFor_66 : decode cX7_shapeFor 66 = .ok (.goto 39, 3) := by decide +kernel
theorem dX7_shapeFor_69 : decode cX7_shapeFor 69 = .ok (.aload_n 0, 1) := by decide +kernel
theorem dX7_shapeFor_70 : decode cX7_shapeFor 70 = .ok (.iload_n 1, 1) := by decide +kernel
theorem dX7_shapeFor_71 : decode cX7_shapeFor 71 = .ok (.iload 5, 2) := by decide +kernel
theorem dX7_shapeFor_73 : decode cX7_shapeFor 73 = .ok (.invokevirtual 82, 3) := by decide +kernel
theorem dX7_shapeFor_76 : decode cX7_shapeFor 76 = .ok (.iload_n 2, 1) := by decide +kernel
theorem dX7_shapeFor_77 : decode cX7_shapeFor 77 = .ok (.isub, 1) := by decide +kernel
theorem dX7_shapeFor_78 : decode cX7_shapeFor 78 = .ok (.invokestatic 98, 3) := by decide +kernel
theorem dX7_shapeFor_81 : decode cX7_shapeFor 81 = .ok (.istore 6, 2) := by decide +kernel
theorem dX7_shapeFor_83 : decode cX7_shapeFor 83 = .ok (.iload_n 3, 1) := by decide +kernel
theorem dX7_shapeFor_84 : decode cX7_shapeFor 84 = .ok (.iconst (-1), 1) := by decide +kernel
theorem dX7_shapeFor_85 : decode cX7_shapeFor 85 = .ok (.if_icmp .eq 13, 3) := by decide +kernel
theorem dX7_shapeFor_88 : decode cX7_shapeFor 88 = .ok (.iload 6, 2) := by decide +kernel
theorem dX7_shapeFor_90 : decode cX7_shapeFor 90 = .ok (.iload 4, 2) := by decide +kernel
theorem dX7_shapeFor_92 : decode cX7_shapeFor 92 = .ok (.if_icmp .lt 6, 3) := by decide +kernel
theorem dX7_shapeFor_95 : decode cX7_shapeFor 95 = .ok (.goto 10, 3) := by decide +kernel
theorem dX7_shapeFor_98 : decode cX7_shapeFor 98 = .ok (.iload 5, 2) := by decide +kernel
theorem dX7_shapeFor_100 : decode cX7_shapeFor 100 = .ok (.istore_n 3, 1) := by decide +kernel
theorem dX7_shapeFor_101 : decode cX7_shapeFor 101 = .ok (.iload 6, 2) := by decide +kernel
theorem dX7_shapeFor_103 : decode cX7_shapeFor 103 = .ok (.istore 4, 2) := by decide +kernel
theorem dX7_shapeFor_105 : decode cX7_shapeFor 105 = .ok (.iinc 5 1, 3) := by decide +kernel
theorem dX7_shapeFor_108 : decode cX7_shapeFor 108 = .ok (.goto (-64), 3) := by decide +kernel
theorem dX7_shapeFor_111 : decode cX7_shapeFor 111 = .ok (.iload_n 3, 1) := by decide +kernel
theorem dX7_shapeFor_112 : decode cX7_shapeFor 112 = .ok (.ireturn, 1) := by decide +kernel
def fX7_shapeFor_44 (z1 : Int32) (z2 : Int32)  (m : Md) : Nat → Int32 → Int32 → Int32 → Int32 × Int32 × Int32
  | 0, x5, x4, x3 => (x5, x4, x3)
  | fu + 1, x5, x4, x3 => (if ((m.2.1 0) 6) ≤ x5 then (x5, x4, x3) else (if (fX7_wouldTear m z1 x5) = 0 then (if x3 = (-1) then (fX7_shapeFor_44 z1 z2  m fu (x5 + 1) (iab ((fX7_lengthOn m z1 x5) - z2)) x5 ) else (if (iab ((fX7_lengthOn m z1 x5) - z2)) < x4 then (fX7_shapeFor_44 z1 z2  m fu (x5 + 1) (iab ((fX7_lengthOn m z1 x5) - z2)) x5 ) else (fX7_shapeFor_44 z1 z2  m fu (x5 + 1) x4 x3 ))) else (fX7_shapeFor_44 z1 z2  m fu (x5 + 1) x4 x3 )))
def sX7_shapeFor_44 (z1 : Int32) (z2 : Int32)  (m : Md) : Nat → Int32 → Int32 → Int32 → Prop
  | 0, _, _, _ => True
  | fu + 1, x5, x4, x3 => ((((m.2.1 0) 6) ≤ x5 → True) ∧ (¬ ((m.2.1 0) 6) ≤ x5 → ((sX7_wouldTear m z1 x5) ∧ (((fX7_wouldTear m z1 x5) = 0 → ((sX7_lengthOn m z1 x5) ∧ ((x3 = (-1) → (sX7_shapeFor_44 z1 z2  m fu (x5 + 1) (iab ((fX7_lengthOn m z1 x5) - z2)) x5 )) ∧ (¬ x3 = (-1) → (((iab ((fX7_lengthOn m z1 x5) - z2)) < x4 → (sX7_shapeFor_44 z1 z2  m fu (x5 + 1) (iab ((fX7_lengthOn m z1 x5) - z2)) x5 )) ∧ (¬ (iab ((fX7_lengthOn m z1 x5) - z2)) < x4 → (sX7_shapeFor_44 z1 z2  m fu (x5 + 1) x4 x3 ))))))) ∧ (¬ (fX7_wouldTear m z1 x5) = 0 → (sX7_shapeFor_44 z1 z2  m fu (x5 + 1) x4 x3 ))))))
set_option maxRecDepth 20000 in
theorem wX7_shapeFor_44 {l : Launch} {G : GM} {K : Nat → Option va_E} (z1 : Int32) (z2 : Int32)   {h : List va_E} {m : Md} (hm : HM G K h m) {Q : Option Value → List va_E → Prop} : ∀ (fu : Nat) (x5 x4 x3 : Int32) (iv : ivU ((m.2.1 0) 6) x5 fu) (hs : sX7_shapeFor_44 z1 z2  m fu x5 x4 x3 ) (kx : ∀ (r : Int32 × Int32 × Int32), (fX7_shapeFor_44 z1 z2  m fu x5 x4 x3 ) = r → Tr l G mX7_shapeFor 5 0 0 111 [(5, .int r.1), (4, .int r.2.1), (3, .int r.2.2), (0, .ref (gz G + 221)), (1, .int z1), (2, .int z2)] [] h Q), Tr l G mX7_shapeFor 5 0 0 44 [(5, .int x5), (4, .int x4), (3, .int x3), (0, .ref (gz G + 221)), (1, .int z1), (2, .int z2)] [] h Q := by
  intro fu
  induction fu with
  | zero => intro x5 x4 x3 iv; intros; exact absurd iv ivU_0
  | succ fu ih =>
    intro x5 x4 x3 iv hs    kx
    rw [sX7_shapeFor_44] at hs
    refine am_iload dX7_shapeFor_44 0 rfl ?_
    refine am_aload_n dX7_shapeFor_46 3 rfl ?_
    refine am_get (v := .ref (gz G + 222)) dX7_shapeFor_47 kGX7_13 (hmc221 (m := m) hm) rfl ?_
    refine am_bipush (v := 6) dX7_shapeFor_50 (by decide) ?_
    refine am_iald (f := (m.2.1 0)) dX7_shapeFor_52 (hmc222 (m := m) hm) (vp_lit (by decide)) ?_
    rw [tl6]
    refine am_icmp_ge dX7_shapeFor_53 (by decide : ((53 : Nat) : Int) + (58) = ((111 : Nat) : Int)) (fun c15 => ?_) (fun c15 => ?_)
    · have hs := hs.1 c15
      exact kx _ (ifp c15 (rfl))
    · have hs := hs.2 c15
      refine am_aload_n dX7_shapeFor_56 3 rfl ?_
      refine am_iload_n dX7_shapeFor_57 4 rfl ?_
      refine am_iload dX7_shapeFor_58 0 rfl ?_
      obtain ⟨i16, hs⟩ := hs
      refine am_callV (As := [.int z1, .int x5]) (rest := []) dX7_shapeFor_60 kMX7_78 rfl (hmc221 (m := m) hm) rfl rfl (Nat.le_of_ble_eq_true rfl) (d2 := 4) (by decide) (k2 := 0) (Nat.zero_le _) (u2 := 0) (Nat.zero_le _) (Nat.le_of_ble_eq_true rfl) (ctX7_wouldTear (m := m) hm z1 x5 i16) (fun v17 h18 q19 => ?_)
      obtain ⟨rfl, rfl⟩ := q19
      refine am_if_eq dX7_shapeFor_63 (by decide : ((63 : Nat) : Int) + (6) = ((69 : Nat) : Int)) (fun c20 => ?_) (fun c20 => ?_)
      · have hs := hs.1 c20
        refine am_aload_n dX7_shapeFor_69 3 rfl ?_
        refine am_iload_n dX7_shapeFor_70 4 rfl ?_
        refine am_iload dX7_shapeFor_71 0 rfl ?_
        obtain ⟨i21, hs⟩ := hs
        refine am_callV (As := [.int z1, .int x5]) (rest := []) dX7_shapeFor_73 kMX7_82 rfl (hmc221 (m := m) hm) rfl rfl (Nat.le_of_ble_eq_true rfl) (d2 := 2) (by decide) (k2 := 0) (Nat.zero_le _) (u2 := 0) (Nat.zero_le _) (Nat.le_of_ble_eq_true rfl) (ctX7_lengthOn (m := m) hm z1 x5 i21) (fun v22 h23 q24 => ?_)
        obtain ⟨rfl, rfl⟩ := q24
        refine am_iload_n dX7_shapeFor_76 5 rfl ?_
        refine am_isub dX7_shapeFor_77 ?_
        refine am_mabs dX7_shapeFor_78 kXX7_98 (Nat.le_of_ble_eq_true rfl) (by decide) ?_
        refine am_istore dX7_shapeFor_81 (by decide) (lv' := [(6, .int (iab ((fX7_lengthOn m z1 x5) - z2))), (5, .int x5), (4, .int x4), (3, .int x3), (0, .ref (gz G + 221)), (1, .int z1), (2, .int z2)]) rfl ?_
        refine am_iload_n dX7_shapeFor_83 3 rfl ?_
        refine am_iconst (v := (-1)) dX7_shapeFor_84 (by decide) ?_
        refine am_icmp_eq dX7_shapeFor_85 (by decide : ((85 : Nat) : Int) + (13) = ((98 : Nat) : Int)) (fun c25 => ?_) (fun c25 => ?_)
        · have hs := hs.1 c25
          refine am_iload dX7_shapeFor_98 1 rfl ?_
          refine am_istore_n dX7_shapeFor_100 (by decide) (lv' := [(3, .int x5), (6, .int (iab ((fX7_lengthOn m z1 x5) - z2))), (5, .int x5), (4, .int x4), (0, .ref (gz G + 221)), (1, .int z1), (2, .int z2)]) rfl ?_
          refine am_iload dX7_shapeFor_101 1 rfl ?_
          refine am_istore dX7_shapeFor_103 (by decide) (lv' := [(4, .int (iab ((fX7_lengthOn m z1 x5) - z2))), (3, .int x5), (6, .int (iab ((fX7_lengthOn m z1 x5) - z2))), (5, .int x5), (0, .ref (gz G + 221)), (1, .int z1), (2, .int z2)]) rfl ?_
          refine am_iinc (v := (x5 + 1)) dX7_shapeFor_105 3 rfl rfl (by decide) (lv' := [(5, .int (x5 + 1)), (4, .int (iab ((fX7_lengthOn m z1 x5) - z2))), (3, .int x5), (6, .int (iab ((fX7_lengthOn m z1 x5) - z2))), (0, .ref (gz G + 221)), (1, .int z1), (2, .int z2)]) rfl ?_
          refine am_goto dX7_shapeFor_108 (by decide : ((108 : Nat) : Int) + (-64) = ((44 : Nat) : Int)) ?_
          refine am_lv (lv' := [(5, .int (x5 + 1)), (4, .int (iab ((fX7_lengthOn m z1 x5) - z2))), (3, .int x5), (0, .ref (gz G + 221)), (1, .int z1), (2, .int z2)]) [0, 1, 2, 4, 5, 6] rfl ?_
          exact ih (x5 + 1) (iab ((fX7_lengthOn m z1 x5) - z2)) x5 (ivU_s c15 iv) hs (fun r e => kx r (Eq.trans (ifn c15 (ifp c20 (ifp c25 (rfl)))) e))
        · have hs := hs.2 c25
          refine am_iload dX7_shapeFor_88 0 rfl ?_
          refine am_iload dX7_shapeFor_90 2 rfl ?_
          refine am_icmp_lt dX7_shapeFor_92 (by decide : ((92 : Nat) : Int) + (6) = ((98 : Nat) : Int)) (fun c26 => ?_) (fun c26 => ?_)
          · have hs := hs.1 c26
            refine am_iload dX7_shapeFor_98 1 rfl ?_
            refine am_istore_n dX7_shapeFor_100 (by decide) (lv' := [(3, .int x5), (6, .int (iab ((fX7_lengthOn m z1 x5) - z2))), (5, .int x5), (4, .int x4), (0, .ref (gz G + 221)), (1, .int z1), (2, .int z2)]) rfl ?_
            refine am_iload dX7_shapeFor_101 1 rfl ?_
            refine am_istore dX7_shapeFor_103 (by decide) (lv' := [(4, .int (iab ((fX7_lengthOn m z1 x5) - z2))), (3, .int x5), (6, .int (iab ((fX7_lengthOn m z1 x5) - z2))), (5, .int x5), (0, .ref (gz G + 221)), (1, .int z1), (2, .int z2)]) rfl ?_
            refine am_iinc (v := (x5 + 1)) dX7_shapeFor_105 3 rfl rfl (by decide) (lv' := [(5, .int (x5 + 1)), (4, .int (iab ((fX7_lengthOn m z1 x5) - z2))), (3, .int x5), (6, .int (iab ((fX7_lengthOn m z1 x5) - z2))), (0, .ref (gz G + 221)), (1, .int z1), (2, .int z2)]) rfl ?_
            refine am_goto dX7_shapeFor_108 (by decide : ((108 : Nat) : Int) + (-64) = ((44 : Nat) : Int)) ?_
            refine am_lv (lv' := [(5, .int (x5 + 1)), (4, .int (iab ((fX7_lengthOn m z1 x5) - z2))), (3, .int x5), (0, .ref (gz G + 221)), (1, .int z1), (2, .int z2)]) [0, 1, 2, 4, 5, 6] rfl ?_
            exact ih (x5 + 1) (iab ((fX7_lengthOn m z1 x5) - z2)) x5 (ivU_s c15 iv) hs (fun r e => kx r (Eq.trans (ifn c15 (ifp c20 (ifn c25 (ifp c26 (rfl))))) e))
          · have hs := hs.2 c26
            refine am_goto dX7_shapeFor_95 (by decide : ((95 : Nat) : Int) + (10) = ((105 : Nat) : Int)) ?_
            refine am_iinc (v := (x5 + 1)) dX7_shapeFor_105 1 rfl rfl (by decide) (lv' := [(5, .int (x5 + 1)), (6, .int (iab ((fX7_lengthOn m z1 x5) - z2))), (4, .int x4), (3, .int x3), (0, .ref (gz G + 221)), (1, .int z1), (2, .int z2)]) rfl ?_
            refine am_goto dX7_shapeFor_108 (by decide : ((108 : Nat) : Int) + (-64) = ((44 : Nat) : Int)) ?_
            refine am_lv (lv' := [(5, .int (x5 + 1)), (4, .int x4), (3, .int x3), (0, .ref (gz G + 221)), (1, .int z1), (2, .int z2)]) [0, 2, 3, 4, 5, 6] rfl ?_
            exact ih (x5 + 1) x4 x3 (ivU_s c15 iv) hs (fun r e => kx r (Eq.trans (ifn c15 (ifp c20 (ifn c25 (ifn c26 (rfl))))) e))
      · have hs := hs.2 c20
        refine am_goto dX7_shapeFor_66 (by decide : ((66 : Nat) : Int) + (39) = ((105 : Nat) : Int)) ?_
        refine am_iinc (v := (x5 + 1)) dX7_shapeFor_105 0 rfl rfl (by decide) (lv' := [(5, .int (x5 + 1)), (4, .int x4), (3, .int x3), (0, .ref (gz G + 221)), (1, .int z1), (2, .int z2)]) rfl ?_
        refine am_goto dX7_shapeFor_108 (by decide : ((108 : Nat) : Int) + (-64) = ((44 : Nat) : Int)) ?_
        exact ih (x5 + 1) x4 x3 (ivU_s c15 iv) hs (fun r e => kx r (Eq.trans (ifn c15 (ifn c20 (rfl))) e))
def fX7_shapeFor (m : Md) (z1 : Int32) (z2 : Int32) : Int32 := (if (fX7_isPiece m z1) = 0 then (-2) else (if (fX7_in (z2.toInt64) 500 9999) = 0 then (-2) else (if (fX7_isDone m z1) = 0 then (bnd (fX7_shapeFor_44 z1 z2  m (fuU ((m.2.1 0) 6) 0) 0 0 (-1) ) (fun r28 => r28.2.2)) else (-6))))
def sX7_shapeFor (m : Md) (z1 : Int32) (z2 : Int32) : Prop := ((sX7_isPiece m z1) ∧ (((fX7_isPiece m z1) = 0 → True) ∧ (¬ (fX7_isPiece m z1) = 0 → (((fX7_in (z2.toInt64) 500 9999) = 0 → True) ∧ (¬ (fX7_in (z2.toInt64) 500 9999) = 0 → ((sX7_isDone m z1) ∧ (((fX7_isDone m z1) = 0 → ((sX7_shapeFor_44 z1 z2  m (fuU ((m.2.1 0) 6) 0) 0 0 (-1) ) ∧ bnd (fX7_shapeFor_44 z1 z2  m (fuU ((m.2.1 0) 6) 0) 0 0 (-1) ) (fun r28 => True))) ∧ (¬ (fX7_isDone m z1) = 0 → True))))))))
set_option maxRecDepth 20000 in
theorem ctX7_shapeFor {l : Launch} {G : GM} {K : Nat → Option va_E} {h : List va_E} {m : Md} (hm : HM G K h m) (z1 : Int32) (z2 : Int32) (hs : sX7_shapeFor m z1 z2) : Ct l G mX7_shapeFor 5 0 0 [.ref (gz G + 221), .int z1, .int z2] h (fun v h1 => v = some (.int (fX7_shapeFor m z1 z2)) ∧ h1 = h) := by
  show Tr l G mX7_shapeFor 5 0 0 0 [(0, .ref (gz G + 221)), (1, .int z1), (2, .int z2)] [] h _
  unfold sX7_shapeFor at hs
  refine am_aload_n dX7_shapeFor_0 0 rfl ?_
  refine am_iload_n dX7_shapeFor_1 1 rfl ?_
  obtain ⟨i1, hs⟩ := hs
  refine am_callV (As := [.int z1]) (rest := []) dX7_shapeFor_2 kMX7_150 rfl (hmc221 (m := m) hm) rfl rfl (Nat.le_of_ble_eq_true rfl) (d2 := 1) (by decide) (k2 := 0) (Nat.zero_le _) (u2 := 0) (Nat.zero_le _) (Nat.le_of_ble_eq_true rfl) (ctX7_isPiece (m := m) hm z1 i1) (fun v2 h3 q4 => ?_)
  obtain ⟨rfl, rfl⟩ := q4
  refine am_if_eq dX7_shapeFor_5 (by decide : ((5 : Nat) : Int) + (17) = ((22 : Nat) : Int)) (fun c5 => ?_) (fun c5 => ?_)
  · have hs := hs.1 c5
    refine am_bipush (v := (-2)) dX7_shapeFor_22 (by decide) ?_
    rw [show (fX7_shapeFor m z1 z2) = (-2) from ifp c5 (rfl)]
    exact am_ireturn dX7_shapeFor_24 rfl rfl ⟨rfl, rfl⟩
  · have hs := hs.2 c5
    refine am_iload_n dX7_shapeFor_8 2 rfl ?_
    refine am_i2l (v := z2.toInt64) dX7_shapeFor_9 rfl ?_
    refine am_ldc2 (v := 500) dX7_shapeFor_10 kKX7_215 ?_
    refine am_ldc2 (v := 9999) dX7_shapeFor_13 kKX7_400 ?_
    refine am_callS (As := [.long (z2.toInt64), .long 500, .long 9999]) (rest := []) dX7_shapeFor_16 kMX7_56 rfl  rfl (Nat.le_of_ble_eq_true rfl) (d2 := 0) (by decide) (k2 := 0) (Nat.zero_le _) (u2 := 0) (Nat.zero_le _) (Nat.le_of_ble_eq_true rfl) (ctX7_in  (z2.toInt64) 500 9999 ) (fun v6 h7 q8 => ?_)
    obtain ⟨rfl, rfl⟩ := q8
    refine am_if_ne dX7_shapeFor_19 (by decide : ((19 : Nat) : Int) + (6) = ((25 : Nat) : Int)) (fun c9 => ?_) (fun c9 => ?_)
    · have hs := hs.2 c9
      refine am_aload_n dX7_shapeFor_25 0 rfl ?_
      refine am_iload_n dX7_shapeFor_26 1 rfl ?_
      obtain ⟨i10, hs⟩ := hs
      refine am_callV (As := [.int z1]) (rest := []) dX7_shapeFor_27 kMX7_158 rfl (hmc221 (m := m) hm) rfl rfl (Nat.le_of_ble_eq_true rfl) (d2 := 3) (by decide) (k2 := 0) (Nat.zero_le _) (u2 := 0) (Nat.zero_le _) (Nat.le_of_ble_eq_true rfl) (ctX7_isDone (m := m) hm z1 i10) (fun v11 h12 q13 => ?_)
      obtain ⟨rfl, rfl⟩ := q13
      refine am_if_eq dX7_shapeFor_30 (by decide : ((30 : Nat) : Int) + (6) = ((36 : Nat) : Int)) (fun c14 => ?_) (fun c14 => ?_)
      · have hs := hs.1 c14
        refine am_iconst (v := (-1)) dX7_shapeFor_36 (by decide) ?_
        refine am_istore_n dX7_shapeFor_37 (by decide) (lv' := [(3, .int (-1)), (0, .ref (gz G + 221)), (1, .int z1), (2, .int z2)]) rfl ?_
        refine am_iconst (v := 0) dX7_shapeFor_38 (by decide) ?_
        refine am_istore dX7_shapeFor_39 (by decide) (lv' := [(4, .int 0), (3, .int (-1)), (0, .ref (gz G + 221)), (1, .int z1), (2, .int z2)]) rfl ?_
        refine am_iconst (v := 0) dX7_shapeFor_41 (by decide) ?_
        refine am_istore dX7_shapeFor_42 (by decide) (lv' := [(5, .int 0), (4, .int 0), (3, .int (-1)), (0, .ref (gz G + 221)), (1, .int z1), (2, .int z2)]) rfl ?_
        obtain ⟨i27, hs⟩ := hs
        refine wX7_shapeFor_44 z1 z2   hm (fuU ((m.2.1 0) 6) 0) 0 0 (-1) ivU_i i27 (fun r28 e29 => ?_)
        have hs := bnd_p e29 hs
        refine am_iload_n dX7_shapeFor_111 2 rfl ?_
        rw [show (fX7_shapeFor m z1 z2) = r28.2.2 from ifn c5 (ifn c9 (ifp c14 (bnd_eq e29 (rfl))))]
        exact am_ireturn dX7_shapeFor_112 rfl rfl ⟨rfl, rfl⟩
      · have hs := hs.2 c14
        refine am_bipush (v := (-6)) dX7_shapeFor_33 (by decide) ?_
        rw [show (fX7_shapeFor m z1 z2) = (-6) from ifn c5 (ifn c9 (ifn c14 (rfl)))]
        exact am_ireturn dX7_shapeFor_35 rfl rfl ⟨rfl, rfl⟩
    · have hs := hs.1 c9
      refine am_bipush (v := (-2)) dX7_shapeFor_22 (by decide) ?_
      rw [show (fX7_shapeFor m z1 z2) = (-2) from ifn c5 (ifp c9 (rfl))]
      exact am_ireturn dX7_shapeFor_24 rfl rfl ⟨rfl, rfl⟩
