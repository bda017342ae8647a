/-! The class's matching. -/
theorem dX2_gapBetween_0 : decode cX2_gapBetween 0 = .ok (.aload_n 0, 1) := by decide +kernel
theorem dX2_gapBetween_1 : decode cX2_gapBetween 1 = .ok (.getfield 15, 3) := by decide +kernel
theorem dX2_gapBetween_4 : decode cX2_gapBetween 4 = .ok (.iload_n 1, 1) := by decide +kernel
theorem dX2_gapBetween_5 : decode cX2_gapBetween 5 = .ok (.bipush 14, 2) := by decide +kernel
theorem dX2_gapBetween_7 : decode cX2_gapBetween 7 = .ok (.imul, 1) := by decide +kernel
theorem dX2_gapBetween_8 : decode cX2_gapBetween 8 = .ok (.iload_n 2, 1) := by decide +kernel
theorem dX2_gapBetween_9 : decode cX2_gapBetween 9 = .ok (.iadd, 1) := by decide +kernel
theorem dX2_gapBetween_10 : decode cX2_gapBetween 10 = .ok (.invokestatic 71, 3) := by decide +kernel
theorem dX2_gapBetween_13 : decode cX2_gapBetween 13 = .ok (.ireturn, 1) := by decide +kernel
def fX2_gapBetween (w : Wd) (z1 : Int32) (z2 : Int32) : Int32 := (fX6_at 196 (w.2.1 2) ((z1 * 14) + z2))
set_option maxRecDepth 20000 in
theorem ctX2_gapBetween {l : Launch} {G : GM} {K : Nat → Option va_E} {h : List va_E} {w : Wd} (hw : HW G K h w) (z1 : Int32) (z2 : Int32) : Ct l G mX2_gapBetween 1 0 0 [.ref (gz G + 215), .int z1, .int z2] h (fun v h1 => v = some (.int (fX2_gapBetween w z1 z2)) ∧ h1 = h) := by
  show Tr l G mX2_gapBetween 1 0 0 0 [(0, .ref (gz G + 215)), (1, .int z1), (2, .int z2)] [] h _
  refine am_aload_n dX2_gapBetween_0 0 rfl ?_
  refine am_get (v := .ref (gz G + 217)) dX2_gapBetween_1 kGX2_15 (hwc215 (w := w) hw) rfl ?_
  refine am_iload_n dX2_gapBetween_4 1 rfl ?_
  refine am_bipush (v := 14) dX2_gapBetween_5 (by decide) ?_
  refine am_imul dX2_gapBetween_7 ?_
  refine am_iload_n dX2_gapBetween_8 2 rfl ?_
  refine am_iadd dX2_gapBetween_9 ?_
  refine am_callSN (As := [.ref (gz G + 217), .int ((z1 * 14) + z2)]) (rest := []) dX2_gapBetween_10 kMX2_71 rfl  rfl (Nat.le_of_ble_eq_true rfl) (d2 := 0) (by decide) (k2 := 0) (Nat.zero_le _) (u2 := 0) (Nat.zero_le _) (Nat.le_of_ble_eq_true rfl) (ctX6_at (f := (w.2.1 2)) (hwc217 (w := w) hw) (by decide) ((z1 * 14) + z2)) (fun v1 h2 q3 => ?_)
  obtain ⟨rfl, rfl⟩ := q3
  rw [show (fX2_gapBetween w z1 z2) = (fX6_at 196 (w.2.1 2) ((z1 * 14) + z2)) from rfl]
  exact am_ireturn dX2_gapBetween_13 rfl rfl ⟨rfl, rfl⟩

theorem dX2_recall_0 : decode cX2_recall 0 = .ok (.iload_n 1, 1) := by decide +kernel
theorem dX2_recall_1 : decode cX2_recall 1 = .ok (.iconst 1, 1) := by decide +kernel
theorem dX2_recall_2 : decode cX2_recall 2 = .ok (.ishr, 1) := by decide +kernel
theorem dX2_recall_3 : decode cX2_recall 3 = .ok (.istore_n 2, 1) := by decide +kernel
theorem dX2_recall_4 : decode cX2_recall 4 = .ok (.iload_n 1, 1) := by decide +kernel
theorem dX2_recall_5 : decode cX2_recall 5 = .ok (.iconst 0, 1) := by decide +kernel
theorem dX2_recall_6 : decode cX2_recall 6 = .ok (.invokestatic 36, 3) := by decide +kernel
theorem dX2_recall_9 : decode cX2_recall 9 = .ok (.ifCond .ne 33, 3) := by decide +kernel
theorem dX2_recall_12 : decode cX2_recall 12 = .ok (.iload_n 2, 1) := by decide +kernel
theorem dX2_recall_13 : decode cX2_recall 13 = .ok (.ifCond .lt 29, 3) := by decide +kernel
theorem dX2_recall_16 : decode cX2_recall 16 = .ok (.iload_n 2, 1) := by decide +kernel
theorem dX2_recall_17 : decode cX2_recall 17 = .ok (.aload_n 0, 1) := by decide +kernel
theorem dX2_recall_18 : decode cX2_recall 18 = .ok (.getfield 18, 3) := by decide +kernel
theorem dX2_recall_21 : decode cX2_recall 21 = .ok (.arraylength, 1) := by decide +kernel
theorem dX2_recall_22 : decode cX2_recall 22 = .ok (.if_icmp .ge 20, 3) := by decide +kernel
theorem dX2_recall_25 : decode cX2_recall 25 = .ok (.aload_n 0, 1) := by decide +kernel
theorem dX2_recall_26 : decode cX2_recall 26 = .ok (.getfield 18, 3) := by decide +kernel
theorem dX2_recall_29 : decode cX2_recall 29 = .ok (.iload_n 2, 1) := by decide +kernel
theorem dX2_recall_30 : decode cX2_recall 30 = .ok (.laload, 1) := by decide +kernel
theorem dX2_recall_31 : decode cX2_recall 31 = .ok (.bipush 20, 2) := by decide +kernel
theorem dX2_recall_33 : decode cX2_recall 33 = .ok (.lshr, 1) := by decide +kernel
theorem dX2_recall_34 : decode cX2_recall 34 = .ok (.aload_n 0, 1) := by decide +kernel
theorem dX2_recall_35 : decode cX2_recall 35 = .ok (.getfield 51, 3) := by decide +kernel
theorem dX2_recall_38 : decode cX2_recall 38 = .ok (.lcmp, 1) := by decide +kernel
theorem dX2_recall_39 : decode cX2_recall 39 = .ok (.ifCond .eq 5, 3) := by decide +kernel
theorem dX2_recall_42 : decode cX2_recall 42 = .ok (.iconst (-1), 1) := by decide +kernel
theorem dX2_recall_43 : decode cX2_recall 43 = .ok (.ireturn, 1) := by decide +kernel
theorem dX2_recall_44 : decode cX2_recall 44 = .ok (.aload_n 0, 1) := by decide +kernel
theorem dX2_recall_45 : decode cX2_recall 45 = .ok (.getfield 18, 3) := by decide +kernel
theorem dX2_recall_48 : decode cX2_recall 48 = .ok (.iload_n 2, 1) := by decide +kernel
theorem dX2_recall_49 : decode cX2_recall 49 = .ok (.laload, 1) := by decide +kernel
theorem dX2_recall_50 : decode cX2_recall 50 = .ok (.ldc2_w 96, 3) := by decide +kernel
theorem dX2_recall_53 : decode cX2_recall 53 = .ok (.land, 1) := by decide +kernel
theorem dX2_recall_54 : decode cX2_recall 54 = .ok (.l2i, 1) := by decide +kernel
theorem dX2_recall_55 : decode cX2_recall 55 = .ok (.ireturn, 1) := by decide +kernel
def fX2_recall (w : Wd) (z1 : Int32) : Int32 := (if (fX6_contains z1 0) = 0 then (if (z1 >>> ((1 : Int32) &&& 31)) < 0 then (-1) else (if 8192 ≤ (z1 >>> ((1 : Int32) &&& 31)) then (-1) else (if (lg_cmp (lshr ((w.2.2.2.1) (z1 >>> ((1 : Int32) &&& 31)).toNatClampNeg) 20) (w.2.2.2.2.1)) = 0 then ((((w.2.2.2.1) (z1 >>> ((1 : Int32) &&& 31)).toNatClampNeg) &&& 1048575).toInt32) else (-1)))) else (-1))
set_option maxRecDepth 20000 in
theorem ctX2_recall {l : Launch} {G : GM} {K : Nat → Option va_E} {h : List va_E} {w : Wd} (hw : HW G K h w) (z1 : Int32) : Ct l G mX2_recall 1 0 0 [.ref (gz G + 215), .int z1] h (fun v h1 => v = some (.int (fX2_recall w z1)) ∧ h1 = h) := by
  show Tr l G mX2_recall 1 0 0 0 [(0, .ref (gz G + 215)), (1, .int z1)] [] h _
  refine am_iload_n dX2_recall_0 1 rfl ?_
  refine am_iconst (v := 1) dX2_recall_1 (by decide) ?_
  refine am_ishr dX2_recall_2 ?_
  refine am_istore_n dX2_recall_3 (by decide) (lv' := [(2, .int (z1 >>> ((1 : Int32) &&& 31))), (0, .ref (gz G + 215)), (1, .int z1)]) rfl ?_
  refine am_iload_n dX2_recall_4 2 rfl ?_
  refine am_iconst (v := 0) dX2_recall_5 (by decide) ?_
  refine am_callSN (As := [.int z1, .int 0]) (rest := []) dX2_recall_6 kMX2_36 rfl  rfl (Nat.le_of_ble_eq_true rfl) (d2 := 0) (by decide) (k2 := 0) (Nat.zero_le _) (u2 := 0) (Nat.zero_le _) (Nat.le_of_ble_eq_true rfl) (ctX6_contains  z1 0) (fun v1 h2 q3 => ?_)
  obtain ⟨rfl, rfl⟩ := q3
  refine am_if_ne dX2_recall_9 (by decide : ((9 : Nat) : Int) + (33) = ((42 : Nat) : Int)) (fun c4 => ?_) (fun c4 => ?_)
  · refine am_iconst (v := (-1)) dX2_recall_42 (by decide) ?_
    rw [show (fX2_recall w z1) = (-1) from Eq.trans (if_neg c4) (rfl)]
    exact am_ireturn dX2_recall_43 rfl rfl ⟨rfl, rfl⟩
  · refine am_iload_n dX2_recall_12 0 rfl ?_
    refine am_if_lt dX2_recall_13 (by decide : ((13 : Nat) : Int) + (29) = ((42 : Nat) : Int)) (fun c5 => ?_) (fun c5 => ?_)
    · refine am_iconst (v := (-1)) dX2_recall_42 (by decide) ?_
      rw [show (fX2_recall w z1) = (-1) from Eq.trans (if_pos c4) (Eq.trans (if_pos c5) (rfl))]
      exact am_ireturn dX2_recall_43 rfl rfl ⟨rfl, rfl⟩
    · refine am_iload_n dX2_recall_16 0 rfl ?_
      refine am_aload_n dX2_recall_17 1 rfl ?_
      refine am_get (v := .ref (gz G + 218)) dX2_recall_18 kGX2_18 (hwc215 (w := w) hw) rfl ?_
      refine am_alen (v := 8192) dX2_recall_21 (hwc218 (w := w) hw) rfl (by rfl) ?_
      refine am_icmp_ge dX2_recall_22 (by decide : ((22 : Nat) : Int) + (20) = ((42 : Nat) : Int)) (fun c6 => ?_) (fun c6 => ?_)
      · refine am_iconst (v := (-1)) dX2_recall_42 (by decide) ?_
        rw [show (fX2_recall w z1) = (-1) from Eq.trans (if_pos c4) (Eq.trans (if_neg c5) (Eq.trans (if_pos c6) (rfl)))]
        exact am_ireturn dX2_recall_43 rfl rfl ⟨rfl, rfl⟩
      · refine am_aload_n dX2_recall_25 1 rfl ?_
        refine am_get (v := .ref (gz G + 218)) dX2_recall_26 kGX2_18 (hwc215 (w := w) hw) rfl ?_
        refine am_iload_n dX2_recall_29 0 rfl ?_
        refine am_lald (f := (w.2.2.2.1)) dX2_recall_30 (hwc218 (w := w) hw) (vp_in2 c5 c6 (by decide)) ?_
        refine am_bipush (v := 20) dX2_recall_31 (by decide) ?_
        refine am_lshr (v := (lshr ((w.2.2.2.1) (z1 >>> ((1 : Int32) &&& 31)).toNatClampNeg) 20)) dX2_recall_33 rfl ?_
        refine am_aload_n dX2_recall_34 1 rfl ?_
        refine am_get (v := .long (w.2.2.2.2.1)) dX2_recall_35 kGX2_51 (hwc215 (w := w) hw) rfl ?_
        refine am_lcmp (v := (lg_cmp (lshr ((w.2.2.2.1) (z1 >>> ((1 : Int32) &&& 31)).toNatClampNeg) 20) (w.2.2.2.2.1))) dX2_recall_38 rfl ?_
        refine am_if_eq dX2_recall_39 (by decide : ((39 : Nat) : Int) + (5) = ((44 : Nat) : Int)) (fun c7 => ?_) (fun c7 => ?_)
        · refine am_aload_n dX2_recall_44 1 rfl ?_
          refine am_get (v := .ref (gz G + 218)) dX2_recall_45 kGX2_18 (hwc215 (w := w) hw) rfl ?_
          refine am_iload_n dX2_recall_48 0 rfl ?_
          refine am_lald (f := (w.2.2.2.1)) dX2_recall_49 (hwc218 (w := w) hw) (vp_in2 c5 c6 (by decide)) ?_
          refine am_ldc2 (v := 1048575) dX2_recall_50 kKX2_96 ?_
          refine am_land dX2_recall_53 ?_
          refine am_l2i (v := (((w.2.2.2.1) (z1 >>> ((1 : Int32) &&& 31)).toNatClampNeg) &&& 1048575).toInt32) dX2_recall_54 rfl ?_
          rw [show (fX2_recall w z1) = ((((w.2.2.2.1) (z1 >>> ((1 : Int32) &&& 31)).toNatClampNeg) &&& 1048575).toInt32) from Eq.trans (if_pos c4) (Eq.trans (if_neg c5) (Eq.trans (if_neg c6) (Eq.trans (if_pos c7) (rfl))))]
          exact am_ireturn dX2_recall_55 rfl rfl ⟨rfl, rfl⟩
        · refine am_iconst (v := (-1)) dX2_recall_42 (by decide) ?_
          rw [show (fX2_recall w z1) = (-1) from Eq.trans (if_pos c4) (Eq.trans (if_neg c5) (Eq.trans (if_neg c6) (Eq.trans (if_neg c7) (rfl))))]
          exact am_ireturn dX2_recall_43 rfl rfl ⟨rfl, rfl⟩

theorem dX2_remember_0 : decode cX2_remember 0 = .ok (.iload_n 1, 1) := by decide +kernel
theorem dX2_remember_1 : decode cX2_remember 1 = .ok (.iconst 1, 1) := by decide +kernel
theorem dX2_remember_2 : decode cX2_remember 2 = .ok (.ishr, 1) := by decide +kernel
theorem dX2_remember_3 : decode cX2_remember 3 = .ok (.istore_n 3, 1) := by decide +kernel
theorem dX2_remember_4 : decode cX2_remember 4 = .ok (.iload_n 1, 1) := by decide +kernel
theorem dX2_remember_5 : decode cX2_remember 5 = .ok (.iconst 0, 1) := by decide +kernel
theorem dX2_remember_6 : decode cX2_remember 6 = .ok (.invokestatic 36, 3) := by decide +kernel
theorem dX2_remember_9 : decode cX2_remember 9 = .ok (.ifCond .ne 32, 3) := by decide +kernel
theorem dX2_remember_12 : decode cX2_remember 12 = .ok (.iload_n 3, 1) := by decide +kernel
theorem dX2_remember_13 : decode cX2_remember 13 = .ok (.ifCond .lt 28, 3) := by decide +kernel
theorem dX2_remember_16 : decode cX2_remember 16 = .ok (.iload_n 3, 1) := by decide +kernel
theorem dX2_remember_17 : decode cX2_remember 17 = .ok (.aload_n 0, 1) := by decide +kernel
theorem dX2_remember_18 : decode cX2_remember 18 = .ok (.getfield 18, 3) := by decide +kernel
theorem dX2_remember_21 : decode cX2_remember 21 = .ok (.arraylength, 1) := by decide +kernel
theorem dX2_remember_22 : decode cX2_remember 22 = .ok (.if_icmp .ge 19, 3) := by decide +kernel
theorem dX2_remember_25 : decode cX2_remember 25 = .ok (.aload_n 0, 1) := by decide +kernel
theorem dX2_remember_26 : decode cX2_remember 26 = .ok (.getfield 18, 3) := by decide +kernel
theorem dX2_remember_29 : decode cX2_remember 29 = .ok (.iload_n 3, 1) := by decide +kernel
theorem dX2_remember_30 : decode cX2_remember 30 = .ok (.aload_n 0, 1) := by decide +kernel
theorem dX2_remember_31 : decode cX2_remember 31 = .ok (.getfield 51, 3) := by decide +kernel
theorem dX2_remember_34 : decode cX2_remember 34 = .ok (.bipush 20, 2) := by decide +kernel
theorem dX2_remember_36 : decode cX2_remember 36 = .ok (.lshl, 1) := by decide +kernel
theorem dX2_remember_37 : decode cX2_remember 37 = .ok (.iload_n 2, 1) := by decide +kernel
theorem dX2_remember_38 : decode cX2_remember 38 = .ok (.i2l, 1) := by decide +kernel
theorem dX2_remember_39 : decode cX2_remember 39 = .ok (.lor, 1) := by decide +kernel
theorem dX2_remember_40 : decode cX2_remember 40 = .ok (.lastore, 1) := by decide +kernel
theorem dX2_remember_41 : decode cX2_remember 41 = .ok (.return_, 1) := by decide +kernel
def fX2_remember (w : Wd) (z1 : Int32) (z2 : Int32) : Wd := (if (fX6_contains z1 0) = 0 then (if (z1 >>> ((1 : Int32) &&& 31)) < 0 then w else (if 8192 ≤ (z1 >>> ((1 : Int32) &&& 31)) then w else (wK w (vp_updL (w.2.2.2.1) (z1 >>> ((1 : Int32) &&& 31)).toNatClampNeg ((lshl (w.2.2.2.2.1) 20) ||| (z2.toInt64)))))) else w)
set_option maxRecDepth 20000 in
theorem ctX2_remember {l : Launch} {G : GM} {K : Nat → Option va_E} {h : List va_E} {w : Wd} (hw : HW G K h w) (z1 : Int32) (z2 : Int32) : Ct l G mX2_remember 1 0 0 [.ref (gz G + 215), .int z1, .int z2] h (fun v h1 => ∃ r, (fX2_remember w z1 z2) = r ∧ v = none ∧ HW G K h1 r) := by
  show Tr l G mX2_remember 1 0 0 0 [(0, .ref (gz G + 215)), (1, .int z1), (2, .int z2)] [] h _
  refine am_iload_n dX2_remember_0 1 rfl ?_
  refine am_iconst (v := 1) dX2_remember_1 (by decide) ?_
  refine am_ishr dX2_remember_2 ?_
  refine am_istore_n dX2_remember_3 (by decide) (lv' := [(3, .int (z1 >>> ((1 : Int32) &&& 31))), (0, .ref (gz G + 215)), (1, .int z1), (2, .int z2)]) rfl ?_
  refine am_iload_n dX2_remember_4 2 rfl ?_
  refine am_iconst (v := 0) dX2_remember_5 (by decide) ?_
  refine am_callSN (As := [.int z1, .int 0]) (rest := []) dX2_remember_6 kMX2_36 rfl  rfl (Nat.le_of_ble_eq_true rfl) (d2 := 0) (by decide) (k2 := 0) (Nat.zero_le _) (u2 := 0) (Nat.zero_le _) (Nat.le_of_ble_eq_true rfl) (ctX6_contains  z1 0) (fun v1 h2 q3 => ?_)
  obtain ⟨rfl, rfl⟩ := q3
  refine am_if_ne dX2_remember_9 (by decide : ((9 : Nat) : Int) + (32) = ((41 : Nat) : Int)) (fun c4 => ?_) (fun c4 => ?_)
  · exact am_return dX2_remember_41 rfl ⟨_, Eq.trans (if_neg c4) (rfl), rfl, hw⟩
  · refine am_iload_n dX2_remember_12 0 rfl ?_
    refine am_if_lt dX2_remember_13 (by decide : ((13 : Nat) : Int) + (28) = ((41 : Nat) : Int)) (fun c5 => ?_) (fun c5 => ?_)
    · exact am_return dX2_remember_41 rfl ⟨_, Eq.trans (if_pos c4) (Eq.trans (if_pos c5) (rfl)), rfl, hw⟩
    · refine am_iload_n dX2_remember_16 0 rfl ?_
      refine am_aload_n dX2_remember_17 1 rfl ?_
      refine am_get (v := .ref (gz G + 218)) dX2_remember_18 kGX2_18 (hwc215 (w := w) hw) rfl ?_
      refine am_alen (v := 8192) dX2_remember_21 (hwc218 (w := w) hw) rfl (by rfl) ?_
      refine am_icmp_ge dX2_remember_22 (by decide : ((22 : Nat) : Int) + (19) = ((41 : Nat) : Int)) (fun c6 => ?_) (fun c6 => ?_)
      · exact am_return dX2_remember_41 rfl ⟨_, Eq.trans (if_pos c4) (Eq.trans (if_neg c5) (Eq.trans (if_pos c6) (rfl))), rfl, hw⟩
      · refine am_aload_n dX2_remember_25 1 rfl ?_
        refine am_get (v := .ref (gz G + 218)) dX2_remember_26 kGX2_18 (hwc215 (w := w) hw) rfl ?_
        refine am_iload_n dX2_remember_29 0 rfl ?_
        refine am_aload_n dX2_remember_30 1 rfl ?_
        refine am_get (v := .long (w.2.2.2.2.1)) dX2_remember_31 kGX2_51 (hwc215 (w := w) hw) rfl ?_
        refine am_bipush (v := 20) dX2_remember_34 (by decide) ?_
        refine am_lshl (v := (lshl (w.2.2.2.2.1) 20)) dX2_remember_36 rfl ?_
        refine am_iload_n dX2_remember_37 3 rfl ?_
        refine am_i2l (v := z2.toInt64) dX2_remember_38 rfl ?_
        refine am_lor dX2_remember_39 ?_
        refine am_last (f := (w.2.2.2.1)) dX2_remember_40 (hwc218 (w := w) hw) (vp_in2 c5 c6 (by decide)) ?_
        have w7 := hwK hw (vp_updL (w.2.2.2.1) (z1 >>> ((1 : Int32) &&& 31)).toNatClampNeg ((lshl (w.2.2.2.2.1) 20) ||| (z2.toInt64)))
        exact am_return dX2_remember_41 rfl ⟨_, Eq.trans (if_pos c4) (Eq.trans (if_neg c5) (Eq.trans (if_neg c6) (rfl))), rfl, w7⟩

theorem dX2_worthOf_0 : decode cX2_worthOf 0 = .ok (.iload_n 1, 1) := by decide +kernel
theorem dX2_worthOf_1 : decode cX2_worthOf 1 = .ok (.ifCond .eq 9, 3) := by decide +kernel
theorem dX2_worthOf_4 : decode cX2_worthOf 4 = .ok (.iload_n 2, 1) := by decide +kernel
theorem dX2_worthOf_5 : decode cX2_worthOf 5 = .ok (.bipush 14, 2) := by decide +kernel
theorem dX2_worthOf_7 : decode cX2_worthOf 7 = .ok (.if_icmp .le 5, 3) := by decide +kernel
theorem dX2_worthOf_10 : decode cX2_worthOf 10 = .ok (.iconst 0, 1) := by decide +kernel
theorem dX2_worthOf_11 : decode cX2_worthOf 11 = .ok (.ireturn, 1) := by decide +kernel
theorem dX2_worthOf_12 : decode cX2_worthOf 12 = .ok (.aload_n 0, 1) := by decide +kernel
theorem dX2_worthOf_13 : decode cX2_worthOf 13 = .ok (.iload_n 1, 1) := by decide +kernel
theorem dX2_worthOf_14 : decode cX2_worthOf 14 = .ok (.invokevirtual 75, 3) := by decide +kernel
theorem dX2_worthOf_17 : decode cX2_worthOf 17 = .ok (.istore_n 3, 1) := by decide +kernel
theorem dX2_worthOf_18 : decode cX2_worthOf 18 = .ok (.iload_n 3, 1) := by decide +kernel
theorem dX2_worthOf_19 : decode cX2_worthOf 19 = .ok (.iconst (-1), 1) := by decide +kernel
theorem dX2_worthOf_20 : decode cX2_worthOf 20 = .ok (.if_icmp .eq 5, 3) := by decide +kernel
theorem dX2_worthOf_23 : decode cX2_worthOf 23 = .ok (.iload_n 3, 1) := by decide +kernel
theorem dX2_worthOf_24 : decode cX2_worthOf 24 = .ok (.ireturn, 1) := by decide +kernel
theorem dX2_worthOf_25 : decode cX2_worthOf 25 = .ok (.iload_n 1, 1) := by decide +kernel
theorem dX2_worthOf_26 : decode cX2_worthOf 26 = .ok (.invokestatic 79, 3) := by decide +kernel
theorem dX2_worthOf_29 : decode cX2_worthOf 29 = .ok (.istore 4, 2) := by decide +kernel
theorem dX2_worthOf_31 : decode cX2_worthOf 31 = .ok (.iload_n 1, 1) := by decide +kernel
theorem dX2_worthOf_32 : decode cX2_worthOf 32 = .ok (.iload_n 1, 1) := by decide +kernel
theorem dX2_worthOf_33 : decode cX2_worthOf 33 = .ok (.iconst 1, 1) := by decide +kernel
theorem dX2_worthOf_34 : decode cX2_worthOf 34 = .ok (.isub, 1) := by decide +kernel
theorem dX2_worthOf_35 : decode cX2_worthOf 35 = .ok (.iand, 1) := by decide +kernel
theorem dX2_worthOf_36 : decode cX2_worthOf 36 = .ok (.istore 5, 2) := by decide +kernel
theorem dX2_worthOf_38 : decode cX2_worthOf 38 = .ok (.iconst (-1), 1) := by decide +kernel
theorem dX2_worthOf_39 : decode cX2_worthOf 39 = .ok (.istore 6, 2) := by decide +kernel
theorem dX2_worthOf_41 : decode cX2_worthOf 41 = .ok (.iload_n 1, 1) := by decide +kernel
theorem dX2_worthOf_42 : decode cX2_worthOf 42 = .ok (.invokestatic 82, 3) := by decide +kernel
theorem dX2_worthOf_45 : decode cX2_worthOf 45 = .ok (.iconst 2, 1) := by decide +kernel
theorem dX2_worthOf_46 : decode cX2_worthOf 46 = .ok (.idiv, 1) := by decide +kernel
theorem dX2_worthOf_47 : decode cX2_worthOf 47 = .ok (.ldc 30, 2) := by decide +kernel
theorem dX2_worthOf_49 : decode cX2_worthOf 49 = .ok (.imul, 1) := by decide +kernel
theorem dX2_worthOf_50 : decode cX2_worthOf 50 = .ok (.istore 7, 2) := by decide +kernel
theorem dX2_worthOf_52 : decode cX2_worthOf 52 = .ok (.iload 4, 2) := by decide +kernel
theorem dX2_worthOf_54 : decode cX2_worthOf 54 = .ok (.iconst 1, 1) := by decide +kernel
theorem dX2_worthOf_55 : decode cX2_worthOf 55 = .ok (.iadd, 1) := by decide +kernel
theorem dX2_worthOf_56 : decode cX2_worthOf 56 = .ok (.istore 8, 2) := by decide +kernel
theorem dX2_worthOf_58 : decode cX2_worthOf 58 = .ok (.iload 8, 2) := by decide +kernel
theorem dX2_worthOf_60 : decode cX2_worthOf 60 = .ok (.bipush 14, 2) := by decide +kernel
theorem dX2_worthOf_62 : decode cX2_worthOf 62 = .ok (.if_icmp .ge 75, 3) := by decide +kernel
theorem dX2_worthOf_65 : decode cX2_worthOf 65 = .ok (.iload 6, 2) := by decide +kernel
theorem dX2_worthOf_67 : decode cX2_worthOf 67 = .ok (.iload 7, 2) := by decide +kernel
theorem dX2_worthOf_69 : decode cX2_worthOf 69 = .ok (.if_icmp .ge 68, 3) := by decide +kernel
theorem dX2_worthOf_72 : decode cX2_worthOf 72 = .ok (.iload 5, 2) := by decide +kernel
theorem dX2_worthOf_74 : decode cX2_worthOf 74 = .ok (.aload_n 0, 1) := by decide +kernel
theorem dX2_worthOf_75 : decode cX2_worthOf 75 = .ok (.getfield 9, 3) := by decide +kernel
theorem dX2_worthOf_78 : decode cX2_worthOf 78 = .ok (.iload 4, 2) := by decide +kernel
theorem dX2_worthOf_80 : decode cX2_worthOf 80 = .ok (.invokestatic 71, 3) := by decide +kernel
theorem dX2_worthOf_83 : decode cX2_worthOf 83 = .ok (.iand, 1) := by decide +kernel
theorem dX2_worthOf_84 : decode cX2_worthOf 84 = .ok (.iload 8, 2) := by decide +kernel
theorem dX2_worthOf_86 : decode cX2_worthOf 86 = .ok (.invokestatic 36, 3) := by decide +kernel
theorem dX2_worthOf_89 : decode cX2_worthOf 89 = .ok (.ifCond .eq 42, 3) := by decide +kernel
theorem dX2_worthOf_92 : decode cX2_worthOf 92 = .ok (.ldc 30, 2) := by decide +kernel
theorem dX2_worthOf_94 : decode cX2_worthOf 94 = .ok (.aload_n 0, 1) := by decide +kernel
theorem dX2_worthOf_95 : decode cX2_worthOf 95 = .ok (.iload 4, 2) := by decide +kernel
theorem dX2_worthOf_97 : decode cX2_worthOf 97 = .ok (.iload 8, 2) := by decide +kernel
theorem dX2_worthOf_99 : decode cX2_worthOf 99 = .ok (.invokevirtual 44, 3) := by decide +kernel
theorem dX2_worthOf_102 : decode cX2_worthOf 102 = .ok (.isub, 1) := by decide +kernel
theorem dX2_worthOf_103 : decode cX2_worthOf 103 = .ok (.aload_n 0, 1) := by decide +kernel
theorem dX2_worthOf_104 : decode cX2_worthOf 104 = .ok (.iload 5, 2) := by decide +kernel
theorem dX2_worthOf_106 : decode cX2_worthOf 106 = .ok (.iconst 1, 1) := by decide +kernel
theorem dX2_worthOf_107 : decode cX2_worthOf 107 = .ok (.iload 8, 2) := by decide +kernel
theorem dX2_worthOf_109 : decode cX2_worthOf 109 = .ok (.ishl, 1) := by decide +kernel
theorem dX2_worthOf_110 : decode cX2_worthOf 110 = .ok (.iconst (-1), 1) := by decide +kernel
theorem dX2_worthOf_111 : decode cX2_worthOf 111 = .ok (.ixor, 1) := by decide +kernel
theorem dX2_worthOf_112 : decode cX2_worthOf 112 = .ok (.iand, 1) := by decide +kernel
theorem dX2_worthOf_113 : decode cX2_worthOf 113 = .ok (.iload_n 2, 1) := by decide +kernel
theorem dX2_worthOf_114 : decode cX2_worthOf 114 = .ok (.iconst 1, 1) := by decide +kernel
theorem dX2_worthOf_115 : decode cX2_worthOf 115 = .ok (.iadd, 1) := by decide +kernel
theorem dX2_worthOf_116 : decode cX2_worthOf 116 = .ok (.invokestatic 26, 3) := by decide +kernel
theorem dX2_worthOf_119 : decode cX2_worthOf 119 = .ok (.iadd, 1) := by decide +kernel
theorem dX2_worthOf_120 : decode cX2_worthOf 120 = .ok (.istore 9, 2) := by decide +kernel
theorem dX2_worthOf_122 : decode cX2_worthOf 122 = .ok (.iload 6, 2) := by decide +kernel
theorem dX2_worthOf_124 : decode cX2_worthOf 124 = .ok (.iload 9, 2) := by decide +kernel
theorem dX2_worthOf_126 : decode cX2_worthOf 126 = .ok (.invokestatic 87, 3) := by decide +kernel
theorem dX2_worthOf_129 : decode cX2_worthOf 129 = .ok (.istore 6, 2) := by decide +kernel
theorem dX2_worthOf_131 : decode cX2_worthOf 131 = .ok (.iinc 8 1, 3) := by decide +kernel
theorem dX2_worthOf_134 : decode cX2_worthOf 134 = .ok (.goto (-76), 3) := by decide +kernel
theorem dX2_worthOf_137 : decode cX2_worthOf 137 = .ok (.iload 6, 2) := by decide +kernel
theorem dX2_worthOf_139 : decode cX2_worthOf 139 = .ok (.iload 5, 2) := by decide +kernel
theorem dX2_worthOf_141 : decode cX2_worthOf 141 = .ok (.invokestatic 82, 3) := by decide +kernel
theorem dX2_worthOf_144 : decode cX2_worthOf 144 = .ok (.iconst 2, 1) := by decide +kernel
theorem dX2_worthOf_145 : decode cX2_worthOf 145 = .ok (.idiv, 1) := by decide +kernel
theorem dX2_worthOf_146 : decode cX2_worthOf 146 = .ok (.ldc 30, 2) := by decide +kernel
theorem dX2_worthOf_148 : decode cX2_worthOf 148 = .ok (.imul, 1) := by decide +kernel
theorem dX2_worthOf_149 : decode cX2_worthOf 149 = .ok (.if_icmp .ge 19, 3) := by decide +kernel
theorem dX2_worthOf_152 : decode cX2_worthOf 152 = .ok (.iload 6, 2) := by decide +kernel
theorem dX2_worthOf_154 : decode cX2_worthOf 154 = .ok (.aload_n 0, 1) := by decide +kernel
theorem dX2_worthOf_155 : decode cX2_worthOf 155 = .ok (.iload 5, 2) := by decide +kernel
theorem dX2_worthOf_157 : decode cX2_worthOf 157 = .ok (.iload_n 2, 1) := by decide +kernel
theorem dX2_worthOf_158 : decode cX2_worthOf 158 = .ok (.iconst 1, 1) := by decide +kernel
theorem dX2_worthOf_159 : decode cX2_worthOf 159 = .ok (.iadd, 1) := by decide +kernel
theorem dX2_worthOf_160 : decode cX2_worthOf 160 = .ok (.invokestatic 26, 3) := by decide +kernel
theorem dX2_worthOf_163 : decode cX2_worthOf 163 = .ok (.invokestatic 87, 3) := by decide +kernel
theorem dX2_worthOf_166 : decode cX2_worthOf 166 = .ok (.istore 6, 2) := by decide +kernel
theorem dX2_worthOf_168 : decode cX2_worthOf 168 = .ok (.aload_n 0, 1) := by decide +kernel
theorem dX2_worthOf_169 : decode cX2_worthOf 169 = .ok (.iload_n 1, 1) := by decide +kernel
theorem dX2_worthOf_170 : decode cX2_worthOf 170 = .ok (.iload 6, 2) := by decide +kernel
theorem dX2_worthOf_172 : decode cX2_worthOf 172 = .ok (.invokevirtual 92, 3) := by decide +kernel
theorem dX2_worthOf_175 : decode cX2_worthOf 175 = .ok (.iload 6, 2) := by decide +kernel
theorem dX2_worthOf_177 : decode cX2_worthOf 177 = .ok (.ireturn, 1) := by decide +kernel
def fX2_worthOf_s_58 (rec : Wd → Int32 → Int32 → Int32 × Wd) (z2 : Int32) (z3 : Int32) (o7 : Int32) (o5 : Int32) (o4 : Int32) : Nat → Int32 → Int32 → Wd → Int32 × Int32 × Wd
  | 0, x8, x6, y => (x8, x6, y)
  | fu + 1, x8, x6, y => (if 14 ≤ x8 then (x8, x6, y) else (if o7 ≤ x6 then (x8, x6, y) else (if (fX6_contains (o5 &&& (fX6_at 14 (y.2.1 1) o4)) x8) = 0 then (fX2_worthOf_s_58 rec z2 z3 o7 o5 o4  fu (x8 + 1) x6 y) else (bnd (rec y (o5 &&& (((1 : Int32) <<< (x8 &&& 31)) ^^^ (-1))) (z3 + 1)) (fun r28 => (fX2_worthOf_s_58 rec z2 z3 o7 o5 o4  fu (x8 + 1) (imx x6 (((100000 : Int32) - (fX2_gapBetween y o4 x8)) + r28.1)) r28.2))))))
set_option maxRecDepth 20000 in
theorem wX2_worthOf_s_58 {l : Launch} {G : GM} {K : Nat → Option va_E} {dn : Nat} (hdn : 2 ≤ dn) {rec : Wd → Int32 → Int32 → Int32 × Wd} {z3 : Int32} (hrec : z3 ≤ 14 → ∀ (a : Int32) {h : List va_E} {w : Wd} (hw : HW G K h w), Ct l G mX2_worthOf dn 0 0 [.ref (gz G + 215), .int a, .int (z3 + 1)] h (fun v h1 => ∃ r, rec w a (z3 + 1) = r ∧ v = some (.int r.1) ∧ HW G K h1 r.2)) (hz : z3 ≤ 14) (z2 : Int32) (o7 : Int32) (o5 : Int32) (o4 : Int32) {Q : Option Value → List va_E → Prop} : ∀ (fu : Nat) (x8 x6 : Int32) (y : Wd) (iv : ivU 14 x8 fu) {h : List va_E} (gy : HW G K h y) (kx : ∀ (h1 : List va_E) (r : Int32 × Int32 × Wd), (fX2_worthOf_s_58 rec z2 z3 o7 o5 o4  fu x8 x6 y) = r → HW G K h1 r.2.2 → Tr l G mX2_worthOf (dn + 1) 0 0 137 [(8, .int r.1), (7, .int o7), (6, .int r.2.1), (5, .int o5), (4, .int o4), (0, .ref (gz G + 215)), (1, .int z2), (2, .int z3)] [] h1 Q), Tr l G mX2_worthOf (dn + 1) 0 0 58 [(8, .int x8), (7, .int o7), (6, .int x6), (5, .int o5), (4, .int o4), (0, .ref (gz G + 215)), (1, .int z2), (2, .int z3)] [] h Q := by
  intro fu
  induction fu with
  | zero => intro x8 x6 y iv; intros; exact absurd iv ivU_0
  | succ fu ih =>
    intro x8 x6 y iv  h gy  kx
    refine am_iload dX2_worthOf_58 0 rfl ?_
    refine am_bipush (v := 14) dX2_worthOf_60 (by decide) ?_
    refine am_icmp_ge dX2_worthOf_62 (by decide : ((62 : Nat) : Int) + (75) = ((137 : Nat) : Int)) (fun c13 => ?_) (fun c13 => ?_)
    · exact kx _ _ (Eq.trans (if_pos c13) (rfl)) gy 
    · refine am_iload dX2_worthOf_65 2 rfl ?_
      refine am_iload dX2_worthOf_67 1 rfl ?_
      refine am_icmp_ge dX2_worthOf_69 (by decide : ((69 : Nat) : Int) + (68) = ((137 : Nat) : Int)) (fun c14 => ?_) (fun c14 => ?_)
      · exact kx _ _ (Eq.trans (if_neg c13) (Eq.trans (if_pos c14) (rfl))) gy 
      · refine am_iload dX2_worthOf_72 3 rfl ?_
        refine am_aload_n dX2_worthOf_74 5 rfl ?_
        refine am_get (v := .ref (gz G + 216)) dX2_worthOf_75 kGX2_9 (hwc215 (w := y) gy) rfl ?_
        refine am_iload dX2_worthOf_78 4 rfl ?_
        refine am_callSN (As := [.ref (gz G + 216), .int o4]) (rest := [.int o5]) dX2_worthOf_80 kMX2_71 rfl  rfl (Nat.le_of_ble_eq_true rfl) (d2 := 0) (by omega) (k2 := 0) (Nat.zero_le _) (u2 := 0) (Nat.zero_le _) (Nat.le_of_ble_eq_true rfl) (ctX6_at (f := (y.2.1 1)) (hwc216 (w := y) gy) (by decide) o4) (fun v15 h16 q17 => ?_)
        obtain ⟨rfl, rfl⟩ := q17
        refine am_iand dX2_worthOf_83 ?_
        refine am_iload dX2_worthOf_84 0 rfl ?_
        refine am_callSN (As := [.int (o5 &&& (fX6_at 14 (y.2.1 1) o4)), .int x8]) (rest := []) dX2_worthOf_86 kMX2_36 rfl  rfl (Nat.le_of_ble_eq_true rfl) (d2 := 0) (by omega) (k2 := 0) (Nat.zero_le _) (u2 := 0) (Nat.zero_le _) (Nat.le_of_ble_eq_true rfl) (ctX6_contains  (o5 &&& (fX6_at 14 (y.2.1 1) o4)) x8) (fun v18 h19 q20 => ?_)
        obtain ⟨rfl, rfl⟩ := q20
        refine am_if_eq dX2_worthOf_89 (by decide : ((89 : Nat) : Int) + (42) = ((131 : Nat) : Int)) (fun c21 => ?_) (fun c21 => ?_)
        · refine am_iinc (v := (x8 + 1)) dX2_worthOf_131 0 rfl rfl (by decide) (lv' := [(8, .int (x8 + 1)), (7, .int o7), (6, .int x6), (5, .int o5), (4, .int o4), (0, .ref (gz G + 215)), (1, .int z2), (2, .int z3)]) rfl ?_
          refine am_goto dX2_worthOf_134 (by decide : ((134 : Nat) : Int) + (-76) = ((58 : Nat) : Int)) ?_
          exact ih (x8 + 1) x6 y (ivU_s c13 iv) gy  (fun h1 r e => kx h1 r (Eq.trans (Eq.trans (if_neg c13) (Eq.trans (if_neg c14) (Eq.trans (if_pos c21) (rfl)))) e))
        · refine am_ldc (v := 100000) dX2_worthOf_92 kKX2_30 ?_
          refine am_aload_n dX2_worthOf_94 5 rfl ?_
          refine am_iload dX2_worthOf_95 4 rfl ?_
          refine am_iload dX2_worthOf_97 0 rfl ?_
          refine am_callV (As := [.int o4, .int x8]) (rest := [.int 100000]) dX2_worthOf_99 kMX2_44 rfl (hwc215 (w := y) gy) rfl rfl (Nat.le_of_ble_eq_true rfl) (d2 := 1) (by omega) (k2 := 0) (Nat.zero_le _) (u2 := 0) (Nat.zero_le _) (Nat.le_of_ble_eq_true rfl) (ctX2_gapBetween (w := y) gy o4 x8) (fun v22 h23 q24 => ?_)
          obtain ⟨rfl, rfl⟩ := q24
          refine am_isub dX2_worthOf_102 ?_
          refine am_aload_n dX2_worthOf_103 5 rfl ?_
          refine am_iload dX2_worthOf_104 3 rfl ?_
          refine am_iconst (v := 1) dX2_worthOf_106 (by decide) ?_
          refine am_iload dX2_worthOf_107 0 rfl ?_
          refine am_ishl dX2_worthOf_109 ?_
          refine am_iconst (v := (-1)) dX2_worthOf_110 (by decide) ?_
          refine am_ixor dX2_worthOf_111 ?_
          refine am_iand dX2_worthOf_112 ?_
          refine am_iload_n dX2_worthOf_113 7 rfl ?_
          refine am_iconst (v := 1) dX2_worthOf_114 (by decide) ?_
          refine am_iadd dX2_worthOf_115 ?_
          refine am_callS (As := [.ref (gz G + 215), .int (o5 &&& (((1 : Int32) <<< (x8 &&& 31)) ^^^ (-1))), .int (z3 + 1)]) (rest := [.int ((100000 : Int32) - (fX2_gapBetween y o4 x8))]) dX2_worthOf_116 kMX2_26 rfl  rfl (Nat.le_of_ble_eq_true rfl) (d2 := dn) (by omega) (k2 := 0) (Nat.zero_le _) (u2 := 0) (Nat.zero_le _) (Nat.le_of_ble_eq_true rfl) (hrec hz (o5 &&& (((1 : Int32) <<< (x8 &&& 31)) ^^^ (-1))) (w := y) gy) (fun v25 h26 q27 => ?_)
          obtain ⟨r28, e29, rfl, w30⟩ := q27
          refine am_iadd dX2_worthOf_119 ?_
          refine am_istore dX2_worthOf_120 (by decide) (lv' := [(9, .int (((100000 : Int32) - (fX2_gapBetween y o4 x8)) + r28.1)), (8, .int x8), (7, .int o7), (6, .int x6), (5, .int o5), (4, .int o4), (0, .ref (gz G + 215)), (1, .int z2), (2, .int z3)]) rfl ?_
          refine am_iload dX2_worthOf_122 3 rfl ?_
          refine am_iload dX2_worthOf_124 0 rfl ?_
          refine am_mmax dX2_worthOf_126 kXX2_87 (Nat.le_of_ble_eq_true rfl) (by omega) ?_
          refine am_istore dX2_worthOf_129 (by decide) (lv' := [(6, .int (imx x6 (((100000 : Int32) - (fX2_gapBetween y o4 x8)) + r28.1))), (9, .int (((100000 : Int32) - (fX2_gapBetween y o4 x8)) + r28.1)), (8, .int x8), (7, .int o7), (5, .int o5), (4, .int o4), (0, .ref (gz G + 215)), (1, .int z2), (2, .int z3)]) rfl ?_
          refine am_iinc (v := (x8 + 1)) dX2_worthOf_131 2 rfl rfl (by decide) (lv' := [(8, .int (x8 + 1)), (6, .int (imx x6 (((100000 : Int32) - (fX2_gapBetween y o4 x8)) + r28.1))), (9, .int (((100000 : Int32) - (fX2_gapBetween y o4 x8)) + r28.1)), (7, .int o7), (5, .int o5), (4, .int o4), (0, .ref (gz G + 215)), (1, .int z2), (2, .int z3)]) rfl ?_
          refine am_goto dX2_worthOf_134 (by decide : ((134 : Nat) : Int) + (-76) = ((58 : Nat) : Int)) ?_
          refine am_lv (lv' := [(8, .int (x8 + 1)), (7, .int o7), (6, .int (imx x6 (((100000 : Int32) - (fX2_gapBetween y o4 x8)) + r28.1))), (5, .int o5), (4, .int o4), (0, .ref (gz G + 215)), (1, .int z2), (2, .int z3)]) [0, 3, 1, 4, 5, 6, 7, 8] rfl ?_
          exact ih (x8 + 1) (imx x6 (((100000 : Int32) - (fX2_gapBetween y o4 x8)) + r28.1)) r28.2 (ivU_s c13 iv) w30  (fun h1 r e => kx h1 r (Eq.trans (Eq.trans (if_neg c13) (Eq.trans (if_neg c14) (Eq.trans (if_neg c21) (bnd_eq e29 (rfl))))) e))
def fX2_worthOf_s (rec : Wd → Int32 → Int32 → Int32 × Wd) (w : Wd) (z2 : Int32) (z3 : Int32) : Int32 × Wd := (if z2 = 0 then (0, w) else (if z3 ≤ 14 then (if (fX2_recall w z2) = (-1) then (bnd (fX2_worthOf_s_58 rec z2 z3 (((fJ6_bitCount_0f7a4 z2) / 2) * 100000) (z2 &&& (z2 - 1)) (fX6_lowestOf z2)  (fuU 14 ((fX6_lowestOf z2) + 1)) ((fX6_lowestOf z2) + 1) (-1) w) (fun r31 => (if (((fJ6_bitCount_0f7a4 (z2 &&& (z2 - 1))) / 2) * 100000) ≤ r31.2.1 then (bnd (fX2_remember r31.2.2 z2 r31.2.1) (fun r42 => (r31.2.1, r42))) else (bnd (rec r31.2.2 (z2 &&& (z2 - 1)) (z3 + 1)) (fun r48 => (bnd (fX2_remember r48.2 z2 (imx r31.2.1 r48.1)) (fun r54 => ((imx r31.2.1 r48.1), r54)))))))) else ((fX2_recall w z2), w)) else (0, w)))
set_option maxRecDepth 20000 in
theorem ctX2_worthOf_s {l : Launch} {G : GM} {K : Nat → Option va_E} {dn : Nat} (hdn : 2 ≤ dn) {rec : Wd → Int32 → Int32 → Int32 × Wd} {z3 : Int32} (hrec : z3 ≤ 14 → ∀ (a : Int32) {h : List va_E} {w : Wd} (hw : HW G K h w), Ct l G mX2_worthOf dn 0 0 [.ref (gz G + 215), .int a, .int (z3 + 1)] h (fun v h1 => ∃ r, rec w a (z3 + 1) = r ∧ v = some (.int r.1) ∧ HW G K h1 r.2)) {h : List va_E} {w : Wd} (hw : HW G K h w) (z2 : Int32) : Ct l G mX2_worthOf (dn + 1) 0 0 [.ref (gz G + 215), .int z2, .int z3] h (fun v h1 => ∃ r, (fX2_worthOf_s rec w z2 z3) = r ∧ v = some (.int r.1) ∧ HW G K h1 r.2) := by
  show Tr l G mX2_worthOf (dn + 1) 0 0 0 [(0, .ref (gz G + 215)), (1, .int z2), (2, .int z3)] [] h _
  refine am_iload_n dX2_worthOf_0 1 rfl ?_
  refine am_if_eq dX2_worthOf_1 (by decide : ((1 : Nat) : Int) + (9) = ((10 : Nat) : Int)) (fun c1 => ?_) (fun c1 => ?_)
  · refine am_iconst (v := 0) dX2_worthOf_10 (by decide) ?_
    exact am_ireturn dX2_worthOf_11 rfl rfl ⟨_, Eq.trans (if_pos c1) (rfl), rfl, hw⟩
  · refine am_iload_n dX2_worthOf_4 2 rfl ?_
    refine am_bipush (v := 14) dX2_worthOf_5 (by decide) ?_
    refine am_icmp_le dX2_worthOf_7 (by decide : ((7 : Nat) : Int) + (5) = ((12 : Nat) : Int)) (fun c2 => ?_) (fun c2 => ?_)
    · refine am_aload_n dX2_worthOf_12 0 rfl ?_
      refine am_iload_n dX2_worthOf_13 1 rfl ?_
      refine am_callV (As := [.int z2]) (rest := []) dX2_worthOf_14 kMX2_75 rfl (hwc215 (w := w) hw) rfl rfl (Nat.le_of_ble_eq_true rfl) (d2 := 1) (by omega) (k2 := 0) (Nat.zero_le _) (u2 := 0) (Nat.zero_le _) (Nat.le_of_ble_eq_true rfl) (ctX2_recall (w := w) hw z2) (fun v3 h4 q5 => ?_)
      obtain ⟨rfl, rfl⟩ := q5
      refine am_istore_n dX2_worthOf_17 (by decide) (lv' := [(3, .int (fX2_recall w z2)), (0, .ref (gz G + 215)), (1, .int z2), (2, .int z3)]) rfl ?_
      refine am_iload_n dX2_worthOf_18 0 rfl ?_
      refine am_iconst (v := (-1)) dX2_worthOf_19 (by decide) ?_
      refine am_icmp_eq dX2_worthOf_20 (by decide : ((20 : Nat) : Int) + (5) = ((25 : Nat) : Int)) (fun c6 => ?_) (fun c6 => ?_)
      · refine am_iload_n dX2_worthOf_25 2 rfl ?_
        refine am_callSN (As := [.int z2]) (rest := []) dX2_worthOf_26 kMX2_79 rfl  rfl (Nat.le_of_ble_eq_true rfl) (d2 := 1) (by omega) (k2 := 0) (Nat.zero_le _) (u2 := 0) (Nat.zero_le _) (Nat.le_of_ble_eq_true rfl) (ctX6_lowestOf  z2) (fun v7 h8 q9 => ?_)
        obtain ⟨rfl, rfl⟩ := q9
        refine am_istore dX2_worthOf_29 (by decide) (lv' := [(4, .int (fX6_lowestOf z2)), (3, .int (fX2_recall w z2)), (0, .ref (gz G + 215)), (1, .int z2), (2, .int z3)]) rfl ?_
        refine am_iload_n dX2_worthOf_31 3 rfl ?_
        refine am_iload_n dX2_worthOf_32 3 rfl ?_
        refine am_iconst (v := 1) dX2_worthOf_33 (by decide) ?_
        refine am_isub dX2_worthOf_34 ?_
        refine am_iand dX2_worthOf_35 ?_
        refine am_istore dX2_worthOf_36 (by decide) (lv' := [(5, .int (z2 &&& (z2 - 1))), (4, .int (fX6_lowestOf z2)), (3, .int (fX2_recall w z2)), (0, .ref (gz G + 215)), (1, .int z2), (2, .int z3)]) rfl ?_
        refine am_iconst (v := (-1)) dX2_worthOf_38 (by decide) ?_
        refine am_istore dX2_worthOf_39 (by decide) (lv' := [(6, .int (-1)), (5, .int (z2 &&& (z2 - 1))), (4, .int (fX6_lowestOf z2)), (3, .int (fX2_recall w z2)), (0, .ref (gz G + 215)), (1, .int z2), (2, .int z3)]) rfl ?_
        refine am_iload_n dX2_worthOf_41 5 rfl ?_
        refine am_callS (As := [.int z2]) (rest := []) dX2_worthOf_42 kMX2_82 rfl  rfl (Nat.le_of_ble_eq_true rfl) (d2 := 0) (by omega) (k2 := 0) (Nat.zero_le _) (u2 := 0) (Nat.zero_le _) (Nat.le_of_ble_eq_true rfl) (ctJ6_bitCount_0f7a4  z2) (fun v10 h11 q12 => ?_)
        obtain ⟨rfl, rfl⟩ := q12
        refine am_iconst (v := 2) dX2_worthOf_45 (by decide) ?_
        refine am_idiv dX2_worthOf_46 (by decide) ?_
        refine am_ldc (v := 100000) dX2_worthOf_47 kKX2_30 ?_
        refine am_imul dX2_worthOf_49 ?_
        refine am_istore dX2_worthOf_50 (by decide) (lv' := [(7, .int (((fJ6_bitCount_0f7a4 z2) / 2) * 100000)), (6, .int (-1)), (5, .int (z2 &&& (z2 - 1))), (4, .int (fX6_lowestOf z2)), (3, .int (fX2_recall w z2)), (0, .ref (gz G + 215)), (1, .int z2), (2, .int z3)]) rfl ?_
        refine am_iload dX2_worthOf_52 3 rfl ?_
        refine am_iconst (v := 1) dX2_worthOf_54 (by decide) ?_
        refine am_iadd dX2_worthOf_55 ?_
        refine am_istore dX2_worthOf_56 (by decide) (lv' := [(8, .int ((fX6_lowestOf z2) + 1)), (7, .int (((fJ6_bitCount_0f7a4 z2) / 2) * 100000)), (6, .int (-1)), (5, .int (z2 &&& (z2 - 1))), (4, .int (fX6_lowestOf z2)), (3, .int (fX2_recall w z2)), (0, .ref (gz G + 215)), (1, .int z2), (2, .int z3)]) rfl ?_
        refine am_lv (lv' := [(8, .int ((fX6_lowestOf z2) + 1)), (7, .int (((fJ6_bitCount_0f7a4 z2) / 2) * 100000)), (6, .int (-1)), (5, .int (z2 &&& (z2 - 1))), (4, .int (fX6_lowestOf z2)), (0, .ref (gz G + 215)), (1, .int z2), (2, .int z3)]) [0, 1, 2, 3, 4, 6, 7, 8] rfl ?_
        refine wX2_worthOf_s_58 hdn hrec c2 z2 (((fJ6_bitCount_0f7a4 z2) / 2) * 100000) (z2 &&& (z2 - 1)) (fX6_lowestOf z2) (fuU 14 ((fX6_lowestOf z2) + 1)) ((fX6_lowestOf z2) + 1) (-1) w ivU_i hw  (fun h33 r31 e32 w34  => ?_)
        refine am_iload dX2_worthOf_137 2 rfl ?_
        refine am_iload dX2_worthOf_139 3 rfl ?_
        refine am_callS (As := [.int (z2 &&& (z2 - 1))]) (rest := [.int r31.2.1]) dX2_worthOf_141 kMX2_82 rfl  rfl (Nat.le_of_ble_eq_true rfl) (d2 := 0) (by omega) (k2 := 0) (Nat.zero_le _) (u2 := 0) (Nat.zero_le _) (Nat.le_of_ble_eq_true rfl) (ctJ6_bitCount_0f7a4  (z2 &&& (z2 - 1))) (fun v35 h36 q37 => ?_)
        obtain ⟨rfl, rfl⟩ := q37
        refine am_iconst (v := 2) dX2_worthOf_144 (by decide) ?_
        refine am_idiv dX2_worthOf_145 (by decide) ?_
        refine am_ldc (v := 100000) dX2_worthOf_146 kKX2_30 ?_
        refine am_imul dX2_worthOf_148 ?_
        refine am_icmp_ge dX2_worthOf_149 (by decide : ((149 : Nat) : Int) + (19) = ((168 : Nat) : Int)) (fun c38 => ?_) (fun c38 => ?_)
        · refine am_aload_n dX2_worthOf_168 5 rfl ?_
          refine am_iload_n dX2_worthOf_169 6 rfl ?_
          refine am_iload dX2_worthOf_170 2 rfl ?_
          refine am_callV (As := [.int z2, .int r31.2.1]) (rest := []) dX2_worthOf_172 kMX2_92 rfl (hwc215 (w := r31.2.2) w34) rfl rfl (Nat.le_of_ble_eq_true rfl) (d2 := 1) (by omega) (k2 := 0) (Nat.zero_le _) (u2 := 0) (Nat.zero_le _) (Nat.le_of_ble_eq_true rfl) (ctX2_remember (w := r31.2.2) w34 z2 r31.2.1) (fun v39 h40 q41 => ?_)
          obtain ⟨r42, e43, rfl, w44⟩ := q41
          refine am_iload dX2_worthOf_175 2 rfl ?_
          exact am_ireturn dX2_worthOf_177 rfl rfl ⟨_, Eq.trans (if_neg c1) (Eq.trans (if_pos c2) (Eq.trans (if_pos c6) (bnd_eq e32 (Eq.trans (if_pos c38) (bnd_eq e43 (rfl)))))), rfl, w44⟩
        · refine am_iload dX2_worthOf_152 2 rfl ?_
          refine am_aload_n dX2_worthOf_154 5 rfl ?_
          refine am_iload dX2_worthOf_155 3 rfl ?_
          refine am_iload_n dX2_worthOf_157 7 rfl ?_
          refine am_iconst (v := 1) dX2_worthOf_158 (by decide) ?_
          refine am_iadd dX2_worthOf_159 ?_
          refine am_callS (As := [.ref (gz G + 215), .int (z2 &&& (z2 - 1)), .int (z3 + 1)]) (rest := [.int r31.2.1]) dX2_worthOf_160 kMX2_26 rfl  rfl (Nat.le_of_ble_eq_true rfl) (d2 := dn) (by omega) (k2 := 0) (Nat.zero_le _) (u2 := 0) (Nat.zero_le _) (Nat.le_of_ble_eq_true rfl) (hrec c2 (z2 &&& (z2 - 1)) (w := r31.2.2) w34) (fun v45 h46 q47 => ?_)
          obtain ⟨r48, e49, rfl, w50⟩ := q47
          refine am_mmax dX2_worthOf_163 kXX2_87 (Nat.le_of_ble_eq_true rfl) (by omega) ?_
          refine am_istore dX2_worthOf_166 (by decide) (lv' := [(6, .int (imx r31.2.1 r48.1)), (8, .int r31.1), (7, .int (((fJ6_bitCount_0f7a4 z2) / 2) * 100000)), (5, .int (z2 &&& (z2 - 1))), (4, .int (fX6_lowestOf z2)), (0, .ref (gz G + 215)), (1, .int z2), (2, .int z3)]) rfl ?_
          refine am_aload_n dX2_worthOf_168 5 rfl ?_
          refine am_iload_n dX2_worthOf_169 6 rfl ?_
          refine am_iload dX2_worthOf_170 0 rfl ?_
          refine am_callV (As := [.int z2, .int (imx r31.2.1 r48.1)]) (rest := []) dX2_worthOf_172 kMX2_92 rfl (hwc215 (w := r48.2) w50) rfl rfl (Nat.le_of_ble_eq_true rfl) (d2 := 1) (by omega) (k2 := 0) (Nat.zero_le _) (u2 := 0) (Nat.zero_le _) (Nat.le_of_ble_eq_true rfl) (ctX2_remember (w := r48.2) w50 z2 (imx r31.2.1 r48.1)) (fun v51 h52 q53 => ?_)
          obtain ⟨r54, e55, rfl, w56⟩ := q53
          refine am_iload dX2_worthOf_175 0 rfl ?_
          exact am_ireturn dX2_worthOf_177 rfl rfl ⟨_, Eq.trans (if_neg c1) (Eq.trans (if_pos c2) (Eq.trans (if_pos c6) (bnd_eq e32 (Eq.trans (if_neg c38) (bnd_eq e49 (bnd_eq e55 (rfl))))))), rfl, w56⟩
      · refine am_iload_n dX2_worthOf_23 0 rfl ?_
        exact am_ireturn dX2_worthOf_24 rfl rfl ⟨_, Eq.trans (if_neg c1) (Eq.trans (if_pos c2) (Eq.trans (if_neg c6) (rfl))), rfl, hw⟩
    · refine am_iconst (v := 0) dX2_worthOf_10 (by decide) ?_
      exact am_ireturn dX2_worthOf_11 rfl rfl ⟨_, Eq.trans (if_neg c1) (Eq.trans (if_neg c2) (rfl)), rfl, hw⟩

def fX2_worthOf : Nat → Wd → Int32 → Int32 → Int32 × Wd
  | 0, w, _, _ => (0, w)
  | n + 1, w, z2, z3 => fX2_worthOf_s (fX2_worthOf n) w z2 z3
set_option maxRecDepth 20000 in
theorem ctX2_worthOf_0 {l : Launch} {G : GM} {K : Nat → Option va_E} {h : List va_E} {w : Wd} (hw : HW G K h w) (z2 : Int32) {z3 : Int32} (p1 : ¬ z3 ≤ 14) : Ct l G mX2_worthOf 0 0 0 [.ref (gz G + 215), .int z2, .int z3] h (fun v h1 => ∃ r, (0, w) = r ∧ v = some (.int r.1) ∧ HW G K h1 r.2) := by
  show Tr l G mX2_worthOf 0 0 0 0 [(0, .ref (gz G + 215)), (1, .int z2), (2, .int z3)] [] h _
  refine am_iload_n dX2_worthOf_0 1 rfl ?_
  refine am_if_eq dX2_worthOf_1 (by decide : ((1 : Nat) : Int) + (9) = ((10 : Nat) : Int)) (fun c1 => ?_) (fun c1 => ?_)
  · refine am_iconst (v := 0) dX2_worthOf_10 (by decide) ?_
    exact am_ireturn dX2_worthOf_11 rfl rfl ⟨_, rfl, rfl, hw⟩
  · refine am_iload_n dX2_worthOf_4 2 rfl ?_
    refine am_bipush (v := 14) dX2_worthOf_5 (by decide) ?_
    refine am_icmp_le dX2_worthOf_7 (by decide : ((7 : Nat) : Int) + (5) = ((12 : Nat) : Int)) (fun q => absurd q p1) (fun _ => ?_)
    refine am_iconst (v := 0) dX2_worthOf_10 (by decide) ?_
    exact am_ireturn dX2_worthOf_11 rfl rfl ⟨_, rfl, rfl, hw⟩

theorem ctX2_worthOf_n {l : Launch} {G : GM} {K : Nat → Option va_E} : ∀ (n : Nat) (z2 z3 : Int32) (hz : 15 ≤ z3.toInt + (n : Int)) {h : List va_E} {w : Wd} (hw : HW G K h w), Ct l G mX2_worthOf (n + 2) 0 0 [.ref (gz G + 215), .int z2, .int z3] h (fun v h1 => ∃ r, fX2_worthOf n w z2 z3 = r ∧ v = some (.int r.1) ∧ HW G K h1 r.2) := by
  intro n
  induction n with
  | zero =>
    intro z2 z3 hz h w hw
    exact am_deep (Nat.zero_le _) (ctX2_worthOf_0 hw z2 (fun q => by have h1 := Int32.le_iff_toInt_le.mp q; have h2 : (14 : Int32).toInt = 14 := rfl; omega))
  | succ n ih =>
    intro z2 z3 hz h w hw
    refine am_deep (d1 := n + 2 + 1) (by omega) (ctX2_worthOf_s (dn := n + 2) (by omega) (fun hz3 a h w hw => ih a (z3 + 1) ?_ hw) hw z2)
    have h1 := Int32.le_iff_toInt_le.mp hz3
    have h2 : (14 : Int32).toInt = 14 := rfl
    have h3 : (1 : Int32).toInt = 1 := rfl
    have h4 := i32_rng z3
    rw [i32_add (by omega) (by omega), h3]
    omega
theorem ctX2_worthOf {l : Launch} {G : GM} {K : Nat → Option va_E} {h : List va_E} {w : Wd} (hw : HW G K h w) (z2 : Int32) : Ct l G mX2_worthOf 17 0 0 [.ref (gz G + 215), .int z2, .int 0] h (fun v h1 => ∃ r, fX2_worthOf 15 w z2 0 = r ∧ v = some (.int r.1) ∧ HW G K h1 r.2) := ctX2_worthOf_n 15 z2 0 (by decide) hw
theorem dX2_lowestPartner_0 : decode cX2_lowestPartner 0 = .ok (.aload_n 0, 1) := by decide +kernel
theorem dX2_lowestPartner_1 : decode cX2_lowestPartner 1 = .ok (.iload_n 1, 1) := by decide +kernel
theorem dX2_lowestPartner_2 : decode cX2_lowestPartner 2 = .ok (.iconst 0, 1) := by decide +kernel
theorem dX2_lowestPartner_3 : decode cX2_lowestPartner 3 = .ok (.invokestatic 26, 3) := by decide +kernel
theorem dX2_lowestPartner_6 : decode cX2_lowestPartner 6 = .ok (.istore_n 3, 1) := by decide +kernel
theorem dX2_lowestPartner_7 : decode cX2_lowestPartner 7 = .ok (.iload_n 1, 1) := by decide +kernel
theorem dX2_lowestPartner_8 : decode cX2_lowestPartner 8 = .ok (.iconst 1, 1) := by decide +kernel
theorem dX2_lowestPartner_9 : decode cX2_lowestPartner 9 = .ok (.iload_n 2, 1) := by decide +kernel
theorem dX2_lowestPartner_10 : decode cX2_lowestPartner 10 = .ok (.ishl, 1) := by decide +kernel
theorem dX2_lowestPartner_11 : decode cX2_lowestPartner 11 = .ok (.iconst (-1), 1) := by decide +kernel
theorem dX2_lowestPartner_12 : decode cX2_lowestPartner 12 = .ok (.ixor, 1) := by decide +kernel
theorem dX2_lowestPartner_13 : decode cX2_lowestPartner 13 = .ok (.iand, 1) := by decide +kernel
theorem dX2_lowestPartner_14 : decode cX2_lowestPartner 14 = .ok (.aload_n 0, 1) := by decide +kernel
theorem dX2_lowestPartner_15 : decode cX2_lowestPartner 15 = .ok (.getfield 9, 3) := by decide +kernel
theorem dX2_lowestPartner_18 : decode cX2_lowestPartner 18 = .ok (.iload_n 2, 1) := by decide +kernel
theorem dX2_lowestPartner_19 : decode cX2_lowestPartner 19 = .ok (.invokestatic 71, 3) := by decide +kernel
theorem dX2_lowestPartner_22 : decode cX2_lowestPartner 22 = .ok (.iand, 1) := by decide +kernel
theorem dX2_lowestPartner_23 : decode cX2_lowestPartner 23 = .ok (.istore 4, 2) := by decide +kernel
theorem dX2_lowestPartner_25 : decode cX2_lowestPartner 25 = .ok (.iload_n 2, 1) := by decide +kernel
theorem dX2_lowestPartner_26 : decode cX2_lowestPartner 26 = .ok (.iconst 1, 1) := by decide +kernel
theorem dX2_lowestPartner_27 : decode cX2_lowestPartner 27 = .ok (.iadd, 1) := by decide +kernel
theorem dX2_lowestPartner_28 : decode cX2_lowestPartner 28 = .ok (.istore 5, 2) := by decide +kernel
theorem dX2_lowestPartner_30 : decode cX2_lowestPartner 30 = .ok (.iload 5, 2) := by decide +kernel
theorem dX2_lowestPartner_32 : decode cX2_lowestPartner 32 = .ok (.bipush 14, 2) := by decide +kernel
theorem dX2_lowestPartner_34 : decode cX2_lowestPartner 34 = .ok (.if_icmp .ge 60, 3) := by decide +kernel
theorem dX2_lowestPartner_37 : decode cX2_lowestPartner 37 = .ok (.iload 4, 2) := by decide +kernel
theorem dX2_lowestPartner_39 : decode cX2_lowestPartner 39 = .ok (.iload 5, 2) := by decide +kernel
theorem dX2_lowestPartner_41 : decode cX2_lowestPartner 41 = .ok (.invokestatic 36, 3) := by decide +kernel
theorem dX2_lowestPartner_44 : decode cX2_lowestPartner 44 = .ok (.ifCond .eq 44, 3) := by decide +kernel
theorem dX2_lowestPartner_47 : decode cX2_lowestPartner 47 = .ok (.iload_n 1, 1) := by decide +kernel
theorem dX2_lowestPartner_48 : decode cX2_lowestPartner 48 = .ok (.iconst 1, 1) := by decide +kernel
theorem dX2_lowestPartner_49 : decode cX2_lowestPartner 49 = .ok (.iload_n 2, 1) := by decide +kernel
theorem dX2_lowestPartner_50 : decode cX2_lowestPartner 50 = .ok (.ishl, 1) := by decide +kernel
theorem dX2_lowestPartner_51 : decode cX2_lowestPartner 51 = .ok (.iconst (-1), 1) := by decide +kernel
theorem dX2_lowestPartner_52 : decode cX2_lowestPartner 52 = .ok (.ixor, 1) := by decide +kernel
theorem dX2_lowestPartner_53 : decode cX2_lowestPartner 53 = .ok (.iand, 1) := by decide +kernel
theorem dX2_lowestPartner_54 : decode cX2_lowestPartner 54 = .ok (.iconst 1, 1) := by decide +kernel
theorem dX2_lowestPartner_55 : decode cX2_lowestPartner 55 = .ok (.iload 5, 2) := by decide +kernel
theorem dX2_lowestPartner_57 : decode cX2_lowestPartner 57 = .ok (.ishl, 1) := by decide +kernel
theorem dX2_lowestPartner_58 : decode cX2_lowestPartner 58 = .ok (.iconst (-1), 1) := by decide +kernel
theorem dX2_lowestPartner_59 : decode cX2_lowestPartner 59 = .ok (.ixor, 1) := by decide +kernel
theorem dX2_lowestPartner_60 : decode cX2_lowestPartner 60 = .ok (.iand, 1) := by decide +kernel
theorem dX2_lowestPartner_61 : decode cX2_lowestPartner 61 = .ok (.istore 6, 2) := by decide +kernel
theorem dX2_lowestPartner_63 : decode cX2_lowestPartner 63 = .ok (.ldc 30, 2) := by decide +kernel
theorem dX2_lowestPartner_65 : decode cX2_lowestPartner 65 = .ok (.aload_n 0, 1) := by decide +kernel
theorem dX2_lowestPartner_66 : decode cX2_lowestPartner 66 = .ok (.iload_n 2, 1) := by decide +kernel
theorem dX2_lowestPartner_67 : decode cX2_lowestPartner 67 = .ok (.iload 5, 2) := by decide +kernel
theorem dX2_lowestPartner_69 : decode cX2_lowestPartner 69 = .ok (.invokevirtual 44, 3) := by decide +kernel
theorem dX2_lowestPartner_72 : decode cX2_lowestPartner 72 = .ok (.isub, 1) := by decide +kernel
theorem dX2_lowestPartner_73 : decode cX2_lowestPartner 73 = .ok (.aload_n 0, 1) := by decide +kernel
theorem dX2_lowestPartner_74 : decode cX2_lowestPartner 74 = .ok (.iload 6, 2) := by decide +kernel
theorem dX2_lowestPartner_76 : decode cX2_lowestPartner 76 = .ok (.iconst 0, 1) := by decide +kernel
theorem dX2_lowestPartner_77 : decode cX2_lowestPartner 77 = .ok (.invokestatic 26, 3) := by decide +kernel
theorem dX2_lowestPartner_80 : decode cX2_lowestPartner 80 = .ok (.iadd, 1) := by decide +kernel
theorem dX2_lowestPartner_81 : decode cX2_lowestPartner 81 = .ok (.iload_n 3, 1) := by decide +kernel
theorem dX2_lowestPartner_82 : decode cX2_lowestPartner 82 = .ok (.if_icmp .ne 6, 3) := by decide +kernel
theorem dX2_lowestPartner_85 : decode cX2_lowestPartner 85 = .ok (.iload 5, 2) := by decide +kernel
theorem dX2_lowestPartner_87 : decode cX2_lowestPartner 87 = .ok (.ireturn, 1) := by decide +kernel
theorem dX2_lowestPartner_88 : decode cX2_lowestPartner 88 = .ok (.iinc 5 1, 3) := by decide +kernel
theorem dX2_lowestPartner_91 : decode cX2_lowestPartner 91 = .ok (.goto (-61), 3) := by decide +kernel
theorem dX2_lowestPartner_94 : decode cX2_lowestPartner 94 = .ok (.iconst (-1), 1) := by decide +kernel
theorem dX2_lowestPartner_95 : decode cX2_lowestPartner 95 = .ok (.ireturn, 1) := by decide +kernel
def fX2_lowestPartner_30 (z1 : Int32) (z2 : Int32) (o4 : Int32) (o3 : Int32) : Nat → Int32 → Wd → Int32 × Wd
  | 0, _, y => (0, y)
  | fu + 1, x5, y => (if 14 ≤ x5 then ((-1), y) else (if (fX6_contains o4 x5) = 0 then (fX2_lowestPartner_30 z1 z2 o4 o3  fu (x5 + 1) y) else (bnd (fX2_worthOf 15 y ((z1 &&& (((1 : Int32) <<< (z2 &&& 31)) ^^^ (-1))) &&& (((1 : Int32) <<< (x5 &&& 31)) ^^^ (-1))) 0) (fun r21 => (if (((100000 : Int32) - (fX2_gapBetween y z2 x5)) + r21.1) = o3 then (x5, r21.2) else (fX2_lowestPartner_30 z1 z2 o4 o3  fu (x5 + 1) r21.2))))))
set_option maxRecDepth 20000 in
theorem wX2_lowestPartner_30 {l : Launch} {G : GM} {K : Nat → Option va_E} (z1 : Int32) (z2 : Int32) (o4 : Int32) (o3 : Int32) : ∀ (fu : Nat) (x5 : Int32) (y : Wd) (iv : ivU 14 x5 fu) {h : List va_E} (gy : HW G K h y), Tr l G mX2_lowestPartner 18 0 0 30 [(5, .int x5), (4, .int o4), (3, .int o3), (0, .ref (gz G + 215)), (1, .int z1), (2, .int z2)] [] h (fun v h1 => ∃ r, (fX2_lowestPartner_30 z1 z2 o4 o3  fu x5 y) = r ∧ v = some (.int r.1) ∧ HW G K h1 r.2) := by
  intro fu
  induction fu with
  | zero => intro x5 y iv; intros; exact absurd iv ivU_0
  | succ fu ih =>
    intro x5 y iv  h gy  
    refine am_iload dX2_lowestPartner_30 0 rfl ?_
    refine am_bipush (v := 14) dX2_lowestPartner_32 (by decide) ?_
    refine am_icmp_ge dX2_lowestPartner_34 (by decide : ((34 : Nat) : Int) + (60) = ((94 : Nat) : Int)) (fun c10 => ?_) (fun c10 => ?_)
    · refine am_iconst (v := (-1)) dX2_lowestPartner_94 (by decide) ?_
      exact am_ireturn dX2_lowestPartner_95 rfl rfl ⟨_, Eq.trans (if_pos c10) (rfl), rfl, gy⟩
    · refine am_iload dX2_lowestPartner_37 1 rfl ?_
      refine am_iload dX2_lowestPartner_39 0 rfl ?_
      refine am_callSN (As := [.int o4, .int x5]) (rest := []) dX2_lowestPartner_41 kMX2_36 rfl  rfl (Nat.le_of_ble_eq_true rfl) (d2 := 0) (by decide) (k2 := 0) (Nat.zero_le _) (u2 := 0) (Nat.zero_le _) (Nat.le_of_ble_eq_true rfl) (ctX6_contains  o4 x5) (fun v11 h12 q13 => ?_)
      obtain ⟨rfl, rfl⟩ := q13
      refine am_if_eq dX2_lowestPartner_44 (by decide : ((44 : Nat) : Int) + (44) = ((88 : Nat) : Int)) (fun c14 => ?_) (fun c14 => ?_)
      · refine am_iinc (v := (x5 + 1)) dX2_lowestPartner_88 0 rfl rfl (by decide) (lv' := [(5, .int (x5 + 1)), (4, .int o4), (3, .int o3), (0, .ref (gz G + 215)), (1, .int z1), (2, .int z2)]) rfl ?_
        refine am_goto dX2_lowestPartner_91 (by decide : ((91 : Nat) : Int) + (-61) = ((30 : Nat) : Int)) ?_
        exact am_post (fun v h1 ⟨r, e, q⟩ => ⟨r, Eq.trans (Eq.trans (if_neg c10) (Eq.trans (if_pos c14) (rfl))) e, q⟩) (ih (x5 + 1) y (ivU_s c10 iv) gy )
      · refine am_iload_n dX2_lowestPartner_47 4 rfl ?_
        refine am_iconst (v := 1) dX2_lowestPartner_48 (by decide) ?_
        refine am_iload_n dX2_lowestPartner_49 5 rfl ?_
        refine am_ishl dX2_lowestPartner_50 ?_
        refine am_iconst (v := (-1)) dX2_lowestPartner_51 (by decide) ?_
        refine am_ixor dX2_lowestPartner_52 ?_
        refine am_iand dX2_lowestPartner_53 ?_
        refine am_iconst (v := 1) dX2_lowestPartner_54 (by decide) ?_
        refine am_iload dX2_lowestPartner_55 0 rfl ?_
        refine am_ishl dX2_lowestPartner_57 ?_
        refine am_iconst (v := (-1)) dX2_lowestPartner_58 (by decide) ?_
        refine am_ixor dX2_lowestPartner_59 ?_
        refine am_iand dX2_lowestPartner_60 ?_
        refine am_istore dX2_lowestPartner_61 (by decide) (lv' := [(6, .int ((z1 &&& (((1 : Int32) <<< (z2 &&& 31)) ^^^ (-1))) &&& (((1 : Int32) <<< (x5 &&& 31)) ^^^ (-1)))), (5, .int x5), (4, .int o4), (3, .int o3), (0, .ref (gz G + 215)), (1, .int z1), (2, .int z2)]) rfl ?_
        refine am_ldc (v := 100000) dX2_lowestPartner_63 kKX2_30 ?_
        refine am_aload_n dX2_lowestPartner_65 4 rfl ?_
        refine am_iload_n dX2_lowestPartner_66 6 rfl ?_
        refine am_iload dX2_lowestPartner_67 1 rfl ?_
        refine am_callV (As := [.int z2, .int x5]) (rest := [.int 100000]) dX2_lowestPartner_69 kMX2_44 rfl (hwc215 (w := y) gy) rfl rfl (Nat.le_of_ble_eq_true rfl) (d2 := 1) (by decide) (k2 := 0) (Nat.zero_le _) (u2 := 0) (Nat.zero_le _) (Nat.le_of_ble_eq_true rfl) (ctX2_gapBetween (w := y) gy z2 x5) (fun v15 h16 q17 => ?_)
        obtain ⟨rfl, rfl⟩ := q17
        refine am_isub dX2_lowestPartner_72 ?_
        refine am_aload_n dX2_lowestPartner_73 4 rfl ?_
        refine am_iload dX2_lowestPartner_74 0 rfl ?_
        refine am_iconst (v := 0) dX2_lowestPartner_76 (by decide) ?_
        refine am_callS (As := [.ref (gz G + 215), .int ((z1 &&& (((1 : Int32) <<< (z2 &&& 31)) ^^^ (-1))) &&& (((1 : Int32) <<< (x5 &&& 31)) ^^^ (-1))), .int 0]) (rest := [.int ((100000 : Int32) - (fX2_gapBetween y z2 x5))]) dX2_lowestPartner_77 kMX2_26 rfl  rfl (Nat.le_of_ble_eq_true rfl) (d2 := 17) (by decide) (k2 := 0) (Nat.zero_le _) (u2 := 0) (Nat.zero_le _) (Nat.le_of_ble_eq_true rfl) (ctX2_worthOf (w := y) gy ((z1 &&& (((1 : Int32) <<< (z2 &&& 31)) ^^^ (-1))) &&& (((1 : Int32) <<< (x5 &&& 31)) ^^^ (-1)))) (fun v18 h19 q20 => ?_)
        obtain ⟨r21, e22, rfl, w23⟩ := q20
        refine am_iadd dX2_lowestPartner_80 ?_
        refine am_iload_n dX2_lowestPartner_81 3 rfl ?_
        refine am_icmp_ne dX2_lowestPartner_82 (by decide : ((82 : Nat) : Int) + (6) = ((88 : Nat) : Int)) (fun c24 => ?_) (fun c24 => ?_)
        · refine am_iinc (v := (x5 + 1)) dX2_lowestPartner_88 1 rfl rfl (by decide) (lv' := [(5, .int (x5 + 1)), (6, .int ((z1 &&& (((1 : Int32) <<< (z2 &&& 31)) ^^^ (-1))) &&& (((1 : Int32) <<< (x5 &&& 31)) ^^^ (-1)))), (4, .int o4), (3, .int o3), (0, .ref (gz G + 215)), (1, .int z1), (2, .int z2)]) rfl ?_
          refine am_goto dX2_lowestPartner_91 (by decide : ((91 : Nat) : Int) + (-61) = ((30 : Nat) : Int)) ?_
          refine am_lv (lv' := [(5, .int (x5 + 1)), (4, .int o4), (3, .int o3), (0, .ref (gz G + 215)), (1, .int z1), (2, .int z2)]) [0, 2, 3, 4, 5, 6] rfl ?_
          exact am_post (fun v h1 ⟨r, e, q⟩ => ⟨r, Eq.trans (Eq.trans (if_neg c10) (Eq.trans (if_neg c14) (bnd_eq e22 (Eq.trans (if_neg c24) (rfl))))) e, q⟩) (ih (x5 + 1) r21.2 (ivU_s c10 iv) w23 )
        · refine am_iload dX2_lowestPartner_85 1 rfl ?_
          exact am_ireturn dX2_lowestPartner_87 rfl rfl ⟨_, Eq.trans (if_neg c10) (Eq.trans (if_neg c14) (bnd_eq e22 (Eq.trans (if_pos c24) (rfl)))), rfl, w23⟩
def fX2_lowestPartner (w : Wd) (z1 : Int32) (z2 : Int32) : Int32 × Wd := (bnd (fX2_worthOf 15 w z1 0) (fun r4 => (fX2_lowestPartner_30 z1 z2 ((z1 &&& (((1 : Int32) <<< (z2 &&& 31)) ^^^ (-1))) &&& (fX6_at 14 (r4.2.2.1 1) z2)) r4.1  (fuU 14 (z2 + 1)) (z2 + 1) r4.2)))
set_option maxRecDepth 20000 in
theorem ctX2_lowestPartner {l : Launch} {G : GM} {K : Nat → Option va_E} {h : List va_E} {w : Wd} (hw : HW G K h w) (z1 : Int32) (z2 : Int32) : Ct l G mX2_lowestPartner 18 0 0 [.ref (gz G + 215), .int z1, .int z2] h (fun v h1 => ∃ r, (fX2_lowestPartner w z1 z2) = r ∧ v = some (.int r.1) ∧ HW G K h1 r.2) := by
  show Tr l G mX2_lowestPartner 18 0 0 0 [(0, .ref (gz G + 215)), (1, .int z1), (2, .int z2)] [] h _
  refine am_aload_n dX2_lowestPartner_0 0 rfl ?_
  refine am_iload_n dX2_lowestPartner_1 1 rfl ?_
  refine am_iconst (v := 0) dX2_lowestPartner_2 (by decide) ?_
  refine am_callS (As := [.ref (gz G + 215), .int z1, .int 0]) (rest := []) dX2_lowestPartner_3 kMX2_26 rfl  rfl (Nat.le_of_ble_eq_true rfl) (d2 := 17) (by decide) (k2 := 0) (Nat.zero_le _) (u2 := 0) (Nat.zero_le _) (Nat.le_of_ble_eq_true rfl) (ctX2_worthOf (w := w) hw z1) (fun v1 h2 q3 => ?_)
  obtain ⟨r4, e5, rfl, w6⟩ := q3
  refine am_istore_n dX2_lowestPartner_6 (by decide) (lv' := [(3, .int r4.1), (0, .ref (gz G + 215)), (1, .int z1), (2, .int z2)]) rfl ?_
  refine am_iload_n dX2_lowestPartner_7 2 rfl ?_
  refine am_iconst (v := 1) dX2_lowestPartner_8 (by decide) ?_
  refine am_iload_n dX2_lowestPartner_9 3 rfl ?_
  refine am_ishl dX2_lowestPartner_10 ?_
  refine am_iconst (v := (-1)) dX2_lowestPartner_11 (by decide) ?_
  refine am_ixor dX2_lowestPartner_12 ?_
  refine am_iand dX2_lowestPartner_13 ?_
  refine am_aload_n dX2_lowestPartner_14 1 rfl ?_
  refine am_get (v := .ref (gz G + 216)) dX2_lowestPartner_15 kGX2_9 (hwc215 (w := r4.2) w6) rfl ?_
  refine am_iload_n dX2_lowestPartner_18 3 rfl ?_
  refine am_callSN (As := [.ref (gz G + 216), .int z2]) (rest := [.int (z1 &&& (((1 : Int32) <<< (z2 &&& 31)) ^^^ (-1)))]) dX2_lowestPartner_19 kMX2_71 rfl  rfl (Nat.le_of_ble_eq_true rfl) (d2 := 0) (by decide) (k2 := 0) (Nat.zero_le _) (u2 := 0) (Nat.zero_le _) (Nat.le_of_ble_eq_true rfl) (ctX6_at (f := (r4.2.2.1 1)) (hwc216 (w := r4.2) w6) (by decide) z2) (fun v7 h8 q9 => ?_)
  obtain ⟨rfl, rfl⟩ := q9
  refine am_iand dX2_lowestPartner_22 ?_
  refine am_istore dX2_lowestPartner_23 (by decide) (lv' := [(4, .int ((z1 &&& (((1 : Int32) <<< (z2 &&& 31)) ^^^ (-1))) &&& (fX6_at 14 (r4.2.2.1 1) z2))), (3, .int r4.1), (0, .ref (gz G + 215)), (1, .int z1), (2, .int z2)]) rfl ?_
  refine am_iload_n dX2_lowestPartner_25 4 rfl ?_
  refine am_iconst (v := 1) dX2_lowestPartner_26 (by decide) ?_
  refine am_iadd dX2_lowestPartner_27 ?_
  refine am_istore dX2_lowestPartner_28 (by decide) (lv' := [(5, .int (z2 + 1)), (4, .int ((z1 &&& (((1 : Int32) <<< (z2 &&& 31)) ^^^ (-1))) &&& (fX6_at 14 (r4.2.2.1 1) z2))), (3, .int r4.1), (0, .ref (gz G + 215)), (1, .int z1), (2, .int z2)]) rfl ?_
  exact am_post (fun v h1 ⟨r, e, q⟩ => ⟨r, Eq.trans (bnd_eq e5 (rfl)) e, q⟩) (wX2_lowestPartner_30 z1 z2 ((z1 &&& (((1 : Int32) <<< (z2 &&& 31)) ^^^ (-1))) &&& (fX6_at 14 (r4.2.2.1 1) z2)) r4.1 (fuU 14 (z2 + 1)) (z2 + 1) r4.2 ivU_i w6 )

theorem dX2_takeMatches_0 : decode cX2_takeMatches 0 = .ok (.aload_n 0, 1) := by decide +kernel
theorem dX2_takeMatches_1 : decode cX2_takeMatches 1 = .ok (.dup, 1) := by decide +kernel
theorem dX2_takeMatches_2 : decode cX2_takeMatches 2 = .ok (.getfield 51, 3) := by decide +kernel
theorem dX2_takeMatches_5 : decode cX2_takeMatches 5 = .ok (.lconst 1, 1) := by decide +kernel
theorem dX2_takeMatches_6 : decode cX2_takeMatches 6 = .ok (.ladd, 1) := by decide +kernel
theorem dX2_takeMatches_7 : decode cX2_takeMatches 7 = .ok (.putfield 51, 3) := by decide +kernel
theorem dX2_takeMatches_10 : decode cX2_takeMatches 10 = .ok (.iconst 0, 1) := by decide +kernel
theorem dX2_takeMatches_11 : decode cX2_takeMatches 11 = .ok (.istore_n 3, 1) := by decide +kernel
theorem dX2_takeMatches_12 : decode cX2_takeMatches 12 = .ok (.iconst 0, 1) := by decide +kernel
theorem dX2_takeMatches_13 : decode cX2_takeMatches 13 = .ok (.istore 4, 2) := by decide +kernel
theorem dX2_takeMatches_15 : decode cX2_takeMatches 15 = .ok (.iload 4, 2) := by decide +kernel
theorem dX2_takeMatches_17 : decode cX2_takeMatches 17 = .ok (.aload_n 1, 1) := by decide +kernel
theorem dX2_takeMatches_18 : decode cX2_takeMatches 18 = .ok (.getfield 55, 3) := by decide +kernel
theorem dX2_takeMatches_21 : decode cX2_takeMatches 21 = .ok (.if_icmp .ge 107, 3) := by decide +kernel
theorem dX2_takeMatches_24 : decode cX2_takeMatches 24 = .ok (.iconst 0, 1) := by decide +kernel
theorem dX2_takeMatches_25 : decode cX2_takeMatches 25 = .ok (.istore 5, 2) := by decide +kernel
theorem dX2_takeMatches_27 : decode cX2_takeMatches 27 = .ok (.iload 4, 2) := by decide +kernel
theorem dX2_takeMatches_29 : decode cX2_takeMatches 29 = .ok (.iconst 1, 1) := by decide +kernel
theorem dX2_takeMatches_30 : decode cX2_takeMatches 30 = .ok (.iadd, 1) := by decide +kernel
theorem dX2_takeMatches_31 : decode cX2_takeMatches 31 = .ok (.istore 6, 2) := by decide +kernel
theorem dX2_takeMatches_33 : decode cX2_takeMatches 33 = .ok (.iload 6, 2) := by decide +kernel
theorem dX2_takeMatches_35 : decode cX2_takeMatches 35 = .ok (.aload_n 1, 1) := by decide +kernel
theorem dX2_takeMatches_36 : decode cX2_takeMatches 36 = .ok (.getfield 55, 3) := by decide +kernel
theorem dX2_takeMatches_39 : decode cX2_takeMatches 39 = .ok (.if_icmp .ge 72, 3) := by decide +kernel
theorem dX2_takeMatches_42 : decode cX2_takeMatches 42 = .ok (.aload_n 1, 1) := by decide +kernel
theorem dX2_takeMatches_43 : decode cX2_takeMatches 43 = .ok (.iload 4, 2) := by decide +kernel
theorem dX2_takeMatches_45 : decode cX2_takeMatches 45 = .ok (.iload 6, 2) := by decide +kernel
theorem dX2_takeMatches_47 : decode cX2_takeMatches 47 = .ok (.invokevirtual 61, 3) := by decide +kernel
theorem dX2_takeMatches_50 : decode cX2_takeMatches 50 = .ok (.ifCond .eq 55, 3) := by decide +kernel
theorem dX2_takeMatches_53 : decode cX2_takeMatches 53 = .ok (.iload 5, 2) := by decide +kernel
theorem dX2_takeMatches_55 : decode cX2_takeMatches 55 = .ok (.iconst 1, 1) := by decide +kernel
theorem dX2_takeMatches_56 : decode cX2_takeMatches 56 = .ok (.iload 6, 2) := by decide +kernel
theorem dX2_takeMatches_58 : decode cX2_takeMatches 58 = .ok (.ishl, 1) := by decide +kernel
theorem dX2_takeMatches_59 : decode cX2_takeMatches 59 = .ok (.ior, 1) := by decide +kernel
theorem dX2_takeMatches_60 : decode cX2_takeMatches 60 = .ok (.istore 5, 2) := by decide +kernel
theorem dX2_takeMatches_62 : decode cX2_takeMatches 62 = .ok (.aload_n 0, 1) := by decide +kernel
theorem dX2_takeMatches_63 : decode cX2_takeMatches 63 = .ok (.getfield 15, 3) := by decide +kernel
theorem dX2_takeMatches_66 : decode cX2_takeMatches 66 = .ok (.iload 4, 2) := by decide +kernel
theorem dX2_takeMatches_68 : decode cX2_takeMatches 68 = .ok (.bipush 14, 2) := by decide +kernel
theorem dX2_takeMatches_70 : decode cX2_takeMatches 70 = .ok (.imul, 1) := by decide +kernel
theorem dX2_takeMatches_71 : decode cX2_takeMatches 71 = .ok (.iload 6, 2) := by decide +kernel
theorem dX2_takeMatches_73 : decode cX2_takeMatches 73 = .ok (.iadd, 1) := by decide +kernel
theorem dX2_takeMatches_74 : decode cX2_takeMatches 74 = .ok (.iload_n 2, 1) := by decide +kernel
theorem dX2_takeMatches_75 : decode cX2_takeMatches 75 = .ok (.ifCond .eq 14, 3) := by decide +kernel
theorem dX2_takeMatches_78 : decode cX2_takeMatches 78 = .ok (.aload_n 1, 1) := by decide +kernel
theorem dX2_takeMatches_79 : decode cX2_takeMatches 79 = .ok (.iload 4, 2) := by decide +kernel
theorem dX2_takeMatches_81 : decode cX2_takeMatches 81 = .ok (.iload 6, 2) := by decide +kernel
theorem dX2_takeMatches_83 : decode cX2_takeMatches 83 = .ok (.invokevirtual 64, 3) := by decide +kernel
theorem dX2_takeMatches_86 : decode cX2_takeMatches 86 = .ok (.goto 4, 3) := by decide +kernel
theorem dX2_takeMatches_89 : decode cX2_takeMatches 89 = .ok (.iconst 0, 1) := by decide +kernel
theorem dX2_takeMatches_90 : decode cX2_takeMatches 90 = .ok (.invokestatic 67, 3) := by decide +kernel
theorem dX2_takeMatches_93 : decode cX2_takeMatches 93 = .ok (.iload_n 3, 1) := by decide +kernel
theorem dX2_takeMatches_94 : decode cX2_takeMatches 94 = .ok (.iconst 1, 1) := by decide +kernel
theorem dX2_takeMatches_95 : decode cX2_takeMatches 95 = .ok (.iload 4, 2) := by decide +kernel
theorem dX2_takeMatches_97 : decode cX2_takeMatches 97 = .ok (.ishl, 1) := by decide +kernel
theorem dX2_takeMatches_98 : decode cX2_takeMatches 98 = .ok (.iconst 1, 1) := by decide +kernel
theorem dX2_takeMatches_99 : decode cX2_takeMatches 99 = .ok (.iload 6, 2) := by decide +kernel
theorem dX2_takeMatches_101 : decode cX2_takeMatches 101 = .ok (.ishl, 1) := by decide +kernel
theorem dX2_takeMatches_102 : decode cX2_takeMatches 102 = .ok (.ior, 1) := by decide +kernel
theorem dX2_takeMatches_103 : decode cX2_takeMatches 103 = .ok (.ior, 1) := by decide +kernel
theorem dX2_takeMatches_104 : decode cX2_takeMatches 104 = .ok (.istore_n 3, 1) := by decide +kernel
theorem dX2_takeMatches_105 : decode cX2_takeMatches 105 = .ok (.iinc 6 1, 3) := by decide +kernel
theorem dX2_takeMatches_108 : decode cX2_takeMatches 108 = .ok (.goto (-75), 3) := by decide +kernel
theorem dX2_takeMatches_111 : decode cX2_takeMatches 111 = .ok (.aload_n 0, 1) := by decide +kernel
theorem dX2_takeMatches_112 : decode cX2_takeMatches 112 = .ok (.getfield 9, 3) := by decide +kernel
theorem dX2_takeMatches_115 : decode cX2_takeMatches 115 = .ok (.iload 4, 2) := by decide +kernel
theorem dX2_takeMatches_117 : decode cX2_takeMatches 117 = .ok (.iload 5, 2) := by decide +kernel
theorem dX2_takeMatches_119 : decode cX2_takeMatches 119 = .ok (.invokestatic 67, 3) := by decide +kernel
theorem dX2_takeMatches_122 : decode cX2_takeMatches 122 = .ok (.iinc 4 1, 3) := by decide +kernel
theorem dX2_takeMatches_125 : decode cX2_takeMatches 125 = .ok (.goto (-110), 3) := by decide +kernel
theorem dX2_takeMatches_128 : decode cX2_takeMatches 128 = .ok (.iload_n 3, 1) := by decide +kernel
theorem dX2_takeMatches_129 : decode cX2_takeMatches 129 = .ok (.ireturn, 1) := by decide +kernel
def fX2_takeMatches_37_33 (z2 : Int32) (o4 : Int32) : Nat → Int32 → Int32 → Int32 → Wd → Int32 × Int32 × Int32 × Wd
  | 0, x6, x5, x3, y => (x6, x5, x3, y)
  | fu + 1, x6, x5, x3, y => (if ((y.2.2.1 2).1 8) ≤ x6 then (x6, x5, x3, y) else (if (fX5_fits (y.2.2.1 2) o4 x6) = 0 then (fX2_takeMatches_37_33 z2 o4  fu (x6 + 1) x5 x3 y) else (if z2 = 0 then (fX2_takeMatches_37_33 z2 o4  fu (x6 + 1) (x5 ||| ((1 : Int32) <<< (x6 &&& 31))) (x3 ||| (((1 : Int32) <<< (o4 &&& 31)) ||| ((1 : Int32) <<< (x6 &&& 31)))) (wA y 2 (fX6_put 196 (y.2.1 2) ((o4 * 14) + x6) 0))) else (fX2_takeMatches_37_33 z2 o4  fu (x6 + 1) (x5 ||| ((1 : Int32) <<< (x6 &&& 31))) (x3 ||| (((1 : Int32) <<< (o4 &&& 31)) ||| ((1 : Int32) <<< (x6 &&& 31)))) (wA y 2 (fX6_put 196 (y.2.1 2) ((o4 * 14) + x6) (fX5_gapOf (y.2.2.1 2) o4 x6)))))))
set_option maxRecDepth 20000 in
theorem wX2_takeMatches_37_33 {l : Launch} {G : GM} {K : Nat → Option va_E} (z2 : Int32) (o4 : Int32) {Q : Option Value → List va_E → Prop} : ∀ (fu : Nat) (x6 x5 x3 : Int32) (y : Wd) (iv : ivU 2147483647 x6 fu) {h : List va_E} (gy : HW G K h y) (kx : ∀ (h1 : List va_E) (r : Int32 × Int32 × Int32 × Wd), (fX2_takeMatches_37_33 z2 o4  fu x6 x5 x3 y) = r → HW G K h1 r.2.2.2 → Tr l G mX2_takeMatches 2 0 0 111 [(6, .int r.1), (5, .int r.2.1), (4, .int o4), (3, .int r.2.2.1), (0, .ref (gz G + 215)), (1, .ref (gz G + 37)), (2, .int z2)] [] h1 Q), Tr l G mX2_takeMatches 2 0 0 33 [(6, .int x6), (5, .int x5), (4, .int o4), (3, .int x3), (0, .ref (gz G + 215)), (1, .ref (gz G + 37)), (2, .int z2)] [] h Q := by
  intro fu
  induction fu with
  | zero => intro x6 x5 x3 y iv; intros; exact absurd iv ivU_0
  | succ fu ih =>
    intro x6 x5 x3 y iv  h gy  kx
    refine am_iload dX2_takeMatches_33 0 rfl ?_
    refine am_aload_n dX2_takeMatches_35 5 rfl ?_
    refine am_get (v := .int ((y.2.2.1 2).1 8)) dX2_takeMatches_36 kGX2_55 (pl_0 (p := (y.2.2.1 2)) (hwP2 (w := y) gy)) rfl ?_
    refine am_icmp_ge dX2_takeMatches_39 (by decide : ((39 : Nat) : Int) + (72) = ((111 : Nat) : Int)) (fun c3 => ?_) (fun c3 => ?_)
    · exact kx _ _ (Eq.trans (if_pos c3) (rfl)) gy 
    · refine am_aload_n dX2_takeMatches_42 5 rfl ?_
      refine am_iload dX2_takeMatches_43 2 rfl ?_
      refine am_iload dX2_takeMatches_45 0 rfl ?_
      refine am_callV (As := [.int o4, .int x6]) (rest := []) dX2_takeMatches_47 kMX2_61 rfl (pl_0 (p := (y.2.2.1 2)) (hwP2 (w := y) gy)) rfl rfl (Nat.le_of_ble_eq_true rfl) (d2 := 1) (by decide) (k2 := 0) (Nat.zero_le _) (u2 := 0) (Nat.zero_le _) (Nat.le_of_ble_eq_true rfl) (ctX5_fits (p := (y.2.2.1 2)) (hwP2 (w := y) gy) o4 x6) (fun v4 h5 q6 => ?_)
      obtain ⟨rfl, rfl⟩ := q6
      refine am_if_eq dX2_takeMatches_50 (by decide : ((50 : Nat) : Int) + (55) = ((105 : Nat) : Int)) (fun c7 => ?_) (fun c7 => ?_)
      · refine am_iinc (v := (x6 + 1)) dX2_takeMatches_105 0 rfl rfl (by decide) (lv' := [(6, .int (x6 + 1)), (5, .int x5), (4, .int o4), (3, .int x3), (0, .ref (gz G + 215)), (1, .ref (gz G + 37)), (2, .int z2)]) rfl ?_
        refine am_goto dX2_takeMatches_108 (by decide : ((108 : Nat) : Int) + (-75) = ((33 : Nat) : Int)) ?_
        exact ih (x6 + 1) x5 x3 y (ivU_s (iv_top c3) iv) gy  (fun h1 r e => kx h1 r (Eq.trans (Eq.trans (if_neg c3) (Eq.trans (if_pos c7) (rfl))) e))
      · refine am_iload dX2_takeMatches_53 1 rfl ?_
        refine am_iconst (v := 1) dX2_takeMatches_55 (by decide) ?_
        refine am_iload dX2_takeMatches_56 0 rfl ?_
        refine am_ishl dX2_takeMatches_58 ?_
        refine am_ior dX2_takeMatches_59 ?_
        refine am_istore dX2_takeMatches_60 (by decide) (lv' := [(5, .int (x5 ||| ((1 : Int32) <<< (x6 &&& 31)))), (6, .int x6), (4, .int o4), (3, .int x3), (0, .ref (gz G + 215)), (1, .ref (gz G + 37)), (2, .int z2)]) rfl ?_
        refine am_aload_n dX2_takeMatches_62 4 rfl ?_
        refine am_get (v := .ref (gz G + 217)) dX2_takeMatches_63 kGX2_15 (hwc215 (w := y) gy) rfl ?_
        refine am_iload dX2_takeMatches_66 2 rfl ?_
        refine am_bipush (v := 14) dX2_takeMatches_68 (by decide) ?_
        refine am_imul dX2_takeMatches_70 ?_
        refine am_iload dX2_takeMatches_71 1 rfl ?_
        refine am_iadd dX2_takeMatches_73 ?_
        refine am_iload_n dX2_takeMatches_74 6 rfl ?_
        refine am_if_eq dX2_takeMatches_75 (by decide : ((75 : Nat) : Int) + (14) = ((89 : Nat) : Int)) (fun c8 => ?_) (fun c8 => ?_)
        · refine am_iconst (v := 0) dX2_takeMatches_89 (by decide) ?_
          refine am_callSN (As := [.ref (gz G + 217), .int ((o4 * 14) + x6), .int 0]) (rest := []) dX2_takeMatches_90 kMX2_67 rfl  rfl (Nat.le_of_ble_eq_true rfl) (d2 := 0) (by decide) (k2 := 0) (Nat.zero_le _) (u2 := 0) (Nat.zero_le _) (Nat.le_of_ble_eq_true rfl) (ctX6_put (f := (y.2.1 2)) (hwc217 (w := y) gy) (by decide) ((o4 * 14) + x6) 0) (fun v9 h10 q11 => ?_)
          obtain ⟨rfl, rfl⟩ := q11
          have w12 := hwA2 gy (fX6_put 196 (y.2.1 2) ((o4 * 14) + x6) 0)
          refine am_iload_n dX2_takeMatches_93 3 rfl ?_
          refine am_iconst (v := 1) dX2_takeMatches_94 (by decide) ?_
          refine am_iload dX2_takeMatches_95 2 rfl ?_
          refine am_ishl dX2_takeMatches_97 ?_
          refine am_iconst (v := 1) dX2_takeMatches_98 (by decide) ?_
          refine am_iload dX2_takeMatches_99 1 rfl ?_
          refine am_ishl dX2_takeMatches_101 ?_
          refine am_ior dX2_takeMatches_102 ?_
          refine am_ior dX2_takeMatches_103 ?_
          refine am_istore_n dX2_takeMatches_104 (by decide) (lv' := [(3, .int (x3 ||| (((1 : Int32) <<< (o4 &&& 31)) ||| ((1 : Int32) <<< (x6 &&& 31))))), (5, .int (x5 ||| ((1 : Int32) <<< (x6 &&& 31)))), (6, .int x6), (4, .int o4), (0, .ref (gz G + 215)), (1, .ref (gz G + 37)), (2, .int z2)]) rfl ?_
          refine am_iinc (v := (x6 + 1)) dX2_takeMatches_105 2 rfl rfl (by decide) (lv' := [(6, .int (x6 + 1)), (3, .int (x3 ||| (((1 : Int32) <<< (o4 &&& 31)) ||| ((1 : Int32) <<< (x6 &&& 31))))), (5, .int (x5 ||| ((1 : Int32) <<< (x6 &&& 31)))), (4, .int o4), (0, .ref (gz G + 215)), (1, .ref (gz G + 37)), (2, .int z2)]) rfl ?_
          refine am_goto dX2_takeMatches_108 (by decide : ((108 : Nat) : Int) + (-75) = ((33 : Nat) : Int)) ?_
          refine am_lv (lv' := [(6, .int (x6 + 1)), (5, .int (x5 ||| ((1 : Int32) <<< (x6 &&& 31)))), (4, .int o4), (3, .int (x3 ||| (((1 : Int32) <<< (o4 &&& 31)) ||| ((1 : Int32) <<< (x6 &&& 31))))), (0, .ref (gz G + 215)), (1, .ref (gz G + 37)), (2, .int z2)]) [0, 2, 3, 1, 4, 5, 6] rfl ?_
          exact ih (x6 + 1) (x5 ||| ((1 : Int32) <<< (x6 &&& 31))) (x3 ||| (((1 : Int32) <<< (o4 &&& 31)) ||| ((1 : Int32) <<< (x6 &&& 31)))) (wA y 2 (fX6_put 196 (y.2.1 2) ((o4 * 14) + x6) 0)) (ivU_s (iv_top c3) iv) w12  (fun h1 r e => kx h1 r (Eq.trans (Eq.trans (if_neg c3) (Eq.trans (if_neg c7) (Eq.trans (if_pos c8) (rfl)))) e))
        · refine am_aload_n dX2_takeMatches_78 5 rfl ?_
          refine am_iload dX2_takeMatches_79 2 rfl ?_
          refine am_iload dX2_takeMatches_81 1 rfl ?_
          refine am_callV (As := [.int o4, .int x6]) (rest := [.int ((o4 * 14) + x6), .ref (gz G + 217)]) dX2_takeMatches_83 kMX2_64 rfl (pl_0 (p := (y.2.2.1 2)) (hwP2 (w := y) gy)) rfl rfl (Nat.le_of_ble_eq_true rfl) (d2 := 1) (by decide) (k2 := 0) (Nat.zero_le _) (u2 := 0) (Nat.zero_le _) (Nat.le_of_ble_eq_true rfl) (ctX5_gapOf (p := (y.2.2.1 2)) (hwP2 (w := y) gy) o4 x6) (fun v13 h14 q15 => ?_)
          obtain ⟨rfl, rfl⟩ := q15
          refine am_goto dX2_takeMatches_86 (by decide : ((86 : Nat) : Int) + (4) = ((90 : Nat) : Int)) ?_
          refine am_callSN (As := [.ref (gz G + 217), .int ((o4 * 14) + x6), .int (fX5_gapOf (y.2.2.1 2) o4 x6)]) (rest := []) dX2_takeMatches_90 kMX2_67 rfl  rfl (Nat.le_of_ble_eq_true rfl) (d2 := 0) (by decide) (k2 := 0) (Nat.zero_le _) (u2 := 0) (Nat.zero_le _) (Nat.le_of_ble_eq_true rfl) (ctX6_put (f := (y.2.1 2)) (hwc217 (w := y) gy) (by decide) ((o4 * 14) + x6) (fX5_gapOf (y.2.2.1 2) o4 x6)) (fun v16 h17 q18 => ?_)
          obtain ⟨rfl, rfl⟩ := q18
          have w19 := hwA2 gy (fX6_put 196 (y.2.1 2) ((o4 * 14) + x6) (fX5_gapOf (y.2.2.1 2) o4 x6))
          refine am_iload_n dX2_takeMatches_93 3 rfl ?_
          refine am_iconst (v := 1) dX2_takeMatches_94 (by decide) ?_
          refine am_iload dX2_takeMatches_95 2 rfl ?_
          refine am_ishl dX2_takeMatches_97 ?_
          refine am_iconst (v := 1) dX2_takeMatches_98 (by decide) ?_
          refine am_iload dX2_takeMatches_99 1 rfl ?_
          refine am_ishl dX2_takeMatches_101 ?_
          refine am_ior dX2_takeMatches_102 ?_
          refine am_ior dX2_takeMatches_103 ?_
          refine am_istore_n dX2_takeMatches_104 (by decide) (lv' := [(3, .int (x3 ||| (((1 : Int32) <<< (o4 &&& 31)) ||| ((1 : Int32) <<< (x6 &&& 31))))), (5, .int (x5 ||| ((1 : Int32) <<< (x6 &&& 31)))), (6, .int x6), (4, .int o4), (0, .ref (gz G + 215)), (1, .ref (gz G + 37)), (2, .int z2)]) rfl ?_
          refine am_iinc (v := (x6 + 1)) dX2_takeMatches_105 2 rfl rfl (by decide) (lv' := [(6, .int (x6 + 1)), (3, .int (x3 ||| (((1 : Int32) <<< (o4 &&& 31)) ||| ((1 : Int32) <<< (x6 &&& 31))))), (5, .int (x5 ||| ((1 : Int32) <<< (x6 &&& 31)))), (4, .int o4), (0, .ref (gz G + 215)), (1, .ref (gz G + 37)), (2, .int z2)]) rfl ?_
          refine am_goto dX2_takeMatches_108 (by decide : ((108 : Nat) : Int) + (-75) = ((33 : Nat) : Int)) ?_
          refine am_lv (lv' := [(6, .int (x6 + 1)), (5, .int (x5 ||| ((1 : Int32) <<< (x6 &&& 31)))), (4, .int o4), (3, .int (x3 ||| (((1 : Int32) <<< (o4 &&& 31)) ||| ((1 : Int32) <<< (x6 &&& 31))))), (0, .ref (gz G + 215)), (1, .ref (gz G + 37)), (2, .int z2)]) [0, 2, 3, 1, 4, 5, 6] rfl ?_
          exact ih (x6 + 1) (x5 ||| ((1 : Int32) <<< (x6 &&& 31))) (x3 ||| (((1 : Int32) <<< (o4 &&& 31)) ||| ((1 : Int32) <<< (x6 &&& 31)))) (wA y 2 (fX6_put 196 (y.2.1 2) ((o4 * 14) + x6) (fX5_gapOf (y.2.2.1 2) o4 x6))) (ivU_s (iv_top c3) iv) w19  (fun h1 r e => kx h1 r (Eq.trans (Eq.trans (if_neg c3) (Eq.trans (if_neg c7) (Eq.trans (if_neg c8) (rfl)))) e))
def fX2_takeMatches_37_15 (z2 : Int32)  : Nat → Int32 → Int32 → Wd → Int32 × Int32 × Wd
  | 0, x4, x3, y => (x4, x3, y)
  | fu + 1, x4, x3, y => (if ((y.2.2.1 2).1 8) ≤ x4 then (x4, x3, y) else (bnd (fX2_takeMatches_37_33 z2 x4  (fuU 2147483647 (x4 + 1)) (x4 + 1) 0 x3 y) (fun r20 => (fX2_takeMatches_37_15 z2   fu (x4 + 1) r20.2.2.1 (wA r20.2.2.2 1 (fX6_put 14 (r20.2.2.2.2.1 1) x4 r20.2.1))))))
set_option maxRecDepth 20000 in
theorem wX2_takeMatches_37_15 {l : Launch} {G : GM} {K : Nat → Option va_E} (z2 : Int32)  {Q : Option Value → List va_E → Prop} : ∀ (fu : Nat) (x4 x3 : Int32) (y : Wd) (iv : ivU 2147483647 x4 fu) {h : List va_E} (gy : HW G K h y) (kx : ∀ (h1 : List va_E) (r : Int32 × Int32 × Wd), (fX2_takeMatches_37_15 z2   fu x4 x3 y) = r → HW G K h1 r.2.2 → Tr l G mX2_takeMatches 2 0 0 128 [(4, .int r.1), (3, .int r.2.1), (0, .ref (gz G + 215)), (1, .ref (gz G + 37)), (2, .int z2)] [] h1 Q), Tr l G mX2_takeMatches 2 0 0 15 [(4, .int x4), (3, .int x3), (0, .ref (gz G + 215)), (1, .ref (gz G + 37)), (2, .int z2)] [] h Q := by
  intro fu
  induction fu with
  | zero => intro x4 x3 y iv; intros; exact absurd iv ivU_0
  | succ fu ih =>
    intro x4 x3 y iv  h gy  kx
    refine am_iload dX2_takeMatches_15 0 rfl ?_
    refine am_aload_n dX2_takeMatches_17 3 rfl ?_
    refine am_get (v := .int ((y.2.2.1 2).1 8)) dX2_takeMatches_18 kGX2_55 (pl_0 (p := (y.2.2.1 2)) (hwP2 (w := y) gy)) rfl ?_
    refine am_icmp_ge dX2_takeMatches_21 (by decide : ((21 : Nat) : Int) + (107) = ((128 : Nat) : Int)) (fun c2 => ?_) (fun c2 => ?_)
    · exact kx _ _ (Eq.trans (if_pos c2) (rfl)) gy 
    · refine am_iconst (v := 0) dX2_takeMatches_24 (by decide) ?_
      refine am_istore dX2_takeMatches_25 (by decide) (lv' := [(5, .int 0), (4, .int x4), (3, .int x3), (0, .ref (gz G + 215)), (1, .ref (gz G + 37)), (2, .int z2)]) rfl ?_
      refine am_iload dX2_takeMatches_27 1 rfl ?_
      refine am_iconst (v := 1) dX2_takeMatches_29 (by decide) ?_
      refine am_iadd dX2_takeMatches_30 ?_
      refine am_istore dX2_takeMatches_31 (by decide) (lv' := [(6, .int (x4 + 1)), (5, .int 0), (4, .int x4), (3, .int x3), (0, .ref (gz G + 215)), (1, .ref (gz G + 37)), (2, .int z2)]) rfl ?_
      refine wX2_takeMatches_37_33 z2 x4 (fuU 2147483647 (x4 + 1)) (x4 + 1) 0 x3 y ivU_i gy  (fun h22 r20 e21 w23  => ?_)
      refine am_aload_n dX2_takeMatches_111 4 rfl ?_
      refine am_get (v := .ref (gz G + 216)) dX2_takeMatches_112 kGX2_9 (hwc215 (w := r20.2.2.2) w23) rfl ?_
      refine am_iload dX2_takeMatches_115 2 rfl ?_
      refine am_iload dX2_takeMatches_117 1 rfl ?_
      refine am_callSN (As := [.ref (gz G + 216), .int x4, .int r20.2.1]) (rest := []) dX2_takeMatches_119 kMX2_67 rfl  rfl (Nat.le_of_ble_eq_true rfl) (d2 := 0) (by decide) (k2 := 0) (Nat.zero_le _) (u2 := 0) (Nat.zero_le _) (Nat.le_of_ble_eq_true rfl) (ctX6_put (f := (r20.2.2.2.2.1 1)) (hwc216 (w := r20.2.2.2) w23) (by decide) x4 r20.2.1) (fun v24 h25 q26 => ?_)
      obtain ⟨rfl, rfl⟩ := q26
      have w27 := hwA1 w23 (fX6_put 14 (r20.2.2.2.2.1 1) x4 r20.2.1)
      refine am_iinc (v := (x4 + 1)) dX2_takeMatches_122 2 rfl rfl (by decide) (lv' := [(4, .int (x4 + 1)), (6, .int r20.1), (5, .int r20.2.1), (3, .int r20.2.2.1), (0, .ref (gz G + 215)), (1, .ref (gz G + 37)), (2, .int z2)]) rfl ?_
      refine am_goto dX2_takeMatches_125 (by decide : ((125 : Nat) : Int) + (-110) = ((15 : Nat) : Int)) ?_
      refine am_lv (lv' := [(4, .int (x4 + 1)), (3, .int r20.2.2.1), (0, .ref (gz G + 215)), (1, .ref (gz G + 37)), (2, .int z2)]) [0, 3, 4, 5, 6] rfl ?_
      exact ih (x4 + 1) r20.2.2.1 (wA r20.2.2.2 1 (fX6_put 14 (r20.2.2.2.2.1 1) x4 r20.2.1)) (ivU_s (iv_top c2) iv) w27  (fun h1 r e => kx h1 r (Eq.trans (Eq.trans (if_neg c2) (bnd_eq e21 (rfl))) e))
def fX2_takeMatches_37 (w : Wd) (z2 : Int32) : Int32 × Wd := (bnd (fX2_takeMatches_37_15 z2   (fuU 2147483647 0) 0 0 (wR w ((w.2.2.2.2.1) + 1))) (fun r28 => (r28.2.1, r28.2.2)))
set_option maxRecDepth 20000 in
theorem ctX2_takeMatches_37 {l : Launch} {G : GM} {K : Nat → Option va_E} {h : List va_E} {w : Wd} (hw : HW G K h w) (z2 : Int32) : Ct l G mX2_takeMatches 2 0 0 [.ref (gz G + 215), .ref (gz G + 37), .int z2] h (fun v h1 => ∃ r, (fX2_takeMatches_37 w z2) = r ∧ v = some (.int r.1) ∧ HW G K h1 r.2) := by
  show Tr l G mX2_takeMatches 2 0 0 0 [(0, .ref (gz G + 215)), (1, .ref (gz G + 37)), (2, .int z2)] [] h _
  refine am_aload_n dX2_takeMatches_0 0 rfl ?_
  refine am_dup dX2_takeMatches_1 rfl ?_
  refine am_get (v := .long (w.2.2.2.2.1)) dX2_takeMatches_2 kGX2_51 (hwc215 (w := w) hw) rfl ?_
  refine am_lconst (v := 1) dX2_takeMatches_5 (by decide) ?_
  refine am_ladd dX2_takeMatches_6 ?_
  refine am_put dX2_takeMatches_7 kFX2_51 (hwc215 (w := w) hw) (Nat.le_of_ble_eq_true rfl) rfl rfl ?_
  have w1 := hwR hw ((w.2.2.2.2.1) + 1)
  refine am_iconst (v := 0) dX2_takeMatches_10 (by decide) ?_
  refine am_istore_n dX2_takeMatches_11 (by decide) (lv' := [(3, .int 0), (0, .ref (gz G + 215)), (1, .ref (gz G + 37)), (2, .int z2)]) rfl ?_
  refine am_iconst (v := 0) dX2_takeMatches_12 (by decide) ?_
  refine am_istore dX2_takeMatches_13 (by decide) (lv' := [(4, .int 0), (3, .int 0), (0, .ref (gz G + 215)), (1, .ref (gz G + 37)), (2, .int z2)]) rfl ?_
  refine wX2_takeMatches_37_15 z2  (fuU 2147483647 0) 0 0 (wR w ((w.2.2.2.2.1) + 1)) ivU_i w1  (fun h30 r28 e29 w31  => ?_)
  refine am_iload_n dX2_takeMatches_128 1 rfl ?_
  exact am_ireturn dX2_takeMatches_129 rfl rfl ⟨_, bnd_eq e29 (rfl), rfl, w31⟩

theorem dX2_mostPairs_0 : decode cX2_mostPairs 0 = .ok (.aload_n 0, 1) := by decide +kernel
theorem dX2_mostPairs_1 : decode cX2_mostPairs 1 = .ok (.aload_n 1, 1) := by decide +kernel
theorem dX2_mostPairs_2 : decode cX2_mostPairs 2 = .ok (.iconst 0, 1) := by decide +kernel
theorem dX2_mostPairs_3 : decode cX2_mostPairs 3 = .ok (.invokevirtual 22, 3) := by decide +kernel
theorem dX2_mostPairs_6 : decode cX2_mostPairs 6 = .ok (.istore_n 2, 1) := by decide +kernel
theorem dX2_mostPairs_7 : decode cX2_mostPairs 7 = .ok (.aload_n 0, 1) := by decide +kernel
theorem dX2_mostPairs_8 : decode cX2_mostPairs 8 = .ok (.iload_n 2, 1) := by decide +kernel
theorem dX2_mostPairs_9 : decode cX2_mostPairs 9 = .ok (.iconst 0, 1) := by decide +kernel
theorem dX2_mostPairs_10 : decode cX2_mostPairs 10 = .ok (.invokestatic 26, 3) := by decide +kernel
theorem dX2_mostPairs_13 : decode cX2_mostPairs 13 = .ok (.ldc 30, 2) := by decide +kernel
theorem dX2_mostPairs_15 : decode cX2_mostPairs 15 = .ok (.idiv, 1) := by decide +kernel
theorem dX2_mostPairs_16 : decode cX2_mostPairs 16 = .ok (.ireturn, 1) := by decide +kernel
def fX2_mostPairs_37 (w : Wd)  : Int32 × Wd := (bnd (fX2_takeMatches_37 w 0) (fun r4 => (bnd (fX2_worthOf 15 r4.2 r4.1 0) (fun r10 => ((r10.1 / 100000), r10.2)))))
set_option maxRecDepth 20000 in
theorem ctX2_mostPairs_37 {l : Launch} {G : GM} {K : Nat → Option va_E} {h : List va_E} {w : Wd} (hw : HW G K h w)  : Ct l G mX2_mostPairs 18 0 0 [.ref (gz G + 215), .ref (gz G + 37)] h (fun v h1 => ∃ r, (fX2_mostPairs_37 w ) = r ∧ v = some (.int r.1) ∧ HW G K h1 r.2) := by
  show Tr l G mX2_mostPairs 18 0 0 0 [(0, .ref (gz G + 215)), (1, .ref (gz G + 37))] [] h _
  refine am_aload_n dX2_mostPairs_0 0 rfl ?_
  refine am_aload_n dX2_mostPairs_1 1 rfl ?_
  refine am_iconst (v := 0) dX2_mostPairs_2 (by decide) ?_
  refine am_callV (As := [.ref (gz G + 37), .int 0]) (rest := []) dX2_mostPairs_3 kMX2_22 rfl (hwc215 (w := w) hw) rfl rfl (Nat.le_of_ble_eq_true rfl) (d2 := 2) (by decide) (k2 := 0) (Nat.zero_le _) (u2 := 0) (Nat.zero_le _) (Nat.le_of_ble_eq_true rfl) (ctX2_takeMatches_37 (w := w) hw 0) (fun v1 h2 q3 => ?_)
  obtain ⟨r4, e5, rfl, w6⟩ := q3
  refine am_istore_n dX2_mostPairs_6 (by decide) (lv' := [(2, .int r4.1), (0, .ref (gz G + 215)), (1, .ref (gz G + 37))]) rfl ?_
  refine am_aload_n dX2_mostPairs_7 1 rfl ?_
  refine am_iload_n dX2_mostPairs_8 0 rfl ?_
  refine am_iconst (v := 0) dX2_mostPairs_9 (by decide) ?_
  refine am_callS (As := [.ref (gz G + 215), .int r4.1, .int 0]) (rest := []) dX2_mostPairs_10 kMX2_26 rfl  rfl (Nat.le_of_ble_eq_true rfl) (d2 := 17) (by decide) (k2 := 0) (Nat.zero_le _) (u2 := 0) (Nat.zero_le _) (Nat.le_of_ble_eq_true rfl) (ctX2_worthOf (w := r4.2) w6 r4.1) (fun v7 h8 q9 => ?_)
  obtain ⟨r10, e11, rfl, w12⟩ := q9
  refine am_ldc (v := 100000) dX2_mostPairs_13 kKX2_30 ?_
  refine am_idiv dX2_mostPairs_15 (by decide) ?_
  exact am_ireturn dX2_mostPairs_16 rfl rfl ⟨_, bnd_eq e5 (bnd_eq e11 (rfl)), rfl, w12⟩

def fX2_takeMatches_21_33 (z2 : Int32) (o4 : Int32) : Nat → Int32 → Int32 → Int32 → Wd → Int32 × Int32 × Int32 × Wd
  | 0, x6, x5, x3, y => (x6, x5, x3, y)
  | fu + 1, x6, x5, x3, y => (if ((y.2.2.1 1).1 8) ≤ x6 then (x6, x5, x3, y) else (if (fX5_fits (y.2.2.1 1) o4 x6) = 0 then (fX2_takeMatches_21_33 z2 o4  fu (x6 + 1) x5 x3 y) else (if z2 = 0 then (fX2_takeMatches_21_33 z2 o4  fu (x6 + 1) (x5 ||| ((1 : Int32) <<< (x6 &&& 31))) (x3 ||| (((1 : Int32) <<< (o4 &&& 31)) ||| ((1 : Int32) <<< (x6 &&& 31)))) (wA y 2 (fX6_put 196 (y.2.1 2) ((o4 * 14) + x6) 0))) else (fX2_takeMatches_21_33 z2 o4  fu (x6 + 1) (x5 ||| ((1 : Int32) <<< (x6 &&& 31))) (x3 ||| (((1 : Int32) <<< (o4 &&& 31)) ||| ((1 : Int32) <<< (x6 &&& 31)))) (wA y 2 (fX6_put 196 (y.2.1 2) ((o4 * 14) + x6) (fX5_gapOf (y.2.2.1 1) o4 x6)))))))
set_option maxRecDepth 20000 in
theorem wX2_takeMatches_21_33 {l : Launch} {G : GM} {K : Nat → Option va_E} (z2 : Int32) (o4 : Int32) {Q : Option Value → List va_E → Prop} : ∀ (fu : Nat) (x6 x5 x3 : Int32) (y : Wd) (iv : ivU 2147483647 x6 fu) {h : List va_E} (gy : HW G K h y) (kx : ∀ (h1 : List va_E) (r : Int32 × Int32 × Int32 × Wd), (fX2_takeMatches_21_33 z2 o4  fu x6 x5 x3 y) = r → HW G K h1 r.2.2.2 → Tr l G mX2_takeMatches 2 0 0 111 [(6, .int r.1), (5, .int r.2.1), (4, .int o4), (3, .int r.2.2.1), (0, .ref (gz G + 215)), (1, .ref (gz G + 21)), (2, .int z2)] [] h1 Q), Tr l G mX2_takeMatches 2 0 0 33 [(6, .int x6), (5, .int x5), (4, .int o4), (3, .int x3), (0, .ref (gz G + 215)), (1, .ref (gz G + 21)), (2, .int z2)] [] h Q := by
  intro fu
  induction fu with
  | zero => intro x6 x5 x3 y iv; intros; exact absurd iv ivU_0
  | succ fu ih =>
    intro x6 x5 x3 y iv  h gy  kx
    refine am_iload dX2_takeMatches_33 0 rfl ?_
    refine am_aload_n dX2_takeMatches_35 5 rfl ?_
    refine am_get (v := .int ((y.2.2.1 1).1 8)) dX2_takeMatches_36 kGX2_55 (pl_0 (p := (y.2.2.1 1)) (hwP1 (w := y) gy)) rfl ?_
    refine am_icmp_ge dX2_takeMatches_39 (by decide : ((39 : Nat) : Int) + (72) = ((111 : Nat) : Int)) (fun c3 => ?_) (fun c3 => ?_)
    · exact kx _ _ (Eq.trans (if_pos c3) (rfl)) gy 
    · refine am_aload_n dX2_takeMatches_42 5 rfl ?_
      refine am_iload dX2_takeMatches_43 2 rfl ?_
      refine am_iload dX2_takeMatches_45 0 rfl ?_
      refine am_callV (As := [.int o4, .int x6]) (rest := []) dX2_takeMatches_47 kMX2_61 rfl (pl_0 (p := (y.2.2.1 1)) (hwP1 (w := y) gy)) rfl rfl (Nat.le_of_ble_eq_true rfl) (d2 := 1) (by decide) (k2 := 0) (Nat.zero_le _) (u2 := 0) (Nat.zero_le _) (Nat.le_of_ble_eq_true rfl) (ctX5_fits (p := (y.2.2.1 1)) (hwP1 (w := y) gy) o4 x6) (fun v4 h5 q6 => ?_)
      obtain ⟨rfl, rfl⟩ := q6
      refine am_if_eq dX2_takeMatches_50 (by decide : ((50 : Nat) : Int) + (55) = ((105 : Nat) : Int)) (fun c7 => ?_) (fun c7 => ?_)
      · refine am_iinc (v := (x6 + 1)) dX2_takeMatches_105 0 rfl rfl (by decide) (lv' := [(6, .int (x6 + 1)), (5, .int x5), (4, .int o4), (3, .int x3), (0, .ref (gz G + 215)), (1, .ref (gz G + 21)), (2, .int z2)]) rfl ?_
        refine am_goto dX2_takeMatches_108 (by decide : ((108 : Nat) : Int) + (-75) = ((33 : Nat) : Int)) ?_
        exact ih (x6 + 1) x5 x3 y (ivU_s (iv_top c3) iv) gy  (fun h1 r e => kx h1 r (Eq.trans (Eq.trans (if_neg c3) (Eq.trans (if_pos c7) (rfl))) e))
      · refine am_iload dX2_takeMatches_53 1 rfl ?_
        refine am_iconst (v := 1) dX2_takeMatches_55 (by decide) ?_
        refine am_iload dX2_takeMatches_56 0 rfl ?_
        refine am_ishl dX2_takeMatches_58 ?_
        refine am_ior dX2_takeMatches_59 ?_
        refine am_istore dX2_takeMatches_60 (by decide) (lv' := [(5, .int (x5 ||| ((1 : Int32) <<< (x6 &&& 31)))), (6, .int x6), (4, .int o4), (3, .int x3), (0, .ref (gz G + 215)), (1, .ref (gz G + 21)), (2, .int z2)]) rfl ?_
        refine am_aload_n dX2_takeMatches_62 4 rfl ?_
        refine am_get (v := .ref (gz G + 217)) dX2_takeMatches_63 kGX2_15 (hwc215 (w := y) gy) rfl ?_
        refine am_iload dX2_takeMatches_66 2 rfl ?_
        refine am_bipush (v := 14) dX2_takeMatches_68 (by decide) ?_
        refine am_imul dX2_takeMatches_70 ?_
        refine am_iload dX2_takeMatches_71 1 rfl ?_
        refine am_iadd dX2_takeMatches_73 ?_
        refine am_iload_n dX2_takeMatches_74 6 rfl ?_
        refine am_if_eq dX2_takeMatches_75 (by decide : ((75 : Nat) : Int) + (14) = ((89 : Nat) : Int)) (fun c8 => ?_) (fun c8 => ?_)
        · refine am_iconst (v := 0) dX2_takeMatches_89 (by decide) ?_
          refine am_callSN (As := [.ref (gz G + 217), .int ((o4 * 14) + x6), .int 0]) (rest := []) dX2_takeMatches_90 kMX2_67 rfl  rfl (Nat.le_of_ble_eq_true rfl) (d2 := 0) (by decide) (k2 := 0) (Nat.zero_le _) (u2 := 0) (Nat.zero_le _) (Nat.le_of_ble_eq_true rfl) (ctX6_put (f := (y.2.1 2)) (hwc217 (w := y) gy) (by decide) ((o4 * 14) + x6) 0) (fun v9 h10 q11 => ?_)
          obtain ⟨rfl, rfl⟩ := q11
          have w12 := hwA2 gy (fX6_put 196 (y.2.1 2) ((o4 * 14) + x6) 0)
          refine am_iload_n dX2_takeMatches_93 3 rfl ?_
          refine am_iconst (v := 1) dX2_takeMatches_94 (by decide) ?_
          refine am_iload dX2_takeMatches_95 2 rfl ?_
          refine am_ishl dX2_takeMatches_97 ?_
          refine am_iconst (v := 1) dX2_takeMatches_98 (by decide) ?_
          refine am_iload dX2_takeMatches_99 1 rfl ?_
          refine am_ishl dX2_takeMatches_101 ?_
          refine am_ior dX2_takeMatches_102 ?_
          refine am_ior dX2_takeMatches_103 ?_
          refine am_istore_n dX2_takeMatches_104 (by decide) (lv' := [(3, .int (x3 ||| (((1 : Int32) <<< (o4 &&& 31)) ||| ((1 : Int32) <<< (x6 &&& 31))))), (5, .int (x5 ||| ((1 : Int32) <<< (x6 &&& 31)))), (6, .int x6), (4, .int o4), (0, .ref (gz G + 215)), (1, .ref (gz G + 21)), (2, .int z2)]) rfl ?_
          refine am_iinc (v := (x6 + 1)) dX2_takeMatches_105 2 rfl rfl (by decide) (lv' := [(6, .int (x6 + 1)), (3, .int (x3 ||| (((1 : Int32) <<< (o4 &&& 31)) ||| ((1 : Int32) <<< (x6 &&& 31))))), (5, .int (x5 ||| ((1 : Int32) <<< (x6 &&& 31)))), (4, .int o4), (0, .ref (gz G + 215)), (1, .ref (gz G + 21)), (2, .int z2)]) rfl ?_
          refine am_goto dX2_takeMatches_108 (by decide : ((108 : Nat) : Int) + (-75) = ((33 : Nat) : Int)) ?_
          refine am_lv (lv' := [(6, .int (x6 + 1)), (5, .int (x5 ||| ((1 : Int32) <<< (x6 &&& 31)))), (4, .int o4), (3, .int (x3 ||| (((1 : Int32) <<< (o4 &&& 31)) ||| ((1 : Int32) <<< (x6 &&& 31))))), (0, .ref (gz G + 215)), (1, .ref (gz G + 21)), (2, .int z2)]) [0, 2, 3, 1, 4, 5, 6] rfl ?_
          exact ih (x6 + 1) (x5 ||| ((1 : Int32) <<< (x6 &&& 31))) (x3 ||| (((1 : Int32) <<< (o4 &&& 31)) ||| ((1 : Int32) <<< (x6 &&& 31)))) (wA y 2 (fX6_put 196 (y.2.1 2) ((o4 * 14) + x6) 0)) (ivU_s (iv_top c3) iv) w12  (fun h1 r e => kx h1 r (Eq.trans (Eq.trans (if_neg c3) (Eq.trans (if_neg c7) (Eq.trans (if_pos c8) (rfl)))) e))
        · refine am_aload_n dX2_takeMatches_78 5 rfl ?_
          refine am_iload dX2_takeMatches_79 2 rfl ?_
          refine am_iload dX2_takeMatches_81 1 rfl ?_
          refine am_callV (As := [.int o4, .int x6]) (rest := [.int ((o4 * 14) + x6), .ref (gz G + 217)]) dX2_takeMatches_83 kMX2_64 rfl (pl_0 (p := (y.2.2.1 1)) (hwP1 (w := y) gy)) rfl rfl (Nat.le_of_ble_eq_true rfl) (d2 := 1) (by decide) (k2 := 0) (Nat.zero_le _) (u2 := 0) (Nat.zero_le _) (Nat.le_of_ble_eq_true rfl) (ctX5_gapOf (p := (y.2.2.1 1)) (hwP1 (w := y) gy) o4 x6) (fun v13 h14 q15 => ?_)
          obtain ⟨rfl, rfl⟩ := q15
          refine am_goto dX2_takeMatches_86 (by decide : ((86 : Nat) : Int) + (4) = ((90 : Nat) : Int)) ?_
          refine am_callSN (As := [.ref (gz G + 217), .int ((o4 * 14) + x6), .int (fX5_gapOf (y.2.2.1 1) o4 x6)]) (rest := []) dX2_takeMatches_90 kMX2_67 rfl  rfl (Nat.le_of_ble_eq_true rfl) (d2 := 0) (by decide) (k2 := 0) (Nat.zero_le _) (u2 := 0) (Nat.zero_le _) (Nat.le_of_ble_eq_true rfl) (ctX6_put (f := (y.2.1 2)) (hwc217 (w := y) gy) (by decide) ((o4 * 14) + x6) (fX5_gapOf (y.2.2.1 1) o4 x6)) (fun v16 h17 q18 => ?_)
          obtain ⟨rfl, rfl⟩ := q18
          have w19 := hwA2 gy (fX6_put 196 (y.2.1 2) ((o4 * 14) + x6) (fX5_gapOf (y.2.2.1 1) o4 x6))
          refine am_iload_n dX2_takeMatches_93 3 rfl ?_
          refine am_iconst (v := 1) dX2_takeMatches_94 (by decide) ?_
          refine am_iload dX2_takeMatches_95 2 rfl ?_
          refine am_ishl dX2_takeMatches_97 ?_
          refine am_iconst (v := 1) dX2_takeMatches_98 (by decide) ?_
          refine am_iload dX2_takeMatches_99 1 rfl ?_
          refine am_ishl dX2_takeMatches_101 ?_
          refine am_ior dX2_takeMatches_102 ?_
          refine am_ior dX2_takeMatches_103 ?_
          refine am_istore_n dX2_takeMatches_104 (by decide) (lv' := [(3, .int (x3 ||| (((1 : Int32) <<< (o4 &&& 31)) ||| ((1 : Int32) <<< (x6 &&& 31))))), (5, .int (x5 ||| ((1 : Int32) <<< (x6 &&& 31)))), (6, .int x6), (4, .int o4), (0, .ref (gz G + 215)), (1, .ref (gz G + 21)), (2, .int z2)]) rfl ?_
          refine am_iinc (v := (x6 + 1)) dX2_takeMatches_105 2 rfl rfl (by decide) (lv' := [(6, .int (x6 + 1)), (3, .int (x3 ||| (((1 : Int32) <<< (o4 &&& 31)) ||| ((1 : Int32) <<< (x6 &&& 31))))), (5, .int (x5 ||| ((1 : Int32) <<< (x6 &&& 31)))), (4, .int o4), (0, .ref (gz G + 215)), (1, .ref (gz G + 21)), (2, .int z2)]) rfl ?_
          refine am_goto dX2_takeMatches_108 (by decide : ((108 : Nat) : Int) + (-75) = ((33 : Nat) : Int)) ?_
          refine am_lv (lv' := [(6, .int (x6 + 1)), (5, .int (x5 ||| ((1 : Int32) <<< (x6 &&& 31)))), (4, .int o4), (3, .int (x3 ||| (((1 : Int32) <<< (o4 &&& 31)) ||| ((1 : Int32) <<< (x6 &&& 31))))), (0, .ref (gz G + 215)), (1, .ref (gz G + 21)), (2, .int z2)]) [0, 2, 3, 1, 4, 5, 6] rfl ?_
          exact ih (x6 + 1) (x5 ||| ((1 : Int32) <<< (x6 &&& 31))) (x3 ||| (((1 : Int32) <<< (o4 &&& 31)) ||| ((1 : Int32) <<< (x6 &&& 31)))) (wA y 2 (fX6_put 196 (y.2.1 2) ((o4 * 14) + x6) (fX5_gapOf (y.2.2.1 1) o4 x6))) (ivU_s (iv_top c3) iv) w19  (fun h1 r e => kx h1 r (Eq.trans (Eq.trans (if_neg c3) (Eq.trans (if_neg c7) (Eq.trans (if_neg c8) (rfl)))) e))
def fX2_takeMatches_21_15 (z2 : Int32)  : Nat → Int32 → Int32 → Wd → Int32 × Int32 × Wd
  | 0, x4, x3, y => (x4, x3, y)
  | fu + 1, x4, x3, y => (if ((y.2.2.1 1).1 8) ≤ x4 then (x4, x3, y) else (bnd (fX2_takeMatches_21_33 z2 x4  (fuU 2147483647 (x4 + 1)) (x4 + 1) 0 x3 y) (fun r20 => (fX2_takeMatches_21_15 z2   fu (x4 + 1) r20.2.2.1 (wA r20.2.2.2 1 (fX6_put 14 (r20.2.2.2.2.1 1) x4 r20.2.1))))))
set_option maxRecDepth 20000 in
theorem wX2_takeMatches_21_15 {l : Launch} {G : GM} {K : Nat → Option va_E} (z2 : Int32)  {Q : Option Value → List va_E → Prop} : ∀ (fu : Nat) (x4 x3 : Int32) (y : Wd) (iv : ivU 2147483647 x4 fu) {h : List va_E} (gy : HW G K h y) (kx : ∀ (h1 : List va_E) (r : Int32 × Int32 × Wd), (fX2_takeMatches_21_15 z2   fu x4 x3 y) = r → HW G K h1 r.2.2 → Tr l G mX2_takeMatches 2 0 0 128 [(4, .int r.1), (3, .int r.2.1), (0, .ref (gz G + 215)), (1, .ref (gz G + 21)), (2, .int z2)] [] h1 Q), Tr l G mX2_takeMatches 2 0 0 15 [(4, .int x4), (3, .int x3), (0, .ref (gz G + 215)), (1, .ref (gz G + 21)), (2, .int z2)] [] h Q := by
  intro fu
  induction fu with
  | zero => intro x4 x3 y iv; intros; exact absurd iv ivU_0
  | succ fu ih =>
    intro x4 x3 y iv  h gy  kx
    refine am_iload dX2_takeMatches_15 0 rfl ?_
    refine am_aload_n dX2_takeMatches_17 3 rfl ?_
    refine am_get (v := .int ((y.2.2.1 1).1 8)) dX2_takeMatches_18 kGX2_55 (pl_0 (p := (y.2.2.1 1)) (hwP1 (w := y) gy)) rfl ?_
    refine am_icmp_ge dX2_takeMatches_21 (by decide : ((21 : Nat) : Int) + (107) = ((128 : Nat) : Int)) (fun c2 => ?_) (fun c2 => ?_)
    · exact kx _ _ (Eq.trans (if_pos c2) (rfl)) gy 
    · refine am_iconst (v := 0) dX2_takeMatches_24 (by decide) ?_
      refine am_istore dX2_takeMatches_25 (by decide) (lv' := [(5, .int 0), (4, .int x4), (3, .int x3), (0, .ref (gz G + 215)), (1, .ref (gz G + 21)), (2, .int z2)]) rfl ?_
      refine am_iload dX2_takeMatches_27 1 rfl ?_
      refine am_iconst (v := 1) dX2_takeMatches_29 (by decide) ?_
      refine am_iadd dX2_takeMatches_30 ?_
      refine am_istore dX2_takeMatches_31 (by decide) (lv' := [(6, .int (x4 + 1)), (5, .int 0), (4, .int x4), (3, .int x3), (0, .ref (gz G + 215)), (1, .ref (gz G + 21)), (2, .int z2)]) rfl ?_
      refine wX2_takeMatches_21_33 z2 x4 (fuU 2147483647 (x4 + 1)) (x4 + 1) 0 x3 y ivU_i gy  (fun h22 r20 e21 w23  => ?_)
      refine am_aload_n dX2_takeMatches_111 4 rfl ?_
      refine am_get (v := .ref (gz G + 216)) dX2_takeMatches_112 kGX2_9 (hwc215 (w := r20.2.2.2) w23) rfl ?_
      refine am_iload dX2_takeMatches_115 2 rfl ?_
      refine am_iload dX2_takeMatches_117 1 rfl ?_
      refine am_callSN (As := [.ref (gz G + 216), .int x4, .int r20.2.1]) (rest := []) dX2_takeMatches_119 kMX2_67 rfl  rfl (Nat.le_of_ble_eq_true rfl) (d2 := 0) (by decide) (k2 := 0) (Nat.zero_le _) (u2 := 0) (Nat.zero_le _) (Nat.le_of_ble_eq_true rfl) (ctX6_put (f := (r20.2.2.2.2.1 1)) (hwc216 (w := r20.2.2.2) w23) (by decide) x4 r20.2.1) (fun v24 h25 q26 => ?_)
      obtain ⟨rfl, rfl⟩ := q26
      have w27 := hwA1 w23 (fX6_put 14 (r20.2.2.2.2.1 1) x4 r20.2.1)
      refine am_iinc (v := (x4 + 1)) dX2_takeMatches_122 2 rfl rfl (by decide) (lv' := [(4, .int (x4 + 1)), (6, .int r20.1), (5, .int r20.2.1), (3, .int r20.2.2.1), (0, .ref (gz G + 215)), (1, .ref (gz G + 21)), (2, .int z2)]) rfl ?_
      refine am_goto dX2_takeMatches_125 (by decide : ((125 : Nat) : Int) + (-110) = ((15 : Nat) : Int)) ?_
      refine am_lv (lv' := [(4, .int (x4 + 1)), (3, .int r20.2.2.1), (0, .ref (gz G + 215)), (1, .ref (gz G + 21)), (2, .int z2)]) [0, 3, 4, 5, 6] rfl ?_
      exact ih (x4 + 1) r20.2.2.1 (wA r20.2.2.2 1 (fX6_put 14 (r20.2.2.2.2.1 1) x4 r20.2.1)) (ivU_s (iv_top c2) iv) w27  (fun h1 r e => kx h1 r (Eq.trans (Eq.trans (if_neg c2) (bnd_eq e21 (rfl))) e))
def fX2_takeMatches_21 (w : Wd) (z2 : Int32) : Int32 × Wd := (bnd (fX2_takeMatches_21_15 z2   (fuU 2147483647 0) 0 0 (wR w ((w.2.2.2.2.1) + 1))) (fun r28 => (r28.2.1, r28.2.2)))
set_option maxRecDepth 20000 in
theorem ctX2_takeMatches_21 {l : Launch} {G : GM} {K : Nat → Option va_E} {h : List va_E} {w : Wd} (hw : HW G K h w) (z2 : Int32) : Ct l G mX2_takeMatches 2 0 0 [.ref (gz G + 215), .ref (gz G + 21), .int z2] h (fun v h1 => ∃ r, (fX2_takeMatches_21 w z2) = r ∧ v = some (.int r.1) ∧ HW G K h1 r.2) := by
  show Tr l G mX2_takeMatches 2 0 0 0 [(0, .ref (gz G + 215)), (1, .ref (gz G + 21)), (2, .int z2)] [] h _
  refine am_aload_n dX2_takeMatches_0 0 rfl ?_
  refine am_dup dX2_takeMatches_1 rfl ?_
  refine am_get (v := .long (w.2.2.2.2.1)) dX2_takeMatches_2 kGX2_51 (hwc215 (w := w) hw) rfl ?_
  refine am_lconst (v := 1) dX2_takeMatches_5 (by decide) ?_
  refine am_ladd dX2_takeMatches_6 ?_
  refine am_put dX2_takeMatches_7 kFX2_51 (hwc215 (w := w) hw) (Nat.le_of_ble_eq_true rfl) rfl rfl ?_
  have w1 := hwR hw ((w.2.2.2.2.1) + 1)
  refine am_iconst (v := 0) dX2_takeMatches_10 (by decide) ?_
  refine am_istore_n dX2_takeMatches_11 (by decide) (lv' := [(3, .int 0), (0, .ref (gz G + 215)), (1, .ref (gz G + 21)), (2, .int z2)]) rfl ?_
  refine am_iconst (v := 0) dX2_takeMatches_12 (by decide) ?_
  refine am_istore dX2_takeMatches_13 (by decide) (lv' := [(4, .int 0), (3, .int 0), (0, .ref (gz G + 215)), (1, .ref (gz G + 21)), (2, .int z2)]) rfl ?_
  refine wX2_takeMatches_21_15 z2  (fuU 2147483647 0) 0 0 (wR w ((w.2.2.2.2.1) + 1)) ivU_i w1  (fun h30 r28 e29 w31  => ?_)
  refine am_iload_n dX2_takeMatches_128 1 rfl ?_
  exact am_ireturn dX2_takeMatches_129 rfl rfl ⟨_, bnd_eq e29 (rfl), rfl, w31⟩

theorem dX2_pairUp_0 : decode cX2_pairUp 0 = .ok (.aload_n 0, 1) := by decide +kernel
theorem dX2_pairUp_1 : decode cX2_pairUp 1 = .ok (.aload_n 1, 1) := by decide +kernel
theorem dX2_pairUp_2 : decode cX2_pairUp 2 = .ok (.iconst 1, 1) := by decide +kernel
theorem dX2_pairUp_3 : decode cX2_pairUp 3 = .ok (.invokevirtual 22, 3) := by decide +kernel
theorem dX2_pairUp_6 : decode cX2_pairUp 6 = .ok (.istore_n 3, 1) := by decide +kernel
theorem dX2_pairUp_7 : decode cX2_pairUp 7 = .ok (.aload_n 2, 1) := by decide +kernel
theorem dX2_pairUp_8 : decode cX2_pairUp 8 = .ok (.invokevirtual 31, 3) := by decide +kernel
theorem dX2_pairUp_11 : decode cX2_pairUp 11 = .ok (.iconst 0, 1) := by decide +kernel
theorem dX2_pairUp_12 : decode cX2_pairUp 12 = .ok (.istore 4, 2) := by decide +kernel
theorem dX2_pairUp_14 : decode cX2_pairUp 14 = .ok (.iload 4, 2) := by decide +kernel
theorem dX2_pairUp_16 : decode cX2_pairUp 16 = .ok (.bipush 14, 2) := by decide +kernel
theorem dX2_pairUp_18 : decode cX2_pairUp 18 = .ok (.if_icmp .ge 67, 3) := by decide +kernel
theorem dX2_pairUp_21 : decode cX2_pairUp 21 = .ok (.iload_n 3, 1) := by decide +kernel
theorem dX2_pairUp_22 : decode cX2_pairUp 22 = .ok (.iload 4, 2) := by decide +kernel
theorem dX2_pairUp_24 : decode cX2_pairUp 24 = .ok (.invokestatic 36, 3) := by decide +kernel
theorem dX2_pairUp_27 : decode cX2_pairUp 27 = .ok (.ifCond .eq 52, 3) := by decide +kernel
theorem dX2_pairUp_30 : decode cX2_pairUp 30 = .ok (.aload_n 0, 1) := by decide +kernel
theorem dX2_pairUp_31 : decode cX2_pairUp 31 = .ok (.iload_n 3, 1) := by decide +kernel
theorem dX2_pairUp_32 : decode cX2_pairUp 32 = .ok (.iload 4, 2) := by decide +kernel
theorem dX2_pairUp_34 : decode cX2_pairUp 34 = .ok (.invokevirtual 40, 3) := by decide +kernel
theorem dX2_pairUp_37 : decode cX2_pairUp 37 = .ok (.istore 5, 2) := by decide +kernel
theorem dX2_pairUp_39 : decode cX2_pairUp 39 = .ok (.iload_n 3, 1) := by decide +kernel
theorem dX2_pairUp_40 : decode cX2_pairUp 40 = .ok (.iconst 1, 1) := by decide +kernel
theorem dX2_pairUp_41 : decode cX2_pairUp 41 = .ok (.iload 4, 2) := by decide +kernel
theorem dX2_pairUp_43 : decode cX2_pairUp 43 = .ok (.ishl, 1) := by decide +kernel
theorem dX2_pairUp_44 : decode cX2_pairUp 44 = .ok (.iconst (-1), 1) := by decide +kernel
theorem dX2_pairUp_45 : decode cX2_pairUp 45 = .ok (.ixor, 1) := by decide +kernel
theorem dX2_pairUp_46 : decode cX2_pairUp 46 = .ok (.iand, 1) := by decide +kernel
theorem dX2_pairUp_47 : decode cX2_pairUp 47 = .ok (.istore_n 3, 1) := by decide +kernel
theorem dX2_pairUp_48 : decode cX2_pairUp 48 = .ok (.iload 5, 2) := by decide +kernel
theorem dX2_pairUp_50 : decode cX2_pairUp 50 = .ok (.iconst (-1), 1) := by decide +kernel
theorem dX2_pairUp_51 : decode cX2_pairUp 51 = .ok (.if_icmp .eq 28, 3) := by decide +kernel
theorem dX2_pairUp_54 : decode cX2_pairUp 54 = .ok (.iload_n 3, 1) := by decide +kernel
theorem dX2_pairUp_55 : decode cX2_pairUp 55 = .ok (.iconst 1, 1) := by decide +kernel
theorem dX2_pairUp_56 : decode cX2_pairUp 56 = .ok (.iload 5, 2) := by decide +kernel
theorem dX2_pairUp_58 : decode cX2_pairUp 58 = .ok (.ishl, 1) := by decide +kernel
theorem dX2_pairUp_59 : decode cX2_pairUp 59 = .ok (.iconst (-1), 1) := by decide +kernel
theorem dX2_pairUp_60 : decode cX2_pairUp 60 = .ok (.ixor, 1) := by decide +kernel
theorem dX2_pairUp_61 : decode cX2_pairUp 61 = .ok (.iand, 1) := by decide +kernel
theorem dX2_pairUp_62 : decode cX2_pairUp 62 = .ok (.istore_n 3, 1) := by decide +kernel
theorem dX2_pairUp_63 : decode cX2_pairUp 63 = .ok (.aload_n 2, 1) := by decide +kernel
theorem dX2_pairUp_64 : decode cX2_pairUp 64 = .ok (.iload 4, 2) := by decide +kernel
theorem dX2_pairUp_66 : decode cX2_pairUp 66 = .ok (.iload 5, 2) := by decide +kernel
theorem dX2_pairUp_68 : decode cX2_pairUp 68 = .ok (.aload_n 0, 1) := by decide +kernel
theorem dX2_pairUp_69 : decode cX2_pairUp 69 = .ok (.iload 4, 2) := by decide +kernel
theorem dX2_pairUp_71 : decode cX2_pairUp 71 = .ok (.iload 5, 2) := by decide +kernel
theorem dX2_pairUp_73 : decode cX2_pairUp 73 = .ok (.invokevirtual 44, 3) := by decide +kernel
theorem dX2_pairUp_76 : decode cX2_pairUp 76 = .ok (.invokevirtual 47, 3) := by decide +kernel
theorem dX2_pairUp_79 : decode cX2_pairUp 79 = .ok (.iinc 4 1, 3) := by decide +kernel
theorem dX2_pairUp_82 : decode cX2_pairUp 82 = .ok (.goto (-68), 3) := by decide +kernel
theorem dX2_pairUp_85 : decode cX2_pairUp 85 = .ok (.return_, 1) := by decide +kernel
def fX2_pairUp_21_219_14   : Nat → Int32 → Int32 → Wd → Int32 × Int32 × Wd
  | 0, x4, x3, y => (x4, x3, y)
  | fu + 1, x4, x3, y => (if 14 ≤ x4 then (x4, x3, y) else (if (fX6_contains x3 x4) = 0 then (fX2_pairUp_21_219_14    fu (x4 + 1) x3 y) else (bnd (fX2_lowestPartner y x3 x4) (fun r21 => (if r21.1 = (-1) then (fX2_pairUp_21_219_14    fu (x4 + 1) (x3 &&& (((1 : Int32) <<< (x4 &&& 31)) ^^^ (-1))) r21.2) else (bnd (fX3_join r21.2 x4 r21.1 (fX2_gapBetween r21.2 x4 r21.1)) (fun r31 => (fX2_pairUp_21_219_14    fu (x4 + 1) ((x3 &&& (((1 : Int32) <<< (x4 &&& 31)) ^^^ (-1))) &&& (((1 : Int32) <<< (r21.1 &&& 31)) ^^^ (-1))) r31))))))))
set_option maxRecDepth 20000 in
theorem wX2_pairUp_21_219_14 {l : Launch} {G : GM} {K : Nat → Option va_E}   {Q : Option Value → List va_E → Prop} : ∀ (fu : Nat) (x4 x3 : Int32) (y : Wd) (iv : ivU 14 x4 fu) {h : List va_E} (gy : HW G K h y) (kx : ∀ (h1 : List va_E) (r : Int32 × Int32 × Wd), (fX2_pairUp_21_219_14    fu x4 x3 y) = r → HW G K h1 r.2.2 → Tr l G mX2_pairUp 19 0 0 85 [(4, .int r.1), (3, .int r.2.1), (0, .ref (gz G + 215)), (2, .ref (gz G + 219))] [] h1 Q), Tr l G mX2_pairUp 19 0 0 14 [(4, .int x4), (3, .int x3), (0, .ref (gz G + 215)), (2, .ref (gz G + 219))] [] h Q := by
  intro fu
  induction fu with
  | zero => intro x4 x3 y iv; intros; exact absurd iv ivU_0
  | succ fu ih =>
    intro x4 x3 y iv  h gy  kx
    refine am_iload dX2_pairUp_14 0 rfl ?_
    refine am_bipush (v := 14) dX2_pairUp_16 (by decide) ?_
    refine am_icmp_ge dX2_pairUp_18 (by decide : ((18 : Nat) : Int) + (67) = ((85 : Nat) : Int)) (fun c13 => ?_) (fun c13 => ?_)
    · exact kx _ _ (Eq.trans (if_pos c13) (rfl)) gy 
    · refine am_iload_n dX2_pairUp_21 1 rfl ?_
      refine am_iload dX2_pairUp_22 0 rfl ?_
      refine am_callSN (As := [.int x3, .int x4]) (rest := []) dX2_pairUp_24 kMX2_36 rfl  rfl (Nat.le_of_ble_eq_true rfl) (d2 := 0) (by decide) (k2 := 0) (Nat.zero_le _) (u2 := 0) (Nat.zero_le _) (Nat.le_of_ble_eq_true rfl) (ctX6_contains  x3 x4) (fun v14 h15 q16 => ?_)
      obtain ⟨rfl, rfl⟩ := q16
      refine am_if_eq dX2_pairUp_27 (by decide : ((27 : Nat) : Int) + (52) = ((79 : Nat) : Int)) (fun c17 => ?_) (fun c17 => ?_)
      · refine am_iinc (v := (x4 + 1)) dX2_pairUp_79 0 rfl rfl (by decide) (lv' := [(4, .int (x4 + 1)), (3, .int x3), (0, .ref (gz G + 215)), (2, .ref (gz G + 219))]) rfl ?_
        refine am_goto dX2_pairUp_82 (by decide : ((82 : Nat) : Int) + (-68) = ((14 : Nat) : Int)) ?_
        exact ih (x4 + 1) x3 y (ivU_s c13 iv) gy  (fun h1 r e => kx h1 r (Eq.trans (Eq.trans (if_neg c13) (Eq.trans (if_pos c17) (rfl))) e))
      · refine am_aload_n dX2_pairUp_30 2 rfl ?_
        refine am_iload_n dX2_pairUp_31 1 rfl ?_
        refine am_iload dX2_pairUp_32 0 rfl ?_
        refine am_callV (As := [.int x3, .int x4]) (rest := []) dX2_pairUp_34 kMX2_40 rfl (hwc215 (w := y) gy) rfl rfl (Nat.le_of_ble_eq_true rfl) (d2 := 18) (by decide) (k2 := 0) (Nat.zero_le _) (u2 := 0) (Nat.zero_le _) (Nat.le_of_ble_eq_true rfl) (ctX2_lowestPartner (w := y) gy x3 x4) (fun v18 h19 q20 => ?_)
        obtain ⟨r21, e22, rfl, w23⟩ := q20
        refine am_istore dX2_pairUp_37 (by decide) (lv' := [(5, .int r21.1), (4, .int x4), (3, .int x3), (0, .ref (gz G + 215)), (2, .ref (gz G + 219))]) rfl ?_
        refine am_iload_n dX2_pairUp_39 2 rfl ?_
        refine am_iconst (v := 1) dX2_pairUp_40 (by decide) ?_
        refine am_iload dX2_pairUp_41 1 rfl ?_
        refine am_ishl dX2_pairUp_43 ?_
        refine am_iconst (v := (-1)) dX2_pairUp_44 (by decide) ?_
        refine am_ixor dX2_pairUp_45 ?_
        refine am_iand dX2_pairUp_46 ?_
        refine am_istore_n dX2_pairUp_47 (by decide) (lv' := [(3, .int (x3 &&& (((1 : Int32) <<< (x4 &&& 31)) ^^^ (-1)))), (5, .int r21.1), (4, .int x4), (0, .ref (gz G + 215)), (2, .ref (gz G + 219))]) rfl ?_
        refine am_iload dX2_pairUp_48 1 rfl ?_
        refine am_iconst (v := (-1)) dX2_pairUp_50 (by decide) ?_
        refine am_icmp_eq dX2_pairUp_51 (by decide : ((51 : Nat) : Int) + (28) = ((79 : Nat) : Int)) (fun c24 => ?_) (fun c24 => ?_)
        · refine am_iinc (v := (x4 + 1)) dX2_pairUp_79 2 rfl rfl (by decide) (lv' := [(4, .int (x4 + 1)), (3, .int (x3 &&& (((1 : Int32) <<< (x4 &&& 31)) ^^^ (-1)))), (5, .int r21.1), (0, .ref (gz G + 215)), (2, .ref (gz G + 219))]) rfl ?_
          refine am_goto dX2_pairUp_82 (by decide : ((82 : Nat) : Int) + (-68) = ((14 : Nat) : Int)) ?_
          refine am_lv (lv' := [(4, .int (x4 + 1)), (3, .int (x3 &&& (((1 : Int32) <<< (x4 &&& 31)) ^^^ (-1)))), (0, .ref (gz G + 215)), (2, .ref (gz G + 219))]) [0, 1, 3, 4] rfl ?_
          exact ih (x4 + 1) (x3 &&& (((1 : Int32) <<< (x4 &&& 31)) ^^^ (-1))) r21.2 (ivU_s c13 iv) w23  (fun h1 r e => kx h1 r (Eq.trans (Eq.trans (if_neg c13) (Eq.trans (if_neg c17) (bnd_eq e22 (Eq.trans (if_pos c24) (rfl))))) e))
        · refine am_iload_n dX2_pairUp_54 0 rfl ?_
          refine am_iconst (v := 1) dX2_pairUp_55 (by decide) ?_
          refine am_iload dX2_pairUp_56 1 rfl ?_
          refine am_ishl dX2_pairUp_58 ?_
          refine am_iconst (v := (-1)) dX2_pairUp_59 (by decide) ?_
          refine am_ixor dX2_pairUp_60 ?_
          refine am_iand dX2_pairUp_61 ?_
          refine am_istore_n dX2_pairUp_62 (by decide) (lv' := [(3, .int ((x3 &&& (((1 : Int32) <<< (x4 &&& 31)) ^^^ (-1))) &&& (((1 : Int32) <<< (r21.1 &&& 31)) ^^^ (-1)))), (5, .int r21.1), (4, .int x4), (0, .ref (gz G + 215)), (2, .ref (gz G + 219))]) rfl ?_
          refine am_aload_n dX2_pairUp_63 4 rfl ?_
          refine am_iload dX2_pairUp_64 2 rfl ?_
          refine am_iload dX2_pairUp_66 1 rfl ?_
          refine am_aload_n dX2_pairUp_68 3 rfl ?_
          refine am_iload dX2_pairUp_69 2 rfl ?_
          refine am_iload dX2_pairUp_71 1 rfl ?_
          refine am_callV (As := [.int x4, .int r21.1]) (rest := [.int r21.1, .int x4, .ref (gz G + 219)]) dX2_pairUp_73 kMX2_44 rfl (hwc215 (w := r21.2) w23) rfl rfl (Nat.le_of_ble_eq_true rfl) (d2 := 1) (by decide) (k2 := 0) (Nat.zero_le _) (u2 := 0) (Nat.zero_le _) (Nat.le_of_ble_eq_true rfl) (ctX2_gapBetween (w := r21.2) w23 x4 r21.1) (fun v25 h26 q27 => ?_)
          obtain ⟨rfl, rfl⟩ := q27
          refine am_callV (As := [.int x4, .int r21.1, .int (fX2_gapBetween r21.2 x4 r21.1)]) (rest := []) dX2_pairUp_76 kMX2_47 rfl (hwc219 (w := r21.2) w23) rfl rfl (Nat.le_of_ble_eq_true rfl) (d2 := 1) (by decide) (k2 := 0) (Nat.zero_le _) (u2 := 0) (Nat.zero_le _) (Nat.le_of_ble_eq_true rfl) (ctX3_join (w := r21.2) w23 x4 r21.1 (fX2_gapBetween r21.2 x4 r21.1)) (fun v28 h29 q30 => ?_)
          obtain ⟨r31, e32, rfl, w33⟩ := q30
          refine am_iinc (v := (x4 + 1)) dX2_pairUp_79 2 rfl rfl (by decide) (lv' := [(4, .int (x4 + 1)), (3, .int ((x3 &&& (((1 : Int32) <<< (x4 &&& 31)) ^^^ (-1))) &&& (((1 : Int32) <<< (r21.1 &&& 31)) ^^^ (-1)))), (5, .int r21.1), (0, .ref (gz G + 215)), (2, .ref (gz G + 219))]) rfl ?_
          refine am_goto dX2_pairUp_82 (by decide : ((82 : Nat) : Int) + (-68) = ((14 : Nat) : Int)) ?_
          refine am_lv (lv' := [(4, .int (x4 + 1)), (3, .int ((x3 &&& (((1 : Int32) <<< (x4 &&& 31)) ^^^ (-1))) &&& (((1 : Int32) <<< (r21.1 &&& 31)) ^^^ (-1)))), (0, .ref (gz G + 215)), (2, .ref (gz G + 219))]) [0, 1, 3, 4] rfl ?_
          exact ih (x4 + 1) ((x3 &&& (((1 : Int32) <<< (x4 &&& 31)) ^^^ (-1))) &&& (((1 : Int32) <<< (r21.1 &&& 31)) ^^^ (-1))) r31 (ivU_s c13 iv) w33  (fun h1 r e => kx h1 r (Eq.trans (Eq.trans (if_neg c13) (Eq.trans (if_neg c17) (bnd_eq e22 (Eq.trans (if_neg c24) (bnd_eq e32 (rfl)))))) e))
def fX2_pairUp_21_219 (w : Wd)  : Wd := (bnd (fX2_takeMatches_21 w 1) (fun r4 => (bnd (fX3_dissolve r4.2 ) (fun r10 => (bnd (fX2_pairUp_21_219_14    (fuU 14 0) 0 r4.1 r10) (fun r34 => r34.2.2))))))
set_option maxRecDepth 20000 in
theorem ctX2_pairUp_21_219 {l : Launch} {G : GM} {K : Nat → Option va_E} {h : List va_E} {w : Wd} (hw : HW G K h w)  : Ct l G mX2_pairUp 19 0 0 [.ref (gz G + 215), .ref (gz G + 21), .ref (gz G + 219)] h (fun v h1 => ∃ r, (fX2_pairUp_21_219 w ) = r ∧ v = none ∧ HW G K h1 r) := by
  show Tr l G mX2_pairUp 19 0 0 0 [(0, .ref (gz G + 215)), (1, .ref (gz G + 21)), (2, .ref (gz G + 219))] [] h _
  refine am_aload_n dX2_pairUp_0 0 rfl ?_
  refine am_aload_n dX2_pairUp_1 1 rfl ?_
  refine am_iconst (v := 1) dX2_pairUp_2 (by decide) ?_
  refine am_callV (As := [.ref (gz G + 21), .int 1]) (rest := []) dX2_pairUp_3 kMX2_22 rfl (hwc215 (w := w) hw) rfl rfl (Nat.le_of_ble_eq_true rfl) (d2 := 2) (by decide) (k2 := 0) (Nat.zero_le _) (u2 := 0) (Nat.zero_le _) (Nat.le_of_ble_eq_true rfl) (ctX2_takeMatches_21 (w := w) hw 1) (fun v1 h2 q3 => ?_)
  obtain ⟨r4, e5, rfl, w6⟩ := q3
  refine am_istore_n dX2_pairUp_6 (by decide) (lv' := [(3, .int r4.1), (0, .ref (gz G + 215)), (1, .ref (gz G + 21)), (2, .ref (gz G + 219))]) rfl ?_
  refine am_aload_n dX2_pairUp_7 3 rfl ?_
  refine am_callV (As := []) (rest := []) dX2_pairUp_8 kMX2_31 rfl (hwc219 (w := r4.2) w6) rfl rfl (Nat.le_of_ble_eq_true rfl) (d2 := 1) (by decide) (k2 := 0) (Nat.zero_le _) (u2 := 0) (Nat.zero_le _) (Nat.le_of_ble_eq_true rfl) (ctX3_dissolve (w := r4.2) w6 ) (fun v7 h8 q9 => ?_)
  obtain ⟨r10, e11, rfl, w12⟩ := q9
  refine am_iconst (v := 0) dX2_pairUp_11 (by decide) ?_
  refine am_istore dX2_pairUp_12 (by decide) (lv' := [(4, .int 0), (3, .int r4.1), (0, .ref (gz G + 215)), (1, .ref (gz G + 21)), (2, .ref (gz G + 219))]) rfl ?_
  refine am_lv (lv' := [(4, .int 0), (3, .int r4.1), (0, .ref (gz G + 215)), (2, .ref (gz G + 219))]) [0, 1, 2, 4] rfl ?_
  refine wX2_pairUp_21_219_14   (fuU 14 0) 0 r4.1 r10 ivU_i w12  (fun h36 r34 e35 w37  => ?_)
  exact am_return dX2_pairUp_85 rfl ⟨_, bnd_eq e5 (bnd_eq e11 (bnd_eq e35 (rfl))), rfl, w37⟩
