/-! The class's methods. -/
theorem bt_ok {z a b : Int32} (h : ¬ fX6_isBetween z a b = 0) : a ≤ z ∧ z ≤ b := by
  unfold fX6_isBetween at h
  by_cases c1 : z < a
  · rw [if_pos c1] at h; exact absurd rfl h
  · rw [if_neg c1] at h
    by_cases c2 : b < z
    · rw [if_pos c2] at h; exact absurd rfl h
    · exact ⟨Int32.not_lt.mp c1, Int32.not_lt.mp c2⟩
theorem bt_lt {z : Int32} (h : ¬ fX6_isBetween z 0 60 = 0) : z.toInt < 2147483647 := by
  have h1 := Int32.le_iff_toInt_le.mp (bt_ok h).2
  have h2 : (60 : Int32).toInt = 60 := rfl
  omega
theorem dX6_appendBytes_0 : decode cX6_appendBytes 0 = .ok (.bipush 24, 2) := by decide +kernel
theorem dX6_appendBytes_2 : decode cX6_appendBytes 2 = .ok (.istore_n 2, 1) := by decide +kernel
theorem dX6_appendBytes_3 : decode cX6_appendBytes 3 = .ok (.iload_n 2, 1) := by decide +kernel
theorem dX6_appendBytes_4 : decode cX6_appendBytes 4 = .ok (.ifCond .lt 37, 3) := by decide +kernel
theorem dX6_appendBytes_7 : decode cX6_appendBytes 7 = .ok (.aload_n 0, 1) := by decide +kernel
theorem dX6_appendBytes_8 : decode cX6_appendBytes 8 = .ok (.getfield 20, 3) := by decide +kernel
theorem dX6_appendBytes_11 : decode cX6_appendBytes 11 = .ok (.aload_n 0, 1) := by decide +kernel
theorem dX6_appendBytes_12 : decode cX6_appendBytes 12 = .ok (.getfield 61, 3) := by decide +kernel
theorem dX6_appendBytes_15 : decode cX6_appendBytes 15 = .ok (.iload_n 1, 1) := by decide +kernel
theorem dX6_appendBytes_16 : decode cX6_appendBytes 16 = .ok (.iload_n 2, 1) := by decide +kernel
theorem dX6_appendBytes_17 : decode cX6_appendBytes 17 = .ok (.iushr, 1) := by decide +kernel
theorem dX6_appendBytes_18 : decode cX6_appendBytes 18 = .ok (.sipush 255, 3) := by decide +kernel
theorem dX6_appendBytes_21 : decode cX6_appendBytes 21 = .ok (.iand, 1) := by decide +kernel
theorem dX6_appendBytes_22 : decode cX6_appendBytes 22 = .ok (.invokestatic 220, 3) := by decide +kernel
theorem dX6_appendBytes_25 : decode cX6_appendBytes 25 = .ok (.aload_n 0, 1) := by decide +kernel
theorem dX6_appendBytes_26 : decode cX6_appendBytes 26 = .ok (.dup, 1) := by decide +kernel
theorem dX6_appendBytes_27 : decode cX6_appendBytes 27 = .ok (.getfield 61, 3) := by decide +kernel
theorem dX6_appendBytes_30 : decode cX6_appendBytes 30 = .ok (.iconst 1, 1) := by decide +kernel
theorem dX6_appendBytes_31 : decode cX6_appendBytes 31 = .ok (.iadd, 1) := by decide +kernel
theorem dX6_appendBytes_32 : decode cX6_appendBytes 32 = .ok (.putfield 61, 3) := by decide +kernel
theorem dX6_appendBytes_35 : decode cX6_appendBytes 35 = .ok (.iinc 2 (-8), 3) := by decide +kernel
theorem dX6_appendBytes_38 : decode cX6_appendBytes 38 = .ok (.goto (-35), 3) := by decide +kernel
theorem dX6_appendBytes_41 : decode cX6_appendBytes 41 = .ok (.return_, 1) := by decide +kernel
def fX6_appendBytes_3 (z1 : Int32)  : Nat → Int32 → Wd → Int32 × Wd
  | 0, x2, y => (x2, y)
  | fu + 1, x2, y => (if x2 < 0 then (x2, y) else (fX6_appendBytes_3 z1   fu (x2 + (-8)) (wS (wA y 0 (fX6_put 1200 (y.2.1 0) (y.1 0) ((iushr z1 x2) &&& 255))) 0 ((y.1 0) + 1))))
set_option maxRecDepth 20000 in
theorem wX6_appendBytes_3 {l : Launch} {G : GM} {K : Nat → Option va_E} (z1 : Int32)   {Q : Option Value → List va_E → Prop} : ∀ (fu : Nat) (x2 : Int32) (y : Wd) (iv : ivD x2 fu) {h : List va_E} (gy : HW G K h y) (kx : ∀ (h1 : List va_E) (r : Int32 × Wd), (fX6_appendBytes_3 z1   fu x2 y) = r → HW G K h1 r.2 → Tr l G mX6_appendBytes 1 0 0 41 [(2, .int r.1), (0, .ref (gz G + 0)), (1, .int z1)] [] h1 Q), Tr l G mX6_appendBytes 1 0 0 3 [(2, .int x2), (0, .ref (gz G + 0)), (1, .int z1)] [] h Q := by
  intro fu
  induction fu with
  | zero => intro x2 y iv; intros; exact absurd iv ivD_0
  | succ fu ih =>
    intro x2 y iv   h gy  kx
    refine am_iload_n dX6_appendBytes_3 0 rfl ?_
    refine am_if_lt dX6_appendBytes_4 (by decide : ((4 : Nat) : Int) + (37) = ((41 : Nat) : Int)) (fun c1 => ?_) (fun c1 => ?_)
    · exact kx _ _ (Eq.trans (if_pos c1) (rfl)) gy 
    · refine am_aload_n dX6_appendBytes_7 1 rfl ?_
      refine am_get (v := .ref (gz G + 2)) dX6_appendBytes_8 kGX6_20 (hwc0 (w := y) gy) rfl ?_
      refine am_aload_n dX6_appendBytes_11 1 rfl ?_
      refine am_get (v := .int (y.1 0)) dX6_appendBytes_12 kGX6_61 (hwc0 (w := y) gy) rfl ?_
      refine am_iload_n dX6_appendBytes_15 2 rfl ?_
      refine am_iload_n dX6_appendBytes_16 0 rfl ?_
      refine am_iushr (v := (iushr z1 x2)) dX6_appendBytes_17 rfl ?_
      refine am_sipush (v := 255) dX6_appendBytes_18 (by decide) ?_
      refine am_iand dX6_appendBytes_21 ?_
      refine am_callS (As := [.ref (gz G + 2), .int (y.1 0), .int ((iushr z1 x2) &&& 255)]) (rest := []) dX6_appendBytes_22 kMX6_220 rfl  rfl (Nat.le_of_ble_eq_true rfl) (d2 := 0) (by decide) (k2 := 0) (Nat.zero_le _) (u2 := 0) (Nat.zero_le _) (Nat.le_of_ble_eq_true rfl) (ctX6_put (f := (y.2.1 0)) (hwc2 (w := y) gy) (by decide) (y.1 0) ((iushr z1 x2) &&& 255)) (fun v2 h3 q4 => ?_)
      obtain ⟨rfl, rfl⟩ := q4
      have w5 := hwA0 gy (fX6_put 1200 (y.2.1 0) (y.1 0) ((iushr z1 x2) &&& 255))
      refine am_aload_n dX6_appendBytes_25 1 rfl ?_
      refine am_dup dX6_appendBytes_26 rfl ?_
      refine am_get (v := .int (y.1 0)) dX6_appendBytes_27 kGX6_61 (hwc0 (w := (wA y 0 (fX6_put 1200 (y.2.1 0) (y.1 0) ((iushr z1 x2) &&& 255)))) w5) rfl ?_
      refine am_iconst (v := 1) dX6_appendBytes_30 (by decide) ?_
      refine am_iadd dX6_appendBytes_31 ?_
      refine am_put dX6_appendBytes_32 kFX6_61 (hwc0 (w := (wA y 0 (fX6_put 1200 (y.2.1 0) (y.1 0) ((iushr z1 x2) &&& 255)))) w5) (Nat.le_of_ble_eq_true rfl) rfl rfl ?_
      have w6 := hwS0 w5 ((y.1 0) + 1)
      refine am_iinc (v := (x2 + (-8))) dX6_appendBytes_35 0 rfl rfl (by decide) (lv' := [(2, .int (x2 + (-8))), (0, .ref (gz G + 0)), (1, .int z1)]) rfl ?_
      refine am_goto dX6_appendBytes_38 (by decide : ((38 : Nat) : Int) + (-35) = ((3 : Nat) : Int)) ?_
      exact ih (x2 + (-8)) (wS (wA y 0 (fX6_put 1200 (y.2.1 0) (y.1 0) ((iushr z1 x2) &&& 255))) 0 ((y.1 0) + 1)) (ivD_s c1 (by decide) iv) w6  (fun h1 r e => kx h1 r (Eq.trans (Eq.trans (if_neg c1) (rfl)) e))
def fX6_appendBytes (w : Wd) (z1 : Int32) : Wd := (bnd (fX6_appendBytes_3 z1   (fuD 24) 24 w) (fun r7 => r7.2))
set_option maxRecDepth 20000 in
theorem ctX6_appendBytes {l : Launch} {G : GM} {K : Nat → Option va_E} {h : List va_E} {w : Wd} (hw : HW G K h w) (z1 : Int32) : Ct l G mX6_appendBytes 1 0 0 [.ref (gz G + 0), .int z1] h (fun v h1 => ∃ r, (fX6_appendBytes w z1) = r ∧ v = none ∧ HW G K h1 r) := by
  show Tr l G mX6_appendBytes 1 0 0 0 [(0, .ref (gz G + 0)), (1, .int z1)] [] h _
  refine am_bipush (v := 24) dX6_appendBytes_0 (by decide) ?_
  refine am_istore_n dX6_appendBytes_2 (by decide) (lv' := [(2, .int 24), (0, .ref (gz G + 0)), (1, .int z1)]) rfl ?_
  refine wX6_appendBytes_3 z1   (fuD 24) 24 w ivD_i hw  (fun h9 r7 e8 w10  => ?_)
  exact am_return dX6_appendBytes_41 rfl ⟨_, bnd_eq e8 (rfl), rfl, w10⟩

theorem dX6_append_0 : decode cX6_append 0 = .ok (.aload_n 0, 1) := by decide +kernel
theorem dX6_append_1 : decode cX6_append 1 = .ok (.getfield 61, 3) := by decide +kernel
theorem dX6_append_4 : decode cX6_append 4 = .ok (.bipush 20, 2) := by decide +kernel
theorem dX6_append_6 : decode cX6_append 6 = .ok (.iadd, 1) := by decide +kernel
theorem dX6_append_7 : decode cX6_append 7 = .ok (.sipush 1200, 3) := by decide +kernel
theorem dX6_append_10 : decode cX6_append 10 = .ok (.if_icmp .le 5, 3) := by decide +kernel
theorem dX6_append_13 : decode cX6_append 13 = .ok (.iconst (-1), 1) := by decide +kernel
theorem dX6_append_14 : decode cX6_append 14 = .ok (.ireturn, 1) := by decide +kernel
theorem dX6_append_15 : decode cX6_append 15 = .ok (.aload_n 0, 1) := by decide +kernel
theorem dX6_append_16 : decode cX6_append 16 = .ok (.iload_n 1, 1) := by decide +kernel
theorem dX6_append_17 : decode cX6_append 17 = .ok (.invokevirtual 65, 3) := by decide +kernel
theorem dX6_append_20 : decode cX6_append 20 = .ok (.aload_n 0, 1) := by decide +kernel
theorem dX6_append_21 : decode cX6_append 21 = .ok (.iload_n 2, 1) := by decide +kernel
theorem dX6_append_22 : decode cX6_append 22 = .ok (.invokevirtual 65, 3) := by decide +kernel
theorem dX6_append_25 : decode cX6_append 25 = .ok (.aload_n 0, 1) := by decide +kernel
theorem dX6_append_26 : decode cX6_append 26 = .ok (.iload_n 3, 1) := by decide +kernel
theorem dX6_append_27 : decode cX6_append 27 = .ok (.invokevirtual 65, 3) := by decide +kernel
theorem dX6_append_30 : decode cX6_append 30 = .ok (.aload_n 0, 1) := by decide +kernel
theorem dX6_append_31 : decode cX6_append 31 = .ok (.iload 4, 2) := by decide +kernel
theorem dX6_append_33 : decode cX6_append 33 = .ok (.invokevirtual 65, 3) := by decide +kernel
theorem dX6_append_36 : decode cX6_append 36 = .ok (.aload_n 0, 1) := by decide +kernel
theorem dX6_append_37 : decode cX6_append 37 = .ok (.iload 5, 2) := by decide +kernel
theorem dX6_append_39 : decode cX6_append 39 = .ok (.invokevirtual 65, 3) := by decide +kernel
theorem dX6_append_42 : decode cX6_append 42 = .ok (.aload_n 0, 1) := by decide +kernel
theorem dX6_append_43 : decode cX6_append 43 = .ok (.getfield 61, 3) := by decide +kernel
theorem dX6_append_46 : decode cX6_append 46 = .ok (.ireturn, 1) := by decide +kernel
def fX6_append (w : Wd) (z1 : Int32) (z2 : Int32) (z3 : Int32) (z4 : Int32) (z5 : Int32) : Int32 × Wd := (if ((w.1 0) + 20) ≤ 1200 then (bnd (fX6_appendBytes w z1) (fun r5 => (bnd (fX6_appendBytes r5 z2) (fun r11 => (bnd (fX6_appendBytes r11 z3) (fun r17 => (bnd (fX6_appendBytes r17 z4) (fun r23 => (bnd (fX6_appendBytes r23 z5) (fun r29 => ((r29.1 0), r29))))))))))) else ((-1), w))
set_option maxRecDepth 20000 in
theorem ctX6_append {l : Launch} {G : GM} {K : Nat → Option va_E} {h : List va_E} {w : Wd} (hw : HW G K h w) (z1 : Int32) (z2 : Int32) (z3 : Int32) (z4 : Int32) (z5 : Int32) : Ct l G mX6_append 2 0 0 [.ref (gz G + 0), .int z1, .int z2, .int z3, .int z4, .int z5] h (fun v h1 => ∃ r, (fX6_append w z1 z2 z3 z4 z5) = r ∧ v = some (.int r.1) ∧ HW G K h1 r.2) := by
  show Tr l G mX6_append 2 0 0 0 [(0, .ref (gz G + 0)), (1, .int z1), (2, .int z2), (3, .int z3), (4, .int z4), (5, .int z5)] [] h _
  refine am_aload_n dX6_append_0 0 rfl ?_
  refine am_get (v := .int (w.1 0)) dX6_append_1 kGX6_61 (hwc0 (w := w) hw) rfl ?_
  refine am_bipush (v := 20) dX6_append_4 (by decide) ?_
  refine am_iadd dX6_append_6 ?_
  refine am_sipush (v := 1200) dX6_append_7 (by decide) ?_
  refine am_icmp_le dX6_append_10 (by decide : ((10 : Nat) : Int) + (5) = ((15 : Nat) : Int)) (fun c1 => ?_) (fun c1 => ?_)
  · refine am_aload_n dX6_append_15 0 rfl ?_
    refine am_iload_n dX6_append_16 1 rfl ?_
    refine am_callV (As := [.int z1]) (rest := []) dX6_append_17 kMX6_65 rfl (hwc0 (w := w) hw) rfl rfl (Nat.le_of_ble_eq_true rfl) (d2 := 1) (by decide) (k2 := 0) (Nat.zero_le _) (u2 := 0) (Nat.zero_le _) (Nat.le_of_ble_eq_true rfl) (ctX6_appendBytes (w := w) hw z1) (fun v2 h3 q4 => ?_)
    obtain ⟨r5, e6, rfl, w7⟩ := q4
    refine am_aload_n dX6_append_20 0 rfl ?_
    refine am_iload_n dX6_append_21 2 rfl ?_
    refine am_callV (As := [.int z2]) (rest := []) dX6_append_22 kMX6_65 rfl (hwc0 (w := r5) w7) rfl rfl (Nat.le_of_ble_eq_true rfl) (d2 := 1) (by decide) (k2 := 0) (Nat.zero_le _) (u2 := 0) (Nat.zero_le _) (Nat.le_of_ble_eq_true rfl) (ctX6_appendBytes (w := r5) w7 z2) (fun v8 h9 q10 => ?_)
    obtain ⟨r11, e12, rfl, w13⟩ := q10
    refine am_aload_n dX6_append_25 0 rfl ?_
    refine am_iload_n dX6_append_26 3 rfl ?_
    refine am_callV (As := [.int z3]) (rest := []) dX6_append_27 kMX6_65 rfl (hwc0 (w := r11) w13) rfl rfl (Nat.le_of_ble_eq_true rfl) (d2 := 1) (by decide) (k2 := 0) (Nat.zero_le _) (u2 := 0) (Nat.zero_le _) (Nat.le_of_ble_eq_true rfl) (ctX6_appendBytes (w := r11) w13 z3) (fun v14 h15 q16 => ?_)
    obtain ⟨r17, e18, rfl, w19⟩ := q16
    refine am_aload_n dX6_append_30 0 rfl ?_
    refine am_iload dX6_append_31 4 rfl ?_
    refine am_callV (As := [.int z4]) (rest := []) dX6_append_33 kMX6_65 rfl (hwc0 (w := r17) w19) rfl rfl (Nat.le_of_ble_eq_true rfl) (d2 := 1) (by decide) (k2 := 0) (Nat.zero_le _) (u2 := 0) (Nat.zero_le _) (Nat.le_of_ble_eq_true rfl) (ctX6_appendBytes (w := r17) w19 z4) (fun v20 h21 q22 => ?_)
    obtain ⟨r23, e24, rfl, w25⟩ := q22
    refine am_aload_n dX6_append_36 0 rfl ?_
    refine am_iload dX6_append_37 5 rfl ?_
    refine am_callV (As := [.int z5]) (rest := []) dX6_append_39 kMX6_65 rfl (hwc0 (w := r23) w25) rfl rfl (Nat.le_of_ble_eq_true rfl) (d2 := 1) (by decide) (k2 := 0) (Nat.zero_le _) (u2 := 0) (Nat.zero_le _) (Nat.le_of_ble_eq_true rfl) (ctX6_appendBytes (w := r23) w25 z5) (fun v26 h27 q28 => ?_)
    obtain ⟨r29, e30, rfl, w31⟩ := q28
    refine am_aload_n dX6_append_42 0 rfl ?_
    refine am_get (v := .int (r29.1 0)) dX6_append_43 kGX6_61 (hwc0 (w := r29) w31) rfl ?_
    exact am_ireturn dX6_append_46 rfl rfl ⟨_, Eq.trans (if_pos c1) (bnd_eq e6 (bnd_eq e12 (bnd_eq e18 (bnd_eq e24 (bnd_eq e30 (rfl)))))), rfl, w31⟩
  · refine am_iconst (v := (-1)) dX6_append_13 (by decide) ?_
    exact am_ireturn dX6_append_14 rfl rfl ⟨_, Eq.trans (if_neg c1) (rfl), rfl, hw⟩

theorem dX6_truncate_0 : decode cX6_truncate 0 = .ok (.iload_n 1, 1) := by decide +kernel
theorem dX6_truncate_1 : decode cX6_truncate 1 = .ok (.ifCond .lt 11, 3) := by decide +kernel
theorem dX6_truncate_4 : decode cX6_truncate 4 = .ok (.iload_n 1, 1) := by decide +kernel
theorem dX6_truncate_5 : decode cX6_truncate 5 = .ok (.aload_n 0, 1) := by decide +kernel
theorem dX6_truncate_6 : decode cX6_truncate 6 = .ok (.getfield 61, 3) := by decide +kernel
theorem dX6_truncate_9 : decode cX6_truncate 9 = .ok (.if_icmp .le 5, 3) := by decide +kernel
theorem dX6_truncate_12 : decode cX6_truncate 12 = .ok (.iconst (-1), 1) := by decide +kernel
theorem dX6_truncate_13 : decode cX6_truncate 13 = .ok (.ireturn, 1) := by decide +kernel
theorem dX6_truncate_14 : decode cX6_truncate 14 = .ok (.aload_n 0, 1) := by decide +kernel
theorem dX6_truncate_15 : decode cX6_truncate 15 = .ok (.iload_n 1, 1) := by decide +kernel
theorem dX6_truncate_16 : decode cX6_truncate 16 = .ok (.putfield 61, 3) := by decide +kernel
theorem dX6_truncate_19 : decode cX6_truncate 19 = .ok (.iload_n 1, 1) := by decide +kernel
theorem dX6_truncate_20 : decode cX6_truncate 20 = .ok (.ireturn, 1) := by decide +kernel
def fX6_truncate (w : Wd) (z1 : Int32) : Int32 × Wd := (if z1 < 0 then ((-1), w) else (if z1 ≤ (w.1 0) then (z1, (wS w 0 z1)) else ((-1), w)))
set_option maxRecDepth 20000 in
theorem ctX6_truncate {l : Launch} {G : GM} {K : Nat → Option va_E} {h : List va_E} {w : Wd} (hw : HW G K h w) (z1 : Int32) : Ct l G mX6_truncate 0 0 0 [.ref (gz G + 0), .int z1] h (fun v h1 => ∃ r, (fX6_truncate w z1) = r ∧ v = some (.int r.1) ∧ HW G K h1 r.2) := by
  show Tr l G mX6_truncate 0 0 0 0 [(0, .ref (gz G + 0)), (1, .int z1)] [] h _
  refine am_iload_n dX6_truncate_0 1 rfl ?_
  refine am_if_lt dX6_truncate_1 (by decide : ((1 : Nat) : Int) + (11) = ((12 : Nat) : Int)) (fun c1 => ?_) (fun c1 => ?_)
  · refine am_iconst (v := (-1)) dX6_truncate_12 (by decide) ?_
    exact am_ireturn dX6_truncate_13 rfl rfl ⟨_, Eq.trans (if_pos c1) (rfl), rfl, hw⟩
  · refine am_iload_n dX6_truncate_4 1 rfl ?_
    refine am_aload_n dX6_truncate_5 0 rfl ?_
    refine am_get (v := .int (w.1 0)) dX6_truncate_6 kGX6_61 (hwc0 (w := w) hw) rfl ?_
    refine am_icmp_le dX6_truncate_9 (by decide : ((9 : Nat) : Int) + (5) = ((14 : Nat) : Int)) (fun c2 => ?_) (fun c2 => ?_)
    · refine am_aload_n dX6_truncate_14 0 rfl ?_
      refine am_iload_n dX6_truncate_15 1 rfl ?_
      refine am_put dX6_truncate_16 kFX6_61 (hwc0 (w := w) hw) (Nat.le_of_ble_eq_true rfl) rfl rfl ?_
      have w3 := hwS0 hw z1
      refine am_iload_n dX6_truncate_19 1 rfl ?_
      exact am_ireturn dX6_truncate_20 rfl rfl ⟨_, Eq.trans (if_neg c1) (Eq.trans (if_pos c2) (rfl)), rfl, w3⟩
    · refine am_iconst (v := (-1)) dX6_truncate_12 (by decide) ?_
      exact am_ireturn dX6_truncate_13 rfl rfl ⟨_, Eq.trans (if_neg c1) (Eq.trans (if_neg c2) (rfl)), rfl, hw⟩

theorem dX6_beforeChange_0 : decode cX6_beforeChange 0 = .ok (.aload_n 0, 1) := by decide +kernel
theorem dX6_beforeChange_1 : decode cX6_beforeChange 1 = .ok (.getfield 43, 3) := by decide +kernel
theorem dX6_beforeChange_4 : decode cX6_beforeChange 4 = .ok (.aload_n 0, 1) := by decide +kernel
theorem dX6_beforeChange_5 : decode cX6_beforeChange 5 = .ok (.getfield 33, 3) := by decide +kernel
theorem dX6_beforeChange_8 : decode cX6_beforeChange 8 = .ok (.invokevirtual 330, 3) := by decide +kernel
theorem dX6_beforeChange_11 : decode cX6_beforeChange 11 = .ok (.aload_n 0, 1) := by decide +kernel
theorem dX6_beforeChange_12 : decode cX6_beforeChange 12 = .ok (.getfield 57, 3) := by decide +kernel
theorem dX6_beforeChange_15 : decode cX6_beforeChange 15 = .ok (.iconst 0, 1) := by decide +kernel
theorem dX6_beforeChange_16 : decode cX6_beforeChange 16 = .ok (.putfield 242, 3) := by decide +kernel
theorem dX6_beforeChange_19 : decode cX6_beforeChange 19 = .ok (.return_, 1) := by decide +kernel
def fX6_beforeChange (w : Wd)  : Wd := (bnd (fX1_keep_21 w ) (fun r4 => (wS r4 13 0)))
set_option maxRecDepth 20000 in
theorem ctX6_beforeChange {l : Launch} {G : GM} {K : Nat → Option va_E} {h : List va_E} {w : Wd} (hw : HW G K h w)  : Ct l G mX6_beforeChange 5 0 0 [.ref (gz G + 0)] h (fun v h1 => ∃ r, (fX6_beforeChange w ) = r ∧ v = none ∧ HW G K h1 r) := by
  show Tr l G mX6_beforeChange 5 0 0 0 [(0, .ref (gz G + 0))] [] h _
  refine am_aload_n dX6_beforeChange_0 0 rfl ?_
  refine am_get (v := .ref (gz G + 53)) dX6_beforeChange_1 kGX6_43 (hwc0 (w := w) hw) rfl ?_
  refine am_aload_n dX6_beforeChange_4 0 rfl ?_
  refine am_get (v := .ref (gz G + 21)) dX6_beforeChange_5 kGX6_33 (hwc0 (w := w) hw) rfl ?_
  refine am_callV (As := [.ref (gz G + 21)]) (rest := []) dX6_beforeChange_8 kMX6_330 rfl (hwc53 (w := w) hw) rfl rfl (Nat.le_of_ble_eq_true rfl) (d2 := 4) (by decide) (k2 := 0) (Nat.zero_le _) (u2 := 0) (Nat.zero_le _) (Nat.le_of_ble_eq_true rfl) (ctX1_keep_21 (w := w) hw ) (fun v1 h2 q3 => ?_)
  obtain ⟨r4, e5, rfl, w6⟩ := q3
  refine am_aload_n dX6_beforeChange_11 0 rfl ?_
  refine am_get (v := .ref (gz G + 219)) dX6_beforeChange_12 kGX6_57 (hwc0 (w := r4) w6) rfl ?_
  refine am_iconst (v := 0) dX6_beforeChange_15 (by decide) ?_
  refine am_put dX6_beforeChange_16 kFX6_242 (hwc219 (w := r4) w6) (Nat.le_of_ble_eq_true rfl) rfl rfl ?_
  have w7 := hwS13 w6 0
  exact am_return dX6_beforeChange_19 rfl ⟨_, bnd_eq e5 (rfl), rfl, w7⟩

theorem dX6_load_0 : decode cX6_load 0 = .ok (.aload_n 0, 1) := by decide +kernel
theorem dX6_load_1 : decode cX6_load 1 = .ok (.getfield 10, 3) := by decide +kernel
theorem dX6_load_4 : decode cX6_load 4 = .ok (.aload_n 0, 1) := by decide +kernel
theorem dX6_load_5 : decode cX6_load 5 = .ok (.getfield 61, 3) := by decide +kernel
theorem dX6_load_8 : decode cX6_load 8 = .ok (.invokevirtual 69, 3) := by decide +kernel
theorem dX6_load_11 : decode cX6_load 11 = .ok (.istore_n 1, 1) := by decide +kernel
theorem dX6_load_12 : decode cX6_load 12 = .ok (.aload_n 0, 1) := by decide +kernel
theorem dX6_load_13 : decode cX6_load 13 = .ok (.iconst 0, 1) := by decide +kernel
theorem dX6_load_14 : decode cX6_load 14 = .ok (.putfield 61, 3) := by decide +kernel
theorem dX6_load_17 : decode cX6_load 17 = .ok (.iload_n 1, 1) := by decide +kernel
theorem dX6_load_18 : decode cX6_load 18 = .ok (.ifCond .ne 6, 3) := by decide +kernel
theorem dX6_load_21 : decode cX6_load 21 = .ok (.bipush (-4), 2) := by decide +kernel
theorem dX6_load_23 : decode cX6_load 23 = .ok (.ireturn, 1) := by decide +kernel
theorem dX6_load_24 : decode cX6_load 24 = .ok (.aload_n 0, 1) := by decide +kernel
theorem dX6_load_25 : decode cX6_load 25 = .ok (.invokevirtual 73, 3) := by decide +kernel
theorem dX6_load_28 : decode cX6_load 28 = .ok (.aload_n 0, 1) := by decide +kernel
theorem dX6_load_29 : decode cX6_load 29 = .ok (.getfield 33, 3) := by decide +kernel
theorem dX6_load_32 : decode cX6_load 32 = .ok (.aload_n 0, 1) := by decide +kernel
theorem dX6_load_33 : decode cX6_load 33 = .ok (.getfield 10, 3) := by decide +kernel
theorem dX6_load_36 : decode cX6_load 36 = .ok (.getfield 76, 3) := by decide +kernel
theorem dX6_load_39 : decode cX6_load 39 = .ok (.invokevirtual 79, 3) := by decide +kernel
theorem dX6_load_42 : decode cX6_load 42 = .ok (.aload_n 0, 1) := by decide +kernel
theorem dX6_load_43 : decode cX6_load 43 = .ok (.getfield 33, 3) := by decide +kernel
theorem dX6_load_46 : decode cX6_load 46 = .ok (.getfield 83, 3) := by decide +kernel
theorem dX6_load_49 : decode cX6_load 49 = .ok (.ireturn, 1) := by decide +kernel
def fX6_load (w : Wd)  : Int32 × Wd := (bnd (fX4_read w (w.1 0)) (fun r4 => (if r4.1 = 0 then ((-4), (wS r4.2 0 0)) else (bnd (fX6_beforeChange (wS r4.2 0 0) ) (fun r12 => (bnd (fX5_copyFrom (r12.2.2.1 1) (r12.2.2.1 0) ) (fun r18 => ((r18.1 8), (wP r12 1 r18)))))))))
set_option maxRecDepth 20000 in
theorem ctX6_load {l : Launch} {G : GM} {K : Nat → Option va_E} {h : List va_E} {w : Wd} (hw : HW G K h w)  : Ct l G mX6_load 9 0 0 [.ref (gz G + 0)] h (fun v h1 => ∃ r, (fX6_load w ) = r ∧ v = some (.int r.1) ∧ HW G K h1 r.2) := by
  show Tr l G mX6_load 9 0 0 0 [(0, .ref (gz G + 0))] [] h _
  refine am_aload_n dX6_load_0 0 rfl ?_
  refine am_get (v := .ref (gz G + 1)) dX6_load_1 kGX6_10 (hwc0 (w := w) hw) rfl ?_
  refine am_aload_n dX6_load_4 0 rfl ?_
  refine am_get (v := .int (w.1 0)) dX6_load_5 kGX6_61 (hwc0 (w := w) hw) rfl ?_
  refine am_callV (As := [.int (w.1 0)]) (rest := []) dX6_load_8 kMX6_69 rfl (hwc1 (w := w) hw) rfl rfl (Nat.le_of_ble_eq_true rfl) (d2 := 8) (by decide) (k2 := 0) (Nat.zero_le _) (u2 := 0) (Nat.zero_le _) (Nat.le_of_ble_eq_true rfl) (ctX4_read (w := w) hw (w.1 0)) (fun v1 h2 q3 => ?_)
  obtain ⟨r4, e5, rfl, w6⟩ := q3
  refine am_istore_n dX6_load_11 (by decide) (lv' := [(1, .int r4.1), (0, .ref (gz G + 0))]) rfl ?_
  refine am_aload_n dX6_load_12 1 rfl ?_
  refine am_iconst (v := 0) dX6_load_13 (by decide) ?_
  refine am_put dX6_load_14 kFX6_61 (hwc0 (w := r4.2) w6) (Nat.le_of_ble_eq_true rfl) rfl rfl ?_
  have w7 := hwS0 w6 0
  refine am_iload_n dX6_load_17 0 rfl ?_
  refine am_if_ne dX6_load_18 (by decide : ((18 : Nat) : Int) + (6) = ((24 : Nat) : Int)) (fun c8 => ?_) (fun c8 => ?_)
  · refine am_aload_n dX6_load_24 1 rfl ?_
    refine am_callV (As := []) (rest := []) dX6_load_25 kMX6_73 rfl (hwc0 (w := (wS r4.2 0 0)) w7) rfl rfl (Nat.le_of_ble_eq_true rfl) (d2 := 5) (by decide) (k2 := 0) (Nat.zero_le _) (u2 := 0) (Nat.zero_le _) (Nat.le_of_ble_eq_true rfl) (ctX6_beforeChange (w := (wS r4.2 0 0)) w7 ) (fun v9 h10 q11 => ?_)
    obtain ⟨r12, e13, rfl, w14⟩ := q11
    refine am_aload_n dX6_load_28 1 rfl ?_
    refine am_get (v := .ref (gz G + 21)) dX6_load_29 kGX6_33 (hwc0 (w := r12) w14) rfl ?_
    refine am_aload_n dX6_load_32 1 rfl ?_
    refine am_get (v := .ref (gz G + 1)) dX6_load_33 kGX6_10 (hwc0 (w := r12) w14) rfl ?_
    refine am_get (v := .ref (gz G + 3)) dX6_load_36 kGX6_76 (hwc1 (w := r12) w14) rfl ?_
    refine am_callV (As := [.ref (gz G + 3)]) (rest := []) dX6_load_39 kMX6_79 rfl (pl_0 (p := (r12.2.2.1 1)) (hwP1 (w := r12) w14)) rfl rfl (Nat.le_of_ble_eq_true rfl) (d2 := 3) (by decide) (k2 := 0) (Nat.zero_le _) (u2 := 0) (Nat.zero_le _) (Nat.le_of_ble_eq_true rfl) (ctX5_copyFrom (p := (r12.2.2.1 1)) (hwP1 (w := r12) w14) (p2 := (r12.2.2.1 0)) (hwP0 (w := r12) w14) (by decide) ) (fun v15 h16 q17 => ?_)
    obtain ⟨r18, e19, rfl, w20, w21⟩ := q17
    have w22 := hwPu w14 (i := 1) (by decide) w20 w21
    refine am_aload_n dX6_load_42 1 rfl ?_
    refine am_get (v := .ref (gz G + 21)) dX6_load_43 kGX6_33 (hwc0 (w := (wP r12 1 r18)) w22) rfl ?_
    refine am_get (v := .int (r18.1 8)) dX6_load_46 kGX6_83 (pl_0 (p := r18) (hwP1 (w := (wP r12 1 r18)) w22)) rfl ?_
    exact am_ireturn dX6_load_49 rfl rfl ⟨_, bnd_eq e5 (Eq.trans (if_neg c8) (bnd_eq e13 (bnd_eq e19 (rfl)))), rfl, w22⟩
  · refine am_bipush (v := (-4)) dX6_load_21 (by decide) ?_
    exact am_ireturn dX6_load_23 rfl rfl ⟨_, bnd_eq e5 (Eq.trans (if_pos c8) (rfl)), rfl, w7⟩

theorem dX6_errorCode_0 : decode cX6_errorCode 0 = .ok (.aload_n 0, 1) := by decide +kernel
theorem dX6_errorCode_1 : decode cX6_errorCode 1 = .ok (.getfield 10, 3) := by decide +kernel
theorem dX6_errorCode_4 : decode cX6_errorCode 4 = .ok (.getfield 86, 3) := by decide +kernel
theorem dX6_errorCode_7 : decode cX6_errorCode 7 = .ok (.ireturn, 1) := by decide +kernel
def fX6_errorCode (w : Wd)  : Int32 := (w.1 1)
set_option maxRecDepth 20000 in
theorem ctX6_errorCode {l : Launch} {G : GM} {K : Nat → Option va_E} {h : List va_E} {w : Wd} (hw : HW G K h w)  : Ct l G mX6_errorCode 0 0 0 [.ref (gz G + 0)] h (fun v h1 => v = some (.int (fX6_errorCode w )) ∧ h1 = h) := by
  show Tr l G mX6_errorCode 0 0 0 0 [(0, .ref (gz G + 0))] [] h _
  refine am_aload_n dX6_errorCode_0 0 rfl ?_
  refine am_get (v := .ref (gz G + 1)) dX6_errorCode_1 kGX6_10 (hwc0 (w := w) hw) rfl ?_
  refine am_get (v := .int (w.1 1)) dX6_errorCode_4 kGX6_86 (hwc1 (w := w) hw) rfl ?_
  rw [show (fX6_errorCode w ) = (w.1 1) from rfl]
  exact am_ireturn dX6_errorCode_7 rfl rfl ⟨rfl, rfl⟩

theorem dX6_errorPosition_0 : decode cX6_errorPosition 0 = .ok (.aload_n 0, 1) := by decide +kernel
theorem dX6_errorPosition_1 : decode cX6_errorPosition 1 = .ok (.getfield 10, 3) := by decide +kernel
theorem dX6_errorPosition_4 : decode cX6_errorPosition 4 = .ok (.getfield 89, 3) := by decide +kernel
theorem dX6_errorPosition_7 : decode cX6_errorPosition 7 = .ok (.ireturn, 1) := by decide +kernel
def fX6_errorPosition (w : Wd)  : Int32 := (w.1 2)
set_option maxRecDepth 20000 in
theorem ctX6_errorPosition {l : Launch} {G : GM} {K : Nat → Option va_E} {h : List va_E} {w : Wd} (hw : HW G K h w)  : Ct l G mX6_errorPosition 0 0 0 [.ref (gz G + 0)] h (fun v h1 => v = some (.int (fX6_errorPosition w )) ∧ h1 = h) := by
  show Tr l G mX6_errorPosition 0 0 0 0 [(0, .ref (gz G + 0))] [] h _
  refine am_aload_n dX6_errorPosition_0 0 rfl ?_
  refine am_get (v := .ref (gz G + 1)) dX6_errorPosition_1 kGX6_10 (hwc0 (w := w) hw) rfl ?_
  refine am_get (v := .int (w.1 2)) dX6_errorPosition_4 kGX6_89 (hwc1 (w := w) hw) rfl ?_
  rw [show (fX6_errorPosition w ) = (w.1 2) from rfl]
  exact am_ireturn dX6_errorPosition_7 rfl rfl ⟨rfl, rfl⟩

theorem dX6_find_0 : decode cX6_find 0 = .ok (.iload_n 1, 1) := by decide +kernel
theorem dX6_find_1 : decode cX6_find 1 = .ok (.ifCond .lt 8, 3) := by decide +kernel
theorem dX6_find_4 : decode cX6_find 4 = .ok (.iload_n 1, 1) := by decide +kernel
theorem dX6_find_5 : decode cX6_find 5 = .ok (.iconst 2, 1) := by decide +kernel
theorem dX6_find_6 : decode cX6_find 6 = .ok (.if_icmp .le 6, 3) := by decide +kernel
theorem dX6_find_9 : decode cX6_find 9 = .ok (.bipush (-2), 2) := by decide +kernel
theorem dX6_find_11 : decode cX6_find 11 = .ok (.ireturn, 1) := by decide +kernel
theorem dX6_find_12 : decode cX6_find 12 = .ok (.aload_n 0, 1) := by decide +kernel
theorem dX6_find_13 : decode cX6_find 13 = .ok (.getfield 20, 3) := by decide +kernel
theorem dX6_find_16 : decode cX6_find 16 = .ok (.iconst 0, 1) := by decide +kernel
theorem dX6_find_17 : decode cX6_find 17 = .ok (.aload_n 0, 1) := by decide +kernel
theorem dX6_find_18 : decode cX6_find 18 = .ok (.getfield 61, 3) := by decide +kernel
theorem dX6_find_21 : decode cX6_find 21 = .ok (.invokestatic 92, 3) := by decide +kernel
theorem dX6_find_24 : decode cX6_find 24 = .ok (.istore_n 2, 1) := by decide +kernel
theorem dX6_find_25 : decode cX6_find 25 = .ok (.aload_n 0, 1) := by decide +kernel
theorem dX6_find_26 : decode cX6_find 26 = .ok (.iconst 0, 1) := by decide +kernel
theorem dX6_find_27 : decode cX6_find 27 = .ok (.putfield 61, 3) := by decide +kernel
theorem dX6_find_30 : decode cX6_find 30 = .ok (.iload_n 2, 1) := by decide +kernel
theorem dX6_find_31 : decode cX6_find 31 = .ok (.iconst (-1), 1) := by decide +kernel
theorem dX6_find_32 : decode cX6_find 32 = .ok (.if_icmp .ne 6, 3) := by decide +kernel
theorem dX6_find_35 : decode cX6_find 35 = .ok (.bipush (-4), 2) := by decide +kernel
theorem dX6_find_37 : decode cX6_find 37 = .ok (.ireturn, 1) := by decide +kernel
theorem dX6_find_38 : decode cX6_find 38 = .ok (.aload_n 0, 1) := by decide +kernel
theorem dX6_find_39 : decode cX6_find 39 = .ok (.getfield 33, 3) := by decide +kernel
theorem dX6_find_42 : decode cX6_find 42 = .ok (.getfield 96, 3) := by decide +kernel
theorem dX6_find_45 : decode cX6_find 45 = .ok (.astore_n 3, 1) := by decide +kernel
theorem dX6_find_46 : decode cX6_find 46 = .ok (.iload_n 1, 1) := by decide +kernel
theorem dX6_find_47 : decode cX6_find 47 = .ok (.ifCond .ne 16, 3) := by decide +kernel
theorem dX6_find_50 : decode cX6_find 50 = .ok (.aload_n 3, 1) := by decide +kernel
theorem dX6_find_51 : decode cX6_find 51 = .ok (.getfield 100, 3) := by decide +kernel
theorem dX6_find_54 : decode cX6_find 54 = .ok (.aload_n 3, 1) := by decide +kernel
theorem dX6_find_55 : decode cX6_find 55 = .ok (.getfield 105, 3) := by decide +kernel
theorem dX6_find_58 : decode cX6_find 58 = .ok (.iload_n 2, 1) := by decide +kernel
theorem dX6_find_59 : decode cX6_find 59 = .ok (.invokestatic 108, 3) := by decide +kernel
theorem dX6_find_62 : decode cX6_find 62 = .ok (.ireturn, 1) := by decide +kernel
theorem dX6_find_63 : decode cX6_find 63 = .ok (.iload_n 1, 1) := by decide +kernel
theorem dX6_find_64 : decode cX6_find 64 = .ok (.iconst 1, 1) := by decide +kernel
theorem dX6_find_65 : decode cX6_find 65 = .ok (.if_icmp .ne 16, 3) := by decide +kernel
theorem dX6_find_68 : decode cX6_find 68 = .ok (.aload_n 3, 1) := by decide +kernel
theorem dX6_find_69 : decode cX6_find 69 = .ok (.getfield 111, 3) := by decide +kernel
theorem dX6_find_72 : decode cX6_find 72 = .ok (.aload_n 3, 1) := by decide +kernel
theorem dX6_find_73 : decode cX6_find 73 = .ok (.getfield 114, 3) := by decide +kernel
theorem dX6_find_76 : decode cX6_find 76 = .ok (.iload_n 2, 1) := by decide +kernel
theorem dX6_find_77 : decode cX6_find 77 = .ok (.invokestatic 108, 3) := by decide +kernel
theorem dX6_find_80 : decode cX6_find 80 = .ok (.ireturn, 1) := by decide +kernel
theorem dX6_find_81 : decode cX6_find 81 = .ok (.aload_n 3, 1) := by decide +kernel
theorem dX6_find_82 : decode cX6_find 82 = .ok (.getfield 117, 3) := by decide +kernel
theorem dX6_find_85 : decode cX6_find 85 = .ok (.aload_n 3, 1) := by decide +kernel
theorem dX6_find_86 : decode cX6_find 86 = .ok (.getfield 120, 3) := by decide +kernel
theorem dX6_find_89 : decode cX6_find 89 = .ok (.iload_n 2, 1) := by decide +kernel
theorem dX6_find_90 : decode cX6_find 90 = .ok (.invokestatic 108, 3) := by decide +kernel
theorem dX6_find_93 : decode cX6_find 93 = .ok (.ireturn, 1) := by decide +kernel
def fX6_find (w : Wd) (z1 : Int32) : Int32 × Wd := (if z1 < 0 then ((-2), w) else (if z1 ≤ 2 then (if (fX6_packName 1200 (w.2.1 0) 0 (w.1 0)) = (-1) then ((-4), (wS w 0 0)) else (if z1 = 0 then ((fX6_indexOfName 6 ((w.2.2.1 1).2 0) ((w.2.2.1 1).1 0) (fX6_packName 1200 (w.2.1 0) 0 (w.1 0))), (wS w 0 0)) else (if z1 = 1 then ((fX6_indexOfName 8 ((w.2.2.1 1).2 3) ((w.2.2.1 1).1 1) (fX6_packName 1200 (w.2.1 0) 0 (w.1 0))), (wS w 0 0)) else ((fX6_indexOfName 6 ((w.2.2.1 1).2 5) ((w.2.2.1 1).1 2) (fX6_packName 1200 (w.2.1 0) 0 (w.1 0))), (wS w 0 0))))) else ((-2), w)))
set_option maxRecDepth 20000 in
theorem ctX6_find {l : Launch} {G : GM} {K : Nat → Option va_E} {h : List va_E} {w : Wd} (hw : HW G K h w) (z1 : Int32) : Ct l G mX6_find 2 0 0 [.ref (gz G + 0), .int z1] h (fun v h1 => ∃ r, (fX6_find w z1) = r ∧ v = some (.int r.1) ∧ HW G K h1 r.2) := by
  show Tr l G mX6_find 2 0 0 0 [(0, .ref (gz G + 0)), (1, .int z1)] [] h _
  refine am_iload_n dX6_find_0 1 rfl ?_
  refine am_if_lt dX6_find_1 (by decide : ((1 : Nat) : Int) + (8) = ((9 : Nat) : Int)) (fun c1 => ?_) (fun c1 => ?_)
  · refine am_bipush (v := (-2)) dX6_find_9 (by decide) ?_
    exact am_ireturn dX6_find_11 rfl rfl ⟨_, Eq.trans (if_pos c1) (rfl), rfl, hw⟩
  · refine am_iload_n dX6_find_4 1 rfl ?_
    refine am_iconst (v := 2) dX6_find_5 (by decide) ?_
    refine am_icmp_le dX6_find_6 (by decide : ((6 : Nat) : Int) + (6) = ((12 : Nat) : Int)) (fun c2 => ?_) (fun c2 => ?_)
    · refine am_aload_n dX6_find_12 0 rfl ?_
      refine am_get (v := .ref (gz G + 2)) dX6_find_13 kGX6_20 (hwc0 (w := w) hw) rfl ?_
      refine am_iconst (v := 0) dX6_find_16 (by decide) ?_
      refine am_aload_n dX6_find_17 0 rfl ?_
      refine am_get (v := .int (w.1 0)) dX6_find_18 kGX6_61 (hwc0 (w := w) hw) rfl ?_
      refine am_callS (As := [.ref (gz G + 2), .int 0, .int (w.1 0)]) (rest := []) dX6_find_21 kMX6_92 rfl  rfl (Nat.le_of_ble_eq_true rfl) (d2 := 1) (by decide) (k2 := 0) (Nat.zero_le _) (u2 := 0) (Nat.zero_le _) (Nat.le_of_ble_eq_true rfl) (ctX6_packName (f := (w.2.1 0)) (hwc2 (w := w) hw) (by decide) 0 (w.1 0) ) (fun v3 h4 q5 => ?_)
      obtain ⟨rfl, rfl⟩ := q5
      refine am_istore_n dX6_find_24 (by decide) (lv' := [(2, .int (fX6_packName 1200 (w.2.1 0) 0 (w.1 0))), (0, .ref (gz G + 0)), (1, .int z1)]) rfl ?_
      refine am_aload_n dX6_find_25 1 rfl ?_
      refine am_iconst (v := 0) dX6_find_26 (by decide) ?_
      refine am_put dX6_find_27 kFX6_61 (hwc0 (w := w) hw) (Nat.le_of_ble_eq_true rfl) rfl rfl ?_
      have w6 := hwS0 hw 0
      refine am_iload_n dX6_find_30 0 rfl ?_
      refine am_iconst (v := (-1)) dX6_find_31 (by decide) ?_
      refine am_icmp_ne dX6_find_32 (by decide : ((32 : Nat) : Int) + (6) = ((38 : Nat) : Int)) (fun c7 => ?_) (fun c7 => ?_)
      · refine am_aload_n dX6_find_38 1 rfl ?_
        refine am_get (v := .ref (gz G + 21)) dX6_find_39 kGX6_33 (hwc0 (w := (wS w 0 0)) w6) rfl ?_
        refine am_get (v := .ref (gz G + 22)) dX6_find_42 kGX6_96 (pl_0 (p := (w.2.2.1 1)) (hwP1 (w := (wS w 0 0)) w6)) rfl ?_
        refine am_astore_n dX6_find_45 (by decide) (lv' := [(3, .ref (gz G + 22)), (2, .int (fX6_packName 1200 (w.2.1 0) 0 (w.1 0))), (0, .ref (gz G + 0)), (1, .int z1)]) rfl ?_
        refine am_iload_n dX6_find_46 3 rfl ?_
        refine am_if_ne dX6_find_47 (by decide : ((47 : Nat) : Int) + (16) = ((63 : Nat) : Int)) (fun c8 => ?_) (fun c8 => ?_)
        · refine am_iload_n dX6_find_63 3 rfl ?_
          refine am_iconst (v := 1) dX6_find_64 (by decide) ?_
          refine am_icmp_ne dX6_find_65 (by decide : ((65 : Nat) : Int) + (16) = ((81 : Nat) : Int)) (fun c9 => ?_) (fun c9 => ?_)
          · refine am_aload_n dX6_find_81 0 rfl ?_
            refine am_get (v := .ref (gz G + 28)) dX6_find_82 kGX6_117 (pl_1 (p := (w.2.2.1 1)) (hwP1 (w := (wS w 0 0)) w6)) rfl ?_
            refine am_aload_n dX6_find_85 0 rfl ?_
            refine am_get (v := .int ((w.2.2.1 1).1 2)) dX6_find_86 kGX6_120 (pl_1 (p := (w.2.2.1 1)) (hwP1 (w := (wS w 0 0)) w6)) rfl ?_
            refine am_iload_n dX6_find_89 1 rfl ?_
            refine am_callS (As := [.ref (gz G + 28), .int ((w.2.2.1 1).1 2), .int (fX6_packName 1200 (w.2.1 0) 0 (w.1 0))]) (rest := []) dX6_find_90 kMX6_108 rfl  rfl (Nat.le_of_ble_eq_true rfl) (d2 := 1) (by decide) (k2 := 0) (Nat.zero_le _) (u2 := 0) (Nat.zero_le _) (Nat.le_of_ble_eq_true rfl) (ctX6_indexOfName (f := ((w.2.2.1 1).2 5)) (pl_r5 (p := (w.2.2.1 1)) (hwP1 (w := (wS w 0 0)) w6)) (by decide) ((w.2.2.1 1).1 2) (fX6_packName 1200 (w.2.1 0) 0 (w.1 0)) ) (fun v10 h11 q12 => ?_)
            obtain ⟨rfl, rfl⟩ := q12
            exact am_ireturn dX6_find_93 rfl rfl ⟨_, Eq.trans (if_neg c1) (Eq.trans (if_pos c2) (Eq.trans (if_neg c7) (Eq.trans (if_neg c8) (Eq.trans (if_neg c9) (rfl))))), rfl, w6⟩
          · refine am_aload_n dX6_find_68 0 rfl ?_
            refine am_get (v := .ref (gz G + 26)) dX6_find_69 kGX6_111 (pl_1 (p := (w.2.2.1 1)) (hwP1 (w := (wS w 0 0)) w6)) rfl ?_
            refine am_aload_n dX6_find_72 0 rfl ?_
            refine am_get (v := .int ((w.2.2.1 1).1 1)) dX6_find_73 kGX6_114 (pl_1 (p := (w.2.2.1 1)) (hwP1 (w := (wS w 0 0)) w6)) rfl ?_
            refine am_iload_n dX6_find_76 1 rfl ?_
            refine am_callS (As := [.ref (gz G + 26), .int ((w.2.2.1 1).1 1), .int (fX6_packName 1200 (w.2.1 0) 0 (w.1 0))]) (rest := []) dX6_find_77 kMX6_108 rfl  rfl (Nat.le_of_ble_eq_true rfl) (d2 := 1) (by decide) (k2 := 0) (Nat.zero_le _) (u2 := 0) (Nat.zero_le _) (Nat.le_of_ble_eq_true rfl) (ctX6_indexOfName (f := ((w.2.2.1 1).2 3)) (pl_r3 (p := (w.2.2.1 1)) (hwP1 (w := (wS w 0 0)) w6)) (by decide) ((w.2.2.1 1).1 1) (fX6_packName 1200 (w.2.1 0) 0 (w.1 0)) ) (fun v13 h14 q15 => ?_)
            obtain ⟨rfl, rfl⟩ := q15
            exact am_ireturn dX6_find_80 rfl rfl ⟨_, Eq.trans (if_neg c1) (Eq.trans (if_pos c2) (Eq.trans (if_neg c7) (Eq.trans (if_neg c8) (Eq.trans (if_pos c9) (rfl))))), rfl, w6⟩
        · refine am_aload_n dX6_find_50 0 rfl ?_
          refine am_get (v := .ref (gz G + 23)) dX6_find_51 kGX6_100 (pl_1 (p := (w.2.2.1 1)) (hwP1 (w := (wS w 0 0)) w6)) rfl ?_
          refine am_aload_n dX6_find_54 0 rfl ?_
          refine am_get (v := .int ((w.2.2.1 1).1 0)) dX6_find_55 kGX6_105 (pl_1 (p := (w.2.2.1 1)) (hwP1 (w := (wS w 0 0)) w6)) rfl ?_
          refine am_iload_n dX6_find_58 1 rfl ?_
          refine am_callS (As := [.ref (gz G + 23), .int ((w.2.2.1 1).1 0), .int (fX6_packName 1200 (w.2.1 0) 0 (w.1 0))]) (rest := []) dX6_find_59 kMX6_108 rfl  rfl (Nat.le_of_ble_eq_true rfl) (d2 := 1) (by decide) (k2 := 0) (Nat.zero_le _) (u2 := 0) (Nat.zero_le _) (Nat.le_of_ble_eq_true rfl) (ctX6_indexOfName (f := ((w.2.2.1 1).2 0)) (pl_r0 (p := (w.2.2.1 1)) (hwP1 (w := (wS w 0 0)) w6)) (by decide) ((w.2.2.1 1).1 0) (fX6_packName 1200 (w.2.1 0) 0 (w.1 0)) ) (fun v16 h17 q18 => ?_)
          obtain ⟨rfl, rfl⟩ := q18
          exact am_ireturn dX6_find_62 rfl rfl ⟨_, Eq.trans (if_neg c1) (Eq.trans (if_pos c2) (Eq.trans (if_neg c7) (Eq.trans (if_pos c8) (rfl)))), rfl, w6⟩
      · refine am_bipush (v := (-4)) dX6_find_35 (by decide) ?_
        exact am_ireturn dX6_find_37 rfl rfl ⟨_, Eq.trans (if_neg c1) (Eq.trans (if_pos c2) (Eq.trans (if_pos c7) (rfl))), rfl, w6⟩
    · refine am_bipush (v := (-2)) dX6_find_9 (by decide) ?_
      exact am_ireturn dX6_find_11 rfl rfl ⟨_, Eq.trans (if_neg c1) (Eq.trans (if_neg c2) (rfl)), rfl, hw⟩

def fX6_yarnCount (w : Wd)  : Int32 := ((w.2.2.1 1).1 0)
def fX6_shapeCount (w : Wd)  : Int32 := ((w.2.2.1 1).1 1)
def fX6_sizeCount (w : Wd)  : Int32 := ((w.2.2.1 1).1 2)
theorem dX6_pieceCount_0 : decode cX6_pieceCount 0 = .ok (.aload_n 0, 1) := by decide +kernel
theorem dX6_pieceCount_1 : decode cX6_pieceCount 1 = .ok (.getfield 33, 3) := by decide +kernel
theorem dX6_pieceCount_4 : decode cX6_pieceCount 4 = .ok (.getfield 83, 3) := by decide +kernel
theorem dX6_pieceCount_7 : decode cX6_pieceCount 7 = .ok (.ireturn, 1) := by decide +kernel
def fX6_pieceCount (w : Wd)  : Int32 := ((w.2.2.1 1).1 8)
set_option maxRecDepth 20000 in
theorem ctX6_pieceCount {l : Launch} {G : GM} {K : Nat → Option va_E} {h : List va_E} {w : Wd} (hw : HW G K h w)  : Ct l G mX6_pieceCount 0 0 0 [.ref (gz G + 0)] h (fun v h1 => v = some (.int (fX6_pieceCount w )) ∧ h1 = h) := by
  show Tr l G mX6_pieceCount 0 0 0 0 [(0, .ref (gz G + 0))] [] h _
  refine am_aload_n dX6_pieceCount_0 0 rfl ?_
  refine am_get (v := .ref (gz G + 21)) dX6_pieceCount_1 kGX6_33 (hwc0 (w := w) hw) rfl ?_
  refine am_get (v := .int ((w.2.2.1 1).1 8)) dX6_pieceCount_4 kGX6_83 (pl_0 (p := (w.2.2.1 1)) (hwP1 (w := w) hw)) rfl ?_
  rw [show (fX6_pieceCount w ) = ((w.2.2.1 1).1 8) from rfl]
  exact am_ireturn dX6_pieceCount_7 rfl rfl ⟨rfl, rfl⟩

theorem dX6_days_0 : decode cX6_days 0 = .ok (.aload_n 0, 1) := by decide +kernel
theorem dX6_days_1 : decode cX6_days 1 = .ok (.getfield 33, 3) := by decide +kernel
theorem dX6_days_4 : decode cX6_days 4 = .ok (.getfield 123, 3) := by decide +kernel
theorem dX6_days_7 : decode cX6_days 7 = .ok (.ireturn, 1) := by decide +kernel
def fX6_days (w : Wd)  : Int32 := ((w.2.2.1 1).1 7)
set_option maxRecDepth 20000 in
theorem ctX6_days {l : Launch} {G : GM} {K : Nat → Option va_E} {h : List va_E} {w : Wd} (hw : HW G K h w)  : Ct l G mX6_days 0 0 0 [.ref (gz G + 0)] h (fun v h1 => v = some (.int (fX6_days w )) ∧ h1 = h) := by
  show Tr l G mX6_days 0 0 0 0 [(0, .ref (gz G + 0))] [] h _
  refine am_aload_n dX6_days_0 0 rfl ?_
  refine am_get (v := .ref (gz G + 21)) dX6_days_1 kGX6_33 (hwc0 (w := w) hw) rfl ?_
  refine am_get (v := .int ((w.2.2.1 1).1 7)) dX6_days_4 kGX6_123 (pl_0 (p := (w.2.2.1 1)) (hwP1 (w := w) hw)) rfl ?_
  rw [show (fX6_days w ) = ((w.2.2.1 1).1 7) from rfl]
  exact am_ireturn dX6_days_7 rfl rfl ⟨rfl, rfl⟩

theorem dX6_undoCount_0 : decode cX6_undoCount 0 = .ok (.aload_n 0, 1) := by decide +kernel
theorem dX6_undoCount_1 : decode cX6_undoCount 1 = .ok (.getfield 43, 3) := by decide +kernel
theorem dX6_undoCount_4 : decode cX6_undoCount 4 = .ok (.getfield 126, 3) := by decide +kernel
theorem dX6_undoCount_7 : decode cX6_undoCount 7 = .ok (.ireturn, 1) := by decide +kernel
def fX6_undoCount (w : Wd)  : Int32 := (w.1 11)
set_option maxRecDepth 20000 in
theorem ctX6_undoCount {l : Launch} {G : GM} {K : Nat → Option va_E} {h : List va_E} {w : Wd} (hw : HW G K h w)  : Ct l G mX6_undoCount 0 0 0 [.ref (gz G + 0)] h (fun v h1 => v = some (.int (fX6_undoCount w )) ∧ h1 = h) := by
  show Tr l G mX6_undoCount 0 0 0 0 [(0, .ref (gz G + 0))] [] h _
  refine am_aload_n dX6_undoCount_0 0 rfl ?_
  refine am_get (v := .ref (gz G + 53)) dX6_undoCount_1 kGX6_43 (hwc0 (w := w) hw) rfl ?_
  refine am_get (v := .int (w.1 11)) dX6_undoCount_4 kGX6_126 (hwc53 (w := w) hw) rfl ?_
  rw [show (fX6_undoCount w ) = (w.1 11) from rfl]
  exact am_ireturn dX6_undoCount_7 rfl rfl ⟨rfl, rfl⟩

theorem dX6_lengthTolerance_0 : decode cX6_lengthTolerance 0 = .ok (.aload_n 0, 1) := by decide +kernel
theorem dX6_lengthTolerance_1 : decode cX6_lengthTolerance 1 = .ok (.getfield 33, 3) := by decide +kernel
theorem dX6_lengthTolerance_4 : decode cX6_lengthTolerance 4 = .ok (.getfield 129, 3) := by decide +kernel
theorem dX6_lengthTolerance_7 : decode cX6_lengthTolerance 7 = .ok (.ireturn, 1) := by decide +kernel
def fX6_lengthTolerance (w : Wd)  : Int32 := ((w.2.2.1 1).1 3)
set_option maxRecDepth 20000 in
theorem ctX6_lengthTolerance {l : Launch} {G : GM} {K : Nat → Option va_E} {h : List va_E} {w : Wd} (hw : HW G K h w)  : Ct l G mX6_lengthTolerance 0 0 0 [.ref (gz G + 0)] h (fun v h1 => v = some (.int (fX6_lengthTolerance w )) ∧ h1 = h) := by
  show Tr l G mX6_lengthTolerance 0 0 0 0 [(0, .ref (gz G + 0))] [] h _
  refine am_aload_n dX6_lengthTolerance_0 0 rfl ?_
  refine am_get (v := .ref (gz G + 21)) dX6_lengthTolerance_1 kGX6_33 (hwc0 (w := w) hw) rfl ?_
  refine am_get (v := .int ((w.2.2.1 1).1 3)) dX6_lengthTolerance_4 kGX6_129 (pl_0 (p := (w.2.2.1 1)) (hwP1 (w := w) hw)) rfl ?_
  rw [show (fX6_lengthTolerance w ) = ((w.2.2.1 1).1 3) from rfl]
  exact am_ireturn dX6_lengthTolerance_7 rfl rfl ⟨rfl, rfl⟩

theorem dX6_shadeTolerance_0 : decode cX6_shadeTolerance 0 = .ok (.aload_n 0, 1) := by decide +kernel
theorem dX6_shadeTolerance_1 : decode cX6_shadeTolerance 1 = .ok (.getfield 33, 3) := by decide +kernel
theorem dX6_shadeTolerance_4 : decode cX6_shadeTolerance 4 = .ok (.getfield 132, 3) := by decide +kernel
theorem dX6_shadeTolerance_7 : decode cX6_shadeTolerance 7 = .ok (.ireturn, 1) := by decide +kernel
def fX6_shadeTolerance (w : Wd)  : Int32 := ((w.2.2.1 1).1 4)
set_option maxRecDepth 20000 in
theorem ctX6_shadeTolerance {l : Launch} {G : GM} {K : Nat → Option va_E} {h : List va_E} {w : Wd} (hw : HW G K h w)  : Ct l G mX6_shadeTolerance 0 0 0 [.ref (gz G + 0)] h (fun v h1 => v = some (.int (fX6_shadeTolerance w )) ∧ h1 = h) := by
  show Tr l G mX6_shadeTolerance 0 0 0 0 [(0, .ref (gz G + 0))] [] h _
  refine am_aload_n dX6_shadeTolerance_0 0 rfl ?_
  refine am_get (v := .ref (gz G + 21)) dX6_shadeTolerance_1 kGX6_33 (hwc0 (w := w) hw) rfl ?_
  refine am_get (v := .int ((w.2.2.1 1).1 4)) dX6_shadeTolerance_4 kGX6_132 (pl_0 (p := (w.2.2.1 1)) (hwP1 (w := w) hw)) rfl ?_
  rw [show (fX6_shadeTolerance w ) = ((w.2.2.1 1).1 4) from rfl]
  exact am_ireturn dX6_shadeTolerance_7 rfl rfl ⟨rfl, rfl⟩

theorem dX6_steam_0 : decode cX6_steam 0 = .ok (.aload_n 0, 1) := by decide +kernel
theorem dX6_steam_1 : decode cX6_steam 1 = .ok (.getfield 33, 3) := by decide +kernel
theorem dX6_steam_4 : decode cX6_steam 4 = .ok (.getfield 135, 3) := by decide +kernel
theorem dX6_steam_7 : decode cX6_steam 7 = .ok (.ireturn, 1) := by decide +kernel
def fX6_steam (w : Wd)  : Int32 := ((w.2.2.1 1).1 5)
set_option maxRecDepth 20000 in
theorem ctX6_steam {l : Launch} {G : GM} {K : Nat → Option va_E} {h : List va_E} {w : Wd} (hw : HW G K h w)  : Ct l G mX6_steam 0 0 0 [.ref (gz G + 0)] h (fun v h1 => v = some (.int (fX6_steam w )) ∧ h1 = h) := by
  show Tr l G mX6_steam 0 0 0 0 [(0, .ref (gz G + 0))] [] h _
  refine am_aload_n dX6_steam_0 0 rfl ?_
  refine am_get (v := .ref (gz G + 21)) dX6_steam_1 kGX6_33 (hwc0 (w := w) hw) rfl ?_
  refine am_get (v := .int ((w.2.2.1 1).1 5)) dX6_steam_4 kGX6_135 (pl_0 (p := (w.2.2.1 1)) (hwP1 (w := w) hw)) rfl ?_
  rw [show (fX6_steam w ) = ((w.2.2.1 1).1 5) from rfl]
  exact am_ireturn dX6_steam_7 rfl rfl ⟨rfl, rfl⟩

theorem dX6_isPiece_0 : decode cX6_isPiece 0 = .ok (.iload_n 1, 1) := by decide +kernel
theorem dX6_isPiece_1 : decode cX6_isPiece 1 = .ok (.ifCond .lt 18, 3) := by decide +kernel
theorem dX6_isPiece_4 : decode cX6_isPiece 4 = .ok (.iload_n 1, 1) := by decide +kernel
theorem dX6_isPiece_5 : decode cX6_isPiece 5 = .ok (.aload_n 0, 1) := by decide +kernel
theorem dX6_isPiece_6 : decode cX6_isPiece 6 = .ok (.getfield 33, 3) := by decide +kernel
theorem dX6_isPiece_9 : decode cX6_isPiece 9 = .ok (.getfield 83, 3) := by decide +kernel
theorem dX6_isPiece_12 : decode cX6_isPiece 12 = .ok (.if_icmp .ge 7, 3) := by decide +kernel
theorem dX6_isPiece_15 : decode cX6_isPiece 15 = .ok (.iconst 1, 1) := by decide +kernel
theorem dX6_isPiece_16 : decode cX6_isPiece 16 = .ok (.goto 4, 3) := by decide +kernel
theorem dX6_isPiece_19 : decode cX6_isPiece 19 = .ok (.iconst 0, 1) := by decide +kernel
theorem dX6_isPiece_20 : decode cX6_isPiece 20 = .ok (.ireturn, 1) := by decide +kernel
def fX6_isPiece (w : Wd) (z1 : Int32) : Int32 := (if z1 < 0 then 0 else (if ((w.2.2.1 1).1 8) ≤ z1 then 0 else 1))
set_option maxRecDepth 20000 in
theorem ctX6_isPiece {l : Launch} {G : GM} {K : Nat → Option va_E} {h : List va_E} {w : Wd} (hw : HW G K h w) (z1 : Int32) : Ct l G mX6_isPiece 0 0 0 [.ref (gz G + 0), .int z1] h (fun v h1 => v = some (.int (fX6_isPiece w z1)) ∧ h1 = h) := by
  show Tr l G mX6_isPiece 0 0 0 0 [(0, .ref (gz G + 0)), (1, .int z1)] [] h _
  refine am_iload_n dX6_isPiece_0 1 rfl ?_
  refine am_if_lt dX6_isPiece_1 (by decide : ((1 : Nat) : Int) + (18) = ((19 : Nat) : Int)) (fun c1 => ?_) (fun c1 => ?_)
  · refine am_iconst (v := 0) dX6_isPiece_19 (by decide) ?_
    rw [show (fX6_isPiece w z1) = 0 from Eq.trans (if_pos c1) (rfl)]
    exact am_ireturn dX6_isPiece_20 rfl rfl ⟨rfl, rfl⟩
  · refine am_iload_n dX6_isPiece_4 1 rfl ?_
    refine am_aload_n dX6_isPiece_5 0 rfl ?_
    refine am_get (v := .ref (gz G + 21)) dX6_isPiece_6 kGX6_33 (hwc0 (w := w) hw) rfl ?_
    refine am_get (v := .int ((w.2.2.1 1).1 8)) dX6_isPiece_9 kGX6_83 (pl_0 (p := (w.2.2.1 1)) (hwP1 (w := w) hw)) rfl ?_
    refine am_icmp_ge dX6_isPiece_12 (by decide : ((12 : Nat) : Int) + (7) = ((19 : Nat) : Int)) (fun c2 => ?_) (fun c2 => ?_)
    · refine am_iconst (v := 0) dX6_isPiece_19 (by decide) ?_
      rw [show (fX6_isPiece w z1) = 0 from Eq.trans (if_neg c1) (Eq.trans (if_pos c2) (rfl))]
      exact am_ireturn dX6_isPiece_20 rfl rfl ⟨rfl, rfl⟩
    · refine am_iconst (v := 1) dX6_isPiece_15 (by decide) ?_
      refine am_goto dX6_isPiece_16 (by decide : ((16 : Nat) : Int) + (4) = ((20 : Nat) : Int)) ?_
      rw [show (fX6_isPiece w z1) = 1 from Eq.trans (if_neg c1) (Eq.trans (if_neg c2) (rfl))]
      exact am_ireturn dX6_isPiece_20 rfl rfl ⟨rfl, rfl⟩

def fX6_length (w : Wd) (z1 : Int32) : Int32 := (if (fX6_isPiece w z1) = 0 then (-2) else (fX6_at 14 ((w.2.2.1 1).2 11) z1))
def fX6_knitted (w : Wd) (z1 : Int32) : Int32 := (if (fX6_isPiece w z1) = 0 then (-2) else (fX6_at 14 ((w.2.2.1 1).2 10) z1))
theorem dX6_shade_0 : decode cX6_shade 0 = .ok (.aload_n 0, 1) := by decide +kernel
theorem dX6_shade_1 : decode cX6_shade 1 = .ok (.iload_n 1, 1) := by decide +kernel
theorem dX6_shade_2 : decode cX6_shade 2 = .ok (.invokevirtual 138, 3) := by decide +kernel
theorem dX6_shade_5 : decode cX6_shade 5 = .ok (.ifCond .eq 17, 3) := by decide +kernel
theorem dX6_shade_8 : decode cX6_shade 8 = .ok (.aload_n 0, 1) := by decide +kernel
theorem dX6_shade_9 : decode cX6_shade 9 = .ok (.getfield 33, 3) := by decide +kernel
theorem dX6_shade_12 : decode cX6_shade 12 = .ok (.getfield 151, 3) := by decide +kernel
theorem dX6_shade_15 : decode cX6_shade 15 = .ok (.iload_n 1, 1) := by decide +kernel
theorem dX6_shade_16 : decode cX6_shade 16 = .ok (.invokestatic 144, 3) := by decide +kernel
theorem dX6_shade_19 : decode cX6_shade 19 = .ok (.goto 5, 3) := by decide +kernel
theorem dX6_shade_22 : decode cX6_shade 22 = .ok (.bipush (-2), 2) := by decide +kernel
theorem dX6_shade_24 : decode cX6_shade 24 = .ok (.ireturn, 1) := by decide +kernel
def fX6_shade (w : Wd) (z1 : Int32) : Int32 := (if (fX6_isPiece w z1) = 0 then (-2) else (fX6_at 14 ((w.2.2.1 1).2 12) z1))
set_option maxRecDepth 20000 in
theorem ctX6_shade {l : Launch} {G : GM} {K : Nat → Option va_E} {h : List va_E} {w : Wd} (hw : HW G K h w) (z1 : Int32) : Ct l G mX6_shade 1 0 0 [.ref (gz G + 0), .int z1] h (fun v h1 => v = some (.int (fX6_shade w z1)) ∧ h1 = h) := by
  show Tr l G mX6_shade 1 0 0 0 [(0, .ref (gz G + 0)), (1, .int z1)] [] h _
  refine am_aload_n dX6_shade_0 0 rfl ?_
  refine am_iload_n dX6_shade_1 1 rfl ?_
  refine am_callV (As := [.int z1]) (rest := []) dX6_shade_2 kMX6_138 rfl (hwc0 (w := w) hw) rfl rfl (Nat.le_of_ble_eq_true rfl) (d2 := 0) (by decide) (k2 := 0) (Nat.zero_le _) (u2 := 0) (Nat.zero_le _) (Nat.le_of_ble_eq_true rfl) (ctX6_isPiece (w := w) hw z1) (fun v1 h2 q3 => ?_)
  obtain ⟨rfl, rfl⟩ := q3
  refine am_if_eq dX6_shade_5 (by decide : ((5 : Nat) : Int) + (17) = ((22 : Nat) : Int)) (fun c4 => ?_) (fun c4 => ?_)
  · refine am_bipush (v := (-2)) dX6_shade_22 (by decide) ?_
    rw [show (fX6_shade w z1) = (-2) from Eq.trans (if_pos c4) (rfl)]
    exact am_ireturn dX6_shade_24 rfl rfl ⟨rfl, rfl⟩
  · refine am_aload_n dX6_shade_8 0 rfl ?_
    refine am_get (v := .ref (gz G + 21)) dX6_shade_9 kGX6_33 (hwc0 (w := w) hw) rfl ?_
    refine am_get (v := .ref (gz G + 35)) dX6_shade_12 kGX6_151 (pl_0 (p := (w.2.2.1 1)) (hwP1 (w := w) hw)) rfl ?_
    refine am_iload_n dX6_shade_15 1 rfl ?_
    refine am_callS (As := [.ref (gz G + 35), .int z1]) (rest := []) dX6_shade_16 kMX6_144 rfl  rfl (Nat.le_of_ble_eq_true rfl) (d2 := 0) (by decide) (k2 := 0) (Nat.zero_le _) (u2 := 0) (Nat.zero_le _) (Nat.le_of_ble_eq_true rfl) (ctX6_at (f := ((w.2.2.1 1).2 12)) (pl_r12 (p := (w.2.2.1 1)) (hwP1 (w := w) hw)) (by decide) z1 ) (fun v5 h6 q7 => ?_)
    obtain ⟨rfl, rfl⟩ := q7
    refine am_goto dX6_shade_19 (by decide : ((19 : Nat) : Int) + (5) = ((24 : Nat) : Int)) ?_
    rw [show (fX6_shade w z1) = (fX6_at 14 ((w.2.2.1 1).2 12) z1) from Eq.trans (if_neg c4) (rfl)]
    exact am_ireturn dX6_shade_24 rfl rfl ⟨rfl, rfl⟩

def fX6_yarnOf (w : Wd) (z1 : Int32) : Int32 := (if (fX6_isPiece w z1) = 0 then (-2) else (fX6_at 14 ((w.2.2.1 1).2 8) z1))
def fX6_kindOf (w : Wd) (z1 : Int32) : Int32 := (if (fX6_isPiece w z1) = 0 then (-2) else (fX6_at 14 ((w.2.2.1 1).2 9) z1))
theorem dX6_state_0 : decode cX6_state 0 = .ok (.aload_n 0, 1) := by decide +kernel
theorem dX6_state_1 : decode cX6_state 1 = .ok (.iload_n 1, 1) := by decide +kernel
theorem dX6_state_2 : decode cX6_state 2 = .ok (.invokevirtual 138, 3) := by decide +kernel
theorem dX6_state_5 : decode cX6_state 5 = .ok (.ifCond .eq 17, 3) := by decide +kernel
theorem dX6_state_8 : decode cX6_state 8 = .ok (.aload_n 0, 1) := by decide +kernel
theorem dX6_state_9 : decode cX6_state 9 = .ok (.getfield 33, 3) := by decide +kernel
theorem dX6_state_12 : decode cX6_state 12 = .ok (.getfield 159, 3) := by decide +kernel
theorem dX6_state_15 : decode cX6_state 15 = .ok (.iload_n 1, 1) := by decide +kernel
theorem dX6_state_16 : decode cX6_state 16 = .ok (.invokestatic 144, 3) := by decide +kernel
theorem dX6_state_19 : decode cX6_state 19 = .ok (.goto 5, 3) := by decide +kernel
theorem dX6_state_22 : decode cX6_state 22 = .ok (.bipush (-2), 2) := by decide +kernel
theorem dX6_state_24 : decode cX6_state 24 = .ok (.ireturn, 1) := by decide +kernel
def fX6_state (w : Wd) (z1 : Int32) : Int32 := (if (fX6_isPiece w z1) = 0 then (-2) else (fX6_at 14 ((w.2.2.1 1).2 13) z1))
set_option maxRecDepth 20000 in
theorem ctX6_state {l : Launch} {G : GM} {K : Nat → Option va_E} {h : List va_E} {w : Wd} (hw : HW G K h w) (z1 : Int32) : Ct l G mX6_state 1 0 0 [.ref (gz G + 0), .int z1] h (fun v h1 => v = some (.int (fX6_state w z1)) ∧ h1 = h) := by
  show Tr l G mX6_state 1 0 0 0 [(0, .ref (gz G + 0)), (1, .int z1)] [] h _
  refine am_aload_n dX6_state_0 0 rfl ?_
  refine am_iload_n dX6_state_1 1 rfl ?_
  refine am_callV (As := [.int z1]) (rest := []) dX6_state_2 kMX6_138 rfl (hwc0 (w := w) hw) rfl rfl (Nat.le_of_ble_eq_true rfl) (d2 := 0) (by decide) (k2 := 0) (Nat.zero_le _) (u2 := 0) (Nat.zero_le _) (Nat.le_of_ble_eq_true rfl) (ctX6_isPiece (w := w) hw z1) (fun v1 h2 q3 => ?_)
  obtain ⟨rfl, rfl⟩ := q3
  refine am_if_eq dX6_state_5 (by decide : ((5 : Nat) : Int) + (17) = ((22 : Nat) : Int)) (fun c4 => ?_) (fun c4 => ?_)
  · refine am_bipush (v := (-2)) dX6_state_22 (by decide) ?_
    rw [show (fX6_state w z1) = (-2) from Eq.trans (if_pos c4) (rfl)]
    exact am_ireturn dX6_state_24 rfl rfl ⟨rfl, rfl⟩
  · refine am_aload_n dX6_state_8 0 rfl ?_
    refine am_get (v := .ref (gz G + 21)) dX6_state_9 kGX6_33 (hwc0 (w := w) hw) rfl ?_
    refine am_get (v := .ref (gz G + 36)) dX6_state_12 kGX6_159 (pl_0 (p := (w.2.2.1 1)) (hwP1 (w := w) hw)) rfl ?_
    refine am_iload_n dX6_state_15 1 rfl ?_
    refine am_callS (As := [.ref (gz G + 36), .int z1]) (rest := []) dX6_state_16 kMX6_144 rfl  rfl (Nat.le_of_ble_eq_true rfl) (d2 := 0) (by decide) (k2 := 0) (Nat.zero_le _) (u2 := 0) (Nat.zero_le _) (Nat.le_of_ble_eq_true rfl) (ctX6_at (f := ((w.2.2.1 1).2 13)) (pl_r13 (p := (w.2.2.1 1)) (hwP1 (w := w) hw)) (by decide) z1 ) (fun v5 h6 q7 => ?_)
    obtain ⟨rfl, rfl⟩ := q7
    refine am_goto dX6_state_19 (by decide : ((19 : Nat) : Int) + (5) = ((24 : Nat) : Int)) ?_
    rw [show (fX6_state w z1) = (fX6_at 14 ((w.2.2.1 1).2 13) z1) from Eq.trans (if_neg c4) (rfl)]
    exact am_ireturn dX6_state_24 rfl rfl ⟨rfl, rfl⟩

theorem dX6_setWhere_0 : decode cX6_setWhere 0 = .ok (.iconst 0, 1) := by decide +kernel
theorem dX6_setWhere_1 : decode cX6_setWhere 1 = .ok (.istore_n 3, 1) := by decide +kernel
theorem dX6_setWhere_2 : decode cX6_setWhere 2 = .ok (.iconst 0, 1) := by decide +kernel
theorem dX6_setWhere_3 : decode cX6_setWhere 3 = .ok (.istore 4, 2) := by decide +kernel
theorem dX6_setWhere_5 : decode cX6_setWhere 5 = .ok (.iload 4, 2) := by decide +kernel
theorem dX6_setWhere_7 : decode cX6_setWhere 7 = .ok (.aload_n 0, 1) := by decide +kernel
theorem dX6_setWhere_8 : decode cX6_setWhere 8 = .ok (.getfield 33, 3) := by decide +kernel
theorem dX6_setWhere_11 : decode cX6_setWhere 11 = .ok (.getfield 83, 3) := by decide +kernel
theorem dX6_setWhere_14 : decode cX6_setWhere 14 = .ok (.if_icmp .ge 26, 3) := by decide +kernel
theorem dX6_setWhere_17 : decode cX6_setWhere 17 = .ok (.aload_n 1, 1) := by decide +kernel
theorem dX6_setWhere_18 : decode cX6_setWhere 18 = .ok (.iload 4, 2) := by decide +kernel
theorem dX6_setWhere_20 : decode cX6_setWhere 20 = .ok (.invokestatic 144, 3) := by decide +kernel
theorem dX6_setWhere_23 : decode cX6_setWhere 23 = .ok (.iload_n 2, 1) := by decide +kernel
theorem dX6_setWhere_24 : decode cX6_setWhere 24 = .ok (.if_icmp .ne 10, 3) := by decide +kernel
theorem dX6_setWhere_27 : decode cX6_setWhere 27 = .ok (.iload_n 3, 1) := by decide +kernel
theorem dX6_setWhere_28 : decode cX6_setWhere 28 = .ok (.iconst 1, 1) := by decide +kernel
theorem dX6_setWhere_29 : decode cX6_setWhere 29 = .ok (.iload 4, 2) := by decide +kernel
theorem dX6_setWhere_31 : decode cX6_setWhere 31 = .ok (.ishl, 1) := by decide +kernel
theorem dX6_setWhere_32 : decode cX6_setWhere 32 = .ok (.ior, 1) := by decide +kernel
theorem dX6_setWhere_33 : decode cX6_setWhere 33 = .ok (.istore_n 3, 1) := by decide +kernel
theorem dX6_setWhere_34 : decode cX6_setWhere 34 = .ok (.iinc 4 1, 3) := by decide +kernel
theorem dX6_setWhere_37 : decode cX6_setWhere 37 = .ok (.goto (-32), 3) := by decide +kernel
theorem dX6_setWhere_40 : decode cX6_setWhere 40 = .ok (.iload_n 3, 1) := by decide +kernel
theorem dX6_setWhere_41 : decode cX6_setWhere 41 = .ok (.ireturn, 1) := by decide +kernel
def fX6_setWhere_36_5 (z2 : Int32)  (w : Wd) : Nat → Int32 → Int32 → Int32 × Int32
  | 0, x4, x3 => (x4, x3)
  | fu + 1, x4, x3 => (if ((w.2.2.1 1).1 8) ≤ x4 then (x4, x3) else (if (fX6_at 14 ((w.2.2.1 1).2 13) x4) = z2 then (fX6_setWhere_36_5 z2  w fu (x4 + 1) (x3 ||| ((1 : Int32) <<< (x4 &&& 31))) ) else (fX6_setWhere_36_5 z2  w fu (x4 + 1) x3 )))
set_option maxRecDepth 20000 in
theorem wX6_setWhere_36_5 {l : Launch} {G : GM} {K : Nat → Option va_E} (z2 : Int32)   {h : List va_E} {w : Wd} (hw : HW G K h w) {Q : Option Value → List va_E → Prop} : ∀ (fu : Nat) (x4 x3 : Int32) (iv : ivU ((w.2.2.1 1).1 8) x4 fu) (kx : ∀ (r : Int32 × Int32), (fX6_setWhere_36_5 z2  w fu x4 x3 ) = r → Tr l G mX6_setWhere 1 0 0 40 [(4, .int r.1), (3, .int r.2), (0, .ref (gz G + 0)), (1, .ref (gz G + 36)), (2, .int z2)] [] h Q), Tr l G mX6_setWhere 1 0 0 5 [(4, .int x4), (3, .int x3), (0, .ref (gz G + 0)), (1, .ref (gz G + 36)), (2, .int z2)] [] h Q := by
  intro fu
  induction fu with
  | zero => intro x4 x3 iv; intros; exact absurd iv ivU_0
  | succ fu ih =>
    intro x4 x3 iv     kx
    refine am_iload dX6_setWhere_5 0 rfl ?_
    refine am_aload_n dX6_setWhere_7 2 rfl ?_
    refine am_get (v := .ref (gz G + 21)) dX6_setWhere_8 kGX6_33 (hwc0 (w := w) hw) rfl ?_
    refine am_get (v := .int ((w.2.2.1 1).1 8)) dX6_setWhere_11 kGX6_83 (pl_0 (p := (w.2.2.1 1)) (hwP1 (w := w) hw)) rfl ?_
    refine am_icmp_ge dX6_setWhere_14 (by decide : ((14 : Nat) : Int) + (26) = ((40 : Nat) : Int)) (fun c1 => ?_) (fun c1 => ?_)
    · exact kx _ (Eq.trans (if_pos c1) (rfl))
    · refine am_aload_n dX6_setWhere_17 3 rfl ?_
      refine am_iload dX6_setWhere_18 0 rfl ?_
      refine am_callS (As := [.ref (gz G + 36), .int x4]) (rest := []) dX6_setWhere_20 kMX6_144 rfl  rfl (Nat.le_of_ble_eq_true rfl) (d2 := 0) (by decide) (k2 := 0) (Nat.zero_le _) (u2 := 0) (Nat.zero_le _) (Nat.le_of_ble_eq_true rfl) (ctX6_at (f := ((w.2.2.1 1).2 13)) (pl_r13 (p := (w.2.2.1 1)) (hwP1 (w := w) hw)) (by decide) x4 ) (fun v2 h3 q4 => ?_)
      obtain ⟨rfl, rfl⟩ := q4
      refine am_iload_n dX6_setWhere_23 4 rfl ?_
      refine am_icmp_ne dX6_setWhere_24 (by decide : ((24 : Nat) : Int) + (10) = ((34 : Nat) : Int)) (fun c5 => ?_) (fun c5 => ?_)
      · refine am_iinc (v := (x4 + 1)) dX6_setWhere_34 0 rfl rfl (by decide) (lv' := [(4, .int (x4 + 1)), (3, .int x3), (0, .ref (gz G + 0)), (1, .ref (gz G + 36)), (2, .int z2)]) rfl ?_
        refine am_goto dX6_setWhere_37 (by decide : ((37 : Nat) : Int) + (-32) = ((5 : Nat) : Int)) ?_
        exact ih (x4 + 1) x3 (ivU_s c1 iv) (fun r e => kx r (Eq.trans (Eq.trans (if_neg c1) (Eq.trans (if_neg c5) (rfl))) e))
      · refine am_iload_n dX6_setWhere_27 1 rfl ?_
        refine am_iconst (v := 1) dX6_setWhere_28 (by decide) ?_
        refine am_iload dX6_setWhere_29 0 rfl ?_
        refine am_ishl dX6_setWhere_31 ?_
        refine am_ior dX6_setWhere_32 ?_
        refine am_istore_n dX6_setWhere_33 (by decide) (lv' := [(3, .int (x3 ||| ((1 : Int32) <<< (x4 &&& 31)))), (4, .int x4), (0, .ref (gz G + 0)), (1, .ref (gz G + 36)), (2, .int z2)]) rfl ?_
        refine am_iinc (v := (x4 + 1)) dX6_setWhere_34 1 rfl rfl (by decide) (lv' := [(4, .int (x4 + 1)), (3, .int (x3 ||| ((1 : Int32) <<< (x4 &&& 31)))), (0, .ref (gz G + 0)), (1, .ref (gz G + 36)), (2, .int z2)]) rfl ?_
        refine am_goto dX6_setWhere_37 (by decide : ((37 : Nat) : Int) + (-32) = ((5 : Nat) : Int)) ?_
        exact ih (x4 + 1) (x3 ||| ((1 : Int32) <<< (x4 &&& 31))) (ivU_s c1 iv) (fun r e => kx r (Eq.trans (Eq.trans (if_neg c1) (Eq.trans (if_pos c5) (rfl))) e))
def fX6_setWhere_36 (w : Wd) (z2 : Int32) : Int32 := (bnd (fX6_setWhere_36_5 z2  w (fuU ((w.2.2.1 1).1 8) 0) 0 0 ) (fun r6 => r6.2))
set_option maxRecDepth 20000 in
theorem ctX6_setWhere_36 {l : Launch} {G : GM} {K : Nat → Option va_E} {h : List va_E} {w : Wd} (hw : HW G K h w) (z2 : Int32) : Ct l G mX6_setWhere 1 0 0 [.ref (gz G + 0), .ref (gz G + 36), .int z2] h (fun v h1 => v = some (.int (fX6_setWhere_36 w z2)) ∧ h1 = h) := by
  show Tr l G mX6_setWhere 1 0 0 0 [(0, .ref (gz G + 0)), (1, .ref (gz G + 36)), (2, .int z2)] [] h _
  refine am_iconst (v := 0) dX6_setWhere_0 (by decide) ?_
  refine am_istore_n dX6_setWhere_1 (by decide) (lv' := [(3, .int 0), (0, .ref (gz G + 0)), (1, .ref (gz G + 36)), (2, .int z2)]) rfl ?_
  refine am_iconst (v := 0) dX6_setWhere_2 (by decide) ?_
  refine am_istore dX6_setWhere_3 (by decide) (lv' := [(4, .int 0), (3, .int 0), (0, .ref (gz G + 0)), (1, .ref (gz G + 36)), (2, .int z2)]) rfl ?_
  refine wX6_setWhere_36_5 z2   hw (fuU ((w.2.2.1 1).1 8) 0) 0 0 ivU_i (fun r6 e7 => ?_)
  refine am_iload_n dX6_setWhere_40 1 rfl ?_
  rw [show (fX6_setWhere_36 w z2) = r6.2 from bnd_eq e7 (rfl)]
  exact am_ireturn dX6_setWhere_41 rfl rfl ⟨rfl, rfl⟩

def fX6_inState (w : Wd) (z1 : Int32) : Int32 := (if z1 < 0 then (-2) else (if z1 ≤ 3 then (fX6_setWhere_36 w z1) else (-2)))
def fX6_setWhere_31_5 (z2 : Int32)  (w : Wd) : Nat → Int32 → Int32 → Int32 × Int32
  | 0, x4, x3 => (x4, x3)
  | fu + 1, x4, x3 => (if ((w.2.2.1 1).1 8) ≤ x4 then (x4, x3) else (if (fX6_at 14 ((w.2.2.1 1).2 8) x4) = z2 then (fX6_setWhere_31_5 z2  w fu (x4 + 1) (x3 ||| ((1 : Int32) <<< (x4 &&& 31))) ) else (fX6_setWhere_31_5 z2  w fu (x4 + 1) x3 )))
set_option maxRecDepth 20000 in
theorem wX6_setWhere_31_5 {l : Launch} {G : GM} {K : Nat → Option va_E} (z2 : Int32)   {h : List va_E} {w : Wd} (hw : HW G K h w) {Q : Option Value → List va_E → Prop} : ∀ (fu : Nat) (x4 x3 : Int32) (iv : ivU ((w.2.2.1 1).1 8) x4 fu) (kx : ∀ (r : Int32 × Int32), (fX6_setWhere_31_5 z2  w fu x4 x3 ) = r → Tr l G mX6_setWhere 1 0 0 40 [(4, .int r.1), (3, .int r.2), (0, .ref (gz G + 0)), (1, .ref (gz G + 31)), (2, .int z2)] [] h Q), Tr l G mX6_setWhere 1 0 0 5 [(4, .int x4), (3, .int x3), (0, .ref (gz G + 0)), (1, .ref (gz G + 31)), (2, .int z2)] [] h Q := by
  intro fu
  induction fu with
  | zero => intro x4 x3 iv; intros; exact absurd iv ivU_0
  | succ fu ih =>
    intro x4 x3 iv     kx
    refine am_iload dX6_setWhere_5 0 rfl ?_
    refine am_aload_n dX6_setWhere_7 2 rfl ?_
    refine am_get (v := .ref (gz G + 21)) dX6_setWhere_8 kGX6_33 (hwc0 (w := w) hw) rfl ?_
    refine am_get (v := .int ((w.2.2.1 1).1 8)) dX6_setWhere_11 kGX6_83 (pl_0 (p := (w.2.2.1 1)) (hwP1 (w := w) hw)) rfl ?_
    refine am_icmp_ge dX6_setWhere_14 (by decide : ((14 : Nat) : Int) + (26) = ((40 : Nat) : Int)) (fun c1 => ?_) (fun c1 => ?_)
    · exact kx _ (Eq.trans (if_pos c1) (rfl))
    · refine am_aload_n dX6_setWhere_17 3 rfl ?_
      refine am_iload dX6_setWhere_18 0 rfl ?_
      refine am_callS (As := [.ref (gz G + 31), .int x4]) (rest := []) dX6_setWhere_20 kMX6_144 rfl  rfl (Nat.le_of_ble_eq_true rfl) (d2 := 0) (by decide) (k2 := 0) (Nat.zero_le _) (u2 := 0) (Nat.zero_le _) (Nat.le_of_ble_eq_true rfl) (ctX6_at (f := ((w.2.2.1 1).2 8)) (pl_r8 (p := (w.2.2.1 1)) (hwP1 (w := w) hw)) (by decide) x4 ) (fun v2 h3 q4 => ?_)
      obtain ⟨rfl, rfl⟩ := q4
      refine am_iload_n dX6_setWhere_23 4 rfl ?_
      refine am_icmp_ne dX6_setWhere_24 (by decide : ((24 : Nat) : Int) + (10) = ((34 : Nat) : Int)) (fun c5 => ?_) (fun c5 => ?_)
      · refine am_iinc (v := (x4 + 1)) dX6_setWhere_34 0 rfl rfl (by decide) (lv' := [(4, .int (x4 + 1)), (3, .int x3), (0, .ref (gz G + 0)), (1, .ref (gz G + 31)), (2, .int z2)]) rfl ?_
        refine am_goto dX6_setWhere_37 (by decide : ((37 : Nat) : Int) + (-32) = ((5 : Nat) : Int)) ?_
        exact ih (x4 + 1) x3 (ivU_s c1 iv) (fun r e => kx r (Eq.trans (Eq.trans (if_neg c1) (Eq.trans (if_neg c5) (rfl))) e))
      · refine am_iload_n dX6_setWhere_27 1 rfl ?_
        refine am_iconst (v := 1) dX6_setWhere_28 (by decide) ?_
        refine am_iload dX6_setWhere_29 0 rfl ?_
        refine am_ishl dX6_setWhere_31 ?_
        refine am_ior dX6_setWhere_32 ?_
        refine am_istore_n dX6_setWhere_33 (by decide) (lv' := [(3, .int (x3 ||| ((1 : Int32) <<< (x4 &&& 31)))), (4, .int x4), (0, .ref (gz G + 0)), (1, .ref (gz G + 31)), (2, .int z2)]) rfl ?_
        refine am_iinc (v := (x4 + 1)) dX6_setWhere_34 1 rfl rfl (by decide) (lv' := [(4, .int (x4 + 1)), (3, .int (x3 ||| ((1 : Int32) <<< (x4 &&& 31)))), (0, .ref (gz G + 0)), (1, .ref (gz G + 31)), (2, .int z2)]) rfl ?_
        refine am_goto dX6_setWhere_37 (by decide : ((37 : Nat) : Int) + (-32) = ((5 : Nat) : Int)) ?_
        exact ih (x4 + 1) (x3 ||| ((1 : Int32) <<< (x4 &&& 31))) (ivU_s c1 iv) (fun r e => kx r (Eq.trans (Eq.trans (if_neg c1) (Eq.trans (if_pos c5) (rfl))) e))
def fX6_setWhere_31 (w : Wd) (z2 : Int32) : Int32 := (bnd (fX6_setWhere_31_5 z2  w (fuU ((w.2.2.1 1).1 8) 0) 0 0 ) (fun r6 => r6.2))
set_option maxRecDepth 20000 in
theorem ctX6_setWhere_31 {l : Launch} {G : GM} {K : Nat → Option va_E} {h : List va_E} {w : Wd} (hw : HW G K h w) (z2 : Int32) : Ct l G mX6_setWhere 1 0 0 [.ref (gz G + 0), .ref (gz G + 31), .int z2] h (fun v h1 => v = some (.int (fX6_setWhere_31 w z2)) ∧ h1 = h) := by
  show Tr l G mX6_setWhere 1 0 0 0 [(0, .ref (gz G + 0)), (1, .ref (gz G + 31)), (2, .int z2)] [] h _
  refine am_iconst (v := 0) dX6_setWhere_0 (by decide) ?_
  refine am_istore_n dX6_setWhere_1 (by decide) (lv' := [(3, .int 0), (0, .ref (gz G + 0)), (1, .ref (gz G + 31)), (2, .int z2)]) rfl ?_
  refine am_iconst (v := 0) dX6_setWhere_2 (by decide) ?_
  refine am_istore dX6_setWhere_3 (by decide) (lv' := [(4, .int 0), (3, .int 0), (0, .ref (gz G + 0)), (1, .ref (gz G + 31)), (2, .int z2)]) rfl ?_
  refine wX6_setWhere_31_5 z2   hw (fuU ((w.2.2.1 1).1 8) 0) 0 0 ivU_i (fun r6 e7 => ?_)
  refine am_iload_n dX6_setWhere_40 1 rfl ?_
  rw [show (fX6_setWhere_31 w z2) = r6.2 from bnd_eq e7 (rfl)]
  exact am_ireturn dX6_setWhere_41 rfl rfl ⟨rfl, rfl⟩

def fX6_ofYarn (w : Wd) (z1 : Int32) : Int32 := (if z1 < 0 then (-2) else (if z1 < ((w.2.2.1 1).1 0) then (fX6_setWhere_31 w z1) else (-2)))
def fX6_stretchLimit (w : Wd) (z1 : Int32) : Int32 := (if (fX6_isPiece w z1) = 0 then (-2) else (fX5_stretchOf (w.2.2.1 1) z1))
def fX6_longestShape (w : Wd) (z1 : Int32) : Int32 := (if (fX6_isPiece w z1) = 0 then (-2) else (fX5_reachOf (w.2.2.1 1) z1))
theorem dX6_isShape_0 : decode cX6_isShape 0 = .ok (.iload_n 1, 1) := by decide +kernel
theorem dX6_isShape_1 : decode cX6_isShape 1 = .ok (.ifCond .lt 21, 3) := by decide +kernel
theorem dX6_isShape_4 : decode cX6_isShape 4 = .ok (.iload_n 1, 1) := by decide +kernel
theorem dX6_isShape_5 : decode cX6_isShape 5 = .ok (.aload_n 0, 1) := by decide +kernel
theorem dX6_isShape_6 : decode cX6_isShape 6 = .ok (.getfield 33, 3) := by decide +kernel
theorem dX6_isShape_9 : decode cX6_isShape 9 = .ok (.getfield 96, 3) := by decide +kernel
theorem dX6_isShape_12 : decode cX6_isShape 12 = .ok (.getfield 114, 3) := by decide +kernel
theorem dX6_isShape_15 : decode cX6_isShape 15 = .ok (.if_icmp .ge 7, 3) := by decide +kernel
theorem dX6_isShape_18 : decode cX6_isShape 18 = .ok (.iconst 1, 1) := by decide +kernel
theorem dX6_isShape_19 : decode cX6_isShape 19 = .ok (.goto 4, 3) := by decide +kernel
theorem dX6_isShape_22 : decode cX6_isShape 22 = .ok (.iconst 0, 1) := by decide +kernel
theorem dX6_isShape_23 : decode cX6_isShape 23 = .ok (.ireturn, 1) := by decide +kernel
def fX6_isShape (w : Wd) (z1 : Int32) : Int32 := (if z1 < 0 then 0 else (if ((w.2.2.1 1).1 1) ≤ z1 then 0 else 1))
set_option maxRecDepth 20000 in
theorem ctX6_isShape {l : Launch} {G : GM} {K : Nat → Option va_E} {h : List va_E} {w : Wd} (hw : HW G K h w) (z1 : Int32) : Ct l G mX6_isShape 0 0 0 [.ref (gz G + 0), .int z1] h (fun v h1 => v = some (.int (fX6_isShape w z1)) ∧ h1 = h) := by
  show Tr l G mX6_isShape 0 0 0 0 [(0, .ref (gz G + 0)), (1, .int z1)] [] h _
  refine am_iload_n dX6_isShape_0 1 rfl ?_
  refine am_if_lt dX6_isShape_1 (by decide : ((1 : Nat) : Int) + (21) = ((22 : Nat) : Int)) (fun c1 => ?_) (fun c1 => ?_)
  · refine am_iconst (v := 0) dX6_isShape_22 (by decide) ?_
    rw [show (fX6_isShape w z1) = 0 from Eq.trans (if_pos c1) (rfl)]
    exact am_ireturn dX6_isShape_23 rfl rfl ⟨rfl, rfl⟩
  · refine am_iload_n dX6_isShape_4 1 rfl ?_
    refine am_aload_n dX6_isShape_5 0 rfl ?_
    refine am_get (v := .ref (gz G + 21)) dX6_isShape_6 kGX6_33 (hwc0 (w := w) hw) rfl ?_
    refine am_get (v := .ref (gz G + 22)) dX6_isShape_9 kGX6_96 (pl_0 (p := (w.2.2.1 1)) (hwP1 (w := w) hw)) rfl ?_
    refine am_get (v := .int ((w.2.2.1 1).1 1)) dX6_isShape_12 kGX6_114 (pl_1 (p := (w.2.2.1 1)) (hwP1 (w := w) hw)) rfl ?_
    refine am_icmp_ge dX6_isShape_15 (by decide : ((15 : Nat) : Int) + (7) = ((22 : Nat) : Int)) (fun c2 => ?_) (fun c2 => ?_)
    · refine am_iconst (v := 0) dX6_isShape_22 (by decide) ?_
      rw [show (fX6_isShape w z1) = 0 from Eq.trans (if_neg c1) (Eq.trans (if_pos c2) (rfl))]
      exact am_ireturn dX6_isShape_23 rfl rfl ⟨rfl, rfl⟩
    · refine am_iconst (v := 1) dX6_isShape_18 (by decide) ?_
      refine am_goto dX6_isShape_19 (by decide : ((19 : Nat) : Int) + (4) = ((23 : Nat) : Int)) ?_
      rw [show (fX6_isShape w z1) = 1 from Eq.trans (if_neg c1) (Eq.trans (if_neg c2) (rfl))]
      exact am_ireturn dX6_isShape_23 rfl rfl ⟨rfl, rfl⟩

def fX6_ifBoarded (w : Wd) (z1 : Int32) (z2 : Int32) : Int32 := (if (fX6_isPiece w z1) = 0 then (-2) else (if (fX6_isShape w z2) = 0 then (-2) else (if (fX5_canBeBoarded (w.2.2.1 1) z1) = 0 then (-6) else (fX5_lengthOn (w.2.2.1 1) z1 z2))))
def fX6_shapeFor_46 (z1 : Int32) (z2 : Int32)  (w : Wd) : Nat → Int32 → Int32 → Int32 → Int32 × Int32 × Int32
  | 0, x5, x4, x3 => (x5, x4, x3)
  | fu + 1, x5, x4, x3 => (if ((w.2.2.1 1).1 1) ≤ x5 then (x5, x4, x3) else (if (fX5_lengthOn (w.2.2.1 1) z1 x5) = (-1) then (fX6_shapeFor_46 z1 z2  w fu (x5 + 1) x4 x3 ) else (if x3 = (-1) then (fX6_shapeFor_46 z1 z2  w fu (x5 + 1) (iab ((fX5_lengthOn (w.2.2.1 1) z1 x5) - z2)) x5 ) else (if x4 ≤ (iab ((fX5_lengthOn (w.2.2.1 1) z1 x5) - z2)) then (fX6_shapeFor_46 z1 z2  w fu (x5 + 1) x4 x3 ) else (fX6_shapeFor_46 z1 z2  w fu (x5 + 1) (iab ((fX5_lengthOn (w.2.2.1 1) z1 x5) - z2)) x5 )))))
def fX6_shapeFor (w : Wd) (z1 : Int32) (z2 : Int32) : Int32 := (if (fX6_isPiece w z1) = 0 then (-2) else (if (fX6_isBetween z2 500 9999) = 0 then (-2) else (if (fX5_canBeBoarded (w.2.2.1 1) z1) = 0 then (-6) else (bnd (fX6_shapeFor_46 z1 z2  w (fuU ((w.2.2.1 1).1 1) 0) 0 0 (-1) ) (fun r20 => r20.2.2)))))
def fX6_sizeOf (w : Wd) (z1 : Int32) : Int32 := (if (fX6_isPiece w z1) = 0 then (-2) else (fX5_sizeOfPiece (w.2.2.1 1) z1))
def fX6_isSize (w : Wd) (z1 : Int32) : Int32 := (if z1 < 0 then 0 else (if ((w.2.2.1 1).1 2) ≤ z1 then 0 else 1))
def fX6_ofSize_15 (z1 : Int32)  (w : Wd) : Nat → Int32 → Int32 → Int32 × Int32
  | 0, x3, x2 => (x3, x2)
  | fu + 1, x3, x2 => (if ((w.2.2.1 1).1 8) ≤ x3 then (x3, x2) else (if (fX5_sizeOfPiece (w.2.2.1 1) x3) = z1 then (fX6_ofSize_15 z1  w fu (x3 + 1) (x2 ||| ((1 : Int32) <<< (x3 &&& 31))) ) else (fX6_ofSize_15 z1  w fu (x3 + 1) x2 )))
def fX6_ofSize (w : Wd) (z1 : Int32) : Int32 := (if (fX6_isSize w z1) = 0 then (-2) else (bnd (fX6_ofSize_15 z1  w (fuU ((w.2.2.1 1).1 8) 0) 0 0 ) (fun r10 => r10.2)))
def fX6_sorted_9 (z1 : Int32)  (w : Wd) : Nat → Int32 → Int32
  | 0, _ => 0
  | fu + 1, x2 => (if ((w.2.2.1 1).1 8) ≤ x2 then (-1) else (if (fX5_rankOf (w.2.2.1 1) x2) = z1 then x2 else (fX6_sorted_9 z1  w fu (x2 + 1) )))
def fX6_sorted (w : Wd) (z1 : Int32) : Int32 := (if 0 ≤ z1 then (fX6_sorted_9 z1  w (fuU ((w.2.2.1 1).1 8) 0) 0 ) else (-2))
def fX6_lengthRange_8   (w : Wd) : Nat → Int32 → Int32 → Int32 → Int32 × Int32 × Int32
  | 0, x3, x2, x1 => (x3, x2, x1)
  | fu + 1, x3, x2, x1 => (if ((w.2.2.1 1).1 8) ≤ x3 then (x3, x2, x1) else (if (fX5_isBoarded (w.2.2.1 1) x3) = 0 then (fX6_lengthRange_8   w fu (x3 + 1) x2 x1 ) else (fX6_lengthRange_8   w fu (x3 + 1) (imx x2 (fX6_at 14 ((w.2.2.1 1).2 11) x3)) (imn x1 (fX6_at 14 ((w.2.2.1 1).2 11) x3)) )))
def fX6_lengthRange (w : Wd)  : Int32 := (bnd (fX6_lengthRange_8   w (fuU ((w.2.2.1 1).1 8) 0) 0 (-1) 9999 ) (fun r12 => (if r12.2.1 = (-1) then (-1) else (r12.2.1 - r12.2.2))))
def fX6_board (w : Wd) (z1 : Int32) (z2 : Int32) : Int32 × Wd := (if (fX6_isPiece w z1) = 0 then ((-2), w) else (if (fX6_isShape w z2) = 0 then ((-2), w) else (if (fX5_canBeBoarded (w.2.2.1 1) z1) = 0 then ((-6), w) else (if (fX5_isBoarded (w.2.2.1 1) z1) = 0 then (bnd (fX6_beforeChange w ) (fun r20 => (bnd (fX5_boardOn (r20.2.2.1 1) z1 z2) (fun r26 => ((fX6_at 14 (r26.2.2 13) z1), (wP r20 1 r26.2)))))) else (if (fX5_lengthOn (w.2.2.1 1) z1 z2) = (fX6_at 14 ((w.2.2.1 1).2 11) z1) then ((fX6_at 14 ((w.2.2.1 1).2 13) z1), w) else (bnd (fX6_beforeChange w ) (fun r47 => (bnd (fX5_boardOn (r47.2.2.1 1) z1 z2) (fun r53 => ((fX6_at 14 (r53.2.2 13) z1), (wP r47 1 r53.2)))))))))))
theorem dX6_boardAll_0 : decode cX6_boardAll 0 = .ok (.aload_n 0, 1) := by decide +kernel
theorem dX6_boardAll_1 : decode cX6_boardAll 1 = .ok (.iload_n 1, 1) := by decide +kernel
theorem dX6_boardAll_2 : decode cX6_boardAll 2 = .ok (.invokevirtual 172, 3) := by decide +kernel
theorem dX6_boardAll_5 : decode cX6_boardAll 5 = .ok (.ifCond .ne 6, 3) := by decide +kernel
theorem dX6_boardAll_8 : decode cX6_boardAll 8 = .ok (.bipush (-2), 2) := by decide +kernel
theorem dX6_boardAll_10 : decode cX6_boardAll 10 = .ok (.ireturn, 1) := by decide +kernel
theorem dX6_boardAll_11 : decode cX6_boardAll 11 = .ok (.aload_n 0, 1) := by decide +kernel
theorem dX6_boardAll_12 : decode cX6_boardAll 12 = .ok (.aload_n 0, 1) := by decide +kernel
theorem dX6_boardAll_13 : decode cX6_boardAll 13 = .ok (.getfield 33, 3) := by decide +kernel
theorem dX6_boardAll_16 : decode cX6_boardAll 16 = .ok (.getfield 159, 3) := by decide +kernel
theorem dX6_boardAll_19 : decode cX6_boardAll 19 = .ok (.iconst 0, 1) := by decide +kernel
theorem dX6_boardAll_20 : decode cX6_boardAll 20 = .ok (.invokevirtual 162, 3) := by decide +kernel
theorem dX6_boardAll_23 : decode cX6_boardAll 23 = .ok (.ifCond .ne 5, 3) := by decide +kernel
theorem dX6_boardAll_26 : decode cX6_boardAll 26 = .ok (.iconst (-1), 1) := by decide +kernel
theorem dX6_boardAll_27 : decode cX6_boardAll 27 = .ok (.ireturn, 1) := by decide +kernel
theorem dX6_boardAll_28 : decode cX6_boardAll 28 = .ok (.aload_n 0, 1) := by decide +kernel
theorem dX6_boardAll_29 : decode cX6_boardAll 29 = .ok (.invokevirtual 73, 3) := by decide +kernel
theorem dX6_boardAll_32 : decode cX6_boardAll 32 = .ok (.aload_n 0, 1) := by decide +kernel
theorem dX6_boardAll_33 : decode cX6_boardAll 33 = .ok (.getfield 33, 3) := by decide +kernel
theorem dX6_boardAll_36 : decode cX6_boardAll 36 = .ok (.iload_n 1, 1) := by decide +kernel
theorem dX6_boardAll_37 : decode cX6_boardAll 37 = .ok (.invokevirtual 213, 3) := by decide +kernel
theorem dX6_boardAll_40 : decode cX6_boardAll 40 = .ok (.ireturn, 1) := by decide +kernel
def fX6_boardAll (w : Wd) (z1 : Int32) : Int32 × Wd := (if (fX6_isShape w z1) = 0 then ((-2), w) else (if (fX6_setWhere_36 w 0) = 0 then ((-1), w) else (bnd (fX6_beforeChange w ) (fun r12 => (bnd (fX5_boardRaw (r12.2.2.1 1) z1) (fun r18 => (r18.1, (wP r12 1 r18.2))))))))
set_option maxRecDepth 20000 in
theorem ctX6_boardAll {l : Launch} {G : GM} {K : Nat → Option va_E} {h : List va_E} {w : Wd} (hw : HW G K h w) (z1 : Int32) : Ct l G mX6_boardAll 6 0 0 [.ref (gz G + 0), .int z1] h (fun v h1 => ∃ r, (fX6_boardAll w z1) = r ∧ v = some (.int r.1) ∧ HW G K h1 r.2) := by
  show Tr l G mX6_boardAll 6 0 0 0 [(0, .ref (gz G + 0)), (1, .int z1)] [] h _
  refine am_aload_n dX6_boardAll_0 0 rfl ?_
  refine am_iload_n dX6_boardAll_1 1 rfl ?_
  refine am_callV (As := [.int z1]) (rest := []) dX6_boardAll_2 kMX6_172 rfl (hwc0 (w := w) hw) rfl rfl (Nat.le_of_ble_eq_true rfl) (d2 := 0) (by decide) (k2 := 0) (Nat.zero_le _) (u2 := 0) (Nat.zero_le _) (Nat.le_of_ble_eq_true rfl) (ctX6_isShape (w := w) hw z1) (fun v1 h2 q3 => ?_)
  obtain ⟨rfl, rfl⟩ := q3
  refine am_if_ne dX6_boardAll_5 (by decide : ((5 : Nat) : Int) + (6) = ((11 : Nat) : Int)) (fun c4 => ?_) (fun c4 => ?_)
  · refine am_aload_n dX6_boardAll_11 0 rfl ?_
    refine am_aload_n dX6_boardAll_12 0 rfl ?_
    refine am_get (v := .ref (gz G + 21)) dX6_boardAll_13 kGX6_33 (hwc0 (w := w) hw) rfl ?_
    refine am_get (v := .ref (gz G + 36)) dX6_boardAll_16 kGX6_159 (pl_0 (p := (w.2.2.1 1)) (hwP1 (w := w) hw)) rfl ?_
    refine am_iconst (v := 0) dX6_boardAll_19 (by decide) ?_
    refine am_callV (As := [.ref (gz G + 36), .int 0]) (rest := []) dX6_boardAll_20 kMX6_162 rfl (hwc0 (w := w) hw) rfl rfl (Nat.le_of_ble_eq_true rfl) (d2 := 1) (by decide) (k2 := 0) (Nat.zero_le _) (u2 := 0) (Nat.zero_le _) (Nat.le_of_ble_eq_true rfl) (ctX6_setWhere_36 (w := w) hw 0) (fun v5 h6 q7 => ?_)
    obtain ⟨rfl, rfl⟩ := q7
    refine am_if_ne dX6_boardAll_23 (by decide : ((23 : Nat) : Int) + (5) = ((28 : Nat) : Int)) (fun c8 => ?_) (fun c8 => ?_)
    · refine am_aload_n dX6_boardAll_28 0 rfl ?_
      refine am_callV (As := []) (rest := []) dX6_boardAll_29 kMX6_73 rfl (hwc0 (w := w) hw) rfl rfl (Nat.le_of_ble_eq_true rfl) (d2 := 5) (by decide) (k2 := 0) (Nat.zero_le _) (u2 := 0) (Nat.zero_le _) (Nat.le_of_ble_eq_true rfl) (ctX6_beforeChange (w := w) hw ) (fun v9 h10 q11 => ?_)
      obtain ⟨r12, e13, rfl, w14⟩ := q11
      refine am_aload_n dX6_boardAll_32 0 rfl ?_
      refine am_get (v := .ref (gz G + 21)) dX6_boardAll_33 kGX6_33 (hwc0 (w := r12) w14) rfl ?_
      refine am_iload_n dX6_boardAll_36 1 rfl ?_
      refine am_callV (As := [.int z1]) (rest := []) dX6_boardAll_37 kMX6_213 rfl (pl_0 (p := (r12.2.2.1 1)) (hwP1 (w := r12) w14)) rfl rfl (Nat.le_of_ble_eq_true rfl) (d2 := 5) (by decide) (k2 := 0) (Nat.zero_le _) (u2 := 0) (Nat.zero_le _) (Nat.le_of_ble_eq_true rfl) (ctX5_boardRaw (p := (r12.2.2.1 1)) (hwP1 (w := r12) w14) z1) (fun v15 h16 q17 => ?_)
      obtain ⟨r18, e19, rfl, w20, w21⟩ := q17
      have w22 := hwPu w14 (i := 1) (by decide) w20 w21
      exact am_ireturn dX6_boardAll_40 rfl rfl ⟨_, Eq.trans (if_neg c4) (Eq.trans (if_neg c8) (bnd_eq e13 (bnd_eq e19 (rfl)))), rfl, w22⟩
    · refine am_iconst (v := (-1)) dX6_boardAll_26 (by decide) ?_
      exact am_ireturn dX6_boardAll_27 rfl rfl ⟨_, Eq.trans (if_neg c4) (Eq.trans (if_pos c8) (rfl)), rfl, hw⟩
  · refine am_bipush (v := (-2)) dX6_boardAll_8 (by decide) ?_
    exact am_ireturn dX6_boardAll_10 rfl rfl ⟨_, Eq.trans (if_pos c4) (rfl), rfl, hw⟩

theorem dX6_day_0 : decode cX6_day 0 = .ok (.aload_n 0, 1) := by decide +kernel
theorem dX6_day_1 : decode cX6_day 1 = .ok (.invokevirtual 73, 3) := by decide +kernel
theorem dX6_day_4 : decode cX6_day 4 = .ok (.aload_n 0, 1) := by decide +kernel
theorem dX6_day_5 : decode cX6_day 5 = .ok (.getfield 33, 3) := by decide +kernel
theorem dX6_day_8 : decode cX6_day 8 = .ok (.invokevirtual 216, 3) := by decide +kernel
theorem dX6_day_11 : decode cX6_day 11 = .ok (.ireturn, 1) := by decide +kernel
def fX6_day (w : Wd)  : Int32 × Wd := (bnd (fX6_beforeChange w ) (fun r4 => (bnd (fX5_passDay (r4.2.2.1 1) ) (fun r10 => (r10.1, (wP r4 1 r10.2))))))
set_option maxRecDepth 20000 in
theorem ctX6_day {l : Launch} {G : GM} {K : Nat → Option va_E} {h : List va_E} {w : Wd} (hw : HW G K h w)  : Ct l G mX6_day 6 0 0 [.ref (gz G + 0)] h (fun v h1 => ∃ r, (fX6_day w ) = r ∧ v = some (.int r.1) ∧ HW G K h1 r.2) := by
  show Tr l G mX6_day 6 0 0 0 [(0, .ref (gz G + 0))] [] h _
  refine am_aload_n dX6_day_0 0 rfl ?_
  refine am_callV (As := []) (rest := []) dX6_day_1 kMX6_73 rfl (hwc0 (w := w) hw) rfl rfl (Nat.le_of_ble_eq_true rfl) (d2 := 5) (by decide) (k2 := 0) (Nat.zero_le _) (u2 := 0) (Nat.zero_le _) (Nat.le_of_ble_eq_true rfl) (ctX6_beforeChange (w := w) hw ) (fun v1 h2 q3 => ?_)
  obtain ⟨r4, e5, rfl, w6⟩ := q3
  refine am_aload_n dX6_day_4 0 rfl ?_
  refine am_get (v := .ref (gz G + 21)) dX6_day_5 kGX6_33 (hwc0 (w := r4) w6) rfl ?_
  refine am_callV (As := []) (rest := []) dX6_day_8 kMX6_216 rfl (pl_0 (p := (r4.2.2.1 1)) (hwP1 (w := r4) w6)) rfl rfl (Nat.le_of_ble_eq_true rfl) (d2 := 2) (by decide) (k2 := 0) (Nat.zero_le _) (u2 := 0) (Nat.zero_le _) (Nat.le_of_ble_eq_true rfl) (ctX5_passDay (p := (r4.2.2.1 1)) (hwP1 (w := r4) w6) ) (fun v7 h8 q9 => ?_)
  obtain ⟨r10, e11, rfl, w12, w13⟩ := q9
  have w14 := hwPu w6 (i := 1) (by decide) w12 w13
  exact am_ireturn dX6_day_11 rfl rfl ⟨_, bnd_eq e5 (bnd_eq e11 (rfl)), rfl, w14⟩

theorem dX6_dye_0 : decode cX6_dye 0 = .ok (.aload_n 0, 1) := by decide +kernel
theorem dX6_dye_1 : decode cX6_dye 1 = .ok (.iload_n 1, 1) := by decide +kernel
theorem dX6_dye_2 : decode cX6_dye 2 = .ok (.invokevirtual 138, 3) := by decide +kernel
theorem dX6_dye_5 : decode cX6_dye 5 = .ok (.ifCond .eq 14, 3) := by decide +kernel
theorem dX6_dye_8 : decode cX6_dye 8 = .ok (.iload_n 2, 1) := by decide +kernel
theorem dX6_dye_9 : decode cX6_dye 9 = .ok (.iconst 0, 1) := by decide +kernel
theorem dX6_dye_10 : decode cX6_dye 10 = .ok (.sipush 255, 3) := by decide +kernel
theorem dX6_dye_13 : decode cX6_dye 13 = .ok (.invokestatic 182, 3) := by decide +kernel
theorem dX6_dye_16 : decode cX6_dye 16 = .ok (.ifCond .ne 6, 3) := by decide +kernel
theorem dX6_dye_19 : decode cX6_dye 19 = .ok (.bipush (-2), 2) := by decide +kernel
theorem dX6_dye_21 : decode cX6_dye 21 = .ok (.ireturn, 1) := by decide +kernel
theorem dX6_dye_22 : decode cX6_dye 22 = .ok (.aload_n 0, 1) := by decide +kernel
theorem dX6_dye_23 : decode cX6_dye 23 = .ok (.getfield 33, 3) := by decide +kernel
theorem dX6_dye_26 : decode cX6_dye 26 = .ok (.getfield 159, 3) := by decide +kernel
theorem dX6_dye_29 : decode cX6_dye 29 = .ok (.iload_n 1, 1) := by decide +kernel
theorem dX6_dye_30 : decode cX6_dye 30 = .ok (.invokestatic 144, 3) := by decide +kernel
theorem dX6_dye_33 : decode cX6_dye 33 = .ok (.iconst 3, 1) := by decide +kernel
theorem dX6_dye_34 : decode cX6_dye 34 = .ok (.if_icmp .ne 6, 3) := by decide +kernel
theorem dX6_dye_37 : decode cX6_dye 37 = .ok (.bipush (-6), 2) := by decide +kernel
theorem dX6_dye_39 : decode cX6_dye 39 = .ok (.ireturn, 1) := by decide +kernel
theorem dX6_dye_40 : decode cX6_dye 40 = .ok (.aload_n 0, 1) := by decide +kernel
theorem dX6_dye_41 : decode cX6_dye 41 = .ok (.getfield 33, 3) := by decide +kernel
theorem dX6_dye_44 : decode cX6_dye 44 = .ok (.getfield 151, 3) := by decide +kernel
theorem dX6_dye_47 : decode cX6_dye 47 = .ok (.iload_n 1, 1) := by decide +kernel
theorem dX6_dye_48 : decode cX6_dye 48 = .ok (.invokestatic 144, 3) := by decide +kernel
theorem dX6_dye_51 : decode cX6_dye 51 = .ok (.istore_n 3, 1) := by decide +kernel
theorem dX6_dye_52 : decode cX6_dye 52 = .ok (.iload_n 3, 1) := by decide +kernel
theorem dX6_dye_53 : decode cX6_dye 53 = .ok (.iload_n 2, 1) := by decide +kernel
theorem dX6_dye_54 : decode cX6_dye 54 = .ok (.if_icmp .eq 19, 3) := by decide +kernel
theorem dX6_dye_57 : decode cX6_dye 57 = .ok (.aload_n 0, 1) := by decide +kernel
theorem dX6_dye_58 : decode cX6_dye 58 = .ok (.invokevirtual 73, 3) := by decide +kernel
theorem dX6_dye_61 : decode cX6_dye 61 = .ok (.aload_n 0, 1) := by decide +kernel
theorem dX6_dye_62 : decode cX6_dye 62 = .ok (.getfield 33, 3) := by decide +kernel
theorem dX6_dye_65 : decode cX6_dye 65 = .ok (.getfield 151, 3) := by decide +kernel
theorem dX6_dye_68 : decode cX6_dye 68 = .ok (.iload_n 1, 1) := by decide +kernel
theorem dX6_dye_69 : decode cX6_dye 69 = .ok (.iload_n 2, 1) := by decide +kernel
theorem dX6_dye_70 : decode cX6_dye 70 = .ok (.invokestatic 220, 3) := by decide +kernel
theorem dX6_dye_73 : decode cX6_dye 73 = .ok (.iload_n 3, 1) := by decide +kernel
theorem dX6_dye_74 : decode cX6_dye 74 = .ok (.ireturn, 1) := by decide +kernel
def fX6_dye (w : Wd) (z1 : Int32) (z2 : Int32) : Int32 × Wd := (if (fX6_isPiece w z1) = 0 then ((-2), w) else (if (fX6_isBetween z2 0 255) = 0 then ((-2), w) else (if (fX6_at 14 ((w.2.2.1 1).2 13) z1) = 3 then ((-6), w) else (if (fX6_at 14 ((w.2.2.1 1).2 12) z1) = z2 then ((fX6_at 14 ((w.2.2.1 1).2 12) z1), w) else (bnd (fX6_beforeChange w ) (fun r20 => ((fX6_at 14 ((w.2.2.1 1).2 12) z1), (wP r20 1 (upR (r20.2.2.1 1) 12 (fX6_put 14 ((r20.2.2.1 1).2 12) z1 z2))))))))))
set_option maxRecDepth 20000 in
theorem ctX6_dye {l : Launch} {G : GM} {K : Nat → Option va_E} {h : List va_E} {w : Wd} (hw : HW G K h w) (z1 : Int32) (z2 : Int32) : Ct l G mX6_dye 6 0 0 [.ref (gz G + 0), .int z1, .int z2] h (fun v h1 => ∃ r, (fX6_dye w z1 z2) = r ∧ v = some (.int r.1) ∧ HW G K h1 r.2) := by
  show Tr l G mX6_dye 6 0 0 0 [(0, .ref (gz G + 0)), (1, .int z1), (2, .int z2)] [] h _
  refine am_aload_n dX6_dye_0 0 rfl ?_
  refine am_iload_n dX6_dye_1 1 rfl ?_
  refine am_callV (As := [.int z1]) (rest := []) dX6_dye_2 kMX6_138 rfl (hwc0 (w := w) hw) rfl rfl (Nat.le_of_ble_eq_true rfl) (d2 := 0) (by decide) (k2 := 0) (Nat.zero_le _) (u2 := 0) (Nat.zero_le _) (Nat.le_of_ble_eq_true rfl) (ctX6_isPiece (w := w) hw z1) (fun v1 h2 q3 => ?_)
  obtain ⟨rfl, rfl⟩ := q3
  refine am_if_eq dX6_dye_5 (by decide : ((5 : Nat) : Int) + (14) = ((19 : Nat) : Int)) (fun c4 => ?_) (fun c4 => ?_)
  · refine am_bipush (v := (-2)) dX6_dye_19 (by decide) ?_
    exact am_ireturn dX6_dye_21 rfl rfl ⟨_, Eq.trans (if_pos c4) (rfl), rfl, hw⟩
  · refine am_iload_n dX6_dye_8 2 rfl ?_
    refine am_iconst (v := 0) dX6_dye_9 (by decide) ?_
    refine am_sipush (v := 255) dX6_dye_10 (by decide) ?_
    refine am_callS (As := [.int z2, .int 0, .int 255]) (rest := []) dX6_dye_13 kMX6_182 rfl  rfl (Nat.le_of_ble_eq_true rfl) (d2 := 0) (by decide) (k2 := 0) (Nat.zero_le _) (u2 := 0) (Nat.zero_le _) (Nat.le_of_ble_eq_true rfl) (ctX6_isBetween  z2 0 255 ) (fun v5 h6 q7 => ?_)
    obtain ⟨rfl, rfl⟩ := q7
    refine am_if_ne dX6_dye_16 (by decide : ((16 : Nat) : Int) + (6) = ((22 : Nat) : Int)) (fun c8 => ?_) (fun c8 => ?_)
    · refine am_aload_n dX6_dye_22 0 rfl ?_
      refine am_get (v := .ref (gz G + 21)) dX6_dye_23 kGX6_33 (hwc0 (w := w) hw) rfl ?_
      refine am_get (v := .ref (gz G + 36)) dX6_dye_26 kGX6_159 (pl_0 (p := (w.2.2.1 1)) (hwP1 (w := w) hw)) rfl ?_
      refine am_iload_n dX6_dye_29 1 rfl ?_
      refine am_callS (As := [.ref (gz G + 36), .int z1]) (rest := []) dX6_dye_30 kMX6_144 rfl  rfl (Nat.le_of_ble_eq_true rfl) (d2 := 0) (by decide) (k2 := 0) (Nat.zero_le _) (u2 := 0) (Nat.zero_le _) (Nat.le_of_ble_eq_true rfl) (ctX6_at (f := ((w.2.2.1 1).2 13)) (pl_r13 (p := (w.2.2.1 1)) (hwP1 (w := w) hw)) (by decide) z1 ) (fun v9 h10 q11 => ?_)
      obtain ⟨rfl, rfl⟩ := q11
      refine am_iconst (v := 3) dX6_dye_33 (by decide) ?_
      refine am_icmp_ne dX6_dye_34 (by decide : ((34 : Nat) : Int) + (6) = ((40 : Nat) : Int)) (fun c12 => ?_) (fun c12 => ?_)
      · refine am_aload_n dX6_dye_40 0 rfl ?_
        refine am_get (v := .ref (gz G + 21)) dX6_dye_41 kGX6_33 (hwc0 (w := w) hw) rfl ?_
        refine am_get (v := .ref (gz G + 35)) dX6_dye_44 kGX6_151 (pl_0 (p := (w.2.2.1 1)) (hwP1 (w := w) hw)) rfl ?_
        refine am_iload_n dX6_dye_47 1 rfl ?_
        refine am_callS (As := [.ref (gz G + 35), .int z1]) (rest := []) dX6_dye_48 kMX6_144 rfl  rfl (Nat.le_of_ble_eq_true rfl) (d2 := 0) (by decide) (k2 := 0) (Nat.zero_le _) (u2 := 0) (Nat.zero_le _) (Nat.le_of_ble_eq_true rfl) (ctX6_at (f := ((w.2.2.1 1).2 12)) (pl_r12 (p := (w.2.2.1 1)) (hwP1 (w := w) hw)) (by decide) z1 ) (fun v13 h14 q15 => ?_)
        obtain ⟨rfl, rfl⟩ := q15
        refine am_istore_n dX6_dye_51 (by decide) (lv' := [(3, .int (fX6_at 14 ((w.2.2.1 1).2 12) z1)), (0, .ref (gz G + 0)), (1, .int z1), (2, .int z2)]) rfl ?_
        refine am_iload_n dX6_dye_52 0 rfl ?_
        refine am_iload_n dX6_dye_53 3 rfl ?_
        refine am_icmp_eq dX6_dye_54 (by decide : ((54 : Nat) : Int) + (19) = ((73 : Nat) : Int)) (fun c16 => ?_) (fun c16 => ?_)
        · refine am_iload_n dX6_dye_73 0 rfl ?_
          exact am_ireturn dX6_dye_74 rfl rfl ⟨_, Eq.trans (if_neg c4) (Eq.trans (if_neg c8) (Eq.trans (if_neg c12) (Eq.trans (if_pos c16) (rfl)))), rfl, hw⟩
        · refine am_aload_n dX6_dye_57 1 rfl ?_
          refine am_callV (As := []) (rest := []) dX6_dye_58 kMX6_73 rfl (hwc0 (w := w) hw) rfl rfl (Nat.le_of_ble_eq_true rfl) (d2 := 5) (by decide) (k2 := 0) (Nat.zero_le _) (u2 := 0) (Nat.zero_le _) (Nat.le_of_ble_eq_true rfl) (ctX6_beforeChange (w := w) hw ) (fun v17 h18 q19 => ?_)
          obtain ⟨r20, e21, rfl, w22⟩ := q19
          refine am_aload_n dX6_dye_61 1 rfl ?_
          refine am_get (v := .ref (gz G + 21)) dX6_dye_62 kGX6_33 (hwc0 (w := r20) w22) rfl ?_
          refine am_get (v := .ref (gz G + 35)) dX6_dye_65 kGX6_151 (pl_0 (p := (r20.2.2.1 1)) (hwP1 (w := r20) w22)) rfl ?_
          refine am_iload_n dX6_dye_68 2 rfl ?_
          refine am_iload_n dX6_dye_69 3 rfl ?_
          refine am_callS (As := [.ref (gz G + 35), .int z1, .int z2]) (rest := []) dX6_dye_70 kMX6_220 rfl  rfl (Nat.le_of_ble_eq_true rfl) (d2 := 0) (by decide) (k2 := 0) (Nat.zero_le _) (u2 := 0) (Nat.zero_le _) (Nat.le_of_ble_eq_true rfl) (ctX6_put (f := ((r20.2.2.1 1).2 12)) (pl_r12 (p := (r20.2.2.1 1)) (hwP1 (w := r20) w22)) (by decide) z1 z2) (fun v23 h24 q25 => ?_)
          obtain ⟨rfl, rfl⟩ := q25
          have w26 := hwPu w22 (i := 1) (by decide) (p := (upR (r20.2.2.1 1) 12 (fX6_put 14 ((r20.2.2.1 1).2 12) z1 z2))) (pl_u12 (hwP1 (w := r20) w22) (fX6_put 14 ((r20.2.2.1 1).2 12) z1 z2)) (Fr.set Fr.rf (a := 35) (S := fun q => pb 1 ≤ q ∧ q < pb 1 + 16) (by decide))
          refine am_iload_n dX6_dye_73 0 rfl ?_
          exact am_ireturn dX6_dye_74 rfl rfl ⟨_, Eq.trans (if_neg c4) (Eq.trans (if_neg c8) (Eq.trans (if_neg c12) (Eq.trans (if_neg c16) (bnd_eq e21 (rfl))))), rfl, w26⟩
      · refine am_bipush (v := (-6)) dX6_dye_37 (by decide) ?_
        exact am_ireturn dX6_dye_39 rfl rfl ⟨_, Eq.trans (if_neg c4) (Eq.trans (if_neg c8) (Eq.trans (if_pos c12) (rfl))), rfl, hw⟩
    · refine am_bipush (v := (-2)) dX6_dye_19 (by decide) ?_
      exact am_ireturn dX6_dye_21 rfl rfl ⟨_, Eq.trans (if_neg c4) (Eq.trans (if_pos c8) (rfl)), rfl, hw⟩

theorem dX6_areTolerances_0 : decode cX6_areTolerances 0 = .ok (.iload_n 0, 1) := by decide +kernel
theorem dX6_areTolerances_1 : decode cX6_areTolerances 1 = .ok (.iconst 0, 1) := by decide +kernel
theorem dX6_areTolerances_2 : decode cX6_areTolerances 2 = .ok (.sipush 500, 3) := by decide +kernel
theorem dX6_areTolerances_5 : decode cX6_areTolerances 5 = .ok (.invokestatic 182, 3) := by decide +kernel
theorem dX6_areTolerances_8 : decode cX6_areTolerances 8 = .ok (.ifCond .eq 18, 3) := by decide +kernel
theorem dX6_areTolerances_11 : decode cX6_areTolerances 11 = .ok (.iload_n 1, 1) := by decide +kernel
theorem dX6_areTolerances_12 : decode cX6_areTolerances 12 = .ok (.iconst 0, 1) := by decide +kernel
theorem dX6_areTolerances_13 : decode cX6_areTolerances 13 = .ok (.sipush 255, 3) := by decide +kernel
theorem dX6_areTolerances_16 : decode cX6_areTolerances 16 = .ok (.invokestatic 182, 3) := by decide +kernel
theorem dX6_areTolerances_19 : decode cX6_areTolerances 19 = .ok (.ifCond .eq 7, 3) := by decide +kernel
theorem dX6_areTolerances_22 : decode cX6_areTolerances 22 = .ok (.iconst 1, 1) := by decide +kernel
theorem dX6_areTolerances_23 : decode cX6_areTolerances 23 = .ok (.goto 4, 3) := by decide +kernel
theorem dX6_areTolerances_26 : decode cX6_areTolerances 26 = .ok (.iconst 0, 1) := by decide +kernel
theorem dX6_areTolerances_27 : decode cX6_areTolerances 27 = .ok (.ireturn, 1) := by decide +kernel
def fX6_areTolerances (z1 : Int32) (z2 : Int32) : Int32 := (if (fX6_isBetween z1 0 500) = 0 then 0 else (if (fX6_isBetween z2 0 255) = 0 then 0 else 1))
set_option maxRecDepth 20000 in
theorem ctX6_areTolerances {l : Launch} {G : GM} {h : List va_E} (z1 : Int32) (z2 : Int32) : Ct l G mX6_areTolerances 1 0 0 [.int z1, .int z2] h (fun v h1 => v = some (.int (fX6_areTolerances z1 z2)) ∧ h1 = h) := by
  show Tr l G mX6_areTolerances 1 0 0 0 [(0, .int z1), (1, .int z2)] [] h _
  refine am_iload_n dX6_areTolerances_0 0 rfl ?_
  refine am_iconst (v := 0) dX6_areTolerances_1 (by decide) ?_
  refine am_sipush (v := 500) dX6_areTolerances_2 (by decide) ?_
  refine am_callS (As := [.int z1, .int 0, .int 500]) (rest := []) dX6_areTolerances_5 kMX6_182 rfl  rfl (Nat.le_of_ble_eq_true rfl) (d2 := 0) (by decide) (k2 := 0) (Nat.zero_le _) (u2 := 0) (Nat.zero_le _) (Nat.le_of_ble_eq_true rfl) (ctX6_isBetween  z1 0 500 ) (fun v1 h2 q3 => ?_)
  obtain ⟨rfl, rfl⟩ := q3
  refine am_if_eq dX6_areTolerances_8 (by decide : ((8 : Nat) : Int) + (18) = ((26 : Nat) : Int)) (fun c4 => ?_) (fun c4 => ?_)
  · refine am_iconst (v := 0) dX6_areTolerances_26 (by decide) ?_
    rw [show (fX6_areTolerances z1 z2) = 0 from Eq.trans (if_pos c4) (rfl)]
    exact am_ireturn dX6_areTolerances_27 rfl rfl ⟨rfl, rfl⟩
  · refine am_iload_n dX6_areTolerances_11 1 rfl ?_
    refine am_iconst (v := 0) dX6_areTolerances_12 (by decide) ?_
    refine am_sipush (v := 255) dX6_areTolerances_13 (by decide) ?_
    refine am_callS (As := [.int z2, .int 0, .int 255]) (rest := []) dX6_areTolerances_16 kMX6_182 rfl  rfl (Nat.le_of_ble_eq_true rfl) (d2 := 0) (by decide) (k2 := 0) (Nat.zero_le _) (u2 := 0) (Nat.zero_le _) (Nat.le_of_ble_eq_true rfl) (ctX6_isBetween  z2 0 255 ) (fun v5 h6 q7 => ?_)
    obtain ⟨rfl, rfl⟩ := q7
    refine am_if_eq dX6_areTolerances_19 (by decide : ((19 : Nat) : Int) + (7) = ((26 : Nat) : Int)) (fun c8 => ?_) (fun c8 => ?_)
    · refine am_iconst (v := 0) dX6_areTolerances_26 (by decide) ?_
      rw [show (fX6_areTolerances z1 z2) = 0 from Eq.trans (if_neg c4) (Eq.trans (if_pos c8) (rfl))]
      exact am_ireturn dX6_areTolerances_27 rfl rfl ⟨rfl, rfl⟩
    · refine am_iconst (v := 1) dX6_areTolerances_22 (by decide) ?_
      refine am_goto dX6_areTolerances_23 (by decide : ((23 : Nat) : Int) + (4) = ((27 : Nat) : Int)) ?_
      rw [show (fX6_areTolerances z1 z2) = 1 from Eq.trans (if_neg c4) (Eq.trans (if_neg c8) (rfl))]
      exact am_ireturn dX6_areTolerances_27 rfl rfl ⟨rfl, rfl⟩

theorem dX6_setTolerance_0 : decode cX6_setTolerance 0 = .ok (.iload_n 1, 1) := by decide +kernel
theorem dX6_setTolerance_1 : decode cX6_setTolerance 1 = .ok (.iload_n 2, 1) := by decide +kernel
theorem dX6_setTolerance_2 : decode cX6_setTolerance 2 = .ok (.invokestatic 224, 3) := by decide +kernel
theorem dX6_setTolerance_5 : decode cX6_setTolerance 5 = .ok (.ifCond .ne 6, 3) := by decide +kernel
theorem dX6_setTolerance_8 : decode cX6_setTolerance 8 = .ok (.bipush (-2), 2) := by decide +kernel
theorem dX6_setTolerance_10 : decode cX6_setTolerance 10 = .ok (.ireturn, 1) := by decide +kernel
theorem dX6_setTolerance_11 : decode cX6_setTolerance 11 = .ok (.aload_n 0, 1) := by decide +kernel
theorem dX6_setTolerance_12 : decode cX6_setTolerance 12 = .ok (.getfield 33, 3) := by decide +kernel
theorem dX6_setTolerance_15 : decode cX6_setTolerance 15 = .ok (.getfield 129, 3) := by decide +kernel
theorem dX6_setTolerance_18 : decode cX6_setTolerance 18 = .ok (.istore_n 3, 1) := by decide +kernel
theorem dX6_setTolerance_19 : decode cX6_setTolerance 19 = .ok (.iload_n 3, 1) := by decide +kernel
theorem dX6_setTolerance_20 : decode cX6_setTolerance 20 = .ok (.iload_n 1, 1) := by decide +kernel
theorem dX6_setTolerance_21 : decode cX6_setTolerance 21 = .ok (.if_icmp .ne 14, 3) := by decide +kernel
theorem dX6_setTolerance_24 : decode cX6_setTolerance 24 = .ok (.aload_n 0, 1) := by decide +kernel
theorem dX6_setTolerance_25 : decode cX6_setTolerance 25 = .ok (.getfield 33, 3) := by decide +kernel
theorem dX6_setTolerance_28 : decode cX6_setTolerance 28 = .ok (.getfield 132, 3) := by decide +kernel
theorem dX6_setTolerance_31 : decode cX6_setTolerance 31 = .ok (.iload_n 2, 1) := by decide +kernel
theorem dX6_setTolerance_32 : decode cX6_setTolerance 32 = .ok (.if_icmp .eq 23, 3) := by decide +kernel
theorem dX6_setTolerance_35 : decode cX6_setTolerance 35 = .ok (.aload_n 0, 1) := by decide +kernel
theorem dX6_setTolerance_36 : decode cX6_setTolerance 36 = .ok (.invokevirtual 73, 3) := by decide +kernel
theorem dX6_setTolerance_39 : decode cX6_setTolerance 39 = .ok (.aload_n 0, 1) := by decide +kernel
theorem dX6_setTolerance_40 : decode cX6_setTolerance 40 = .ok (.getfield 33, 3) := by decide +kernel
theorem dX6_setTolerance_43 : decode cX6_setTolerance 43 = .ok (.iload_n 1, 1) := by decide +kernel
theorem dX6_setTolerance_44 : decode cX6_setTolerance 44 = .ok (.putfield 129, 3) := by decide +kernel
theorem dX6_setTolerance_47 : decode cX6_setTolerance 47 = .ok (.aload_n 0, 1) := by decide +kernel
theorem dX6_setTolerance_48 : decode cX6_setTolerance 48 = .ok (.getfield 33, 3) := by decide +kernel
theorem dX6_setTolerance_51 : decode cX6_setTolerance 51 = .ok (.iload_n 2, 1) := by decide +kernel
theorem dX6_setTolerance_52 : decode cX6_setTolerance 52 = .ok (.putfield 132, 3) := by decide +kernel
theorem dX6_setTolerance_55 : decode cX6_setTolerance 55 = .ok (.iload_n 3, 1) := by decide +kernel
theorem dX6_setTolerance_56 : decode cX6_setTolerance 56 = .ok (.ireturn, 1) := by decide +kernel
def fX6_setTolerance (w : Wd) (z1 : Int32) (z2 : Int32) : Int32 × Wd := (if (fX6_areTolerances z1 z2) = 0 then ((-2), w) else (if ((w.2.2.1 1).1 3) = z1 then (if ((w.2.2.1 1).1 4) = z2 then (((w.2.2.1 1).1 3), w) else (bnd (fX6_beforeChange w ) (fun r18 => (((w.2.2.1 1).1 3), (wP (wP r18 1 (upS (r18.2.2.1 1) 3 z1)) 1 (upS (upS (r18.2.2.1 1) 3 z1) 4 z2)))))) else (bnd (fX6_beforeChange w ) (fun r9 => (((w.2.2.1 1).1 3), (wP (wP r9 1 (upS (r9.2.2.1 1) 3 z1)) 1 (upS (upS (r9.2.2.1 1) 3 z1) 4 z2)))))))
set_option maxRecDepth 20000 in
theorem ctX6_setTolerance {l : Launch} {G : GM} {K : Nat → Option va_E} {h : List va_E} {w : Wd} (hw : HW G K h w) (z1 : Int32) (z2 : Int32) : Ct l G mX6_setTolerance 6 0 0 [.ref (gz G + 0), .int z1, .int z2] h (fun v h1 => ∃ r, (fX6_setTolerance w z1 z2) = r ∧ v = some (.int r.1) ∧ HW G K h1 r.2) := by
  show Tr l G mX6_setTolerance 6 0 0 0 [(0, .ref (gz G + 0)), (1, .int z1), (2, .int z2)] [] h _
  refine am_iload_n dX6_setTolerance_0 1 rfl ?_
  refine am_iload_n dX6_setTolerance_1 2 rfl ?_
  refine am_callS (As := [.int z1, .int z2]) (rest := []) dX6_setTolerance_2 kMX6_224 rfl  rfl (Nat.le_of_ble_eq_true rfl) (d2 := 1) (by decide) (k2 := 0) (Nat.zero_le _) (u2 := 0) (Nat.zero_le _) (Nat.le_of_ble_eq_true rfl) (ctX6_areTolerances  z1 z2 ) (fun v1 h2 q3 => ?_)
  obtain ⟨rfl, rfl⟩ := q3
  refine am_if_ne dX6_setTolerance_5 (by decide : ((5 : Nat) : Int) + (6) = ((11 : Nat) : Int)) (fun c4 => ?_) (fun c4 => ?_)
  · refine am_aload_n dX6_setTolerance_11 0 rfl ?_
    refine am_get (v := .ref (gz G + 21)) dX6_setTolerance_12 kGX6_33 (hwc0 (w := w) hw) rfl ?_
    refine am_get (v := .int ((w.2.2.1 1).1 3)) dX6_setTolerance_15 kGX6_129 (pl_0 (p := (w.2.2.1 1)) (hwP1 (w := w) hw)) rfl ?_
    refine am_istore_n dX6_setTolerance_18 (by decide) (lv' := [(3, .int ((w.2.2.1 1).1 3)), (0, .ref (gz G + 0)), (1, .int z1), (2, .int z2)]) rfl ?_
    refine am_iload_n dX6_setTolerance_19 0 rfl ?_
    refine am_iload_n dX6_setTolerance_20 2 rfl ?_
    refine am_icmp_ne dX6_setTolerance_21 (by decide : ((21 : Nat) : Int) + (14) = ((35 : Nat) : Int)) (fun c5 => ?_) (fun c5 => ?_)
    · refine am_aload_n dX6_setTolerance_35 1 rfl ?_
      refine am_callV (As := []) (rest := []) dX6_setTolerance_36 kMX6_73 rfl (hwc0 (w := w) hw) rfl rfl (Nat.le_of_ble_eq_true rfl) (d2 := 5) (by decide) (k2 := 0) (Nat.zero_le _) (u2 := 0) (Nat.zero_le _) (Nat.le_of_ble_eq_true rfl) (ctX6_beforeChange (w := w) hw ) (fun v6 h7 q8 => ?_)
      obtain ⟨r9, e10, rfl, w11⟩ := q8
      refine am_aload_n dX6_setTolerance_39 1 rfl ?_
      refine am_get (v := .ref (gz G + 21)) dX6_setTolerance_40 kGX6_33 (hwc0 (w := r9) w11) rfl ?_
      refine am_iload_n dX6_setTolerance_43 2 rfl ?_
      refine am_put dX6_setTolerance_44 kFX6_129 (pl_0 (p := (r9.2.2.1 1)) (hwP1 (w := r9) w11)) (Nat.le_of_ble_eq_true rfl) rfl rfl ?_
      have w12 := hwPu w11 (i := 1) (by decide) (p := (upS (r9.2.2.1 1) 3 z1)) (pl_s3 (hwP1 (w := r9) w11) z1) (Fr.set Fr.rf (a := 21) (S := fun q => pb 1 ≤ q ∧ q < pb 1 + 16) (by decide))
      refine am_aload_n dX6_setTolerance_47 1 rfl ?_
      refine am_get (v := .ref (gz G + 21)) dX6_setTolerance_48 kGX6_33 (hwc0 (w := (wP r9 1 (upS (r9.2.2.1 1) 3 z1))) w12) rfl ?_
      refine am_iload_n dX6_setTolerance_51 3 rfl ?_
      refine am_put dX6_setTolerance_52 kFX6_132 (pl_0 (p := (upS (r9.2.2.1 1) 3 z1)) (hwP1 (w := (wP r9 1 (upS (r9.2.2.1 1) 3 z1))) w12)) (Nat.le_of_ble_eq_true rfl) rfl rfl ?_
      have w13 := hwPu w12 (i := 1) (by decide) (p := (upS (upS (r9.2.2.1 1) 3 z1) 4 z2)) (pl_s4 (hwP1 (w := (wP r9 1 (upS (r9.2.2.1 1) 3 z1))) w12) z2) (Fr.set Fr.rf (a := 21) (S := fun q => pb 1 ≤ q ∧ q < pb 1 + 16) (by decide))
      refine am_iload_n dX6_setTolerance_55 0 rfl ?_
      exact am_ireturn dX6_setTolerance_56 rfl rfl ⟨_, Eq.trans (if_neg c4) (Eq.trans (if_neg c5) (bnd_eq e10 (rfl))), rfl, w13⟩
    · refine am_aload_n dX6_setTolerance_24 1 rfl ?_
      refine am_get (v := .ref (gz G + 21)) dX6_setTolerance_25 kGX6_33 (hwc0 (w := w) hw) rfl ?_
      refine am_get (v := .int ((w.2.2.1 1).1 4)) dX6_setTolerance_28 kGX6_132 (pl_0 (p := (w.2.2.1 1)) (hwP1 (w := w) hw)) rfl ?_
      refine am_iload_n dX6_setTolerance_31 3 rfl ?_
      refine am_icmp_eq dX6_setTolerance_32 (by decide : ((32 : Nat) : Int) + (23) = ((55 : Nat) : Int)) (fun c14 => ?_) (fun c14 => ?_)
      · refine am_iload_n dX6_setTolerance_55 0 rfl ?_
        exact am_ireturn dX6_setTolerance_56 rfl rfl ⟨_, Eq.trans (if_neg c4) (Eq.trans (if_pos c5) (Eq.trans (if_pos c14) (rfl))), rfl, hw⟩
      · refine am_aload_n dX6_setTolerance_35 1 rfl ?_
        refine am_callV (As := []) (rest := []) dX6_setTolerance_36 kMX6_73 rfl (hwc0 (w := w) hw) rfl rfl (Nat.le_of_ble_eq_true rfl) (d2 := 5) (by decide) (k2 := 0) (Nat.zero_le _) (u2 := 0) (Nat.zero_le _) (Nat.le_of_ble_eq_true rfl) (ctX6_beforeChange (w := w) hw ) (fun v15 h16 q17 => ?_)
        obtain ⟨r18, e19, rfl, w20⟩ := q17
        refine am_aload_n dX6_setTolerance_39 1 rfl ?_
        refine am_get (v := .ref (gz G + 21)) dX6_setTolerance_40 kGX6_33 (hwc0 (w := r18) w20) rfl ?_
        refine am_iload_n dX6_setTolerance_43 2 rfl ?_
        refine am_put dX6_setTolerance_44 kFX6_129 (pl_0 (p := (r18.2.2.1 1)) (hwP1 (w := r18) w20)) (Nat.le_of_ble_eq_true rfl) rfl rfl ?_
        have w21 := hwPu w20 (i := 1) (by decide) (p := (upS (r18.2.2.1 1) 3 z1)) (pl_s3 (hwP1 (w := r18) w20) z1) (Fr.set Fr.rf (a := 21) (S := fun q => pb 1 ≤ q ∧ q < pb 1 + 16) (by decide))
        refine am_aload_n dX6_setTolerance_47 1 rfl ?_
        refine am_get (v := .ref (gz G + 21)) dX6_setTolerance_48 kGX6_33 (hwc0 (w := (wP r18 1 (upS (r18.2.2.1 1) 3 z1))) w21) rfl ?_
        refine am_iload_n dX6_setTolerance_51 3 rfl ?_
        refine am_put dX6_setTolerance_52 kFX6_132 (pl_0 (p := (upS (r18.2.2.1 1) 3 z1)) (hwP1 (w := (wP r18 1 (upS (r18.2.2.1 1) 3 z1))) w21)) (Nat.le_of_ble_eq_true rfl) rfl rfl ?_
        have w22 := hwPu w21 (i := 1) (by decide) (p := (upS (upS (r18.2.2.1 1) 3 z1) 4 z2)) (pl_s4 (hwP1 (w := (wP r18 1 (upS (r18.2.2.1 1) 3 z1))) w21) z2) (Fr.set Fr.rf (a := 21) (S := fun q => pb 1 ≤ q ∧ q < pb 1 + 16) (by decide))
        refine am_iload_n dX6_setTolerance_55 0 rfl ?_
        exact am_ireturn dX6_setTolerance_56 rfl rfl ⟨_, Eq.trans (if_neg c4) (Eq.trans (if_pos c5) (Eq.trans (if_neg c14) (bnd_eq e19 (rfl)))), rfl, w22⟩
  · refine am_bipush (v := (-2)) dX6_setTolerance_8 (by decide) ?_
    exact am_ireturn dX6_setTolerance_10 rfl rfl ⟨_, Eq.trans (if_pos c4) (rfl), rfl, hw⟩

theorem dX6_setSteam_0 : decode cX6_setSteam 0 = .ok (.iload_n 1, 1) := by decide +kernel
theorem dX6_setSteam_1 : decode cX6_setSteam 1 = .ok (.iconst 0, 1) := by decide +kernel
theorem dX6_setSteam_2 : decode cX6_setSteam 2 = .ok (.bipush 100, 2) := by decide +kernel
theorem dX6_setSteam_4 : decode cX6_setSteam 4 = .ok (.invokestatic 182, 3) := by decide +kernel
theorem dX6_setSteam_7 : decode cX6_setSteam 7 = .ok (.ifCond .ne 6, 3) := by decide +kernel
theorem dX6_setSteam_10 : decode cX6_setSteam 10 = .ok (.bipush (-2), 2) := by decide +kernel
theorem dX6_setSteam_12 : decode cX6_setSteam 12 = .ok (.ireturn, 1) := by decide +kernel
theorem dX6_setSteam_13 : decode cX6_setSteam 13 = .ok (.aload_n 0, 1) := by decide +kernel
theorem dX6_setSteam_14 : decode cX6_setSteam 14 = .ok (.getfield 33, 3) := by decide +kernel
theorem dX6_setSteam_17 : decode cX6_setSteam 17 = .ok (.getfield 135, 3) := by decide +kernel
theorem dX6_setSteam_20 : decode cX6_setSteam 20 = .ok (.istore_n 2, 1) := by decide +kernel
theorem dX6_setSteam_21 : decode cX6_setSteam 21 = .ok (.iload_n 2, 1) := by decide +kernel
theorem dX6_setSteam_22 : decode cX6_setSteam 22 = .ok (.iload_n 1, 1) := by decide +kernel
theorem dX6_setSteam_23 : decode cX6_setSteam 23 = .ok (.if_icmp .eq 15, 3) := by decide +kernel
theorem dX6_setSteam_26 : decode cX6_setSteam 26 = .ok (.aload_n 0, 1) := by decide +kernel
theorem dX6_setSteam_27 : decode cX6_setSteam 27 = .ok (.invokevirtual 73, 3) := by decide +kernel
theorem dX6_setSteam_30 : decode cX6_setSteam 30 = .ok (.aload_n 0, 1) := by decide +kernel
theorem dX6_setSteam_31 : decode cX6_setSteam 31 = .ok (.getfield 33, 3) := by decide +kernel
theorem dX6_setSteam_34 : decode cX6_setSteam 34 = .ok (.iload_n 1, 1) := by decide +kernel
theorem dX6_setSteam_35 : decode cX6_setSteam 35 = .ok (.putfield 135, 3) := by decide +kernel
theorem dX6_setSteam_38 : decode cX6_setSteam 38 = .ok (.iload_n 2, 1) := by decide +kernel
theorem dX6_setSteam_39 : decode cX6_setSteam 39 = .ok (.ireturn, 1) := by decide +kernel
def fX6_setSteam (w : Wd) (z1 : Int32) : Int32 × Wd := (if (fX6_isBetween z1 0 100) = 0 then ((-2), w) else (if ((w.2.2.1 1).1 5) = z1 then (((w.2.2.1 1).1 5), w) else (bnd (fX6_beforeChange w ) (fun r9 => (((w.2.2.1 1).1 5), (wP r9 1 (upS (r9.2.2.1 1) 5 z1)))))))
set_option maxRecDepth 20000 in
theorem ctX6_setSteam {l : Launch} {G : GM} {K : Nat → Option va_E} {h : List va_E} {w : Wd} (hw : HW G K h w) (z1 : Int32) : Ct l G mX6_setSteam 6 0 0 [.ref (gz G + 0), .int z1] h (fun v h1 => ∃ r, (fX6_setSteam w z1) = r ∧ v = some (.int r.1) ∧ HW G K h1 r.2) := by
  show Tr l G mX6_setSteam 6 0 0 0 [(0, .ref (gz G + 0)), (1, .int z1)] [] h _
  refine am_iload_n dX6_setSteam_0 1 rfl ?_
  refine am_iconst (v := 0) dX6_setSteam_1 (by decide) ?_
  refine am_bipush (v := 100) dX6_setSteam_2 (by decide) ?_
  refine am_callS (As := [.int z1, .int 0, .int 100]) (rest := []) dX6_setSteam_4 kMX6_182 rfl  rfl (Nat.le_of_ble_eq_true rfl) (d2 := 0) (by decide) (k2 := 0) (Nat.zero_le _) (u2 := 0) (Nat.zero_le _) (Nat.le_of_ble_eq_true rfl) (ctX6_isBetween  z1 0 100 ) (fun v1 h2 q3 => ?_)
  obtain ⟨rfl, rfl⟩ := q3
  refine am_if_ne dX6_setSteam_7 (by decide : ((7 : Nat) : Int) + (6) = ((13 : Nat) : Int)) (fun c4 => ?_) (fun c4 => ?_)
  · refine am_aload_n dX6_setSteam_13 0 rfl ?_
    refine am_get (v := .ref (gz G + 21)) dX6_setSteam_14 kGX6_33 (hwc0 (w := w) hw) rfl ?_
    refine am_get (v := .int ((w.2.2.1 1).1 5)) dX6_setSteam_17 kGX6_135 (pl_0 (p := (w.2.2.1 1)) (hwP1 (w := w) hw)) rfl ?_
    refine am_istore_n dX6_setSteam_20 (by decide) (lv' := [(2, .int ((w.2.2.1 1).1 5)), (0, .ref (gz G + 0)), (1, .int z1)]) rfl ?_
    refine am_iload_n dX6_setSteam_21 0 rfl ?_
    refine am_iload_n dX6_setSteam_22 2 rfl ?_
    refine am_icmp_eq dX6_setSteam_23 (by decide : ((23 : Nat) : Int) + (15) = ((38 : Nat) : Int)) (fun c5 => ?_) (fun c5 => ?_)
    · refine am_iload_n dX6_setSteam_38 0 rfl ?_
      exact am_ireturn dX6_setSteam_39 rfl rfl ⟨_, Eq.trans (if_neg c4) (Eq.trans (if_pos c5) (rfl)), rfl, hw⟩
    · refine am_aload_n dX6_setSteam_26 1 rfl ?_
      refine am_callV (As := []) (rest := []) dX6_setSteam_27 kMX6_73 rfl (hwc0 (w := w) hw) rfl rfl (Nat.le_of_ble_eq_true rfl) (d2 := 5) (by decide) (k2 := 0) (Nat.zero_le _) (u2 := 0) (Nat.zero_le _) (Nat.le_of_ble_eq_true rfl) (ctX6_beforeChange (w := w) hw ) (fun v6 h7 q8 => ?_)
      obtain ⟨r9, e10, rfl, w11⟩ := q8
      refine am_aload_n dX6_setSteam_30 1 rfl ?_
      refine am_get (v := .ref (gz G + 21)) dX6_setSteam_31 kGX6_33 (hwc0 (w := r9) w11) rfl ?_
      refine am_iload_n dX6_setSteam_34 2 rfl ?_
      refine am_put dX6_setSteam_35 kFX6_135 (pl_0 (p := (r9.2.2.1 1)) (hwP1 (w := r9) w11)) (Nat.le_of_ble_eq_true rfl) rfl rfl ?_
      have w12 := hwPu w11 (i := 1) (by decide) (p := (upS (r9.2.2.1 1) 5 z1)) (pl_s5 (hwP1 (w := r9) w11) z1) (Fr.set Fr.rf (a := 21) (S := fun q => pb 1 ≤ q ∧ q < pb 1 + 16) (by decide))
      refine am_iload_n dX6_setSteam_38 0 rfl ?_
      exact am_ireturn dX6_setSteam_39 rfl rfl ⟨_, Eq.trans (if_neg c4) (Eq.trans (if_neg c5) (bnd_eq e10 (rfl))), rfl, w12⟩
  · refine am_bipush (v := (-2)) dX6_setSteam_10 (by decide) ?_
    exact am_ireturn dX6_setSteam_12 rfl rfl ⟨_, Eq.trans (if_pos c4) (rfl), rfl, hw⟩

theorem dX6_findPairs_0 : decode cX6_findPairs 0 = .ok (.aload_n 0, 1) := by decide +kernel
theorem dX6_findPairs_1 : decode cX6_findPairs 1 = .ok (.getfield 57, 3) := by decide +kernel
theorem dX6_findPairs_4 : decode cX6_findPairs 4 = .ok (.getfield 242, 3) := by decide +kernel
theorem dX6_findPairs_7 : decode cX6_findPairs 7 = .ok (.ifCond .ne 26, 3) := by decide +kernel
theorem dX6_findPairs_10 : decode cX6_findPairs 10 = .ok (.aload_n 0, 1) := by decide +kernel
theorem dX6_findPairs_11 : decode cX6_findPairs 11 = .ok (.getfield 50, 3) := by decide +kernel
theorem dX6_findPairs_14 : decode cX6_findPairs 14 = .ok (.aload_n 0, 1) := by decide +kernel
theorem dX6_findPairs_15 : decode cX6_findPairs 15 = .ok (.getfield 33, 3) := by decide +kernel
theorem dX6_findPairs_18 : decode cX6_findPairs 18 = .ok (.aload_n 0, 1) := by decide +kernel
theorem dX6_findPairs_19 : decode cX6_findPairs 19 = .ok (.getfield 57, 3) := by decide +kernel
theorem dX6_findPairs_22 : decode cX6_findPairs 22 = .ok (.invokevirtual 333, 3) := by decide +kernel
theorem dX6_findPairs_25 : decode cX6_findPairs 25 = .ok (.aload_n 0, 1) := by decide +kernel
theorem dX6_findPairs_26 : decode cX6_findPairs 26 = .ok (.getfield 57, 3) := by decide +kernel
theorem dX6_findPairs_29 : decode cX6_findPairs 29 = .ok (.iconst 1, 1) := by decide +kernel
theorem dX6_findPairs_30 : decode cX6_findPairs 30 = .ok (.putfield 242, 3) := by decide +kernel
theorem dX6_findPairs_33 : decode cX6_findPairs 33 = .ok (.return_, 1) := by decide +kernel
def fX6_findPairs (w : Wd)  : Wd := (if (w.1 13) = 0 then (bnd (fX2_pairUp_21_219 w ) (fun r5 => (wS r5 13 1))) else w)
set_option maxRecDepth 20000 in
theorem ctX6_findPairs {l : Launch} {G : GM} {K : Nat → Option va_E} {h : List va_E} {w : Wd} (hw : HW G K h w)  : Ct l G mX6_findPairs 20 0 0 [.ref (gz G + 0)] h (fun v h1 => ∃ r, (fX6_findPairs w ) = r ∧ v = none ∧ HW G K h1 r) := by
  show Tr l G mX6_findPairs 20 0 0 0 [(0, .ref (gz G + 0))] [] h _
  refine am_aload_n dX6_findPairs_0 0 rfl ?_
  refine am_get (v := .ref (gz G + 219)) dX6_findPairs_1 kGX6_57 (hwc0 (w := w) hw) rfl ?_
  refine am_get (v := .int (w.1 13)) dX6_findPairs_4 kGX6_242 (hwc219 (w := w) hw) rfl ?_
  refine am_if_ne dX6_findPairs_7 (by decide : ((7 : Nat) : Int) + (26) = ((33 : Nat) : Int)) (fun c1 => ?_) (fun c1 => ?_)
  · exact am_return dX6_findPairs_33 rfl ⟨_, Eq.trans (if_neg c1) (rfl), rfl, hw⟩
  · refine am_aload_n dX6_findPairs_10 0 rfl ?_
    refine am_get (v := .ref (gz G + 215)) dX6_findPairs_11 kGX6_50 (hwc0 (w := w) hw) rfl ?_
    refine am_aload_n dX6_findPairs_14 0 rfl ?_
    refine am_get (v := .ref (gz G + 21)) dX6_findPairs_15 kGX6_33 (hwc0 (w := w) hw) rfl ?_
    refine am_aload_n dX6_findPairs_18 0 rfl ?_
    refine am_get (v := .ref (gz G + 219)) dX6_findPairs_19 kGX6_57 (hwc0 (w := w) hw) rfl ?_
    refine am_callV (As := [.ref (gz G + 21), .ref (gz G + 219)]) (rest := []) dX6_findPairs_22 kMX6_333 rfl (hwc215 (w := w) hw) rfl rfl (Nat.le_of_ble_eq_true rfl) (d2 := 19) (by decide) (k2 := 0) (Nat.zero_le _) (u2 := 0) (Nat.zero_le _) (Nat.le_of_ble_eq_true rfl) (ctX2_pairUp_21_219 (w := w) hw ) (fun v2 h3 q4 => ?_)
    obtain ⟨r5, e6, rfl, w7⟩ := q4
    refine am_aload_n dX6_findPairs_25 0 rfl ?_
    refine am_get (v := .ref (gz G + 219)) dX6_findPairs_26 kGX6_57 (hwc0 (w := r5) w7) rfl ?_
    refine am_iconst (v := 1) dX6_findPairs_29 (by decide) ?_
    refine am_put dX6_findPairs_30 kFX6_242 (hwc219 (w := r5) w7) (Nat.le_of_ble_eq_true rfl) rfl rfl ?_
    have w8 := hwS13 w7 1
    exact am_return dX6_findPairs_33 rfl ⟨_, Eq.trans (if_pos c1) (bnd_eq e6 (rfl)), rfl, w8⟩

def fX6_sizeOfPair (w : Wd) (z1 : Int32) : Int32 := (if z1 < (fX6_at 14 (w.2.1 3) z1) then (fX0_sizeHolding (w.2.2.1 1) (imn (fX6_at 14 ((w.2.2.1 1).2 11) z1) (fX6_at 14 ((w.2.2.1 1).2 11) (fX6_at 14 (w.2.1 3) z1))) (imx (fX6_at 14 ((w.2.2.1 1).2 11) z1) (fX6_at 14 ((w.2.2.1 1).2 11) (fX6_at 14 (w.2.1 3) z1)))) else (-1))
def fX6_isBoxedWith (w : Wd) (z1 : Int32) (z2 : Int32) : Int32 := (if (fX6_at 14 ((w.2.2.1 1).2 8) z1) = (fX6_at 14 ((w.2.2.1 1).2 8) z2) then (if (fX6_at 14 ((w.2.2.1 1).2 9) z1) = (fX6_at 14 ((w.2.2.1 1).2 9) z2) then (if (fX6_sizeOfPair w z1) = (fX6_sizeOfPair w z2) then 1 else 0) else 0) else 0)
def fX6_isInFullBox_28 (z1 : Int32)  (w : Wd) : Nat → Int32 → Int32 → Int32 → Int32 × Int32 × Int32
  | 0, x4, x3, x2 => (x4, x3, x2)
  | fu + 1, x4, x3, x2 => (if ((w.2.2.1 1).1 8) ≤ x4 then (x4, x3, x2) else (if (fX6_isBoxedWith w z1 x4) = 0 then (fX6_isInFullBox_28 z1  w fu (x4 + 1) x3 x2 ) else (if z1 ≤ x4 then (fX6_isInFullBox_28 z1  w fu (x4 + 1) (x3 + 1) (x2 + 0) ) else (fX6_isInFullBox_28 z1  w fu (x4 + 1) (x3 + 1) (x2 + 1) ))))
def fX6_isInFullBox (w : Wd) (z1 : Int32) : Int32 := (if (fX6_sizeOfPair w z1) = (-1) then 0 else (if 0 < ((w.2.2.1 1).1 6) then (bnd (fX6_isInFullBox_28 z1  w (fuU ((w.2.2.1 1).1 8) 0) 0 0 0 ) (fun r12 => (if ((r12.2.1 / ((w.2.2.1 1).1 6)) * ((w.2.2.1 1).1 6)) ≤ r12.2.2 then 0 else 1))) else 0))
def fX6_packableSet_4   (w : Wd) : Nat → Int32 → Int32 → Int32 × Int32
  | 0, x2, x1 => (x2, x1)
  | fu + 1, x2, x1 => (if ((w.2.2.1 1).1 8) ≤ x2 then (x2, x1) else (if (fX6_isInFullBox w x2) = 0 then (fX6_packableSet_4   w fu (x2 + 1) x1 ) else (fX6_packableSet_4   w fu (x2 + 1) (x1 ||| (((1 : Int32) <<< (x2 &&& 31)) ||| ((1 : Int32) <<< ((fX6_at 14 (w.2.1 3) x2) &&& 31)))) )))
def fX6_packableSet (w : Wd)  : Int32 := (bnd (fX6_packableSet_4   w (fuU ((w.2.2.1 1).1 8) 0) 0 0 ) (fun r9 => r9.2))
def fX6_boxesOf (w : Wd) (z1 : Int32) : Int32 := (if ((w.2.2.1 1).1 6) ≤ 0 then 0 else (((fJ6_bitCount_0f7a4 z1) / 2) / ((w.2.2.1 1).1 6)))
def fX6_pack_21  (o1 : Int32) : Nat → Int32 → Wd → Int32 × Wd
  | 0, x2, y => (x2, y)
  | fu + 1, x2, y => (if ((y.2.2.1 1).1 8) ≤ x2 then (x2, y) else (if (fX6_contains o1 x2) = 0 then (fX6_pack_21  o1  fu (x2 + 1) y) else (fX6_pack_21  o1  fu (x2 + 1) (wP y 1 (upR (y.2.2.1 1) 13 (fX6_put 14 ((y.2.2.1 1).2 13) x2 3))))))
def fX6_pack (w : Wd)  : Int32 × Wd := (bnd (fX6_findPairs w ) (fun r4 => (if (fX6_packableSet r4 ) = 0 then ((-1), r4) else (bnd (fX6_beforeChange r4 ) (fun r14 => (bnd (fX6_pack_21  (fX6_packableSet r4 )  (fuU 2147483647 0) 0 r14) (fun r26 => ((fX6_boxesOf r26.2 (fX6_packableSet r4 )), r26.2))))))))
def fX6_boxCount (w : Wd)  : Int32 × Wd := (bnd (fX6_findPairs w ) (fun r4 => ((fX6_boxesOf r4 (fX6_packableSet r4 )), r4)))
theorem dX6_undo_0 : decode cX6_undo 0 = .ok (.aload_n 0, 1) := by decide +kernel
theorem dX6_undo_1 : decode cX6_undo 1 = .ok (.getfield 43, 3) := by decide +kernel
theorem dX6_undo_4 : decode cX6_undo 4 = .ok (.getfield 126, 3) := by decide +kernel
theorem dX6_undo_7 : decode cX6_undo 7 = .ok (.ifCond .ne 5, 3) := by decide +kernel
theorem dX6_undo_10 : decode cX6_undo 10 = .ok (.iconst (-1), 1) := by decide +kernel
theorem dX6_undo_11 : decode cX6_undo 11 = .ok (.ireturn, 1) := by decide +kernel
theorem dX6_undo_12 : decode cX6_undo 12 = .ok (.aload_n 0, 1) := by decide +kernel
theorem dX6_undo_13 : decode cX6_undo 13 = .ok (.getfield 43, 3) := by decide +kernel
theorem dX6_undo_16 : decode cX6_undo 16 = .ok (.aload_n 0, 1) := by decide +kernel
theorem dX6_undo_17 : decode cX6_undo 17 = .ok (.getfield 33, 3) := by decide +kernel
theorem dX6_undo_20 : decode cX6_undo 20 = .ok (.invokevirtual 239, 3) := by decide +kernel
theorem dX6_undo_23 : decode cX6_undo 23 = .ok (.aload_n 0, 1) := by decide +kernel
theorem dX6_undo_24 : decode cX6_undo 24 = .ok (.getfield 57, 3) := by decide +kernel
theorem dX6_undo_27 : decode cX6_undo 27 = .ok (.iconst 0, 1) := by decide +kernel
theorem dX6_undo_28 : decode cX6_undo 28 = .ok (.putfield 242, 3) := by decide +kernel
theorem dX6_undo_31 : decode cX6_undo 31 = .ok (.aload_n 0, 1) := by decide +kernel
theorem dX6_undo_32 : decode cX6_undo 32 = .ok (.getfield 43, 3) := by decide +kernel
theorem dX6_undo_35 : decode cX6_undo 35 = .ok (.getfield 126, 3) := by decide +kernel
theorem dX6_undo_38 : decode cX6_undo 38 = .ok (.ireturn, 1) := by decide +kernel
def fX6_undo (w : Wd)  : Int32 × Wd := (if (w.1 11) = 0 then ((-1), w) else (bnd (fX1_takeBack_21 w ) (fun r5 => ((r5.1 11), (wS r5 13 0)))))
set_option maxRecDepth 20000 in
theorem ctX6_undo {l : Launch} {G : GM} {K : Nat → Option va_E} {h : List va_E} {w : Wd} (hw : HW G K h w)  : Ct l G mX6_undo 5 0 0 [.ref (gz G + 0)] h (fun v h1 => ∃ r, (fX6_undo w ) = r ∧ v = some (.int r.1) ∧ HW G K h1 r.2) := by
  show Tr l G mX6_undo 5 0 0 0 [(0, .ref (gz G + 0))] [] h _
  refine am_aload_n dX6_undo_0 0 rfl ?_
  refine am_get (v := .ref (gz G + 53)) dX6_undo_1 kGX6_43 (hwc0 (w := w) hw) rfl ?_
  refine am_get (v := .int (w.1 11)) dX6_undo_4 kGX6_126 (hwc53 (w := w) hw) rfl ?_
  refine am_if_ne dX6_undo_7 (by decide : ((7 : Nat) : Int) + (5) = ((12 : Nat) : Int)) (fun c1 => ?_) (fun c1 => ?_)
  · refine am_aload_n dX6_undo_12 0 rfl ?_
    refine am_get (v := .ref (gz G + 53)) dX6_undo_13 kGX6_43 (hwc0 (w := w) hw) rfl ?_
    refine am_aload_n dX6_undo_16 0 rfl ?_
    refine am_get (v := .ref (gz G + 21)) dX6_undo_17 kGX6_33 (hwc0 (w := w) hw) rfl ?_
    refine am_callV (As := [.ref (gz G + 21)]) (rest := []) dX6_undo_20 kMX6_239 rfl (hwc53 (w := w) hw) rfl rfl (Nat.le_of_ble_eq_true rfl) (d2 := 4) (by decide) (k2 := 0) (Nat.zero_le _) (u2 := 0) (Nat.zero_le _) (Nat.le_of_ble_eq_true rfl) (ctX1_takeBack_21 (w := w) hw ) (fun v2 h3 q4 => ?_)
    obtain ⟨r5, e6, rfl, w7⟩ := q4
    refine am_aload_n dX6_undo_23 0 rfl ?_
    refine am_get (v := .ref (gz G + 219)) dX6_undo_24 kGX6_57 (hwc0 (w := r5) w7) rfl ?_
    refine am_iconst (v := 0) dX6_undo_27 (by decide) ?_
    refine am_put dX6_undo_28 kFX6_242 (hwc219 (w := r5) w7) (Nat.le_of_ble_eq_true rfl) rfl rfl ?_
    have w8 := hwS13 w7 0
    refine am_aload_n dX6_undo_31 0 rfl ?_
    refine am_get (v := .ref (gz G + 53)) dX6_undo_32 kGX6_43 (hwc0 (w := (wS r5 13 0)) w8) rfl ?_
    refine am_get (v := .int (r5.1 11)) dX6_undo_35 kGX6_126 (hwc53 (w := (wS r5 13 0)) w8) rfl ?_
    exact am_ireturn dX6_undo_38 rfl rfl ⟨_, Eq.trans (if_neg c1) (bnd_eq e6 (rfl)), rfl, w8⟩
  · refine am_iconst (v := (-1)) dX6_undo_10 (by decide) ?_
    exact am_ireturn dX6_undo_11 rfl rfl ⟨_, Eq.trans (if_pos c1) (rfl), rfl, hw⟩

theorem dX6_areTwoPieces_0 : decode cX6_areTwoPieces 0 = .ok (.aload_n 0, 1) := by decide +kernel
theorem dX6_areTwoPieces_1 : decode cX6_areTwoPieces 1 = .ok (.iload_n 1, 1) := by decide +kernel
theorem dX6_areTwoPieces_2 : decode cX6_areTwoPieces 2 = .ok (.invokevirtual 138, 3) := by decide +kernel
theorem dX6_areTwoPieces_5 : decode cX6_areTwoPieces 5 = .ok (.ifCond .eq 20, 3) := by decide +kernel
theorem dX6_areTwoPieces_8 : decode cX6_areTwoPieces 8 = .ok (.aload_n 0, 1) := by decide +kernel
theorem dX6_areTwoPieces_9 : decode cX6_areTwoPieces 9 = .ok (.iload_n 2, 1) := by decide +kernel
theorem dX6_areTwoPieces_10 : decode cX6_areTwoPieces 10 = .ok (.invokevirtual 138, 3) := by decide +kernel
theorem dX6_areTwoPieces_13 : decode cX6_areTwoPieces 13 = .ok (.ifCond .eq 12, 3) := by decide +kernel
theorem dX6_areTwoPieces_16 : decode cX6_areTwoPieces 16 = .ok (.iload_n 1, 1) := by decide +kernel
theorem dX6_areTwoPieces_17 : decode cX6_areTwoPieces 17 = .ok (.iload_n 2, 1) := by decide +kernel
theorem dX6_areTwoPieces_18 : decode cX6_areTwoPieces 18 = .ok (.if_icmp .eq 7, 3) := by decide +kernel
theorem dX6_areTwoPieces_21 : decode cX6_areTwoPieces 21 = .ok (.iconst 1, 1) := by decide +kernel
theorem dX6_areTwoPieces_22 : decode cX6_areTwoPieces 22 = .ok (.goto 4, 3) := by decide +kernel
theorem dX6_areTwoPieces_25 : decode cX6_areTwoPieces 25 = .ok (.iconst 0, 1) := by decide +kernel
theorem dX6_areTwoPieces_26 : decode cX6_areTwoPieces 26 = .ok (.ireturn, 1) := by decide +kernel
def fX6_areTwoPieces (w : Wd) (z1 : Int32) (z2 : Int32) : Int32 := (if (fX6_isPiece w z1) = 0 then 0 else (if (fX6_isPiece w z2) = 0 then 0 else (if z1 = z2 then 0 else 1)))
set_option maxRecDepth 20000 in
theorem ctX6_areTwoPieces {l : Launch} {G : GM} {K : Nat → Option va_E} {h : List va_E} {w : Wd} (hw : HW G K h w) (z1 : Int32) (z2 : Int32) : Ct l G mX6_areTwoPieces 1 0 0 [.ref (gz G + 0), .int z1, .int z2] h (fun v h1 => v = some (.int (fX6_areTwoPieces w z1 z2)) ∧ h1 = h) := by
  show Tr l G mX6_areTwoPieces 1 0 0 0 [(0, .ref (gz G + 0)), (1, .int z1), (2, .int z2)] [] h _
  refine am_aload_n dX6_areTwoPieces_0 0 rfl ?_
  refine am_iload_n dX6_areTwoPieces_1 1 rfl ?_
  refine am_callV (As := [.int z1]) (rest := []) dX6_areTwoPieces_2 kMX6_138 rfl (hwc0 (w := w) hw) rfl rfl (Nat.le_of_ble_eq_true rfl) (d2 := 0) (by decide) (k2 := 0) (Nat.zero_le _) (u2 := 0) (Nat.zero_le _) (Nat.le_of_ble_eq_true rfl) (ctX6_isPiece (w := w) hw z1) (fun v1 h2 q3 => ?_)
  obtain ⟨rfl, rfl⟩ := q3
  refine am_if_eq dX6_areTwoPieces_5 (by decide : ((5 : Nat) : Int) + (20) = ((25 : Nat) : Int)) (fun c4 => ?_) (fun c4 => ?_)
  · refine am_iconst (v := 0) dX6_areTwoPieces_25 (by decide) ?_
    rw [show (fX6_areTwoPieces w z1 z2) = 0 from Eq.trans (if_pos c4) (rfl)]
    exact am_ireturn dX6_areTwoPieces_26 rfl rfl ⟨rfl, rfl⟩
  · refine am_aload_n dX6_areTwoPieces_8 0 rfl ?_
    refine am_iload_n dX6_areTwoPieces_9 2 rfl ?_
    refine am_callV (As := [.int z2]) (rest := []) dX6_areTwoPieces_10 kMX6_138 rfl (hwc0 (w := w) hw) rfl rfl (Nat.le_of_ble_eq_true rfl) (d2 := 0) (by decide) (k2 := 0) (Nat.zero_le _) (u2 := 0) (Nat.zero_le _) (Nat.le_of_ble_eq_true rfl) (ctX6_isPiece (w := w) hw z2) (fun v5 h6 q7 => ?_)
    obtain ⟨rfl, rfl⟩ := q7
    refine am_if_eq dX6_areTwoPieces_13 (by decide : ((13 : Nat) : Int) + (12) = ((25 : Nat) : Int)) (fun c8 => ?_) (fun c8 => ?_)
    · refine am_iconst (v := 0) dX6_areTwoPieces_25 (by decide) ?_
      rw [show (fX6_areTwoPieces w z1 z2) = 0 from Eq.trans (if_neg c4) (Eq.trans (if_pos c8) (rfl))]
      exact am_ireturn dX6_areTwoPieces_26 rfl rfl ⟨rfl, rfl⟩
    · refine am_iload_n dX6_areTwoPieces_16 1 rfl ?_
      refine am_iload_n dX6_areTwoPieces_17 2 rfl ?_
      refine am_icmp_eq dX6_areTwoPieces_18 (by decide : ((18 : Nat) : Int) + (7) = ((25 : Nat) : Int)) (fun c9 => ?_) (fun c9 => ?_)
      · refine am_iconst (v := 0) dX6_areTwoPieces_25 (by decide) ?_
        rw [show (fX6_areTwoPieces w z1 z2) = 0 from Eq.trans (if_neg c4) (Eq.trans (if_neg c8) (Eq.trans (if_pos c9) (rfl)))]
        exact am_ireturn dX6_areTwoPieces_26 rfl rfl ⟨rfl, rfl⟩
      · refine am_iconst (v := 1) dX6_areTwoPieces_21 (by decide) ?_
        refine am_goto dX6_areTwoPieces_22 (by decide : ((22 : Nat) : Int) + (4) = ((26 : Nat) : Int)) ?_
        rw [show (fX6_areTwoPieces w z1 z2) = 1 from Eq.trans (if_neg c4) (Eq.trans (if_neg c8) (Eq.trans (if_neg c9) (rfl)))]
        exact am_ireturn dX6_areTwoPieces_26 rfl rfl ⟨rfl, rfl⟩

def fX6_isMatch (w : Wd) (z1 : Int32) (z2 : Int32) : Int32 := (if (fX6_areTwoPieces w z1 z2) = 0 then (-2) else (if (fX5_fits (w.2.2.1 1) z1 z2) = 0 then 0 else 1))
theorem dX6_gap_0 : decode cX6_gap 0 = .ok (.aload_n 0, 1) := by decide +kernel
theorem dX6_gap_1 : decode cX6_gap 1 = .ok (.iload_n 1, 1) := by decide +kernel
theorem dX6_gap_2 : decode cX6_gap 2 = .ok (.iload_n 2, 1) := by decide +kernel
theorem dX6_gap_3 : decode cX6_gap 3 = .ok (.invokevirtual 246, 3) := by decide +kernel
theorem dX6_gap_6 : decode cX6_gap 6 = .ok (.ifCond .eq 15, 3) := by decide +kernel
theorem dX6_gap_9 : decode cX6_gap 9 = .ok (.aload_n 0, 1) := by decide +kernel
theorem dX6_gap_10 : decode cX6_gap 10 = .ok (.getfield 33, 3) := by decide +kernel
theorem dX6_gap_13 : decode cX6_gap 13 = .ok (.iload_n 1, 1) := by decide +kernel
theorem dX6_gap_14 : decode cX6_gap 14 = .ok (.iload_n 2, 1) := by decide +kernel
theorem dX6_gap_15 : decode cX6_gap 15 = .ok (.invokevirtual 252, 3) := by decide +kernel
theorem dX6_gap_18 : decode cX6_gap 18 = .ok (.goto 5, 3) := by decide +kernel
theorem dX6_gap_21 : decode cX6_gap 21 = .ok (.bipush (-2), 2) := by decide +kernel
theorem dX6_gap_23 : decode cX6_gap 23 = .ok (.ireturn, 1) := by decide +kernel
def fX6_gap (w : Wd) (z1 : Int32) (z2 : Int32) : Int32 := (if (fX6_areTwoPieces w z1 z2) = 0 then (-2) else (fX5_gapOf (w.2.2.1 1) z1 z2))
set_option maxRecDepth 20000 in
theorem ctX6_gap {l : Launch} {G : GM} {K : Nat → Option va_E} {h : List va_E} {w : Wd} (hw : HW G K h w) (z1 : Int32) (z2 : Int32) : Ct l G mX6_gap 2 0 0 [.ref (gz G + 0), .int z1, .int z2] h (fun v h1 => v = some (.int (fX6_gap w z1 z2)) ∧ h1 = h) := by
  show Tr l G mX6_gap 2 0 0 0 [(0, .ref (gz G + 0)), (1, .int z1), (2, .int z2)] [] h _
  refine am_aload_n dX6_gap_0 0 rfl ?_
  refine am_iload_n dX6_gap_1 1 rfl ?_
  refine am_iload_n dX6_gap_2 2 rfl ?_
  refine am_callV (As := [.int z1, .int z2]) (rest := []) dX6_gap_3 kMX6_246 rfl (hwc0 (w := w) hw) rfl rfl (Nat.le_of_ble_eq_true rfl) (d2 := 1) (by decide) (k2 := 0) (Nat.zero_le _) (u2 := 0) (Nat.zero_le _) (Nat.le_of_ble_eq_true rfl) (ctX6_areTwoPieces (w := w) hw z1 z2) (fun v1 h2 q3 => ?_)
  obtain ⟨rfl, rfl⟩ := q3
  refine am_if_eq dX6_gap_6 (by decide : ((6 : Nat) : Int) + (15) = ((21 : Nat) : Int)) (fun c4 => ?_) (fun c4 => ?_)
  · refine am_bipush (v := (-2)) dX6_gap_21 (by decide) ?_
    rw [show (fX6_gap w z1 z2) = (-2) from Eq.trans (if_pos c4) (rfl)]
    exact am_ireturn dX6_gap_23 rfl rfl ⟨rfl, rfl⟩
  · refine am_aload_n dX6_gap_9 0 rfl ?_
    refine am_get (v := .ref (gz G + 21)) dX6_gap_10 kGX6_33 (hwc0 (w := w) hw) rfl ?_
    refine am_iload_n dX6_gap_13 1 rfl ?_
    refine am_iload_n dX6_gap_14 2 rfl ?_
    refine am_callV (As := [.int z1, .int z2]) (rest := []) dX6_gap_15 kMX6_252 rfl (pl_0 (p := (w.2.2.1 1)) (hwP1 (w := w) hw)) rfl rfl (Nat.le_of_ble_eq_true rfl) (d2 := 1) (by decide) (k2 := 0) (Nat.zero_le _) (u2 := 0) (Nat.zero_le _) (Nat.le_of_ble_eq_true rfl) (ctX5_gapOf (p := (w.2.2.1 1)) (hwP1 (w := w) hw) z1 z2) (fun v5 h6 q7 => ?_)
    obtain ⟨rfl, rfl⟩ := q7
    refine am_goto dX6_gap_18 (by decide : ((18 : Nat) : Int) + (5) = ((23 : Nat) : Int)) ?_
    rw [show (fX6_gap w z1 z2) = (fX5_gapOf (w.2.2.1 1) z1 z2) from Eq.trans (if_neg c4) (rfl)]
    exact am_ireturn dX6_gap_23 rfl rfl ⟨rfl, rfl⟩

def fX6_matches (w : Wd) (z1 : Int32) : Int32 := (if (fX6_isPiece w z1) = 0 then (-2) else (fX5_matchSet (w.2.2.1 1) z1))
def fX6_nearest_15 (z1 : Int32)  (w : Wd) : Nat → Int32 → Int32 → Int32 × Int32
  | 0, x3, x2 => (x3, x2)
  | fu + 1, x3, x2 => (if ((w.2.2.1 1).1 8) ≤ x3 then (x3, x2) else (if (fX5_fits (w.2.2.1 1) z1 x3) = 0 then (fX6_nearest_15 z1  w fu (x3 + 1) x2 ) else (if x2 = (-1) then (fX6_nearest_15 z1  w fu (x3 + 1) x3 ) else (if (fX5_gapOf (w.2.2.1 1) z1 x2) ≤ (fX5_gapOf (w.2.2.1 1) z1 x3) then (fX6_nearest_15 z1  w fu (x3 + 1) x2 ) else (fX6_nearest_15 z1  w fu (x3 + 1) x3 )))))
def fX6_nearest (w : Wd) (z1 : Int32) : Int32 := (if (fX6_isPiece w z1) = 0 then (-2) else (bnd (fX6_nearest_15 z1  w (fuU ((w.2.2.1 1).1 8) 0) 0 (-1) ) (fun r18 => r18.2)))
theorem dX6_pairCount_0 : decode cX6_pairCount 0 = .ok (.aload_n 0, 1) := by decide +kernel
theorem dX6_pairCount_1 : decode cX6_pairCount 1 = .ok (.invokevirtual 227, 3) := by decide +kernel
theorem dX6_pairCount_4 : decode cX6_pairCount 4 = .ok (.aload_n 0, 1) := by decide +kernel
theorem dX6_pairCount_5 : decode cX6_pairCount 5 = .ok (.getfield 57, 3) := by decide +kernel
theorem dX6_pairCount_8 : decode cX6_pairCount 8 = .ok (.getfield 258, 3) := by decide +kernel
theorem dX6_pairCount_11 : decode cX6_pairCount 11 = .ok (.ireturn, 1) := by decide +kernel
def fX6_pairCount (w : Wd)  : Int32 × Wd := (bnd (fX6_findPairs w ) (fun r4 => ((r4.1 14), r4)))
set_option maxRecDepth 20000 in
theorem ctX6_pairCount {l : Launch} {G : GM} {K : Nat → Option va_E} {h : List va_E} {w : Wd} (hw : HW G K h w)  : Ct l G mX6_pairCount 21 0 0 [.ref (gz G + 0)] h (fun v h1 => ∃ r, (fX6_pairCount w ) = r ∧ v = some (.int r.1) ∧ HW G K h1 r.2) := by
  show Tr l G mX6_pairCount 21 0 0 0 [(0, .ref (gz G + 0))] [] h _
  refine am_aload_n dX6_pairCount_0 0 rfl ?_
  refine am_callV (As := []) (rest := []) dX6_pairCount_1 kMX6_227 rfl (hwc0 (w := w) hw) rfl rfl (Nat.le_of_ble_eq_true rfl) (d2 := 20) (by decide) (k2 := 0) (Nat.zero_le _) (u2 := 0) (Nat.zero_le _) (Nat.le_of_ble_eq_true rfl) (ctX6_findPairs (w := w) hw ) (fun v1 h2 q3 => ?_)
  obtain ⟨r4, e5, rfl, w6⟩ := q3
  refine am_aload_n dX6_pairCount_4 0 rfl ?_
  refine am_get (v := .ref (gz G + 219)) dX6_pairCount_5 kGX6_57 (hwc0 (w := r4) w6) rfl ?_
  refine am_get (v := .int (r4.1 14)) dX6_pairCount_8 kGX6_258 (hwc219 (w := r4) w6) rfl ?_
  exact am_ireturn dX6_pairCount_11 rfl rfl ⟨_, bnd_eq e5 (rfl), rfl, w6⟩

def fX6_pairGap (w : Wd)  : Int32 × Wd := (bnd (fX6_findPairs w ) (fun r4 => ((r4.1 15), r4)))
def fX6_partner (w : Wd) (z1 : Int32) : Int32 × Wd := (if (fX6_isPiece w z1) = 0 then ((-2), w) else (bnd (fX6_findPairs w ) (fun r8 => ((fX6_at 14 (r8.2.1 3) z1), r8))))
theorem dX6_pair_0 : decode cX6_pair 0 = .ok (.iload_n 1, 1) := by decide +kernel
theorem dX6_pair_1 : decode cX6_pair 1 = .ok (.ifCond .ge 6, 3) := by decide +kernel
theorem dX6_pair_4 : decode cX6_pair 4 = .ok (.bipush (-2), 2) := by decide +kernel
theorem dX6_pair_6 : decode cX6_pair 6 = .ok (.ireturn, 1) := by decide +kernel
theorem dX6_pair_7 : decode cX6_pair 7 = .ok (.aload_n 0, 1) := by decide +kernel
theorem dX6_pair_8 : decode cX6_pair 8 = .ok (.invokevirtual 227, 3) := by decide +kernel
theorem dX6_pair_11 : decode cX6_pair 11 = .ok (.aload_n 0, 1) := by decide +kernel
theorem dX6_pair_12 : decode cX6_pair 12 = .ok (.getfield 57, 3) := by decide +kernel
theorem dX6_pair_15 : decode cX6_pair 15 = .ok (.iload_n 1, 1) := by decide +kernel
theorem dX6_pair_16 : decode cX6_pair 16 = .ok (.invokevirtual 267, 3) := by decide +kernel
theorem dX6_pair_19 : decode cX6_pair 19 = .ok (.istore_n 2, 1) := by decide +kernel
theorem dX6_pair_20 : decode cX6_pair 20 = .ok (.iload_n 2, 1) := by decide +kernel
theorem dX6_pair_21 : decode cX6_pair 21 = .ok (.iconst (-1), 1) := by decide +kernel
theorem dX6_pair_22 : decode cX6_pair 22 = .ok (.if_icmp .ne 7, 3) := by decide +kernel
theorem dX6_pair_25 : decode cX6_pair 25 = .ok (.iconst (-1), 1) := by decide +kernel
theorem dX6_pair_26 : decode cX6_pair 26 = .ok (.goto 19, 3) := by decide +kernel
theorem dX6_pair_29 : decode cX6_pair 29 = .ok (.bipush 16, 2) := by decide +kernel
theorem dX6_pair_31 : decode cX6_pair 31 = .ok (.iload_n 2, 1) := by decide +kernel
theorem dX6_pair_32 : decode cX6_pair 32 = .ok (.imul, 1) := by decide +kernel
theorem dX6_pair_33 : decode cX6_pair 33 = .ok (.aload_n 0, 1) := by decide +kernel
theorem dX6_pair_34 : decode cX6_pair 34 = .ok (.getfield 57, 3) := by decide +kernel
theorem dX6_pair_37 : decode cX6_pair 37 = .ok (.getfield 264, 3) := by decide +kernel
theorem dX6_pair_40 : decode cX6_pair 40 = .ok (.iload_n 2, 1) := by decide +kernel
theorem dX6_pair_41 : decode cX6_pair 41 = .ok (.invokestatic 144, 3) := by decide +kernel
theorem dX6_pair_44 : decode cX6_pair 44 = .ok (.iadd, 1) := by decide +kernel
theorem dX6_pair_45 : decode cX6_pair 45 = .ok (.ireturn, 1) := by decide +kernel
def fX6_pair (w : Wd) (z1 : Int32) : Int32 × Wd := (if 0 ≤ z1 then (bnd (fX6_findPairs w ) (fun r5 => (if (fX3_lowerOf r5 z1) = (-1) then ((-1), r5) else ((((16 : Int32) * (fX3_lowerOf r5 z1)) + (fX6_at 14 (r5.2.1 3) (fX3_lowerOf r5 z1))), r5)))) else ((-2), w))
set_option maxRecDepth 20000 in
theorem ctX6_pair {l : Launch} {G : GM} {K : Nat → Option va_E} {h : List va_E} {w : Wd} (hw : HW G K h w) (z1 : Int32) : Ct l G mX6_pair 21 0 0 [.ref (gz G + 0), .int z1] h (fun v h1 => ∃ r, (fX6_pair w z1) = r ∧ v = some (.int r.1) ∧ HW G K h1 r.2) := by
  show Tr l G mX6_pair 21 0 0 0 [(0, .ref (gz G + 0)), (1, .int z1)] [] h _
  refine am_iload_n dX6_pair_0 1 rfl ?_
  refine am_if_ge dX6_pair_1 (by decide : ((1 : Nat) : Int) + (6) = ((7 : Nat) : Int)) (fun c1 => ?_) (fun c1 => ?_)
  · refine am_aload_n dX6_pair_7 0 rfl ?_
    refine am_callV (As := []) (rest := []) dX6_pair_8 kMX6_227 rfl (hwc0 (w := w) hw) rfl rfl (Nat.le_of_ble_eq_true rfl) (d2 := 20) (by decide) (k2 := 0) (Nat.zero_le _) (u2 := 0) (Nat.zero_le _) (Nat.le_of_ble_eq_true rfl) (ctX6_findPairs (w := w) hw ) (fun v2 h3 q4 => ?_)
    obtain ⟨r5, e6, rfl, w7⟩ := q4
    refine am_aload_n dX6_pair_11 0 rfl ?_
    refine am_get (v := .ref (gz G + 219)) dX6_pair_12 kGX6_57 (hwc0 (w := r5) w7) rfl ?_
    refine am_iload_n dX6_pair_15 1 rfl ?_
    refine am_callV (As := [.int z1]) (rest := []) dX6_pair_16 kMX6_267 rfl (hwc219 (w := r5) w7) rfl rfl (Nat.le_of_ble_eq_true rfl) (d2 := 1) (by decide) (k2 := 0) (Nat.zero_le _) (u2 := 0) (Nat.zero_le _) (Nat.le_of_ble_eq_true rfl) (ctX3_lowerOf (w := r5) w7 z1) (fun v8 h9 q10 => ?_)
    obtain ⟨rfl, rfl⟩ := q10
    refine am_istore_n dX6_pair_19 (by decide) (lv' := [(2, .int (fX3_lowerOf r5 z1)), (0, .ref (gz G + 0)), (1, .int z1)]) rfl ?_
    refine am_iload_n dX6_pair_20 0 rfl ?_
    refine am_iconst (v := (-1)) dX6_pair_21 (by decide) ?_
    refine am_icmp_ne dX6_pair_22 (by decide : ((22 : Nat) : Int) + (7) = ((29 : Nat) : Int)) (fun c11 => ?_) (fun c11 => ?_)
    · refine am_bipush (v := 16) dX6_pair_29 (by decide) ?_
      refine am_iload_n dX6_pair_31 0 rfl ?_
      refine am_imul dX6_pair_32 ?_
      refine am_aload_n dX6_pair_33 1 rfl ?_
      refine am_get (v := .ref (gz G + 219)) dX6_pair_34 kGX6_57 (hwc0 (w := r5) w7) rfl ?_
      refine am_get (v := .ref (gz G + 220)) dX6_pair_37 kGX6_264 (hwc219 (w := r5) w7) rfl ?_
      refine am_iload_n dX6_pair_40 0 rfl ?_
      refine am_callS (As := [.ref (gz G + 220), .int (fX3_lowerOf r5 z1)]) (rest := [.int ((16 : Int32) * (fX3_lowerOf r5 z1))]) dX6_pair_41 kMX6_144 rfl  rfl (Nat.le_of_ble_eq_true rfl) (d2 := 0) (by decide) (k2 := 0) (Nat.zero_le _) (u2 := 0) (Nat.zero_le _) (Nat.le_of_ble_eq_true rfl) (ctX6_at (f := (r5.2.1 3)) (hwc220 (w := r5) w7) (by decide) (fX3_lowerOf r5 z1) ) (fun v12 h13 q14 => ?_)
      obtain ⟨rfl, rfl⟩ := q14
      refine am_iadd dX6_pair_44 ?_
      exact am_ireturn dX6_pair_45 rfl rfl ⟨_, Eq.trans (if_pos c1) (bnd_eq e6 (Eq.trans (if_neg c11) (rfl))), rfl, w7⟩
    · refine am_iconst (v := (-1)) dX6_pair_25 (by decide) ?_
      refine am_goto dX6_pair_26 (by decide : ((26 : Nat) : Int) + (19) = ((45 : Nat) : Int)) ?_
      exact am_ireturn dX6_pair_45 rfl rfl ⟨_, Eq.trans (if_pos c1) (bnd_eq e6 (Eq.trans (if_pos c11) (rfl))), rfl, w7⟩
  · refine am_bipush (v := (-2)) dX6_pair_4 (by decide) ?_
    exact am_ireturn dX6_pair_6 rfl rfl ⟨_, Eq.trans (if_neg c1) (rfl), rfl, hw⟩

def fX6_pairSize (w : Wd) (z1 : Int32) : Int32 × Wd := (if 0 ≤ z1 then (bnd (fX6_findPairs w ) (fun r5 => (if (fX3_lowerOf r5 z1) = (-1) then ((-1), r5) else ((fX6_sizeOfPair r5 (fX3_lowerOf r5 z1)), r5)))) else ((-2), w))
theorem dX6_worstPair_0 : decode cX6_worstPair 0 = .ok (.aload_n 0, 1) := by decide +kernel
theorem dX6_worstPair_1 : decode cX6_worstPair 1 = .ok (.invokevirtual 227, 3) := by decide +kernel
theorem dX6_worstPair_4 : decode cX6_worstPair 4 = .ok (.iconst (-1), 1) := by decide +kernel
theorem dX6_worstPair_5 : decode cX6_worstPair 5 = .ok (.istore_n 1, 1) := by decide +kernel
theorem dX6_worstPair_6 : decode cX6_worstPair 6 = .ok (.iconst (-1), 1) := by decide +kernel
theorem dX6_worstPair_7 : decode cX6_worstPair 7 = .ok (.istore_n 2, 1) := by decide +kernel
theorem dX6_worstPair_8 : decode cX6_worstPair 8 = .ok (.iconst 0, 1) := by decide +kernel
theorem dX6_worstPair_9 : decode cX6_worstPair 9 = .ok (.istore_n 3, 1) := by decide +kernel
theorem dX6_worstPair_10 : decode cX6_worstPair 10 = .ok (.iload_n 3, 1) := by decide +kernel
theorem dX6_worstPair_11 : decode cX6_worstPair 11 = .ok (.aload_n 0, 1) := by decide +kernel
theorem dX6_worstPair_12 : decode cX6_worstPair 12 = .ok (.getfield 57, 3) := by decide +kernel
theorem dX6_worstPair_15 : decode cX6_worstPair 15 = .ok (.getfield 258, 3) := by decide +kernel
theorem dX6_worstPair_18 : decode cX6_worstPair 18 = .ok (.if_icmp .ge 53, 3) := by decide +kernel
theorem dX6_worstPair_21 : decode cX6_worstPair 21 = .ok (.aload_n 0, 1) := by decide +kernel
theorem dX6_worstPair_22 : decode cX6_worstPair 22 = .ok (.getfield 57, 3) := by decide +kernel
theorem dX6_worstPair_25 : decode cX6_worstPair 25 = .ok (.iload_n 3, 1) := by decide +kernel
theorem dX6_worstPair_26 : decode cX6_worstPair 26 = .ok (.invokevirtual 267, 3) := by decide +kernel
theorem dX6_worstPair_29 : decode cX6_worstPair 29 = .ok (.istore 4, 2) := by decide +kernel
theorem dX6_worstPair_31 : decode cX6_worstPair 31 = .ok (.aload_n 0, 1) := by decide +kernel
theorem dX6_worstPair_32 : decode cX6_worstPair 32 = .ok (.getfield 33, 3) := by decide +kernel
theorem dX6_worstPair_35 : decode cX6_worstPair 35 = .ok (.iload 4, 2) := by decide +kernel
theorem dX6_worstPair_37 : decode cX6_worstPair 37 = .ok (.aload_n 0, 1) := by decide +kernel
theorem dX6_worstPair_38 : decode cX6_worstPair 38 = .ok (.getfield 57, 3) := by decide +kernel
theorem dX6_worstPair_41 : decode cX6_worstPair 41 = .ok (.getfield 264, 3) := by decide +kernel
theorem dX6_worstPair_44 : decode cX6_worstPair 44 = .ok (.iload 4, 2) := by decide +kernel
theorem dX6_worstPair_46 : decode cX6_worstPair 46 = .ok (.invokestatic 144, 3) := by decide +kernel
theorem dX6_worstPair_49 : decode cX6_worstPair 49 = .ok (.invokevirtual 252, 3) := by decide +kernel
theorem dX6_worstPair_52 : decode cX6_worstPair 52 = .ok (.istore 5, 2) := by decide +kernel
theorem dX6_worstPair_54 : decode cX6_worstPair 54 = .ok (.iload 5, 2) := by decide +kernel
theorem dX6_worstPair_56 : decode cX6_worstPair 56 = .ok (.iload_n 2, 1) := by decide +kernel
theorem dX6_worstPair_57 : decode cX6_worstPair 57 = .ok (.if_icmp .le 8, 3) := by decide +kernel
theorem dX6_worstPair_60 : decode cX6_worstPair 60 = .ok (.iload_n 3, 1) := by decide +kernel
theorem dX6_worstPair_61 : decode cX6_worstPair 61 = .ok (.istore_n 1, 1) := by decide +kernel
theorem dX6_worstPair_62 : decode cX6_worstPair 62 = .ok (.iload 5, 2) := by decide +kernel
theorem dX6_worstPair_64 : decode cX6_worstPair 64 = .ok (.istore_n 2, 1) := by decide +kernel
theorem dX6_worstPair_65 : decode cX6_worstPair 65 = .ok (.iinc 3 1, 3) := by decide +kernel
theorem dX6_worstPair_68 : decode cX6_worstPair 68 = .ok (.goto (-58), 3) := by decide +kernel
theorem dX6_worstPair_71 : decode cX6_worstPair 71 = .ok (.iload_n 1, 1) := by decide +kernel
theorem dX6_worstPair_72 : decode cX6_worstPair 72 = .ok (.ireturn, 1) := by decide +kernel
def fX6_worstPair_10   (w : Wd) : Nat → Int32 → Int32 → Int32 → Int32 × Int32 × Int32
  | 0, x3, x2, x1 => (x3, x2, x1)
  | fu + 1, x3, x2, x1 => (if (w.1 14) ≤ x3 then (x3, x2, x1) else (if (fX5_gapOf (w.2.2.1 1) (fX3_lowerOf w x3) (fX6_at 14 (w.2.1 3) (fX3_lowerOf w x3))) ≤ x2 then (fX6_worstPair_10   w fu (x3 + 1) x2 x1 ) else (fX6_worstPair_10   w fu (x3 + 1) (fX5_gapOf (w.2.2.1 1) (fX3_lowerOf w x3) (fX6_at 14 (w.2.1 3) (fX3_lowerOf w x3))) x3 )))
set_option maxRecDepth 20000 in
theorem wX6_worstPair_10 {l : Launch} {G : GM} {K : Nat → Option va_E}    {h : List va_E} {w : Wd} (hw : HW G K h w) {Q : Option Value → List va_E → Prop} : ∀ (fu : Nat) (x3 x2 x1 : Int32) (iv : ivU (w.1 14) x3 fu) (kx : ∀ (r : Int32 × Int32 × Int32), (fX6_worstPair_10   w fu x3 x2 x1 ) = r → Tr l G mX6_worstPair 21 0 0 71 [(3, .int r.1), (2, .int r.2.1), (1, .int r.2.2), (0, .ref (gz G + 0))] [] h Q), Tr l G mX6_worstPair 21 0 0 10 [(3, .int x3), (2, .int x2), (1, .int x1), (0, .ref (gz G + 0))] [] h Q := by
  intro fu
  induction fu with
  | zero => intro x3 x2 x1 iv; intros; exact absurd iv ivU_0
  | succ fu ih =>
    intro x3 x2 x1 iv     kx
    refine am_iload_n dX6_worstPair_10 0 rfl ?_
    refine am_aload_n dX6_worstPair_11 3 rfl ?_
    refine am_get (v := .ref (gz G + 219)) dX6_worstPair_12 kGX6_57 (hwc0 (w := w) hw) rfl ?_
    refine am_get (v := .int (w.1 14)) dX6_worstPair_15 kGX6_258 (hwc219 (w := w) hw) rfl ?_
    refine am_icmp_ge dX6_worstPair_18 (by decide : ((18 : Nat) : Int) + (53) = ((71 : Nat) : Int)) (fun c7 => ?_) (fun c7 => ?_)
    · exact kx _ (Eq.trans (if_pos c7) (rfl))
    · refine am_aload_n dX6_worstPair_21 3 rfl ?_
      refine am_get (v := .ref (gz G + 219)) dX6_worstPair_22 kGX6_57 (hwc0 (w := w) hw) rfl ?_
      refine am_iload_n dX6_worstPair_25 0 rfl ?_
      refine am_callV (As := [.int x3]) (rest := []) dX6_worstPair_26 kMX6_267 rfl (hwc219 (w := w) hw) rfl rfl (Nat.le_of_ble_eq_true rfl) (d2 := 1) (by decide) (k2 := 0) (Nat.zero_le _) (u2 := 0) (Nat.zero_le _) (Nat.le_of_ble_eq_true rfl) (ctX3_lowerOf (w := w) hw x3) (fun v8 h9 q10 => ?_)
      obtain ⟨rfl, rfl⟩ := q10
      refine am_istore dX6_worstPair_29 (by decide) (lv' := [(4, .int (fX3_lowerOf w x3)), (3, .int x3), (2, .int x2), (1, .int x1), (0, .ref (gz G + 0))]) rfl ?_
      refine am_aload_n dX6_worstPair_31 4 rfl ?_
      refine am_get (v := .ref (gz G + 21)) dX6_worstPair_32 kGX6_33 (hwc0 (w := w) hw) rfl ?_
      refine am_iload dX6_worstPair_35 0 rfl ?_
      refine am_aload_n dX6_worstPair_37 4 rfl ?_
      refine am_get (v := .ref (gz G + 219)) dX6_worstPair_38 kGX6_57 (hwc0 (w := w) hw) rfl ?_
      refine am_get (v := .ref (gz G + 220)) dX6_worstPair_41 kGX6_264 (hwc219 (w := w) hw) rfl ?_
      refine am_iload dX6_worstPair_44 0 rfl ?_
      refine am_callS (As := [.ref (gz G + 220), .int (fX3_lowerOf w x3)]) (rest := [.int (fX3_lowerOf w x3), .ref (gz G + 21)]) dX6_worstPair_46 kMX6_144 rfl  rfl (Nat.le_of_ble_eq_true rfl) (d2 := 0) (by decide) (k2 := 0) (Nat.zero_le _) (u2 := 0) (Nat.zero_le _) (Nat.le_of_ble_eq_true rfl) (ctX6_at (f := (w.2.1 3)) (hwc220 (w := w) hw) (by decide) (fX3_lowerOf w x3) ) (fun v11 h12 q13 => ?_)
      obtain ⟨rfl, rfl⟩ := q13
      refine am_callV (As := [.int (fX3_lowerOf w x3), .int (fX6_at 14 (w.2.1 3) (fX3_lowerOf w x3))]) (rest := []) dX6_worstPair_49 kMX6_252 rfl (pl_0 (p := (w.2.2.1 1)) (hwP1 (w := w) hw)) rfl rfl (Nat.le_of_ble_eq_true rfl) (d2 := 1) (by decide) (k2 := 0) (Nat.zero_le _) (u2 := 0) (Nat.zero_le _) (Nat.le_of_ble_eq_true rfl) (ctX5_gapOf (p := (w.2.2.1 1)) (hwP1 (w := w) hw) (fX3_lowerOf w x3) (fX6_at 14 (w.2.1 3) (fX3_lowerOf w x3))) (fun v14 h15 q16 => ?_)
      obtain ⟨rfl, rfl⟩ := q16
      refine am_istore dX6_worstPair_52 (by decide) (lv' := [(5, .int (fX5_gapOf (w.2.2.1 1) (fX3_lowerOf w x3) (fX6_at 14 (w.2.1 3) (fX3_lowerOf w x3)))), (4, .int (fX3_lowerOf w x3)), (3, .int x3), (2, .int x2), (1, .int x1), (0, .ref (gz G + 0))]) rfl ?_
      refine am_iload dX6_worstPair_54 0 rfl ?_
      refine am_iload_n dX6_worstPair_56 3 rfl ?_
      refine am_icmp_le dX6_worstPair_57 (by decide : ((57 : Nat) : Int) + (8) = ((65 : Nat) : Int)) (fun c17 => ?_) (fun c17 => ?_)
      · refine am_iinc (v := (x3 + 1)) dX6_worstPair_65 2 rfl rfl (by decide) (lv' := [(3, .int (x3 + 1)), (5, .int (fX5_gapOf (w.2.2.1 1) (fX3_lowerOf w x3) (fX6_at 14 (w.2.1 3) (fX3_lowerOf w x3)))), (4, .int (fX3_lowerOf w x3)), (2, .int x2), (1, .int x1), (0, .ref (gz G + 0))]) rfl ?_
        refine am_goto dX6_worstPair_68 (by decide : ((68 : Nat) : Int) + (-58) = ((10 : Nat) : Int)) ?_
        refine am_lv (lv' := [(3, .int (x3 + 1)), (2, .int x2), (1, .int x1), (0, .ref (gz G + 0))]) [0, 3, 4, 5] rfl ?_
        exact ih (x3 + 1) x2 x1 (ivU_s c7 iv) (fun r e => kx r (Eq.trans (Eq.trans (if_neg c7) (Eq.trans (if_pos c17) (rfl))) e))
      · refine am_iload_n dX6_worstPair_60 2 rfl ?_
        refine am_istore_n dX6_worstPair_61 (by decide) (lv' := [(1, .int x3), (5, .int (fX5_gapOf (w.2.2.1 1) (fX3_lowerOf w x3) (fX6_at 14 (w.2.1 3) (fX3_lowerOf w x3)))), (4, .int (fX3_lowerOf w x3)), (3, .int x3), (2, .int x2), (0, .ref (gz G + 0))]) rfl ?_
        refine am_iload dX6_worstPair_62 1 rfl ?_
        refine am_istore_n dX6_worstPair_64 (by decide) (lv' := [(2, .int (fX5_gapOf (w.2.2.1 1) (fX3_lowerOf w x3) (fX6_at 14 (w.2.1 3) (fX3_lowerOf w x3)))), (1, .int x3), (5, .int (fX5_gapOf (w.2.2.1 1) (fX3_lowerOf w x3) (fX6_at 14 (w.2.1 3) (fX3_lowerOf w x3)))), (4, .int (fX3_lowerOf w x3)), (3, .int x3), (0, .ref (gz G + 0))]) rfl ?_
        refine am_iinc (v := (x3 + 1)) dX6_worstPair_65 4 rfl rfl (by decide) (lv' := [(3, .int (x3 + 1)), (2, .int (fX5_gapOf (w.2.2.1 1) (fX3_lowerOf w x3) (fX6_at 14 (w.2.1 3) (fX3_lowerOf w x3)))), (1, .int x3), (5, .int (fX5_gapOf (w.2.2.1 1) (fX3_lowerOf w x3) (fX6_at 14 (w.2.1 3) (fX3_lowerOf w x3)))), (4, .int (fX3_lowerOf w x3)), (0, .ref (gz G + 0))]) rfl ?_
        refine am_goto dX6_worstPair_68 (by decide : ((68 : Nat) : Int) + (-58) = ((10 : Nat) : Int)) ?_
        refine am_lv (lv' := [(3, .int (x3 + 1)), (2, .int (fX5_gapOf (w.2.2.1 1) (fX3_lowerOf w x3) (fX6_at 14 (w.2.1 3) (fX3_lowerOf w x3)))), (1, .int x3), (0, .ref (gz G + 0))]) [0, 1, 2, 5] rfl ?_
        exact ih (x3 + 1) (fX5_gapOf (w.2.2.1 1) (fX3_lowerOf w x3) (fX6_at 14 (w.2.1 3) (fX3_lowerOf w x3))) x3 (ivU_s c7 iv) (fun r e => kx r (Eq.trans (Eq.trans (if_neg c7) (Eq.trans (if_neg c17) (rfl))) e))
def fX6_worstPair (w : Wd)  : Int32 × Wd := (bnd (fX6_findPairs w ) (fun r4 => (bnd (fX6_worstPair_10   r4 (fuU (r4.1 14) 0) 0 (-1) (-1) ) (fun r18 => (r18.2.2, r4)))))
set_option maxRecDepth 20000 in
theorem ctX6_worstPair {l : Launch} {G : GM} {K : Nat → Option va_E} {h : List va_E} {w : Wd} (hw : HW G K h w)  : Ct l G mX6_worstPair 21 0 0 [.ref (gz G + 0)] h (fun v h1 => ∃ r, (fX6_worstPair w ) = r ∧ v = some (.int r.1) ∧ HW G K h1 r.2) := by
  show Tr l G mX6_worstPair 21 0 0 0 [(0, .ref (gz G + 0))] [] h _
  refine am_aload_n dX6_worstPair_0 0 rfl ?_
  refine am_callV (As := []) (rest := []) dX6_worstPair_1 kMX6_227 rfl (hwc0 (w := w) hw) rfl rfl (Nat.le_of_ble_eq_true rfl) (d2 := 20) (by decide) (k2 := 0) (Nat.zero_le _) (u2 := 0) (Nat.zero_le _) (Nat.le_of_ble_eq_true rfl) (ctX6_findPairs (w := w) hw ) (fun v1 h2 q3 => ?_)
  obtain ⟨r4, e5, rfl, w6⟩ := q3
  refine am_iconst (v := (-1)) dX6_worstPair_4 (by decide) ?_
  refine am_istore_n dX6_worstPair_5 (by decide) (lv' := [(1, .int (-1)), (0, .ref (gz G + 0))]) rfl ?_
  refine am_iconst (v := (-1)) dX6_worstPair_6 (by decide) ?_
  refine am_istore_n dX6_worstPair_7 (by decide) (lv' := [(2, .int (-1)), (1, .int (-1)), (0, .ref (gz G + 0))]) rfl ?_
  refine am_iconst (v := 0) dX6_worstPair_8 (by decide) ?_
  refine am_istore_n dX6_worstPair_9 (by decide) (lv' := [(3, .int 0), (2, .int (-1)), (1, .int (-1)), (0, .ref (gz G + 0))]) rfl ?_
  refine wX6_worstPair_10    w6 (fuU (r4.1 14) 0) 0 (-1) (-1) ivU_i (fun r18 e19 => ?_)
  refine am_iload_n dX6_worstPair_71 2 rfl ?_
  exact am_ireturn dX6_worstPair_72 rfl rfl ⟨_, bnd_eq e5 (bnd_eq e19 (rfl)), rfl, w6⟩

def fX6_seconds_19   (w : Wd) : Nat → Int32 → Int32 → Int32 × Int32
  | 0, x2, x1 => (x2, x1)
  | fu + 1, x2, x1 => (if ((w.2.2.1 1).1 8) ≤ x2 then (x2, x1) else (if (fX5_isBoarded (w.2.2.1 1) x2) = 0 then (fX6_seconds_19   w fu (x2 + 1) x1 ) else (if (fX6_at 14 (w.2.1 3) x2) = (-1) then (fX6_seconds_19   w fu (x2 + 1) (x1 ||| ((1 : Int32) <<< (x2 &&& 31))) ) else (fX6_seconds_19   w fu (x2 + 1) x1 ))))
def fX6_seconds (w : Wd)  : Int32 × Wd := (bnd (fX6_findPairs w ) (fun r4 => (bnd (fX6_seconds_19   r4 (fuU ((r4.2.2.1 1).1 8) 0) 0 (fX6_setWhere_36 r4 2) ) (fun r19 => (r19.2, r4)))))
def fX6_groupCount_4   (w : Wd) : Nat → Int32 → Int32 → Int32 × Int32
  | 0, x2, x1 => (x2, x1)
  | fu + 1, x2, x1 => (if ((w.2.2.1 1).1 8) ≤ x2 then (x2, x1) else (if (fX5_isBoarded (w.2.2.1 1) x2) = 0 then (fX6_groupCount_4   w fu (x2 + 1) x1 ) else (if (fX6_lowestOf (fX5_groupSet (w.2.2.1 1) x2)) = x2 then (fX6_groupCount_4   w fu (x2 + 1) (x1 + 1) ) else (fX6_groupCount_4   w fu (x2 + 1) x1 ))))
def fX6_groupCount (w : Wd)  : Int32 := (bnd (fX6_groupCount_4   w (fuU ((w.2.2.1 1).1 8) 0) 0 0 ) (fun r13 => r13.2))
def fX6_groupOf (w : Wd) (z1 : Int32) : Int32 := (if (fX6_isPiece w z1) = 0 then (-2) else (if (fX5_isBoarded (w.2.2.1 1) z1) = 0 then (-6) else (fX6_lowestOf (fX5_groupSet (w.2.2.1 1) z1))))
theorem dX6_ifDays_0 : decode cX6_ifDays 0 = .ok (.iload_n 1, 1) := by decide +kernel
theorem dX6_ifDays_1 : decode cX6_ifDays 1 = .ok (.iconst 0, 1) := by decide +kernel
theorem dX6_ifDays_2 : decode cX6_ifDays 2 = .ok (.bipush 60, 2) := by decide +kernel
theorem dX6_ifDays_4 : decode cX6_ifDays 4 = .ok (.invokestatic 182, 3) := by decide +kernel
theorem dX6_ifDays_7 : decode cX6_ifDays 7 = .ok (.ifCond .ne 6, 3) := by decide +kernel
theorem dX6_ifDays_10 : decode cX6_ifDays 10 = .ok (.bipush (-2), 2) := by decide +kernel
theorem dX6_ifDays_12 : decode cX6_ifDays 12 = .ok (.ireturn, 1) := by decide +kernel
theorem dX6_ifDays_13 : decode cX6_ifDays 13 = .ok (.aload_n 0, 1) := by decide +kernel
theorem dX6_ifDays_14 : decode cX6_ifDays 14 = .ok (.getfield 37, 3) := by decide +kernel
theorem dX6_ifDays_17 : decode cX6_ifDays 17 = .ok (.aload_n 0, 1) := by decide +kernel
theorem dX6_ifDays_18 : decode cX6_ifDays 18 = .ok (.getfield 33, 3) := by decide +kernel
theorem dX6_ifDays_21 : decode cX6_ifDays 21 = .ok (.invokevirtual 79, 3) := by decide +kernel
theorem dX6_ifDays_24 : decode cX6_ifDays 24 = .ok (.iconst 0, 1) := by decide +kernel
theorem dX6_ifDays_25 : decode cX6_ifDays 25 = .ok (.istore_n 2, 1) := by decide +kernel
theorem dX6_ifDays_26 : decode cX6_ifDays 26 = .ok (.iload_n 2, 1) := by decide +kernel
theorem dX6_ifDays_27 : decode cX6_ifDays 27 = .ok (.iload_n 1, 1) := by decide +kernel
theorem dX6_ifDays_28 : decode cX6_ifDays 28 = .ok (.if_icmp .ge 17, 3) := by decide +kernel
theorem dX6_ifDays_31 : decode cX6_ifDays 31 = .ok (.aload_n 0, 1) := by decide +kernel
theorem dX6_ifDays_32 : decode cX6_ifDays 32 = .ok (.getfield 37, 3) := by decide +kernel
theorem dX6_ifDays_35 : decode cX6_ifDays 35 = .ok (.invokevirtual 216, 3) := by decide +kernel
theorem dX6_ifDays_38 : decode cX6_ifDays 38 = .ok (.pop, 1) := by decide +kernel
theorem dX6_ifDays_39 : decode cX6_ifDays 39 = .ok (.iinc 2 1, 3) := by decide +kernel
theorem dX6_ifDays_42 : decode cX6_ifDays 42 = .ok (.goto (-16), 3) := by decide +kernel
theorem dX6_ifDays_45 : decode cX6_ifDays 45 = .ok (.aload_n 0, 1) := by decide +kernel
theorem dX6_ifDays_46 : decode cX6_ifDays 46 = .ok (.getfield 50, 3) := by decide +kernel
theorem dX6_ifDays_49 : decode cX6_ifDays 49 = .ok (.aload_n 0, 1) := by decide +kernel
theorem dX6_ifDays_50 : decode cX6_ifDays 50 = .ok (.getfield 37, 3) := by decide +kernel
theorem dX6_ifDays_53 : decode cX6_ifDays 53 = .ok (.invokevirtual 279, 3) := by decide +kernel
theorem dX6_ifDays_56 : decode cX6_ifDays 56 = .ok (.ireturn, 1) := by decide +kernel
def fX6_ifDays_26 (z1 : Int32)  : Nat → Int32 → Wd → Int32 × Wd
  | 0, x2, y => (x2, y)
  | fu + 1, x2, y => (if z1 ≤ x2 then (x2, y) else (bnd (fX5_passDay (y.2.2.1 2) ) (fun r17 => (fX6_ifDays_26 z1   fu (x2 + 1) (wP y 2 r17.2)))))
set_option maxRecDepth 20000 in
theorem wX6_ifDays_26 {l : Launch} {G : GM} {K : Nat → Option va_E} (z1 : Int32)   {Q : Option Value → List va_E → Prop} : ∀ (fu : Nat) (x2 : Int32) (y : Wd) (iv : ivU z1 x2 fu) {h : List va_E} (gy : HW G K h y) (kx : ∀ (h1 : List va_E) (r : Int32 × Wd), (fX6_ifDays_26 z1   fu x2 y) = r → HW G K h1 r.2 → Tr l G mX6_ifDays 19 0 0 45 [(2, .int r.1), (0, .ref (gz G + 0)), (1, .int z1)] [] h1 Q), Tr l G mX6_ifDays 19 0 0 26 [(2, .int x2), (0, .ref (gz G + 0)), (1, .int z1)] [] h Q := by
  intro fu
  induction fu with
  | zero => intro x2 y iv; intros; exact absurd iv ivU_0
  | succ fu ih =>
    intro x2 y iv   h gy  kx
    refine am_iload_n dX6_ifDays_26 0 rfl ?_
    refine am_iload_n dX6_ifDays_27 2 rfl ?_
    refine am_icmp_ge dX6_ifDays_28 (by decide : ((28 : Nat) : Int) + (17) = ((45 : Nat) : Int)) (fun c13 => ?_) (fun c13 => ?_)
    · exact kx _ _ (Eq.trans (if_pos c13) (rfl)) gy 
    · refine am_aload_n dX6_ifDays_31 1 rfl ?_
      refine am_get (v := .ref (gz G + 37)) dX6_ifDays_32 kGX6_37 (hwc0 (w := y) gy) rfl ?_
      refine am_callV (As := []) (rest := []) dX6_ifDays_35 kMX6_216 rfl (pl_0 (p := (y.2.2.1 2)) (hwP2 (w := y) gy)) rfl rfl (Nat.le_of_ble_eq_true rfl) (d2 := 2) (by decide) (k2 := 0) (Nat.zero_le _) (u2 := 0) (Nat.zero_le _) (Nat.le_of_ble_eq_true rfl) (ctX5_passDay (p := (y.2.2.1 2)) (hwP2 (w := y) gy) ) (fun v14 h15 q16 => ?_)
      obtain ⟨r17, e18, rfl, w19, w20⟩ := q16
      have w21 := hwPu gy (i := 2) (by decide) w19 w20
      refine am_pop dX6_ifDays_38 rfl ?_
      refine am_iinc (v := (x2 + 1)) dX6_ifDays_39 0 rfl rfl (by decide) (lv' := [(2, .int (x2 + 1)), (0, .ref (gz G + 0)), (1, .int z1)]) rfl ?_
      refine am_goto dX6_ifDays_42 (by decide : ((42 : Nat) : Int) + (-16) = ((26 : Nat) : Int)) ?_
      exact ih (x2 + 1) (wP y 2 r17.2) (ivU_s c13 iv) w21  (fun h1 r e => kx h1 r (Eq.trans (Eq.trans (if_neg c13) (bnd_eq e18 (rfl))) e))
def fX6_ifDays (w : Wd) (z1 : Int32) : Int32 × Wd := (if (fX6_isBetween z1 0 60) = 0 then ((-2), w) else (bnd (fX5_copyFrom (w.2.2.1 2) (w.2.2.1 1) ) (fun r8 => (bnd (fX6_ifDays_26 z1   (fuU z1 0) 0 (wP w 2 r8)) (fun r22 => (bnd (fX2_mostPairs_37 r22.2 ) (fun r29 => (r29.1, r29.2))))))))
set_option maxRecDepth 20000 in
theorem ctX6_ifDays {l : Launch} {G : GM} {K : Nat → Option va_E} {h : List va_E} {w : Wd} (hw : HW G K h w) (z1 : Int32) : Ct l G mX6_ifDays 19 0 0 [.ref (gz G + 0), .int z1] h (fun v h1 => ∃ r, (fX6_ifDays w z1) = r ∧ v = some (.int r.1) ∧ HW G K h1 r.2) := by
  show Tr l G mX6_ifDays 19 0 0 0 [(0, .ref (gz G + 0)), (1, .int z1)] [] h _
  refine am_iload_n dX6_ifDays_0 1 rfl ?_
  refine am_iconst (v := 0) dX6_ifDays_1 (by decide) ?_
  refine am_bipush (v := 60) dX6_ifDays_2 (by decide) ?_
  refine am_callS (As := [.int z1, .int 0, .int 60]) (rest := []) dX6_ifDays_4 kMX6_182 rfl  rfl (Nat.le_of_ble_eq_true rfl) (d2 := 0) (by decide) (k2 := 0) (Nat.zero_le _) (u2 := 0) (Nat.zero_le _) (Nat.le_of_ble_eq_true rfl) (ctX6_isBetween  z1 0 60 ) (fun v1 h2 q3 => ?_)
  obtain ⟨rfl, rfl⟩ := q3
  refine am_if_ne dX6_ifDays_7 (by decide : ((7 : Nat) : Int) + (6) = ((13 : Nat) : Int)) (fun c4 => ?_) (fun c4 => ?_)
  · refine am_aload_n dX6_ifDays_13 0 rfl ?_
    refine am_get (v := .ref (gz G + 37)) dX6_ifDays_14 kGX6_37 (hwc0 (w := w) hw) rfl ?_
    refine am_aload_n dX6_ifDays_17 0 rfl ?_
    refine am_get (v := .ref (gz G + 21)) dX6_ifDays_18 kGX6_33 (hwc0 (w := w) hw) rfl ?_
    refine am_callV (As := [.ref (gz G + 21)]) (rest := []) dX6_ifDays_21 kMX6_79 rfl (pl_0 (p := (w.2.2.1 2)) (hwP2 (w := w) hw)) rfl rfl (Nat.le_of_ble_eq_true rfl) (d2 := 3) (by decide) (k2 := 0) (Nat.zero_le _) (u2 := 0) (Nat.zero_le _) (Nat.le_of_ble_eq_true rfl) (ctX5_copyFrom (p := (w.2.2.1 2)) (hwP2 (w := w) hw) (p2 := (w.2.2.1 1)) (hwP1 (w := w) hw) (by decide) ) (fun v5 h6 q7 => ?_)
    obtain ⟨r8, e9, rfl, w10, w11⟩ := q7
    have w12 := hwPu hw (i := 2) (by decide) w10 w11
    refine am_iconst (v := 0) dX6_ifDays_24 (by decide) ?_
    refine am_istore_n dX6_ifDays_25 (by decide) (lv' := [(2, .int 0), (0, .ref (gz G + 0)), (1, .int z1)]) rfl ?_
    refine wX6_ifDays_26 z1   (fuU z1 0) 0 (wP w 2 r8) ivU_i w12  (fun h24 r22 e23 w25  => ?_)
    refine am_aload_n dX6_ifDays_45 1 rfl ?_
    refine am_get (v := .ref (gz G + 215)) dX6_ifDays_46 kGX6_50 (hwc0 (w := r22.2) w25) rfl ?_
    refine am_aload_n dX6_ifDays_49 1 rfl ?_
    refine am_get (v := .ref (gz G + 37)) dX6_ifDays_50 kGX6_37 (hwc0 (w := r22.2) w25) rfl ?_
    refine am_callV (As := [.ref (gz G + 37)]) (rest := []) dX6_ifDays_53 kMX6_279 rfl (hwc215 (w := r22.2) w25) rfl rfl (Nat.le_of_ble_eq_true rfl) (d2 := 18) (by decide) (k2 := 0) (Nat.zero_le _) (u2 := 0) (Nat.zero_le _) (Nat.le_of_ble_eq_true rfl) (ctX2_mostPairs_37 (w := r22.2) w25 ) (fun v26 h27 q28 => ?_)
    obtain ⟨r29, e30, rfl, w31⟩ := q28
    exact am_ireturn dX6_ifDays_56 rfl rfl ⟨_, Eq.trans (if_neg c4) (bnd_eq e9 (bnd_eq e23 (bnd_eq e30 (rfl)))), rfl, w31⟩
  · refine am_bipush (v := (-2)) dX6_ifDays_10 (by decide) ?_
    exact am_ireturn dX6_ifDays_12 rfl rfl ⟨_, Eq.trans (if_pos c4) (rfl), rfl, hw⟩

theorem dX6_bestDay_0 : decode cX6_bestDay 0 = .ok (.iload_n 1, 1) := by decide +kernel
theorem dX6_bestDay_1 : decode cX6_bestDay 1 = .ok (.iconst 0, 1) := by decide +kernel
theorem dX6_bestDay_2 : decode cX6_bestDay 2 = .ok (.bipush 60, 2) := by decide +kernel
theorem dX6_bestDay_4 : decode cX6_bestDay 4 = .ok (.invokestatic 182, 3) := by decide +kernel
theorem dX6_bestDay_7 : decode cX6_bestDay 7 = .ok (.ifCond .ne 6, 3) := by decide +kernel
theorem dX6_bestDay_10 : decode cX6_bestDay 10 = .ok (.bipush (-2), 2) := by decide +kernel
theorem dX6_bestDay_12 : decode cX6_bestDay 12 = .ok (.ireturn, 1) := by decide +kernel
theorem dX6_bestDay_13 : decode cX6_bestDay 13 = .ok (.aload_n 0, 1) := by decide +kernel
theorem dX6_bestDay_14 : decode cX6_bestDay 14 = .ok (.getfield 37, 3) := by decide +kernel
theorem dX6_bestDay_17 : decode cX6_bestDay 17 = .ok (.aload_n 0, 1) := by decide +kernel
theorem dX6_bestDay_18 : decode cX6_bestDay 18 = .ok (.getfield 33, 3) := by decide +kernel
theorem dX6_bestDay_21 : decode cX6_bestDay 21 = .ok (.invokevirtual 79, 3) := by decide +kernel
theorem dX6_bestDay_24 : decode cX6_bestDay 24 = .ok (.iconst 0, 1) := by decide +kernel
theorem dX6_bestDay_25 : decode cX6_bestDay 25 = .ok (.istore_n 2, 1) := by decide +kernel
theorem dX6_bestDay_26 : decode cX6_bestDay 26 = .ok (.iconst (-1), 1) := by decide +kernel
theorem dX6_bestDay_27 : decode cX6_bestDay 27 = .ok (.istore_n 3, 1) := by decide +kernel
theorem dX6_bestDay_28 : decode cX6_bestDay 28 = .ok (.iconst 0, 1) := by decide +kernel
theorem dX6_bestDay_29 : decode cX6_bestDay 29 = .ok (.istore 4, 2) := by decide +kernel
theorem dX6_bestDay_31 : decode cX6_bestDay 31 = .ok (.iload 4, 2) := by decide +kernel
theorem dX6_bestDay_33 : decode cX6_bestDay 33 = .ok (.iload_n 1, 1) := by decide +kernel
theorem dX6_bestDay_34 : decode cX6_bestDay 34 = .ok (.if_icmp .gt 42, 3) := by decide +kernel
theorem dX6_bestDay_37 : decode cX6_bestDay 37 = .ok (.aload_n 0, 1) := by decide +kernel
theorem dX6_bestDay_38 : decode cX6_bestDay 38 = .ok (.getfield 50, 3) := by decide +kernel
theorem dX6_bestDay_41 : decode cX6_bestDay 41 = .ok (.aload_n 0, 1) := by decide +kernel
theorem dX6_bestDay_42 : decode cX6_bestDay 42 = .ok (.getfield 37, 3) := by decide +kernel
theorem dX6_bestDay_45 : decode cX6_bestDay 45 = .ok (.invokevirtual 279, 3) := by decide +kernel
theorem dX6_bestDay_48 : decode cX6_bestDay 48 = .ok (.istore 5, 2) := by decide +kernel
theorem dX6_bestDay_50 : decode cX6_bestDay 50 = .ok (.iload 5, 2) := by decide +kernel
theorem dX6_bestDay_52 : decode cX6_bestDay 52 = .ok (.iload_n 3, 1) := by decide +kernel
theorem dX6_bestDay_53 : decode cX6_bestDay 53 = .ok (.if_icmp .le 9, 3) := by decide +kernel
theorem dX6_bestDay_56 : decode cX6_bestDay 56 = .ok (.iload 4, 2) := by decide +kernel
theorem dX6_bestDay_58 : decode cX6_bestDay 58 = .ok (.istore_n 2, 1) := by decide +kernel
theorem dX6_bestDay_59 : decode cX6_bestDay 59 = .ok (.iload 5, 2) := by decide +kernel
theorem dX6_bestDay_61 : decode cX6_bestDay 61 = .ok (.istore_n 3, 1) := by decide +kernel
theorem dX6_bestDay_62 : decode cX6_bestDay 62 = .ok (.aload_n 0, 1) := by decide +kernel
theorem dX6_bestDay_63 : decode cX6_bestDay 63 = .ok (.getfield 37, 3) := by decide +kernel
theorem dX6_bestDay_66 : decode cX6_bestDay 66 = .ok (.invokevirtual 216, 3) := by decide +kernel
theorem dX6_bestDay_69 : decode cX6_bestDay 69 = .ok (.pop, 1) := by decide +kernel
theorem dX6_bestDay_70 : decode cX6_bestDay 70 = .ok (.iinc 4 1, 3) := by decide +kernel
theorem dX6_bestDay_73 : decode cX6_bestDay 73 = .ok (.goto (-42), 3) := by decide +kernel
theorem dX6_bestDay_76 : decode cX6_bestDay 76 = .ok (.iload_n 2, 1) := by decide +kernel
theorem dX6_bestDay_77 : decode cX6_bestDay 77 = .ok (.ireturn, 1) := by decide +kernel
def fX6_bestDay_31 (z1 : Int32)  : Nat → Int32 → Int32 → Int32 → Wd → Int32 × Int32 × Int32 × Wd
  | 0, x4, x3, x2, y => (x4, x3, x2, y)
  | fu + 1, x4, x3, x2, y => (if z1 < x4 then (x4, x3, x2, y) else (bnd (fX2_mostPairs_37 y ) (fun r17 => (if r17.1 ≤ x3 then (bnd (fX5_passDay (r17.2.2.2.1 2) ) (fun r24 => (fX6_bestDay_31 z1   fu (x4 + 1) x3 x2 (wP r17.2 2 r24.2)))) else (bnd (fX5_passDay (r17.2.2.2.1 2) ) (fun r32 => (fX6_bestDay_31 z1   fu (x4 + 1) r17.1 x4 (wP r17.2 2 r32.2))))))))
set_option maxRecDepth 20000 in
theorem wX6_bestDay_31 {l : Launch} {G : GM} {K : Nat → Option va_E} (z1 : Int32)  (hle : z1.toInt < 2147483647) {Q : Option Value → List va_E → Prop} : ∀ (fu : Nat) (x4 x3 x2 : Int32) (y : Wd) (iv : ivL z1 x4 fu) {h : List va_E} (gy : HW G K h y) (kx : ∀ (h1 : List va_E) (r : Int32 × Int32 × Int32 × Wd), (fX6_bestDay_31 z1   fu x4 x3 x2 y) = r → HW G K h1 r.2.2.2 → Tr l G mX6_bestDay 19 0 0 76 [(4, .int r.1), (3, .int r.2.1), (2, .int r.2.2.1), (0, .ref (gz G + 0)), (1, .int z1)] [] h1 Q), Tr l G mX6_bestDay 19 0 0 31 [(4, .int x4), (3, .int x3), (2, .int x2), (0, .ref (gz G + 0)), (1, .int z1)] [] h Q := by
  intro fu
  induction fu with
  | zero => intro x4 x3 x2 y iv; intros; exact absurd iv ivL_0
  | succ fu ih =>
    intro x4 x3 x2 y iv   h gy  kx
    refine am_iload dX6_bestDay_31 0 rfl ?_
    refine am_iload_n dX6_bestDay_33 4 rfl ?_
    refine am_icmp_gt dX6_bestDay_34 (by decide : ((34 : Nat) : Int) + (42) = ((76 : Nat) : Int)) (fun c13 => ?_) (fun c13 => ?_)
    · exact kx _ _ (Eq.trans (if_pos c13) (rfl)) gy 
    · refine am_aload_n dX6_bestDay_37 3 rfl ?_
      refine am_get (v := .ref (gz G + 215)) dX6_bestDay_38 kGX6_50 (hwc0 (w := y) gy) rfl ?_
      refine am_aload_n dX6_bestDay_41 3 rfl ?_
      refine am_get (v := .ref (gz G + 37)) dX6_bestDay_42 kGX6_37 (hwc0 (w := y) gy) rfl ?_
      refine am_callV (As := [.ref (gz G + 37)]) (rest := []) dX6_bestDay_45 kMX6_279 rfl (hwc215 (w := y) gy) rfl rfl (Nat.le_of_ble_eq_true rfl) (d2 := 18) (by decide) (k2 := 0) (Nat.zero_le _) (u2 := 0) (Nat.zero_le _) (Nat.le_of_ble_eq_true rfl) (ctX2_mostPairs_37 (w := y) gy ) (fun v14 h15 q16 => ?_)
      obtain ⟨r17, e18, rfl, w19⟩ := q16
      refine am_istore dX6_bestDay_48 (by decide) (lv' := [(5, .int r17.1), (4, .int x4), (3, .int x3), (2, .int x2), (0, .ref (gz G + 0)), (1, .int z1)]) rfl ?_
      refine am_iload dX6_bestDay_50 0 rfl ?_
      refine am_iload_n dX6_bestDay_52 2 rfl ?_
      refine am_icmp_le dX6_bestDay_53 (by decide : ((53 : Nat) : Int) + (9) = ((62 : Nat) : Int)) (fun c20 => ?_) (fun c20 => ?_)
      · refine am_aload_n dX6_bestDay_62 4 rfl ?_
        refine am_get (v := .ref (gz G + 37)) dX6_bestDay_63 kGX6_37 (hwc0 (w := r17.2) w19) rfl ?_
        refine am_callV (As := []) (rest := []) dX6_bestDay_66 kMX6_216 rfl (pl_0 (p := (r17.2.2.2.1 2)) (hwP2 (w := r17.2) w19)) rfl rfl (Nat.le_of_ble_eq_true rfl) (d2 := 2) (by decide) (k2 := 0) (Nat.zero_le _) (u2 := 0) (Nat.zero_le _) (Nat.le_of_ble_eq_true rfl) (ctX5_passDay (p := (r17.2.2.2.1 2)) (hwP2 (w := r17.2) w19) ) (fun v21 h22 q23 => ?_)
        obtain ⟨r24, e25, rfl, w26, w27⟩ := q23
        have w28 := hwPu w19 (i := 2) (by decide) w26 w27
        refine am_pop dX6_bestDay_69 rfl ?_
        refine am_iinc (v := (x4 + 1)) dX6_bestDay_70 1 rfl rfl (by decide) (lv' := [(4, .int (x4 + 1)), (5, .int r17.1), (3, .int x3), (2, .int x2), (0, .ref (gz G + 0)), (1, .int z1)]) rfl ?_
        refine am_goto dX6_bestDay_73 (by decide : ((73 : Nat) : Int) + (-42) = ((31 : Nat) : Int)) ?_
        refine am_lv (lv' := [(4, .int (x4 + 1)), (3, .int x3), (2, .int x2), (0, .ref (gz G + 0)), (1, .int z1)]) [0, 2, 3, 4, 5] rfl ?_
        exact ih (x4 + 1) x3 x2 (wP r17.2 2 r24.2) (ivL_s c13 hle iv) w28  (fun h1 r e => kx h1 r (Eq.trans (Eq.trans (if_neg c13) (bnd_eq e18 (Eq.trans (if_pos c20) (bnd_eq e25 (rfl))))) e))
      · refine am_iload dX6_bestDay_56 1 rfl ?_
        refine am_istore_n dX6_bestDay_58 (by decide) (lv' := [(2, .int x4), (5, .int r17.1), (4, .int x4), (3, .int x3), (0, .ref (gz G + 0)), (1, .int z1)]) rfl ?_
        refine am_iload dX6_bestDay_59 1 rfl ?_
        refine am_istore_n dX6_bestDay_61 (by decide) (lv' := [(3, .int r17.1), (2, .int x4), (5, .int r17.1), (4, .int x4), (0, .ref (gz G + 0)), (1, .int z1)]) rfl ?_
        refine am_aload_n dX6_bestDay_62 4 rfl ?_
        refine am_get (v := .ref (gz G + 37)) dX6_bestDay_63 kGX6_37 (hwc0 (w := r17.2) w19) rfl ?_
        refine am_callV (As := []) (rest := []) dX6_bestDay_66 kMX6_216 rfl (pl_0 (p := (r17.2.2.2.1 2)) (hwP2 (w := r17.2) w19)) rfl rfl (Nat.le_of_ble_eq_true rfl) (d2 := 2) (by decide) (k2 := 0) (Nat.zero_le _) (u2 := 0) (Nat.zero_le _) (Nat.le_of_ble_eq_true rfl) (ctX5_passDay (p := (r17.2.2.2.1 2)) (hwP2 (w := r17.2) w19) ) (fun v29 h30 q31 => ?_)
        obtain ⟨r32, e33, rfl, w34, w35⟩ := q31
        have w36 := hwPu w19 (i := 2) (by decide) w34 w35
        refine am_pop dX6_bestDay_69 rfl ?_
        refine am_iinc (v := (x4 + 1)) dX6_bestDay_70 3 rfl rfl (by decide) (lv' := [(4, .int (x4 + 1)), (3, .int r17.1), (2, .int x4), (5, .int r17.1), (0, .ref (gz G + 0)), (1, .int z1)]) rfl ?_
        refine am_goto dX6_bestDay_73 (by decide : ((73 : Nat) : Int) + (-42) = ((31 : Nat) : Int)) ?_
        refine am_lv (lv' := [(4, .int (x4 + 1)), (3, .int r17.1), (2, .int x4), (0, .ref (gz G + 0)), (1, .int z1)]) [0, 1, 2, 4, 5] rfl ?_
        exact ih (x4 + 1) r17.1 x4 (wP r17.2 2 r32.2) (ivL_s c13 hle iv) w36  (fun h1 r e => kx h1 r (Eq.trans (Eq.trans (if_neg c13) (bnd_eq e18 (Eq.trans (if_neg c20) (bnd_eq e33 (rfl))))) e))
def fX6_bestDay (w : Wd) (z1 : Int32) : Int32 × Wd := (if (fX6_isBetween z1 0 60) = 0 then ((-2), w) else (bnd (fX5_copyFrom (w.2.2.1 2) (w.2.2.1 1) ) (fun r8 => (bnd (fX6_bestDay_31 z1   (fuL z1 0) 0 (-1) 0 (wP w 2 r8)) (fun r37 => (r37.2.2.1, r37.2.2.2))))))
set_option maxRecDepth 20000 in
theorem ctX6_bestDay {l : Launch} {G : GM} {K : Nat → Option va_E} {h : List va_E} {w : Wd} (hw : HW G K h w) (z1 : Int32) : Ct l G mX6_bestDay 19 0 0 [.ref (gz G + 0), .int z1] h (fun v h1 => ∃ r, (fX6_bestDay w z1) = r ∧ v = some (.int r.1) ∧ HW G K h1 r.2) := by
  show Tr l G mX6_bestDay 19 0 0 0 [(0, .ref (gz G + 0)), (1, .int z1)] [] h _
  refine am_iload_n dX6_bestDay_0 1 rfl ?_
  refine am_iconst (v := 0) dX6_bestDay_1 (by decide) ?_
  refine am_bipush (v := 60) dX6_bestDay_2 (by decide) ?_
  refine am_callS (As := [.int z1, .int 0, .int 60]) (rest := []) dX6_bestDay_4 kMX6_182 rfl  rfl (Nat.le_of_ble_eq_true rfl) (d2 := 0) (by decide) (k2 := 0) (Nat.zero_le _) (u2 := 0) (Nat.zero_le _) (Nat.le_of_ble_eq_true rfl) (ctX6_isBetween  z1 0 60 ) (fun v1 h2 q3 => ?_)
  obtain ⟨rfl, rfl⟩ := q3
  refine am_if_ne dX6_bestDay_7 (by decide : ((7 : Nat) : Int) + (6) = ((13 : Nat) : Int)) (fun c4 => ?_) (fun c4 => ?_)
  · refine am_aload_n dX6_bestDay_13 0 rfl ?_
    refine am_get (v := .ref (gz G + 37)) dX6_bestDay_14 kGX6_37 (hwc0 (w := w) hw) rfl ?_
    refine am_aload_n dX6_bestDay_17 0 rfl ?_
    refine am_get (v := .ref (gz G + 21)) dX6_bestDay_18 kGX6_33 (hwc0 (w := w) hw) rfl ?_
    refine am_callV (As := [.ref (gz G + 21)]) (rest := []) dX6_bestDay_21 kMX6_79 rfl (pl_0 (p := (w.2.2.1 2)) (hwP2 (w := w) hw)) rfl rfl (Nat.le_of_ble_eq_true rfl) (d2 := 3) (by decide) (k2 := 0) (Nat.zero_le _) (u2 := 0) (Nat.zero_le _) (Nat.le_of_ble_eq_true rfl) (ctX5_copyFrom (p := (w.2.2.1 2)) (hwP2 (w := w) hw) (p2 := (w.2.2.1 1)) (hwP1 (w := w) hw) (by decide) ) (fun v5 h6 q7 => ?_)
    obtain ⟨r8, e9, rfl, w10, w11⟩ := q7
    have w12 := hwPu hw (i := 2) (by decide) w10 w11
    refine am_iconst (v := 0) dX6_bestDay_24 (by decide) ?_
    refine am_istore_n dX6_bestDay_25 (by decide) (lv' := [(2, .int 0), (0, .ref (gz G + 0)), (1, .int z1)]) rfl ?_
    refine am_iconst (v := (-1)) dX6_bestDay_26 (by decide) ?_
    refine am_istore_n dX6_bestDay_27 (by decide) (lv' := [(3, .int (-1)), (2, .int 0), (0, .ref (gz G + 0)), (1, .int z1)]) rfl ?_
    refine am_iconst (v := 0) dX6_bestDay_28 (by decide) ?_
    refine am_istore dX6_bestDay_29 (by decide) (lv' := [(4, .int 0), (3, .int (-1)), (2, .int 0), (0, .ref (gz G + 0)), (1, .int z1)]) rfl ?_
    refine wX6_bestDay_31 z1  (bt_lt c4) (fuL z1 0) 0 (-1) 0 (wP w 2 r8) ivL_i w12  (fun h39 r37 e38 w40  => ?_)
    refine am_iload_n dX6_bestDay_76 2 rfl ?_
    exact am_ireturn dX6_bestDay_77 rfl rfl ⟨_, Eq.trans (if_neg c4) (bnd_eq e9 (bnd_eq e38 (rfl))), rfl, w40⟩
  · refine am_bipush (v := (-2)) dX6_bestDay_10 (by decide) ?_
    exact am_ireturn dX6_bestDay_12 rfl rfl ⟨_, Eq.trans (if_pos c4) (rfl), rfl, hw⟩

def fX6_daysToSize_32 (z1 : Int32) (z2 : Int32)  : Nat → Int32 → Wd → Int32 × Wd
  | 0, _, y => (0, y)
  | fu + 1, x3, y => (if 60 < x3 then ((-1), y) else (if (fX5_sizeOfPiece (y.2.2.1 2) z1) = z2 then (x3, y) else (bnd (fX5_passDay (y.2.2.1 2) ) (fun r25 => (fX6_daysToSize_32 z1 z2   fu (x3 + 1) (wP y 2 r25.2))))))
def fX6_daysToSize (w : Wd) (z1 : Int32) (z2 : Int32) : Int32 × Wd := (if (fX6_isPiece w z1) = 0 then ((-2), w) else (if (fX6_isSize w z2) = 0 then ((-2), w) else (bnd (fX5_copyFrom (w.2.2.1 2) (w.2.2.1 1) ) (fun r12 => (fX6_daysToSize_32 z1 z2   (fuL 60 0) 0 (wP w 2 r12))))))
theorem dX6_pairsIfBoarded_0 : decode cX6_pairsIfBoarded 0 = .ok (.aload_n 0, 1) := by decide +kernel
theorem dX6_pairsIfBoarded_1 : decode cX6_pairsIfBoarded 1 = .ok (.getfield 37, 3) := by decide +kernel
theorem dX6_pairsIfBoarded_4 : decode cX6_pairsIfBoarded 4 = .ok (.aload_n 0, 1) := by decide +kernel
theorem dX6_pairsIfBoarded_5 : decode cX6_pairsIfBoarded 5 = .ok (.getfield 33, 3) := by decide +kernel
theorem dX6_pairsIfBoarded_8 : decode cX6_pairsIfBoarded 8 = .ok (.invokevirtual 79, 3) := by decide +kernel
theorem dX6_pairsIfBoarded_11 : decode cX6_pairsIfBoarded 11 = .ok (.aload_n 0, 1) := by decide +kernel
theorem dX6_pairsIfBoarded_12 : decode cX6_pairsIfBoarded 12 = .ok (.getfield 37, 3) := by decide +kernel
theorem dX6_pairsIfBoarded_15 : decode cX6_pairsIfBoarded 15 = .ok (.iload_n 2, 1) := by decide +kernel
theorem dX6_pairsIfBoarded_16 : decode cX6_pairsIfBoarded 16 = .ok (.putfield 135, 3) := by decide +kernel
theorem dX6_pairsIfBoarded_19 : decode cX6_pairsIfBoarded 19 = .ok (.aload_n 0, 1) := by decide +kernel
theorem dX6_pairsIfBoarded_20 : decode cX6_pairsIfBoarded 20 = .ok (.getfield 37, 3) := by decide +kernel
theorem dX6_pairsIfBoarded_23 : decode cX6_pairsIfBoarded 23 = .ok (.iload_n 1, 1) := by decide +kernel
theorem dX6_pairsIfBoarded_24 : decode cX6_pairsIfBoarded 24 = .ok (.invokevirtual 213, 3) := by decide +kernel
theorem dX6_pairsIfBoarded_27 : decode cX6_pairsIfBoarded 27 = .ok (.pop, 1) := by decide +kernel
theorem dX6_pairsIfBoarded_28 : decode cX6_pairsIfBoarded 28 = .ok (.aload_n 0, 1) := by decide +kernel
theorem dX6_pairsIfBoarded_29 : decode cX6_pairsIfBoarded 29 = .ok (.getfield 50, 3) := by decide +kernel
theorem dX6_pairsIfBoarded_32 : decode cX6_pairsIfBoarded 32 = .ok (.aload_n 0, 1) := by decide +kernel
theorem dX6_pairsIfBoarded_33 : decode cX6_pairsIfBoarded 33 = .ok (.getfield 37, 3) := by decide +kernel
theorem dX6_pairsIfBoarded_36 : decode cX6_pairsIfBoarded 36 = .ok (.invokevirtual 279, 3) := by decide +kernel
theorem dX6_pairsIfBoarded_39 : decode cX6_pairsIfBoarded 39 = .ok (.ireturn, 1) := by decide +kernel
def fX6_pairsIfBoarded (w : Wd) (z1 : Int32) (z2 : Int32) : Int32 × Wd := (bnd (fX5_copyFrom (w.2.2.1 2) (w.2.2.1 1) ) (fun r4 => (bnd (fX5_boardRaw (upS r4 5 z2) z1) (fun r13 => (bnd (fX2_mostPairs_37 (wP (wP (wP w 2 r4) 2 (upS r4 5 z2)) 2 r13.2) ) (fun r21 => (r21.1, r21.2)))))))
set_option maxRecDepth 20000 in
theorem ctX6_pairsIfBoarded {l : Launch} {G : GM} {K : Nat → Option va_E} {h : List va_E} {w : Wd} (hw : HW G K h w) (z1 : Int32) (z2 : Int32) : Ct l G mX6_pairsIfBoarded 19 0 0 [.ref (gz G + 0), .int z1, .int z2] h (fun v h1 => ∃ r, (fX6_pairsIfBoarded w z1 z2) = r ∧ v = some (.int r.1) ∧ HW G K h1 r.2) := by
  show Tr l G mX6_pairsIfBoarded 19 0 0 0 [(0, .ref (gz G + 0)), (1, .int z1), (2, .int z2)] [] h _
  refine am_aload_n dX6_pairsIfBoarded_0 0 rfl ?_
  refine am_get (v := .ref (gz G + 37)) dX6_pairsIfBoarded_1 kGX6_37 (hwc0 (w := w) hw) rfl ?_
  refine am_aload_n dX6_pairsIfBoarded_4 0 rfl ?_
  refine am_get (v := .ref (gz G + 21)) dX6_pairsIfBoarded_5 kGX6_33 (hwc0 (w := w) hw) rfl ?_
  refine am_callV (As := [.ref (gz G + 21)]) (rest := []) dX6_pairsIfBoarded_8 kMX6_79 rfl (pl_0 (p := (w.2.2.1 2)) (hwP2 (w := w) hw)) rfl rfl (Nat.le_of_ble_eq_true rfl) (d2 := 3) (by decide) (k2 := 0) (Nat.zero_le _) (u2 := 0) (Nat.zero_le _) (Nat.le_of_ble_eq_true rfl) (ctX5_copyFrom (p := (w.2.2.1 2)) (hwP2 (w := w) hw) (p2 := (w.2.2.1 1)) (hwP1 (w := w) hw) (by decide) ) (fun v1 h2 q3 => ?_)
  obtain ⟨r4, e5, rfl, w6, w7⟩ := q3
  have w8 := hwPu hw (i := 2) (by decide) w6 w7
  refine am_aload_n dX6_pairsIfBoarded_11 0 rfl ?_
  refine am_get (v := .ref (gz G + 37)) dX6_pairsIfBoarded_12 kGX6_37 (hwc0 (w := (wP w 2 r4)) w8) rfl ?_
  refine am_iload_n dX6_pairsIfBoarded_15 2 rfl ?_
  refine am_put dX6_pairsIfBoarded_16 kFX6_135 (pl_0 (p := r4) (hwP2 (w := (wP w 2 r4)) w8)) (Nat.le_of_ble_eq_true rfl) rfl rfl ?_
  have w9 := hwPu w8 (i := 2) (by decide) (p := (upS r4 5 z2)) (pl_s5 (hwP2 (w := (wP w 2 r4)) w8) z2) (Fr.set Fr.rf (a := 37) (S := fun q => pb 2 ≤ q ∧ q < pb 2 + 16) (by decide))
  refine am_aload_n dX6_pairsIfBoarded_19 0 rfl ?_
  refine am_get (v := .ref (gz G + 37)) dX6_pairsIfBoarded_20 kGX6_37 (hwc0 (w := (wP (wP w 2 r4) 2 (upS r4 5 z2))) w9) rfl ?_
  refine am_iload_n dX6_pairsIfBoarded_23 1 rfl ?_
  refine am_callV (As := [.int z1]) (rest := []) dX6_pairsIfBoarded_24 kMX6_213 rfl (pl_0 (p := (upS r4 5 z2)) (hwP2 (w := (wP (wP w 2 r4) 2 (upS r4 5 z2))) w9)) rfl rfl (Nat.le_of_ble_eq_true rfl) (d2 := 5) (by decide) (k2 := 0) (Nat.zero_le _) (u2 := 0) (Nat.zero_le _) (Nat.le_of_ble_eq_true rfl) (ctX5_boardRaw (p := (upS r4 5 z2)) (hwP2 (w := (wP (wP w 2 r4) 2 (upS r4 5 z2))) w9) z1) (fun v10 h11 q12 => ?_)
  obtain ⟨r13, e14, rfl, w15, w16⟩ := q12
  have w17 := hwPu w9 (i := 2) (by decide) w15 w16
  refine am_pop dX6_pairsIfBoarded_27 rfl ?_
  refine am_aload_n dX6_pairsIfBoarded_28 0 rfl ?_
  refine am_get (v := .ref (gz G + 215)) dX6_pairsIfBoarded_29 kGX6_50 (hwc0 (w := (wP (wP (wP w 2 r4) 2 (upS r4 5 z2)) 2 r13.2)) w17) rfl ?_
  refine am_aload_n dX6_pairsIfBoarded_32 0 rfl ?_
  refine am_get (v := .ref (gz G + 37)) dX6_pairsIfBoarded_33 kGX6_37 (hwc0 (w := (wP (wP (wP w 2 r4) 2 (upS r4 5 z2)) 2 r13.2)) w17) rfl ?_
  refine am_callV (As := [.ref (gz G + 37)]) (rest := []) dX6_pairsIfBoarded_36 kMX6_279 rfl (hwc215 (w := (wP (wP (wP w 2 r4) 2 (upS r4 5 z2)) 2 r13.2)) w17) rfl rfl (Nat.le_of_ble_eq_true rfl) (d2 := 18) (by decide) (k2 := 0) (Nat.zero_le _) (u2 := 0) (Nat.zero_le _) (Nat.le_of_ble_eq_true rfl) (ctX2_mostPairs_37 (w := (wP (wP (wP w 2 r4) 2 (upS r4 5 z2)) 2 r13.2)) w17 ) (fun v18 h19 q20 => ?_)
  obtain ⟨r21, e22, rfl, w23⟩ := q20
  exact am_ireturn dX6_pairsIfBoarded_39 rfl rfl ⟨_, bnd_eq e5 (bnd_eq e14 (bnd_eq e22 (rfl))), rfl, w23⟩

theorem dX6_ifAllBoarded_0 : decode cX6_ifAllBoarded 0 = .ok (.aload_n 0, 1) := by decide +kernel
theorem dX6_ifAllBoarded_1 : decode cX6_ifAllBoarded 1 = .ok (.iload_n 1, 1) := by decide +kernel
theorem dX6_ifAllBoarded_2 : decode cX6_ifAllBoarded 2 = .ok (.invokevirtual 172, 3) := by decide +kernel
theorem dX6_ifAllBoarded_5 : decode cX6_ifAllBoarded 5 = .ok (.ifCond .eq 18, 3) := by decide +kernel
theorem dX6_ifAllBoarded_8 : decode cX6_ifAllBoarded 8 = .ok (.aload_n 0, 1) := by decide +kernel
theorem dX6_ifAllBoarded_9 : decode cX6_ifAllBoarded 9 = .ok (.iload_n 1, 1) := by decide +kernel
theorem dX6_ifAllBoarded_10 : decode cX6_ifAllBoarded 10 = .ok (.aload_n 0, 1) := by decide +kernel
theorem dX6_ifAllBoarded_11 : decode cX6_ifAllBoarded 11 = .ok (.getfield 33, 3) := by decide +kernel
theorem dX6_ifAllBoarded_14 : decode cX6_ifAllBoarded 14 = .ok (.getfield 135, 3) := by decide +kernel
theorem dX6_ifAllBoarded_17 : decode cX6_ifAllBoarded 17 = .ok (.invokevirtual 283, 3) := by decide +kernel
theorem dX6_ifAllBoarded_20 : decode cX6_ifAllBoarded 20 = .ok (.goto 5, 3) := by decide +kernel
theorem dX6_ifAllBoarded_23 : decode cX6_ifAllBoarded 23 = .ok (.bipush (-2), 2) := by decide +kernel
theorem dX6_ifAllBoarded_25 : decode cX6_ifAllBoarded 25 = .ok (.ireturn, 1) := by decide +kernel
def fX6_ifAllBoarded (w : Wd) (z1 : Int32) : Int32 × Wd := (if (fX6_isShape w z1) = 0 then ((-2), w) else (bnd (fX6_pairsIfBoarded w z1 ((w.2.2.1 1).1 5)) (fun r8 => (r8.1, r8.2))))
set_option maxRecDepth 20000 in
theorem ctX6_ifAllBoarded {l : Launch} {G : GM} {K : Nat → Option va_E} {h : List va_E} {w : Wd} (hw : HW G K h w) (z1 : Int32) : Ct l G mX6_ifAllBoarded 20 0 0 [.ref (gz G + 0), .int z1] h (fun v h1 => ∃ r, (fX6_ifAllBoarded w z1) = r ∧ v = some (.int r.1) ∧ HW G K h1 r.2) := by
  show Tr l G mX6_ifAllBoarded 20 0 0 0 [(0, .ref (gz G + 0)), (1, .int z1)] [] h _
  refine am_aload_n dX6_ifAllBoarded_0 0 rfl ?_
  refine am_iload_n dX6_ifAllBoarded_1 1 rfl ?_
  refine am_callV (As := [.int z1]) (rest := []) dX6_ifAllBoarded_2 kMX6_172 rfl (hwc0 (w := w) hw) rfl rfl (Nat.le_of_ble_eq_true rfl) (d2 := 0) (by decide) (k2 := 0) (Nat.zero_le _) (u2 := 0) (Nat.zero_le _) (Nat.le_of_ble_eq_true rfl) (ctX6_isShape (w := w) hw z1) (fun v1 h2 q3 => ?_)
  obtain ⟨rfl, rfl⟩ := q3
  refine am_if_eq dX6_ifAllBoarded_5 (by decide : ((5 : Nat) : Int) + (18) = ((23 : Nat) : Int)) (fun c4 => ?_) (fun c4 => ?_)
  · refine am_bipush (v := (-2)) dX6_ifAllBoarded_23 (by decide) ?_
    exact am_ireturn dX6_ifAllBoarded_25 rfl rfl ⟨_, Eq.trans (if_pos c4) (rfl), rfl, hw⟩
  · refine am_aload_n dX6_ifAllBoarded_8 0 rfl ?_
    refine am_iload_n dX6_ifAllBoarded_9 1 rfl ?_
    refine am_aload_n dX6_ifAllBoarded_10 0 rfl ?_
    refine am_get (v := .ref (gz G + 21)) dX6_ifAllBoarded_11 kGX6_33 (hwc0 (w := w) hw) rfl ?_
    refine am_get (v := .int ((w.2.2.1 1).1 5)) dX6_ifAllBoarded_14 kGX6_135 (pl_0 (p := (w.2.2.1 1)) (hwP1 (w := w) hw)) rfl ?_
    refine am_callV (As := [.int z1, .int ((w.2.2.1 1).1 5)]) (rest := []) dX6_ifAllBoarded_17 kMX6_283 rfl (hwc0 (w := w) hw) rfl rfl (Nat.le_of_ble_eq_true rfl) (d2 := 19) (by decide) (k2 := 0) (Nat.zero_le _) (u2 := 0) (Nat.zero_le _) (Nat.le_of_ble_eq_true rfl) (ctX6_pairsIfBoarded (w := w) hw z1 ((w.2.2.1 1).1 5)) (fun v5 h6 q7 => ?_)
    obtain ⟨r8, e9, rfl, w10⟩ := q7
    refine am_goto dX6_ifAllBoarded_20 (by decide : ((20 : Nat) : Int) + (5) = ((25 : Nat) : Int)) ?_
    exact am_ireturn dX6_ifAllBoarded_25 rfl rfl ⟨_, Eq.trans (if_neg c4) (bnd_eq e9 (rfl)), rfl, w10⟩

theorem dX6_bestShape_0 : decode cX6_bestShape 0 = .ok (.iconst (-1), 1) := by decide +kernel
theorem dX6_bestShape_1 : decode cX6_bestShape 1 = .ok (.istore_n 1, 1) := by decide +kernel
theorem dX6_bestShape_2 : decode cX6_bestShape 2 = .ok (.iconst (-1), 1) := by decide +kernel
theorem dX6_bestShape_3 : decode cX6_bestShape 3 = .ok (.istore_n 2, 1) := by decide +kernel
theorem dX6_bestShape_4 : decode cX6_bestShape 4 = .ok (.iconst 0, 1) := by decide +kernel
theorem dX6_bestShape_5 : decode cX6_bestShape 5 = .ok (.istore_n 3, 1) := by decide +kernel
theorem dX6_bestShape_6 : decode cX6_bestShape 6 = .ok (.iload_n 3, 1) := by decide +kernel
theorem dX6_bestShape_7 : decode cX6_bestShape 7 = .ok (.aload_n 0, 1) := by decide +kernel
theorem dX6_bestShape_8 : decode cX6_bestShape 8 = .ok (.getfield 33, 3) := by decide +kernel
theorem dX6_bestShape_11 : decode cX6_bestShape 11 = .ok (.getfield 96, 3) := by decide +kernel
theorem dX6_bestShape_14 : decode cX6_bestShape 14 = .ok (.getfield 114, 3) := by decide +kernel
theorem dX6_bestShape_17 : decode cX6_bestShape 17 = .ok (.if_icmp .ge 34, 3) := by decide +kernel
theorem dX6_bestShape_20 : decode cX6_bestShape 20 = .ok (.aload_n 0, 1) := by decide +kernel
theorem dX6_bestShape_21 : decode cX6_bestShape 21 = .ok (.iload_n 3, 1) := by decide +kernel
theorem dX6_bestShape_22 : decode cX6_bestShape 22 = .ok (.aload_n 0, 1) := by decide +kernel
theorem dX6_bestShape_23 : decode cX6_bestShape 23 = .ok (.getfield 33, 3) := by decide +kernel
theorem dX6_bestShape_26 : decode cX6_bestShape 26 = .ok (.getfield 135, 3) := by decide +kernel
theorem dX6_bestShape_29 : decode cX6_bestShape 29 = .ok (.invokevirtual 283, 3) := by decide +kernel
theorem dX6_bestShape_32 : decode cX6_bestShape 32 = .ok (.istore 4, 2) := by decide +kernel
theorem dX6_bestShape_34 : decode cX6_bestShape 34 = .ok (.iload 4, 2) := by decide +kernel
theorem dX6_bestShape_36 : decode cX6_bestShape 36 = .ok (.iload_n 2, 1) := by decide +kernel
theorem dX6_bestShape_37 : decode cX6_bestShape 37 = .ok (.if_icmp .le 8, 3) := by decide +kernel
theorem dX6_bestShape_40 : decode cX6_bestShape 40 = .ok (.iload_n 3, 1) := by decide +kernel
theorem dX6_bestShape_41 : decode cX6_bestShape 41 = .ok (.istore_n 1, 1) := by decide +kernel
theorem dX6_bestShape_42 : decode cX6_bestShape 42 = .ok (.iload 4, 2) := by decide +kernel
theorem dX6_bestShape_44 : decode cX6_bestShape 44 = .ok (.istore_n 2, 1) := by decide +kernel
theorem dX6_bestShape_45 : decode cX6_bestShape 45 = .ok (.iinc 3 1, 3) := by decide +kernel
theorem dX6_bestShape_48 : decode cX6_bestShape 48 = .ok (.goto (-42), 3) := by decide +kernel
theorem dX6_bestShape_51 : decode cX6_bestShape 51 = .ok (.iload_n 1, 1) := by decide +kernel
theorem dX6_bestShape_52 : decode cX6_bestShape 52 = .ok (.ireturn, 1) := by decide +kernel
def fX6_bestShape_6   : Nat → Int32 → Int32 → Int32 → Wd → Int32 × Int32 × Int32 × Wd
  | 0, x3, x2, x1, y => (x3, x2, x1, y)
  | fu + 1, x3, x2, x1, y => (if ((y.2.2.1 1).1 1) ≤ x3 then (x3, x2, x1, y) else (bnd (fX6_pairsIfBoarded y x3 ((y.2.2.1 1).1 5)) (fun r5 => (if r5.1 ≤ x2 then (fX6_bestShape_6    fu (x3 + 1) x2 x1 r5.2) else (fX6_bestShape_6    fu (x3 + 1) r5.1 x3 r5.2)))))
set_option maxRecDepth 20000 in
theorem wX6_bestShape_6 {l : Launch} {G : GM} {K : Nat → Option va_E}    {Q : Option Value → List va_E → Prop} : ∀ (fu : Nat) (x3 x2 x1 : Int32) (y : Wd) (iv : ivU 2147483647 x3 fu) {h : List va_E} (gy : HW G K h y) (kx : ∀ (h1 : List va_E) (r : Int32 × Int32 × Int32 × Wd), (fX6_bestShape_6    fu x3 x2 x1 y) = r → HW G K h1 r.2.2.2 → Tr l G mX6_bestShape 20 0 0 51 [(3, .int r.1), (2, .int r.2.1), (1, .int r.2.2.1), (0, .ref (gz G + 0))] [] h1 Q), Tr l G mX6_bestShape 20 0 0 6 [(3, .int x3), (2, .int x2), (1, .int x1), (0, .ref (gz G + 0))] [] h Q := by
  intro fu
  induction fu with
  | zero => intro x3 x2 x1 y iv; intros; exact absurd iv ivU_0
  | succ fu ih =>
    intro x3 x2 x1 y iv   h gy  kx
    refine am_iload_n dX6_bestShape_6 0 rfl ?_
    refine am_aload_n dX6_bestShape_7 3 rfl ?_
    refine am_get (v := .ref (gz G + 21)) dX6_bestShape_8 kGX6_33 (hwc0 (w := y) gy) rfl ?_
    refine am_get (v := .ref (gz G + 22)) dX6_bestShape_11 kGX6_96 (pl_0 (p := (y.2.2.1 1)) (hwP1 (w := y) gy)) rfl ?_
    refine am_get (v := .int ((y.2.2.1 1).1 1)) dX6_bestShape_14 kGX6_114 (pl_1 (p := (y.2.2.1 1)) (hwP1 (w := y) gy)) rfl ?_
    refine am_icmp_ge dX6_bestShape_17 (by decide : ((17 : Nat) : Int) + (34) = ((51 : Nat) : Int)) (fun c1 => ?_) (fun c1 => ?_)
    · exact kx _ _ (Eq.trans (if_pos c1) (rfl)) gy 
    · refine am_aload_n dX6_bestShape_20 3 rfl ?_
      refine am_iload_n dX6_bestShape_21 0 rfl ?_
      refine am_aload_n dX6_bestShape_22 3 rfl ?_
      refine am_get (v := .ref (gz G + 21)) dX6_bestShape_23 kGX6_33 (hwc0 (w := y) gy) rfl ?_
      refine am_get (v := .int ((y.2.2.1 1).1 5)) dX6_bestShape_26 kGX6_135 (pl_0 (p := (y.2.2.1 1)) (hwP1 (w := y) gy)) rfl ?_
      refine am_callV (As := [.int x3, .int ((y.2.2.1 1).1 5)]) (rest := []) dX6_bestShape_29 kMX6_283 rfl (hwc0 (w := y) gy) rfl rfl (Nat.le_of_ble_eq_true rfl) (d2 := 19) (by decide) (k2 := 0) (Nat.zero_le _) (u2 := 0) (Nat.zero_le _) (Nat.le_of_ble_eq_true rfl) (ctX6_pairsIfBoarded (w := y) gy x3 ((y.2.2.1 1).1 5)) (fun v2 h3 q4 => ?_)
      obtain ⟨r5, e6, rfl, w7⟩ := q4
      refine am_istore dX6_bestShape_32 (by decide) (lv' := [(4, .int r5.1), (3, .int x3), (2, .int x2), (1, .int x1), (0, .ref (gz G + 0))]) rfl ?_
      refine am_iload dX6_bestShape_34 0 rfl ?_
      refine am_iload_n dX6_bestShape_36 2 rfl ?_
      refine am_icmp_le dX6_bestShape_37 (by decide : ((37 : Nat) : Int) + (8) = ((45 : Nat) : Int)) (fun c8 => ?_) (fun c8 => ?_)
      · refine am_iinc (v := (x3 + 1)) dX6_bestShape_45 1 rfl rfl (by decide) (lv' := [(3, .int (x3 + 1)), (4, .int r5.1), (2, .int x2), (1, .int x1), (0, .ref (gz G + 0))]) rfl ?_
        refine am_goto dX6_bestShape_48 (by decide : ((48 : Nat) : Int) + (-42) = ((6 : Nat) : Int)) ?_
        refine am_lv (lv' := [(3, .int (x3 + 1)), (2, .int x2), (1, .int x1), (0, .ref (gz G + 0))]) [0, 2, 3, 4] rfl ?_
        exact ih (x3 + 1) x2 x1 r5.2 (ivU_s (iv_top c1) iv) w7  (fun h1 r e => kx h1 r (Eq.trans (Eq.trans (if_neg c1) (bnd_eq e6 (Eq.trans (if_pos c8) (rfl)))) e))
      · refine am_iload_n dX6_bestShape_40 1 rfl ?_
        refine am_istore_n dX6_bestShape_41 (by decide) (lv' := [(1, .int x3), (4, .int r5.1), (3, .int x3), (2, .int x2), (0, .ref (gz G + 0))]) rfl ?_
        refine am_iload dX6_bestShape_42 1 rfl ?_
        refine am_istore_n dX6_bestShape_44 (by decide) (lv' := [(2, .int r5.1), (1, .int x3), (4, .int r5.1), (3, .int x3), (0, .ref (gz G + 0))]) rfl ?_
        refine am_iinc (v := (x3 + 1)) dX6_bestShape_45 3 rfl rfl (by decide) (lv' := [(3, .int (x3 + 1)), (2, .int r5.1), (1, .int x3), (4, .int r5.1), (0, .ref (gz G + 0))]) rfl ?_
        refine am_goto dX6_bestShape_48 (by decide : ((48 : Nat) : Int) + (-42) = ((6 : Nat) : Int)) ?_
        refine am_lv (lv' := [(3, .int (x3 + 1)), (2, .int r5.1), (1, .int x3), (0, .ref (gz G + 0))]) [0, 1, 2, 4] rfl ?_
        exact ih (x3 + 1) r5.1 x3 r5.2 (ivU_s (iv_top c1) iv) w7  (fun h1 r e => kx h1 r (Eq.trans (Eq.trans (if_neg c1) (bnd_eq e6 (Eq.trans (if_neg c8) (rfl)))) e))
def fX6_bestShape (w : Wd)  : Int32 × Wd := (bnd (fX6_bestShape_6    (fuU 2147483647 0) 0 (-1) (-1) w) (fun r9 => (r9.2.2.1, r9.2.2.2)))
set_option maxRecDepth 20000 in
theorem ctX6_bestShape {l : Launch} {G : GM} {K : Nat → Option va_E} {h : List va_E} {w : Wd} (hw : HW G K h w)  : Ct l G mX6_bestShape 20 0 0 [.ref (gz G + 0)] h (fun v h1 => ∃ r, (fX6_bestShape w ) = r ∧ v = some (.int r.1) ∧ HW G K h1 r.2) := by
  show Tr l G mX6_bestShape 20 0 0 0 [(0, .ref (gz G + 0))] [] h _
  refine am_iconst (v := (-1)) dX6_bestShape_0 (by decide) ?_
  refine am_istore_n dX6_bestShape_1 (by decide) (lv' := [(1, .int (-1)), (0, .ref (gz G + 0))]) rfl ?_
  refine am_iconst (v := (-1)) dX6_bestShape_2 (by decide) ?_
  refine am_istore_n dX6_bestShape_3 (by decide) (lv' := [(2, .int (-1)), (1, .int (-1)), (0, .ref (gz G + 0))]) rfl ?_
  refine am_iconst (v := 0) dX6_bestShape_4 (by decide) ?_
  refine am_istore_n dX6_bestShape_5 (by decide) (lv' := [(3, .int 0), (2, .int (-1)), (1, .int (-1)), (0, .ref (gz G + 0))]) rfl ?_
  refine wX6_bestShape_6    (fuU 2147483647 0) 0 (-1) (-1) w ivU_i hw  (fun h11 r9 e10 w12  => ?_)
  refine am_iload_n dX6_bestShape_51 2 rfl ?_
  exact am_ireturn dX6_bestShape_52 rfl rfl ⟨_, bnd_eq e10 (rfl), rfl, w12⟩

theorem dX6_leastSteam_0 : decode cX6_leastSteam 0 = .ok (.aload_n 0, 1) := by decide +kernel
theorem dX6_leastSteam_1 : decode cX6_leastSteam 1 = .ok (.iload_n 1, 1) := by decide +kernel
theorem dX6_leastSteam_2 : decode cX6_leastSteam 2 = .ok (.invokevirtual 172, 3) := by decide +kernel
theorem dX6_leastSteam_5 : decode cX6_leastSteam 5 = .ok (.ifCond .eq 13, 3) := by decide +kernel
theorem dX6_leastSteam_8 : decode cX6_leastSteam 8 = .ok (.iload_n 2, 1) := by decide +kernel
theorem dX6_leastSteam_9 : decode cX6_leastSteam 9 = .ok (.iconst 1, 1) := by decide +kernel
theorem dX6_leastSteam_10 : decode cX6_leastSteam 10 = .ok (.bipush 7, 2) := by decide +kernel
theorem dX6_leastSteam_12 : decode cX6_leastSteam 12 = .ok (.invokestatic 182, 3) := by decide +kernel
theorem dX6_leastSteam_15 : decode cX6_leastSteam 15 = .ok (.ifCond .ne 6, 3) := by decide +kernel
theorem dX6_leastSteam_18 : decode cX6_leastSteam 18 = .ok (.bipush (-2), 2) := by decide +kernel
theorem dX6_leastSteam_20 : decode cX6_leastSteam 20 = .ok (.ireturn, 1) := by decide +kernel
theorem dX6_leastSteam_21 : decode cX6_leastSteam 21 = .ok (.iconst 0, 1) := by decide +kernel
theorem dX6_leastSteam_22 : decode cX6_leastSteam 22 = .ok (.istore_n 3, 1) := by decide +kernel
theorem dX6_leastSteam_23 : decode cX6_leastSteam 23 = .ok (.iload_n 3, 1) := by decide +kernel
theorem dX6_leastSteam_24 : decode cX6_leastSteam 24 = .ok (.bipush 100, 2) := by decide +kernel
theorem dX6_leastSteam_26 : decode cX6_leastSteam 26 = .ok (.if_icmp .gt 21, 3) := by decide +kernel
theorem dX6_leastSteam_29 : decode cX6_leastSteam 29 = .ok (.aload_n 0, 1) := by decide +kernel
theorem dX6_leastSteam_30 : decode cX6_leastSteam 30 = .ok (.iload_n 1, 1) := by decide +kernel
theorem dX6_leastSteam_31 : decode cX6_leastSteam 31 = .ok (.iload_n 3, 1) := by decide +kernel
theorem dX6_leastSteam_32 : decode cX6_leastSteam 32 = .ok (.invokevirtual 283, 3) := by decide +kernel
theorem dX6_leastSteam_35 : decode cX6_leastSteam 35 = .ok (.iload_n 2, 1) := by decide +kernel
theorem dX6_leastSteam_36 : decode cX6_leastSteam 36 = .ok (.if_icmp .lt 5, 3) := by decide +kernel
theorem dX6_leastSteam_39 : decode cX6_leastSteam 39 = .ok (.iload_n 3, 1) := by decide +kernel
theorem dX6_leastSteam_40 : decode cX6_leastSteam 40 = .ok (.ireturn, 1) := by decide +kernel
theorem dX6_leastSteam_41 : decode cX6_leastSteam 41 = .ok (.iinc 3 1, 3) := by decide +kernel
theorem dX6_leastSteam_44 : decode cX6_leastSteam 44 = .ok (.goto (-21), 3) := by decide +kernel
theorem dX6_leastSteam_47 : decode cX6_leastSteam 47 = .ok (.iconst (-1), 1) := by decide +kernel
theorem dX6_leastSteam_48 : decode cX6_leastSteam 48 = .ok (.ireturn, 1) := by decide +kernel
def fX6_leastSteam_23 (z1 : Int32) (z2 : Int32)  : Nat → Int32 → Wd → Int32 × Wd
  | 0, _, y => (0, y)
  | fu + 1, x3, y => (if 100 < x3 then ((-1), y) else (bnd (fX6_pairsIfBoarded y z1 x3) (fun r13 => (if r13.1 < z2 then (fX6_leastSteam_23 z1 z2   fu (x3 + 1) r13.2) else (x3, r13.2)))))
set_option maxRecDepth 20000 in
theorem wX6_leastSteam_23 {l : Launch} {G : GM} {K : Nat → Option va_E} (z1 : Int32) (z2 : Int32)   : ∀ (fu : Nat) (x3 : Int32) (y : Wd) (iv : ivL 100 x3 fu) {h : List va_E} (gy : HW G K h y), Tr l G mX6_leastSteam 20 0 0 23 [(3, .int x3), (0, .ref (gz G + 0)), (1, .int z1), (2, .int z2)] [] h (fun v h1 => ∃ r, (fX6_leastSteam_23 z1 z2   fu x3 y) = r ∧ v = some (.int r.1) ∧ HW G K h1 r.2) := by
  intro fu
  induction fu with
  | zero => intro x3 y iv; intros; exact absurd iv ivL_0
  | succ fu ih =>
    intro x3 y iv   h gy  
    refine am_iload_n dX6_leastSteam_23 0 rfl ?_
    refine am_bipush (v := 100) dX6_leastSteam_24 (by decide) ?_
    refine am_icmp_gt dX6_leastSteam_26 (by decide : ((26 : Nat) : Int) + (21) = ((47 : Nat) : Int)) (fun c9 => ?_) (fun c9 => ?_)
    · refine am_iconst (v := (-1)) dX6_leastSteam_47 (by decide) ?_
      exact am_ireturn dX6_leastSteam_48 rfl rfl ⟨_, Eq.trans (if_pos c9) (rfl), rfl, gy⟩
    · refine am_aload_n dX6_leastSteam_29 1 rfl ?_
      refine am_iload_n dX6_leastSteam_30 2 rfl ?_
      refine am_iload_n dX6_leastSteam_31 0 rfl ?_
      refine am_callV (As := [.int z1, .int x3]) (rest := []) dX6_leastSteam_32 kMX6_283 rfl (hwc0 (w := y) gy) rfl rfl (Nat.le_of_ble_eq_true rfl) (d2 := 19) (by decide) (k2 := 0) (Nat.zero_le _) (u2 := 0) (Nat.zero_le _) (Nat.le_of_ble_eq_true rfl) (ctX6_pairsIfBoarded (w := y) gy z1 x3) (fun v10 h11 q12 => ?_)
      obtain ⟨r13, e14, rfl, w15⟩ := q12
      refine am_iload_n dX6_leastSteam_35 3 rfl ?_
      refine am_icmp_lt dX6_leastSteam_36 (by decide : ((36 : Nat) : Int) + (5) = ((41 : Nat) : Int)) (fun c16 => ?_) (fun c16 => ?_)
      · refine am_iinc (v := (x3 + 1)) dX6_leastSteam_41 0 rfl rfl (by decide) (lv' := [(3, .int (x3 + 1)), (0, .ref (gz G + 0)), (1, .int z1), (2, .int z2)]) rfl ?_
        refine am_goto dX6_leastSteam_44 (by decide : ((44 : Nat) : Int) + (-21) = ((23 : Nat) : Int)) ?_
        exact am_post (fun v h1 ⟨r, e, q⟩ => ⟨r, Eq.trans (Eq.trans (if_neg c9) (bnd_eq e14 (Eq.trans (if_pos c16) (rfl)))) e, q⟩) (ih (x3 + 1) r13.2 (ivL_s c9 (by decide) iv) w15 )
      · refine am_iload_n dX6_leastSteam_39 0 rfl ?_
        exact am_ireturn dX6_leastSteam_40 rfl rfl ⟨_, Eq.trans (if_neg c9) (bnd_eq e14 (Eq.trans (if_neg c16) (rfl))), rfl, w15⟩
def fX6_leastSteam (w : Wd) (z1 : Int32) (z2 : Int32) : Int32 × Wd := (if (fX6_isShape w z1) = 0 then ((-2), w) else (if (fX6_isBetween z2 1 7) = 0 then ((-2), w) else (fX6_leastSteam_23 z1 z2   (fuL 100 0) 0 w)))
set_option maxRecDepth 20000 in
theorem ctX6_leastSteam {l : Launch} {G : GM} {K : Nat → Option va_E} {h : List va_E} {w : Wd} (hw : HW G K h w) (z1 : Int32) (z2 : Int32) : Ct l G mX6_leastSteam 20 0 0 [.ref (gz G + 0), .int z1, .int z2] h (fun v h1 => ∃ r, (fX6_leastSteam w z1 z2) = r ∧ v = some (.int r.1) ∧ HW G K h1 r.2) := by
  show Tr l G mX6_leastSteam 20 0 0 0 [(0, .ref (gz G + 0)), (1, .int z1), (2, .int z2)] [] h _
  refine am_aload_n dX6_leastSteam_0 0 rfl ?_
  refine am_iload_n dX6_leastSteam_1 1 rfl ?_
  refine am_callV (As := [.int z1]) (rest := []) dX6_leastSteam_2 kMX6_172 rfl (hwc0 (w := w) hw) rfl rfl (Nat.le_of_ble_eq_true rfl) (d2 := 0) (by decide) (k2 := 0) (Nat.zero_le _) (u2 := 0) (Nat.zero_le _) (Nat.le_of_ble_eq_true rfl) (ctX6_isShape (w := w) hw z1) (fun v1 h2 q3 => ?_)
  obtain ⟨rfl, rfl⟩ := q3
  refine am_if_eq dX6_leastSteam_5 (by decide : ((5 : Nat) : Int) + (13) = ((18 : Nat) : Int)) (fun c4 => ?_) (fun c4 => ?_)
  · refine am_bipush (v := (-2)) dX6_leastSteam_18 (by decide) ?_
    exact am_ireturn dX6_leastSteam_20 rfl rfl ⟨_, Eq.trans (if_pos c4) (rfl), rfl, hw⟩
  · refine am_iload_n dX6_leastSteam_8 2 rfl ?_
    refine am_iconst (v := 1) dX6_leastSteam_9 (by decide) ?_
    refine am_bipush (v := 7) dX6_leastSteam_10 (by decide) ?_
    refine am_callS (As := [.int z2, .int 1, .int 7]) (rest := []) dX6_leastSteam_12 kMX6_182 rfl  rfl (Nat.le_of_ble_eq_true rfl) (d2 := 0) (by decide) (k2 := 0) (Nat.zero_le _) (u2 := 0) (Nat.zero_le _) (Nat.le_of_ble_eq_true rfl) (ctX6_isBetween  z2 1 7 ) (fun v5 h6 q7 => ?_)
    obtain ⟨rfl, rfl⟩ := q7
    refine am_if_ne dX6_leastSteam_15 (by decide : ((15 : Nat) : Int) + (6) = ((21 : Nat) : Int)) (fun c8 => ?_) (fun c8 => ?_)
    · refine am_iconst (v := 0) dX6_leastSteam_21 (by decide) ?_
      refine am_istore_n dX6_leastSteam_22 (by decide) (lv' := [(3, .int 0), (0, .ref (gz G + 0)), (1, .int z1), (2, .int z2)]) rfl ?_
      exact am_post (fun v h1 ⟨r, e, q⟩ => ⟨r, Eq.trans (Eq.trans (if_neg c4) (Eq.trans (if_neg c8) (rfl))) e, q⟩) (wX6_leastSteam_23 z1 z2   (fuL 100 0) 0 w ivL_i hw )
    · refine am_bipush (v := (-2)) dX6_leastSteam_18 (by decide) ?_
      exact am_ireturn dX6_leastSteam_20 rfl rfl ⟨_, Eq.trans (if_neg c4) (Eq.trans (if_pos c8) (rfl)), rfl, hw⟩

theorem dX6_pairsWithin_0 : decode cX6_pairsWithin 0 = .ok (.aload_n 0, 1) := by decide +kernel
theorem dX6_pairsWithin_1 : decode cX6_pairsWithin 1 = .ok (.getfield 37, 3) := by decide +kernel
theorem dX6_pairsWithin_4 : decode cX6_pairsWithin 4 = .ok (.aload_n 0, 1) := by decide +kernel
theorem dX6_pairsWithin_5 : decode cX6_pairsWithin 5 = .ok (.getfield 33, 3) := by decide +kernel
theorem dX6_pairsWithin_8 : decode cX6_pairsWithin 8 = .ok (.invokevirtual 79, 3) := by decide +kernel
theorem dX6_pairsWithin_11 : decode cX6_pairsWithin 11 = .ok (.aload_n 0, 1) := by decide +kernel
theorem dX6_pairsWithin_12 : decode cX6_pairsWithin 12 = .ok (.getfield 37, 3) := by decide +kernel
theorem dX6_pairsWithin_15 : decode cX6_pairsWithin 15 = .ok (.iload_n 1, 1) := by decide +kernel
theorem dX6_pairsWithin_16 : decode cX6_pairsWithin 16 = .ok (.putfield 129, 3) := by decide +kernel
theorem dX6_pairsWithin_19 : decode cX6_pairsWithin 19 = .ok (.aload_n 0, 1) := by decide +kernel
theorem dX6_pairsWithin_20 : decode cX6_pairsWithin 20 = .ok (.getfield 37, 3) := by decide +kernel
theorem dX6_pairsWithin_23 : decode cX6_pairsWithin 23 = .ok (.iload_n 2, 1) := by decide +kernel
theorem dX6_pairsWithin_24 : decode cX6_pairsWithin 24 = .ok (.putfield 132, 3) := by decide +kernel
theorem dX6_pairsWithin_27 : decode cX6_pairsWithin 27 = .ok (.aload_n 0, 1) := by decide +kernel
theorem dX6_pairsWithin_28 : decode cX6_pairsWithin 28 = .ok (.getfield 50, 3) := by decide +kernel
theorem dX6_pairsWithin_31 : decode cX6_pairsWithin 31 = .ok (.aload_n 0, 1) := by decide +kernel
theorem dX6_pairsWithin_32 : decode cX6_pairsWithin 32 = .ok (.getfield 37, 3) := by decide +kernel
theorem dX6_pairsWithin_35 : decode cX6_pairsWithin 35 = .ok (.invokevirtual 279, 3) := by decide +kernel
theorem dX6_pairsWithin_38 : decode cX6_pairsWithin 38 = .ok (.ireturn, 1) := by decide +kernel
def fX6_pairsWithin (w : Wd) (z1 : Int32) (z2 : Int32) : Int32 × Wd := (bnd (fX5_copyFrom (w.2.2.1 2) (w.2.2.1 1) ) (fun r4 => (bnd (fX2_mostPairs_37 (wP (wP (wP w 2 r4) 2 (upS r4 3 z1)) 2 (upS (upS r4 3 z1) 4 z2)) ) (fun r14 => (r14.1, r14.2)))))
set_option maxRecDepth 20000 in
theorem ctX6_pairsWithin {l : Launch} {G : GM} {K : Nat → Option va_E} {h : List va_E} {w : Wd} (hw : HW G K h w) (z1 : Int32) (z2 : Int32) : Ct l G mX6_pairsWithin 19 0 0 [.ref (gz G + 0), .int z1, .int z2] h (fun v h1 => ∃ r, (fX6_pairsWithin w z1 z2) = r ∧ v = some (.int r.1) ∧ HW G K h1 r.2) := by
  show Tr l G mX6_pairsWithin 19 0 0 0 [(0, .ref (gz G + 0)), (1, .int z1), (2, .int z2)] [] h _
  refine am_aload_n dX6_pairsWithin_0 0 rfl ?_
  refine am_get (v := .ref (gz G + 37)) dX6_pairsWithin_1 kGX6_37 (hwc0 (w := w) hw) rfl ?_
  refine am_aload_n dX6_pairsWithin_4 0 rfl ?_
  refine am_get (v := .ref (gz G + 21)) dX6_pairsWithin_5 kGX6_33 (hwc0 (w := w) hw) rfl ?_
  refine am_callV (As := [.ref (gz G + 21)]) (rest := []) dX6_pairsWithin_8 kMX6_79 rfl (pl_0 (p := (w.2.2.1 2)) (hwP2 (w := w) hw)) rfl rfl (Nat.le_of_ble_eq_true rfl) (d2 := 3) (by decide) (k2 := 0) (Nat.zero_le _) (u2 := 0) (Nat.zero_le _) (Nat.le_of_ble_eq_true rfl) (ctX5_copyFrom (p := (w.2.2.1 2)) (hwP2 (w := w) hw) (p2 := (w.2.2.1 1)) (hwP1 (w := w) hw) (by decide) ) (fun v1 h2 q3 => ?_)
  obtain ⟨r4, e5, rfl, w6, w7⟩ := q3
  have w8 := hwPu hw (i := 2) (by decide) w6 w7
  refine am_aload_n dX6_pairsWithin_11 0 rfl ?_
  refine am_get (v := .ref (gz G + 37)) dX6_pairsWithin_12 kGX6_37 (hwc0 (w := (wP w 2 r4)) w8) rfl ?_
  refine am_iload_n dX6_pairsWithin_15 1 rfl ?_
  refine am_put dX6_pairsWithin_16 kFX6_129 (pl_0 (p := r4) (hwP2 (w := (wP w 2 r4)) w8)) (Nat.le_of_ble_eq_true rfl) rfl rfl ?_
  have w9 := hwPu w8 (i := 2) (by decide) (p := (upS r4 3 z1)) (pl_s3 (hwP2 (w := (wP w 2 r4)) w8) z1) (Fr.set Fr.rf (a := 37) (S := fun q => pb 2 ≤ q ∧ q < pb 2 + 16) (by decide))
  refine am_aload_n dX6_pairsWithin_19 0 rfl ?_
  refine am_get (v := .ref (gz G + 37)) dX6_pairsWithin_20 kGX6_37 (hwc0 (w := (wP (wP w 2 r4) 2 (upS r4 3 z1))) w9) rfl ?_
  refine am_iload_n dX6_pairsWithin_23 2 rfl ?_
  refine am_put dX6_pairsWithin_24 kFX6_132 (pl_0 (p := (upS r4 3 z1)) (hwP2 (w := (wP (wP w 2 r4) 2 (upS r4 3 z1))) w9)) (Nat.le_of_ble_eq_true rfl) rfl rfl ?_
  have w10 := hwPu w9 (i := 2) (by decide) (p := (upS (upS r4 3 z1) 4 z2)) (pl_s4 (hwP2 (w := (wP (wP w 2 r4) 2 (upS r4 3 z1))) w9) z2) (Fr.set Fr.rf (a := 37) (S := fun q => pb 2 ≤ q ∧ q < pb 2 + 16) (by decide))
  refine am_aload_n dX6_pairsWithin_27 0 rfl ?_
  refine am_get (v := .ref (gz G + 215)) dX6_pairsWithin_28 kGX6_50 (hwc0 (w := (wP (wP (wP w 2 r4) 2 (upS r4 3 z1)) 2 (upS (upS r4 3 z1) 4 z2))) w10) rfl ?_
  refine am_aload_n dX6_pairsWithin_31 0 rfl ?_
  refine am_get (v := .ref (gz G + 37)) dX6_pairsWithin_32 kGX6_37 (hwc0 (w := (wP (wP (wP w 2 r4) 2 (upS r4 3 z1)) 2 (upS (upS r4 3 z1) 4 z2))) w10) rfl ?_
  refine am_callV (As := [.ref (gz G + 37)]) (rest := []) dX6_pairsWithin_35 kMX6_279 rfl (hwc215 (w := (wP (wP (wP w 2 r4) 2 (upS r4 3 z1)) 2 (upS (upS r4 3 z1) 4 z2))) w10) rfl rfl (Nat.le_of_ble_eq_true rfl) (d2 := 18) (by decide) (k2 := 0) (Nat.zero_le _) (u2 := 0) (Nat.zero_le _) (Nat.le_of_ble_eq_true rfl) (ctX2_mostPairs_37 (w := (wP (wP (wP w 2 r4) 2 (upS r4 3 z1)) 2 (upS (upS r4 3 z1) 4 z2))) w10 ) (fun v11 h12 q13 => ?_)
  obtain ⟨r14, e15, rfl, w16⟩ := q13
  exact am_ireturn dX6_pairsWithin_38 rfl rfl ⟨_, bnd_eq e5 (bnd_eq e15 (rfl)), rfl, w16⟩

theorem dX6_leastTolerance_0 : decode cX6_leastTolerance 0 = .ok (.iload_n 1, 1) := by decide +kernel
theorem dX6_leastTolerance_1 : decode cX6_leastTolerance 1 = .ok (.iconst 1, 1) := by decide +kernel
theorem dX6_leastTolerance_2 : decode cX6_leastTolerance 2 = .ok (.bipush 7, 2) := by decide +kernel
theorem dX6_leastTolerance_4 : decode cX6_leastTolerance 4 = .ok (.invokestatic 182, 3) := by decide +kernel
theorem dX6_leastTolerance_7 : decode cX6_leastTolerance 7 = .ok (.ifCond .ne 6, 3) := by decide +kernel
theorem dX6_leastTolerance_10 : decode cX6_leastTolerance 10 = .ok (.bipush (-2), 2) := by decide +kernel
theorem dX6_leastTolerance_12 : decode cX6_leastTolerance 12 = .ok (.ireturn, 1) := by decide +kernel
theorem dX6_leastTolerance_13 : decode cX6_leastTolerance 13 = .ok (.aload_n 0, 1) := by decide +kernel
theorem dX6_leastTolerance_14 : decode cX6_leastTolerance 14 = .ok (.getfield 33, 3) := by decide +kernel
theorem dX6_leastTolerance_17 : decode cX6_leastTolerance 17 = .ok (.getfield 132, 3) := by decide +kernel
theorem dX6_leastTolerance_20 : decode cX6_leastTolerance 20 = .ok (.istore_n 2, 1) := by decide +kernel
theorem dX6_leastTolerance_21 : decode cX6_leastTolerance 21 = .ok (.aload_n 0, 1) := by decide +kernel
theorem dX6_leastTolerance_22 : decode cX6_leastTolerance 22 = .ok (.sipush 500, 3) := by decide +kernel
theorem dX6_leastTolerance_25 : decode cX6_leastTolerance 25 = .ok (.iload_n 2, 1) := by decide +kernel
theorem dX6_leastTolerance_26 : decode cX6_leastTolerance 26 = .ok (.invokevirtual 286, 3) := by decide +kernel
theorem dX6_leastTolerance_29 : decode cX6_leastTolerance 29 = .ok (.iload_n 1, 1) := by decide +kernel
theorem dX6_leastTolerance_30 : decode cX6_leastTolerance 30 = .ok (.if_icmp .ge 5, 3) := by decide +kernel
theorem dX6_leastTolerance_33 : decode cX6_leastTolerance 33 = .ok (.iconst (-1), 1) := by decide +kernel
theorem dX6_leastTolerance_34 : decode cX6_leastTolerance 34 = .ok (.ireturn, 1) := by decide +kernel
theorem dX6_leastTolerance_35 : decode cX6_leastTolerance 35 = .ok (.iconst 0, 1) := by decide +kernel
theorem dX6_leastTolerance_36 : decode cX6_leastTolerance 36 = .ok (.istore_n 3, 1) := by decide +kernel
theorem dX6_leastTolerance_37 : decode cX6_leastTolerance 37 = .ok (.sipush 500, 3) := by decide +kernel
theorem dX6_leastTolerance_40 : decode cX6_leastTolerance 40 = .ok (.istore 4, 2) := by decide +kernel
theorem dX6_leastTolerance_42 : decode cX6_leastTolerance 42 = .ok (.iconst 0, 1) := by decide +kernel
theorem dX6_leastTolerance_43 : decode cX6_leastTolerance 43 = .ok (.istore 5, 2) := by decide +kernel
theorem dX6_leastTolerance_45 : decode cX6_leastTolerance 45 = .ok (.iload 5, 2) := by decide +kernel
theorem dX6_leastTolerance_47 : decode cX6_leastTolerance 47 = .ok (.bipush 10, 2) := by decide +kernel
theorem dX6_leastTolerance_49 : decode cX6_leastTolerance 49 = .ok (.if_icmp .ge 46, 3) := by decide +kernel
theorem dX6_leastTolerance_52 : decode cX6_leastTolerance 52 = .ok (.iload_n 3, 1) := by decide +kernel
theorem dX6_leastTolerance_53 : decode cX6_leastTolerance 53 = .ok (.iload 4, 2) := by decide +kernel
theorem dX6_leastTolerance_55 : decode cX6_leastTolerance 55 = .ok (.if_icmp .ge 40, 3) := by decide +kernel
theorem dX6_leastTolerance_58 : decode cX6_leastTolerance 58 = .ok (.iload_n 3, 1) := by decide +kernel
theorem dX6_leastTolerance_59 : decode cX6_leastTolerance 59 = .ok (.iload 4, 2) := by decide +kernel
theorem dX6_leastTolerance_61 : decode cX6_leastTolerance 61 = .ok (.iadd, 1) := by decide +kernel
theorem dX6_leastTolerance_62 : decode cX6_leastTolerance 62 = .ok (.iconst 2, 1) := by decide +kernel
theorem dX6_leastTolerance_63 : decode cX6_leastTolerance 63 = .ok (.idiv, 1) := by decide +kernel
theorem dX6_leastTolerance_64 : decode cX6_leastTolerance 64 = .ok (.istore 6, 2) := by decide +kernel
theorem dX6_leastTolerance_66 : decode cX6_leastTolerance 66 = .ok (.aload_n 0, 1) := by decide +kernel
theorem dX6_leastTolerance_67 : decode cX6_leastTolerance 67 = .ok (.iload 6, 2) := by decide +kernel
theorem dX6_leastTolerance_69 : decode cX6_leastTolerance 69 = .ok (.iload_n 2, 1) := by decide +kernel
theorem dX6_leastTolerance_70 : decode cX6_leastTolerance 70 = .ok (.invokevirtual 286, 3) := by decide +kernel
theorem dX6_leastTolerance_73 : decode cX6_leastTolerance 73 = .ok (.iload_n 1, 1) := by decide +kernel
theorem dX6_leastTolerance_74 : decode cX6_leastTolerance 74 = .ok (.if_icmp .lt 10, 3) := by decide +kernel
theorem dX6_leastTolerance_77 : decode cX6_leastTolerance 77 = .ok (.iload 6, 2) := by decide +kernel
theorem dX6_leastTolerance_79 : decode cX6_leastTolerance 79 = .ok (.istore 4, 2) := by decide +kernel
theorem dX6_leastTolerance_81 : decode cX6_leastTolerance 81 = .ok (.goto 8, 3) := by decide +kernel
theorem dX6_leastTolerance_84 : decode cX6_leastTolerance 84 = .ok (.iload 6, 2) := by decide +kernel
theorem dX6_leastTolerance_86 : decode cX6_leastTolerance 86 = .ok (.iconst 1, 1) := by decide +kernel
theorem dX6_leastTolerance_87 : decode cX6_leastTolerance 87 = .ok (.iadd, 1) := by decide +kernel
theorem dX6_leastTolerance_88 : decode cX6_leastTolerance 88 = .ok (.istore_n 3, 1) := by decide +kernel
theorem dX6_leastTolerance_89 : decode cX6_leastTolerance 89 = .ok (.iinc 5 1, 3) := by decide +kernel
theorem dX6_leastTolerance_92 : decode cX6_leastTolerance 92 = .ok (.goto (-47), 3) := by decide +kernel
theorem dX6_leastTolerance_95 : decode cX6_leastTolerance 95 = .ok (.iload 4, 2) := by decide +kernel
theorem dX6_leastTolerance_97 : decode cX6_leastTolerance 97 = .ok (.ireturn, 1) := by decide +kernel
def fX6_leastTolerance_45 (z1 : Int32) (o2 : Int32) : Nat → Int32 → Int32 → Int32 → Wd → Int32 × Int32 × Int32 × Wd
  | 0, x5, x4, x3, y => (x5, x4, x3, y)
  | fu + 1, x5, x4, x3, y => (if 10 ≤ x5 then (x5, x4, x3, y) else (if x4 ≤ x3 then (x5, x4, x3, y) else (bnd (fX6_pairsWithin y ((x3 + x4) / 2) o2) (fun r17 => (if r17.1 < z1 then (fX6_leastTolerance_45 z1 o2  fu (x5 + 1) x4 (((x3 + x4) / 2) + 1) r17.2) else (fX6_leastTolerance_45 z1 o2  fu (x5 + 1) ((x3 + x4) / 2) x3 r17.2))))))
set_option maxRecDepth 20000 in
theorem wX6_leastTolerance_45 {l : Launch} {G : GM} {K : Nat → Option va_E} (z1 : Int32) (o2 : Int32)  {Q : Option Value → List va_E → Prop} : ∀ (fu : Nat) (x5 x4 x3 : Int32) (y : Wd) (iv : ivU 10 x5 fu) {h : List va_E} (gy : HW G K h y) (kx : ∀ (h1 : List va_E) (r : Int32 × Int32 × Int32 × Wd), (fX6_leastTolerance_45 z1 o2  fu x5 x4 x3 y) = r → HW G K h1 r.2.2.2 → Tr l G mX6_leastTolerance 20 0 0 95 [(5, .int r.1), (4, .int r.2.1), (3, .int r.2.2.1), (2, .int o2), (0, .ref (gz G + 0)), (1, .int z1)] [] h1 Q), Tr l G mX6_leastTolerance 20 0 0 45 [(5, .int x5), (4, .int x4), (3, .int x3), (2, .int o2), (0, .ref (gz G + 0)), (1, .int z1)] [] h Q := by
  intro fu
  induction fu with
  | zero => intro x5 x4 x3 y iv; intros; exact absurd iv ivU_0
  | succ fu ih =>
    intro x5 x4 x3 y iv   h gy  kx
    refine am_iload dX6_leastTolerance_45 0 rfl ?_
    refine am_bipush (v := 10) dX6_leastTolerance_47 (by decide) ?_
    refine am_icmp_ge dX6_leastTolerance_49 (by decide : ((49 : Nat) : Int) + (46) = ((95 : Nat) : Int)) (fun c12 => ?_) (fun c12 => ?_)
    · exact kx _ _ (Eq.trans (if_pos c12) (rfl)) gy 
    · refine am_iload_n dX6_leastTolerance_52 2 rfl ?_
      refine am_iload dX6_leastTolerance_53 1 rfl ?_
      refine am_icmp_ge dX6_leastTolerance_55 (by decide : ((55 : Nat) : Int) + (40) = ((95 : Nat) : Int)) (fun c13 => ?_) (fun c13 => ?_)
      · exact kx _ _ (Eq.trans (if_neg c12) (Eq.trans (if_pos c13) (rfl))) gy 
      · refine am_iload_n dX6_leastTolerance_58 2 rfl ?_
        refine am_iload dX6_leastTolerance_59 1 rfl ?_
        refine am_iadd dX6_leastTolerance_61 ?_
        refine am_iconst (v := 2) dX6_leastTolerance_62 (by decide) ?_
        refine am_idiv dX6_leastTolerance_63 (by decide) ?_
        refine am_istore dX6_leastTolerance_64 (by decide) (lv' := [(6, .int ((x3 + x4) / 2)), (5, .int x5), (4, .int x4), (3, .int x3), (2, .int o2), (0, .ref (gz G + 0)), (1, .int z1)]) rfl ?_
        refine am_aload_n dX6_leastTolerance_66 5 rfl ?_
        refine am_iload dX6_leastTolerance_67 0 rfl ?_
        refine am_iload_n dX6_leastTolerance_69 4 rfl ?_
        refine am_callV (As := [.int ((x3 + x4) / 2), .int o2]) (rest := []) dX6_leastTolerance_70 kMX6_286 rfl (hwc0 (w := y) gy) rfl rfl (Nat.le_of_ble_eq_true rfl) (d2 := 19) (by decide) (k2 := 0) (Nat.zero_le _) (u2 := 0) (Nat.zero_le _) (Nat.le_of_ble_eq_true rfl) (ctX6_pairsWithin (w := y) gy ((x3 + x4) / 2) o2) (fun v14 h15 q16 => ?_)
        obtain ⟨r17, e18, rfl, w19⟩ := q16
        refine am_iload_n dX6_leastTolerance_73 6 rfl ?_
        refine am_icmp_lt dX6_leastTolerance_74 (by decide : ((74 : Nat) : Int) + (10) = ((84 : Nat) : Int)) (fun c20 => ?_) (fun c20 => ?_)
        · refine am_iload dX6_leastTolerance_84 0 rfl ?_
          refine am_iconst (v := 1) dX6_leastTolerance_86 (by decide) ?_
          refine am_iadd dX6_leastTolerance_87 ?_
          refine am_istore_n dX6_leastTolerance_88 (by decide) (lv' := [(3, .int (((x3 + x4) / 2) + 1)), (6, .int ((x3 + x4) / 2)), (5, .int x5), (4, .int x4), (2, .int o2), (0, .ref (gz G + 0)), (1, .int z1)]) rfl ?_
          refine am_iinc (v := (x5 + 1)) dX6_leastTolerance_89 2 rfl rfl (by decide) (lv' := [(5, .int (x5 + 1)), (3, .int (((x3 + x4) / 2) + 1)), (6, .int ((x3 + x4) / 2)), (4, .int x4), (2, .int o2), (0, .ref (gz G + 0)), (1, .int z1)]) rfl ?_
          refine am_goto dX6_leastTolerance_92 (by decide : ((92 : Nat) : Int) + (-47) = ((45 : Nat) : Int)) ?_
          refine am_lv (lv' := [(5, .int (x5 + 1)), (4, .int x4), (3, .int (((x3 + x4) / 2) + 1)), (2, .int o2), (0, .ref (gz G + 0)), (1, .int z1)]) [0, 3, 1, 4, 5, 6] rfl ?_
          exact ih (x5 + 1) x4 (((x3 + x4) / 2) + 1) r17.2 (ivU_s c12 iv) w19  (fun h1 r e => kx h1 r (Eq.trans (Eq.trans (if_neg c12) (Eq.trans (if_neg c13) (bnd_eq e18 (Eq.trans (if_pos c20) (rfl))))) e))
        · refine am_iload dX6_leastTolerance_77 0 rfl ?_
          refine am_istore dX6_leastTolerance_79 (by decide) (lv' := [(4, .int ((x3 + x4) / 2)), (6, .int ((x3 + x4) / 2)), (5, .int x5), (3, .int x3), (2, .int o2), (0, .ref (gz G + 0)), (1, .int z1)]) rfl ?_
          refine am_goto dX6_leastTolerance_81 (by decide : ((81 : Nat) : Int) + (8) = ((89 : Nat) : Int)) ?_
          refine am_iinc (v := (x5 + 1)) dX6_leastTolerance_89 2 rfl rfl (by decide) (lv' := [(5, .int (x5 + 1)), (4, .int ((x3 + x4) / 2)), (6, .int ((x3 + x4) / 2)), (3, .int x3), (2, .int o2), (0, .ref (gz G + 0)), (1, .int z1)]) rfl ?_
          refine am_goto dX6_leastTolerance_92 (by decide : ((92 : Nat) : Int) + (-47) = ((45 : Nat) : Int)) ?_
          refine am_lv (lv' := [(5, .int (x5 + 1)), (4, .int ((x3 + x4) / 2)), (3, .int x3), (2, .int o2), (0, .ref (gz G + 0)), (1, .int z1)]) [0, 1, 3, 4, 5, 6] rfl ?_
          exact ih (x5 + 1) ((x3 + x4) / 2) x3 r17.2 (ivU_s c12 iv) w19  (fun h1 r e => kx h1 r (Eq.trans (Eq.trans (if_neg c12) (Eq.trans (if_neg c13) (bnd_eq e18 (Eq.trans (if_neg c20) (rfl))))) e))
def fX6_leastTolerance (w : Wd) (z1 : Int32) : Int32 × Wd := (if (fX6_isBetween z1 1 7) = 0 then ((-2), w) else (bnd (fX6_pairsWithin w 500 ((w.2.2.1 1).1 4)) (fun r8 => (if z1 ≤ r8.1 then (bnd (fX6_leastTolerance_45 z1 ((w.2.2.1 1).1 4)  (fuU 10 0) 0 500 0 r8.2) (fun r21 => (r21.2.1, r21.2.2.2))) else ((-1), r8.2)))))
set_option maxRecDepth 20000 in
theorem ctX6_leastTolerance {l : Launch} {G : GM} {K : Nat → Option va_E} {h : List va_E} {w : Wd} (hw : HW G K h w) (z1 : Int32) : Ct l G mX6_leastTolerance 20 0 0 [.ref (gz G + 0), .int z1] h (fun v h1 => ∃ r, (fX6_leastTolerance w z1) = r ∧ v = some (.int r.1) ∧ HW G K h1 r.2) := by
  show Tr l G mX6_leastTolerance 20 0 0 0 [(0, .ref (gz G + 0)), (1, .int z1)] [] h _
  refine am_iload_n dX6_leastTolerance_0 1 rfl ?_
  refine am_iconst (v := 1) dX6_leastTolerance_1 (by decide) ?_
  refine am_bipush (v := 7) dX6_leastTolerance_2 (by decide) ?_
  refine am_callS (As := [.int z1, .int 1, .int 7]) (rest := []) dX6_leastTolerance_4 kMX6_182 rfl  rfl (Nat.le_of_ble_eq_true rfl) (d2 := 0) (by decide) (k2 := 0) (Nat.zero_le _) (u2 := 0) (Nat.zero_le _) (Nat.le_of_ble_eq_true rfl) (ctX6_isBetween  z1 1 7 ) (fun v1 h2 q3 => ?_)
  obtain ⟨rfl, rfl⟩ := q3
  refine am_if_ne dX6_leastTolerance_7 (by decide : ((7 : Nat) : Int) + (6) = ((13 : Nat) : Int)) (fun c4 => ?_) (fun c4 => ?_)
  · refine am_aload_n dX6_leastTolerance_13 0 rfl ?_
    refine am_get (v := .ref (gz G + 21)) dX6_leastTolerance_14 kGX6_33 (hwc0 (w := w) hw) rfl ?_
    refine am_get (v := .int ((w.2.2.1 1).1 4)) dX6_leastTolerance_17 kGX6_132 (pl_0 (p := (w.2.2.1 1)) (hwP1 (w := w) hw)) rfl ?_
    refine am_istore_n dX6_leastTolerance_20 (by decide) (lv' := [(2, .int ((w.2.2.1 1).1 4)), (0, .ref (gz G + 0)), (1, .int z1)]) rfl ?_
    refine am_aload_n dX6_leastTolerance_21 1 rfl ?_
    refine am_sipush (v := 500) dX6_leastTolerance_22 (by decide) ?_
    refine am_iload_n dX6_leastTolerance_25 0 rfl ?_
    refine am_callV (As := [.int 500, .int ((w.2.2.1 1).1 4)]) (rest := []) dX6_leastTolerance_26 kMX6_286 rfl (hwc0 (w := w) hw) rfl rfl (Nat.le_of_ble_eq_true rfl) (d2 := 19) (by decide) (k2 := 0) (Nat.zero_le _) (u2 := 0) (Nat.zero_le _) (Nat.le_of_ble_eq_true rfl) (ctX6_pairsWithin (w := w) hw 500 ((w.2.2.1 1).1 4)) (fun v5 h6 q7 => ?_)
    obtain ⟨r8, e9, rfl, w10⟩ := q7
    refine am_iload_n dX6_leastTolerance_29 2 rfl ?_
    refine am_icmp_ge dX6_leastTolerance_30 (by decide : ((30 : Nat) : Int) + (5) = ((35 : Nat) : Int)) (fun c11 => ?_) (fun c11 => ?_)
    · refine am_iconst (v := 0) dX6_leastTolerance_35 (by decide) ?_
      refine am_istore_n dX6_leastTolerance_36 (by decide) (lv' := [(3, .int 0), (2, .int ((w.2.2.1 1).1 4)), (0, .ref (gz G + 0)), (1, .int z1)]) rfl ?_
      refine am_sipush (v := 500) dX6_leastTolerance_37 (by decide) ?_
      refine am_istore dX6_leastTolerance_40 (by decide) (lv' := [(4, .int 500), (3, .int 0), (2, .int ((w.2.2.1 1).1 4)), (0, .ref (gz G + 0)), (1, .int z1)]) rfl ?_
      refine am_iconst (v := 0) dX6_leastTolerance_42 (by decide) ?_
      refine am_istore dX6_leastTolerance_43 (by decide) (lv' := [(5, .int 0), (4, .int 500), (3, .int 0), (2, .int ((w.2.2.1 1).1 4)), (0, .ref (gz G + 0)), (1, .int z1)]) rfl ?_
      refine wX6_leastTolerance_45 z1 ((w.2.2.1 1).1 4)  (fuU 10 0) 0 500 0 r8.2 ivU_i w10  (fun h23 r21 e22 w24  => ?_)
      refine am_iload dX6_leastTolerance_95 1 rfl ?_
      exact am_ireturn dX6_leastTolerance_97 rfl rfl ⟨_, Eq.trans (if_neg c4) (bnd_eq e9 (Eq.trans (if_pos c11) (bnd_eq e22 (rfl)))), rfl, w24⟩
    · refine am_iconst (v := (-1)) dX6_leastTolerance_33 (by decide) ?_
      exact am_ireturn dX6_leastTolerance_34 rfl rfl ⟨_, Eq.trans (if_neg c4) (bnd_eq e9 (Eq.trans (if_neg c11) (rfl))), rfl, w10⟩
  · refine am_bipush (v := (-2)) dX6_leastTolerance_10 (by decide) ?_
    exact am_ireturn dX6_leastTolerance_12 rfl rfl ⟨_, Eq.trans (if_pos c4) (rfl), rfl, hw⟩

theorem dX6_ifTolerance_0 : decode cX6_ifTolerance 0 = .ok (.iload_n 1, 1) := by decide +kernel
theorem dX6_ifTolerance_1 : decode cX6_ifTolerance 1 = .ok (.iload_n 2, 1) := by decide +kernel
theorem dX6_ifTolerance_2 : decode cX6_ifTolerance 2 = .ok (.invokestatic 224, 3) := by decide +kernel
theorem dX6_ifTolerance_5 : decode cX6_ifTolerance 5 = .ok (.ifCond .eq 12, 3) := by decide +kernel
theorem dX6_ifTolerance_8 : decode cX6_ifTolerance 8 = .ok (.aload_n 0, 1) := by decide +kernel
theorem dX6_ifTolerance_9 : decode cX6_ifTolerance 9 = .ok (.iload_n 1, 1) := by decide +kernel
theorem dX6_ifTolerance_10 : decode cX6_ifTolerance 10 = .ok (.iload_n 2, 1) := by decide +kernel
theorem dX6_ifTolerance_11 : decode cX6_ifTolerance 11 = .ok (.invokevirtual 286, 3) := by decide +kernel
theorem dX6_ifTolerance_14 : decode cX6_ifTolerance 14 = .ok (.goto 5, 3) := by decide +kernel
theorem dX6_ifTolerance_17 : decode cX6_ifTolerance 17 = .ok (.bipush (-2), 2) := by decide +kernel
theorem dX6_ifTolerance_19 : decode cX6_ifTolerance 19 = .ok (.ireturn, 1) := by decide +kernel
def fX6_ifTolerance (w : Wd) (z1 : Int32) (z2 : Int32) : Int32 × Wd := (if (fX6_areTolerances z1 z2) = 0 then ((-2), w) else (bnd (fX6_pairsWithin w z1 z2) (fun r8 => (r8.1, r8.2))))
set_option maxRecDepth 20000 in
theorem ctX6_ifTolerance {l : Launch} {G : GM} {K : Nat → Option va_E} {h : List va_E} {w : Wd} (hw : HW G K h w) (z1 : Int32) (z2 : Int32) : Ct l G mX6_ifTolerance 20 0 0 [.ref (gz G + 0), .int z1, .int z2] h (fun v h1 => ∃ r, (fX6_ifTolerance w z1 z2) = r ∧ v = some (.int r.1) ∧ HW G K h1 r.2) := by
  show Tr l G mX6_ifTolerance 20 0 0 0 [(0, .ref (gz G + 0)), (1, .int z1), (2, .int z2)] [] h _
  refine am_iload_n dX6_ifTolerance_0 1 rfl ?_
  refine am_iload_n dX6_ifTolerance_1 2 rfl ?_
  refine am_callS (As := [.int z1, .int z2]) (rest := []) dX6_ifTolerance_2 kMX6_224 rfl  rfl (Nat.le_of_ble_eq_true rfl) (d2 := 1) (by decide) (k2 := 0) (Nat.zero_le _) (u2 := 0) (Nat.zero_le _) (Nat.le_of_ble_eq_true rfl) (ctX6_areTolerances  z1 z2 ) (fun v1 h2 q3 => ?_)
  obtain ⟨rfl, rfl⟩ := q3
  refine am_if_eq dX6_ifTolerance_5 (by decide : ((5 : Nat) : Int) + (12) = ((17 : Nat) : Int)) (fun c4 => ?_) (fun c4 => ?_)
  · refine am_bipush (v := (-2)) dX6_ifTolerance_17 (by decide) ?_
    exact am_ireturn dX6_ifTolerance_19 rfl rfl ⟨_, Eq.trans (if_pos c4) (rfl), rfl, hw⟩
  · refine am_aload_n dX6_ifTolerance_8 0 rfl ?_
    refine am_iload_n dX6_ifTolerance_9 1 rfl ?_
    refine am_iload_n dX6_ifTolerance_10 2 rfl ?_
    refine am_callV (As := [.int z1, .int z2]) (rest := []) dX6_ifTolerance_11 kMX6_286 rfl (hwc0 (w := w) hw) rfl rfl (Nat.le_of_ble_eq_true rfl) (d2 := 19) (by decide) (k2 := 0) (Nat.zero_le _) (u2 := 0) (Nat.zero_le _) (Nat.le_of_ble_eq_true rfl) (ctX6_pairsWithin (w := w) hw z1 z2) (fun v5 h6 q7 => ?_)
    obtain ⟨r8, e9, rfl, w10⟩ := q7
    refine am_goto dX6_ifTolerance_14 (by decide : ((14 : Nat) : Int) + (5) = ((19 : Nat) : Int)) ?_
    exact am_ireturn dX6_ifTolerance_19 rfl rfl ⟨_, Eq.trans (if_neg c4) (bnd_eq e9 (rfl)), rfl, w10⟩

theorem dX6_bestDye_0 : decode cX6_bestDye 0 = .ok (.aload_n 0, 1) := by decide +kernel
theorem dX6_bestDye_1 : decode cX6_bestDye 1 = .ok (.iload_n 1, 1) := by decide +kernel
theorem dX6_bestDye_2 : decode cX6_bestDye 2 = .ok (.invokevirtual 138, 3) := by decide +kernel
theorem dX6_bestDye_5 : decode cX6_bestDye 5 = .ok (.ifCond .ne 6, 3) := by decide +kernel
theorem dX6_bestDye_8 : decode cX6_bestDye 8 = .ok (.bipush (-2), 2) := by decide +kernel
theorem dX6_bestDye_10 : decode cX6_bestDye 10 = .ok (.ireturn, 1) := by decide +kernel
theorem dX6_bestDye_11 : decode cX6_bestDye 11 = .ok (.aload_n 0, 1) := by decide +kernel
theorem dX6_bestDye_12 : decode cX6_bestDye 12 = .ok (.getfield 33, 3) := by decide +kernel
theorem dX6_bestDye_15 : decode cX6_bestDye 15 = .ok (.iload_n 1, 1) := by decide +kernel
theorem dX6_bestDye_16 : decode cX6_bestDye 16 = .ok (.invokevirtual 200, 3) := by decide +kernel
theorem dX6_bestDye_19 : decode cX6_bestDye 19 = .ok (.ifCond .ne 6, 3) := by decide +kernel
theorem dX6_bestDye_22 : decode cX6_bestDye 22 = .ok (.bipush (-6), 2) := by decide +kernel
theorem dX6_bestDye_24 : decode cX6_bestDye 24 = .ok (.ireturn, 1) := by decide +kernel
theorem dX6_bestDye_25 : decode cX6_bestDye 25 = .ok (.aload_n 0, 1) := by decide +kernel
theorem dX6_bestDye_26 : decode cX6_bestDye 26 = .ok (.getfield 37, 3) := by decide +kernel
theorem dX6_bestDye_29 : decode cX6_bestDye 29 = .ok (.aload_n 0, 1) := by decide +kernel
theorem dX6_bestDye_30 : decode cX6_bestDye 30 = .ok (.getfield 33, 3) := by decide +kernel
theorem dX6_bestDye_33 : decode cX6_bestDye 33 = .ok (.invokevirtual 79, 3) := by decide +kernel
theorem dX6_bestDye_36 : decode cX6_bestDye 36 = .ok (.aload_n 0, 1) := by decide +kernel
theorem dX6_bestDye_37 : decode cX6_bestDye 37 = .ok (.getfield 33, 3) := by decide +kernel
theorem dX6_bestDye_40 : decode cX6_bestDye 40 = .ok (.getfield 151, 3) := by decide +kernel
theorem dX6_bestDye_43 : decode cX6_bestDye 43 = .ok (.iload_n 1, 1) := by decide +kernel
theorem dX6_bestDye_44 : decode cX6_bestDye 44 = .ok (.invokestatic 144, 3) := by decide +kernel
theorem dX6_bestDye_47 : decode cX6_bestDye 47 = .ok (.istore_n 2, 1) := by decide +kernel
theorem dX6_bestDye_48 : decode cX6_bestDye 48 = .ok (.iload_n 2, 1) := by decide +kernel
theorem dX6_bestDye_49 : decode cX6_bestDye 49 = .ok (.istore_n 3, 1) := by decide +kernel
theorem dX6_bestDye_50 : decode cX6_bestDye 50 = .ok (.iconst (-1), 1) := by decide +kernel
theorem dX6_bestDye_51 : decode cX6_bestDye 51 = .ok (.istore 4, 2) := by decide +kernel
theorem dX6_bestDye_53 : decode cX6_bestDye 53 = .ok (.iconst 0, 1) := by decide +kernel
theorem dX6_bestDye_54 : decode cX6_bestDye 54 = .ok (.istore 5, 2) := by decide +kernel
theorem dX6_bestDye_56 : decode cX6_bestDye 56 = .ok (.iconst (-1), 1) := by decide +kernel
theorem dX6_bestDye_57 : decode cX6_bestDye 57 = .ok (.istore 6, 2) := by decide +kernel
theorem dX6_bestDye_59 : decode cX6_bestDye 59 = .ok (.iconst 0, 1) := by decide +kernel
theorem dX6_bestDye_60 : decode cX6_bestDye 60 = .ok (.istore 7, 2) := by decide +kernel
theorem dX6_bestDye_62 : decode cX6_bestDye 62 = .ok (.iload 7, 2) := by decide +kernel
theorem dX6_bestDye_64 : decode cX6_bestDye 64 = .ok (.sipush 255, 3) := by decide +kernel
theorem dX6_bestDye_67 : decode cX6_bestDye 67 = .ok (.if_icmp .gt 105, 3) := by decide +kernel
theorem dX6_bestDye_70 : decode cX6_bestDye 70 = .ok (.aload_n 0, 1) := by decide +kernel
theorem dX6_bestDye_71 : decode cX6_bestDye 71 = .ok (.getfield 37, 3) := by decide +kernel
theorem dX6_bestDye_74 : decode cX6_bestDye 74 = .ok (.getfield 151, 3) := by decide +kernel
theorem dX6_bestDye_77 : decode cX6_bestDye 77 = .ok (.iload_n 1, 1) := by decide +kernel
theorem dX6_bestDye_78 : decode cX6_bestDye 78 = .ok (.iload 7, 2) := by decide +kernel
theorem dX6_bestDye_80 : decode cX6_bestDye 80 = .ok (.invokestatic 220, 3) := by decide +kernel
theorem dX6_bestDye_83 : decode cX6_bestDye 83 = .ok (.aload_n 0, 1) := by decide +kernel
theorem dX6_bestDye_84 : decode cX6_bestDye 84 = .ok (.getfield 37, 3) := by decide +kernel
theorem dX6_bestDye_87 : decode cX6_bestDye 87 = .ok (.iload_n 1, 1) := by decide +kernel
theorem dX6_bestDye_88 : decode cX6_bestDye 88 = .ok (.invokevirtual 255, 3) := by decide +kernel
theorem dX6_bestDye_91 : decode cX6_bestDye 91 = .ok (.istore 8, 2) := by decide +kernel
theorem dX6_bestDye_93 : decode cX6_bestDye 93 = .ok (.iload 8, 2) := by decide +kernel
theorem dX6_bestDye_95 : decode cX6_bestDye 95 = .ok (.iload 6, 2) := by decide +kernel
theorem dX6_bestDye_97 : decode cX6_bestDye 97 = .ok (.if_icmp .eq 20, 3) := by decide +kernel
theorem dX6_bestDye_100 : decode cX6_bestDye 100 = .ok (.aload_n 0, 1) := by decide +kernel
theorem dX6_bestDye_101 : decode cX6_bestDye 101 = .ok (.getfield 50, 3) := by decide +kernel
theorem dX6_bestDye_104 : decode cX6_bestDye 104 = .ok (.aload_n 0, 1) := by decide +kernel
theorem dX6_bestDye_105 : decode cX6_bestDye 105 = .ok (.getfield 37, 3) := by decide +kernel
theorem dX6_bestDye_108 : decode cX6_bestDye 108 = .ok (.invokevirtual 279, 3) := by decide +kernel
theorem dX6_bestDye_111 : decode cX6_bestDye 111 = .ok (.istore 5, 2) := by decide +kernel
theorem dX6_bestDye_113 : decode cX6_bestDye 113 = .ok (.iload 8, 2) := by decide +kernel
theorem dX6_bestDye_115 : decode cX6_bestDye 115 = .ok (.istore 6, 2) := by decide +kernel
theorem dX6_bestDye_117 : decode cX6_bestDye 117 = .ok (.iload 7, 2) := by decide +kernel
theorem dX6_bestDye_119 : decode cX6_bestDye 119 = .ok (.iload_n 2, 1) := by decide +kernel
theorem dX6_bestDye_120 : decode cX6_bestDye 120 = .ok (.isub, 1) := by decide +kernel
theorem dX6_bestDye_121 : decode cX6_bestDye 121 = .ok (.invokestatic 186, 3) := by decide +kernel
theorem dX6_bestDye_124 : decode cX6_bestDye 124 = .ok (.iload_n 3, 1) := by decide +kernel
theorem dX6_bestDye_125 : decode cX6_bestDye 125 = .ok (.iload_n 2, 1) := by decide +kernel
theorem dX6_bestDye_126 : decode cX6_bestDye 126 = .ok (.isub, 1) := by decide +kernel
theorem dX6_bestDye_127 : decode cX6_bestDye 127 = .ok (.invokestatic 186, 3) := by decide +kernel
theorem dX6_bestDye_130 : decode cX6_bestDye 130 = .ok (.if_icmp .ge 7, 3) := by decide +kernel
theorem dX6_bestDye_133 : decode cX6_bestDye 133 = .ok (.iconst 1, 1) := by decide +kernel
theorem dX6_bestDye_134 : decode cX6_bestDye 134 = .ok (.goto 4, 3) := by decide +kernel
theorem dX6_bestDye_137 : decode cX6_bestDye 137 = .ok (.iconst 0, 1) := by decide +kernel
theorem dX6_bestDye_138 : decode cX6_bestDye 138 = .ok (.istore 9, 2) := by decide +kernel
theorem dX6_bestDye_140 : decode cX6_bestDye 140 = .ok (.iload 5, 2) := by decide +kernel
theorem dX6_bestDye_142 : decode cX6_bestDye 142 = .ok (.iload 4, 2) := by decide +kernel
theorem dX6_bestDye_144 : decode cX6_bestDye 144 = .ok (.if_icmp .gt 15, 3) := by decide +kernel
theorem dX6_bestDye_147 : decode cX6_bestDye 147 = .ok (.iload 5, 2) := by decide +kernel
theorem dX6_bestDye_149 : decode cX6_bestDye 149 = .ok (.iload 4, 2) := by decide +kernel
theorem dX6_bestDye_151 : decode cX6_bestDye 151 = .ok (.if_icmp .ne 15, 3) := by decide +kernel
theorem dX6_bestDye_154 : decode cX6_bestDye 154 = .ok (.iload 9, 2) := by decide +kernel
theorem dX6_bestDye_156 : decode cX6_bestDye 156 = .ok (.ifCond .eq 10, 3) := by decide +kernel
theorem dX6_bestDye_159 : decode cX6_bestDye 159 = .ok (.iload 7, 2) := by decide +kernel
theorem dX6_bestDye_161 : decode cX6_bestDye 161 = .ok (.istore_n 3, 1) := by decide +kernel
theorem dX6_bestDye_162 : decode cX6_bestDye 162 = .ok (.iload 5, 2) := by decide +kernel
theorem dX6_bestDye_164 : decode cX6_bestDye 164 = .ok (.istore 4, 2) := by decide +kernel
theorem dX6_bestDye_166 : decode cX6_bestDye 166 = .ok (.iinc 7 1, 3) := by decide +kernel
theorem dX6_bestDye_169 : decode cX6_bestDye 169 = .ok (.goto (-107), 3) := by decide +kernel
theorem dX6_bestDye_172 : decode cX6_bestDye 172 = .ok (.iload_n 3, 1) := by decide +kernel
theorem dX6_bestDye_173 : decode cX6_bestDye 173 = .ok (.ireturn, 1) := by decide +kernel
def fX6_bestDye_62 (z1 : Int32) (o2 : Int32) : Nat → Int32 → Int32 → Int32 → Int32 → Int32 → Wd → Int32 × Int32 × Int32 × Int32 × Int32 × Wd
  | 0, x7, x6, x5, x4, x3, y => (x7, x6, x5, x4, x3, y)
  | fu + 1, x7, x6, x5, x4, x3, y => (if 255 < x7 then (x7, x6, x5, x4, x3, y) else (if (fX5_matchSet (upR (y.2.2.1 2) 12 (fX6_put 14 ((y.2.2.1 2).2 12) z1 x7)) z1) = x6 then (if (iab (x3 - o2)) ≤ (iab (x7 - o2)) then (if x4 < x5 then (fX6_bestDye_62 z1 o2  fu (x7 + 1) x6 x5 x5 x7 (wP y 2 (upR (y.2.2.1 2) 12 (fX6_put 14 ((y.2.2.1 2).2 12) z1 x7)))) else (if x5 = x4 then (fX6_bestDye_62 z1 o2  fu (x7 + 1) x6 x5 x4 x3 (wP y 2 (upR (y.2.2.1 2) 12 (fX6_put 14 ((y.2.2.1 2).2 12) z1 x7)))) else (fX6_bestDye_62 z1 o2  fu (x7 + 1) x6 x5 x4 x3 (wP y 2 (upR (y.2.2.1 2) 12 (fX6_put 14 ((y.2.2.1 2).2 12) z1 x7)))))) else (if x4 < x5 then (fX6_bestDye_62 z1 o2  fu (x7 + 1) x6 x5 x5 x7 (wP y 2 (upR (y.2.2.1 2) 12 (fX6_put 14 ((y.2.2.1 2).2 12) z1 x7)))) else (if x5 = x4 then (fX6_bestDye_62 z1 o2  fu (x7 + 1) x6 x5 x5 x7 (wP y 2 (upR (y.2.2.1 2) 12 (fX6_put 14 ((y.2.2.1 2).2 12) z1 x7)))) else (fX6_bestDye_62 z1 o2  fu (x7 + 1) x6 x5 x4 x3 (wP y 2 (upR (y.2.2.1 2) 12 (fX6_put 14 ((y.2.2.1 2).2 12) z1 x7))))))) else (bnd (fX2_mostPairs_37 (wP y 2 (upR (y.2.2.1 2) 12 (fX6_put 14 ((y.2.2.1 2).2 12) z1 x7))) ) (fun r39 => (if (iab (x3 - o2)) ≤ (iab (x7 - o2)) then (if x4 < r39.1 then (fX6_bestDye_62 z1 o2  fu (x7 + 1) (fX5_matchSet (upR (y.2.2.1 2) 12 (fX6_put 14 ((y.2.2.1 2).2 12) z1 x7)) z1) r39.1 r39.1 x7 r39.2) else (if r39.1 = x4 then (fX6_bestDye_62 z1 o2  fu (x7 + 1) (fX5_matchSet (upR (y.2.2.1 2) 12 (fX6_put 14 ((y.2.2.1 2).2 12) z1 x7)) z1) r39.1 x4 x3 r39.2) else (fX6_bestDye_62 z1 o2  fu (x7 + 1) (fX5_matchSet (upR (y.2.2.1 2) 12 (fX6_put 14 ((y.2.2.1 2).2 12) z1 x7)) z1) r39.1 x4 x3 r39.2))) else (if x4 < r39.1 then (fX6_bestDye_62 z1 o2  fu (x7 + 1) (fX5_matchSet (upR (y.2.2.1 2) 12 (fX6_put 14 ((y.2.2.1 2).2 12) z1 x7)) z1) r39.1 r39.1 x7 r39.2) else (if r39.1 = x4 then (fX6_bestDye_62 z1 o2  fu (x7 + 1) (fX5_matchSet (upR (y.2.2.1 2) 12 (fX6_put 14 ((y.2.2.1 2).2 12) z1 x7)) z1) r39.1 r39.1 x7 r39.2) else (fX6_bestDye_62 z1 o2  fu (x7 + 1) (fX5_matchSet (upR (y.2.2.1 2) 12 (fX6_put 14 ((y.2.2.1 2).2 12) z1 x7)) z1) r39.1 x4 x3 r39.2))))))))
set_option maxRecDepth 20000 in
theorem wX6_bestDye_62 {l : Launch} {G : GM} {K : Nat → Option va_E} (z1 : Int32) (o2 : Int32)  {Q : Option Value → List va_E → Prop} : ∀ (fu : Nat) (x7 x6 x5 x4 x3 : Int32) (y : Wd) (iv : ivL 255 x7 fu) {h : List va_E} (gy : HW G K h y) (kx : ∀ (h1 : List va_E) (r : Int32 × Int32 × Int32 × Int32 × Int32 × Wd), (fX6_bestDye_62 z1 o2  fu x7 x6 x5 x4 x3 y) = r → HW G K h1 r.2.2.2.2.2 → Tr l G mX6_bestDye 19 0 0 172 [(7, .int r.1), (6, .int r.2.1), (5, .int r.2.2.1), (4, .int r.2.2.2.1), (3, .int r.2.2.2.2.1), (2, .int o2), (0, .ref (gz G + 0)), (1, .int z1)] [] h1 Q), Tr l G mX6_bestDye 19 0 0 62 [(7, .int x7), (6, .int x6), (5, .int x5), (4, .int x4), (3, .int x3), (2, .int o2), (0, .ref (gz G + 0)), (1, .int z1)] [] h Q := by
  intro fu
  induction fu with
  | zero => intro x7 x6 x5 x4 x3 y iv; intros; exact absurd iv ivL_0
  | succ fu ih =>
    intro x7 x6 x5 x4 x3 y iv   h gy  kx
    refine am_iload dX6_bestDye_62 0 rfl ?_
    refine am_sipush (v := 255) dX6_bestDye_64 (by decide) ?_
    refine am_icmp_gt dX6_bestDye_67 (by decide : ((67 : Nat) : Int) + (105) = ((172 : Nat) : Int)) (fun c20 => ?_) (fun c20 => ?_)
    · exact kx _ _ (Eq.trans (if_pos c20) (rfl)) gy 
    · refine am_aload_n dX6_bestDye_70 6 rfl ?_
      refine am_get (v := .ref (gz G + 37)) dX6_bestDye_71 kGX6_37 (hwc0 (w := y) gy) rfl ?_
      refine am_get (v := .ref (gz G + 51)) dX6_bestDye_74 kGX6_151 (pl_0 (p := (y.2.2.1 2)) (hwP2 (w := y) gy)) rfl ?_
      refine am_iload_n dX6_bestDye_77 7 rfl ?_
      refine am_iload dX6_bestDye_78 0 rfl ?_
      refine am_callS (As := [.ref (gz G + 51), .int z1, .int x7]) (rest := []) dX6_bestDye_80 kMX6_220 rfl  rfl (Nat.le_of_ble_eq_true rfl) (d2 := 0) (by decide) (k2 := 0) (Nat.zero_le _) (u2 := 0) (Nat.zero_le _) (Nat.le_of_ble_eq_true rfl) (ctX6_put (f := ((y.2.2.1 2).2 12)) (pl_r12 (p := (y.2.2.1 2)) (hwP2 (w := y) gy)) (by decide) z1 x7) (fun v21 h22 q23 => ?_)
      obtain ⟨rfl, rfl⟩ := q23
      have w24 := hwPu gy (i := 2) (by decide) (p := (upR (y.2.2.1 2) 12 (fX6_put 14 ((y.2.2.1 2).2 12) z1 x7))) (pl_u12 (hwP2 (w := y) gy) (fX6_put 14 ((y.2.2.1 2).2 12) z1 x7)) (Fr.set Fr.rf (a := 51) (S := fun q => pb 2 ≤ q ∧ q < pb 2 + 16) (by decide))
      refine am_aload_n dX6_bestDye_83 6 rfl ?_
      refine am_get (v := .ref (gz G + 37)) dX6_bestDye_84 kGX6_37 (hwc0 (w := (wP y 2 (upR (y.2.2.1 2) 12 (fX6_put 14 ((y.2.2.1 2).2 12) z1 x7)))) w24) rfl ?_
      refine am_iload_n dX6_bestDye_87 7 rfl ?_
      refine am_callV (As := [.int z1]) (rest := []) dX6_bestDye_88 kMX6_255 rfl (pl_0 (p := (upR (y.2.2.1 2) 12 (fX6_put 14 ((y.2.2.1 2).2 12) z1 x7))) (hwP2 (w := (wP y 2 (upR (y.2.2.1 2) 12 (fX6_put 14 ((y.2.2.1 2).2 12) z1 x7)))) w24)) rfl rfl (Nat.le_of_ble_eq_true rfl) (d2 := 2) (by decide) (k2 := 0) (Nat.zero_le _) (u2 := 0) (Nat.zero_le _) (Nat.le_of_ble_eq_true rfl) (ctX5_matchSet (p := (upR (y.2.2.1 2) 12 (fX6_put 14 ((y.2.2.1 2).2 12) z1 x7))) (hwP2 (w := (wP y 2 (upR (y.2.2.1 2) 12 (fX6_put 14 ((y.2.2.1 2).2 12) z1 x7)))) w24) z1) (fun v25 h26 q27 => ?_)
      obtain ⟨rfl, rfl⟩ := q27
      refine am_istore dX6_bestDye_91 (by decide) (lv' := [(8, .int (fX5_matchSet (upR (y.2.2.1 2) 12 (fX6_put 14 ((y.2.2.1 2).2 12) z1 x7)) z1)), (7, .int x7), (6, .int x6), (5, .int x5), (4, .int x4), (3, .int x3), (2, .int o2), (0, .ref (gz G + 0)), (1, .int z1)]) rfl ?_
      refine am_iload dX6_bestDye_93 0 rfl ?_
      refine am_iload dX6_bestDye_95 2 rfl ?_
      refine am_icmp_eq dX6_bestDye_97 (by decide : ((97 : Nat) : Int) + (20) = ((117 : Nat) : Int)) (fun c28 => ?_) (fun c28 => ?_)
      · refine am_iload dX6_bestDye_117 1 rfl ?_
        refine am_iload_n dX6_bestDye_119 6 rfl ?_
        refine am_isub dX6_bestDye_120 ?_
        refine am_mabs dX6_bestDye_121 kXX6_186 (Nat.le_of_ble_eq_true rfl) (by decide) ?_
        refine am_iload_n dX6_bestDye_124 5 rfl ?_
        refine am_iload_n dX6_bestDye_125 6 rfl ?_
        refine am_isub dX6_bestDye_126 ?_
        refine am_mabs dX6_bestDye_127 kXX6_186 (Nat.le_of_ble_eq_true rfl) (by decide) ?_
        refine am_icmp_ge dX6_bestDye_130 (by decide : ((130 : Nat) : Int) + (7) = ((137 : Nat) : Int)) (fun c29 => ?_) (fun c29 => ?_)
        · refine am_iconst (v := 0) dX6_bestDye_137 (by decide) ?_
          refine am_istore dX6_bestDye_138 (by decide) (lv' := [(9, .int 0), (8, .int (fX5_matchSet (upR (y.2.2.1 2) 12 (fX6_put 14 ((y.2.2.1 2).2 12) z1 x7)) z1)), (7, .int x7), (6, .int x6), (5, .int x5), (4, .int x4), (3, .int x3), (2, .int o2), (0, .ref (gz G + 0)), (1, .int z1)]) rfl ?_
          refine am_iload dX6_bestDye_140 4 rfl ?_
          refine am_iload dX6_bestDye_142 5 rfl ?_
          refine am_icmp_gt dX6_bestDye_144 (by decide : ((144 : Nat) : Int) + (15) = ((159 : Nat) : Int)) (fun c30 => ?_) (fun c30 => ?_)
          · refine am_iload dX6_bestDye_159 2 rfl ?_
            refine am_istore_n dX6_bestDye_161 (by decide) (lv' := [(3, .int x7), (9, .int 0), (8, .int (fX5_matchSet (upR (y.2.2.1 2) 12 (fX6_put 14 ((y.2.2.1 2).2 12) z1 x7)) z1)), (7, .int x7), (6, .int x6), (5, .int x5), (4, .int x4), (2, .int o2), (0, .ref (gz G + 0)), (1, .int z1)]) rfl ?_
            refine am_iload dX6_bestDye_162 5 rfl ?_
            refine am_istore dX6_bestDye_164 (by decide) (lv' := [(4, .int x5), (3, .int x7), (9, .int 0), (8, .int (fX5_matchSet (upR (y.2.2.1 2) 12 (fX6_put 14 ((y.2.2.1 2).2 12) z1 x7)) z1)), (7, .int x7), (6, .int x6), (5, .int x5), (2, .int o2), (0, .ref (gz G + 0)), (1, .int z1)]) rfl ?_
            refine am_iinc (v := (x7 + 1)) dX6_bestDye_166 4 rfl rfl (by decide) (lv' := [(7, .int (x7 + 1)), (4, .int x5), (3, .int x7), (9, .int 0), (8, .int (fX5_matchSet (upR (y.2.2.1 2) 12 (fX6_put 14 ((y.2.2.1 2).2 12) z1 x7)) z1)), (6, .int x6), (5, .int x5), (2, .int o2), (0, .ref (gz G + 0)), (1, .int z1)]) rfl ?_
            refine am_goto dX6_bestDye_169 (by decide : ((169 : Nat) : Int) + (-107) = ((62 : Nat) : Int)) ?_
            refine am_lv (lv' := [(7, .int (x7 + 1)), (6, .int x6), (5, .int x5), (4, .int x5), (3, .int x7), (2, .int o2), (0, .ref (gz G + 0)), (1, .int z1)]) [0, 5, 6, 1, 2, 7, 8, 9] rfl ?_
            exact ih (x7 + 1) x6 x5 x5 x7 (wP y 2 (upR (y.2.2.1 2) 12 (fX6_put 14 ((y.2.2.1 2).2 12) z1 x7))) (ivL_s c20 (by decide) iv) w24  (fun h1 r e => kx h1 r (Eq.trans (Eq.trans (if_neg c20) (Eq.trans (if_pos c28) (Eq.trans (if_pos c29) (Eq.trans (if_pos c30) (rfl))))) e))
          · refine am_iload dX6_bestDye_147 4 rfl ?_
            refine am_iload dX6_bestDye_149 5 rfl ?_
            refine am_icmp_ne dX6_bestDye_151 (by decide : ((151 : Nat) : Int) + (15) = ((166 : Nat) : Int)) (fun c31 => ?_) (fun c31 => ?_)
            · refine am_iinc (v := (x7 + 1)) dX6_bestDye_166 2 rfl rfl (by decide) (lv' := [(7, .int (x7 + 1)), (9, .int 0), (8, .int (fX5_matchSet (upR (y.2.2.1 2) 12 (fX6_put 14 ((y.2.2.1 2).2 12) z1 x7)) z1)), (6, .int x6), (5, .int x5), (4, .int x4), (3, .int x3), (2, .int o2), (0, .ref (gz G + 0)), (1, .int z1)]) rfl ?_
              refine am_goto dX6_bestDye_169 (by decide : ((169 : Nat) : Int) + (-107) = ((62 : Nat) : Int)) ?_
              refine am_lv (lv' := [(7, .int (x7 + 1)), (6, .int x6), (5, .int x5), (4, .int x4), (3, .int x3), (2, .int o2), (0, .ref (gz G + 0)), (1, .int z1)]) [0, 3, 4, 5, 6, 7, 8, 9] rfl ?_
              exact ih (x7 + 1) x6 x5 x4 x3 (wP y 2 (upR (y.2.2.1 2) 12 (fX6_put 14 ((y.2.2.1 2).2 12) z1 x7))) (ivL_s c20 (by decide) iv) w24  (fun h1 r e => kx h1 r (Eq.trans (Eq.trans (if_neg c20) (Eq.trans (if_pos c28) (Eq.trans (if_pos c29) (Eq.trans (if_neg c30) (Eq.trans (if_neg c31) (rfl)))))) e))
            · refine am_iload dX6_bestDye_154 0 rfl ?_
              refine am_if_eq dX6_bestDye_156 (by decide : ((156 : Nat) : Int) + (10) = ((166 : Nat) : Int)) (fun _ => ?_) (fun q => absurd q (by decide))
              refine am_iinc (v := (x7 + 1)) dX6_bestDye_166 2 rfl rfl (by decide) (lv' := [(7, .int (x7 + 1)), (9, .int 0), (8, .int (fX5_matchSet (upR (y.2.2.1 2) 12 (fX6_put 14 ((y.2.2.1 2).2 12) z1 x7)) z1)), (6, .int x6), (5, .int x5), (4, .int x4), (3, .int x3), (2, .int o2), (0, .ref (gz G + 0)), (1, .int z1)]) rfl ?_
              refine am_goto dX6_bestDye_169 (by decide : ((169 : Nat) : Int) + (-107) = ((62 : Nat) : Int)) ?_
              refine am_lv (lv' := [(7, .int (x7 + 1)), (6, .int x6), (5, .int x5), (4, .int x4), (3, .int x3), (2, .int o2), (0, .ref (gz G + 0)), (1, .int z1)]) [0, 3, 4, 5, 6, 7, 8, 9] rfl ?_
              exact ih (x7 + 1) x6 x5 x4 x3 (wP y 2 (upR (y.2.2.1 2) 12 (fX6_put 14 ((y.2.2.1 2).2 12) z1 x7))) (ivL_s c20 (by decide) iv) w24  (fun h1 r e => kx h1 r (Eq.trans (Eq.trans (if_neg c20) (Eq.trans (if_pos c28) (Eq.trans (if_pos c29) (Eq.trans (if_neg c30) (Eq.trans (if_pos c31) (rfl)))))) e))
        · refine am_iconst (v := 1) dX6_bestDye_133 (by decide) ?_
          refine am_goto dX6_bestDye_134 (by decide : ((134 : Nat) : Int) + (4) = ((138 : Nat) : Int)) ?_
          refine am_istore dX6_bestDye_138 (by decide) (lv' := [(9, .int 1), (8, .int (fX5_matchSet (upR (y.2.2.1 2) 12 (fX6_put 14 ((y.2.2.1 2).2 12) z1 x7)) z1)), (7, .int x7), (6, .int x6), (5, .int x5), (4, .int x4), (3, .int x3), (2, .int o2), (0, .ref (gz G + 0)), (1, .int z1)]) rfl ?_
          refine am_iload dX6_bestDye_140 4 rfl ?_
          refine am_iload dX6_bestDye_142 5 rfl ?_
          refine am_icmp_gt dX6_bestDye_144 (by decide : ((144 : Nat) : Int) + (15) = ((159 : Nat) : Int)) (fun c33 => ?_) (fun c33 => ?_)
          · refine am_iload dX6_bestDye_159 2 rfl ?_
            refine am_istore_n dX6_bestDye_161 (by decide) (lv' := [(3, .int x7), (9, .int 1), (8, .int (fX5_matchSet (upR (y.2.2.1 2) 12 (fX6_put 14 ((y.2.2.1 2).2 12) z1 x7)) z1)), (7, .int x7), (6, .int x6), (5, .int x5), (4, .int x4), (2, .int o2), (0, .ref (gz G + 0)), (1, .int z1)]) rfl ?_
            refine am_iload dX6_bestDye_162 5 rfl ?_
            refine am_istore dX6_bestDye_164 (by decide) (lv' := [(4, .int x5), (3, .int x7), (9, .int 1), (8, .int (fX5_matchSet (upR (y.2.2.1 2) 12 (fX6_put 14 ((y.2.2.1 2).2 12) z1 x7)) z1)), (7, .int x7), (6, .int x6), (5, .int x5), (2, .int o2), (0, .ref (gz G + 0)), (1, .int z1)]) rfl ?_
            refine am_iinc (v := (x7 + 1)) dX6_bestDye_166 4 rfl rfl (by decide) (lv' := [(7, .int (x7 + 1)), (4, .int x5), (3, .int x7), (9, .int 1), (8, .int (fX5_matchSet (upR (y.2.2.1 2) 12 (fX6_put 14 ((y.2.2.1 2).2 12) z1 x7)) z1)), (6, .int x6), (5, .int x5), (2, .int o2), (0, .ref (gz G + 0)), (1, .int z1)]) rfl ?_
            refine am_goto dX6_bestDye_169 (by decide : ((169 : Nat) : Int) + (-107) = ((62 : Nat) : Int)) ?_
            refine am_lv (lv' := [(7, .int (x7 + 1)), (6, .int x6), (5, .int x5), (4, .int x5), (3, .int x7), (2, .int o2), (0, .ref (gz G + 0)), (1, .int z1)]) [0, 5, 6, 1, 2, 7, 8, 9] rfl ?_
            exact ih (x7 + 1) x6 x5 x5 x7 (wP y 2 (upR (y.2.2.1 2) 12 (fX6_put 14 ((y.2.2.1 2).2 12) z1 x7))) (ivL_s c20 (by decide) iv) w24  (fun h1 r e => kx h1 r (Eq.trans (Eq.trans (if_neg c20) (Eq.trans (if_pos c28) (Eq.trans (if_neg c29) (Eq.trans (if_pos c33) (rfl))))) e))
          · refine am_iload dX6_bestDye_147 4 rfl ?_
            refine am_iload dX6_bestDye_149 5 rfl ?_
            refine am_icmp_ne dX6_bestDye_151 (by decide : ((151 : Nat) : Int) + (15) = ((166 : Nat) : Int)) (fun c34 => ?_) (fun c34 => ?_)
            · refine am_iinc (v := (x7 + 1)) dX6_bestDye_166 2 rfl rfl (by decide) (lv' := [(7, .int (x7 + 1)), (9, .int 1), (8, .int (fX5_matchSet (upR (y.2.2.1 2) 12 (fX6_put 14 ((y.2.2.1 2).2 12) z1 x7)) z1)), (6, .int x6), (5, .int x5), (4, .int x4), (3, .int x3), (2, .int o2), (0, .ref (gz G + 0)), (1, .int z1)]) rfl ?_
              refine am_goto dX6_bestDye_169 (by decide : ((169 : Nat) : Int) + (-107) = ((62 : Nat) : Int)) ?_
              refine am_lv (lv' := [(7, .int (x7 + 1)), (6, .int x6), (5, .int x5), (4, .int x4), (3, .int x3), (2, .int o2), (0, .ref (gz G + 0)), (1, .int z1)]) [0, 3, 4, 5, 6, 7, 8, 9] rfl ?_
              exact ih (x7 + 1) x6 x5 x4 x3 (wP y 2 (upR (y.2.2.1 2) 12 (fX6_put 14 ((y.2.2.1 2).2 12) z1 x7))) (ivL_s c20 (by decide) iv) w24  (fun h1 r e => kx h1 r (Eq.trans (Eq.trans (if_neg c20) (Eq.trans (if_pos c28) (Eq.trans (if_neg c29) (Eq.trans (if_neg c33) (Eq.trans (if_neg c34) (rfl)))))) e))
            · refine am_iload dX6_bestDye_154 0 rfl ?_
              refine am_if_eq dX6_bestDye_156 (by decide : ((156 : Nat) : Int) + (10) = ((166 : Nat) : Int)) (fun q => absurd q (by decide)) (fun _ => ?_)
              refine am_iload dX6_bestDye_159 2 rfl ?_
              refine am_istore_n dX6_bestDye_161 (by decide) (lv' := [(3, .int x7), (9, .int 1), (8, .int (fX5_matchSet (upR (y.2.2.1 2) 12 (fX6_put 14 ((y.2.2.1 2).2 12) z1 x7)) z1)), (7, .int x7), (6, .int x6), (5, .int x5), (4, .int x4), (2, .int o2), (0, .ref (gz G + 0)), (1, .int z1)]) rfl ?_
              refine am_iload dX6_bestDye_162 5 rfl ?_
              refine am_istore dX6_bestDye_164 (by decide) (lv' := [(4, .int x5), (3, .int x7), (9, .int 1), (8, .int (fX5_matchSet (upR (y.2.2.1 2) 12 (fX6_put 14 ((y.2.2.1 2).2 12) z1 x7)) z1)), (7, .int x7), (6, .int x6), (5, .int x5), (2, .int o2), (0, .ref (gz G + 0)), (1, .int z1)]) rfl ?_
              refine am_iinc (v := (x7 + 1)) dX6_bestDye_166 4 rfl rfl (by decide) (lv' := [(7, .int (x7 + 1)), (4, .int x5), (3, .int x7), (9, .int 1), (8, .int (fX5_matchSet (upR (y.2.2.1 2) 12 (fX6_put 14 ((y.2.2.1 2).2 12) z1 x7)) z1)), (6, .int x6), (5, .int x5), (2, .int o2), (0, .ref (gz G + 0)), (1, .int z1)]) rfl ?_
              refine am_goto dX6_bestDye_169 (by decide : ((169 : Nat) : Int) + (-107) = ((62 : Nat) : Int)) ?_
              refine am_lv (lv' := [(7, .int (x7 + 1)), (6, .int x6), (5, .int x5), (4, .int x5), (3, .int x7), (2, .int o2), (0, .ref (gz G + 0)), (1, .int z1)]) [0, 5, 6, 1, 2, 7, 8, 9] rfl ?_
              exact ih (x7 + 1) x6 x5 x5 x7 (wP y 2 (upR (y.2.2.1 2) 12 (fX6_put 14 ((y.2.2.1 2).2 12) z1 x7))) (ivL_s c20 (by decide) iv) w24  (fun h1 r e => kx h1 r (Eq.trans (Eq.trans (if_neg c20) (Eq.trans (if_pos c28) (Eq.trans (if_neg c29) (Eq.trans (if_neg c33) (Eq.trans (if_pos c34) (rfl)))))) e))
      · refine am_aload_n dX6_bestDye_100 7 rfl ?_
        refine am_get (v := .ref (gz G + 215)) dX6_bestDye_101 kGX6_50 (hwc0 (w := (wP y 2 (upR (y.2.2.1 2) 12 (fX6_put 14 ((y.2.2.1 2).2 12) z1 x7)))) w24) rfl ?_
        refine am_aload_n dX6_bestDye_104 7 rfl ?_
        refine am_get (v := .ref (gz G + 37)) dX6_bestDye_105 kGX6_37 (hwc0 (w := (wP y 2 (upR (y.2.2.1 2) 12 (fX6_put 14 ((y.2.2.1 2).2 12) z1 x7)))) w24) rfl ?_
        refine am_callV (As := [.ref (gz G + 37)]) (rest := []) dX6_bestDye_108 kMX6_279 rfl (hwc215 (w := (wP y 2 (upR (y.2.2.1 2) 12 (fX6_put 14 ((y.2.2.1 2).2 12) z1 x7)))) w24) rfl rfl (Nat.le_of_ble_eq_true rfl) (d2 := 18) (by decide) (k2 := 0) (Nat.zero_le _) (u2 := 0) (Nat.zero_le _) (Nat.le_of_ble_eq_true rfl) (ctX2_mostPairs_37 (w := (wP y 2 (upR (y.2.2.1 2) 12 (fX6_put 14 ((y.2.2.1 2).2 12) z1 x7)))) w24 ) (fun v36 h37 q38 => ?_)
        obtain ⟨r39, e40, rfl, w41⟩ := q38
        refine am_istore dX6_bestDye_111 (by decide) (lv' := [(5, .int r39.1), (8, .int (fX5_matchSet (upR (y.2.2.1 2) 12 (fX6_put 14 ((y.2.2.1 2).2 12) z1 x7)) z1)), (7, .int x7), (6, .int x6), (4, .int x4), (3, .int x3), (2, .int o2), (0, .ref (gz G + 0)), (1, .int z1)]) rfl ?_
        refine am_iload dX6_bestDye_113 1 rfl ?_
        refine am_istore dX6_bestDye_115 (by decide) (lv' := [(6, .int (fX5_matchSet (upR (y.2.2.1 2) 12 (fX6_put 14 ((y.2.2.1 2).2 12) z1 x7)) z1)), (5, .int r39.1), (8, .int (fX5_matchSet (upR (y.2.2.1 2) 12 (fX6_put 14 ((y.2.2.1 2).2 12) z1 x7)) z1)), (7, .int x7), (4, .int x4), (3, .int x3), (2, .int o2), (0, .ref (gz G + 0)), (1, .int z1)]) rfl ?_
        refine am_iload dX6_bestDye_117 3 rfl ?_
        refine am_iload_n dX6_bestDye_119 6 rfl ?_
        refine am_isub dX6_bestDye_120 ?_
        refine am_mabs dX6_bestDye_121 kXX6_186 (Nat.le_of_ble_eq_true rfl) (by decide) ?_
        refine am_iload_n dX6_bestDye_124 5 rfl ?_
        refine am_iload_n dX6_bestDye_125 6 rfl ?_
        refine am_isub dX6_bestDye_126 ?_
        refine am_mabs dX6_bestDye_127 kXX6_186 (Nat.le_of_ble_eq_true rfl) (by decide) ?_
        refine am_icmp_ge dX6_bestDye_130 (by decide : ((130 : Nat) : Int) + (7) = ((137 : Nat) : Int)) (fun c42 => ?_) (fun c42 => ?_)
        · refine am_iconst (v := 0) dX6_bestDye_137 (by decide) ?_
          refine am_istore dX6_bestDye_138 (by decide) (lv' := [(9, .int 0), (6, .int (fX5_matchSet (upR (y.2.2.1 2) 12 (fX6_put 14 ((y.2.2.1 2).2 12) z1 x7)) z1)), (5, .int r39.1), (8, .int (fX5_matchSet (upR (y.2.2.1 2) 12 (fX6_put 14 ((y.2.2.1 2).2 12) z1 x7)) z1)), (7, .int x7), (4, .int x4), (3, .int x3), (2, .int o2), (0, .ref (gz G + 0)), (1, .int z1)]) rfl ?_
          refine am_iload dX6_bestDye_140 2 rfl ?_
          refine am_iload dX6_bestDye_142 5 rfl ?_
          refine am_icmp_gt dX6_bestDye_144 (by decide : ((144 : Nat) : Int) + (15) = ((159 : Nat) : Int)) (fun c43 => ?_) (fun c43 => ?_)
          · refine am_iload dX6_bestDye_159 4 rfl ?_
            refine am_istore_n dX6_bestDye_161 (by decide) (lv' := [(3, .int x7), (9, .int 0), (6, .int (fX5_matchSet (upR (y.2.2.1 2) 12 (fX6_put 14 ((y.2.2.1 2).2 12) z1 x7)) z1)), (5, .int r39.1), (8, .int (fX5_matchSet (upR (y.2.2.1 2) 12 (fX6_put 14 ((y.2.2.1 2).2 12) z1 x7)) z1)), (7, .int x7), (4, .int x4), (2, .int o2), (0, .ref (gz G + 0)), (1, .int z1)]) rfl ?_
            refine am_iload dX6_bestDye_162 3 rfl ?_
            refine am_istore dX6_bestDye_164 (by decide) (lv' := [(4, .int r39.1), (3, .int x7), (9, .int 0), (6, .int (fX5_matchSet (upR (y.2.2.1 2) 12 (fX6_put 14 ((y.2.2.1 2).2 12) z1 x7)) z1)), (5, .int r39.1), (8, .int (fX5_matchSet (upR (y.2.2.1 2) 12 (fX6_put 14 ((y.2.2.1 2).2 12) z1 x7)) z1)), (7, .int x7), (2, .int o2), (0, .ref (gz G + 0)), (1, .int z1)]) rfl ?_
            refine am_iinc (v := (x7 + 1)) dX6_bestDye_166 6 rfl rfl (by decide) (lv' := [(7, .int (x7 + 1)), (4, .int r39.1), (3, .int x7), (9, .int 0), (6, .int (fX5_matchSet (upR (y.2.2.1 2) 12 (fX6_put 14 ((y.2.2.1 2).2 12) z1 x7)) z1)), (5, .int r39.1), (8, .int (fX5_matchSet (upR (y.2.2.1 2) 12 (fX6_put 14 ((y.2.2.1 2).2 12) z1 x7)) z1)), (2, .int o2), (0, .ref (gz G + 0)), (1, .int z1)]) rfl ?_
            refine am_goto dX6_bestDye_169 (by decide : ((169 : Nat) : Int) + (-107) = ((62 : Nat) : Int)) ?_
            refine am_lv (lv' := [(7, .int (x7 + 1)), (6, .int (fX5_matchSet (upR (y.2.2.1 2) 12 (fX6_put 14 ((y.2.2.1 2).2 12) z1 x7)) z1)), (5, .int r39.1), (4, .int r39.1), (3, .int x7), (2, .int o2), (0, .ref (gz G + 0)), (1, .int z1)]) [0, 4, 5, 1, 2, 7, 8, 9] rfl ?_
            exact ih (x7 + 1) (fX5_matchSet (upR (y.2.2.1 2) 12 (fX6_put 14 ((y.2.2.1 2).2 12) z1 x7)) z1) r39.1 r39.1 x7 r39.2 (ivL_s c20 (by decide) iv) w41  (fun h1 r e => kx h1 r (Eq.trans (Eq.trans (if_neg c20) (Eq.trans (if_neg c28) (bnd_eq e40 (Eq.trans (if_pos c42) (Eq.trans (if_pos c43) (rfl)))))) e))
          · refine am_iload dX6_bestDye_147 2 rfl ?_
            refine am_iload dX6_bestDye_149 5 rfl ?_
            refine am_icmp_ne dX6_bestDye_151 (by decide : ((151 : Nat) : Int) + (15) = ((166 : Nat) : Int)) (fun c44 => ?_) (fun c44 => ?_)
            · refine am_iinc (v := (x7 + 1)) dX6_bestDye_166 4 rfl rfl (by decide) (lv' := [(7, .int (x7 + 1)), (9, .int 0), (6, .int (fX5_matchSet (upR (y.2.2.1 2) 12 (fX6_put 14 ((y.2.2.1 2).2 12) z1 x7)) z1)), (5, .int r39.1), (8, .int (fX5_matchSet (upR (y.2.2.1 2) 12 (fX6_put 14 ((y.2.2.1 2).2 12) z1 x7)) z1)), (4, .int x4), (3, .int x3), (2, .int o2), (0, .ref (gz G + 0)), (1, .int z1)]) rfl ?_
              refine am_goto dX6_bestDye_169 (by decide : ((169 : Nat) : Int) + (-107) = ((62 : Nat) : Int)) ?_
              refine am_lv (lv' := [(7, .int (x7 + 1)), (6, .int (fX5_matchSet (upR (y.2.2.1 2) 12 (fX6_put 14 ((y.2.2.1 2).2 12) z1 x7)) z1)), (5, .int r39.1), (4, .int x4), (3, .int x3), (2, .int o2), (0, .ref (gz G + 0)), (1, .int z1)]) [0, 2, 3, 5, 6, 7, 8, 9] rfl ?_
              exact ih (x7 + 1) (fX5_matchSet (upR (y.2.2.1 2) 12 (fX6_put 14 ((y.2.2.1 2).2 12) z1 x7)) z1) r39.1 x4 x3 r39.2 (ivL_s c20 (by decide) iv) w41  (fun h1 r e => kx h1 r (Eq.trans (Eq.trans (if_neg c20) (Eq.trans (if_neg c28) (bnd_eq e40 (Eq.trans (if_pos c42) (Eq.trans (if_neg c43) (Eq.trans (if_neg c44) (rfl))))))) e))
            · refine am_iload dX6_bestDye_154 0 rfl ?_
              refine am_if_eq dX6_bestDye_156 (by decide : ((156 : Nat) : Int) + (10) = ((166 : Nat) : Int)) (fun _ => ?_) (fun q => absurd q (by decide))
              refine am_iinc (v := (x7 + 1)) dX6_bestDye_166 4 rfl rfl (by decide) (lv' := [(7, .int (x7 + 1)), (9, .int 0), (6, .int (fX5_matchSet (upR (y.2.2.1 2) 12 (fX6_put 14 ((y.2.2.1 2).2 12) z1 x7)) z1)), (5, .int r39.1), (8, .int (fX5_matchSet (upR (y.2.2.1 2) 12 (fX6_put 14 ((y.2.2.1 2).2 12) z1 x7)) z1)), (4, .int x4), (3, .int x3), (2, .int o2), (0, .ref (gz G + 0)), (1, .int z1)]) rfl ?_
              refine am_goto dX6_bestDye_169 (by decide : ((169 : Nat) : Int) + (-107) = ((62 : Nat) : Int)) ?_
              refine am_lv (lv' := [(7, .int (x7 + 1)), (6, .int (fX5_matchSet (upR (y.2.2.1 2) 12 (fX6_put 14 ((y.2.2.1 2).2 12) z1 x7)) z1)), (5, .int r39.1), (4, .int x4), (3, .int x3), (2, .int o2), (0, .ref (gz G + 0)), (1, .int z1)]) [0, 2, 3, 5, 6, 7, 8, 9] rfl ?_
              exact ih (x7 + 1) (fX5_matchSet (upR (y.2.2.1 2) 12 (fX6_put 14 ((y.2.2.1 2).2 12) z1 x7)) z1) r39.1 x4 x3 r39.2 (ivL_s c20 (by decide) iv) w41  (fun h1 r e => kx h1 r (Eq.trans (Eq.trans (if_neg c20) (Eq.trans (if_neg c28) (bnd_eq e40 (Eq.trans (if_pos c42) (Eq.trans (if_neg c43) (Eq.trans (if_pos c44) (rfl))))))) e))
        · refine am_iconst (v := 1) dX6_bestDye_133 (by decide) ?_
          refine am_goto dX6_bestDye_134 (by decide : ((134 : Nat) : Int) + (4) = ((138 : Nat) : Int)) ?_
          refine am_istore dX6_bestDye_138 (by decide) (lv' := [(9, .int 1), (6, .int (fX5_matchSet (upR (y.2.2.1 2) 12 (fX6_put 14 ((y.2.2.1 2).2 12) z1 x7)) z1)), (5, .int r39.1), (8, .int (fX5_matchSet (upR (y.2.2.1 2) 12 (fX6_put 14 ((y.2.2.1 2).2 12) z1 x7)) z1)), (7, .int x7), (4, .int x4), (3, .int x3), (2, .int o2), (0, .ref (gz G + 0)), (1, .int z1)]) rfl ?_
          refine am_iload dX6_bestDye_140 2 rfl ?_
          refine am_iload dX6_bestDye_142 5 rfl ?_
          refine am_icmp_gt dX6_bestDye_144 (by decide : ((144 : Nat) : Int) + (15) = ((159 : Nat) : Int)) (fun c46 => ?_) (fun c46 => ?_)
          · refine am_iload dX6_bestDye_159 4 rfl ?_
            refine am_istore_n dX6_bestDye_161 (by decide) (lv' := [(3, .int x7), (9, .int 1), (6, .int (fX5_matchSet (upR (y.2.2.1 2) 12 (fX6_put 14 ((y.2.2.1 2).2 12) z1 x7)) z1)), (5, .int r39.1), (8, .int (fX5_matchSet (upR (y.2.2.1 2) 12 (fX6_put 14 ((y.2.2.1 2).2 12) z1 x7)) z1)), (7, .int x7), (4, .int x4), (2, .int o2), (0, .ref (gz G + 0)), (1, .int z1)]) rfl ?_
            refine am_iload dX6_bestDye_162 3 rfl ?_
            refine am_istore dX6_bestDye_164 (by decide) (lv' := [(4, .int r39.1), (3, .int x7), (9, .int 1), (6, .int (fX5_matchSet (upR (y.2.2.1 2) 12 (fX6_put 14 ((y.2.2.1 2).2 12) z1 x7)) z1)), (5, .int r39.1), (8, .int (fX5_matchSet (upR (y.2.2.1 2) 12 (fX6_put 14 ((y.2.2.1 2).2 12) z1 x7)) z1)), (7, .int x7), (2, .int o2), (0, .ref (gz G + 0)), (1, .int z1)]) rfl ?_
            refine am_iinc (v := (x7 + 1)) dX6_bestDye_166 6 rfl rfl (by decide) (lv' := [(7, .int (x7 + 1)), (4, .int r39.1), (3, .int x7), (9, .int 1), (6, .int (fX5_matchSet (upR (y.2.2.1 2) 12 (fX6_put 14 ((y.2.2.1 2).2 12) z1 x7)) z1)), (5, .int r39.1), (8, .int (fX5_matchSet (upR (y.2.2.1 2) 12 (fX6_put 14 ((y.2.2.1 2).2 12) z1 x7)) z1)), (2, .int o2), (0, .ref (gz G + 0)), (1, .int z1)]) rfl ?_
            refine am_goto dX6_bestDye_169 (by decide : ((169 : Nat) : Int) + (-107) = ((62 : Nat) : Int)) ?_
            refine am_lv (lv' := [(7, .int (x7 + 1)), (6, .int (fX5_matchSet (upR (y.2.2.1 2) 12 (fX6_put 14 ((y.2.2.1 2).2 12) z1 x7)) z1)), (5, .int r39.1), (4, .int r39.1), (3, .int x7), (2, .int o2), (0, .ref (gz G + 0)), (1, .int z1)]) [0, 4, 5, 1, 2, 7, 8, 9] rfl ?_
            exact ih (x7 + 1) (fX5_matchSet (upR (y.2.2.1 2) 12 (fX6_put 14 ((y.2.2.1 2).2 12) z1 x7)) z1) r39.1 r39.1 x7 r39.2 (ivL_s c20 (by decide) iv) w41  (fun h1 r e => kx h1 r (Eq.trans (Eq.trans (if_neg c20) (Eq.trans (if_neg c28) (bnd_eq e40 (Eq.trans (if_neg c42) (Eq.trans (if_pos c46) (rfl)))))) e))
          · refine am_iload dX6_bestDye_147 2 rfl ?_
            refine am_iload dX6_bestDye_149 5 rfl ?_
            refine am_icmp_ne dX6_bestDye_151 (by decide : ((151 : Nat) : Int) + (15) = ((166 : Nat) : Int)) (fun c47 => ?_) (fun c47 => ?_)
            · refine am_iinc (v := (x7 + 1)) dX6_bestDye_166 4 rfl rfl (by decide) (lv' := [(7, .int (x7 + 1)), (9, .int 1), (6, .int (fX5_matchSet (upR (y.2.2.1 2) 12 (fX6_put 14 ((y.2.2.1 2).2 12) z1 x7)) z1)), (5, .int r39.1), (8, .int (fX5_matchSet (upR (y.2.2.1 2) 12 (fX6_put 14 ((y.2.2.1 2).2 12) z1 x7)) z1)), (4, .int x4), (3, .int x3), (2, .int o2), (0, .ref (gz G + 0)), (1, .int z1)]) rfl ?_
              refine am_goto dX6_bestDye_169 (by decide : ((169 : Nat) : Int) + (-107) = ((62 : Nat) : Int)) ?_
              refine am_lv (lv' := [(7, .int (x7 + 1)), (6, .int (fX5_matchSet (upR (y.2.2.1 2) 12 (fX6_put 14 ((y.2.2.1 2).2 12) z1 x7)) z1)), (5, .int r39.1), (4, .int x4), (3, .int x3), (2, .int o2), (0, .ref (gz G + 0)), (1, .int z1)]) [0, 2, 3, 5, 6, 7, 8, 9] rfl ?_
              exact ih (x7 + 1) (fX5_matchSet (upR (y.2.2.1 2) 12 (fX6_put 14 ((y.2.2.1 2).2 12) z1 x7)) z1) r39.1 x4 x3 r39.2 (ivL_s c20 (by decide) iv) w41  (fun h1 r e => kx h1 r (Eq.trans (Eq.trans (if_neg c20) (Eq.trans (if_neg c28) (bnd_eq e40 (Eq.trans (if_neg c42) (Eq.trans (if_neg c46) (Eq.trans (if_neg c47) (rfl))))))) e))
            · refine am_iload dX6_bestDye_154 0 rfl ?_
              refine am_if_eq dX6_bestDye_156 (by decide : ((156 : Nat) : Int) + (10) = ((166 : Nat) : Int)) (fun q => absurd q (by decide)) (fun _ => ?_)
              refine am_iload dX6_bestDye_159 4 rfl ?_
              refine am_istore_n dX6_bestDye_161 (by decide) (lv' := [(3, .int x7), (9, .int 1), (6, .int (fX5_matchSet (upR (y.2.2.1 2) 12 (fX6_put 14 ((y.2.2.1 2).2 12) z1 x7)) z1)), (5, .int r39.1), (8, .int (fX5_matchSet (upR (y.2.2.1 2) 12 (fX6_put 14 ((y.2.2.1 2).2 12) z1 x7)) z1)), (7, .int x7), (4, .int x4), (2, .int o2), (0, .ref (gz G + 0)), (1, .int z1)]) rfl ?_
              refine am_iload dX6_bestDye_162 3 rfl ?_
              refine am_istore dX6_bestDye_164 (by decide) (lv' := [(4, .int r39.1), (3, .int x7), (9, .int 1), (6, .int (fX5_matchSet (upR (y.2.2.1 2) 12 (fX6_put 14 ((y.2.2.1 2).2 12) z1 x7)) z1)), (5, .int r39.1), (8, .int (fX5_matchSet (upR (y.2.2.1 2) 12 (fX6_put 14 ((y.2.2.1 2).2 12) z1 x7)) z1)), (7, .int x7), (2, .int o2), (0, .ref (gz G + 0)), (1, .int z1)]) rfl ?_
              refine am_iinc (v := (x7 + 1)) dX6_bestDye_166 6 rfl rfl (by decide) (lv' := [(7, .int (x7 + 1)), (4, .int r39.1), (3, .int x7), (9, .int 1), (6, .int (fX5_matchSet (upR (y.2.2.1 2) 12 (fX6_put 14 ((y.2.2.1 2).2 12) z1 x7)) z1)), (5, .int r39.1), (8, .int (fX5_matchSet (upR (y.2.2.1 2) 12 (fX6_put 14 ((y.2.2.1 2).2 12) z1 x7)) z1)), (2, .int o2), (0, .ref (gz G + 0)), (1, .int z1)]) rfl ?_
              refine am_goto dX6_bestDye_169 (by decide : ((169 : Nat) : Int) + (-107) = ((62 : Nat) : Int)) ?_
              refine am_lv (lv' := [(7, .int (x7 + 1)), (6, .int (fX5_matchSet (upR (y.2.2.1 2) 12 (fX6_put 14 ((y.2.2.1 2).2 12) z1 x7)) z1)), (5, .int r39.1), (4, .int r39.1), (3, .int x7), (2, .int o2), (0, .ref (gz G + 0)), (1, .int z1)]) [0, 4, 5, 1, 2, 7, 8, 9] rfl ?_
              exact ih (x7 + 1) (fX5_matchSet (upR (y.2.2.1 2) 12 (fX6_put 14 ((y.2.2.1 2).2 12) z1 x7)) z1) r39.1 r39.1 x7 r39.2 (ivL_s c20 (by decide) iv) w41  (fun h1 r e => kx h1 r (Eq.trans (Eq.trans (if_neg c20) (Eq.trans (if_neg c28) (bnd_eq e40 (Eq.trans (if_neg c42) (Eq.trans (if_neg c46) (Eq.trans (if_pos c47) (rfl))))))) e))
def fX6_bestDye (w : Wd) (z1 : Int32) : Int32 × Wd := (if (fX6_isPiece w z1) = 0 then ((-2), w) else (if (fX5_isBoarded (w.2.2.1 1) z1) = 0 then ((-6), w) else (bnd (fX5_copyFrom (w.2.2.1 2) (w.2.2.1 1) ) (fun r12 => (bnd (fX6_bestDye_62 z1 (fX6_at 14 ((w.2.2.1 1).2 12) z1)  (fuL 255 0) 0 (-1) 0 (-1) (fX6_at 14 ((w.2.2.1 1).2 12) z1) (wP w 2 r12)) (fun r49 => (r49.2.2.2.2.1, r49.2.2.2.2.2)))))))
set_option maxRecDepth 20000 in
theorem ctX6_bestDye {l : Launch} {G : GM} {K : Nat → Option va_E} {h : List va_E} {w : Wd} (hw : HW G K h w) (z1 : Int32) : Ct l G mX6_bestDye 19 0 0 [.ref (gz G + 0), .int z1] h (fun v h1 => ∃ r, (fX6_bestDye w z1) = r ∧ v = some (.int r.1) ∧ HW G K h1 r.2) := by
  show Tr l G mX6_bestDye 19 0 0 0 [(0, .ref (gz G + 0)), (1, .int z1)] [] h _
  refine am_aload_n dX6_bestDye_0 0 rfl ?_
  refine am_iload_n dX6_bestDye_1 1 rfl ?_
  refine am_callV (As := [.int z1]) (rest := []) dX6_bestDye_2 kMX6_138 rfl (hwc0 (w := w) hw) rfl rfl (Nat.le_of_ble_eq_true rfl) (d2 := 0) (by decide) (k2 := 0) (Nat.zero_le _) (u2 := 0) (Nat.zero_le _) (Nat.le_of_ble_eq_true rfl) (ctX6_isPiece (w := w) hw z1) (fun v1 h2 q3 => ?_)
  obtain ⟨rfl, rfl⟩ := q3
  refine am_if_ne dX6_bestDye_5 (by decide : ((5 : Nat) : Int) + (6) = ((11 : Nat) : Int)) (fun c4 => ?_) (fun c4 => ?_)
  · refine am_aload_n dX6_bestDye_11 0 rfl ?_
    refine am_get (v := .ref (gz G + 21)) dX6_bestDye_12 kGX6_33 (hwc0 (w := w) hw) rfl ?_
    refine am_iload_n dX6_bestDye_15 1 rfl ?_
    refine am_callV (As := [.int z1]) (rest := []) dX6_bestDye_16 kMX6_200 rfl (pl_0 (p := (w.2.2.1 1)) (hwP1 (w := w) hw)) rfl rfl (Nat.le_of_ble_eq_true rfl) (d2 := 1) (by decide) (k2 := 0) (Nat.zero_le _) (u2 := 0) (Nat.zero_le _) (Nat.le_of_ble_eq_true rfl) (ctX5_isBoarded (p := (w.2.2.1 1)) (hwP1 (w := w) hw) z1) (fun v5 h6 q7 => ?_)
    obtain ⟨rfl, rfl⟩ := q7
    refine am_if_ne dX6_bestDye_19 (by decide : ((19 : Nat) : Int) + (6) = ((25 : Nat) : Int)) (fun c8 => ?_) (fun c8 => ?_)
    · refine am_aload_n dX6_bestDye_25 0 rfl ?_
      refine am_get (v := .ref (gz G + 37)) dX6_bestDye_26 kGX6_37 (hwc0 (w := w) hw) rfl ?_
      refine am_aload_n dX6_bestDye_29 0 rfl ?_
      refine am_get (v := .ref (gz G + 21)) dX6_bestDye_30 kGX6_33 (hwc0 (w := w) hw) rfl ?_
      refine am_callV (As := [.ref (gz G + 21)]) (rest := []) dX6_bestDye_33 kMX6_79 rfl (pl_0 (p := (w.2.2.1 2)) (hwP2 (w := w) hw)) rfl rfl (Nat.le_of_ble_eq_true rfl) (d2 := 3) (by decide) (k2 := 0) (Nat.zero_le _) (u2 := 0) (Nat.zero_le _) (Nat.le_of_ble_eq_true rfl) (ctX5_copyFrom (p := (w.2.2.1 2)) (hwP2 (w := w) hw) (p2 := (w.2.2.1 1)) (hwP1 (w := w) hw) (by decide) ) (fun v9 h10 q11 => ?_)
      obtain ⟨r12, e13, rfl, w14, w15⟩ := q11
      have w16 := hwPu hw (i := 2) (by decide) w14 w15
      refine am_aload_n dX6_bestDye_36 0 rfl ?_
      refine am_get (v := .ref (gz G + 21)) dX6_bestDye_37 kGX6_33 (hwc0 (w := (wP w 2 r12)) w16) rfl ?_
      refine am_get (v := .ref (gz G + 35)) dX6_bestDye_40 kGX6_151 (pl_0 (p := (w.2.2.1 1)) (hwP1 (w := (wP w 2 r12)) w16)) rfl ?_
      refine am_iload_n dX6_bestDye_43 1 rfl ?_
      refine am_callS (As := [.ref (gz G + 35), .int z1]) (rest := []) dX6_bestDye_44 kMX6_144 rfl  rfl (Nat.le_of_ble_eq_true rfl) (d2 := 0) (by decide) (k2 := 0) (Nat.zero_le _) (u2 := 0) (Nat.zero_le _) (Nat.le_of_ble_eq_true rfl) (ctX6_at (f := ((w.2.2.1 1).2 12)) (pl_r12 (p := (w.2.2.1 1)) (hwP1 (w := (wP w 2 r12)) w16)) (by decide) z1 ) (fun v17 h18 q19 => ?_)
      obtain ⟨rfl, rfl⟩ := q19
      refine am_istore_n dX6_bestDye_47 (by decide) (lv' := [(2, .int (fX6_at 14 ((w.2.2.1 1).2 12) z1)), (0, .ref (gz G + 0)), (1, .int z1)]) rfl ?_
      refine am_iload_n dX6_bestDye_48 0 rfl ?_
      refine am_istore_n dX6_bestDye_49 (by decide) (lv' := [(3, .int (fX6_at 14 ((w.2.2.1 1).2 12) z1)), (2, .int (fX6_at 14 ((w.2.2.1 1).2 12) z1)), (0, .ref (gz G + 0)), (1, .int z1)]) rfl ?_
      refine am_iconst (v := (-1)) dX6_bestDye_50 (by decide) ?_
      refine am_istore dX6_bestDye_51 (by decide) (lv' := [(4, .int (-1)), (3, .int (fX6_at 14 ((w.2.2.1 1).2 12) z1)), (2, .int (fX6_at 14 ((w.2.2.1 1).2 12) z1)), (0, .ref (gz G + 0)), (1, .int z1)]) rfl ?_
      refine am_iconst (v := 0) dX6_bestDye_53 (by decide) ?_
      refine am_istore dX6_bestDye_54 (by decide) (lv' := [(5, .int 0), (4, .int (-1)), (3, .int (fX6_at 14 ((w.2.2.1 1).2 12) z1)), (2, .int (fX6_at 14 ((w.2.2.1 1).2 12) z1)), (0, .ref (gz G + 0)), (1, .int z1)]) rfl ?_
      refine am_iconst (v := (-1)) dX6_bestDye_56 (by decide) ?_
      refine am_istore dX6_bestDye_57 (by decide) (lv' := [(6, .int (-1)), (5, .int 0), (4, .int (-1)), (3, .int (fX6_at 14 ((w.2.2.1 1).2 12) z1)), (2, .int (fX6_at 14 ((w.2.2.1 1).2 12) z1)), (0, .ref (gz G + 0)), (1, .int z1)]) rfl ?_
      refine am_iconst (v := 0) dX6_bestDye_59 (by decide) ?_
      refine am_istore dX6_bestDye_60 (by decide) (lv' := [(7, .int 0), (6, .int (-1)), (5, .int 0), (4, .int (-1)), (3, .int (fX6_at 14 ((w.2.2.1 1).2 12) z1)), (2, .int (fX6_at 14 ((w.2.2.1 1).2 12) z1)), (0, .ref (gz G + 0)), (1, .int z1)]) rfl ?_
      refine wX6_bestDye_62 z1 (fX6_at 14 ((w.2.2.1 1).2 12) z1)  (fuL 255 0) 0 (-1) 0 (-1) (fX6_at 14 ((w.2.2.1 1).2 12) z1) (wP w 2 r12) ivL_i w16  (fun h51 r49 e50 w52  => ?_)
      refine am_iload_n dX6_bestDye_172 4 rfl ?_
      exact am_ireturn dX6_bestDye_173 rfl rfl ⟨_, Eq.trans (if_neg c4) (Eq.trans (if_neg c8) (bnd_eq e13 (bnd_eq e50 (rfl)))), rfl, w52⟩
    · refine am_bipush (v := (-6)) dX6_bestDye_22 (by decide) ?_
      exact am_ireturn dX6_bestDye_24 rfl rfl ⟨_, Eq.trans (if_neg c4) (Eq.trans (if_pos c8) (rfl)), rfl, hw⟩
  · refine am_bipush (v := (-2)) dX6_bestDye_8 (by decide) ?_
    exact am_ireturn dX6_bestDye_10 rfl rfl ⟨_, Eq.trans (if_pos c4) (rfl), rfl, hw⟩
