/-! Pairing, matching (by program). -/
theorem dX3_dissolve_0 : decode cX3_dissolve 0 = .ok (.aload_n 0, 1) := by decide +kernel
theorem dX3_dissolve_1 : decode cX3_dissolve 1 = .ok (.iconst 0, 1) := by decide +kernel
theorem dX3_dissolve_2 : decode cX3_dissolve 2 = .ok (.putfield 15, 3) := by decide +kernel
theorem dX3_dissolve_5 : decode cX3_dissolve 5 = .ok (.aload_n 0, 1) := by decide +kernel
theorem dX3_dissolve_6 : decode cX3_dissolve 6 = .ok (.iconst 0, 1) := by decide +kernel
theorem dX3_dissolve_7 : decode cX3_dissolve 7 = .ok (.putfield 19, 3) := by decide +kernel
theorem dX3_dissolve_10 : decode cX3_dissolve 10 = .ok (.iconst 0, 1) := by decide +kernel
theorem dX3_dissolve_11 : decode cX3_dissolve 11 = .ok (.istore_n 1, 1) := by decide +kernel
theorem dX3_dissolve_12 : decode cX3_dissolve 12 = .ok (.iload_n 1, 1) := by decide +kernel
theorem dX3_dissolve_13 : decode cX3_dissolve 13 = .ok (.bipush 14, 2) := by decide +kernel
theorem dX3_dissolve_15 : decode cX3_dissolve 15 = .ok (.if_icmp .ge 18, 3) := by decide +kernel
theorem dX3_dissolve_18 : decode cX3_dissolve 18 = .ok (.aload_n 0, 1) := by decide +kernel
theorem dX3_dissolve_19 : decode cX3_dissolve 19 = .ok (.getfield 9, 3) := by decide +kernel
theorem dX3_dissolve_22 : decode cX3_dissolve 22 = .ok (.iload_n 1, 1) := by decide +kernel
theorem dX3_dissolve_23 : decode cX3_dissolve 23 = .ok (.iconst (-1), 1) := by decide +kernel
theorem dX3_dissolve_24 : decode cX3_dissolve 24 = .ok (.invokestatic 22, 3) := by decide +kernel
theorem dX3_dissolve_27 : decode cX3_dissolve 27 = .ok (.iinc 1 1, 3) := by decide +kernel
theorem dX3_dissolve_30 : decode cX3_dissolve 30 = .ok (.goto (-18), 3) := by decide +kernel
theorem dX3_dissolve_33 : decode cX3_dissolve 33 = .ok (.return_, 1) := by decide +kernel
def fX3_dissolve_12  : Nat → Int32 → Wd → Int32 × Wd
  | 0, x1, y => (x1, y)
  | fu + 1, x1, y => (if 14 ≤ x1 then (x1, y) else (fX3_dissolve_12   fu (x1 + 1) (wA y 3 (fX6_put 14 (y.2.1 3) x1 (-1)))))
set_option maxRecDepth 20000 in
theorem wX3_dissolve_12 {l : Launch} {G : GM} {K : Nat → Option va_E}  {Q : Option Value → List va_E → Prop} : ∀ (fu : Nat) (x1 : Int32) (y : Wd) (iv : ivU 14 x1 fu) {h : List va_E} (gy : HW G K h y) (kx : ∀ (h1 : List va_E) (r : Int32 × Wd), (fX3_dissolve_12   fu x1 y) = r → HW G K h1 r.2 → Tr l G mX3_dissolve 1 0 0 33 [(1, .int r.1), (0, .ref (gz G + 219))] [] h1 Q), Tr l G mX3_dissolve 1 0 0 12 [(1, .int x1), (0, .ref (gz G + 219))] [] h Q := by
  intro fu
  induction fu with
  | zero => intro x1 y iv; intros; exact absurd iv ivU_0
  | succ fu ih =>
    intro x1 y iv  h gy  kx
    refine am_iload_n dX3_dissolve_12 0 rfl ?_
    refine am_bipush (v := 14) dX3_dissolve_13 (by decide) ?_
    refine am_icmp_ge dX3_dissolve_15 (by decide : ((15 : Nat) : Int) + (18) = ((33 : Nat) : Int)) (fun c3 => ?_) (fun c3 => ?_)
    · exact kx _ _ (Eq.trans (if_pos c3) (rfl)) gy 
    · refine am_aload_n dX3_dissolve_18 1 rfl ?_
      refine am_get (v := .ref (gz G + 220)) dX3_dissolve_19 kGX3_9 (hwc219 gy) rfl ?_
      refine am_iload_n dX3_dissolve_22 0 rfl ?_
      refine am_iconst (v := (-1)) dX3_dissolve_23 (by decide) ?_
      refine am_callSN (As := [.ref (gz G + 220), .int x1, .int (-1)]) (rest := []) dX3_dissolve_24 kMX3_22 rfl  rfl (Nat.le_of_ble_eq_true rfl) (d2 := 0) (by decide) (k2 := 0) (Nat.zero_le _) (u2 := 0) (Nat.zero_le _) (Nat.le_of_ble_eq_true rfl) (ctX6_put (f := (y.2.1 3)) (hwc220 gy) (by decide) x1 (-1)) (fun v4 h5 q6 => ?_)
      obtain ⟨rfl, rfl⟩ := q6
      have w7 := hwA3 gy (fX6_put 14 (y.2.1 3) x1 (-1))
      refine am_iinc (v := (x1 + 1)) dX3_dissolve_27 0 rfl rfl (by decide) (lv' := [(1, .int (x1 + 1)), (0, .ref (gz G + 219))]) rfl ?_
      refine am_goto dX3_dissolve_30 (by decide : ((30 : Nat) : Int) + (-18) = ((12 : Nat) : Int)) ?_
      exact ih (x1 + 1) (wA y 3 (fX6_put 14 (y.2.1 3) x1 (-1))) (ivU_s c3 iv) w7  (fun h1 r e => kx h1 r (Eq.trans (Eq.trans (if_neg c3) (rfl)) e))
def fX3_dissolve (w : Wd)  : Wd := (bnd (fX3_dissolve_12   (fuU 14 0) 0 (wS (wS w 14 0) 15 0)) (fun r8 => r8.2))
set_option maxRecDepth 20000 in
theorem ctX3_dissolve {l : Launch} {G : GM} {K : Nat → Option va_E} {h : List va_E} {w : Wd} (hw : HW G K h w)  : Ct l G mX3_dissolve 1 0 0 [.ref (gz G + 219)] h (fun v h1 => ∃ r, (fX3_dissolve w ) = r ∧ v = none ∧ HW G K h1 r) := by
  show Tr l G mX3_dissolve 1 0 0 0 [(0, .ref (gz G + 219))] [] h _
  refine am_aload_n dX3_dissolve_0 0 rfl ?_
  refine am_iconst (v := 0) dX3_dissolve_1 (by decide) ?_
  refine am_put dX3_dissolve_2 kFX3_15 (hwc219 hw) (Nat.le_of_ble_eq_true rfl) rfl rfl ?_
  have w1 := hwS14 hw 0
  refine am_aload_n dX3_dissolve_5 0 rfl ?_
  refine am_iconst (v := 0) dX3_dissolve_6 (by decide) ?_
  refine am_put dX3_dissolve_7 kFX3_19 (hwc219 w1) (Nat.le_of_ble_eq_true rfl) rfl rfl ?_
  have w2 := hwS15 w1 0
  refine am_iconst (v := 0) dX3_dissolve_10 (by decide) ?_
  refine am_istore_n dX3_dissolve_11 (by decide) (lv' := [(1, .int 0), (0, .ref (gz G + 219))]) rfl ?_
  refine wX3_dissolve_12  (fuU 14 0) 0 (wS (wS w 14 0) 15 0) ivU_i w2  (fun h10 r8 e9 w11  => ?_)
  exact am_return dX3_dissolve_33 rfl ⟨_, bnd_eq e9 (rfl), rfl, w11⟩

theorem dX3_join_0 : decode cX3_join 0 = .ok (.aload_n 0, 1) := by decide +kernel
theorem dX3_join_1 : decode cX3_join 1 = .ok (.getfield 9, 3) := by decide +kernel
theorem dX3_join_4 : decode cX3_join 4 = .ok (.iload_n 1, 1) := by decide +kernel
theorem dX3_join_5 : decode cX3_join 5 = .ok (.iload_n 2, 1) := by decide +kernel
theorem dX3_join_6 : decode cX3_join 6 = .ok (.invokestatic 22, 3) := by decide +kernel
theorem dX3_join_9 : decode cX3_join 9 = .ok (.aload_n 0, 1) := by decide +kernel
theorem dX3_join_10 : decode cX3_join 10 = .ok (.getfield 9, 3) := by decide +kernel
theorem dX3_join_13 : decode cX3_join 13 = .ok (.iload_n 2, 1) := by decide +kernel
theorem dX3_join_14 : decode cX3_join 14 = .ok (.iload_n 1, 1) := by decide +kernel
theorem dX3_join_15 : decode cX3_join 15 = .ok (.invokestatic 22, 3) := by decide +kernel
theorem dX3_join_18 : decode cX3_join 18 = .ok (.aload_n 0, 1) := by decide +kernel
theorem dX3_join_19 : decode cX3_join 19 = .ok (.dup, 1) := by decide +kernel
theorem dX3_join_20 : decode cX3_join 20 = .ok (.getfield 15, 3) := by decide +kernel
theorem dX3_join_23 : decode cX3_join 23 = .ok (.iconst 1, 1) := by decide +kernel
theorem dX3_join_24 : decode cX3_join 24 = .ok (.iadd, 1) := by decide +kernel
theorem dX3_join_25 : decode cX3_join 25 = .ok (.putfield 15, 3) := by decide +kernel
theorem dX3_join_28 : decode cX3_join 28 = .ok (.aload_n 0, 1) := by decide +kernel
theorem dX3_join_29 : decode cX3_join 29 = .ok (.dup, 1) := by decide +kernel
theorem dX3_join_30 : decode cX3_join 30 = .ok (.getfield 19, 3) := by decide +kernel
theorem dX3_join_33 : decode cX3_join 33 = .ok (.iload_n 3, 1) := by decide +kernel
theorem dX3_join_34 : decode cX3_join 34 = .ok (.iadd, 1) := by decide +kernel
theorem dX3_join_35 : decode cX3_join 35 = .ok (.putfield 19, 3) := by decide +kernel
theorem dX3_join_38 : decode cX3_join 38 = .ok (.return_, 1) := by decide +kernel
def fX3_join (w : Wd) (z1 : Int32) (z2 : Int32) (z3 : Int32) : Wd := (bnd (wS (wS (wA (wA w 3 (fX6_put 14 (w.2.1 3) z1 z2)) 3 (fX6_put 14 (fX6_put 14 (w.2.1 3) z1 z2) z2 z1)) 14 ((w.1 14) + 1)) 15 ((w.1 15) + z3)) (fun r11 => r11))
set_option maxRecDepth 20000 in
theorem ctX3_join {l : Launch} {G : GM} {K : Nat → Option va_E} {h : List va_E} {w : Wd} (hw : HW G K h w) (z1 : Int32) (z2 : Int32) (z3 : Int32) : Ct l G mX3_join 1 0 0 [.ref (gz G + 219), .int z1, .int z2, .int z3] h (fun v h1 => ∃ r, (fX3_join w z1 z2 z3) = r ∧ v = none ∧ HW G K h1 r) := by
  show Tr l G mX3_join 1 0 0 0 [(0, .ref (gz G + 219)), (1, .int z1), (2, .int z2), (3, .int z3)] [] h _
  refine am_aload_n dX3_join_0 0 rfl ?_
  refine am_get (v := .ref (gz G + 220)) dX3_join_1 kGX3_9 (hwc219 hw) rfl ?_
  refine am_iload_n dX3_join_4 1 rfl ?_
  refine am_iload_n dX3_join_5 2 rfl ?_
  refine am_callSN (As := [.ref (gz G + 220), .int z1, .int z2]) (rest := []) dX3_join_6 kMX3_22 rfl  rfl (Nat.le_of_ble_eq_true rfl) (d2 := 0) (by decide) (k2 := 0) (Nat.zero_le _) (u2 := 0) (Nat.zero_le _) (Nat.le_of_ble_eq_true rfl) (ctX6_put (f := (w.2.1 3)) (hwc220 hw) (by decide) z1 z2) (fun v1 h2 q3 => ?_)
  obtain ⟨rfl, rfl⟩ := q3
  have w4 := hwA3 hw (fX6_put 14 (w.2.1 3) z1 z2)
  refine am_aload_n dX3_join_9 0 rfl ?_
  refine am_get (v := .ref (gz G + 220)) dX3_join_10 kGX3_9 (hwc219 w4) rfl ?_
  refine am_iload_n dX3_join_13 2 rfl ?_
  refine am_iload_n dX3_join_14 1 rfl ?_
  refine am_callSN (As := [.ref (gz G + 220), .int z2, .int z1]) (rest := []) dX3_join_15 kMX3_22 rfl  rfl (Nat.le_of_ble_eq_true rfl) (d2 := 0) (by decide) (k2 := 0) (Nat.zero_le _) (u2 := 0) (Nat.zero_le _) (Nat.le_of_ble_eq_true rfl) (ctX6_put (f := (fX6_put 14 (w.2.1 3) z1 z2)) (hwc220 w4) (by decide) z2 z1) (fun v5 h6 q7 => ?_)
  obtain ⟨rfl, rfl⟩ := q7
  have w8 := hwA3 w4 (fX6_put 14 (fX6_put 14 (w.2.1 3) z1 z2) z2 z1)
  refine am_aload_n dX3_join_18 0 rfl ?_
  refine am_dup dX3_join_19 rfl ?_
  refine am_get (v := .int (w.1 14)) dX3_join_20 kGX3_15 (hwc219 w8) rfl ?_
  refine am_iconst (v := 1) dX3_join_23 (by decide) ?_
  refine am_iadd dX3_join_24 ?_
  refine am_put dX3_join_25 kFX3_15 (hwc219 w8) (Nat.le_of_ble_eq_true rfl) rfl rfl ?_
  have w9 := hwS14 w8 ((w.1 14) + 1)
  refine am_aload_n dX3_join_28 0 rfl ?_
  refine am_dup dX3_join_29 rfl ?_
  refine am_get (v := .int (w.1 15)) dX3_join_30 kGX3_19 (hwc219 w9) rfl ?_
  refine am_iload_n dX3_join_33 3 rfl ?_
  refine am_iadd dX3_join_34 ?_
  refine am_put dX3_join_35 kFX3_19 (hwc219 w9) (Nat.le_of_ble_eq_true rfl) rfl rfl ?_
  have w10 := hwS15 w9 ((w.1 15) + z3)
  obtain ⟨r11, e12⟩ : ∃ x, (wS (wS (wA (wA w 3 (fX6_put 14 (w.2.1 3) z1 z2)) 3 (fX6_put 14 (fX6_put 14 (w.2.1 3) z1 z2) z2 z1)) 14 ((w.1 14) + 1)) 15 ((w.1 15) + z3)) = x := ⟨_, rfl⟩
  have w13 := hw_eq e12 w10
  exact am_return dX3_join_38 rfl ⟨_, bnd_eq e12 (rfl), rfl, w13⟩

theorem dX3_lowerOf_0 : decode cX3_lowerOf 0 = .ok (.iconst 0, 1) := by decide +kernel
theorem dX3_lowerOf_1 : decode cX3_lowerOf 1 = .ok (.istore_n 2, 1) := by decide +kernel
theorem dX3_lowerOf_2 : decode cX3_lowerOf 2 = .ok (.iconst 0, 1) := by decide +kernel
theorem dX3_lowerOf_3 : decode cX3_lowerOf 3 = .ok (.istore_n 3, 1) := by decide +kernel
theorem dX3_lowerOf_4 : decode cX3_lowerOf 4 = .ok (.iload_n 3, 1) := by decide +kernel
theorem dX3_lowerOf_5 : decode cX3_lowerOf 5 = .ok (.bipush 14, 2) := by decide +kernel
theorem dX3_lowerOf_7 : decode cX3_lowerOf 7 = .ok (.if_icmp .ge 31, 3) := by decide +kernel
theorem dX3_lowerOf_10 : decode cX3_lowerOf 10 = .ok (.aload_n 0, 1) := by decide +kernel
theorem dX3_lowerOf_11 : decode cX3_lowerOf 11 = .ok (.getfield 9, 3) := by decide +kernel
theorem dX3_lowerOf_14 : decode cX3_lowerOf 14 = .ok (.iload_n 3, 1) := by decide +kernel
theorem dX3_lowerOf_15 : decode cX3_lowerOf 15 = .ok (.invokestatic 26, 3) := by decide +kernel
theorem dX3_lowerOf_18 : decode cX3_lowerOf 18 = .ok (.iload_n 3, 1) := by decide +kernel
theorem dX3_lowerOf_19 : decode cX3_lowerOf 19 = .ok (.if_icmp .le 13, 3) := by decide +kernel
theorem dX3_lowerOf_22 : decode cX3_lowerOf 22 = .ok (.iload_n 2, 1) := by decide +kernel
theorem dX3_lowerOf_23 : decode cX3_lowerOf 23 = .ok (.iload_n 1, 1) := by decide +kernel
theorem dX3_lowerOf_24 : decode cX3_lowerOf 24 = .ok (.if_icmp .ne 5, 3) := by decide +kernel
theorem dX3_lowerOf_27 : decode cX3_lowerOf 27 = .ok (.iload_n 3, 1) := by decide +kernel
theorem dX3_lowerOf_28 : decode cX3_lowerOf 28 = .ok (.ireturn, 1) := by decide +kernel
theorem dX3_lowerOf_29 : decode cX3_lowerOf 29 = .ok (.iinc 2 1, 3) := by decide +kernel
theorem dX3_lowerOf_32 : decode cX3_lowerOf 32 = .ok (.iinc 3 1, 3) := by decide +kernel
theorem dX3_lowerOf_35 : decode cX3_lowerOf 35 = .ok (.goto (-31), 3) := by decide +kernel
theorem dX3_lowerOf_38 : decode cX3_lowerOf 38 = .ok (.iconst (-1), 1) := by decide +kernel
theorem dX3_lowerOf_39 : decode cX3_lowerOf 39 = .ok (.ireturn, 1) := by decide +kernel
def fX3_lowerOf_4 (z1 : Int32) (w : Wd) : Nat → Int32 → Int32 → Int32
  | 0, _, _ => 0
  | fu + 1, x3, x2 => (if 14 ≤ x3 then (-1) else (if (fX6_at 14 (w.2.1 3) x3) ≤ x3 then (fX3_lowerOf_4 z1 w fu (x3 + 1) x2 ) else (if x2 = z1 then x3 else (fX3_lowerOf_4 z1 w fu (x3 + 1) (x2 + 1) ))))
set_option maxRecDepth 20000 in
theorem wX3_lowerOf_4 {l : Launch} {G : GM} {K : Nat → Option va_E} (z1 : Int32) {h : List va_E} {w : Wd} (hw : HW G K h w) : ∀ (fu : Nat) (x3 x2 : Int32) (iv : ivU 14 x3 fu), Tr l G mX3_lowerOf 1 0 0 4 [(3, .int x3), (2, .int x2), (0, .ref (gz G + 219)), (1, .int z1)] [] h (fun v h1 => v = some (.int (fX3_lowerOf_4 z1 w fu x3 x2 )) ∧ h1 = h) := by
  intro fu
  induction fu with
  | zero => intro x3 x2 iv; intros; exact absurd iv ivU_0
  | succ fu ih =>
    intro x3 x2 iv    
    refine am_iload_n dX3_lowerOf_4 0 rfl ?_
    refine am_bipush (v := 14) dX3_lowerOf_5 (by decide) ?_
    refine am_icmp_ge dX3_lowerOf_7 (by decide : ((7 : Nat) : Int) + (31) = ((38 : Nat) : Int)) (fun c1 => ?_) (fun c1 => ?_)
    · refine am_iconst (v := (-1)) dX3_lowerOf_38 (by decide) ?_
      rw [show (fX3_lowerOf_4 z1 w (fu + 1) x3 x2 ) = (-1) from Eq.trans (if_pos c1) (rfl)]
      exact am_ireturn dX3_lowerOf_39 rfl rfl ⟨rfl, rfl⟩
    · refine am_aload_n dX3_lowerOf_10 2 rfl ?_
      refine am_get (v := .ref (gz G + 220)) dX3_lowerOf_11 kGX3_9 (hwc219 hw) rfl ?_
      refine am_iload_n dX3_lowerOf_14 0 rfl ?_
      refine am_callSN (As := [.ref (gz G + 220), .int x3]) (rest := []) dX3_lowerOf_15 kMX3_26 rfl  rfl (Nat.le_of_ble_eq_true rfl) (d2 := 0) (by decide) (k2 := 0) (Nat.zero_le _) (u2 := 0) (Nat.zero_le _) (Nat.le_of_ble_eq_true rfl) (ctX6_at (f := (w.2.1 3)) (hwc220 hw) (by decide) x3) (fun v2 h3 q4 => ?_)
      obtain ⟨rfl, rfl⟩ := q4
      refine am_iload_n dX3_lowerOf_18 0 rfl ?_
      refine am_icmp_le dX3_lowerOf_19 (by decide : ((19 : Nat) : Int) + (13) = ((32 : Nat) : Int)) (fun c5 => ?_) (fun c5 => ?_)
      · refine am_iinc (v := (x3 + 1)) dX3_lowerOf_32 0 rfl rfl (by decide) (lv' := [(3, .int (x3 + 1)), (2, .int x2), (0, .ref (gz G + 219)), (1, .int z1)]) rfl ?_
        refine am_goto dX3_lowerOf_35 (by decide : ((35 : Nat) : Int) + (-31) = ((4 : Nat) : Int)) ?_
        rw [show (fX3_lowerOf_4 z1 w (fu + 1) x3 x2 ) = (fX3_lowerOf_4 z1 w fu (x3 + 1) x2 ) from Eq.trans (if_neg c1) (Eq.trans (if_pos c5) (rfl))]
        exact ih (x3 + 1) x2 (ivU_s c1 iv) 
      · refine am_iload_n dX3_lowerOf_22 1 rfl ?_
        refine am_iload_n dX3_lowerOf_23 3 rfl ?_
        refine am_icmp_ne dX3_lowerOf_24 (by decide : ((24 : Nat) : Int) + (5) = ((29 : Nat) : Int)) (fun c6 => ?_) (fun c6 => ?_)
        · refine am_iinc (v := (x2 + 1)) dX3_lowerOf_29 1 rfl rfl (by decide) (lv' := [(2, .int (x2 + 1)), (3, .int x3), (0, .ref (gz G + 219)), (1, .int z1)]) rfl ?_
          refine am_iinc (v := (x3 + 1)) dX3_lowerOf_32 1 rfl rfl (by decide) (lv' := [(3, .int (x3 + 1)), (2, .int (x2 + 1)), (0, .ref (gz G + 219)), (1, .int z1)]) rfl ?_
          refine am_goto dX3_lowerOf_35 (by decide : ((35 : Nat) : Int) + (-31) = ((4 : Nat) : Int)) ?_
          rw [show (fX3_lowerOf_4 z1 w (fu + 1) x3 x2 ) = (fX3_lowerOf_4 z1 w fu (x3 + 1) (x2 + 1) ) from Eq.trans (if_neg c1) (Eq.trans (if_neg c5) (Eq.trans (if_neg c6) (rfl)))]
          exact ih (x3 + 1) (x2 + 1) (ivU_s c1 iv) 
        · refine am_iload_n dX3_lowerOf_27 0 rfl ?_
          rw [show (fX3_lowerOf_4 z1 w (fu + 1) x3 x2 ) = x3 from Eq.trans (if_neg c1) (Eq.trans (if_neg c5) (Eq.trans (if_pos c6) (rfl)))]
          exact am_ireturn dX3_lowerOf_28 rfl rfl ⟨rfl, rfl⟩
def fX3_lowerOf (w : Wd) (z1 : Int32) : Int32 := (fX3_lowerOf_4 z1 w (fuU 14 0) 0 0 )
set_option maxRecDepth 20000 in
theorem ctX3_lowerOf {l : Launch} {G : GM} {K : Nat → Option va_E} {h : List va_E} {w : Wd} (hw : HW G K h w) (z1 : Int32) : Ct l G mX3_lowerOf 1 0 0 [.ref (gz G + 219), .int z1] h (fun v h1 => v = some (.int (fX3_lowerOf w z1)) ∧ h1 = h) := by
  show Tr l G mX3_lowerOf 1 0 0 0 [(0, .ref (gz G + 219)), (1, .int z1)] [] h _
  refine am_iconst (v := 0) dX3_lowerOf_0 (by decide) ?_
  refine am_istore_n dX3_lowerOf_1 (by decide) (lv' := [(2, .int 0), (0, .ref (gz G + 219)), (1, .int z1)]) rfl ?_
  refine am_iconst (v := 0) dX3_lowerOf_2 (by decide) ?_
  refine am_istore_n dX3_lowerOf_3 (by decide) (lv' := [(3, .int 0), (2, .int 0), (0, .ref (gz G + 219)), (1, .int z1)]) rfl ?_
  rw [show (fX3_lowerOf w z1) = (fX3_lowerOf_4 z1 w (fuU 14 0) 0 0 ) from rfl]
  exact wX3_lowerOf_4 z1 hw (fuU 14 0) 0 0 ivU_i
